def by_X8_takeHeld_75 (n : Nat) (o0 : Nat)  (Qy : Yc → Prop) (p1 : Int32) (Y : Yc) : Prop := (∀ x3 : Int32, x3 = yI Y 502 o0 → ((x3 = 0 → Qy Y) ∧ (¬ x3 = 0 → (wy_X2_isFull n o0  Y (fun (x12 : Int32) (Y9 : Yc) => ((x12 = 0 → (∀ x18 : Int32, x18 = yI Y9 408 0 → ((p1 = 0 → (∀ x23 : Int32, x23 = yI (uI Y9 812 o0 x18) 800 o0 → (∀ y26 : Int64, y26 = yJ (uI Y9 812 o0 x18) 805 o0 → (wy_X4_leaderOf n y26 (uI Y9 812 o0 x18) (fun (x32 : Int32) (Y29 : Yc) => (∀ y35 : Int64, y35 = yJ Y29 805 o0 → (∀ x39 : Int32, x39 = yI Y29 201 o0 → (wy_X4_send n (1 : Int32) x23 x32 y35 (x39 + (1 : Int32)) Y29 (fun (o45 : Nat) (Y42 : Yc) => Qy Y42))))))))) ∧ (¬ p1 = 0 → (wy_X2_add n o0 none (uI Y9 812 o0 x18) (fun (Y51 : Yc) => (∀ x63 : Int32, x63 = yI (uI (uI Y51 804 o0 (1 : Int32)) 503 o0 (0 : Int32)) 201 o0 → (wy_X8_sendOthers n o0 (3 : Int32) x63 (uI (uI Y51 804 o0 (1 : Int32)) 503 o0 (0 : Int32)) (fun (Y66 : Yc) => Qy Y66))))))))) ∧ (¬ x12 = 0 → Qy Y9)))))))
set_option maxHeartbeats 4000000 in
set_option maxRecDepth 100000 in
theorem yb_X8_takeHeld_75 {n : Nat} {ad aa : Nat → Nat → Nat} {σ0 : Sto} {o0 : Nat} (ho0 : Ob n 8 o0) {Q : Sto → Prop} {Qy : Yc → Prop} (hQ : ∀ (σ' : Sto) (Y' : Yc), Qy Y' → HY n ad aa σ' Y' → Fy n ad aa σ0 σ' → Q σ')  (p1 : Int32) (σ : Sto) (Y : Yc) (hR : HY n ad aa σ Y) (F : Fy n ad aa σ0 σ) (h : by_X8_takeHeld_75 n o0  Qy p1 Y) : b_X8_takeHeld_75 (ad 8 o0)  Q p1 σ := by
  unfold by_X8_takeHeld_75 at h
  unfold b_X8_takeHeld_75
  refine ⟨hR.K ho0, ?_⟩
  have a1 : sP σ (ad 8 o0) 10 = some (ad 5 o0) := hR.lk ho0 10 (by decide) rfl
  refine ⟨_, a1, ?_⟩
  refine ⟨hR.K (ob_810 ho0), ?_⟩
  intro x3 e4
  have e4 : x3 = yI Y 502 o0 := e4.trans (hR.I (x := 502) (ob_810 ho0) 2 (by decide) rfl)
  have h := h x3 e4
  refine ⟨fun c5 => ?_, fun c5 => ?_⟩
  · have h := h.1 c5
    exact hQ _ _ h hR F
  · have h := h.2 c5
    have a6 : sP σ (ad 8 o0) 7 = some (ad 2 o0) := hR.lk ho0 7 (by decide) rfl
    refine ⟨_, a6, ?_⟩
    refine ⟨hR.K (ob_807 ho0), ?_⟩
    refine y_X2_isFull hR (ob_807 ho0)  h (fun x12 σ8 Y9 h hR11 f10 => ?_)
    have F := F.trans f10
    have hR := hR11
    refine ⟨fun c15 => ?_, fun c15 => ?_⟩
    · have h := h.1 c15
      refine ⟨hR.K ho0, ?_⟩
      have a16 : sP σ8 (ad 8 o0) 1 = some (ad 4 0) := hR.lk ho0 1 (by decide) rfl
      refine ⟨_, a16, ?_⟩
      refine ⟨hR.K ob_4, ?_⟩
      intro x18 e19
      have e19 : x18 = yI Y9 408 0 := e19.trans (hR.I (x := 408) ob_4 8 (by decide) rfl)
      have h := h x18 e19
      have w20 := hR.wI (x := 812) ho0 12 (by decide) rfl x18
      have F := F.trans w20.2
      have hR := w20.1
      refine ⟨fun c21 => ?_, fun c21 => ?_⟩
      · have h := h.1 c21
        have a22 : sP σ8 (ad 8 o0) 1 = some (ad 4 0) := hR.lk ho0 1 (by decide) rfl
        intro x23 e24
        have e24 : x23 = yI (uI Y9 812 o0 x18) 800 o0 := e24.trans (hR.I (x := 800) ho0 0 (by decide) rfl)
        have h := h x23 e24
        have a25 : sP σ8 (ad 8 o0) 1 = some (ad 4 0) := hR.lk ho0 1 (by decide) rfl
        intro y26 e27
        have e27 : y26 = yJ (uI Y9 812 o0 x18) 805 o0 := e27.trans (hR.J (x := 805) ho0 5 (by decide) rfl)
        have h := h y26 e27
        refine y_X4_leaderOf hR  h (fun x32 σ28 Y29 h hR31 f30 => ?_)
        have F := F.trans f30
        have hR := hR31
        refine ⟨hR.K ho0, ?_⟩
        intro y35 e36
        have e36 : y35 = yJ Y29 805 o0 := e36.trans (hR.J (x := 805) ho0 5 (by decide) rfl)
        have h := h y35 e36
        have a37 : sP σ28 (ad 8 o0) 7 = some (ad 2 o0) := hR.lk ho0 7 (by decide) rfl
        refine ⟨_, a37, ?_⟩
        refine ⟨hR.K (ob_807 ho0), ?_⟩
        intro x39 e40
        have e40 : x39 = yI Y29 201 o0 := e40.trans (hR.I (x := 201) (ob_807 ho0) 1 (by decide) rfl)
        have h := h x39 e40
        refine ⟨hR.K ob_4, ?_⟩
        refine y_X4_send hR  h (fun o45 σ41 Y42 h hO46 hR44 f43 => ?_)
        have F := F.trans f43
        have hR := hR44
        exact hQ _ _ h hR F
      · have h := h.2 c21
        have a48 : sP σ8 (ad 8 o0) 7 = some (ad 2 o0) := hR.lk ho0 7 (by decide) rfl
        refine ⟨_, a48, ?_⟩
        refine ⟨hR.K (ob_807 ho0), ?_⟩
        refine y_X2_add hR (ob_807 ho0) rq_nn h (fun σ50 Y51 h hR53 f52 => ?_)
        have F := F.trans f52
        have hR := hR53
        refine ⟨hR.K ho0, ?_⟩
        have w57 := hR.wI (x := 804) ho0 4 (by decide) rfl (1 : Int32)
        have F := F.trans w57.2
        have hR := w57.1
        have a58 : sP σ50 (ad 8 o0) 10 = some (ad 5 o0) := hR.lk ho0 10 (by decide) rfl
        refine ⟨_, a58, ?_⟩
        refine ⟨hR.K (ob_810 ho0), ?_⟩
        have w60 := hR.wI (x := 503) (ob_810 ho0) 3 (by decide) rfl (0 : Int32)
        have F := F.trans w60.2
        have hR := w60.1
        have a61 : sP σ50 (ad 8 o0) 7 = some (ad 2 o0) := hR.lk ho0 7 (by decide) rfl
        refine ⟨_, a61, ?_⟩
        refine ⟨hR.K (ob_807 ho0), ?_⟩
        intro x63 e64
        have e64 : x63 = yI (uI (uI Y51 804 o0 (1 : Int32)) 503 o0 (0 : Int32)) 201 o0 := e64.trans (hR.I (x := 201) (ob_807 ho0) 1 (by decide) rfl)
        have h := h x63 e64
        refine y_X8_sendOthers hR ho0  h (fun σ65 Y66 h hR68 f67 => ?_)
        have F := F.trans f67
        have hR := hR68
        exact hQ _ _ h hR F
    · have h := h.2 c15
      exact hQ _ _ h hR F
def fy_X8_takeHeld_7 (n : Nat) (o0 : Nat)  (Qy : Yc → Prop) (Ly7 : Int32 × Int32 → Yc → Prop) (t : Int32 × Int32) (Y : Yc) : Prop := (((100 : Int32) ≤ t.2 → by_X8_takeHeld_75 n o0  Qy t.1 Y) ∧ (¬ (100 : Int32) ≤ t.2 → (wy_X2_isFull n o0  Y (fun (x8 : Int32) (Y5 : Yc) => ((¬ x8 = 0 → by_X8_takeHeld_75 n o0  Qy t.1 Y5) ∧ (x8 = 0 → (∀ x15 : Int32, x15 = yI Y5 201 o0 → (∀ x18 : Int32, x18 = yI Y5 202 o0 → (wy_X5_release n o0 ((x15 + (1 : Int32)) - x18) Y5 (fun (q25 : Option Rq) (Y22 : Yc) => ((q25 = none → by_X8_takeHeld_75 n o0  Qy t.1 Y22) ∧ (∀ w30 : Rq, q25 = some w30 → (wy_X2_add n o0 q25 Y22 (fun (Y35 : Yc) => (wy_X8_sendReply n o0 q25 t.1 Y35 (fun (Y42 : Yc) => (∀ x48 : Int32, x48 = t.2 + (1 : Int32) → Ly7 (t.1, x48) Y42)))))))))))))))))
set_option maxHeartbeats 4000000 in
set_option maxRecDepth 100000 in
theorem yf_X8_takeHeld_7 {n : Nat} {ad aa : Nat → Nat → Nat} {σ0 : Sto} {o0 : Nat} (ho0 : Ob n 8 o0) {Q : Sto → Prop} {Qy : Yc → Prop} {Ly7 : Int32 × Int32 → Yc → Prop} {L7 : Int32 × Int32 → Sto → Prop} (hQ : ∀ (σ' : Sto) (Y' : Yc), Qy Y' → HY n ad aa σ' Y' → Fy n ad aa σ0 σ' → Q σ') (hL7 : ∀ (t9 : Int32 × Int32) (t : Int32 × Int32) (σ : Sto) (Y : Yc), Ly7 t Y → HY n ad aa σ Y → Fy n ad aa σ0 σ → ((t.1, t.2) = t9 ∧ True) → L7 t9 σ) : ∀ (t9 : Int32 × Int32) (t : Int32 × Int32) (σ : Sto) (Y : Yc), HY n ad aa σ Y → Fy n ad aa σ0 σ → ((t.1, t.2) = t9 ∧ True) → fy_X8_takeHeld_7 n o0  Qy Ly7 t Y → f_X8_takeHeld_7 (ad 8 o0)  Q L7 t9 σ := by
  intro t9 t σ Y hR F hT h
  obtain ⟨rfl, _⟩ := hT
  unfold fy_X8_takeHeld_7 at h
  unfold f_X8_takeHeld_7
  dsimp only
  refine ⟨fun c1 => ?_, fun c1 => ?_⟩
  · have h := h.1 c1
    exact yb_X8_takeHeld_75 ho0 hQ  t.1 _ _ hR F  h
  · have h := h.2 c1
    refine ⟨hR.K ho0, ?_⟩
    have a2 : sP σ (ad 8 o0) 7 = some (ad 2 o0) := hR.lk ho0 7 (by decide) rfl
    refine ⟨_, a2, ?_⟩
    refine ⟨hR.K (ob_807 ho0), ?_⟩
    refine y_X2_isFull hR (ob_807 ho0)  h (fun x8 σ4 Y5 h hR7 f6 => ?_)
    have F := F.trans f6
    have hR := hR7
    refine ⟨fun c11 => ?_, fun c11 => ?_⟩
    · have h := h.1 c11
      exact yb_X8_takeHeld_75 ho0 hQ  t.1 _ _ hR F  h
    · have h := h.2 c11
      refine ⟨hR.K ho0, ?_⟩
      have a12 : sP σ4 (ad 8 o0) 10 = some (ad 5 o0) := hR.lk ho0 10 (by decide) rfl
      have a13 : sP σ4 (ad 8 o0) 7 = some (ad 2 o0) := hR.lk ho0 7 (by decide) rfl
      refine ⟨_, a13, ?_⟩
      refine ⟨hR.K (ob_807 ho0), ?_⟩
      intro x15 e16
      have e16 : x15 = yI Y5 201 o0 := e16.trans (hR.I (x := 201) (ob_807 ho0) 1 (by decide) rfl)
      have h := h x15 e16
      have a17 : sP σ4 (ad 8 o0) 7 = some (ad 2 o0) := hR.lk ho0 7 (by decide) rfl
      intro x18 e19
      have e19 : x18 = yI Y5 202 o0 := e19.trans (hR.I (x := 202) (ob_807 ho0) 2 (by decide) rfl)
      have h := h x18 e19
      refine ⟨_, a12, ?_⟩
      refine ⟨hR.K (ob_810 ho0), ?_⟩
      refine y_X5_release hR (ob_810 ho0)  h (fun r27 q25 σ21 Y22 h hr26 hR24 f23 => ?_)
      have F := F.trans f23
      have hR := hR24
      refine ⟨fun c28 => ?_, fun b29 c28 => ?_⟩
      · have h := h.1 (rq_none hr26 c28)
        exact yb_X8_takeHeld_75 ho0 hQ  t.1 _ _ hR F  h
      · obtain ⟨w30, ew31⟩ := rq_some hr26 c28
        have h := h.2 w30 ew31
        refine ⟨hR.K ho0, ?_⟩
        have a32 : sP σ21 (ad 8 o0) 7 = some (ad 2 o0) := hR.lk ho0 7 (by decide) rfl
        refine ⟨_, a32, ?_⟩
        refine ⟨hR.K (ob_807 ho0), ?_⟩
        refine y_X2_add hR (ob_807 ho0) hr26 h (fun σ34 Y35 h hR37 f36 => ?_)
        have hr26 := rq.mv hR f36 hr26
        have F := F.trans f36
        have hR := hR37
        refine ⟨hR.K ho0, ?_⟩
        refine y_X8_sendReply hR ho0 hr26 h (fun σ41 Y42 h hR44 f43 => ?_)
        have hr26 := rq.mv hR f43 hr26
        have F := F.trans f43
        have hR := hR44
        intro x48 e49
        have h := h x48 e49
        exact hL7 _ _ _ _ h hR F ⟨rfl, trivial⟩
def wy_X8_takeHeld (n : Nat) (o0 : Nat)  (Y : Yc) (Qy : Yc → Prop) : Prop := (wy_X8_leads n o0  Y (fun (x5 : Int32) (Y2 : Yc) => LFy (fy_X8_takeHeld_7 n o0  Qy) (x5, (0 : Int32)) Y2))
set_option maxHeartbeats 4000000 in
set_option maxRecDepth 100000 in
theorem y_X8_takeHeld {n : Nat} {ad aa : Nat → Nat → Nat} {o0 : Nat} {σ : Sto} {Y : Yc} {Q : Sto → Prop} {Qy : Yc → Prop} (hR : HY n ad aa σ Y) (ho0 : Ob n 8 o0) (h : wy_X8_takeHeld n o0  Y Qy) (hQ : ∀ (σ' : Sto) (Y' : Yc), Qy Y' → HY n ad aa σ' Y' → Fy n ad aa σ σ' → Q σ') : wp_X8_takeHeld (ad 8 o0)  σ Q := by
  have F : Fy n ad aa σ σ := Fy.rf
  unfold wy_X8_takeHeld at h
  unfold wp_X8_takeHeld
  refine ⟨hR.K ho0, ?_⟩
  refine y_X8_leads hR ho0  h (fun x5 σ1 Y2 h hR4 f3 => ?_)
  have F := F.trans f3
  have hR := hR4
  exact lfy (fun σ t9 t => (t.1, t.2) = t9 ∧ True) h hR F ⟨rfl, trivial⟩ (fun Ly L hL t9 t σ Y hR F hT h => yf_X8_takeHeld_7 ho0 hQ  hL t9 t σ Y hR F hT h)
def by_X8_hearStamped_108 (n : Nat) (o0 : Nat)  (Qy : Yc → Prop) (p1 : Nat) (s0 : Int32) (Y : Yc) : Prop := ((s0 = 0 → Qy Y) ∧ (¬ s0 = 0 → (∀ x4 : Int32, x4 = yI Y 306 p1 → (∀ q7 : Option Rq, q7 = yP Y 307 p1 → (wy_X5_hold n o0 x4 q7 Y (fun (Y12 : Yc) => (∀ x18 : Int32, x18 = yI Y12 804 o0 → ((¬ x18 = 0 → Qy Y12) ∧ (x18 = 0 → (wy_X8_takeHeld n o0  Y12 (fun (Y22 : Yc) => Qy Y22)))))))))))
set_option maxHeartbeats 4000000 in
set_option maxRecDepth 100000 in
theorem yb_X8_hearStamped_108 {n : Nat} {ad aa : Nat → Nat → Nat} {σ0 : Sto} {o0 : Nat} (ho0 : Ob n 8 o0) {Q : Sto → Prop} {Qy : Yc → Prop} (hQ : ∀ (σ' : Sto) (Y' : Yc), Qy Y' → HY n ad aa σ' Y' → Fy n ad aa σ0 σ' → Q σ')  (p1 : Nat) (s0 : Int32) (σ : Sto) (Y : Yc) (hR : HY n ad aa σ Y) (F : Fy n ad aa σ0 σ) (hp1 : Ob n 3 p1) (h : by_X8_hearStamped_108 n o0  Qy p1 s0 Y) : b_X8_hearStamped_108 (ad 8 o0)  Q (some (ad 3 p1)) s0 σ := by
  unfold by_X8_hearStamped_108 at h
  unfold b_X8_hearStamped_108
  refine ⟨fun c1 => ?_, fun c1 => ?_⟩
  · have h := h.1 c1
    exact hQ _ _ h hR F
  · have h := h.2 c1
    refine ⟨hR.K ho0, ?_⟩
    have a2 : sP σ (ad 8 o0) 10 = some (ad 5 o0) := hR.lk ho0 10 (by decide) rfl
    refine ⟨_, rfl, ?_⟩
    refine ⟨hR.K hp1, ?_⟩
    intro x4 e5
    have e5 : x4 = yI Y 306 p1 := e5.trans (hR.I (x := 306) hp1 6 (by decide) rfl)
    have h := h x4 e5
    obtain ⟨q7, e8⟩ : ∃ z, z = yP Y 307 p1 := ⟨_, rfl⟩
    have h := h q7 e8
    have hr9 := rq_of (hR.P (x := 307) hp1 7 (by decide) rfl (by decide)) rfl e8
    refine ⟨_, a2, ?_⟩
    refine ⟨hR.K (ob_810 ho0), ?_⟩
    refine y_X5_hold hR (ob_810 ho0) hr9 h (fun σ11 Y12 h hR14 f13 => ?_)
    have F := F.trans f13
    have hR := hR14
    refine ⟨hR.K ho0, ?_⟩
    intro x18 e19
    have e19 : x18 = yI Y12 804 o0 := e19.trans (hR.I (x := 804) ho0 4 (by decide) rfl)
    have h := h x18 e19
    refine ⟨fun c20 => ?_, fun c20 => ?_⟩
    · have h := h.1 c20
      exact hQ _ _ h hR F
    · have h := h.2 c20
      refine y_X8_takeHeld hR ho0  h (fun σ21 Y22 h hR24 f23 => ?_)
      have F := F.trans f23
      have hR := hR24
      exact hQ _ _ h hR F
def by_X8_hearStamped_107 (n : Nat) (o0 : Nat)  (Qy : Yc → Prop) (p1 : Nat) (Y : Yc) : Prop := by_X8_hearStamped_108 n o0  Qy p1 (0 : Int32) Y
set_option maxHeartbeats 4000000 in
set_option maxRecDepth 100000 in
theorem yb_X8_hearStamped_107 {n : Nat} {ad aa : Nat → Nat → Nat} {σ0 : Sto} {o0 : Nat} (ho0 : Ob n 8 o0) {Q : Sto → Prop} {Qy : Yc → Prop} (hQ : ∀ (σ' : Sto) (Y' : Yc), Qy Y' → HY n ad aa σ' Y' → Fy n ad aa σ0 σ' → Q σ')  (p1 : Nat) (σ : Sto) (Y : Yc) (hR : HY n ad aa σ Y) (F : Fy n ad aa σ0 σ) (hp1 : Ob n 3 p1) (h : by_X8_hearStamped_107 n o0  Qy p1 Y) : b_X8_hearStamped_107 (ad 8 o0)  Q (some (ad 3 p1)) σ := by
  unfold by_X8_hearStamped_107 at h
  unfold b_X8_hearStamped_107
  exact yb_X8_hearStamped_108 ho0 hQ  p1 (0 : Int32) _ _ hR F hp1 h
def wy_X8_hearStamped (n : Nat) (o0 : Nat) (p1 : Nat) (Y : Yc) (Qy : Yc → Prop) : Prop := (∀ y2 : Int64, y2 = yJ Y 304 p1 → (wy_X11_sessionOf n y2 Y (fun (x8 : Int32) (Y5 : Yc) => (∀ y11 : Int64, y11 = yJ Y5 805 o0 → (wy_X11_sessionOf n y11 Y5 (fun (x17 : Int32) (Y14 : Yc) => ((x8 ≤ x17 → (∀ y21 : Int64, y21 = yJ Y14 805 o0 → (wy_X11_sessionOf n y21 Y14 (fun (x27 : Int32) (Y24 : Yc) => ((¬ x8 = x27 → by_X8_hearStamped_107 n o0  Qy p1 Y24) ∧ (x8 = x27 → (∀ x31 : Int32, x31 = yI Y24 804 o0 → ((x31 = (2 : Int32) → by_X8_hearStamped_107 n o0  Qy p1 Y24) ∧ (¬ x31 = (2 : Int32) → (∀ x36 : Int32, x36 = yI Y24 202 o0 → (∀ x38 : Int32, x38 = yI Y24 306 p1 → (∀ x41 : Int32, x41 = yI Y24 201 o0 → (((x36 + x38) ≤ x41 → by_X8_hearStamped_107 n o0  Qy p1 Y24) ∧ (¬ (x36 + x38) ≤ x41 → (∀ x46 : Int32, x46 = yI Y24 502 o0 → (((8 : Int32) ≤ x46 → by_X8_hearStamped_107 n o0  Qy p1 Y24) ∧ (¬ (8 : Int32) ≤ x46 → (∀ x50 : Int32, x50 = yI Y24 306 p1 → (wy_X5_find n o0 x50 Y24 (fun (x56 : Int32) (Y53 : Yc) => ((¬ x56 = (-1 : Int32) → by_X8_hearStamped_107 n o0  Qy p1 Y53) ∧ (x56 = (-1 : Int32) → by_X8_hearStamped_108 n o0  Qy p1 (1 : Int32) Y53)))))))))))))))))))))) ∧ (¬ x8 ≤ x17 → (∀ y60 : Int64, y60 = yJ Y14 805 o0 → (wy_X11_leadOf n y60 Y14 (fun (x66 : Int32) (Y63 : Yc) => (wy_X11_viewOf n x66 x8 Y63 (fun (y73 : Int64) (Y70 : Yc) => (wy_X8_turn n o0 y73 Y70 (fun (Y77 : Yc) => Qy Y77)))))))))))))))
set_option maxHeartbeats 4000000 in
set_option maxRecDepth 100000 in
theorem y_X8_hearStamped {n : Nat} {ad aa : Nat → Nat → Nat} {o0 : Nat} {p1 : Nat} {σ : Sto} {Y : Yc} {Q : Sto → Prop} {Qy : Yc → Prop} (hR : HY n ad aa σ Y) (ho0 : Ob n 8 o0) (hp1 : Ob n 3 p1) (h : wy_X8_hearStamped n o0 p1 Y Qy) (hQ : ∀ (σ' : Sto) (Y' : Yc), Qy Y' → HY n ad aa σ' Y' → Fy n ad aa σ σ' → Q σ') : wp_X8_hearStamped (ad 8 o0) (some (ad 3 p1)) σ Q := by
  have F : Fy n ad aa σ σ := Fy.rf
  unfold wy_X8_hearStamped at h
  unfold wp_X8_hearStamped
  refine ⟨_, rfl, ?_⟩
  refine ⟨hR.K hp1, ?_⟩
  intro y2 e3
  have e3 : y2 = yJ Y 304 p1 := e3.trans (hR.J (x := 304) hp1 4 (by decide) rfl)
  have h := h y2 e3
  refine y_X11_sessionOf hR  h (fun x8 σ4 Y5 h hR7 f6 => ?_)
  have F := F.trans f6
  have hR := hR7
  refine ⟨hR.K ho0, ?_⟩
  intro y11 e12
  have e12 : y11 = yJ Y5 805 o0 := e12.trans (hR.J (x := 805) ho0 5 (by decide) rfl)
  have h := h y11 e12
  refine y_X11_sessionOf hR  h (fun x17 σ13 Y14 h hR16 f15 => ?_)
  have F := F.trans f15
  have hR := hR16
  refine ⟨fun c20 => ?_, fun c20 => ?_⟩
  · have h := h.1 c20
    refine ⟨hR.K ho0, ?_⟩
    intro y21 e22
    have e22 : y21 = yJ Y14 805 o0 := e22.trans (hR.J (x := 805) ho0 5 (by decide) rfl)
    have h := h y21 e22
    refine y_X11_sessionOf hR  h (fun x27 σ23 Y24 h hR26 f25 => ?_)
    have F := F.trans f25
    have hR := hR26
    refine ⟨fun c30 => ?_, fun c30 => ?_⟩
    · have h := h.1 c30
      exact yb_X8_hearStamped_107 ho0 hQ  p1 _ _ hR F hp1 h
    · have h := h.2 c30
      refine ⟨hR.K ho0, ?_⟩
      intro x31 e32
      have e32 : x31 = yI Y24 804 o0 := e32.trans (hR.I (x := 804) ho0 4 (by decide) rfl)
      have h := h x31 e32
      refine ⟨fun c33 => ?_, fun c33 => ?_⟩
      · have h := h.1 c33
        exact yb_X8_hearStamped_107 ho0 hQ  p1 _ _ hR F hp1 h
      · have h := h.2 c33
        have a34 : sP σ23 (ad 8 o0) 7 = some (ad 2 o0) := hR.lk ho0 7 (by decide) rfl
        refine ⟨_, a34, ?_⟩
        refine ⟨hR.K (ob_807 ho0), ?_⟩
        intro x36 e37
        have e37 : x36 = yI Y24 202 o0 := e37.trans (hR.I (x := 202) (ob_807 ho0) 2 (by decide) rfl)
        have h := h x36 e37
        refine ⟨hR.K hp1, ?_⟩
        intro x38 e39
        have e39 : x38 = yI Y24 306 p1 := e39.trans (hR.I (x := 306) hp1 6 (by decide) rfl)
        have h := h x38 e39
        have a40 : sP σ23 (ad 8 o0) 7 = some (ad 2 o0) := hR.lk ho0 7 (by decide) rfl
        intro x41 e42
        have e42 : x41 = yI Y24 201 o0 := e42.trans (hR.I (x := 201) (ob_807 ho0) 1 (by decide) rfl)
        have h := h x41 e42
        refine ⟨fun c43 => ?_, fun c43 => ?_⟩
        · have h := h.1 c43
          exact yb_X8_hearStamped_107 ho0 hQ  p1 _ _ hR F hp1 h
        · have h := h.2 c43
          have a44 : sP σ23 (ad 8 o0) 10 = some (ad 5 o0) := hR.lk ho0 10 (by decide) rfl
          refine ⟨_, a44, ?_⟩
          refine ⟨hR.K (ob_810 ho0), ?_⟩
          intro x46 e47
          have e47 : x46 = yI Y24 502 o0 := e47.trans (hR.I (x := 502) (ob_810 ho0) 2 (by decide) rfl)
          have h := h x46 e47
          refine ⟨fun c48 => ?_, fun c48 => ?_⟩
          · have h := h.1 c48
            exact yb_X8_hearStamped_107 ho0 hQ  p1 _ _ hR F hp1 h
          · have h := h.2 c48
            have a49 : sP σ23 (ad 8 o0) 10 = some (ad 5 o0) := hR.lk ho0 10 (by decide) rfl
            intro x50 e51
            have e51 : x50 = yI Y24 306 p1 := e51.trans (hR.I (x := 306) hp1 6 (by decide) rfl)
            have h := h x50 e51
            refine y_X5_find hR (ob_810 ho0)  h (fun x56 σ52 Y53 h hR55 f54 => ?_)
            have F := F.trans f54
            have hR := hR55
            refine ⟨fun c59 => ?_, fun c59 => ?_⟩
            · have h := h.1 c59
              exact yb_X8_hearStamped_107 ho0 hQ  p1 _ _ hR F hp1 h
            · have h := h.2 c59
              exact yb_X8_hearStamped_108 ho0 hQ  p1 (1 : Int32) _ _ hR F hp1 h
  · have h := h.2 c20
    refine ⟨hR.K ho0, ?_⟩
    intro y60 e61
    have e61 : y60 = yJ Y14 805 o0 := e61.trans (hR.J (x := 805) ho0 5 (by decide) rfl)
    have h := h y60 e61
    refine y_X11_leadOf hR  h (fun x66 σ62 Y63 h hR65 f64 => ?_)
    have F := F.trans f64
    have hR := hR65
    refine y_X11_viewOf hR  h (fun y73 σ69 Y70 h hR72 f71 => ?_)
    have F := F.trans f71
    have hR := hR72
    refine ⟨hR.K ho0, ?_⟩
    refine y_X8_turn hR ho0  h (fun σ76 Y77 h hR79 f78 => ?_)
    have F := F.trans f78
    have hR := hR79
    exact hQ _ _ h hR F
def by_X8_hearLookup_51 (n : Nat) (o0 : Nat)  (Qy : Yc → Prop) (p1 : Nat) (p2 : Option Rq) (s0 : Int32) (Y : Yc) : Prop := (∀ x2 : Int32, x2 = yI Y 800 o0 → (∀ x5 : Int32, x5 = yI Y 302 p1 → (∀ y7 : Int64, y7 = yJ Y 805 o0 → (∀ x9 : Int32, x9 = yI Y 306 p1 → (wy_X4_send n s0 x2 x5 y7 x9 Y (fun (o16 : Nat) (Y13 : Yc) => Qy (uP Y13 307 o16 p2)))))))
set_option maxHeartbeats 4000000 in
set_option maxRecDepth 100000 in
theorem yb_X8_hearLookup_51 {n : Nat} {ad aa : Nat → Nat → Nat} {σ0 : Sto} {o0 : Nat} (ho0 : Ob n 8 o0) {Q : Sto → Prop} {Qy : Yc → Prop} (hQ : ∀ (σ' : Sto) (Y' : Yc), Qy Y' → HY n ad aa σ' Y' → Fy n ad aa σ0 σ' → Q σ')  (p1 : Nat) (p2 : Option Rq) (s0 : Int32) (σ : Sto) (Y : Yc) (hR : HY n ad aa σ Y) (F : Fy n ad aa σ0 σ) (hp1 : Ob n 3 p1) {ap2 : Option Nat} (hp2 : rq σ ap2 p2) (h : by_X8_hearLookup_51 n o0  Qy p1 p2 s0 Y) : b_X8_hearLookup_51 (ad 8 o0)  Q (some (ad 3 p1)) ap2 s0 σ := by
  unfold by_X8_hearLookup_51 at h
  unfold b_X8_hearLookup_51
  refine ⟨hR.K ho0, ?_⟩
  have a1 : sP σ (ad 8 o0) 1 = some (ad 4 0) := hR.lk ho0 1 (by decide) rfl
  intro x2 e3
  have e3 : x2 = yI Y 800 o0 := e3.trans (hR.I (x := 800) ho0 0 (by decide) rfl)
  have h := h x2 e3
  refine ⟨_, rfl, ?_⟩
  refine ⟨hR.K hp1, ?_⟩
  intro x5 e6
  have e6 : x5 = yI Y 302 p1 := e6.trans (hR.I (x := 302) hp1 2 (by decide) rfl)
  have h := h x5 e6
  intro y7 e8
  have e8 : y7 = yJ Y 805 o0 := e8.trans (hR.J (x := 805) ho0 5 (by decide) rfl)
  have h := h y7 e8
  intro x9 e10
  have e10 : x9 = yI Y 306 p1 := e10.trans (hR.I (x := 306) hp1 6 (by decide) rfl)
  have h := h x9 e10
  refine ⟨_, a1, ?_⟩
  refine ⟨hR.K ob_4, ?_⟩
  refine y_X4_send hR  h (fun o16 σ12 Y13 h hO17 hR15 f14 => ?_)
  have hp2 := rq.mv hR f14 hp2
  have F := F.trans f14
  have hR := hR15
  refine ⟨_, rfl, ?_⟩
  refine ⟨hR.K hO17, ?_⟩
  have w20 := hR.wP (x := 307) hO17 7 (by decide) rfl (by decide) hp2
  have hp2 := rq.mv hR w20.2 hp2
  have F := F.trans w20.2
  have hR := w20.1
  exact hQ _ _ h hR F
def wy_X8_hearLookup (n : Nat) (o0 : Nat) (p1 : Nat) (Y : Yc) (Qy : Yc → Prop) : Prop := (wy_X8_leads n o0  Y (fun (x5 : Int32) (Y2 : Yc) => ((x5 = 0 → Qy Y2) ∧ (¬ x5 = 0 → (∀ x9 : Int32, x9 = yI Y2 804 o0 → ((x9 = (2 : Int32) → Qy Y2) ∧ (¬ x9 = (2 : Int32) → (∀ x14 : Int32, x14 = yI Y2 306 p1 → (wy_X2_has n o0 x14 Y2 (fun (x21 : Int32) (Y18 : Yc) => ((¬ x21 = 0 → (∀ x26 : Int32, x26 = yI Y18 306 p1 → (wy_X2_at n o0 x26 Y18 (fun (q33 : Option Rq) (Y30 : Yc) => ((q33 = none → by_X8_hearLookup_51 n o0  Qy p1 q33 (3 : Int32) Y30) ∧ (∀ w38 : Rq, q33 = some w38 → by_X8_hearLookup_51 n o0  Qy p1 q33 (2 : Int32) Y30)))))) ∧ (x21 = 0 → Qy Y18))))))))))))
set_option maxHeartbeats 4000000 in
set_option maxRecDepth 100000 in
theorem y_X8_hearLookup {n : Nat} {ad aa : Nat → Nat → Nat} {o0 : Nat} {p1 : Nat} {σ : Sto} {Y : Yc} {Q : Sto → Prop} {Qy : Yc → Prop} (hR : HY n ad aa σ Y) (ho0 : Ob n 8 o0) (hp1 : Ob n 3 p1) (h : wy_X8_hearLookup n o0 p1 Y Qy) (hQ : ∀ (σ' : Sto) (Y' : Yc), Qy Y' → HY n ad aa σ' Y' → Fy n ad aa σ σ' → Q σ') : wp_X8_hearLookup (ad 8 o0) (some (ad 3 p1)) σ Q := by
  have F : Fy n ad aa σ σ := Fy.rf
  unfold wy_X8_hearLookup at h
  unfold wp_X8_hearLookup
  refine ⟨hR.K ho0, ?_⟩
  refine y_X8_leads hR ho0  h (fun x5 σ1 Y2 h hR4 f3 => ?_)
  have F := F.trans f3
  have hR := hR4
  refine ⟨fun c8 => ?_, fun c8 => ?_⟩
  · have h := h.1 c8
    exact hQ _ _ h hR F
  · have h := h.2 c8
    refine ⟨hR.K ho0, ?_⟩
    intro x9 e10
    have e10 : x9 = yI Y2 804 o0 := e10.trans (hR.I (x := 804) ho0 4 (by decide) rfl)
    have h := h x9 e10
    refine ⟨fun c11 => ?_, fun c11 => ?_⟩
    · have h := h.1 c11
      exact hQ _ _ h hR F
    · have h := h.2 c11
      have a12 : sP σ1 (ad 8 o0) 7 = some (ad 2 o0) := hR.lk ho0 7 (by decide) rfl
      refine ⟨_, rfl, ?_⟩
      refine ⟨hR.K hp1, ?_⟩
      intro x14 e15
      have e15 : x14 = yI Y2 306 p1 := e15.trans (hR.I (x := 306) hp1 6 (by decide) rfl)
      have h := h x14 e15
      refine ⟨_, a12, ?_⟩
      refine ⟨hR.K (ob_807 ho0), ?_⟩
      refine y_X2_has hR (ob_807 ho0)  h (fun x21 σ17 Y18 h hR20 f19 => ?_)
      have F := F.trans f19
      have hR := hR20
      refine ⟨fun c24 => ?_, fun c24 => ?_⟩
      · have h := h.1 c24
        refine ⟨hR.K ho0, ?_⟩
        have a25 : sP σ17 (ad 8 o0) 7 = some (ad 2 o0) := hR.lk ho0 7 (by decide) rfl
        refine ⟨hR.K hp1, ?_⟩
        intro x26 e27
        have e27 : x26 = yI Y18 306 p1 := e27.trans (hR.I (x := 306) hp1 6 (by decide) rfl)
        have h := h x26 e27
        refine ⟨_, a25, ?_⟩
        refine ⟨hR.K (ob_807 ho0), ?_⟩
        refine y_X2_at hR (ob_807 ho0)  h (fun r35 q33 σ29 Y30 h hr34 hR32 f31 => ?_)
        have F := F.trans f31
        have hR := hR32
        refine ⟨fun c36 => ?_, fun b37 c36 => ?_⟩
        · have h := h.1 (rq_none hr34 c36)
          exact yb_X8_hearLookup_51 ho0 hQ  p1 q33 (3 : Int32) _ _ hR F hp1 hr34 h
        · obtain ⟨w38, ew39⟩ := rq_some hr34 c36
          have h := h.2 w38 ew39
          exact yb_X8_hearLookup_51 ho0 hQ  p1 q33 (2 : Int32) _ _ hR F hp1 hr34 h
      · have h := h.2 c24
        exact hQ _ _ h hR F
def wy_X8_hearFound (n : Nat) (o0 : Nat) (p1 : Nat) (Y : Yc) (Qy : Yc → Prop) : Prop := (∀ x1 : Int32, x1 = yI Y 804 o0 → ((¬ x1 = 0 → Qy Y) ∧ (x1 = 0 → (∀ x5 : Int32, x5 = yI Y 306 p1 → (∀ x9 : Int32, x9 = yI Y 201 o0 → ((¬ x5 = (x9 + (1 : Int32)) → Qy Y) ∧ (x5 = (x9 + (1 : Int32)) → (∀ x13 : Int32, x13 = yI Y 306 p1 → (∀ x16 : Int32, x16 = yI Y 202 o0 → (∀ q19 : Option Rq, q19 = yP Y 307 p1 → (wy_X5_hold n o0 (x13 - x16) q19 Y (fun (Y24 : Yc) => (wy_X8_takeHeld n o0  Y24 (fun (Y31 : Yc) => Qy Y31))))))))))))))
set_option maxHeartbeats 4000000 in
set_option maxRecDepth 100000 in
theorem y_X8_hearFound {n : Nat} {ad aa : Nat → Nat → Nat} {o0 : Nat} {p1 : Nat} {σ : Sto} {Y : Yc} {Q : Sto → Prop} {Qy : Yc → Prop} (hR : HY n ad aa σ Y) (ho0 : Ob n 8 o0) (hp1 : Ob n 3 p1) (h : wy_X8_hearFound n o0 p1 Y Qy) (hQ : ∀ (σ' : Sto) (Y' : Yc), Qy Y' → HY n ad aa σ' Y' → Fy n ad aa σ σ' → Q σ') : wp_X8_hearFound (ad 8 o0) (some (ad 3 p1)) σ Q := by
  have F : Fy n ad aa σ σ := Fy.rf
  unfold wy_X8_hearFound at h
  unfold wp_X8_hearFound
  refine ⟨hR.K ho0, ?_⟩
  intro x1 e2
  have e2 : x1 = yI Y 804 o0 := e2.trans (hR.I (x := 804) ho0 4 (by decide) rfl)
  have h := h x1 e2
  refine ⟨fun c3 => ?_, fun c3 => ?_⟩
  · have h := h.1 c3
    exact hQ _ _ h hR F
  · have h := h.2 c3
    refine ⟨_, rfl, ?_⟩
    refine ⟨hR.K hp1, ?_⟩
    intro x5 e6
    have e6 : x5 = yI Y 306 p1 := e6.trans (hR.I (x := 306) hp1 6 (by decide) rfl)
    have h := h x5 e6
    have a7 : sP σ (ad 8 o0) 7 = some (ad 2 o0) := hR.lk ho0 7 (by decide) rfl
    refine ⟨_, a7, ?_⟩
    refine ⟨hR.K (ob_807 ho0), ?_⟩
    intro x9 e10
    have e10 : x9 = yI Y 201 o0 := e10.trans (hR.I (x := 201) (ob_807 ho0) 1 (by decide) rfl)
    have h := h x9 e10
    refine ⟨fun c11 => ?_, fun c11 => ?_⟩
    · have h := h.1 c11
      exact hQ _ _ h hR F
    · have h := h.2 c11
      have a12 : sP σ (ad 8 o0) 10 = some (ad 5 o0) := hR.lk ho0 10 (by decide) rfl
      intro x13 e14
      have e14 : x13 = yI Y 306 p1 := e14.trans (hR.I (x := 306) hp1 6 (by decide) rfl)
      have h := h x13 e14
      have a15 : sP σ (ad 8 o0) 7 = some (ad 2 o0) := hR.lk ho0 7 (by decide) rfl
      intro x16 e17
      have e17 : x16 = yI Y 202 o0 := e17.trans (hR.I (x := 202) (ob_807 ho0) 2 (by decide) rfl)
      have h := h x16 e17
      obtain ⟨q19, e20⟩ : ∃ z, z = yP Y 307 p1 := ⟨_, rfl⟩
      have h := h q19 e20
      have hr21 := rq_of (hR.P (x := 307) hp1 7 (by decide) rfl (by decide)) rfl e20
      refine ⟨_, a12, ?_⟩
      refine ⟨hR.K (ob_810 ho0), ?_⟩
      refine y_X5_hold hR (ob_810 ho0) hr21 h (fun σ23 Y24 h hR26 f25 => ?_)
      have F := F.trans f25
      have hR := hR26
      refine ⟨hR.K ho0, ?_⟩
      refine y_X8_takeHeld hR ho0  h (fun σ30 Y31 h hR33 f32 => ?_)
      have F := F.trans f32
      have hR := hR33
      exact hQ _ _ h hR F
def by_X8_hearGapCommit_100 (n : Nat) (o0 : Nat)  (Qy : Yc → Prop) (p1 : Int32) (p2 : Int32) (Y : Yc) : Prop := (∀ x2 : Int32, x2 = yI Y 800 o0 → (∀ y5 : Int64, y5 = yJ Y 805 o0 → (wy_X4_leaderOf n y5 Y (fun (x12 : Int32) (Y9 : Yc) => (∀ y15 : Int64, y15 = yJ Y9 805 o0 → (wy_X4_send n (4 : Int32) x2 x12 y15 p1 Y9 (fun (o21 : Nat) (Y18 : Yc) => ((p2 = 0 → Qy Y18) ∧ (¬ p2 = 0 → (wy_X8_takeHeld n o0  Y18 (fun (Y26 : Yc) => Qy Y26)))))))))))
set_option maxHeartbeats 4000000 in
set_option maxRecDepth 100000 in
theorem yb_X8_hearGapCommit_100 {n : Nat} {ad aa : Nat → Nat → Nat} {σ0 : Sto} {o0 : Nat} (ho0 : Ob n 8 o0) {Q : Sto → Prop} {Qy : Yc → Prop} (hQ : ∀ (σ' : Sto) (Y' : Yc), Qy Y' → HY n ad aa σ' Y' → Fy n ad aa σ0 σ' → Q σ')  (p1 : Int32) (p2 : Int32) (σ : Sto) (Y : Yc) (hR : HY n ad aa σ Y) (F : Fy n ad aa σ0 σ) (h : by_X8_hearGapCommit_100 n o0  Qy p1 p2 Y) : b_X8_hearGapCommit_100 (ad 8 o0)  Q p1 p2 σ := by
  unfold by_X8_hearGapCommit_100 at h
  unfold b_X8_hearGapCommit_100
  refine ⟨hR.K ho0, ?_⟩
  have a1 : sP σ (ad 8 o0) 1 = some (ad 4 0) := hR.lk ho0 1 (by decide) rfl
  intro x2 e3
  have e3 : x2 = yI Y 800 o0 := e3.trans (hR.I (x := 800) ho0 0 (by decide) rfl)
  have h := h x2 e3
  have a4 : sP σ (ad 8 o0) 1 = some (ad 4 0) := hR.lk ho0 1 (by decide) rfl
  intro y5 e6
  have e6 : y5 = yJ Y 805 o0 := e6.trans (hR.J (x := 805) ho0 5 (by decide) rfl)
  have h := h y5 e6
  refine ⟨_, a4, ?_⟩
  refine ⟨hR.K ob_4, ?_⟩
  refine y_X4_leaderOf hR  h (fun x12 σ8 Y9 h hR11 f10 => ?_)
  have F := F.trans f10
  have hR := hR11
  refine ⟨hR.K ho0, ?_⟩
  intro y15 e16
  have e16 : y15 = yJ Y9 805 o0 := e16.trans (hR.J (x := 805) ho0 5 (by decide) rfl)
  have h := h y15 e16
  refine ⟨hR.K ob_4, ?_⟩
  refine y_X4_send hR  h (fun o21 σ17 Y18 h hO22 hR20 f19 => ?_)
  have F := F.trans f19
  have hR := hR20
  refine ⟨fun c24 => ?_, fun c24 => ?_⟩
  · have h := h.1 c24
    exact hQ _ _ h hR F
  · have h := h.2 c24
    refine ⟨hR.K ho0, ?_⟩
    refine y_X8_takeHeld hR ho0  h (fun σ25 Y26 h hR28 f27 => ?_)
    have F := F.trans f27
    have hR := hR28
    exact hQ _ _ h hR F
def by_X8_hearGapCommit_59 (n : Nat) (o0 : Nat)  (Qy : Yc → Prop) (p1 : Int32) (p2 : Int32) (Y : Yc) : Prop := ((p2 = 0 → (wy_X2_replace n o0 p1 none Y (fun (Y5 : Yc) => by_X8_hearGapCommit_100 n o0  Qy p1 p2 Y5))) ∧ (¬ p2 = 0 → (∀ x14 : Int32, x14 = yI Y 202 o0 → (wy_X5_release n o0 (p1 - x14) Y (fun (q21 : Option Rq) (Y18 : Yc) => (wy_X2_add n o0 none Y18 (fun (Y27 : Yc) => by_X8_hearGapCommit_100 n o0  Qy p1 p2 Y27)))))))
set_option maxHeartbeats 4000000 in
set_option maxRecDepth 100000 in
theorem yb_X8_hearGapCommit_59 {n : Nat} {ad aa : Nat → Nat → Nat} {σ0 : Sto} {o0 : Nat} (ho0 : Ob n 8 o0) {Q : Sto → Prop} {Qy : Yc → Prop} (hQ : ∀ (σ' : Sto) (Y' : Yc), Qy Y' → HY n ad aa σ' Y' → Fy n ad aa σ0 σ' → Q σ')  (p1 : Int32) (p2 : Int32) (σ : Sto) (Y : Yc) (hR : HY n ad aa σ Y) (F : Fy n ad aa σ0 σ) (h : by_X8_hearGapCommit_59 n o0  Qy p1 p2 Y) : b_X8_hearGapCommit_59 (ad 8 o0)  Q p1 p2 σ := by
  unfold by_X8_hearGapCommit_59 at h
  unfold b_X8_hearGapCommit_59
  refine ⟨fun c1 => ?_, fun c1 => ?_⟩
  · have h := h.1 c1
    refine ⟨hR.K ho0, ?_⟩
    have a2 : sP σ (ad 8 o0) 7 = some (ad 2 o0) := hR.lk ho0 7 (by decide) rfl
    refine ⟨_, a2, ?_⟩
    refine ⟨hR.K (ob_807 ho0), ?_⟩
    refine y_X2_replace hR (ob_807 ho0) rq_nn h (fun σ4 Y5 h hR7 f6 => ?_)
    have F := F.trans f6
    have hR := hR7
    exact yb_X8_hearGapCommit_100 ho0 hQ  p1 p2 _ _ hR F  h
  · have h := h.2 c1
    refine ⟨hR.K ho0, ?_⟩
    have a11 : sP σ (ad 8 o0) 10 = some (ad 5 o0) := hR.lk ho0 10 (by decide) rfl
    have a12 : sP σ (ad 8 o0) 7 = some (ad 2 o0) := hR.lk ho0 7 (by decide) rfl
    refine ⟨_, a12, ?_⟩
    refine ⟨hR.K (ob_807 ho0), ?_⟩
    intro x14 e15
    have e15 : x14 = yI Y 202 o0 := e15.trans (hR.I (x := 202) (ob_807 ho0) 2 (by decide) rfl)
    have h := h x14 e15
    refine ⟨_, a11, ?_⟩
    refine ⟨hR.K (ob_810 ho0), ?_⟩
    refine y_X5_release hR (ob_810 ho0)  h (fun r23 q21 σ17 Y18 h hr22 hR20 f19 => ?_)
    have F := F.trans f19
    have hR := hR20
    refine ⟨hR.K ho0, ?_⟩
    have a24 : sP σ17 (ad 8 o0) 7 = some (ad 2 o0) := hR.lk ho0 7 (by decide) rfl
    refine ⟨_, a24, ?_⟩
    refine ⟨hR.K (ob_807 ho0), ?_⟩
    refine y_X2_add hR (ob_807 ho0) rq_nn h (fun σ26 Y27 h hR29 f28 => ?_)
    have F := F.trans f28
    have hR := hR29
    exact yb_X8_hearGapCommit_100 ho0 hQ  p1 p2 _ _ hR F  h
def by_X8_hearGapCommit_28 (n : Nat) (o0 : Nat)  (Qy : Yc → Prop) (p1 : Int32) (s0 : Int32) (Y : Yc) : Prop := (wy_X8_leads n o0  Y (fun (x5 : Int32) (Y2 : Yc) => ((¬ x5 = 0 → Qy Y2) ∧ (x5 = 0 → (∀ x9 : Int32, x9 = yI Y2 804 o0 → ((¬ x9 = 0 → Qy Y2) ∧ (x9 = 0 → ((¬ s0 = 0 → by_X8_hearGapCommit_59 n o0  Qy p1 s0 Y2) ∧ (s0 = 0 → (wy_X2_has n o0 p1 Y2 (fun (x19 : Int32) (Y16 : Yc) => ((¬ x19 = 0 → by_X8_hearGapCommit_59 n o0  Qy p1 s0 Y16) ∧ (x19 = 0 → Qy Y16)))))))))))))
set_option maxHeartbeats 4000000 in
set_option maxRecDepth 100000 in
theorem yb_X8_hearGapCommit_28 {n : Nat} {ad aa : Nat → Nat → Nat} {σ0 : Sto} {o0 : Nat} (ho0 : Ob n 8 o0) {Q : Sto → Prop} {Qy : Yc → Prop} (hQ : ∀ (σ' : Sto) (Y' : Yc), Qy Y' → HY n ad aa σ' Y' → Fy n ad aa σ0 σ' → Q σ')  (p1 : Int32) (s0 : Int32) (σ : Sto) (Y : Yc) (hR : HY n ad aa σ Y) (F : Fy n ad aa σ0 σ) (h : by_X8_hearGapCommit_28 n o0  Qy p1 s0 Y) : b_X8_hearGapCommit_28 (ad 8 o0)  Q p1 s0 σ := by
  unfold by_X8_hearGapCommit_28 at h
  unfold b_X8_hearGapCommit_28
  refine ⟨hR.K ho0, ?_⟩
  refine y_X8_leads hR ho0  h (fun x5 σ1 Y2 h hR4 f3 => ?_)
  have F := F.trans f3
  have hR := hR4
  refine ⟨fun c8 => ?_, fun c8 => ?_⟩
  · have h := h.1 c8
    exact hQ _ _ h hR F
  · have h := h.2 c8
    refine ⟨hR.K ho0, ?_⟩
    intro x9 e10
    have e10 : x9 = yI Y2 804 o0 := e10.trans (hR.I (x := 804) ho0 4 (by decide) rfl)
    have h := h x9 e10
    refine ⟨fun c11 => ?_, fun c11 => ?_⟩
    · have h := h.1 c11
      exact hQ _ _ h hR F
    · have h := h.2 c11
      refine ⟨fun c12 => ?_, fun c12 => ?_⟩
      · have h := h.1 c12
        exact yb_X8_hearGapCommit_59 ho0 hQ  p1 s0 _ _ hR F  h
      · have h := h.2 c12
        have a13 : sP σ1 (ad 8 o0) 7 = some (ad 2 o0) := hR.lk ho0 7 (by decide) rfl
        refine ⟨_, a13, ?_⟩
        refine ⟨hR.K (ob_807 ho0), ?_⟩
        refine y_X2_has hR (ob_807 ho0)  h (fun x19 σ15 Y16 h hR18 f17 => ?_)
        have F := F.trans f17
        have hR := hR18
        refine ⟨fun c22 => ?_, fun c22 => ?_⟩
        · have h := h.1 c22
          exact yb_X8_hearGapCommit_59 ho0 hQ  p1 s0 _ _ hR F  h
        · have h := h.2 c22
          exact hQ _ _ h hR F
def by_X8_hearGapCommit_27 (n : Nat) (o0 : Nat)  (Qy : Yc → Prop) (p1 : Int32) (Y : Yc) : Prop := by_X8_hearGapCommit_28 n o0  Qy p1 (0 : Int32) Y
set_option maxHeartbeats 4000000 in
set_option maxRecDepth 100000 in
theorem yb_X8_hearGapCommit_27 {n : Nat} {ad aa : Nat → Nat → Nat} {σ0 : Sto} {o0 : Nat} (ho0 : Ob n 8 o0) {Q : Sto → Prop} {Qy : Yc → Prop} (hQ : ∀ (σ' : Sto) (Y' : Yc), Qy Y' → HY n ad aa σ' Y' → Fy n ad aa σ0 σ' → Q σ')  (p1 : Int32) (σ : Sto) (Y : Yc) (hR : HY n ad aa σ Y) (F : Fy n ad aa σ0 σ) (h : by_X8_hearGapCommit_27 n o0  Qy p1 Y) : b_X8_hearGapCommit_27 (ad 8 o0)  Q p1 σ := by
  unfold by_X8_hearGapCommit_27 at h
  unfold b_X8_hearGapCommit_27
  exact yb_X8_hearGapCommit_28 ho0 hQ  p1 (0 : Int32) _ _ hR F  h
def wy_X8_hearGapCommit (n : Nat) (o0 : Nat) (p1 : Int32) (Y : Yc) (Qy : Yc → Prop) : Prop := (∀ x3 : Int32, x3 = yI Y 201 o0 → ((¬ p1 = (x3 + (1 : Int32)) → by_X8_hearGapCommit_27 n o0  Qy p1 Y) ∧ (p1 = (x3 + (1 : Int32)) → (wy_X2_isFull n o0  Y (fun (x11 : Int32) (Y8 : Yc) => ((¬ x11 = 0 → by_X8_hearGapCommit_27 n o0  Qy p1 Y8) ∧ (x11 = 0 → by_X8_hearGapCommit_28 n o0  Qy p1 (1 : Int32) Y8)))))))
set_option maxHeartbeats 4000000 in
set_option maxRecDepth 100000 in
theorem y_X8_hearGapCommit {n : Nat} {ad aa : Nat → Nat → Nat} {o0 : Nat} {p1 : Int32} {σ : Sto} {Y : Yc} {Q : Sto → Prop} {Qy : Yc → Prop} (hR : HY n ad aa σ Y) (ho0 : Ob n 8 o0) (h : wy_X8_hearGapCommit n o0 p1 Y Qy) (hQ : ∀ (σ' : Sto) (Y' : Yc), Qy Y' → HY n ad aa σ' Y' → Fy n ad aa σ σ' → Q σ') : wp_X8_hearGapCommit (ad 8 o0) p1 σ Q := by
  have F : Fy n ad aa σ σ := Fy.rf
  unfold wy_X8_hearGapCommit at h
  unfold wp_X8_hearGapCommit
  refine ⟨hR.K ho0, ?_⟩
  have a1 : sP σ (ad 8 o0) 7 = some (ad 2 o0) := hR.lk ho0 7 (by decide) rfl
  refine ⟨_, a1, ?_⟩
  refine ⟨hR.K (ob_807 ho0), ?_⟩
  intro x3 e4
  have e4 : x3 = yI Y 201 o0 := e4.trans (hR.I (x := 201) (ob_807 ho0) 1 (by decide) rfl)
  have h := h x3 e4
  refine ⟨fun c5 => ?_, fun c5 => ?_⟩
  · have h := h.1 c5
    exact yb_X8_hearGapCommit_27 ho0 hQ  p1 _ _ hR F  h
  · have h := h.2 c5
    have a6 : sP σ (ad 8 o0) 7 = some (ad 2 o0) := hR.lk ho0 7 (by decide) rfl
    refine y_X2_isFull hR (ob_807 ho0)  h (fun x11 σ7 Y8 h hR10 f9 => ?_)
    have F := F.trans f9
    have hR := hR10
    refine ⟨fun c14 => ?_, fun c14 => ?_⟩
    · have h := h.1 c14
      exact yb_X8_hearGapCommit_27 ho0 hQ  p1 _ _ hR F  h
    · have h := h.2 c14
      exact yb_X8_hearGapCommit_28 ho0 hQ  p1 (1 : Int32) _ _ hR F  h
def wy_X8_hearGapReply (n : Nat) (o0 : Nat) (p1 : Nat) (Y : Yc) (Qy : Yc → Prop) : Prop := (wy_X8_leads n o0  Y (fun (x5 : Int32) (Y2 : Yc) => ((x5 = 0 → Qy Y2) ∧ (¬ x5 = 0 → (∀ x9 : Int32, x9 = yI Y2 804 o0 → ((¬ x9 = (1 : Int32) → Qy Y2) ∧ (x9 = (1 : Int32) → (∀ x13 : Int32, x13 = yI Y2 306 p1 → (∀ x17 : Int32, x17 = yI Y2 201 o0 → ((x13 = x17 → (∀ x24 : Int32, x24 = yI Y2 503 o0 → (∀ x26 : Int32, x26 = yI Y2 302 p1 → (∀ x28 : Int32, x28 = x24 ||| ((1 : Int32) <<< (x26 &&& 31)) → (∀ x33 : Int32, x33 = yI (uI Y2 503 o0 x28) 503 o0 → (wy_J6_bitCount_0f7a4 n x33 (uI Y2 503 o0 x28) (fun (x39 : Int32) (Y36 : Yc) => (∀ x44 : Int32, x44 = yI Y36 401 0 → ((x39 < x44 → Qy Y36) ∧ (¬ x39 < x44 → (wy_X8_takeHeld n o0  (uI Y36 804 o0 (0 : Int32)) (fun (Y49 : Yc) => Qy Y49)))))))))))) ∧ (¬ x13 = x17 → Qy Y2)))))))))))
set_option maxHeartbeats 4000000 in
set_option maxRecDepth 100000 in
theorem y_X8_hearGapReply {n : Nat} {ad aa : Nat → Nat → Nat} {o0 : Nat} {p1 : Nat} {σ : Sto} {Y : Yc} {Q : Sto → Prop} {Qy : Yc → Prop} (hR : HY n ad aa σ Y) (ho0 : Ob n 8 o0) (hp1 : Ob n 3 p1) (h : wy_X8_hearGapReply n o0 p1 Y Qy) (hQ : ∀ (σ' : Sto) (Y' : Yc), Qy Y' → HY n ad aa σ' Y' → Fy n ad aa σ σ' → Q σ') : wp_X8_hearGapReply (ad 8 o0) (some (ad 3 p1)) σ Q := by
  have F : Fy n ad aa σ σ := Fy.rf
  unfold wy_X8_hearGapReply at h
  unfold wp_X8_hearGapReply
  refine ⟨hR.K ho0, ?_⟩
  refine y_X8_leads hR ho0  h (fun x5 σ1 Y2 h hR4 f3 => ?_)
  have F := F.trans f3
  have hR := hR4
  refine ⟨fun c8 => ?_, fun c8 => ?_⟩
  · have h := h.1 c8
    exact hQ _ _ h hR F
  · have h := h.2 c8
    refine ⟨hR.K ho0, ?_⟩
    intro x9 e10
    have e10 : x9 = yI Y2 804 o0 := e10.trans (hR.I (x := 804) ho0 4 (by decide) rfl)
    have h := h x9 e10
    refine ⟨fun c11 => ?_, fun c11 => ?_⟩
    · have h := h.1 c11
      exact hQ _ _ h hR F
    · have h := h.2 c11
      refine ⟨_, rfl, ?_⟩
      refine ⟨hR.K hp1, ?_⟩
      intro x13 e14
      have e14 : x13 = yI Y2 306 p1 := e14.trans (hR.I (x := 306) hp1 6 (by decide) rfl)
      have h := h x13 e14
      have a15 : sP σ1 (ad 8 o0) 7 = some (ad 2 o0) := hR.lk ho0 7 (by decide) rfl
      refine ⟨_, a15, ?_⟩
      refine ⟨hR.K (ob_807 ho0), ?_⟩
      intro x17 e18
      have e18 : x17 = yI Y2 201 o0 := e18.trans (hR.I (x := 201) (ob_807 ho0) 1 (by decide) rfl)
      have h := h x17 e18
      refine ⟨fun c19 => ?_, fun c19 => ?_⟩
      · have h := h.1 c19
        have a20 : sP σ1 (ad 8 o0) 10 = some (ad 5 o0) := hR.lk ho0 10 (by decide) rfl
        intro r21 e22
        have e22 := e22.trans (a20)
        subst e22
        refine ⟨_, rfl, ?_⟩
        refine ⟨hR.K (ob_810 ho0), ?_⟩
        intro x24 e25
        have e25 : x24 = yI Y2 503 o0 := e25.trans (hR.I (x := 503) (ob_810 ho0) 3 (by decide) rfl)
        have h := h x24 e25
        intro x26 e27
        have e27 : x26 = yI Y2 302 p1 := e27.trans (hR.I (x := 302) hp1 2 (by decide) rfl)
        have h := h x26 e27
        intro x28 e29
        have h := h x28 e29
        have w30 := hR.wI (x := 503) (ob_810 ho0) 3 (by decide) rfl x28
        have F := F.trans w30.2
        have hR := w30.1
        have a31 : sP σ1 (ad 8 o0) 10 = some (ad 5 o0) := hR.lk ho0 10 (by decide) rfl
        refine ⟨_, a31, ?_⟩
        refine ⟨hR.K (ob_810 ho0), ?_⟩
        intro x33 e34
        have e34 : x33 = yI (uI Y2 503 o0 x28) 503 o0 := e34.trans (hR.I (x := 503) (ob_810 ho0) 3 (by decide) rfl)
        have h := h x33 e34
        refine y_J6_bitCount_0f7a4 hR  h (fun x39 σ35 Y36 h hR38 f37 => ?_)
        have F := F.trans f37
        have hR := hR38
        refine ⟨hR.K ho0, ?_⟩
        have a42 : sP σ35 (ad 8 o0) 1 = some (ad 4 0) := hR.lk ho0 1 (by decide) rfl
        refine ⟨_, a42, ?_⟩
        refine ⟨hR.K ob_4, ?_⟩
        intro x44 e45
        have e45 : x44 = yI Y36 401 0 := e45.trans (hR.I (x := 401) ob_4 1 (by decide) rfl)
        have h := h x44 e45
        refine ⟨fun c46 => ?_, fun c46 => ?_⟩
        · have h := h.1 c46
          exact hQ _ _ h hR F
        · have h := h.2 c46
          have w47 := hR.wI (x := 804) ho0 4 (by decide) rfl (0 : Int32)
          have F := F.trans w47.2
          have hR := w47.1
          refine y_X8_takeHeld hR ho0  h (fun σ48 Y49 h hR51 f50 => ?_)
          have F := F.trans f50
          have hR := hR51
          exact hQ _ _ h hR F
      · have h := h.2 c19
        exact hQ _ _ h hR F
def wy_X8_hearSync (n : Nat) (o0 : Nat) (p1 : Nat) (Y : Yc) (Qy : Yc → Prop) : Prop := (wy_X8_leads n o0  Y (fun (x5 : Int32) (Y2 : Yc) => ((¬ x5 = 0 → Qy Y2) ∧ (x5 = 0 → (∀ x9 : Int32, x9 = yI Y2 804 o0 → ((¬ x9 = 0 → Qy Y2) ∧ (x9 = 0 → (∀ x14 : Int32, x14 = yI Y2 201 o0 → (∀ x17 : Int32, x17 = yI Y2 201 p1 → ((x17 ≤ x14 → (wy_X2_copyFirst n o0 p1 Y2 (fun (Y22 : Yc) => (∀ x28 : Int32, x28 = yI Y22 809 o0 → (∀ x30 : Int32, x30 = yI Y22 201 p1 → (wy_J9_max_7cf53 n x28 x30 Y22 (fun (x36 : Int32) (Y33 : Yc) => (∀ x41 : Int32, x41 = yI (uI Y33 809 o0 x36) 800 o0 → (∀ y44 : Int64, y44 = yJ (uI Y33 809 o0 x36) 805 o0 → (wy_X4_leaderOf n y44 (uI Y33 809 o0 x36) (fun (x51 : Int32) (Y48 : Yc) => (∀ y54 : Int64, y54 = yJ Y48 805 o0 → (∀ x56 : Int32, x56 = yI Y48 201 p1 → (wy_X4_send n (6 : Int32) x41 x51 y54 x56 Y48 (fun (o62 : Nat) (Y59 : Yc) => Qy Y59))))))))))))))) ∧ (¬ x17 ≤ x14 → Qy Y2)))))))))))
set_option maxHeartbeats 4000000 in
set_option maxRecDepth 100000 in
theorem y_X8_hearSync {n : Nat} {ad aa : Nat → Nat → Nat} {o0 : Nat} {p1 : Nat} {σ : Sto} {Y : Yc} {Q : Sto → Prop} {Qy : Yc → Prop} (hR : HY n ad aa σ Y) (ho0 : Ob n 8 o0) (hp1 : Ob n 2 p1) (h : wy_X8_hearSync n o0 p1 Y Qy) (hQ : ∀ (σ' : Sto) (Y' : Yc), Qy Y' → HY n ad aa σ' Y' → Fy n ad aa σ σ' → Q σ') : wp_X8_hearSync (ad 8 o0) (some (ad 2 p1)) σ Q := by
  have F : Fy n ad aa σ σ := Fy.rf
  unfold wy_X8_hearSync at h
  unfold wp_X8_hearSync
  refine ⟨hR.K ho0, ?_⟩
  refine y_X8_leads hR ho0  h (fun x5 σ1 Y2 h hR4 f3 => ?_)
  have F := F.trans f3
  have hR := hR4
  refine ⟨fun c8 => ?_, fun c8 => ?_⟩
  · have h := h.1 c8
    exact hQ _ _ h hR F
  · have h := h.2 c8
    refine ⟨hR.K ho0, ?_⟩
    intro x9 e10
    have e10 : x9 = yI Y2 804 o0 := e10.trans (hR.I (x := 804) ho0 4 (by decide) rfl)
    have h := h x9 e10
    refine ⟨fun c11 => ?_, fun c11 => ?_⟩
    · have h := h.1 c11
      exact hQ _ _ h hR F
    · have h := h.2 c11
      have a12 : sP σ1 (ad 8 o0) 7 = some (ad 2 o0) := hR.lk ho0 7 (by decide) rfl
      refine ⟨_, a12, ?_⟩
      refine ⟨hR.K (ob_807 ho0), ?_⟩
      intro x14 e15
      have e15 : x14 = yI Y2 201 o0 := e15.trans (hR.I (x := 201) (ob_807 ho0) 1 (by decide) rfl)
      have h := h x14 e15
      refine ⟨_, rfl, ?_⟩
      refine ⟨hR.K hp1, ?_⟩
      intro x17 e18
      have e18 : x17 = yI Y2 201 p1 := e18.trans (hR.I (x := 201) hp1 1 (by decide) rfl)
      have h := h x17 e18
      refine ⟨fun c19 => ?_, fun c19 => ?_⟩
      · have h := h.1 c19
        have a20 : sP σ1 (ad 8 o0) 7 = some (ad 2 o0) := hR.lk ho0 7 (by decide) rfl
        refine y_X2_copyFirst hR (ob_807 ho0) hp1 h (fun σ21 Y22 h hR24 f23 => ?_)
        have F := F.trans f23
        have hR := hR24
        refine ⟨hR.K ho0, ?_⟩
        intro x28 e29
        have e29 : x28 = yI Y22 809 o0 := e29.trans (hR.I (x := 809) ho0 9 (by decide) rfl)
        have h := h x28 e29
        refine ⟨hR.K hp1, ?_⟩
        intro x30 e31
        have e31 : x30 = yI Y22 201 p1 := e31.trans (hR.I (x := 201) hp1 1 (by decide) rfl)
        have h := h x30 e31
        refine y_J9_max_7cf53 hR  h (fun x36 σ32 Y33 h hR35 f34 => ?_)
        have F := F.trans f34
        have hR := hR35
        refine ⟨hR.K ho0, ?_⟩
        have w39 := hR.wI (x := 809) ho0 9 (by decide) rfl x36
        have F := F.trans w39.2
        have hR := w39.1
        have a40 : sP σ32 (ad 8 o0) 1 = some (ad 4 0) := hR.lk ho0 1 (by decide) rfl
        intro x41 e42
        have e42 : x41 = yI (uI Y33 809 o0 x36) 800 o0 := e42.trans (hR.I (x := 800) ho0 0 (by decide) rfl)
        have h := h x41 e42
        have a43 : sP σ32 (ad 8 o0) 1 = some (ad 4 0) := hR.lk ho0 1 (by decide) rfl
        intro y44 e45
        have e45 : y44 = yJ (uI Y33 809 o0 x36) 805 o0 := e45.trans (hR.J (x := 805) ho0 5 (by decide) rfl)
        have h := h y44 e45
        refine ⟨_, a43, ?_⟩
        refine ⟨hR.K ob_4, ?_⟩
        refine y_X4_leaderOf hR  h (fun x51 σ47 Y48 h hR50 f49 => ?_)
        have F := F.trans f49
        have hR := hR50
        refine ⟨hR.K ho0, ?_⟩
        intro y54 e55
        have e55 : y54 = yJ Y48 805 o0 := e55.trans (hR.J (x := 805) ho0 5 (by decide) rfl)
        have h := h y54 e55
        refine ⟨hR.K hp1, ?_⟩
        intro x56 e57
        have e57 : x56 = yI Y48 201 p1 := e57.trans (hR.I (x := 201) hp1 1 (by decide) rfl)
        have h := h x56 e57
        refine ⟨hR.K ob_4, ?_⟩
        refine y_X4_send hR  h (fun o62 σ58 Y59 h hO63 hR61 f60 => ?_)
        have F := F.trans f60
        have hR := hR61
        exact hQ _ _ h hR F
      · have h := h.2 c19
        exact hQ _ _ h hR F
def by_X8_hearSyncReply_56 (n : Nat) (o0 : Nat)  (Qy : Yc → Prop) (p1 : Nat) (p2 : Int32) (Y : Yc) : Prop := (∀ x5 : Int32, x5 = yI Y 504 o0 → (∀ x8 : Int32, x8 = yI Y 302 p1 → (∀ x10 : Int32, x10 = x5 ||| ((1 : Int32) <<< (x8 &&& 31)) → (∀ x15 : Int32, x15 = yI (uI Y 504 o0 x10) 504 o0 → (wy_J6_bitCount_0f7a4 n x15 (uI Y 504 o0 x10) (fun (x21 : Int32) (Y18 : Yc) => (∀ x26 : Int32, x26 = yI Y18 401 0 → ((x21 < x26 → Qy Y18) ∧ (¬ x21 < x26 → (wy_X8_sendOthers n o0 (7 : Int32) p2 (uI Y18 808 o0 p2) (fun (Y31 : Yc) => Qy Y31)))))))))))
set_option maxHeartbeats 4000000 in
set_option maxRecDepth 100000 in
theorem yb_X8_hearSyncReply_56 {n : Nat} {ad aa : Nat → Nat → Nat} {σ0 : Sto} {o0 : Nat} (ho0 : Ob n 8 o0) {Q : Sto → Prop} {Qy : Yc → Prop} (hQ : ∀ (σ' : Sto) (Y' : Yc), Qy Y' → HY n ad aa σ' Y' → Fy n ad aa σ0 σ' → Q σ')  (p1 : Nat) (p2 : Int32) (σ : Sto) (Y : Yc) (hR : HY n ad aa σ Y) (F : Fy n ad aa σ0 σ) (hp1 : Ob n 3 p1) (h : by_X8_hearSyncReply_56 n o0  Qy p1 p2 Y) : b_X8_hearSyncReply_56 (ad 8 o0)  Q (some (ad 3 p1)) p2 σ := by
  unfold by_X8_hearSyncReply_56 at h
  unfold b_X8_hearSyncReply_56
  refine ⟨hR.K ho0, ?_⟩
  have a1 : sP σ (ad 8 o0) 10 = some (ad 5 o0) := hR.lk ho0 10 (by decide) rfl
  intro r2 e3
  have e3 := e3.trans (a1)
  subst e3
  refine ⟨_, rfl, ?_⟩
  refine ⟨hR.K (ob_810 ho0), ?_⟩
  intro x5 e6
  have e6 : x5 = yI Y 504 o0 := e6.trans (hR.I (x := 504) (ob_810 ho0) 4 (by decide) rfl)
  have h := h x5 e6
  refine ⟨_, rfl, ?_⟩
  refine ⟨hR.K hp1, ?_⟩
  intro x8 e9
  have e9 : x8 = yI Y 302 p1 := e9.trans (hR.I (x := 302) hp1 2 (by decide) rfl)
  have h := h x8 e9
  intro x10 e11
  have h := h x10 e11
  have w12 := hR.wI (x := 504) (ob_810 ho0) 4 (by decide) rfl x10
  have F := F.trans w12.2
  have hR := w12.1
  have a13 : sP σ (ad 8 o0) 10 = some (ad 5 o0) := hR.lk ho0 10 (by decide) rfl
  refine ⟨_, a13, ?_⟩
  refine ⟨hR.K (ob_810 ho0), ?_⟩
  intro x15 e16
  have e16 : x15 = yI (uI Y 504 o0 x10) 504 o0 := e16.trans (hR.I (x := 504) (ob_810 ho0) 4 (by decide) rfl)
  have h := h x15 e16
  refine y_J6_bitCount_0f7a4 hR  h (fun x21 σ17 Y18 h hR20 f19 => ?_)
  have F := F.trans f19
  have hR := hR20
  refine ⟨hR.K ho0, ?_⟩
  have a24 : sP σ17 (ad 8 o0) 1 = some (ad 4 0) := hR.lk ho0 1 (by decide) rfl
  refine ⟨_, a24, ?_⟩
  refine ⟨hR.K ob_4, ?_⟩
  intro x26 e27
  have e27 : x26 = yI Y18 401 0 := e27.trans (hR.I (x := 401) ob_4 1 (by decide) rfl)
  have h := h x26 e27
  refine ⟨fun c28 => ?_, fun c28 => ?_⟩
  · have h := h.1 c28
    exact hQ _ _ h hR F
  · have h := h.2 c28
    have w29 := hR.wI (x := 808) ho0 8 (by decide) rfl p2
    have F := F.trans w29.2
    have hR := w29.1
    refine y_X8_sendOthers hR ho0  h (fun σ30 Y31 h hR33 f32 => ?_)
    have F := F.trans f32
    have hR := hR33
    exact hQ _ _ h hR F
def wy_X8_hearSyncReply (n : Nat) (o0 : Nat) (p1 : Nat) (Y : Yc) (Qy : Yc → Prop) : Prop := (∀ x2 : Int32, x2 = yI Y 306 p1 → (wy_X8_leads n o0  Y (fun (x8 : Int32) (Y5 : Yc) => ((x8 = 0 → Qy Y5) ∧ (¬ x8 = 0 → (∀ x12 : Int32, x12 = yI Y5 804 o0 → ((x12 = (2 : Int32) → Qy Y5) ∧ (¬ x12 = (2 : Int32) → (∀ x15 : Int32, x15 = yI Y5 808 o0 → ((x15 < x2 → (∀ x20 : Int32, x20 = yI Y5 505 o0 → ((x2 = x20 → by_X8_hearSyncReply_56 n o0  Qy p1 x2 Y5) ∧ (¬ x2 = x20 → by_X8_hearSyncReply_56 n o0  Qy p1 x2 (uI (uI Y5 505 o0 x2) 504 o0 (0 : Int32)))))) ∧ (¬ x15 < x2 → Qy Y5)))))))))))
set_option maxHeartbeats 4000000 in
set_option maxRecDepth 100000 in
theorem y_X8_hearSyncReply {n : Nat} {ad aa : Nat → Nat → Nat} {o0 : Nat} {p1 : Nat} {σ : Sto} {Y : Yc} {Q : Sto → Prop} {Qy : Yc → Prop} (hR : HY n ad aa σ Y) (ho0 : Ob n 8 o0) (hp1 : Ob n 3 p1) (h : wy_X8_hearSyncReply n o0 p1 Y Qy) (hQ : ∀ (σ' : Sto) (Y' : Yc), Qy Y' → HY n ad aa σ' Y' → Fy n ad aa σ σ' → Q σ') : wp_X8_hearSyncReply (ad 8 o0) (some (ad 3 p1)) σ Q := by
  have F : Fy n ad aa σ σ := Fy.rf
  unfold wy_X8_hearSyncReply at h
  unfold wp_X8_hearSyncReply
  refine ⟨_, rfl, ?_⟩
  refine ⟨hR.K hp1, ?_⟩
  intro x2 e3
  have e3 : x2 = yI Y 306 p1 := e3.trans (hR.I (x := 306) hp1 6 (by decide) rfl)
  have h := h x2 e3
  refine ⟨hR.K ho0, ?_⟩
  refine y_X8_leads hR ho0  h (fun x8 σ4 Y5 h hR7 f6 => ?_)
  have F := F.trans f6
  have hR := hR7
  refine ⟨fun c11 => ?_, fun c11 => ?_⟩
  · have h := h.1 c11
    exact hQ _ _ h hR F
  · have h := h.2 c11
    refine ⟨hR.K ho0, ?_⟩
    intro x12 e13
    have e13 : x12 = yI Y5 804 o0 := e13.trans (hR.I (x := 804) ho0 4 (by decide) rfl)
    have h := h x12 e13
    refine ⟨fun c14 => ?_, fun c14 => ?_⟩
    · have h := h.1 c14
      exact hQ _ _ h hR F
    · have h := h.2 c14
      intro x15 e16
      have e16 : x15 = yI Y5 808 o0 := e16.trans (hR.I (x := 808) ho0 8 (by decide) rfl)
      have h := h x15 e16
      refine ⟨fun c17 => ?_, fun c17 => ?_⟩
      · have h := h.1 c17
        have a18 : sP σ4 (ad 8 o0) 10 = some (ad 5 o0) := hR.lk ho0 10 (by decide) rfl
        refine ⟨_, a18, ?_⟩
        refine ⟨hR.K (ob_810 ho0), ?_⟩
        intro x20 e21
        have e21 : x20 = yI Y5 505 o0 := e21.trans (hR.I (x := 505) (ob_810 ho0) 5 (by decide) rfl)
        have h := h x20 e21
        refine ⟨fun c22 => ?_, fun c22 => ?_⟩
        · have h := h.1 c22
          exact yb_X8_hearSyncReply_56 ho0 hQ  p1 x2 _ _ hR F hp1 h
        · have h := h.2 c22
          have a23 : sP σ4 (ad 8 o0) 10 = some (ad 5 o0) := hR.lk ho0 10 (by decide) rfl
          have w24 := hR.wI (x := 505) (ob_810 ho0) 5 (by decide) rfl x2
          have F := F.trans w24.2
          have hR := w24.1
          have a25 : sP σ4 (ad 8 o0) 10 = some (ad 5 o0) := hR.lk ho0 10 (by decide) rfl
          have w26 := hR.wI (x := 504) (ob_810 ho0) 4 (by decide) rfl (0 : Int32)
          have F := F.trans w26.2
          have hR := w26.1
          exact yb_X8_hearSyncReply_56 ho0 hQ  p1 x2 _ _ hR F hp1 h
      · have h := h.2 c17
        exact hQ _ _ h hR F
def wy_X8_hearPoint (n : Nat) (o0 : Nat) (p1 : Int32) (Y : Yc) (Qy : Yc → Prop) : Prop := (wy_X8_leads n o0  Y (fun (x5 : Int32) (Y2 : Yc) => ((¬ x5 = 0 → Qy Y2) ∧ (x5 = 0 → (∀ x9 : Int32, x9 = yI Y2 804 o0 → ((x9 = (2 : Int32) → Qy Y2) ∧ (¬ x9 = (2 : Int32) → (∀ x12 : Int32, x12 = yI Y2 808 o0 → ((p1 ≤ x12 → Qy Y2) ∧ (¬ p1 ≤ x12 → (∀ x15 : Int32, x15 = yI Y2 809 o0 → ((x15 < p1 → Qy Y2) ∧ (¬ x15 < p1 → Qy (uI Y2 808 o0 p1))))))))))))))
set_option maxHeartbeats 4000000 in
set_option maxRecDepth 100000 in
theorem y_X8_hearPoint {n : Nat} {ad aa : Nat → Nat → Nat} {o0 : Nat} {p1 : Int32} {σ : Sto} {Y : Yc} {Q : Sto → Prop} {Qy : Yc → Prop} (hR : HY n ad aa σ Y) (ho0 : Ob n 8 o0) (h : wy_X8_hearPoint n o0 p1 Y Qy) (hQ : ∀ (σ' : Sto) (Y' : Yc), Qy Y' → HY n ad aa σ' Y' → Fy n ad aa σ σ' → Q σ') : wp_X8_hearPoint (ad 8 o0) p1 σ Q := by
  have F : Fy n ad aa σ σ := Fy.rf
  unfold wy_X8_hearPoint at h
  unfold wp_X8_hearPoint
  refine ⟨hR.K ho0, ?_⟩
  refine y_X8_leads hR ho0  h (fun x5 σ1 Y2 h hR4 f3 => ?_)
  have F := F.trans f3
  have hR := hR4
  refine ⟨fun c8 => ?_, fun c8 => ?_⟩
  · have h := h.1 c8
    exact hQ _ _ h hR F
  · have h := h.2 c8
    refine ⟨hR.K ho0, ?_⟩
    intro x9 e10
    have e10 : x9 = yI Y2 804 o0 := e10.trans (hR.I (x := 804) ho0 4 (by decide) rfl)
    have h := h x9 e10
    refine ⟨fun c11 => ?_, fun c11 => ?_⟩
    · have h := h.1 c11
      exact hQ _ _ h hR F
    · have h := h.2 c11
      intro x12 e13
      have e13 : x12 = yI Y2 808 o0 := e13.trans (hR.I (x := 808) ho0 8 (by decide) rfl)
      have h := h x12 e13
      refine ⟨fun c14 => ?_, fun c14 => ?_⟩
      · have h := h.1 c14
        exact hQ _ _ h hR F
      · have h := h.2 c14
        intro x15 e16
        have e16 : x15 = yI Y2 809 o0 := e16.trans (hR.I (x := 809) ho0 9 (by decide) rfl)
        have h := h x15 e16
        refine ⟨fun c17 => ?_, fun c17 => ?_⟩
        · have h := h.1 c17
          exact hQ _ _ h hR F
        · have h := h.2 c17
          have w18 := hR.wI (x := 808) ho0 8 (by decide) rfl p1
          have F := F.trans w18.2
          have hR := w18.1
          exact hQ _ _ h hR F
def wy_J9_max_f86c9 (n : Nat) (p0 : Int64) (p2 : Int64) (Y : Yc) (Qy : Int64 → Yc → Prop) : Prop := (((lg_cmp p0 p2) < 0 → Qy p2 Y) ∧ (¬ (lg_cmp p0 p2) < 0 → Qy p0 Y))
set_option maxHeartbeats 4000000 in
set_option maxRecDepth 100000 in
theorem y_J9_max_f86c9 {n : Nat} {ad aa : Nat → Nat → Nat} {p0 : Int64} {p2 : Int64} {σ : Sto} {Y : Yc} {Q : Int64 → Sto → Prop} {Qy : Int64 → Yc → Prop} (hR : HY n ad aa σ Y) (h : wy_J9_max_f86c9 n p0 p2 Y Qy) (hQ : ∀ (r : Int64) (σ' : Sto) (Y' : Yc), Qy r Y' → HY n ad aa σ' Y' → Fy n ad aa σ σ' → Q r σ') : wp_J9_max_f86c9 p0 p2 σ Q := by
  have F : Fy n ad aa σ σ := Fy.rf
  unfold wy_J9_max_f86c9 at h
  unfold wp_J9_max_f86c9
  refine ⟨fun c1 => ?_, fun c1 => ?_⟩
  · have h := h.1 c1
    exact hQ _ _ _ h hR F
  · have h := h.2 c1
    exact hQ _ _ _ h hR F
