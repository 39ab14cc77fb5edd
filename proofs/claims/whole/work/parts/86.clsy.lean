def by_X8_mergedEntry_140 (n : Nat) (o0 : Nat)  (Ly61 : Int32 × Int64 × Option Rq × Int32 → Yc → Prop) (Qy : Option Rq → Yc → Prop) (p1 : Int32) (p2 : Int64) (p5 : Option Rq) (p6 : Int32) (Y : Yc) : Prop := (∀ x1 : Int32, x1 = p6 + (1 : Int32) → Ly61 (p1, p2, p5, x1) Y)
set_option maxHeartbeats 4000000 in
set_option maxRecDepth 100000 in
theorem yb_X8_mergedEntry_140 {n : Nat} {ad aa : Nat → Nat → Nat} {σ0 : Sto} {o0 : Nat} (ho0 : Ob n 8 o0) {Ly61 : Int32 × Int64 × Option Rq × Int32 → Yc → Prop} {L61 : Int32 × Int64 × Option Nat × Int32 → Sto → Prop} {Q : Option Nat → Sto → Prop} {Qy : Option Rq → Yc → Prop} (hQ : ∀ (p : Option Nat) (q : Option Rq) (σ' : Sto) (Y' : Yc), Qy q Y' → rq σ' p q → HY n ad aa σ' Y' → Fy n ad aa σ0 σ' → Q p σ') (hL61 : ∀ (t9 : Int32 × Int64 × Option Nat × Int32) (t : Int32 × Int64 × Option Rq × Int32) (σ : Sto) (Y : Yc), Ly61 t Y → HY n ad aa σ Y → Fy n ad aa σ0 σ → (∃ a5 : Option Nat, (t.1, t.2.1, a5, t.2.2.2) = t9 ∧ rq σ a5 t.2.2.1 ∧ True) → L61 t9 σ) (p1 : Int32) (p2 : Int64) (p5 : Option Rq) (p6 : Int32) (σ : Sto) (Y : Yc) (hR : HY n ad aa σ Y) (F : Fy n ad aa σ0 σ) {ap5 : Option Nat} (hp5 : rq σ ap5 p5) (h : by_X8_mergedEntry_140 n o0 Ly61 Qy p1 p2 p5 p6 Y) : b_X8_mergedEntry_140 (ad 8 o0) L61 Q p1 p2 ap5 p6 σ := by
  unfold by_X8_mergedEntry_140 at h
  unfold b_X8_mergedEntry_140
  intro x1 e2
  have h := h x1 e2
  exact hL61 _ _ _ _ h hR F ⟨_, rfl, hp5, trivial⟩
def by_X8_mergedEntry_138 (n : Nat) (o0 : Nat)  (Ly61 : Int32 × Int64 × Option Rq × Int32 → Yc → Prop) (Qy : Option Rq → Yc → Prop) (p1 : Int32) (p2 : Int64) (p6 : Int32) (s0 : Option Rq) (Y : Yc) : Prop := by_X8_mergedEntry_140 n o0 Ly61 Qy p1 p2 s0 p6 Y
set_option maxHeartbeats 4000000 in
set_option maxRecDepth 100000 in
theorem yb_X8_mergedEntry_138 {n : Nat} {ad aa : Nat → Nat → Nat} {σ0 : Sto} {o0 : Nat} (ho0 : Ob n 8 o0) {Ly61 : Int32 × Int64 × Option Rq × Int32 → Yc → Prop} {L61 : Int32 × Int64 × Option Nat × Int32 → Sto → Prop} {Q : Option Nat → Sto → Prop} {Qy : Option Rq → Yc → Prop} (hQ : ∀ (p : Option Nat) (q : Option Rq) (σ' : Sto) (Y' : Yc), Qy q Y' → rq σ' p q → HY n ad aa σ' Y' → Fy n ad aa σ0 σ' → Q p σ') (hL61 : ∀ (t9 : Int32 × Int64 × Option Nat × Int32) (t : Int32 × Int64 × Option Rq × Int32) (σ : Sto) (Y : Yc), Ly61 t Y → HY n ad aa σ Y → Fy n ad aa σ0 σ → (∃ a5 : Option Nat, (t.1, t.2.1, a5, t.2.2.2) = t9 ∧ rq σ a5 t.2.2.1 ∧ True) → L61 t9 σ) (p1 : Int32) (p2 : Int64) (p6 : Int32) (s0 : Option Rq) (σ : Sto) (Y : Yc) (hR : HY n ad aa σ Y) (F : Fy n ad aa σ0 σ) {as0 : Option Nat} (hs0 : rq σ as0 s0) (h : by_X8_mergedEntry_138 n o0 Ly61 Qy p1 p2 p6 s0 Y) : b_X8_mergedEntry_138 (ad 8 o0) L61 Q p1 p2 p6 as0 σ := by
  unfold by_X8_mergedEntry_138 at h
  unfold b_X8_mergedEntry_138
  exact yb_X8_mergedEntry_140 ho0 hQ hL61 p1 p2 s0 p6 _ _ hR F hs0 h
def fy_X8_mergedEntry_61 (n : Nat) (o0 : Nat)  (Qy : Option Rq → Yc → Prop) (Ly61 : Int32 × Int64 × Option Rq × Int32 → Yc → Prop) (t : Int32 × Int64 × Option Rq × Int32) (Y : Yc) : Prop := (∀ x3 : Int32, x3 = yI Y 400 0 → ((x3 ≤ t.2.2.2 → Qy t.2.2.1 Y) ∧ (¬ x3 ≤ t.2.2.2 → (wy_X5_looksAt n o0 t.2.2.2 t.2.1 Y (fun (x12 : Int32) (Y9 : Yc) => ((x12 = 0 → by_X8_mergedEntry_140 n o0 Ly61 Qy t.1 t.2.1 t.2.2.1 t.2.2.2 Y9) ∧ (¬ x12 = 0 → (vp_in t.2.2.2 n ∧ (wy_X2_has n (7 + 7 * o0 + t.2.2.2.toNatClampNeg) t.1 Y9 (fun (x29 : Int32) (Y26 : Yc) => ((x29 = 0 → by_X8_mergedEntry_140 n o0 Ly61 Qy t.1 t.2.1 t.2.2.1 t.2.2.2 Y26) ∧ (¬ x29 = 0 → (vp_in t.2.2.2 n ∧ (wy_X2_at n (7 + 7 * o0 + t.2.2.2.toNatClampNeg) t.1 Y26 (fun (q46 : Option Rq) (Y43 : Yc) => ((q46 = none → Qy none Y43) ∧ (∀ w51 : Rq, q46 = some w51 → ((t.2.2.1 = none → by_X8_mergedEntry_138 n o0 Ly61 Qy t.1 t.2.1 t.2.2.2 q46 Y43) ∧ (∀ w55 : Rq, t.2.2.1 = some w55 → by_X8_mergedEntry_138 n o0 Ly61 Qy t.1 t.2.1 t.2.2.2 t.2.2.1 Y43)))))))))))))))))))
set_option maxHeartbeats 4000000 in
set_option maxRecDepth 100000 in
theorem yf_X8_mergedEntry_61 {n : Nat} {ad aa : Nat → Nat → Nat} {σ0 : Sto} {o0 : Nat} (ho0 : Ob n 8 o0) {Q : Option Nat → Sto → Prop} {Qy : Option Rq → Yc → Prop} {Ly61 : Int32 × Int64 × Option Rq × Int32 → Yc → Prop} {L61 : Int32 × Int64 × Option Nat × Int32 → Sto → Prop} (hQ : ∀ (p : Option Nat) (q : Option Rq) (σ' : Sto) (Y' : Yc), Qy q Y' → rq σ' p q → HY n ad aa σ' Y' → Fy n ad aa σ0 σ' → Q p σ') (hL61 : ∀ (t9 : Int32 × Int64 × Option Nat × Int32) (t : Int32 × Int64 × Option Rq × Int32) (σ : Sto) (Y : Yc), Ly61 t Y → HY n ad aa σ Y → Fy n ad aa σ0 σ → (∃ a5 : Option Nat, (t.1, t.2.1, a5, t.2.2.2) = t9 ∧ rq σ a5 t.2.2.1 ∧ True) → L61 t9 σ) : ∀ (t9 : Int32 × Int64 × Option Nat × Int32) (t : Int32 × Int64 × Option Rq × Int32) (σ : Sto) (Y : Yc), HY n ad aa σ Y → Fy n ad aa σ0 σ → (∃ a5 : Option Nat, (t.1, t.2.1, a5, t.2.2.2) = t9 ∧ rq σ a5 t.2.2.1 ∧ True) → fy_X8_mergedEntry_61 n o0  Qy Ly61 t Y → f_X8_mergedEntry_61 (ad 8 o0)  Q L61 t9 σ := by
  intro t9 t σ Y hR F hT h
  obtain ⟨a5, rfl, hL_5, _⟩ := hT
  unfold fy_X8_mergedEntry_61 at h
  unfold f_X8_mergedEntry_61
  dsimp only
  refine ⟨hR.K ho0, ?_⟩
  have a1 : sP σ (ad 8 o0) 1 = some (ad 4 0) := hR.lk ho0 1 (by decide) rfl
  refine ⟨_, a1, ?_⟩
  refine ⟨hR.K ob_4, ?_⟩
  intro x3 e4
  have e4 : x3 = yI Y 400 0 := e4.trans (hR.I (x := 400) ob_4 0 (by decide) rfl)
  have h := h x3 e4
  refine ⟨fun c5 => ?_, fun c5 => ?_⟩
  · have h := h.1 c5
    exact hQ _ _ _ _ h hL_5 hR F
  · have h := h.2 c5
    have a6 : sP σ (ad 8 o0) 10 = some (ad 5 o0) := hR.lk ho0 10 (by decide) rfl
    refine ⟨_, a6, ?_⟩
    refine ⟨hR.K (ob_810 ho0), ?_⟩
    refine y_X5_looksAt hR (ob_810 ho0)  h (fun x12 σ8 Y9 h hR11 f10 => ?_)
    have hL_5 := rq.mv hR f10 hL_5
    have F := F.trans f10
    have hR := hR11
    refine ⟨fun c15 => ?_, fun c15 => ?_⟩
    · have h := h.1 c15
      exact yb_X8_mergedEntry_140 ho0 hQ hL61 t.1 t.2.1 t.2.2.1 t.2.2.2 _ _ hR F hL_5 h
    · have h := h.2 c15
      refine ⟨hR.K ho0, ?_⟩
      have a16 : sP σ8 (ad 8 o0) 10 = some (ad 5 o0) := hR.lk ho0 10 (by decide) rfl
      refine ⟨_, a16, ?_⟩
      refine ⟨hR.K (ob_810 ho0), ?_⟩
      have a18 : sP σ8 (ad 5 o0) 8 = some (aa 508 o0) := hR.ar (x := 508) (ob_810 ho0) 8 (by decide) rfl (by decide)
      refine ⟨_, a18, ?_⟩
      refine ⟨hR.arK (x := 508) (ob_810 ho0) 8 (by decide) rfl (by decide), ?_⟩
      have hz := h.1
      refine ⟨by first | exact hR.arV (x := 508) (ob_810 ho0) 8 (by decide) rfl (by decide) hz | exact hz, ?_⟩
      have h := h.2
      have hO23 : Ob n 2 (7 + 7 * o0 + t.2.2.2.toNatClampNeg) := ob_508 (ob_810 ho0) hz
      intro r21 e22
      have e22 := e22.trans (hR.el (x := 508) (ob_810 ho0) 8 (by decide) rfl (by decide) (el_508 hz))
      subst e22
      refine ⟨_, rfl, ?_⟩
      refine ⟨hR.K hO23, ?_⟩
      refine y_X2_has hR hO23  h (fun x29 σ25 Y26 h hR28 f27 => ?_)
      have hL_5 := rq.mv hR f27 hL_5
      have F := F.trans f27
      have hR := hR28
      refine ⟨fun c32 => ?_, fun c32 => ?_⟩
      · have h := h.1 c32
        exact yb_X8_mergedEntry_140 ho0 hQ hL61 t.1 t.2.1 t.2.2.1 t.2.2.2 _ _ hR F hL_5 h
      · have h := h.2 c32
        refine ⟨hR.K ho0, ?_⟩
        have a33 : sP σ25 (ad 8 o0) 10 = some (ad 5 o0) := hR.lk ho0 10 (by decide) rfl
        refine ⟨_, a33, ?_⟩
        refine ⟨hR.K (ob_810 ho0), ?_⟩
        have a35 : sP σ25 (ad 5 o0) 8 = some (aa 508 o0) := hR.ar (x := 508) (ob_810 ho0) 8 (by decide) rfl (by decide)
        refine ⟨_, a35, ?_⟩
        refine ⟨hR.arK (x := 508) (ob_810 ho0) 8 (by decide) rfl (by decide), ?_⟩
        have hz := h.1
        refine ⟨by first | exact hR.arV (x := 508) (ob_810 ho0) 8 (by decide) rfl (by decide) hz | exact hz, ?_⟩
        have h := h.2
        have hO40 : Ob n 2 (7 + 7 * o0 + t.2.2.2.toNatClampNeg) := ob_508 (ob_810 ho0) hz
        intro r38 e39
        have e39 := e39.trans (hR.el (x := 508) (ob_810 ho0) 8 (by decide) rfl (by decide) (el_508 hz))
        subst e39
        refine ⟨_, rfl, ?_⟩
        refine ⟨hR.K hO40, ?_⟩
        refine y_X2_at hR hO40  h (fun r48 q46 σ42 Y43 h hr47 hR45 f44 => ?_)
        have hL_5 := rq.mv hR f44 hL_5
        have F := F.trans f44
        have hR := hR45
        refine ⟨fun c49 => ?_, fun b50 c49 => ?_⟩
        · have h := h.1 (rq_none hr47 c49)
          exact hQ _ _ _ _ h rq_nn hR F
        · obtain ⟨w51, ew52⟩ := rq_some hr47 c49
          have h := h.2 w51 ew52
          refine ⟨fun c53 => ?_, fun b54 c53 => ?_⟩
          · have h := h.1 (rq_none hL_5 c53)
            exact yb_X8_mergedEntry_138 ho0 hQ hL61 t.1 t.2.1 t.2.2.2 q46 _ _ hR F hr47 h
          · obtain ⟨w55, ew56⟩ := rq_some hL_5 c53
            have h := h.2 w55 ew56
            exact yb_X8_mergedEntry_138 ho0 hQ hL61 t.1 t.2.1 t.2.2.2 t.2.2.1 _ _ hR F hL_5 h
def by_X8_mergedEntry_58 (n : Nat) (o0 : Nat)  (Qy : Option Rq → Yc → Prop) (p1 : Int32) (p2 : Int64) (p5 : Option Rq) (Y : Yc) : Prop := LFy (fy_X8_mergedEntry_61 n o0  Qy) (p1, p2, p5, (0 : Int32)) Y
set_option maxHeartbeats 4000000 in
set_option maxRecDepth 100000 in
theorem yb_X8_mergedEntry_58 {n : Nat} {ad aa : Nat → Nat → Nat} {σ0 : Sto} {o0 : Nat} (ho0 : Ob n 8 o0) {Q : Option Nat → Sto → Prop} {Qy : Option Rq → Yc → Prop} (hQ : ∀ (p : Option Nat) (q : Option Rq) (σ' : Sto) (Y' : Yc), Qy q Y' → rq σ' p q → HY n ad aa σ' Y' → Fy n ad aa σ0 σ' → Q p σ')  (p1 : Int32) (p2 : Int64) (p5 : Option Rq) (σ : Sto) (Y : Yc) (hR : HY n ad aa σ Y) (F : Fy n ad aa σ0 σ) {ap5 : Option Nat} (hp5 : rq σ ap5 p5) (h : by_X8_mergedEntry_58 n o0  Qy p1 p2 p5 Y) : b_X8_mergedEntry_58 (ad 8 o0)  Q p1 p2 ap5 σ := by
  unfold by_X8_mergedEntry_58 at h
  unfold b_X8_mergedEntry_58
  exact lfy (fun σ t9 t => ∃ a5 : Option Nat, (t.1, t.2.1, a5, t.2.2.2) = t9 ∧ rq σ a5 t.2.2.1 ∧ True) h hR F ⟨_, rfl, hp5, trivial⟩ (fun Ly L hL t9 t σ Y hR F hT h => yf_X8_mergedEntry_61 ho0 hQ  hL t9 t σ Y hR F hT h)
def by_X8_mergedEntry_44 (n : Nat) (o0 : Nat)  (Qy : Option Rq → Yc → Prop) (p1 : Int32) (p2 : Int64) (p4 : Int32) (s0 : Option Rq) (Y : Yc) : Prop := ((p4 = 0 → by_X8_mergedEntry_58 n o0  Qy p1 p2 s0 Y) ∧ (¬ p4 = 0 → ((s0 = none → Qy none Y) ∧ (∀ w4 : Rq, s0 = some w4 → by_X8_mergedEntry_58 n o0  Qy p1 p2 s0 Y))))
set_option maxHeartbeats 4000000 in
set_option maxRecDepth 100000 in
theorem yb_X8_mergedEntry_44 {n : Nat} {ad aa : Nat → Nat → Nat} {σ0 : Sto} {o0 : Nat} (ho0 : Ob n 8 o0) {Q : Option Nat → Sto → Prop} {Qy : Option Rq → Yc → Prop} (hQ : ∀ (p : Option Nat) (q : Option Rq) (σ' : Sto) (Y' : Yc), Qy q Y' → rq σ' p q → HY n ad aa σ' Y' → Fy n ad aa σ0 σ' → Q p σ')  (p1 : Int32) (p2 : Int64) (p4 : Int32) (s0 : Option Rq) (σ : Sto) (Y : Yc) (hR : HY n ad aa σ Y) (F : Fy n ad aa σ0 σ) {as0 : Option Nat} (hs0 : rq σ as0 s0) (h : by_X8_mergedEntry_44 n o0  Qy p1 p2 p4 s0 Y) : b_X8_mergedEntry_44 (ad 8 o0)  Q p1 p2 p4 as0 σ := by
  unfold by_X8_mergedEntry_44 at h
  unfold b_X8_mergedEntry_44
  refine ⟨fun c1 => ?_, fun c1 => ?_⟩
  · have h := h.1 c1
    exact yb_X8_mergedEntry_58 ho0 hQ  p1 p2 s0 _ _ hR F hs0 h
  · have h := h.2 c1
    refine ⟨fun c2 => ?_, fun b3 c2 => ?_⟩
    · have h := h.1 (rq_none hs0 c2)
      exact hQ _ _ _ _ h rq_nn hR F
    · obtain ⟨w4, ew5⟩ := rq_some hs0 c2
      have h := h.2 w4 ew5
      exact yb_X8_mergedEntry_58 ho0 hQ  p1 p2 s0 _ _ hR F hs0 h
def by_X8_mergedEntry_25 (n : Nat) (o0 : Nat)  (Qy : Option Rq → Yc → Prop) (p1 : Int32) (p2 : Int64) (s0 : Int32) (Y : Yc) : Prop := ((s0 = 0 → by_X8_mergedEntry_44 n o0  Qy p1 p2 s0 none Y) ∧ (¬ s0 = 0 → (wy_X2_at n o0 p1 Y (fun (q8 : Option Rq) (Y5 : Yc) => by_X8_mergedEntry_44 n o0  Qy p1 p2 s0 q8 Y5))))
set_option maxHeartbeats 4000000 in
set_option maxRecDepth 100000 in
theorem yb_X8_mergedEntry_25 {n : Nat} {ad aa : Nat → Nat → Nat} {σ0 : Sto} {o0 : Nat} (ho0 : Ob n 8 o0) {Q : Option Nat → Sto → Prop} {Qy : Option Rq → Yc → Prop} (hQ : ∀ (p : Option Nat) (q : Option Rq) (σ' : Sto) (Y' : Yc), Qy q Y' → rq σ' p q → HY n ad aa σ' Y' → Fy n ad aa σ0 σ' → Q p σ')  (p1 : Int32) (p2 : Int64) (s0 : Int32) (σ : Sto) (Y : Yc) (hR : HY n ad aa σ Y) (F : Fy n ad aa σ0 σ) (h : by_X8_mergedEntry_25 n o0  Qy p1 p2 s0 Y) : b_X8_mergedEntry_25 (ad 8 o0)  Q p1 p2 s0 σ := by
  unfold by_X8_mergedEntry_25 at h
  unfold b_X8_mergedEntry_25
  refine ⟨fun c1 => ?_, fun c1 => ?_⟩
  · have h := h.1 c1
    exact yb_X8_mergedEntry_44 ho0 hQ  p1 p2 s0 none _ _ hR F rq_nn h
  · have h := h.2 c1
    refine ⟨hR.K ho0, ?_⟩
    have a2 : sP σ (ad 8 o0) 7 = some (ad 2 o0) := hR.lk ho0 7 (by decide) rfl
    refine ⟨_, a2, ?_⟩
    refine ⟨hR.K (ob_807 ho0), ?_⟩
    refine y_X2_at hR (ob_807 ho0)  h (fun r10 q8 σ4 Y5 h hr9 hR7 f6 => ?_)
    have F := F.trans f6
    have hR := hR7
    exact yb_X8_mergedEntry_44 ho0 hQ  p1 p2 s0 q8 _ _ hR F hr9 h
def by_X8_mergedEntry_24 (n : Nat) (o0 : Nat)  (Qy : Option Rq → Yc → Prop) (p1 : Int32) (p2 : Int64) (Y : Yc) : Prop := by_X8_mergedEntry_25 n o0  Qy p1 p2 (0 : Int32) Y
set_option maxHeartbeats 4000000 in
set_option maxRecDepth 100000 in
theorem yb_X8_mergedEntry_24 {n : Nat} {ad aa : Nat → Nat → Nat} {σ0 : Sto} {o0 : Nat} (ho0 : Ob n 8 o0) {Q : Option Nat → Sto → Prop} {Qy : Option Rq → Yc → Prop} (hQ : ∀ (p : Option Nat) (q : Option Rq) (σ' : Sto) (Y' : Yc), Qy q Y' → rq σ' p q → HY n ad aa σ' Y' → Fy n ad aa σ0 σ' → Q p σ')  (p1 : Int32) (p2 : Int64) (σ : Sto) (Y : Yc) (hR : HY n ad aa σ Y) (F : Fy n ad aa σ0 σ) (h : by_X8_mergedEntry_24 n o0  Qy p1 p2 Y) : b_X8_mergedEntry_24 (ad 8 o0)  Q p1 p2 σ := by
  unfold by_X8_mergedEntry_24 at h
  unfold b_X8_mergedEntry_24
  exact yb_X8_mergedEntry_25 ho0 hQ  p1 p2 (0 : Int32) _ _ hR F  h
def wy_X8_mergedEntry (n : Nat) (o0 : Nat) (p1 : Int32) (p2 : Int64) (Y : Yc) (Qy : Option Rq → Yc → Prop) : Prop := (∀ y1 : Int64, y1 = yJ Y 806 o0 → ((¬ (lg_cmp y1 p2) = 0 → by_X8_mergedEntry_24 n o0  Qy p1 p2 Y) ∧ ((lg_cmp y1 p2) = 0 → (wy_X2_has n o0 p1 Y (fun (x10 : Int32) (Y7 : Yc) => ((x10 = 0 → by_X8_mergedEntry_24 n o0  Qy p1 p2 Y7) ∧ (¬ x10 = 0 → by_X8_mergedEntry_25 n o0  Qy p1 p2 (1 : Int32) Y7)))))))
set_option maxHeartbeats 4000000 in
set_option maxRecDepth 100000 in
theorem y_X8_mergedEntry {n : Nat} {ad aa : Nat → Nat → Nat} {o0 : Nat} {p1 : Int32} {p2 : Int64} {σ : Sto} {Y : Yc} {Q : Option Nat → Sto → Prop} {Qy : Option Rq → Yc → Prop} (hR : HY n ad aa σ Y) (ho0 : Ob n 8 o0) (h : wy_X8_mergedEntry n o0 p1 p2 Y Qy) (hQ : ∀ (p : Option Nat) (q : Option Rq) (σ' : Sto) (Y' : Yc), Qy q Y' → rq σ' p q → HY n ad aa σ' Y' → Fy n ad aa σ σ' → Q p σ') : wp_X8_mergedEntry (ad 8 o0) p1 p2 σ Q := by
  have F : Fy n ad aa σ σ := Fy.rf
  unfold wy_X8_mergedEntry at h
  unfold wp_X8_mergedEntry
  refine ⟨hR.K ho0, ?_⟩
  intro y1 e2
  have e2 : y1 = yJ Y 806 o0 := e2.trans (hR.J (x := 806) ho0 6 (by decide) rfl)
  have h := h y1 e2
  refine ⟨fun c3 => ?_, fun c3 => ?_⟩
  · have h := h.1 c3
    exact yb_X8_mergedEntry_24 ho0 hQ  p1 p2 _ _ hR F  h
  · have h := h.2 c3
    have a4 : sP σ (ad 8 o0) 7 = some (ad 2 o0) := hR.lk ho0 7 (by decide) rfl
    refine ⟨_, a4, ?_⟩
    refine ⟨hR.K (ob_807 ho0), ?_⟩
    refine y_X2_has hR (ob_807 ho0)  h (fun x10 σ6 Y7 h hR9 f8 => ?_)
    have F := F.trans f8
    have hR := hR9
    refine ⟨fun c13 => ?_, fun c13 => ?_⟩
    · have h := h.1 c13
      exact yb_X8_mergedEntry_24 ho0 hQ  p1 p2 _ _ hR F  h
    · have h := h.2 c13
      exact yb_X8_mergedEntry_25 ho0 hQ  p1 p2 (1 : Int32) _ _ hR F  h
def wy_X8_becomeNormal (n : Nat) (o0 : Nat)  (Y : Yc) (Qy : Yc → Prop) : Prop := (∀ y1 : Int64, y1 = yJ Y 805 o0 → (wy_X5_clear n o0  (uI (uJ Y 806 o0 y1) 804 o0 (0 : Int32)) (fun (Y8 : Yc) => (∀ x17 : Int32, x17 = yI (uI Y8 809 o0 (0 : Int32)) 408 0 → Qy (uI (uI Y8 809 o0 (0 : Int32)) 811 o0 x17)))))
set_option maxHeartbeats 4000000 in
set_option maxRecDepth 100000 in
theorem y_X8_becomeNormal {n : Nat} {ad aa : Nat → Nat → Nat} {o0 : Nat} {σ : Sto} {Y : Yc} {Q : Sto → Prop} {Qy : Yc → Prop} (hR : HY n ad aa σ Y) (ho0 : Ob n 8 o0) (h : wy_X8_becomeNormal n o0  Y Qy) (hQ : ∀ (σ' : Sto) (Y' : Yc), Qy Y' → HY n ad aa σ' Y' → Fy n ad aa σ σ' → Q σ') : wp_X8_becomeNormal (ad 8 o0)  σ Q := by
  have F : Fy n ad aa σ σ := Fy.rf
  unfold wy_X8_becomeNormal at h
  unfold wp_X8_becomeNormal
  refine ⟨hR.K ho0, ?_⟩
  intro y1 e2
  have e2 : y1 = yJ Y 805 o0 := e2.trans (hR.J (x := 805) ho0 5 (by decide) rfl)
  have h := h y1 e2
  have w3 := hR.wJ (x := 806) ho0 6 (by decide) rfl y1
  have F := F.trans w3.2
  have hR := w3.1
  have w4 := hR.wI (x := 804) ho0 4 (by decide) rfl (0 : Int32)
  have F := F.trans w4.2
  have hR := w4.1
  have a5 : sP σ (ad 8 o0) 10 = some (ad 5 o0) := hR.lk ho0 10 (by decide) rfl
  refine ⟨_, a5, ?_⟩
  refine ⟨hR.K (ob_810 ho0), ?_⟩
  refine y_X5_clear hR (ob_810 ho0)  h (fun σ7 Y8 h hR10 f9 => ?_)
  have F := F.trans f9
  have hR := hR10
  refine ⟨hR.K ho0, ?_⟩
  have w14 := hR.wI (x := 809) ho0 9 (by decide) rfl (0 : Int32)
  have F := F.trans w14.2
  have hR := w14.1
  have a15 : sP σ7 (ad 8 o0) 1 = some (ad 4 0) := hR.lk ho0 1 (by decide) rfl
  refine ⟨_, a15, ?_⟩
  refine ⟨hR.K ob_4, ?_⟩
  intro x17 e18
  have e18 : x17 = yI (uI Y8 809 o0 (0 : Int32)) 408 0 := e18.trans (hR.I (x := 408) ob_4 8 (by decide) rfl)
  have h := h x17 e18
  have w19 := hR.wI (x := 811) ho0 11 (by decide) rfl x17
  have F := F.trans w19.2
  have hR := w19.1
  exact hQ _ _ h hR F
def by_X8_sendLogToOthers_49 (n : Nat) (o0 : Nat)  (Ly2 : Int32 × Int32 → Yc → Prop) (Qy : Yc → Prop) (p1 : Int32) (p2 : Int32) (Y : Yc) : Prop := (∀ x1 : Int32, x1 = p2 + (1 : Int32) → Ly2 (p1, x1) Y)
set_option maxHeartbeats 4000000 in
set_option maxRecDepth 100000 in
theorem yb_X8_sendLogToOthers_49 {n : Nat} {ad aa : Nat → Nat → Nat} {σ0 : Sto} {o0 : Nat} (ho0 : Ob n 8 o0) {Ly2 : Int32 × Int32 → Yc → Prop} {L2 : Int32 × Int32 → Sto → Prop} {Q : Sto → Prop} {Qy : Yc → Prop} (hQ : ∀ (σ' : Sto) (Y' : Yc), Qy Y' → HY n ad aa σ' Y' → Fy n ad aa σ0 σ' → Q σ') (hL2 : ∀ (t9 : Int32 × Int32) (t : Int32 × Int32) (σ : Sto) (Y : Yc), Ly2 t Y → HY n ad aa σ Y → Fy n ad aa σ0 σ → ((t.1, t.2) = t9 ∧ True) → L2 t9 σ) (p1 : Int32) (p2 : Int32) (σ : Sto) (Y : Yc) (hR : HY n ad aa σ Y) (F : Fy n ad aa σ0 σ) (h : by_X8_sendLogToOthers_49 n o0 Ly2 Qy p1 p2 Y) : b_X8_sendLogToOthers_49 (ad 8 o0) L2 Q p1 p2 σ := by
  unfold by_X8_sendLogToOthers_49 at h
  unfold b_X8_sendLogToOthers_49
  intro x1 e2
  have h := h x1 e2
  exact hL2 _ _ _ _ h hR F ⟨rfl, trivial⟩
def fy_X8_sendLogToOthers_2 (n : Nat) (o0 : Nat)  (Qy : Yc → Prop) (Ly2 : Int32 × Int32 → Yc → Prop) (t : Int32 × Int32) (Y : Yc) : Prop := (∀ x3 : Int32, x3 = yI Y 400 0 → ((x3 ≤ t.2 → Qy Y) ∧ (¬ x3 ≤ t.2 → (∀ x6 : Int32, x6 = yI Y 800 o0 → ((t.2 = x6 → by_X8_sendLogToOthers_49 n o0 Ly2 Qy t.1 t.2 Y) ∧ (¬ t.2 = x6 → (∀ x10 : Int32, x10 = yI Y 800 o0 → (∀ y12 : Int64, y12 = yJ Y 805 o0 → (wy_X4_send n t.1 x10 t.2 y12 (0 : Int32) Y (fun (o18 : Nat) (Y15 : Yc) => (wy_X2_become n (56 + o18) o0 Y15 (fun (Y26 : Yc) => by_X8_sendLogToOthers_49 n o0 Ly2 Qy t.1 t.2 Y26))))))))))))
set_option maxHeartbeats 4000000 in
set_option maxRecDepth 100000 in
theorem yf_X8_sendLogToOthers_2 {n : Nat} {ad aa : Nat → Nat → Nat} {σ0 : Sto} {o0 : Nat} (ho0 : Ob n 8 o0) {Q : Sto → Prop} {Qy : Yc → Prop} {Ly2 : Int32 × Int32 → Yc → Prop} {L2 : Int32 × Int32 → Sto → Prop} (hQ : ∀ (σ' : Sto) (Y' : Yc), Qy Y' → HY n ad aa σ' Y' → Fy n ad aa σ0 σ' → Q σ') (hL2 : ∀ (t9 : Int32 × Int32) (t : Int32 × Int32) (σ : Sto) (Y : Yc), Ly2 t Y → HY n ad aa σ Y → Fy n ad aa σ0 σ → ((t.1, t.2) = t9 ∧ True) → L2 t9 σ) : ∀ (t9 : Int32 × Int32) (t : Int32 × Int32) (σ : Sto) (Y : Yc), HY n ad aa σ Y → Fy n ad aa σ0 σ → ((t.1, t.2) = t9 ∧ True) → fy_X8_sendLogToOthers_2 n o0  Qy Ly2 t Y → f_X8_sendLogToOthers_2 (ad 8 o0)  Q L2 t9 σ := by
  intro t9 t σ Y hR F hT h
  obtain ⟨rfl, _⟩ := hT
  unfold fy_X8_sendLogToOthers_2 at h
  unfold f_X8_sendLogToOthers_2
  dsimp only
  refine ⟨hR.K ho0, ?_⟩
  have a1 : sP σ (ad 8 o0) 1 = some (ad 4 0) := hR.lk ho0 1 (by decide) rfl
  refine ⟨_, a1, ?_⟩
  refine ⟨hR.K ob_4, ?_⟩
  intro x3 e4
  have e4 : x3 = yI Y 400 0 := e4.trans (hR.I (x := 400) ob_4 0 (by decide) rfl)
  have h := h x3 e4
  refine ⟨fun c5 => ?_, fun c5 => ?_⟩
  · have h := h.1 c5
    exact hQ _ _ h hR F
  · have h := h.2 c5
    intro x6 e7
    have e7 : x6 = yI Y 800 o0 := e7.trans (hR.I (x := 800) ho0 0 (by decide) rfl)
    have h := h x6 e7
    refine ⟨fun c8 => ?_, fun c8 => ?_⟩
    · have h := h.1 c8
      exact yb_X8_sendLogToOthers_49 ho0 hQ hL2 t.1 t.2 _ _ hR F  h
    · have h := h.2 c8
      have a9 : sP σ (ad 8 o0) 1 = some (ad 4 0) := hR.lk ho0 1 (by decide) rfl
      intro x10 e11
      have e11 : x10 = yI Y 800 o0 := e11.trans (hR.I (x := 800) ho0 0 (by decide) rfl)
      have h := h x10 e11
      intro y12 e13
      have e13 : y12 = yJ Y 805 o0 := e13.trans (hR.J (x := 805) ho0 5 (by decide) rfl)
      have h := h y12 e13
      refine y_X4_send hR  h (fun o18 σ14 Y15 h hO19 hR17 f16 => ?_)
      have F := F.trans f16
      have hR := hR17
      refine ⟨_, rfl, ?_⟩
      refine ⟨hR.K hO19, ?_⟩
      have a22 : sP σ14 (ad 3 o18) 11 = some (ad 2 (56 + o18)) := hR.lk hO19 11 (by decide) rfl
      refine ⟨hR.K ho0, ?_⟩
      have a23 : sP σ14 (ad 8 o0) 7 = some (ad 2 o0) := hR.lk ho0 7 (by decide) rfl
      refine ⟨_, a22, ?_⟩
      refine ⟨hR.K (ob_311 hO19), ?_⟩
      rw [a23]
      refine y_X2_become hR (ob_311 hO19) (ob_807 ho0) h (fun σ25 Y26 h hR28 f27 => ?_)
      have F := F.trans f27
      have hR := hR28
      exact yb_X8_sendLogToOthers_49 ho0 hQ hL2 t.1 t.2 _ _ hR F  h
def wy_X8_sendLogToOthers (n : Nat) (o0 : Nat) (p1 : Int32) (Y : Yc) (Qy : Yc → Prop) : Prop := LFy (fy_X8_sendLogToOthers_2 n o0  Qy) (p1, (0 : Int32)) Y
set_option maxHeartbeats 4000000 in
set_option maxRecDepth 100000 in
theorem y_X8_sendLogToOthers {n : Nat} {ad aa : Nat → Nat → Nat} {o0 : Nat} {p1 : Int32} {σ : Sto} {Y : Yc} {Q : Sto → Prop} {Qy : Yc → Prop} (hR : HY n ad aa σ Y) (ho0 : Ob n 8 o0) (h : wy_X8_sendLogToOthers n o0 p1 Y Qy) (hQ : ∀ (σ' : Sto) (Y' : Yc), Qy Y' → HY n ad aa σ' Y' → Fy n ad aa σ σ' → Q σ') : wp_X8_sendLogToOthers (ad 8 o0) p1 σ Q := by
  have F : Fy n ad aa σ σ := Fy.rf
  unfold wy_X8_sendLogToOthers at h
  unfold wp_X8_sendLogToOthers
  exact lfy (fun σ t9 t => (t.1, t.2) = t9 ∧ True) h hR F ⟨rfl, trivial⟩ (fun Ly L hL t9 t σ Y hR F hT h => yf_X8_sendLogToOthers_2 ho0 hQ  hL t9 t σ Y hR F hT h)
def by_X8_merge_280 (n : Nat) (o0 : Nat)  (Qy : Yc → Prop) (s0 : Int32) (s1 : Nat) (Y : Yc) : Prop := (wy_X8_becomeNormal n o0  (uI Y 202 s1 s0) (fun (Y4 : Yc) => (wy_X8_sendLogToOthers n o0 (10 : Int32) Y4 (fun (Y11 : Yc) => Qy Y11))))
set_option maxHeartbeats 4000000 in
set_option maxRecDepth 100000 in
theorem yb_X8_merge_280 {n : Nat} {ad aa : Nat → Nat → Nat} {σ0 : Sto} {o0 : Nat} (ho0 : Ob n 8 o0) {Q : Sto → Prop} {Qy : Yc → Prop} (hQ : ∀ (σ' : Sto) (Y' : Yc), Qy Y' → HY n ad aa σ' Y' → Fy n ad aa σ0 σ' → Q σ')  (s0 : Int32) (s1 : Nat) (σ : Sto) (Y : Yc) (hR : HY n ad aa σ Y) (F : Fy n ad aa σ0 σ) (hs1 : Ob n 2 s1) (h : by_X8_merge_280 n o0  Qy s0 s1 Y) : b_X8_merge_280 (ad 8 o0)  Q s0 (some (ad 2 s1)) σ := by
  unfold by_X8_merge_280 at h
  unfold b_X8_merge_280
  refine ⟨_, rfl, ?_⟩
  refine ⟨hR.K hs1, ?_⟩
  have w2 := hR.wI (x := 202) hs1 2 (by decide) rfl s0
  have F := F.trans w2.2
  have hR := w2.1
  refine ⟨hR.K ho0, ?_⟩
  refine y_X8_becomeNormal hR ho0  h (fun σ3 Y4 h hR6 f5 => ?_)
  have F := F.trans f5
  have hR := hR6
  refine ⟨hR.K ho0, ?_⟩
  refine y_X8_sendLogToOthers hR ho0  h (fun σ10 Y11 h hR13 f12 => ?_)
  have F := F.trans f12
  have hR := hR13
  exact hQ _ _ h hR F
def by_X8_merge_236 (n : Nat) (o0 : Nat)  (Qy : Yc → Prop) (p1 : Int64) (p4 : Int32) (p5 : Int32) (Y : Yc) : Prop := (wy_J9_min_7cf53 n p4 (100 : Int32) Y (fun (x6 : Int32) (Y3 : Yc) => (wy_X11_sessionOf n p1 (uI Y3 201 o0 x6) (fun (x16 : Int32) (Y13 : Yc) => (∀ y19 : Int64, y19 = yJ Y13 805 o0 → (wy_X11_sessionOf n y19 Y13 (fun (x25 : Int32) (Y22 : Yc) => ((¬ x16 = x25 → (∀ x31 : Int32, x31 = yI Y22 201 o0 → by_X8_merge_280 n o0  Qy x31 o0 Y22)) ∧ (x16 = x25 → by_X8_merge_280 n o0  Qy p5 o0 Y22)))))))))
set_option maxHeartbeats 4000000 in
set_option maxRecDepth 100000 in
theorem yb_X8_merge_236 {n : Nat} {ad aa : Nat → Nat → Nat} {σ0 : Sto} {o0 : Nat} (ho0 : Ob n 8 o0) {Q : Sto → Prop} {Qy : Yc → Prop} (hQ : ∀ (σ' : Sto) (Y' : Yc), Qy Y' → HY n ad aa σ' Y' → Fy n ad aa σ0 σ' → Q σ')  (p1 : Int64) (p4 : Int32) (p5 : Int32) (σ : Sto) (Y : Yc) (hR : HY n ad aa σ Y) (F : Fy n ad aa σ0 σ) (h : by_X8_merge_236 n o0  Qy p1 p4 p5 Y) : b_X8_merge_236 (ad 8 o0)  Q p1 p4 p5 σ := by
  unfold by_X8_merge_236 at h
  unfold b_X8_merge_236
  refine ⟨hR.K ho0, ?_⟩
  have a1 : sP σ (ad 8 o0) 7 = some (ad 2 o0) := hR.lk ho0 7 (by decide) rfl
  refine y_J9_min_7cf53 hR  h (fun x6 σ2 Y3 h hR5 f4 => ?_)
  have F := F.trans f4
  have hR := hR5
  refine ⟨_, a1, ?_⟩
  refine ⟨hR.K (ob_807 ho0), ?_⟩
  have w10 := hR.wI (x := 201) (ob_807 ho0) 1 (by decide) rfl x6
  have F := F.trans w10.2
  have hR := w10.1
  refine ⟨hR.K ho0, ?_⟩
  have a11 : sP σ2 (ad 8 o0) 7 = some (ad 2 o0) := hR.lk ho0 7 (by decide) rfl
  refine y_X11_sessionOf hR  h (fun x16 σ12 Y13 h hR15 f14 => ?_)
  have F := F.trans f14
  have hR := hR15
  refine ⟨hR.K ho0, ?_⟩
  intro y19 e20
  have e20 : y19 = yJ Y13 805 o0 := e20.trans (hR.J (x := 805) ho0 5 (by decide) rfl)
  have h := h y19 e20
  refine y_X11_sessionOf hR  h (fun x25 σ21 Y22 h hR24 f23 => ?_)
  have F := F.trans f23
  have hR := hR24
  refine ⟨fun c28 => ?_, fun c28 => ?_⟩
  · have h := h.1 c28
    refine ⟨hR.K ho0, ?_⟩
    have a29 : sP σ21 (ad 8 o0) 7 = some (ad 2 o0) := hR.lk ho0 7 (by decide) rfl
    refine ⟨_, a29, ?_⟩
    refine ⟨hR.K (ob_807 ho0), ?_⟩
    intro x31 e32
    have e32 : x31 = yI Y22 201 o0 := e32.trans (hR.I (x := 201) (ob_807 ho0) 1 (by decide) rfl)
    have h := h x31 e32
    rw [a11]
    exact yb_X8_merge_280 ho0 hQ  x31 o0 _ _ hR F (ob_807 ho0) h
  · have h := h.2 c28
    rw [a11]
    exact yb_X8_merge_280 ho0 hQ  p5 o0 _ _ hR F (ob_807 ho0) h
def fy_X8_merge_197 (n : Nat) (o0 : Nat)  (Qy : Yc → Prop) (Ly197 : Int64 × Int32 × Int32 × Int32 → Yc → Prop) (t : Int64 × Int32 × Int32 × Int32) (Y : Yc) : Prop := ((t.2.1 < t.2.2.2 → by_X8_merge_236 n o0  Qy t.1 t.2.1 t.2.2.1 Y) ∧ (¬ t.2.1 < t.2.2.2 → (((100 : Int32) < t.2.2.2 → by_X8_merge_236 n o0  Qy t.1 t.2.1 t.2.2.1 Y) ∧ (¬ (100 : Int32) < t.2.2.2 → (wy_X8_mergedEntry n o0 t.2.2.2 t.1 Y (fun (q10 : Option Rq) (Y7 : Yc) => (vp_in (t.2.2.2 - (1 : Int32)) 100 ∧ (∀ x15 : Int32, x15 = t.2.2.2 + (1 : Int32) → Ly197 (t.1, t.2.1, t.2.2.1, x15) (uS Y7 200 o0 (t.2.2.2 - (1 : Int32)).toNatClampNeg q10)))))))))
set_option maxHeartbeats 4000000 in
set_option maxRecDepth 100000 in
theorem yf_X8_merge_197 {n : Nat} {ad aa : Nat → Nat → Nat} {σ0 : Sto} {o0 : Nat} (ho0 : Ob n 8 o0) {Q : Sto → Prop} {Qy : Yc → Prop} {Ly197 : Int64 × Int32 × Int32 × Int32 → Yc → Prop} {L197 : Int64 × Int32 × Int32 × Int32 → Sto → Prop} (hQ : ∀ (σ' : Sto) (Y' : Yc), Qy Y' → HY n ad aa σ' Y' → Fy n ad aa σ0 σ' → Q σ') (hL197 : ∀ (t9 : Int64 × Int32 × Int32 × Int32) (t : Int64 × Int32 × Int32 × Int32) (σ : Sto) (Y : Yc), Ly197 t Y → HY n ad aa σ Y → Fy n ad aa σ0 σ → ((t.1, t.2.1, t.2.2.1, t.2.2.2) = t9 ∧ True) → L197 t9 σ) : ∀ (t9 : Int64 × Int32 × Int32 × Int32) (t : Int64 × Int32 × Int32 × Int32) (σ : Sto) (Y : Yc), HY n ad aa σ Y → Fy n ad aa σ0 σ → ((t.1, t.2.1, t.2.2.1, t.2.2.2) = t9 ∧ True) → fy_X8_merge_197 n o0  Qy Ly197 t Y → f_X8_merge_197 (ad 8 o0)  Q L197 t9 σ := by
  intro t9 t σ Y hR F hT h
  obtain ⟨rfl, _⟩ := hT
  unfold fy_X8_merge_197 at h
  unfold f_X8_merge_197
  dsimp only
  refine ⟨fun c1 => ?_, fun c1 => ?_⟩
  · have h := h.1 c1
    exact yb_X8_merge_236 ho0 hQ  t.1 t.2.1 t.2.2.1 _ _ hR F  h
  · have h := h.2 c1
    refine ⟨fun c2 => ?_, fun c2 => ?_⟩
    · have h := h.1 c2
      exact yb_X8_merge_236 ho0 hQ  t.1 t.2.1 t.2.2.1 _ _ hR F  h
    · have h := h.2 c2
      refine ⟨hR.K ho0, ?_⟩
      have a3 : sP σ (ad 8 o0) 7 = some (ad 2 o0) := hR.lk ho0 7 (by decide) rfl
      refine ⟨_, a3, ?_⟩
      refine ⟨hR.K (ob_807 ho0), ?_⟩
      have a5 : sP σ (ad 2 o0) 0 = some (aa 200 o0) := hR.ar (x := 200) (ob_807 ho0) 0 (by decide) rfl (by decide)
      refine y_X8_mergedEntry hR ho0  h (fun r12 q10 σ6 Y7 h hr11 hR9 f8 => ?_)
      have F := F.trans f8
      have hR := hR9
      refine ⟨_, a5, ?_⟩
      refine ⟨hR.arK (x := 200) (ob_807 ho0) 0 (by decide) rfl (by decide), ?_⟩
      have hz := h.1
      refine ⟨by first | exact hR.arV (x := 200) (ob_807 ho0) 0 (by decide) rfl (by decide) hz | exact hz, ?_⟩
      have h := h.2
      refine ⟨fun b hb => by have hb := rq_K hr11 hb; exact hb, ?_⟩
      have w14 := hR.wS (x := 200) (ob_807 ho0) 0 (by decide) rfl (by decide) ((t.2.2.2 - (1 : Int32)).toNatClampNeg) hr11
      have F := F.trans w14.2
      have hR := w14.1
      intro x15 e16
      have h := h x15 e16
      exact hL197 _ _ _ _ h hR F ⟨rfl, trivial⟩
def by_X8_merge_188 (n : Nat) (o0 : Nat)  (Ly117 : Int64 × Int32 × Int32 × Int32 → Yc → Prop) (Qy : Yc → Prop) (p1 : Int64) (p4 : Int32) (p5 : Int32) (p6 : Int32) (Y : Yc) : Prop := (∀ x1 : Int32, x1 = p6 + (1 : Int32) → Ly117 (p1, p4, p5, x1) Y)
set_option maxHeartbeats 4000000 in
set_option maxRecDepth 100000 in
theorem yb_X8_merge_188 {n : Nat} {ad aa : Nat → Nat → Nat} {σ0 : Sto} {o0 : Nat} (ho0 : Ob n 8 o0) {Ly117 : Int64 × Int32 × Int32 × Int32 → Yc → Prop} {L117 : Int64 × Int32 × Int32 × Int32 → Sto → Prop} {Q : Sto → Prop} {Qy : Yc → Prop} (hQ : ∀ (σ' : Sto) (Y' : Yc), Qy Y' → HY n ad aa σ' Y' → Fy n ad aa σ0 σ' → Q σ') (hL117 : ∀ (t9 : Int64 × Int32 × Int32 × Int32) (t : Int64 × Int32 × Int32 × Int32) (σ : Sto) (Y : Yc), Ly117 t Y → HY n ad aa σ Y → Fy n ad aa σ0 σ → ((t.1, t.2.1, t.2.2.1, t.2.2.2) = t9 ∧ True) → L117 t9 σ) (p1 : Int64) (p4 : Int32) (p5 : Int32) (p6 : Int32) (σ : Sto) (Y : Yc) (hR : HY n ad aa σ Y) (F : Fy n ad aa σ0 σ) (h : by_X8_merge_188 n o0 Ly117 Qy p1 p4 p5 p6 Y) : b_X8_merge_188 (ad 8 o0) L117 Q p1 p4 p5 p6 σ := by
  unfold by_X8_merge_188 at h
  unfold b_X8_merge_188
  intro x1 e2
  have h := h x1 e2
  exact hL117 _ _ _ _ h hR F ⟨rfl, trivial⟩
def by_X8_merge_186 (n : Nat) (o0 : Nat)  (Ly117 : Int64 × Int32 × Int32 × Int32 → Yc → Prop) (Qy : Yc → Prop) (p1 : Int64) (p4 : Int32) (p6 : Int32) (s0 : Int32) (Y : Yc) : Prop := by_X8_merge_188 n o0 Ly117 Qy p1 p4 s0 p6 Y
set_option maxHeartbeats 4000000 in
set_option maxRecDepth 100000 in
theorem yb_X8_merge_186 {n : Nat} {ad aa : Nat → Nat → Nat} {σ0 : Sto} {o0 : Nat} (ho0 : Ob n 8 o0) {Ly117 : Int64 × Int32 × Int32 × Int32 → Yc → Prop} {L117 : Int64 × Int32 × Int32 × Int32 → Sto → Prop} {Q : Sto → Prop} {Qy : Yc → Prop} (hQ : ∀ (σ' : Sto) (Y' : Yc), Qy Y' → HY n ad aa σ' Y' → Fy n ad aa σ0 σ' → Q σ') (hL117 : ∀ (t9 : Int64 × Int32 × Int32 × Int32) (t : Int64 × Int32 × Int32 × Int32) (σ : Sto) (Y : Yc), Ly117 t Y → HY n ad aa σ Y → Fy n ad aa σ0 σ → ((t.1, t.2.1, t.2.2.1, t.2.2.2) = t9 ∧ True) → L117 t9 σ) (p1 : Int64) (p4 : Int32) (p6 : Int32) (s0 : Int32) (σ : Sto) (Y : Yc) (hR : HY n ad aa σ Y) (F : Fy n ad aa σ0 σ) (h : by_X8_merge_186 n o0 Ly117 Qy p1 p4 p6 s0 Y) : b_X8_merge_186 (ad 8 o0) L117 Q p1 p4 p6 s0 σ := by
  unfold by_X8_merge_186 at h
  unfold b_X8_merge_186
  exact yb_X8_merge_188 ho0 hQ hL117 p1 p4 s0 p6 _ _ hR F  h
def fy_X8_merge_117 (n : Nat) (o0 : Nat)  (Qy : Yc → Prop) (Ly117 : Int64 × Int32 × Int32 × Int32 → Yc → Prop) (t : Int64 × Int32 × Int32 × Int32) (Y : Yc) : Prop := (∀ x3 : Int32, x3 = yI Y 400 0 → ((x3 ≤ t.2.2.2 → LFy (fy_X8_merge_197 n o0  Qy) (t.1, t.2.1, t.2.2.1, (1 : Int32)) Y) ∧ (¬ x3 ≤ t.2.2.2 → (wy_X5_looksAt n o0 t.2.2.2 t.1 Y (fun (x12 : Int32) (Y9 : Yc) => ((x12 = 0 → by_X8_merge_188 n o0 Ly117 Qy t.1 t.2.1 t.2.2.1 t.2.2.2 Y9) ∧ (¬ x12 = 0 → (vp_in t.2.2.2 n ∧ (∀ x25 : Int32, x25 = yI Y9 201 (7 + 7 * o0 + t.2.2.2.toNatClampNeg) → (wy_J9_max_7cf53 n t.2.1 x25 Y9 (fun (x31 : Int32) (Y28 : Yc) => ((¬ t.2.2.1 = (-1 : Int32) → by_X8_merge_186 n o0 Ly117 Qy t.1 x31 t.2.2.2 t.2.2.1 Y28) ∧ (t.2.2.1 = (-1 : Int32) → (vp_in t.2.2.2 n ∧ (∀ x44 : Int32, x44 = yI Y28 202 (7 + 7 * o0 + t.2.2.2.toNatClampNeg) → by_X8_merge_186 n o0 Ly117 Qy t.1 x31 t.2.2.2 x44 Y28)))))))))))))))
set_option maxHeartbeats 4000000 in
set_option maxRecDepth 100000 in
theorem yf_X8_merge_117 {n : Nat} {ad aa : Nat → Nat → Nat} {σ0 : Sto} {o0 : Nat} (ho0 : Ob n 8 o0) {Q : Sto → Prop} {Qy : Yc → Prop} {Ly117 : Int64 × Int32 × Int32 × Int32 → Yc → Prop} {L117 : Int64 × Int32 × Int32 × Int32 → Sto → Prop} (hQ : ∀ (σ' : Sto) (Y' : Yc), Qy Y' → HY n ad aa σ' Y' → Fy n ad aa σ0 σ' → Q σ') (hL117 : ∀ (t9 : Int64 × Int32 × Int32 × Int32) (t : Int64 × Int32 × Int32 × Int32) (σ : Sto) (Y : Yc), Ly117 t Y → HY n ad aa σ Y → Fy n ad aa σ0 σ → ((t.1, t.2.1, t.2.2.1, t.2.2.2) = t9 ∧ True) → L117 t9 σ) : ∀ (t9 : Int64 × Int32 × Int32 × Int32) (t : Int64 × Int32 × Int32 × Int32) (σ : Sto) (Y : Yc), HY n ad aa σ Y → Fy n ad aa σ0 σ → ((t.1, t.2.1, t.2.2.1, t.2.2.2) = t9 ∧ True) → fy_X8_merge_117 n o0  Qy Ly117 t Y → f_X8_merge_117 (ad 8 o0)  Q L117 t9 σ := by
  intro t9 t σ Y hR F hT h
  obtain ⟨rfl, _⟩ := hT
  unfold fy_X8_merge_117 at h
  unfold f_X8_merge_117
  dsimp only
  refine ⟨hR.K ho0, ?_⟩
  have a1 : sP σ (ad 8 o0) 1 = some (ad 4 0) := hR.lk ho0 1 (by decide) rfl
  refine ⟨_, a1, ?_⟩
  refine ⟨hR.K ob_4, ?_⟩
  intro x3 e4
  have e4 : x3 = yI Y 400 0 := e4.trans (hR.I (x := 400) ob_4 0 (by decide) rfl)
  have h := h x3 e4
  refine ⟨fun c5 => ?_, fun c5 => ?_⟩
  · have h := h.1 c5
    exact lfy (fun σ t9 t => (t.1, t.2.1, t.2.2.1, t.2.2.2) = t9 ∧ True) h hR F ⟨rfl, trivial⟩ (fun Ly L hL t9 t σ Y hR F hT h => yf_X8_merge_197 ho0 hQ  hL t9 t σ Y hR F hT h)
  · have h := h.2 c5
    have a6 : sP σ (ad 8 o0) 10 = some (ad 5 o0) := hR.lk ho0 10 (by decide) rfl
    refine ⟨_, a6, ?_⟩
    refine ⟨hR.K (ob_810 ho0), ?_⟩
    refine y_X5_looksAt hR (ob_810 ho0)  h (fun x12 σ8 Y9 h hR11 f10 => ?_)
    have F := F.trans f10
    have hR := hR11
    refine ⟨fun c15 => ?_, fun c15 => ?_⟩
    · have h := h.1 c15
      exact yb_X8_merge_188 ho0 hQ hL117 t.1 t.2.1 t.2.2.1 t.2.2.2 _ _ hR F  h
    · have h := h.2 c15
      refine ⟨hR.K ho0, ?_⟩
      have a16 : sP σ8 (ad 8 o0) 10 = some (ad 5 o0) := hR.lk ho0 10 (by decide) rfl
      refine ⟨_, a16, ?_⟩
      refine ⟨hR.K (ob_810 ho0), ?_⟩
      have a18 : sP σ8 (ad 5 o0) 8 = some (aa 508 o0) := hR.ar (x := 508) (ob_810 ho0) 8 (by decide) rfl (by decide)
      refine ⟨_, a18, ?_⟩
      refine ⟨hR.arK (x := 508) (ob_810 ho0) 8 (by decide) rfl (by decide), ?_⟩
      have hz := h.1
      refine ⟨by first | exact hR.arV (x := 508) (ob_810 ho0) 8 (by decide) rfl (by decide) hz | exact hz, ?_⟩
      have h := h.2
      have hO23 : Ob n 2 (7 + 7 * o0 + t.2.2.2.toNatClampNeg) := ob_508 (ob_810 ho0) hz
      intro r21 e22
      have e22 := e22.trans (hR.el (x := 508) (ob_810 ho0) 8 (by decide) rfl (by decide) (el_508 hz))
      subst e22
      refine ⟨_, rfl, ?_⟩
      refine ⟨hR.K hO23, ?_⟩
      intro x25 e26
      have e26 : x25 = yI Y9 201 (7 + 7 * o0 + t.2.2.2.toNatClampNeg) := e26.trans (hR.I (x := 201) hO23 1 (by decide) rfl)
      have h := h x25 e26
      refine y_J9_max_7cf53 hR  h (fun x31 σ27 Y28 h hR30 f29 => ?_)
      have F := F.trans f29
      have hR := hR30
      refine ⟨fun c34 => ?_, fun c34 => ?_⟩
      · have h := h.1 c34
        exact yb_X8_merge_186 ho0 hQ hL117 t.1 x31 t.2.2.2 t.2.2.1 _ _ hR F  h
      · have h := h.2 c34
        refine ⟨hR.K ho0, ?_⟩
        have a35 : sP σ27 (ad 8 o0) 10 = some (ad 5 o0) := hR.lk ho0 10 (by decide) rfl
        refine ⟨_, a35, ?_⟩
        refine ⟨hR.K (ob_810 ho0), ?_⟩
        have a37 : sP σ27 (ad 5 o0) 8 = some (aa 508 o0) := hR.ar (x := 508) (ob_810 ho0) 8 (by decide) rfl (by decide)
        refine ⟨_, a37, ?_⟩
        refine ⟨hR.arK (x := 508) (ob_810 ho0) 8 (by decide) rfl (by decide), ?_⟩
        have hz := h.1
        refine ⟨by first | exact hR.arV (x := 508) (ob_810 ho0) 8 (by decide) rfl (by decide) hz | exact hz, ?_⟩
        have h := h.2
        have hO42 : Ob n 2 (7 + 7 * o0 + t.2.2.2.toNatClampNeg) := ob_508 (ob_810 ho0) hz
        intro r40 e41
        have e41 := e41.trans (hR.el (x := 508) (ob_810 ho0) 8 (by decide) rfl (by decide) (el_508 hz))
        subst e41
        refine ⟨_, rfl, ?_⟩
        refine ⟨hR.K hO42, ?_⟩
        intro x44 e45
        have e45 : x44 = yI Y28 202 (7 + 7 * o0 + t.2.2.2.toNatClampNeg) := e45.trans (hR.I (x := 202) hO42 2 (by decide) rfl)
        have h := h x44 e45
        exact yb_X8_merge_186 ho0 hQ hL117 t.1 x31 t.2.2.2 x44 _ _ hR F  h
def by_X8_merge_112 (n : Nat) (o0 : Nat)  (Qy : Yc → Prop) (p1 : Int64) (p4 : Int32) (s0 : Int32) (Y : Yc) : Prop := LFy (fy_X8_merge_117 n o0  Qy) (p1, p4, s0, (0 : Int32)) Y
set_option maxHeartbeats 4000000 in
set_option maxRecDepth 100000 in
theorem yb_X8_merge_112 {n : Nat} {ad aa : Nat → Nat → Nat} {σ0 : Sto} {o0 : Nat} (ho0 : Ob n 8 o0) {Q : Sto → Prop} {Qy : Yc → Prop} (hQ : ∀ (σ' : Sto) (Y' : Yc), Qy Y' → HY n ad aa σ' Y' → Fy n ad aa σ0 σ' → Q σ')  (p1 : Int64) (p4 : Int32) (s0 : Int32) (σ : Sto) (Y : Yc) (hR : HY n ad aa σ Y) (F : Fy n ad aa σ0 σ) (h : by_X8_merge_112 n o0  Qy p1 p4 s0 Y) : b_X8_merge_112 (ad 8 o0)  Q p1 p4 s0 σ := by
  unfold by_X8_merge_112 at h
  unfold b_X8_merge_112
  exact lfy (fun σ t9 t => (t.1, t.2.1, t.2.2.1, t.2.2.2) = t9 ∧ True) h hR F ⟨rfl, trivial⟩ (fun Ly L hL t9 t σ Y hR F hT h => yf_X8_merge_117 ho0 hQ  hL t9 t σ Y hR F hT h)
def by_X8_merge_95 (n : Nat) (o0 : Nat)  (Qy : Yc → Prop) (p1 : Int64) (p3 : Int32) (s0 : Int32) (Y : Yc) : Prop := ((p3 = 0 → by_X8_merge_112 n o0  Qy p1 s0 (-1 : Int32) Y) ∧ (¬ p3 = 0 → (∀ x4 : Int32, x4 = yI Y 202 o0 → by_X8_merge_112 n o0  Qy p1 s0 x4 Y)))
set_option maxHeartbeats 4000000 in
set_option maxRecDepth 100000 in
theorem yb_X8_merge_95 {n : Nat} {ad aa : Nat → Nat → Nat} {σ0 : Sto} {o0 : Nat} (ho0 : Ob n 8 o0) {Q : Sto → Prop} {Qy : Yc → Prop} (hQ : ∀ (σ' : Sto) (Y' : Yc), Qy Y' → HY n ad aa σ' Y' → Fy n ad aa σ0 σ' → Q σ')  (p1 : Int64) (p3 : Int32) (s0 : Int32) (σ : Sto) (Y : Yc) (hR : HY n ad aa σ Y) (F : Fy n ad aa σ0 σ) (h : by_X8_merge_95 n o0  Qy p1 p3 s0 Y) : b_X8_merge_95 (ad 8 o0)  Q p1 p3 s0 σ := by
  unfold by_X8_merge_95 at h
  unfold b_X8_merge_95
  refine ⟨fun c1 => ?_, fun c1 => ?_⟩
  · have h := h.1 c1
    exact yb_X8_merge_112 ho0 hQ  p1 s0 (-1 : Int32) _ _ hR F  h
  · have h := h.2 c1
    refine ⟨hR.K ho0, ?_⟩
    have a2 : sP σ (ad 8 o0) 7 = some (ad 2 o0) := hR.lk ho0 7 (by decide) rfl
    refine ⟨_, a2, ?_⟩
    refine ⟨hR.K (ob_807 ho0), ?_⟩
    intro x4 e5
    have e5 : x4 = yI Y 202 o0 := e5.trans (hR.I (x := 202) (ob_807 ho0) 2 (by decide) rfl)
    have h := h x4 e5
    exact yb_X8_merge_112 ho0 hQ  p1 s0 x4 _ _ hR F  h
def by_X8_merge_79 (n : Nat) (o0 : Nat)  (Qy : Yc → Prop) (p1 : Int64) (s0 : Int32) (Y : Yc) : Prop := ((s0 = 0 → by_X8_merge_95 n o0  Qy p1 s0 (0 : Int32) Y) ∧ (¬ s0 = 0 → (∀ x4 : Int32, x4 = yI Y 201 o0 → by_X8_merge_95 n o0  Qy p1 s0 x4 Y)))
set_option maxHeartbeats 4000000 in
set_option maxRecDepth 100000 in
theorem yb_X8_merge_79 {n : Nat} {ad aa : Nat → Nat → Nat} {σ0 : Sto} {o0 : Nat} (ho0 : Ob n 8 o0) {Q : Sto → Prop} {Qy : Yc → Prop} (hQ : ∀ (σ' : Sto) (Y' : Yc), Qy Y' → HY n ad aa σ' Y' → Fy n ad aa σ0 σ' → Q σ')  (p1 : Int64) (s0 : Int32) (σ : Sto) (Y : Yc) (hR : HY n ad aa σ Y) (F : Fy n ad aa σ0 σ) (h : by_X8_merge_79 n o0  Qy p1 s0 Y) : b_X8_merge_79 (ad 8 o0)  Q p1 s0 σ := by
  unfold by_X8_merge_79 at h
  unfold b_X8_merge_79
  refine ⟨fun c1 => ?_, fun c1 => ?_⟩
  · have h := h.1 c1
    exact yb_X8_merge_95 ho0 hQ  p1 s0 (0 : Int32) _ _ hR F  h
  · have h := h.2 c1
    refine ⟨hR.K ho0, ?_⟩
    have a2 : sP σ (ad 8 o0) 7 = some (ad 2 o0) := hR.lk ho0 7 (by decide) rfl
    refine ⟨_, a2, ?_⟩
    refine ⟨hR.K (ob_807 ho0), ?_⟩
    intro x4 e5
    have e5 : x4 = yI Y 201 o0 := e5.trans (hR.I (x := 201) (ob_807 ho0) 1 (by decide) rfl)
    have h := h x4 e5
    exact yb_X8_merge_95 ho0 hQ  p1 s0 x4 _ _ hR F  h
def by_X8_merge_59 (n : Nat) (o0 : Nat)  (Ly7 : Int64 × Int32 → Yc → Prop) (Qy : Yc → Prop) (p1 : Int64) (p3 : Int32) (Y : Yc) : Prop := (∀ x1 : Int32, x1 = p3 + (1 : Int32) → Ly7 (p1, x1) Y)
set_option maxHeartbeats 4000000 in
set_option maxRecDepth 100000 in
theorem yb_X8_merge_59 {n : Nat} {ad aa : Nat → Nat → Nat} {σ0 : Sto} {o0 : Nat} (ho0 : Ob n 8 o0) {Ly7 : Int64 × Int32 → Yc → Prop} {L7 : Int64 × Int32 → Sto → Prop} {Q : Sto → Prop} {Qy : Yc → Prop} (hQ : ∀ (σ' : Sto) (Y' : Yc), Qy Y' → HY n ad aa σ' Y' → Fy n ad aa σ0 σ' → Q σ') (hL7 : ∀ (t9 : Int64 × Int32) (t : Int64 × Int32) (σ : Sto) (Y : Yc), Ly7 t Y → HY n ad aa σ Y → Fy n ad aa σ0 σ → ((t.1, t.2) = t9 ∧ True) → L7 t9 σ) (p1 : Int64) (p3 : Int32) (σ : Sto) (Y : Yc) (hR : HY n ad aa σ Y) (F : Fy n ad aa σ0 σ) (h : by_X8_merge_59 n o0 Ly7 Qy p1 p3 Y) : b_X8_merge_59 (ad 8 o0) L7 Q p1 p3 σ := by
  unfold by_X8_merge_59 at h
  unfold b_X8_merge_59
  intro x1 e2
  have h := h x1 e2
  exact hL7 _ _ _ _ h hR F ⟨rfl, trivial⟩
def fy_X8_merge_7 (n : Nat) (o0 : Nat)  (Qy : Yc → Prop) (Ly7 : Int64 × Int32 → Yc → Prop) (t : Int64 × Int32) (Y : Yc) : Prop := (∀ x3 : Int32, x3 = yI Y 400 0 → ((x3 ≤ t.2 → (∀ y6 : Int64, y6 = yJ Y 806 o0 → ((¬ (lg_cmp y6 t.1) = 0 → by_X8_merge_79 n o0  Qy t.1 (0 : Int32) Y) ∧ ((lg_cmp y6 t.1) = 0 → by_X8_merge_79 n o0  Qy t.1 (1 : Int32) Y)))) ∧ (¬ x3 ≤ t.2 → (∀ x11 : Int32, x11 = yI Y 506 o0 → ((¬ ((x11 >>> (t.2 &&& 31)) &&& (1 : Int32)) = (1 : Int32) → by_X8_merge_59 n o0 Ly7 Qy t.1 t.2 Y) ∧ (((x11 >>> (t.2 &&& 31)) &&& (1 : Int32)) = (1 : Int32) → (((nI n) ≤ t.2 → by_X8_merge_59 n o0 Ly7 Qy t.1 t.2 Y) ∧ (¬ (nI n) ≤ t.2 → (vp_in t.2 n ∧ (∀ y20 : Int64, y20 = yB Y o0 t.2.toNatClampNeg → (wy_J9_max_f86c9 n t.1 y20 Y (fun (y26 : Int64) (Y23 : Yc) => by_X8_merge_59 n o0 Ly7 Qy y26 t.2 Y23))))))))))))
set_option maxHeartbeats 4000000 in
set_option maxRecDepth 100000 in
theorem yf_X8_merge_7 {n : Nat} {ad aa : Nat → Nat → Nat} {σ0 : Sto} {o0 : Nat} (ho0 : Ob n 8 o0) {Q : Sto → Prop} {Qy : Yc → Prop} {Ly7 : Int64 × Int32 → Yc → Prop} {L7 : Int64 × Int32 → Sto → Prop} (hQ : ∀ (σ' : Sto) (Y' : Yc), Qy Y' → HY n ad aa σ' Y' → Fy n ad aa σ0 σ' → Q σ') (hL7 : ∀ (t9 : Int64 × Int32) (t : Int64 × Int32) (σ : Sto) (Y : Yc), Ly7 t Y → HY n ad aa σ Y → Fy n ad aa σ0 σ → ((t.1, t.2) = t9 ∧ True) → L7 t9 σ) : ∀ (t9 : Int64 × Int32) (t : Int64 × Int32) (σ : Sto) (Y : Yc), HY n ad aa σ Y → Fy n ad aa σ0 σ → ((t.1, t.2) = t9 ∧ True) → fy_X8_merge_7 n o0  Qy Ly7 t Y → f_X8_merge_7 (ad 8 o0)  Q L7 t9 σ := by
  intro t9 t σ Y hR F hT h
  obtain ⟨rfl, _⟩ := hT
  unfold fy_X8_merge_7 at h
  unfold f_X8_merge_7
  dsimp only
  refine ⟨hR.K ho0, ?_⟩
  have a1 : sP σ (ad 8 o0) 1 = some (ad 4 0) := hR.lk ho0 1 (by decide) rfl
  refine ⟨_, a1, ?_⟩
  refine ⟨hR.K ob_4, ?_⟩
  intro x3 e4
  have e4 : x3 = yI Y 400 0 := e4.trans (hR.I (x := 400) ob_4 0 (by decide) rfl)
  have h := h x3 e4
  refine ⟨fun c5 => ?_, fun c5 => ?_⟩
  · have h := h.1 c5
    intro y6 e7
    have e7 : y6 = yJ Y 806 o0 := e7.trans (hR.J (x := 806) ho0 6 (by decide) rfl)
    have h := h y6 e7
    refine ⟨fun c8 => ?_, fun c8 => ?_⟩
    · have h := h.1 c8
      exact yb_X8_merge_79 ho0 hQ  t.1 (0 : Int32) _ _ hR F  h
    · have h := h.2 c8
      exact yb_X8_merge_79 ho0 hQ  t.1 (1 : Int32) _ _ hR F  h
  · have h := h.2 c5
    have a9 : sP σ (ad 8 o0) 10 = some (ad 5 o0) := hR.lk ho0 10 (by decide) rfl
    refine ⟨_, a9, ?_⟩
    refine ⟨hR.K (ob_810 ho0), ?_⟩
    intro x11 e12
    have e12 : x11 = yI Y 506 o0 := e12.trans (hR.I (x := 506) (ob_810 ho0) 6 (by decide) rfl)
    have h := h x11 e12
    refine ⟨fun c13 => ?_, fun c13 => ?_⟩
    · have h := h.1 c13
      exact yb_X8_merge_59 ho0 hQ hL7 t.1 t.2 _ _ hR F  h
    · have h := h.2 c13
      have a14 : sP σ (ad 8 o0) 10 = some (ad 5 o0) := hR.lk ho0 10 (by decide) rfl
      have a15 : sP σ (ad 5 o0) 7 = some (aa 507 o0) := hR.ar (x := 507) (ob_810 ho0) 7 (by decide) rfl (by decide)
      refine ⟨_, a15, ?_⟩
      refine ⟨hR.arK (x := 507) (ob_810 ho0) 7 (by decide) rfl (by decide), ?_⟩
      rw [show sN σ (aa 507 o0) = n from hR.arN (x := 507) (ob_810 ho0) 7 (by decide) rfl (by decide)]
      refine ⟨fun c17 => ?_, fun c17 => ?_⟩
      · have h := h.1 c17
        exact yb_X8_merge_59 ho0 hQ hL7 t.1 t.2 _ _ hR F  h
      · have h := h.2 c17
        have a18 : sP σ (ad 8 o0) 10 = some (ad 5 o0) := hR.lk ho0 10 (by decide) rfl
        have a19 : sP σ (ad 5 o0) 7 = some (aa 507 o0) := hR.ar (x := 507) (ob_810 ho0) 7 (by decide) rfl (by decide)
        have hz := h.1
        refine ⟨by first | exact hR.arV (x := 507) (ob_810 ho0) 7 (by decide) rfl (by decide) hz | exact hz, ?_⟩
        have h := h.2
        intro y20 e21
        have e21 : y20 = yB Y o0 t.2.toNatClampNeg := e21.trans (hR.B (ob_810 ho0) _)
        have h := h y20 e21
        refine y_J9_max_f86c9 hR  h (fun y26 σ22 Y23 h hR25 f24 => ?_)
        have F := F.trans f24
        have hR := hR25
        exact yb_X8_merge_59 ho0 hQ hL7 y26 t.2 _ _ hR F  h
def wy_X8_merge (n : Nat) (o0 : Nat)  (Y : Yc) (Qy : Yc → Prop) : Prop := (∀ y1 : Int64, y1 = yJ Y 806 o0 → LFy (fy_X8_merge_7 n o0  Qy) (y1, (0 : Int32)) Y)
set_option maxHeartbeats 4000000 in
set_option maxRecDepth 100000 in
theorem y_X8_merge {n : Nat} {ad aa : Nat → Nat → Nat} {o0 : Nat} {σ : Sto} {Y : Yc} {Q : Sto → Prop} {Qy : Yc → Prop} (hR : HY n ad aa σ Y) (ho0 : Ob n 8 o0) (h : wy_X8_merge n o0  Y Qy) (hQ : ∀ (σ' : Sto) (Y' : Yc), Qy Y' → HY n ad aa σ' Y' → Fy n ad aa σ σ' → Q σ') : wp_X8_merge (ad 8 o0)  σ Q := by
  have F : Fy n ad aa σ σ := Fy.rf
  unfold wy_X8_merge at h
  unfold wp_X8_merge
  refine ⟨hR.K ho0, ?_⟩
  intro y1 e2
  have e2 : y1 = yJ Y 806 o0 := e2.trans (hR.J (x := 806) ho0 6 (by decide) rfl)
  have h := h y1 e2
  exact lfy (fun σ t9 t => (t.1, t.2) = t9 ∧ True) h hR F ⟨rfl, trivial⟩ (fun Ly L hL t9 t σ Y hR F hT h => yf_X8_merge_7 ho0 hQ  hL t9 t σ Y hR F hT h)
def wy_X8_hearTurned (n : Nat) (o0 : Nat) (p1 : Nat) (Y : Yc) (Qy : Yc → Prop) : Prop := (∀ y2 : Int64, y2 = yJ Y 304 p1 → (∀ y4 : Int64, y4 = yJ Y 805 o0 → ((¬ (lg_cmp y2 y4) = 0 → Qy Y) ∧ ((lg_cmp y2 y4) = 0 → (wy_X8_leads n o0  Y (fun (x11 : Int32) (Y8 : Yc) => ((¬ x11 = 0 → (∀ x15 : Int32, x15 = yI Y8 804 o0 → ((x15 = (2 : Int32) → (wy_X5_countTurned n o0 p1 Y8 (fun (Y21 : Yc) => (∀ x29 : Int32, x29 = yI Y21 506 o0 → (wy_J6_bitCount_0f7a4 n x29 Y21 (fun (x35 : Int32) (Y32 : Yc) => (∀ x40 : Int32, x40 = yI Y32 401 0 → ((x35 < x40 → Qy Y32) ∧ (¬ x35 < x40 → (wy_X8_merge n o0  Y32 (fun (Y44 : Yc) => Qy Y44))))))))))) ∧ (¬ x15 = (2 : Int32) → (∀ x51 : Int32, x51 = yI Y8 800 o0 → (∀ x53 : Int32, x53 = yI Y8 302 p1 → (∀ y55 : Int64, y55 = yJ Y8 805 o0 → (wy_X4_send n (10 : Int32) x51 x53 y55 (0 : Int32) Y8 (fun (o62 : Nat) (Y59 : Yc) => (wy_X2_become n (56 + o62) o0 Y59 (fun (Y70 : Yc) => Qy Y70))))))))))) ∧ (x11 = 0 → Qy Y8))))))))
set_option maxHeartbeats 4000000 in
set_option maxRecDepth 100000 in
theorem y_X8_hearTurned {n : Nat} {ad aa : Nat → Nat → Nat} {o0 : Nat} {p1 : Nat} {σ : Sto} {Y : Yc} {Q : Sto → Prop} {Qy : Yc → Prop} (hR : HY n ad aa σ Y) (ho0 : Ob n 8 o0) (hp1 : Ob n 3 p1) (h : wy_X8_hearTurned n o0 p1 Y Qy) (hQ : ∀ (σ' : Sto) (Y' : Yc), Qy Y' → HY n ad aa σ' Y' → Fy n ad aa σ σ' → Q σ') : wp_X8_hearTurned (ad 8 o0) (some (ad 3 p1)) σ Q := by
  have F : Fy n ad aa σ σ := Fy.rf
  unfold wy_X8_hearTurned at h
  unfold wp_X8_hearTurned
  refine ⟨_, rfl, ?_⟩
  refine ⟨hR.K hp1, ?_⟩
  intro y2 e3
  have e3 : y2 = yJ Y 304 p1 := e3.trans (hR.J (x := 304) hp1 4 (by decide) rfl)
  have h := h y2 e3
  refine ⟨hR.K ho0, ?_⟩
  intro y4 e5
  have e5 : y4 = yJ Y 805 o0 := e5.trans (hR.J (x := 805) ho0 5 (by decide) rfl)
  have h := h y4 e5
  refine ⟨fun c6 => ?_, fun c6 => ?_⟩
  · have h := h.1 c6
    exact hQ _ _ h hR F
  · have h := h.2 c6
    refine y_X8_leads hR ho0  h (fun x11 σ7 Y8 h hR10 f9 => ?_)
    have F := F.trans f9
    have hR := hR10
    refine ⟨fun c14 => ?_, fun c14 => ?_⟩
    · have h := h.1 c14
      refine ⟨hR.K ho0, ?_⟩
      intro x15 e16
      have e16 : x15 = yI Y8 804 o0 := e16.trans (hR.I (x := 804) ho0 4 (by decide) rfl)
      have h := h x15 e16
      refine ⟨fun c17 => ?_, fun c17 => ?_⟩
      · have h := h.1 c17
        have a18 : sP σ7 (ad 8 o0) 10 = some (ad 5 o0) := hR.lk ho0 10 (by decide) rfl
        refine ⟨_, a18, ?_⟩
        refine ⟨hR.K (ob_810 ho0), ?_⟩
        refine y_X5_countTurned hR (ob_810 ho0) hp1 h (fun σ20 Y21 h hR23 f22 => ?_)
        have F := F.trans f22
        have hR := hR23
        refine ⟨hR.K ho0, ?_⟩
        have a27 : sP σ20 (ad 8 o0) 10 = some (ad 5 o0) := hR.lk ho0 10 (by decide) rfl
        refine ⟨_, a27, ?_⟩
        refine ⟨hR.K (ob_810 ho0), ?_⟩
        intro x29 e30
        have e30 : x29 = yI Y21 506 o0 := e30.trans (hR.I (x := 506) (ob_810 ho0) 6 (by decide) rfl)
        have h := h x29 e30
        refine y_J6_bitCount_0f7a4 hR  h (fun x35 σ31 Y32 h hR34 f33 => ?_)
        have F := F.trans f33
        have hR := hR34
        refine ⟨hR.K ho0, ?_⟩
        have a38 : sP σ31 (ad 8 o0) 1 = some (ad 4 0) := hR.lk ho0 1 (by decide) rfl
        refine ⟨_, a38, ?_⟩
        refine ⟨hR.K ob_4, ?_⟩
        intro x40 e41
        have e41 : x40 = yI Y32 401 0 := e41.trans (hR.I (x := 401) ob_4 1 (by decide) rfl)
        have h := h x40 e41
        refine ⟨fun c42 => ?_, fun c42 => ?_⟩
        · have h := h.1 c42
          exact hQ _ _ h hR F
        · have h := h.2 c42
          refine y_X8_merge hR ho0  h (fun σ43 Y44 h hR46 f45 => ?_)
          have F := F.trans f45
          have hR := hR46
          exact hQ _ _ h hR F
      · have h := h.2 c17
        have a50 : sP σ7 (ad 8 o0) 1 = some (ad 4 0) := hR.lk ho0 1 (by decide) rfl
        intro x51 e52
        have e52 : x51 = yI Y8 800 o0 := e52.trans (hR.I (x := 800) ho0 0 (by decide) rfl)
        have h := h x51 e52
        refine ⟨hR.K hp1, ?_⟩
        intro x53 e54
        have e54 : x53 = yI Y8 302 p1 := e54.trans (hR.I (x := 302) hp1 2 (by decide) rfl)
        have h := h x53 e54
        intro y55 e56
        have e56 : y55 = yJ Y8 805 o0 := e56.trans (hR.J (x := 805) ho0 5 (by decide) rfl)
        have h := h y55 e56
        refine ⟨_, a50, ?_⟩
        refine ⟨hR.K ob_4, ?_⟩
        refine y_X4_send hR  h (fun o62 σ58 Y59 h hO63 hR61 f60 => ?_)
        have F := F.trans f60
        have hR := hR61
        refine ⟨_, rfl, ?_⟩
        refine ⟨hR.K hO63, ?_⟩
        have a66 : sP σ58 (ad 3 o62) 11 = some (ad 2 (56 + o62)) := hR.lk hO63 11 (by decide) rfl
        refine ⟨hR.K ho0, ?_⟩
        have a67 : sP σ58 (ad 8 o0) 7 = some (ad 2 o0) := hR.lk ho0 7 (by decide) rfl
        refine ⟨_, a66, ?_⟩
        refine ⟨hR.K (ob_311 hO63), ?_⟩
        rw [a67]
        refine y_X2_become hR (ob_311 hO63) (ob_807 ho0) h (fun σ69 Y70 h hR72 f71 => ?_)
        have F := F.trans f71
        have hR := hR72
        exact hQ _ _ h hR F
    · have h := h.2 c14
      exact hQ _ _ h hR F
def by_X8_hearStart_34 (n : Nat) (o0 : Nat)  (Qy : Yc → Prop) (p1 : Nat) (Y : Yc) : Prop := (∀ y2 : Int64, y2 = yJ Y 304 p1 → (wy_X2_become n o0 (56 + p1) (uJ Y 805 o0 y2) (fun (Y9 : Yc) => (wy_X8_becomeNormal n o0  Y9 (fun (Y16 : Yc) => Qy Y16)))))
set_option maxHeartbeats 4000000 in
set_option maxRecDepth 100000 in
theorem yb_X8_hearStart_34 {n : Nat} {ad aa : Nat → Nat → Nat} {σ0 : Sto} {o0 : Nat} (ho0 : Ob n 8 o0) {Q : Sto → Prop} {Qy : Yc → Prop} (hQ : ∀ (σ' : Sto) (Y' : Yc), Qy Y' → HY n ad aa σ' Y' → Fy n ad aa σ0 σ' → Q σ')  (p1 : Nat) (σ : Sto) (Y : Yc) (hR : HY n ad aa σ Y) (F : Fy n ad aa σ0 σ) (hp1 : Ob n 3 p1) (h : by_X8_hearStart_34 n o0  Qy p1 Y) : b_X8_hearStart_34 (ad 8 o0)  Q (some (ad 3 p1)) σ := by
  unfold by_X8_hearStart_34 at h
  unfold b_X8_hearStart_34
  refine ⟨_, rfl, ?_⟩
  refine ⟨hR.K hp1, ?_⟩
  intro y2 e3
  have e3 : y2 = yJ Y 304 p1 := e3.trans (hR.J (x := 304) hp1 4 (by decide) rfl)
  have h := h y2 e3
  refine ⟨hR.K ho0, ?_⟩
  have w4 := hR.wJ (x := 805) ho0 5 (by decide) rfl y2
  have F := F.trans w4.2
  have hR := w4.1
  have a5 : sP σ (ad 8 o0) 7 = some (ad 2 o0) := hR.lk ho0 7 (by decide) rfl
  have a6 : sP σ (ad 3 p1) 11 = some (ad 2 (56 + p1)) := hR.lk hp1 11 (by decide) rfl
  refine ⟨_, a5, ?_⟩
  refine ⟨hR.K (ob_807 ho0), ?_⟩
  rw [a6]
  refine y_X2_become hR (ob_807 ho0) (ob_311 hp1) h (fun σ8 Y9 h hR11 f10 => ?_)
  have F := F.trans f10
  have hR := hR11
  refine ⟨hR.K ho0, ?_⟩
  refine y_X8_becomeNormal hR ho0  h (fun σ15 Y16 h hR18 f17 => ?_)
  have F := F.trans f17
  have hR := hR18
  exact hQ _ _ h hR F
def wy_X8_hearStart (n : Nat) (o0 : Nat) (p1 : Nat) (Y : Yc) (Qy : Yc → Prop) : Prop := (∀ y1 : Int64, y1 = yJ Y 805 o0 → (∀ y4 : Int64, y4 = yJ Y 304 p1 → (wy_X11_isBehind n y1 y4 Y (fun (x10 : Int32) (Y7 : Yc) => ((¬ x10 = 0 → by_X8_hearStart_34 n o0  Qy p1 Y7) ∧ (x10 = 0 → (∀ y14 : Int64, y14 = yJ Y7 805 o0 → (∀ y16 : Int64, y16 = yJ Y7 304 p1 → ((¬ (lg_cmp y14 y16) = 0 → Qy Y7) ∧ ((lg_cmp y14 y16) = 0 → (∀ x19 : Int32, x19 = yI Y7 804 o0 → ((¬ x19 = (2 : Int32) → Qy Y7) ∧ (x19 = (2 : Int32) → by_X8_hearStart_34 n o0  Qy p1 Y7)))))))))))))
set_option maxHeartbeats 4000000 in
set_option maxRecDepth 100000 in
theorem y_X8_hearStart {n : Nat} {ad aa : Nat → Nat → Nat} {o0 : Nat} {p1 : Nat} {σ : Sto} {Y : Yc} {Q : Sto → Prop} {Qy : Yc → Prop} (hR : HY n ad aa σ Y) (ho0 : Ob n 8 o0) (hp1 : Ob n 3 p1) (h : wy_X8_hearStart n o0 p1 Y Qy) (hQ : ∀ (σ' : Sto) (Y' : Yc), Qy Y' → HY n ad aa σ' Y' → Fy n ad aa σ σ' → Q σ') : wp_X8_hearStart (ad 8 o0) (some (ad 3 p1)) σ Q := by
  have F : Fy n ad aa σ σ := Fy.rf
  unfold wy_X8_hearStart at h
  unfold wp_X8_hearStart
  refine ⟨hR.K ho0, ?_⟩
  intro y1 e2
  have e2 : y1 = yJ Y 805 o0 := e2.trans (hR.J (x := 805) ho0 5 (by decide) rfl)
  have h := h y1 e2
  refine ⟨_, rfl, ?_⟩
  refine ⟨hR.K hp1, ?_⟩
  intro y4 e5
  have e5 : y4 = yJ Y 304 p1 := e5.trans (hR.J (x := 304) hp1 4 (by decide) rfl)
  have h := h y4 e5
  refine y_X11_isBehind hR  h (fun x10 σ6 Y7 h hR9 f8 => ?_)
  have F := F.trans f8
  have hR := hR9
  refine ⟨fun c13 => ?_, fun c13 => ?_⟩
  · have h := h.1 c13
    exact yb_X8_hearStart_34 ho0 hQ  p1 _ _ hR F hp1 h
  · have h := h.2 c13
    refine ⟨hR.K ho0, ?_⟩
    intro y14 e15
    have e15 : y14 = yJ Y7 805 o0 := e15.trans (hR.J (x := 805) ho0 5 (by decide) rfl)
    have h := h y14 e15
    refine ⟨hR.K hp1, ?_⟩
    intro y16 e17
    have e17 : y16 = yJ Y7 304 p1 := e17.trans (hR.J (x := 304) hp1 4 (by decide) rfl)
    have h := h y16 e17
    refine ⟨fun c18 => ?_, fun c18 => ?_⟩
    · have h := h.1 c18
      exact hQ _ _ h hR F
    · have h := h.2 c18
      intro x19 e20
      have e20 : x19 = yI Y7 804 o0 := e20.trans (hR.I (x := 804) ho0 4 (by decide) rfl)
      have h := h x19 e20
      refine ⟨fun c21 => ?_, fun c21 => ?_⟩
      · have h := h.1 c21
        exact hQ _ _ h hR F
      · have h := h.2 c21
        exact yb_X8_hearStart_34 ho0 hQ  p1 _ _ hR F hp1 h
def by_X8_hear_115 (n : Nat) (o0 : Nat)  (Qy : Yc → Prop) (p1 : Nat) (Y : Yc) : Prop := (∀ x2 : Int32, x2 = yI Y 301 p1 → ((x2.toInt < 0 ∨ 10 < x2.toInt → Qy Y) ∧ (x2 = (0 : Int32) → (wy_X8_hearStamped n o0 p1 Y (fun (Y6 : Yc) => Qy Y6))) ∧ (x2 = (1 : Int32) → (wy_X8_hearLookup n o0 p1 Y (fun (Y13 : Yc) => Qy Y13))) ∧ (x2 = (2 : Int32) → (wy_X8_hearFound n o0 p1 Y (fun (Y20 : Yc) => Qy Y20))) ∧ (x2 = (3 : Int32) → (∀ x26 : Int32, x26 = yI Y 306 p1 → (wy_X8_hearGapCommit n o0 x26 Y (fun (Y29 : Yc) => Qy Y29)))) ∧ (x2 = (4 : Int32) → (wy_X8_hearGapReply n o0 p1 Y (fun (Y36 : Yc) => Qy Y36))) ∧ (x2 = (5 : Int32) → (wy_X8_hearSync n o0 (56 + p1) Y (fun (Y44 : Yc) => Qy Y44))) ∧ (x2 = (6 : Int32) → (wy_X8_hearSyncReply n o0 p1 Y (fun (Y51 : Yc) => Qy Y51))) ∧ (x2 = (7 : Int32) → (∀ x57 : Int32, x57 = yI Y 306 p1 → (wy_X8_hearPoint n o0 x57 Y (fun (Y60 : Yc) => Qy Y60)))) ∧ (x2 = (8 : Int32) → Qy Y) ∧ (x2 = (9 : Int32) → (wy_X8_hearTurned n o0 p1 Y (fun (Y67 : Yc) => Qy Y67))) ∧ (x2 = (10 : Int32) → (wy_X8_hearStart n o0 p1 Y (fun (Y74 : Yc) => Qy Y74)))))
set_option maxHeartbeats 4000000 in
set_option maxRecDepth 100000 in
theorem yb_X8_hear_115 {n : Nat} {ad aa : Nat → Nat → Nat} {σ0 : Sto} {o0 : Nat} (ho0 : Ob n 8 o0) {Q : Sto → Prop} {Qy : Yc → Prop} (hQ : ∀ (σ' : Sto) (Y' : Yc), Qy Y' → HY n ad aa σ' Y' → Fy n ad aa σ0 σ' → Q σ')  (p1 : Nat) (σ : Sto) (Y : Yc) (hR : HY n ad aa σ Y) (F : Fy n ad aa σ0 σ) (hp1 : Ob n 3 p1) (h : by_X8_hear_115 n o0  Qy p1 Y) : b_X8_hear_115 (ad 8 o0)  Q (some (ad 3 p1)) σ := by
  unfold by_X8_hear_115 at h
  unfold b_X8_hear_115
  refine ⟨_, rfl, ?_⟩
  refine ⟨hR.K hp1, ?_⟩
  intro x2 e3
  have e3 : x2 = yI Y 301 p1 := e3.trans (hR.I (x := 301) hp1 1 (by decide) rfl)
  have h := h x2 e3
  refine ⟨fun c4 => ?_, fun c4 => ?_, fun c4 => ?_, fun c4 => ?_, fun c4 => ?_, fun c4 => ?_, fun c4 => ?_, fun c4 => ?_, fun c4 => ?_, fun c4 => ?_, fun c4 => ?_, fun c4 => ?_⟩
  · have h := h.1 c4
    exact hQ _ _ h hR F
  · have h := h.2.1 c4
    refine ⟨hR.K ho0, ?_⟩
    refine y_X8_hearStamped hR ho0 hp1 h (fun σ5 Y6 h hR8 f7 => ?_)
    have F := F.trans f7
    have hR := hR8
    exact hQ _ _ h hR F
  · have h := h.2.2.1 c4
    refine ⟨hR.K ho0, ?_⟩
    refine y_X8_hearLookup hR ho0 hp1 h (fun σ12 Y13 h hR15 f14 => ?_)
    have F := F.trans f14
    have hR := hR15
    exact hQ _ _ h hR F
  · have h := h.2.2.2.1 c4
    refine ⟨hR.K ho0, ?_⟩
    refine y_X8_hearFound hR ho0 hp1 h (fun σ19 Y20 h hR22 f21 => ?_)
    have F := F.trans f21
    have hR := hR22
    exact hQ _ _ h hR F
  · have h := h.2.2.2.2.1 c4
    intro x26 e27
    have e27 : x26 = yI Y 306 p1 := e27.trans (hR.I (x := 306) hp1 6 (by decide) rfl)
    have h := h x26 e27
    refine ⟨hR.K ho0, ?_⟩
    refine y_X8_hearGapCommit hR ho0  h (fun σ28 Y29 h hR31 f30 => ?_)
    have F := F.trans f30
    have hR := hR31
    exact hQ _ _ h hR F
  · have h := h.2.2.2.2.2.1 c4
    refine ⟨hR.K ho0, ?_⟩
    refine y_X8_hearGapReply hR ho0 hp1 h (fun σ35 Y36 h hR38 f37 => ?_)
    have F := F.trans f37
    have hR := hR38
    exact hQ _ _ h hR F
  · have h := h.2.2.2.2.2.2.1 c4
    have a42 : sP σ (ad 3 p1) 11 = some (ad 2 (56 + p1)) := hR.lk hp1 11 (by decide) rfl
    refine ⟨hR.K ho0, ?_⟩
    rw [a42]
    refine y_X8_hearSync hR ho0 (ob_311 hp1) h (fun σ43 Y44 h hR46 f45 => ?_)
    have F := F.trans f45
    have hR := hR46
    exact hQ _ _ h hR F
  · have h := h.2.2.2.2.2.2.2.1 c4
    refine ⟨hR.K ho0, ?_⟩
    refine y_X8_hearSyncReply hR ho0 hp1 h (fun σ50 Y51 h hR53 f52 => ?_)
    have F := F.trans f52
    have hR := hR53
    exact hQ _ _ h hR F
  · have h := h.2.2.2.2.2.2.2.2.1 c4
    intro x57 e58
    have e58 : x57 = yI Y 306 p1 := e58.trans (hR.I (x := 306) hp1 6 (by decide) rfl)
    have h := h x57 e58
    refine ⟨hR.K ho0, ?_⟩
    refine y_X8_hearPoint hR ho0  h (fun σ59 Y60 h hR62 f61 => ?_)
    have F := F.trans f61
    have hR := hR62
    exact hQ _ _ h hR F
  · have h := h.2.2.2.2.2.2.2.2.2.1 c4
    exact hQ _ _ h hR F
  · have h := h.2.2.2.2.2.2.2.2.2.2.1 c4
    refine ⟨hR.K ho0, ?_⟩
    refine y_X8_hearTurned hR ho0 hp1 h (fun σ66 Y67 h hR69 f68 => ?_)
    have F := F.trans f68
    have hR := hR69
    exact hQ _ _ h hR F
  · have h := h.2.2.2.2.2.2.2.2.2.2.2 c4
    refine ⟨hR.K ho0, ?_⟩
    refine y_X8_hearStart hR ho0 hp1 h (fun σ73 Y74 h hR76 f75 => ?_)
    have F := F.trans f75
    have hR := hR76
    exact hQ _ _ h hR F
def by_X8_hear_107 (n : Nat) (o0 : Nat)  (Qy : Yc → Prop) (p1 : Nat) (Y : Yc) : Prop := (∀ y2 : Int64, y2 = yJ Y 304 p1 → (wy_X8_follow n o0 y2 Y (fun (Y5 : Yc) => by_X8_hear_115 n o0  Qy p1 Y5)))
set_option maxHeartbeats 4000000 in
set_option maxRecDepth 100000 in
theorem yb_X8_hear_107 {n : Nat} {ad aa : Nat → Nat → Nat} {σ0 : Sto} {o0 : Nat} (ho0 : Ob n 8 o0) {Q : Sto → Prop} {Qy : Yc → Prop} (hQ : ∀ (σ' : Sto) (Y' : Yc), Qy Y' → HY n ad aa σ' Y' → Fy n ad aa σ0 σ' → Q σ')  (p1 : Nat) (σ : Sto) (Y : Yc) (hR : HY n ad aa σ Y) (F : Fy n ad aa σ0 σ) (hp1 : Ob n 3 p1) (h : by_X8_hear_107 n o0  Qy p1 Y) : b_X8_hear_107 (ad 8 o0)  Q (some (ad 3 p1)) σ := by
  unfold by_X8_hear_107 at h
  unfold b_X8_hear_107
  refine ⟨_, rfl, ?_⟩
  refine ⟨hR.K hp1, ?_⟩
  intro y2 e3
  have e3 : y2 = yJ Y 304 p1 := e3.trans (hR.J (x := 304) hp1 4 (by decide) rfl)
  have h := h y2 e3
  refine ⟨hR.K ho0, ?_⟩
  refine y_X8_follow hR ho0  h (fun σ4 Y5 h hR7 f6 => ?_)
  have F := F.trans f6
  have hR := hR7
  exact yb_X8_hear_115 ho0 hQ  p1 _ _ hR F hp1 h
def by_X8_hear_80 (n : Nat) (o0 : Nat)  (Qy : Yc → Prop) (p1 : Nat) (Y : Yc) : Prop := (∀ x2 : Int32, x2 = yI Y 301 p1 → ((x2 = (8 : Int32) → by_X8_hear_107 n o0  Qy p1 Y) ∧ (¬ x2 = (8 : Int32) → (∀ x5 : Int32, x5 = yI Y 301 p1 → ((x5 = (9 : Int32) → by_X8_hear_107 n o0  Qy p1 Y) ∧ (¬ x5 = (9 : Int32) → (∀ x8 : Int32, x8 = yI Y 301 p1 → ((¬ x8 = (12 : Int32) → by_X8_hear_115 n o0  Qy p1 Y) ∧ (x8 = (12 : Int32) → by_X8_hear_107 n o0  Qy p1 Y)))))))))
set_option maxHeartbeats 4000000 in
set_option maxRecDepth 100000 in
theorem yb_X8_hear_80 {n : Nat} {ad aa : Nat → Nat → Nat} {σ0 : Sto} {o0 : Nat} (ho0 : Ob n 8 o0) {Q : Sto → Prop} {Qy : Yc → Prop} (hQ : ∀ (σ' : Sto) (Y' : Yc), Qy Y' → HY n ad aa σ' Y' → Fy n ad aa σ0 σ' → Q σ')  (p1 : Nat) (σ : Sto) (Y : Yc) (hR : HY n ad aa σ Y) (F : Fy n ad aa σ0 σ) (hp1 : Ob n 3 p1) (h : by_X8_hear_80 n o0  Qy p1 Y) : b_X8_hear_80 (ad 8 o0)  Q (some (ad 3 p1)) σ := by
  unfold by_X8_hear_80 at h
  unfold b_X8_hear_80
  refine ⟨_, rfl, ?_⟩
  refine ⟨hR.K hp1, ?_⟩
  intro x2 e3
  have e3 : x2 = yI Y 301 p1 := e3.trans (hR.I (x := 301) hp1 1 (by decide) rfl)
  have h := h x2 e3
  refine ⟨fun c4 => ?_, fun c4 => ?_⟩
  · have h := h.1 c4
    exact yb_X8_hear_107 ho0 hQ  p1 _ _ hR F hp1 h
  · have h := h.2 c4
    intro x5 e6
    have e6 : x5 = yI Y 301 p1 := e6.trans (hR.I (x := 301) hp1 1 (by decide) rfl)
    have h := h x5 e6
    refine ⟨fun c7 => ?_, fun c7 => ?_⟩
    · have h := h.1 c7
      exact yb_X8_hear_107 ho0 hQ  p1 _ _ hR F hp1 h
    · have h := h.2 c7
      intro x8 e9
      have e9 : x8 = yI Y 301 p1 := e9.trans (hR.I (x := 301) hp1 1 (by decide) rfl)
      have h := h x8 e9
      refine ⟨fun c10 => ?_, fun c10 => ?_⟩
      · have h := h.1 c10
        exact yb_X8_hear_115 ho0 hQ  p1 _ _ hR F hp1 h
      · have h := h.2 c10
        exact yb_X8_hear_107 ho0 hQ  p1 _ _ hR F hp1 h
def by_X8_hear_58 (n : Nat) (o0 : Nat)  (Qy : Yc → Prop) (p1 : Nat) (p2 : Int32) (Y : Yc) : Prop := (∀ x2 : Int32, x2 = yI Y 301 p1 → ((x2 < (1 : Int32) → by_X8_hear_80 n o0  Qy p1 Y) ∧ (¬ x2 < (1 : Int32) → (∀ x5 : Int32, x5 = yI Y 301 p1 → (((7 : Int32) < x5 → by_X8_hear_80 n o0  Qy p1 Y) ∧ (¬ (7 : Int32) < x5 → ((¬ p2 = 0 → by_X8_hear_80 n o0  Qy p1 Y) ∧ (p2 = 0 → Qy Y))))))))
set_option maxHeartbeats 4000000 in
set_option maxRecDepth 100000 in
theorem yb_X8_hear_58 {n : Nat} {ad aa : Nat → Nat → Nat} {σ0 : Sto} {o0 : Nat} (ho0 : Ob n 8 o0) {Q : Sto → Prop} {Qy : Yc → Prop} (hQ : ∀ (σ' : Sto) (Y' : Yc), Qy Y' → HY n ad aa σ' Y' → Fy n ad aa σ0 σ' → Q σ')  (p1 : Nat) (p2 : Int32) (σ : Sto) (Y : Yc) (hR : HY n ad aa σ Y) (F : Fy n ad aa σ0 σ) (hp1 : Ob n 3 p1) (h : by_X8_hear_58 n o0  Qy p1 p2 Y) : b_X8_hear_58 (ad 8 o0)  Q (some (ad 3 p1)) p2 σ := by
  unfold by_X8_hear_58 at h
  unfold b_X8_hear_58
  refine ⟨_, rfl, ?_⟩
  refine ⟨hR.K hp1, ?_⟩
  intro x2 e3
  have e3 : x2 = yI Y 301 p1 := e3.trans (hR.I (x := 301) hp1 1 (by decide) rfl)
  have h := h x2 e3
  refine ⟨fun c4 => ?_, fun c4 => ?_⟩
  · have h := h.1 c4
    exact yb_X8_hear_80 ho0 hQ  p1 _ _ hR F hp1 h
  · have h := h.2 c4
    intro x5 e6
    have e6 : x5 = yI Y 301 p1 := e6.trans (hR.I (x := 301) hp1 1 (by decide) rfl)
    have h := h x5 e6
    refine ⟨fun c7 => ?_, fun c7 => ?_⟩
    · have h := h.1 c7
      exact yb_X8_hear_80 ho0 hQ  p1 _ _ hR F hp1 h
    · have h := h.2 c7
      refine ⟨fun c8 => ?_, fun c8 => ?_⟩
      · have h := h.1 c8
        exact yb_X8_hear_80 ho0 hQ  p1 _ _ hR F hp1 h
      · have h := h.2 c8
        exact hQ _ _ h hR F
def by_X8_hear_24 (n : Nat) (o0 : Nat)  (Qy : Yc → Prop) (p1 : Nat) (s0 : Int32) (Y : Yc) : Prop := ((s0 = 0 → by_X8_hear_58 n o0  Qy p1 s0 Y) ∧ (¬ s0 = 0 → (∀ x3 : Int32, x3 = yI Y 302 p1 → (∀ y6 : Int64, y6 = yJ Y 805 o0 → (wy_X4_leaderOf n y6 Y (fun (x13 : Int32) (Y10 : Yc) => ((¬ x3 = x13 → by_X8_hear_58 n o0  Qy p1 s0 Y10) ∧ (x3 = x13 → (∀ x19 : Int32, x19 = yI Y10 408 0 → by_X8_hear_58 n o0  Qy p1 s0 (uI Y10 811 o0 x19))))))))))
set_option maxHeartbeats 4000000 in
set_option maxRecDepth 100000 in
theorem yb_X8_hear_24 {n : Nat} {ad aa : Nat → Nat → Nat} {σ0 : Sto} {o0 : Nat} (ho0 : Ob n 8 o0) {Q : Sto → Prop} {Qy : Yc → Prop} (hQ : ∀ (σ' : Sto) (Y' : Yc), Qy Y' → HY n ad aa σ' Y' → Fy n ad aa σ0 σ' → Q σ')  (p1 : Nat) (s0 : Int32) (σ : Sto) (Y : Yc) (hR : HY n ad aa σ Y) (F : Fy n ad aa σ0 σ) (hp1 : Ob n 3 p1) (h : by_X8_hear_24 n o0  Qy p1 s0 Y) : b_X8_hear_24 (ad 8 o0)  Q (some (ad 3 p1)) s0 σ := by
  unfold by_X8_hear_24 at h
  unfold b_X8_hear_24
  refine ⟨fun c1 => ?_, fun c1 => ?_⟩
  · have h := h.1 c1
    exact yb_X8_hear_58 ho0 hQ  p1 s0 _ _ hR F hp1 h
  · have h := h.2 c1
    refine ⟨_, rfl, ?_⟩
    refine ⟨hR.K hp1, ?_⟩
    intro x3 e4
    have e4 : x3 = yI Y 302 p1 := e4.trans (hR.I (x := 302) hp1 2 (by decide) rfl)
    have h := h x3 e4
    refine ⟨hR.K ho0, ?_⟩
    have a5 : sP σ (ad 8 o0) 1 = some (ad 4 0) := hR.lk ho0 1 (by decide) rfl
    intro y6 e7
    have e7 : y6 = yJ Y 805 o0 := e7.trans (hR.J (x := 805) ho0 5 (by decide) rfl)
    have h := h y6 e7
    refine ⟨_, a5, ?_⟩
    refine ⟨hR.K ob_4, ?_⟩
    refine y_X4_leaderOf hR  h (fun x13 σ9 Y10 h hR12 f11 => ?_)
    have F := F.trans f11
    have hR := hR12
    refine ⟨fun c16 => ?_, fun c16 => ?_⟩
    · have h := h.1 c16
      exact yb_X8_hear_58 ho0 hQ  p1 s0 _ _ hR F hp1 h
    · have h := h.2 c16
      refine ⟨hR.K ho0, ?_⟩
      have a17 : sP σ9 (ad 8 o0) 1 = some (ad 4 0) := hR.lk ho0 1 (by decide) rfl
      refine ⟨_, a17, ?_⟩
      refine ⟨hR.K ob_4, ?_⟩
      intro x19 e20
      have e20 : x19 = yI Y10 408 0 := e20.trans (hR.I (x := 408) ob_4 8 (by decide) rfl)
      have h := h x19 e20
      have w21 := hR.wI (x := 811) ho0 11 (by decide) rfl x19
      have F := F.trans w21.2
      have hR := w21.1
      exact yb_X8_hear_58 ho0 hQ  p1 s0 _ _ hR F hp1 h
def by_X8_hear_23 (n : Nat) (o0 : Nat)  (Qy : Yc → Prop) (p1 : Nat) (Y : Yc) : Prop := by_X8_hear_24 n o0  Qy p1 (0 : Int32) Y
set_option maxHeartbeats 4000000 in
set_option maxRecDepth 100000 in
theorem yb_X8_hear_23 {n : Nat} {ad aa : Nat → Nat → Nat} {σ0 : Sto} {o0 : Nat} (ho0 : Ob n 8 o0) {Q : Sto → Prop} {Qy : Yc → Prop} (hQ : ∀ (σ' : Sto) (Y' : Yc), Qy Y' → HY n ad aa σ' Y' → Fy n ad aa σ0 σ' → Q σ')  (p1 : Nat) (σ : Sto) (Y : Yc) (hR : HY n ad aa σ Y) (F : Fy n ad aa σ0 σ) (hp1 : Ob n 3 p1) (h : by_X8_hear_23 n o0  Qy p1 Y) : b_X8_hear_23 (ad 8 o0)  Q (some (ad 3 p1)) σ := by
  unfold by_X8_hear_23 at h
  unfold b_X8_hear_23
  exact yb_X8_hear_24 ho0 hQ  p1 (0 : Int32) _ _ hR F hp1 h
def wy_X8_hear (n : Nat) (o0 : Nat) (p1 : Nat) (Y : Yc) (Qy : Yc → Prop) : Prop := (∀ x2 : Int32, x2 = yI Y 301 p1 → ((x2 = 0 → by_X8_hear_23 n o0  Qy p1 Y) ∧ (¬ x2 = 0 → (∀ y5 : Int64, y5 = yJ Y 304 p1 → (∀ y7 : Int64, y7 = yJ Y 805 o0 → ((¬ (lg_cmp y5 y7) = 0 → by_X8_hear_23 n o0  Qy p1 Y) ∧ ((lg_cmp y5 y7) = 0 → by_X8_hear_24 n o0  Qy p1 (1 : Int32) Y)))))))
set_option maxHeartbeats 4000000 in
set_option maxRecDepth 100000 in
theorem y_X8_hear {n : Nat} {ad aa : Nat → Nat → Nat} {o0 : Nat} {p1 : Nat} {σ : Sto} {Y : Yc} {Q : Sto → Prop} {Qy : Yc → Prop} (hR : HY n ad aa σ Y) (ho0 : Ob n 8 o0) (hp1 : Ob n 3 p1) (h : wy_X8_hear n o0 p1 Y Qy) (hQ : ∀ (σ' : Sto) (Y' : Yc), Qy Y' → HY n ad aa σ' Y' → Fy n ad aa σ σ' → Q σ') : wp_X8_hear (ad 8 o0) (some (ad 3 p1)) σ Q := by
  have F : Fy n ad aa σ σ := Fy.rf
  unfold wy_X8_hear at h
  unfold wp_X8_hear
  refine ⟨_, rfl, ?_⟩
  refine ⟨hR.K hp1, ?_⟩
  intro x2 e3
  have e3 : x2 = yI Y 301 p1 := e3.trans (hR.I (x := 301) hp1 1 (by decide) rfl)
  have h := h x2 e3
  refine ⟨fun c4 => ?_, fun c4 => ?_⟩
  · have h := h.1 c4
    exact yb_X8_hear_23 ho0 hQ  p1 _ _ hR F hp1 h
  · have h := h.2 c4
    intro y5 e6
    have e6 : y5 = yJ Y 304 p1 := e6.trans (hR.J (x := 304) hp1 4 (by decide) rfl)
    have h := h y5 e6
    refine ⟨hR.K ho0, ?_⟩
    intro y7 e8
    have e8 : y7 = yJ Y 805 o0 := e8.trans (hR.J (x := 805) ho0 5 (by decide) rfl)
    have h := h y7 e8
    refine ⟨fun c9 => ?_, fun c9 => ?_⟩
    · have h := h.1 c9
      exact yb_X8_hear_23 ho0 hQ  p1 _ _ hR F hp1 h
    · have h := h.2 c9
      exact yb_X8_hear_24 ho0 hQ  p1 (1 : Int32) _ _ hR F hp1 h
def wy_X8_turnToNextLead (n : Nat) (o0 : Nat)  (Y : Yc) (Qy : Yc → Prop) : Prop := (∀ y1 : Int64, y1 = yJ Y 805 o0 → (wy_X11_leadOf n y1 Y (fun (x7 : Int32) (Y4 : Yc) => (∀ y10 : Int64, y10 = yJ Y4 805 o0 → (wy_X11_sessionOf n y10 Y4 (fun (x16 : Int32) (Y13 : Yc) => (wy_X11_viewOf n (x7 + (1 : Int32)) x16 Y13 (fun (y23 : Int64) (Y20 : Yc) => (wy_X8_turn n o0 y23 Y20 (fun (Y27 : Yc) => Qy Y27))))))))))
set_option maxHeartbeats 4000000 in
set_option maxRecDepth 100000 in
theorem y_X8_turnToNextLead {n : Nat} {ad aa : Nat → Nat → Nat} {o0 : Nat} {σ : Sto} {Y : Yc} {Q : Sto → Prop} {Qy : Yc → Prop} (hR : HY n ad aa σ Y) (ho0 : Ob n 8 o0) (h : wy_X8_turnToNextLead n o0  Y Qy) (hQ : ∀ (σ' : Sto) (Y' : Yc), Qy Y' → HY n ad aa σ' Y' → Fy n ad aa σ σ' → Q σ') : wp_X8_turnToNextLead (ad 8 o0)  σ Q := by
  have F : Fy n ad aa σ σ := Fy.rf
  unfold wy_X8_turnToNextLead at h
  unfold wp_X8_turnToNextLead
  refine ⟨hR.K ho0, ?_⟩
  intro y1 e2
  have e2 : y1 = yJ Y 805 o0 := e2.trans (hR.J (x := 805) ho0 5 (by decide) rfl)
  have h := h y1 e2
  refine y_X11_leadOf hR  h (fun x7 σ3 Y4 h hR6 f5 => ?_)
  have F := F.trans f5
  have hR := hR6
  refine ⟨hR.K ho0, ?_⟩
  intro y10 e11
  have e11 : y10 = yJ Y4 805 o0 := e11.trans (hR.J (x := 805) ho0 5 (by decide) rfl)
  have h := h y10 e11
  refine y_X11_sessionOf hR  h (fun x16 σ12 Y13 h hR15 f14 => ?_)
  have F := F.trans f14
  have hR := hR15
  refine y_X11_viewOf hR  h (fun y23 σ19 Y20 h hR22 f21 => ?_)
  have F := F.trans f21
  have hR := hR22
  refine ⟨hR.K ho0, ?_⟩
  refine y_X8_turn hR ho0  h (fun σ26 Y27 h hR29 f28 => ?_)
  have F := F.trans f28
  have hR := hR29
  exact hQ _ _ h hR F
def wy_X8_sendSync (n : Nat) (o0 : Nat)  (Y : Yc) (Qy : Yc → Prop) : Prop := (∀ x3 : Int32, x3 = yI Y 408 0 → (wy_X8_sendLogToOthers n o0 (5 : Int32) (uI Y 815 o0 x3) (fun (Y7 : Yc) => Qy Y7)))
set_option maxHeartbeats 4000000 in
set_option maxRecDepth 100000 in
theorem y_X8_sendSync {n : Nat} {ad aa : Nat → Nat → Nat} {o0 : Nat} {σ : Sto} {Y : Yc} {Q : Sto → Prop} {Qy : Yc → Prop} (hR : HY n ad aa σ Y) (ho0 : Ob n 8 o0) (h : wy_X8_sendSync n o0  Y Qy) (hQ : ∀ (σ' : Sto) (Y' : Yc), Qy Y' → HY n ad aa σ' Y' → Fy n ad aa σ σ' → Q σ') : wp_X8_sendSync (ad 8 o0)  σ Q := by
  have F : Fy n ad aa σ σ := Fy.rf
  unfold wy_X8_sendSync at h
  unfold wp_X8_sendSync
  refine ⟨hR.K ho0, ?_⟩
  have a1 : sP σ (ad 8 o0) 1 = some (ad 4 0) := hR.lk ho0 1 (by decide) rfl
  refine ⟨_, a1, ?_⟩
  refine ⟨hR.K ob_4, ?_⟩
  intro x3 e4
  have e4 : x3 = yI Y 408 0 := e4.trans (hR.I (x := 408) ob_4 8 (by decide) rfl)
  have h := h x3 e4
  have w5 := hR.wI (x := 815) ho0 15 (by decide) rfl x3
  have F := F.trans w5.2
  have hR := w5.1
  refine y_X8_sendLogToOthers hR ho0  h (fun σ6 Y7 h hR9 f8 => ?_)
  have F := F.trans f8
  have hR := hR9
  exact hQ _ _ h hR F
