/-! untake: bytes, words, numbers, requests, logs -/
section
variable {n K : Nat} {Y Y2 Y0 Y1 : Yc} {X X2 X0 X1 : Xc} {o r : Nat} {l : List Int32} {c : Nat} {kv : Option Int32}
theorem spoil_f (h : ¬ yI Y 703 0 = 0) {k p : Int32} {Q : Yc → Prop} (hQ : Q Y) : wy_X7_spoil n k p Y Q := fun x1 e1 => by
  subst e1
  exact ⟨fun _ => hQ, fun q => absurd q h⟩
theorem tell_f (h : ¬ yI Y 703 0 = 0) {p : Int32} {Q : Yc → Prop} (hQ : Q Y) : wy_X7_tell n p Y Q := fun x1 e1 => by
  subst e1
  exact ⟨fun _ => hQ, fun q => absurd q h⟩
theorem keep_f (h : ¬ X.1 95 ≤ 0) {p : Int32} {Q : Xc → Prop} (hQ : Q X) : wx_X12_keep p X Q := fun x1 e1 => by
  subst e1
  exact ⟨fun q => absurd q h, fun _ => hQ⟩
theorem next_f (h : ¬ yI Y 703 0 = 0) {Q : Int32 → Yc → Prop} (hQ : Q 0 Y) : wy_X7_nextByte n Y Q := fun x1 e1 => by
  subst e1
  exact ⟨fun q => absurd q h, fun _ => hQ⟩
theorem byte_f (h : ¬ yI Y 703 0 = 0) {m : Nat} (hm : m < 256) {Q : Int32 → Yc → Prop} (hQ : Q 0 Y) : wy_X7_readByte n (nI m) Y Q :=
  next_f h ⟨fun _ => tell_f h hQ, fun q => absurd (nI_le (a := 0) (b := m) (by omega) (by omega)) q⟩
theorem word_f (h : ¬ yI Y 703 0 = 0) {Q : Int32 → Yc → Prop} (hQ : ∀ v, Q v Y) : wy_X7_nextWord n Y Q := by
  intro Rr hR
  have key : ∀ d i, i + d = 4 → ∀ v : Int32, Rr (v, nI i) Y := by
    intro d
    induction d with
    | zero =>
      intro i hi v
      have hi : i = 4 := by omega
      subst hi
      exact hR _ _ ⟨fun _ => hQ v, fun q => absurd (nI_le (a := 4) (b := 4) (by omega) (by omega)) q⟩
    | succ d ih =>
      intro i hi v
      refine hR _ _ ⟨fun q => absurd q (nI_ge (a := i) (b := 4) (by omega) (by omega)), fun _ => next_f h (fun x9 e9 x11 e11 => ?_)⟩
      have e11 : x11 = nI (i + 1) := e11.trans (nI_1 i)
      subst e11
      exact ih (i + 1) (by omega) x9
  exact key 4 0 (by omega) 0
theorem num_f (h : ¬ yI Y 703 0 = 0) {Q : Int32 → Yc → Prop} (hQ : Q 0 Y) : wy_X7_readNumber n Y Q := by
  intro x1 e1 Rr hR
  refine hR _ _ ⟨fun q => absurd q (nI_ge (a := 0) (b := 5) (by omega) (by omega)), fun _ => ⟨fun q => absurd ((nI_lti (a := 128) (b := 128) (by omega) (by omega)).mp q) (by omega), fun _ => next_f h (fun y10 e10 x12 e12 => ?_)⟩⟩
  have e10 : y10 = 0 := e10.trans (show ((0 : Int64) ||| ((((0 : Int32) &&& 127).toInt64) <<< ((((7 : Int32) * 0).toInt64) &&& 63))) = 0 by decide)
  have e12 : x12 = nI 1 := e12
  subst e10; subst e12
  have t : by_X7_readNumber_52 n Q x1 (nI 1) 0 0 Y := by
    refine ⟨fun q => absurd q (by decide), fun _ => ⟨fun q => absurd q (by decide), fun _ => ⟨fun _ => ?_, fun q => absurd (by decide) q⟩⟩⟩
    refine tell_f h ?_
    have e : (0 : Int64).toInt32 = 0 := by decide
    rw [e]
    exact hQ
  exact hR _ _ ⟨fun _ => t, fun _ => ⟨fun _ => t, fun q => absurd (nI_lt (a := 0) (b := 128) (by omega) (by omega)) q⟩⟩
theorem req_f (h : ¬ yI Y 703 0 = 0) {Q : Yc → Prop} (hQ : Q Y) : wy_X7_readRequest n Y Q :=
  byte_f (m := 3) h (by omega) (num_f h (byte_f (m := 2) h (by omega) (byte_f (m := 7) h (by omega) (word_f h (fun _ => tell_f h hQ)))))
theorem log_f (h : ¬ yI Y 703 0 = 0) {Q : Yc → Prop} (hQ : Q Y) : wy_X7_readLog n Y Q := fun x1 e1 =>
  num_f h ⟨fun _ Rr hR => hR _ _ ⟨fun _ => hQ, fun q => absurd (nI_le (a := 0) (b := 0) (by omega) (by omega)) q⟩, fun q => absurd (by decide) q⟩
theorem byte_sim (T : Tp l Y0 X0) (R : Rd l Y0 X0 kv c Y X) (hc : c + 1 ≤ 609) (m : Nat) (hm : m < 256) : ∃ b Y2 X2, b < 256 ∧ Rd l Y0 X0 kv (c + 1) Y2 X2 ∧ (∀ Q : Int32 → Yc → Prop, Q (nI b) Y2 → wy_X7_readByte n (nI m) Y Q) ∧ (∀ Q : Int32 → Xc → Prop, Q (nI b) X2 → wx_X12_readByte (nI m) X Q) ∧ (yI Y2 703 0 = 0 → b ≤ m) ∧ (c = 0 → Rd l Y0 X0 (some (nI b)) 1 Y2 X2) := by
  obtain ⟨b, Y1, X1, hb, R1, ry, rx, hpos, hfb, _⟩ := rnext_sim (n := n) T R
  by_cases hbm : b ≤ m
  · obtain ⟨Y2, X2, R2, sy, sx, _, e3, hk⟩ := rtell_sim (n := n) R1 hc (nI b)
    exact ⟨b, Y2, X2, hb, R2, fun Q hQ => ry _ ⟨fun _ => sy _ hQ, fun q => absurd (nI_le hbm (by omega)) q⟩, fun Q hQ x1 e1 => rx _ ⟨fun _ => sx _ hQ, fun q => absurd (nI_le hbm (by omega)) q⟩, fun _ => hbm, hk⟩
  · rcases hpos with h0 | ⟨hf, pos, hp, ep, ey⟩
    · exact absurd (by omega) hbm
    · obtain ⟨Y2, X2, R2, n2, sy, sx, e5⟩ := spoil_sim (n := n) R1 (k := 2) (by omega) (nI pos)
      obtain ⟨Y3, X3, R3, ty, tx, _, e3, hk⟩ := rtell_sim (n := n) R2 hc (nI b)
      refine ⟨b, Y3, X3, hb, R3, fun Q hQ => ry _ ⟨fun q => absurd ((nI_lei (by omega) (by omega)).mp q) hbm, fun _ x9 e9 => ?_⟩, fun Q hQ x1 e1 => rx _ ⟨fun q => absurd ((nI_lei (by omega) (by omega)).mp q) hbm, fun _ => ?_⟩, fun q => absurd (e3.symm.trans q) n2, hk⟩
      · rw [ey] at e9
        subst e9
        rw [nI_m]
        exact sy _ (ty _ hQ)
      · rw [ep] at e1
        subst e1
        exact sx _ (tx _ hQ)
theorem word_loop (T : Tp l Y0 X0) : ∀ d i, i + d = 4 → ∀ (v : Int32) (Y : Yc) (X : Xc), Rd l Y0 X0 kv c Y X → ∃ w Y2 X2, Rd l Y0 X0 kv c Y2 X2 ∧ (∀ Q : Int32 → Yc → Prop, Q w Y2 → LFy (fy_X7_nextWord_4 n Q) (v, nI i) Y) ∧ (∀ Q : Int32 → Xc → Prop, Q w X2 → LFx (fx_X12_nextWord_4 Q) (v, nI i) X) := by
  intro d
  induction d with
  | zero =>
    intro i hi v Y X R
    have hi : i = 4 := by omega
    subst hi
    exact ⟨v, Y, X, R, fun Q hQ Rr hR => hR _ _ ⟨fun _ => hQ, fun q => absurd (nI_le (a := 4) (b := 4) (by omega) (by omega)) q⟩, fun Q hQ Rr hR => hR _ _ ⟨fun _ => hQ, fun q => absurd (nI_le (a := 4) (b := 4) (by omega) (by omega)) q⟩⟩
  | succ d ih =>
    intro i hi v Y X R
    obtain ⟨b, Y1, X1, hb, R1, ry, rx, _, _, _⟩ := rnext_sim (n := n) T R
    obtain ⟨w, Y2, X2, R2, sy, sx⟩ := ih (i + 1) (by omega) ((v <<< ((8 : Int32) &&& 31)) ||| nI b) Y1 X1 R1
    refine ⟨w, Y2, X2, R2, fun Q hQ Rr hR => hR _ _ ⟨fun q => absurd q (nI_ge (a := i) (b := 4) (by omega) (by omega)), fun _ => ry _ (fun x9 e9 x11 e11 => ?_)⟩, fun Q hQ Rr hR => hR _ _ ⟨fun q => absurd q (nI_ge (a := i) (b := 4) (by omega) (by omega)), fun _ => rx _ (fun x9 e9 x11 e11 => ?_)⟩⟩
    · have e11 : x11 = nI (i + 1) := e11.trans (nI_1 i)
      subst e11; subst e9
      exact sy Q hQ Rr hR
    · have e11 : x11 = nI (i + 1) := e11.trans (nI_1 i)
      subst e11; subst e9
      exact sx Q hQ Rr hR
theorem word_sim (T : Tp l Y0 X0) (R : Rd l Y0 X0 kv c Y X) : ∃ w Y2 X2, Rd l Y0 X0 kv c Y2 X2 ∧ (∀ Q : Int32 → Yc → Prop, Q w Y2 → wy_X7_nextWord n Y Q) ∧ (∀ Q : Int32 → Xc → Prop, Q w X2 → wx_X12_nextWord X Q) := word_loop T 4 0 (by omega) 0 Y X R
def vv (v : Int64) (b i : Nat) : Int64 := v ||| (((nI b &&& (127 : Int32)).toInt64) <<< (((7 : Int32) * nI i).toInt64 &&& 63))
def spd (v : Int64) (b i : Nat) : Prop := 0 < lg_cmp v (2147483647 : Int64) ∨ (1 ≤ i ∧ b = 0)
theorem y_end {Q : Int32 → Yc → Prop} {p : Int32} {i b : Nat} {v : Int64} (hi : i ≤ 4) (hb : b ≤ 127) (h83 : ¬ spd v b i → by_X7_readNumber_83 n Q v Y) (h77 : spd v b i → by_X7_readNumber_77 n Q p v Y) : by_X7_readNumber_52 n Q p (nI (i + 1)) (nI b) v Y := by
  refine ⟨fun q => absurd ((nI_lei (a := 128) (b := b) (by omega) (by omega)).mp q) (by omega), fun _ => ⟨fun g => h77 (Or.inl g), fun g => ⟨fun q => ?_, fun q => ⟨fun g2 => ?_, fun g2 => ?_⟩⟩⟩⟩
  · have q := (nI_lei (a := i + 1) (b := 1) (by omega) (by omega)).mp q
    exact h83 (fun s => s.elim g (fun s => by omega))
  · exact h83 (fun s => s.elim g (fun s => g2 (by rw [s.2]; rfl)))
  · have q : ¬ i + 1 ≤ 1 := fun z => q ((nI_lei (a := i + 1) (b := 1) (by omega) (by omega)).mpr z)
    have g2 : b = 0 := (nI_eq (a := b) (b := 0) (by omega) (by omega)).mp g2
    exact h77 (Or.inr ⟨by omega, g2⟩)
theorem x_end {Q : Int32 → Xc → Prop} {Lx : Int32 × Int64 × Int32 × Int32 → Xc → Prop} {p : Int32} {i b : Nat} {v : Int64} (hi : i ≤ 4) (hb : b ≤ 127) (fx : X.1 95 = 0) (h128 : ¬ spd v b i → bx_X12_readNumber_128 Lx Q p v (nI (i + 1)) 0 X) (h122 : spd v b i → bx_X12_readNumber_122 Lx Q p v (nI (i + 1)) 0 X) : bx_X12_readNumber_61 Lx Q p v (nI (i + 1)) (nI b) 0 X := by
  intro x1 e1
  rw [fx] at e1
  subst e1
  have h109 : (¬ (1 ≤ i ∧ b = 0)) → bx_X12_readNumber_109 Lx Q p v (nI (i + 1)) 0 1 X := fun g =>
    ⟨fun q => absurd q (by decide), fun _ => ⟨fun q => h128 (fun s => s.elim (fun s => absurd q (Int32.not_le.mpr s)) g), fun q => h122 (Or.inl (Int32.not_le.mp q))⟩⟩
  refine ⟨fun q => absurd rfl q, fun _ => ⟨fun q => absurd rfl q, fun _ => ⟨fun _ => ⟨fun q => absurd q (by decide), fun _ => ⟨fun q => ?_, fun q => ⟨fun g2 => ?_, fun g2 => ?_⟩⟩⟩, fun q => absurd rfl q⟩⟩⟩
  · have q := (nI_lei (a := i + 1) (b := 1) (by omega) (by omega)).mp q
    exact h109 (by omega)
  · have q : ¬ i + 1 ≤ 1 := fun z => q ((nI_lei (a := i + 1) (b := 1) (by omega) (by omega)).mpr z)
    have g2 : b = 0 := (nI_eq (a := b) (b := 0) (by omega) (by omega)).mp g2
    exact h122 (Or.inr ⟨by omega, g2⟩)
  · exact h109 (fun s => g2 (by rw [s.2]; rfl))
theorem x_endf {Q : Int32 → Xc → Prop} {Lx : Int32 × Int64 × Int32 × Int32 → Xc → Prop} {p p6 p4 : Int32} {v : Int64} (fx : ¬ X.1 95 = 0) (h128 : bx_X12_readNumber_128 Lx Q p v p4 0 X) : bx_X12_readNumber_61 Lx Q p v p4 p6 0 X := by
  intro x1 e1
  subst e1
  exact ⟨fun _ => ⟨fun _ => ⟨fun _ => ⟨fun _ => h128, fun q => absurd rfl q⟩, fun q => absurd rfl q⟩, fun q => absurd rfl q⟩, fun q => absurd q fx⟩
theorem x_more {Q : Int32 → Xc → Prop} {Lx : Int32 × Int64 × Int32 × Int32 → Xc → Prop} {p p6 p4 : Int32} {v : Int64} (fx : X.1 95 = 0) (h128 : ¬ p4 = 5 → bx_X12_readNumber_128 Lx Q p v p4 1 X) (h122 : p4 = 5 → bx_X12_readNumber_122 Lx Q p v p4 1 X) : bx_X12_readNumber_61 Lx Q p v p4 p6 1 X := by
  intro x1 e1
  rw [fx] at e1
  subst e1
  exact ⟨fun q => absurd rfl q, fun _ => ⟨fun _ => ⟨fun q => absurd q (by decide), fun _ => ⟨fun q => h122 q, fun q => ⟨fun _ => ⟨fun _ => h128 q, fun q => absurd rfl q⟩, fun q => absurd rfl q⟩⟩⟩, fun q => absurd q (by decide)⟩⟩
def NumL (n : Nat) (l : List Int32) (Y0 : Yc) (X0 : Xc) (kv : Option Int32) (c : Nat) (p : Int32) (i : Nat) : Prop :=
  ∀ (v : Int64) (L : Nat) (Y : Yc) (X : Xc), 128 ≤ L → L < 256 → Rd l Y0 X0 kv c Y X → yI Y 703 0 = 0 → X.1 95 = 0 → ∃ w Y2 X2, Rd l Y0 X0 kv (c + 1) Y2 X2 ∧ (∀ Q : Int32 → Yc → Prop, Q w Y2 → LFy (fy_X7_readNumber_14 n Q) (p, nI i, nI L, v) Y) ∧ (∀ Q : Int32 → Xc → Prop, Q w X2 → LFx (fx_X12_readNumber_13 Q) (p, v, nI i, 1) X)
theorem num_step (T : Tp l Y0 X0) (hc : c + 1 ≤ 609) {p : Int32} {i : Nat} (hi : i ≤ 4) (ih : i < 4 → NumL n l Y0 X0 kv c p (i + 1)) : NumL n l Y0 X0 kv c p i := by
  intro v L Y X hL hL2 R f0 g0
  obtain ⟨b, Y1, X1, hb, R1, ry, rx, hpos, hfb, _⟩ := rnext_sim (n := n) T R
  have uy : ∀ (Q : Int32 → Yc → Prop) (Rr : Int32 × Int32 × Int32 × Int64 → Yc → Prop), (∀ t Y, fy_X7_readNumber_14 n Q Rr t Y → Rr t Y) → Rr (p, nI (i + 1), nI b, vv v b i) Y1 → Rr (p, nI i, nI L, v) Y := fun Q Rr hR h =>
    hR _ _ ⟨fun q => absurd q (nI_ge (a := i) (b := 5) (by omega) (by omega)), fun _ => ⟨fun q => absurd ((nI_lti (a := L) (b := 128) (by omega) (by omega)).mp q) (by omega), fun _ => ry _ (fun y10 e10 x12 e12 => by
      have e12 : x12 = nI (i + 1) := e12.trans (nI_1 i)
      have e10 : y10 = vv v b i := e10
      subst e12; subst e10; exact h)⟩⟩
  have ux : ∀ (Q : Int32 → Xc → Prop) (Rr : Int32 × Int64 × Int32 × Int32 → Xc → Prop), (∀ t X, fx_X12_readNumber_13 Q Rr t X → Rr t X) → (b ≤ 127 → bx_X12_readNumber_61 Rr Q p (vv v b i) (nI (i + 1)) (nI b) 0 X1) → (¬ b ≤ 127 → bx_X12_readNumber_61 Rr Q p (vv v b i) (nI (i + 1)) (nI b) 1 X1) → Rr (p, v, nI i, 1) X := fun Q Rr hR h1 h2 =>
    hR _ _ ⟨fun q => absurd q (show ¬ (1 : Int32) = 0 by decide), fun _ x2 e2 => by
      rw [g0] at e2
      subst e2
      exact ⟨fun q => absurd rfl q, fun _ => rx _ (fun y9 e9 x11 e11 => by
        have e11 : x11 = nI (i + 1) := e11.trans (nI_1 i)
        have e9 : y9 = vv v b i := e9
        subst e11; subst e9
        exact ⟨fun q => h1 ((nI_lei (a := b) (b := 127) (by omega) (by omega)).mp q), fun q => h2 (fun q2 => q ((nI_lei (a := b) (b := 127) (by omega) (by omega)).mpr q2))⟩)⟩⟩
  by_cases hb7 : b ≤ 127
  · have yo : ∀ (Q : Int32 → Yc → Prop) (Rr : Int32 × Int32 × Int32 × Int64 → Yc → Prop), (∀ t Y, fy_X7_readNumber_14 n Q Rr t Y → Rr t Y) → by_X7_readNumber_52 n Q p (nI (i + 1)) (nI b) (vv v b i) Y1 → Rr (p, nI i, nI L, v) Y := fun Q Rr hR h =>
      uy Q Rr hR (hR _ _ ⟨fun _ => h, fun _ => ⟨fun _ => h, fun q => absurd (nI_lt (a := b) (b := 128) (by omega) (by omega)) q⟩⟩)
    have xo : ∀ (Q : Int32 → Xc → Prop) (Rr : Int32 × Int64 × Int32 × Int32 → Xc → Prop) (Z : Xc), (∀ t X, fx_X12_readNumber_13 Q Rr t X → Rr t X) → bx_X12_readNumber_131 Q (vv v b i) Z → bx_X12_readNumber_128 Rr Q p (vv v b i) (nI (i + 1)) 0 Z := fun Q Rr Z hR h =>
      hR _ _ ⟨fun _ => h, fun q => absurd rfl q⟩
    rcases R1.flt with ⟨fy, fx⟩ | ⟨fy, fx, fx2⟩
    · by_cases sp : spd (vv v b i) b i
      · obtain ⟨Y2, X2, R2, n2, sy, sx, _⟩ := spoil_sim (n := n) R1 (k := 3) (by omega) p
        obtain ⟨Y3, X3, R3, ty, tx, _⟩ := rtell_sim (n := n) R2 hc (vv v b i).toInt32
        refine ⟨(vv v b i).toInt32, Y3, X3, R3, fun Q hQ Rr hR => yo Q Rr hR (y_end hi hb7 (fun q => absurd sp q) (fun _ => sy _ (ty _ hQ))), fun Q hQ Rr hR => ux Q Rr hR (fun _ => x_end hi hb7 fx (fun q => absurd sp q) (fun _ => sx _ (xo Q Rr X2 hR (tx _ hQ)))) (fun q => absurd hb7 q)⟩
      · obtain ⟨Y3, X3, R3, ty, tx, _⟩ := rtell_sim (n := n) R1 hc (vv v b i).toInt32
        refine ⟨(vv v b i).toInt32, Y3, X3, R3, fun Q hQ Rr hR => yo Q Rr hR (y_end hi hb7 (fun _ => ty _ hQ) (fun q => absurd q sp)), fun Q hQ Rr hR => ux Q Rr hR (fun _ => x_end hi hb7 fx (fun _ => xo Q Rr X1 hR (tx _ hQ)) (fun q => absurd q sp)) (fun q => absurd hb7 q)⟩
    · obtain ⟨Y3, X3, R3, ty, tx, _⟩ := rtell_sim (n := n) R1 hc (vv v b i).toInt32
      refine ⟨(vv v b i).toInt32, Y3, X3, R3, fun Q hQ Rr hR => yo Q Rr hR (y_end hi hb7 (fun _ => ty _ hQ) (fun _ => spoil_f fy (ty _ hQ))), fun Q hQ Rr hR => ux Q Rr hR (fun _ => x_endf fx (xo Q Rr X1 hR (tx _ hQ))) (fun q => absurd hb7 q)⟩
  · have fl : yI Y1 703 0 = 0 ∧ X1.1 95 = 0 := by
      rcases R1.flt with h | ⟨fy, _⟩
      · exact h
      · exact absurd (hfb fy) (by omega)
    by_cases h4 : i < 4
    · obtain ⟨w, Y2, X2, R2, sy, sx⟩ := ih h4 (vv v b i) b Y1 X1 (by omega) hb R1 fl.1 fl.2
      refine ⟨w, Y2, X2, R2, fun Q hQ Rr hR => uy Q Rr hR (sy Q hQ Rr hR), fun Q hQ Rr hR => ux Q Rr hR (fun q => absurd q hb7) (fun _ => x_more fl.2 (fun _ => sx Q hQ Rr hR) (fun q => absurd ((nI_eq (a := i + 1) (b := 5) (by omega) (by omega)).mp q) (by omega)))⟩
    · have h4 : i = 4 := by omega
      subst h4
      obtain ⟨Y2, X2, R2, n2, sy, sx, _⟩ := spoil_sim (n := n) R1 (k := 3) (by omega) p
      obtain ⟨Y3, X3, R3, ty, tx, _⟩ := rtell_sim (n := n) R2 hc (vv v b 4).toInt32
      have nx : ¬ X2.1 95 = 0 := by
        rcases R2.flt with h | ⟨_, h, _⟩
        · exact absurd h.1 n2
        · exact h
      refine ⟨(vv v b 4).toInt32, Y3, X3, R3, fun Q hQ Rr hR => uy Q Rr hR (hR _ _ ⟨fun _ => ⟨fun _ => sy _ (ty _ hQ), fun q => absurd (nI_le (a := 128) (b := b) (by omega) (by omega)) q⟩, fun q => absurd (nI_le (a := 5) (b := 5) (by omega) (by omega)) q⟩), fun Q hQ Rr hR => ux Q Rr hR (fun q => absurd q hb7) (fun _ => x_more fl.2 (fun q => absurd rfl q) (fun _ => sx _ (hR _ _ ⟨fun q => absurd q (show ¬ (1 : Int32) = 0 by decide), fun _ x2 e2 => ?_⟩)))⟩
      subst e2
      exact ⟨fun _ => tx _ hQ, fun q => absurd q nx⟩
theorem num_loop (T : Tp l Y0 X0) (hc : c + 1 ≤ 609) (p : Int32) : ∀ d i, i + d = 4 → NumL n l Y0 X0 kv c p i := by
  intro d
  induction d with
  | zero => intro i hi; exact num_step T hc (by omega) (fun q => absurd q (by omega))
  | succ d ih => intro i hi; exact num_step T hc (by omega) (fun _ => ih (i + 1) (by omega))
theorem Rd.at (R : Rd l Y0 X0 kv c Y X) : ∃ pos, pos ≤ l.length ∧ yI Y 705 0 = nI pos ∧ X.1 94 = nI pos := by
  obtain ⟨_, _, pos, f, h3, h4, h5, h6, _⟩ := R
  exact ⟨pos, h3, h5, h6⟩
theorem num_sim (T : Tp l Y0 X0) (R : Rd l Y0 X0 kv c Y X) (hc : c + 1 ≤ 609) : ∃ w Y2 X2, Rd l Y0 X0 kv (c + 1) Y2 X2 ∧ (∀ Q : Int32 → Yc → Prop, Q w Y2 → wy_X7_readNumber n Y Q) ∧ (∀ Q : Int32 → Xc → Prop, Q w X2 → wx_X12_readNumber X Q) := by
  rcases R.flt with ⟨fy, fx⟩ | ⟨fy, fx, fx2⟩
  · obtain ⟨pos, _, ey, ex⟩ := R.at
    obtain ⟨w, Y2, X2, R2, sy, sx⟩ := num_loop (n := n) T hc (nI pos) 4 0 (by omega) 0 128 Y X (by omega) (by omega) R fy fx
    refine ⟨w, Y2, X2, R2, fun Q hQ x1 e1 => ?_, fun Q hQ x1 e1 => ?_⟩
    · rw [ey] at e1
      subst e1
      exact sy Q hQ
    · rw [ex] at e1
      subst e1
      exact sx Q hQ
  · refine ⟨0, Y, X, R.up (by omega), fun Q hQ => num_f fy hQ, fun Q hQ x1 e1 Rr hR => hR _ _ ⟨fun q => absurd q (show ¬ (1 : Int32) = 0 by decide), fun _ x2 e2 => ?_⟩⟩
    subst e2
    refine ⟨fun _ => keep_f fx2 ?_, fun q => absurd q fx⟩
    have e : (0 : Int64).toInt32 = 0 := by decide
    show Q (0 : Int64).toInt32 X
    rw [e]
    exact hQ
theorem req_sim (T : Tp l Y0 X0) (R : Rd l Y0 X0 kv c Y X) (hc : c + 5 ≤ 609) : ∃ Y2 X2, Rd l Y0 X0 kv (c + 5) Y2 X2 ∧ (∀ Q : Yc → Prop, Q Y2 → wy_X7_readRequest n Y Q) ∧ (∀ Q : Xc → Prop, Q X2 → wx_X12_readRequest X Q) := by
  obtain ⟨b1, Y1, X1, _, R1, y1, x1, _⟩ := byte_sim (n := n) T R (by omega) 3 (by omega)
  obtain ⟨b2, Y2, X2, R2, y2, x2⟩ := num_sim (n := n) T R1 (by omega)
  obtain ⟨b3, Y3, X3, _, R3, y3, x3, _⟩ := byte_sim (n := n) T R2 (by omega) 2 (by omega)
  obtain ⟨b4, Y4, X4, _, R4, y4, x4, _⟩ := byte_sim (n := n) T R3 (by omega) 7 (by omega)
  obtain ⟨b5, Y5, X5, R5, y5, x5⟩ := word_sim (n := n) T R4
  obtain ⟨Y6, X6, R6, y6, x6, _⟩ := rtell_sim (n := n) R5 (by omega) b5
  exact ⟨Y6, X6, R6, fun Q hQ => y1 _ (y2 _ (y3 _ (y4 _ (y5 _ (y6 _ hQ))))), fun Q hQ => x1 _ (x2 _ (x3 _ (x4 _ (x5 _ (x6 _ hQ)))))⟩
theorem log_loop (T : Tp l Y0 X0) {k : Nat} (hk : k ≤ 100) : ∀ d i, i + d = k → ∀ (c : Nat) (Y : Yc) (X : Xc), c + 6 * d ≤ 609 → Rd l Y0 X0 kv c Y X → ∃ Y2 X2, Rd l Y0 X0 kv (c + 6 * d) Y2 X2 ∧ (∀ Q : Yc → Prop, Q Y2 → LFy (fy_X7_readLog_24 n Q) (nI k, nI i) Y) ∧ (∀ Q : Xc → Prop, Q X2 → LFx (fx_X12_readLog_24 Q) (nI k, nI i) X) := by
  intro d
  induction d with
  | zero =>
    intro i hi c Y X hc R
    have hi : i = k := by omega
    subst hi
    exact ⟨Y, X, R, fun Q hQ Rr hR => hR _ _ ⟨fun _ => hQ, fun q => absurd (nI_le (a := i) (b := i) (by omega) (by omega)) q⟩, fun Q hQ Rr hR => hR _ _ ⟨fun _ => hQ, fun q => absurd (nI_le (a := i) (b := i) (by omega) (by omega)) q⟩⟩
  | succ d ih =>
    intro i hi c Y X hc R
    have nle : ¬ nI k ≤ nI i := nI_ge (by omega) (by omega)
    rcases R.flt with ⟨fy, fx⟩ | ⟨fy, fx, fx2⟩
    · obtain ⟨b, Y1, X1, hb, R1, ry, rx, _⟩ := byte_sim (n := n) T R (by omega) 1 (by omega)
      have uy : ∀ (Q : Yc → Prop) (Rr : Int32 × Int32 → Yc → Prop), (∀ t Y, fy_X7_readLog_24 n Q Rr t Y → Rr t Y) → (¬ nI b = 1 → Rr (nI k, nI (i + 1)) Y1) → (nI b = 1 → wy_X7_readRequest n Y1 (fun Z => Rr (nI k, nI (i + 1)) Z)) → Rr (nI k, nI i) Y := fun Q Rr hR h1 h2 =>
        hR _ _ ⟨fun q => absurd q nle, fun _ x2 e2 => by
          rw [fy] at e2
          subst e2
          refine ⟨fun q => absurd rfl q, fun _ => ry _ ⟨fun q x1 e1 => ?_, fun q => ?_⟩⟩
          · have e1 : x1 = nI (i + 1) := e1.trans (nI_1 i)
            subst e1
            exact h1 q
          · have e : (fun Z : Yc => by_X7_readLog_49 n Rr Q (nI k) (nI i) Z) = fun Z => Rr (nI k, nI (i + 1)) Z := funext fun Z => propext ⟨fun h => h _ (nI_1 i).symm, fun h x1 e1 => by
              have e1 : x1 = nI (i + 1) := e1.trans (nI_1 i)
              subst e1
              exact h⟩
            have h := h2 q
            rw [← e] at h
            exact h⟩
      have ux : ∀ (Q : Xc → Prop) (Rr : Int32 × Int32 → Xc → Prop), (∀ t X, fx_X12_readLog_24 Q Rr t X → Rr t X) → (¬ nI b = 1 → Rr (nI k, nI (i + 1)) X1) → (nI b = 1 → wx_X12_readRequest X1 (fun Z => Rr (nI k, nI (i + 1)) Z)) → Rr (nI k, nI i) X := fun Q Rr hR h1 h2 =>
        hR _ _ ⟨fun q => absurd q nle, fun _ x2 e2 => by
          rw [fx] at e2
          subst e2
          refine ⟨fun q => absurd rfl q, fun _ => rx _ ⟨fun q x1 e1 => ?_, fun q => ?_⟩⟩
          · have e1 : x1 = nI (i + 1) := e1.trans (nI_1 i)
            subst e1
            exact h1 q
          · have e : (fun Z : Xc => bx_X12_readLog_49 Rr Q (nI k) (nI i) Z) = fun Z => Rr (nI k, nI (i + 1)) Z := funext fun Z => propext ⟨fun h => h _ (nI_1 i).symm, fun h x1 e1 => by
              have e1 : x1 = nI (i + 1) := e1.trans (nI_1 i)
              subst e1
              exact h⟩
            have h := h2 q
            rw [← e] at h
            exact h⟩
      by_cases hb1 : nI b = 1
      · obtain ⟨Y2, X2, R2, sy, sx⟩ := req_sim (n := n) T R1 (by omega)
        obtain ⟨Y3, X3, R3, ty, tx⟩ := ih (i + 1) (by omega) _ Y2 X2 (by omega) R2
        exact ⟨Y3, X3, R3.up (by omega), fun Q hQ Rr hR => uy Q Rr hR (fun q => absurd hb1 q) (fun _ => sy _ (ty Q hQ Rr hR)), fun Q hQ Rr hR => ux Q Rr hR (fun q => absurd hb1 q) (fun _ => sx _ (tx Q hQ Rr hR))⟩
      · obtain ⟨Y3, X3, R3, ty, tx⟩ := ih (i + 1) (by omega) _ Y1 X1 (by omega) R1
        exact ⟨Y3, X3, R3.up (by omega), fun Q hQ Rr hR => uy Q Rr hR (fun _ => ty Q hQ Rr hR) (fun q => absurd q hb1), fun Q hQ Rr hR => ux Q Rr hR (fun _ => tx Q hQ Rr hR) (fun q => absurd q hb1)⟩
    · refine ⟨Y, X, R.up (by omega), fun Q hQ Rr hR => hR _ _ ⟨fun _ => hQ, fun _ x2 e2 => ?_⟩, fun Q hQ Rr hR => hR _ _ ⟨fun _ => hQ, fun _ x2 e2 => ?_⟩⟩
      · subst e2
        exact ⟨fun _ => hQ, fun q => absurd q fy⟩
      · subst e2
        exact ⟨fun _ => hQ, fun q => absurd q fx⟩
theorem log_sim (T : Tp l Y0 X0) (R : Rd l Y0 X0 kv c Y X) (hc : c + 601 ≤ 609) : ∃ Y2 X2, Rd l Y0 X0 kv (c + 601) Y2 X2 ∧ (∀ Q : Yc → Prop, Q Y2 → wy_X7_readLog n Y Q) ∧ (∀ Q : Xc → Prop, Q X2 → wx_X12_readLog X Q) := by
  obtain ⟨pos, _, ey, ex⟩ := R.at
  obtain ⟨w, Y1, X1, R1, ry, rx⟩ := num_sim (n := n) T R (by omega)
  rcases i32_cases w with hw | ⟨k, hk, rfl⟩
  · have w0 : w ≤ 0 := Int32.le_of_lt hw
    have w1 : w ≤ 100 := Int32.le_trans w0 (by decide)
    exact ⟨Y1, X1, R1.up (by omega), fun Q hQ x1 e1 => ry _ ⟨fun _ Rr hR => hR _ _ ⟨fun _ => hQ, fun q => absurd w0 q⟩, fun q => absurd w1 q⟩, fun Q hQ x1 e1 => rx _ ⟨fun _ Rr hR => hR _ _ ⟨fun _ => hQ, fun q => absurd w0 q⟩, fun q => absurd w1 q⟩⟩
  · by_cases hk1 : k ≤ 100
    · obtain ⟨Y2, X2, R2, sy, sx⟩ := log_loop (n := n) T hk1 k 0 (by omega) (c + 1) Y1 X1 (by omega) R1
      exact ⟨Y2, X2, R2.up (by omega), fun Q hQ x1 e1 => ry _ ⟨fun _ => sy Q hQ, fun q => absurd (nI_le (b := 100) hk1 (by omega)) q⟩, fun Q hQ x1 e1 => rx _ ⟨fun _ => sx Q hQ, fun q => absurd (nI_le (b := 100) hk1 (by omega)) q⟩⟩
    · obtain ⟨Y2, X2, R2, n2, sy, sx, _⟩ := spoil_sim (n := n) R1 (k := 4) (by omega) (nI pos)
      have nx : ¬ X2.1 95 = 0 := by
        rcases R2.flt with h | ⟨_, h, _⟩
        · exact absurd h.1 n2
        · exact h
      refine ⟨Y2, X2, R2.up (by omega), fun Q hQ x1 e1 => ?_, fun Q hQ x1 e1 => ?_⟩
      · rw [ey] at e1
        subst e1
        refine ry _ ⟨fun q => absurd ((nI_lei (a := k) (b := 100) (by omega) (by omega)).mp q) hk1, fun _ => sy _ (fun Rr hR => hR _ _ ⟨fun _ => hQ, fun _ x2 e2 => ?_⟩)⟩
        subst e2
        exact ⟨fun _ => hQ, fun q => absurd q n2⟩
      · rw [ex] at e1
        subst e1
        refine rx _ ⟨fun q => absurd ((nI_lei (a := k) (b := 100) (by omega) (by omega)).mp q) hk1, fun _ => sx _ (fun Rr hR => hR _ _ ⟨fun _ => hQ, fun _ x2 e2 => ?_⟩)⟩
        subst e2
        exact ⟨fun _ => hQ, fun q => absurd q nx⟩
end
