/-! The reference writes a draft -/
theorem Row.app {f g : Nat → Int32} {l : List Int32} {v : Int32} (h : Row f 0 l) (hg : ∀ i, i < l.length → g i = f i) (hv : g l.length = v) : Row g 0 (l ++ [v]) := by
  intro j hj
  rw [List.length_append] at hj
  rw [Nat.zero_add]
  by_cases e : j = l.length
  · subst e; rw [hv]; simp [List.getD]
  · have hj : j < l.length := by simp at hj; omega
    rw [hg j hj]
    have := h j hj
    rw [Nat.zero_add] at this
    rw [this]
    simp [List.getD, List.getElem?_append_left hj]
theorem x_begin (X : Xc) (a b c : Int32) : ∃ X1, (∀ Q : Xc → Prop, Q X1 → wx_X12_begin a b c X Q) ∧ Dr X X1 [a, b, c] := by
  refine ⟨xS (xA (xA (xA X 13 0 a) 13 1 b) 13 2 c) 14 3, fun Q h => ⟨vp_in_nI (n := 0) (by decide) (by decide), vp_in_nI (n := 1) (by decide) (by decide), vp_in_nI (n := 2) (by decide) (by decide), h⟩, fun k hk => ?_, fun k hk => ?_, rfl, fun j hj => ?_⟩
  · rw [xSS, if_neg hk]; rfl
  · funext i
    rw [xAS, xAA, xAA, xAA, if_neg (fun h => hk h.1), if_neg (fun h => hk h.1), if_neg (fun h => hk h.1)]
  · have hj : j < 3 := hj
    rcases (show j = 0 ∨ j = 1 ∨ j = 2 by omega) with rfl | rfl | rfl <;> rfl
theorem x_add {X X1 : Xc} {l : List Int32} (h : Dr X X1 l) (hl : l.length < 640) (v : Int32) : ∃ X2, (∀ Q : Xc → Prop, Q X2 → wx_X12_add v X1 Q) ∧ Dr X X2 (l ++ [v]) := by
  obtain ⟨h1, h2, h3, h4⟩ := h
  refine ⟨xS (xA X1 13 l.length v) 14 (nI (l.length + 1)), fun Q hQ => ?_, fun k hk => ?_, fun k hk => ?_, ?_, ?_⟩
  · unfold wx_X12_add
    intro x2 e2
    rw [h3] at e2
    subst e2
    refine ⟨vp_in_nI hl (by omega), fun x4 e4 x6 e6 => ?_⟩
    have e4 : x4 = nI l.length := e4.trans h3
    subst e4
    rw [nI_1] at e6
    subst e6
    rw [nI_clamp (by omega)]
    exact hQ
  · rw [xSS, if_neg hk]; exact h1 k hk
  · rw [← h2 k hk]
    funext i
    rw [xAS, xAA, if_neg (fun h => hk h.1)]
  · rw [xSS, if_pos rfl]; simp
  · refine Row.app h4 (fun i hi => ?_) ?_
    · rw [xAS, xAA, if_neg (by omega)]
    · rw [xAS, xAA, if_pos ⟨rfl, rfl⟩]
theorem x_addView {X X1 : Xc} {l : List Int32} (h : Dr X X1 l) (hl : l.length < 639) {r : Nat} (hr : r < 7) : ∃ X2, (∀ Q : Xc → Prop, Q X2 → wx_X12_addView (nI r) X1 Q) ∧ Dr X X2 (l ++ [X.2 21 r, X.2 22 r]) := by
  obtain ⟨X2, r2, d2⟩ := x_add h (by omega) (X.2 21 r)
  obtain ⟨X3, r3, d3⟩ := x_add d2 (by rw [List.length_append]; simp; omega) (X.2 22 r)
  refine ⟨X3, fun Q hQ => ?_, by rw [List.append_assoc] at d3; exact d3⟩
  unfold wx_X12_addView
  refine ⟨vp_in_nI hr (by omega), fun x2 e2 => ?_⟩
  rw [nI_clamp (by omega), h.2.1 21 (by omega)] at e2
  subst e2
  refine r2 _ ⟨vp_in_nI hr (by omega), fun x9 e9 => ?_⟩
  rw [nI_clamp (by omega), d2.2.1 22 (by omega)] at e9
  subst e9
  exact r3 _ hQ
theorem idx100 {r s : Nat} : (100 : Int32) * nI r + nI s = nI (100 * r + s) := by rw [show (100 : Int32) = nI 100 from rfl, nI_mul, nI_add]
theorem x_addE {X X1 : Xc} {l : List Int32} (h : Dr X X1 l) (hl : l.length + 6 ≤ 640) {e : Nat} (he : e < 700) : ∃ X2, Dr X X2 (l ++ encE (xE X e)) ∧ ∀ (Lx7 : Int32 × Int32 × Int32 → Xc → Prop) (Q : Xc → Prop) (p1 p2 p3 : Int32), Lx7 (p1, p2, p3 + 1) X2 → bx_X12_addLog_36 Lx7 Q p1 p2 p3 (nI e) (if X.2 30 e = 0 then 0 else 1) X1 := by
  by_cases h0 : X.2 30 e = 0
  · obtain ⟨X2, r2, d2⟩ := x_add h (by omega) 0
    refine ⟨X2, by simpa [xE, h0, encE] using d2, fun Lx7 Q p1 p2 p3 hQ => ?_⟩
    unfold bx_X12_addLog_36
    rw [if_pos h0]
    refine r2 _ ⟨vp_in_nI he (by omega), fun x6 e6 => ?_⟩
    rw [nI_clamp (by omega), d2.2.1 30 (by omega), h0] at e6
    subst e6
    refine ⟨fun _ => ?_, fun q => absurd rfl q⟩
    unfold bx_X12_addLog_104
    intro x1 e1
    subst e1
    exact hQ
  · obtain ⟨X2, r2, d2⟩ := x_add h (by omega) 1
    obtain ⟨X3, r3, d3⟩ := x_add d2 (by simp; omega) (X.2 31 e)
    obtain ⟨X4, r4, d4⟩ := x_add d3 (by simp; omega) (X.2 32 e)
    obtain ⟨X5, r5, d5⟩ := x_add d4 (by simp; omega) (X.2 33 e)
    obtain ⟨X6, r6, d6⟩ := x_add d5 (by simp; omega) (X.2 34 e)
    obtain ⟨X7, r7, d7⟩ := x_add d6 (by simp; omega) (X.2 35 e)
    refine ⟨X7, by simpa [xE, h0, encE] using d7, fun Lx7 Q p1 p2 p3 hQ => ?_⟩
    unfold bx_X12_addLog_36
    rw [if_neg h0]
    refine r2 _ ⟨vp_in_nI he (by omega), fun x6 e6 => ?_⟩
    rw [nI_clamp (by omega), d2.2.1 30 (by omega)] at e6
    refine ⟨fun q => absurd (e6.symm.trans q) h0, fun _ => ⟨vp_in_nI he (by omega), fun x10 e10 => ?_⟩⟩
    rw [nI_clamp (by omega), d2.2.1 31 (by omega)] at e10
    subst e10
    refine r3 _ ⟨vp_in_nI he (by omega), fun x17 e17 => ?_⟩
    rw [nI_clamp (by omega), d3.2.1 32 (by omega)] at e17
    subst e17
    refine r4 _ ⟨vp_in_nI he (by omega), fun x17 e17 => ?_⟩
    rw [nI_clamp (by omega), d4.2.1 33 (by omega)] at e17
    subst e17
    refine r5 _ ⟨vp_in_nI he (by omega), fun x17 e17 => ?_⟩
    rw [nI_clamp (by omega), d5.2.1 34 (by omega)] at e17
    subst e17
    refine r6 _ ⟨vp_in_nI he (by omega), fun x17 e17 => ?_⟩
    rw [nI_clamp (by omega), d6.2.1 35 (by omega)] at e17
    subst e17
    refine r7 _ ?_
    unfold bx_X12_addLog_104
    intro x1 e1
    subst e1
    exact hQ
theorem x_addLog {X X1 : Xc} {l : List Int32} (h : Dr X X1 l) {L r : Nat} (hL : L ≤ 100) (hl : l.length + 601 ≤ 640) (hr : r < 7) : ∃ X2, (∀ Q : Xc → Prop, Q X2 → wx_X12_addLog (nI r) (nI L) X1 Q) ∧ Dr X X2 (l ++ encG (fun s => xE X (100 * r + s)) (nI L)) := by
  obtain ⟨X2, r2, d2⟩ := x_add h (by omega) (nI L)
  have key : ∀ (d s : Nat) (X2 : Xc) (l2 : List Int32), s + d = L → Dr X X2 l2 → l2.length + 6 * d ≤ 640 → ∃ X3, Dr X X3 (l2 ++ encL (fun s => xE X (100 * r + s)) s d) ∧ ∀ (Q : Xc → Prop) (R : Int32 × Int32 × Int32 → Xc → Prop), (∀ t X, fx_X12_addLog_7 Q R t X → R t X) → Q X3 → R (nI r, nI L, nI s) X2 := by
    intro d
    induction d with
    | zero =>
      intro s X2 l2 hs hd _
      refine ⟨X2, by simpa [encL] using hd, fun Q R hR hQ => hR _ _ ⟨fun _ => hQ, fun q => absurd (nI_le (by omega) (by omega)) q⟩⟩
    | succ d ih =>
      intro s X2 l2 hs hd hlen
      obtain ⟨X3, d3, r3⟩ := x_addE hd (e := 100 * r + s) (by omega) (by omega)
      obtain ⟨X4, d4, r4⟩ := ih (s + 1) X3 _ (by omega) d3 (by have := encE_len (xE X (100 * r + s)); rw [List.length_append]; omega)
      refine ⟨X4, by rw [List.append_assoc] at d4; exact d4, fun Q R hR hQ => hR _ _ ⟨fun q => absurd q (nI_ge (by omega) (by omega)), fun _ x2 e2 => ?_⟩⟩
      dsimp only at e2
      rw [idx100] at e2
      subst e2
      refine ⟨vp_in_nI (by omega) (by omega), fun x5 e5 => ?_⟩
      rw [nI_clamp (by omega), hd.2.1 30 (by omega)] at e5
      subst e5
      have hgo := r3 R Q (nI r) (nI L) (nI s) (by rw [nI_1]; exact r4 Q R hR hQ)
      constructor
      · intro h0; rw [if_pos h0] at hgo; exact hgo
      · intro h0; rw [if_neg h0] at hgo; exact hgo
  obtain ⟨X3, d3, r3⟩ := key L 0 X2 _ (by omega) d2 (by simp; omega)
  refine ⟨X3, fun Q hQ => r2 _ (fun R hR => r3 Q R hR hQ), ?_⟩
  have : ln (nI L) = L := nI_clamp (by omega)
  rw [List.append_assoc] at d3
  unfold encG
  rw [this]
  exact d3
/-! The class copies a log -/
def ySl (Y : Yc) (p m : Nat) (f : Nat → Option Rq) : Yc := (Y.1, Y.2.1, Y.2.2.1, Y.2.2.2.1, Y.2.2.2.2.1, (fun c o i => if c = 200 ∧ o = p ∧ i < m then f i else yS Y c o i), Y.2.2.2.2.2.2)
theorem ySl_0 (Y : Yc) (p : Nat) (f : Nat → Option Rq) : ySl Y p 0 f = Y := by
  unfold ySl
  have : (fun c o i => if c = 200 ∧ o = p ∧ i < 0 then f i else yS Y c o i) = yS Y := by funext c o i; rw [if_neg (by omega)]
  rw [this]; rfl
theorem ySl_s (Y : Yc) (p m : Nat) (f : Nat → Option Rq) : uS (ySl Y p m f) 200 p m (f m) = ySl Y p (m + 1) f := by
  unfold ySl uS
  have : up3 (fun c o i => if c = 200 ∧ o = p ∧ i < m then f i else yS Y c o i) 200 p m (f m) = (fun c o i => if c = 200 ∧ o = p ∧ i < m + 1 then f i else yS Y c o i) := by
    funext c o i
    unfold up3
    by_cases h : c = 200 ∧ o = p ∧ i = m
    · obtain ⟨rfl, rfl, rfl⟩ := h; simp
    · rw [if_neg h]
      have : (c = 200 ∧ o = p ∧ i < m) ↔ (c = 200 ∧ o = p ∧ i < m + 1) := by omega
      simp only [this]
  simp only [this]
theorem ySl_S (Y : Yc) (p m : Nat) (f : Nat → Option Rq) (c o i : Nat) : yS (ySl Y p m f) c o i = if c = 200 ∧ o = p ∧ i < m then f i else yS Y c o i := rfl
theorem ySl_o (Y : Yc) (p m : Nat) (f : Nat → Option Rq) : yI (ySl Y p m f) = yI Y ∧ yJ (ySl Y p m f) = yJ Y ∧ yA (ySl Y p m f) = yA Y ∧ yB (ySl Y p m f) = yB Y ∧ yR (ySl Y p m f) = yR Y ∧ yP (ySl Y p m f) = yP Y := ⟨rfl, rfl, rfl, rfl, rfl, rfl⟩
theorem y_copyFirst {n p q L : Nat} {Y : Yc} (hpq : p ≠ q) (hL : L ≤ 100) (hl : yI Y 201 q = nI L) (Q : Yc → Prop) (hQ : Q (ySl Y p L (yS Y 200 q))) : wy_X2_copyFirst n p q Y Q := by
  intro R hR
  have key : ∀ d s, s + d = L → R (q, nI s) (ySl Y p s (yS Y 200 q)) := by
    intro d
    induction d with
    | zero =>
      intro s hs
      have hs : s = L := by omega
      subst hs
      refine hR _ _ (fun x2 e2 => ?_)
      have e2 : x2 = nI s := e2.trans hl
      subst e2
      exact ⟨fun _ => hQ, fun h => absurd (nI_le (Nat.le_refl s) (by omega)) h⟩
    | succ d ih =>
      intro s hs
      refine hR _ _ (fun x2 e2 => ?_)
      have e2 : x2 = nI L := e2.trans hl
      subst e2
      refine ⟨fun h => absurd h (nI_ge (by omega) (by omega)), fun _ => ⟨fun h => absurd h (nI_ge (a := s) (b := 100) (by omega) (by omega)), fun _ => ⟨vp_in_nI (by omega) (by omega), fun q13 e13 => ⟨vp_in_nI (by omega) (by omega), fun x17 e17 => ?_⟩⟩⟩⟩
      dsimp only at e13 e17 ⊢
      rw [nI_clamp (by omega), ySl_S, if_neg (by omega)] at e13
      rw [nI_1] at e17
      subst e13; subst e17
      rw [nI_clamp (by omega), ySl_s]
      exact ih (s + 1) (by omega)
  have := key L 0 (by omega)
  rw [ySl_0] at this
  exact this
def yBc (Y : Yc) (p q L : Nat) : Yc := ySl (uI (uI Y 202 p (yI Y 202 q)) 201 p (yI Y 201 q)) p L (yS Y 200 q)
theorem y_become {n p q L : Nat} {Y : Yc} (hpq : p ≠ q) (hL : L ≤ 100) (hl : yI Y 201 q = nI L) (Q : Yc → Prop) (hQ : Q (yBc Y p q L)) : wy_X2_become n p q Y Q := by
  unfold wy_X2_become
  intro x2 e2 x5 e5
  subst e2
  rw [yII, if_neg (by omega)] at e5
  subst e5
  refine y_copyFirst hpq hL ?_ _ hQ
  rw [yII, if_neg (by omega), yII, if_neg (by omega)]
  exact hl
