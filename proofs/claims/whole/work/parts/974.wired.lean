section
variable {n K : Nat} {Y Y2 Y0 : Yc} {X X2 X0 : Xc} {o r : Nat}
theorem WY.if0 {p q : Yc → (Yc → Prop) → Prop} {c : Prop} {h h2 : List Int32} (hc : c) (a : WY o Y0 p h h2) : WY o Y0 (fun X Q => (c → p X Q) ∧ (¬ c → q X Q)) h h2 := a.mono (fun _ _ _ z => ⟨fun _ => z, fun k => absurd hc k⟩)
theorem WY.if1 {p q : Yc → (Yc → Prop) → Prop} {c : Prop} {h h2 : List Int32} (hc : ¬ c) (a : WY o Y0 q h h2) : WY o Y0 (fun X Q => (c → p X Q) ∧ (¬ c → q X Q)) h h2 := a.mono (fun _ _ _ z => ⟨fun k => absurd k hc, fun _ => z⟩)
theorem WY.if0' {p q : Yc → (Yc → Prop) → Prop} {c : Prop} {h h2 : List Int32} (hc : c) (a : WY o Y0 p h h2) : WY o Y0 (fun X Q => (¬ c → q X Q) ∧ (c → p X Q)) h h2 := a.mono (fun _ _ _ z => ⟨fun k => absurd hc k, fun _ => z⟩)
theorem WY.if1' {p q : Yc → (Yc → Prop) → Prop} {c : Prop} {h h2 : List Int32} (hc : ¬ c) (a : WY o Y0 q h h2) : WY o Y0 (fun X Q => (¬ c → q X Q) ∧ (c → p X Q)) h h2 := a.mono (fun _ _ _ z => ⟨fun _ => z, fun k => absurd k hc⟩)
theorem WY.nil {h : List Int32} : WY o Y0 (fun Y Q => Q Y) h h := fun Y g w => ⟨Y, g, w, fun _ hQ => hQ⟩
theorem x_num0 (X : Xc) (Q : Int32 → Xc → Prop) (hQ : Q (nI 2) X) : wx_X12_numbers (nI 0) X Q := ⟨fun q => absurd q (by decide), fun _ => hQ, fun q => absurd q (by decide), fun q => absurd q (by decide), fun q => absurd q (by decide), fun q => absurd q (by decide), fun q => absurd q (by decide), fun q => absurd q (by decide), fun q => absurd q (by decide), fun q => absurd q (by decide), fun q => absurd q (by decide), fun q => absurd q (by decide), fun q => absurd q (by decide), fun q => absurd q (by decide)⟩
theorem x_num1 (X : Xc) (Q : Int32 → Xc → Prop) (hQ : Q (nI 3) X) : wx_X12_numbers (nI 1) X Q := ⟨fun q => absurd q (by decide), fun q => absurd q (by decide), fun _ => hQ, fun q => absurd q (by decide), fun q => absurd q (by decide), fun q => absurd q (by decide), fun q => absurd q (by decide), fun q => absurd q (by decide), fun q => absurd q (by decide), fun q => absurd q (by decide), fun q => absurd q (by decide), fun q => absurd q (by decide), fun q => absurd q (by decide), fun q => absurd q (by decide)⟩
theorem x_num2 (X : Xc) (Q : Int32 → Xc → Prop) (hQ : Q (nI 3) X) : wx_X12_numbers (nI 2) X Q := ⟨fun q => absurd q (by decide), fun q => absurd q (by decide), fun q => absurd q (by decide), fun _ => hQ, fun q => absurd q (by decide), fun q => absurd q (by decide), fun q => absurd q (by decide), fun q => absurd q (by decide), fun q => absurd q (by decide), fun q => absurd q (by decide), fun q => absurd q (by decide), fun q => absurd q (by decide), fun q => absurd q (by decide), fun q => absurd q (by decide)⟩
theorem x_num3 (X : Xc) (Q : Int32 → Xc → Prop) (hQ : Q (nI 3) X) : wx_X12_numbers (nI 3) X Q := ⟨fun q => absurd q (by decide), fun q => absurd q (by decide), fun q => absurd q (by decide), fun q => absurd q (by decide), fun _ => hQ, fun q => absurd q (by decide), fun q => absurd q (by decide), fun q => absurd q (by decide), fun q => absurd q (by decide), fun q => absurd q (by decide), fun q => absurd q (by decide), fun q => absurd q (by decide), fun q => absurd q (by decide), fun q => absurd q (by decide)⟩
theorem x_num4 (X : Xc) (Q : Int32 → Xc → Prop) (hQ : Q (nI 3) X) : wx_X12_numbers (nI 4) X Q := ⟨fun q => absurd q (by decide), fun q => absurd q (by decide), fun q => absurd q (by decide), fun q => absurd q (by decide), fun q => absurd q (by decide), fun _ => hQ, fun q => absurd q (by decide), fun q => absurd q (by decide), fun q => absurd q (by decide), fun q => absurd q (by decide), fun q => absurd q (by decide), fun q => absurd q (by decide), fun q => absurd q (by decide), fun q => absurd q (by decide)⟩
theorem x_num5 (X : Xc) (Q : Int32 → Xc → Prop) (hQ : Q (nI 2) X) : wx_X12_numbers (nI 5) X Q := ⟨fun q => absurd q (by decide), fun q => absurd q (by decide), fun q => absurd q (by decide), fun q => absurd q (by decide), fun q => absurd q (by decide), fun q => absurd q (by decide), fun _ => hQ, fun q => absurd q (by decide), fun q => absurd q (by decide), fun q => absurd q (by decide), fun q => absurd q (by decide), fun q => absurd q (by decide), fun q => absurd q (by decide), fun q => absurd q (by decide)⟩
theorem x_num6 (X : Xc) (Q : Int32 → Xc → Prop) (hQ : Q (nI 3) X) : wx_X12_numbers (nI 6) X Q := ⟨fun q => absurd q (by decide), fun q => absurd q (by decide), fun q => absurd q (by decide), fun q => absurd q (by decide), fun q => absurd q (by decide), fun q => absurd q (by decide), fun q => absurd q (by decide), fun _ => hQ, fun q => absurd q (by decide), fun q => absurd q (by decide), fun q => absurd q (by decide), fun q => absurd q (by decide), fun q => absurd q (by decide), fun q => absurd q (by decide)⟩
theorem x_num7 (X : Xc) (Q : Int32 → Xc → Prop) (hQ : Q (nI 3) X) : wx_X12_numbers (nI 7) X Q := ⟨fun q => absurd q (by decide), fun q => absurd q (by decide), fun q => absurd q (by decide), fun q => absurd q (by decide), fun q => absurd q (by decide), fun q => absurd q (by decide), fun q => absurd q (by decide), fun q => absurd q (by decide), fun _ => hQ, fun q => absurd q (by decide), fun q => absurd q (by decide), fun q => absurd q (by decide), fun q => absurd q (by decide), fun q => absurd q (by decide)⟩
theorem x_num8 (X : Xc) (Q : Int32 → Xc → Prop) (hQ : Q (nI 2) X) : wx_X12_numbers (nI 8) X Q := ⟨fun q => absurd q (by decide), fun q => absurd q (by decide), fun q => absurd q (by decide), fun q => absurd q (by decide), fun q => absurd q (by decide), fun q => absurd q (by decide), fun q => absurd q (by decide), fun q => absurd q (by decide), fun q => absurd q (by decide), fun _ => hQ, fun q => absurd q (by decide), fun q => absurd q (by decide), fun q => absurd q (by decide), fun q => absurd q (by decide)⟩
theorem x_num9 (X : Xc) (Q : Int32 → Xc → Prop) (hQ : Q (nI 5) X) : wx_X12_numbers (nI 9) X Q := ⟨fun q => absurd q (by decide), fun q => absurd q (by decide), fun q => absurd q (by decide), fun q => absurd q (by decide), fun q => absurd q (by decide), fun q => absurd q (by decide), fun q => absurd q (by decide), fun q => absurd q (by decide), fun q => absurd q (by decide), fun q => absurd q (by decide), fun _ => hQ, fun q => absurd q (by decide), fun q => absurd q (by decide), fun q => absurd q (by decide)⟩
theorem x_num10 (X : Xc) (Q : Int32 → Xc → Prop) (hQ : Q (nI 3) X) : wx_X12_numbers (nI 10) X Q := ⟨fun q => absurd q (by decide), fun q => absurd q (by decide), fun q => absurd q (by decide), fun q => absurd q (by decide), fun q => absurd q (by decide), fun q => absurd q (by decide), fun q => absurd q (by decide), fun q => absurd q (by decide), fun q => absurd q (by decide), fun q => absurd q (by decide), fun q => absurd q (by decide), fun _ => hQ, fun q => absurd q (by decide), fun q => absurd q (by decide)⟩
theorem x_num11 (X : Xc) (Q : Int32 → Xc → Prop) (hQ : Q (nI 4) X) : wx_X12_numbers (nI 11) X Q := ⟨fun q => absurd q (by decide), fun q => absurd q (by decide), fun q => absurd q (by decide), fun q => absurd q (by decide), fun q => absurd q (by decide), fun q => absurd q (by decide), fun q => absurd q (by decide), fun q => absurd q (by decide), fun q => absurd q (by decide), fun q => absurd q (by decide), fun q => absurd q (by decide), fun q => absurd q (by decide), fun _ => hQ, fun q => absurd q (by decide)⟩
theorem x_num12 (X : Xc) (Q : Int32 → Xc → Prop) (hQ : Q (nI 2) X) : wx_X12_numbers (nI 12) X Q := ⟨fun q => absurd q (by decide), fun q => absurd q (by decide), fun q => absurd q (by decide), fun q => absurd q (by decide), fun q => absurd q (by decide), fun q => absurd q (by decide), fun q => absurd q (by decide), fun q => absurd q (by decide), fun q => absurd q (by decide), fun q => absurd q (by decide), fun q => absurd q (by decide), fun q => absurd q (by decide), fun q => absurd q (by decide), fun _ => hQ⟩
/-- the class: the sum at the end -/
theorem y_fin {h h1 : List Int32} (hr : WY 0 Y0 (wy_X3_writeRest n o 0) h h1) (hh : h1.length + 4 ≤ 2560) : WY 0 Y0 (fun Y Q => by_X3_write_91 n o Q 0 Y) h (sB h1) := by
  intro Y g w
  obtain ⟨Y1, g1, w1, r1⟩ := hr Y g w
  obtain ⟨Y2, g2, w2, r2⟩ := WY.word (n := n) (o := 0) (Y0 := Y0) (Nat.le_refl _) (h := h1) (by rw [bl0]; omega) (crcn (fun q => h1.getD q 0) 0 h1.length (-1) ^^^ (-1)) Y1 g1 w1
  refine ⟨Y2, g2, w2, fun Q hQ => ?_⟩
  unfold by_X3_write_91
  refine r1 _ (fun x9 e9 => ?_)
  rw [w1.1] at e9
  subst e9
  refine y_sum (i := 0) (by omega) (by rw [bl0]; omega) (Nat.le_refl _) _ ?_
  rw [w1.crc (by omega)]
  exact r2 _ hQ
def yH (Y : Yc) (o : Nat) : List Int32 := a1 (a1 (a1 [] (yI Y 301 o)) (if yI Y 302 o = -1 then 255 else yI Y 302 o)) (if yI Y 301 o = 11 then 16 + yI Y 303 o else yI Y 303 o)
theorem y_writeH {h2 : List Int32} (t : WY 0 Y (fun Y' Q => (∀ x9 : Int32, x9 = yI Y' 301 o → ((¬ x9 = 0 → (∀ y12 : Int64, y12 = yJ Y' 304 o → (wy_X0_addView n 0 y12 Y' (fun (Y16 : Yc) => by_X3_write_91 n o Q 0 Y16)))) ∧ (x9 = 0 → (∀ y22 : Int64, y22 = yJ Y' 304 o → (wy_X11_sessionOf n y22 Y' (fun (x28 : Int32) (Y25 : Yc) => (wy_X0_addNumber n 0 x28 Y25 (fun (Y33 : Yc) => by_X3_write_91 n o Q 0 Y33)))))))) ) (yH Y o) h2) : ∃ Y2, OY 0 Y Y2 ∧ YW 0 Y2 h2 ∧ ∀ Q, Q Y2 → wy_X3_write n o 0 Y Q := by
  have hb : bl 0 ≤ 2560 := Nat.le_refl _
  have m : WY 0 Y (fun Y' Q => ∀ x3 : Int32, x3 = yI Y' 301 o → (wy_X0_add n 0 x3 Y' (fun (Y6 : Yc) => (∀ x12 : Int32, x12 = yI Y6 302 o → ((¬ x12 = (-1 : Int32) → (∀ x15 : Int32, x15 = yI Y6 302 o → by_X3_write_32 n o Q 0 x15 0 Y6)) ∧ (x12 = (-1 : Int32) → by_X3_write_32 n o Q 0 (255 : Int32) 0 Y6)))))) [] h2 := by
    have t2 : ∀ v, v = (if yI Y 302 o = -1 then 255 else yI Y 302 o) → WY 0 Y (fun Y' Q => by_X3_write_32 n o Q 0 v 0 Y') (a1 [] (yI Y 301 o)) h2 := by
      intro v hv
      subst hv
      have t3 : ∀ v, v = (if yI Y 301 o = 11 then 16 + yI Y 303 o else yI Y 303 o) → WY 0 Y (fun Y' Q => by_X3_write_59 n o Q 0 v 0 Y') (a1 (a1 [] (yI Y 301 o)) (if yI Y 302 o = -1 then 255 else yI Y 302 o)) h2 := by
        intro v hv
        subst hv
        unfold by_X3_write_59
        exact WY.seq (WY.add hb (by simp only [a1_len, List.length_nil, bl0] <;> omega) _) t
      unfold by_X3_write_32
      refine WY.seq (WY.add hb (by simp only [a1_len, List.length_nil, bl0] <;> omega) _) ?_
      refine WY.rd (yI Y 301 o) (fun Y' g => g.1 301 o (by omega)) ?_
      by_cases h11 : yI Y 301 o = 11
      · refine WY.if0' h11 ?_
        refine WY.rd (yI Y 303 o) (fun Y' g => g.1 303 o (by omega)) ?_
        exact t3 _ (by rw [if_pos h11])
      · refine WY.if1' h11 ?_
        refine WY.rd (yI Y 303 o) (fun Y' g => g.1 303 o (by omega)) ?_
        exact t3 _ (by rw [if_neg h11])
    refine WY.rd (yI Y 301 o) (fun Y' g => g.1 301 o (by omega)) ?_
    refine WY.seq (WY.add hb (by simp only [a1_len, List.length_nil, bl0] <;> omega) _) ?_
    refine WY.rd (yI Y 302 o) (fun Y' g => g.1 302 o (by omega)) ?_
    by_cases h1 : yI Y 302 o = -1
    · exact WY.if0' h1 (t2 _ (by rw [if_pos h1]))
    · refine WY.if1' h1 ?_
      refine WY.rd (yI Y 302 o) (fun Y' g => g.1 302 o (by omega)) ?_
      exact t2 _ (by rw [if_neg h1])
  exact m (uI Y 1 0 0) (OY.rf.wI _) ⟨by rw [yII, if_pos ⟨rfl, rfl⟩]; rfl, fun i hi => absurd hi (by simp)⟩
theorem y_view {h : List Int32} (hh : h.length + 10 ≤ 2560) {l e : Nat} (hl : l < 2 ^ 31) (he : e < 2 ^ 31) : WY 0 Y0 (wy_X0_addView n 0 (vw (nI l) (nI e))) h (aN (aN h l) e) := by
  have a := aN_len h l
  unfold wy_X0_addView
  refine WY.pr (nI l) (fun Y' Q _ hQ => by unfold wy_X11_leadOf; rw [vw_lead]; exact hQ) ?_
  refine WY.seq (WY.num (Nat.le_refl _) (by rw [bl0]; omega) hl) ?_
  refine WY.pr (nI e) (fun Y' Q _ hQ => by unfold wy_X11_sessionOf; rw [vw_sess]; exact hQ) ?_
  exact WY.num (Nat.le_refl _) (by rw [bl0]; omega) he
theorem yH_len : (yH Y o).length = 3 := by simp only [yH, a1_len, List.length_nil]
theorem y_write1 {l e : Nat} (hl : l < 2 ^ 31) (he : e < 2 ^ 31) (hk : ¬ yI Y 301 o = 0) (hj : yJ Y 304 o = vw (nI l) (nI e)) {h1 : List Int32} (hr : WY 0 Y (wy_X3_writeRest n o 0) (aN (aN (yH Y o) l) e) h1) (hh : h1.length + 4 ≤ 2560) : ∃ Y2, OY 0 Y Y2 ∧ YW 0 Y2 (sB h1) ∧ ∀ Q, Q Y2 → wy_X3_write n o 0 Y Q := by
  refine y_writeH ?_
  refine WY.rd (yI Y 301 o) (fun Y' g => g.1 301 o (by omega)) ?_
  refine WY.if1' hk ?_
  refine WY.rd (vw (nI l) (nI e)) (fun Y' g => by rw [g.2.1]; exact hj) ?_
  exact WY.seq (y_view (by rw [yH_len]; omega) hl he) (y_fin hr hh)
theorem y_write0 {l e : Nat} (he : e < 2 ^ 31) (hk : yI Y 301 o = 0) (hj : yJ Y 304 o = vw (nI l) (nI e)) {h1 : List Int32} (hr : WY 0 Y (wy_X3_writeRest n o 0) (aN (yH Y o) e) h1) (hh : h1.length + 4 ≤ 2560) : ∃ Y2, OY 0 Y Y2 ∧ YW 0 Y2 (sB h1) ∧ ∀ Q, Q Y2 → wy_X3_write n o 0 Y Q := by
  refine y_writeH ?_
  refine WY.rd (yI Y 301 o) (fun Y' g => g.1 301 o (by omega)) ?_
  refine WY.if0' hk ?_
  refine WY.rd (vw (nI l) (nI e)) (fun Y' g => by rw [g.2.1]; exact hj) ?_
  refine WY.pr (nI e) (fun Y' Q _ hQ => by unfold wy_X11_sessionOf; rw [vw_sess]; exact hQ) ?_
  exact WY.seq (WY.num (Nat.le_refl _) (by rw [bl0, yH_len]; omega) he) (y_fin hr hh)
theorem y_rest1 {s : Nat} (hs : s < 2 ^ 31) (hk : yI Y0 301 o = 1) (h6 : yI Y0 306 o = nI s) {h : List Int32} (hh : h.length + 5 ≤ 2560) : WY 0 Y0 (wy_X3_writeRest n o 0) h (aN h s) := by
  refine WY.rd (1 : Int32) (fun Y' g => (g.1 301 o (by omega)).trans hk) ?_
  have m : WY 0 Y0 (fun Y Q => by_X3_writeRest_168 n o Q 0 Y) h (aN h s) := by
    unfold by_X3_writeRest_168
    refine WY.rd (nI s) (fun Y' g => (g.1 306 o (by omega)).trans h6) ?_
    refine WY.seq (WY.num (Nat.le_refl _) (by rw [bl0]; omega) hs) ?_
    refine WY.rd (1 : Int32) (fun Y' g => (g.1 301 o (by omega)).trans hk) ?_
    refine WY.if1 (by decide) ?_
    refine WY.rd (1 : Int32) (fun Y' g => (g.1 301 o (by omega)).trans hk) ?_
    exact WY.if1' (by decide) WY.nil
  exact m.mono (fun Y Q _ z => ⟨fun _ => z, fun q => absurd q (by decide), fun q => absurd q (by decide), fun q => absurd q (by decide), fun q => absurd q (by decide), fun q => absurd q (by decide), fun q => absurd q (by decide), fun q => absurd q (by decide), fun q => absurd q (by decide)⟩)
theorem y_rest3 {s : Nat} (hs : s < 2 ^ 31) (hk : yI Y0 301 o = 3) (h6 : yI Y0 306 o = nI s) {h : List Int32} (hh : h.length + 5 ≤ 2560) : WY 0 Y0 (wy_X3_writeRest n o 0) h (aN h s) := by
  refine WY.rd (3 : Int32) (fun Y' g => (g.1 301 o (by omega)).trans hk) ?_
  have m : WY 0 Y0 (fun Y Q => by_X3_writeRest_168 n o Q 0 Y) h (aN h s) := by
    unfold by_X3_writeRest_168
    refine WY.rd (nI s) (fun Y' g => (g.1 306 o (by omega)).trans h6) ?_
    refine WY.seq (WY.num (Nat.le_refl _) (by rw [bl0]; omega) hs) ?_
    refine WY.rd (3 : Int32) (fun Y' g => (g.1 301 o (by omega)).trans hk) ?_
    refine WY.if1 (by decide) ?_
    refine WY.rd (3 : Int32) (fun Y' g => (g.1 301 o (by omega)).trans hk) ?_
    exact WY.if1' (by decide) WY.nil
  exact m.mono (fun Y Q _ z => ⟨fun _ => z, fun q => absurd q (by decide), fun q => absurd q (by decide), fun q => absurd q (by decide), fun q => absurd q (by decide), fun q => absurd q (by decide), fun q => absurd q (by decide), fun q => absurd q (by decide), fun q => absurd q (by decide)⟩)
theorem y_rest4 {s : Nat} (hs : s < 2 ^ 31) (hk : yI Y0 301 o = 4) (h6 : yI Y0 306 o = nI s) {h : List Int32} (hh : h.length + 5 ≤ 2560) : WY 0 Y0 (wy_X3_writeRest n o 0) h (aN h s) := by
  refine WY.rd (4 : Int32) (fun Y' g => (g.1 301 o (by omega)).trans hk) ?_
  have m : WY 0 Y0 (fun Y Q => by_X3_writeRest_168 n o Q 0 Y) h (aN h s) := by
    unfold by_X3_writeRest_168
    refine WY.rd (nI s) (fun Y' g => (g.1 306 o (by omega)).trans h6) ?_
    refine WY.seq (WY.num (Nat.le_refl _) (by rw [bl0]; omega) hs) ?_
    refine WY.rd (4 : Int32) (fun Y' g => (g.1 301 o (by omega)).trans hk) ?_
    refine WY.if1 (by decide) ?_
    refine WY.rd (4 : Int32) (fun Y' g => (g.1 301 o (by omega)).trans hk) ?_
    exact WY.if1' (by decide) WY.nil
  exact m.mono (fun Y Q _ z => ⟨fun _ => z, fun q => absurd q (by decide), fun q => absurd q (by decide), fun q => absurd q (by decide), fun q => absurd q (by decide), fun q => absurd q (by decide), fun q => absurd q (by decide), fun q => absurd q (by decide), fun q => absurd q (by decide)⟩)
theorem y_rest6 {s : Nat} (hs : s < 2 ^ 31) (hk : yI Y0 301 o = 6) (h6 : yI Y0 306 o = nI s) {h : List Int32} (hh : h.length + 5 ≤ 2560) : WY 0 Y0 (wy_X3_writeRest n o 0) h (aN h s) := by
  refine WY.rd (6 : Int32) (fun Y' g => (g.1 301 o (by omega)).trans hk) ?_
  have m : WY 0 Y0 (fun Y Q => by_X3_writeRest_168 n o Q 0 Y) h (aN h s) := by
    unfold by_X3_writeRest_168
    refine WY.rd (nI s) (fun Y' g => (g.1 306 o (by omega)).trans h6) ?_
    refine WY.seq (WY.num (Nat.le_refl _) (by rw [bl0]; omega) hs) ?_
    refine WY.rd (6 : Int32) (fun Y' g => (g.1 301 o (by omega)).trans hk) ?_
    refine WY.if1 (by decide) ?_
    refine WY.rd (6 : Int32) (fun Y' g => (g.1 301 o (by omega)).trans hk) ?_
    exact WY.if1' (by decide) WY.nil
  exact m.mono (fun Y Q _ z => ⟨fun q => absurd q (by decide), fun q => absurd q (by decide), fun _ => z, fun q => absurd q (by decide), fun q => absurd q (by decide), fun q => absurd q (by decide), fun q => absurd q (by decide), fun q => absurd q (by decide), fun q => absurd q (by decide)⟩)
theorem y_rest7 {s : Nat} (hs : s < 2 ^ 31) (hk : yI Y0 301 o = 7) (h6 : yI Y0 306 o = nI s) {h : List Int32} (hh : h.length + 5 ≤ 2560) : WY 0 Y0 (wy_X3_writeRest n o 0) h (aN h s) := by
  refine WY.rd (7 : Int32) (fun Y' g => (g.1 301 o (by omega)).trans hk) ?_
  have m : WY 0 Y0 (fun Y Q => by_X3_writeRest_168 n o Q 0 Y) h (aN h s) := by
    unfold by_X3_writeRest_168
    refine WY.rd (nI s) (fun Y' g => (g.1 306 o (by omega)).trans h6) ?_
    refine WY.seq (WY.num (Nat.le_refl _) (by rw [bl0]; omega) hs) ?_
    refine WY.rd (7 : Int32) (fun Y' g => (g.1 301 o (by omega)).trans hk) ?_
    refine WY.if1 (by decide) ?_
    refine WY.rd (7 : Int32) (fun Y' g => (g.1 301 o (by omega)).trans hk) ?_
    exact WY.if1' (by decide) WY.nil
  exact m.mono (fun Y Q _ z => ⟨fun q => absurd q (by decide), fun q => absurd q (by decide), fun q => absurd q (by decide), fun _ => z, fun q => absurd q (by decide), fun q => absurd q (by decide), fun q => absurd q (by decide), fun q => absurd q (by decide), fun q => absurd q (by decide)⟩)
theorem y_rest0 {s : Nat} (hs : s < 2 ^ 31) (hk : yI Y0 301 o = 0) (h6 : yI Y0 306 o = nI s) {w : Rq} (hp : yP Y0 307 o = some w) (hK : K < 2 ^ 31) (hw : Sm K w.2.1) {h : List Int32} (hh : h.length + 20 ≤ 2560) : WY 0 Y0 (wy_X3_writeRest n o 0) h (rqW (aN h s) w) := by
  have a := aN_len h s
  refine WY.rd (0 : Int32) (fun Y' g => (g.1 301 o (by omega)).trans hk) ?_
  have m2 : WY 0 Y0 (fun Y Q => by_X3_writeRest_191 n o Q 0 Y) (aN h s) (rqW (aN h s) w) := by
    refine (y_rq (n := n) (h := aN h s) (by omega) hK hw).mono (fun Y Q g z => ?_)
    unfold by_X3_writeRest_191
    intro q2 e2
    have e2 : q2 = some w := e2.trans (by rw [g.2.2.2.2.1]; exact hp)
    subst e2
    refine ⟨fun q => (nomatch q), fun w10 e10 q13 e13 => ?_⟩
    have e13 : q13 = some w := e13.trans (by rw [g.2.2.2.2.1]; exact hp)
    exact ⟨w, e13, z⟩
  have m : WY 0 Y0 (fun Y Q => by_X3_writeRest_168 n o Q 0 Y) h (rqW (aN h s) w) := by
    unfold by_X3_writeRest_168
    refine WY.rd (nI s) (fun Y' g => (g.1 306 o (by omega)).trans h6) ?_
    refine WY.seq (WY.num (Nat.le_refl _) (by rw [bl0]; omega) hs) ?_
    refine WY.rd (0 : Int32) (fun Y' g => (g.1 301 o (by omega)).trans hk) ?_
    exact WY.if0 rfl m2
  exact m.mono (fun Y Q _ z => ⟨fun _ => z, fun q => absurd q (by decide), fun q => absurd q (by decide), fun q => absurd q (by decide), fun q => absurd q (by decide), fun q => absurd q (by decide), fun q => absurd q (by decide), fun q => absurd q (by decide), fun q => absurd q (by decide)⟩)
theorem y_rest2 {s : Nat} (hs : s < 2 ^ 31) (hk : yI Y0 301 o = 2) (h6 : yI Y0 306 o = nI s) {w : Rq} (hp : yP Y0 307 o = some w) (hK : K < 2 ^ 31) (hw : Sm K w.2.1) {h : List Int32} (hh : h.length + 20 ≤ 2560) : WY 0 Y0 (wy_X3_writeRest n o 0) h (rqW (aN h s) w) := by
  have a := aN_len h s
  refine WY.rd (2 : Int32) (fun Y' g => (g.1 301 o (by omega)).trans hk) ?_
  have m2 : WY 0 Y0 (fun Y Q => by_X3_writeRest_191 n o Q 0 Y) (aN h s) (rqW (aN h s) w) := by
    refine (y_rq (n := n) (h := aN h s) (by omega) hK hw).mono (fun Y Q g z => ?_)
    unfold by_X3_writeRest_191
    intro q2 e2
    have e2 : q2 = some w := e2.trans (by rw [g.2.2.2.2.1]; exact hp)
    subst e2
    refine ⟨fun q => (nomatch q), fun w10 e10 q13 e13 => ?_⟩
    have e13 : q13 = some w := e13.trans (by rw [g.2.2.2.2.1]; exact hp)
    exact ⟨w, e13, z⟩
  have m : WY 0 Y0 (fun Y Q => by_X3_writeRest_168 n o Q 0 Y) h (rqW (aN h s) w) := by
    unfold by_X3_writeRest_168
    refine WY.rd (nI s) (fun Y' g => (g.1 306 o (by omega)).trans h6) ?_
    refine WY.seq (WY.num (Nat.le_refl _) (by rw [bl0]; omega) hs) ?_
    refine WY.rd (2 : Int32) (fun Y' g => (g.1 301 o (by omega)).trans hk) ?_
    refine WY.if1 (by decide) ?_
    refine WY.rd (2 : Int32) (fun Y' g => (g.1 301 o (by omega)).trans hk) ?_
    exact WY.if0' rfl m2
  exact m.mono (fun Y Q _ z => ⟨fun _ => z, fun q => absurd q (by decide), fun q => absurd q (by decide), fun q => absurd q (by decide), fun q => absurd q (by decide), fun q => absurd q (by decide), fun q => absurd q (by decide), fun q => absurd q (by decide), fun q => absurd q (by decide)⟩)
theorem y_rest8 (hk : yI Y0 301 o = 8) {h : List Int32} : WY 0 Y0 (wy_X3_writeRest n o 0) h h := by
  refine WY.rd (8 : Int32) (fun Y' g => (g.1 301 o (by omega)).trans hk) ?_
  exact (WY.nil (h := h)).mono (fun Y Q _ z => ⟨fun q => absurd q (by decide), fun q => absurd q (by decide), fun q => absurd q (by decide), fun q => absurd q (by decide), fun _ => z, fun q => absurd q (by decide), fun q => absurd q (by decide), fun q => absurd q (by decide), fun q => absurd q (by decide)⟩)
theorem y_rest12 (hk : yI Y0 301 o = 12) {h : List Int32} : WY 0 Y0 (wy_X3_writeRest n o 0) h h := by
  refine WY.rd (12 : Int32) (fun Y' g => (g.1 301 o (by omega)).trans hk) ?_
  exact (WY.nil (h := h)).mono (fun Y Q _ z => ⟨fun q => absurd q (by decide), fun q => absurd q (by decide), fun q => absurd q (by decide), fun q => absurd q (by decide), fun q => absurd q (by decide), fun q => absurd q (by decide), fun q => absurd q (by decide), fun q => absurd q (by decide), fun _ => z⟩)
theorem y_rest5 (hk : yI Y0 301 o = 5) {L : Nat} (hL : L ≤ 100) (hl : yI Y0 201 (56 + o) = nI L) (hK : K < 2 ^ 31) (he : ∀ s, s < L → EnOK K (yS Y0 200 (56 + o) s)) {h : List Int32} (hh : h.length ≤ 1000) : WY 0 Y0 (wy_X3_writeRest n o 0) h (lgB (yS Y0 200 (56 + o)) L h) := by
  refine WY.rd (5 : Int32) (fun Y' g => (g.1 301 o (by omega)).trans hk) ?_
  exact (y_log hL hl hK he hh).mono (fun Y Q _ z => ⟨fun q => absurd q (by decide), fun _ => z, fun q => absurd q (by decide), fun q => absurd q (by decide), fun q => absurd q (by decide), fun q => absurd q (by decide), fun q => absurd q (by decide), fun q => absurd q (by decide), fun q => absurd q (by decide)⟩)
theorem y_rest10 {s : Nat} (hs : s < 2 ^ 31) (hk : yI Y0 301 o = 10) (h6 : yI Y0 202 (56 + o) = nI s) {L : Nat} (hL : L ≤ 100) (hl : yI Y0 201 (56 + o) = nI L) (hK : K < 2 ^ 31) (he : ∀ s, s < L → EnOK K (yS Y0 200 (56 + o) s)) {h : List Int32} (hh : h.length ≤ 900) : WY 0 Y0 (wy_X3_writeRest n o 0) h (lgB (yS Y0 200 (56 + o)) L (aN h s)) := by
  have a := aN_len h s
  refine WY.rd (10 : Int32) (fun Y' g => (g.1 301 o (by omega)).trans hk) ?_
  have m : WY 0 Y0 (fun Y Q => (∀ x45 : Int32, x45 = yI Y 202 (56 + o) → (wy_X0_addNumber n 0 x45 Y (fun (Y49 : Yc) => (wy_X2_write n (56 + o) 0 Y49 (fun (Y58 : Yc) => Q Y58)))))) h (lgB (yS Y0 200 (56 + o)) L (aN h s)) := by
    refine WY.rd (nI s) (fun Y' g => (g.1 202 _ (by omega)).trans h6) ?_
    refine WY.seq (WY.num (Nat.le_refl _) (by rw [bl0]; omega) hs) ?_
    exact y_log hL hl hK he (by omega)
  exact m.mono (fun Y Q _ z => ⟨fun q => absurd q (by decide), fun q => absurd q (by decide), fun q => absurd q (by decide), fun q => absurd q (by decide), fun q => absurd q (by decide), fun q => absurd q (by decide), fun _ => z, fun q => absurd q (by decide), fun q => absurd q (by decide)⟩)
theorem y_rest9 {s l e : Nat} (hs : s < 2 ^ 31) (hl2 : l < 2 ^ 31) (he2 : e < 2 ^ 31) (hk : yI Y0 301 o = 9) (h5 : yJ Y0 305 o = vw (nI l) (nI e)) (h6 : yI Y0 202 (56 + o) = nI s) {L : Nat} (hL : L ≤ 100) (hl : yI Y0 201 (56 + o) = nI L) (hK : K < 2 ^ 31) (he : ∀ s, s < L → EnOK K (yS Y0 200 (56 + o) s)) {h : List Int32} (hh : h.length ≤ 900) : WY 0 Y0 (wy_X3_writeRest n o 0) h (lgB (yS Y0 200 (56 + o)) L (aN (aN (aN h l) e) s)) := by
  have a := aN_len h l
  have a2 := aN_len (aN h l) e
  have a3 := aN_len (aN (aN h l) e) s
  refine WY.rd (9 : Int32) (fun Y' g => (g.1 301 o (by omega)).trans hk) ?_
  have m : WY 0 Y0 (fun Y Q => (∀ y13 : Int64, y13 = yJ Y 305 o → (wy_X0_addView n 0 y13 Y (fun (Y17 : Yc) => (∀ x25 : Int32, x25 = yI Y17 202 (56 + o) → (wy_X0_addNumber n 0 x25 Y17 (fun (Y28 : Yc) => (wy_X2_write n (56 + o) 0 Y28 (fun (Y37 : Yc) => Q Y37))))))))) h (lgB (yS Y0 200 (56 + o)) L (aN (aN (aN h l) e) s)) := by
    refine WY.rd (vw (nI l) (nI e)) (fun Y' g => by rw [g.2.1]; exact h5) ?_
    refine WY.seq (y_view (by omega) hl2 he2) ?_
    refine WY.rd (nI s) (fun Y' g => (g.1 202 _ (by omega)).trans h6) ?_
    refine WY.seq (WY.num (Nat.le_refl _) (by rw [bl0]; omega) hs) ?_
    exact y_log hL hl hK he (by omega)
  exact m.mono (fun Y Q _ z => ⟨fun q => absurd q (by decide), fun q => absurd q (by decide), fun q => absurd q (by decide), fun q => absurd q (by decide), fun q => absurd q (by decide), fun _ => z, fun q => absurd q (by decide), fun q => absurd q (by decide), fun q => absurd q (by decide)⟩)
theorem y_rest11 {s u : Nat} (hs : s < 2 ^ 31) (hu : u < 2 ^ 31) (hk : yI Y0 301 o = 11) (h6 : yI Y0 306 o = nI s) (h8 : yI Y0 308 o = nI u) (h9 : yI Y0 309 o = 0 ∨ yI Y0 309 o = 1) {h : List Int32} (hh : h.length ≤ 1000) : WY 0 Y0 (wy_X3_writeRest n o 0) h (if yI Y0 309 o = 0 then a1 (aN (aN h s) u) (yI Y0 309 o) else aW (a1 (aN (aN h s) u) (yI Y0 309 o)) (yI Y0 310 o)) := by
  have a := aN_len h s
  have a2 := aN_len (aN h s) u
  have rd9 : ∀ Y', OY 0 Y0 Y' → yI Y' 309 o = yI Y0 309 o := fun Y' g => g.1 309 o (by omega)
  refine WY.rd (11 : Int32) (fun Y' g => (g.1 301 o (by omega)).trans hk) ?_
  have m : WY 0 Y0 (fun Y Q => (∀ x64 : Int32, x64 = yI Y 306 o → (wy_X0_addNumber n 0 x64 Y (fun (Y68 : Yc) => (∀ x74 : Int32, x74 = yI Y68 308 o → (wy_X0_addNumber n 0 x74 Y68 (fun (Y77 : Yc) => (∀ x83 : Int32, x83 = yI Y77 309 o → ((x83 = 0 → by_X3_writeRest_147 n o Q 0 (0 : Int32) 0 Y77) ∧ (¬ x83 = 0 → by_X3_writeRest_147 n o Q 0 (1 : Int32) 0 Y77)))))))))) h (if yI Y0 309 o = 0 then a1 (aN (aN h s) u) (yI Y0 309 o) else aW (a1 (aN (aN h s) u) (yI Y0 309 o)) (yI Y0 310 o)) := by
    refine WY.rd (nI s) (fun Y' g => (g.1 306 _ (by omega)).trans h6) ?_
    refine WY.seq (WY.num (Nat.le_refl _) (by rw [bl0]; omega) hs) ?_
    refine WY.rd (nI u) (fun Y' g => (g.1 308 _ (by omega)).trans h8) ?_
    refine WY.seq (WY.num (Nat.le_refl _) (by rw [bl0]; omega) hu) ?_
    refine WY.rd (yI Y0 309 o) rd9 ?_
    rcases h9 with h9 | h9
    · refine WY.if0 h9 ?_
      rw [if_pos h9]
      unfold by_X3_writeRest_147
      rw [h9]
      refine WY.seq (WY.add (Nat.le_refl _) (by rw [bl0]; omega) _) ?_
      refine WY.rd (yI Y0 309 o) rd9 ?_
      exact WY.if0 h9 WY.nil
    · have hn : ¬ yI Y0 309 o = 0 := by rw [h9]; decide
      refine WY.if1 hn ?_
      rw [if_neg hn]
      unfold by_X3_writeRest_147
      rw [h9]
      refine WY.seq (WY.add (Nat.le_refl _) (by rw [bl0]; omega) _) ?_
      refine WY.rd (yI Y0 309 o) rd9 ?_
      refine WY.if1 hn ?_
      refine WY.rd (yI Y0 310 o) (fun Y' g => g.1 310 o (by omega)) ?_
      exact WY.word (Nat.le_refl _) (by rw [bl0, a1_len]; omega) _
  exact m.mono (fun Y Q _ z => ⟨fun q => absurd q (by decide), fun q => absurd q (by decide), fun q => absurd q (by decide), fun q => absurd q (by decide), fun q => absurd q (by decide), fun q => absurd q (by decide), fun q => absurd q (by decide), fun _ => z, fun q => absurd q (by decide)⟩)
end
