/-! image -/
section
variable {n K : Nat} {Y Y2 Y0 : Yc} {X X2 X0 : Xc} {o r : Nat}
theorem bl0 : bl 0 = 2560 := rfl
def imH (r st l1 e1 l2 e2 sy dn nw len : Int32) : List Int32 := aW (aW (aW (aW (aW (aW (aW (aW (a1 (a1 (a1 (a1 (a1 (a1 (a1 (a1 [] 79) 82) 87) 75) r) st) 0) 0) l1) e1) l2) e2) sy) dn) nw) len
theorem imH_len (r st l1 e1 l2 e2 sy dn nw len : Int32) : (imH r st l1 e1 l2 e2 sy dn nw len).length = 40 := by
  simp only [imH, a1_len, aW_len, List.length_nil]
theorem a1_00 (h : List Int32) : h ++ List.replicate 2 0 = a1 (a1 h 0) 0 := by
  simp [a1, and0, List.replicate_succ]
theorem WY.pr {α : Type} {g : Yc → (α → Yc → Prop) → Prop} {p : α → Yc → (Yc → Prop) → Prop} {h h2 : List Int32} (v : α) (hg : ∀ Y Q, OY o Y0 Y → Q v Y → g Y Q) (b : WY o Y0 (p v) h h2) : WY o Y0 (fun Y Q => g Y (fun x Y2 => p x Y2 Q)) h h2 := fun Y g1 w => by
  obtain ⟨Y2, g2, w2, r2⟩ := b Y g1 w
  exact ⟨Y2, g2, w2, fun Q hQ => hg Y _ g1 (r2 Q hQ)⟩
theorem y_head (S : Sim n K Y X) (hr : r < n) : WY 0 Y (wy_X8_writeHead n r 0) [] (imH (nI r) (X.2 23 r) (X.2 21 r) (X.2 22 r) (X.2 24 r) (X.2 25 r) (X.2 27 r) (X.2 28 r) (X.2 29 r) (X.2 26 r)) := by
  have hb : bl 0 ≤ 2560 := Nat.le_refl _
  have h := (S.pcs.1 r hr).1
  have g := (S.pcs.1 r hr).2.1
  unfold RpS at h
  unfold LgS at g
  unfold wy_X8_writeHead
  refine WY.seq (WY.add hb (by simp only [a1_len, aW_len, List.length_nil, bl0] <;> omega) _) ?_
  refine WY.seq (WY.add hb (by simp only [a1_len, aW_len, List.length_nil, bl0] <;> omega) _) ?_
  refine WY.seq (WY.add hb (by simp only [a1_len, aW_len, List.length_nil, bl0] <;> omega) _) ?_
  refine WY.seq (WY.add hb (by simp only [a1_len, aW_len, List.length_nil, bl0] <;> omega) _) ?_
  refine WY.rd (nI r) (fun Y' q => (q.1 800 r (by omega)).trans h.1) ?_
  refine WY.seq (WY.add hb (by simp only [a1_len, aW_len, List.length_nil, bl0] <;> omega) _) ?_
  refine WY.rd (X.2 23 r) (fun Y' q => (q.1 804 r (by omega)).trans h.2.2.1) ?_
  refine WY.seq (WY.add hb (by simp only [a1_len, aW_len, List.length_nil, bl0] <;> omega) _) ?_
  refine WY.seq (WY.zeros hb 2 (by simp only [a1_len, aW_len, List.length_nil, bl0] <;> omega)) ?_
  rw [a1_00]
  refine WY.rd (vw (X.2 21 r) (X.2 22 r)) (fun Y' q => by rw [q.2.1]; exact h.2.2.2.1) ?_
  refine WY.pr (X.2 21 r) (fun Y' Q _ hQ => by unfold wy_X11_leadOf; rw [vw_lead]; exact hQ) ?_
  refine WY.seq (WY.word hb (by simp only [a1_len, aW_len, List.length_nil, bl0] <;> omega) _) ?_
  refine WY.rd (vw (X.2 21 r) (X.2 22 r)) (fun Y' q => by rw [q.2.1]; exact h.2.2.2.1) ?_
  refine WY.pr (X.2 22 r) (fun Y' Q _ hQ => by unfold wy_X11_sessionOf; rw [vw_sess]; exact hQ) ?_
  refine WY.seq (WY.word hb (by simp only [a1_len, aW_len, List.length_nil, bl0] <;> omega) _) ?_
  refine WY.rd (vw (X.2 24 r) (X.2 25 r)) (fun Y' q => by rw [q.2.1]; exact h.2.2.2.2.1) ?_
  refine WY.pr (X.2 24 r) (fun Y' Q _ hQ => by unfold wy_X11_leadOf; rw [vw_lead]; exact hQ) ?_
  refine WY.seq (WY.word hb (by simp only [a1_len, aW_len, List.length_nil, bl0] <;> omega) _) ?_
  refine WY.rd (vw (X.2 24 r) (X.2 25 r)) (fun Y' q => by rw [q.2.1]; exact h.2.2.2.2.1) ?_
  refine WY.pr (X.2 25 r) (fun Y' Q _ hQ => by unfold wy_X11_sessionOf; rw [vw_sess]; exact hQ) ?_
  refine WY.seq (WY.word hb (by simp only [a1_len, aW_len, List.length_nil, bl0] <;> omega) _) ?_
  refine WY.rd (X.2 27 r) (fun Y' q => (q.1 202 r (by omega)).trans g.2.1) ?_
  refine WY.seq (WY.word hb (by simp only [a1_len, aW_len, List.length_nil, bl0] <;> omega) _) ?_
  refine WY.rd (X.2 28 r) (fun Y' q => (q.1 808 r (by omega)).trans h.2.2.2.2.2.1) ?_
  refine WY.seq (WY.word hb (by simp only [a1_len, aW_len, List.length_nil, bl0] <;> omega) _) ?_
  refine WY.rd (X.2 29 r) (fun Y' q => (q.1 809 r (by omega)).trans h.2.2.2.2.2.2.1) ?_
  refine WY.seq (WY.word hb (by simp only [a1_len, aW_len, List.length_nil, bl0] <;> omega) _) ?_
  refine WY.rd (X.2 26 r) (fun Y' q => (q.1 201 r (by omega)).trans g.1) ?_
  exact WY.word hb (by simp only [a1_len, aW_len, List.length_nil, bl0] <;> omega) _
/-- an entry -/
def eN (h : List Int32) : Option Rq → List Int32
  | none => aW (aW (aW (a1 (a1 (a1 (a1 h 0) 0) 0) 0) 0) 0) 0
  | some w => aW (aW (aW (a1 (a1 (a1 (a1 h 1) w.1) w.2.2.1) w.2.2.2.1) w.2.1) w.2.2.2.2) 0
theorem eN_len (h : List Int32) (q : Option Rq) : (eN h q).length = h.length + 16 := by
  cases q <;> simp only [eN, a1_len, aW_len]
def eNs (f : Nat → Option Rq) : Nat → Nat → List Int32 → List Int32
  | _, 0, h => h
  | s, m + 1, h => eNs f (s + 1) m (eN h (f s))
theorem eNs_len (f : Nat → Option Rq) : ∀ m s h, (eNs f s m h).length = h.length + 16 * m := by
  intro m
  induction m with
  | zero => intro s h; rfl
  | succ m ih =>
    intro s h
    show (eNs f (s + 1) m (eN h (f s))).length = _
    rw [ih, eN_len]
    omega
theorem aW_0 (h : List Int32) : h ++ List.replicate 4 0 = aW h 0 := by rw [aW, wB0]
theorem eN_none (h : List Int32) : h ++ List.replicate 16 0 = eN h none := by
  show _ = aW (aW (aW (a1 (a1 (a1 (a1 h 0) 0) 0) 0) 0) 0) 0
  simp only [a1, aW, and0, wB0, List.append_assoc]
  rfl
theorem y_at2 {s L : Nat} (hL : L ≤ 100) (hs : s < 2 ^ 30) (hl : yI Y 201 r = nI L) (Q : Option Rq → Yc → Prop) (hQ : Q (if s < L then yS Y 200 r s else none) Y) : wy_X2_at n r (nI (s + 1)) Y Q := by
  by_cases h : s < L
  · rw [if_pos h] at hQ
    exact y_ent (by omega) (by omega) hL hl Q hQ
  · rw [if_neg h] at hQ
    unfold wy_X2_at
    refine y_has (by omega) hL hl _ ?_
    rw [if_neg (by omega)]
    exact ⟨fun _ => hQ, fun q => absurd rfl q⟩
theorem y_ents {L : Nat} (hL : L ≤ 100) (hl : yI Y0 201 r = nI L) {s : Nat} (hs : s ≤ 100) : ∀ d t h, t + d = s + 25 → h.length + 16 * d ≤ 2560 → ∀ Y, OY 0 Y0 Y → YW 0 Y h → ∃ Y2, OY 0 Y0 Y2 ∧ YW 0 Y2 (eNs (fun s => if s < L then yS Y0 200 r s else none) t d h) ∧ ∀ Q : Yc → Prop, Q Y2 → LFy (fy_X2_writeEntries_4 n r Q) (0, nI s, nI (t + 1)) Y := by
  have hb : bl 0 ≤ 2560 := Nat.le_refl _
  have e25 : nI s + (25 : Int32) = nI (s + 25) := by rw [show (25 : Int32) = nI 25 from rfl, nI_add]
  intro d
  induction d with
  | zero =>
    intro t h ht _ Y g w
    have ht : t = s + 25 := by omega
    subst ht
    refine ⟨Y, g, w, fun Q hQ R hR => hR _ _ ⟨fun _ => hQ, fun q => absurd ?_ q⟩⟩
    show nI s + (25 : Int32) < nI (s + 25 + 1)
    rw [e25]
    exact (nI_lti (by omega) (by omega)).mpr (by omega)
  | succ d ih =>
    intro t h ht hh Y g w
    have hcond : ¬ (nI s + (25 : Int32) < nI (t + 1)) := by
      rw [e25]
      exact fun q => absurd ((nI_lti (by omega) (by omega)).mp q) (by omega)
    have one : ∃ Y1, OY 0 Y0 Y1 ∧ YW 0 Y1 (eN h (if t < L then yS Y0 200 r t else none)) ∧ ∀ (Q : Yc → Prop) (R : Nat × Int32 × Int32 → Yc → Prop), R (0, nI s, nI (t + 1 + 1)) Y1 → fy_X2_writeEntries_4 n r Q R (0, nI s, nI (t + 1)) Y := by
      have hl2 : yI Y 201 r = nI L := (g.1 201 r (by omega)).trans hl
      have hS : yS Y = yS Y0 := g.2.2.2.2.2.1
      have fin : ∀ {Y1 : Yc} (Q : Yc → Prop) (R : Nat × Int32 × Int32 → Yc → Prop), R (0, nI s, nI (t + 1 + 1)) Y1 → by_X2_writeEntries_88 n r R Q 0 (nI s) (nI (t + 1)) Y1 := by
        intro Y1 Q R hR
        unfold by_X2_writeEntries_88
        intro x1 e1
        have e1 : x1 = nI (t + 1 + 1) := e1.trans (nI_1 _)
        subst e1
        exact hR
      cases hq : (if t < L then yS Y0 200 r t else none) with
      | none =>
        obtain ⟨Y1, g1, w1, r1⟩ := WY.zeros (n := n) (o := 0) (Y0 := Y0) hb 16 (h := h) (by rw [bl0]; omega) Y g w
        rw [eN_none] at w1
        refine ⟨Y1, g1, w1, fun Q R hR => ⟨fun q => absurd q hcond, fun _ => y_at2 hL (by omega) hl2 _ ?_⟩⟩
        rw [hS, hq]
        exact ⟨fun _ => r1 _ (fin Q R hR), fun w q => nomatch q⟩
      | some v =>
        have step : WY 0 Y0 (fun Y3 Q => (wy_X0_add n 0 (1 : Int32) Y3 (fun (Y23 : Yc) => (∀ x29 : Int32, x29 = v.1 → (wy_X0_add n 0 x29 Y23 (fun (Y32 : Yc) => (∀ x38 : Int32, x38 = v.2.2.1 → (wy_X0_add n 0 x38 Y32 (fun (Y41 : Yc) => (∀ x47 : Int32, x47 = v.2.2.2.1 → (wy_X0_add n 0 x47 Y41 (fun (Y50 : Yc) => (∀ x56 : Int32, x56 = v.2.1 → (wy_X0_addWord n 0 x56 Y50 (fun (Y59 : Yc) => (∀ x65 : Int32, x65 = v.2.2.2.2 → (wy_X0_addWord n 0 x65 Y59 (fun (Y68 : Yc) => (wy_X0_addZeros n 0 (4 : Int32) Y68 Q))))))))))))))))))) h (eN h (some v)) := by
          refine WY.seq (WY.add hb (by simp only [a1_len, aW_len, bl0] <;> omega) _) ?_
          refine WY.rd v.1 (fun _ _ => rfl) ?_
          refine WY.seq (WY.add hb (by simp only [a1_len, aW_len, bl0] <;> omega) _) ?_
          refine WY.rd v.2.2.1 (fun _ _ => rfl) ?_
          refine WY.seq (WY.add hb (by simp only [a1_len, aW_len, bl0] <;> omega) _) ?_
          refine WY.rd v.2.2.2.1 (fun _ _ => rfl) ?_
          refine WY.seq (WY.add hb (by simp only [a1_len, aW_len, bl0] <;> omega) _) ?_
          refine WY.rd v.2.1 (fun _ _ => rfl) ?_
          refine WY.seq (WY.word hb (by simp only [a1_len, aW_len, bl0] <;> omega) _) ?_
          refine WY.rd v.2.2.2.2 (fun _ _ => rfl) ?_
          refine WY.seq (WY.word hb (by simp only [a1_len, aW_len, bl0] <;> omega) _) ?_
          show WY 0 Y0 _ _ (aW _ 0)
          rw [← aW_0]
          exact WY.zeros hb 4 (by simp only [a1_len, aW_len, bl0] <;> omega)
        obtain ⟨Y1, g1, w1, r1⟩ := step Y g w
        refine ⟨Y1, g1, w1, fun Q R hR => ⟨fun q => absurd q hcond, fun _ => y_at2 hL (by omega) hl2 _ ?_⟩⟩
        rw [hS, hq]
        refine ⟨fun q => (nomatch q), fun w11 q => ?_⟩
        have q : v = w11 := Option.some.inj q
        subst q
        exact r1 (by_X2_writeEntries_88 n r R Q 0 (nI s) (nI (t + 1))) (fin Q R hR)
    obtain ⟨Y1, g1, w1, r1⟩ := one
    obtain ⟨Y2, g2, w2, r2⟩ := ih (t + 1) _ (by omega) (by rw [eN_len]; omega) Y1 g1 w1
    exact ⟨Y2, g2, w2, fun Q hQ R hR => hR _ _ (r1 Q R (r2 Q hQ R hR))⟩
end
