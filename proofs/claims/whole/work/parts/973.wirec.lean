section
variable {n K : Nat} {Y Y2 Y0 : Yc} {X X2 X0 : Xc} {o r : Nat}
def WV (X0 : Xc) (p : Xc → (Int32 → Xc → Prop) → Prop) (h h' : List Int32) : Prop := ∀ X, OX 88 89 X0 X → XW 88 89 X h → ∃ X2, OX 88 89 X0 X2 ∧ XW 88 89 X2 h' ∧ ∀ Q, Q (nI h'.length) X2 → p X Q
theorem WV.seq {p : Xc → (Xc → Prop) → Prop} {q : Xc → (Int32 → Xc → Prop) → Prop} {h h1 h2 : List Int32} (a : WX X0 p h h1) (b : WV X0 q h1 h2) : WV X0 (fun X Q => p X (fun X2 => q X2 Q)) h h2 := fun X g w => by
  obtain ⟨X1, g1, w1, r1⟩ := a X g w
  obtain ⟨X2, g2, w2, r2⟩ := b X1 g1 w1
  exact ⟨X2, g2, w2, fun Q hQ => r1 _ (r2 Q hQ)⟩
theorem WV.rd {f : Xc → Int32} {p : Int32 → Xc → (Int32 → Xc → Prop) → Prop} {h h2 : List Int32} (v : Int32) (hf : ∀ X, OX 88 89 X0 X → f X = v) (b : WV X0 (p v) h h2) : WV X0 (fun X Q => ∀ x, x = f X → p x X Q) h h2 := fun X g w => by
  obtain ⟨X2, g2, w2, r2⟩ := b X g w
  refine ⟨X2, g2, w2, fun Q hQ x e => ?_⟩
  rw [hf X g] at e
  subst e
  exact r2 Q hQ
theorem WV.gd {c : Prop} {p : Xc → (Int32 → Xc → Prop) → Prop} {h h2 : List Int32} (hc : c) (b : WV X0 p h h2) : WV X0 (fun X Q => c ∧ p X Q) h h2 := fun X g w => by
  obtain ⟨X2, g2, w2, r2⟩ := b X g w
  exact ⟨X2, g2, w2, fun Q hQ => ⟨hc, r2 Q hQ⟩⟩
theorem WV.mono {p q : Xc → (Int32 → Xc → Prop) → Prop} {h h2 : List Int32} (a : WV X0 p h h2) (i : ∀ X Q, OX 88 89 X0 X → p X Q → q X Q) : WV X0 q h h2 := fun X g w => by
  obtain ⟨X2, g2, w2, r2⟩ := a X g w
  exact ⟨X2, g2, w2, fun Q hQ => i X Q g (r2 Q hQ)⟩
theorem WV.if0 {p q : Xc → (Int32 → Xc → Prop) → Prop} {c : Prop} {h h2 : List Int32} (hc : c) (a : WV X0 p h h2) : WV X0 (fun X Q => (c → p X Q) ∧ (¬ c → q X Q)) h h2 := a.mono (fun _ _ _ z => ⟨fun _ => z, fun k => absurd hc k⟩)
theorem WV.if1 {p q : Xc → (Int32 → Xc → Prop) → Prop} {c : Prop} {h h2 : List Int32} (hc : ¬ c) (a : WV X0 q h h2) : WV X0 (fun X Q => (c → p X Q) ∧ (¬ c → q X Q)) h h2 := a.mono (fun _ _ _ z => ⟨fun k => absurd k hc, fun _ => z⟩)
theorem WV.if0' {p q : Xc → (Int32 → Xc → Prop) → Prop} {c : Prop} {h h2 : List Int32} (hc : c) (a : WV X0 p h h2) : WV X0 (fun X Q => (¬ c → q X Q) ∧ (c → p X Q)) h h2 := a.mono (fun _ _ _ z => ⟨fun k => absurd hc k, fun _ => z⟩)
theorem WV.if1' {p q : Xc → (Int32 → Xc → Prop) → Prop} {c : Prop} {h h2 : List Int32} (hc : ¬ c) (a : WV X0 q h h2) : WV X0 (fun X Q => (¬ c → q X Q) ∧ (c → p X Q)) h h2 := a.mono (fun _ _ _ z => ⟨fun _ => z, fun k => absurd k hc⟩)
theorem WV.pr {g : Xc → (Int32 → Xc → Prop) → Prop} {p : Int32 → Xc → (Int32 → Xc → Prop) → Prop} {h h2 : List Int32} (v : Int32) (hg : ∀ X Q, Q v X → g X Q) (b : WV X0 (p v) h h2) : WV X0 (fun X Q => g X (fun x X2 => p x X2 Q)) h h2 := fun X g1 w => by
  obtain ⟨X2, g2, w2, r2⟩ := b X g1 w
  exact ⟨X2, g2, w2, fun Q hQ => hg X _ (r2 Q hQ)⟩
theorem x_hasRequest {k : Nat} (hk : k ≤ 12) (X : Xc) (Q : Int32 → Xc → Prop) (hQ : Q (if k = 0 ∨ k = 2 then 1 else 0) X) : wx_X12_hasRequest (nI k) X Q := by
  unfold wx_X12_hasRequest bx_X12_hasRequest_9
  have h0 : nI k = 0 ↔ k = 0 := nI_eq (a := k) (b := 0) (by omega) (by omega)
  have h2 : nI k = 2 ↔ k = 2 := nI_eq (a := k) (b := 2) (by omega) (by omega)
  rw [h0, h2]
  refine ⟨fun q => ?_, fun q => ⟨fun q2 => ?_, fun q2 => ?_⟩⟩
  · rw [if_pos (Or.inl q)] at hQ
    exact hQ
  · rw [if_neg (by omega)] at hQ
    exact hQ
  · rw [if_pos (Or.inr q2)] at hQ
    exact hQ
theorem x_hasLog {k : Nat} (hk : k ≤ 12) (X : Xc) (Q : Int32 → Xc → Prop) (hQ : Q (if k = 5 ∨ k = 9 ∨ k = 10 then 1 else 0) X) : wx_X12_hasLog (nI k) X Q := by
  unfold wx_X12_hasLog bx_X12_hasLog_17
  have h5 : nI k = 5 ↔ k = 5 := nI_eq (a := k) (b := 5) (by omega) (by omega)
  have h9 : nI k = 9 ↔ k = 9 := nI_eq (a := k) (b := 9) (by omega) (by omega)
  have h10 : nI k = 10 ↔ k = 10 := nI_eq (a := k) (b := 10) (by omega) (by omega)
  rw [h5, h9, h10]
  refine ⟨fun q => ?_, fun q => ⟨fun q2 => ?_, fun q2 => ⟨fun q3 => ?_, fun q3 => ?_⟩⟩⟩
  · rw [if_pos (by omega)] at hQ
    exact hQ
  · rw [if_pos (by omega)] at hQ
    exact hQ
  · rw [if_neg (by omega)] at hQ
    exact hQ
  · rw [if_pos (by omega)] at hQ
    exact hQ
/-- the sum at the end -/
def sB (h : List Int32) : List Int32 := aW h (crcn (fun q => h.getD q 0) 0 h.length (-1) ^^^ (-1))
theorem sB_len (h : List Int32) : (sB h).length = h.length + 4 := aW_len _ _
theorem x_t185 {h : List Int32} (hh : h.length + 4 ≤ 2560) : WV X0 (fun X Q => bx_X12_wire_185 Q X) h (sB h) := by
  intro X g w
  obtain ⟨X2, g2, w2, r2⟩ := WX.word (X0 := X0) (h := h) hh (crcn (fun q => h.getD q 0) 0 h.length (-1) ^^^ (-1)) X g w
  refine ⟨X2, g2, w2, fun Q hQ => ?_⟩
  unfold bx_X12_wire_185
  intro x2 e2
  rw [w.1] at e2
  subst e2
  refine ⟨rfl, 0, h.length, rfl, rfl, by omega, by show h.length ≤ 2560; omega, ?_⟩
  rw [w.crc (by omega)]
  refine r2 _ (fun x12 e12 => ?_)
  have e12 : x12 = nI (sB h).length := e12.trans w2.1
  subst e12
  exact hQ
/-- after the numbers -/
def xT2 (k b : Nat) (X : Xc) (Q : Int32 → Xc → Prop) : Prop := wx_X12_hasRequest (nI k) X (fun (x12 : Int32) (X14 : Xc) => ((x12 = 0 → bx_X12_wire_131 Q (nI k) (nI b) X14) ∧ (¬ x12 = 0 → (wx_X12_writeRequest (nI b) X14 (fun (X19 : Xc) => bx_X12_wire_131 Q (nI k) (nI b) X19)))))
theorem x_tN {k b : Nat} (hk : k ≤ 12) (h1 : ¬ (k = 0 ∨ k = 2)) (h2 : ¬ (k = 5 ∨ k = 9 ∨ k = 10)) (h3 : k ≠ 11) {h : List Int32} (hh : h.length + 4 ≤ 2560) : WV X0 (xT2 k b) h (sB h) := by
  have h11 : ¬ nI k = 11 := fun q => h3 ((nI_eq (a := k) (b := 11) (by omega) (by omega)).mp q)
  unfold xT2
  refine WV.pr 0 (fun X Q hQ => x_hasRequest hk X Q (by rw [if_neg h1]; exact hQ)) ?_
  refine WV.if0 rfl ?_
  unfold bx_X12_wire_131
  refine WV.pr 0 (fun X Q hQ => x_hasLog hk X Q (by rw [if_neg h2]; exact hQ)) ?_
  refine WV.if0 rfl ?_
  unfold bx_X12_wire_144
  exact WV.if1' h11 (x_t185 hh)
theorem x_tR {k b : Nat} (h1 : k = 0 ∨ k = 2) {h : List Int32} (hh : h.length + 16 ≤ 2560) {w : Rq} (hK : K < 2 ^ 31) (hw : Sm K w.2.1) (hb : b + 4 < 128000) (R : Row (X0.2 10) b [w.1, w.2.1, w.2.2.1, w.2.2.2.1, w.2.2.2.2]) : WV X0 (xT2 k b) h (sB (rqW h w)) := by
  have hl := rqW_len h w
  have h11 : ¬ nI k = 11 := fun q => absurd ((nI_eq (a := k) (b := 11) (by omega) (by omega)).mp q) (by omega)
  unfold xT2
  refine WV.pr 1 (fun X Q hQ => x_hasRequest (by omega) X Q (by rw [if_pos h1]; exact hQ)) ?_
  refine WV.if1 (by decide) ?_
  refine WV.seq (x_rq (by omega) hK hw hb R) ?_
  unfold bx_X12_wire_131
  refine WV.pr 0 (fun X Q hQ => x_hasLog (by omega) X Q (by rw [if_neg (by omega)]; exact hQ)) ?_
  refine WV.if0 rfl ?_
  unfold bx_X12_wire_144
  exact WV.if1' h11 (x_t185 (by omega))
theorem x_tL {k b : Nat} (h1 : k = 5 ∨ k = 9 ∨ k = 10) {f : Nat → Option Rq} {L : Nat} (hL : L ≤ 100) (hK : K < 2 ^ 31) (he : ∀ s, s < L → EnOK K (f s)) (hb : b + 602 < 128000) (R : Row (X0.2 10) b (encG f (nI L))) {h : List Int32} (hh : h.length ≤ 1000) : WV X0 (xT2 k b) h (sB (lgB f L h)) := by
  have hl := lgB_len f L h
  have h11 : ¬ nI k = 11 := fun q => absurd ((nI_eq (a := k) (b := 11) (by omega) (by omega)).mp q) (by omega)
  unfold xT2
  refine WV.pr 0 (fun X Q hQ => x_hasRequest (by omega) X Q (by rw [if_neg (by omega)]; exact hQ)) ?_
  refine WV.if0 rfl ?_
  unfold bx_X12_wire_131
  refine WV.pr 1 (fun X Q hQ => x_hasLog (by omega) X Q (by rw [if_pos h1]; exact hQ)) ?_
  refine WV.if1 (by decide) ?_
  refine WV.seq (x_log hL hK he hb R hh) ?_
  unfold bx_X12_wire_144
  exact WV.if1' h11 (x_t185 (by omega))
theorem x_tA {b : Nat} {h : List Int32} (hh : h.length + 9 ≤ 2560) (hb : b + 1 < 128000) {v u : Int32} (h1 : X0.2 10 b = v) (hv : v = 0 ∨ (v = 1 ∧ X0.2 10 (b + 1) = u)) : WV X0 (xT2 11 b) h (sB (if v = 0 then a1 h v else aW (a1 h v) u)) := by
  have hc : (nI b).toNatClampNeg = b := nI_clamp (by omega)
  have hc1 : (nI (b + 1)).toNatClampNeg = b + 1 := nI_clamp (by omega)
  have rd : ∀ X, OX 88 89 X0 X → X.2 10 (nI b).toNatClampNeg = v := fun X g => by rw [hc, g.2 10 b (by omega)]; exact h1
  unfold xT2
  refine WV.pr 0 (fun X Q hQ => x_hasRequest (by omega) X Q hQ) ?_
  refine WV.if0 rfl ?_
  unfold bx_X12_wire_131
  refine WV.pr 0 (fun X Q hQ => x_hasLog (by omega) X Q hQ) ?_
  refine WV.if0 rfl ?_
  unfold bx_X12_wire_144
  refine WV.if0' rfl ?_
  refine WV.gd (vp_in_nI (by omega) (by omega)) ?_
  refine WV.rd v rd ?_
  refine WV.seq (WX.add (by omega) _) ?_
  refine WV.gd (vp_in_nI (by omega) (by omega)) ?_
  refine WV.rd v rd ?_
  rcases hv with hv | ⟨hv, hu⟩
  · rw [if_pos hv]
    exact WV.if1' (by rw [hv]; decide) (x_t185 (by rw [a1_len]; omega))
  · rw [if_neg (by rw [hv]; decide)]
    refine WV.if0' hv ?_
    refine WV.rd (nI (b + 1)) (fun _ _ => nI_1 b) ?_
    refine WV.gd (vp_in_nI (by omega) (by omega)) ?_
    refine WV.rd u (fun X g => by rw [hc1, g.2 10 _ (by omega)]; exact hu) ?_
    refine WV.seq (WX.word (by rw [a1_len]; omega) _) ?_
    exact x_t185 (by rw [aW_len, a1_len]; omega)
def aNs (g : Nat → Nat) : Nat → Nat → List Int32 → List Int32
  | _, 0, h => h
  | i, d + 1, h => aNs g (i + 1) d (aN h (g i))
theorem aNs_len (g : Nat → Nat) : ∀ d i h, (aNs g i d h).length ≤ h.length + 5 * d := by
  intro d
  induction d with
  | zero => intro i h; exact Nat.le_refl _
  | succ d ih =>
    intro i h
    have h1 := ih (i + 1) (aN h (g i))
    have h2 := aN_len h (g i)
    show (aNs g (i + 1) d (aN h (g i))).length ≤ _
    omega
theorem x_nums {k b N : Nat} (hN : ∀ X Q, Q (nI N) X → wx_X12_numbers (nI k) X Q) (hN5 : N ≤ 5) {g : Nat → Nat} (hb : b + N < 128000) (hg : ∀ j, j < N → X0.2 10 (b + j) = nI (g j) ∧ g j < 2 ^ 31) {h2 : List Int32} : ∀ d i h, i + d = N → h.length + 5 * d ≤ 2560 → WV X0 (xT2 k (b + N)) (aNs g i d h) h2 → WV X0 (fun X Q => LFx (fx_X12_wire_80 Q) (nI k, nI b, nI i) X) h h2 := by
  intro d
  induction d with
  | zero =>
    intro i h hi hh t X g w
    have hi : i = N := by omega
    subst hi
    obtain ⟨X2, g2, w2, r2⟩ := t X g w
    refine ⟨X2, g2, w2, fun Q hQ R hR => hR _ _ (hN _ _ ⟨fun _ => hN _ _ (fun x10 e10 => ?_), fun q => absurd (nI_le (Nat.le_refl i) (by omega)) q⟩)⟩
    have e10 : x10 = nI (b + i) := e10.trans (nI_add b i)
    subst e10
    exact r2 Q hQ
  | succ d ih =>
    intro i h hi hh t X g' w
    have hl := aN_len h (g i)
    obtain ⟨X1, g1, w1, r1⟩ := WX.num (X0 := X0) (h := h) (by omega) (hg i (by omega)).2 X g' w
    obtain ⟨X2, g2, w2, r2⟩ := ih (i + 1) (aN h (g i)) (by omega) (by omega) t X1 g1 w1
    have hc : (nI (b + i)).toNatClampNeg = b + i := nI_clamp (by omega)
    refine ⟨X2, g2, w2, fun Q hQ R hR => hR _ _ (hN _ _ ⟨fun q => absurd q (nI_ge (by omega) (by omega)), fun _ x22 e22 => ?_⟩)⟩
    have e22 : x22 = nI (b + i) := e22.trans (nI_add b i)
    subst e22
    rw [hc]
    refine ⟨vp_in_nI (by omega) (by omega), fun x24 e24 => ?_⟩
    rw [g'.2 10 _ (by omega), (hg i (by omega)).1] at e24
    subst e24
    refine r1 _ (fun x30 e30 => ?_)
    have e30 : x30 = nI (i + 1) := e30.trans (nI_1 i)
    subst e30
    exact r2 Q hQ R hR
def h3 (f : Nat → Int32) (b : Nat) : List Int32 := a1 (a1 (a1 [] (f b)) (f (b + 1))) (f (b + 2))
theorem x_heads {k b N : Nat} (hN : ∀ X Q, Q (nI N) X → wx_X12_numbers (nI k) X Q) (hN5 : N ≤ 5) {g : Nat → Nat} (hb : b + 3 + N < 128000) (hg : ∀ j, j < N → X0.2 10 (b + 3 + j) = nI (g j) ∧ g j < 2 ^ 31) {h2 : List Int32} (t : WV X0 (xT2 k (b + 3 + N)) (aNs g 0 N (h3 (X0.2 10) b)) h2) : WV X0 (fun X Q => LFx (fx_X12_wire_47 Q) (nI b, nI k, 0) X) [] h2 := by
  have hx := x_nums hN hN5 hb hg N 0 (h3 (X0.2 10) b) (by omega) (by simp only [h3, a1_len, List.length_nil]; omega) t
  have step : ∀ i h, i < 3 → h.length + 1 ≤ 2560 → WV X0 (fun X Q => LFx (fx_X12_wire_47 Q) (nI b, nI k, nI (i + 1)) X) (a1 h (X0.2 10 (b + i))) h2 → WV X0 (fun X Q => LFx (fx_X12_wire_47 Q) (nI b, nI k, nI i) X) h h2 := by
    intro i h hi hh a X g w
    have hc : (nI (b + i)).toNatClampNeg = b + i := nI_clamp (by omega)
    obtain ⟨X1, g1, w1, r1⟩ := WX.add (X0 := X0) (h := h) hh (X0.2 10 (b + i)) X g w
    obtain ⟨X2, g2, w2, r2⟩ := a X1 g1 w1
    refine ⟨X2, g2, w2, fun Q hQ R hR => hR _ _ ⟨fun q => absurd q (nI_ge (a := i) (b := 3) (by omega) (by omega)), fun _ x5 e5 => ?_⟩⟩
    have e5 : x5 = nI (b + i) := e5.trans (nI_add b i)
    subst e5
    rw [hc]
    refine ⟨vp_in_nI (by omega) (by omega), fun x7 e7 => ?_⟩
    rw [g.2 10 _ (by omega)] at e7
    subst e7
    refine r1 _ (fun x13 e13 => ?_)
    have e13 : x13 = nI (i + 1) := e13.trans (nI_1 i)
    subst e13
    exact r2 Q hQ R hR
  refine step 0 [] (by omega) (by simp) ?_
  refine step 1 _ (by omega) (by simp only [a1_len, List.length_nil]; omega) ?_
  refine step 2 _ (by omega) (by simp only [a1_len, List.length_nil]; omega) ?_
  intro X g w
  obtain ⟨X2, g2, w2, r2⟩ := hx X g w
  refine ⟨X2, g2, w2, fun Q hQ R hR => hR _ _ ⟨fun _ x2 e2 => ?_, fun q => absurd (by show (3 : Int32) ≤ nI 3; decide) q⟩⟩
  have e2 : x2 = nI (b + 3) := e2.trans (nI_add b 3)
  subst e2
  exact r2 Q hQ
end
