/-! Bytes in a row: what writes them -/
theorem idx512 {b : Nat} : (512 : Int32) * nI b = nI (512 * b) := by rw [show (512 : Int32) = nI 512 from rfl, nI_mul]
section
variable {n K : Nat} {Y Y2 Y0 : Yc} {X X2 X0 : Xc} {o : Nat}
def WY (o : Nat) (Y0 : Yc) (p : Yc → (Yc → Prop) → Prop) (h h' : List Int32) : Prop := ∀ Y, OY o Y0 Y → YW o Y h → ∃ Y2, OY o Y0 Y2 ∧ YW o Y2 h' ∧ ∀ Q, Q Y2 → p Y Q
def WX (X0 : Xc) (p : Xc → (Xc → Prop) → Prop) (h h' : List Int32) : Prop := ∀ X, OX 88 89 X0 X → XW 88 89 X h → ∃ X2, OX 88 89 X0 X2 ∧ XW 88 89 X2 h' ∧ ∀ Q, Q X2 → p X Q
def a1 (h : List Int32) (v : Int32) : List Int32 := h ++ [v &&& 255]
def aW (h : List Int32) (v : Int32) : List Int32 := h ++ wB v
def aN (h : List Int32) (k : Nat) : List Int32 := h ++ nB 4 k
theorem a1_len (h : List Int32) (v : Int32) : (a1 h v).length = h.length + 1 := by simp [a1]
theorem aW_len (h : List Int32) (v : Int32) : (aW h v).length = h.length + 4 := by simp only [aW, wB, List.length_append, List.length_cons, List.length_nil]
theorem aN_len (h : List Int32) (k : Nat) : (aN h k).length ≤ h.length + 5 := by
  have := nB_len 4 k
  simp only [aN, List.length_append]
  omega
theorem WY.add (hb : bl o ≤ 2560) {h : List Int32} (hl : h.length + 1 ≤ bl o) (v : Int32) : WY o Y0 (wy_X0_add n o v) h (a1 h v) := fun Y g w => by
  obtain ⟨Y2, r, w2, g2⟩ := y_add1 (n := n) w (by omega) hb v
  exact ⟨Y2, g.trans g2, w2, r⟩
theorem WY.word (hb : bl o ≤ 2560) {h : List Int32} (hl : h.length + 4 ≤ bl o) (v : Int32) : WY o Y0 (wy_X0_addWord n o v) h (aW h v) := fun Y g w => by
  obtain ⟨Y2, r, w2, g2⟩ := y_word (n := n) w (by omega) hb v
  exact ⟨Y2, g.trans g2, w2, r⟩
theorem WY.num (hb : bl o ≤ 2560) {h : List Int32} (hl : h.length + 5 ≤ bl o) {k : Nat} (hk : k < 2 ^ 31) : WY o Y0 (wy_X0_addNumber n o (nI k)) h (aN h k) := fun Y g w => by
  obtain ⟨Y2, r, w2, g2⟩ := y_number (n := n) w hl hb hk
  exact ⟨Y2, g.trans g2, w2, r⟩
theorem WY.seq {p q : Yc → (Yc → Prop) → Prop} {h h1 h2 : List Int32} (a : WY o Y0 p h h1) (b : WY o Y0 q h1 h2) : WY o Y0 (fun Y Q => p Y (fun Y2 => q Y2 Q)) h h2 := fun Y g w => by
  obtain ⟨Y1, g1, w1, r1⟩ := a Y g w
  obtain ⟨Y2, g2, w2, r2⟩ := b Y1 g1 w1
  exact ⟨Y2, g2, w2, fun Q hQ => r1 _ (r2 Q hQ)⟩
theorem WY.rd {α : Type} {f : Yc → α} {p : α → Yc → (Yc → Prop) → Prop} {h h2 : List Int32} (v : α) (hf : ∀ Y, OY o Y0 Y → f Y = v) (b : WY o Y0 (p v) h h2) : WY o Y0 (fun Y Q => ∀ x, x = f Y → p x Y Q) h h2 := fun Y g w => by
  obtain ⟨Y2, g2, w2, r2⟩ := b Y g w
  refine ⟨Y2, g2, w2, fun Q hQ x e => ?_⟩
  rw [hf Y g] at e
  subst e
  exact r2 Q hQ
theorem WY.mono {p q : Yc → (Yc → Prop) → Prop} {h h2 : List Int32} (a : WY o Y0 p h h2) (i : ∀ Y Q, OY o Y0 Y → p Y Q → q Y Q) : WY o Y0 q h h2 := fun Y g w => by
  obtain ⟨Y2, g2, w2, r2⟩ := a Y g w
  exact ⟨Y2, g2, w2, fun Q hQ => i Y Q g (r2 Q hQ)⟩
theorem WX.add {h : List Int32} (hl : h.length + 1 ≤ 2560) (v : Int32) : WX X0 (wx_X12_write v) h (a1 h v) := fun X g w => by
  obtain ⟨X2, r, w2, g2⟩ := x_write1 w (by omega) v
  exact ⟨X2, g.trans g2, w2, r⟩
theorem WX.word {h : List Int32} (hl : h.length + 4 ≤ 2560) (v : Int32) : WX X0 (wx_X12_writeWord v) h (aW h v) := fun X g w => by
  obtain ⟨X2, r, w2, g2⟩ := x_word w (by omega) v
  exact ⟨X2, g.trans g2, w2, r⟩
theorem WX.num {h : List Int32} (hl : h.length + 5 ≤ 2560) {k : Nat} (hk : k < 2 ^ 31) : WX X0 (wx_X12_writeNumber (nI k)) h (aN h k) := fun X g w => by
  obtain ⟨X2, r, w2, g2⟩ := x_number w hl hk
  exact ⟨X2, g.trans g2, w2, r⟩
theorem WX.seq {p q : Xc → (Xc → Prop) → Prop} {h h1 h2 : List Int32} (a : WX X0 p h h1) (b : WX X0 q h1 h2) : WX X0 (fun X Q => p X (fun X2 => q X2 Q)) h h2 := fun X g w => by
  obtain ⟨X1, g1, w1, r1⟩ := a X g w
  obtain ⟨X2, g2, w2, r2⟩ := b X1 g1 w1
  exact ⟨X2, g2, w2, fun Q hQ => r1 _ (r2 Q hQ)⟩
theorem WX.rd {f : Xc → Int32} {p : Int32 → Xc → (Xc → Prop) → Prop} {h h2 : List Int32} (v : Int32) (hf : ∀ X, OX 88 89 X0 X → f X = v) (b : WX X0 (p v) h h2) : WX X0 (fun X Q => ∀ x, x = f X → p x X Q) h h2 := fun X g w => by
  obtain ⟨X2, g2, w2, r2⟩ := b X g w
  refine ⟨X2, g2, w2, fun Q hQ x e => ?_⟩
  rw [hf X g] at e
  subst e
  exact r2 Q hQ
theorem WX.gd {c : Prop} {p : Xc → (Xc → Prop) → Prop} {h h2 : List Int32} (hc : c) (b : WX X0 p h h2) : WX X0 (fun X Q => c ∧ p X Q) h h2 := fun X g w => by
  obtain ⟨X2, g2, w2, r2⟩ := b X g w
  exact ⟨X2, g2, w2, fun Q hQ => ⟨hc, r2 Q hQ⟩⟩
theorem WX.mono {p q : Xc → (Xc → Prop) → Prop} {h h2 : List Int32} (a : WX X0 p h h2) (i : ∀ X Q, OX 88 89 X0 X → p X Q → q X Q) : WX X0 q h h2 := fun X g w => by
  obtain ⟨X2, g2, w2, r2⟩ := a X g w
  exact ⟨X2, g2, w2, fun Q hQ => i X Q g (r2 Q hQ)⟩
theorem and0 : (0 : Int32) &&& 255 = 0 := by decide
theorem wB0 : wB 0 = List.replicate 4 0 := by decide
theorem WY.zeros (hb : bl o ≤ 2560) (m : Nat) {h : List Int32} (hl : h.length + m ≤ bl o) : WY o Y0 (wy_X0_addZeros n o (nI m)) h (h ++ List.replicate m 0) := by
  have key : ∀ d t h, t + d = m → h.length + d ≤ bl o → ∀ Y, OY o Y0 Y → YW o Y h → ∃ Y2, OY o Y0 Y2 ∧ YW o Y2 (h ++ List.replicate d 0) ∧ ∀ Q : Yc → Prop, Q Y2 → LFy (fy_X0_addZeros_2 n o Q) (nI m, nI t) Y := by
    intro d
    induction d with
    | zero =>
      intro t h ht hl Y g w
      have ht : t = m := by omega
      subst ht
      exact ⟨Y, g, by simpa using w, fun Q hQ R hR => hR _ _ ⟨fun _ => hQ, fun q => absurd (nI_le (Nat.le_refl t) (by omega)) q⟩⟩
    | succ d ih =>
      intro t h ht hl Y g w
      obtain ⟨Y1, r1, w1, g1⟩ := y_add1 (n := n) w (by omega) hb 0
      obtain ⟨Y2, g2, w2, r2⟩ := ih (t + 1) _ (by omega) (by simp; omega) Y1 (g.trans g1) w1
      refine ⟨Y2, g2, ?_, fun Q hQ R hR => hR _ _ ⟨fun q => absurd q (nI_ge (by omega) (by omega)), fun _ => r1 _ (fun x9 e9 => ?_)⟩⟩
      · rw [and0] at w2
        rw [List.replicate_succ]
        simpa using w2
      · have e9 : x9 = nI (t + 1) := e9.trans (nI_1 t)
        subst e9
        exact r2 Q hQ R hR
  intro Y g w
  exact key m 0 h (by omega) hl Y g w
/-- the end of a block: nothings, then the sum -/
def zP (b : Nat) (h : List Int32) : List Int32 := h ++ List.replicate (512 * (b + 1) - 4 - h.length) 0
def eB (b : Nat) (h : List Int32) : List Int32 := aW (zP b h) (crcn (fun q => (zP b h).getD q 0) (512 * b) (512 * (b + 1) - 4 - 512 * b) (-1) ^^^ (-1))
theorem zP_len {b : Nat} {h : List Int32} (hl : h.length ≤ 512 * (b + 1) - 4) : (zP b h).length = 512 * (b + 1) - 4 := by
  simp only [zP, List.length_append, List.length_replicate]
  omega
theorem eB_len {b : Nat} {h : List Int32} (hl : h.length ≤ 512 * (b + 1) - 4) : (eB b h).length = 512 * (b + 1) := by
  rw [eB, aW_len, zP_len hl]
  omega
theorem YW.crc {l : List Int32} (w : YW o Y l) {i d : Nat} (hd : i + d ≤ l.length) (s : Int32) : crcn (fun q => yA Y 0 o q &&& 255) i d s = crcn (fun q => l.getD q 0) i d s := crcn_congr d i s (fun q _ h2 => w.2 q (by omega))
theorem XW.crc {l : List Int32} (w : XW 88 89 X l) {i d : Nat} (hd : i + d ≤ l.length) (s : Int32) : crcn (X.2 88) i d s = crcn (fun q => l.getD q 0) i d s := crcn_congr d i s (fun q _ h2 => w.2 q (by omega))
theorem WY.endB {b : Nat} (hb : b < 5) {h : List Int32} (hl : h.length ≤ 512 * (b + 1) - 4) : WY 0 Y0 (wy_X0_endBlock n 0 (nI (512 * (b + 1)))) h (eB b h) := by
  intro Y g w
  have hbl : bl 0 = 2560 := rfl
  obtain ⟨Y1, g1, w1, r1⟩ := WY.zeros (n := n) (o := 0) (Y0 := Y0) (by omega) (512 * (b + 1) - 4 - h.length) (h := h) (by omega) Y g w
  have hz := zP_len hl
  have w1 : YW 0 Y1 (zP b h) := w1
  obtain ⟨Y2, g2, w2, r2⟩ := WY.word (n := n) (o := 0) (Y0 := Y0) (by omega) (h := zP b h) (by omega) (crcn (fun q => (zP b h).getD q 0) (512 * b) (512 * (b + 1) - 4 - 512 * b) (-1) ^^^ (-1)) Y1 g1 w1
  refine ⟨Y2, g2, w2, fun Q hQ => ?_⟩
  unfold wy_X0_endBlock
  intro x1 e1
  rw [w.1] at e1
  subst e1
  have z : nI (512 * (b + 1)) - (4 : Int32) - nI h.length = nI (512 * (b + 1) - 4 - h.length) := by
    rw [show (4 : Int32) = nI 4 from rfl, nI_sub (by omega), nI_sub (by omega)]
  rw [z]
  refine r1 _ (fun x10 e10 => ?_)
  rw [w1.1, hz] at e10
  subst e10
  have z2 : nI (512 * (b + 1)) - (512 : Int32) = nI (512 * b) := by
    rw [show (512 : Int32) = nI 512 from rfl, nI_sub (by omega), show 512 * (b + 1) - 512 = 512 * b by omega]
  rw [z2]
  refine y_sum (by omega) (by omega) (by omega) _ ?_
  rw [w1.crc (by omega)]
  exact r2 _ hQ
theorem WX.endB {b : Nat} (hb : b < 5) : ∀ d (h : List Int32), h.length + d = 512 * (b + 1) - 4 → WX X0 (wx_X12_endBlock (nI b)) h (eB b h) := by
  intro d
  have z : (512 : Int32) * (nI b + 1) - 4 = nI (512 * (b + 1) - 4) := by
    rw [nI_1, show (512 : Int32) = nI 512 from rfl, nI_mul, show (4 : Int32) = nI 4 from rfl, nI_sub (by omega)]
  induction d with
  | zero =>
    intro h hl X g w
    have hz : zP b h = h := by
      unfold zP
      rw [show 512 * (b + 1) - 4 - h.length = 0 by omega]
      simp
    obtain ⟨X2, g2, w2, r2⟩ := WX.word (X0 := X0) (h := zP b h) (by rw [hz]; omega) (crcn (fun q => (zP b h).getD q 0) (512 * b) (512 * (b + 1) - 4 - 512 * b) (-1) ^^^ (-1)) X g (by rw [hz]; exact w)
    refine ⟨X2, g2, w2, fun Q hQ R hR => hR _ _ (fun x1 e1 => ?_)⟩
    rw [w.1] at e1
    subst e1
    rw [z]
    refine ⟨fun _ x5 e5 => ?_, fun q => absurd (nI_le (by omega) (by omega)) q⟩
    rw [w.1] at e5
    subst e5
    refine ⟨rfl, 512 * b, h.length, idx512, rfl, by omega, by show h.length ≤ 2560; omega, ?_⟩
    rw [w.crc (by omega), show h.length - 512 * b = 512 * (b + 1) - 4 - 512 * b by omega]
    rw [hz] at r2
    exact r2 Q hQ
  | succ d ih =>
    intro h hl X g w
    obtain ⟨X1, g1, w1, r1⟩ := WX.add (X0 := X0) (h := h) (by omega) 0 X g w
    obtain ⟨X2, g2, w2, r2⟩ := ih (a1 h 0) (by rw [a1_len]; omega) X1 g1 w1
    have hz : zP b (a1 h 0) = zP b h := by
      unfold zP
      rw [a1_len, show 512 * (b + 1) - 4 - h.length = (512 * (b + 1) - 4 - (h.length + 1)) + 1 by omega, List.replicate_succ]
      simp [a1, and0]
    have he : eB b (a1 h 0) = eB b h := by unfold eB; rw [hz]
    rw [he] at w2
    refine ⟨X2, g2, w2, fun Q hQ R hR => hR _ _ (fun x1 e1 => ?_)⟩
    rw [w.1] at e1
    subst e1
    rw [z]
    exact ⟨fun q => absurd q (nI_ge (by omega) (by omega)), fun _ => r1 _ (r2 Q hQ R hR)⟩
end
