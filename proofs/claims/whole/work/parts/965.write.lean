theorem ones8 (i : Nat) : (255#32).getLsbD i = decide (i < 8) := by
  have h1 : (255#32) = BitVec.setWidth 32 (BitVec.allOnes 8) := by decide
  rw [h1, BitVec.getLsbD_setWidth, BitVec.getLsbD_allOnes]
  by_cases h : i < 8 <;> simp [h]; omega
theorem and_ext {x y : Int32} (h : ∀ i, i < 8 → x.toBitVec.getLsbD i = y.toBitVec.getLsbD i) : x &&& 255 = y &&& 255 := by
  apply Int32.toBitVec_inj.1
  apply BitVec.eq_of_getLsbD_eq
  intro i hi
  show (x.toBitVec &&& 255#32).getLsbD i = (y.toBitVec &&& 255#32).getLsbD i
  rw [BitVec.getLsbD_and, BitVec.getLsbD_and, ones8]
  by_cases h8 : i < 8
  · rw [h i h8]
  · simp [h8]
theorem nar_byte (x : Int32) : vp_nar .byte x = x.toInt8.toInt32 := rfl
theorem byte_and (v : Int32) : vp_nar .byte v.toInt8.toInt32 &&& 255 = v &&& 255 := by
  rw [nar_byte]
  refine and_ext (fun i hi => ?_)
  have h32 : i < 32 := by omega
  simp [BitVec.getElem_signExtend, hi, h32]
theorem byte_and' (v : Int32) : vp_nar .byte v &&& 255 = v &&& 255 := by
  rw [nar_byte]
  refine and_ext (fun i hi => ?_)
  have h32 : i < 32 := by omega
  simp [BitVec.getElem_signExtend, hi, h32]
theorem shr24 (v : Int32) : ((v.toUInt32 >>> ((24 : Int32).toUInt32 &&& Int32.toUInt32 31)).toInt32) &&& 255 = (v >>> ((24 : Int32) &&& 31)) &&& 255 := by
  refine and_ext (fun i hi => ?_)
  have h32 : 24 + i < 32 := by omega
  have e1 : ((24 : Int32).toUInt32 &&& Int32.toUInt32 31) = 24 := by decide
  have e2 : ((24 : Int32) &&& 31) = 24 := by decide
  rw [e1, e2]
  have h : i < 32 := by omega
  simp [BitVec.getElem_sshiftRight, h32, h]
theorem shr16 (v : Int32) : ((v.toUInt32 >>> ((16 : Int32).toUInt32 &&& Int32.toUInt32 31)).toInt32) &&& 255 = (v >>> ((16 : Int32) &&& 31)) &&& 255 := by
  refine and_ext (fun i hi => ?_)
  have h32 : 16 + i < 32 := by omega
  have e1 : ((16 : Int32).toUInt32 &&& Int32.toUInt32 31) = 16 := by decide
  have e2 : ((16 : Int32) &&& 31) = 16 := by decide
  rw [e1, e2]
  have h : i < 32 := by omega
  simp [BitVec.getElem_sshiftRight, h32, h]
theorem shr8 (v : Int32) : ((v.toUInt32 >>> ((8 : Int32).toUInt32 &&& Int32.toUInt32 31)).toInt32) &&& 255 = (v >>> ((8 : Int32) &&& 31)) &&& 255 := by
  refine and_ext (fun i hi => ?_)
  have h32 : 8 + i < 32 := by omega
  have e1 : ((8 : Int32).toUInt32 &&& Int32.toUInt32 31) = 8 := by decide
  have e2 : ((8 : Int32) &&& 31) = 8 := by decide
  rw [e1, e2]
  have h : i < 32 := by omega
  simp [BitVec.getElem_sshiftRight, h32, h]
theorem shr0 (v : Int32) : ((v.toUInt32 >>> ((0 : Int32).toUInt32 &&& Int32.toUInt32 31)).toInt32) &&& 255 = (v >>> ((0 : Int32) &&& 31)) &&& 255 := by
  refine and_ext (fun i hi => ?_)
  have e1 : ((0 : Int32).toUInt32 &&& Int32.toUInt32 31) = 0 := by decide
  have e2 : ((0 : Int32) &&& 31) = 0 := by decide
  rw [e1, e2]
  have h : i < 32 := by omega
  simp [BitVec.getElem_sshiftRight, h]
theorem and_byt (v : Int32) : byt (v &&& 255) := by
  have h : (v &&& 255).toBitVec.toNat < 256 := by
    show (v.toBitVec &&& 255#32).toNat < 256
    rw [BitVec.toNat_and]
    exact Nat.lt_of_le_of_lt Nat.and_le_right (by decide)
  refine ⟨(v &&& 255).toBitVec.toNat, h, ?_⟩
  apply Int32.toBitVec_inj.1
  show _ = BitVec.ofNat 32 _
  rw [BitVec.ofNat_toNat]
  rw [BitVec.setWidth_eq]
theorem nI_tB (k : Nat) : (nI k).toBitVec = BitVec.ofNat 32 k := rfl
theorem nI_shr7 {k : Nat} (hk : k < 2 ^ 31) : nI k >>> ((7 : Int32) &&& 31) = nI (k / 128) ∧ ((nI k).toUInt32 >>> ((7 : Int32).toUInt32 &&& Int32.toUInt32 31)).toInt32 = nI (k / 128) := by
  have e1 : ((7 : Int32).toUInt32 &&& Int32.toUInt32 31) = 7 := by decide
  have e2 : ((7 : Int32) &&& 31) = 7 := by decide
  rw [e1, e2]
  have hm : (nI k).toBitVec.msb = false := by
    rw [BitVec.msb_eq_toInt]
    have := nI_toInt hk
    have h2 : (nI k).toBitVec.toInt = k := this
    rw [h2]
    simp
  have key : (nI k).toBitVec >>> 7 = BitVec.ofNat 32 (k / 128) := by
    apply BitVec.eq_of_toNat_eq
    rw [BitVec.toNat_ushiftRight, nI_tB, BitVec.toNat_ofNat, BitVec.toNat_ofNat, Nat.shiftRight_eq_div_pow, Nat.mod_eq_of_lt (by omega), Nat.mod_eq_of_lt (by omega)]
  refine ⟨?_, ?_⟩
  · apply Int32.toBitVec_inj.1
    rw [nI_tB (k / 128), ← key]
    have : (nI k >>> (7 : Int32)).toBitVec = (nI k).toBitVec.sshiftRight 7 := by
      rw [Int32.toBitVec_shiftRight]
      rfl
    rw [this, BitVec.sshiftRight_eq_of_msb_false hm]
  · apply Int32.toBitVec_inj.1
    rw [nI_tB (k / 128), ← key]
    rfl
section
variable {n K : Nat} {Y Y2 : Yc} {X X2 : Xc}
/-- what the class's bytes o hold, what the reference's row a of length c holds -/
def YW (o : Nat) (Y : Yc) (l : List Int32) : Prop := yI Y 1 o = nI l.length ∧ ∀ i, i < l.length → yA Y 0 o i &&& 255 = l.getD i 0
def XW (a c : Nat) (X : Xc) (l : List Int32) : Prop := X.1 c = nI l.length ∧ ∀ i, i < l.length → X.2 a i = l.getD i 0
def OY (o : Nat) (Y Y2 : Yc) : Prop := (∀ k j, ¬ (k = 1 ∧ j = o) → yI Y2 k j = yI Y k j) ∧ yJ Y2 = yJ Y ∧ (∀ k j i, ¬ (k = 0 ∧ j = o) → yA Y2 k j i = yA Y k j i) ∧ yB Y2 = yB Y ∧ yP Y2 = yP Y ∧ yS Y2 = yS Y ∧ yR Y2 = yR Y
def OX (a c : Nat) (X X2 : Xc) : Prop := (∀ k, k ≠ c → X2.1 k = X.1 k) ∧ ∀ k i, k ≠ a → X2.2 k i = X.2 k i
theorem OY.rf {o : Nat} : OY o Y Y := ⟨fun _ _ _ => rfl, rfl, fun _ _ _ _ => rfl, rfl, rfl, rfl, rfl⟩
theorem OX.rf {a c : Nat} : OX a c X X := ⟨fun _ _ => rfl, fun _ _ _ => rfl⟩
theorem OY.trans {o : Nat} {Y3 : Yc} (h : OY o Y Y2) (g : OY o Y2 Y3) : OY o Y Y3 :=
  ⟨fun k j a => (g.1 k j a).trans (h.1 k j a), g.2.1.trans h.2.1, fun k j i a => (g.2.2.1 k j i a).trans (h.2.2.1 k j i a), g.2.2.2.1.trans h.2.2.2.1, g.2.2.2.2.1.trans h.2.2.2.2.1, g.2.2.2.2.2.1.trans h.2.2.2.2.2.1, g.2.2.2.2.2.2.trans h.2.2.2.2.2.2⟩
theorem OX.trans {a c : Nat} {X3 : Xc} (h : OX a c X X2) (g : OX a c X2 X3) : OX a c X X3 := ⟨fun k b => (g.1 k b).trans (h.1 k b), fun k i b => (g.2 k i b).trans (h.2 k i b)⟩
theorem OY.wI {o : Nat} (h : OY o Y Y2) (v : Int32) : OY o Y (uI Y2 1 o v) := ⟨fun k j a => by rw [yII, if_neg a]; exact h.1 k j a, h.2⟩
theorem OY.wA {o : Nat} (h : OY o Y Y2) (i : Nat) (v : Int32) : OY o Y (uA Y2 0 o i v) := ⟨h.1, h.2.1, fun k j i' a => by rw [yAA, if_neg (fun q => a ⟨q.1, q.2.1⟩)]; exact h.2.2.1 k j i' a, h.2.2.2⟩
theorem OX.wA {a c : Nat} (h : OX a c X X2) (i : Nat) (v : Int32) : OX a c X (xA X2 a i v) := ⟨h.1, fun k j b => by rw [xAA, if_neg (fun q => b q.1)]; exact h.2 k j b⟩
theorem OX.wS {a c : Nat} (h : OX a c X X2) (v : Int32) : OX a c X (xS X2 c v) := ⟨fun k b => by rw [xSS, if_neg b]; exact h.1 k b, h.2⟩
theorem app_getD {l : List Int32} {v : Int32} {i : Nat} (h : i < (l ++ [v]).length) : (l ++ [v]).getD i 0 = if i = l.length then v else l.getD i 0 := by
  have hl : i ≤ l.length := by simp at h; omega
  by_cases e : i = l.length
  · subst e
    rw [if_pos rfl]
    have := getD_app l [v] 0
    rw [Nat.add_zero] at this
    rw [this]
    rfl
  · rw [if_neg e, getD_apl _ (by omega)]
theorem y_add1 {o : Nat} {l : List Int32} (h : YW o Y l) (hl : l.length < bl o) (hb : bl o ≤ 2560) (v : Int32) : ∃ Y2, (∀ Q : Yc → Prop, Q Y2 → wy_X0_add n o v Y Q) ∧ YW o Y2 (l ++ [v &&& 255]) ∧ OY o Y Y2 := by
  have hc : (nI l.length).toNatClampNeg = l.length := nI_clamp (by omega)
  refine ⟨uI (uA Y 0 o l.length (vp_nar .byte v.toInt8.toInt32)) 1 o (nI (l.length + 1)), fun Q hQ => ?_, ⟨?_, fun i hi => ?_⟩, (OY.rf.wA _ _).wI _⟩
  · unfold wy_X0_add
    intro x1 e1
    rw [h.1] at e1
    subst e1
    refine ⟨fun q => absurd ((nI_lti (a := l.length) (b := 0) (by omega) (by omega)).mp q) (by omega), fun _ x4 e4 => ?_⟩
    rw [h.1] at e4
    subst e4
    refine ⟨fun q => absurd q (nI_ge hl (by omega)), fun _ x10 e10 => ?_⟩
    rw [h.1] at e10
    subst e10
    rw [hc]
    refine ⟨vp_in_nI hl (by omega), fun x13 e13 x15 e15 => ?_⟩
    have e13 : x13 = nI l.length := e13.trans h.1
    subst e13
    rw [nI_1] at e15
    subst e15
    exact hQ
  · rw [yII, if_pos ⟨rfl, rfl⟩]
    simp
  · rw [app_getD hi, yAI, yAA]
    by_cases e : i = l.length
    · rw [if_pos ⟨rfl, rfl, e⟩, if_pos e]
      exact byte_and v
    · rw [if_neg (fun q => e q.2.2), if_neg e]
      exact h.2 i (by simp at hi; omega)
theorem x_write1 {l : List Int32} (h : XW 88 89 X l) (hl : l.length < 2560) (v : Int32) : ∃ X2, (∀ Q : Xc → Prop, Q X2 → wx_X12_write v X Q) ∧ XW 88 89 X2 (l ++ [v &&& 255]) ∧ OX 88 89 X X2 := by
  have hc : (nI l.length).toNatClampNeg = l.length := nI_clamp (by omega)
  refine ⟨xS (xA X 88 l.length (v &&& 255)) 89 (nI (l.length + 1)), fun Q hQ => ?_, ⟨?_, fun i hi => ?_⟩, (OX.rf.wA _ _).wS _⟩
  · unfold wx_X12_write
    intro x2 e2 x4 e4
    rw [h.1] at e2
    subst e2; subst e4
    rw [hc]
    refine ⟨vp_in_nI hl (by omega), fun x6 e6 x8 e8 => ?_⟩
    have e6 : x6 = nI l.length := e6.trans h.1
    subst e6
    rw [nI_1] at e8
    subst e8
    exact hQ
  · show nI (l.length + 1) = _
    simp
  · rw [app_getD hi, xAS, xAA]
    by_cases e : i = l.length
    · rw [if_pos ⟨rfl, e⟩, if_pos e]
    · rw [if_neg (fun q => e q.2), if_neg e]
      exact h.2 i (by simp at hi; omega)
/-- a word's bytes -/
def wB (v : Int32) : List Int32 := [(v >>> ((24 : Int32) &&& 31)) &&& 255, (v >>> ((16 : Int32) &&& 31)) &&& 255, (v >>> ((8 : Int32) &&& 31)) &&& 255, (v >>> ((0 : Int32) &&& 31)) &&& 255]
theorem wB_eq (l : List Int32) (v : Int32) : l ++ wB v = (((l ++ [(v >>> ((24 : Int32) &&& 31)) &&& 255]) ++ [(v >>> ((16 : Int32) &&& 31)) &&& 255]) ++ [(v >>> ((8 : Int32) &&& 31)) &&& 255]) ++ [(v >>> ((0 : Int32) &&& 31)) &&& 255] := by
  unfold wB
  rw [List.append_assoc, List.append_assoc, List.append_assoc]
  rfl
theorem y_word {o : Nat} {l : List Int32} (h : YW o Y l) (hl : l.length + 4 ≤ bl o) (hb : bl o ≤ 2560) (v : Int32) : ∃ Y2, (∀ Q : Yc → Prop, Q Y2 → wy_X0_addWord n o v Y Q) ∧ YW o Y2 (l ++ wB v) ∧ OY o Y Y2 := by
  obtain ⟨Y1, r1, w1, g1⟩ := y_add1 (n := n) h (by omega) hb ((v.toUInt32 >>> ((24 : Int32).toUInt32 &&& Int32.toUInt32 31)).toInt32)
  obtain ⟨Y2, r2, w2, g2⟩ := y_add1 (n := n) w1 (by simp; omega) hb ((v.toUInt32 >>> ((16 : Int32).toUInt32 &&& Int32.toUInt32 31)).toInt32)
  obtain ⟨Y3, r3, w3, g3⟩ := y_add1 (n := n) w2 (by simp; omega) hb ((v.toUInt32 >>> ((8 : Int32).toUInt32 &&& Int32.toUInt32 31)).toInt32)
  obtain ⟨Y4, r4, w4, g4⟩ := y_add1 (n := n) w3 (by simp; omega) hb ((v.toUInt32 >>> ((0 : Int32).toUInt32 &&& Int32.toUInt32 31)).toInt32)
  rw [shr24, shr16, shr8, shr0] at w4
  refine ⟨Y4, fun Q hQ => ?_, by rw [wB_eq]; exact w4, g1.trans (g2.trans (g3.trans g4))⟩
  unfold wy_X0_addWord
  intro R hR
  refine hR _ _ ⟨fun q => absurd q (by show ¬ (24 : Int32) < 0; decide), fun _ => r1 _ (fun x9 e9 => ?_)⟩
  have e9 : x9 = 16 := e9.trans (by show (24 : Int32) + -8 = 16; decide)
  subst e9
  refine hR _ _ ⟨fun q => absurd q (by show ¬ (16 : Int32) < 0; decide), fun _ => r2 _ (fun x9 e9 => ?_)⟩
  have e9 : x9 = 8 := e9.trans (by show (16 : Int32) + -8 = 8; decide)
  subst e9
  refine hR _ _ ⟨fun q => absurd q (by show ¬ (8 : Int32) < 0; decide), fun _ => r3 _ (fun x9 e9 => ?_)⟩
  have e9 : x9 = 0 := e9.trans (by show (8 : Int32) + -8 = 0; decide)
  subst e9
  refine hR _ _ ⟨fun q => absurd q (by show ¬ (0 : Int32) < 0; decide), fun _ => r4 _ (fun x9 e9 => ?_)⟩
  have e9 : x9 = -8 := e9.trans (by show (0 : Int32) + -8 = -8; decide)
  subst e9
  exact hR _ _ ⟨fun _ => hQ, fun q => absurd (by show (-8 : Int32) < 0; decide) q⟩
theorem x_word {l : List Int32} (h : XW 88 89 X l) (hl : l.length + 4 ≤ 2560) (v : Int32) : ∃ X2, (∀ Q : Xc → Prop, Q X2 → wx_X12_writeWord v X Q) ∧ XW 88 89 X2 (l ++ wB v) ∧ OX 88 89 X X2 := by
  obtain ⟨Y1, r1, w1, g1⟩ := x_write1 h (by omega) (v >>> ((24 : Int32) &&& 31))
  obtain ⟨Y2, r2, w2, g2⟩ := x_write1 w1 (by simp; omega) (v >>> ((16 : Int32) &&& 31))
  obtain ⟨Y3, r3, w3, g3⟩ := x_write1 w2 (by simp; omega) (v >>> ((8 : Int32) &&& 31))
  obtain ⟨Y4, r4, w4, g4⟩ := x_write1 w3 (by simp; omega) (v >>> ((0 : Int32) &&& 31))
  refine ⟨Y4, fun Q hQ => ?_, by rw [wB_eq]; exact w4, g1.trans (g2.trans (g3.trans g4))⟩
  unfold wx_X12_writeWord
  intro R hR
  refine hR _ _ ⟨fun q => absurd q (by show ¬ (24 : Int32) < 0; decide), fun _ => r1 _ (fun x9 e9 => ?_)⟩
  have e9 : x9 = 16 := e9.trans (by show (24 : Int32) + -8 = 16; decide)
  subst e9
  refine hR _ _ ⟨fun q => absurd q (by show ¬ (16 : Int32) < 0; decide), fun _ => r2 _ (fun x9 e9 => ?_)⟩
  have e9 : x9 = 8 := e9.trans (by show (16 : Int32) + -8 = 8; decide)
  subst e9
  refine hR _ _ ⟨fun q => absurd q (by show ¬ (8 : Int32) < 0; decide), fun _ => r3 _ (fun x9 e9 => ?_)⟩
  have e9 : x9 = 0 := e9.trans (by show (8 : Int32) + -8 = 0; decide)
  subst e9
  refine hR _ _ ⟨fun q => absurd q (by show ¬ (0 : Int32) < 0; decide), fun _ => r4 _ (fun x9 e9 => ?_)⟩
  have e9 : x9 = -8 := e9.trans (by show (0 : Int32) + -8 = -8; decide)
  subst e9
  exact hR _ _ ⟨fun _ => hQ, fun q => absurd (by show (-8 : Int32) < 0; decide) q⟩
/-- a number's bytes -/
def nB : Nat → Nat → List Int32
  | 0, k => [nI k &&& 255]
  | f + 1, k => if k ≤ 127 then [nI k &&& 255] else (((nI k &&& 127) ||| 128) &&& 255) :: nB f (k / 128)
theorem nB_len : ∀ f k, (nB f k).length ≤ f + 1 := by
  intro f
  induction f with
  | zero => intro k; simp [nB]
  | succ f ih =>
    intro k
    unfold nB
    split
    · simp
    · have := ih (k / 128)
      simp
      omega
theorem p7 {t k : Nat} (ht : t ≤ 3) (hk : k < 2 ^ 31 / 128 ^ t) : k / 128 < 2 ^ 31 / 128 ^ (t + 1) := by
  have h : t = 0 ∨ t = 1 ∨ t = 2 ∨ t = 3 := by omega
  rcases h with h | h | h | h <;> subst h <;> simp at hk ⊢ <;> omega
theorem y_num {o : Nat} (hb : bl o ≤ 2560) : ∀ f t k l Y, t + f = 4 → k < 2 ^ 31 / 128 ^ t → YW o Y l → l.length + f + 1 ≤ bl o → ∃ Y2, (∀ Q : Yc → Prop, Q Y2 → LFy (fy_X0_addNumber_4 n o Q) (nI k, nI t) Y) ∧ YW o Y2 (l ++ nB f k) ∧ OY o Y Y2 := by
  intro f
  induction f with
  | zero =>
    intro t k l Y ht hk h hl
    have ht : t = 4 := by omega
    subst ht
    obtain ⟨Y1, r1, w1, g1⟩ := y_add1 (n := n) h (by omega) hb (nI k)
    refine ⟨Y1, fun Q hQ R hR => hR _ _ ⟨fun _ => ?_, fun q => absurd (nI_le (Nat.le_refl 4) (by omega)) q⟩, by simpa [nB] using w1, g1⟩
    unfold by_X0_addNumber_39
    exact r1 Q hQ
  | succ f ih =>
    intro t k l Y ht hk h hl
    have hk31 : k < 2 ^ 31 := Nat.lt_of_lt_of_le hk (Nat.div_le_self _ _)
    have hs := nI_shr7 hk31
    have h0 : nI (k / 128) = 0 ↔ k ≤ 127 := by
      have := nI_eq (a := k / 128) (b := 0) (by omega) (by omega)
      show nI (k / 128) = nI 0 ↔ _
      rw [this]
      omega
    by_cases hk7 : k ≤ 127
    · obtain ⟨Y1, r1, w1, g1⟩ := y_add1 (n := n) h (by omega) hb (nI k)
      refine ⟨Y1, fun Q hQ R hR => hR _ _ ⟨fun q => absurd q (nI_ge (a := t) (b := 4) (by omega) (by omega)), fun _ => ⟨fun _ => ?_, fun q => absurd (hs.2.trans (h0.mpr hk7)) q⟩⟩, by unfold nB; rw [if_pos hk7]; exact w1, g1⟩
      unfold by_X0_addNumber_39
      exact r1 Q hQ
    · obtain ⟨Y1, r1, w1, g1⟩ := y_add1 (n := n) h (by omega) hb ((nI k &&& 127) ||| 128)
      obtain ⟨Y2, r2, w2, g2⟩ := ih (t + 1) (k / 128) _ Y1 (by omega) (by
        exact p7 (by omega) hk) w1 (by simp; omega)
      refine ⟨Y2, fun Q hQ R hR => hR _ _ ⟨fun q => absurd q (nI_ge (a := t) (b := 4) (by omega) (by omega)), fun _ => ⟨fun q => absurd (h0.mp (hs.2.symm.trans q)) hk7, fun _ => r1 _ (fun x10 e10 x12 e12 => ?_)⟩⟩, by unfold nB; rw [if_neg hk7]; simpa using w2, g1.trans g2⟩
      have e10 : x10 = nI (k / 128) := e10.trans hs.2
      have e12 : x12 = nI (t + 1) := e12.trans (nI_1 t)
      subst e10; subst e12
      exact r2 Q hQ R hR
theorem y_number {o : Nat} {l : List Int32} (h : YW o Y l) (hl : l.length + 5 ≤ bl o) (hb : bl o ≤ 2560) {k : Nat} (hk : k < 2 ^ 31) : ∃ Y2, (∀ Q : Yc → Prop, Q Y2 → wy_X0_addNumber n o (nI k) Y Q) ∧ YW o Y2 (l ++ nB 4 k) ∧ OY o Y Y2 := y_num hb 4 0 k l Y (by omega) (by simpa using hk) h hl
theorem x_num : ∀ f t k l X, t + f = 4 → k < 2 ^ 31 / 128 ^ t → XW 88 89 X l → l.length + f + 1 ≤ 2560 → ∃ X2, (∀ Q : Xc → Prop, Q X2 → LFx (fx_X12_writeNumber_2 Q) (nI k) X) ∧ XW 88 89 X2 (l ++ nB f k) ∧ OX 88 89 X X2 := by
  intro f
  induction f with
  | zero =>
    intro t k l X ht hk h hl
    have ht : t = 4 := by omega
    subst ht
    obtain ⟨X1, r1, w1, g1⟩ := x_write1 h (by omega) (nI k)
    have hk7 : k ≤ 127 := by
      have : (2 : Nat) ^ 31 / 128 ^ 4 = 8 := by decide
      omega
    exact ⟨X1, fun Q hQ R hR => hR _ _ ⟨fun _ => r1 Q hQ, fun q => absurd (nI_le (a := k) (b := 127) hk7 (by omega)) q⟩, by simpa [nB] using w1, g1⟩
  | succ f ih =>
    intro t k l X ht hk h hl
    have hk31 : k < 2 ^ 31 := Nat.lt_of_lt_of_le hk (Nat.div_le_self _ _)
    have hs := nI_shr7 hk31
    by_cases hk7 : k ≤ 127
    · obtain ⟨X1, r1, w1, g1⟩ := x_write1 h (by omega) (nI k)
      exact ⟨X1, fun Q hQ R hR => hR _ _ ⟨fun _ => r1 Q hQ, fun q => absurd (nI_le (a := k) (b := 127) hk7 (by omega)) q⟩, by unfold nB; rw [if_pos hk7]; exact w1, g1⟩
    · obtain ⟨X1, r1, w1, g1⟩ := x_write1 h (by omega) ((nI k &&& 127) ||| 128)
      obtain ⟨X2, r2, w2, g2⟩ := ih (t + 1) (k / 128) _ X1 (by omega) (by
        exact p7 (by omega) hk) w1 (by simp; omega)
      refine ⟨X2, fun Q hQ R hR => hR _ _ ⟨fun q => absurd q (nI_ge (a := 127) (b := k) (by omega) hk31), fun _ => r1 _ (fun x10 e10 => ?_)⟩, by unfold nB; rw [if_neg hk7]; simpa using w2, g1.trans g2⟩
      have e10 : x10 = nI (k / 128) := e10.trans hs.1
      subst e10
      exact r2 Q hQ R hR
theorem x_number {l : List Int32} (h : XW 88 89 X l) (hl : l.length + 5 ≤ 2560) {k : Nat} (hk : k < 2 ^ 31) : ∃ X2, (∀ Q : Xc → Prop, Q X2 → wx_X12_writeNumber (nI k) X Q) ∧ XW 88 89 X2 (l ++ nB 4 k) ∧ OX 88 89 X X2 := x_num 4 0 k l X (by omega) (by simpa using hk) h hl
theorem crcn_congr {f g : Nat → Int32} : ∀ m i s, (∀ q, i ≤ q → q < i + m → f q = g q) → crcn f i m s = crcn g i m s := by
  intro m
  induction m with
  | zero => intro i s _; rfl
  | succ m ih =>
    intro i s h
    show crcn f (i + 1) m (crc8 8 (s ^^^ f i)) = crcn g (i + 1) m (crc8 8 (s ^^^ g i))
    rw [h i (by omega) (by omega), ih (i + 1) _ (fun q h1 h2 => h q (by omega) (by omega))]
theorem y_crc {o : Nat} {Y : Yc} {p2 p4 : Int32} {L9 : Int32 × Int32 × Int32 → Yc → Prop} {Q : Int32 → Yc → Prop} {R : Int32 × Int32 × Int32 × Int32 → Yc → Prop} (hR : ∀ t Y, fy_X0_sumOf_42 n o L9 Q R t Y → R t Y) : ∀ d t s, t + d = 8 → L9 (p2, crc8 d s, p4 + 1) Y → R (p2, s, p4, nI t) Y := by
  intro d
  induction d with
  | zero =>
    intro t s ht h
    have ht : t = 8 := by omega
    subst ht
    refine hR _ _ ⟨fun _ x2 e2 => ?_, fun q => absurd (nI_le (Nat.le_refl 8) (by omega)) q⟩
    have e2 : x2 = p4 + 1 := e2
    subst e2
    exact h
  | succ d ih =>
    intro t s ht h
    refine hR _ _ ⟨fun q => absurd q (nI_ge (a := t) (b := 8) (by omega) (by omega)), fun _ => ?_⟩
    have h2 : L9 (p2, crc8 d (crc1 s), p4 + 1) Y := h
    have nx := ih (t + 1) (crc1 s) (by omega) h2
    have e1 : crc1 s = if s &&& 1 = 1 then ((s.toUInt32 >>> ((1 : Int32).toUInt32 &&& Int32.toUInt32 31)).toInt32) ^^^ (-306674912) else ((s.toUInt32 >>> ((1 : Int32).toUInt32 &&& Int32.toUInt32 31)).toInt32) := rfl
    refine ⟨fun q => ?_, fun q => ?_⟩
    · have q : ¬ s &&& 1 = 1 := q
      rw [if_neg q] at e1
      unfold by_X0_sumOf_68
      intro x1 e
      have e : x1 = nI (t + 1) := e.trans (nI_1 t)
      subst e
      rw [e1] at nx
      exact nx
    · have q : s &&& 1 = 1 := q
      rw [if_pos q] at e1
      unfold by_X0_sumOf_68
      intro x1 e
      have e : x1 = nI (t + 1) := e.trans (nI_1 t)
      subst e
      rw [e1] at nx
      exact nx
theorem y_sum {o i j : Nat} (hi : i ≤ j) (hj : j ≤ bl o) (hb : bl o ≤ 2560) (Q : Int32 → Yc → Prop) (hQ : Q (crcn (fun q => yA Y 0 o q &&& 255) i (j - i) (-1) ^^^ (-1)) Y) : wy_X0_sumOf n o (nI i) (nI j) Y Q := by
  unfold wy_X0_sumOf
  refine y_max (a := 0) (b := i) (by omega) (by omega) _ ?_
  rw [show max 0 i = i by omega]
  intro R hR
  have key : ∀ d t s, t + d = j → Q (crcn (fun q => yA Y 0 o q &&& 255) t d s ^^^ (-1)) Y → R (nI j, s, nI t) Y := by
    intro d
    induction d with
    | zero =>
      intro t s ht h
      have ht : t = j := by omega
      subst ht
      exact hR _ _ ⟨fun _ => h, fun q => absurd (nI_le (Nat.le_refl t) (by omega)) q⟩
    | succ d ih =>
      intro t s ht h
      have hct : (nI t).toNatClampNeg = t := nI_clamp (by omega)
      refine hR _ _ ⟨fun q => absurd q (nI_ge (by omega) (by omega)), fun _ => ⟨fun q => absurd q (nI_ge (by omega) (by omega)), fun _ => ⟨vp_in_nI (by omega) (by omega), fun x6 e6 x8 e8 => ?_⟩⟩⟩
      have e6 : x6 = yA Y 0 o t := by rw [e6]; show yA Y 0 o (nI t).toNatClampNeg = _; rw [hct]
      subst e6
      have e8 : x8 = s ^^^ (yA Y 0 o t &&& 255) := e8
      subst e8
      intro R2 hR2
      refine y_crc hR2 8 0 _ (by omega) ?_
      rw [nI_1]
      exact ih (t + 1) _ (by omega) h
  exact key (j - i) i (-1) (by omega) hQ
end
