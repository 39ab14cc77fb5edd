/-! What is written and read -/
section
variable {n K : Nat} {Y Y2 Y0 : Yc} {X X2 X0 : Xc} {o : Nat}
def IY (Y Y2 : Yc) : Prop := (∀ k j, k ≠ 1 → ¬ (702 ≤ k ∧ k ≤ 705) → yI Y2 k j = yI Y k j) ∧ yJ Y2 = yJ Y ∧ (∀ k j i, k ≠ 0 → k ≠ 701 → yA Y2 k j i = yA Y k j i) ∧ yB Y2 = yB Y ∧ yP Y2 = yP Y ∧ yS Y2 = yS Y ∧ yR Y2 = yR Y
def IX (X X2 : Xc) : Prop := (∀ k, k ≠ 0 → k ≤ 88 → X2.1 k = X.1 k) ∧ ∀ k i, k ≤ 87 → X2.2 k i = X.2 k i
def RdT (Y : Yc) (X : Xc) : Prop := yI Y 702 0 = X.1 93 ∧ Sm 609 (X.1 93) ∧ yI Y 703 0 = X.1 95 ∧ yI Y 704 0 = X.1 96 ∧ ∀ i, i < ln (X.1 93) → yA Y 701 0 i = X.2 92 i
theorem io_enc (hY : IY Y Y2) (i : Nat) : encM Y2 i = encM Y i := by
  unfold encM
  simp [hY.1, hY.2.1, hY.2.2.2.2.1, hY.2.2.2.2.2.1]
theorem io_mok (hY : IY Y Y2) (i : Nat) : MOK n K Y2 i = MOK n K Y i := by
  unfold MOK
  simp [hY.1, hY.2.1, hY.2.2.2.2.1, hY.2.2.2.2.2.1]
theorem io_MS (hY : IY Y Y2) (hX : IX X X2) (i m : Nat) : MS n K Y2 X2 i m = MS n K Y X i m := by
  have e : X2.2 10 = X.2 10 := funext fun i => hX.2 10 i (by omega)
  unfold MS
  rw [io_enc hY, io_mok hY, hY.1 300 i (by omega) (by omega), hX.2 12 m (by omega), hX.2 11 m (by omega), e]
theorem io_Ar (hY : IY Y Y2) (hX : IX X X2) (h : ArS n K Y X) : ArS n K Y2 X2 := by
  unfold ArS at *
  simpa [hY.1, hY.2.2.2.2.2.2, hX.1, hX.2, io_MS hY hX] using h
theorem io_Pl (hY : IY Y Y2) (hX : IX X X2) (o e : Nat) : PlS K Y2 X2 o e = PlS K Y X o e := by
  unfold PlS
  simp [hY.1, hY.2.1, hX.2]
theorem io_sim (S : Sim n K Y X) (hY : IY Y Y2) (hX : IX X X2) (b0 : ByS Y2 X2 0 88 89) (b1 : ByS Y2 X2 1 90 91) (rd : RdT Y2 X2) : Sim n K Y2 X2 := by
  have hxE : ∀ e, xE X2 e = xE X e := fun e => by simp [xE, hX.2]
  have hxT : ∀ e, xT X2 e = xT X e := fun e => by simp [xT, hX.2]
  have hxH : ∀ e, xH X2 e = xH X e := fun e => by simp [xH, hX.2]
  have hTd : ∀ r q, TdS K Y2 X2 r q = TdS K Y X r q := fun r q => by
    unfold TdS
    simp [hY.1, hY.2.2.2.1, hY.2.2.2.2.2.1, hX.2, hxT]
  refine Sim.mk ?_ ⟨fun r hr => ?_, fun c hc => ?_, fun a h1 h2 => ?_, b0, b1, ?_, rd⟩ (io_Ar hY hX S.ar)
  · have h := S.sc
    unfold ScS at *
    simpa [hY.1, hX.1] using h
  · have h := S.pcs.1 r hr
    refine ⟨?_, ?_, ?_, ?_, ?_⟩
    · have h := h.1
      unfold RpS at *
      simpa [hY.1, hY.2.1, hX.2] using h
    · have h := h.2.1
      unfold LgS at *
      simpa [hY.1, hY.2.2.2.2.2.1, hX.2, hxE] using h
    · have h := h.2.2.1
      unfold HdS at *
      simpa [hY.1, hY.2.2.1, hY.2.2.2.2.2.1, hX.2, hxH] using h
    · have h := h.2.2.2.1
      unfold CtS at *
      simpa [hY.1, hX.2] using h
    · have h := h.2.2.2.2
      unfold ChS at *
      simpa [hY.1, hX.2, hTd] using h
  · have h := S.pcs.2.1 c hc
    unfold ClS at *
    simpa [hY.1, hY.2.1, hY.2.2.2.2.1, hX.2, io_Pl hY hX] using h
  · rw [hX.1 81 (by omega) (by omega)] at h2
    have h := S.pcs.2.2.1 a h1 h2
    unfold KpS at *
    simpa [hY.1, hY.2.1, hY.2.2.2.2.1, hX.2] using h
  · have h := S.pcs.2.2.2.2.2.1
    unfold B01 at *
    simpa [hX.2] using h
theorem ByS.mk' {a c : Nat} {l : List Int32} (w : YW o Y l) (v : XW a c X l) (hl : l.length ≤ bl o) (hb : bl o ≤ 2560) : ByS Y X o a c := by
  refine ⟨w.1.trans v.1.symm, ⟨l.length, hl, v.1⟩, fun i hi => ?_⟩
  have e : ln (X.1 c) = l.length := by rw [v.1]; exact nI_clamp (by omega)
  rw [e] at hi
  have h1 := w.2 i hi
  have h2 := v.2 i hi
  exact ⟨h1.trans h2.symm, by rw [h2, ← h1]; exact and_byt _⟩
theorem ByS.ls {a c : Nat} (h : ByS Y X o a c) (hb : bl o ≤ 2560) : ∃ l : List Int32, l.length ≤ bl o ∧ YW o Y l ∧ XW a c X l := by
  obtain ⟨h1, ⟨M, hM, eM⟩, h3⟩ := h
  have e : ln (X.1 c) = M := by rw [eM]; exact nI_clamp (by omega)
  rw [e] at h3
  rw [eM] at h1
  have g : ∀ i, i < M → (List.map (X.2 a) (List.range M)).getD i 0 = X.2 a i := fun i hi => by
    rw [List.getD_eq_getElem?_getD, List.getElem?_map, List.getElem?_range hi]
    rfl
  refine ⟨List.map (X.2 a) (List.range M), by simpa using hM, ⟨by simpa using h1, fun i hi => ?_⟩, ⟨by simpa using eM, fun i hi => ?_⟩⟩
  · have hi : i < M := by simpa using hi
    rw [g i hi]
    exact (h3 i hi).1
  · have hi : i < M := by simpa using hi
    rw [g i hi]
theorem OY.io (h : OY o Y Y2) : IY Y Y2 := ⟨fun k j h1 _ => h.1 k j (fun q => h1 q.1), h.2.1, fun k j i h1 _ => h.2.2.1 k j i (fun q => h1 q.1), h.2.2.2.1, h.2.2.2.2.1, h.2.2.2.2.2.1, h.2.2.2.2.2.2⟩
theorem OX.io {a c : Nat} (h : OX a c X X2) (ha : 88 ≤ a) (hc : 89 ≤ c) : IX X X2 := ⟨fun k _ h1 => h.1 k (by omega), fun k i h1 => h.2 k i (by omega)⟩
/-- the output is written -/
theorem out_sim (S : Sim n K Y X) (hY : OY 0 Y Y2) (hX : OX 88 89 X X2) {l : List Int32} (w : YW 0 Y2 l) (v : XW 88 89 X2 l) (hl : l.length ≤ 2560) : Sim n K Y2 X2 := by
  refine io_sim S hY.io (hX.io (by omega) (by omega)) (ByS.mk' w v hl (by decide)) ?_ ?_
  · obtain ⟨h1, h2, h3⟩ := S.pcs.2.2.2.2.1
    refine ⟨?_, ?_, fun i hi => ?_⟩
    · rw [hY.1 1 1 (by omega), hX.1 91 (by omega)]
      exact h1
    · rw [hX.1 91 (by omega)]
      exact h2
    · rw [hX.1 91 (by omega)] at hi
      rw [hY.2.2.1 0 1 i (by omega), hX.2 90 i (by omega)]
      exact h3 i hi
  · have h := S.pcs.2.2.2.2.2.2
    unfold RdT
    simpa [hY.1, hX.1, hY.2.2.1, hX.2] using h
/-- the tape is written -/
theorem tape_sim (S : Sim n K Y X) (hY : OY 1 Y Y2) (hX : OX 90 91 X X2) {l : List Int32} (w : YW 1 Y2 l) (v : XW 90 91 X2 l) (hl : l.length ≤ 1500) : Sim n K Y2 X2 := by
  refine io_sim S hY.io (hX.io (by omega) (by omega)) ?_ (ByS.mk' w v hl (by decide)) ?_
  · obtain ⟨h1, h2, h3⟩ := S.pcs.2.2.2.1
    refine ⟨?_, ?_, fun i hi => ?_⟩
    · rw [hY.1 1 0 (by omega), hX.1 89 (by omega)]
      exact h1
    · rw [hX.1 89 (by omega)]
      exact h2
    · rw [hX.1 89 (by omega)] at hi
      rw [hY.2.2.1 0 0 i (by omega), hX.2 88 i (by omega)]
      exact h3 i hi
  · have h := S.pcs.2.2.2.2.2.2
    unfold RdT
    simpa [hY.1, hX.1, hY.2.2.1, hX.2] using h
/-! put -/
theorem ones8L (i : Nat) : (255#64).getLsbD i = decide (i < 8) := by
  have h1 : (255#64) = BitVec.setWidth 64 (BitVec.allOnes 8) := by decide
  rw [h1, BitVec.getLsbD_setWidth, BitVec.getLsbD_allOnes]
  by_cases h : i < 8 <;> simp [h]; omega
theorem ones8q (i : Nat) : (255#32).getLsbD i = decide (i < 8) := by
  have h1 : (255#32) = BitVec.setWidth 32 (BitVec.allOnes 8) := by decide
  rw [h1, BitVec.getLsbD_setWidth, BitVec.getLsbD_allOnes]
  by_cases h : i < 8 <;> simp [h]; omega
theorem pb_core (w : BitVec 64) (s : Nat) (hs : s ≤ 56) : (BitVec.setWidth 32 (w >>> s)) &&& 255#32 = BitVec.setWidth 32 ((w.sshiftRight s) &&& 255#64) := by
  apply BitVec.eq_of_getLsbD_eq
  intro i hi
  rw [BitVec.getLsbD_and, ones8q, BitVec.getLsbD_setWidth, BitVec.getLsbD_setWidth, BitVec.getLsbD_and, ones8L, BitVec.getLsbD_ushiftRight, BitVec.getLsbD_sshiftRight]
  by_cases h8 : i < 8
  · have h1 : s + i < 64 := by omega
    have h2 : i < 64 := by omega
    simp [h8, h1, hi]
    intro; omega
  · simp [h8]
theorem sw64 (x : BitVec 64) : x.signExtend 32 = x.setWidth 32 := by
  exact BitVec.signExtend_eq_setWidth_of_le x (by omega)
theorem pb_0 (w : Int64) : ((w.toUInt64 >>> (0 : UInt64)).toInt64).toInt32 &&& 255 = ((w >>> (0 : Int64)) &&& 255).toInt32 := by
  apply Int32.toBitVec_inj.1
  have := pb_core w.toBitVec 0 (by omega)
  rw [← sw64, ← sw64] at this
  have e1 : ((w.toUInt64 >>> (0 : UInt64)).toInt64).toBitVec = w.toBitVec >>> 0 := rfl
  have e2 : ((w >>> (0 : Int64)) &&& 255).toBitVec = (w.toBitVec.sshiftRight 0) &&& 255#64 := rfl
  rw [Int32.toBitVec_and, Int64.toBitVec_toInt32, Int64.toBitVec_toInt32, e1, e2]
  exact this
theorem pb_1 (w : Int64) : ((w.toUInt64 >>> (8 : UInt64)).toInt64).toInt32 &&& 255 = ((w >>> (8 : Int64)) &&& 255).toInt32 := by
  apply Int32.toBitVec_inj.1
  have := pb_core w.toBitVec 8 (by omega)
  rw [← sw64, ← sw64] at this
  have e1 : ((w.toUInt64 >>> (8 : UInt64)).toInt64).toBitVec = w.toBitVec >>> 8 := rfl
  have e2 : ((w >>> (8 : Int64)) &&& 255).toBitVec = (w.toBitVec.sshiftRight 8) &&& 255#64 := rfl
  rw [Int32.toBitVec_and, Int64.toBitVec_toInt32, Int64.toBitVec_toInt32, e1, e2]
  exact this
theorem pb_2 (w : Int64) : ((w.toUInt64 >>> (16 : UInt64)).toInt64).toInt32 &&& 255 = ((w >>> (16 : Int64)) &&& 255).toInt32 := by
  apply Int32.toBitVec_inj.1
  have := pb_core w.toBitVec 16 (by omega)
  rw [← sw64, ← sw64] at this
  have e1 : ((w.toUInt64 >>> (16 : UInt64)).toInt64).toBitVec = w.toBitVec >>> 16 := rfl
  have e2 : ((w >>> (16 : Int64)) &&& 255).toBitVec = (w.toBitVec.sshiftRight 16) &&& 255#64 := rfl
  rw [Int32.toBitVec_and, Int64.toBitVec_toInt32, Int64.toBitVec_toInt32, e1, e2]
  exact this
theorem pb_3 (w : Int64) : ((w.toUInt64 >>> (24 : UInt64)).toInt64).toInt32 &&& 255 = ((w >>> (24 : Int64)) &&& 255).toInt32 := by
  apply Int32.toBitVec_inj.1
  have := pb_core w.toBitVec 24 (by omega)
  rw [← sw64, ← sw64] at this
  have e1 : ((w.toUInt64 >>> (24 : UInt64)).toInt64).toBitVec = w.toBitVec >>> 24 := rfl
  have e2 : ((w >>> (24 : Int64)) &&& 255).toBitVec = (w.toBitVec.sshiftRight 24) &&& 255#64 := rfl
  rw [Int32.toBitVec_and, Int64.toBitVec_toInt32, Int64.toBitVec_toInt32, e1, e2]
  exact this
theorem pb_4 (w : Int64) : ((w.toUInt64 >>> (32 : UInt64)).toInt64).toInt32 &&& 255 = ((w >>> (32 : Int64)) &&& 255).toInt32 := by
  apply Int32.toBitVec_inj.1
  have := pb_core w.toBitVec 32 (by omega)
  rw [← sw64, ← sw64] at this
  have e1 : ((w.toUInt64 >>> (32 : UInt64)).toInt64).toBitVec = w.toBitVec >>> 32 := rfl
  have e2 : ((w >>> (32 : Int64)) &&& 255).toBitVec = (w.toBitVec.sshiftRight 32) &&& 255#64 := rfl
  rw [Int32.toBitVec_and, Int64.toBitVec_toInt32, Int64.toBitVec_toInt32, e1, e2]
  exact this
theorem pb_5 (w : Int64) : ((w.toUInt64 >>> (40 : UInt64)).toInt64).toInt32 &&& 255 = ((w >>> (40 : Int64)) &&& 255).toInt32 := by
  apply Int32.toBitVec_inj.1
  have := pb_core w.toBitVec 40 (by omega)
  rw [← sw64, ← sw64] at this
  have e1 : ((w.toUInt64 >>> (40 : UInt64)).toInt64).toBitVec = w.toBitVec >>> 40 := rfl
  have e2 : ((w >>> (40 : Int64)) &&& 255).toBitVec = (w.toBitVec.sshiftRight 40) &&& 255#64 := rfl
  rw [Int32.toBitVec_and, Int64.toBitVec_toInt32, Int64.toBitVec_toInt32, e1, e2]
  exact this
theorem pb_6 (w : Int64) : ((w.toUInt64 >>> (48 : UInt64)).toInt64).toInt32 &&& 255 = ((w >>> (48 : Int64)) &&& 255).toInt32 := by
  apply Int32.toBitVec_inj.1
  have := pb_core w.toBitVec 48 (by omega)
  rw [← sw64, ← sw64] at this
  have e1 : ((w.toUInt64 >>> (48 : UInt64)).toInt64).toBitVec = w.toBitVec >>> 48 := rfl
  have e2 : ((w >>> (48 : Int64)) &&& 255).toBitVec = (w.toBitVec.sshiftRight 48) &&& 255#64 := rfl
  rw [Int32.toBitVec_and, Int64.toBitVec_toInt32, Int64.toBitVec_toInt32, e1, e2]
  exact this
theorem pb_7 (w : Int64) : ((w.toUInt64 >>> (56 : UInt64)).toInt64).toInt32 &&& 255 = ((w >>> (56 : Int64)) &&& 255).toInt32 := by
  apply Int32.toBitVec_inj.1
  have := pb_core w.toBitVec 56 (by omega)
  rw [← sw64, ← sw64] at this
  have e1 : ((w.toUInt64 >>> (56 : UInt64)).toInt64).toBitVec = w.toBitVec >>> 56 := rfl
  have e2 : ((w >>> (56 : Int64)) &&& 255).toBitVec = (w.toBitVec.sshiftRight 56) &&& 255#64 := rfl
  rw [Int32.toBitVec_and, Int64.toBitVec_toInt32, Int64.toBitVec_toInt32, e1, e2]
  exact this
theorem put_byte (w : Int64) {i : Nat} (hi : i ≤ 7) : ((w.toUInt64 >>> ((nI (8 * i)).toInt64.toUInt64 &&& Int64.toUInt64 63)).toInt64).toInt32 &&& 255 = ((w >>> (((8 : Int32) * nI i).toInt64 &&& 63)) &&& (255 : Int64)).toInt32 := by
  have h : i = 0 ∨ i = 1 ∨ i = 2 ∨ i = 3 ∨ i = 4 ∨ i = 5 ∨ i = 6 ∨ i = 7 := by omega
  rcases h with h | h | h | h | h | h | h | h <;> subst h
  · rw [show ((nI (8 * 0)).toInt64.toUInt64 &&& Int64.toUInt64 63) = 0 by decide, show (((8 : Int32) * nI 0).toInt64 &&& 63) = 0 by decide]
    exact pb_0 w
  · rw [show ((nI (8 * 1)).toInt64.toUInt64 &&& Int64.toUInt64 63) = 8 by decide, show (((8 : Int32) * nI 1).toInt64 &&& 63) = 8 by decide]
    exact pb_1 w
  · rw [show ((nI (8 * 2)).toInt64.toUInt64 &&& Int64.toUInt64 63) = 16 by decide, show (((8 : Int32) * nI 2).toInt64 &&& 63) = 16 by decide]
    exact pb_2 w
  · rw [show ((nI (8 * 3)).toInt64.toUInt64 &&& Int64.toUInt64 63) = 24 by decide, show (((8 : Int32) * nI 3).toInt64 &&& 63) = 24 by decide]
    exact pb_3 w
  · rw [show ((nI (8 * 4)).toInt64.toUInt64 &&& Int64.toUInt64 63) = 32 by decide, show (((8 : Int32) * nI 4).toInt64 &&& 63) = 32 by decide]
    exact pb_4 w
  · rw [show ((nI (8 * 5)).toInt64.toUInt64 &&& Int64.toUInt64 63) = 40 by decide, show (((8 : Int32) * nI 5).toInt64 &&& 63) = 40 by decide]
    exact pb_5 w
  · rw [show ((nI (8 * 6)).toInt64.toUInt64 &&& Int64.toUInt64 63) = 48 by decide, show (((8 : Int32) * nI 6).toInt64 &&& 63) = 48 by decide]
    exact pb_6 w
  · rw [show ((nI (8 * 7)).toInt64.toUInt64 &&& Int64.toUInt64 63) = 56 by decide, show (((8 : Int32) * nI 7).toInt64 &&& 63) = 56 by decide]
    exact pb_7 w
theorem put_loop (w : Int64) : ∀ i l Y X, i ≤ 8 → l.length + i ≤ 1500 → YW 1 Y l → XW 90 91 X l → ∃ l2 Y2 X2, l2.length ≤ 1500 ∧ YW 1 Y2 l2 ∧ XW 90 91 X2 l2 ∧ OY 1 Y Y2 ∧ OX 90 91 X X2 ∧
    (∀ Q : Int32 → Yc → Prop, Q 1 Y2 → LFy (fy_X11_put_35 n Q) (w, (8 : Int32) * (nI i - 1)) Y) ∧ (∀ Q : Int32 → Xc → Prop, Q 1 X2 → LFx (fx_X12_put_34 Q) (w, nI i - 1) X) := by
  intro i
  induction i with
  | zero =>
    intro l Y X _ hl h g
    refine ⟨l, Y, X, by omega, h, g, OY.rf, OX.rf, fun Q hQ R hR => hR _ _ ⟨fun _ => hQ, fun q => absurd (by show (8 : Int32) * (nI 0 - 1) < 0; decide) q⟩, fun Q hQ R hR => hR _ _ ⟨fun _ => hQ, fun q => absurd (by show nI 0 - 1 < 0; decide) q⟩⟩
  | succ i ih =>
    intro l Y X hi hl h g
    have ei : nI (i + 1) - 1 = nI i := nI_sub (a := i + 1) (b := 1) (by omega)
    have e8 : (8 : Int32) * nI i = nI (8 * i) := by rw [show (8 : Int32) = nI 8 from rfl, nI_mul]
    have hbl : bl 1 = 1500 := rfl
    obtain ⟨Y1, r1, w1, g1⟩ := y_add1 (n := n) h (by omega) (by omega) (((w.toUInt64 >>> ((nI (8 * i)).toInt64.toUInt64 &&& Int64.toUInt64 63)).toInt64).toInt32)
    rw [put_byte w (by omega)] at w1
    have hc : (nI l.length).toNatClampNeg = l.length := nI_clamp (by omega)
    have v1 : XW 90 91 (xS (xA X 90 l.length (((w >>> (((8 : Int32) * nI i).toInt64 &&& 63)) &&& (255 : Int64)).toInt32)) 91 (nI (l.length + 1))) (l ++ [((w >>> (((8 : Int32) * nI i).toInt64 &&& 63)) &&& (255 : Int64)).toInt32]) := by
      refine ⟨?_, fun q hq => ?_⟩
      · show nI (l.length + 1) = _
        simp
      · rw [app_getD hq, xAS, xAA]
        by_cases e : q = l.length
        · rw [if_pos ⟨rfl, e⟩, if_pos e]
        · rw [if_neg (fun q => e q.2), if_neg e]
          exact g.2 q (by simp at hq; omega)
    obtain ⟨l2, Y2, X2, hl2, w2, v2, gy, gx, ry, rx⟩ := ih _ Y1 _ (by omega) (by simp; omega) w1 v1
    refine ⟨l2, Y2, X2, hl2, w2, v2, g1.trans gy, ((OX.rf.wA _ _).wS _).trans gx, fun Q hQ R hR => ?_, fun Q hQ R hR => ?_⟩
    · rw [ei, e8]
      refine hR _ _ ⟨fun q => absurd ((nI_lti (a := 8 * i) (b := 0) (by omega) (by omega)).mp q) (by omega), fun _ => r1 _ (fun x11 e11 => ?_)⟩
      have e11 : x11 = (8 : Int32) * (nI i - 1) := by
        refine e11.trans ?_
        show nI (8 * i) + -8 = _
        rw [← e8, Int32.mul_sub, Int32.sub_eq_add_neg, show -((8 : Int32) * 1) = -8 by decide]
      subst e11
      exact ry Q hQ R hR
    · rw [ei]
      refine hR _ _ ⟨fun q => absurd ((nI_lti (a := i) (b := 0) (by omega) (by omega)).mp q) (by omega), fun _ x3 e3 x5 e5 => ?_⟩
      have e3 : x3 = nI l.length := e3.trans g.1
      subst e3
      have e5 : x5 = ((w >>> (((8 : Int32) * nI i).toInt64 &&& 63)) &&& (255 : Int64)).toInt32 := e5
      subst e5
      rw [hc]
      refine ⟨vp_in_nI (by omega) (by omega), fun x7 e7 x9 e9 x11 e11 => ?_⟩
      have e7 : x7 = nI l.length := e7.trans g.1
      subst e7
      have e9 : x9 = nI (l.length + 1) := e9.trans (nI_1 _)
      subst e9
      have e11 : x11 = nI i - 1 := e11.trans (Int32.sub_eq_add_neg _ _).symm
      subst e11
      exact rx Q hQ R hR
theorem put_call (S : Sim n K Y X) (w : Int64) (p : Int32) : OutP n K (wy_X11_put n w p Y) (wx_X12_put w p X) := by
  have S0 := sim_code S 0
  obtain ⟨l, hl, hw, hv⟩ := S0.pcs.2.2.2.2.1.ls (by decide)
  have hl : l.length ≤ 1500 := hl
  rcases i32_cases p with h | ⟨k, hk, rfl⟩
  · refine ⟨0, Y, xS X 0 0, fun Q hQ => ⟨fun _ => hQ, fun q => absurd h q⟩, fun Q hQ => ?_, S0⟩
    unfold wx_X12_put
    exact x_inN h _ ⟨fun _ => hQ, fun q => absurd rfl q⟩
  · have hk0 : ¬ nI k < 0 := fun q => absurd ((nI_lti (a := k) (b := 0) hk (by omega)).mp q) (by omega)
    have h8 : (8 : Int32) < nI k ↔ 8 < k := nI_lti (a := 8) (b := k) (by omega) hk
    by_cases hk8 : k ≤ 8
    · have h15 : nI l.length + nI k ≤ (1500 : Int32) ↔ l.length + k ≤ 1500 := by
        rw [nI_add]
        exact nI_lei (a := l.length + k) (b := 1500) (by omega) (by omega)
      by_cases hf : l.length + k ≤ 1500
      · obtain ⟨l2, Y2, X2, hl2, w2, v2, gy, gx, ry, rx⟩ := put_loop (n := n) w k l Y _ hk8 hf hw hv
        refine ⟨1, Y2, X2, fun Q hQ => ⟨fun q => absurd q hk0, fun _ => ⟨fun q => absurd (h8.mp q) (by omega), fun _ x5 e5 => ?_⟩⟩, fun Q hQ => ?_, tape_sim S0 gy gx w2 v2 hl2⟩
        · rw [hw.1] at e5
          subst e5
          refine ⟨fun _ x8 e8 => ?_, fun q => absurd (h15.mpr hf) q⟩
          subst e8
          exact ry Q hQ
        · unfold wx_X12_put
          refine x_in0 hk (by omega) (b := 8) _ ?_
          rw [if_pos hk8]
          refine ⟨fun q => absurd q (by decide), fun _ x6 e6 => ?_⟩
          rw [hv.1] at e6
          subst e6
          refine ⟨fun _ x9 e9 => ?_, fun q => absurd (h15.mpr hf) q⟩
          subst e9
          exact rx Q hQ
      · refine ⟨0, Y, xS X 0 0, fun Q hQ => ⟨fun q => absurd q hk0, fun _ => ⟨fun q => absurd (h8.mp q) (by omega), fun _ x5 e5 => ?_⟩⟩, fun Q hQ => ?_, S0⟩
        · rw [hw.1] at e5
          subst e5
          exact ⟨fun q => absurd (h15.mp q) hf, fun _ => hQ⟩
        · unfold wx_X12_put
          refine x_in0 hk (by omega) (b := 8) _ ?_
          rw [if_pos hk8]
          refine ⟨fun q => absurd q (by decide), fun _ x6 e6 => ?_⟩
          rw [hv.1] at e6
          subst e6
          exact ⟨fun q => absurd (h15.mp q) hf, fun _ => hQ⟩
    · refine ⟨0, Y, xS X 0 0, fun Q hQ => ⟨fun q => absurd q hk0, fun _ => ⟨fun _ => hQ, fun q => absurd (h8.mpr (by omega)) q⟩⟩, fun Q hQ => ?_, S0⟩
      unfold wx_X12_put
      refine x_in0 hk (by omega) (b := 8) _ ?_
      rw [if_neg hk8]
      exact ⟨fun _ => hQ, fun q => absurd rfl q⟩
end
