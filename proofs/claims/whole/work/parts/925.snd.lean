/-! The class sends -/
def ySb (Y : Yc) : Yc := if yI Y 405 0 = 200 then uI Y 407 0 (yI Y 407 0 + 1) else uI Y 405 0 (yI Y 405 0 + 1)
def ySm (Y : Yc) (o : Nat) (x1 k f t : Int32) (v : Int64) (s : Int32) : Yc := uI (uP (uI (uJ (uI (uI (uI (uI Y 300 o x1) 301 o k) 302 o f) 303 o t) 304 o v) 306 o s) 307 o none) 309 o 0
def ySd (Y : Yc) (k f t : Int32) (v : Int64) (s : Int32) : Yc := uI (ySm (ySb Y) (ySO Y) (yI Y 406 0) k f t v s) 406 0 (yI Y 406 0 + 1)
theorem and255 {a : Nat} (ha : a < 2 ^ 31) : (nI a &&& 255) = nI (a % 256) := by
  apply Int32.toBitVec_inj.1
  have e1 : (nI a).toBitVec = BitVec.ofNat 32 a := rfl
  have e2 : (nI (a % 256)).toBitVec = BitVec.ofNat 32 (a % 256) := rfl
  rw [Int32.toBitVec_and, e1, e2]
  apply BitVec.eq_of_toNat_eq
  rw [BitVec.toNat_and]
  show (BitVec.ofNat 32 a).toNat &&& 255 = _
  rw [BitVec.toNat_ofNat, BitVec.toNat_ofNat, show (255 : Nat) = 2 ^ 8 - 1 from rfl, Nat.and_two_pow_sub_one_eq_mod]
  omega
theorem and63 {a : Nat} (ha : a < 2 ^ 31) : (nI a &&& 63) = nI (a % 64) := by
  apply Int32.toBitVec_inj.1
  have e1 : (nI a).toBitVec = BitVec.ofNat 32 a := rfl
  have e2 : (nI (a % 64)).toBitVec = BitVec.ofNat 32 (a % 64) := rfl
  rw [Int32.toBitVec_and, e1, e2]
  apply BitVec.eq_of_toNat_eq
  rw [BitVec.toNat_and]
  show (BitVec.ofNat 32 a).toNat &&& 63 = _
  rw [BitVec.toNat_ofNat, BitVec.toNat_ofNat, show (63 : Nat) = 2 ^ 6 - 1 from rfl, Nat.and_two_pow_sub_one_eq_mod]
  omega
theorem y_send {n K : Nat} {Y : Yc} {X : Xc} (A : ArS n K Y X) (k f t : Int32) (v : Int64) (s : Int32) (Q : Nat → Yc → Prop) (hQ : Q (ySO Y) (ySd Y k f t v s)) : wy_X4_send n k f t v s Y Q := by
  obtain ⟨cnt, od, hc, ho, e5, _, e4, _⟩ := A
  unfold wy_X4_send
  intro x4 h4
  rw [e5] at h4
  subst h4
  unfold ySd ySb ySm at hQ
  by_cases h200 : cnt = 200
  · have e : nI cnt = 200 := (nI_inj200 hc).mpr h200
    have hso : ySO Y = 256 := by unfold ySO; rw [e5, if_pos e]
    rw [hso, e5, if_pos e] at hQ
    refine ⟨fun _ x7 h7 x9 h9 => ?_, fun h => absurd (by rw [e]; exact Int32.le_refl _) h⟩
    subst h7; subst h9
    unfold by_X4_send_59
    intro x1 h1 x12 h12 x14 h14
    simp only [yII, yIJ, yIA, yIB, yIP, yIS, yIR, yJI, yJJ, yJA, yJB, yJP, yJS, yJR, yAI, yAJ, yAA, yAB, yAP, yAS, yAR, yBI, yBJ, yBA, yBB, yBP, yBS, yBR, yPI, yPJ, yPA, yPB, yPP, yPS, yPR, ySI, ySJ, ySA, ySB, ySP, ySS, ySR, yRI, yRJ, yRA, yRB, yRP, yRS, yRR] at h1 h12
    rw [if_neg (by omega)] at h1
    simp only [show ¬ (406 = 309 ∧ 0 = 256) by omega, show ¬ (406 = 306 ∧ 0 = 256) by omega, show ¬ (406 = 303 ∧ 0 = 256) by omega, show ¬ (406 = 302 ∧ 0 = 256) by omega, show ¬ (406 = 301 ∧ 0 = 256) by omega, show ¬ (406 = 300 ∧ 0 = 256) by omega, show ¬ (406 = 407 ∧ 0 = 0) by omega, if_false] at h12
    subst h1; subst h14; subst h12
    exact hQ
  · have e : ¬ nI cnt = 200 := fun h => h200 ((nI_inj200 hc).mp h)
    have hso : ySO Y = yR Y ((od + cnt) % 256) := by
      unfold ySO
      rw [e5, if_neg e, e4]
      show yR Y (((nI od).toNatClampNeg + (nI cnt).toNatClampNeg) % 256) = _
      rw [nI_clamp (by omega), nI_clamp (by omega)]
    rw [hso, e5, if_neg e] at hQ
    refine ⟨fun h => absurd h (nI_ge (a := cnt) (b := 200) (by omega) (by omega)), fun _ x13 h13 x15 h15 x17 h17 => ?_⟩
    rw [e4] at h13
    rw [e5] at h15
    subst h13; subst h15
    rw [nI_add, and255 (by omega)] at h17
    subst h17
    refine ⟨vp_in_nI (by omega) (by omega), fun o22 h22 x25 h25 x27 h27 => ?_⟩
    rw [nI_clamp (by omega)] at h22
    rw [e5] at h25
    subst h22; subst h25; subst h27
    unfold by_X4_send_59
    intro x1 h1 x12 h12 x14 h14
    simp only [yII, yIJ, yIA, yIB, yIP, yIS, yIR, yJI, yJJ, yJA, yJB, yJP, yJS, yJR, yAI, yAJ, yAA, yAB, yAP, yAS, yAR, yBI, yBJ, yBA, yBB, yBP, yBS, yBR, yPI, yPJ, yPA, yPB, yPP, yPS, yPR, ySI, ySJ, ySA, ySB, ySP, ySS, ySR, yRI, yRJ, yRA, yRB, yRP, yRS, yRR] at h1 h12
    rw [if_neg (by omega)] at h1
    rw [if_neg (by omega), if_neg (by omega), if_neg (by omega), if_neg (by omega), if_neg (by omega), if_neg (by omega), if_neg (by omega)] at h12
    subst h1; subst h14; subst h12
    exact hQ
/-- the frame's part of Snt -/
def SntB (Y Y2 : Yc) : Prop :=
  (∀ c o, ¬ (c = 405 ∧ o = 0) → ¬ (c = 406 ∧ o = 0) → ¬ (c = 407 ∧ o = 0) → ¬ (300 ≤ c ∧ c ≤ 310 ∧ o = ySO Y) → ¬ ((c = 201 ∨ c = 202) ∧ o = 56 + ySO Y) → yI Y2 c o = yI Y c o) ∧
  (∀ c o, ¬ ((c = 304 ∨ c = 305) ∧ o = ySO Y) → yJ Y2 c o = yJ Y c o) ∧ yA Y2 = yA Y ∧ yB Y2 = yB Y ∧ yR Y2 = yR Y ∧
  (∀ c o, ¬ (c = 307 ∧ o = ySO Y) → yP Y2 c o = yP Y c o) ∧ (∀ c o i, ¬ (c = 200 ∧ o = 56 + ySO Y) → yS Y2 c o i = yS Y c o i) ∧
  yI Y2 406 0 = yI Y 406 0 + 1 ∧
  (if yI Y 405 0 = 200 then yI Y2 405 0 = 200 ∧ yI Y2 407 0 = yI Y 407 0 + 1 else yI Y2 405 0 = yI Y 405 0 + 1 ∧ yI Y2 407 0 = yI Y 407 0) ∧
  yI Y2 300 (ySO Y) = yI Y 406 0
theorem SntB.snt {n K : Nat} {Y Y2 : Yc} {l : List Int32} (h : SntB Y Y2) (he : encM Y2 (ySO Y) = l) (hm : MOK n K Y2 (ySO Y)) : Snt n K Y Y2 l :=
  ⟨h.1, h.2.1, h.2.2.1, h.2.2.2.1, h.2.2.2.2.1, h.2.2.2.2.2.1, h.2.2.2.2.2.2.1, h.2.2.2.2.2.2.2.1, h.2.2.2.2.2.2.2.2.1, h.2.2.2.2.2.2.2.2.2, he, hm⟩
theorem ySb_I (Y : Yc) (c o : Nat) (h : ¬ (c = 405 ∧ o = 0)) (h2 : ¬ (c = 407 ∧ o = 0)) : yI (ySb Y) c o = yI Y c o := by
  unfold ySb; split <;> simp only [yII, yIJ, yIA, yIB, yIP, yIS, yIR, yJI, yJJ, yJA, yJB, yJP, yJS, yJR, yAI, yAJ, yAA, yAB, yAP, yAS, yAR, yBI, yBJ, yBA, yBB, yBP, yBS, yBR, yPI, yPJ, yPA, yPB, yPP, yPS, yPR, ySI, ySJ, ySA, ySB, ySP, ySS, ySR, yRI, yRJ, yRA, yRB, yRP, yRS, yRR] <;> rw [if_neg (by omega)]
theorem ySb_o (Y : Yc) : yJ (ySb Y) = yJ Y ∧ yA (ySb Y) = yA Y ∧ yB (ySb Y) = yB Y ∧ yR (ySb Y) = yR Y ∧ yP (ySb Y) = yP Y ∧ yS (ySb Y) = yS Y := by
  unfold ySb; split <;> exact ⟨rfl, rfl, rfl, rfl, rfl, rfl⟩
theorem ySd_B (Y : Yc) (k f t : Int32) (v : Int64) (s : Int32) : SntB Y (ySd Y k f t v s) := by
  obtain ⟨b1, b2, b3, b4, b5, b6⟩ := ySb_o Y
  refine ⟨fun c o h1 h2 h3 h4 h5 => ?_, fun c o h1 => ?_, b2, b3, b4, fun c o h1 => ?_, fun c o i h1 => congrFun (congrFun (congrFun b6 c) o) i, ?_, ?_, ?_⟩
  · unfold ySd ySm
    simp only [yII, yIJ, yIA, yIB, yIP, yIS, yIR, yJI, yJJ, yJA, yJB, yJP, yJS, yJR, yAI, yAJ, yAA, yAB, yAP, yAS, yAR, yBI, yBJ, yBA, yBB, yBP, yBS, yBR, yPI, yPJ, yPA, yPB, yPP, yPS, yPR, ySI, ySJ, ySA, ySB, ySP, ySS, ySR, yRI, yRJ, yRA, yRB, yRP, yRS, yRR]
    rw [if_neg (by omega), if_neg (by omega), if_neg (by omega), if_neg (by omega), if_neg (by omega), if_neg (by omega), if_neg (by omega)]
    exact ySb_I Y c o h1 h3
  · unfold ySd ySm
    simp only [yII, yIJ, yIA, yIB, yIP, yIS, yIR, yJI, yJJ, yJA, yJB, yJP, yJS, yJR, yAI, yAJ, yAA, yAB, yAP, yAS, yAR, yBI, yBJ, yBA, yBB, yBP, yBS, yBR, yPI, yPJ, yPA, yPB, yPP, yPS, yPR, ySI, ySJ, ySA, ySB, ySP, ySS, ySR, yRI, yRJ, yRA, yRB, yRP, yRS, yRR]
    rw [if_neg (by omega), b1]
  · unfold ySd ySm
    simp only [yII, yIJ, yIA, yIB, yIP, yIS, yIR, yJI, yJJ, yJA, yJB, yJP, yJS, yJR, yAI, yAJ, yAA, yAB, yAP, yAS, yAR, yBI, yBJ, yBA, yBB, yBP, yBS, yBR, yPI, yPJ, yPA, yPB, yPP, yPS, yPR, ySI, ySJ, ySA, ySB, ySP, ySS, ySR, yRI, yRJ, yRA, yRB, yRP, yRS, yRR]
    rw [if_neg (by omega), b5]
  · unfold ySd
    simp only [yII, yIJ, yIA, yIB, yIP, yIS, yIR, yJI, yJJ, yJA, yJB, yJP, yJS, yJR, yAI, yAJ, yAA, yAB, yAP, yAS, yAR, yBI, yBJ, yBA, yBB, yBP, yBS, yBR, yPI, yPJ, yPA, yPB, yPP, yPS, yPR, ySI, ySJ, ySA, ySB, ySP, ySS, ySR, yRI, yRJ, yRA, yRB, yRP, yRS, yRR]
    rw [if_pos (by simp)]
  · have e : ∀ c, c = 405 ∨ c = 407 → yI (ySd Y k f t v s) c 0 = yI (ySb Y) c 0 := fun c hc => by
      unfold ySd ySm
      simp only [yII, yIJ, yIA, yIB, yIP, yIS, yIR, yJI, yJJ, yJA, yJB, yJP, yJS, yJR, yAI, yAJ, yAA, yAB, yAP, yAS, yAR, yBI, yBJ, yBA, yBB, yBP, yBS, yBR, yPI, yPJ, yPA, yPB, yPP, yPS, yPR, ySI, ySJ, ySA, ySB, ySP, ySS, ySR, yRI, yRJ, yRA, yRB, yRP, yRS, yRR]
      rw [if_neg (by omega), if_neg (by omega), if_neg (by omega), if_neg (by omega), if_neg (by omega), if_neg (by omega), if_neg (by omega)]
    rw [e 405 (Or.inl rfl), e 407 (Or.inr rfl)]
    unfold ySb
    by_cases h : yI Y 405 0 = 200
    · rw [if_pos h, if_pos h]
      simp only [yII, yIJ, yIA, yIB, yIP, yIS, yIR, yJI, yJJ, yJA, yJB, yJP, yJS, yJR, yAI, yAJ, yAA, yAB, yAP, yAS, yAR, yBI, yBJ, yBA, yBB, yBP, yBS, yBR, yPI, yPJ, yPA, yPB, yPP, yPS, yPR, ySI, ySJ, ySA, ySB, ySP, ySS, ySR, yRI, yRJ, yRA, yRB, yRP, yRS, yRR]
      rw [if_neg (by omega), if_pos (by simp)]
      exact ⟨h, rfl⟩
    · rw [if_neg h, if_neg h]
      simp only [yII, yIJ, yIA, yIB, yIP, yIS, yIR, yJI, yJJ, yJA, yJB, yJP, yJS, yJR, yAI, yAJ, yAA, yAB, yAP, yAS, yAR, yBI, yBJ, yBA, yBB, yBP, yBS, yBR, yPI, yPJ, yPA, yPB, yPP, yPS, yPR, ySI, ySJ, ySA, ySB, ySP, ySS, ySR, yRI, yRJ, yRA, yRB, yRP, yRS, yRR]
      rw [if_pos (by simp), if_neg (by omega)]
      exact ⟨rfl, rfl⟩
  · unfold ySd ySm
    simp only [yII, yIJ, yIA, yIB, yIP, yIS, yIR, yJI, yJJ, yJA, yJB, yJP, yJS, yJR, yAI, yAJ, yAA, yAB, yAP, yAS, yAR, yBI, yBJ, yBA, yBB, yBP, yBS, yBR, yPI, yPJ, yPA, yPB, yPP, yPS, yPR, ySI, ySJ, ySA, ySB, ySP, ySS, ySR, yRI, yRJ, yRA, yRB, yRP, yRS, yRR]
    rw [if_neg (by omega), if_neg (by omega), if_neg (by omega), if_neg (by omega), if_neg (by omega), if_neg (by omega), if_pos (by simp)]
theorem ySd_v (Y : Yc) (k f t : Int32) (v : Int64) (s : Int32) : yI (ySd Y k f t v s) 301 (ySO Y) = k ∧ yI (ySd Y k f t v s) 302 (ySO Y) = f ∧ yI (ySd Y k f t v s) 303 (ySO Y) = t ∧ yJ (ySd Y k f t v s) 304 (ySO Y) = v ∧ yI (ySd Y k f t v s) 306 (ySO Y) = s ∧ yP (ySd Y k f t v s) 307 (ySO Y) = none ∧ yI (ySd Y k f t v s) 309 (ySO Y) = 0 := by
  unfold ySd ySm
  simp only [yII, yIJ, yIA, yIB, yIP, yIS, yIR, yJI, yJJ, yJA, yJB, yJP, yJS, yJR, yAI, yAJ, yAA, yAB, yAP, yAS, yAR, yBI, yBJ, yBA, yBB, yBP, yBS, yBR, yPI, yPJ, yPA, yPB, yPP, yPS, yPR, ySI, ySJ, ySA, ySB, ySP, ySS, ySR, yRI, yRJ, yRA, yRB, yRP, yRS, yRR]
  simp
theorem SntB.mI {Y Y2 : Yc} (h : SntB Y Y2) (c : Nat) (v : Int32) (hc : 301 ≤ c ∧ c ≤ 310) : SntB Y (uI Y2 c (ySO Y) v) := by
  obtain ⟨h1, h2, h3, h4, h5, h6, h7, h8, h9, h10⟩ := h
  refine ⟨fun c' o a1 a2 a3 a4 a5 => ?_, h2, h3, h4, h5, h6, h7, ?_, ?_, ?_⟩
  · rw [yII, if_neg (by omega)]; exact h1 c' o a1 a2 a3 a4 a5
  · rw [yII, if_neg (by omega)]; exact h8
  · have e : ∀ d, d = 405 ∨ d = 407 → yI (uI Y2 c (ySO Y) v) d 0 = yI Y2 d 0 := fun d hd => by rw [yII, if_neg (by omega)]
    rw [e 405 (Or.inl rfl), e 407 (Or.inr rfl)]; exact h9
  · rw [yII, if_neg (by omega)]; exact h10
theorem SntB.mL {Y Y2 : Yc} (h : SntB Y Y2) (c : Nat) (v : Int32) (hc : c = 201 ∨ c = 202) : SntB Y (uI Y2 c (56 + ySO Y) v) := by
  obtain ⟨h1, h2, h3, h4, h5, h6, h7, h8, h9, h10⟩ := h
  refine ⟨fun c' o a1 a2 a3 a4 a5 => ?_, h2, h3, h4, h5, h6, h7, ?_, ?_, ?_⟩
  · rw [yII, if_neg (by omega)]; exact h1 c' o a1 a2 a3 a4 a5
  · rw [yII, if_neg (by omega)]; exact h8
  · have e : ∀ d, d = 405 ∨ d = 407 → yI (uI Y2 c (56 + ySO Y) v) d 0 = yI Y2 d 0 := fun d hd => by rw [yII, if_neg (by omega)]
    rw [e 405 (Or.inl rfl), e 407 (Or.inr rfl)]; exact h9
  · rw [yII, if_neg (by omega)]; exact h10
theorem SntB.mJ {Y Y2 : Yc} (h : SntB Y Y2) (v : Int64) : SntB Y (uJ Y2 305 (ySO Y) v) := by
  obtain ⟨h1, h2, h3, h4, h5, h6, h7, h8, h9, h10⟩ := h
  refine ⟨h1, fun c o a => ?_, h3, h4, h5, h6, h7, h8, h9, h10⟩
  rw [yJJ, if_neg (by omega)]; exact h2 c o a
theorem SntB.mP {Y Y2 : Yc} (h : SntB Y Y2) (v : Option Rq) : SntB Y (uP Y2 307 (ySO Y) v) := by
  obtain ⟨h1, h2, h3, h4, h5, h6, h7, h8, h9, h10⟩ := h
  refine ⟨h1, h2, h3, h4, h5, fun c o a => ?_, h7, h8, h9, h10⟩
  rw [yPP, if_neg (by omega)]; exact h6 c o a
