/-! Numbers by 3 and by 6 -/
theorem xor_neg {a b : Int32} (ha : a.toInt < 0) (hb : 0 ≤ b.toInt) : ¬ 0 ≤ (a ^^^ b) := by
  rw [Int32.le_iff_toInt_le]
  show ¬ (0 : Int) ≤ _
  have h : (a ^^^ b).toBitVec.msb = true := by
    rw [Int32.toBitVec_xor, BitVec.msb_xor]
    have h1 : a.toBitVec.msb = true := by rw [BitVec.msb_eq_toInt]; simpa using ha
    have h2 : b.toBitVec.msb = false := by rw [BitVec.msb_eq_toInt]; simpa using hb
    rw [h1, h2]; rfl
  rw [BitVec.msb_eq_toInt] at h
  have h3 := of_decide_eq_true h
  show ¬ 0 ≤ (a ^^^ b).toBitVec.toInt
  omega
theorem md_3 (p : Int32) : (p - p / (3 : Int32) * (3 : Int32)).toInt = if 0 ≤ p.toInt then p.toInt % 3 else -((-p.toInt) % 3) := by
  have b1 := Int32.toInt_lt p
  have b2 := Int32.le_toInt p
  have hm : (3 : Int32).toInt = 3 := by decide
  have hd : (p / (3 : Int32)).toInt = p.toInt.tdiv 3 := by
    rw [Int32.toInt_div_of_ne_right _ _ (by decide), hm]
  have ht : p.toInt.tdiv 3 = if 0 ≤ p.toInt then p.toInt / 3 else -((-p.toInt) / 3) := by
    by_cases h : 0 ≤ p.toInt
    · rw [if_pos h]
      exact Int.tdiv_eq_ediv_of_nonneg h
    · rw [if_neg h]
      have e : p.toInt.tdiv 3 = (-(-p.toInt)).tdiv 3 := by rw [Int.neg_neg]
      rw [e, Int.neg_tdiv, Int.tdiv_eq_ediv_of_nonneg (by omega)]
  have hmul : (p / (3 : Int32) * (3 : Int32)).toInt = p.toInt.tdiv 3 * 3 := by
    rw [Int32.toInt_mul, hd, hm]
    refine Int.bmod_eq_of_le ?_ ?_
    · rw [ht]
      split <;> omega
    · rw [ht]
      split <;> omega
  rw [Int32.toInt_sub, hmul]
  have hr : p.toInt - p.toInt.tdiv 3 * 3 = if 0 ≤ p.toInt then p.toInt % 3 else -((-p.toInt) % 3) := by
    rw [ht]
    split <;> omega
  rw [hr]
  refine Int.bmod_eq_of_le ?_ ?_
  · split <;> omega
  · split <;> omega
theorem fm_3 (p : Int32) : ∃ j, j < 3 ∧ (∀ (σ : Sto) (Q : Int32 → Sto → Prop), Q (nI j) σ → wp_J9_floorMod_7cf53 p (3 : Int32) σ Q) ∧ (∀ (σ : Sto) (Q : Int32 → Sto → Prop), Q (nI j) σ → wp_X12_modulo p (3 : Int32) σ Q) := by
  have hv := md_3 p
  have b1 := Int32.toInt_lt p
  have b2 := Int32.le_toInt p
  have hm : (3 : Int32).toInt = 3 := by decide
  have h0 : (0 : Int32).toInt = 0 := by decide
  by_cases h : 0 ≤ p.toInt
  · rw [if_pos h] at hv
    have e : p - p / (3 : Int32) * (3 : Int32) = nI (p.toInt % 3).toNat := by
      apply Int32.toInt_inj.mp
      rw [hv, nI_toInt (by omega)]
      omega
    refine ⟨(p.toInt % 3).toNat, by omega, fun σ Q hQ => ⟨by decide, fun x2 e2 => ?_⟩, fun σ Q hQ => ⟨by decide, fun x2 e2 => ?_⟩⟩
    · rw [e] at e2
      subst e2
      exact ⟨fun _ => hQ, fun q => absurd (xor_pos h (by rw [hm]; decide)) q⟩
    · rw [e] at e2
      subst e2
      exact ⟨fun _ => hQ, fun q => absurd (nI_le (a := 0) (b := (p.toInt % 3).toNat) (by omega) (by omega)) q⟩
  · rw [if_neg h] at hv
    by_cases hz : (-p.toInt) % 3 = 0
    · have e : p - p / (3 : Int32) * (3 : Int32) = nI 0 := by
        apply Int32.toInt_inj.mp
        rw [hv, nI_toInt (by omega)]
        omega
      refine ⟨0, by omega, fun σ Q hQ => ⟨by decide, fun x2 e2 => ?_⟩, fun σ Q hQ => ⟨by decide, fun x2 e2 => ?_⟩⟩
      · rw [e] at e2
        subst e2
        exact ⟨fun _ => hQ, fun _ => ⟨fun _ => hQ, fun q => absurd rfl q⟩⟩
      · rw [e] at e2
        subst e2
        exact ⟨fun _ => hQ, fun q => absurd (by decide) q⟩
    · have e : p - p / (3 : Int32) * (3 : Int32) + (3 : Int32) = nI (3 - (-p.toInt) % 3).toNat := by
        apply Int32.toInt_inj.mp
        rw [Int32.toInt_add, hv, hm, nI_toInt (by omega), Int.bmod_eq_of_le (by omega) (by omega)]
        omega
      have n0 : ¬ p - p / (3 : Int32) * (3 : Int32) = 0 := fun q => by
        rw [q, h0] at hv
        omega
      have nl : ¬ 0 ≤ p - p / (3 : Int32) * (3 : Int32) := fun q => by
        rw [Int32.le_iff_toInt_le, h0, hv] at q
        omega
      refine ⟨(3 - (-p.toInt) % 3).toNat, by omega, fun σ Q hQ => ⟨by decide, fun x2 e2 => ?_⟩, fun σ Q hQ => ⟨by decide, fun x2 e2 => ?_⟩⟩
      · subst e2
        refine ⟨fun q => absurd q (xor_neg (by omega) (by rw [hm]; decide)), fun _ => ⟨fun q => absurd q n0, fun _ => ?_⟩⟩
        rw [e]
        exact hQ
      · subst e2
        refine ⟨fun q => absurd q nl, fun _ => ?_⟩
        rw [e]
        exact hQ
theorem md_6 (p : Int32) : (p - p / (6 : Int32) * (6 : Int32)).toInt = if 0 ≤ p.toInt then p.toInt % 6 else -((-p.toInt) % 6) := by
  have b1 := Int32.toInt_lt p
  have b2 := Int32.le_toInt p
  have hm : (6 : Int32).toInt = 6 := by decide
  have hd : (p / (6 : Int32)).toInt = p.toInt.tdiv 6 := by
    rw [Int32.toInt_div_of_ne_right _ _ (by decide), hm]
  have ht : p.toInt.tdiv 6 = if 0 ≤ p.toInt then p.toInt / 6 else -((-p.toInt) / 6) := by
    by_cases h : 0 ≤ p.toInt
    · rw [if_pos h]
      exact Int.tdiv_eq_ediv_of_nonneg h
    · rw [if_neg h]
      have e : p.toInt.tdiv 6 = (-(-p.toInt)).tdiv 6 := by rw [Int.neg_neg]
      rw [e, Int.neg_tdiv, Int.tdiv_eq_ediv_of_nonneg (by omega)]
  have hmul : (p / (6 : Int32) * (6 : Int32)).toInt = p.toInt.tdiv 6 * 6 := by
    rw [Int32.toInt_mul, hd, hm]
    refine Int.bmod_eq_of_le ?_ ?_
    · rw [ht]
      split <;> omega
    · rw [ht]
      split <;> omega
  rw [Int32.toInt_sub, hmul]
  have hr : p.toInt - p.toInt.tdiv 6 * 6 = if 0 ≤ p.toInt then p.toInt % 6 else -((-p.toInt) % 6) := by
    rw [ht]
    split <;> omega
  rw [hr]
  refine Int.bmod_eq_of_le ?_ ?_
  · split <;> omega
  · split <;> omega
theorem fm_6 (p : Int32) : ∃ j, j < 6 ∧ (∀ (σ : Sto) (Q : Int32 → Sto → Prop), Q (nI j) σ → wp_J9_floorMod_7cf53 p (6 : Int32) σ Q) ∧ (∀ (σ : Sto) (Q : Int32 → Sto → Prop), Q (nI j) σ → wp_X12_modulo p (6 : Int32) σ Q) := by
  have hv := md_6 p
  have b1 := Int32.toInt_lt p
  have b2 := Int32.le_toInt p
  have hm : (6 : Int32).toInt = 6 := by decide
  have h0 : (0 : Int32).toInt = 0 := by decide
  by_cases h : 0 ≤ p.toInt
  · rw [if_pos h] at hv
    have e : p - p / (6 : Int32) * (6 : Int32) = nI (p.toInt % 6).toNat := by
      apply Int32.toInt_inj.mp
      rw [hv, nI_toInt (by omega)]
      omega
    refine ⟨(p.toInt % 6).toNat, by omega, fun σ Q hQ => ⟨by decide, fun x2 e2 => ?_⟩, fun σ Q hQ => ⟨by decide, fun x2 e2 => ?_⟩⟩
    · rw [e] at e2
      subst e2
      exact ⟨fun _ => hQ, fun q => absurd (xor_pos h (by rw [hm]; decide)) q⟩
    · rw [e] at e2
      subst e2
      exact ⟨fun _ => hQ, fun q => absurd (nI_le (a := 0) (b := (p.toInt % 6).toNat) (by omega) (by omega)) q⟩
  · rw [if_neg h] at hv
    by_cases hz : (-p.toInt) % 6 = 0
    · have e : p - p / (6 : Int32) * (6 : Int32) = nI 0 := by
        apply Int32.toInt_inj.mp
        rw [hv, nI_toInt (by omega)]
        omega
      refine ⟨0, by omega, fun σ Q hQ => ⟨by decide, fun x2 e2 => ?_⟩, fun σ Q hQ => ⟨by decide, fun x2 e2 => ?_⟩⟩
      · rw [e] at e2
        subst e2
        exact ⟨fun _ => hQ, fun _ => ⟨fun _ => hQ, fun q => absurd rfl q⟩⟩
      · rw [e] at e2
        subst e2
        exact ⟨fun _ => hQ, fun q => absurd (by decide) q⟩
    · have e : p - p / (6 : Int32) * (6 : Int32) + (6 : Int32) = nI (6 - (-p.toInt) % 6).toNat := by
        apply Int32.toInt_inj.mp
        rw [Int32.toInt_add, hv, hm, nI_toInt (by omega), Int.bmod_eq_of_le (by omega) (by omega)]
        omega
      have n0 : ¬ p - p / (6 : Int32) * (6 : Int32) = 0 := fun q => by
        rw [q, h0] at hv
        omega
      have nl : ¬ 0 ≤ p - p / (6 : Int32) * (6 : Int32) := fun q => by
        rw [Int32.le_iff_toInt_le, h0, hv] at q
        omega
      refine ⟨(6 - (-p.toInt) % 6).toNat, by omega, fun σ Q hQ => ⟨by decide, fun x2 e2 => ?_⟩, fun σ Q hQ => ⟨by decide, fun x2 e2 => ?_⟩⟩
      · subst e2
        refine ⟨fun q => absurd q (xor_neg (by omega) (by rw [hm]; decide)), fun _ => ⟨fun q => absurd q n0, fun _ => ?_⟩⟩
        rw [e]
        exact hQ
      · subst e2
        refine ⟨fun q => absurd q nl, fun _ => ?_⟩
        rw [e]
        exact hQ
