/-! The class's constructors: the whole -/
section
variable {n : Nat} {pt : Int32} {ad : Nat → Nat → Nat} {L L2 : Nat → Nat → Prop} {S S2 : Nat → Nat → Nat → Prop} {σ0 σ τ : Sto} {t o k r : Nat}
theorem mk_bytesE {a0 R : Nat} {Q : Sto → Prop} (ea : ad 0 o = a0) (hR : cN n 100 o = R) (h0 : 0 < R) (h1 : R ≤ 2560) (H : CA n pt ad L S σ0 σ) (hL : L 0 o) (hn : ¬ L 100 o)
    (hQ : ∀ ad' L' S' σ', CA n pt ad' L' S' σ0 σ' → Gw ad L S ad' L' S' (fun t b => t = 100 ∧ b = o) (fun t b k => t = 0 ∧ b = o ∧ k = 0) → Q σ') : wp_X0_init a0 (nI R) σ Q := by
  subst ea
  exact mk_bytes hR h0 h1 H hL hn hQ
theorem mk_readerE {a0 b0 : Nat} {Q : Sto → Prop} (ea : ad 7 0 = a0) (eb : ad 0 1 = b0) (H : CA n pt ad L S σ0 σ) (hL : L 7 0) (hL2 : L 0 1) (hn : ¬ L 801 0)
    (hQ : ∀ ad' L' S' σ', CA n pt ad' L' S' σ0 σ' → Gw ad L S ad' L' S' (fun t b => t = 801 ∧ b = 0) (fun t b k => t = 7 ∧ b = 0 ∧ (k = 0 ∨ k = 1 ∨ k = 4)) → Q σ') : wp_X7_init a0 (some b0) σ Q := by
  subst ea; subst eb
  exact mk_reader H hL hL2 hn hQ
theorem mk_tail {Q : Sto → Prop} {kc nc : Nat} (hkc : kc + 6 ≤ 1410) (hnc : nc + 5739 ≤ 45206) (H : CA n pt ad L S σ0 σ) (hL : L 11 0) (hn : ∀ t b, (t = 0 ∨ t = 100 ∨ t = 7 ∨ t = 801) → ¬ L t b)
    (hQ : ∀ ad' L' S' σ', CA n pt ad' L' S' σ0 σ' → Gw ad L S ad' L' S' (fun t b => ((t = 0 ∨ t = 100) ∧ b < 2) ∨ ((t = 7 ∨ t = 801) ∧ b = 0)) (fun t b k => (t = 11 ∧ b = 0 ∧ (k = 11 ∨ k = 12 ∨ k = 13)) ∨ (t = 0 ∧ b < 2 ∧ k = 0) ∨ (t = 7 ∧ b = 0 ∧ (k = 0 ∨ k = 1 ∨ k = 4))) → Q σ') :
    (kc + 1 ≤ 1410 ∧ nc + 2 ≤ 45206 ∧ (∀ q8 : Nat, ¬ sK σ q8 < 23 → ∀ σ10 : Sto, σ10 = stN σ q8 0 0 → (((kc + 1) + 1 ≤ 1410 ∧ (nc + 2) + 2560 ≤ 45206) ∧ (wp_X0_init q8 (2560 : Int32) σ10 (fun (σ13 : Sto) => (sK σ13 (ad 11 0) = 11 ∧ (((kc + 1) + 1) + 1 ≤ 1410 ∧ ((nc + 2) + 2560) + 2 ≤ 45206 ∧ (∀ q17 : Nat, ¬ sK σ13 q17 < 23 → ∀ σ19 : Sto, σ19 = stN (stP σ13 (ad 11 0) 11 (some q8)) q17 0 0 → (((((kc + 1) + 1) + 1) + 1 ≤ 1410 ∧ (((nc + 2) + 2560) + 2) + 2560 ≤ 45206) ∧ (wp_X0_init q17 (1500 : Int32) σ19 (fun (σ22 : Sto) => (sK σ22 (ad 11 0) = 11 ∧ (((((kc + 1) + 1) + 1) + 1) + 1 ≤ 1410 ∧ ((((nc + 2) + 2560) + 2) + 2560) + 6 ≤ 45206 ∧ (∀ q26 : Nat, ¬ sK σ22 q26 < 23 → ∀ σ28 : Sto, σ28 = stN (stP σ22 (ad 11 0) 12 (some q17)) q26 7 0 → (sK σ28 (ad 11 0) = 11 ∧ (((((((kc + 1) + 1) + 1) + 1) + 1) + 1 ≤ 1410 ∧ (((((nc + 2) + 2560) + 2) + 2560) + 6) + 609 ≤ 45206) ∧ (wp_X7_init q26 (sP σ28 (ad 11 0) 12) σ28 (fun (σ32 : Sto) => (sK σ32 (ad 11 0) = 11 ∧ ((((((((kc + 1) + 1) + 1) + 1) + 1) + 1) ≤ 1410 ∧ ((((((nc + 2) + 2560) + 2) + 2560) + 6) + 609) ≤ 45206) ∧ Q (stP σ32 (ad 11 0) 13 (some q26)))))))))))))))))))))) := by
  refine ⟨by omega, by omega, fun q8 hq8 σ10 e10 => ⟨by omega, ?_⟩⟩
  subst e10
  obtain ⟨ad1, H1, ea1, ex1⟩ := H.nw (t := 0) (o := 0) (K := 0) (N := 0) hq8 (hn 0 0 (by omega)) rfl (by decide) rfl
  refine mk_bytesE (R := 2560) (o := 0) ea1 rfl (by omega) (by omega) H1 (Or.inr ⟨rfl, rfl⟩) (fun h => h.elim (hn 100 0 (by omega)) (fun h => absurd h.1 (by decide))) (fun ad2 L2 S2 σ2 H2 G2 => ?_)
  have l11 : L2 11 0 := (G2.1 _ _).mpr (Or.inl (Or.inl hL))
  have e11 : ad2 11 0 = ad 11 0 := (G2.2.2 _ _ (Or.inl hL)).trans (ex1 _ _ hL)
  have e00 : ad2 0 0 = q8 := (G2.2.2 _ _ (Or.inr ⟨rfl, rfl⟩)).trans ea1
  have k2 := H2.K l11
  have H3 := H2.wP (t := 11) (o := 0) (k := 11) (t2 := 0) (o2 := 0) l11 rfl ((G2.1 _ _).mpr (Or.inl (Or.inr ⟨rfl, rfl⟩))) rfl rfl
  rw [e11] at k2
  rw [e00, e11] at H3
  refine ⟨k2, by omega, by omega, fun q17 hq17 σ19 e19 => ⟨by omega, ?_⟩⟩
  subst e19
  obtain ⟨ad4, H4, ea4, ex4⟩ := H3.nw (t := 0) (o := 1) (K := 0) (N := 0) hq17 (fun h => by
    rcases (G2.1 _ _).mp h with (h | h) | h
    · exact hn 0 1 (by omega) h
    · omega
    · omega) rfl (by decide) rfl
  refine mk_bytesE (R := 1500) (o := 1) ea4 rfl (by omega) (by omega) H4 (Or.inr ⟨rfl, rfl⟩) (fun h => by
    rcases h with h | h
    · rcases (G2.1 _ _).mp h with (h | h) | h
      · exact hn 100 1 (by omega) h
      · omega
      · omega
    · omega) (fun ad5 L5 S5 σ5 H5 G5 => ?_)
  have m11 : L5 11 0 := (G5.1 _ _).mpr (Or.inl (Or.inl l11))
  have m01 : L5 0 1 := (G5.1 _ _).mpr (Or.inl (Or.inr ⟨rfl, rfl⟩))
  have f11 : ad5 11 0 = ad 11 0 := ((G5.2.2 _ _ (Or.inl l11)).trans (ex4 _ _ l11)).trans e11
  have f01 : ad5 0 1 = q17 := (G5.2.2 _ _ (Or.inr ⟨rfl, rfl⟩)).trans ea4
  have k5 := H5.K m11
  have H6 := H5.wP (t := 11) (o := 0) (k := 12) (t2 := 0) (o2 := 1) m11 rfl m01 rfl rfl
  rw [f11] at k5
  rw [f01, f11] at H6
  refine ⟨k5, by omega, by omega, fun q26 hq26 σ28 e28 => ?_⟩
  subst e28
  obtain ⟨ad7, H7, ea7, ex7⟩ := H6.nw (t := 7) (o := 0) (K := 7) (N := 0) hq26 (fun h => by
    rcases (G5.1 _ _).mp h with (h | h) | h
    · rcases (G2.1 _ _).mp h with (h | h) | h
      · exact hn 7 0 (by omega) h
      · omega
      · omega
    · omega
    · omega) rfl (by decide) rfl
  have g11 : ad7 11 0 = ad 11 0 := (ex7 _ _ m11).trans f11
  have g01 : ad7 0 1 = q17 := (ex7 _ _ m01).trans f01
  have k7 := H7.K (t := 11) (o := 0) (Or.inl m11)
  have p12 := H7.gP (t := 11) (o := 0) (k := 12) (t2 := 0) (o2 := 1) (Or.inr ⟨rfl, rfl, rfl⟩) rfl
  rw [g11] at k7 p12
  refine ⟨k7, by omega, ?_⟩
  rw [p12]
  refine mk_readerE ea7 rfl H7 (Or.inr ⟨rfl, rfl⟩) (Or.inl m01) (fun h => by
    rcases h with h | h
    · rcases (G5.1 _ _).mp h with (h | h) | h
      · rcases (G2.1 _ _).mp h with (h | h) | h
        · exact hn 801 0 (by omega) h
        · omega
        · omega
      · omega
      · omega
    · omega) (fun ad8 L8 S8 σ8 H8 G8 => ?_)
  have n11 : L8 11 0 := (G8.1 _ _).mpr (Or.inl (Or.inl m11))
  have h11 : ad8 11 0 = ad 11 0 := (G8.2.2 _ _ (Or.inl m11)).trans g11
  have h7 : ad8 7 0 = q26 := (G8.2.2 _ _ (Or.inr ⟨rfl, rfl⟩)).trans ea7
  have k8 := H8.K n11
  have H9 := H8.wP (t := 11) (o := 0) (k := 13) (t2 := 7) (o2 := 0) n11 rfl ((G8.1 _ _).mpr (Or.inl (Or.inr ⟨rfl, rfl⟩))) rfl rfl
  rw [h11] at k8
  rw [h7, h11] at H9
  refine ⟨k8, by omega, hQ _ _ _ _ H9 ⟨fun t b => ?_, fun t b k h => ?_, fun t b h => ?_⟩⟩
  · rw [G8.1 t b]
    dsimp only
    rw [G5.1 t b]
    dsimp only
    rw [G2.1 t b]
    by_cases hl : L t b
    · simp [hl]
    · simp only [hl, false_or]
      omega
  · have up2' : ∀ {t b k}, S2 t b k → S8 t b k := fun h => G8.2.1 _ _ _ (Or.inl (Or.inl (G5.2.1 _ _ _ (Or.inl (Or.inl h)))))
    rcases h with h | ⟨rfl, rfl, hk⟩ | ⟨rfl, hb, rfl⟩ | h
    · exact Or.inl (up2' (G2.2.1 _ _ _ (Or.inl h)))
    · rcases hk with rfl | rfl | rfl
      · exact Or.inl (G8.2.1 _ _ _ (Or.inl (Or.inl (G5.2.1 _ _ _ (Or.inl (Or.inr ⟨rfl, rfl, rfl⟩))))))
      · exact Or.inl (G8.2.1 _ _ _ (Or.inl (Or.inr ⟨rfl, rfl, rfl⟩)))
      · exact Or.inr ⟨rfl, rfl, rfl⟩
    · by_cases e : b = 0
      · exact Or.inl (up2' (G2.2.1 _ _ _ (Or.inr ⟨rfl, e, rfl⟩)))
      · exact Or.inl (G8.2.1 _ _ _ (Or.inl (Or.inl (G5.2.1 _ _ _ (Or.inr ⟨rfl, by omega, rfl⟩)))))
    · exact Or.inl (G8.2.1 _ _ _ (Or.inr h))
  · have a1 : L2 t b := (G2.1 _ _).mpr (Or.inl (Or.inl h))
    have a2 : L5 t b := (G5.1 _ _).mpr (Or.inl (Or.inl a1))
    exact (((((G8.2.2 t b (Or.inl a2)).trans (ex7 t b a2)).trans (G5.2.2 t b (Or.inl a1))).trans (ex4 t b a1)).trans (G2.2.2 t b (Or.inl h))).trans (ex1 t b h)
theorem acc_loop {a0 : Nat} {Q : Sto → Prop} : ∀ d i kc nc ad L S σ, i + d = 200 → kc + d + 6 ≤ 1410 → nc + 6 * d + 5739 ≤ 45206 → CA n pt ad L S σ0 σ → L 11 0 → L 1209 0 → S 11 0 9 → ad 11 0 = a0 → (∀ j, i ≤ j → j < 200 → ¬ L 6 (260 + j)) → (∀ t b, (t = 0 ∨ t = 100 ∨ t = 7 ∨ t = 801) → ¬ L t b) →
    (∀ ad' L' S' σ', CA n pt ad' L' S' σ0 σ' → Gw ad L S ad' L' S' (fun t b => (t = 6 ∧ 260 + i ≤ b ∧ b < 460) ∨ ((t = 0 ∨ t = 100) ∧ b < 2) ∨ ((t = 7 ∨ t = 801) ∧ b = 0)) (fun t b k => (t = 1209 ∧ b = 0 ∧ i ≤ k ∧ k < 200) ∨ (t = 11 ∧ b = 0 ∧ (k = 11 ∨ k = 12 ∨ k = 13)) ∨ (t = 0 ∧ b < 2 ∧ k = 0) ∨ (t = 7 ∧ b = 0 ∧ (k = 0 ∨ k = 1 ∨ k = 4))) → Q σ') → LF (f_X11_init_160 a0 Q) (nI i, kc, nc) σ := by
  intro d
  induction d with
  | zero =>
    intro i kc nc ad L S σ hi hkc hnc H l1 l2 s5 ea hn hn2 hQ R hR
    subst ea
    have hi : i = 200 := by omega
    subst hi
    have hN := H.N l2
    refine hR _ _ ⟨H.K l1, ad 1209 0, H.gP (t2 := 1209) (o2 := 0) s5 rfl, H.K l2, ⟨fun _ => ?_, fun q => absurd ?_ q⟩⟩
    · refine mk_tail (kc := kc) (nc := nc) (by omega) (by omega) H l1 hn2 (fun ad' L' S' σ' H' G' => hQ ad' L' S' σ' H' ⟨fun t b => ?_, fun t b k h => ?_, G'.2.2⟩)
      · rw [G'.1 t b]
        by_cases hl : L t b
        · simp [hl]
        · simp only [hl, false_or]
          omega
      · refine G'.2.1 t b k ?_
        rcases h with h | h | h
        · exact Or.inl h
        · omega
        · exact Or.inr h
    · rw [hN]
      exact nI_le (a := 200) (b := 200) (by omega) (by omega)
  | succ d ih =>
    intro i kc nc ad L S σ hi hkc hnc H l1 l2 s5 ea hn hn2 hQ R hR
    subst ea
    have hN := H.N l2
    refine hR _ _ ⟨H.K l1, ad 1209 0, H.gP (t2 := 1209) (o2 := 0) s5 rfl, H.K l2, ⟨fun q => ?_, fun _ => ⟨?_, ?_, fun q8 hq σ10 e10 => ?_⟩⟩⟩
    · rw [hN] at q
      exact absurd q (nI_ge (a := i) (b := 200) (by omega) (by omega))
    · show kc + 1 ≤ 1410
      omega
    · show nc + 6 ≤ 45206
      omega
    · subst e10
      obtain ⟨ad1, H1, ea, ex⟩ := H.nw (t := 6) (o := 260 + i) (K := 6) (N := 0) hq (hn i (by omega) (by omega)) rfl (by decide) rfl
      have e1 : ad1 11 0 = ad 11 0 := ex 11 0 l1
      have e2 : ad1 1209 0 = ad 1209 0 := ex 1209 0 l2
      have k2 := H1.K (t := 1209) (o := 0) (Or.inl l2)
      have n2 := H1.N (t := 1209) (o := 0) (Or.inl l2)
      have k6 := H1.K (t := 6) (o := 260 + i) (Or.inr ⟨rfl, rfl⟩)
      have H2 := H1.wP (t := 1209) (o := 0) (k := i) (t2 := 6) (o2 := 260 + i) (Or.inl l2) (show (if i < 200 then some (6, 260 + i) else none) = some (6, 260 + i) from if_pos (by omega)) (Or.inr ⟨rfl, rfl⟩) rfl rfl
      rw [e2] at k2 n2
      rw [ea] at k6
      rw [ea, e2] at H2
      refine ⟨⟨?_, ?_⟩, k2, ?_, k6, fun x17 e17 => ?_⟩
      · show kc + 1 ≤ 1410
        omega
      · show nc + 6 ≤ 45206
        omega
      · rw [n2]
        exact vp_in_nI (n := i) (N := 200) (by omega) (by omega)
      · have e17 : x17 = nI (i + 1) := e17.trans (nI_1 i)
        subst e17
        show R (nI (i + 1), kc + 1, nc + 6) (stP (stN σ q8 6 0) (ad 1209 0) (nI i).toNatClampNeg (some q8))
        rw [clp (by omega)]
        refine ih (i + 1) (kc + 1) (nc + 6) ad1 _ _ _ (by omega) (by omega) (by omega) H2 (Or.inl l1) (Or.inl l2) (Or.inl s5) e1 (fun j h1 h2 h => h.elim (hn j (by omega) h2) (fun h => by omega)) (fun t b ht h => h.elim (hn2 t b ht) (fun h => by omega)) (fun ad' L' S' σ' H' G' => hQ ad' L' S' σ' H' ⟨fun t b => ?_, fun t b k h => ?_, fun t b h => (G'.2.2 t b (Or.inl h)).trans (ex t b h)⟩) R hR
        · rw [G'.1 t b]
          by_cases hl : L t b
          · simp [hl]
          · simp only [hl, false_or]
            omega
        · refine G'.2.1 t b k ?_
          rcases h with h | h | h
          · exact Or.inl (Or.inl h)
          · by_cases e : k = i
            · exact Or.inl (Or.inr ⟨h.1, h.2.1, e⟩)
            · exact Or.inr (Or.inl ⟨h.1, h.2.1, by omega, h.2.2.2⟩)
          · exact Or.inr (Or.inr h)
theorem cls_loop {a0 : Nat} {Q : Sto → Prop} : ∀ d i kc nc ad L S σ, i + d = 4 → kc + 67 * d + 207 ≤ 1410 → nc + 462 * d + 7139 ≤ 45206 → CA n pt ad L S σ0 σ → L 11 0 → L 1204 0 → S 11 0 4 → ad 11 0 = a0 → (∀ j, i ≤ j → j < 4 → ¬ L 1 j ∧ ¬ L 205 j ∧ ¬ L 6 j) → (∀ b, 4 + 64 * i ≤ b → ¬ L 6 b) → ¬ L 1209 0 → (∀ t b, (t = 0 ∨ t = 100 ∨ t = 7 ∨ t = 801) → ¬ L t b) →
    (∀ ad' L' S' σ', CA n pt ad' L' S' σ0 σ' → Gw ad L S ad' L' S' (fun t b => ((t = 1 ∨ t = 205 ∨ t = 6) ∧ i ≤ b ∧ b < 4) ∨ (t = 6 ∧ 4 + 64 * i ≤ b ∧ b < 460) ∨ (t = 1209 ∧ b = 0) ∨ ((t = 0 ∨ t = 100) ∧ b < 2) ∨ ((t = 7 ∨ t = 801) ∧ b = 0)) (fun t b k => (t = 1 ∧ i ≤ b ∧ b < 4 ∧ (k = 4 ∨ k = 5)) ∨ (t = 205 ∧ i ≤ b ∧ b < 4 ∧ k < 64) ∨ (t = 1204 ∧ b = 0 ∧ i ≤ k ∧ k < 4) ∨ (t = 1209 ∧ b = 0 ∧ k < 200) ∨ (t = 11 ∧ b = 0 ∧ (k = 5 ∨ k = 6 ∨ k = 9 ∨ k = 11 ∨ k = 12 ∨ k = 13)) ∨ (t = 0 ∧ b < 2 ∧ k = 0) ∨ (t = 7 ∧ b = 0 ∧ (k = 0 ∨ k = 1 ∨ k = 4))) → Q σ') → LF (f_X11_init_110 a0 Q) (nI i, kc, nc) σ := by
  intro d
  induction d with
  | zero =>
    intro i kc nc ad L S σ hi hkc hnc H l1 l2 s5 ea hn hn6 hn9 hn2 hQ R hR
    subst ea
    have hi : i = 4 := by omega
    subst hi
    have hN := H.N l2
    refine hR _ _ ⟨H.K l1, ad 1204 0, H.gP (t2 := 1204) (o2 := 0) s5 rfl, H.K l2, ⟨fun _ => ⟨?_, ?_, fun q8 hq8 σ10 e10 => ?_⟩, fun q => absurd ?_ q⟩⟩
    · show kc + 1 ≤ 1410
      omega
    · show nc + 200 ≤ 45206
      omega
    · subst e10
      have H1 := H.wI (t := 11) (o := 0) (k := 5) (v := 1) l1 rfl rfl rfl
      have H2 := H1.wI (t := 11) (o := 0) (k := 6) (v := 1) l1 rfl rfl rfl
      obtain ⟨ad3, H3, x3, k3⟩ := arr_step (k := 9) (x := 1209) H2 l1 hn9 hq8 (K := 20) (N := 200) rfl (by decide) rfl rfl rfl rfl
      refine ⟨k3, ?_⟩
      refine acc_loop 200 0 (kc + 1) (nc + 200) ad3 _ _ _ (by omega) (by omega) (by omega) H3 (Or.inl l1) (Or.inr ⟨rfl, rfl⟩) (Or.inr ⟨rfl, rfl, rfl⟩) (x3 _ _ l1) (fun j h1 h2 h => h.elim (hn6 _ (by omega)) (fun h => by omega)) (fun t b ht h => h.elim (hn2 t b ht) (fun h => by omega)) (fun ad' L' S' σ' H' G' => hQ ad' L' S' σ' H' ⟨fun t b => ?_, fun t b k h => ?_, fun t b h => (G'.2.2 t b (Or.inl h)).trans (x3 t b h)⟩)
      · rw [G'.1 t b]
        by_cases hl : L t b
        · simp [hl]
        · simp only [hl, false_or]
          omega
      · refine G'.2.1 t b k ?_
        rcases h with h | h | h | h | h | ⟨rfl, rfl, hk⟩ | h | h
        · exact Or.inl (Or.inl (Or.inl (Or.inl h)))
        · omega
        · omega
        · omega
        · exact Or.inr (Or.inl ⟨h.1, h.2.1, by omega, h.2.2⟩)
        · rcases hk with rfl | rfl | rfl | hk
          · exact Or.inl (Or.inl (Or.inl (Or.inr ⟨rfl, rfl, rfl⟩)))
          · exact Or.inl (Or.inl (Or.inr ⟨rfl, rfl, rfl⟩))
          · exact Or.inl (Or.inr ⟨rfl, rfl, rfl⟩)
          · exact Or.inr (Or.inr (Or.inl ⟨rfl, rfl, hk⟩))
        · exact Or.inr (Or.inr (Or.inr (Or.inl h)))
        · exact Or.inr (Or.inr (Or.inr (Or.inr h)))
    · rw [hN]
      exact nI_le (a := 4) (b := 4) (by omega) (by omega)
  | succ d ih =>
    intro i kc nc ad L S σ hi hkc hnc H l1 l2 s5 ea hn hn6 hn9 hn2 hQ R hR
    subst ea
    have hN := H.N l2
    refine hR _ _ ⟨H.K l1, ad 1204 0, H.gP (t2 := 1204) (o2 := 0) s5 rfl, H.K l2, ⟨fun q => ?_, fun _ => ⟨?_, ?_, fun q15 hq σ17 e17 => ⟨⟨?_, ?_⟩, ?_⟩⟩⟩⟩
    · rw [hN] at q
      exact absurd q (nI_ge (a := i) (b := 4) (by omega) (by omega))
    · show kc + 1 ≤ 1410
      omega
    · show nc + 8 ≤ 45206
      omega
    · show (kc + 1) + 66 ≤ 1410
      omega
    · show (nc + 8) + 454 ≤ 45206
      omega
    · subst e17
      obtain ⟨ad1, H1, ea, ex⟩ := H.nw (t := 1) (o := i) (K := 1) (N := 0) hq (hn i (by omega) (by omega)).1 rfl (by decide) rfl
      have g := mk_client (Q := fun (σ20 : Sto) => (sK σ20 (ad 1204 0) = 17 ∧ (vp_in (nI i) (sN σ20 (ad 1204 0)) ∧ (sK σ20 q15 = 1 ∧ (∀ x24 : Int32, x24 = nI i + (1 : Int32) → R (x24, ((kc + 1) + 66), ((nc + 8) + 454)) (stP σ20 (ad 1204 0) (nI i).toNatClampNeg (some q15))))))) (o := i) (by omega) H1 (Or.inr ⟨rfl, rfl⟩) (fun h => h.elim (hn i (by omega) (by omega)).2.2 (fun h => absurd h.1 (by decide))) (fun h => h.elim (hn i (by omega) (by omega)).2.1 (fun h => absurd h.1 (by decide))) (fun j hj h => h.elim (hn6 _ (by omega)) (fun h => by omega)) (fun ad2 L2 S2 σ2 H2 G2 => by
        have e1 : ad2 11 0 = ad 11 0 := (G2.2.2 _ _ (Or.inl l1)).trans (ex _ _ l1)
        have e2 : ad2 1204 0 = ad 1204 0 := (G2.2.2 _ _ (Or.inl l2)).trans (ex _ _ l2)
        have e8 : ad2 1 i = q15 := (G2.2.2 _ _ (Or.inr ⟨rfl, rfl⟩)).trans ea
        have l2' : L2 1204 0 := (G2.1 _ _).mpr (Or.inl (Or.inl l2))
        have l3' : L2 1 i := (G2.1 _ _).mpr (Or.inl (Or.inr ⟨rfl, rfl⟩))
        have k2 := H2.K l2'
        have n2 := H2.N l2'
        have k3 := H2.K l3'
        have H3 := H2.wP (t := 1204) (o := 0) (k := i) (t2 := 1) (o2 := i) l2' (show (if i < 4 then some (1, i) else none) = some (1, i) from if_pos (by omega)) l3' rfl rfl
        rw [e2] at k2 n2
        rw [e8] at k3
        rw [e8, e2] at H3
        refine ⟨k2, ?_, k3, fun x24 e24 => ?_⟩
        · rw [n2]
          exact vp_in_nI (n := i) (N := 4) (by omega) (by omega)
        · rw [nI_1] at e24
          subst e24
          rw [clp (by omega)]
          refine ih (i + 1) (kc + 1 + 66) (nc + 8 + 454) ad2 _ _ _ (by omega) (by omega) (by omega) H3 ((G2.1 _ _).mpr (Or.inl (Or.inl l1))) l2' (Or.inl (G2.2.1 _ _ _ (Or.inl s5))) e1 (fun j h1 h2 => ?_) (fun b hb h => ?_) (fun h => ?_) (fun t b ht h => ?_) (fun ad' L' S' σ' H' G' => hQ ad' L' S' σ' H' ⟨fun t b => ?_, fun t b k h => ?_, fun t b h => ((G'.2.2 t b ((G2.1 t b).mpr (Or.inl (Or.inl h)))).trans (G2.2.2 t b (Or.inl h))).trans (ex t b h)⟩) R hR
          · have := hn j (by omega) h2
            rw [G2.1, G2.1, G2.1]
            refine ⟨fun h => ?_, fun h => ?_, fun h => ?_⟩
            · rcases h with (h | h) | h
              · exact this.1 h
              · omega
              · omega
            · rcases h with (h | h) | h
              · exact this.2.1 h
              · omega
              · omega
            · rcases h with (h | h) | h
              · exact this.2.2 h
              · omega
              · omega
          · rcases (G2.1 _ _).mp h with (h | h) | h
            · exact hn6 b (by omega) h
            · omega
            · omega
          · rcases (G2.1 _ _).mp h with (h | h) | h
            · exact hn9 h
            · omega
            · omega
          · rcases (G2.1 _ _).mp h with (h | h) | h
            · exact hn2 t b ht h
            · omega
            · omega
          · rw [G'.1 t b, G2.1 t b]
            by_cases hl : L t b
            · simp [hl]
            · simp only [hl, false_or]
              omega
          · refine G'.2.1 t b k ?_
            rcases h with h | h | h | h | h
            · exact Or.inl (Or.inl (G2.2.1 t b k (Or.inl h)))
            · by_cases e : b = i
              · exact Or.inl (Or.inl (G2.2.1 t b k (Or.inr (Or.inl ⟨h.1, e, h.2.2.2⟩))))
              · exact Or.inr (Or.inl ⟨h.1, by omega, h.2.2.1, h.2.2.2⟩)
            · by_cases e : b = i
              · exact Or.inl (Or.inl (G2.2.1 t b k (Or.inr (Or.inr ⟨h.1, e, h.2.2.2⟩))))
              · exact Or.inr (Or.inr (Or.inl ⟨h.1, by omega, h.2.2.1, h.2.2.2⟩))
            · by_cases e : k = i
              · exact Or.inl (Or.inr ⟨h.1, h.2.1, e⟩)
              · exact Or.inr (Or.inr (Or.inr (Or.inl ⟨h.1, h.2.1, by omega, h.2.2.2⟩)))
            · exact Or.inr (Or.inr (Or.inr (Or.inr h))))
      rw [ea] at g
      exact g
end
