/-! The class's constructors: bytes, table, pending, reader, replica -/
section
variable {n : Nat} {pt : Int32} {ad : Nat → Nat → Nat} {L L2 : Nat → Nat → Prop} {S S2 : Nat → Nat → Nat → Prop} {σ0 σ τ : Sto} {t o k r : Nat}
/-- an array is made and put into a field -/
theorem arr_step {q x K N : Nat} (H : CA n pt ad L S σ0 σ) (hL : L t o) (hn : ¬ L x o) (hq : ¬ sK σ q < 23) (hk : cK x o = K) (hK : K < 23) (hN : cN n x o = N) (hP : cP n t o k = some (x, o)) (hI : cI n pt t o k = 0) (hJ : cJ t o k = 0) :
    ∃ ad', CA n pt ad' (fun a b => L a b ∨ (a = x ∧ b = o)) (fun a b j => S a b j ∨ (a = t ∧ b = o ∧ j = k)) σ0 (stP (stN σ q K N) (ad t o) k (some q)) ∧ (∀ a b, L a b → ad' a b = ad a b) ∧ sK (stN σ q K N) (ad t o) = cK t o := by
  obtain ⟨ad1, H1, ea, ex⟩ := H.nw (t := x) (o := o) (K := K) (N := N) hq hn hk hK hN
  have e1 : ad1 t o = ad t o := ex t o hL
  have k1 := H1.K (t := t) (o := o) (Or.inl hL)
  have H2 := H1.wP (t := t) (o := o) (k := k) (t2 := x) (o2 := o) (Or.inl hL) hP (Or.inr ⟨rfl, rfl⟩) hI hJ
  rw [e1] at k1
  rw [ea, e1] at H2
  exact ⟨ad1, H2, ex, k1⟩
theorem mk_bytes {R : Nat} {Q : Sto → Prop} (hR : cN n 100 o = R) (h0 : 0 < R) (h1 : R ≤ 2560) (H : CA n pt ad L S σ0 σ) (hL : L 0 o) (hn : ¬ L 100 o)
    (hQ : ∀ ad' L' S' σ', CA n pt ad' L' S' σ0 σ' → Gw ad L S ad' L' S' (fun t b => t = 100 ∧ b = o) (fun t b k => t = 0 ∧ b = o ∧ k = 0) → Q σ') : wp_X0_init (ad 0 o) (nI R) σ Q := by
  have hc : (nI R).toNatClampNeg = R := nI_clamp (by omega)
  refine ⟨by decide, ⟨fun _ => ?_, fun q => absurd (nI_lt (a := 0) (b := R) h0 (by omega)) q⟩⟩
  dsimp only
  rw [hc]
  refine ⟨fun q => absurd ((nI_lti (a := R) (b := 0) (by omega) (by omega)).mp q) (by omega), by omega, by decide, by omega, fun q8 hq σ10 e10 => ?_⟩
  subst e10
  obtain ⟨ad1, H1, ex, k1⟩ := arr_step (k := 0) H hL hn hq (K := 13) (N := R) rfl (by decide) hR rfl rfl rfl
  exact ⟨k1, ⟨by decide, by omega⟩, hQ _ _ _ _ H1 ⟨fun t b => Iff.rfl, fun t b k h => h, ex⟩⟩
theorem mk_table {Q : Sto → Prop} (H : CA n pt ad L S σ0 σ) (hL : L 10 0) (hn : ∀ j, 1100 ≤ j → j < 1105 → ¬ L j 0)
    (hQ : ∀ ad' L' S' σ', CA n pt ad' L' S' σ0 σ' → Gw ad L S ad' L' S' (fun t b => 1100 ≤ t ∧ t < 1105 ∧ b = 0) (fun t b k => t = 10 ∧ b = 0 ∧ k < 5) → Q σ') : wp_X10_init (ad 10 0) σ Q := by
  refine ⟨by decide, by decide, fun q1 hq1 σ1 e1 => ?_⟩
  subst e1
  obtain ⟨ad1, H1, x1, k1⟩ := arr_step (k := 0) (x := 1100) H hL (hn 1100 (by omega) (by omega)) hq1 (K := 14) (N := 8) rfl (by decide) rfl rfl rfl rfl
  have e1 : ad1 10 0 = ad 10 0 := x1 10 0 hL
  refine ⟨k1, by decide, by decide, fun q2 hq2 σ2 e2 => ?_⟩
  subst e2
  rw [← e1] at k1 H1 ⊢
  obtain ⟨ad2, H2, x2, k2⟩ := arr_step (k := 1) (x := 1101) H1 (Or.inl hL) (fun h => h.elim (hn 1101 (by omega) (by omega)) (fun h => by omega)) hq2 (K := 14) (N := 4) rfl (by decide) rfl rfl rfl rfl
  have e2 : ad2 10 0 = ad1 10 0 := x2 10 0 (Or.inl hL)
  refine ⟨k2, by decide, by decide, fun q3 hq3 σ3 e3 => ?_⟩
  subst e3
  obtain ⟨ad3, H3, x3, k3⟩ := arr_step (k := 2) (x := 1102) H2 (Or.inl (Or.inl hL)) (fun h => by
    rcases h with (h | h) | h
    · exact hn 1102 (by omega) (by omega) h
    · omega
    · omega) hq3 (K := 14) (N := 4) rfl (by decide) rfl rfl rfl rfl
  rw [e2] at H3 k3
  have e3 : ad3 10 0 = ad1 10 0 := (x3 10 0 (Or.inl (Or.inl hL))).trans e2
  refine ⟨k3, by decide, by decide, fun q4 hq4 σ4 e4 => ?_⟩
  subst e4
  obtain ⟨ad4, H4, x4, k4⟩ := arr_step (k := 3) (x := 1103) H3 (Or.inl (Or.inl (Or.inl hL))) (fun h => by
    rcases h with ((h | h) | h) | h
    · exact hn 1103 (by omega) (by omega) h
    · omega
    · omega
    · omega) hq4 (K := 16) (N := 100) rfl (by decide) rfl rfl rfl rfl
  rw [e3] at H4 k4
  have e4 : ad4 10 0 = ad1 10 0 := (x4 10 0 (Or.inl (Or.inl (Or.inl hL)))).trans e3
  refine ⟨k4, by decide, by decide, fun q5 hq5 σ5 e5 => ?_⟩
  subst e5
  obtain ⟨ad5, H5, x5, k5⟩ := arr_step (k := 4) (x := 1104) H4 (Or.inl (Or.inl (Or.inl (Or.inl hL)))) (fun h => by
    rcases h with (((h | h) | h) | h) | h
    · exact hn 1104 (by omega) (by omega) h
    · omega
    · omega
    · omega
    · omega) hq5 (K := 14) (N := 100) rfl (by decide) rfl rfl rfl rfl
  rw [e4] at H5 k5
  refine ⟨k5, by decide, hQ _ _ _ _ H5 ⟨fun t b => ?_, fun t b k h => ?_, fun t b h => ((((x5 t b (Or.inl (Or.inl (Or.inl (Or.inl h))))).trans (x4 t b (Or.inl (Or.inl (Or.inl h))))).trans (x3 t b (Or.inl (Or.inl h)))).trans (x2 t b (Or.inl h))).trans (x1 t b h)⟩⟩
  · by_cases hl : L t b
    · simp [hl]
    · simp only [hl, false_or]
      omega
  · rcases h with h | ⟨rfl, rfl, hk⟩
    · exact Or.inl (Or.inl (Or.inl (Or.inl (Or.inl h))))
    · have : k = 0 ∨ k = 1 ∨ k = 2 ∨ k = 3 ∨ k = 4 := by omega
      rcases this with rfl | rfl | rfl | rfl | rfl
      · exact Or.inl (Or.inl (Or.inl (Or.inl (Or.inr ⟨rfl, rfl, rfl⟩))))
      · exact Or.inl (Or.inl (Or.inl (Or.inr ⟨rfl, rfl, rfl⟩)))
      · exact Or.inl (Or.inl (Or.inr ⟨rfl, rfl, rfl⟩))
      · exact Or.inl (Or.inr ⟨rfl, rfl, rfl⟩)
      · exact Or.inr ⟨rfl, rfl, rfl⟩
theorem mk_reader {Q : Sto → Prop} (H : CA n pt ad L S σ0 σ) (hL : L 7 0) (hL2 : L 0 1) (hn : ¬ L 801 0)
    (hQ : ∀ ad' L' S' σ', CA n pt ad' L' S' σ0 σ' → Gw ad L S ad' L' S' (fun t b => t = 801 ∧ b = 0) (fun t b k => t = 7 ∧ b = 0 ∧ (k = 0 ∨ k = 1 ∨ k = 4)) → Q σ') : wp_X7_init (ad 7 0) (some (ad 0 1)) σ Q := by
  refine ⟨by decide, by decide, fun q hq σ5 e5 => ?_⟩
  subst e5
  obtain ⟨ad1, H1, x1, k1⟩ := arr_step (k := 1) (x := 801) H hL hn hq (K := 14) (N := 609) rfl (by decide) rfl rfl rfl rfl
  have e7 : ad1 7 0 = ad 7 0 := x1 7 0 hL
  have e0 : ad1 0 1 = ad 0 1 := x1 0 1 hL2
  have H2 := H1.wI (t := 7) (o := 0) (k := 4) (v := -1) (Or.inl hL) rfl rfl rfl
  have H3 := H2.wP (t := 7) (o := 0) (k := 0) (t2 := 0) (o2 := 1) (Or.inl hL) rfl (Or.inl hL2) rfl rfl
  rw [e7, e0] at H3
  refine ⟨k1, by decide, hQ _ _ _ _ H3 ⟨fun t b => Iff.rfl, fun t b k h => ?_, x1⟩⟩
  rcases h with h | ⟨rfl, rfl, hk⟩
  · exact Or.inl (Or.inl (Or.inl h))
  · rcases hk with rfl | rfl | rfl
    · exact Or.inr ⟨rfl, rfl, rfl⟩
    · exact Or.inl (Or.inl (Or.inr ⟨rfl, rfl, rfl⟩))
    · exact Or.inl (Or.inr ⟨rfl, rfl, rfl⟩)
theorem pend_loop {a0 : Nat} {Q : Sto → Prop} (hn7 : n ≤ 7) (hr : r < n) : ∀ d i kc nc ad L S σ, i + d = n → kc + 2 * d ≤ 18 → nc + 103 * d ≤ 753 → CA n pt ad L S σ0 σ → L 5 r → L 608 r → S 5 r 8 → ad 5 r = a0 → (∀ j, i ≤ j → j < n → ¬ L 2 (7 + 7 * r + j) ∧ ¬ L 300 (7 + 7 * r + j)) →
    (∀ ad' L' S' σ', CA n pt ad' L' S' σ0 σ' → Gw ad L S ad' L' S' (fun t b => (t = 2 ∨ t = 300) ∧ 7 + 7 * r + i ≤ b ∧ b < 7 + 7 * r + n) (fun t b k => (t = 608 ∧ b = r ∧ i ≤ k ∧ k < n) ∨ (t = 2 ∧ 7 + 7 * r + i ≤ b ∧ b < 7 + 7 * r + n ∧ k = 0)) → Q σ') → LF (f_X5_init_46 a0 Q) (nI i, kc, nc) σ := by
  intro d
  induction d with
  | zero =>
    intro i kc nc ad L S σ hi hkc hnc H l1 l2 s5 ea hn hQ R hR
    subst ea
    have hi : i = n := by omega
    subst hi
    have hN : sN σ (ad 608 r) = i := H.N l2
    have hQ := hQ ad L S σ H ⟨fun t b => ⟨fun h => Or.inl h, fun h => h.elim id (fun h => by omega)⟩, fun t b k h => h.elim id (fun h => by omega), fun t b h => rfl⟩
    refine hR _ _ ⟨H.K l1, ad 608 r, H.gP (t2 := 608) (o2 := r) s5 rfl, H.K l2, ⟨fun _ => ⟨⟨?_, ?_⟩, hQ⟩, fun q => absurd ?_ q⟩⟩
    · show kc ≤ 18
      omega
    · show nc ≤ 753
      omega
    · rw [hN]
      exact nI_le (a := i) (b := i) (by omega) (by omega)
  | succ d ih =>
    intro i kc nc ad L S σ hi hkc hnc H l1 l2 s5 ea hn hQ R hR
    subst ea
    have hN : sN σ (ad 608 r) = n := H.N l2
    refine hR _ _ ⟨H.K l1, ad 608 r, H.gP (t2 := 608) (o2 := r) s5 rfl, H.K l2, ⟨fun q => ?_, fun _ => ⟨?_, ?_, fun q8 hq σ10 e10 => ⟨⟨?_, ?_⟩, ?_⟩⟩⟩⟩
    · rw [hN] at q
      exact absurd q (nI_ge (a := i) (b := n) (by omega) (by omega))
    · show kc + 1 ≤ 18
      omega
    · show nc + 3 ≤ 753
      omega
    · show (kc + 1) + 1 ≤ 18
      omega
    · show (nc + 3) + 100 ≤ 753
      omega
    · subst e10
      obtain ⟨ad1, H1, ea, ex⟩ := H.nw (t := 2) (o := 7 + 7 * r + i) (K := 2) (N := 0) hq (hn i (by omega) (by omega)).1 rfl (by decide) rfl
      have g := mk_log (Q := fun (σ13 : Sto) => (sK σ13 (ad 608 r) = 18 ∧ (vp_in (nI i) (sN σ13 (ad 608 r)) ∧ (sK σ13 q8 = 2 ∧ (∀ x17 : Int32, x17 = nI i + (1 : Int32) → R (x17, ((kc + 1) + 1), ((nc + 3) + 100)) (stP σ13 (ad 608 r) (nI i).toNatClampNeg (some q8))))))) H1 (o := 7 + 7 * r + i) (Or.inr ⟨rfl, rfl⟩) (fun h => h.elim (hn i (by omega) (by omega)).2 (fun h => absurd h.1 (by decide))) (fun ad2 L2 S2 σ2 H2 G2 => by
        have e1 : ad2 5 r = ad 5 r := (G2.2.2 5 r (Or.inl l1)).trans (ex 5 r l1)
        have e2 : ad2 608 r = ad 608 r := (G2.2.2 608 r (Or.inl l2)).trans (ex 608 r l2)
        have e8 : ad2 2 (7 + 7 * r + i) = q8 := (G2.2.2 _ _ (Or.inr ⟨rfl, rfl⟩)).trans ea
        have l2' : L2 608 r := (G2.1 _ _).mpr (Or.inl (Or.inl l2))
        have l3' : L2 2 (7 + 7 * r + i) := (G2.1 _ _).mpr (Or.inl (Or.inr ⟨rfl, rfl⟩))
        have k2 := H2.K l2'
        have n2 : sN σ2 (ad2 608 r) = n := H2.N l2'
        have k3 := H2.K l3'
        have H3 := H2.wP (t := 608) (o := r) (k := i) (t2 := 2) (o2 := 7 + 7 * r + i) l2' (show (if i < n then some (2, 7 + 7 * r + i) else none) = some (2, 7 + 7 * r + i) from if_pos (by omega)) l3' rfl rfl
        rw [e2] at k2 n2
        rw [e8] at k3
        rw [e8, e2] at H3
        refine ⟨k2, ?_, k3, fun x17 e17 => ?_⟩
        · rw [n2]
          exact vp_in_nI (n := i) (N := n) (by omega) (by omega)
        · rw [nI_1] at e17
          subst e17
          rw [clp (by omega)]
          refine ih (i + 1) (kc + 1 + 1) (nc + 3 + 100) ad2 _ _ _ (by omega) (by omega) (by omega) H3 ((G2.1 5 r).mpr (Or.inl (Or.inl l1))) l2' (Or.inl (G2.2.1 _ _ _ (Or.inl s5))) e1 (fun j h1 h2 => ?_) (fun ad' L' S' σ' H' G' => hQ ad' L' S' σ' H' ⟨fun t b => ?_, fun t b k h => ?_, fun t b h => ((G'.2.2 t b ((G2.1 t b).mpr (Or.inl (Or.inl h)))).trans (G2.2.2 t b (Or.inl h))).trans (ex t b h)⟩) R hR
          · have := hn j (by omega) h2
            rw [G2.1, G2.1]
            refine ⟨fun h => ?_, fun h => ?_⟩
            · rcases h with (h | h) | h
              · exact this.1 h
              · omega
              · omega
            · rcases h with (h | h) | h
              · exact this.2 h
              · omega
              · omega
          · rw [G'.1 t b, G2.1 t b]
            by_cases hl : L t b
            · simp [hl]
            · simp only [hl, false_or]
              omega
          · refine G'.2.1 t b k ?_
            rcases h with h | h | h
            · exact Or.inl (Or.inl (G2.2.1 t b k (Or.inl h)))
            · by_cases e : k = i
              · exact Or.inl (Or.inr ⟨h.1, h.2.1, e⟩)
              · exact Or.inr (Or.inl ⟨h.1, h.2.1, by omega, h.2.2.2⟩)
            · by_cases e : b = 7 + 7 * r + i
              · exact Or.inl (Or.inl (G2.2.1 t b k (Or.inr ⟨h.1, e, h.2.2.2⟩)))
              · exact Or.inr (Or.inr ⟨h.1, by omega, h.2.2.1, h.2.2.2⟩))
      rw [ea] at g
      exact g
theorem mk_pend {Q : Sto → Prop} (hn3 : 3 ≤ n) (hn7 : n ≤ 7) (hr : r < n) (H : CA n pt ad L S σ0 σ) (hL : L 5 r) (hn : ∀ x, (x = 600 ∨ x = 601 ∨ x = 607 ∨ x = 608) → ¬ L x r) (hm : ∀ j, j < n → ¬ L 2 (7 + 7 * r + j) ∧ ¬ L 300 (7 + 7 * r + j))
    (hQ : ∀ ad' L' S' σ', CA n pt ad' L' S' σ0 σ' → Gw ad L S ad' L' S' (fun t b => ((t = 600 ∨ t = 601 ∨ t = 607 ∨ t = 608) ∧ b = r) ∨ ((t = 2 ∨ t = 300) ∧ 7 + 7 * r ≤ b ∧ b < 7 + 7 * r + n)) (fun t b k => (t = 5 ∧ b = r ∧ (k = 0 ∨ k = 1 ∨ k = 7 ∨ k = 8)) ∨ (t = 608 ∧ b = r ∧ k < n) ∨ (t = 2 ∧ 7 + 7 * r ≤ b ∧ b < 7 + 7 * r + n ∧ k = 0)) → Q σ') : wp_X5_init (ad 5 r) (nI n) σ Q := by
  have hc : (nI n).toNatClampNeg = n := nI_clamp (by omega)
  have hpos : ¬ nI n < 0 := fun q => absurd ((nI_lti (a := n) (b := 0) (by omega) (by omega)).mp q) (by omega)
  have hmax : (0 : Int32) < nI n := nI_lt (a := 0) (b := n) (by omega) (by omega)
  refine ⟨by decide, by decide, fun q1 hq1 σ1 e1 => ?_⟩
  subst e1
  obtain ⟨ad1, H1, x1, k1⟩ := arr_step (k := 0) (x := 600) H hL (hn 600 (by omega)) hq1 (K := 14) (N := 9) rfl (by decide) rfl rfl rfl rfl
  have e1 : ad1 5 r = ad 5 r := x1 5 r hL
  refine ⟨k1, by decide, by decide, fun q2 hq2 σ2 e2 => ?_⟩
  subst e2
  obtain ⟨ad2, H2, x2, k2⟩ := arr_step (k := 1) (x := 601) H1 (Or.inl hL) (fun h => h.elim (hn 601 (by omega)) (fun h => by omega)) hq2 (K := 22) (N := 9) rfl (by decide) rfl rfl rfl rfl
  rw [e1] at H2 k2
  have e2 : ad2 5 r = ad 5 r := (x2 5 r (Or.inl hL)).trans e1
  refine ⟨k2, by decide, ⟨fun _ => ?_, fun q => absurd hmax q⟩⟩
  dsimp only
  rw [hc]
  refine ⟨hpos, by omega, by decide, by omega, fun q3 hq3 σ3 e3 => ?_⟩
  subst e3
  obtain ⟨ad3, H3, x3, k3⟩ := arr_step (k := 7) (x := 607) H2 (Or.inl (Or.inl hL)) (fun h => by
    rcases h with (h | h) | h
    · exact hn 607 (by omega) h
    · omega
    · omega) hq3 (K := 15) (N := n) rfl (by decide) rfl rfl rfl rfl
  rw [e2] at H3 k3
  have e3 : ad3 5 r = ad 5 r := (x3 5 r (Or.inl (Or.inl hL))).trans e2
  refine ⟨k3, ⟨by decide, by omega⟩, ⟨fun _ => ?_, fun q => absurd hmax q⟩⟩
  dsimp only
  rw [hc]
  refine ⟨hpos, by omega, by decide, by omega, fun q4 hq4 σ4 e4 => ?_⟩
  subst e4
  obtain ⟨ad4, H4, x4, k4⟩ := arr_step (k := 8) (x := 608) H3 (Or.inl (Or.inl (Or.inl hL))) (fun h => by
    rcases h with ((h | h) | h) | h
    · exact hn 608 (by omega) h
    · omega
    · omega
    · omega) hq4 (K := 18) (N := n) rfl (by decide) rfl rfl rfl rfl
  rw [e3] at H4 k4
  have e4 : ad4 5 r = ad 5 r := (x4 5 r (Or.inl (Or.inl (Or.inl hL)))).trans e3
  refine ⟨k4, pend_loop hn7 hr n 0 _ _ ad4 _ _ _ (by omega) (by omega) (by omega) H4 (Or.inl (Or.inl (Or.inl (Or.inl hL)))) (Or.inr ⟨rfl, rfl⟩) (Or.inr ⟨rfl, rfl, rfl⟩) e4 (fun j h1 h2 => ?_) (fun ad' L' S' σ' H' G' => hQ ad' L' S' σ' H' ⟨fun t b => ?_, fun t b k h => ?_, fun t b h => ((((G'.2.2 t b (Or.inl (Or.inl (Or.inl (Or.inl h))))).trans (x4 t b (Or.inl (Or.inl (Or.inl h))))).trans (x3 t b (Or.inl (Or.inl h)))).trans (x2 t b (Or.inl h))).trans (x1 t b h)⟩)⟩
  · have := hm j h2
    refine ⟨fun h => ?_, fun h => ?_⟩
    · rcases h with (((h | h) | h) | h) | h
      · exact this.1 h
      · omega
      · omega
      · omega
      · omega
    · rcases h with (((h | h) | h) | h) | h
      · exact this.2 h
      · omega
      · omega
      · omega
      · omega
  · rw [G'.1 t b]
    by_cases hl : L t b
    · simp [hl]
    · simp only [hl, false_or]
      omega
  · refine G'.2.1 t b k ?_
    rcases h with h | ⟨rfl, rfl, hk⟩ | h | h
    · exact Or.inl (Or.inl (Or.inl (Or.inl (Or.inl h))))
    · rcases hk with rfl | rfl | rfl | rfl
      · exact Or.inl (Or.inl (Or.inl (Or.inl (Or.inr ⟨rfl, rfl, rfl⟩))))
      · exact Or.inl (Or.inl (Or.inl (Or.inr ⟨rfl, rfl, rfl⟩)))
      · exact Or.inl (Or.inl (Or.inr ⟨rfl, rfl, rfl⟩))
      · exact Or.inl (Or.inr ⟨rfl, rfl, rfl⟩)
    · exact Or.inr (Or.inl ⟨h.1, h.2.1, by omega, h.2.2⟩)
    · exact Or.inr (Or.inr ⟨h.1, by omega, h.2.2.1, h.2.2.2⟩)
theorem mk_rep {Q : Sto → Prop} (hn3 : 3 ≤ n) (hn7 : n ≤ 7) (hr : r < n) (H : CA n pt ad L S σ0 σ) (hL : L 8 r) (l4 : L 4 0) (l10 : L 10 0) (s4 : S 4 0 0) (hn : ∀ x, (x = 5 ∨ x = 2 ∨ x = 300 ∨ x = 600 ∨ x = 601 ∨ x = 607 ∨ x = 608) → ¬ L x r) (hm : ∀ j, j < n → ¬ L 2 (7 + 7 * r + j) ∧ ¬ L 300 (7 + 7 * r + j))
    (hQ : ∀ ad' L' S' σ', CA n pt ad' L' S' σ0 σ' → Gw ad L S ad' L' S' (fun t b => ((t = 5 ∨ t = 600 ∨ t = 601 ∨ t = 607 ∨ t = 608) ∧ b = r) ∨ ((t = 2 ∨ t = 300) ∧ (b = r ∨ (7 + 7 * r ≤ b ∧ b < 7 + 7 * r + n)))) (fun t b k => (t = 8 ∧ b = r ∧ (k = 0 ∨ k = 1 ∨ k = 2 ∨ k = 5 ∨ k = 6 ∨ k = 7 ∨ k = 10)) ∨ (t = 5 ∧ b = r ∧ (k = 0 ∨ k = 1 ∨ k = 7 ∨ k = 8)) ∨ (t = 608 ∧ b = r ∧ k < n) ∨ (t = 2 ∧ (b = r ∨ (7 + 7 * r ≤ b ∧ b < 7 + 7 * r + n)) ∧ k = 0)) → Q σ') : wp_X8_init (ad 8 r) (nI r) (some (ad 4 0)) (some (ad 10 0)) σ Q := by
  have H1 := H.wJ (t := 8) (o := r) (k := 5) (v := vw 0 1) hL rfl rfl rfl
  have H2 := H1.wJ (t := 8) (o := r) (k := 6) (v := vw 0 1) hL rfl rfl rfl
  have k1 := H.K hL
  have k2 := H1.K hL
  refine ⟨by decide, k1, by decide, k2, by decide, by decide, fun q11 hq11 σ13 e13 => ⟨by decide, ?_⟩⟩
  subst e13
  obtain ⟨ad3, H3, ea3, ex3⟩ := H2.nw (t := 2) (o := r) (K := 2) (N := 0) hq11 (hn 2 (by omega)) rfl (by decide) rfl
  have g := mk_log (Q := fun (σ16 : Sto) => (sK σ16 (ad 8 r) = 8 ∧ (((0 + 1) + 1) + 1 ≤ 21 ∧ ((0 + 3) + 100) + 9 ≤ 865 ∧ (∀ q20 : Nat, ¬ sK σ16 q20 < 23 → ∀ σ22 : Sto, σ22 = stN (stP (stP (stI (stP σ16 (ad 8 r) 7 (some q11)) (ad 8 r) 0 (nI r)) (ad 8 r) 1 (some (ad 4 0))) (ad 8 r) 2 (some (ad 10 0))) q20 5 0 → (∃ b24 : Nat, some (ad 4 0) = some b24 ∧ (sK σ22 b24 = 4 ∧ (∀ x27 : Int32, x27 = sI σ22 b24 0 → (((((0 + 1) + 1) + 1) + 18 ≤ 21 ∧ (((0 + 3) + 100) + 9) + 753 ≤ 865) ∧ (wp_X5_init q20 x27 σ22 (fun (σ30 : Sto) => (sK σ30 (ad 8 r) = 8 ∧ ((((((0 + 1) + 1) + 1) + 18) ≤ 21 ∧ ((((0 + 3) + 100) + 9) + 753) ≤ 865) ∧ Q (stP σ30 (ad 8 r) 10 (some q20)))))))))))))) H3 (o := r) (Or.inr ⟨rfl, rfl⟩) (fun h => h.elim (hn 300 (by omega)) (fun h => absurd h.1 (by decide))) (fun ad4 L4 S4 σ4 H4 G4 => by
    have l8 : L4 8 r := (G4.1 _ _).mpr (Or.inl (Or.inl hL))
    have l4' : L4 4 0 := (G4.1 _ _).mpr (Or.inl (Or.inl l4))
    have l10' : L4 10 0 := (G4.1 _ _).mpr (Or.inl (Or.inl l10))
    have l2' : L4 2 r := (G4.1 _ _).mpr (Or.inl (Or.inr ⟨rfl, rfl⟩))
    have e8 : ad4 8 r = ad 8 r := (G4.2.2 _ _ (Or.inl hL)).trans (ex3 _ _ hL)
    have e4 : ad4 4 0 = ad 4 0 := (G4.2.2 _ _ (Or.inl l4)).trans (ex3 _ _ l4)
    have e10 : ad4 10 0 = ad 10 0 := (G4.2.2 _ _ (Or.inl l10)).trans (ex3 _ _ l10)
    have e2 : ad4 2 r = q11 := (G4.2.2 _ _ (Or.inr ⟨rfl, rfl⟩)).trans ea3
    have k8 := H4.K l8
    rw [e8] at k8
    refine ⟨k8, by decide, by decide, fun q20 hq20 σ22 e22 => ?_⟩
    subst e22
    have H5 := H4.wP (t := 8) (o := r) (k := 7) (t2 := 2) (o2 := r) l8 rfl l2' rfl rfl
    have H6 := H5.wI (t := 8) (o := r) (k := 0) (v := nI r) l8 rfl rfl rfl
    have H7 := H6.wP (t := 8) (o := r) (k := 1) (t2 := 4) (o2 := 0) l8 rfl l4' rfl rfl
    have H8 := H7.wP (t := 8) (o := r) (k := 2) (t2 := 10) (o2 := 0) l8 rfl l10' rfl rfl
    rw [e2, e4, e10, e8] at H8
    obtain ⟨ad9, H9, ea9, ex9⟩ := H8.nw (t := 5) (o := r) (K := 5) (N := 0) hq20 (fun h => by
      rcases (G4.1 _ _).mp h with (h | h) | h
      · exact hn 5 (by omega) h
      · omega
      · omega) rfl (by decide) rfl
    have e94 : ad9 4 0 = ad 4 0 := (ex9 _ _ l4').trans e4
    have e98 : ad9 8 r = ad 8 r := (ex9 _ _ l8).trans e8
    have k94 := H9.K (t := 4) (o := 0) (Or.inl l4')
    have i94 : sI _ (ad9 4 0) 0 = nI n := H9.gI (t := 4) (o := 0) (k := 0) (Or.inl (Or.inl (Or.inl (Or.inl (G4.2.1 _ _ _ (Or.inl (Or.inl (Or.inl s4))))))))
    rw [e94] at k94 i94
    refine ⟨ad 4 0, rfl, k94, fun x27 e27 => ⟨by decide, ?_⟩⟩
    rw [i94] at e27
    subst e27
    have gp := mk_pend (Q := fun (σ30 : Sto) => (sK σ30 (ad 8 r) = 8 ∧ ((((((0 + 1) + 1) + 1) + 18) ≤ 21 ∧ ((((0 + 3) + 100) + 9) + 753) ≤ 865) ∧ Q (stP σ30 (ad 8 r) 10 (some q20))))) hn3 hn7 hr H9 (Or.inr ⟨rfl, rfl⟩) (fun x hx h => by
      rcases h with h | h
      · rcases (G4.1 _ _).mp h with (h | h) | h
        · exact hn x (by omega) h
        · omega
        · omega
      · omega) (fun j hj => by
      have := hm j hj
      refine ⟨fun h => ?_, fun h => ?_⟩
      · rcases h with h | h
        · rcases (G4.1 _ _).mp h with (h | h) | h
          · exact this.1 h
          · omega
          · omega
        · omega
      · rcases h with h | h
        · rcases (G4.1 _ _).mp h with (h | h) | h
          · exact this.2 h
          · omega
          · omega
        · omega) (fun ad' L' S' σ' H' G' => by
      have l8' : L' 8 r := (G'.1 _ _).mpr (Or.inl (Or.inl l8))
      have e8' : ad' 8 r = ad 8 r := (G'.2.2 _ _ (Or.inl l8)).trans e98
      have e5' : ad' 5 r = q20 := (G'.2.2 _ _ (Or.inr ⟨rfl, rfl⟩)).trans ea9
      have k8' := H'.K l8'
      have HF := H'.wP (t := 8) (o := r) (k := 10) (t2 := 5) (o2 := r) l8' rfl ((G'.1 _ _).mpr (Or.inl (Or.inr ⟨rfl, rfl⟩))) rfl rfl
      rw [e8'] at k8'
      rw [e5', e8'] at HF
      refine ⟨k8', by decide, hQ _ _ _ _ HF ⟨fun t b => ?_, fun t b k h => ?_, fun t b h => (((G'.2.2 t b (Or.inl ((G4.1 t b).mpr (Or.inl (Or.inl h))))).trans (ex9 t b ((G4.1 t b).mpr (Or.inl (Or.inl h))))).trans (G4.2.2 t b (Or.inl h))).trans (ex3 t b h)⟩⟩
      · rw [G'.1 t b]
        dsimp only
        rw [G4.1 t b]
        by_cases hl : L t b
        · simp [hl]
        · simp only [hl, false_or]
          omega
      · rcases h with h | ⟨rfl, rfl, hk⟩ | h | h | h
        · exact Or.inl (G'.2.1 t b k (Or.inl (Or.inl (Or.inl (Or.inl (Or.inl (G4.2.1 t b k (Or.inl (Or.inl (Or.inl h))))))))))
        · rcases hk with rfl | rfl | rfl | rfl | rfl | rfl | rfl
          · exact Or.inl (G'.2.1 _ _ _ (Or.inl (Or.inl (Or.inl (Or.inr ⟨rfl, rfl, rfl⟩)))))
          · exact Or.inl (G'.2.1 _ _ _ (Or.inl (Or.inl (Or.inr ⟨rfl, rfl, rfl⟩))))
          · exact Or.inl (G'.2.1 _ _ _ (Or.inl (Or.inr ⟨rfl, rfl, rfl⟩)))
          · exact Or.inl (G'.2.1 _ _ _ (Or.inl (Or.inl (Or.inl (Or.inl (Or.inl (G4.2.1 _ _ _ (Or.inl (Or.inl (Or.inr ⟨rfl, rfl, rfl⟩))))))))))
          · exact Or.inl (G'.2.1 _ _ _ (Or.inl (Or.inl (Or.inl (Or.inl (Or.inl (G4.2.1 _ _ _ (Or.inl (Or.inr ⟨rfl, rfl, rfl⟩)))))))))
          · exact Or.inl (G'.2.1 _ _ _ (Or.inl (Or.inl (Or.inl (Or.inl (Or.inr ⟨rfl, rfl, rfl⟩))))))
          · exact Or.inr ⟨rfl, rfl, rfl⟩
        · exact Or.inl (G'.2.1 t b k (Or.inr (Or.inl h)))
        · exact Or.inl (G'.2.1 t b k (Or.inr (Or.inr (Or.inl h))))
        · rcases h.2.1 with e | e
          · exact Or.inl (G'.2.1 t b k (Or.inl (Or.inl (Or.inl (Or.inl (Or.inl (G4.2.1 t b k (Or.inr ⟨h.1, e, h.2.2⟩))))))))
          · exact Or.inl (G'.2.1 t b k (Or.inr (Or.inr (Or.inr ⟨h.1, e.1, e.2, h.2.2⟩)))))
    rw [ea9] at gp
    exact gp)
  rw [ea3] at g
  exact g
end
