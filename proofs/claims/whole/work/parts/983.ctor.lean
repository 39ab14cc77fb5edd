/-! The class's constructors -/
def cK (t _o : Nat) : Nat := if t < 100 then t else akd (t - 100)
def cN (n t o : Nat) : Nat := if t < 100 then 0 else aln n (t - 100) o
def cI (n : Nat) (pt : Int32) (t o k : Nat) : Int32 := if t = 4 ∧ k = 0 then nI n else if t = 4 ∧ k = 1 then nI (n / 2) else if t = 8 ∧ k = 0 then nI o else if t = 7 ∧ k = 4 then -1 else if t = 11 ∧ k = 0 then pt else if t = 11 ∧ (k = 5 ∨ k = 6) then 1 else 0
def cJ (t _o k : Nat) : Int64 := if t = 8 ∧ (k = 5 ∨ k = 6) then vw 0 1 else 0
def cP (n t o k : Nat) : Option (Nat × Nat) := if t < 100 then (if akd (100 * t + k) ≠ 0 then some (100 + (100 * t + k), o) else lkO (100 * t + k) o) else if t = 502 then (if k < 256 then some (3, k) else none) else elO n (t - 100) o k
abbrev CA (n : Nat) (pt : Int32) (ad : Nat → Nat → Nat) (L : Nat → Nat → Prop) (S : Nat → Nat → Nat → Prop) (σ0 σ : Sto) : Prop := Ab cK (cN n) (cI n pt) cJ (cP n) ad L S σ0 σ
section
variable {n : Nat} {pt : Int32} {ad : Nat → Nat → Nat} {L L2 : Nat → Nat → Prop} {S S2 : Nat → Nat → Nat → Prop} {σ0 σ τ : Sto} {t o k : Nat}
theorem mk_log {Q : Sto → Prop} (H : CA n pt ad L S σ0 σ) (hL : L 2 o) (hn : ¬ L 300 o)
    (hQ : ∀ ad' L' S' σ', CA n pt ad' L' S' σ0 σ' → Gw ad L S ad' L' S' (fun t b => t = 300 ∧ b = o) (fun t b k => t = 2 ∧ b = o ∧ k = 0) → Q σ') : wp_X2_init (ad 2 o) σ Q := by
  refine ⟨by decide, by decide, fun q hq σ5 e5 => ?_⟩
  subst e5
  obtain ⟨ad1, H1, ea, ex⟩ := H.nw (t := 300) (o := o) (K := 22) (N := 100) hq hn rfl (by decide) rfl
  have e2 : ad1 2 o = ad 2 o := ex 2 o hL
  have H2 := H1.wP (t := 2) (o := o) (k := 0) (t2 := 300) (o2 := o) (Or.inl hL) rfl (Or.inr ⟨rfl, rfl⟩) rfl rfl
  have k2 := H1.K (t := 2) (o := o) (Or.inl hL)
  rw [ea, e2] at H2
  rw [e2] at k2
  exact ⟨k2, by decide, hQ _ _ _ _ H2 ⟨fun t b => Iff.rfl, fun t b k h => h, ex⟩⟩
theorem mk_msg {Q : Sto → Prop} (H : CA n pt ad L S σ0 σ) (hL : L 3 o) (hn : ¬ L 2 (56 + o)) (hn2 : ¬ L 300 (56 + o))
    (hQ : ∀ ad' L' S' σ', CA n pt ad' L' S' σ0 σ' → Gw ad L S ad' L' S' (fun t b => (t = 2 ∧ b = 56 + o) ∨ (t = 300 ∧ b = 56 + o)) (fun t b k => (t = 2 ∧ b = 56 + o ∧ k = 0) ∨ (t = 3 ∧ b = o ∧ k = 11)) → Q σ') : wp_X3_init (ad 3 o) σ Q := by
  refine ⟨by decide, by decide, fun q hq σ5 e5 => ⟨by decide, ?_⟩⟩
  subst e5
  obtain ⟨ad1, H1, ea, ex⟩ := H.nw (t := 2) (o := 56 + o) (K := 2) (N := 0) hq hn rfl (by decide) rfl
  have g := mk_log (Q := fun σ8 => sK σ8 (ad 3 o) = 3 ∧ ((((0 + 1) + 1) ≤ 2 ∧ ((0 + 3) + 100) ≤ 103) ∧ Q (stP σ8 (ad 3 o) 11 (some q)))) H1 (o := 56 + o) (Or.inr ⟨rfl, rfl⟩) (fun h => h.elim hn2 (fun h => absurd h.1 (by decide))) (fun ad2 L2 S2 σ2 H2 G2 => by
    have e3 : ad2 3 o = ad 3 o := (G2.2.2 3 o (Or.inl hL)).trans (ex 3 o hL)
    have eq : ad2 2 (56 + o) = q := (G2.2.2 _ _ (Or.inr ⟨rfl, rfl⟩)).trans ea
    have l3 : L2 3 o := (G2.1 3 o).mpr (Or.inl (Or.inl hL))
    have H3 := H2.wP (t := 3) (o := o) (k := 11) (t2 := 2) (o2 := 56 + o) l3 rfl ((G2.1 2 (56 + o)).mpr (Or.inl (Or.inr ⟨rfl, rfl⟩))) rfl rfl
    have k3 := H2.K l3
    rw [e3, eq] at H3
    rw [e3] at k3
    refine ⟨k3, by decide, hQ _ _ _ _ H3 ⟨fun t b => (G2.1 t b).trans or_assoc, fun t b k h => ?_, fun t b h => (G2.2.2 t b (Or.inl h)).trans (ex t b h)⟩⟩
    rcases h with h | h | h
    · exact Or.inl (G2.2.1 t b k (Or.inl h))
    · exact Or.inl (G2.2.1 t b k (Or.inr h))
    · exact Or.inr h)
  rw [ea] at g
  exact g
theorem clp {i : Nat} (hi : i < 2 ^ 31) : (nI i).toNatClampNeg = i := nI_clamp hi
/-- a client's places -/
theorem client_loop {a0 : Nat} {Q : Sto → Prop} (ho : o < 4) : ∀ d i kc nc ad L S σ, i + d = 64 → kc + d ≤ 66 → nc + 6 * d ≤ 454 → CA n pt ad L S σ0 σ → L 1 o → L 205 o → S 1 o 5 → ad 1 o = a0 → (∀ j, i ≤ j → j < 64 → ¬ L 6 (4 + 64 * o + j)) →
    (∀ ad' L' S' σ', CA n pt ad' L' S' σ0 σ' → Gw ad L S ad' L' S' (fun t b => t = 6 ∧ 4 + 64 * o + i ≤ b ∧ b < 68 + 64 * o) (fun t b k => t = 205 ∧ b = o ∧ i ≤ k ∧ k < 64) → Q σ') → LF (f_X1_init_26 a0 Q) (nI i, kc, nc) σ := by
  intro d
  induction d with
  | zero =>
    intro i kc nc ad L S σ hi hkc hnc H l1 l2 s5 ea hn hQ R hR
    subst ea
    have hi : i = 64 := by omega
    subst hi
    have hN := H.N l2
    have hQ := hQ ad L S σ H ⟨fun t b => ⟨fun h => Or.inl h, fun h => h.elim id (fun h => by omega)⟩, fun t b k h => h.elim id (fun h => by omega), fun t b h => rfl⟩
    refine hR _ _ ⟨H.K l1, ad 205 o, H.gP (t2 := 205) (o2 := o) s5 rfl, H.K l2, ⟨fun _ => ⟨⟨?_, ?_⟩, hQ⟩, fun q => absurd ?_ q⟩⟩
    · show kc ≤ 66
      omega
    · show nc ≤ 454
      omega
    · rw [hN]
      exact nI_le (a := 64) (b := 64) (by omega) (by omega)
  | succ d ih =>
    intro i kc nc ad L S σ hi hkc hnc H l1 l2 s5 ea hn hQ R hR
    subst ea
    have hN := H.N l2
    refine hR _ _ ⟨H.K l1, ad 205 o, H.gP (t2 := 205) (o2 := o) s5 rfl, H.K l2, ⟨fun q => ?_, fun _ => ⟨?_, ?_, fun q8 hq σ10 e10 => ?_⟩⟩⟩
    · rw [hN] at q
      exact absurd q (nI_ge (a := i) (b := 64) (by omega) (by omega))
    · show kc + 1 ≤ 66
      omega
    · show nc + 6 ≤ 454
      omega
    · subst e10
      obtain ⟨ad1, H1, ea, ex⟩ := H.nw (t := 6) (o := 4 + 64 * o + i) (K := 6) (N := 0) hq (hn i (by omega) (by omega)) rfl (by decide) rfl
      have e1 : ad1 1 o = ad 1 o := ex 1 o l1
      have e2 : ad1 205 o = ad 205 o := ex 205 o l2
      have k2 := H1.K (t := 205) (o := o) (Or.inl l2)
      have n2 := H1.N (t := 205) (o := o) (Or.inl l2)
      have k6 := H1.K (t := 6) (o := 4 + 64 * o + i) (Or.inr ⟨rfl, rfl⟩)
      have H2 := H1.wP (t := 205) (o := o) (k := i) (t2 := 6) (o2 := 4 + 64 * o + i) (Or.inl l2) (show (if i < 64 then some (6, 4 + 64 * o + i) else none) = some (6, 4 + 64 * o + i) from if_pos (by omega)) (Or.inr ⟨rfl, rfl⟩) rfl rfl
      rw [e2] at k2 n2
      rw [ea] at k6
      rw [ea, e2] at H2
      refine ⟨⟨?_, ?_⟩, k2, ?_, k6, fun x17 e17 => ?_⟩
      · show kc + 1 ≤ 66
        omega
      · show nc + 6 ≤ 454
        omega
      · rw [n2]
        exact vp_in_nI (n := i) (N := 64) (by omega) (by omega)
      · have e17 : x17 = nI (i + 1) := e17.trans (nI_1 i)
        subst e17
        show R (nI (i + 1), kc + 1, nc + 6) (stP (stN σ q8 6 0) (ad 205 o) (nI i).toNatClampNeg (some q8))
        rw [clp (by omega)]
        refine ih (i + 1) (kc + 1) (nc + 6) ad1 _ _ _ (by omega) (by omega) (by omega) H2 (Or.inl l1) (Or.inl l2) (Or.inl s5) e1 (fun j h1 h2 h => h.elim (hn j (by omega) h2) (fun h => by omega)) (fun ad' L' S' σ' H' G' => hQ ad' L' S' σ' H' ⟨fun t b => ?_, fun t b k h => ?_, fun t b h => (G'.2.2 t b (Or.inl h)).trans (ex t b h)⟩) R hR
        · rw [G'.1 t b]
          by_cases hl : L t b
          · simp [hl]
          · simp only [hl, false_or]
            omega
        · refine G'.2.1 t b k ?_
          rcases h with h | h
          · exact Or.inl (Or.inl h)
          · by_cases e : k = i
            · exact Or.inl (Or.inr ⟨h.1, h.2.1, e⟩)
            · exact Or.inr ⟨h.1, h.2.1, by omega, h.2.2.2⟩
theorem mk_client {Q : Sto → Prop} (ho : o < 4) (H : CA n pt ad L S σ0 σ) (hL : L 1 o) (hn : ¬ L 6 o) (hn2 : ¬ L 205 o) (hn3 : ∀ j, j < 64 → ¬ L 6 (4 + 64 * o + j))
    (hQ : ∀ ad' L' S' σ', CA n pt ad' L' S' σ0 σ' → Gw ad L S ad' L' S' (fun t b => (t = 6 ∧ (b = o ∨ (4 + 64 * o ≤ b ∧ b < 68 + 64 * o))) ∨ (t = 205 ∧ b = o)) (fun t b k => (t = 1 ∧ b = o ∧ (k = 4 ∨ k = 5)) ∨ (t = 205 ∧ b = o ∧ k < 64)) → Q σ') : wp_X1_init (ad 1 o) σ Q := by
  refine ⟨by decide, by decide, fun q hq σ5 e5 => ⟨by decide, ?_⟩⟩
  subst e5
  obtain ⟨ad1, H1, ea, ex⟩ := H.nw (t := 6) (o := o) (K := 6) (N := 0) hq hn rfl (by decide) rfl
  have e1 : ad1 1 o = ad 1 o := ex 1 o hL
  have k1 := H1.K (t := 1) (o := o) (Or.inl hL)
  have H2 := H1.wP (t := 1) (o := o) (k := 4) (t2 := 6) (o2 := o) (Or.inl hL) rfl (Or.inr ⟨rfl, rfl⟩) rfl rfl
  rw [e1] at k1
  rw [ea, e1] at H2
  refine ⟨k1, by decide, by decide, fun q12 hq12 σ14 e14 => ?_⟩
  subst e14
  obtain ⟨ad3, H3, ea3, ex3⟩ := H2.nw (t := 205) (o := o) (K := 20) (N := 64) hq12 (fun h => h.elim hn2 (fun h => absurd h.1 (by decide))) rfl (by decide) rfl
  have e3 : ad3 1 o = ad 1 o := (ex3 1 o (Or.inl hL)).trans e1
  have k3 := H3.K (t := 1) (o := o) (Or.inl (Or.inl hL))
  have H4 := H3.wP (t := 1) (o := o) (k := 5) (t2 := 205) (o2 := o) (Or.inl (Or.inl hL)) rfl (Or.inr ⟨rfl, rfl⟩) rfl rfl
  rw [e3] at k3
  rw [ea3, e3] at H4
  refine ⟨k3, client_loop ho 64 0 _ _ ad3 _ _ _ (by omega) (by omega) (by omega) H4 (Or.inl (Or.inl hL)) (Or.inr ⟨rfl, rfl⟩) (Or.inr ⟨rfl, rfl, rfl⟩) e3 (fun j h1 h2 h => ?_) (fun ad' L' S' σ' H' G' => hQ ad' L' S' σ' H' ⟨fun t b => ?_, fun t b k h => ?_, fun t b h => ((G'.2.2 t b (Or.inl (Or.inl h))).trans (ex3 t b (Or.inl h))).trans (ex t b h)⟩)⟩
  · rcases h with (h | h) | h
    · exact hn3 j h2 h
    · omega
    · omega
  · rw [G'.1 t b]
    by_cases hl : L t b
    · simp [hl]
    · simp only [hl, false_or]
      omega
  · refine G'.2.1 t b k ?_
    rcases h with h | h | h
    · exact Or.inl (Or.inl (Or.inl h))
    · rcases h.2.2 with e | e
      · exact Or.inl (Or.inl (Or.inr ⟨h.1, h.2.1, e⟩))
      · exact Or.inl (Or.inr ⟨h.1, h.2.1, e⟩)
    · exact Or.inr ⟨h.1, h.2.1, by omega, h.2.2⟩
/-- the ring's messages -/
theorem net_loop {a0 : Nat} {Q : Sto → Prop} : ∀ d i kc nc ad L S σ, i + d = 256 → kc + 3 * d ≤ 772 → nc + 115 * d ≤ 29811 → CA n pt ad L S σ0 σ → L 4 0 → L 502 0 → S 4 0 2 → ad 4 0 = a0 → (∀ j, i ≤ j → j < 256 → ¬ L 3 j ∧ ¬ L 2 (56 + j) ∧ ¬ L 300 (56 + j)) →
    (∀ ad' L' S' σ', CA n pt ad' L' S' σ0 σ' → Gw ad L S ad' L' S' (fun t b => (t = 3 ∧ i ≤ b ∧ b < 256) ∨ ((t = 2 ∨ t = 300) ∧ 56 + i ≤ b ∧ b < 312)) (fun t b k => (t = 502 ∧ b = 0 ∧ i ≤ k ∧ k < 256) ∨ (t = 2 ∧ 56 + i ≤ b ∧ b < 312 ∧ k = 0) ∨ (t = 3 ∧ i ≤ b ∧ b < 256 ∧ k = 11)) → Q σ') → LF (f_X4_init_39 a0 Q) (nI i, kc, nc) σ := by
  intro d
  induction d with
  | zero =>
    intro i kc nc ad L S σ hi hkc hnc H l1 l2 s5 ea hn hQ R hR
    subst ea
    have hi : i = 256 := by omega
    subst hi
    have hN := H.N l2
    have hQ := hQ ad L S σ H ⟨fun t b => ⟨fun h => Or.inl h, fun h => h.elim id (fun h => by omega)⟩, fun t b k h => h.elim id (fun h => by omega), fun t b h => rfl⟩
    refine hR _ _ ⟨H.K l1, ad 502 0, H.gP (t2 := 502) (o2 := 0) s5 rfl, H.K l2, ⟨fun _ => ⟨⟨?_, ?_⟩, hQ⟩, fun q => absurd ?_ q⟩⟩
    · show kc ≤ 772
      omega
    · show nc ≤ 29811
      omega
    · rw [hN]
      exact nI_le (a := 256) (b := 256) (by omega) (by omega)
  | succ d ih =>
    intro i kc nc ad L S σ hi hkc hnc H l1 l2 s5 ea hn hQ R hR
    subst ea
    have hN := H.N l2
    refine hR _ _ ⟨H.K l1, ad 502 0, H.gP (t2 := 502) (o2 := 0) s5 rfl, H.K l2, ⟨fun q => ?_, fun _ => ⟨?_, ?_, fun q8 hq σ10 e10 => ⟨⟨?_, ?_⟩, ?_⟩⟩⟩⟩
    · rw [hN] at q
      exact absurd q (nI_ge (a := i) (b := 256) (by omega) (by omega))
    · show kc + 1 ≤ 772
      omega
    · show nc + 12 ≤ 29811
      omega
    · show (kc + 1) + 2 ≤ 772
      omega
    · show (nc + 12) + 103 ≤ 29811
      omega
    · subst e10
      obtain ⟨ad1, H1, ea, ex⟩ := H.nw (t := 3) (o := i) (K := 3) (N := 0) hq (hn i (by omega) (by omega)).1 rfl (by decide) rfl
      have g := mk_msg (Q := fun (σ13 : Sto) => (sK σ13 (ad 502 0) = 19 ∧ (vp_in (nI i) (sN σ13 (ad 502 0)) ∧ (sK σ13 q8 = 3 ∧ (∀ x17 : Int32, x17 = nI i + (1 : Int32) → R (x17, ((kc + 1) + 2), ((nc + 12) + 103)) (stP σ13 (ad 502 0) (nI i).toNatClampNeg (some q8))))))) H1 (o := i) (Or.inr ⟨rfl, rfl⟩) (fun h => h.elim (hn i (by omega) (by omega)).2.1 (fun h => absurd h.1 (by decide))) (fun h => h.elim (hn i (by omega) (by omega)).2.2 (fun h => absurd h.1 (by decide))) (fun ad2 L2 S2 σ2 H2 G2 => by
        have e1 : ad2 4 0 = ad 4 0 := (G2.2.2 4 0 (Or.inl l1)).trans (ex 4 0 l1)
        have e2 : ad2 502 0 = ad 502 0 := (G2.2.2 502 0 (Or.inl l2)).trans (ex 502 0 l2)
        have e8 : ad2 3 i = q8 := (G2.2.2 3 i (Or.inr ⟨rfl, rfl⟩)).trans ea
        have l2' : L2 502 0 := (G2.1 502 0).mpr (Or.inl (Or.inl l2))
        have l3' : L2 3 i := (G2.1 3 i).mpr (Or.inl (Or.inr ⟨rfl, rfl⟩))
        have k2 := H2.K l2'
        have n2 := H2.N l2'
        have k3 := H2.K l3'
        have H3 := H2.wP (t := 502) (o := 0) (k := i) (t2 := 3) (o2 := i) l2' (show (if i < 256 then some (3, i) else none) = some (3, i) from if_pos (by omega)) l3' rfl rfl
        rw [e2] at k2 n2
        rw [e8] at k3
        rw [e8, e2] at H3
        refine ⟨k2, ?_, k3, fun x17 e17 => ?_⟩
        · rw [n2]
          exact vp_in_nI (n := i) (N := 256) (by omega) (by omega)
        · rw [nI_1] at e17
          subst e17
          rw [clp (by omega)]
          refine ih (i + 1) (kc + 1 + 2) (nc + 12 + 103) ad2 _ _ _ (by omega) (by omega) (by omega) H3 ((G2.1 4 0).mpr (Or.inl (Or.inl l1))) l2' (Or.inl (G2.2.1 _ _ _ (Or.inl s5))) e1 (fun j h1 h2 => ?_) (fun ad' L' S' σ' H' G' => hQ ad' L' S' σ' H' ⟨fun t b => ?_, fun t b k h => ?_, fun t b h => ((G'.2.2 t b ((G2.1 t b).mpr (Or.inl (Or.inl h)))).trans (G2.2.2 t b (Or.inl h))).trans (ex t b h)⟩) R hR
          · have := hn j (by omega) h2
            rw [G2.1, G2.1, G2.1]
            refine ⟨fun h => ?_, fun h => ?_, fun h => ?_⟩
            · rcases h with (h | h) | h
              · exact this.1 h
              · omega
              · omega
            · rcases h with (h | h) | h
              · exact this.2.1 h
              · omega
              · omega
            · rcases h with (h | h) | h
              · exact this.2.2 h
              · omega
              · omega
          · rw [G'.1 t b, G2.1 t b]
            by_cases hl : L t b
            · simp [hl]
            · simp only [hl, false_or]
              omega
          · refine G'.2.1 t b k ?_
            rcases h with h | h | h | h
            · exact Or.inl (Or.inl (G2.2.1 t b k (Or.inl h)))
            · by_cases e : k = i
              · exact Or.inl (Or.inr ⟨h.1, h.2.1, e⟩)
              · exact Or.inr (Or.inl ⟨h.1, h.2.1, by omega, h.2.2.2⟩)
            · by_cases e : b = 56 + i
              · exact Or.inl (Or.inl (G2.2.1 t b k (Or.inr (Or.inl ⟨h.1, e, h.2.2.2⟩))))
              · exact Or.inr (Or.inr (Or.inl ⟨h.1, by omega, h.2.2.1, h.2.2.2⟩))
            · by_cases e : b = i
              · exact Or.inl (Or.inl (G2.2.1 t b k (Or.inr (Or.inr ⟨h.1, e, h.2.2.2⟩))))
              · exact Or.inr (Or.inr (Or.inr ⟨h.1, by omega, h.2.2.1, h.2.2.2⟩)))
      rw [ea] at g
      exact g
theorem mk_net {Q : Sto → Prop} (hn0 : n < 1073741824) (H : CA n pt ad L S σ0 σ) (hL : L 4 0) (hn : ¬ L 502 0) (hm : ∀ j, j < 257 → ¬ L 3 j ∧ ¬ L 2 (56 + j) ∧ ¬ L 300 (56 + j))
    (hQ : ∀ ad' L' S' σ', CA n pt ad' L' S' σ0 σ' → Gw ad L S ad' L' S' (fun t b => (t = 502 ∧ b = 0) ∨ (t = 3 ∧ b < 257) ∨ ((t = 2 ∨ t = 300) ∧ 56 ≤ b ∧ b < 313)) (fun t b k => (t = 4 ∧ b = 0 ∧ k < 4) ∨ (t = 502 ∧ b = 0 ∧ k < 256) ∨ (t = 2 ∧ 56 ≤ b ∧ b < 313 ∧ k = 0) ∨ (t = 3 ∧ b < 257 ∧ k = 11)) → Q σ') : wp_X4_init (ad 4 0) (nI n) σ Q := by
  refine ⟨by decide, by decide, fun q hq σ5 e5 => ?_⟩
  subst e5
  obtain ⟨ad1, H1, ea, ex⟩ := H.nw (t := 502) (o := 0) (K := 19) (N := 256) hq hn rfl (by decide) rfl
  have e1 : ad1 4 0 = ad 4 0 := ex 4 0 hL
  have k1 := H1.K (t := 4) (o := 0) (Or.inl hL)
  have H2 := H1.wP (t := 4) (o := 0) (k := 2) (t2 := 502) (o2 := 0) (Or.inl hL) rfl (Or.inr ⟨rfl, rfl⟩) rfl rfl
  rw [e1] at k1
  rw [ea, e1] at H2
  refine ⟨k1, by decide, by decide, fun q10 hq10 σ12 e12 => ⟨by decide, ?_⟩⟩
  subst e12
  obtain ⟨ad3, H3, ea3, ex3⟩ := H2.nw (t := 3) (o := 256) (K := 3) (N := 0) hq10 (fun h => h.elim (hm 256 (by omega)).1 (fun h => absurd h.1 (by decide))) rfl (by decide) rfl
  have g := mk_msg (Q := fun (σ15 : Sto) => (sK σ15 (ad 4 0) = 4 ∧ (∀ x18 : Int32, x18 = nI n / (2 : Int32) → LF (f_X4_init_39 (ad 4 0) Q) ((0 : Int32), (((0 + 1) + 1) + 2), (((0 + 256) + 12) + 103)) (stI (stI (stP σ15 (ad 4 0) 3 (some q10)) (ad 4 0) 0 (nI n)) (ad 4 0) 1 x18)))) H3 (o := 256) (Or.inr ⟨rfl, rfl⟩) (fun h => by
      rcases h with (h | h) | h
      · exact (hm 256 (by omega)).2.1 h
      · omega
      · omega) (fun h => by
      rcases h with (h | h) | h
      · exact (hm 256 (by omega)).2.2 h
      · omega
      · omega) (fun ad4 L4 S4 σ4 H4 G4 => by
    have e4 : ad4 4 0 = ad 4 0 := ((G4.2.2 4 0 (Or.inl (Or.inl hL))).trans (ex3 4 0 (Or.inl hL))).trans e1
    have e10 : ad4 3 256 = q10 := (G4.2.2 3 256 (Or.inr ⟨rfl, rfl⟩)).trans ea3
    have l4 : L4 4 0 := (G4.1 4 0).mpr (Or.inl (Or.inl (Or.inl hL)))
    have l5 : L4 502 0 := (G4.1 502 0).mpr (Or.inl (Or.inl (Or.inr ⟨rfl, rfl⟩)))
    have l3 : L4 3 256 := (G4.1 3 256).mpr (Or.inl (Or.inr ⟨rfl, rfl⟩))
    have k4 := H4.K l4
    have hdiv : nI n / (2 : Int32) = nI (n / 2) := by
      have h2 : nI n / nI 2 = nI (n / 2) := by
        apply Int32.toInt_inj.mp
        rw [Int32.toInt_div_of_ne_left _ _ (by
          intro h
          have := congrArg Int32.toInt h
          rw [nI_toInt (by omega)] at this
          have h2 : Int32.minValue.toInt = -2147483648 := by decide
          omega), nI_toInt (by omega), nI_toInt (by omega), nI_toInt (by omega)]
        rfl
      exact h2
    have H5 := H4.wP (t := 4) (o := 0) (k := 3) (t2 := 3) (o2 := 256) l4 rfl l3 rfl rfl
    have H6 := H5.wI (t := 4) (o := 0) (k := 0) (v := nI n) l4 rfl rfl rfl
    have H7 := H6.wI (t := 4) (o := 0) (k := 1) (v := nI (n / 2)) l4 rfl rfl rfl
    rw [e10, e4] at H7
    rw [e4] at k4
    refine ⟨k4, fun x18 e18 => ?_⟩
    rw [hdiv] at e18
    subst e18
    refine net_loop 256 0 _ _ ad4 _ _ _ (by omega) (by omega) (by omega) H7 l4 l5 (Or.inl (Or.inl (Or.inl (G4.2.1 _ _ _ (Or.inl (Or.inr ⟨rfl, rfl, rfl⟩)))))) e4 (fun j h1 h2 => ?_) (fun ad' L' S' σ' H' G' => hQ ad' L' S' σ' H' ⟨fun t b => ?_, fun t b k h => ?_, fun t b h => (((G'.2.2 t b ((G4.1 t b).mpr (Or.inl (Or.inl (Or.inl h))))).trans (G4.2.2 t b (Or.inl (Or.inl h)))).trans (ex3 t b (Or.inl h))).trans (ex t b h)⟩)
    · have := hm j (by omega)
      rw [G4.1, G4.1, G4.1]
      refine ⟨fun h => ?_, fun h => ?_, fun h => ?_⟩
      · rcases h with ((h | h) | h) | h
        · exact this.1 h
        · omega
        · omega
        · omega
      · rcases h with ((h | h) | h) | h
        · exact this.2.1 h
        · omega
        · omega
        · omega
      · rcases h with ((h | h) | h) | h
        · exact this.2.2 h
        · omega
        · omega
        · omega
    · rw [G'.1 t b, G4.1 t b]
      by_cases hl : L t b
      · simp [hl]
      · simp only [hl, false_or]
        omega
    · refine G'.2.1 t b k ?_
      rcases h with h | h | h | h | h
      · exact Or.inl (Or.inl (Or.inl (Or.inl (G4.2.1 t b k (Or.inl (Or.inl h))))))
      · obtain ⟨rfl, rfl, hk⟩ := h
        have : k = 0 ∨ k = 1 ∨ k = 2 ∨ k = 3 := by omega
        rcases this with rfl | rfl | rfl | rfl
        · exact Or.inl (Or.inl (Or.inr ⟨rfl, rfl, rfl⟩))
        · exact Or.inl (Or.inr ⟨rfl, rfl, rfl⟩)
        · exact Or.inl (Or.inl (Or.inl (Or.inl (G4.2.1 _ _ _ (Or.inl (Or.inr ⟨rfl, rfl, rfl⟩))))))
        · exact Or.inl (Or.inl (Or.inl (Or.inr ⟨rfl, rfl, rfl⟩)))
      · exact Or.inr (Or.inl ⟨h.1, h.2.1, by omega, h.2.2⟩)
      · by_cases e : b = 56 + 256
        · exact Or.inl (Or.inl (Or.inl (Or.inl (G4.2.1 t b k (Or.inr (Or.inl ⟨h.1, e, h.2.2.2⟩))))))
        · exact Or.inr (Or.inr (Or.inl ⟨h.1, by omega, by omega, h.2.2.2⟩))
      · by_cases e : b = 256
        · exact Or.inl (Or.inl (Or.inl (Or.inl (G4.2.1 t b k (Or.inr (Or.inr ⟨h.1, e, h.2.2⟩))))))
        · exact Or.inr (Or.inr (Or.inr ⟨h.1, by omega, by omega, h.2.2⟩)))
  rw [ea3] at g
  exact g
end
