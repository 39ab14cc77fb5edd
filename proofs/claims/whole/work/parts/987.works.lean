/-! The class's constructors: the works itself -/
section
variable {n : Nat} {pt : Int32} {ad : Nat → Nat → Nat} {L L2 : Nat → Nat → Prop} {S S2 : Nat → Nat → Nat → Prop} {σ0 σ τ : Sto} {t o k r : Nat}
theorem mk_netE {a0 : Nat} {Q : Sto → Prop} (ea : ad 4 0 = a0) (hn0 : n < 1073741824) (H : CA n pt ad L S σ0 σ) (hL : L 4 0) (hn : ¬ L 502 0) (hm : ∀ j, j < 257 → ¬ L 3 j ∧ ¬ L 2 (56 + j) ∧ ¬ L 300 (56 + j))
    (hQ : ∀ ad' L' S' σ', CA n pt ad' L' S' σ0 σ' → Gw ad L S ad' L' S' (fun t b => (t = 502 ∧ b = 0) ∨ (t = 3 ∧ b < 257) ∨ ((t = 2 ∨ t = 300) ∧ 56 ≤ b ∧ b < 313)) (fun t b k => (t = 4 ∧ b = 0 ∧ k < 4) ∨ (t = 502 ∧ b = 0 ∧ k < 256) ∨ (t = 2 ∧ 56 ≤ b ∧ b < 313 ∧ k = 0) ∨ (t = 3 ∧ b < 257 ∧ k = 11)) → Q σ') : wp_X4_init a0 (nI n) σ Q := by
  subst ea
  exact mk_net hn0 H hL hn hm hQ
theorem mk_tableE {a0 : Nat} {Q : Sto → Prop} (ea : ad 10 0 = a0) (H : CA n pt ad L S σ0 σ) (hL : L 10 0) (hn : ∀ j, 1100 ≤ j → j < 1105 → ¬ L j 0)
    (hQ : ∀ ad' L' S' σ', CA n pt ad' L' S' σ0 σ' → Gw ad L S ad' L' S' (fun t b => 1100 ≤ t ∧ t < 1105 ∧ b = 0) (fun t b k => t = 10 ∧ b = 0 ∧ k < 5) → Q σ') : wp_X10_init a0 σ Q := by
  subst ea
  exact mk_table H hL hn hQ
theorem mk_repE {a0 : Nat} {Q : Sto → Prop} (ea : ad 8 r = a0) (hn3 : 3 ≤ n) (hn7 : n ≤ 7) (hr : r < n) (H : CA n pt ad L S σ0 σ) (hL : L 8 r) (l4 : L 4 0) (l10 : L 10 0) (s4 : S 4 0 0) (hn : ∀ x, (x = 5 ∨ x = 2 ∨ x = 300 ∨ x = 600 ∨ x = 601 ∨ x = 607 ∨ x = 608) → ¬ L x r) (hm : ∀ j, j < n → ¬ L 2 (7 + 7 * r + j) ∧ ¬ L 300 (7 + 7 * r + j))
    (hQ : ∀ ad' L' S' σ', CA n pt ad' L' S' σ0 σ' → Gw ad L S ad' L' S' (fun t b => ((t = 5 ∨ t = 600 ∨ t = 601 ∨ t = 607 ∨ t = 608) ∧ b = r) ∨ ((t = 2 ∨ t = 300) ∧ (b = r ∨ (7 + 7 * r ≤ b ∧ b < 7 + 7 * r + n)))) (fun t b k => (t = 8 ∧ b = r ∧ (k = 0 ∨ k = 1 ∨ k = 2 ∨ k = 5 ∨ k = 6 ∨ k = 7 ∨ k = 10)) ∨ (t = 5 ∧ b = r ∧ (k = 0 ∨ k = 1 ∨ k = 7 ∨ k = 8)) ∨ (t = 608 ∧ b = r ∧ k < n) ∨ (t = 2 ∧ (b = r ∨ (7 + 7 * r ≤ b ∧ b < 7 + 7 * r + n)) ∧ k = 0)) → Q σ') : wp_X8_init a0 (nI r) (some (ad 4 0)) (some (ad 10 0)) σ Q := by
  subst ea
  exact mk_rep hn3 hn7 hr H hL l4 l10 s4 hn hm hQ
/-- the names of a replica's cells, from number i on -/
def rpN (n i t b : Nat) : Prop := ((t = 8 ∨ t = 5 ∨ t = 600 ∨ t = 601 ∨ t = 607 ∨ t = 608) ∧ i ≤ b ∧ b < n) ∨ ((t = 2 ∨ t = 300) ∧ ((i ≤ b ∧ b < n) ∨ (7 + 7 * i ≤ b ∧ b < 7 + 7 * n ∧ (b - 7) % 7 < n)))
def rpS (n i t b k : Nat) : Prop := (t = 8 ∧ (i ≤ b ∧ b < n) ∧ (k = 0 ∨ k = 1 ∨ k = 2 ∨ k = 5 ∨ k = 6 ∨ k = 7 ∨ k = 10)) ∨ (t = 5 ∧ (i ≤ b ∧ b < n) ∧ (k = 0 ∨ k = 1 ∨ k = 7 ∨ k = 8)) ∨ (t = 608 ∧ (i ≤ b ∧ b < n) ∧ k < n) ∨ (t = 2 ∧ ((i ≤ b ∧ b < n) ∨ (7 + 7 * i ≤ b ∧ b < 7 + 7 * n ∧ (b - 7) % 7 < n)) ∧ k = 0) ∨ (t = 1203 ∧ b = 0 ∧ i ≤ k ∧ k < n)
set_option maxRecDepth 100000 in
theorem rep_loop {a0 : Nat} {Q : Sto → Prop} (hn3 : 3 ≤ n) (hn7 : n ≤ 7) : ∀ d i kc nc ad L S σ, i + d = n → kc + 22 * d ≤ 1410 → nc + 881 * d ≤ 45206 → CA n pt ad L S σ0 σ → L 11 0 → L 1203 0 → L 4 0 → L 10 0 → S 11 0 3 → S 11 0 1 → S 11 0 2 → S 4 0 0 → ad 11 0 = a0 → (∀ t b, rpN n i t b → ¬ L t b) →
    (∀ ad' L' S' σ' kc' nc', CA n pt ad' L' S' σ0 σ' → Gw ad L S ad' L' S' (rpN n i) (rpS n i) → kc' = kc + 22 * d → nc' = nc + 881 * d → (kc' + 1 ≤ 1410 ∧ nc' + 4 ≤ 45206 ∧ (∀ q8 : Nat, ¬ sK σ' q8 < 23 → ∀ σ10 : Sto, σ10 = stN σ' q8 17 4 → (sK σ10 a0 = 11 ∧ LF (f_X11_init_110 a0 Q) ((0 : Int32), (kc' + 1), (nc' + 4)) (stP σ10 a0 4 (some q8)))))) → LF (f_X11_init_63 a0 Q) (nI i, kc, nc) σ := by
  intro d
  induction d with
  | zero =>
    intro i kc nc ad L S σ hi hkc hnc H l1 l2 l4 l10 s3 s1 s2 s4 ea hn hQ R hR
    subst ea
    have hi : i = n := by omega
    subst hi
    have hN : sN σ (ad 1203 0) = i := H.N l2
    have hQ := hQ ad L S σ kc nc H ⟨fun t b => ⟨fun h => Or.inl h, fun h => h.elim id (fun h => by unfold rpN at h; omega)⟩, fun t b k h => h.elim id (fun h => by unfold rpS at h; omega), fun t b h => rfl⟩ (by omega) (by omega)
    refine hR _ _ ⟨H.K l1, ad 1203 0, H.gP (t2 := 1203) (o2 := 0) s3 rfl, H.K l2, ⟨fun _ => hQ, fun q => absurd ?_ q⟩⟩
    rw [hN]
    exact nI_le (a := i) (b := i) (by omega) (by omega)
  | succ d ih =>
    intro i kc nc ad L S σ hi hkc hnc
    have hin : i < n := by omega
    rw [Nat.mul_succ] at hkc hnc
    generalize h881 : 881 * d = e881 at hnc
    have c1 : kc + 1 ≤ 1410 := by omega
    have c2 : nc + 16 ≤ 45206 := by omega
    have c3 : (kc + 1) + 21 ≤ 1410 := by omega
    have c4 : (nc + 16) + 865 ≤ 45206 := by omega
    have c5 : (i + 1) + d = n := by omega
    have c6 : kc + 1 + 21 + 22 * d ≤ 1410 := by omega
    have c7 : nc + 16 + 865 + 881 * d ≤ 45206 := by rw [h881]; omega
    intro H l1 l2 l4 l10 s3 s1 s2 s4 ea hn hQ R hR
    subst ea
    have hN : sN σ (ad 1203 0) = n := H.N l2
    refine hR _ _ ⟨H.K l1, ad 1203 0, H.gP (t2 := 1203) (o2 := 0) s3 rfl, H.K l2, ⟨fun q => ?_, fun _ => ⟨c1, c2, fun q15 hq σ17 e17 => ?_⟩⟩⟩
    · rw [hN] at q
      exact absurd q (nI_ge (a := i) (b := n) hin (by omega))
    · subst e17
      obtain ⟨ad1, H1, ea, ex⟩ := H.nw (t := 8) (o := i) (K := 8) (N := 0) hq (hn _ _ (Or.inl ⟨Or.inl rfl, Nat.le_refl i, hin⟩)) rfl (by decide) rfl
      have e11 : ad1 11 0 = ad 11 0 := ex _ _ l1
      have k11 := H1.K (t := 11) (o := 0) (Or.inl l1)
      have p1 := H1.gP (t := 11) (o := 0) (k := 1) (t2 := 4) (o2 := 0) s1 rfl
      have p2 := H1.gP (t := 11) (o := 0) (k := 2) (t2 := 10) (o2 := 0) s2 rfl
      rw [e11] at k11 p1 p2
      refine ⟨k11, ⟨c3, c4⟩, ?_⟩
      rw [p1, p2]
      refine mk_repE (r := i) ea hn3 hn7 hin H1 (Or.inr ⟨rfl, rfl⟩) (Or.inl l4) (Or.inl l10) s4 (fun x hx h => ?_) (fun j hj => ⟨fun h => h.elim (hn _ _ (Or.inr ⟨Or.inl rfl, Or.inr (by omega)⟩)) (fun h => absurd h.1 (by decide)), fun h => h.elim (hn _ _ (Or.inr ⟨Or.inr rfl, Or.inr (by omega)⟩)) (fun h => absurd h.1 (by decide))⟩) (fun ad2 L2 S2 σ2 H2 G2 => ?_)
      · rcases h with h | h
        · rcases hx with e | e | e | e | e | e | e
          · exact hn _ _ (Or.inl ⟨Or.inr (Or.inl e), Nat.le_refl i, hin⟩) h
          · exact hn _ _ (Or.inr ⟨Or.inl e, Or.inl ⟨Nat.le_refl i, hin⟩⟩) h
          · exact hn _ _ (Or.inr ⟨Or.inr e, Or.inl ⟨Nat.le_refl i, hin⟩⟩) h
          · exact hn _ _ (Or.inl ⟨Or.inr (Or.inr (Or.inl e)), Nat.le_refl i, hin⟩) h
          · exact hn _ _ (Or.inl ⟨Or.inr (Or.inr (Or.inr (Or.inl e))), Nat.le_refl i, hin⟩) h
          · exact hn _ _ (Or.inl ⟨Or.inr (Or.inr (Or.inr (Or.inr (Or.inl e)))), Nat.le_refl i, hin⟩) h
          · exact hn _ _ (Or.inl ⟨Or.inr (Or.inr (Or.inr (Or.inr (Or.inr e)))), Nat.le_refl i, hin⟩) h
        · omega
      · have e1 : ad2 11 0 = ad 11 0 := (G2.2.2 _ _ (Or.inl l1)).trans e11
        have e2 : ad2 1203 0 = ad 1203 0 := (G2.2.2 _ _ (Or.inl l2)).trans (ex _ _ l2)
        have e8 : ad2 8 i = q15 := (G2.2.2 _ _ (Or.inr ⟨rfl, rfl⟩)).trans ea
        have l2' : L2 1203 0 := (G2.1 _ _).mpr (Or.inl (Or.inl l2))
        have l3' : L2 8 i := (G2.1 _ _).mpr (Or.inl (Or.inr ⟨rfl, rfl⟩))
        have k2 := H2.K l2'
        have n2 : sN σ2 (ad2 1203 0) = n := H2.N l2'
        have k3 := H2.K l3'
        have H3 := H2.wP (t := 1203) (o := 0) (k := i) (t2 := 8) (o2 := i) l2' (show (if i < n then some (8, i) else none) = some (8, i) from if_pos hin) l3' rfl rfl
        rw [e2] at k2 n2
        rw [e8] at k3
        rw [e8, e2] at H3
        refine ⟨k2, ?_, k3, fun x25 e25 => ?_⟩
        · rw [n2]
          exact vp_in_nI (n := i) (N := n) hin (by omega)
        · have e25 : x25 = nI (i + 1) := e25.trans (nI_1 i)
          subst e25
          show R (nI (i + 1), kc + 1 + 21, nc + 16 + 865) (stP σ2 (ad 1203 0) (nI i).toNatClampNeg (some q15))
          rw [clp (by omega)]
          have up : ∀ {t b k}, S t b k → S2 t b k := fun h => G2.2.1 _ _ _ (Or.inl h)
          have up2 : ∀ {t b}, rpN n (i + 1) t b → rpN n i t b := fun h => by
            rcases h with ⟨ht, hb⟩ | ⟨ht, hb⟩
            · exact Or.inl ⟨ht, by omega⟩
            · exact Or.inr ⟨ht, by omega⟩
          refine ih (i + 1) (kc + 1 + 21) (nc + 16 + 865) ad2 _ _ _ c5 c6 c7 H3 ((G2.1 _ _).mpr (Or.inl (Or.inl l1))) l2' ((G2.1 _ _).mpr (Or.inl (Or.inl l4))) ((G2.1 _ _).mpr (Or.inl (Or.inl l10))) (Or.inl (up s3)) (Or.inl (up s1)) (Or.inl (up s2)) (Or.inl (up s4)) e1 (fun t b ht h => ?_) (fun ad' L' S' σ' kc' nc' H' G' hk' hn' => hQ ad' L' S' σ' kc' nc' H' ⟨fun t b => ?_, fun t b k h => ?_, fun t b h => ((G'.2.2 t b ((G2.1 t b).mpr (Or.inl (Or.inl h)))).trans (G2.2.2 t b (Or.inl h))).trans (ex t b h)⟩ (by rw [hk', Nat.mul_add]; omega) (by rw [hn', Nat.mul_add]; omega)) R hR
          · rcases (G2.1 _ _).mp h with (h | ⟨rfl, rfl⟩) | (⟨h, rfl⟩ | ⟨h, hb⟩)
            · exact hn t b (up2 ht) h
            · rcases ht with ⟨_, hb⟩ | ⟨ht, _⟩
              · omega
              · omega
            · rcases ht with ⟨_, hb⟩ | ⟨ht, hb⟩
              · omega
              · rcases h with e | e | e | e | e <;> omega
            · rcases ht with ⟨ht, _⟩ | ⟨_, hb2⟩
              · rcases h with e | e <;> subst e <;> omega
              · omega
          · rw [G'.1 t b, G2.1 t b]
            constructor
            · intro h
              rcases h with ((h | ⟨rfl, rfl⟩) | (⟨ht, rfl⟩ | ⟨ht, hb⟩)) | h
              · exact Or.inl h
              · exact Or.inr (Or.inl ⟨Or.inl rfl, Nat.le_refl _, hin⟩)
              · exact Or.inr (Or.inl ⟨Or.inr ht, Nat.le_refl _, hin⟩)
              · exact Or.inr (Or.inr ⟨ht, by omega⟩)
              · exact Or.inr (up2 h)
            · intro h
              rcases h with h | ⟨ht, hb⟩ | ⟨ht, hb⟩
              · exact Or.inl (Or.inl (Or.inl h))
              · by_cases e : b = i
                · rcases ht with ht | ht
                  · exact Or.inl (Or.inl (Or.inr ⟨ht, e⟩))
                  · exact Or.inl (Or.inr (Or.inl ⟨ht, e⟩))
                · exact Or.inr (Or.inl ⟨ht, by omega⟩)
              · by_cases e : b = i ∨ (7 + 7 * i ≤ b ∧ b < 7 + 7 * i + n)
                · exact Or.inl (Or.inr (Or.inr ⟨ht, e⟩))
                · exact Or.inr (Or.inr ⟨ht, by omega⟩)
          · refine G'.2.1 t b k ?_
            rcases h with h | h
            · exact Or.inl (Or.inl (up h))
            · rcases h with ⟨ht, hb, hk⟩ | ⟨ht, hb, hk⟩ | ⟨ht, hb, hk⟩ | ⟨ht, hb, hk⟩ | ⟨ht, hb, hk⟩
              · by_cases e : b = i
                · exact Or.inl (Or.inl (G2.2.1 t b k (Or.inr (Or.inl ⟨ht, e, hk⟩))))
                · exact Or.inr (Or.inl ⟨ht, by omega, hk⟩)
              · by_cases e : b = i
                · exact Or.inl (Or.inl (G2.2.1 t b k (Or.inr (Or.inr (Or.inl ⟨ht, e, hk⟩)))))
                · exact Or.inr (Or.inr (Or.inl ⟨ht, by omega, hk⟩))
              · by_cases e : b = i
                · exact Or.inl (Or.inl (G2.2.1 t b k (Or.inr (Or.inr (Or.inr (Or.inl ⟨ht, e, hk⟩))))))
                · exact Or.inr (Or.inr (Or.inr (Or.inl ⟨ht, by omega, hk⟩)))
              · by_cases e : b = i ∨ (7 + 7 * i ≤ b ∧ b < 7 + 7 * i + n)
                · exact Or.inl (Or.inl (G2.2.1 t b k (Or.inr (Or.inr (Or.inr (Or.inr ⟨ht, e, hk⟩))))))
                · exact Or.inr (Or.inr (Or.inr (Or.inr (Or.inl ⟨ht, by omega, hk⟩))))
              · by_cases e : k = i
                · exact Or.inl (Or.inr ⟨ht, hb, e⟩)
                · exact Or.inr (Or.inr (Or.inr (Or.inr (Or.inr ⟨ht, hb, by omega⟩))))
/-- all names, all that is written -/
def fnL (n t b : Nat) : Prop := ((t = 11 ∨ t = 4 ∨ t = 10 ∨ t = 7 ∨ t = 502 ∨ t = 1203 ∨ t = 1204 ∨ t = 1209 ∨ t = 801) ∧ b = 0) ∨ ((t = 0 ∨ t = 100) ∧ b < 2) ∨ ((t = 1 ∨ t = 205) ∧ b < 4) ∨ (t = 6 ∧ b < 460) ∨ (t = 3 ∧ b < 257) ∨ (1100 ≤ t ∧ t < 1105 ∧ b = 0) ∨ ((t = 2 ∨ t = 300) ∧ 56 ≤ b ∧ b < 313) ∨ rpN n 0 t b
def fnS (n t b k : Nat) : Prop := (t = 4 ∧ b = 0 ∧ k < 4) ∨ (t = 502 ∧ b = 0 ∧ k < 256) ∨ (t = 2 ∧ 56 ≤ b ∧ b < 313 ∧ k = 0) ∨ (t = 3 ∧ b < 257 ∧ k = 11) ∨ (t = 10 ∧ b = 0 ∧ k < 5) ∨ rpS n 0 t b k ∨
  (t = 1 ∧ b < 4 ∧ (k = 4 ∨ k = 5)) ∨ (t = 205 ∧ b < 4 ∧ k < 64) ∨ (t = 1204 ∧ b = 0 ∧ k < 4) ∨ (t = 1209 ∧ b = 0 ∧ k < 200) ∨ (t = 11 ∧ b = 0 ∧ (k = 0 ∨ k = 1 ∨ k = 2 ∨ k = 3 ∨ k = 4 ∨ k = 5 ∨ k = 6 ∨ k = 9 ∨ k = 11 ∨ k = 12 ∨ k = 13)) ∨ (t = 0 ∧ b < 2 ∧ k = 0) ∨ (t = 7 ∧ b = 0 ∧ (k = 0 ∨ k = 1 ∨ k = 4))
theorem mk_works {p1 p2 : Int32} {Q : Sto → Prop} {j3 j6 : Nat} (hj3 : j3 < 3) (hn : n = 3 + 2 * j3) (hpt : pt = nI (3 + j6)) (h3 : ∀ (σ : Sto) (Q : Int32 → Sto → Prop), Q (nI j3) σ → wp_J9_floorMod_7cf53 p1 (3 : Int32) σ Q) (h6 : ∀ (σ : Sto) (Q : Int32 → Sto → Prop), Q (nI j6) σ → wp_J9_floorMod_7cf53 p2 (6 : Int32) σ Q)
    (H : CA n pt ad L S σ0 σ) (hL : ∀ t b, L t b ↔ (t = 11 ∧ b = 0))
    (hQ : ∀ ad' L' S' σ', CA n pt ad' L' S' σ0 σ' → (∀ t b, fnL n t b → L' t b) → (∀ t b k, fnS n t b k → S' t b k) → ad' 11 0 = ad 11 0 → Q σ') : wp_X11_init (ad 11 0) p1 p2 σ Q := by
  have l0 : L 11 0 := (hL 11 0).mpr ⟨rfl, rfl⟩
  refine ⟨by decide, h6 _ _ (fun x4 e4 => ⟨H.K l0, by decide, by decide, fun q9 hq9 σ11 e11 => ⟨by decide, h3 _ _ ⟨by decide, ?_⟩⟩⟩)⟩
  have e4 : x4 = pt := by
    rw [e4, hpt, show (3 : Int32) = nI 3 from rfl, nI_add]
  rw [e4] at e11
  subst e11
  have en : (3 : Int32) + (2 : Int32) * nI j3 = nI n := by
    rw [show (3 : Int32) = nI 3 from rfl, show (2 : Int32) = nI 2 from rfl, nI_mul, nI_add, hn]
  rw [en]
  have H1 := H.wI (t := 11) (o := 0) (k := 0) (v := pt) l0 rfl rfl rfl
  obtain ⟨ad2, H2, ea2, ex2⟩ := H1.nw (t := 4) (o := 0) (K := 4) (N := 0) hq9 (fun h => by have := (hL _ _).mp h; omega) rfl (by decide) rfl
  refine mk_netE ea2 (by omega) H2 (Or.inr ⟨rfl, rfl⟩) (fun h => by rw [hL] at h; omega) (fun j hj => ⟨fun h => by rw [hL] at h; omega, fun h => by rw [hL] at h; omega, fun h => by rw [hL] at h; omega⟩) (fun ad3 L3 S3 σ3 H3 G3 => ?_)
  have hL3 : ∀ t b, L3 t b ↔ (((t = 11 ∧ b = 0) ∨ (t = 4 ∧ b = 0)) ∨ ((t = 502 ∧ b = 0) ∨ (t = 3 ∧ b < 257) ∨ ((t = 2 ∨ t = 300) ∧ 56 ≤ b ∧ b < 313))) := fun t b => by
    rw [G3.1 t b]
    dsimp only
    rw [hL]
  have l11 : L3 11 0 := (hL3 _ _).mpr (by omega)
  have l4 : L3 4 0 := (hL3 _ _).mpr (by omega)
  have e11 : ad3 11 0 = ad 11 0 := (G3.2.2 _ _ (Or.inl l0)).trans (ex2 _ _ l0)
  have e4 : ad3 4 0 = q9 := (G3.2.2 _ _ (Or.inr ⟨rfl, rfl⟩)).trans ea2
  have k3 := H3.K l11
  have H4 := H3.wP (t := 11) (o := 0) (k := 1) (t2 := 4) (o2 := 0) l11 rfl l4 rfl rfl
  rw [e11] at k3
  rw [e4, e11] at H4
  refine ⟨k3, by decide, by decide, fun q21 hq21 σ23 e23 => ⟨by decide, ?_⟩⟩
  subst e23
  obtain ⟨ad5, H5, ea5, ex5⟩ := H4.nw (t := 10) (o := 0) (K := 10) (N := 0) hq21 (fun h => by rw [hL3] at h; omega) rfl (by decide) rfl
  refine mk_tableE ea5 H5 (Or.inr ⟨rfl, rfl⟩) (fun j h1 h2 h => by rw [hL3] at h; omega) (fun ad6 L6 S6 σ6 H6 G6 => ?_)
  have hL6 : ∀ t b, L6 t b ↔ ((((((t = 11 ∧ b = 0) ∨ (t = 4 ∧ b = 0)) ∨ ((t = 502 ∧ b = 0) ∨ (t = 3 ∧ b < 257) ∨ ((t = 2 ∨ t = 300) ∧ 56 ≤ b ∧ b < 313)))) ∨ (t = 10 ∧ b = 0)) ∨ (1100 ≤ t ∧ t < 1105 ∧ b = 0)) := fun t b => by
    rw [G6.1 t b]
    dsimp only
    rw [hL3]
  have m11 : L6 11 0 := (hL6 _ _).mpr (by omega)
  have m4 : L6 4 0 := (hL6 _ _).mpr (by omega)
  have m10 : L6 10 0 := (hL6 _ _).mpr (by omega)
  have f11 : ad6 11 0 = ad 11 0 := ((G6.2.2 _ _ (Or.inl l11)).trans (ex5 _ _ l11)).trans e11
  have f10 : ad6 10 0 = q21 := (G6.2.2 _ _ (Or.inr ⟨rfl, rfl⟩)).trans ea5
  have k6 := H6.K m11
  have H7 := H6.wP (t := 11) (o := 0) (k := 2) (t2 := 10) (o2 := 0) m11 rfl m10 rfl rfl
  have s40 : S6 4 0 0 := G6.2.1 _ _ _ (Or.inl (Or.inl (G3.2.1 _ _ _ (Or.inr (by omega)))))
  have s111 : S6 11 0 1 := G6.2.1 _ _ _ (Or.inl (Or.inr ⟨rfl, rfl, rfl⟩))
  have s110 : S6 11 0 0 := G6.2.1 _ _ _ (Or.inl (Or.inl (G3.2.1 _ _ _ (Or.inl (Or.inr ⟨rfl, rfl, rfl⟩)))))
  have p1' := H7.gP (t := 11) (o := 0) (k := 1) (t2 := 4) (o2 := 0) (Or.inl s111) rfl
  have k4 := H6.K m4
  have i4 : sI σ6 (ad6 4 0) 0 = nI n := H6.gI (t := 4) (o := 0) (k := 0) s40
  rw [f11] at k6 p1'
  rw [f10, f11] at H7 
  rw [f10] at p1'
  have hc : (nI n).toNatClampNeg = n := nI_clamp (by omega)
  refine ⟨k6, ad6 4 0, p1', k4, fun x31 e31 => ?_⟩
  rw [i4] at e31
  subst e31
  rw [hc]
  refine ⟨fun q => absurd ((nI_lti (a := n) (b := 0) (by omega) (by omega)).mp q) (by omega), by omega, by decide, by omega, fun q37 hq37 σ39 e39 => ?_⟩
  subst e39
  have a8 := arr_step (k := 3) (x := 1203) H7 m11 (fun h => by rw [hL6] at h; omega) hq37 (K := 21) (N := n) rfl (by decide) rfl rfl rfl rfl
  rw [f11] at a8
  obtain ⟨ad8, H8, x8, k8⟩ := a8
  have g11 : ad8 11 0 = ad 11 0 := (x8 _ _ m11).trans f11
  refine ⟨k8, rep_loop (by omega) (by omega) n 0 _ _ ad8 _ _ _ (by omega) (by omega) (by omega) H8 (Or.inl m11) (Or.inr ⟨rfl, rfl⟩) (Or.inl m4) (Or.inl m10) (Or.inr ⟨rfl, rfl, rfl⟩) (Or.inl (Or.inl s111)) (Or.inl (Or.inr ⟨rfl, rfl, rfl⟩)) (Or.inl (Or.inl s40)) g11 (fun t b ht h => ?_) (fun ad9 L9 S9 σ9 kc nc H9 G9 hkc hnc => ?_)⟩
  · rw [hL6] at h
    rcases h with (((((⟨rfl, rfl⟩ | ⟨rfl, rfl⟩) | (⟨rfl, rfl⟩ | ⟨rfl, _⟩ | ⟨h, hb⟩)) | ⟨rfl, rfl⟩) | ⟨h1, h2, rfl⟩)) | ⟨rfl, rfl⟩
    · rcases ht with ⟨ht, _⟩ | ⟨ht, _⟩ <;> omega
    · rcases ht with ⟨ht, _⟩ | ⟨ht, _⟩ <;> omega
    · rcases ht with ⟨ht, _⟩ | ⟨ht, _⟩ <;> omega
    · rcases ht with ⟨ht, _⟩ | ⟨ht, _⟩ <;> omega
    · rcases ht with ⟨ht, _⟩ | ⟨_, hb2⟩
      · rcases h with e | e <;> subst e <;> omega
      · omega
    · rcases ht with ⟨ht, _⟩ | ⟨ht, _⟩ <;> omega
    · rcases ht with ⟨ht, _⟩ | ⟨ht, _⟩ <;> omega
    · rcases ht with ⟨ht, _⟩ | ⟨ht, _⟩ <;> omega
  · have hL9 : ∀ t b, L9 t b ↔ ((((((((t = 11 ∧ b = 0) ∨ (t = 4 ∧ b = 0)) ∨ ((t = 502 ∧ b = 0) ∨ (t = 3 ∧ b < 257) ∨ ((t = 2 ∨ t = 300) ∧ 56 ≤ b ∧ b < 313)))) ∨ (t = 10 ∧ b = 0)) ∨ (1100 ≤ t ∧ t < 1105 ∧ b = 0)) ∨ (t = 1203 ∧ b = 0)) ∨ rpN n 0 t b) := fun t b => by
      rw [G9.1 t b]
      dsimp only
      rw [hL6]
    have n11 : L9 11 0 := (hL9 _ _).mpr (by omega)
    have h11 : ad9 11 0 = ad 11 0 := (G9.2.2 _ _ (Or.inl m11)).trans g11
    refine ⟨by omega, by omega, fun q8 hq8 σ10 e10 => ?_⟩
    subst e10
    have a10 := arr_step (k := 4) (x := 1204) H9 n11 (fun h => by rw [hL9] at h; unfold rpN at h; omega) hq8 (K := 17) (N := 4) rfl (by decide) rfl rfl rfl rfl
    rw [h11] at a10
    obtain ⟨ad10, H10, x10, k10⟩ := a10
    refine ⟨k10, cls_loop 4 0 (kc + 1) (nc + 4) ad10 _ _ _ (by omega) (by omega) (by omega) H10 (Or.inl n11) (Or.inr ⟨rfl, rfl⟩) (Or.inr ⟨rfl, rfl, rfl⟩) ((x10 _ _ n11).trans h11) (fun j h1 h2 => ⟨fun h => ?_, fun h => ?_, fun h => ?_⟩) (fun b hb h => ?_) (fun h => ?_) (fun t b ht h => ?_) (fun ad' L' S' σ' H' G' => ?_)⟩
    · rw [hL9] at h
      unfold rpN at h
      omega
    · rw [hL9] at h
      unfold rpN at h
      omega
    · rw [hL9] at h
      unfold rpN at h
      omega
    · rw [hL9] at h
      unfold rpN at h
      omega
    · rw [hL9] at h
      unfold rpN at h
      omega
    · rw [hL9] at h
      unfold rpN at h
      omega
    · refine hQ ad' L' S' σ' H' (fun t b h => ?_) (fun t b k h => ?_) ((G'.2.2 _ _ (Or.inl n11)).trans ((x10 _ _ n11).trans h11))
      · rw [G'.1 t b]
        dsimp only
        rw [hL9]
        rcases h with ⟨h, rfl⟩ | ⟨h, hb⟩ | ⟨h, hb⟩ | ⟨rfl, hb⟩ | ⟨rfl, hb⟩ | h | h | h
        · rcases h with rfl | rfl | rfl | rfl | rfl | rfl | rfl | rfl | rfl
          · exact Or.inl (Or.inl (Or.inl (Or.inl (Or.inl (Or.inl (Or.inl (Or.inl ⟨rfl, rfl⟩)))))))
          · exact Or.inl (Or.inl (Or.inl (Or.inl (Or.inl (Or.inl (Or.inl (Or.inr ⟨rfl, rfl⟩)))))))
          · exact Or.inl (Or.inl (Or.inl (Or.inl (Or.inl (Or.inr ⟨rfl, rfl⟩)))))
          · exact Or.inr (by omega)
          · exact Or.inl (Or.inl (Or.inl (Or.inl (Or.inl (Or.inl (Or.inr (Or.inl ⟨rfl, rfl⟩)))))))
          · exact Or.inl (Or.inl (Or.inl (Or.inr ⟨rfl, rfl⟩)))
          · exact Or.inl (Or.inr ⟨rfl, rfl⟩)
          · exact Or.inr (by omega)
          · exact Or.inr (by omega)
        · exact Or.inr (Or.inr (Or.inr (Or.inr (Or.inl ⟨h, hb⟩))))
        · exact Or.inr (Or.inl ⟨h.imp_right Or.inl, by omega⟩)
        · by_cases e : b < 4
          · exact Or.inr (Or.inl ⟨Or.inr (Or.inr rfl), by omega⟩)
          · exact Or.inr (Or.inr (Or.inl ⟨rfl, by omega⟩))
        · exact Or.inl (Or.inl (Or.inl (Or.inl (Or.inl (Or.inl (Or.inr (Or.inr (Or.inl ⟨rfl, hb⟩))))))))
        · exact Or.inl (Or.inl (Or.inl (Or.inl (Or.inr h))))
        · exact Or.inl (Or.inl (Or.inl (Or.inl (Or.inl (Or.inl (Or.inr (Or.inr (Or.inr h))))))))
        · exact Or.inl (Or.inl (Or.inr h))
      · have u9 : ∀ {t b k}, S9 t b k → S' t b k := fun h => G'.2.1 _ _ _ (Or.inl (Or.inl h))
        have u6 : ∀ {t b k}, S6 t b k → S' t b k := fun h => u9 (G9.2.1 _ _ _ (Or.inl (Or.inl (Or.inl h))))
        have u3 : ∀ {t b k}, S3 t b k → S' t b k := fun h => u6 (G6.2.1 _ _ _ (Or.inl (Or.inl h)))
        rcases h with h | h | h | h | h | h | h | h | h | h | ⟨rfl, rfl, hk⟩ | h | h
        · exact u3 (G3.2.1 _ _ _ (Or.inr (Or.inl h)))
        · exact u3 (G3.2.1 _ _ _ (Or.inr (Or.inr (Or.inl h))))
        · exact u3 (G3.2.1 _ _ _ (Or.inr (Or.inr (Or.inr (Or.inl h)))))
        · exact u3 (G3.2.1 _ _ _ (Or.inr (Or.inr (Or.inr (Or.inr h)))))
        · exact u6 (G6.2.1 _ _ _ (Or.inr h))
        · exact u9 (G9.2.1 _ _ _ (Or.inr h))
        · exact G'.2.1 _ _ _ (Or.inr (Or.inl ⟨h.1, by omega, h.2.1, h.2.2⟩))
        · exact G'.2.1 _ _ _ (Or.inr (Or.inr (Or.inl ⟨h.1, by omega, h.2.1, h.2.2⟩)))
        · exact G'.2.1 _ _ _ (Or.inr (Or.inr (Or.inr (Or.inl ⟨h.1, h.2.1, by omega, h.2.2⟩))))
        · exact G'.2.1 _ _ _ (Or.inr (Or.inr (Or.inr (Or.inr (Or.inl h)))))
        · rcases hk with rfl | rfl | rfl | rfl | rfl | hk
          · exact u6 s110
          · exact u6 s111
          · exact u9 (G9.2.1 _ _ _ (Or.inl (Or.inl (Or.inr ⟨rfl, rfl, rfl⟩))))
          · exact u9 (G9.2.1 _ _ _ (Or.inl (Or.inr ⟨rfl, rfl, rfl⟩)))
          · exact G'.2.1 _ _ _ (Or.inl (Or.inr ⟨rfl, rfl, rfl⟩))
          · exact G'.2.1 _ _ _ (Or.inr (Or.inr (Or.inr (Or.inr (Or.inr (Or.inl ⟨rfl, rfl, hk⟩))))))
        · exact G'.2.1 _ _ _ (Or.inr (Or.inr (Or.inr (Or.inr (Or.inr (Or.inr (Or.inl h)))))))
        · exact G'.2.1 _ _ _ (Or.inr (Or.inr (Or.inr (Or.inr (Or.inr (Or.inr (Or.inr h)))))))
end
