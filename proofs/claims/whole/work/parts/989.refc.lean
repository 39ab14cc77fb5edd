/-! The reference's constructor -/
def rK (t _o : Nat) : Nat := if t = 12 then 12 else ak (t - 100)
def rN (t _o : Nat) : Nat := if t = 12 then 0 else al (t - 100)
def rI (n : Nat) (pt : Int32) (t _o k : Nat) : Int32 := if t = 12 then (X00 n pt).1 k else (X00 n pt).2 (t - 100) k
def rJ (_t _o _k : Nat) : Int64 := 0
def rP (t _o k : Nat) : Option (Nat × Nat) := if t = 12 ∧ ak k ≠ 0 then some (100 + k, 0) else none
abbrev RAb (n : Nat) (pt : Int32) (ad : Nat → Nat → Nat) (L : Nat → Nat → Prop) (S : Nat → Nat → Nat → Prop) (σ0 σ : Sto) : Prop := Ab rK rN (rI n pt) rJ rP ad L S σ0 σ
def RT (n : Nat) (pt : Int32) (m : Nat) (σ0 : Sto) (B : Nat) (s : List Nat) (i : Nat) (σ : Sto) : Prop :=
  ∃ ad L S, RAb n pt ad L S σ0 σ ∧ ad 12 0 = m ∧ L 12 0 ∧ (∀ t b, L t b → t < 100 + B) ∧ (∀ j, j < B → ak j ≠ 0 → L (100 + j) 0 ∧ S 12 0 j) ∧ (∀ j ∈ s, S 12 0 j) ∧ ∀ j, j < i → S 122 0 j ∧ S 125 0 j
section
variable {n m B k Kd N q : Nat} {pt : Int32} {σ0 σ : Sto} {s : List Nat}
theorem bd1 {x a r M : Nat} (h : x + r ≤ M) (ha : a ≤ r) : x + a ≤ M := by omega
theorem bd2 {x a r M : Nat} (h : x + r ≤ M) (ha : a ≤ r) : (x + a) + (r - a) ≤ M := by omega
theorem RT.K {i : Nat} (H : RT n pt m σ0 B s i σ) : sK σ m = 12 := by
  obtain ⟨ad, L, S, H, rfl, l, _⟩ := H
  exact H.K l
theorem RT.arr (H : RT n pt m σ0 B s 0 σ) (hq : ¬ sK σ q < 23) (hk : ak k = Kd) (hK : Kd = 14 ∨ Kd = 16) (hN : al k = N) (hB : B ≤ k) (hg : ∀ j, j < k → B ≤ j → ak j = 0) (hz : (X00 n pt).1 k = 0) :
    RT n pt m σ0 (k + 1) s 0 (stP (stN σ q Kd N) m k (some q)) ∧ sK (stN σ q Kd N) m = 12 := by
  obtain ⟨ad, L, S, H, rfl, l, hl, hp, hs, _⟩ := H
  have ne : 100 + k ≠ 12 := by omega
  obtain ⟨ad1, H1, ea, ex⟩ := H.nw (t := 100 + k) (o := 0) (K := Kd) (N := N) hq (fun h => by have := hl _ _ h; omega) (by unfold rK; rw [if_neg ne, show 100 + k - 100 = k by omega]; exact hk) (by omega) (by unfold rN; rw [if_neg ne, show 100 + k - 100 = k by omega]; exact hN)
  have e1 : ad1 12 0 = ad 12 0 := ex _ _ l
  have k1 := H1.K (t := 12) (o := 0) (Or.inl l)
  have H2 := H1.wP (t := 12) (o := 0) (k := k) (t2 := 100 + k) (o2 := 0) (Or.inl l) (if_pos ⟨rfl, by omega⟩) (Or.inr ⟨rfl, rfl⟩) hz rfl
  rw [e1] at k1
  rw [ea, e1] at H2
  refine ⟨⟨ad1, _, _, H2, e1, Or.inl l, fun t b h => ?_, fun j hj hz2 => ?_, fun j hj => Or.inl (hs j hj), fun j hj => absurd hj (Nat.not_lt_zero j)⟩, k1⟩
  · rcases h with h | h
    · have := hl t b h
      omega
    · omega
  · by_cases e : j = k
    · subst e
      exact ⟨Or.inr ⟨rfl, rfl⟩, Or.inr ⟨rfl, rfl, rfl⟩⟩
    · have hjB : j < B := by
        apply Classical.byContradiction
        intro h
        exact hz2 (hg j (by omega) (by omega))
      have := hp j hjB hz2
      exact ⟨Or.inl this.1, Or.inl this.2⟩
theorem RT.int (H : RT n pt m σ0 B s 0 σ) {v : Int32} (hv : (X00 n pt).1 k = v) (hz : ak k = 0) : RT n pt m σ0 B (k :: s) 0 (stI σ m k v) := by
  obtain ⟨ad, L, S, H, rfl, l, hl, hp, hs, _⟩ := H
  have H2 := H.wI (t := 12) (o := 0) (k := k) (v := v) l hv rfl (if_neg (fun q => q.2 hz))
  refine ⟨ad, _, _, H2, rfl, l, hl, fun j hj hz2 => ⟨(hp j hj hz2).1, Or.inl (hp j hj hz2).2⟩, fun j hj => ?_, fun j hj => absurd hj (Nat.not_lt_zero j)⟩
  rcases List.mem_cons.mp hj with e | e
  · exact Or.inr ⟨rfl, rfl, e⟩
  · exact Or.inl (hs j e)
theorem ak_lt {k : Nat} (h : ak k ≠ 0) : k < 93 := by
  unfold ak at h
  split at h <;> first | omega | exact absurd rfl h
theorem RT.fin (H : RT n pt m σ0 93 s 7 σ) (hs : 1 ∈ s ∧ 2 ∈ s ∧ 3 ∈ s ∧ 16 ∈ s ∧ 17 ∈ s ∧ 96 ∈ s) : ∃ adx, RefC m adx σ (X00 n pt) ∧ (∀ a, sK σ0 a < 23 → Sm5 σ0 σ a a) ∧ ∀ a, rg m adx a → ¬ sK σ0 a < 23 := by
  obtain ⟨ad, L, S, H, rfl, l, hl, hp, hs2, h7⟩ := H
  have ne : ∀ k, 100 + k ≠ 12 := fun k => by omega
  have sb : ∀ k, 100 + k - 100 = k := fun k => by omega
  refine ⟨fun k => ad (100 + k) 0, ⟨⟨H.K l, fun k hk => ⟨?_, ?_, ?_⟩, fun j k hj hk e => ?_⟩, fun k => ?_, fun k hk i => ?_⟩, H.2.2.2, fun a ha => ?_⟩
  · exact H.gP (hp k (ak_lt hk) hk).2 (if_pos ⟨rfl, hk⟩)
  · rw [H.K (hp k (ak_lt hk) hk).1]
    unfold rK
    rw [if_neg (ne k), sb]
  · rw [H.N (hp k (ak_lt hk) hk).1]
    unfold rN
    rw [if_neg (ne k), sb]
  · have := (H.2.1 _ _ _ _ (hp j (ak_lt hj) hj).1 (hp k (ak_lt hk) hk).1 e).1
    omega
  · by_cases h : S 12 0 k
    · exact H.gI h
    · have : rI n pt 12 0 k = 0 := by
        show (X00 n pt).1 k = 0
        show (if k = 1 then nI n else if k = 2 then nI (n / 2) else if k = 3 then pt else if k = 16 ∨ k = 17 then 1 else if k = 96 then -1 else 0) = 0
        have f : ∀ j, j ∈ s → ¬ k = j := fun j hj e => h (by rw [e]; exact hs2 j hj)
        rw [if_neg (f 1 hs.1), if_neg (f 2 hs.2.1), if_neg (f 3 hs.2.2.1), if_neg (fun q => q.elim (f 16 hs.2.2.2.1) (f 17 hs.2.2.2.2.1)), if_neg (f 96 hs.2.2.2.2.2)]
      rw [H.old l k this]
      rfl
  · have e : rI n pt (100 + k) 0 i = (X00 n pt).2 k i := by
      unfold rI
      rw [if_neg (ne k), sb]
    show sI σ (ad (100 + k) 0) i = _
    by_cases h : (k = 22 ∨ k = 25) ∧ i < 7
    · have hS : S (100 + k) 0 i := by
        rcases h.1 with rfl | rfl
        · exact (h7 i h.2).1
        · exact (h7 i h.2).2
      rw [H.gI hS, e]
    · have hz : (X00 n pt).2 k i = 0 := if_neg h
      rw [H.old (hp k (ak_lt hk) hk).1 i (e.trans hz), e]
  · rcases ha with rfl | ⟨k, hk, rfl⟩
    · exact (H.1 _ _ l).2.2.2.1
    · exact (H.1 _ _ (hp k (ak_lt hk) hk).1).2.2.2.1
theorem ref_loop {Q : Sto → Prop} {kc nc : Nat} (hkc : kc ≤ 77) (hnc : nc ≤ 171928) (hQ : ∀ σ', RT n pt m σ0 93 s 7 σ' → Q σ') : ∀ d i σ, i + d = 7 → RT n pt m σ0 93 s i σ → LF (f_X12_init_691 m Q) (nI i, kc, nc) σ := by
  intro d
  induction d with
  | zero =>
    intro i σ hi H R hR
    have hi : i = 7 := by omega
    subst hi
    exact hR _ _ ⟨fun _ => ⟨⟨hkc, hnc⟩, hQ σ H⟩, fun q => absurd (nI_le (a := 7) (b := 7) (by omega) (by omega)) q⟩
  | succ d ih =>
    intro i σ hi H R hR
    have k12 := H.K
    obtain ⟨ad, L, S, H, rfl, l, hl, hp, hs, h7⟩ := H
    have a22 := hp 22 (by omega) (by decide)
    have a25 := hp 25 (by omega) (by decide)
    have n22 : sN σ (ad 122 0) = 7 := H.N a22.1
    have n25 : sN σ (ad 125 0) = 7 := H.N a25.1
    have hv : vp_in (nI i) 7 := vp_in_nI (n := i) (by omega) (by omega)
    have w1 : rI n pt 122 0 i = 1 := if_pos (c := (22 = 22 ∨ 22 = 25) ∧ i < 7) ⟨Or.inl rfl, by omega⟩
    have w2 : rI n pt 125 0 i = 1 := if_pos (c := (25 = 22 ∨ 25 = 25) ∧ i < 7) ⟨Or.inr rfl, by omega⟩
    have H1 := H.wI (t := 122) (o := 0) (k := i) (v := 1) a22.1 w1 rfl rfl
    have H2 := H1.wI (t := 125) (o := 0) (k := i) (v := 1) a25.1 w2 rfl rfl
    refine hR _ _ ⟨fun q => absurd q (nI_ge (a := i) (b := 7) (by omega) (by omega)), fun _ => ⟨k12, ad 122 0, H.gP a22.2 rfl, H.K a22.1, ?_, ad 125 0, H.gP a25.2 rfl, H.K a25.1, ?_, fun x11 e11 => ?_⟩⟩
    · rw [n22]
      exact hv
    · rw [n25]
      exact hv
    · have e11 : x11 = nI (i + 1) := e11.trans (nI_1 i)
      subst e11
      show R (nI (i + 1), kc, nc) (stI (stI σ (ad 122 0) (nI i).toNatClampNeg 1) (ad 125 0) (nI i).toNatClampNeg 1)
      rw [clp (by omega)]
      refine ih (i + 1) _ (by omega) ⟨ad, _, _, H2, rfl, l, hl, fun j hj hz => ⟨(hp j hj hz).1, Or.inl (Or.inl (hp j hj hz).2)⟩, fun j hj => Or.inl (Or.inl (hs j hj)), fun j hj => ?_⟩ R hR
      by_cases e : j = i
      · exact ⟨Or.inl (Or.inr ⟨rfl, rfl, e⟩), Or.inr ⟨rfl, rfl, e⟩⟩
      · have := h7 j (by omega)
        exact ⟨Or.inl (Or.inl this.1), Or.inl (Or.inl this.2)⟩
theorem ref_640 {p1 p2 : Int32} {Q : Sto → Prop} {j3 j6 : Nat} (hn : n = 3 + 2 * j3) (hj3 : j3 < 3) (hpt : pt = nI (3 + j6)) (h3 : ∀ (σ : Sto) (Q : Int32 → Sto → Prop), Q (nI j3) σ → wp_X12_modulo p1 (3 : Int32) σ Q) (h6 : ∀ (σ : Sto) (Q : Int32 → Sto → Prop), Q (nI j6) σ → wp_X12_modulo p2 (6 : Int32) σ Q) {kc nc : Nat} (hkc : kc + 1 ≤ 77) (hnc : nc + 640 ≤ 171928)
    (hQ : ∀ σ', RT n pt m σ0 93 [3, 2, 1, 96, 17, 16] 7 σ' → Q σ') (H : RT n pt m σ0 91 [17, 16] 0 σ) : b_X12_init_640 m Q p1 p2 kc nc σ := by
  refine ⟨hkc, hnc, fun q hq τ e => ?_⟩
  subst e
  obtain ⟨H, kk⟩ := H.arr (k := 92) (Kd := 14) (N := 640) hq rfl (by decide) rfl (by decide) (by decide) rfl
  have H := H.int (k := 96) (v := -1) rfl rfl
  refine ⟨kk, ⟨hkc, hnc⟩, h3 _ _ (fun x11 e11 => ?_)⟩
  have e11 : x11 = nI n := by
    rw [e11, show (3 : Int32) = nI 3 from rfl, show (2 : Int32) = nI 2 from rfl, nI_mul, nI_add, hn]
  rw [e11]
  refine ⟨H.K, ?_⟩
  have H := H.int (k := 1) (v := nI n) rfl rfl
  have i1 : ∀ τ : Sto, sI (stI τ m 1 (nI n)) m 1 = nI n := fun τ => up2_self _ _ _ _
  rw [i1]
  intro x14 e14 x17 e17
  subst e14
  have hd : nI n / (2 : Int32) = nI (n / 2) := by
    have c : n = 3 ∨ n = 5 ∨ n = 7 := by omega
    rcases c with c | c | c <;> rw [c] <;> decide
  rw [hd] at e17
  subst e17
  have H := H.int (k := 2) (v := nI (n / 2)) rfl rfl
  refine ⟨⟨hkc, hnc⟩, h6 _ _ (fun x22 e22 => ?_)⟩
  have e22 : x22 = pt := by
    rw [e22, hpt, show (3 : Int32) = nI 3 from rfl, nI_add]
  rw [e22]
  refine ⟨H.K, ?_⟩
  have H := H.int (k := 3) (v := pt) rfl rfl
  exact ref_loop hkc hnc hQ 7 0 _ (by omega) H
theorem ref_577 {p1 p2 : Int32} {Q : Sto → Prop} {j3 j6 : Nat} (hn : n = 3 + 2 * j3) (hj3 : j3 < 3) (hpt : pt = nI (3 + j6)) (h3 : ∀ (σ : Sto) (Q : Int32 → Sto → Prop), Q (nI j3) σ → wp_X12_modulo p1 (3 : Int32) σ Q) (h6 : ∀ (σ : Sto) (Q : Int32 → Sto → Prop), Q (nI j6) σ → wp_X12_modulo p2 (6 : Int32) σ Q) (hQ : ∀ σ', RT n pt m σ0 93 [3, 2, 1, 96, 17, 16] 7 σ' → Q σ') {kc nc : Nat} (hkc : kc + 8 ≤ 77) (hnc : nc + 5700 ≤ 171928) (H : RT n pt m σ0 83 [17, 16] 0 σ) : b_X12_init_577 m Q p1 p2 kc nc σ := by
  refine ⟨bd1 hkc (by decide), bd1 hnc (by decide), fun q hq τ e => ?_⟩
  subst e
  obtain ⟨H, kk⟩ := H.arr (k := 83) (Kd := 14) (N := 200) hq rfl (by decide) rfl (by decide) (fun j h1 h2 => absurd h1 (by omega)) rfl
  refine ⟨kk, ?_⟩
  have hkc := bd2 (a := 1) hkc (by decide)
  have hnc := bd2 (a := 200) hnc (by decide)
  refine ⟨bd1 hkc (by decide), bd1 hnc (by decide), fun q hq τ e => ?_⟩
  subst e
  obtain ⟨H, kk⟩ := H.arr (k := 84) (Kd := 14) (N := 200) hq rfl (by decide) rfl (by decide) (fun j h1 h2 => absurd h1 (by omega)) rfl
  refine ⟨kk, ?_⟩
  have hkc := bd2 (a := 1) hkc (by decide)
  have hnc := bd2 (a := 200) hnc (by decide)
  refine ⟨bd1 hkc (by decide), bd1 hnc (by decide), fun q hq τ e => ?_⟩
  subst e
  obtain ⟨H, kk⟩ := H.arr (k := 85) (Kd := 14) (N := 200) hq rfl (by decide) rfl (by decide) (fun j h1 h2 => absurd h1 (by omega)) rfl
  refine ⟨kk, ?_⟩
  have hkc := bd2 (a := 1) hkc (by decide)
  have hnc := bd2 (a := 200) hnc (by decide)
  refine ⟨bd1 hkc (by decide), bd1 hnc (by decide), fun q hq τ e => ?_⟩
  subst e
  obtain ⟨H, kk⟩ := H.arr (k := 86) (Kd := 14) (N := 200) hq rfl (by decide) rfl (by decide) (fun j h1 h2 => absurd h1 (by omega)) rfl
  refine ⟨kk, ?_⟩
  have hkc := bd2 (a := 1) hkc (by decide)
  have hnc := bd2 (a := 200) hnc (by decide)
  refine ⟨bd1 hkc (by decide), bd1 hnc (by decide), fun q hq τ e => ?_⟩
  subst e
  obtain ⟨H, kk⟩ := H.arr (k := 87) (Kd := 14) (N := 200) hq rfl (by decide) rfl (by decide) (fun j h1 h2 => absurd h1 (by omega)) rfl
  refine ⟨kk, ?_⟩
  have hkc := bd2 (a := 1) hkc (by decide)
  have hnc := bd2 (a := 200) hnc (by decide)
  refine ⟨bd1 hkc (by decide), bd1 hnc (by decide), fun q hq τ e => ?_⟩
  subst e
  obtain ⟨H, kk⟩ := H.arr (k := 88) (Kd := 14) (N := 2560) hq rfl (by decide) rfl (by decide) (fun j h1 h2 => absurd h1 (by omega)) rfl
  refine ⟨kk, ?_⟩
  have hkc := bd2 (a := 1) hkc (by decide)
  have hnc := bd2 (a := 2560) hnc (by decide)
  refine ⟨bd1 hkc (by decide), bd1 hnc (by decide), fun q hq τ e => ?_⟩
  subst e
  obtain ⟨H, kk⟩ := H.arr (k := 90) (Kd := 14) (N := 1500) hq rfl (by decide) rfl (by decide) (by decide) rfl
  refine ⟨kk, ?_⟩
  have hkc := bd2 (a := 1) hkc (by decide)
  have hnc := bd2 (a := 1500) hnc (by decide)
  exact ref_640 hn hj3 hpt h3 h6 hkc hnc hQ H
theorem ref_516 {p1 p2 : Int32} {Q : Sto → Prop} {j3 j6 : Nat} (hn : n = 3 + 2 * j3) (hj3 : j3 < 3) (hpt : pt = nI (3 + j6)) (h3 : ∀ (σ : Sto) (Q : Int32 → Sto → Prop), Q (nI j3) σ → wp_X12_modulo p1 (3 : Int32) σ Q) (h6 : ∀ (σ : Sto) (Q : Int32 → Sto → Prop), Q (nI j6) σ → wp_X12_modulo p2 (6 : Int32) σ Q) (hQ : ∀ σ', RT n pt m σ0 93 [3, 2, 1, 96, 17, 16] 7 σ' → Q σ') {kc nc : Nat} (hkc : kc + 15 ≤ 77) (hnc : nc + 7184 ≤ 171928) (H : RT n pt m σ0 75 [17, 16] 0 σ) : b_X12_init_516 m Q p1 p2 kc nc σ := by
  refine ⟨bd1 hkc (by decide), bd1 hnc (by decide), fun q hq τ e => ?_⟩
  subst e
  obtain ⟨H, kk⟩ := H.arr (k := 75) (Kd := 14) (N := 4) hq rfl (by decide) rfl (by decide) (fun j h1 h2 => absurd h1 (by omega)) rfl
  refine ⟨kk, ?_⟩
  have hkc := bd2 (a := 1) hkc (by decide)
  have hnc := bd2 (a := 4) hnc (by decide)
  refine ⟨bd1 hkc (by decide), bd1 hnc (by decide), fun q hq τ e => ?_⟩
  subst e
  obtain ⟨H, kk⟩ := H.arr (k := 76) (Kd := 14) (N := 256) hq rfl (by decide) rfl (by decide) (fun j h1 h2 => absurd h1 (by omega)) rfl
  refine ⟨kk, ?_⟩
  have hkc := bd2 (a := 1) hkc (by decide)
  have hnc := bd2 (a := 256) hnc (by decide)
  refine ⟨bd1 hkc (by decide), bd1 hnc (by decide), fun q hq τ e => ?_⟩
  subst e
  obtain ⟨H, kk⟩ := H.arr (k := 77) (Kd := 14) (N := 256) hq rfl (by decide) rfl (by decide) (fun j h1 h2 => absurd h1 (by omega)) rfl
  refine ⟨kk, ?_⟩
  have hkc := bd2 (a := 1) hkc (by decide)
  have hnc := bd2 (a := 256) hnc (by decide)
  refine ⟨bd1 hkc (by decide), bd1 hnc (by decide), fun q hq τ e => ?_⟩
  subst e
  obtain ⟨H, kk⟩ := H.arr (k := 78) (Kd := 14) (N := 256) hq rfl (by decide) rfl (by decide) (fun j h1 h2 => absurd h1 (by omega)) rfl
  refine ⟨kk, ?_⟩
  have hkc := bd2 (a := 1) hkc (by decide)
  have hnc := bd2 (a := 256) hnc (by decide)
  refine ⟨bd1 hkc (by decide), bd1 hnc (by decide), fun q hq τ e => ?_⟩
  subst e
  obtain ⟨H, kk⟩ := H.arr (k := 79) (Kd := 14) (N := 256) hq rfl (by decide) rfl (by decide) (fun j h1 h2 => absurd h1 (by omega)) rfl
  refine ⟨kk, ?_⟩
  have hkc := bd2 (a := 1) hkc (by decide)
  have hnc := bd2 (a := 256) hnc (by decide)
  refine ⟨bd1 hkc (by decide), bd1 hnc (by decide), fun q hq τ e => ?_⟩
  subst e
  obtain ⟨H, kk⟩ := H.arr (k := 80) (Kd := 14) (N := 256) hq rfl (by decide) rfl (by decide) (fun j h1 h2 => absurd h1 (by omega)) rfl
  refine ⟨kk, ?_⟩
  have hkc := bd2 (a := 1) hkc (by decide)
  have hnc := bd2 (a := 256) hnc (by decide)
  refine ⟨bd1 hkc (by decide), bd1 hnc (by decide), fun q hq τ e => ?_⟩
  subst e
  obtain ⟨H, kk⟩ := H.arr (k := 82) (Kd := 14) (N := 200) hq rfl (by decide) rfl (by decide) (by decide) rfl
  refine ⟨kk, ?_⟩
  have hkc := bd2 (a := 1) hkc (by decide)
  have hnc := bd2 (a := 200) hnc (by decide)
  exact ref_577 hn hj3 hpt h3 h6 hQ hkc hnc H
theorem ref_467 {p1 p2 : Int32} {Q : Sto → Prop} {j3 j6 : Nat} (hn : n = 3 + 2 * j3) (hj3 : j3 < 3) (hpt : pt = nI (3 + j6)) (h3 : ∀ (σ : Sto) (Q : Int32 → Sto → Prop), Q (nI j3) σ → wp_X12_modulo p1 (3 : Int32) σ Q) (h6 : ∀ (σ : Sto) (Q : Int32 → Sto → Prop), Q (nI j6) σ → wp_X12_modulo p2 (6 : Int32) σ Q) (hQ : ∀ σ', RT n pt m σ0 93 [3, 2, 1, 96, 17, 16] 7 σ' → Q σ') {kc nc : Nat} (hkc : kc + 22 ≤ 77) (hnc : nc + 7212 ≤ 171928) (H : RT n pt m σ0 68 [17, 16] 0 σ) : b_X12_init_467 m Q p1 p2 kc nc σ := by
  refine ⟨bd1 hkc (by decide), bd1 hnc (by decide), fun q hq τ e => ?_⟩
  subst e
  obtain ⟨H, kk⟩ := H.arr (k := 68) (Kd := 14) (N := 4) hq rfl (by decide) rfl (by decide) (fun j h1 h2 => absurd h1 (by omega)) rfl
  refine ⟨kk, ?_⟩
  have hkc := bd2 (a := 1) hkc (by decide)
  have hnc := bd2 (a := 4) hnc (by decide)
  refine ⟨bd1 hkc (by decide), bd1 hnc (by decide), fun q hq τ e => ?_⟩
  subst e
  obtain ⟨H, kk⟩ := H.arr (k := 69) (Kd := 14) (N := 4) hq rfl (by decide) rfl (by decide) (fun j h1 h2 => absurd h1 (by omega)) rfl
  refine ⟨kk, ?_⟩
  have hkc := bd2 (a := 1) hkc (by decide)
  have hnc := bd2 (a := 4) hnc (by decide)
  refine ⟨bd1 hkc (by decide), bd1 hnc (by decide), fun q hq τ e => ?_⟩
  subst e
  obtain ⟨H, kk⟩ := H.arr (k := 70) (Kd := 14) (N := 4) hq rfl (by decide) rfl (by decide) (fun j h1 h2 => absurd h1 (by omega)) rfl
  refine ⟨kk, ?_⟩
  have hkc := bd2 (a := 1) hkc (by decide)
  have hnc := bd2 (a := 4) hnc (by decide)
  refine ⟨bd1 hkc (by decide), bd1 hnc (by decide), fun q hq τ e => ?_⟩
  subst e
  obtain ⟨H, kk⟩ := H.arr (k := 71) (Kd := 14) (N := 4) hq rfl (by decide) rfl (by decide) (fun j h1 h2 => absurd h1 (by omega)) rfl
  refine ⟨kk, ?_⟩
  have hkc := bd2 (a := 1) hkc (by decide)
  have hnc := bd2 (a := 4) hnc (by decide)
  refine ⟨bd1 hkc (by decide), bd1 hnc (by decide), fun q hq τ e => ?_⟩
  subst e
  obtain ⟨H, kk⟩ := H.arr (k := 72) (Kd := 14) (N := 4) hq rfl (by decide) rfl (by decide) (fun j h1 h2 => absurd h1 (by omega)) rfl
  refine ⟨kk, ?_⟩
  have hkc := bd2 (a := 1) hkc (by decide)
  have hnc := bd2 (a := 4) hnc (by decide)
  refine ⟨bd1 hkc (by decide), bd1 hnc (by decide), fun q hq τ e => ?_⟩
  subst e
  obtain ⟨H, kk⟩ := H.arr (k := 73) (Kd := 14) (N := 4) hq rfl (by decide) rfl (by decide) (fun j h1 h2 => absurd h1 (by omega)) rfl
  refine ⟨kk, ?_⟩
  have hkc := bd2 (a := 1) hkc (by decide)
  have hnc := bd2 (a := 4) hnc (by decide)
  refine ⟨bd1 hkc (by decide), bd1 hnc (by decide), fun q hq τ e => ?_⟩
  subst e
  obtain ⟨H, kk⟩ := H.arr (k := 74) (Kd := 14) (N := 4) hq rfl (by decide) rfl (by decide) (fun j h1 h2 => absurd h1 (by omega)) rfl
  refine ⟨kk, ?_⟩
  have hkc := bd2 (a := 1) hkc (by decide)
  have hnc := bd2 (a := 4) hnc (by decide)
  exact ref_516 hn hj3 hpt h3 h6 hQ hkc hnc H
theorem ref_416 {p1 p2 : Int32} {Q : Sto → Prop} {j3 j6 : Nat} (hn : n = 3 + 2 * j3) (hj3 : j3 < 3) (hpt : pt = nI (3 + j6)) (h3 : ∀ (σ : Sto) (Q : Int32 → Sto → Prop), Q (nI j3) σ → wp_X12_modulo p1 (3 : Int32) σ Q) (h6 : ∀ (σ : Sto) (Q : Int32 → Sto → Prop), Q (nI j6) σ → wp_X12_modulo p2 (6 : Int32) σ Q) (hQ : ∀ σ', RT n pt m σ0 93 [3, 2, 1, 96, 17, 16] 7 σ' → Q σ') {kc nc : Nat} (hkc : kc + 29 ≤ 77) (hnc : nc + 7247 ≤ 171928) (H : RT n pt m σ0 61 [17, 16] 0 σ) : b_X12_init_416 m Q p1 p2 kc nc σ := by
  refine ⟨bd1 hkc (by decide), bd1 hnc (by decide), fun q hq τ e => ?_⟩
  subst e
  obtain ⟨H, kk⟩ := H.arr (k := 61) (Kd := 14) (N := 7) hq rfl (by decide) rfl (by decide) (fun j h1 h2 => absurd h1 (by omega)) rfl
  refine ⟨kk, ?_⟩
  have hkc := bd2 (a := 1) hkc (by decide)
  have hnc := bd2 (a := 7) hnc (by decide)
  refine ⟨bd1 hkc (by decide), bd1 hnc (by decide), fun q hq τ e => ?_⟩
  subst e
  obtain ⟨H, kk⟩ := H.arr (k := 62) (Kd := 14) (N := 8) hq rfl (by decide) rfl (by decide) (fun j h1 h2 => absurd h1 (by omega)) rfl
  refine ⟨kk, ?_⟩
  have hkc := bd2 (a := 1) hkc (by decide)
  have hnc := bd2 (a := 8) hnc (by decide)
  refine ⟨bd1 hkc (by decide), bd1 hnc (by decide), fun q hq τ e => ?_⟩
  subst e
  obtain ⟨H, kk⟩ := H.arr (k := 63) (Kd := 14) (N := 4) hq rfl (by decide) rfl (by decide) (fun j h1 h2 => absurd h1 (by omega)) rfl
  refine ⟨kk, ?_⟩
  have hkc := bd2 (a := 1) hkc (by decide)
  have hnc := bd2 (a := 4) hnc (by decide)
  refine ⟨bd1 hkc (by decide), bd1 hnc (by decide), fun q hq τ e => ?_⟩
  subst e
  obtain ⟨H, kk⟩ := H.arr (k := 64) (Kd := 14) (N := 4) hq rfl (by decide) rfl (by decide) (fun j h1 h2 => absurd h1 (by omega)) rfl
  refine ⟨kk, ?_⟩
  have hkc := bd2 (a := 1) hkc (by decide)
  have hnc := bd2 (a := 4) hnc (by decide)
  refine ⟨bd1 hkc (by decide), bd1 hnc (by decide), fun q hq τ e => ?_⟩
  subst e
  obtain ⟨H, kk⟩ := H.arr (k := 65) (Kd := 14) (N := 4) hq rfl (by decide) rfl (by decide) (fun j h1 h2 => absurd h1 (by omega)) rfl
  refine ⟨kk, ?_⟩
  have hkc := bd2 (a := 1) hkc (by decide)
  have hnc := bd2 (a := 4) hnc (by decide)
  refine ⟨bd1 hkc (by decide), bd1 hnc (by decide), fun q hq τ e => ?_⟩
  subst e
  obtain ⟨H, kk⟩ := H.arr (k := 66) (Kd := 16) (N := 4) hq rfl (by decide) rfl (by decide) (fun j h1 h2 => absurd h1 (by omega)) rfl
  refine ⟨kk, ?_⟩
  have hkc := bd2 (a := 1) hkc (by decide)
  have hnc := bd2 (a := 4) hnc (by decide)
  refine ⟨bd1 hkc (by decide), bd1 hnc (by decide), fun q hq τ e => ?_⟩
  subst e
  obtain ⟨H, kk⟩ := H.arr (k := 67) (Kd := 14) (N := 4) hq rfl (by decide) rfl (by decide) (fun j h1 h2 => absurd h1 (by omega)) rfl
  refine ⟨kk, ?_⟩
  have hkc := bd2 (a := 1) hkc (by decide)
  have hnc := bd2 (a := 4) hnc (by decide)
  exact ref_467 hn hj3 hpt h3 h6 hQ hkc hnc H
theorem ref_357 {p1 p2 : Int32} {Q : Sto → Prop} {j3 j6 : Nat} (hn : n = 3 + 2 * j3) (hj3 : j3 < 3) (hpt : pt = nI (3 + j6)) (h3 : ∀ (σ : Sto) (Q : Int32 → Sto → Prop), Q (nI j3) σ → wp_X12_modulo p1 (3 : Int32) σ Q) (h6 : ∀ (σ : Sto) (Q : Int32 → Sto → Prop), Q (nI j6) σ → wp_X12_modulo p2 (6 : Int32) σ Q) (hQ : ∀ σ', RT n pt m σ0 93 [3, 2, 1, 96, 17, 16] 7 σ' → Q σ') {kc nc : Nat} (hkc : kc + 36 ≤ 77) (hnc : nc + 21975 ≤ 171928) (H : RT n pt m σ0 54 [17, 16] 0 σ) : b_X12_init_357 m Q p1 p2 kc nc σ := by
  refine ⟨bd1 hkc (by decide), bd1 hnc (by decide), fun q hq τ e => ?_⟩
  subst e
  obtain ⟨H, kk⟩ := H.arr (k := 54) (Kd := 14) (N := 4900) hq rfl (by decide) rfl (by decide) (fun j h1 h2 => absurd h1 (by omega)) rfl
  refine ⟨kk, ?_⟩
  have hkc := bd2 (a := 1) hkc (by decide)
  have hnc := bd2 (a := 4900) hnc (by decide)
  refine ⟨bd1 hkc (by decide), bd1 hnc (by decide), fun q hq τ e => ?_⟩
  subst e
  obtain ⟨H, kk⟩ := H.arr (k := 55) (Kd := 14) (N := 4900) hq rfl (by decide) rfl (by decide) (fun j h1 h2 => absurd h1 (by omega)) rfl
  refine ⟨kk, ?_⟩
  have hkc := bd2 (a := 1) hkc (by decide)
  have hnc := bd2 (a := 4900) hnc (by decide)
  refine ⟨bd1 hkc (by decide), bd1 hnc (by decide), fun q hq τ e => ?_⟩
  subst e
  obtain ⟨H, kk⟩ := H.arr (k := 56) (Kd := 14) (N := 4900) hq rfl (by decide) rfl (by decide) (fun j h1 h2 => absurd h1 (by omega)) rfl
  refine ⟨kk, ?_⟩
  have hkc := bd2 (a := 1) hkc (by decide)
  have hnc := bd2 (a := 4900) hnc (by decide)
  refine ⟨bd1 hkc (by decide), bd1 hnc (by decide), fun q hq τ e => ?_⟩
  subst e
  obtain ⟨H, kk⟩ := H.arr (k := 57) (Kd := 14) (N := 7) hq rfl (by decide) rfl (by decide) (fun j h1 h2 => absurd h1 (by omega)) rfl
  refine ⟨kk, ?_⟩
  have hkc := bd2 (a := 1) hkc (by decide)
  have hnc := bd2 (a := 7) hnc (by decide)
  refine ⟨bd1 hkc (by decide), bd1 hnc (by decide), fun q hq τ e => ?_⟩
  subst e
  obtain ⟨H, kk⟩ := H.arr (k := 58) (Kd := 14) (N := 7) hq rfl (by decide) rfl (by decide) (fun j h1 h2 => absurd h1 (by omega)) rfl
  refine ⟨kk, ?_⟩
  have hkc := bd2 (a := 1) hkc (by decide)
  have hnc := bd2 (a := 7) hnc (by decide)
  refine ⟨bd1 hkc (by decide), bd1 hnc (by decide), fun q hq τ e => ?_⟩
  subst e
  obtain ⟨H, kk⟩ := H.arr (k := 59) (Kd := 14) (N := 7) hq rfl (by decide) rfl (by decide) (fun j h1 h2 => absurd h1 (by omega)) rfl
  refine ⟨kk, ?_⟩
  have hkc := bd2 (a := 1) hkc (by decide)
  have hnc := bd2 (a := 7) hnc (by decide)
  refine ⟨bd1 hkc (by decide), bd1 hnc (by decide), fun q hq τ e => ?_⟩
  subst e
  obtain ⟨H, kk⟩ := H.arr (k := 60) (Kd := 14) (N := 7) hq rfl (by decide) rfl (by decide) (fun j h1 h2 => absurd h1 (by omega)) rfl
  refine ⟨kk, ?_⟩
  have hkc := bd2 (a := 1) hkc (by decide)
  have hnc := bd2 (a := 7) hnc (by decide)
  exact ref_416 hn hj3 hpt h3 h6 hQ hkc hnc H
theorem ref_298 {p1 p2 : Int32} {Q : Sto → Prop} {j3 j6 : Nat} (hn : n = 3 + 2 * j3) (hj3 : j3 < 3) (hpt : pt = nI (3 + j6)) (h3 : ∀ (σ : Sto) (Q : Int32 → Sto → Prop), Q (nI j3) σ → wp_X12_modulo p1 (3 : Int32) σ Q) (h6 : ∀ (σ : Sto) (Q : Int32 → Sto → Prop), Q (nI j6) σ → wp_X12_modulo p2 (6 : Int32) σ Q) (hQ : ∀ σ', RT n pt m σ0 93 [3, 2, 1, 96, 17, 16] 7 σ' → Q σ') {kc nc : Nat} (hkc : kc + 43 ≤ 77) (hnc : nc + 36871 ≤ 171928) (H : RT n pt m σ0 47 [17, 16] 0 σ) : b_X12_init_298 m Q p1 p2 kc nc σ := by
  refine ⟨bd1 hkc (by decide), bd1 hnc (by decide), fun q hq τ e => ?_⟩
  subst e
  obtain ⟨H, kk⟩ := H.arr (k := 47) (Kd := 14) (N := 49) hq rfl (by decide) rfl (by decide) (fun j h1 h2 => absurd h1 (by omega)) rfl
  refine ⟨kk, ?_⟩
  have hkc := bd2 (a := 1) hkc (by decide)
  have hnc := bd2 (a := 49) hnc (by decide)
  refine ⟨bd1 hkc (by decide), bd1 hnc (by decide), fun q hq τ e => ?_⟩
  subst e
  obtain ⟨H, kk⟩ := H.arr (k := 48) (Kd := 14) (N := 49) hq rfl (by decide) rfl (by decide) (fun j h1 h2 => absurd h1 (by omega)) rfl
  refine ⟨kk, ?_⟩
  have hkc := bd2 (a := 1) hkc (by decide)
  have hnc := bd2 (a := 49) hnc (by decide)
  refine ⟨bd1 hkc (by decide), bd1 hnc (by decide), fun q hq τ e => ?_⟩
  subst e
  obtain ⟨H, kk⟩ := H.arr (k := 49) (Kd := 14) (N := 49) hq rfl (by decide) rfl (by decide) (fun j h1 h2 => absurd h1 (by omega)) rfl
  refine ⟨kk, ?_⟩
  have hkc := bd2 (a := 1) hkc (by decide)
  have hnc := bd2 (a := 49) hnc (by decide)
  refine ⟨bd1 hkc (by decide), bd1 hnc (by decide), fun q hq τ e => ?_⟩
  subst e
  obtain ⟨H, kk⟩ := H.arr (k := 50) (Kd := 14) (N := 49) hq rfl (by decide) rfl (by decide) (fun j h1 h2 => absurd h1 (by omega)) rfl
  refine ⟨kk, ?_⟩
  have hkc := bd2 (a := 1) hkc (by decide)
  have hnc := bd2 (a := 49) hnc (by decide)
  refine ⟨bd1 hkc (by decide), bd1 hnc (by decide), fun q hq τ e => ?_⟩
  subst e
  obtain ⟨H, kk⟩ := H.arr (k := 51) (Kd := 16) (N := 4900) hq rfl (by decide) rfl (by decide) (fun j h1 h2 => absurd h1 (by omega)) rfl
  refine ⟨kk, ?_⟩
  have hkc := bd2 (a := 1) hkc (by decide)
  have hnc := bd2 (a := 4900) hnc (by decide)
  refine ⟨bd1 hkc (by decide), bd1 hnc (by decide), fun q hq τ e => ?_⟩
  subst e
  obtain ⟨H, kk⟩ := H.arr (k := 52) (Kd := 14) (N := 4900) hq rfl (by decide) rfl (by decide) (fun j h1 h2 => absurd h1 (by omega)) rfl
  refine ⟨kk, ?_⟩
  have hkc := bd2 (a := 1) hkc (by decide)
  have hnc := bd2 (a := 4900) hnc (by decide)
  refine ⟨bd1 hkc (by decide), bd1 hnc (by decide), fun q hq τ e => ?_⟩
  subst e
  obtain ⟨H, kk⟩ := H.arr (k := 53) (Kd := 14) (N := 4900) hq rfl (by decide) rfl (by decide) (fun j h1 h2 => absurd h1 (by omega)) rfl
  refine ⟨kk, ?_⟩
  have hkc := bd2 (a := 1) hkc (by decide)
  have hnc := bd2 (a := 4900) hnc (by decide)
  exact ref_357 hn hj3 hpt h3 h6 hQ hkc hnc H
theorem ref_242 {p1 p2 : Int32} {Q : Sto → Prop} {j3 j6 : Nat} (hn : n = 3 + 2 * j3) (hj3 : j3 < 3) (hpt : pt = nI (3 + j6)) (h3 : ∀ (σ : Sto) (Q : Int32 → Sto → Prop), Q (nI j3) σ → wp_X12_modulo p1 (3 : Int32) σ Q) (h6 : ∀ (σ : Sto) (Q : Int32 → Sto → Prop), Q (nI j6) σ → wp_X12_modulo p2 (6 : Int32) σ Q) (hQ : ∀ σ', RT n pt m σ0 93 [3, 2, 1, 96, 17, 16] 7 σ' → Q σ') {kc nc : Nat} (hkc : kc + 50 ≤ 77) (hnc : nc + 37235 ≤ 171928) (H : RT n pt m σ0 40 [17, 16] 0 σ) : b_X12_init_242 m Q p1 p2 kc nc σ := by
  refine ⟨bd1 hkc (by decide), bd1 hnc (by decide), fun q hq τ e => ?_⟩
  subst e
  obtain ⟨H, kk⟩ := H.arr (k := 40) (Kd := 14) (N := 112) hq rfl (by decide) rfl (by decide) (fun j h1 h2 => absurd h1 (by omega)) rfl
  refine ⟨kk, ?_⟩
  have hkc := bd2 (a := 1) hkc (by decide)
  have hnc := bd2 (a := 112) hnc (by decide)
  refine ⟨bd1 hkc (by decide), bd1 hnc (by decide), fun q hq τ e => ?_⟩
  subst e
  obtain ⟨H, kk⟩ := H.arr (k := 41) (Kd := 14) (N := 112) hq rfl (by decide) rfl (by decide) (fun j h1 h2 => absurd h1 (by omega)) rfl
  refine ⟨kk, ?_⟩
  have hkc := bd2 (a := 1) hkc (by decide)
  have hnc := bd2 (a := 112) hnc (by decide)
  refine ⟨bd1 hkc (by decide), bd1 hnc (by decide), fun q hq τ e => ?_⟩
  subst e
  obtain ⟨H, kk⟩ := H.arr (k := 42) (Kd := 14) (N := 112) hq rfl (by decide) rfl (by decide) (fun j h1 h2 => absurd h1 (by omega)) rfl
  refine ⟨kk, ?_⟩
  have hkc := bd2 (a := 1) hkc (by decide)
  have hnc := bd2 (a := 112) hnc (by decide)
  refine ⟨bd1 hkc (by decide), bd1 hnc (by decide), fun q hq τ e => ?_⟩
  subst e
  obtain ⟨H, kk⟩ := H.arr (k := 43) (Kd := 14) (N := 7) hq rfl (by decide) rfl (by decide) (fun j h1 h2 => absurd h1 (by omega)) rfl
  refine ⟨kk, ?_⟩
  have hkc := bd2 (a := 1) hkc (by decide)
  have hnc := bd2 (a := 7) hnc (by decide)
  refine ⟨bd1 hkc (by decide), bd1 hnc (by decide), fun q hq τ e => ?_⟩
  subst e
  obtain ⟨H, kk⟩ := H.arr (k := 44) (Kd := 14) (N := 7) hq rfl (by decide) rfl (by decide) (fun j h1 h2 => absurd h1 (by omega)) rfl
  refine ⟨kk, ?_⟩
  have hkc := bd2 (a := 1) hkc (by decide)
  have hnc := bd2 (a := 7) hnc (by decide)
  refine ⟨bd1 hkc (by decide), bd1 hnc (by decide), fun q hq τ e => ?_⟩
  subst e
  obtain ⟨H, kk⟩ := H.arr (k := 45) (Kd := 14) (N := 7) hq rfl (by decide) rfl (by decide) (fun j h1 h2 => absurd h1 (by omega)) rfl
  refine ⟨kk, ?_⟩
  have hkc := bd2 (a := 1) hkc (by decide)
  have hnc := bd2 (a := 7) hnc (by decide)
  refine ⟨bd1 hkc (by decide), bd1 hnc (by decide), fun q hq τ e => ?_⟩
  subst e
  obtain ⟨H, kk⟩ := H.arr (k := 46) (Kd := 14) (N := 7) hq rfl (by decide) rfl (by decide) (fun j h1 h2 => absurd h1 (by omega)) rfl
  refine ⟨kk, ?_⟩
  have hkc := bd2 (a := 1) hkc (by decide)
  have hnc := bd2 (a := 7) hnc (by decide)
  exact ref_298 hn hj3 hpt h3 h6 hQ hkc hnc H
theorem ref_183 {p1 p2 : Int32} {Q : Sto → Prop} {j3 j6 : Nat} (hn : n = 3 + 2 * j3) (hj3 : j3 < 3) (hpt : pt = nI (3 + j6)) (h3 : ∀ (σ : Sto) (Q : Int32 → Sto → Prop), Q (nI j3) σ → wp_X12_modulo p1 (3 : Int32) σ Q) (h6 : ∀ (σ : Sto) (Q : Int32 → Sto → Prop), Q (nI j6) σ → wp_X12_modulo p2 (6 : Int32) σ Q) (hQ : ∀ σ', RT n pt m σ0 93 [3, 2, 1, 96, 17, 16] 7 σ' → Q σ') {kc nc : Nat} (hkc : kc + 57 ≤ 77) (hnc : nc + 39678 ≤ 171928) (H : RT n pt m σ0 33 [17, 16] 0 σ) : b_X12_init_183 m Q p1 p2 kc nc σ := by
  refine ⟨bd1 hkc (by decide), bd1 hnc (by decide), fun q hq τ e => ?_⟩
  subst e
  obtain ⟨H, kk⟩ := H.arr (k := 33) (Kd := 14) (N := 700) hq rfl (by decide) rfl (by decide) (fun j h1 h2 => absurd h1 (by omega)) rfl
  refine ⟨kk, ?_⟩
  have hkc := bd2 (a := 1) hkc (by decide)
  have hnc := bd2 (a := 700) hnc (by decide)
  refine ⟨bd1 hkc (by decide), bd1 hnc (by decide), fun q hq τ e => ?_⟩
  subst e
  obtain ⟨H, kk⟩ := H.arr (k := 34) (Kd := 14) (N := 700) hq rfl (by decide) rfl (by decide) (fun j h1 h2 => absurd h1 (by omega)) rfl
  refine ⟨kk, ?_⟩
  have hkc := bd2 (a := 1) hkc (by decide)
  have hnc := bd2 (a := 700) hnc (by decide)
  refine ⟨bd1 hkc (by decide), bd1 hnc (by decide), fun q hq τ e => ?_⟩
  subst e
  obtain ⟨H, kk⟩ := H.arr (k := 35) (Kd := 14) (N := 700) hq rfl (by decide) rfl (by decide) (fun j h1 h2 => absurd h1 (by omega)) rfl
  refine ⟨kk, ?_⟩
  have hkc := bd2 (a := 1) hkc (by decide)
  have hnc := bd2 (a := 700) hnc (by decide)
  refine ⟨bd1 hkc (by decide), bd1 hnc (by decide), fun q hq τ e => ?_⟩
  subst e
  obtain ⟨H, kk⟩ := H.arr (k := 36) (Kd := 14) (N := 7) hq rfl (by decide) rfl (by decide) (fun j h1 h2 => absurd h1 (by omega)) rfl
  refine ⟨kk, ?_⟩
  have hkc := bd2 (a := 1) hkc (by decide)
  have hnc := bd2 (a := 7) hnc (by decide)
  refine ⟨bd1 hkc (by decide), bd1 hnc (by decide), fun q hq τ e => ?_⟩
  subst e
  obtain ⟨H, kk⟩ := H.arr (k := 37) (Kd := 14) (N := 112) hq rfl (by decide) rfl (by decide) (fun j h1 h2 => absurd h1 (by omega)) rfl
  refine ⟨kk, ?_⟩
  have hkc := bd2 (a := 1) hkc (by decide)
  have hnc := bd2 (a := 112) hnc (by decide)
  refine ⟨bd1 hkc (by decide), bd1 hnc (by decide), fun q hq τ e => ?_⟩
  subst e
  obtain ⟨H, kk⟩ := H.arr (k := 38) (Kd := 14) (N := 112) hq rfl (by decide) rfl (by decide) (fun j h1 h2 => absurd h1 (by omega)) rfl
  refine ⟨kk, ?_⟩
  have hkc := bd2 (a := 1) hkc (by decide)
  have hnc := bd2 (a := 112) hnc (by decide)
  refine ⟨bd1 hkc (by decide), bd1 hnc (by decide), fun q hq τ e => ?_⟩
  subst e
  obtain ⟨H, kk⟩ := H.arr (k := 39) (Kd := 14) (N := 112) hq rfl (by decide) rfl (by decide) (fun j h1 h2 => absurd h1 (by omega)) rfl
  refine ⟨kk, ?_⟩
  have hkc := bd2 (a := 1) hkc (by decide)
  have hnc := bd2 (a := 112) hnc (by decide)
  exact ref_242 hn hj3 hpt h3 h6 hQ hkc hnc H
theorem ref_124 {p1 p2 : Int32} {Q : Sto → Prop} {j3 j6 : Nat} (hn : n = 3 + 2 * j3) (hj3 : j3 < 3) (hpt : pt = nI (3 + j6)) (h3 : ∀ (σ : Sto) (Q : Int32 → Sto → Prop), Q (nI j3) σ → wp_X12_modulo p1 (3 : Int32) σ Q) (h6 : ∀ (σ : Sto) (Q : Int32 → Sto → Prop), Q (nI j6) σ → wp_X12_modulo p2 (6 : Int32) σ Q) (hQ : ∀ σ', RT n pt m σ0 93 [3, 2, 1, 96, 17, 16] 7 σ' → Q σ') {kc nc : Nat} (hkc : kc + 64 ≤ 77) (hnc : nc + 41806 ≤ 171928) (H : RT n pt m σ0 26 [17, 16] 0 σ) : b_X12_init_124 m Q p1 p2 kc nc σ := by
  refine ⟨bd1 hkc (by decide), bd1 hnc (by decide), fun q hq τ e => ?_⟩
  subst e
  obtain ⟨H, kk⟩ := H.arr (k := 26) (Kd := 14) (N := 7) hq rfl (by decide) rfl (by decide) (fun j h1 h2 => absurd h1 (by omega)) rfl
  refine ⟨kk, ?_⟩
  have hkc := bd2 (a := 1) hkc (by decide)
  have hnc := bd2 (a := 7) hnc (by decide)
  refine ⟨bd1 hkc (by decide), bd1 hnc (by decide), fun q hq τ e => ?_⟩
  subst e
  obtain ⟨H, kk⟩ := H.arr (k := 27) (Kd := 14) (N := 7) hq rfl (by decide) rfl (by decide) (fun j h1 h2 => absurd h1 (by omega)) rfl
  refine ⟨kk, ?_⟩
  have hkc := bd2 (a := 1) hkc (by decide)
  have hnc := bd2 (a := 7) hnc (by decide)
  refine ⟨bd1 hkc (by decide), bd1 hnc (by decide), fun q hq τ e => ?_⟩
  subst e
  obtain ⟨H, kk⟩ := H.arr (k := 28) (Kd := 14) (N := 7) hq rfl (by decide) rfl (by decide) (fun j h1 h2 => absurd h1 (by omega)) rfl
  refine ⟨kk, ?_⟩
  have hkc := bd2 (a := 1) hkc (by decide)
  have hnc := bd2 (a := 7) hnc (by decide)
  refine ⟨bd1 hkc (by decide), bd1 hnc (by decide), fun q hq τ e => ?_⟩
  subst e
  obtain ⟨H, kk⟩ := H.arr (k := 29) (Kd := 14) (N := 7) hq rfl (by decide) rfl (by decide) (fun j h1 h2 => absurd h1 (by omega)) rfl
  refine ⟨kk, ?_⟩
  have hkc := bd2 (a := 1) hkc (by decide)
  have hnc := bd2 (a := 7) hnc (by decide)
  refine ⟨bd1 hkc (by decide), bd1 hnc (by decide), fun q hq τ e => ?_⟩
  subst e
  obtain ⟨H, kk⟩ := H.arr (k := 30) (Kd := 16) (N := 700) hq rfl (by decide) rfl (by decide) (fun j h1 h2 => absurd h1 (by omega)) rfl
  refine ⟨kk, ?_⟩
  have hkc := bd2 (a := 1) hkc (by decide)
  have hnc := bd2 (a := 700) hnc (by decide)
  refine ⟨bd1 hkc (by decide), bd1 hnc (by decide), fun q hq τ e => ?_⟩
  subst e
  obtain ⟨H, kk⟩ := H.arr (k := 31) (Kd := 14) (N := 700) hq rfl (by decide) rfl (by decide) (fun j h1 h2 => absurd h1 (by omega)) rfl
  refine ⟨kk, ?_⟩
  have hkc := bd2 (a := 1) hkc (by decide)
  have hnc := bd2 (a := 700) hnc (by decide)
  refine ⟨bd1 hkc (by decide), bd1 hnc (by decide), fun q hq τ e => ?_⟩
  subst e
  obtain ⟨H, kk⟩ := H.arr (k := 32) (Kd := 14) (N := 700) hq rfl (by decide) rfl (by decide) (fun j h1 h2 => absurd h1 (by omega)) rfl
  refine ⟨kk, ?_⟩
  have hkc := bd2 (a := 1) hkc (by decide)
  have hnc := bd2 (a := 700) hnc (by decide)
  exact ref_183 hn hj3 hpt h3 h6 hQ hkc hnc H
theorem ref_66 {p1 p2 : Int32} {Q : Sto → Prop} {j3 j6 : Nat} (hn : n = 3 + 2 * j3) (hj3 : j3 < 3) (hpt : pt = nI (3 + j6)) (h3 : ∀ (σ : Sto) (Q : Int32 → Sto → Prop), Q (nI j3) σ → wp_X12_modulo p1 (3 : Int32) σ Q) (h6 : ∀ (σ : Sto) (Q : Int32 → Sto → Prop), Q (nI j6) σ → wp_X12_modulo p2 (6 : Int32) σ Q) (hQ : ∀ σ', RT n pt m σ0 93 [3, 2, 1, 96, 17, 16] 7 σ' → Q σ') {kc nc : Nat} (hkc : kc + 70 ≤ 77) (hnc : nc + 41848 ≤ 171928) (H : RT n pt m σ0 16 [] 0 σ) : b_X12_init_66 m Q p1 p2 kc nc σ := by
  refine ⟨H.K, ?_⟩
  have H := H.int (k := 16) (v := 1) rfl rfl
  have H := H.int (k := 17) (v := 1) rfl rfl
  refine ⟨bd1 hkc (by decide), bd1 hnc (by decide), fun q hq τ e => ?_⟩
  subst e
  obtain ⟨H, kk⟩ := H.arr (k := 20) (Kd := 16) (N := 7) hq rfl (by decide) rfl (by decide) (by decide) rfl
  refine ⟨kk, ?_⟩
  have hkc := bd2 (a := 1) hkc (by decide)
  have hnc := bd2 (a := 7) hnc (by decide)
  refine ⟨bd1 hkc (by decide), bd1 hnc (by decide), fun q hq τ e => ?_⟩
  subst e
  obtain ⟨H, kk⟩ := H.arr (k := 21) (Kd := 14) (N := 7) hq rfl (by decide) rfl (by decide) (fun j h1 h2 => absurd h1 (by omega)) rfl
  refine ⟨kk, ?_⟩
  have hkc := bd2 (a := 1) hkc (by decide)
  have hnc := bd2 (a := 7) hnc (by decide)
  refine ⟨bd1 hkc (by decide), bd1 hnc (by decide), fun q hq τ e => ?_⟩
  subst e
  obtain ⟨H, kk⟩ := H.arr (k := 22) (Kd := 14) (N := 7) hq rfl (by decide) rfl (by decide) (fun j h1 h2 => absurd h1 (by omega)) rfl
  refine ⟨kk, ?_⟩
  have hkc := bd2 (a := 1) hkc (by decide)
  have hnc := bd2 (a := 7) hnc (by decide)
  refine ⟨bd1 hkc (by decide), bd1 hnc (by decide), fun q hq τ e => ?_⟩
  subst e
  obtain ⟨H, kk⟩ := H.arr (k := 23) (Kd := 14) (N := 7) hq rfl (by decide) rfl (by decide) (fun j h1 h2 => absurd h1 (by omega)) rfl
  refine ⟨kk, ?_⟩
  have hkc := bd2 (a := 1) hkc (by decide)
  have hnc := bd2 (a := 7) hnc (by decide)
  refine ⟨bd1 hkc (by decide), bd1 hnc (by decide), fun q hq τ e => ?_⟩
  subst e
  obtain ⟨H, kk⟩ := H.arr (k := 24) (Kd := 14) (N := 7) hq rfl (by decide) rfl (by decide) (fun j h1 h2 => absurd h1 (by omega)) rfl
  refine ⟨kk, ?_⟩
  have hkc := bd2 (a := 1) hkc (by decide)
  have hnc := bd2 (a := 7) hnc (by decide)
  refine ⟨bd1 hkc (by decide), bd1 hnc (by decide), fun q hq τ e => ?_⟩
  subst e
  obtain ⟨H, kk⟩ := H.arr (k := 25) (Kd := 14) (N := 7) hq rfl (by decide) rfl (by decide) (fun j h1 h2 => absurd h1 (by omega)) rfl
  refine ⟨kk, ?_⟩
  have hkc := bd2 (a := 1) hkc (by decide)
  have hnc := bd2 (a := 7) hnc (by decide)
  exact ref_124 hn hj3 hpt h3 h6 hQ hkc hnc H
theorem ref_init {p1 p2 : Int32} {Q : Sto → Prop} {j3 j6 : Nat} (hn : n = 3 + 2 * j3) (hj3 : j3 < 3) (hpt : pt = nI (3 + j6)) (h3 : ∀ (σ : Sto) (Q : Int32 → Sto → Prop), Q (nI j3) σ → wp_X12_modulo p1 (3 : Int32) σ Q) (h6 : ∀ (σ : Sto) (Q : Int32 → Sto → Prop), Q (nI j6) σ → wp_X12_modulo p2 (6 : Int32) σ Q) (hQ : ∀ σ', RT n pt m σ0 93 [3, 2, 1, 96, 17, 16] 7 σ' → Q σ') (H : RT n pt m σ0 0 [] 0 σ) : wp_X12_init m p1 p2 σ Q := by
  have hkc : 0 + 77 ≤ 77 := by decide
  have hnc : 0 + 171928 ≤ 171928 := by decide
  refine ⟨bd1 hkc (by decide), bd1 hnc (by decide), fun q hq τ e => ?_⟩
  subst e
  obtain ⟨H, kk⟩ := H.arr (k := 5) (Kd := 14) (N := 200) hq rfl (by decide) rfl (by decide) (by decide) rfl
  refine ⟨kk, ?_⟩
  have hkc := bd2 (a := 1) hkc (by decide)
  have hnc := bd2 (a := 200) hnc (by decide)
  refine ⟨bd1 hkc (by decide), bd1 hnc (by decide), fun q hq τ e => ?_⟩
  subst e
  obtain ⟨H, kk⟩ := H.arr (k := 9) (Kd := 16) (N := 200) hq rfl (by decide) rfl (by decide) (by decide) rfl
  refine ⟨kk, ?_⟩
  have hkc := bd2 (a := 1) hkc (by decide)
  have hnc := bd2 (a := 200) hnc (by decide)
  refine ⟨bd1 hkc (by decide), bd1 hnc (by decide), fun q hq τ e => ?_⟩
  subst e
  obtain ⟨H, kk⟩ := H.arr (k := 10) (Kd := 14) (N := 128000) hq rfl (by decide) rfl (by decide) (fun j h1 h2 => absurd h1 (by omega)) rfl
  refine ⟨kk, ?_⟩
  have hkc := bd2 (a := 1) hkc (by decide)
  have hnc := bd2 (a := 128000) hnc (by decide)
  refine ⟨bd1 hkc (by decide), bd1 hnc (by decide), fun q hq τ e => ?_⟩
  subst e
  obtain ⟨H, kk⟩ := H.arr (k := 11) (Kd := 14) (N := 200) hq rfl (by decide) rfl (by decide) (fun j h1 h2 => absurd h1 (by omega)) rfl
  refine ⟨kk, ?_⟩
  have hkc := bd2 (a := 1) hkc (by decide)
  have hnc := bd2 (a := 200) hnc (by decide)
  refine ⟨bd1 hkc (by decide), bd1 hnc (by decide), fun q hq τ e => ?_⟩
  subst e
  obtain ⟨H, kk⟩ := H.arr (k := 12) (Kd := 14) (N := 200) hq rfl (by decide) rfl (by decide) (fun j h1 h2 => absurd h1 (by omega)) rfl
  refine ⟨kk, ?_⟩
  have hkc := bd2 (a := 1) hkc (by decide)
  have hnc := bd2 (a := 200) hnc (by decide)
  refine ⟨bd1 hkc (by decide), bd1 hnc (by decide), fun q hq τ e => ?_⟩
  subst e
  obtain ⟨H, kk⟩ := H.arr (k := 13) (Kd := 14) (N := 640) hq rfl (by decide) rfl (by decide) (fun j h1 h2 => absurd h1 (by omega)) rfl
  refine ⟨kk, ?_⟩
  have hkc := bd2 (a := 1) hkc (by decide)
  have hnc := bd2 (a := 640) hnc (by decide)
  refine ⟨bd1 hkc (by decide), bd1 hnc (by decide), fun q hq τ e => ?_⟩
  subst e
  obtain ⟨H, kk⟩ := H.arr (k := 15) (Kd := 14) (N := 640) hq rfl (by decide) rfl (by decide) (by decide) rfl
  refine ⟨kk, ?_⟩
  have hkc := bd2 (a := 1) hkc (by decide)
  have hnc := bd2 (a := 640) hnc (by decide)
  exact ref_66 hn hj3 hpt h3 h6 hQ hkc hnc H
end
