/-! The law: the whole -/
section
variable {n m po K K2 : Nat} {ad aa : Nat → Nat → Nat} {adx : Nat → Nat} {σ σ2 τ : Sto} {Y Y2 : Yc} {X X2 : Xc}
variable {L i kc nc : Nat} {xs : Nat → Int32} {R : Option Nat × Option Nat × Option Nat × Int32 × Nat × Nat → Sto → Prop} {Q : Int32 → Sto → Prop}
theorem Lw_request {G : Int32 → Sto → Prop} {C D : Sto → Prop} {B : Prop} (T : St n ad aa m adx po σ Y X) (S : Sim n K Y X) (hK : K + 2 < 1073741824) (p1 p2 p3 p4 : Int32) (hB : B)
    (g : ∀ k σ1, sK σ1 m = 12 → wp_X12_request m p1 p2 p3 p4 σ1 (fun r σ2 => sK σ2 m = 12 ∧ (B ∧ wp_X12_thrown m σ2 (fun t σ3 => FinV C D (some po) k r t σ3))) → G k σ1) (c : ∀ σ1 Y1 X1, St n ad aa m adx po σ1 Y1 X1 → Sim n (K + 2) Y1 X1 → C σ1) : wp_L_request (some (ad 11 0)) p1 p2 p3 p4 (some po) σ G := by
  refine ⟨ad 11 0, rfl, T.k11, ?_⟩
  rcases request_call S T.1 hK p1 p2 p3 p4 with ⟨v, X2, rx, c0, ry⟩ | ⟨e, v, X2, rx, c0, S2, ry⟩
  · refine ry _ _ (fun σ' Y' hR F S2 => ?_)
    have T1 := T.cls hR F
    have T2 := T1.out (0 : Int32).toNatClampNeg v.toInt64
    refine ⟨po, rfl, T1.k15, T1.v0, g _ _ T2.k12 (x_X12_request T2.2.1 (rx (fun s Z => s = v ∧ Z = X2) ⟨rfl, rfl⟩) (fun s σ'' X' q hR' F' => ?_))⟩
    obtain ⟨rfl, rfl⟩ := q
    have T3 := T2.ref hR' F'
    refine ⟨T3.k12, hB, T3.k12, fun x2 e2 => ?_⟩
    have e2 : x2 = 0 := e2.trans ((hR'.2.1 0).trans c0)
    subst e2
    refine ⟨fun _ => ⟨fun q => absurd rfl q, fun _ => ⟨po, rfl, T3.k15, T3.v0, fun y ey => ⟨fun _ => c _ _ _ T3 S2, fun q => absurd ?_ q⟩⟩⟩, fun q => absurd rfl q⟩
    rw [F'.2.2.1] at ey
    have ey : y = s.toInt64 := ey.trans (up2_self _ _ _ _)
    rw [ey]
    exact lg0.mpr rfl
  · refine ry _ _ (fun σ' hR F => ?_)
    have T1 := T.cls hR F
    have cn : ¬ X2.1 0 = 0 := fun q => by
      rcases c0 with ⟨_, h⟩ | ⟨_, h⟩ | ⟨_, h⟩ <;> rw [h] at q <;> exact absurd q (by decide)
    have hG : G (X2.1 0) σ' := by
      refine g _ _ T1.k12 (x_X12_request T1.2.1 (rx (fun s Z => s = v ∧ Z = X2) ⟨rfl, rfl⟩) (fun s σ'' X' q hR' F' => ?_))
      obtain ⟨rfl, rfl⟩ := q
      have T3 := T1.ref hR' F'
      refine ⟨T3.k12, hB, T3.k12, fun x2 e2 => ?_⟩
      have e2 : x2 = X'.1 0 := e2.trans (hR'.2.1 0)
      subst e2
      exact ⟨fun _ => ⟨fun _ => c _ _ _ T3 S2, fun q => absurd q cn⟩, fun q => absurd rfl q⟩
    rcases c0 with ⟨rfl, h⟩ | ⟨rfl, h⟩ | ⟨rfl, h⟩ <;> rw [h] at hG
    · exact ⟨fun _ => hG, fun q => absurd q (by decide), fun q => absurd q (by decide)⟩
    · exact ⟨fun q => absurd q (by decide), fun _ => hG, fun q => absurd q (by decide)⟩
    · exact ⟨fun q => absurd q (by decide), fun q => absurd q (by decide), fun _ => hG⟩
theorem law_request (T : St n ad aa m adx po σ Y X) (S : Sim n K Y X) (hK : K + 5000 < 1073741824) (hi : i + 5 ≤ L) (hL : L ≤ 322) (hkc : kc + 1 ≤ 600128) (hnc : nc + 6 ≤ 7301064) (nx : Nxt n ad aa m adx po K L xs R Q i kc nc) : b_L_law_196 L xs R Q (some (ad 11 0)) (some m) (some po) (nI i) kc nc σ := by
  intro x1 e1
  obtain ⟨v1, c1⟩ := argI (j := 1) e1 (by omega : i + 1 < L) hL
  refine ⟨v1, fun y1 f1 => ?_⟩
  rw [c1] at f1
  subst f1
  intro x2 e2
  obtain ⟨v2, c2⟩ := argI (j := 2) e2 (by omega : i + 2 < L) hL
  refine ⟨v2, fun y2 f2 => ?_⟩
  rw [c2] at f2
  subst f2
  intro x3 e3
  obtain ⟨v3, c3⟩ := argI (j := 3) e3 (by omega : i + 3 < L) hL
  refine ⟨v3, fun y3 f3 => ?_⟩
  rw [c3] at f3
  subst f3
  intro x4 e4
  obtain ⟨v4, c4⟩ := argI (j := 4) e4 (by omega : i + 4 < L) hL
  refine ⟨v4, fun y4 f4 => ?_⟩
  rw [c4] at f4
  subst f4
  refine ⟨⟨hkc, hnc⟩, Lw_request (B := (kc + 1) ≤ 600128 ∧ (nc + 6) ≤ 7301064) (C := fun σ9 => b_L_law_1369 L xs R Q (some (ad 11 0)) (some m) (some po) (nI i) (kc + 1) (nc + 6) σ9) (D := fun σ9 => ((kc + 1) ≤ 600128 ∧ (nc + 6) ≤ 7301064) ∧ Q (0 : Int32) σ9) T S (by omega) (xs (i + 1)) (xs (i + 2)) (xs (i + 3)) (xs (i + 4)) ⟨hkc, hnc⟩ (fun r σ9 hk h => ?_) (fun σ9 Y9 X9 T9 S9 => nx _ _ _ _ _ _ T9 S9 (by omega) (by omega) (by omega))⟩
  intro z1 d1
  obtain ⟨u1, b1⟩ := argI (j := 1) d1 (by omega : i + 1 < L) hL
  refine ⟨u1, fun w1 g1 => ?_⟩
  rw [b1] at g1
  subst g1
  intro z2 d2
  obtain ⟨u2, b2⟩ := argI (j := 2) d2 (by omega : i + 2 < L) hL
  refine ⟨u2, fun w2 g2 => ?_⟩
  rw [b2] at g2
  subst g2
  intro z3 d3
  obtain ⟨u3, b3⟩ := argI (j := 3) d3 (by omega : i + 3 < L) hL
  refine ⟨u3, fun w3 g3 => ?_⟩
  rw [b3] at g3
  subst g3
  intro z4 d4
  obtain ⟨u4, b4⟩ := argI (j := 4) d4 (by omega : i + 4 < L) hL
  refine ⟨u4, fun w4 g4 => ?_⟩
  rw [b4] at g4
  subst g4
  exact ⟨m, rfl, hk, ⟨hkc, hnc⟩, h⟩
theorem cmp5 {L i : Nat} (hL : L ≤ 322) (hi : i < 1000) : (nI L - (5 : Int32)) < nI i ↔ L < i + 5 := by
  have h5 : (5 : Int32).toInt = 5 := by decide
  have e : (nI L - (5 : Int32)).toInt = (L : Int) - 5 := by
    rw [Int32.toInt_sub, nI_toInt (by omega), h5]
    exact Int.bmod_eq_of_le (by omega) (by omega)
  rw [Int32.lt_iff_toInt_lt, e, nI_toInt (by omega)]
  omega
set_option maxRecDepth 100000 in
theorem law_loop (hL : L ≤ 322) : ∀ d i kc nc K σ Y X, L < i + 5 + 5 * d → i < 1000 → K + 5000 * d < 1073741824 → kc + d ≤ 600128 → nc + 6 * d ≤ 7301064 → St n ad aa m adx po σ Y X → Sim n K Y X → LF (f_L_law_43 L xs (fun v _ => v = 1)) (some (ad 11 0), some m, some po, nI i, kc, nc) σ := by
  intro d
  induction d with
  | zero =>
    intro i kc nc K σ Y X hd hi hK hkc hnc T S R hR
    exact hR _ _ ⟨fun _ => ⟨⟨hkc, by omega⟩, rfl⟩, fun q => absurd ((cmp5 hL hi).mpr (by omega)) q⟩
  | succ d ih =>
    intro i kc nc K σ Y X hd hi hK hkc hnc T S R hR
    by_cases h5 : L < i + 5
    · exact hR _ _ ⟨fun _ => ⟨⟨(by omega : kc ≤ 600128), (by omega : nc ≤ 7301064)⟩, rfl⟩, fun q => absurd ((cmp5 hL hi).mpr h5) q⟩
    · have hi5 : i + 5 ≤ L := by omega
      have c1 : kc + 1 ≤ 600128 := by omega
      have c2 : nc + 6 ≤ 7301064 := by omega
      have c3 : K + 5000 < 1073741824 := Nat.lt_of_le_of_lt (Nat.add_le_add_left (Nat.le_mul_of_pos_right 5000 (Nat.succ_pos d)) K) hK
      have nx : Nxt n ad aa m adx po K L xs R (fun v _ => v = 1) i kc nc := by
        intro σ' Y' X' K2 kc2 nc2 T' S' h1 h2 h3 x1 e1
        have e1 : x1 = nI (i + 5) := by
          rw [e1]
          exact nI_add i 5
        subst e1
        exact ih (i + 5) kc2 nc2 K2 σ' Y' X' (by omega) (by omega) (by omega) (by omega) (by omega) T' S' R hR
      refine hR _ _ ⟨fun q => absurd ((cmp5 hL hi).mp q) h5, fun _ => ⟨vp_in_nI (n := i) (by omega) (by omega), fun x3 e3 x5 e5 => ⟨fun _ => nx σ Y X K kc nc T S (by omega) (by omega) (by omega), ?_⟩⟩⟩
      exact ⟨fun _ => law_request T S c3 hi5 hL c1 c2 nx, fun _ => law_again T S c3 hi5 hL c1 c2 nx, fun _ => law_deliver T S c3 hi5 hL c1 c2 nx, fun _ => law_lose T S c3 hi5 hL c1 c2 nx, fun _ => law_flow T S c3 hi5 hL c1 c2 nx, fun _ => law_down T S c3 hi5 hL c1 c2 nx, fun _ => law_up T S c3 hi5 hL c1 c2 nx, fun _ => law_suspect T S c3 hi5 hL c1 c2 nx, fun _ => law_nudge T S c3 hi5 hL c1 c2 nx, fun _ => law_sync T S c3 hi5 hL c1 c2 nx, fun _ => law_tick T S c3 hi5 hL c1 c2 nx, fun _ => law_calm T S c3 hi5 hL c1 c2 nx, fun _ => law_fail T S c3 hi5 hL c1 c2 nx, fun _ => law_install T S c3 hi5 hL c1 c2 nx, fun _ => law_replica T S c3 hi5 hL c1 c2 nx, fun _ => law_entry T S c3 hi5 hL c1 c2 nx, fun _ => law_word T S c3 hi5 hL c1 c2 nx, fun _ => law_client T S c3 hi5 hL c1 c2 nx, fun _ => law_answer T S c3 hi5 hL c1 c2 nx, fun _ => law_about T S c3 hi5 hL c1 c2 nx, fun _ => law_message T S c3 hi5 hL c1 c2 nx, fun _ => law_wire T S c3 hi5 hL c1 c2 nx, fun _ => law_image T S c3 hi5 hL c1 c2 nx, fun _ => law_output T S c3 hi5 hL c1 c2 nx, fun _ => law_put T S c3 hi5 hL c1 c2 nx, fun _ => law_take T S c3 hi5 hL c1 c2 nx, fun _ => law_untake T S c3 hi5 hL c1 c2 nx, fun _ => law_fault T S c3 hi5 hL c1 c2 nx, fun _ => law_told T S c3 hi5 hL c1 c2 nx, fun _ => law_tolds T S c3 hi5 hL c1 c2 nx, fun _ => law_broken T S c3 hi5 hL c1 c2 nx⟩
theorem cg_k (h : HY n ad aa σ Y) {a : Nat} (ha : cg n ad aa a) : sK σ a < 23 := by
  rcases ha with ⟨c, o, ho, e⟩ | ⟨c, o, k, ho, hk, hz, e⟩
  · rw [e, h.K ho]
    have := (ob_lt ho).1
    omega
  · rw [e, (h.2.2.2.2.1 c o k ho hk hz).2.1]
    exact (akd_in _ hz).2
theorem mk_worksE {n a0 : Nat} {pt : Int32} {L : Nat → Nat → Prop} {S : Nat → Nat → Nat → Prop} {σ0 : Sto} {p1 p2 : Int32} {Q : Sto → Prop} {j3 j6 : Nat} (ea : ad 11 0 = a0) (hj3 : j3 < 3) (hn : n = 3 + 2 * j3) (hpt : pt = nI (3 + j6)) (h3 : ∀ (σ : Sto) (Q : Int32 → Sto → Prop), Q (nI j3) σ → wp_J9_floorMod_7cf53 p1 (3 : Int32) σ Q) (h6 : ∀ (σ : Sto) (Q : Int32 → Sto → Prop), Q (nI j6) σ → wp_J9_floorMod_7cf53 p2 (6 : Int32) σ Q)
    (H : CA n pt ad L S σ0 σ) (hL : ∀ t b, L t b ↔ (t = 11 ∧ b = 0))
    (hQ : ∀ ad' L' S' σ', CA n pt ad' L' S' σ0 σ' → (∀ t b, fnL n t b → L' t b) → (∀ t b k, fnS n t b k → S' t b k) → ad' 11 0 = a0 → Q σ') : wp_X11_init a0 p1 p2 σ Q := by
  subst ea
  exact mk_works hj3 hn hpt h3 h6 H hL hQ
theorem Ab.nil {kd nn : Nat → Nat → Nat} {FI : Nat → Nat → Nat → Int32} {FJ : Nat → Nat → Nat → Int64} {FP : Nat → Nat → Nat → Option (Nat × Nat)} (σ : Sto) : Ab kd nn FI FJ FP (fun _ _ => 0) (fun _ _ => False) (fun _ _ _ => False) σ σ :=
  ⟨fun _ _ h => h.elim, fun _ _ _ _ h => h.elim, fun _ _ _ h => h.elim, fun _ _ => ⟨rfl, rfl, rfl, rfl, rfl⟩⟩
/-- THE PURE STATEMENT: from the empty store the law's predicate holds on every script -/
theorem whole_wp (L : Nat) (xs : Nat → Int32) (hL : L ≤ 322) : wp_L_law L xs sto0 (fun v _ => v = 1) := by
  obtain ⟨j3, hj3, h3y, h3x⟩ := fm_3 (vcell L xs (0 : Int32))
  obtain ⟨j6, hj6, h6y, h6x⟩ := fm_6 (vcell L xs (1 : Int32))
  obtain ⟨n, hn⟩ : ∃ n, n = 3 + 2 * j3 := ⟨_, rfl⟩
  obtain ⟨pt, hpt⟩ : ∃ pt, pt = nI (3 + j6) := ⟨_, rfl⟩
  have hn7 : n ≤ 7 := by omega
  refine ⟨by decide, by decide, fun q3 hq3 σ5 e5 => ⟨by decide, fun x10 e10 => ⟨by decide, fun x15 e15 => ⟨by decide, ?_⟩⟩⟩⟩
  subst e5; subst e10; subst e15
  obtain ⟨ad1, H1, ea1, ex1⟩ := (Ab.nil (kd := cK) (nn := cN n) (FI := cI n pt) (FJ := cJ) (FP := cP n) sto0).nw (t := 11) (o := 0) (K := 11) (N := 0) hq3 (fun h => h) rfl (by decide) rfl
  refine mk_worksE ea1 hj3 hn hpt h3y h6y H1 (fun t b => ⟨fun h => h.elim False.elim id, fun h => Or.inr h⟩) (fun ad L' S' σ18 H18 fL fS e11 => ?_)
  have HY18 := hy_init hn7 H18 fL fS
  refine ⟨by decide, by decide, fun q21 hq21 σ23 e23 => ⟨by decide, fun x28 e28 => ⟨by decide, fun x33 e33 => ⟨by decide, ?_⟩⟩⟩⟩
  subst e23; subst e28; subst e33
  obtain ⟨ad2, H2, ea2, ex2⟩ := (Ab.nil (kd := rK) (nn := rN) (FI := rI n pt) (FJ := rJ) (FP := rP) σ18).nw (t := 12) (o := 0) (K := 12) (N := 0) hq21 (fun h => h) rfl (by decide) rfl
  have R0 : RT n pt q21 σ18 0 [] 0 (stN σ18 q21 12 0) := ⟨ad2, _, _, H2, ea2, Or.inr ⟨rfl, rfl⟩, fun t b h => h.elim False.elim (fun h => by omega), fun j hj => absurd hj (Nat.not_lt_zero j), fun j hj => (by cases hj), fun j hj => absurd hj (Nat.not_lt_zero j)⟩
  refine ref_init hn hj3 hpt h3x h6x (fun σ36 R36 => ?_) R0
  obtain ⟨adx, RC36, F36, N36⟩ := R36.fin (by decide)
  have HY36 : HY n ad (fun x o => ad (100 + x) o) σ36 (Y00 n pt) := HY18.nw F36
  refine ⟨by decide, by decide, fun q39 hq39 σ41 e41 => ?_⟩
  subst e41
  have F41 : ∀ a, sK σ36 a < 23 → sK (stN σ36 q39 15 1) a = sK σ36 a ∧ sN (stN σ36 q39 15 1) a = sN σ36 a ∧ sI (stN σ36 q39 15 1) a = sI σ36 a ∧ sJ (stN σ36 q39 15 1) a = sJ σ36 a ∧ sP (stN σ36 q39 15 1) a = sP σ36 a := fun a ha => stN_ne (fun e => hq39 (by rw [← e]; exact ha))
  have kr : ∀ a, rg q21 adx a → sK σ36 a < 23 := fun a ha => by
    rcases rg_k RC36 ha with e | e | e <;> rw [e] <;> decide
  have T : St n ad (fun x o => ad (100 + x) o) q21 adx q39 (stN σ36 q39 15 1) (Y00 n pt) (X00 n pt) := by
    refine ⟨HY36.nw F41, RC36.kept (fun a ha => ?_), stN_at.1, stN_at.2.1, fun a ha hc => N36 a ha (cg_k HY18 hc), fun hc => hq39 (cg_k HY36 hc), fun hr => hq39 (kr _ hr)⟩
    have := F41 a (kr a ha)
    exact ⟨this.1, this.2.1, this.2.2.1, this.2.2.2.2⟩
  have S : Sim n 101 (Y00 n pt) (X00 n pt) := sim_init (by omega) (j := 3 + j6) (by omega) hpt
  rw [← e11]
  exact law_loop hL 64 2 _ _ 101 _ _ _ (by omega) (by omega) (by omega) (by decide) (by decide) T S
end
