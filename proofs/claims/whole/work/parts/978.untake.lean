/-! untake: the whole -/
section
variable {n K : Nat} {Y Y2 Y0 Y1 : Yc} {X X2 X0 X1 : Xc} {o r : Nat} {l : List Int32} {c : Nat} {kv : Option Int32}
theorem end_bad {pos : Nat} (R1 : Rd l Y0 X0 kv c Y1 X1) (f : yI Y1 703 0 = 0) (fx : X1.1 95 = 0) (hp : yI Y1 705 0 = nI (pos + 1)) (R2 : Rd l Y0 X0 kv (c + 1) Y2 X2) (e705 : yI Y2 705 0 = yI Y1 705 0) (e703 : yI Y2 703 0 = yI Y1 703 0) :
    ∃ Y3 X3, Rd l Y0 X0 kv (c + 1) Y3 X3 ∧ (∀ (Q : Yc → Prop) (x : Int32), Q Y3 → x = yI Y2 705 0 → wy_X7_spoil n 2 (x - 1) Y2 Q) ∧ (∀ (Q : Xc → Prop) (v : Int32), Q X3 → wx_X12_wrongs 2 (nI pos) X1 (fun X4 => wx_X12_keep v X4 Q)) := by
  obtain ⟨h1, h2, pos1, f1, h3, h4, h5, h6, h7, h8, h9, h10⟩ := R1
  refine ⟨uI (uI Y2 703 0 2) 704 0 (nI pos), xS (xS X1 95 2) 96 (nI pos), ⟨(R2.1.wI (by omega) _).wI (by omega) _, (h2.wS (by omega) _).wS (by omega) _, pos1, 2, h3, by omega, e705.trans h5, h6, rfl, rfl, rfl, fun q => by omega⟩, fun Q x hQ ex x1 e1 => ?_, fun Q v hQ x1 e1 => ?_⟩
  · rw [e703, f] at e1
    rw [e705, hp] at ex
    subst e1; subst ex
    rw [nI_m]
    exact ⟨fun q => absurd rfl q, fun _ => hQ⟩
  · rw [fx] at e1
    subst e1
    exact ⟨fun _ => keep_f (show ¬ (2 : Int32) ≤ 0 by decide) hQ, fun q => absurd (by decide) q⟩
theorem sender_sim (T : Tp l Y0 X0) (R : Rd l Y0 X0 kv c Y X) (hc : c + 1 ≤ 609) : ∃ Y2 X2, Rd l Y0 X0 kv (c + 1) Y2 X2 ∧ (∀ Q : Yc → Prop, Q Y2 → wy_X7_readSender n Y Q) ∧ (∀ Q : Xc → Prop, Q X2 → wx_X12_readEnd 1 X Q) := by
  obtain ⟨b, Y1, X1, hb, R1, ry, rx, hpos, hfb, _⟩ := rnext_sim (n := n) T R
  obtain ⟨Y2, X2, R2, sy, sx, e5, e3, _⟩ := rtell_sim (n := n) R1 hc (nI b)
  have uy : ∀ Q : Int32 → Yc → Prop, Q (nI b) Y2 → wy_X7_readByte n 255 Y Q := fun Q h => ry _ ⟨fun _ => sy _ h, fun q => absurd (nI_le (a := b) (b := 255) (by omega) (by omega)) q⟩
  by_cases h6 : b ≤ 6
  · have g6 : nI b ≤ (6 : Int32) := nI_le (b := 6) h6 (by omega)
    exact ⟨Y2, X2, R2, fun Q hQ => uy _ ⟨fun _ => hQ, fun q => absurd g6 q⟩, fun Q hQ x1 e1 => rx _ ⟨fun _ => ⟨fun _ => sx _ hQ, fun q => absurd q (by decide)⟩, fun q => absurd g6 q⟩⟩
  · have g6 : ¬ nI b ≤ (6 : Int32) := nI_ge (b := b) (a := 6) (by omega) (by omega)
    by_cases h255 : b = 255
    · subst h255
      exact ⟨Y2, X2, R2, fun Q hQ => uy _ ⟨fun q => absurd q g6, fun _ => ⟨fun _ => hQ, fun q => absurd rfl q⟩⟩, fun Q hQ x1 e1 => rx _ ⟨fun q => absurd q g6, fun _ => ⟨fun q => absurd q (by decide), fun _ => ⟨fun q => absurd rfl q, fun _ => ⟨fun _ => sx _ hQ, fun q => absurd q (by decide)⟩⟩⟩⟩⟩
    · have g255 : ¬ nI b = (255 : Int32) := fun q => h255 ((nI_eq (a := b) (b := 255) (by omega) (by omega)).mp q)
      rcases hpos with h0 | ⟨hf, pos, hp, ep, ey⟩
      · exact absurd (by omega) h6
      · have fx : X1.1 95 = 0 := by
          rcases R1.flt with h | ⟨h, _⟩
          · exact h.2
          · exact absurd hf h
        obtain ⟨Y3, X3, R3, ty, tx⟩ := end_bad (n := n) R1 hf fx ey R2 e5 e3
        refine ⟨Y3, X3, R3, fun Q hQ => uy _ ⟨fun q => absurd q g6, fun _ => ⟨fun q => absurd q g255, fun _ x10 e10 => ty _ x10 hQ e10⟩⟩, fun Q hQ x1 e1 => rx _ ⟨fun q => absurd q g6, fun _ => ⟨fun q => absurd q (by decide), fun _ => ⟨fun _ => ⟨fun q => absurd rfl q, fun _ => ?_⟩, fun q => absurd q g255⟩⟩⟩⟩
        rw [ep] at e1
        subst e1
        exact tx _ _ hQ
theorem x_in16 {b : Nat} (hb : b < 256) (Q : Int32 → Xc → Prop) (hQ : Q (if 16 ≤ b ∧ b ≤ 19 then 1 else 0) X) : wx_X12_in (nI b) 16 19 X Q := by
  unfold wx_X12_in
  refine ⟨fun h => ?_, fun h => ⟨fun g => ?_, fun g => ?_⟩⟩
  · have h := (nI_lti (a := b) (b := 16) (by omega) (by omega)).mp h
    rw [if_neg (by omega)] at hQ
    exact hQ
  · have g := (nI_lti (a := 19) (b := b) (by omega) (by omega)).mp g
    rw [if_neg (by omega)] at hQ
    exact hQ
  · have h : ¬ b < 16 := fun q => h ((nI_lti (a := b) (b := 16) (by omega) (by omega)).mpr q)
    have g : ¬ 19 < b := fun q => g ((nI_lti (a := 19) (b := b) (by omega) (by omega)).mpr q)
    rw [if_pos (by omega)] at hQ
    exact hQ
theorem receiver_sim (T : Tp l Y0 X0) (R : Rd l Y0 X0 kv c Y X) (hc : c + 1 ≤ 609) : ∃ Y2 X2, Rd l Y0 X0 kv (c + 1) Y2 X2 ∧ (∀ Q : Yc → Prop, Q Y2 → wy_X7_readReceiver n Y Q) ∧ (∀ Q : Xc → Prop, Q X2 → wx_X12_readEnd 0 X Q) := by
  obtain ⟨b, Y1, X1, hb, R1, ry, rx, hpos, hfb, _⟩ := rnext_sim (n := n) T R
  obtain ⟨Y2, X2, R2, sy, sx, e5, e3, _⟩ := rtell_sim (n := n) R1 hc (nI b)
  have uy : ∀ Q : Int32 → Yc → Prop, Q (nI b) Y2 → wy_X7_readByte n 255 Y Q := fun Q h => ry _ ⟨fun _ => sy _ h, fun q => absurd (nI_le (a := b) (b := 255) (by omega) (by omega)) q⟩
  have vy : ∀ Q : Yc → Prop, (¬ (16 ≤ b ∧ b ≤ 19) → by_X7_readReceiver_25 n Q (nI b) 0 Y2) → (16 ≤ b ∧ b ≤ 19 → by_X7_readReceiver_25 n Q (nI b) 1 Y2) → wy_X7_readReceiver n Y Q := fun Q h0 h1 => uy _
    ⟨fun q => h0 (by have := (nI_lti (a := b) (b := 16) (by omega) (by omega)).mp q; omega), fun q => ⟨fun q2 => h0 (by have := (nI_lei (a := 20) (b := b) (by omega) (by omega)).mp q2; omega), fun q2 => h1 (by
      have g1 : ¬ b < 16 := fun z => q ((nI_lti (a := b) (b := 16) (by omega) (by omega)).mpr z)
      have g2 : ¬ 20 ≤ b := fun z => q2 ((nI_lei (a := 20) (b := b) (by omega) (by omega)).mpr z)
      omega)⟩⟩
  by_cases h6 : b ≤ 6
  · have g6 : nI b ≤ (6 : Int32) := nI_le (b := 6) h6 (by omega)
    exact ⟨Y2, X2, R2, fun Q hQ => vy Q (fun _ => ⟨fun _ => hQ, fun q => absurd g6 q⟩) (fun _ => ⟨fun _ => hQ, fun q => absurd g6 q⟩), fun Q hQ x1 e1 => rx _ ⟨fun _ => ⟨fun _ => sx _ hQ, fun q => absurd q (by decide)⟩, fun q => absurd g6 q⟩⟩
  · have g6 : ¬ nI b ≤ (6 : Int32) := nI_ge (b := b) (a := 6) (by omega) (by omega)
    by_cases hin : 16 ≤ b ∧ b ≤ 19
    · refine ⟨Y2, X2, R2, fun Q hQ => vy Q (fun q => absurd hin q) (fun _ => ⟨fun _ => hQ, fun _ => ⟨fun _ => hQ, fun q => absurd q (by decide)⟩⟩), fun Q hQ x1 e1 => rx _ ⟨fun q => absurd q g6, fun _ => ⟨fun _ => x_in16 hb _ ?_, fun q => absurd rfl q⟩⟩⟩
      rw [if_pos hin]
      exact ⟨fun q => absurd q (by decide), fun _ => ⟨fun _ => sx _ hQ, fun q => absurd q (by decide)⟩⟩
    · rcases hpos with h0 | ⟨hf, pos, hp, ep, ey⟩
      · exact absurd (by omega) h6
      · have fx : X1.1 95 = 0 := by
          rcases R1.flt with h | ⟨h, _⟩
          · exact h.2
          · exact absurd hf h
        obtain ⟨Y3, X3, R3, ty, tx⟩ := end_bad (n := n) R1 hf fx ey R2 e5 e3
        refine ⟨Y3, X3, R3, fun Q hQ => vy Q (fun _ => ⟨fun q => absurd q g6, fun _ => ⟨fun q => absurd rfl q, fun _ x10 e10 => ty _ x10 hQ e10⟩⟩) (fun q => absurd q hin), fun Q hQ x1 e1 => rx _ ⟨fun q => absurd q g6, fun _ => ⟨fun _ => x_in16 hb _ ?_, fun q => absurd rfl q⟩⟩⟩
        rw [if_neg hin]
        refine ⟨fun _ => ⟨fun q => absurd rfl q, fun _ => ?_⟩, fun q => absurd rfl q⟩
        rw [ep] at e1
        subst e1
        exact tx _ _ hQ
/-- the reference's end of the reading, where there is a fault -/
theorem x65_f {Q : Int32 → Xc → Prop} {p : Int32} (fx : ¬ X.1 95 = 0) (h : bx_X12_untake_131 Q p X) : bx_X12_untake_65 Q p X := fun x1 e1 => by
  subst e1
  exact ⟨fun _ x2 e2 => by subst e2; exact ⟨fun _ x3 e3 => by subst e3; exact ⟨fun _ => h, fun q => absurd q fx⟩, fun q => absurd q fx⟩, fun q => absurd q fx⟩
theorem x101_no {Q : Int32 → Xc → Prop} {p : Int32} (hp : ¬ p = 11) (h : bx_X12_untake_131 Q p X) : bx_X12_untake_101 Q p X := fun x1 e1 => ⟨fun _ => h, fun _ => ⟨fun _ => h, fun q => absurd q hp⟩⟩
theorem x83_no {Q : Int32 → Xc → Prop} {p : Int32} (h5 : ¬ p = 5) (h9 : ¬ p = 9) (h10 : ¬ p = 10) (h : bx_X12_untake_101 Q p X) : bx_X12_untake_83 Q p X := fun x1 e1 =>
  ⟨fun _ => h, fun _ => ⟨fun q => absurd q h5, fun _ => ⟨fun q => absurd q h9, fun _ => ⟨fun _ => ⟨fun _ => h, fun q => absurd rfl q⟩, fun q => absurd q h10⟩⟩⟩⟩
theorem x65_no {Q : Int32 → Xc → Prop} {p : Int32} (h0 : ¬ p = 0) (h2 : ¬ p = 2) (h : bx_X12_untake_83 Q p X) : bx_X12_untake_65 Q p X := fun x1 e1 =>
  ⟨fun _ => h, fun _ => ⟨fun q => absurd q h0, fun _ => ⟨fun _ => ⟨fun _ => h, fun q => absurd rfl q⟩, fun q => absurd q h2⟩⟩⟩
/-- what is behind the numbers, by kind: nothing, a request, a log, a reply's end -/
def tY (n : Nat) (p : Int32) (Y : Yc) (Q : Yc → Prop) : Prop :=
  if p = 0 ∨ p = 2 then wy_X7_readRequest n Y Q else if p = 5 ∨ p = 9 ∨ p = 10 then wy_X7_readLog n Y Q
  else if p = 11 then wy_X7_readByte n 1 Y (fun x69 Y66 => ((¬ x69 = (1 : Int32) → Q Y66) ∧ (x69 = (1 : Int32) → (wy_X7_nextWord n Y66 (fun x77 Y74 => (wy_X7_tell n x77 Y74 (fun Y81 => Q Y81))))))) else Q Y
theorem rtail_sim (T : Tp l Y0 X0) {p : Int32} (R : Rd l Y0 X0 kv c Y X) (hc : c ≤ 8) : ∃ Y2 X2, Rd l Y0 X0 kv 609 Y2 X2 ∧ (∀ Q : Yc → Prop, Q Y2 → tY n p Y Q) ∧ (∀ Q : Int32 → Xc → Prop, bx_X12_untake_131 Q p X2 → bx_X12_untake_65 Q p X) := by
  rcases R.flt with ⟨fy, fx⟩ | ⟨fy, fx, fx2⟩
  · by_cases h02 : p = 0 ∨ p = 2
    · obtain ⟨Y2, X2, R2, sy, sx⟩ := req_sim (n := n) T R (by omega)
      refine ⟨Y2, X2, R2.up (by omega), fun Q hQ => ?_, fun Q hQ x1 e1 => ?_⟩
      · unfold tY
        rw [if_pos h02]
        exact sy Q hQ
      · rw [fx] at e1
        subst e1
        have t : bx_X12_untake_83 Q p X2 := by
          rcases h02 with h | h <;> subst h <;> exact x83_no (by decide) (by decide) (by decide) (x101_no (by decide) hQ)
        refine ⟨fun q => absurd rfl q, fun _ => ⟨fun _ => ⟨fun q => absurd q (by decide), fun _ => sx _ t⟩, fun q => ⟨fun q2 => absurd h02 (fun h => h.elim q q2), fun _ => ⟨fun q => absurd q (by decide), fun _ => sx _ t⟩⟩⟩⟩
    · have n0 : ¬ p = 0 := fun q => h02 (Or.inl q)
      have n2 : ¬ p = 2 := fun q => h02 (Or.inr q)
      by_cases hl : p = 5 ∨ p = 9 ∨ p = 10
      · obtain ⟨Y2, X2, R2, sy, sx⟩ := log_sim (n := n) T R (by omega)
        refine ⟨Y2, X2, R2.up (by omega), fun Q hQ => ?_, fun Q hQ => x65_no n0 n2 (fun x1 e1 => ?_)⟩
        · unfold tY
          rw [if_neg h02, if_pos hl]
          exact sy Q hQ
        · rw [fx] at e1
          subst e1
          have t : bx_X12_untake_101 Q p X2 := by
            rcases hl with h | h | h <;> subst h <;> exact x101_no (by decide) hQ
          have u : bx_X12_hasLog_17 (fun (x4 : Int32) (X6 : Xc) => ((x4 = 0 → bx_X12_untake_101 Q p X6) ∧ (¬ x4 = 0 → (wx_X12_readLog X6 (fun (X11 : Xc) => bx_X12_untake_101 Q p X11))))) X := ⟨fun q => absurd q (by decide), fun _ => sx _ t⟩
          refine ⟨fun q => absurd rfl q, fun _ => ⟨fun _ => u, fun q5 => ⟨fun _ => u, fun q9 => ⟨fun q10 => absurd hl (fun h => h.elim q5 (fun h => h.elim q9 q10)), fun _ => u⟩⟩⟩⟩
      · have n5 : ¬ p = 5 := fun q => hl (Or.inl q)
        have n9 : ¬ p = 9 := fun q => hl (Or.inr (Or.inl q))
        have n10 : ¬ p = 10 := fun q => hl (Or.inr (Or.inr q))
        by_cases h11 : p = 11
        · obtain ⟨b, Y1, X1, hb, R1, ry, rx, _⟩ := byte_sim (n := n) T R (by omega) 1 (by omega)
          by_cases hb1 : nI b = 1
          · obtain ⟨w, Y2, X2, R2, sy, sx⟩ := word_sim (n := n) T R1
            obtain ⟨Y3, X3, R3, ty, tx, _⟩ := rtell_sim (n := n) R2 (by omega) w
            refine ⟨Y3, X3, R3.up (by omega), fun Q hQ => ?_, fun Q hQ => x65_no n0 n2 (x83_no n5 n9 n10 (fun x1 e1 => ?_))⟩
            · unfold tY
              rw [if_neg h02, if_neg hl, if_pos h11]
              exact ry _ ⟨fun q => absurd hb1 q, fun _ => sy _ (ty _ hQ)⟩
            · rw [fx] at e1
              subst e1
              exact ⟨fun q => absurd rfl q, fun _ => ⟨fun q => absurd h11 q, fun _ => rx _ ⟨fun q => absurd hb1 q, fun _ => sx _ (tx _ hQ)⟩⟩⟩
          · refine ⟨Y1, X1, R1.up (by omega), fun Q hQ => ?_, fun Q hQ => x65_no n0 n2 (x83_no n5 n9 n10 (fun x1 e1 => ?_))⟩
            · unfold tY
              rw [if_neg h02, if_neg hl, if_pos h11]
              exact ry _ ⟨fun _ => hQ, fun q => absurd q hb1⟩
            · rw [fx] at e1
              subst e1
              exact ⟨fun q => absurd rfl q, fun _ => ⟨fun q => absurd h11 q, fun _ => rx _ ⟨fun _ => hQ, fun q => absurd q hb1⟩⟩⟩
        · refine ⟨Y, X, R.up (by omega), fun Q hQ => ?_, fun Q hQ => x65_no n0 n2 (x83_no n5 n9 n10 (x101_no h11 hQ))⟩
          unfold tY
          rw [if_neg h02, if_neg hl, if_neg h11]
          exact hQ
  · refine ⟨Y, X, R.up (by omega), fun Q hQ => ?_, fun Q hQ => x65_f fx hQ⟩
    unfold tY
    split
    · exact req_f fy hQ
    · split
      · exact log_f fy hQ
      · split
        · exact byte_f (m := 1) fy (by omega) ⟨fun _ => hQ, fun q => absurd q (by decide)⟩
        · exact hQ
/-- so many numbers -/
def nY (n : Nat) : Nat → Yc → (Yc → Prop) → Prop
  | 0, Y, Q => Q Y
  | m + 1, Y, Q => wy_X7_readNumber n Y (fun _ Y2 => nY n m Y2 Q)
def nmb (p : Int32) : Nat := if p = 0 ∨ p = 5 ∨ p = 8 ∨ p = 12 then 2 else if p = 9 then 5 else if p = 11 then 4 else 3
theorem nmb_le (p : Int32) : nmb p ≤ 5 ∧ 2 ≤ nmb p := by
  unfold nmb
  split
  · omega
  · split
    · omega
    · split <;> omega
theorem x_numbers {p : Int32} {Q : Int32 → Xc → Prop} (hQ : Q (nI (nmb p)) X) : wx_X12_numbers p X Q := by
  unfold wx_X12_numbers
  have e : ∀ {v : Int32} {k : Nat}, p = v → nmb v = k → Q (nI k) X := fun h1 h2 => by subst h1; rw [h2] at hQ; exact hQ
  refine ⟨fun h => ?_, fun h => e h (by decide), fun h => e h (by decide), fun h => e h (by decide), fun h => e h (by decide), fun h => e h (by decide), fun h => e h (by decide), fun h => e h (by decide), fun h => e h (by decide), fun h => e h (by decide), fun h => e h (by decide), fun h => e h (by decide), fun h => e h (by decide), fun h => e h (by decide)⟩
  have n : ∀ (k : Int32), 0 ≤ k.toInt → k.toInt ≤ 12 → ¬ p = k := fun k h1 h2 q => by subst q; omega
  have t : nmb p = 3 := by
    unfold nmb
    rw [if_neg, if_neg (n 9 (by decide) (by decide)), if_neg (n 11 (by decide) (by decide))]
    rintro (q | q | q | q)
    · exact n 0 (by decide) (by decide) q
    · exact n 5 (by decide) (by decide) q
    · exact n 8 (by decide) (by decide) q
    · exact n 12 (by decide) (by decide) q
  rw [t] at hQ
  exact hQ
theorem nums_sim (T : Tp l Y0 X0) {p : Int32} : ∀ d i, i + d = nmb p → ∀ (c : Nat) (Y : Yc) (X : Xc), c + d ≤ 8 → Rd l Y0 X0 kv c Y X → ∃ Y2 X2, Rd l Y0 X0 kv (c + d) Y2 X2 ∧ (∀ Q : Yc → Prop, Q Y2 → nY n d Y Q) ∧ (∀ Q : Int32 → Xc → Prop, bx_X12_untake_65 Q p X2 → LFx (fx_X12_untake_39 Q) (p, nI i) X) := by
  intro d
  have hm := nmb_le p
  induction d with
  | zero =>
    intro i hi c Y X hc R
    have hi : i = nmb p := by omega
    subst hi
    exact ⟨Y, X, R, fun Q hQ => hQ, fun Q hQ Rr hR => hR _ _ (x_numbers ⟨fun _ => hQ, fun q => absurd (nI_le (a := nmb p) (b := nmb p) (by omega) (by omega)) q⟩)⟩
  | succ d ih =>
    intro i hi c Y X hc R
    obtain ⟨w, Y1, X1, R1, sy, sx⟩ := num_sim (n := n) T R (by omega)
    obtain ⟨Y2, X2, R2, ty, tx⟩ := ih (i + 1) (by omega) (c + 1) Y1 X1 (by omega) R1
    rcases R.flt with ⟨fy, fx⟩ | ⟨fy, fx, fx2⟩
    · refine ⟨Y2, X2, R2.up (by omega), fun Q hQ => sy _ (ty Q hQ), fun Q hQ Rr hR => hR _ _ (x_numbers ⟨fun q => absurd q (nI_ge (a := i) (b := nmb p) (by omega) (by omega)), fun _ x6 e6 => ?_⟩)⟩
      rw [fx] at e6
      subst e6
      refine ⟨fun q => absurd rfl q, fun _ => sx _ (fun x13 e13 => ?_)⟩
      have e13 : x13 = nI (i + 1) := e13.trans (nI_1 i)
      subst e13
      exact tx Q hQ Rr hR
    · have ny : ∀ d (Q : Yc → Prop), Q Y → nY n d Y Q := by
        intro d
        induction d with
        | zero => exact fun Q hQ => hQ
        | succ d ih => exact fun Q hQ => num_f fy (ih Q hQ)
      refine ⟨Y, X, R.up (by omega), fun Q hQ => ny _ Q hQ, fun Q hQ Rr hR => hR _ _ (x_numbers ⟨fun q => absurd q (nI_ge (a := i) (b := nmb p) (by omega) (by omega)), fun _ x6 e6 => ?_⟩)⟩
      subst e6
      exact ⟨fun _ => hQ, fun q => absurd q fx⟩
theorem spoil_m {k p : Int32} {Q Q2 : Yc → Prop} (h : wy_X7_spoil n k p Y Q) (m : ∀ Y, Q Y → Q2 Y) : wy_X7_spoil n k p Y Q2 := fun x1 e1 => ⟨fun q => m _ ((h x1 e1).1 q), fun q => m _ ((h x1 e1).2 q)⟩
theorem tell_m {p : Int32} {Q Q2 : Yc → Prop} (h : wy_X7_tell n p Y Q) (m : ∀ Y, Q Y → Q2 Y) : wy_X7_tell n p Y Q2 := fun x1 e1 =>
  ⟨fun q => m _ ((h x1 e1).1 q), fun q x4 e4 => ⟨fun q2 => m _ (((h x1 e1).2 q x4 e4).1 q2), fun q2 x7 e7 => ⟨fun q3 => m _ ((((h x1 e1).2 q x4 e4).2 q2 x7 e7).1 q3), fun q3 x13 e13 => ⟨((((h x1 e1).2 q x4 e4).2 q2 x7 e7).2 q3 x13 e13).1, fun x16 e16 x18 e18 => m _ (((((h x1 e1).2 q x4 e4).2 q2 x7 e7).2 q3 x13 e13).2 x16 e16 x18 e18)⟩⟩⟩⟩
theorem n83_m {v : Int64} {Q Q2 : Int32 → Yc → Prop} (h : by_X7_readNumber_83 n Q v Y) (m : ∀ v Y, Q v Y → Q2 v Y) : by_X7_readNumber_83 n Q2 v Y := tell_m h (fun _ g => m _ _ g)
theorem n77_m {p : Int32} {v : Int64} {Q Q2 : Int32 → Yc → Prop} (h : by_X7_readNumber_77 n Q p v Y) (m : ∀ v Y, Q v Y → Q2 v Y) : by_X7_readNumber_77 n Q2 p v Y := spoil_m h (fun _ g => n83_m g m)
theorem n52_m {p p2 p3 : Int32} {v : Int64} {Q Q2 : Int32 → Yc → Prop} (h : by_X7_readNumber_52 n Q p p2 p3 v Y) (m : ∀ v Y, Q v Y → Q2 v Y) : by_X7_readNumber_52 n Q2 p p2 p3 v Y :=
  ⟨fun q => n77_m (h.1 q) m, fun q => ⟨fun q2 => n77_m ((h.2 q).1 q2) m, fun q2 => ⟨fun q3 => n83_m (((h.2 q).2 q2).1 q3) m, fun q3 => ⟨fun q4 => n83_m ((((h.2 q).2 q2).2 q3).1 q4) m, fun q4 => n77_m ((((h.2 q).2 q2).2 q3).2 q4) m⟩⟩⟩⟩
theorem num_m {Q Q2 : Int32 → Yc → Prop} (h : wy_X7_readNumber n Y Q) (m : ∀ v Y, Q v Y → Q2 v Y) : wy_X7_readNumber n Y Q2 := fun x1 e1 Rr hR =>
  h x1 e1 Rr (fun t Y g => hR t Y ⟨fun q => n52_m (g.1 q) m, fun q => ⟨fun q2 => n52_m ((g.2 q).1 q2) m, fun q2 => (g.2 q).2 q2⟩⟩)
theorem tY_req {p : Int32} {Q : Yc → Prop} (h : tY n p Y Q) (hp : p = 0 ∨ p = 2) : wy_X7_readRequest n Y Q := by
  unfold tY at h
  rw [if_pos hp] at h
  exact h
theorem tY_log {p : Int32} {Q : Yc → Prop} (h : tY n p Y Q) (hp : p = 5 ∨ p = 9 ∨ p = 10) : wy_X7_readLog n Y Q := by
  unfold tY at h
  rw [if_neg (by rcases hp with q | q | q <;> subst q <;> decide), if_pos hp] at h
  exact h
theorem tY_rep {p : Int32} {Q : Yc → Prop} (h : tY n p Y Q) (hp : p = 11) : wy_X7_readByte n 1 Y (fun x69 Y66 => ((¬ x69 = (1 : Int32) → Q Y66) ∧ (x69 = (1 : Int32) → (wy_X7_nextWord n Y66 (fun x77 Y74 => (wy_X7_tell n x77 Y74 (fun Y81 => Q Y81))))))) := by
  unfold tY at h
  rw [if_neg (by subst hp; decide), if_neg (by subst hp; decide), if_pos hp] at h
  exact h
theorem tY_no {p : Int32} {Q : Yc → Prop} (h : tY n p Y Q) (h1 : ¬ (p = 0 ∨ p = 2)) (h2 : ¬ (p = 5 ∨ p = 9 ∨ p = 10)) (h3 : ¬ p = 11) : Q Y := by
  unfold tY at h
  rw [if_neg h1, if_neg h2, if_neg h3] at h
  exact h
theorem y14 {p : Int32} {Q : Yc → Prop} {k : Nat} (hk : k < 256) (hp : p = nI k) {m : Nat} (hm : m = nmb p - (if p = 0 then 1 else 2)) (h : nY n m Y (fun Y2 => tY n p Y2 Q)) : by_X7_readRest_14 n Q p Y := by
  have hpi : p.toInt = k := by rw [hp]; exact nI_toInt (by omega)
  have en : ∀ j, j ≤ 12 → ¬ k = j → ¬ p = nI j := fun j hj hn q => hn ((nI_eq (by omega) (by omega)).mp (hp.symm.trans q))
  have c134 : (k = 0 ∨ k = 1 ∨ k = 2 ∨ k = 3 ∨ k = 4 ∨ k = 6 ∨ k = 7 ∨ 12 < k) → by_X7_readRest_134 n Q p Y := fun hk2 => by
    have m1 : m = 1 := by
      by_cases h12 : 12 < k
      · have e3 : nmb p = 3 := by
          unfold nmb
          rw [if_neg (fun q => q.elim (en 0 (by omega) (by omega)) (fun q => q.elim (en 5 (by omega) (by omega)) (fun q => q.elim (en 8 (by omega) (by omega)) (en 12 (by omega) (by omega))))), if_neg (show ¬ p = 9 from en 9 (by omega) (by omega)), if_neg (show ¬ p = 11 from en 11 (by omega) (by omega))]
        rw [hm, e3, if_neg (show ¬ p = 0 from en 0 (by omega) (by omega))]
      · rw [hm, hp]
        rcases hk2 with g | g | g | g | g | g | g | g
        · subst g; decide
        · subst g; decide
        · subst g; decide
        · subst g; decide
        · subst g; decide
        · subst g; decide
        · subst g; decide
        · exact absurd g h12
    subst m1
    have n5 : ¬ p = 5 := en 5 (by omega) (by omega)
    have n9 : ¬ p = 9 := en 9 (by omega) (by omega)
    have n10 : ¬ p = 10 := en 10 (by omega) (by omega)
    have n11 : ¬ p = 11 := en 11 (by omega) (by omega)
    exact num_m h (fun v Z t => ⟨fun q => tY_req t (Or.inl q), fun q => ⟨fun q2 => tY_no t (fun g => g.elim q q2) (fun g => g.elim n5 (fun g => g.elim n9 n10)) n11, fun q2 => tY_req t (Or.inr q2)⟩⟩)
  have kk : ∀ j, j ≤ 12 → p = nI j → k = j := fun j hj q => (nI_eq (by omega) (by omega)).mp (hp.symm.trans q)
  have m0 : (k = 5 ∨ k = 8 ∨ k = 12) → m = 0 := fun g => by
    rw [hm, hp]
    rcases g with g | g | g <;> subst g <;> decide
  have none : (k = 8 ∨ k = 12) → Q Y := fun g => by
    have e := m0 (by omega)
    subst e
    exact tY_no h (fun q => q.elim (en 0 (by omega) (by omega)) (en 2 (by omega) (by omega))) (fun q => q.elim (en 5 (by omega) (by omega)) (fun q => q.elim (en 9 (by omega) (by omega)) (en 10 (by omega) (by omega)))) (en 11 (by omega) (by omega))
  refine ⟨fun q => c134 (by omega), fun q => ?_, fun q => c134 (by have := kk 6 (by omega) q; omega), fun q => c134 (by have := kk 7 (by omega) q; omega), fun q => none (by have := kk 8 (by omega) q; omega), fun q => ?_, fun q => ?_, fun q => ?_, fun q => none (by have := kk 12 (by omega) q; omega)⟩
  · have e := m0 (by have := kk 5 (by omega) q; omega)
    subst e
    exact tY_log h (Or.inl q)
  · have e : m = 3 := by rw [hm, q]; decide
    subst e
    exact num_m h (fun _ _ t => num_m t (fun _ _ t => num_m t (fun _ _ t => tY_log t (Or.inr (Or.inl q)))))
  · have e : m = 1 := by rw [hm, q]; decide
    subst e
    exact num_m h (fun _ _ t => tY_log t (Or.inr (Or.inr q)))
  · have e : m = 2 := by rw [hm, q]; decide
    subst e
    exact num_m h (fun _ _ t => num_m t (fun _ _ t => tY_rep t q))
theorem rest_f (h : ¬ yI Y 703 0 = 0) {p : Int32} {Q : Yc → Prop} (hQ : Q Y) : wy_X7_readRest n p Y Q := by
  have c134 : by_X7_readRest_134 n Q p Y := num_f h ⟨fun _ => req_f h hQ, fun _ => ⟨fun _ => hQ, fun _ => req_f h hQ⟩⟩
  have c14 : by_X7_readRest_14 n Q p Y := ⟨fun _ => c134, fun _ => log_f h hQ, fun _ => c134, fun _ => c134, fun _ => hQ, fun _ => num_f h (num_f h (num_f h (log_f h hQ))), fun _ => num_f h (log_f h hQ), fun _ => num_f h (num_f h (byte_f (m := 1) h (by omega) ⟨fun _ => hQ, fun q => absurd q (by decide)⟩)), fun _ => hQ⟩
  exact num_f h ⟨fun _ => c14, fun _ => num_f h c14⟩
theorem rest_sim (T : Tp l Y0 X0) {b : Nat} (hb : b < 256) (R : Rd l Y0 X0 kv 3 Y X) : ∃ Y2 X2, Rd l Y0 X0 kv 609 Y2 X2 ∧ (∀ Q : Yc → Prop, Q Y2 → wy_X7_readRest n (nI b) Y Q) ∧ (∀ Q : Int32 → Xc → Prop, bx_X12_untake_131 Q (nI b) X2 → LFx (fx_X12_untake_39 Q) (nI b, 0) X) := by
  have hm := nmb_le (nI b)
  rcases R.flt with ⟨fy, fx⟩ | ⟨fy, fx, fx2⟩
  · obtain ⟨Y1, X1, R1, ry, rx⟩ := nums_sim (n := n) (p := nI b) T (nmb (nI b)) 0 (by omega) 3 Y X (by omega) R
    obtain ⟨Y2, X2, R2, sy, sx⟩ := rtail_sim (n := n) (p := nI b) T R1 (by omega)
    refine ⟨Y2, X2, R2, fun Q hQ => ?_, fun Q hQ => rx Q (sx Q hQ)⟩
    have h := ry (fun Z => tY n (nI b) Z Q) (sy Q hQ)
    by_cases h0 : nI b = 0
    · have e : nmb (nI b) = 1 + 1 := by rw [h0]; decide
      rw [e] at h
      exact num_m h (fun v Z t => ⟨fun _ => y14 hb rfl (by rw [if_pos h0, h0]; decide) t, fun q => absurd h0 q⟩)
    · obtain ⟨m, e⟩ : ∃ m, nmb (nI b) = (m + 1) + 1 := ⟨nmb (nI b) - 2, by omega⟩
      rw [e] at h
      exact num_m h (fun v Z t => ⟨fun q => absurd q h0, fun _ => num_m t (fun v Z t => y14 hb rfl (by rw [if_neg h0, e]; omega) t)⟩)
  · refine ⟨Y, X, R.up (by omega), fun Q hQ => rest_f fy hQ, fun Q hQ Rr hR => hR _ _ (x_numbers ⟨fun q => absurd q (nI_ge (a := 0) (b := nmb (nI b)) (by omega) (by omega)), fun _ x6 e6 => ?_⟩)⟩
    subst e6
    exact ⟨fun _ => x65_f fx hQ, fun q => absurd q fx⟩
theorem tp_crc {pos : Nat} (T : Tp l Y0 X0) (hY : FY Y0 Y) (hX : FX X0 X) (hp : pos ≤ l.length) : crcn (fun q => yA Y 0 1 q &&& 255) 0 pos (-1) = crcn (X.2 90) 0 pos (-1) := by
  obtain ⟨hw, hv, hl⟩ := T
  refine crcn_congr pos 0 (-1) (fun q _ h2 => ?_)
  show yA Y 0 1 q &&& 255 = X.2 90 q
  rw [hY.2.2.1 0 1 q (by omega), hX.2 90 q (by omega), hw.2 q (by omega), hv.2 q (by omega)]
/-- the sum and the end -/
theorem sum_sim (T : Tp l Y0 X0) {p : Int32} (R : Rd l Y0 X0 kv c Y X) : ∃ Y2 X2, Rd l Y0 X0 kv c Y2 X2 ∧ (∀ Q : Yc → Prop, Q Y2 → wy_X7_readSum n Y Q) ∧ (∀ Q : Int32 → Xc → Prop, bx_X12_untake_167 Q p X2 → bx_X12_untake_131 Q p X) := by
  obtain ⟨pos, hpos, ey, ex⟩ := R.at
  have hl := T.2.2
  have hb1 : bl 1 = 1500 := rfl
  obtain ⟨w, Y1, X1, R1, ry, rx⟩ := word_sim (n := n) T R
  have uy : ∀ Q : Yc → Prop, ((w = crcn (fun q => yA Y 0 1 q &&& 255) 0 pos (-1) ^^^ (-1) → Q Y1) ∧ (¬ w = crcn (fun q => yA Y 0 1 q &&& 255) 0 pos (-1) ^^^ (-1) → wy_X7_spoil n 5 (nI pos) Y1 Q)) → wy_X7_readSum n Y Q := fun Q h x1 e1 => by
    rw [ey] at e1
    subst e1
    exact y_sum (i := 0) (j := pos) (by omega) (by omega) (by omega) _ (ry _ h)
  have ux : ∀ Q : Int32 → Xc → Prop, (¬ X1.1 95 = 0 → bx_X12_untake_167 Q p X1) → (X1.1 95 = 0 → ((w = crcn (X1.2 90) 0 pos (-1) ^^^ (-1) → bx_X12_untake_167 Q p X1) ∧ (¬ w = crcn (X1.2 90) 0 pos (-1) ^^^ (-1) → wx_X12_wrongs 5 (nI pos) X1 (fun X18 => bx_X12_untake_167 Q p X18)))) → bx_X12_untake_131 Q p X := fun Q h1 h2 x1 e1 => by
    rw [ex] at e1
    subst e1
    refine rx _ (fun x7 e7 => ?_)
    subst e7
    exact ⟨h1, fun q => ⟨rfl, 0, pos, rfl, rfl, by omega, (show pos ≤ 1500 by omega), h2 q⟩⟩
  have ec : crcn (fun q => yA Y 0 1 q &&& 255) 0 pos (-1) = crcn (X1.2 90) 0 pos (-1) := tp_crc T R.1 R1.2.1 hpos
  rcases R1.flt with ⟨fy, fx⟩ | ⟨fy, fx, fx2⟩
  · by_cases hw : w = crcn (X1.2 90) 0 pos (-1) ^^^ (-1)
    · exact ⟨Y1, X1, R1, fun Q hQ => uy Q ⟨fun _ => hQ, fun q => absurd (by rw [ec]; exact hw) q⟩, fun Q hQ => ux Q (fun _ => hQ) (fun _ => ⟨fun _ => hQ, fun q => absurd hw q⟩)⟩
    · obtain ⟨Y2, X2, R2, n2, sy, sx, _⟩ := spoil_sim (n := n) R1 (k := 5) (by omega) (nI pos)
      exact ⟨Y2, X2, R2, fun Q hQ => uy Q ⟨fun q => absurd (by rw [ec] at q; exact q) hw, fun _ => sy _ hQ⟩, fun Q hQ => ux Q (fun q => absurd fx q) (fun _ => ⟨fun q => absurd q hw, fun _ => sx _ hQ⟩)⟩
  · exact ⟨Y1, X1, R1, fun Q hQ => uy Q ⟨fun _ => hQ, fun _ => spoil_f fy hQ⟩, fun Q hQ => ux Q (fun _ => hQ) (fun q => absurd q fx)⟩
theorem last_sim (T : Tp l Y0 X0) {p : Int32} (R : Rd l Y0 X0 kv c Y X) : ∃ Y2 X2, Rd l Y0 X0 kv c Y2 X2 ∧ (∀ Q : Yc → Prop, by_X7_read_75 n Q Y2 → (∀ x40 : Int32, x40 = yI Y 703 0 → ((¬ x40 = 0 → by_X7_read_75 n Q Y) ∧ (x40 = 0 → (∀ x43 : Int32, x43 = yI Y 705 0 → (∀ x47 : Int32, x47 = yI Y 1 1 → ((x47 ≤ x43 → by_X7_read_75 n Q Y) ∧ (¬ x47 ≤ x43 → (∀ x50 : Int32, x50 = yI Y 705 0 → (wy_X7_spoil n 6 x50 Y (fun (Y53 : Yc) => by_X7_read_75 n Q Y53))))))))))) ∧ (∀ Q : Int32 → Xc → Prop, bx_X12_untake_195 Q p X2 → bx_X12_untake_167 Q p X) := by
  obtain ⟨pos, hpos, ey, ex⟩ := R.at
  have hl := T.2.2
  have ty : yI Y 1 1 = nI l.length := (R.1.1 1 1 (by omega)).trans T.1.1
  have tx : X.1 91 = nI l.length := (R.2.1.1 91 (by omega)).trans T.2.1.1
  rcases R.flt with ⟨fy, fx⟩ | ⟨fy, fx, fx2⟩
  · by_cases hp : l.length ≤ pos
    · refine ⟨Y, X, R, fun Q hQ x40 e40 => ⟨fun _ => hQ, fun _ x43 e43 x47 e47 => ⟨fun _ => hQ, fun q => ?_⟩⟩, fun Q hQ x1 e1 => ⟨fun _ => hQ, fun _ x4 e4 x6 e6 => ⟨fun _ => hQ, fun q => ?_⟩⟩⟩
      · rw [ey] at e43
        rw [ty] at e47
        subst e43; subst e47
        exact absurd (nI_le hp (by omega)) q
      · rw [ex] at e4
        rw [tx] at e6
        subst e4; subst e6
        exact absurd (nI_le hp (by omega)) q
    · obtain ⟨Y2, X2, R2, n2, sy, sx, _⟩ := spoil_sim (n := n) R (k := 6) (by omega) (nI pos)
      refine ⟨Y2, X2, R2, fun Q hQ x40 e40 => ⟨fun q => absurd (e40.trans fy) q, fun _ x43 e43 x47 e47 => ⟨fun q => ?_, fun q x50 e50 => ?_⟩⟩, fun Q hQ x1 e1 => ⟨fun q => absurd (e1.trans fx) q, fun _ x4 e4 x6 e6 => ⟨fun q => ?_, fun q x9 e9 => ?_⟩⟩⟩
      · rw [ey] at e43
        rw [ty] at e47
        subst e43; subst e47
        exact absurd ((nI_lei (by omega) (by omega)).mp q) hp
      · rw [ey] at e50
        subst e50
        exact sy _ hQ
      · rw [ex] at e4
        rw [tx] at e6
        subst e4; subst e6
        exact absurd ((nI_lei (by omega) (by omega)).mp q) hp
      · rw [ex] at e9
        subst e9
        exact sx _ hQ
  · refine ⟨Y, X, R, fun Q hQ x40 e40 => ⟨fun _ => hQ, fun q => absurd (e40.symm.trans q) fy⟩, fun Q hQ x1 e1 => ⟨fun _ => hQ, fun q => absurd (e1.symm.trans q) fx⟩⟩
/-- a call whose refusal changes something -/
def OutW (n K' : Nat) (Cd : Nat → Int32 → Prop) (wy : (Int32 → Yc → Prop) → (Nat → Yc → Prop) → Prop) (wx : (Int32 → Xc → Prop) → Prop) : Prop :=
  (∃ v Y2 X2, (∀ Q E, Q v Y2 → wy Q E) ∧ (∀ Q, Q v X2 → wx Q) ∧ X2.1 0 = 0 ∧ Sim n K' Y2 X2) ∨ (∃ e v Y2 X2, (∀ Q (E : Nat → Yc → Prop), E e Y2 → wy Q E) ∧ (∀ Q, Q v X2 → wx Q) ∧ Cd e (X2.1 0) ∧ Sim n K' Y2 X2)
theorem untake_end (S : Sim n K Y0 X0) (hY : FY Y0 Y) (hX : FX X0 X) {s : Int32} (rd : RdT Y X) : Sim n K (uI Y 1 1 0) (xS (xS X 91 0) 0 s) := by
  refine io_sim S ⟨fun k j h1 h2 => ?_, hY.2.1, fun k j i h1 h2 => hY.2.2.1 k j i h2, hY.2.2.2⟩ ⟨fun k h1 h2 => ?_, fun k i h => hX.2 k i (by omega)⟩ ?_ ?_ rd
  · rw [yII, if_neg (fun q => h1 q.1)]
    exact hY.1 k j h2
  · rw [xSS, if_neg h1, xSS, if_neg (by omega)]
    exact hX.1 k (by omega)
  · obtain ⟨h1, h2, h3⟩ := S.pcs.2.2.2.1
    refine ⟨?_, ?_, fun i hi => ?_⟩
    · rw [yII, if_neg (by omega), xSS, if_neg (by omega), xSS, if_neg (by omega), hY.1 1 0 (by omega), hX.1 89 (by omega)]
      exact h1
    · rw [xSS, if_neg (by omega), xSS, if_neg (by omega), hX.1 89 (by omega)]
      exact h2
    · rw [xSS, if_neg (by omega), xSS, if_neg (by omega), hX.1 89 (by omega)] at hi
      rw [yAI, xAS, xAS, hY.2.2.1 0 0 i (by omega), hX.2 88 i (by omega)]
      exact h3 i hi
  · exact ⟨rfl, ⟨0, by omega, rfl⟩, fun i hi => absurd hi (Nat.not_lt_zero i)⟩
theorem untake_call (S : Sim n K Y X) : OutW n K CdB (wy_X11_untake n Y) (wx_X12_untake X) := by
  obtain ⟨l, hl, hw, hv⟩ := ByS.ls S.pcs.2.2.2.2.1 (by decide)
  have T : Tp l Y X := ⟨hw, hv, hl⟩
  have R0 : Rd l Y X none 0 (uI (uI (uI (uI Y 702 0 (0 : Int32)) 703 0 (0 : Int32)) 704 0 (-1 : Int32)) 705 0 (0 : Int32)) (xS (xS (xS (xS X 94 (0 : Int32)) 93 (0 : Int32)) 95 (0 : Int32)) 96 (-1 : Int32)) :=
    ⟨(((FY.rf.wI (by omega) _).wI (by omega) _).wI (by omega) _).wI (by omega) _, (((FX.rf.wS (by omega) _).wS (by omega) _).wS (by omega) _).wS (by omega) _, 0, 0, by omega, by omega, rfl, rfl, rfl, rfl, rfl, fun _ => ⟨0, by omega, rfl, rfl, fun i hi => absurd hi (Nat.not_lt_zero i), fun v hv => by cases hv⟩⟩
  obtain ⟨b, Y1, X1, hb, R1', y1, x1, hb12, hk⟩ := byte_sim (n := n) T R0 (by omega) 12 (by omega)
  have R1 := hk rfl
  obtain ⟨Y2, X2, R2, y2, x2⟩ := sender_sim (n := n) T R1 (by omega)
  obtain ⟨Y3, X3, R3, y3, x3⟩ := receiver_sim (n := n) T R2 (by omega)
  obtain ⟨Y4, X4, R4, y4, x4⟩ := rest_sim (n := n) T hb R3
  obtain ⟨Y5, X5, R5, y5, x5⟩ := sum_sim (n := n) (p := nI b) T R4
  obtain ⟨Y6, X6, R6, y6, x6⟩ := last_sim (n := n) (p := nI b) T R5
  have uy : ∀ Q : Yc → Prop, by_X7_read_75 n Q Y6 → wy_X7_read n Y Q := fun Q h => y1 _ (y2 _ (y3 _ (y4 _ (y5 _ (y6 Q h)))))
  have ux : ∀ Q : Int32 → Xc → Prop, bx_X12_untake_195 Q (nI b) X6 → wx_X12_untake X Q := fun Q h => x1 _ (x2 _ (x3 _ (x4 _ (x5 _ (x6 Q h)))))
  obtain ⟨h1, h2, pos, f, h3, h4, h5, h6, h7, h8, h9, h10⟩ := R6
  by_cases hf : f = 0
  · subst hf
    obtain ⟨cnt, g1, g2, g3, g4, g5⟩ := h10 rfl
    obtain ⟨g6, g7⟩ := g5 _ rfl
    have hcc : ln (nI cnt) = cnt := nI_clamp (by omega)
    have rd : RdT Y6 (xS X6 93 (nI cnt)) := ⟨g2, ⟨cnt, by omega, rfl⟩, h7.trans h8.symm, h9, fun i hi => g4 i (by
      have hi : i < ln (nI cnt) := hi
      omega)⟩
    have sm := untake_end (s := 0) S h1 (h2.wS (k := 93) (by omega) (nI cnt)) rd
    refine Or.inl ⟨nI b, uI Y6 1 1 0, xS (xS (xS X6 91 0) 0 0) 93 (nI cnt), fun Q E hQ => uy _ (fun x1 e1 => ?_), fun Q hQ => ux _ (fun x1 e1 => ?_), rfl, ?_⟩
    · have e1 : x1 = 0 := e1.trans h7
      subst e1
      refine ⟨fun _ x12 e12 => ?_, fun q => absurd rfl q⟩
      have e12 : x12 = 0 := e12.trans h7
      subst e12
      refine ⟨fun _ => ⟨fun q => absurd q (by decide), fun _ x2 e2 => ?_⟩, fun q => absurd rfl q⟩
      have e2 : x2 = nI cnt := e2.trans g2
      subst e2
      refine ⟨fun q => absurd ((nI_lei (a := cnt) (b := 0) (by omega) (by omega)).mp q) (by omega), fun _ => ⟨fun q => absurd q (by decide), fun _ => ⟨vp_in_nI (n := 0) (by omega) (by omega), fun x9 e9 => ?_⟩⟩⟩
      have e9 : x9 = nI b := e9.trans ((g4 0 (by omega)).trans g7)
      subst e9
      exact hQ
    · have e1 : x1 = 0 := e1.trans h8
      subst e1
      refine ⟨fun _ x2 e2 => ?_, fun q => absurd (by decide) q⟩
      have e2 : x2 = 0 := e2.trans h8
      subst e2
      refine ⟨fun _ x4 e4 x5 e5 => ?_, fun q => absurd (by decide) q⟩
      have e4 : x4 = nI cnt := e4.trans g3
      subst e4
      have e5 : x5 = 0 := e5.trans h8
      subst e5
      exact ⟨fun _ => hQ, fun q => absurd (by decide) q⟩
    · have e : xS (xS (xS X6 91 0) 0 0) 93 (nI cnt) = xS (xS (xS X6 93 (nI cnt)) 91 0) 0 0 := by
        refine Prod.ext (funext fun k => ?_) rfl
        rw [xSS, xSS, xSS, xSS, xSS, xSS]
        by_cases k93 : k = 93
        · subst k93; rfl
        · by_cases k0 : k = 0
          · subst k0; rfl
          · by_cases k91 : k = 91
            · subst k91; rfl
            · rw [if_neg k93, if_neg k0, if_neg k91, if_neg k0, if_neg k91, if_neg k93]
      rw [e]
      exact sm
  · have nf : ¬ nI f = 0 := by rw [f0 h4]; exact hf
    have nf2 : ¬ nI f ≤ 0 := by rw [fle h4]; exact hf
    have rd : RdT (uI Y6 702 0 0) (xS X6 93 0) := ⟨rfl, ⟨0, by omega, rfl⟩, h7.trans h8.symm, h9, fun i hi => absurd hi (Nat.not_lt_zero i)⟩
    have sm := untake_end (s := 1) S (h1.wI (k := 702) (by omega) 0) (h2.wS (k := 93) (by omega) 0) rd
    refine Or.inr ⟨1, 0, uI (uI Y6 702 0 0) 1 1 0, xS (xS (xS X6 91 0) 0 1) 93 0, fun Q E hQ => uy _ (fun x1 e1 => ?_), fun Q hQ => ux _ (fun x1 e1 => ?_), ⟨rfl, rfl⟩, ?_⟩
    · have e1 : x1 = nI f := e1.trans h7
      subst e1
      refine ⟨fun q => absurd q nf, fun _ x12 e12 => ?_⟩
      have e12 : x12 = nI f := e12.trans h7
      subst e12
      exact ⟨fun q => absurd q nf, fun _ => hQ⟩
    · have e1 : x1 = nI f := e1.trans h8
      subst e1
      refine ⟨fun q => absurd q nf2, fun _ x2 e2 => ?_⟩
      have e2 : x2 = nI f := e2.trans h8
      subst e2
      refine ⟨fun q => absurd q nf2, fun _ x5 e5 => ?_⟩
      have e5 : x5 = nI f := e5.trans h8
      subst e5
      exact ⟨fun q => absurd q nf2, fun _ => hQ⟩
    · have e : xS (xS (xS X6 91 0) 0 1) 93 0 = xS (xS (xS X6 93 0) 91 0) 0 1 := by
        refine Prod.ext (funext fun k => ?_) rfl
        rw [xSS, xSS, xSS, xSS, xSS, xSS]
        by_cases k93 : k = 93
        · subst k93; rfl
        · by_cases k0 : k = 0
          · subst k0; rfl
          · by_cases k91 : k = 91
            · subst k91; rfl
            · rw [if_neg k93, if_neg k0, if_neg k91, if_neg k0, if_neg k91, if_neg k93]
      rw [e]
      exact sm
end
