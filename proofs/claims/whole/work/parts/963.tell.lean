section
variable {n K : Nat} {Y Y2 : Yc} {X X2 : Xc}
theorem client_call (S : Sim n K Y X) (p p2 : Int32) : OutP n K (wy_X11_client n p p2 Y) (wx_X12_client p p2 X) := by
  have hk2 := S.sc.k2
  have S0 := sim_code S 0
  rcases clnt (n := n) Y (xS X 0 0) p with ⟨c, hc, rfl⟩ | ⟨hy, hx⟩
  · have hcc : (nI c).toNatClampNeg = c := nI_clamp (by omega)
    have hv4 : vp_in (nI c) 4 := vp_in_nI hc (by omega)
    obtain ⟨a1, a2, a3, a4, ⟨N, hN, eN⟩, a6, a7, a8, a9, _⟩ := S.cl hc
    -- the flag of the reference
    obtain ⟨s0, es⟩ : ∃ s0 : Int32, s0 = if N = 0 ∨ X.2 66 c = 1 then 0 else 1 := ⟨_, rfl⟩
    have xg : ∀ Q : Int32 → Xc → Prop, bx_X12_client_37 Q (nI c) p2 s0 (xS X 0 0) → wx_X12_client (nI c) p2 X Q := fun Q h => x_isClient hc _ ⟨fun _ => ⟨hv4, fun x7 e7 => by
      rw [hcc] at e7 ⊢
      have e7 : x7 = nI N := e7.trans eN
      subst e7
      refine ⟨fun q => ?_, fun q => ⟨hv4, fun x11 e11 => ?_⟩⟩
      · have q : N = 0 := by
          apply Classical.byContradiction
          intro z
          exact nI_ge (a := 0) (b := N) (by omega) (by omega) q
        rw [if_pos (Or.inl q)] at es
        subst es
        exact h
      · have q : ¬ N = 0 := fun z => q (by rw [z]; decide)
        have e11 : x11 = X.2 66 c := e11
        subst e11
        refine ⟨fun q2 => ?_, fun q2 => ?_⟩
        · rw [if_pos (Or.inr (a4.resolve_left q2))] at es
          subst es
          exact h
        · rw [if_neg (fun z => z.elim q (fun z2 => by rw [z2] at q2; exact absurd q2 (by decide)))] at es
          subst es
          exact h⟩, fun q => absurd q (by decide)⟩
    have yg : ∀ Q : Int32 → Yc → Prop, ((¬ p2 = 0 → ((¬ p2 = (1 : Int32) → ((¬ X.2 66 c = 0 → Q (-1 : Int32) Y) ∧ (X.2 66 c = 0 → ((¬ nI N = 0 → ((p2.toInt < 2 ∨ 4 < p2.toInt → Q (-1 : Int32) Y) ∧ (p2 = (2 : Int32) → Q (X.2 72 c) Y) ∧ (p2 = (3 : Int32) → Q (X.2 73 c) Y) ∧ (p2 = (4 : Int32) → Q (X.2 74 c) Y))) ∧ (nI N = 0 → Q (-1 : Int32) Y))))) ∧ (p2 = (1 : Int32) → ((X.2 66 c = 0 → ((nI N ≤ 0 → Q (0 : Int32) Y) ∧ (¬ nI N ≤ 0 → Q (2 : Int32) Y))) ∧ (¬ X.2 66 c = 0 → Q (1 : Int32) Y))))) ∧ (p2 = 0 → Q (nI N) Y)) → wy_X11_client n (nI c) p2 Y Q := fun Q h => y_isClient hc _ ⟨fun _ => ⟨hv4, by
      rw [hcc]
      refine ⟨fun q => ⟨fun q1 x18 e18 => ?_, fun q1 x52 e52 => ?_⟩, fun q x59 e59 => ?_⟩
      · rw [a2] at e18
        subst e18
        refine ⟨((h.1 q).1 q1).1, fun q2 x21 e21 => ?_⟩
        rw [a1, eN] at e21
        subst e21
        refine ⟨fun q3 => ⟨(((h.1 q).1 q1).2 q2).1 q3 |>.1, fun q4 x27 e27 => ?_, fun q4 y31 e31 => ?_, fun q4 y42 e42 => ?_⟩, (((h.1 q).1 q1).2 q2).2⟩
        · rw [a7] at e27
          subst e27
          exact ((((h.1 q).1 q1).2 q2).1 q3).2.1 q4
        · rw [a8] at e31
          subst e31
          unfold wy_X11_leadOf
          rw [vw_lead]
          exact ((((h.1 q).1 q1).2 q2).1 q3).2.2.1 q4
        · rw [a8] at e42
          subst e42
          unfold wy_X11_sessionOf
          rw [vw_sess]
          exact ((((h.1 q).1 q1).2 q2).1 q3).2.2.2 q4
      · rw [a2] at e52
        subst e52
        refine ⟨fun q2 x55 e55 => ?_, ((h.1 q).2 q1).2⟩
        rw [a1, eN] at e55
        subst e55
        exact ((h.1 q).2 q1).1 q2
      · rw [a1, eN] at e59
        subst e59
        exact h.2 q⟩, fun q => absurd q (by decide)⟩
    have hN0 : nI N = 0 ↔ N = 0 := nI_eq (a := N) (b := 0) (by omega) (by omega)
    have hNl : nI N ≤ 0 ↔ N = 0 := by
      constructor
      · intro q
        apply Classical.byContradiction
        intro z
        exact nI_ge (a := 0) (b := N) (by omega) (by omega) q
      · intro q
        rw [q]
        decide
    rcases sw_cases p2 4 (by omega) with hd | ⟨k, hk, rfl⟩
    · have d0 : p2 ≠ 0 := fun q => by rw [q] at hd; exact absurd hd (by decide)
      have d1 : p2 ≠ 1 := fun q => by rw [q] at hd; exact absurd hd (by decide)
      have d2 : p2 ≠ 2 := fun q => by rw [q] at hd; exact absurd hd (by decide)
      have d3 : p2 ≠ 3 := fun q => by rw [q] at hd; exact absurd hd (by decide)
      have d4 : p2 ≠ 4 := fun q => by rw [q] at hd; exact absurd hd (by decide)
      refine ⟨-1, Y, xS X 0 0, fun Q hQ => yg Q ⟨fun _ => ⟨fun _ => ⟨fun _ => hQ, fun _ => ⟨fun _ => ⟨fun _ => hQ, fun q => absurd q d2, fun q => absurd q d3, fun q => absurd q d4⟩, fun _ => hQ⟩⟩, fun q => absurd q d1⟩, fun q => absurd q d0⟩, fun Q hQ => xg Q ⟨fun _ => hQ, fun q => absurd q d0, fun q => absurd q d1, fun q => absurd q d2, fun q => absurd q d3, fun q => absurd q d4⟩, S0⟩
    · have hne : ∀ a b : Nat, a < 5 → b < 5 → a ≠ b → nI a ≠ nI b := fun a b ha hb h q => h ((nI_eq (by omega) (by omega)).mp q)
      rcases (show k = 0 ∨ k = 1 ∨ k = 2 ∨ k = 3 ∨ k = 4 by omega) with rfl | rfl | rfl | rfl | rfl
      · refine ⟨nI N, Y, xS X 0 0, fun Q hQ => yg Q ⟨fun q => absurd rfl q, fun _ => hQ⟩, fun Q hQ => xg Q ⟨fun q => absurd q (by decide), fun _ => ⟨hv4, fun x3 e3 => by rw [hcc] at e3; have e3 : x3 = nI N := e3.trans eN; subst e3; exact hQ⟩, fun q => absurd q (by decide), fun q => absurd q (by decide), fun q => absurd q (by decide), fun q => absurd q (by decide)⟩, S0⟩
      · by_cases ho : X.2 66 c = 0
        · have ho1 : ¬ X.2 66 c = 1 := by rw [ho]; decide
          by_cases hz : N = 0
          · rw [if_pos (Or.inl hz)] at es
            refine ⟨0, Y, xS X 0 0, fun Q hQ => yg Q ⟨fun _ => ⟨fun q => absurd rfl q, fun _ => ⟨fun _ => ⟨fun _ => hQ, fun q => absurd (hNl.mpr hz) q⟩, fun q => absurd ho q⟩⟩, fun q => absurd q (by decide)⟩, fun Q hQ => xg Q ⟨fun q => absurd q (by decide), fun q => absurd q (by decide), fun _ => ⟨fun _ => ⟨hv4, fun x7 e7 => by rw [hcc] at e7; have e7 : x7 = 0 := e7.trans ho; subst e7; exact ⟨fun _ => hQ, fun q => absurd rfl q⟩⟩, fun q => absurd es q⟩, fun q => absurd q (by decide), fun q => absurd q (by decide), fun q => absurd q (by decide)⟩, S0⟩
          · rw [if_neg (fun z => z.elim hz ho1)] at es
            refine ⟨2, Y, xS X 0 0, fun Q hQ => yg Q ⟨fun _ => ⟨fun q => absurd rfl q, fun _ => ⟨fun _ => ⟨fun q => absurd (hNl.mp q) hz, fun _ => hQ⟩, fun q => absurd ho q⟩⟩, fun q => absurd q (by decide)⟩, fun Q hQ => xg Q ⟨fun q => absurd q (by decide), fun q => absurd q (by decide), fun _ => ⟨fun q => by rw [es] at q; exact absurd q (by decide), fun _ => hQ⟩, fun q => absurd q (by decide), fun q => absurd q (by decide), fun q => absurd q (by decide)⟩, S0⟩
        · rw [if_pos (Or.inr (a4.resolve_left ho))] at es
          refine ⟨1, Y, xS X 0 0, fun Q hQ => yg Q ⟨fun _ => ⟨fun q => absurd rfl q, fun _ => ⟨fun q => absurd q ho, fun _ => hQ⟩⟩, fun q => absurd q (by decide)⟩, fun Q hQ => xg Q ⟨fun q => absurd q (by decide), fun q => absurd q (by decide), fun _ => ⟨fun _ => ⟨hv4, fun x7 e7 => by rw [hcc] at e7; have e7 : x7 = 1 := e7.trans (a4.resolve_left ho); subst e7; exact ⟨fun q => absurd q (by decide), fun _ => hQ⟩⟩, fun q => absurd es q⟩, fun q => absurd q (by decide), fun q => absurd q (by decide), fun q => absurd q (by decide)⟩, S0⟩
      · by_cases ho : X.2 66 c = 0
        · have ho1 : ¬ X.2 66 c = 1 := by rw [ho]; decide
          by_cases hz : N = 0
          · rw [if_pos (Or.inl hz)] at es
            refine ⟨-1, Y, xS X 0 0, fun Q hQ => yg Q ⟨fun _ => ⟨fun _ => ⟨fun _ => hQ, fun z => ⟨fun q => absurd (hN0.mpr hz) q, fun _ => hQ⟩⟩, fun q => absurd q (by decide)⟩, fun q => absurd q (by decide)⟩, fun Q hQ => xg Q ⟨fun q => absurd q (by decide), fun q => absurd q (by decide), fun q => absurd q (by decide), fun _ => ⟨fun _ => hQ, fun q => absurd es q⟩, fun q => absurd q (by decide), fun q => absurd q (by decide)⟩, S0⟩
          · rw [if_neg (fun z => z.elim hz ho1)] at es
            refine ⟨X.2 72 c, Y, xS X 0 0, fun Q hQ => yg Q ⟨fun _ => ⟨fun _ => ⟨fun q => absurd ho q, fun _ => ⟨fun _ => ⟨fun q => absurd q (by decide), fun _ => hQ, fun q => absurd q (by decide), fun q => absurd q (by decide)⟩, fun q => absurd (hN0.mp q) hz⟩⟩, fun q => absurd q (by decide)⟩, fun q => absurd q (by decide)⟩, fun Q hQ => xg Q ⟨fun q => absurd q (by decide), fun q => absurd q (by decide), fun q => absurd q (by decide), fun _ => ⟨fun q => by rw [es] at q; exact absurd q (by decide), fun _ => ⟨hv4, fun x12 e12 => by rw [hcc] at e12; have e12 : x12 = X.2 72 c := e12; subst e12; exact hQ⟩⟩, fun q => absurd q (by decide), fun q => absurd q (by decide)⟩, S0⟩
        · rw [if_pos (Or.inr (a4.resolve_left ho))] at es
          refine ⟨-1, Y, xS X 0 0, fun Q hQ => yg Q ⟨fun _ => ⟨fun _ => ⟨fun _ => hQ, fun z => absurd z ho⟩, fun q => absurd q (by decide)⟩, fun q => absurd q (by decide)⟩, fun Q hQ => xg Q ⟨fun q => absurd q (by decide), fun q => absurd q (by decide), fun q => absurd q (by decide), fun _ => ⟨fun _ => hQ, fun q => absurd es q⟩, fun q => absurd q (by decide), fun q => absurd q (by decide)⟩, S0⟩
      · by_cases ho : X.2 66 c = 0
        · have ho1 : ¬ X.2 66 c = 1 := by rw [ho]; decide
          by_cases hz : N = 0
          · rw [if_pos (Or.inl hz)] at es
            refine ⟨-1, Y, xS X 0 0, fun Q hQ => yg Q ⟨fun _ => ⟨fun _ => ⟨fun _ => hQ, fun z => ⟨fun q => absurd (hN0.mpr hz) q, fun _ => hQ⟩⟩, fun q => absurd q (by decide)⟩, fun q => absurd q (by decide)⟩, fun Q hQ => xg Q ⟨fun q => absurd q (by decide), fun q => absurd q (by decide), fun q => absurd q (by decide), fun q => absurd q (by decide), fun _ => ⟨fun _ => hQ, fun q => absurd es q⟩, fun q => absurd q (by decide)⟩, S0⟩
          · rw [if_neg (fun z => z.elim hz ho1)] at es
            refine ⟨X.2 73 c, Y, xS X 0 0, fun Q hQ => yg Q ⟨fun _ => ⟨fun _ => ⟨fun q => absurd ho q, fun _ => ⟨fun _ => ⟨fun q => absurd q (by decide), fun q => absurd q (by decide), fun _ => hQ, fun q => absurd q (by decide)⟩, fun q => absurd (hN0.mp q) hz⟩⟩, fun q => absurd q (by decide)⟩, fun q => absurd q (by decide)⟩, fun Q hQ => xg Q ⟨fun q => absurd q (by decide), fun q => absurd q (by decide), fun q => absurd q (by decide), fun q => absurd q (by decide), fun _ => ⟨fun q => by rw [es] at q; exact absurd q (by decide), fun _ => ⟨hv4, fun x12 e12 => by rw [hcc] at e12; have e12 : x12 = X.2 73 c := e12; subst e12; exact hQ⟩⟩, fun q => absurd q (by decide)⟩, S0⟩
        · rw [if_pos (Or.inr (a4.resolve_left ho))] at es
          refine ⟨-1, Y, xS X 0 0, fun Q hQ => yg Q ⟨fun _ => ⟨fun _ => ⟨fun _ => hQ, fun z => absurd z ho⟩, fun q => absurd q (by decide)⟩, fun q => absurd q (by decide)⟩, fun Q hQ => xg Q ⟨fun q => absurd q (by decide), fun q => absurd q (by decide), fun q => absurd q (by decide), fun q => absurd q (by decide), fun _ => ⟨fun _ => hQ, fun q => absurd es q⟩, fun q => absurd q (by decide)⟩, S0⟩
      · by_cases ho : X.2 66 c = 0
        · have ho1 : ¬ X.2 66 c = 1 := by rw [ho]; decide
          by_cases hz : N = 0
          · rw [if_pos (Or.inl hz)] at es
            refine ⟨-1, Y, xS X 0 0, fun Q hQ => yg Q ⟨fun _ => ⟨fun _ => ⟨fun _ => hQ, fun z => ⟨fun q => absurd (hN0.mpr hz) q, fun _ => hQ⟩⟩, fun q => absurd q (by decide)⟩, fun q => absurd q (by decide)⟩, fun Q hQ => xg Q ⟨fun q => absurd q (by decide), fun q => absurd q (by decide), fun q => absurd q (by decide), fun q => absurd q (by decide), fun q => absurd q (by decide), fun _ => ⟨fun _ => hQ, fun q => absurd es q⟩⟩, S0⟩
          · rw [if_neg (fun z => z.elim hz ho1)] at es
            refine ⟨X.2 74 c, Y, xS X 0 0, fun Q hQ => yg Q ⟨fun _ => ⟨fun _ => ⟨fun q => absurd ho q, fun _ => ⟨fun _ => ⟨fun q => absurd q (by decide), fun q => absurd q (by decide), fun q => absurd q (by decide), fun _ => hQ⟩, fun q => absurd (hN0.mp q) hz⟩⟩, fun q => absurd q (by decide)⟩, fun q => absurd q (by decide)⟩, fun Q hQ => xg Q ⟨fun q => absurd q (by decide), fun q => absurd q (by decide), fun q => absurd q (by decide), fun q => absurd q (by decide), fun q => absurd q (by decide), fun _ => ⟨fun q => by rw [es] at q; exact absurd q (by decide), fun _ => ⟨hv4, fun x12 e12 => by rw [hcc] at e12; have e12 : x12 = X.2 74 c := e12; subst e12; exact hQ⟩⟩⟩, S0⟩
        · rw [if_pos (Or.inr (a4.resolve_left ho))] at es
          refine ⟨-1, Y, xS X 0 0, fun Q hQ => yg Q ⟨fun _ => ⟨fun _ => ⟨fun _ => hQ, fun z => absurd z ho⟩, fun q => absurd q (by decide)⟩, fun q => absurd q (by decide)⟩, fun Q hQ => xg Q ⟨fun q => absurd q (by decide), fun q => absurd q (by decide), fun q => absurd q (by decide), fun q => absurd q (by decide), fun q => absurd q (by decide), fun _ => ⟨fun _ => hQ, fun q => absurd es q⟩⟩, S0⟩
  · exact ⟨-1, Y, xS X 0 0, fun Q hQ => hy _ ⟨fun q => absurd rfl q, fun _ => hQ⟩, fun Q hQ => hx _ ⟨fun q => absurd rfl q, fun _ => hQ⟩, S0⟩
theorem word_call (S : Sim n K Y X) (p p2 : Int32) : OutP n K (wy_X11_word n p p2 Y) (wx_X12_word p p2 X) := by
  have hn := S.sc.n7
  have hk2 := S.sc.k2
  have S0 := sim_code S 0
  rcases repl S0 p with ⟨r, hr, rfl⟩ | ⟨hy, hx⟩
  · obtain ⟨hcr, hv7, hvn⟩ := rep_arg S hr
    rcases i32_cases p2 with h | ⟨k, hk, rfl⟩
    · exact ⟨0, Y, xS X 0 0, fun Q hQ => y_isReplica hr hn _ ⟨fun q => absurd q (by decide), fun _ => ⟨fun _ => hQ, fun q => absurd h q⟩⟩, fun Q hQ => x_isReplica S0 hr _ ⟨fun q => absurd q (by decide), fun _ => x_inN h _ ⟨fun q => absurd rfl q, fun _ => hQ⟩⟩, S0⟩
    · have hk0 : ¬ nI k < 0 := fun q => absurd ((nI_lti (a := k) (b := 0) hk (by omega)).mp q) (by omega)
      have hc : (nI k).toNatClampNeg = k := nI_clamp hk
      by_cases hk8 : k < 8
      · obtain ⟨X1, rx, bx, tx⟩ := x_execute S0 hr
        have L := S.lg hr
        have hl := L.2.2.1.ln (by omega)
        have hp := (S.rp hr).pnK.ln (by omega)
        obtain ⟨Y1, ry, by', ty, _⟩ := y_replay (n := n) (K := K) (Y := Y) (r := r) (L := ln (X.2 26 r)) (E := exE n X r) (by omega) (by unfold exE; split <;> omega) (L.1.trans hl.2) (fun s hs => by
          have := L.2.2.2.2 s hs
          rw [this.1]
          exact this.2)
        have hmin : min (exE n X r) (ln (X.2 26 r)) = exE n X r := by unfold exE; split <;> omega
        rw [hmin, Tb_congr (g := fun s => xE X (100 * r + s)) (exE n X r) (fun s hs => (L.2.2.2.2 s (by unfold exE at hs; split at hs <;> omega)).1)] at by'
        have hval : yA Y1 1000 0 k = X1.2 62 k := (by'.1 k hk8).trans (bx.1 k hk8).symm
        refine ⟨X1.2 62 k, Y1, X1, fun Q hQ => y_isReplica hr hn _ ⟨fun q => absurd q (by decide), fun _ => ⟨fun q => absurd q hk0, fun _ => ⟨fun _ => ⟨hvn, hvn, ?_⟩, fun q => absurd ((nI_lti (a := k) (b := 8) hk (by omega)).mpr hk8) q⟩⟩⟩, fun Q hQ => x_isReplica S0 hr _ ⟨fun q => absurd q (by decide), fun _ => x_in0 (b := 7) hk (by omega) _ ?_⟩, tbl_sim S0 ty tx⟩
        · rw [hcr]
          have fin : wy_X10_replay n r (nI (exE n X r)) Y (fun Y35 => vp_in (nI k) 8 ∧ ∀ x45 : Int32, x45 = yA Y35 1000 0 (nI k).toNatClampNeg → Q x45 Y35) := ry _ ⟨vp_in_nI hk8 (by omega), fun x45 e45 => by
            rw [hc, hval] at e45
            subst e45
            exact hQ⟩
          have h25 : exE n X r = min (ln (X.2 28 r)) (ln (X.2 26 r)) → by_X8_executedEnd_25 n r (fun (x30 : Int32) (Y27 : Yc) => (wy_X10_replay n r x30 Y27 (fun Y35 => vp_in (nI k) 8 ∧ ∀ x45 : Int32, x45 = yA Y35 1000 0 (nI k).toNatClampNeg → Q x45 Y35))) Y := fun e => by
            unfold by_X8_executedEnd_25 wy_J9_min_7cf53
            intro x1 e1 x5 e5
            rw [(S.rp hr).pnt, hp.2] at e1
            rw [L.1, hl.2] at e5
            subst e1; subst e5
            rw [nI_lti (by omega) (by omega)]
            refine ⟨fun q => ?_, fun q => ?_⟩
            · rw [show ln (X.2 26 r) = exE n X r by omega]; exact fin
            · rw [show ln (X.2 28 r) = exE n X r by omega]; exact fin
          unfold wy_X8_executedEnd
          refine y_leads S hr _ ⟨fun q => h25 ?_, fun q x9 e9 => ?_⟩
          · rw [lds_0] at q
            unfold exE
            rw [if_neg (fun z => q z.1)]
          · have q : ldr n X r = r := by
              rcases lds_01 (n := n) (X := X) (r := r) with z | z
              · exact absurd z q
              · exact lds_1.mp z
            rw [(S.rp hr).sta] at e9
            subst e9
            refine ⟨fun q2 => h25 ?_, fun q2 x14 e14 => ?_⟩
            · unfold exE
              rw [if_neg (fun z => z.2 q2)]
            · rw [L.1, hl.2] at e14
              subst e14
              rw [show ln (X.2 26 r) = exE n X r from by unfold exE; rw [if_pos ⟨q, q2⟩]]
              exact fin
        · rw [if_pos (by omega)]
          refine ⟨fun _ => rx _ ⟨vp_in_nI hk8 (by omega), fun x16 e16 => ?_⟩, fun q => absurd q (by decide)⟩
          rw [hc] at e16
          subst e16
          exact hQ
      · refine ⟨0, Y, xS X 0 0, fun Q hQ => y_isReplica hr hn _ ⟨fun q => absurd q (by decide), fun _ => ⟨fun q => absurd q hk0, fun _ => ⟨fun q => absurd ((nI_lti (a := k) (b := 8) hk (by omega)).mp q) hk8, fun _ => hQ⟩⟩⟩, fun Q hQ => x_isReplica S0 hr _ ⟨fun q => absurd q (by decide), fun _ => x_in0 (b := 7) hk (by omega) _ ?_⟩, S0⟩
        rw [if_neg (by omega)]
        exact ⟨fun q => absurd rfl q, fun _ => hQ⟩
  · exact ⟨0, Y, xS X 0 0, fun Q hQ => hy _ ⟨fun _ => hQ, fun q => absurd rfl q⟩, fun Q hQ => hx _ ⟨fun _ => hQ, fun q => absurd rfl q⟩, S0⟩
/-- what an entry tells -/
def enV (th : Bool) (q : Option Rq) (p : Int32) : Int32 :=
  if p = 5 then (match q with | none => 0 | some w => w.2.2.2.2)
  else if p = 0 ∧ th = true then (match q with | none => 0 | some _ => 1)
  else match q with
    | none => -1
    | some w => if p = 1 then w.1 else if p = 2 then w.2.1 else if p = 3 then w.2.2.1 else if p = 4 then w.2.2.2.1 else -1
theorem y_entV (th : Bool) (q : Option Rq) (p : Int32) (hq : th = false → q = none) (Q : Int32 → Yc → Prop) (hQ : Q (enV th q p) Y) : by_X11_entry_53 n Q p (if th = true then 1 else 0) q Y := by
  unfold by_X11_entry_53
  unfold enV at hQ
  refine ⟨fun h5 => ?_, fun h5 => ?_⟩
  · rw [if_neg h5] at hQ
    have h95 : ¬ (p = 0 ∧ th = true) → by_X11_entry_95 n Q p q Y := fun h0 => by
      rw [if_neg h0] at hQ
      unfold by_X11_entry_95
      cases q with
      | none => exact ⟨fun _ => hQ, fun w h => by simp at h⟩
      | some w =>
        refine ⟨fun h => by simp at h, fun w3 e3 => ?_⟩
        have e3 : w = w3 := by simpa using e3
        subst e3
        have hQ : Q (if p = 1 then w.1 else if p = 2 then w.2.1 else if p = 3 then w.2.2.1 else if p = 4 then w.2.2.2.1 else -1) Y := hQ
        refine ⟨fun hd => ?_, fun e x6 e6 => ?_, fun e x6 e6 => ?_, fun e x6 e6 => ?_, fun e x6 e6 => ?_⟩
        · rw [if_neg (fun z => by rw [z] at hd; exact absurd hd (by decide)), if_neg (fun z => by rw [z] at hd; exact absurd hd (by decide)), if_neg (fun z => by rw [z] at hd; exact absurd hd (by decide)), if_neg (fun z => by rw [z] at hd; exact absurd hd (by decide))] at hQ
          exact hQ
        · subst e; subst e6
          exact hQ
        · subst e; subst e6
          exact hQ
        · subst e; subst e6
          exact hQ
        · subst e; subst e6
          exact hQ
    refine ⟨fun h0 => h95 (fun z => h0 z.1), fun h0 => ⟨fun ht => h95 (fun z => by rw [if_pos z.2] at ht; exact absurd ht (by decide)), fun ht => ?_⟩⟩
    have htt : th = true := by
      cases th with
      | true => rfl
      | false => exact absurd rfl ht
    rw [if_pos ⟨h0, htt⟩] at hQ
    cases q with
    | none => exact ⟨fun _ => hQ, fun w h => by simp at h⟩
    | some w => exact ⟨fun h => by simp at h, fun w _ => hQ⟩
  · rw [if_pos h5] at hQ
    cases q with
    | none => exact ⟨fun _ => hQ, fun w h => by simp at h⟩
    | some w =>
      refine ⟨fun h => by simp at h, fun w10 e10 x12 e12 => ?_⟩
      have e10 : w = w10 := by simpa using e10
      subst e10
      subst e12
      exact hQ
theorem x_entV (th : Bool) (e : Nat) (he : e < 700) (q : Option Rq) (p : Int32) (hq : th = false → q = none) (hth : th = true → xE X e = q) (Q : Int32 → Xc → Prop) (hQ : Q (enV th q p) X) : bx_X12_entry_63 Q p (if th = true then 1 else 0) (nI e) X := by
  have hc : (nI e).toNatClampNeg = e := nI_clamp (by omega)
  have hv : vp_in (nI e) 700 := vp_in_nI he (by omega)
  have h85n : q = none → bx_X12_entry_85 Q p (if th = true then 1 else 0) (nI e) 0 X := fun hqn => by
    subst hqn
    unfold bx_X12_entry_85
    unfold enV at hQ
    refine ⟨fun hd => ?_, fun z => ?_, fun z => ⟨fun _ => ?_, fun q => absurd rfl q⟩, fun z => ⟨fun _ => ?_, fun q => absurd rfl q⟩, fun z => ⟨fun _ => ?_, fun q => absurd rfl q⟩, fun z => ⟨fun _ => ?_, fun q => absurd rfl q⟩, fun z => ⟨fun _ => ?_, fun q => absurd rfl q⟩⟩
    · rw [if_neg (fun z => by rw [z] at hd; exact absurd hd (by decide)), if_neg (fun z => by rw [z.1] at hd; exact absurd hd (by decide))] at hQ
      exact hQ
    · subst z
      refine ⟨fun _ => ⟨fun ht => ?_, fun ht => ?_⟩, fun q => absurd rfl q⟩
      · have htt : ¬ th = true := fun z => by rw [if_pos z] at ht; exact absurd ht (by decide)
        rw [if_neg (by decide), if_neg (fun z => htt z.2)] at hQ
        exact hQ
      · have htt : th = true := by
          cases th with
          | true => rfl
          | false => exact absurd rfl ht
        rw [if_neg (by decide), if_pos ⟨rfl, htt⟩] at hQ
        exact hQ
    · subst z; rw [if_neg (by decide), if_neg (fun z => absurd z.1 (by decide))] at hQ; exact hQ
    · subst z; rw [if_neg (by decide), if_neg (fun z => absurd z.1 (by decide))] at hQ; exact hQ
    · subst z; rw [if_neg (by decide), if_neg (fun z => absurd z.1 (by decide))] at hQ; exact hQ
    · subst z; rw [if_neg (by decide), if_neg (fun z => absurd z.1 (by decide))] at hQ; exact hQ
    · subst z; rw [if_pos rfl] at hQ; exact hQ
  unfold bx_X12_entry_63
  refine ⟨fun ht => ?_, fun ht => ⟨hv, fun x3 e3 => ?_⟩⟩
  · have htt : th = false := by
      cases th with
      | true => rw [if_pos rfl] at ht; exact absurd ht (by decide)
      | false => rfl
    unfold bx_X12_entry_84
    exact h85n (hq htt)
  · have htt : th = true := by
      cases th with
      | true => rfl
      | false => exact absurd rfl ht
    rw [hc] at e3
    subst e3
    refine ⟨fun z => ?_, fun z => ?_⟩
    · unfold bx_X12_entry_84
      refine h85n ?_
      rw [← hth htt]
      unfold xE
      rw [if_pos z]
    · have hx : q = some (X.2 31 e, X.2 32 e, X.2 33 e, X.2 34 e, X.2 35 e) := by
        rw [← hth htt]
        unfold xE
        rw [if_neg z]
      subst hx
      unfold bx_X12_entry_85
      unfold enV at hQ
      rw [hc]
      refine ⟨fun hd => ?_, fun z => ⟨fun q => absurd q (by decide), fun _ => ?_⟩, fun z => ⟨fun q => absurd q (by decide), fun _ => ⟨hv, fun x6 e6 => ?_⟩⟩, fun z => ⟨fun q => absurd q (by decide), fun _ => ⟨hv, fun x6 e6 => ?_⟩⟩, fun z => ⟨fun q => absurd q (by decide), fun _ => ⟨hv, fun x6 e6 => ?_⟩⟩, fun z => ⟨fun q => absurd q (by decide), fun _ => ⟨hv, fun x6 e6 => ?_⟩⟩, fun z => ⟨fun q => absurd q (by decide), fun _ => ⟨hv, fun x6 e6 => ?_⟩⟩⟩
      · rw [if_neg (fun z => by rw [z] at hd; exact absurd hd (by decide)), if_neg (fun z => by rw [z.1] at hd; exact absurd hd (by decide))] at hQ
        have hQ : Q (if p = 1 then X.2 31 e else if p = 2 then X.2 32 e else if p = 3 then X.2 33 e else if p = 4 then X.2 34 e else -1) X := hQ
        rw [if_neg (fun z => by rw [z] at hd; exact absurd hd (by decide)), if_neg (fun z => by rw [z] at hd; exact absurd hd (by decide)), if_neg (fun z => by rw [z] at hd; exact absurd hd (by decide)), if_neg (fun z => by rw [z] at hd; exact absurd hd (by decide))] at hQ
        exact hQ
      · subst z
        rw [if_neg (by decide), if_pos ⟨rfl, htt⟩] at hQ
        exact hQ
      · subst z; subst e6
        rw [if_neg (by decide), if_neg (fun z => absurd z.1 (by decide))] at hQ
        exact hQ
      · subst z; subst e6
        rw [if_neg (by decide), if_neg (fun z => absurd z.1 (by decide))] at hQ
        exact hQ
      · subst z; subst e6
        rw [if_neg (by decide), if_neg (fun z => absurd z.1 (by decide))] at hQ
        exact hQ
      · subst z; subst e6
        rw [if_neg (by decide), if_neg (fun z => absurd z.1 (by decide))] at hQ
        exact hQ
      · subst z; subst e6
        rw [if_pos rfl] at hQ
        exact hQ
theorem entry_call (S : Sim n K Y X) (p p2 p3 : Int32) : OutP n K (wy_X11_entry n p p2 p3 Y) (wx_X12_entry p p2 p3 X) := by
  have hn := S.sc.n7
  have S0 := sim_code S 0
  have y28 : ∀ Q : Int32 → Yc → Prop, Q (enV false none p3) Y → by_X11_entry_28 n Q p p2 p3 Y := fun Q hQ => by
    unfold by_X11_entry_28 by_X11_entry_29
    exact ⟨fun _ => y_entV false none p3 (fun _ => rfl) Q hQ, fun q => absurd rfl q⟩
  have x43 : ∀ Q : Int32 → Xc → Prop, Q (enV false none p3) (xS X 0 0) → bx_X12_entry_43 Q p p2 p3 (xS X 0 0) := fun Q hQ => by
    unfold bx_X12_entry_43 bx_X12_entry_44
    exact ⟨fun _ => x_entV false 0 (by omega) none p3 (fun _ => rfl) (fun h => by simp at h) Q hQ, fun q => absurd rfl q⟩
  rcases repl S0 p with ⟨r, hr, rfl⟩ | ⟨hy, hx⟩
  · obtain ⟨hcr, hv7, hvn⟩ := rep_arg S hr
    obtain ⟨L, hL, hl⟩ := (S.lg hr).2.2.1
    have hll : ln (nI L) = L := nI_clamp (by omega)
    have h201 : yI Y 201 r = nI L := (S.lg hr).1.trans hl
    have xg : ∀ Q : Int32 → Xc → Prop, wx_X12_in p2 1 (nI L) (xS X 0 0) (fun (x3 : Int32) (X5 : Xc) => ((x3 = 0 → bx_X12_entry_43 Q (nI r) p2 p3 X5) ∧ (¬ x3 = 0 → bx_X12_entry_44 Q (nI r) p2 p3 (1 : Int32) X5))) → wx_X12_entry (nI r) p2 p3 X Q := fun Q h => x_isReplica S0 hr _ ⟨fun q => absurd q (by decide), fun _ => x_isReplica S0 hr _ ⟨fun q => absurd q (by decide), fun _ => by
      unfold bx_X12_entry_32
      rw [hcr]
      refine ⟨hv7, fun x1 e1 => ?_⟩
      have e1 : x1 = nI L := e1.trans hl
      subst e1
      exact h⟩⟩
    rcases i32_cases p2 with h | ⟨k, hk, rfl⟩
    · have h1 : p2 < 1 := by
        rw [Int32.lt_iff_toInt_lt] at h ⊢
        have h0 : (0 : Int32).toInt = 0 := by decide
        have h1 : (1 : Int32).toInt = 1 := by decide
        omega
      refine ⟨_, Y, xS X 0 0, fun Q hQ => y_isReplica hr hn _ ⟨fun q => absurd q (by decide), fun _ => ⟨hvn, ⟨fun _ => ⟨fun _ => y28 Q hQ, fun q => absurd rfl q⟩, fun q => absurd h1 q⟩⟩⟩, fun Q hQ => xg Q ⟨fun _ => ⟨fun _ => x43 Q hQ, fun q => absurd rfl q⟩, fun q => absurd h1 q⟩, S0⟩
    · by_cases hh : 1 ≤ k ∧ k ≤ L
      · have hE := (S.lg hr).2.2.2.2 (k - 1) (by rw [hl, hll]; omega)
        refine ⟨enV true (xE X (100 * r + (k - 1))) p3, Y, xS X 0 0, fun Q hQ => y_isReplica hr hn _ ⟨fun q => absurd q (by decide), fun _ => ⟨hvn, ?_⟩⟩, fun Q hQ => xg Q (x_in hk hL _ ?_), S0⟩
        · rw [hcr]
          refine y_has hk hL h201 _ ?_
          rw [if_pos hh]
          refine ⟨fun q => absurd q (by decide), fun _ => ?_⟩
          unfold by_X11_entry_29
          rw [hcr]
          refine ⟨fun q => absurd q (by decide), fun _ => ⟨hvn, y_ent hh.1 hh.2 hL h201 _ ?_⟩⟩
          rw [hE.1]
          exact y_entV true _ p3 (fun h => by simp at h) Q hQ
        · rw [if_pos hh]
          refine ⟨fun q => absurd q (by decide), fun _ => ?_⟩
          unfold bx_X12_entry_44
          refine ⟨fun q => absurd q (by decide), fun _ => ?_⟩
          rw [idx101 hh.1]
          exact x_entV true (100 * r + (k - 1)) (by omega) _ p3 (fun h => by simp at h) (fun _ => rfl) Q hQ
      · refine ⟨enV false none p3, Y, xS X 0 0, fun Q hQ => y_isReplica hr hn _ ⟨fun q => absurd q (by decide), fun _ => ⟨hvn, ?_⟩⟩, fun Q hQ => xg Q (x_in hk hL _ ?_), S0⟩
        · rw [hcr]
          refine y_has hk hL h201 _ ?_
          rw [if_neg hh]
          exact ⟨fun _ => y28 Q hQ, fun q => absurd rfl q⟩
        · rw [if_neg hh]
          exact ⟨fun _ => x43 Q hQ, fun q => absurd rfl q⟩
  · exact ⟨_, Y, xS X 0 0, fun Q hQ => hy _ ⟨fun _ => y28 Q hQ, fun q => absurd rfl q⟩, fun Q hQ => hx _ ⟨fun _ => x43 Q hQ, fun q => absurd rfl q⟩, S0⟩
end
