/-! request -/
section
variable {n K : Nat} {Y Y2 Y0 Y1 : Yc} {X X2 X0 X1 : Xc} {c : Nat}
theorem begin_sim (S : Sim n K Y X) (hK : K + 1 < 1073741824) (hc : c < 4) {kd ky : Nat} (hkd : kd ≤ 2) (hky : ky ≤ 7) (p4 : Int32) :
    Sim n (K + 1) (uI (uI (uI (uI (uP Y 100 c (some (nI c, X.2 65 c + 1, nI kd, nI ky, p4))) 101 c (X.2 65 c + 1)) 102 c 1) 106 c 0) 107 c 0)
      (xA (xA (xA (xA (xA (xA X 65 c (X.2 65 c + 1)) 66 c 1) 67 c (nI kd)) 68 c (nI ky)) 69 c p4) 75 c 0) := by
  have S1 := S.mono (Nat.le_succ K) hK
  refine sim_cli S1 hc (((((CgY.rf.wP (by omega) _).wI (by omega) _).wI (by omega) _).wI (by omega) _).wI (by omega) _) ((((((CgX.rf.wA (by omega) _).wA (by omega) _).wA (by omega) _).wA (by omega) _).wA (by omega) _).wA (by omega) _) ?_
  obtain ⟨a1, a2, a3, a4, a5, a6, a7, a8, a9, a10, a11, f, hf, hf2, hf3⟩ := S.cl hc
  obtain ⟨x, hx, ex⟩ := a5
  have e65 : X.2 65 c + 1 = nI (x + 1) := by rw [ex]; exact nI_1 x
  refine ⟨?_, ?_, ?_, Or.inr ?_, ⟨x + 1, by omega, ?_⟩, fun _ => ⟨?_, ⟨kd, hkd, ?_⟩, ⟨ky, hky, ?_⟩⟩, ?_, ?_, ?_, ?_, ⟨0, by omega, ?_⟩, 0, by omega, ?_, fun i hi => ?_⟩
  · simp [yII, yIJ, yIA, yIB, yIP, yIS, yIR, yJI, yJJ, yJA, yJB, yJP, yJS, yJR, yAI, yAJ, yAA, yAB, yAP, yAS, yAR, yBI, yBJ, yBA, yBB, yBP, yBS, yBR, yPI, yPJ, yPA, yPB, yPP, yPS, yPR, ySI, ySJ, ySA, ySB, ySP, ySS, ySR, yRI, yRJ, yRA, yRB, yRP, yRS, yRR, xSS, xSA, xAS, xAA]
  · simp [yII, yIJ, yIA, yIB, yIP, yIS, yIR, yJI, yJJ, yJA, yJB, yJP, yJS, yJR, yAI, yAJ, yAA, yAB, yAP, yAS, yAR, yBI, yBJ, yBA, yBB, yBP, yBS, yBR, yPI, yPJ, yPA, yPB, yPP, yPS, yPR, ySI, ySJ, ySA, ySB, ySP, ySS, ySR, yRI, yRJ, yRA, yRB, yRP, yRS, yRR, xSS, xSA, xAS, xAA]
  · simpa [yII, yIJ, yIA, yIB, yIP, yIS, yIR, yJI, yJJ, yJA, yJB, yJP, yJS, yJR, yAI, yAJ, yAA, yAB, yAP, yAS, yAR, yBI, yBJ, yBA, yBB, yBP, yBS, yBR, yPI, yPJ, yPA, yPB, yPP, yPS, yPR, ySI, ySJ, ySA, ySB, ySP, ySS, ySR, yRI, yRJ, yRA, yRB, yRP, yRS, yRR, xSS, xSA, xAS, xAA] using a3
  · simp [yII, yIJ, yIA, yIB, yIP, yIS, yIR, yJI, yJJ, yJA, yJB, yJP, yJS, yJR, yAI, yAJ, yAA, yAB, yAP, yAS, yAR, yBI, yBJ, yBA, yBB, yBP, yBS, yBR, yPI, yPJ, yPA, yPB, yPP, yPS, yPR, ySI, ySJ, ySA, ySB, ySP, ySS, ySR, yRI, yRJ, yRA, yRB, yRP, yRS, yRR, xSS, xSA, xAS, xAA]
  · simpa [yII, yIJ, yIA, yIB, yIP, yIS, yIR, yJI, yJJ, yJA, yJB, yJP, yJS, yJR, yAI, yAJ, yAA, yAB, yAP, yAS, yAR, yBI, yBJ, yBA, yBB, yBP, yBS, yBR, yPI, yPJ, yPA, yPB, yPP, yPS, yPR, ySI, ySJ, ySA, ySB, ySP, ySS, ySR, yRI, yRJ, yRA, yRB, yRP, yRS, yRR, xSS, xSA, xAS, xAA] using e65
  · simp [yII, yIJ, yIA, yIB, yIP, yIS, yIR, yJI, yJJ, yJA, yJB, yJP, yJS, yJR, yAI, yAJ, yAA, yAB, yAP, yAS, yAR, yBI, yBJ, yBA, yBB, yBP, yBS, yBR, yPI, yPJ, yPA, yPB, yPP, yPS, yPR, ySI, ySJ, ySA, ySB, ySP, ySS, ySR, yRI, yRJ, yRA, yRB, yRP, yRS, yRR, xSS, xSA, xAS, xAA]
  · simp [yII, yIJ, yIA, yIB, yIP, yIS, yIR, yJI, yJJ, yJA, yJB, yJP, yJS, yJR, yAI, yAJ, yAA, yAB, yAP, yAS, yAR, yBI, yBJ, yBA, yBB, yBP, yBS, yBR, yPI, yPJ, yPA, yPB, yPP, yPS, yPR, ySI, ySJ, ySA, ySB, ySP, ySS, ySR, yRI, yRJ, yRA, yRB, yRP, yRS, yRR, xSS, xSA, xAS, xAA]
  · simp [yII, yIJ, yIA, yIB, yIP, yIS, yIR, yJI, yJJ, yJA, yJB, yJP, yJS, yJR, yAI, yAJ, yAA, yAB, yAP, yAS, yAR, yBI, yBJ, yBA, yBB, yBP, yBS, yBR, yPI, yPJ, yPA, yPB, yPP, yPS, yPR, ySI, ySJ, ySA, ySB, ySP, ySS, ySR, yRI, yRJ, yRA, yRB, yRP, yRS, yRR, xSS, xSA, xAS, xAA]
  · simpa [yII, yIJ, yIA, yIB, yIP, yIS, yIR, yJI, yJJ, yJA, yJB, yJP, yJS, yJR, yAI, yAJ, yAA, yAB, yAP, yAS, yAR, yBI, yBJ, yBA, yBB, yBP, yBS, yBR, yPI, yPJ, yPA, yPB, yPP, yPS, yPR, ySI, ySJ, ySA, ySB, ySP, ySS, ySR, yRI, yRJ, yRA, yRB, yRP, yRS, yRR, xSS, xSA, xAS, xAA] using a7
  · simpa [yII, yIJ, yIA, yIB, yIP, yIS, yIR, yJI, yJJ, yJA, yJB, yJP, yJS, yJR, yAI, yAJ, yAA, yAB, yAP, yAS, yAR, yBI, yBJ, yBA, yBB, yBP, yBS, yBR, yPI, yPJ, yPA, yPB, yPP, yPS, yPR, ySI, ySJ, ySA, ySB, ySP, ySS, ySR, yRI, yRJ, yRA, yRB, yRP, yRS, yRR, xSS, xSA, xAS, xAA] using a8
  · simpa [yII, yIJ, yIA, yIB, yIP, yIS, yIR, yJI, yJJ, yJA, yJB, yJP, yJS, yJR, yAI, yAJ, yAA, yAB, yAP, yAS, yAR, yBI, yBJ, yBA, yBB, yBP, yBS, yBR, yPI, yPJ, yPA, yPB, yPP, yPS, yPR, ySI, ySJ, ySA, ySB, ySP, ySS, ySR, yRI, yRJ, yRA, yRB, yRP, yRS, yRR, xSS, xSA, xAS, xAA] using a9
  · simp [yII, yIJ, yIA, yIB, yIP, yIS, yIR, yJI, yJJ, yJA, yJB, yJP, yJS, yJR, yAI, yAJ, yAA, yAB, yAP, yAS, yAR, yBI, yBJ, yBA, yBB, yBP, yBS, yBR, yPI, yPJ, yPA, yPB, yPP, yPS, yPR, ySI, ySJ, ySA, ySB, ySP, ySS, ySR, yRI, yRJ, yRA, yRB, yRP, yRS, yRR, xSS, xSA, xAS, xAA]
  · simp [yII, yIJ, yIA, yIB, yIP, yIS, yIR, yJI, yJJ, yJA, yJB, yJP, yJS, yJR, yAI, yAJ, yAA, yAB, yAP, yAS, yAR, yBI, yBJ, yBA, yBB, yBP, yBS, yBR, yPI, yPJ, yPA, yPB, yPP, yPS, yPR, ySI, ySJ, ySA, ySB, ySP, ySS, ySR, yRI, yRJ, yRA, yRB, yRP, yRS, yRR, xSS, xSA, xAS, xAA]; rfl
  · simp [yII, yIJ, yIA, yIB, yIP, yIS, yIR, yJI, yJJ, yJA, yJB, yJP, yJS, yJR, yAI, yAJ, yAA, yAB, yAP, yAS, yAR, yBI, yBJ, yBA, yBB, yBP, yBS, yBR, yPI, yPJ, yPA, yPB, yPP, yPS, yPR, ySI, ySJ, ySA, ySB, ySP, ySS, ySR, yRI, yRJ, yRA, yRB, yRP, yRS, yRR, xSS, xSA, xAS, xAA]; rfl
  · exfalso
    have e : (xA (xA (xA (xA (xA (xA X 65 c (X.2 65 c + 1)) 66 c 1) 67 c (nI kd)) 68 c (nI ky)) 69 c p4) 75 c 0).2 75 c = 0 := by simp [xSS, xSA, xAS, xAA]
    rw [e] at hi
    exact absurd hi (Nat.not_lt_zero i)
/-- an address that is no one's: the class stands as it stood -/
theorem HY.nw {ad aa : Nat → Nat → Nat} {σ τ : Sto} (h : HY n ad aa σ Y) (hF : ∀ a, sK σ a < 23 → sK τ a = sK σ a ∧ sN τ a = sN σ a ∧ sI τ a = sI σ a ∧ sJ τ a = sJ σ a ∧ sP τ a = sP σ a) : HY n ad aa τ Y := by
  refine h.out (fun a ha => hF a ?_)
  rcases ha with (⟨c, o, ho, e⟩ | ⟨c, o, k, ho, hk, hz, e⟩) | e
  · rw [e, h.K ho]
    have := (ob_lt ho).1
    omega
  · rw [e, (h.2.2.2.2.1 c o k ho hk hz).2.1]
    exact (akd_in _ hz).2
  · rw [e]
    decide
theorem stN_ne {σ : Sto} {q a kd len : Nat} (h : a ≠ q) : sK (stN σ q kd len) a = sK σ a ∧ sN (stN σ q kd len) a = sN σ a ∧ sI (stN σ q kd len) a = sI σ a ∧ sJ (stN σ q kd len) a = sJ σ a ∧ sP (stN σ q kd len) a = sP σ a := by
  refine ⟨va_up_ne _ _ h, va_up_ne _ _ h, funext fun j => ?_, funext fun j => ?_, funext fun j => ?_⟩
  · exact if_neg h
  · exact if_neg h
  · exact if_neg h
theorem stN_at {σ : Sto} {q kd len : Nat} : sK (stN σ q kd len) q = kd ∧ sN (stN σ q kd len) q = len ∧ (∀ j, sI (stN σ q kd len) q j = 0) ∧ (∀ j, sJ (stN σ q kd len) q j = 0) ∧ ∀ j, sP (stN σ q kd len) q j = none := by
  refine ⟨?_, ?_, fun j => if_pos rfl, fun j => if_pos rfl, fun j => if_pos rfl⟩
  · show va_up σ.1 q kd q = kd
    simp [va_up]
  · show va_up σ.2.1 q len q = len
    simp [va_up]
theorem stI_ne {σ : Sto} {q a k : Nat} {v : Int32} (h : a ≠ q) : sI (stI σ q k v) a = sI σ a := up2_row _ v h
def CdR (e : Nat) (v : Int32) : Prop := (e = 0 ∧ v = 1) ∨ (e = 1 ∧ v = 2) ∨ (e = 2 ∧ v = 3)
theorem x_refuse (v : Int32) {X : Xc} (Q : Int32 → Xc → Prop) (hQ : Q 0 (xS X 0 v)) : wx_X12_refuse v X Q := by
  unfold wx_X12_refuse
  exact hQ
theorem request_call {ad aa : Nat → Nat → Nat} {σ : Sto} (S : Sim n K Y X) (hR : HY n ad aa σ Y) (hK : K + 2 < 1073741824) (p1 p2 p3 p4 : Int32) :
    (∃ v X2, (∀ Q, Q v X2 → wx_X12_request p1 p2 p3 p4 X Q) ∧ X2.1 0 = 0 ∧ ∀ (Q : Int32 → Sto → Prop) (E : Nat → Sto → Prop), (∀ σ' Y', HY n ad aa σ' Y' → Fy n ad aa σ σ' → Sim n (K + 2) Y' X2 → Q v σ') → wp_X11_request (ad 11 0) p1 p2 p3 p4 σ Q E) ∨
    (∃ e v X2, (∀ Q, Q v X2 → wx_X12_request p1 p2 p3 p4 X Q) ∧ CdR e (X2.1 0) ∧ Sim n (K + 2) Y X2 ∧ ∀ (Q : Int32 → Sto → Prop) (E : Nat → Sto → Prop), (∀ σ', HY n ad aa σ' Y → Fy n ad aa σ σ' → E e σ') → wp_X11_request (ad 11 0) p1 p2 p3 p4 σ Q E) := by
  have S2 := S.mono (K' := K + 2) (by omega) hK
  have S0 := sim_code S 0
  rcases clnt (n := n) Y (xS X 0 0) p1 with ⟨c, hc, rfl⟩ | ⟨hy, hx⟩
  · have hcc : (nI c).toNatClampNeg = c := nI_clamp (by omega)
    have hv4 : vp_in (nI c) 4 := vp_in_nI hc (by omega)
    have oc : Ob n 1 c := hc
    have cy : ∀ (Q : Int32 → Sto → Prop), (∀ σ', HY n ad aa σ' Y → Fy n ad aa σ σ' → Q 1 σ') → wp_X11_isClient (ad 11 0) (nI c) σ Q := fun Q h =>
      y_X11_isClient hR (y_isClient hc (fun r Y' => r = 1 ∧ Y' = Y) ⟨rfl, rfl⟩) (fun r σ' Y' q hR' F => by obtain ⟨rfl, rfl⟩ := q; exact h σ' hR' F)
    -- the key
    by_cases hkey : ∃ ky, ky ≤ 7 ∧ p3 = nI ky
    · obtain ⟨ky, hky, rfl⟩ := hkey
      have k0 : ¬ nI ky < 0 := fun q => absurd ((nI_lti (a := ky) (b := 0) (by omega) (by omega)).mp q) (by omega)
      have k8 : nI ky < 8 := nI_lt (a := ky) (b := 8) (by omega) (by omega)
      have xk : ∀ (Z : Xc) (Q : Int32 → Xc → Prop), Q 1 Z → wx_X12_in (nI ky) 0 7 Z Q := fun Z Q hQ => x_in0 (k := ky) (b := 7) (by omega) (by omega) Q (by rw [if_pos hky]; exact hQ)
      by_cases hkind : ∃ kd, kd ≤ 2 ∧ p2 = nI kd
      · obtain ⟨kd, hkd, rfl⟩ := hkind
        have d0 : ¬ nI kd < 0 := fun q => absurd ((nI_lti (a := kd) (b := 0) (by omega) (by omega)).mp q) (by omega)
        have d2 : nI kd ≤ 2 := nI_le (a := kd) (b := 2) (by omega) (by omega)
        have xd : ∀ (Z : Xc) (Q : Int32 → Xc → Prop), Q 1 Z → wx_X12_in (nI kd) 0 2 Z Q := fun Z Q hQ => x_in0 (k := kd) (b := 2) (by omega) (by omega) Q (by rw [if_pos hkd]; exact hQ)
        rcases (S.cl hc).2.2.2.1 with h0 | h0
        · have SB := begin_sim S0 (by omega) hc hkd hky p4
          obtain ⟨Y3, X3, sy, sx, S3, u3⟩ := stamp_sim SB (by omega) hc (by simp [xSS, xSA, xAS, xAA])
          refine Or.inl ⟨X3.2 65 c, X3, fun Q hQ => ?_, u3.2, fun Q E hQ => ?_⟩
          · refine x_isClient hc _ ⟨fun q => absurd q (by decide), fun _ => xk _ _ ⟨fun _ => xd _ _ ⟨fun _ => ⟨hv4, fun x17 e17 => ?_⟩, fun q => absurd q (by decide)⟩, fun q => absurd q (by decide)⟩⟩
            have e17 : x17 = 0 := by
              rw [e17, hcc]
              exact h0
            subst e17
            refine ⟨fun _ => ⟨hv4, fun x21 e21 x23 e23 => ?_⟩, fun q => absurd rfl q⟩
            rw [hcc] at e21 ⊢
            subst e21; subst e23
            refine ⟨hv4, hv4, hv4, hv4, hv4, hv4, ?_⟩
            rw [nar1]
            refine sx _ ⟨hv4, fun x35 e35 => ?_⟩
            subst e35
            exact hQ
          · refine ⟨hR.K ob_11, cy _ (fun σ2 hR2 F2 => ⟨fun q => absurd q (by decide), fun _ => ⟨fun q => absurd q k0, fun _ => ⟨fun _ => ⟨fun q => absurd q d0, fun _ => ⟨fun _ => ?_, fun q => absurd d2 q⟩⟩, fun q => absurd k8 q⟩⟩⟩)⟩
            refine ⟨hR2.K ob_11, aa 1104 0, hR2.ar (x := 1104) ob_11 4 (by decide) rfl (by decide), hR2.arK (x := 1104) ob_11 4 (by decide) rfl (by decide), hR2.arV (x := 1104) ob_11 4 (by decide) rfl (by decide) hv4, fun r14 e14 => ?_⟩
            have e14 : r14 = some (ad 1 c) := by
              rw [e14, hcc]
              exact hR2.el (x := 1104) ob_11 4 (by decide) rfl (by decide) (if_pos hc)
            subst e14
            refine ⟨ad 1 c, rfl, hR2.K oc, fun x19 e19 => ?_⟩
            have e19 : x19 = 0 := e19.trans ((hR2.I (x := 102) oc 2 (by decide) rfl).trans ((S.cl hc).2.1.trans h0))
            subst e19
            refine ⟨fun _ => ⟨by decide, by decide, fun q24 hq σ26 e26 => ?_⟩, fun q => absurd rfl q⟩
            subst e26
            have F26 : ∀ a, sK σ2 a < 23 → sK (stN σ2 q24 9 0) a = sK σ2 a ∧ sN (stN σ2 q24 9 0) a = sN σ2 a ∧ sI (stN σ2 q24 9 0) a = sI σ2 a ∧ sJ (stN σ2 q24 9 0) a = sJ σ2 a ∧ sP (stN σ2 q24 9 0) a = sP σ2 a := fun a ha => stN_ne (fun e => hq (by rw [← e]; exact ha))
            have H26 : HY n ad aa (stN σ2 q24 9 0) Y := hR2.nw F26
            refine ⟨H26.K oc, fun x29 e29 => ?_⟩
            have e29 : x29 = X.2 65 c := e29.trans ((H26.I (x := 101) oc 1 (by decide) rfl).trans (S.cl hc).1)
            subst e29
            refine ⟨stN_at.1, ?_⟩
            -- the new request
            have F31 : ∀ a, sK σ2 a < 23 → sK (stI (stI (stI (stI (stI (stN σ2 q24 9 0) q24 0 (nI c)) q24 1 (X.2 65 c + 1)) q24 2 (nI kd)) q24 3 (nI ky)) q24 4 p4) a = sK σ2 a ∧ sN (stI (stI (stI (stI (stI (stN σ2 q24 9 0) q24 0 (nI c)) q24 1 (X.2 65 c + 1)) q24 2 (nI kd)) q24 3 (nI ky)) q24 4 p4) a = sN σ2 a ∧ sI (stI (stI (stI (stI (stI (stN σ2 q24 9 0) q24 0 (nI c)) q24 1 (X.2 65 c + 1)) q24 2 (nI kd)) q24 3 (nI ky)) q24 4 p4) a = sI σ2 a ∧ sJ (stI (stI (stI (stI (stI (stN σ2 q24 9 0) q24 0 (nI c)) q24 1 (X.2 65 c + 1)) q24 2 (nI kd)) q24 3 (nI ky)) q24 4 p4) a = sJ σ2 a ∧ sP (stI (stI (stI (stI (stI (stN σ2 q24 9 0) q24 0 (nI c)) q24 1 (X.2 65 c + 1)) q24 2 (nI kd)) q24 3 (nI ky)) q24 4 p4) a = sP σ2 a := fun a ha => by
              have ne : a ≠ q24 := fun e => hq (by rw [← e]; exact ha)
              have h := F26 a ha
              refine ⟨h.1, h.2.1, ?_, h.2.2.2.1, h.2.2.2.2⟩
              rw [stI_ne ne, stI_ne ne, stI_ne ne, stI_ne ne, stI_ne ne]
              exact h.2.2.1
            have H31 := hR2.nw F31
            have A31 : RA (stI (stI (stI (stI (stI (stN σ2 q24 9 0) q24 0 (nI c)) q24 1 (X.2 65 c + 1)) q24 2 (nI kd)) q24 3 (nI ky)) q24 4 p4) q24 (nI c, X.2 65 c + 1, nI kd, nI ky, p4) := by
              refine ⟨(stN_at (σ := σ2) (q := q24) (kd := 9) (len := 0)).1, ?_, ?_, ?_, ?_, ?_⟩
              · simp [sI, stI, up2]
              · simp [sI, stI, up2]
              · simp [sI, stI, up2]
              · simp [sI, stI, up2]
              · simp [sI, stI, up2]
            have Fy31 : Fy n ad aa σ2 (stI (stI (stI (stI (stI (stN σ2 q24 9 0) q24 0 (nI c)) q24 1 (X.2 65 c + 1)) q24 2 (nI kd)) q24 3 (nI ky)) q24 4 p4) := fun a ha _ => F31 a ha
            refine ⟨H31.K oc, ?_⟩
            refine y_X1_begin (Qy := fun Z => Z = (uI (uI (uI (uI (uP Y 100 c (some (nI c, X.2 65 c + 1, nI kd, nI ky, p4))) 101 c (X.2 65 c + 1)) 102 c 1) 106 c 0) 107 c 0)) H31 oc (rq_is A31) ⟨_, rfl, fun x6 e6 => by subst e6; rfl⟩ (fun σ33 Y33 e33 H33 F33 => ?_)
            subst e33
            refine ⟨H33.K ob_11, ?_⟩
            refine y_X11_stamp (Qy := fun Z => Z = Y3) H33 oc (sy _ rfl) (fun σ35 Y35 e35 H35 F35 => ?_)
            subst e35
            refine ⟨H35.K oc, fun x37 e37 => ?_⟩
            have e37 : x37 = X3.2 65 c := e37.trans ((H35.I (x := 101) oc 1 (by decide) rfl).trans (S3.cl hc).1)
            subst e37
            exact hQ σ35 Y35 H35 (((F2.trans Fy31).trans F33).trans F35) S3
        · refine Or.inr ⟨2, 0, xS (xS X 0 0) 0 3, fun Q hQ => ?_, Or.inr (Or.inr ⟨rfl, rfl⟩), sim_code (sim_code S2 0) 3, fun Q E hE => ?_⟩
          · refine x_isClient hc _ ⟨fun q => absurd q (by decide), fun _ => xk _ _ ⟨fun _ => xd _ _ ⟨fun _ => ⟨hv4, fun x17 e17 => ?_⟩, fun q => absurd q (by decide)⟩, fun q => absurd q (by decide)⟩⟩
            have e17 : x17 = 1 := by
              rw [e17, hcc]
              exact h0
            subst e17
            exact ⟨fun q => absurd q (by decide), fun _ => x_refuse 3 _ hQ⟩
          · refine ⟨hR.K ob_11, cy _ (fun σ2 hR2 F2 => ⟨fun q => absurd q (by decide), fun _ => ⟨fun q => absurd q k0, fun _ => ⟨fun _ => ⟨fun q => absurd q d0, fun _ => ⟨fun _ => ?_, fun q => absurd d2 q⟩⟩, fun q => absurd k8 q⟩⟩⟩)⟩
            refine ⟨hR2.K ob_11, aa 1104 0, hR2.ar (x := 1104) ob_11 4 (by decide) rfl (by decide), hR2.arK (x := 1104) ob_11 4 (by decide) rfl (by decide), hR2.arV (x := 1104) ob_11 4 (by decide) rfl (by decide) hv4, fun r14 e14 => ?_⟩
            have e14 : r14 = some (ad 1 c) := by
              rw [e14, hcc]
              exact hR2.el (x := 1104) ob_11 4 (by decide) rfl (by decide) (if_pos hc)
            subst e14
            refine ⟨ad 1 c, rfl, hR2.K oc, fun x19 e19 => ?_⟩
            have e19 : x19 = 1 := e19.trans ((hR2.I (x := 102) oc 2 (by decide) rfl).trans ((S.cl hc).2.1.trans h0))
            subst e19
            exact ⟨fun q => absurd q (by decide), fun _ => hE σ2 hR2 F2⟩
      · have xd : ∀ (Z : Xc) (Q : Int32 → Xc → Prop), Q 0 Z → wx_X12_in p2 0 2 Z Q := fun Z Q hQ => by
          rcases i32_cases p2 with h | ⟨kd, hkd, rfl⟩
          · exact x_inN h Q hQ
          · exact x_in0 (k := kd) (b := 2) hkd (by omega) Q (by rw [if_neg (fun q => hkind ⟨kd, q, rfl⟩)]; exact hQ)
        refine Or.inr ⟨1, 0, xS (xS X 0 0) 0 2, fun Q hQ => ?_, Or.inr (Or.inl ⟨rfl, rfl⟩), sim_code (sim_code S2 0) 2, fun Q E hE => ?_⟩
        · exact x_isClient hc _ ⟨fun q => absurd q (by decide), fun _ => xk _ _ ⟨fun _ => xd _ _ ⟨fun q => absurd rfl q, fun _ => x_refuse 2 _ hQ⟩, fun q => absurd q (by decide)⟩⟩
        · refine ⟨hR.K ob_11, cy _ (fun σ2 hR2 F2 => ⟨fun q => absurd q (by decide), fun _ => ⟨fun q => absurd q k0, fun _ => ⟨fun _ => ⟨fun _ => hE σ2 hR2 F2, fun q => ⟨fun q2 => ?_, fun _ => hE σ2 hR2 F2⟩⟩, fun q => absurd k8 q⟩⟩⟩)⟩
          exfalso
          rcases i32_cases p2 with h | ⟨kd, hkd, rfl⟩
          · exact q h
          · exact hkind ⟨kd, (nI_lei (a := kd) (b := 2) hkd (by omega)).mp q2, rfl⟩
    · have xk : ∀ (Z : Xc) (Q : Int32 → Xc → Prop), Q 0 Z → wx_X12_in p3 0 7 Z Q := fun Z Q hQ => by
        rcases i32_cases p3 with h | ⟨ky, hky, rfl⟩
        · exact x_inN h Q hQ
        · exact x_in0 (k := ky) (b := 7) hky (by omega) Q (by rw [if_neg (fun q => hkey ⟨ky, q, rfl⟩)]; exact hQ)
      refine Or.inr ⟨0, 0, xS (xS X 0 0) 0 1, fun Q hQ => ?_, Or.inl ⟨rfl, rfl⟩, sim_code (sim_code S2 0) 1, fun Q E hE => ?_⟩
      · exact x_isClient hc _ ⟨fun q => absurd q (by decide), fun _ => xk _ _ ⟨fun q => absurd rfl q, fun _ => x_refuse 1 _ hQ⟩⟩
      · refine ⟨hR.K ob_11, cy _ (fun σ2 hR2 F2 => ⟨fun q => absurd q (by decide), fun _ => ⟨fun _ => hE σ2 hR2 F2, fun q => ⟨fun q2 => ?_, fun _ => hE σ2 hR2 F2⟩⟩⟩)⟩
        exfalso
        rcases i32_cases p3 with h | ⟨ky, hky, rfl⟩
        · exact q h
        · have := (nI_lti (a := ky) (b := 8) hky (by omega)).mp q2
          exact hkey ⟨ky, by omega, rfl⟩
  · refine Or.inr ⟨0, 0, xS (xS X 0 0) 0 1, fun Q hQ => hx _ ⟨fun _ => x_refuse 1 _ hQ, fun q => absurd rfl q⟩, Or.inl ⟨rfl, rfl⟩, sim_code (sim_code S2 0) 1, fun Q E hE => ⟨hR.K ob_11, ?_⟩⟩
    exact y_X11_isClient hR (hy (fun r Y' => r = 0 ∧ Y' = Y) ⟨rfl, rfl⟩) (fun r σ' Y' q hR' F => by obtain ⟨rfl, rfl⟩ := q; exact ⟨fun _ => hE σ' hR' F, fun q => absurd rfl q⟩)
end
