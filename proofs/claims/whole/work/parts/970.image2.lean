section
variable {n K : Nat} {Y Y2 Y0 : Yc} {X X2 X0 : Xc} {o r : Nat}
theorem WX.if0 {p q : Xc → (Xc → Prop) → Prop} {c : Prop} {h h2 : List Int32} (hc : c) (a : WX X0 p h h2) : WX X0 (fun X Q => (c → p X Q) ∧ (¬ c → q X Q)) h h2 := a.mono (fun _ _ _ z => ⟨fun _ => z, fun k => absurd hc k⟩)
theorem WX.if1 {p q : Xc → (Xc → Prop) → Prop} {c : Prop} {h h2 : List Int32} (hc : ¬ c) (a : WX X0 q h h2) : WX X0 (fun X Q => (c → p X Q) ∧ (¬ c → q X Q)) h h2 := a.mono (fun _ _ _ z => ⟨fun k => absurd k hc, fun _ => z⟩)
theorem x_entryN {h : List Int32} (e : Int32) (hh : h.length + 16 ≤ 2560) : WX X0 (fun X Q => bx_X12_writeEntry_17 Q e X) h (eN h none) := by
  show WX X0 (fun X Q => ((0 : Int32) = 0 → wx_X12_write (0 : Int32) X _) ∧ _) h _
  refine WX.if0 rfl ?_
  refine WX.seq (WX.add (by omega) _) ?_
  refine WX.if0 rfl ?_
  refine WX.seq (WX.add (by simp only [a1_len, aW_len] <;> omega) _) ?_
  refine WX.if0 rfl ?_
  refine WX.seq (WX.add (by simp only [a1_len, aW_len] <;> omega) _) ?_
  refine WX.if0 rfl ?_
  refine WX.seq (WX.add (by simp only [a1_len, aW_len] <;> omega) _) ?_
  refine WX.if0 rfl ?_
  refine WX.seq (WX.word (by simp only [a1_len, aW_len] <;> omega) _) ?_
  refine WX.if0 rfl ?_
  refine WX.seq (WX.word (by simp only [a1_len, aW_len] <;> omega) _) ?_
  exact WX.word (by simp only [a1_len, aW_len] <;> omega) _
theorem x_entryS {h : List Int32} {e : Nat} (he : e < 700) (hh : h.length + 16 ≤ 2560) : WX X0 (fun X Q => bx_X12_writeEntry_18 Q (nI e) 1 X) h (eN h (some (X0.2 31 e, X0.2 32 e, X0.2 33 e, X0.2 34 e, X0.2 35 e))) := by
  have hc : (nI e).toNatClampNeg = e := nI_clamp (by omega)
  have hv : vp_in (nI e) 700 := vp_in_nI he (by omega)
  have h10 : ¬ (1 : Int32) = 0 := by decide
  have rd : ∀ k, k ≠ 88 → ∀ X, OX 88 89 X0 X → X.2 k (nI e).toNatClampNeg = X0.2 k e := fun k hk X g => by rw [hc]; exact g.2 k e hk
  show WX X0 (fun X Q => ((1 : Int32) = 0 → _) ∧ (¬ (1 : Int32) = 0 → wx_X12_write (1 : Int32) X _)) h _
  refine WX.if1 h10 ?_
  refine WX.seq (WX.add (by omega) _) ?_
  refine WX.if1 h10 ?_
  refine WX.gd hv ?_
  refine WX.rd _ (rd 31 (by omega)) ?_
  refine WX.seq (WX.add (by simp only [a1_len, aW_len] <;> omega) _) ?_
  refine WX.if1 h10 ?_
  refine WX.gd hv ?_
  refine WX.rd _ (rd 33 (by omega)) ?_
  refine WX.seq (WX.add (by simp only [a1_len, aW_len] <;> omega) _) ?_
  refine WX.if1 h10 ?_
  refine WX.gd hv ?_
  refine WX.rd _ (rd 34 (by omega)) ?_
  refine WX.seq (WX.add (by simp only [a1_len, aW_len] <;> omega) _) ?_
  refine WX.if1 h10 ?_
  refine WX.gd hv ?_
  refine WX.rd _ (rd 32 (by omega)) ?_
  refine WX.seq (WX.word (by simp only [a1_len, aW_len] <;> omega) _) ?_
  refine WX.if1 h10 ?_
  refine WX.gd hv ?_
  refine WX.rd _ (rd 35 (by omega)) ?_
  refine WX.seq (WX.word (by simp only [a1_len, aW_len] <;> omega) _) ?_
  exact WX.word (by simp only [a1_len, aW_len] <;> omega) _
theorem x_entry {h : List Int32} {e : Nat} (he : e < 700) (hh : h.length + 16 ≤ 2560) (b : Int32) : WX X0 (wx_X12_writeEntry (nI e) b) h (eN h (if b = 0 then none else xE X0 e)) := by
  have hc : (nI e).toNatClampNeg = e := nI_clamp (by omega)
  have hv : vp_in (nI e) 700 := vp_in_nI he (by omega)
  unfold wx_X12_writeEntry
  by_cases hb : b = 0
  · rw [if_pos hb]
    exact WX.if0 hb (x_entryN _ hh)
  · rw [if_neg hb]
    refine WX.if1 hb ?_
    refine WX.gd hv ?_
    refine WX.rd (X0.2 30 e) (fun X g => by rw [hc]; exact g.2 30 e (by omega)) ?_
    unfold xE
    by_cases h30 : X0.2 30 e = 0
    · rw [if_pos h30]
      exact WX.if0 h30 (x_entryN _ hh)
    · rw [if_neg h30]
      exact WX.if1 h30 (x_entryS he hh)
def blk (f : Nat → Option Rq) (b : Nat) (h : List Int32) : List Int32 := eB b (eNs f (25 * (b - 1)) 25 h)
def blks (f : Nat → Option Rq) : Nat → Nat → List Int32 → List Int32
  | _, 0, h => h
  | b, m + 1, h => blks f (b + 1) m (blk f b h)
theorem blk_len {f : Nat → Option Rq} {b : Nat} {h : List Int32} (hh : h.length = 512 * b) : (blk f b h).length = 512 * (b + 1) := eB_len (by rw [eNs_len]; omega)
theorem blks_len {f : Nat → Option Rq} : ∀ m b h, h.length = 512 * b → (blks f b m h).length = 512 * (b + m) := by
  intro m
  induction m with
  | zero => intro b h hh; exact hh
  | succ m ih =>
    intro b h hh
    show (blks f (b + 1) m (blk f b h)).length = _
    rw [ih (b + 1) _ (blk_len hh)]
    omega
theorem y_blks {p : Nat} (hp : p < n) (hn : n ≤ 7) {L : Nat} (hL : L ≤ 100) (hl : yI Y0 201 p = nI L) : ∀ d b h, b + d = 5 → 1 ≤ b → h.length = 512 * b → ∀ Y, OY 0 Y0 Y → YW 0 Y h → ∃ Y2, OY 0 Y0 Y2 ∧ YW 0 Y2 (blks (fun s => if s < L then yS Y0 200 p s else none) b d h) ∧
    ∀ (Q : Int32 → Yc → Prop) (E : Nat → Yc → Prop), Q (nI 2560) Y2 → LFy (fy_X11_image_51 n Q E) (nI p, nI b) Y := by
  have hb : bl 0 ≤ 2560 := Nat.le_refl _
  have hc : (nI p).toNatClampNeg = p := nI_clamp (by omega)
  have e512 : ∀ b, nI b * (512 : Int32) = nI (512 * b) := fun b => by rw [show (512 : Int32) = nI 512 from rfl, nI_mul, Nat.mul_comm]
  intro d
  induction d with
  | zero =>
    intro b h hbd _ hh Y g w
    have hbd : b = 5 := by omega
    subst hbd
    refine ⟨Y, g, w, fun Q E hQ R hR => hR _ _ ⟨fun _ x4 e4 => ?_, fun q => absurd ?_ q⟩⟩
    · rw [w.1, hh] at e4
      subst e4
      exact hQ
    · show (2560 : Int32) ≤ nI 5 * 512
      decide
  | succ d ih =>
    intro b h hbd hb1 hh Y g w
    obtain ⟨Y1, g1, w1, r1⟩ := y_ents (n := n) hL hl (s := 25 * (b - 1)) (by omega) 25 (25 * (b - 1)) h (by omega) (by omega) Y g w
    obtain ⟨Y2, g2, w2, r2⟩ := WY.endB (n := n) (Y0 := Y0) (b := b) (by omega) (h := eNs (fun s => if s < L then yS Y0 200 p s else none) (25 * (b - 1)) 25 h) (by rw [eNs_len]; omega) Y1 g1 w1
    obtain ⟨Y3, g3, w3, r3⟩ := ih (b + 1) _ (by omega) (by omega) (blk_len hh) Y2 g2 w2
    refine ⟨Y3, g3, w3, fun Q E hQ R hR => hR _ _ ⟨fun q => absurd q ?_, fun _ => ⟨vp_in_nI hp (by omega), ?_⟩⟩⟩
    · show ¬ (2560 : Int32) ≤ nI b * 512
      rw [e512]
      exact nI_ge (b := 2560) (by omega) (by omega)
    · show wy_X2_writeEntries n (nI p).toNatClampNeg 0 ((nI b - 1) * 25) Y _
      have eb : (nI b - (1 : Int32)) * 25 = nI (25 * (b - 1)) := by
        rw [show nI b - (1 : Int32) = nI (b - 1) from nI_sub (a := b) (b := 1) hb1, show (25 : Int32) = nI 25 from rfl, nI_mul, Nat.mul_comm]
      rw [hc, eb]
      unfold wy_X2_writeEntries
      intro x1 e1
      rw [nI_1] at e1
      subst e1
      refine r1 _ ?_
      show wy_X0_endBlock n 0 ((nI b + 1) * 512) Y1 _
      rw [nI_1, e512]
      refine r2 _ (fun x32 e32 => ?_)
      have e32 : x32 = nI (b + 1) := e32
      subst e32
      exact r3 Q E hQ R hR
theorem x_blks {p : Nat} (hp : p < 7) {L : Nat} (hL : L ≤ 100) (hl : X0.2 26 p = nI L) : ∀ d b h, b + d = 5 → 1 ≤ b → h.length = 512 * b → ∀ X, OX 88 89 X0 X → XW 88 89 X h → ∃ X2, OX 88 89 X0 X2 ∧ XW 88 89 X2 (blks (fun s => if s < L then xE X0 (100 * p + s) else none) b d h) ∧
    ∀ (Q : Int32 → Xc → Prop), Q (nI 2560) X2 → LFx (fx_X12_image_167 Q) (nI p, nI b) X := by
  have hc : (nI p).toNatClampNeg = p := nI_clamp (by omega)
  have e25 : ∀ b, (25 : Int32) * nI b = nI (25 * b) := fun b => by rw [show (25 : Int32) = nI 25 from rfl, nI_mul]
  intro d
  induction d with
  | zero =>
    intro b h hbd _ hh X g w
    have hbd : b = 5 := by omega
    subst hbd
    refine ⟨X, g, w, fun Q hQ R hR => hR _ _ ⟨fun _ x2 e2 => ?_, fun q => absurd ?_ q⟩⟩
    · rw [w.1, hh] at e2
      subst e2
      exact hQ
    · show (5 : Int32) ≤ nI 5
      decide
  | succ d ih =>
    intro b h hbd hb1 hh X g w
    have inner : ∀ d t h, t + d = 25 * b → h.length + 16 * d ≤ 512 * (b + 1) - 4 → ∀ X, OX 88 89 X0 X → XW 88 89 X h → ∃ X2, OX 88 89 X0 X2 ∧ XW 88 89 X2 (eB b (eNs (fun s => if s < L then xE X0 (100 * p + s) else none) t d h)) ∧
        ∀ (Q : Int32 → Xc → Prop) (R : Int32 × Int32 → Xc → Prop), R (nI p, nI (b + 1)) X2 → LFx (fx_X12_image_179 R Q) (nI p, nI b, nI t) X := by
      intro d
      induction d with
      | zero =>
        intro t h htd hh X g w
        have htd : t = 25 * b := by omega
        subst htd
        obtain ⟨X2, g2, w2, r2⟩ := WX.endB (X0 := X0) (b := b) (by omega) (512 * (b + 1) - 4 - h.length) h (by omega) X g w
        refine ⟨X2, g2, w2, fun Q R hR U hU => hU _ _ ⟨fun _ => r2 _ (fun x6 e6 => ?_), fun q => absurd ?_ q⟩⟩
        · have e6 : x6 = nI (b + 1) := e6.trans (nI_1 b)
          subst e6
          exact hR
        · show (25 : Int32) * nI b ≤ nI (25 * b)
          rw [e25]
          exact nI_le (Nat.le_refl _) (by omega)
      | succ d ihd =>
        intro t h htd hh X g w
        have ht : t < 100 := by omega
        have e1 : (100 : Int32) * nI p + nI t = nI (100 * p + t) := by rw [show (100 : Int32) = nI 100 from rfl, nI_mul, nI_add]
        obtain ⟨X1, g1, w1, r1⟩ := x_entry (X0 := X0) (h := h) (e := 100 * p + t) (by omega) (by omega) (if t < L then 1 else 0) X g w
        have eq : (if (if t < L then (1 : Int32) else 0) = 0 then none else xE X0 (100 * p + t)) = (if t < L then xE X0 (100 * p + t) else none) := by
          by_cases h : t < L
          · rw [if_pos h, if_pos h, if_neg (by decide)]
          · rw [if_neg h, if_neg h, if_pos rfl]
        rw [eq] at w1
        obtain ⟨X2, g2, w2, r2⟩ := ihd (t + 1) _ (by omega) (by rw [eN_len]; omega) X1 g1 w1
        refine ⟨X2, g2, w2, fun Q R hR U hU => hU _ _ ⟨fun q => absurd q ?_, fun _ => ⟨vp_in_nI hp (by omega), fun x9 e9 => ?_⟩⟩⟩
        · show ¬ (25 : Int32) * nI b ≤ nI t
          rw [e25]
          exact nI_ge (by omega) (by omega)
        · have e9 : x9 = nI L := by
            rw [e9]
            show X.2 26 (nI p).toNatClampNeg = _
            rw [hc, g.2 26 p (by omega), hl]
          subst e9
          have fin : ∀ v : Int32, v = (if t < L then 1 else 0) → bx_X12_image_209 R U Q (nI p) (nI b) (nI t) v ((100 : Int32) * nI p + nI t) X := by
            intro v hv
            subst hv
            unfold bx_X12_image_209
            rw [e1]
            refine r1 _ (fun x5 e5 => ?_)
            rw [nI_1] at e5
            subst e5
            exact r2 Q R hR U hU
          refine ⟨fun q => fin 0 ?_, fun q => fin 1 ?_⟩
          · have q := (nI_lei (a := L) (b := t) (by omega) (by omega)).mp q
            rw [if_neg (by omega)]
          · have q : ¬ L ≤ t := fun z => q ((nI_lei (a := L) (b := t) (by omega) (by omega)).mpr z)
            rw [if_pos (by omega)]
    obtain ⟨X1, g1, w1, r1⟩ := inner 25 (25 * (b - 1)) h (by omega) (by omega) X g w
    obtain ⟨X2, g2, w2, r2⟩ := ih (b + 1) _ (by omega) (by omega) (blk_len hh) X1 g1 w1
    refine ⟨X2, g2, w2, fun Q hQ R hR => hR _ _ ⟨fun q => absurd q (nI_ge (a := b) (b := 5) (by omega) (by omega)), fun _ x4 e4 => ?_⟩⟩
    have e4 : x4 = nI (25 * (b - 1)) := by
      rw [e4]
      show (25 : Int32) * (nI b - 1) = _
      rw [show nI b - (1 : Int32) = nI (b - 1) from nI_sub (a := b) (b := 1) hb1, e25]
    subst e4
    exact r1 Q R (r2 Q hQ R hR)
end
