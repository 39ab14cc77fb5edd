section
variable {n K : Nat} {Y Y2 : Yc} {X X2 : Xc} {r : Nat}
variable {bq : Nat → Bool} {v : Nat → Nat × Nat} {len : Nat → Nat} {ent : Nat → Nat → Option Rq} {bas : Nat → Nat} {X0 : Xc} {b : Nat × Nat} {lk : Nat → Bool}
def bI (bas : Nat → Nat) : Option Nat → Int32
  | none => -1
  | some y => nI (bas y)
def bX : Option Nat → Int32
  | none => -1
  | some y => nI y
def fo (ent : Nat → Nat → Option Rq) (s : Nat) : Option Nat → Option Rq
  | none => none
  | some y => ent y s
theorem io_0 : io r 0 = r := rfl
theorem aL_s (t : Nat) : aL lk len r (t + 1) = if lk (io r t) = true then max (aL lk len r t) (len (io r t)) else aL lk len r t := rfl
theorem aB_s (t : Nat) : aB lk r (t + 1) = if lk (io r t) = true then (match aB lk r t with | none => some (io r t) | some y => some y) else aB lk r t := rfl
theorem aM_s (s t : Nat) : aM lk len ent r s (t + 1) = if lk (io r t) = true ∧ s < len (io r t) then ((aM lk len ent r s t).1 || (ent (io r t) s).isNone, match (aM lk len ent r s t).2 with | some y => some y | none => if (ent (io r t) s).isSome = true then some (io r t) else none) else aM lk len ent r s t := rfl
theorem y_len (M : MD n K r Y X0 bq v len ent bas) (hk2 : K < 1073741824) (hn : n ≤ 7) (hr : r < n) (h400 : yI Y 400 0 = nI n) (hb : b.1 ≤ K ∧ b.2 ≤ K)
    (hlk : ∀ x, x < n → (lk x = true ↔ (x = r ∨ bq x = true) ∧ v x = b)) (Q : Yc → Prop) (hQ : LFy (fy_X8_merge_197 n r Q) (vw (nI b.1) (nI b.2), nI (aL lk len r n), bI bas (aB lk r n), (1 : Int32)) Y) :
    ∀ y6 : Int64, y6 = yJ Y 806 r → ((¬ (lg_cmp y6 (vw (nI b.1) (nI b.2))) = 0 → by_X8_merge_79 n r Q (vw (nI b.1) (nI b.2)) (0 : Int32) Y) ∧ ((lg_cmp y6 (vw (nI b.1) (nI b.2))) = 0 → by_X8_merge_79 n r Q (vw (nI b.1) (nI b.2)) (1 : Int32) Y)) := by
  have hvr := M.2.2.2.1 r hr (Or.inl rfl)
  have hlb : ∀ t, t ≤ n → aL lk len r t ≤ 100 := fun t ht => by
    induction t with
    | zero => simp [aL]
    | succ t ih =>
      have := ih (by omega)
      rw [aL_s]
      split
      · rename_i q
        have hx := io_lt (t := t) hr (by omega)
        have := M.2.2.2.1 (io r t) hx ((hlk _ hx).mp q).1
        omega
      · exact this
  have loop : LFy (fy_X8_merge_117 n r Q) (vw (nI b.1) (nI b.2), nI (aL lk len r (cT r 0)), bI bas (aB lk r (cT r 0)), nI 0) Y := by
    intro R hR
    have key : ∀ d i, i + d = n → R (vw (nI b.1) (nI b.2), nI (aL lk len r (cT r i)), bI bas (aB lk r (cT r i)), nI i) Y := by
      intro d
      induction d with
      | zero =>
        intro i hi
        have hi : i = n := by omega
        subst hi
        refine hR _ _ (fun x3 e3 => ?_)
        rw [h400] at e3
        subst e3
        rw [cT_n hr]
        exact ⟨fun _ => hQ, fun h => absurd (nI_le (Nat.le_refl i) (by omega)) h⟩
      | succ d ih =>
        intro i hi
        have nxt := ih (i + 1) (by omega)
        have hci : cT r i ≤ n := by unfold cT; split <;> omega
        have hlc := hlb (cT r i) hci
        refine hR _ _ (fun x3 e3 => ?_)
        rw [h400] at e3
        subst e3
        refine ⟨fun h => absurd h (nI_ge (by omega) (by omega)), fun _ => ?_⟩
        refine y_looks M hk2 hn hr rfl rfl hb hlk (x := i) (by omega) _ ?_
        by_cases hf : lk i = true ∧ i ≠ r
        · rw [if_pos hf]
          have hbi : bq i = true := ((hlk i (by omega)).mp hf.1).1.resolve_left hf.2
          obtain ⟨c1, c2, c3, c4⟩ := M.2.2.2.2.1 i (by omega) hbi
          have dl := (M.2.2.2.1 i (by omega) (Or.inr hbi)).2.2.2.2.2.1
          rw [cT_s hf.2, aL_s, aB_s, io_cT hf.2, if_pos hf.1, if_pos hf.1] at nxt
          have hci' : (nI i).toNatClampNeg = i := nI_clamp (by omega)
          have hvi : vp_in (nI i) n := vp_in_nI (by omega) (by omega)
          refine ⟨fun h => absurd h (by decide), fun _ => ⟨hvi, fun x25 e25 => ?_⟩⟩
          have e25 : x25 = nI (len i) := by rw [e25]; show yI Y 201 (7 + 7 * r + (nI i).toNatClampNeg) = _; rw [hci']; exact c2
          subst e25
          refine y_max (by omega) (by omega) _ ?_
          cases hB : aB lk r (cT r i) with
          | none =>
            rw [hB] at nxt
            refine ⟨fun h => absurd rfl h, fun _ => ⟨hvi, fun x44 e44 => ?_⟩⟩
            have e44 : x44 = nI (bas i) := by rw [e44]; show yI Y 202 (7 + 7 * r + (nI i).toNatClampNeg) = _; rw [hci']; exact c3
            subst e44
            unfold by_X8_merge_186 by_X8_merge_188
            intro x1 e1
            have e1 : x1 = nI (i + 1) := e1.trans (nI_1 i)
            subst e1
            exact nxt
          | some y =>
            rw [hB] at nxt
            have hyb : bas y ≤ 100 := by
              obtain ⟨a1, j, hj, ej⟩ := aB_some lk r _ hB
              have hy : y < n := by rw [ej]; exact io_lt hr (by omega)
              exact (M.2.2.2.1 y hy ((hlk y hy).mp a1).1).2.2.2.2.2.2.2.1
            refine ⟨fun _ => ?_, fun h => absurd h (nI_ne1 (by omega))⟩
            unfold by_X8_merge_186 by_X8_merge_188
            intro x1 e1
            have e1 : x1 = nI (i + 1) := e1.trans (nI_1 i)
            subst e1
            exact nxt
        · rw [if_neg hf]
          refine ⟨fun _ => ?_, fun h => absurd rfl h⟩
          unfold by_X8_merge_188
          intro x1 e1
          have e1 : x1 = nI (i + 1) := e1.trans (nI_1 i)
          subst e1
          by_cases hir : i = r
          · rw [hir] at nxt ⊢
            rw [cT_r] at nxt
            exact nxt
          · have hl0 : ¬ lk i = true := fun q => hf ⟨q, hir⟩
            rw [cT_s hir, aL_s, aB_s, io_cT hir, if_neg hl0, if_neg hl0] at nxt
            exact nxt
    exact key n 0 (by omega)
  have hc0 : cT r 0 = 1 := by unfold cT; rw [if_pos (by omega)]
  rw [hc0, aL_s, aB_s, io_0] at loop
  intro y6 e6
  rw [M.2.2.2.2.2.1] at e6
  subst e6
  rw [lg0v (by omega) (by omega) (by omega) (by omega)]
  refine ⟨fun h => ?_, fun h => ?_⟩
  · have hl : ¬ lk r = true := fun q => by
      have := ((hlk r hr).mp q).2
      exact h ⟨by rw [this], by rw [this]⟩
    rw [if_neg hl, if_neg hl] at loop
    unfold by_X8_merge_79
    refine ⟨fun _ => ?_, fun h => absurd rfl h⟩
    unfold by_X8_merge_95
    exact ⟨fun _ => loop, fun h => absurd rfl h⟩
  · have hl : lk r = true := (hlk r hr).mpr ⟨Or.inl rfl, Prod.ext h.1 h.2⟩
    rw [if_pos hl, if_pos hl] at loop
    unfold by_X8_merge_79
    refine ⟨fun h => absurd h (by decide), fun _ x4 e4 => ?_⟩
    rw [M.2.2.2.2.2.2.1] at e4
    subst e4
    unfold by_X8_merge_95
    refine ⟨fun h => absurd h (by decide), fun _ x4 e4 => ?_⟩
    rw [M.2.2.2.2.2.2.2.1] at e4
    subst e4
    have hmx : max (aL lk len r 0) (len r) = len r := by show max 0 (len r) = len r; omega
    rw [hmx] at loop
    exact loop
/-- the class's merged entry -/
theorem y_entry (M : MD n K r Y X0 bq v len ent bas) (hk2 : K < 1073741824) (hn : n ≤ 7) (hr : r < n) (h400 : yI Y 400 0 = nI n) (hb : b.1 ≤ K ∧ b.2 ≤ K)
    (hlk : ∀ x, x < n → (lk x = true ↔ (x = r ∨ bq x = true) ∧ v x = b)) {s : Nat} (hs : s < 100) {Y1 : Yc} (hI : yI Y1 = yI Y) (hJ : yJ Y1 = yJ Y) (hB : yB Y1 = yB Y) (hS : ∀ o i, ¬ (o = r ∧ i < s) → yS Y1 200 o i = yS Y 200 o i)
    (Q : Option Rq → Yc → Prop) (hQ : Q (mE lk len ent r n s) Y1) : wy_X8_mergedEntry n r (nI (s + 1)) (vw (nI b.1) (nI b.2)) Y1 Q := by
  have hvr := M.2.2.2.1 r hr (Or.inl rfl)
  have hvoid : ∀ t, t ≤ n → (aM lk len ent r s t).1 = true → Q none Y1 := fun t ht h => by
    have h1 := aM_mono lk len ent r s t (n - t) h
    rw [show t + (n - t) = n by omega] at h1
    unfold mE at hQ
    rw [if_pos h1] at hQ
    exact hQ
  have loop : ∀ d i, i + d = n → (aM lk len ent r s (cT r i)).1 = false → LFy (fy_X8_mergedEntry_61 n r Q) (nI (s + 1), vw (nI b.1) (nI b.2), fo ent s (aM lk len ent r s (cT r i)).2, nI i) Y1 := by
    intro d
    induction d with
    | zero =>
      intro i hi hv
      have hi : i = n := by omega
      subst hi
      rw [cT_n hr] at hv ⊢
      intro R hR
      refine hR _ _ (fun x3 e3 => ?_)
      rw [hI, h400] at e3
      subst e3
      refine ⟨fun _ => ?_, fun h => absurd (nI_le (Nat.le_refl i) (by omega)) h⟩
      unfold mE at hQ
      rw [hv, if_neg (by simp)] at hQ
      cases hq : (aM lk len ent r s i).2 with
      | none => rw [hq] at hQ; exact hQ
      | some y => rw [hq] at hQ; exact hQ
    | succ d ih =>
      intro i hi hv
      intro R hR
      refine hR _ _ (fun x3 e3 => ?_)
      rw [hI, h400] at e3
      subst e3
      refine ⟨fun h => absurd h (nI_ge (by omega) (by omega)), fun _ => ?_⟩
      refine y_looks M hk2 hn hr (by rw [hI]) hB hb hlk (x := i) (by omega) _ ?_
      have nx : ∀ f, (aM lk len ent r s (cT r (i + 1))).1 = false → f = fo ent s (aM lk len ent r s (cT r (i + 1))).2 → by_X8_mergedEntry_140 n r R Q (nI (s + 1)) (vw (nI b.1) (nI b.2)) f (nI i) Y1 := fun f h1 h2 => by
        unfold by_X8_mergedEntry_140
        intro x1 e1
        have e1 : x1 = nI (i + 1) := e1.trans (nI_1 i)
        subst e1
        rw [h2]
        exact ih (i + 1) (by omega) h1 R hR
      by_cases hf : lk i = true ∧ i ≠ r
      · rw [if_pos hf]
        have hbi : bq i = true := ((hlk i (by omega)).mp hf.1).1.resolve_left hf.2
        obtain ⟨c1, c2, c3, c4⟩ := M.2.2.2.2.1 i (by omega) hbi
        have dl := (M.2.2.2.1 i (by omega) (Or.inr hbi)).2.2.2.2.2.1
        have hci' : (nI i).toNatClampNeg = i := nI_clamp (by omega)
        have hvi : vp_in (nI i) n := vp_in_nI (by omega) (by omega)
        have h201 : yI Y1 201 (7 + 7 * r + i) = nI (len i) := by rw [hI]; exact c2
        have ea := aM_s (lk := lk) (len := len) (ent := ent) (r := r) s (cT r i)
        rw [io_cT hf.2, ← cT_s hf.2] at ea
        refine ⟨fun h => absurd h (by decide), fun _ => ⟨hvi, ?_⟩⟩
        show wy_X2_has n (7 + 7 * r + (nI i).toNatClampNeg) (nI (s + 1)) Y1 _
        rw [hci']
        refine y_has (by omega) dl h201 _ ?_
        by_cases hsl : s < len i
        · rw [if_pos ⟨by omega, by omega⟩]
          refine ⟨fun h => absurd h (by decide), fun _ => ⟨hvi, ?_⟩⟩
          show wy_X2_at n (7 + 7 * r + i) (nI (s + 1)) Y1 _
          refine y_ent (by omega) (by omega) dl h201 _ ?_
          rw [show s + 1 - 1 = s by omega, hS _ _ (by omega), c4 s hsl]
          rw [if_pos ⟨hf.1, hsl⟩] at ea
          cases hq : ent i s with
          | none =>
            refine ⟨fun _ => ?_, fun w h => by simp at h⟩
            refine hvoid (cT r (i + 1)) (by unfold cT; split <;> omega) ?_
            rw [ea, hq]
            simp
          | some w =>
            rw [hq, hv] at ea
            refine ⟨fun h => by simp at h, fun w51 _ => ?_⟩
            show (fo ent s (aM lk len ent r s (cT r i)).2 = none → _) ∧ _
            cases hfd : (aM lk len ent r s (cT r i)).2 with
            | none =>
              rw [hfd] at ea
              refine ⟨fun _ => ?_, fun w55 h => by simp [fo] at h⟩
              unfold by_X8_mergedEntry_138
              refine nx _ (by rw [ea]; rfl) ?_
              rw [ea]
              show some w = ent i s
              exact hq.symm
            | some y =>
              rw [hfd] at ea
              refine ⟨fun h => ?_, fun w55 h => ?_⟩
              · have := (aM_some lk len ent r s _ hfd).2.2.1
                have h : ent y s = none := h
                rw [h] at this
                simp at this
              · unfold by_X8_mergedEntry_138
                refine nx _ (by rw [ea]; rfl) ?_
                rw [ea]
        · rw [if_neg (by omega)]
          rw [if_neg (fun q => hsl q.2)] at ea
          exact ⟨fun _ => nx _ (by rw [ea]; exact hv) (by rw [ea]), fun h => absurd rfl h⟩
      · rw [if_neg hf]
        refine ⟨fun _ => ?_, fun h => absurd rfl h⟩
        have e : aM lk len ent r s (cT r (i + 1)) = aM lk len ent r s (cT r i) := by
          by_cases hir : i = r
          · rw [hir, cT_r]
          · have hl0 : ¬ lk i = true := fun q => hf ⟨q, hir⟩
            rw [cT_s hir, aM_s, io_cT hir, if_neg (fun q => hl0 q.1)]
        exact nx _ (by rw [e]; exact hv) (by rw [e])
  have hc0 : cT r 0 = 1 := by unfold cT; rw [if_pos (by omega)]
  have l0 := loop n 0 (by omega)
  have ea := aM_s (lk := lk) (len := len) (ent := ent) (r := r) s 0
  rw [io_0] at ea
  have ea0 : aM lk len ent r s 0 = (false, none) := rfl
  rw [ea0] at ea
  rw [hc0] at l0
  -- without its own
  have h24 : ¬ (lk r = true ∧ s < len r) → by_X8_mergedEntry_24 n r Q (nI (s + 1)) (vw (nI b.1) (nI b.2)) Y1 := fun q => by
    rw [if_neg q] at ea
    rw [ea] at l0
    unfold by_X8_mergedEntry_24 by_X8_mergedEntry_25
    refine ⟨fun _ => ?_, fun h => absurd rfl h⟩
    unfold by_X8_mergedEntry_44
    refine ⟨fun _ => ?_, fun h => absurd rfl h⟩
    unfold by_X8_mergedEntry_58
    exact l0 rfl
  unfold wy_X8_mergedEntry
  intro y1 e1
  rw [hJ, M.2.2.2.2.2.1] at e1
  subst e1
  rw [lg0v (by omega) (by omega) (by omega) (by omega)]
  have h201 : yI Y1 201 r = nI (len r) := by rw [hI]; exact M.2.2.2.2.2.2.1
  refine ⟨fun h => h24 (fun q => ?_), fun h => y_has (by omega) (by omega) h201 _ ⟨fun g => h24 (fun q => ?_), fun g => ?_⟩⟩
  · have := ((hlk r hr).mp q.1).2
    exact h ⟨by rw [this], by rw [this]⟩
  · rw [if_pos ⟨by omega, by omega⟩] at g
    exact absurd g (by decide)
  · have hsl : s < len r := by
      apply Classical.byContradiction
      intro q
      rw [if_neg (by omega)] at g
      exact g rfl
    have hl : lk r = true := (hlk r hr).mpr ⟨Or.inl rfl, Prod.ext h.1 h.2⟩
    unfold by_X8_mergedEntry_25
    refine ⟨fun h => absurd h (by decide), fun _ => y_ent (by omega) (by omega) (by omega) h201 _ ?_⟩
    rw [show s + 1 - 1 = s by omega, hS _ _ (by omega), M.2.2.2.2.2.2.2.2 s hsl]
    rw [if_pos ⟨hl, hsl⟩] at ea
    unfold by_X8_mergedEntry_44
    refine ⟨fun h => absurd h (by decide), fun _ => ⟨fun h => hvoid 1 (by omega) (by rw [ea, h]; rfl), fun w4 h => ?_⟩⟩
    rw [h] at ea
    rw [ea] at l0
    unfold by_X8_mergedEntry_58
    have e : fo ent s (some r) = some w4 := h
    have l0 := l0 rfl
    rw [show (if (some w4).isSome = true then some r else none) = some r from rfl] at l0
    rw [e] at l0
    rw [h]
    exact l0
/-- the class's slots -/
theorem y_slots (M : MD n K r Y X0 bq v len ent bas) (hk2 : K < 1073741824) (hn : n ≤ 7) (hr : r < n) (h400 : yI Y 400 0 = nI n) (hb : b.1 ≤ K ∧ b.2 ≤ K)
    (hlk : ∀ x, x < n → (lk x = true ↔ (x = r ∨ bq x = true) ∧ v x = b)) {L : Nat} (hL : L ≤ 100) (base : Int32) (Q : Yc → Prop)
    (hQ : by_X8_merge_236 n r Q (vw (nI b.1) (nI b.2)) (nI L) base (ySl Y r L (mE lk len ent r n))) : LFy (fy_X8_merge_197 n r Q) (vw (nI b.1) (nI b.2), nI L, base, (1 : Int32)) Y := by
  intro R hR
  have key : ∀ d s, s + d = L → R (vw (nI b.1) (nI b.2), nI L, base, nI (s + 1)) (ySl Y r s (mE lk len ent r n)) := by
    intro d
    induction d with
    | zero =>
      intro s hs
      have hs : s = L := by omega
      subst hs
      exact hR _ _ ⟨fun _ => hQ, fun h => absurd ((nI_lti (a := s) (b := s + 1) (by omega) (by omega)).mpr (by omega)) h⟩
    | succ d ih =>
      intro s hs
      refine hR _ _ ⟨fun h => absurd ((nI_lti (a := L) (b := s + 1) (by omega) (by omega)).mp h) (by omega), fun _ => ⟨fun h => absurd ((nI_lti (a := 100) (b := s + 1) (by omega) (by omega)).mp h) (by omega), fun _ => ?_⟩⟩
      refine y_entry M hk2 hn hr h400 hb hlk (s := s) (by omega) (Y1 := ySl Y r s (mE lk len ent r n)) rfl rfl rfl (fun o i h => by rw [ySl_S, if_neg (by omega)]) _ ?_
      have e1 : nI (s + 1) - (1 : Int32) = nI s := nI_m
      show vp_in (nI (s + 1) - 1) 100 ∧ ∀ x15 : Int32, x15 = nI (s + 1) + 1 → R (vw (nI b.1) (nI b.2), nI L, base, x15) (uS (ySl Y r s (mE lk len ent r n)) 200 r (nI (s + 1) - 1).toNatClampNeg (mE lk len ent r n s))
      rw [e1, nI_clamp (by omega), ySl_s, nI_1]
      refine ⟨vp_in_nI (by omega) (by omega), fun x15 e15 => ?_⟩
      subst e15
      exact ih (s + 1) (by omega)
  have := key L 0 (by omega)
  rw [ySl_0] at this
  exact this
/-- the reference's length and base -/
theorem x_len (M : MD n K r Y X0 bq v len ent bas) (hk2 : K < 1073741824) (hn : n ≤ 7) (hr : r < n) (hx1 : X.1 1 = nI n) (hX : ∀ k, 43 ≤ k → k ≤ 56 → X.2 k = X0.2 k) (h97 : X.1 97 = nI b.1) (h98 : X.1 98 = nI b.2) (hb : b.1 ≤ K ∧ b.2 ≤ K)
    (hlk : ∀ x, x < n → (lk x = true ↔ (x = r ∨ bq x = true) ∧ v x = b)) (Q : Xc → Prop) (hQ : LFx (fx_X12_merges_127 Q) (nI r, nI (aL lk len r n), bX (aB lk r n), (0 : Int32)) X) : LFx (fx_X12_merges_52 Q) (nI r, (0 : Int32), (-1 : Int32), (0 : Int32)) X := by
  have hlb : ∀ t, t ≤ n → aL lk len r t ≤ 100 := fun t ht => by
    induction t with
    | zero => simp [aL]
    | succ t ih =>
      have := ih (by omega)
      rw [aL_s]
      split
      · rename_i q
        have hx := io_lt (t := t) hr (by omega)
        have := M.2.2.2.1 (io r t) hx ((hlk _ hx).mp q).1
        omega
      · exact this
  intro R hR
  have key : ∀ d t, t + d = n → R (nI r, nI (aL lk len r t), bX (aB lk r t), nI t) X := by
    intro d
    induction d with
    | zero =>
      intro t ht
      have ht : t = n := by omega
      subst ht
      refine hR _ _ (fun x1 e1 => ?_)
      rw [hx1] at e1
      subst e1
      exact ⟨fun _ => hQ, fun h => absurd (nI_le (Nat.le_refl t) (by omega)) h⟩
    | succ d ih =>
      intro t ht
      have nxt := ih (t + 1) (by omega)
      have hlc := hlb t (by omega)
      have hx := io_lt (t := t) hr (by omega)
      refine hR _ _ (fun x1 e1 => ?_)
      rw [hx1] at e1
      subst e1
      refine ⟨fun h => absurd h (nI_ge (by omega) (by omega)), fun _ => ?_⟩
      refine x_inTurn (by omega) (by omega) _ ?_
      refine x_looked M hk2 hn hr hX h97 h98 hb hlk hx _ ?_
      rw [aL_s, aB_s] at nxt
      by_cases hf : lk (io r t) = true
      · rw [if_pos hf]
        rw [if_pos hf, if_pos hf] at nxt
        obtain ⟨d1, d2, d3, d4, d5, d6, _⟩ := M.2.2.2.1 (io r t) hx ((hlk _ hx).mp hf).1
        refine ⟨fun h => absurd h (by decide), fun _ x14 e14 => ?_⟩
        have e14 : x14 = nI (7 * r + io r t) := e14.trans idx7
        subst e14
        refine ⟨vp_in_nI (by omega) (by omega), fun x16 e16 => ?_⟩
        have e16 : x16 = nI (len (io r t)) := by rw [e16, nI_clamp (by omega), hX 50 (by omega) (by omega)]; exact d5
        subst e16
        have fin : ∀ L' : Nat, L' = max (aL lk len r t) (len (io r t)) → bx_X12_merges_105 R Q (nI r) (bX (aB lk r t)) (nI t) (nI (io r t)) (nI L') X := fun L' eL => by
          subst eL
          unfold bx_X12_merges_105
          cases hB : aB lk r t with
          | none =>
            rw [hB] at nxt
            refine ⟨fun h => absurd rfl h, fun _ => ?_⟩
            unfold bx_X12_merges_117 bx_X12_merges_118
            intro x1 e1
            rw [nI_1] at e1
            subst e1
            exact nxt
          | some y =>
            rw [hB] at nxt
            have hyn : y < n := by
              obtain ⟨a1, j, hj, ej⟩ := aB_some lk r _ hB
              rw [ej]; exact io_lt hr (by omega)
            refine ⟨fun _ => ?_, fun h => absurd h (nI_ne1 (r := y) (by omega))⟩
            unfold bx_X12_merges_117 bx_X12_merges_118
            intro x1 e1
            rw [nI_1] at e1
            subst e1
            exact nxt
        show (nI (len (io r t)) ≤ nI (aL lk len r t) → _) ∧ (¬ nI (len (io r t)) ≤ nI (aL lk len r t) → _)
        rw [nI_lei (by omega) (by omega)]
        exact ⟨fun q => fin _ (by omega), fun q => fin _ (by omega)⟩
      · rw [if_neg hf]
        rw [if_neg hf, if_neg hf] at nxt
        refine ⟨fun _ => ?_, fun h => absurd rfl h⟩
        unfold bx_X12_merges_118
        intro x1 e1
        have e1 : x1 = nI (t + 1) := e1.trans (nI_1 t)
        subst e1
        exact nxt
  exact key n 0 (by omega)
def vI (b : Bool) : Int32 := if b = true then 1 else 0
def fX (r s : Nat) : Option Nat → Int32
  | none => -1
  | some y => nI (100 * (7 * r + y) + s)
theorem xT_z {e : Nat} : X.2 51 e = 0 ↔ (xT X e).isNone = true := by
  unfold xT
  split
  · rename_i h; simp [h]
  · rename_i h; simp [h]
set_option maxHeartbeats 1000000 in
/-- the reference's merged entry -/
theorem x_slot (M : MD n K r Y X0 bq v len ent bas) (hk2 : K < 1073741824) (hn : n ≤ 7) (hr : r < n) (hx1 : X.1 1 = nI n) (hX : ∀ k, 43 ≤ k → k ≤ 56 → X.2 k = X0.2 k) (h97 : X.1 97 = nI b.1) (h98 : X.1 98 = nI b.2) (hb : b.1 ≤ K ∧ b.2 ≤ K)
    (hlk : ∀ x, x < n → (lk x = true ↔ (x = r ∨ bq x = true) ∧ v x = b)) {s : Nat} (hs : s < aL lk len r n) (hs1 : s < 100) (Q : Xc → Prop) (hQ : Q (xWe X (100 * r + s) (mE lk len ent r n s))) : wx_X12_mergeSlot (nI r) (nI s) X Q := by
  have hTe : ∀ y, y < n → lk y = true → s < len y → xT X (100 * (7 * r + y) + s) = ent y s := fun y hy hl hsl => by
    have := ((M.2.2.2.1 y hy ((hlk y hy).mp hl).1).2.2.2.2.2.2.2.2 s hsl).1
    rw [← this]
    unfold xT
    rw [hX 51 (by omega) (by omega), hX 52 (by omega) (by omega), hX 53 (by omega) (by omega), hX 54 (by omega) (by omega), hX 55 (by omega) (by omega), hX 56 (by omega) (by omega)]
  have he : (nI (100 * r + s)).toNatClampNeg = 100 * r + s := nI_clamp (by omega)
  have hve : vp_in (nI (100 * r + s)) 700 := vp_in_nI (by omega) (by omega)
  unfold wx_X12_mergeSlot
  intro R hR
  have key : ∀ d t, t + d = n → R (nI r, nI s, vI (aM lk len ent r s t).1, fX r s (aM lk len ent r s t).2, nI t) X := by
    intro d
    induction d with
    | zero =>
      intro t ht
      have ht : t = n := by omega
      subst ht
      refine hR _ _ (fun x1 e1 => ?_)
      rw [hx1] at e1
      subst e1
      refine ⟨fun _ x4 e4 => ?_, fun h => absurd (nI_le (Nat.le_refl t) (by omega)) h⟩
      have e4 : x4 = nI (100 * r + s) := e4.trans idx100
      subst e4
      unfold mE at hQ
      cases hv : (aM lk len ent r s t).1 with
      | true =>
        rw [hv, if_pos rfl] at hQ
        refine ⟨fun _ => ?_, fun h => absurd h (by show ¬ vI true = 0; decide)⟩
        unfold bx_X12_mergeSlot_138
        rw [he, nar0]
        exact ⟨hve, fun h => absurd h (by show ¬ vI true = 0; decide), fun _ => hQ⟩
      | false =>
        rw [hv, if_neg (by simp)] at hQ
        obtain ⟨j, hj, hj1, hj2⟩ := aL_mem lk len r t s hs
        obtain ⟨y, hy⟩ := aM_found lk len ent r s t j hj hj1 hj2 hv
        obtain ⟨y1, y2, y3, j', hj', ej'⟩ := aM_some lk len ent r s t hy
        have hyn : y < t := by rw [ej']; exact io_lt hr hj'
        rw [hy] at hQ
        have hTy := hTe y hyn y1 y2
        obtain ⟨w, ew⟩ : ∃ w, ent y s = some w := by
          cases hz : ent y s with
          | none => rw [hz] at y3; simp at y3
          | some w => exact ⟨w, rfl⟩
        rw [ew] at hTy
        have hQ : Q (xWe X (100 * r + s) (ent y s)) := hQ
        rw [ew] at hQ
        have hz : X.2 51 (100 * (7 * r + y) + s) ≠ 0 := fun q => by rw [xT_z, hTy] at q; simp at q
        have hh : (X.2 52 (100 * (7 * r + y) + s), X.2 53 (100 * (7 * r + y) + s), X.2 54 (100 * (7 * r + y) + s), X.2 55 (100 * (7 * r + y) + s), X.2 56 (100 * (7 * r + y) + s)) = w := by
          unfold xT at hTy
          rw [if_neg hz] at hTy
          simpa using hTy
        have c4 : (nI (100 * (7 * r + y) + s)).toNatClampNeg = 100 * (7 * r + y) + s := nI_clamp (by omega)
        have v4 : vp_in (nI (100 * (7 * r + y) + s)) 4900 := vp_in_nI (by omega) (by omega)
        have r138 : bx_X12_mergeSlot_138 Q (vI false) (nI (100 * (7 * r + y) + s)) (nI (100 * r + s)) 1 (nI (100 * r + s)) X := by
          unfold bx_X12_mergeSlot_138
          rw [he, c4, nar1]
          refine ⟨hve, fun _ => ⟨v4, fun x4 e4 => ⟨hve, v4, fun x8 e8 => ⟨hve, v4, fun x12 e12 => ⟨hve, v4, fun x16 e16 => ⟨hve, v4, fun x20 e20 => ⟨hve, ?_⟩⟩⟩⟩⟩⟩, fun h => absurd rfl h⟩
          subst e4; subst e8; subst e12; subst e16; subst e20
          rw [← hh] at hQ
          exact hQ
        rw [hy]
        exact ⟨fun h => absurd rfl h, fun _ => r138⟩
    | succ d ih =>
      intro t ht
      have nxt := ih (t + 1) (by omega)
      have hx := io_lt (t := t) hr (by omega)
      rw [aM_s] at nxt
      refine hR _ _ (fun x1 e1 => ?_)
      rw [hx1] at e1
      subst e1
      refine ⟨fun h => absurd h (nI_ge (by omega) (by omega)), fun _ => ?_⟩
      refine x_inTurn (by omega) (by omega) _ (fun x12 e12 => ?_)
      have e12 : x12 = nI (7 * r + io r t) := e12.trans idx7
      subst e12
      refine x_looked M hk2 hn hr hX h97 h98 hb hlk hx _ ?_
      have nx : ∀ p3 p4, p3 = vI (aM lk len ent r s (t + 1)).1 → p4 = fX r s (aM lk len ent r s (t + 1)).2 → bx_X12_mergeSlot_109 R Q (nI r) (nI s) p3 p4 (nI t) X := fun p3 p4 e3 e4 => by
        subst e3; subst e4
        unfold bx_X12_mergeSlot_109
        intro x1 e1
        rw [nI_1] at e1
        subst e1
        exact ih (t + 1) (by omega)
      by_cases hf : lk (io r t) = true
      · rw [if_pos hf]
        obtain ⟨d1, d2, d3, d4, d5, d6, _⟩ := M.2.2.2.1 (io r t) hx ((hlk _ hx).mp hf).1
        refine ⟨fun h => absurd h (by decide), fun _ => ⟨vp_in_nI (by omega) (by omega), fun x20 e20 => ?_⟩⟩
        have e20 : x20 = nI (len (io r t)) := by rw [e20, nI_clamp (by omega), hX 50 (by omega) (by omega)]; exact d5
        subst e20
        show (nI (len (io r t)) ≤ nI s → _) ∧ (¬ nI (len (io r t)) ≤ nI s → _)
        rw [nI_lei (by omega) (by omega)]
        refine ⟨fun q => ?_, fun q x23 e23 => ?_⟩
        · have ea := aM_s (lk := lk) (len := len) (ent := ent) (r := r) s t
          rw [if_neg (fun g => by omega)] at ea
          exact nx _ _ (by rw [ea]) (by rw [ea])
        · have hsl : s < len (io r t) := by omega
          have ea := aM_s (lk := lk) (len := len) (ent := ent) (r := r) s t
          rw [if_pos ⟨hf, hsl⟩] at ea
          have e23 : x23 = nI (100 * (7 * r + io r t) + s) := e23.trans idx100
          subst e23
          have c4 : (nI (100 * (7 * r + io r t) + s)).toNatClampNeg = 100 * (7 * r + io r t) + s := nI_clamp (by omega)
          have v4 : vp_in (nI (100 * (7 * r + io r t) + s)) 4900 := vp_in_nI (by omega) (by omega)
          have hTy := hTe (io r t) hx hf hsl
          have z51 : X.2 51 (100 * (7 * r + io r t) + s) = 0 ↔ (ent (io r t) s).isNone = true := by rw [xT_z, hTy]
          have p83 : ∀ p3 : Int32, p3 = vI (aM lk len ent r s (t + 1)).1 → bx_X12_mergeSlot_83 R Q (nI r) (nI s) (fX r s (aM lk len ent r s t).2) (nI t) (nI (100 * (7 * r + io r t) + s)) p3 X := fun p3 e3 => by
            unfold bx_X12_mergeSlot_83 bx_X12_mergeSlot_105 bx_X12_mergeSlot_107
            cases hfd : (aM lk len ent r s t).2 with
            | some y =>
              rw [hfd] at ea
              have hyn : y < n := by
                obtain ⟨_, _, _, j', hj', ej'⟩ := aM_some lk len ent r s t hfd
                rw [ej']; exact io_lt hr (by omega)
              exact ⟨fun _ => nx _ _ e3 (by rw [ea]), fun h => absurd h (nI_ne1 (r := 100 * (7 * r + y) + s) (by omega))⟩
            | none =>
              rw [hfd] at ea
              refine ⟨fun h => absurd rfl h, fun _ => ⟨v4, fun x3 e3' => ?_⟩⟩
              rw [c4] at e3'
              subst e3'
              refine ⟨fun q => nx _ _ e3 ?_, fun q => nx _ _ e3 ?_⟩
              · rw [z51] at q
                have : ¬ (ent (io r t) s).isSome = true := by cases hz : ent (io r t) s <;> simp [hz] at q ⊢
                rw [ea]
                show (-1 : Int32) = fX r s (if (ent (io r t) s).isSome = true then some (io r t) else none)
                rw [if_neg this]
                rfl
              · rw [z51] at q
                have : (ent (io r t) s).isSome = true := by cases hz : ent (io r t) s <;> simp [hz] at q ⊢
                rw [ea]
                show _ = fX r s (if (ent (io r t) s).isSome = true then some (io r t) else none)
                rw [if_pos this]
                rfl
          show (¬ vI (aM lk len ent r s t).1 = 0 → _) ∧ (vI (aM lk len ent r s t).1 = 0 → _)
          cases hv : (aM lk len ent r s t).1 with
          | true =>
            rw [hv] at ea
            refine ⟨fun _ => ?_, fun h => absurd h (by decide)⟩
            unfold bx_X12_mergeSlot_78
            exact p83 _ (by rw [ea]; rfl)
          | false =>
            rw [hv] at ea
            refine ⟨fun h => absurd rfl h, fun _ => ⟨v4, fun x27 e27 => ?_⟩⟩
            rw [c4] at e27
            subst e27
            refine ⟨fun q => p83 _ ?_, fun q => ?_⟩
            · rw [z51] at q
              have : (ent (io r t) s).isNone = false := by cases hz : (ent (io r t) s).isNone <;> simp [hz] at q ⊢
              rw [ea]
              show (0 : Int32) = vI (false || (ent (io r t) s).isNone)
              rw [this]
              rfl
            · unfold bx_X12_mergeSlot_78
              refine p83 _ ?_
              rw [z51] at q
              rw [ea]
              show (1 : Int32) = vI (false || (ent (io r t) s).isNone)
              rw [q]
              rfl
      · rw [if_neg hf]
        have ea := aM_s (lk := lk) (len := len) (ent := ent) (r := r) s t
        rw [if_neg (fun g => hf g.1)] at ea
        exact ⟨fun _ => nx _ _ (by rw [ea]) (by rw [ea]), fun h => absurd rfl h⟩
  exact key n 0 (by omega)
end
