/-! Merging -/
def io (r t : Nat) : Nat := if t = 0 then r else if r < t then t else t - 1
def bsF (bq : Nat → Bool) (v : Nat → Nat × Nat) (v0 : Nat × Nat) : Nat → Nat × Nat
  | 0 => v0
  | t + 1 => if bq t = true ∧ ((bsF bq v v0 t).2 < (v t).2 ∨ ((bsF bq v v0 t).2 = (v t).2 ∧ (bsF bq v v0 t).1 < (v t).1)) then v t else bsF bq v v0 t
theorem bs_mem (bq : Nat → Bool) (v : Nat → Nat × Nat) (v0 : Nat × Nat) : ∀ t, bsF bq v v0 t = v0 ∨ ∃ i, i < t ∧ bq i = true ∧ bsF bq v v0 t = v i := by
  intro t
  induction t with
  | zero => exact Or.inl rfl
  | succ t ih =>
    unfold bsF
    split
    · rename_i h; exact Or.inr ⟨t, by omega, h.1, rfl⟩
    · rcases ih with h | ⟨i, h1, h2, h3⟩
      · exact Or.inl h
      · exact Or.inr ⟨i, by omega, h2, h3⟩
section
variable (lk : Nat → Bool) (len : Nat → Nat) (ent : Nat → Nat → Option Rq) (r : Nat)
def aL : Nat → Nat
  | 0 => 0
  | t + 1 => if lk (io r t) = true then max (aL t) (len (io r t)) else aL t
def aB : Nat → Option Nat
  | 0 => none
  | t + 1 => if lk (io r t) = true then (match aB t with | none => some (io r t) | some y => some y) else aB t
def aM (s : Nat) : Nat → Bool × Option Nat
  | 0 => (false, none)
  | t + 1 => if lk (io r t) = true ∧ s < len (io r t) then ((aM s t).1 || (ent (io r t) s).isNone, match (aM s t).2 with | some y => some y | none => if (ent (io r t) s).isSome = true then some (io r t) else none) else aM s t
def mE (n s : Nat) : Option Rq := if (aM lk len ent r s n).1 = true then none else match (aM lk len ent r s n).2 with | none => none | some y => ent y s
theorem aM_mono (s t : Nat) : ∀ d, (aM lk len ent r s t).1 = true → (aM lk len ent r s (t + d)).1 = true := by
  intro d
  induction d with
  | zero => exact fun h => h
  | succ d ih =>
    intro h
    have := ih h
    rw [← Nat.add_assoc]
    unfold aM
    split
    · simp [this]
    · exact this
theorem aM_some (s t : Nat) {y : Nat} (h : (aM lk len ent r s t).2 = some y) : lk y = true ∧ s < len y ∧ (ent y s).isSome = true ∧ ∃ j, j < t ∧ y = io r j := by
  induction t with
  | zero => simp [aM] at h
  | succ t ih =>
    unfold aM at h
    split at h
    · rename_i q
      dsimp only at h
      cases hq : (aM lk len ent r s t).2 with
      | none =>
        rw [hq] at h
        dsimp only at h
        split at h
        · rename_i g
          have h : io r t = y := by simpa using h
          subst h
          exact ⟨q.1, q.2, g, t, by omega, rfl⟩
        · simp at h
      | some y' =>
        rw [hq] at h
        have h : y' = y := by simpa using h
        subst h
        obtain ⟨a, b, c, j, hj, ej⟩ := ih hq
        exact ⟨a, b, c, j, by omega, ej⟩
    · obtain ⟨a, b, c, j, hj, ej⟩ := ih h
      exact ⟨a, b, c, j, by omega, ej⟩
/-- where one has the slot, none is void: then one is found -/
theorem aM_found (s t j : Nat) (hj : j < t) (h1 : lk (io r j) = true) (h2 : s < len (io r j)) (hv : (aM lk len ent r s t).1 = false) : ∃ y, (aM lk len ent r s t).2 = some y := by
  induction t with
  | zero => omega
  | succ t ih =>
    by_cases e : j = t
    · subst e
      unfold aM at hv ⊢
      rw [if_pos ⟨h1, h2⟩] at hv ⊢
      dsimp only at hv ⊢
      cases hq : (aM lk len ent r s j).2 with
      | some y' => exact ⟨y', rfl⟩
      | none =>
        dsimp only
        have : (ent (io r j) s).isNone = false := by
          cases hz : (ent (io r j) s).isNone with
          | false => rfl
          | true => rw [hz] at hv; simp at hv
        have h3 : (ent (io r j) s).isSome = true := by
          cases hz : ent (io r j) s with
          | none => rw [hz] at this; simp at this
          | some w => rfl
        exact ⟨io r j, by rw [if_pos h3]⟩
    · have hv' : (aM lk len ent r s t).1 = false := by
        cases hz : (aM lk len ent r s t).1 with
        | false => rfl
        | true =>
          have := aM_mono lk len ent r s t 1 hz
          rw [this] at hv
          simp at hv
      obtain ⟨y, hy⟩ := ih (by omega) hv'
      unfold aM
      split
      · dsimp only
        rw [hy]
        exact ⟨y, rfl⟩
      · exact ⟨y, hy⟩
theorem aL_mem (t s : Nat) (h : s < aL lk len r t) : ∃ j, j < t ∧ lk (io r j) = true ∧ s < len (io r j) := by
  induction t with
  | zero => simp [aL] at h
  | succ t ih =>
    unfold aL at h
    split at h
    · rename_i q
      by_cases g : s < len (io r t)
      · exact ⟨t, by omega, q, g⟩
      · obtain ⟨j, a, b, c⟩ := ih (by omega)
        exact ⟨j, by omega, b, c⟩
    · obtain ⟨j, a, b, c⟩ := ih h
      exact ⟨j, by omega, b, c⟩
theorem aL_le (hl : ∀ j, lk j = true → len j ≤ 100) (t : Nat) : aL lk len r t ≤ 100 := by
  induction t with
  | zero => simp [aL]
  | succ t ih =>
    unfold aL
    split
    · rename_i q
      have := hl _ q
      omega
    · exact ih
theorem aB_some (t : Nat) {y : Nat} (h : aB lk r t = some y) : lk y = true ∧ ∃ j, j < t ∧ y = io r j := by
  induction t with
  | zero => simp [aB] at h
  | succ t ih =>
    unfold aB at h
    split at h
    · rename_i q
      cases hq : aB lk r t with
      | none =>
        rw [hq] at h
        have h : io r t = y := by simpa using h
        subst h
        exact ⟨q, t, by omega, rfl⟩
      | some y' =>
        rw [hq] at h
        have h : y' = y := by simpa using h
        subst h
        obtain ⟨a, j, hj, ej⟩ := ih hq
        exact ⟨a, j, by omega, ej⟩
    · obtain ⟨a, j, hj, ej⟩ := ih h
      exact ⟨a, j, by omega, ej⟩
theorem aB_ex (t j : Nat) (hj : j < t) (h : lk (io r j) = true) : ∃ y, aB lk r t = some y := by
  induction t with
  | zero => omega
  | succ t ih =>
    unfold aB
    by_cases e : j = t
    · subst e
      rw [if_pos h]
      cases aB lk r j with
      | none => exact ⟨_, rfl⟩
      | some y => exact ⟨y, rfl⟩
    · obtain ⟨y, hy⟩ := ih (by omega)
      split
      · rw [hy]; exact ⟨y, rfl⟩
      · exact ⟨y, hy⟩
end
/-- where the class stands before i -/
def cT (r i : Nat) : Nat := if i ≤ r then i + 1 else i
theorem io_lt {r n t : Nat} (hr : r < n) (ht : t < n) : io r t < n := by unfold io; split; exact hr; split <;> omega
theorem io_cT {r i : Nat} (h : i ≠ r) : io r (cT r i) = i := by
  unfold io cT
  split <;> (try split) <;> (try split) <;> omega
theorem cT_s {r i : Nat} (h : i ≠ r) : cT r (i + 1) = cT r i + 1 := by unfold cT; split <;> split <;> omega
theorem cT_r {r : Nat} : cT r (r + 1) = cT r r := by unfold cT; split <;> split <;> omega
theorem cT_n {r n : Nat} (h : r < n) : cT r n = n := by unfold cT; split <;> omega
theorem io_ex {r n x : Nat} (hr : r < n) (hx : x < n) : ∃ j, j < n ∧ io r j = x := by
  by_cases e : x = r
  · exact ⟨0, by omega, by unfold io; simp [e]⟩
  · refine ⟨cT r x, ?_, io_cT e⟩
    unfold cT
    split <;> omega
section
variable {n K : Nat} {Y Y2 : Yc} {X X2 : Xc} {r : Nat}
/-- what is told to replica r, its own among it: the class's state, the reference's with its own copied -/
def MD (n K r : Nat) (Y : Yc) (X : Xc) (bq : Nat → Bool) (v : Nat → Nat × Nat) (len : Nat → Nat) (ent : Nat → Nat → Option Rq) (bas : Nat → Nat) : Prop :=
  (∀ x, x < n → (bq x = true ↔ bt (X.2 46 r) x)) ∧ yI Y 506 r = X.2 46 r ∧ bq r = false ∧
  (∀ x, x < n → x = r ∨ bq x = true → X.2 47 (7 * r + x) = nI (v x).1 ∧ X.2 48 (7 * r + x) = nI (v x).2 ∧ (v x).1 ≤ K ∧ (v x).2 ≤ K ∧ X.2 50 (7 * r + x) = nI (len x) ∧ len x ≤ 100 ∧ X.2 49 (7 * r + x) = nI (bas x) ∧ bas x ≤ 100 ∧
    ∀ s, s < len x → xT X (100 * (7 * r + x) + s) = ent x s ∧ EnOK K (ent x s)) ∧
  (∀ x, x < n → bq x = true → yB Y r x = vw (nI (v x).1) (nI (v x).2) ∧ yI Y 201 (7 + 7 * r + x) = nI (len x) ∧ yI Y 202 (7 + 7 * r + x) = nI (bas x) ∧ ∀ s, s < len x → yS Y 200 (7 + 7 * r + x) s = ent x s) ∧
  yJ Y 806 r = vw (nI (v r).1) (nI (v r).2) ∧ yI Y 201 r = nI (len r) ∧ yI Y 202 r = nI (bas r) ∧ (∀ s, s < len r → yS Y 200 r s = ent r s)
theorem x_inTurn {t : Nat} (hr : r < 7) (ht : t < 7) (Q : Int32 → Xc → Prop) (hQ : Q (nI (io r t)) X) : wx_X12_inTurn (nI r) (nI t) X Q := by
  unfold wx_X12_inTurn
  unfold io at hQ
  refine ⟨fun h => ⟨fun g => ?_, fun g => ?_⟩, fun h => ?_⟩
  · have h : t ≠ 0 := fun q => h (by rw [q]; rfl)
    rw [if_neg h, if_pos ((nI_lti (by omega) (by omega)).mp g)] at hQ
    exact hQ
  · have h : t ≠ 0 := fun q => h (by rw [q]; rfl)
    rw [if_neg h, if_neg (fun q => g ((nI_lti (by omega) (by omega)).mpr q))] at hQ
    have : nI t - 1 = nI (t - 1) := nI_sub (a := t) (b := 1) (by omega)
    rw [this]
    exact hQ
  · have h : t = 0 := (nI_eq (a := t) (b := 0) (by omega) (by omega)).mp h
    rw [if_pos h] at hQ
    exact hQ
theorem idx7 {r x : Nat} : (7 : Int32) * nI r + nI x = nI (7 * r + x) := by rw [show (7 : Int32) = nI 7 from rfl, nI_mul, nI_add]
section
variable {bq : Nat → Bool} {v : Nat → Nat × Nat} {len : Nat → Nat} {ent : Nat → Nat → Option Rq} {bas : Nat → Nat} {X0 : Xc} {b : Nat × Nat} {lk : Nat → Bool}
theorem x_looked (M : MD n K r Y X0 bq v len ent bas) (hk2 : K < 1073741824) (hn : n ≤ 7) (hr : r < n) (hX : ∀ k, 43 ≤ k → k ≤ 56 → X.2 k = X0.2 k) (h97 : X.1 97 = nI b.1) (h98 : X.1 98 = nI b.2) (hb : b.1 ≤ K ∧ b.2 ≤ K)
    (hlk : ∀ x, x < n → (lk x = true ↔ (x = r ∨ bq x = true) ∧ v x = b)) {x : Nat} (hx : x < n) (Q : Int32 → Xc → Prop) (hQ : Q (if lk x = true then 1 else 0) X) : wx_X12_isLookedAt (nI r) (nI x) X Q := by
  have hcr : (nI r).toNatClampNeg = r := nI_clamp (by omega)
  have hvr : vp_in (nI r) 7 := vp_in_nI (by omega) (by omega)
  have cl : (nI (7 * r + x)).toNatClampNeg = 7 * r + x := nI_clamp (by omega)
  have v49 : vp_in (nI (7 * r + x)) 49 := vp_in_nI (by omega) (by omega)
  have h26 : (x = r ∨ bq x = true) → bx_X12_isLookedAt_26 Q (nI (7 * r + x)) X := fun hT => by
    obtain ⟨d1, d2, d3, d4, _⟩ := M.2.2.2.1 x hx hT
    unfold bx_X12_isLookedAt_26 bx_X12_isLookedAt_31
    rw [cl]
    refine ⟨fun h => absurd h (by decide), fun _ => ⟨v49, fun x3 e3 x5 e5 => ?_⟩⟩
    rw [hX 47 (by omega) (by omega), d1] at e3
    rw [h97] at e5
    subst e3; subst e5
    rw [nI_eq (by omega) (by omega)]
    refine ⟨fun h => ?_, fun h => ⟨v49, fun x9 e9 x11 e11 => ?_⟩⟩
    · rw [if_neg (fun q => h (by rw [((hlk x hx).mp q).2]))] at hQ
      exact hQ
    · rw [hX 48 (by omega) (by omega), d2] at e9
      rw [h98] at e11
      subst e9; subst e11
      rw [nI_eq (by omega) (by omega)]
      refine ⟨fun h2 => ?_, fun h2 => ?_⟩
      · rw [if_neg (fun q => h2 (by rw [((hlk x hx).mp q).2]))] at hQ
        exact hQ
      · rw [if_pos ((hlk x hx).mpr ⟨hT, Prod.ext h h2⟩)] at hQ
        exact hQ
  unfold wx_X12_isLookedAt
  intro x1 e1
  rw [idx7] at e1
  subst e1
  rw [nI_eq (by omega) (by omega)]
  refine ⟨fun h => h26 (Or.inl h), fun h => ⟨hvr, fun x5 e5 => ?_⟩⟩
  rw [hcr, hX 46 (by omega) (by omega)] at e5
  subst e5
  refine ⟨fun q => ?_, fun q => h26 (Or.inr ((M.1 x hx).mpr q))⟩
  unfold bx_X12_isLookedAt_31
  refine ⟨fun _ => ?_, fun h => absurd rfl h⟩
  rw [if_neg (fun g => ((hlk x hx).mp g).1.elim h (fun g2 => q ((M.1 x hx).mp g2)))] at hQ
  exact hQ
theorem y_looks (M : MD n K r Y X0 bq v len ent bas) (hk2 : K < 1073741824) (hn : n ≤ 7) (hr : r < n) (hY1 : yI Y2 506 r = yI Y 506 r) (hY2 : yB Y2 = yB Y) (hb : b.1 ≤ K ∧ b.2 ≤ K)
    (hlk : ∀ x, x < n → (lk x = true ↔ (x = r ∨ bq x = true) ∧ v x = b)) {x : Nat} (hx : x < n) (Q : Int32 → Yc → Prop) (hQ : Q (if lk x = true ∧ x ≠ r then 1 else 0) Y2) : wy_X5_looksAt n r (nI x) (vw (nI b.1) (nI b.2)) Y2 Q := by
  unfold wy_X5_looksAt
  refine ⟨fun h => absurd ((nI_lti (a := x) (b := 0) (by omega) (by omega)).mp h) (by omega), fun _ => ⟨fun h => absurd h (nI_ge hx (by omega)), fun _ x5 e5 => ?_⟩⟩
  rw [hY1, M.2.1] at e5
  subst e5
  refine ⟨fun q => ?_, fun q => ⟨vp_in_nI hx (by omega), fun y9 e9 => ?_⟩⟩
  · rw [if_neg (fun g => ((hlk x hx).mp g.1).1.elim g.2 (fun g2 => q ((M.1 x hx).mp g2)))] at hQ
    exact hQ
  · have hbq : bq x = true := (M.1 x hx).mpr q
    have hxr : x ≠ r := fun e => by rw [e, M.2.2.1] at hbq; simp at hbq
    obtain ⟨d1, d2, d3, d4, _⟩ := M.2.2.2.1 x hx (Or.inr hbq)
    obtain ⟨c1, _⟩ := M.2.2.2.2.1 x hx hbq
    rw [hY2, nI_clamp (by omega), c1] at e9
    subst e9
    rw [lg0v (by omega) (by omega) (by omega) (by omega)]
    refine ⟨fun h => ?_, fun h => ?_⟩
    · rw [if_neg (fun g => h ⟨by rw [((hlk x hx).mp g.1).2], by rw [((hlk x hx).mp g.1).2]⟩)] at hQ
      exact hQ
    · rw [if_pos ⟨(hlk x hx).mpr ⟨Or.inr hbq, Prod.ext h.1 h.2⟩, hxr⟩] at hQ
      exact hQ
/-- the best view, the reference's loop -/
theorem x_best (M : MD n K r Y X0 bq v len ent bas) (hk2 : K < 1073741824) (hn : n ≤ 7) (hr : r < n) (hx1 : X0.1 1 = nI n) (h24 : X0.2 24 r = nI (v r).1) (h25 : X0.2 25 r = nI (v r).2) :
    ∃ X2, (∀ Q : Xc → Prop, Q X2 → wx_X12_findBest (nI r) X0 Q) ∧ X2.2 = X0.2 ∧ X2.1 97 = nI (bsF bq v (v r) n).1 ∧ X2.1 98 = nI (bsF bq v (v r) n).2 ∧ ∀ k, k ≠ 97 → k ≠ 98 → X2.1 k = X0.1 k := by
  have hcr : (nI r).toNatClampNeg = r := nI_clamp (by omega)
  have hvr : vp_in (nI r) 7 := vp_in_nI (by omega) (by omega)
  have hvK := M.2.2.2.1 r hr (Or.inl rfl)
  have hbK : ∀ t, t ≤ n → (bsF bq v (v r) t).1 ≤ K ∧ (bsF bq v (v r) t).2 ≤ K := fun t ht => by
    rcases bs_mem bq v (v r) t with h | ⟨i, h1, h2, h3⟩
    · rw [h]; exact ⟨hvK.2.2.1, hvK.2.2.2.1⟩
    · rw [h3]
      have := M.2.2.2.1 i (by omega) (Or.inr h2)
      exact ⟨this.2.2.1, this.2.2.2.1⟩
  have key : ∀ d t X1, t + d = n → X1.2 = X0.2 → X1.1 97 = nI (bsF bq v (v r) t).1 → X1.1 98 = nI (bsF bq v (v r) t).2 → (∀ k, k ≠ 97 → k ≠ 98 → X1.1 k = X0.1 k) →
      ∃ X2, (∀ Q : Xc → Prop, Q X2 → LFx (fx_X12_findBest_22 Q) (nI r, nI t) X1) ∧ X2.2 = X0.2 ∧ X2.1 97 = nI (bsF bq v (v r) n).1 ∧ X2.1 98 = nI (bsF bq v (v r) n).2 ∧ ∀ k, k ≠ 97 → k ≠ 98 → X2.1 k = X0.1 k := by
    intro d
    induction d with
    | zero =>
      intro t X1 ht h2 h97 h98 ho
      have ht : t = n := by omega
      subst ht
      refine ⟨X1, fun Q hQ R hR => hR _ _ (fun x1 e1 => ?_), h2, h97, h98, ho⟩
      rw [ho 1 (by omega) (by omega), hx1] at e1
      subst e1
      exact ⟨fun _ => hQ, fun h => absurd (nI_le (Nat.le_refl t) (by omega)) h⟩
    | succ d ih =>
      intro t X1 ht h2 h97 h98 ho
      have cl : (nI (7 * r + t)).toNatClampNeg = 7 * r + t := nI_clamp (by omega)
      have v49 : vp_in (nI (7 * r + t)) 49 := vp_in_nI (by omega) (by omega)
      obtain ⟨p, hp⟩ : ∃ p, p = bsF bq v (v r) t := ⟨_, rfl⟩
      have hpK := hbK t (by omega)
      rw [← hp] at h97 h98 hpK
      have pre : ∀ (Q : Xc → Prop) (R : Int32 × Int32 → Xc → Prop), ((¬ bq t = true → bx_X12_findBest_56 R Q (nI r) (nI t) (nI (7 * r + t)) 0 X1) ∧ (bq t = true → bx_X12_findBest_56 R Q (nI r) (nI t) (nI (7 * r + t)) 1 X1)) → fx_X12_findBest_22 Q R (nI r, nI t) X1 := fun Q R h => by
        intro x1 e1
        rw [ho 1 (by omega) (by omega), hx1] at e1
        subst e1
        refine ⟨fun h => absurd h (nI_ge (by omega) (by omega)), fun _ x4 e4 => ⟨hvr, fun x7 e7 => ?_⟩⟩
        have e4 : x4 = nI (7 * r + t) := e4.trans idx7
        have e7 : x7 = X0.2 46 r := by rw [e7]; show X1.2 46 (nI r).toNatClampNeg = _; rw [hcr, h2]
        subst e4; subst e7
        exact ⟨fun q => h.1 (fun g => q ((M.1 t (by omega)).mp g)), fun q => h.2 ((M.1 t (by omega)).mpr q)⟩
      have skip : ∀ (Q : Xc → Prop) (R : Int32 × Int32 → Xc → Prop), R (nI r, nI (t + 1)) X1 → bx_X12_findBest_122 R Q (nI r) (nI t) X1 := fun Q R h => by
        unfold bx_X12_findBest_122
        intro x1 e1
        rw [nI_1] at e1
        subst e1
        exact h
      by_cases hb : bq t = true
      · obtain ⟨d1, d2, d3, d4, _⟩ := M.2.2.2.1 t (by omega) (Or.inr hb)
        have p56 : ∀ (Q : Xc → Prop) (R : Int32 × Int32 → Xc → Prop), ((p.2 < (v t).2 ∨ (p.2 = (v t).2 ∧ p.1 < (v t).1) → bx_X12_findBest_102 R Q (nI r) (nI t) (nI (7 * r + t)) X1) ∧ (¬ (p.2 < (v t).2 ∨ (p.2 = (v t).2 ∧ p.1 < (v t).1)) → bx_X12_findBest_122 R Q (nI r) (nI t) X1)) → bx_X12_findBest_56 R Q (nI r) (nI t) (nI (7 * r + t)) 1 X1 := fun Q R h => by
          unfold bx_X12_findBest_56
          rw [cl]
          refine ⟨fun q => absurd q (by decide), fun _ => ⟨v49, fun x3 e3 x5 e5 => ?_⟩⟩
          rw [h2, d2] at e3
          rw [h98] at e5
          subst e3; subst e5
          rw [nI_lti (by omega) (by omega)]
          refine ⟨fun q => h.1 (Or.inl q), fun q => ⟨v49, fun x9 e9 x11 e11 => ?_⟩⟩
          rw [h2, d2] at e9
          rw [h98] at e11
          subst e9; subst e11
          rw [nI_eq (by omega) (by omega)]
          refine ⟨fun q2 => h.2 (fun q3 => by omega), fun q2 => ⟨v49, fun x15 e15 x17 e17 => ?_⟩⟩
          rw [h2, d1] at e15
          rw [h97] at e17
          subst e15; subst e17
          rw [nI_lei (by omega) (by omega)]
          exact ⟨fun q3 => h.2 (fun q4 => by omega), fun q3 => h.1 (Or.inr ⟨by omega, by omega⟩)⟩
        by_cases hc : p.2 < (v t).2 ∨ (p.2 = (v t).2 ∧ p.1 < (v t).1)
        · have hbs : bsF bq v (v r) (t + 1) = v t := by
            show (if bq t = true ∧ ((bsF bq v (v r) t).2 < (v t).2 ∨ ((bsF bq v (v r) t).2 = (v t).2 ∧ (bsF bq v (v r) t).1 < (v t).1)) then v t else bsF bq v (v r) t) = v t
            rw [← hp, if_pos ⟨hb, hc⟩]
          obtain ⟨X2, r2, g1, g2, g3, g4⟩ := ih (t + 1) (xS (xS X1 97 (nI (v t).1)) 98 (nI (v t).2)) (by omega) h2 (by rw [hbs]; rfl) (by rw [hbs]; rfl) (fun k a b => by rw [xSS, if_neg b, xSS, if_neg a]; exact ho k a b)
          refine ⟨X2, fun Q hQ R hR => hR _ _ (pre Q R ⟨fun q => absurd hb q, fun _ => p56 Q R ⟨fun _ => ?_, fun q => absurd hc q⟩⟩), g1, g2, g3, g4⟩
          unfold bx_X12_findBest_102
          rw [cl]
          refine ⟨v49, fun x2 e2 => ⟨v49, fun x5 e5 => ?_⟩⟩
          rw [h2, d1] at e2
          subst e2
          have e5 : x5 = nI (v t).2 := by rw [e5, xAS, h2, d2]
          subst e5
          unfold bx_X12_findBest_122
          intro x1 e1
          rw [nI_1] at e1
          subst e1
          exact r2 Q hQ R hR
        · have hbs : bsF bq v (v r) (t + 1) = p := by
            show (if bq t = true ∧ ((bsF bq v (v r) t).2 < (v t).2 ∨ ((bsF bq v (v r) t).2 = (v t).2 ∧ (bsF bq v (v r) t).1 < (v t).1)) then v t else bsF bq v (v r) t) = p
            rw [← hp, if_neg (fun q => hc q.2)]
          obtain ⟨X2, r2, g1, g2, g3, g4⟩ := ih (t + 1) X1 (by omega) h2 (by rw [hbs]; exact h97) (by rw [hbs]; exact h98) ho
          exact ⟨X2, fun Q hQ R hR => hR _ _ (pre Q R ⟨fun q => absurd hb q, fun _ => p56 Q R ⟨fun q => absurd q hc, fun _ => skip Q R (r2 Q hQ R hR)⟩⟩), g1, g2, g3, g4⟩
      · have hbs : bsF bq v (v r) (t + 1) = p := by
          show (if bq t = true ∧ ((bsF bq v (v r) t).2 < (v t).2 ∨ ((bsF bq v (v r) t).2 = (v t).2 ∧ (bsF bq v (v r) t).1 < (v t).1)) then v t else bsF bq v (v r) t) = p
          rw [← hp, if_neg (fun q => hb q.1)]
        obtain ⟨X2, r2, g1, g2, g3, g4⟩ := ih (t + 1) X1 (by omega) h2 (by rw [hbs]; exact h97) (by rw [hbs]; exact h98) ho
        refine ⟨X2, fun Q hQ R hR => hR _ _ (pre Q R ⟨fun _ => ?_, fun q => absurd q hb⟩), g1, g2, g3, g4⟩
        unfold bx_X12_findBest_56
        exact ⟨fun _ => skip Q R (r2 Q hQ R hR), fun q => absurd rfl q⟩
  obtain ⟨X2, r2, g⟩ := key n 0 (xS (xS X0 97 (nI (v r).1)) 98 (nI (v r).2)) (by omega) rfl rfl rfl (fun k a b => by rw [xSS, if_neg b, xSS, if_neg a])
  refine ⟨X2, fun Q hQ => ?_, g⟩
  unfold wx_X12_findBest
  rw [hcr]
  refine ⟨hvr, fun x2 e2 => ⟨hvr, fun x5 e5 => ?_⟩⟩
  rw [h24] at e2
  subst e2
  have e5 : x5 = nI (v r).2 := e5.trans h25
  subst e5
  exact r2 Q hQ
/-- the best view, the class's loop -/
theorem y_best (M : MD n K r Y X0 bq v len ent bas) (hk2 : K < 1073741824) (hn : n ≤ 7) (hr : r < n) (h400 : yI Y 400 0 = nI n) (Q : Yc → Prop)
    (hQ : ∀ y6 : Int64, y6 = yJ Y 806 r → ((¬ (lg_cmp y6 (vw (nI (bsF bq v (v r) n).1) (nI (bsF bq v (v r) n).2))) = 0 → by_X8_merge_79 n r Q (vw (nI (bsF bq v (v r) n).1) (nI (bsF bq v (v r) n).2)) (0 : Int32) Y) ∧ ((lg_cmp y6 (vw (nI (bsF bq v (v r) n).1) (nI (bsF bq v (v r) n).2))) = 0 → by_X8_merge_79 n r Q (vw (nI (bsF bq v (v r) n).1) (nI (bsF bq v (v r) n).2)) (1 : Int32) Y))) : wy_X8_merge n r Y Q := by
  have hvK := M.2.2.2.1 r hr (Or.inl rfl)
  have hbK : ∀ t, t ≤ n → (bsF bq v (v r) t).1 ≤ K ∧ (bsF bq v (v r) t).2 ≤ K := fun t ht => by
    rcases bs_mem bq v (v r) t with h | ⟨i, h1, h2, h3⟩
    · rw [h]; exact ⟨hvK.2.2.1, hvK.2.2.2.1⟩
    · rw [h3]
      have := M.2.2.2.1 i (by omega) (Or.inr h2)
      exact ⟨this.2.2.1, this.2.2.2.1⟩
  unfold wy_X8_merge
  intro y1 e1
  rw [M.2.2.2.2.2.1] at e1
  subst e1
  intro R hR
  have key : ∀ d t, t + d = n → R (vw (nI (bsF bq v (v r) t).1) (nI (bsF bq v (v r) t).2), nI t) Y := by
    intro d
    induction d with
    | zero =>
      intro t ht
      have ht : t = n := by omega
      subst ht
      refine hR _ _ (fun x3 e3 => ?_)
      rw [h400] at e3
      subst e3
      exact ⟨fun _ => hQ, fun h => absurd (nI_le (Nat.le_refl t) (by omega)) h⟩
    | succ d ih =>
      intro t ht
      have := ih (t + 1) (by omega)
      have hbs : bsF bq v (v r) (t + 1) = if bq t = true ∧ ((bsF bq v (v r) t).2 < (v t).2 ∨ ((bsF bq v (v r) t).2 = (v t).2 ∧ (bsF bq v (v r) t).1 < (v t).1)) then v t else bsF bq v (v r) t := rfl
      rw [hbs] at this
      have hpK := hbK t (by omega)
      generalize bsF bq v (v r) t = p at *
      refine hR _ _ (fun x3 e3 => ?_)
      rw [h400] at e3
      subst e3
      have nx : ∀ (p' : Nat × Nat), p' = (if bq t = true ∧ (p.2 < (v t).2 ∨ (p.2 = (v t).2 ∧ p.1 < (v t).1)) then v t else p) → by_X8_merge_59 n r R Q (vw (nI p'.1) (nI p'.2)) (nI t) Y := fun p' ep => by
        unfold by_X8_merge_59
        intro x1 e1
        rw [nI_1] at e1
        subst e1
        rw [ep]
        exact this
      refine ⟨fun h => absurd h (nI_ge (by omega) (by omega)), fun _ x11 e11 => ?_⟩
      rw [M.2.1] at e11
      subst e11
      refine ⟨fun q => nx p (by rw [if_neg (fun g => q ((M.1 t (by omega)).mp g.1))]), fun q => ⟨fun h => absurd h (nI_ge (by omega) (by omega)), fun _ => ⟨vp_in_nI (by omega) (by omega), fun y20 e20 => ?_⟩⟩⟩
      have hb : bq t = true := (M.1 t (by omega)).mpr q
      obtain ⟨d1, d2, d3, d4, _⟩ := M.2.2.2.1 t (by omega) (Or.inr hb)
      have e20 : y20 = vw (nI (v t).1) (nI (v t).2) := by rw [e20]; show yB Y r (nI t).toNatClampNeg = _; rw [nI_clamp (by omega)]; exact (M.2.2.2.2.1 t (by omega) hb).1
      subst e20
      unfold wy_J9_max_f86c9
      rw [lgn, vw_lt (by omega) (by omega) (by omega) (by omega)]
      refine ⟨fun g => nx (v t) (by rw [if_pos ⟨hb, g⟩]), fun g => nx p (by rw [if_neg (fun g2 => g g2.2)])⟩
  exact key n 0 (by omega)
end
end
