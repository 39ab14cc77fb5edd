theorem pigeon : ∀ (c N : Nat) (f : Nat → Nat), (∀ m, m < N → ∃ k, k < c ∧ f k = m) → N ≤ c := by
  intro c
  induction c with
  | zero =>
    intro N f h
    cases N with
    | zero => exact Nat.le_refl 0
    | succ N => obtain ⟨k, hk, _⟩ := h 0 (by omega); omega
  | succ c ih =>
    intro N f h
    by_cases hv : f c < N
    · have h1 : N - 1 ≤ c := by
        apply ih (N - 1) (fun k => if f k = N - 1 then f c else f k)
        intro m hm
        by_cases e : m = f c
        · obtain ⟨k, hk, hf⟩ := h (N - 1) (by omega)
          have hkc : k ≠ c := fun q => by subst q; omega
          exact ⟨k, by omega, by simp [hf, e]⟩
        · obtain ⟨k, hk, hf⟩ := h m (by omega)
          have hkc : k ≠ c := fun q => by subst q; omega
          refine ⟨k, by omega, ?_⟩
          have : ¬ f k = N - 1 := by omega
          simp only [if_neg this]; exact hf
      omega
    · have h1 : N ≤ c := by
        apply ih N f
        intro m hm
        obtain ⟨k, hk, hf⟩ := h m hm
        have hkc : k ≠ c := fun q => by subst q; omega
        exact ⟨k, by omega, hf⟩
      omega
theorem first_free {P : Nat → Prop} : ∀ N, (∃ m, m < N ∧ P m) → ∃ m, m < N ∧ P m ∧ ∀ j, j < m → ¬ P j := by
  intro N
  induction N with
  | zero => rintro ⟨m, hm, _⟩; omega
  | succ N ih =>
    rintro ⟨m, hm, hp⟩
    by_cases h : ∃ m, m < N ∧ P m
    · obtain ⟨m, h1, h2, h3⟩ := ih h
      exact ⟨m, by omega, h2, h3⟩
    · refine ⟨m, hm, hp, fun j hj hp' => h ⟨j, by omega, hp'⟩⟩
/-- the reference with a draft -/
def Dr (X X1 : Xc) (l : List Int32) : Prop := (∀ k, k ≠ 14 → X1.1 k = X.1 k) ∧ (∀ k, k ≠ 13 → X1.2 k = X.2 k) ∧ X1.1 14 = nI l.length ∧ Row (X1.2 13) 0 l
/-- the mail's row m, written with f up to j -/
def mlw (X : Xc) (m j : Nat) (f : Nat → Int32) : Xc := (X.1, fun k i => if k = 10 ∧ 640 * m ≤ i ∧ i < 640 * m + j then f (i - 640 * m) else X.2 k i)
theorem mlw_0 (X : Xc) (m : Nat) (f : Nat → Int32) : mlw X m 0 f = X := by
  unfold mlw
  refine Prod.ext rfl ?_
  funext k i
  simp only []
  rw [if_neg (by omega)]
theorem mlw_s (X : Xc) (m j : Nat) (f : Nat → Int32) : xA (mlw X m j f) 10 (640 * m + j) (f j) = mlw X m (j + 1) f := by
  unfold mlw xA
  refine Prod.ext rfl ?_
  funext k i
  simp only [up2]
  by_cases h1 : k = 10
  · by_cases h2 : i = 640 * m + j
    · subst h1; subst h2; simp
    · have : (640 * m ≤ i ∧ i < 640 * m + j) ↔ (640 * m ≤ i ∧ i < 640 * m + (j + 1)) := by omega
      simp [h1, h2, this]
  · simp [h1]
theorem x_post_copy {X : Xc} {Q : Xc → Prop} {m len : Nat} (hm : m < 200) (hl : len ≤ 640) (hd : X.1 14 = nI len) {cnt : Nat} (hc : X.1 6 = nI cnt) (hc2 : cnt < 200)
    (hQ : Q (xS (xS (xA (mlw X m len (X.2 13)) 5 cnt (nI m)) 6 (nI (cnt + 1))) 7 (X.1 7 + 1)))
    {R : Int32 × Int32 → Xc → Prop} (hR : ∀ (t : Int32 × Int32) (X : Xc), fx_X12_post_69 Q R t X → R t X) :
    ∀ (d j : Nat), j + d = len → R (nI m, nI j) (mlw X m j (X.2 13)) := by
  intro d
  induction d with
  | zero =>
    intro j hj
    have hj : j = len := by omega
    subst hj
    apply hR
    unfold fx_X12_post_69
    rintro x1 h1
    have h1 : x1 = nI j := h1.trans hd
    subst h1
    refine ⟨fun _ x5 h5 => ?_, fun h => absurd (nI_le (Nat.le_refl j) (by omega)) h⟩
    have h5 : x5 = nI cnt := h5.trans hc
    subst h5
    refine ⟨vp_in_nI hc2 (by omega), fun x7 h7 x9 h9 => ?_⟩
    have h7 : x7 = nI cnt := h7.trans hc
    subst h7
    rw [nI_1] at h9
    subst h9
    unfold bx_X12_post_121
    intro x1 h1 x3 h3
    subst h1; subst h3
    rw [nI_clamp (by omega)]
    exact hQ
  | succ d ih =>
    intro j hj
    apply hR
    unfold fx_X12_post_69
    rintro x1 h1
    have h1 : x1 = nI len := h1.trans hd
    subst h1
    refine ⟨fun h => absurd h (nI_ge (by omega) (by omega)), fun _ => ⟨vp_in_nI (by omega) (by omega), fun x13 h13 => ?_⟩⟩
    have e : (640 : Int32) * nI m + nI j = nI (640 * m + j) := by
      rw [show (640 : Int32) = nI 640 from rfl, nI_mul, nI_add]
    dsimp only at h13 ⊢
    rw [e]
    refine ⟨vp_in_nI (by omega) (by omega), fun x15 h15 => ?_⟩
    rw [nI_1] at h15
    subst h15
    rw [nI_clamp (by omega)]
    have h13 : x13 = X.2 13 j := by
      rw [h13, nI_clamp (by omega)]
      unfold mlw
      simp
    rw [h13, mlw_s]
    exact ih (j + 1) (by omega)
theorem nar_1 : vp_nar .boolean (1 : Int32) = 1 := by decide +kernel
theorem nar_0 : vp_nar .boolean (0 : Int32) = 0 := by decide +kernel
theorem x_post_find {X : Xc} {Q : Xc → Prop} {m : Nat} (hm : m < 200) (h0 : X.2 9 m = 0) (hb : ∀ j, j < m → X.2 9 j ≠ 0) {len : Nat} (hl : len ≤ 640) (hd : X.1 14 = nI len) {cnt : Nat} (hc : X.1 6 = nI cnt) (hc2 : cnt < 200)
    (hQ : Q (xS (xS (xA (mlw (xA (xA (xA X 9 m 1) 12 m (X.1 7)) 11 m (nI len)) m len (X.2 13)) 5 cnt (nI m)) 6 (nI (cnt + 1))) 7 (X.1 7 + 1))) :
    LFx (fx_X12_post_25 Q) 0 X := by
  intro R hR
  have key : ∀ d j, j + d = m → R (nI j) X := by
    intro d
    induction d with
    | zero =>
      intro j hj
      have hj : j = m := by omega
      subst hj
      apply hR
      unfold fx_X12_post_25
      refine ⟨vp_in_nI hm (by omega), fun x2 h2 => ?_⟩
      rw [nI_clamp (by omega), h0] at h2
      subst h2
      refine ⟨fun _ => ⟨vp_in_nI hm (by omega), fun x7 h7 => ⟨vp_in_nI hm (by omega), fun x10 h10 => ⟨vp_in_nI hm (by omega), ?_⟩⟩⟩, fun h => absurd rfl h⟩
      rw [nI_clamp (by omega)]
      rw [show x10 = nI len from h10.trans hd, show x7 = X.1 7 from h7, nar_1]
      intro R2 hR2
      have := x_post_copy (X := xA (xA (xA X 9 j 1) 12 j (X.1 7)) 11 j (nI len)) (Q := Q) (m := j) (len := len) hm hl hd hc hc2 hQ hR2 len 0 (by omega)
      rw [mlw_0] at this
      exact this
    | succ d ih =>
      intro j hj
      apply hR
      unfold fx_X12_post_25
      refine ⟨vp_in_nI (by omega) (by omega), fun x2 h2 => ?_⟩
      rw [nI_clamp (by omega)] at h2
      refine ⟨fun h => absurd (h2.symm.trans h) (hb j (by omega)), fun _ x12 h12 => ?_⟩
      rw [nI_1] at h12
      subst h12
      exact ih (j + 1) (by omega)
  exact key m 0 (by omega)
