/-! The reference's contents: its numbers by field, its arrays by field and place -/
abbrev Xc : Type := (Nat → Int32) × (Nat → Nat → Int32)
def xS (X : Xc) (k : Nat) (v : Int32) : Xc := (va_up X.1 k v, X.2)
def xA (X : Xc) (k i : Nat) (v : Int32) : Xc := (X.1, up2 X.2 k i v)
def ak : Nat → Nat := fun k => match k with
  | 5 => 14
  | 9 => 16
  | 10 => 14
  | 11 => 14
  | 12 => 14
  | 13 => 14
  | 15 => 14
  | 20 => 16
  | 21 => 14
  | 22 => 14
  | 23 => 14
  | 24 => 14
  | 25 => 14
  | 26 => 14
  | 27 => 14
  | 28 => 14
  | 29 => 14
  | 30 => 16
  | 31 => 14
  | 32 => 14
  | 33 => 14
  | 34 => 14
  | 35 => 14
  | 36 => 14
  | 37 => 14
  | 38 => 14
  | 39 => 14
  | 40 => 14
  | 41 => 14
  | 42 => 14
  | 43 => 14
  | 44 => 14
  | 45 => 14
  | 46 => 14
  | 47 => 14
  | 48 => 14
  | 49 => 14
  | 50 => 14
  | 51 => 16
  | 52 => 14
  | 53 => 14
  | 54 => 14
  | 55 => 14
  | 56 => 14
  | 57 => 14
  | 58 => 14
  | 59 => 14
  | 60 => 14
  | 61 => 14
  | 62 => 14
  | 63 => 14
  | 64 => 14
  | 65 => 14
  | 66 => 16
  | 67 => 14
  | 68 => 14
  | 69 => 14
  | 70 => 14
  | 71 => 14
  | 72 => 14
  | 73 => 14
  | 74 => 14
  | 75 => 14
  | 76 => 14
  | 77 => 14
  | 78 => 14
  | 79 => 14
  | 80 => 14
  | 82 => 14
  | 83 => 14
  | 84 => 14
  | 85 => 14
  | 86 => 14
  | 87 => 14
  | 88 => 14
  | 90 => 14
  | 92 => 14
  | _ => 0
def al : Nat → Nat := fun k => match k with
  | 5 => 200
  | 9 => 200
  | 10 => 128000
  | 11 => 200
  | 12 => 200
  | 13 => 640
  | 15 => 640
  | 20 => 7
  | 21 => 7
  | 22 => 7
  | 23 => 7
  | 24 => 7
  | 25 => 7
  | 26 => 7
  | 27 => 7
  | 28 => 7
  | 29 => 7
  | 30 => 700
  | 31 => 700
  | 32 => 700
  | 33 => 700
  | 34 => 700
  | 35 => 700
  | 36 => 7
  | 37 => 112
  | 38 => 112
  | 39 => 112
  | 40 => 112
  | 41 => 112
  | 42 => 112
  | 43 => 7
  | 44 => 7
  | 45 => 7
  | 46 => 7
  | 47 => 49
  | 48 => 49
  | 49 => 49
  | 50 => 49
  | 51 => 4900
  | 52 => 4900
  | 53 => 4900
  | 54 => 4900
  | 55 => 4900
  | 56 => 4900
  | 57 => 7
  | 58 => 7
  | 59 => 7
  | 60 => 7
  | 61 => 7
  | 62 => 8
  | 63 => 4
  | 64 => 4
  | 65 => 4
  | 66 => 4
  | 67 => 4
  | 68 => 4
  | 69 => 4
  | 70 => 4
  | 71 => 4
  | 72 => 4
  | 73 => 4
  | 74 => 4
  | 75 => 4
  | 76 => 256
  | 77 => 256
  | 78 => 256
  | 79 => 256
  | 80 => 256
  | 82 => 200
  | 83 => 200
  | 84 => 200
  | 85 => 200
  | 86 => 200
  | 87 => 200
  | 88 => 2560
  | 90 => 1500
  | 92 => 640
  | _ => 0
theorem ak_in (k : Nat) (h : ak k ≠ 0) : ak k = 14 ∨ ak k = 16 := by
  unfold ak at h ⊢
  split <;> simp_all
/-- the model's object at m, its arrays at ad -/
def RefS (m : Nat) (ad : Nat → Nat) (σ : Sto) : Prop := sK σ m = 12 ∧ (∀ k, ak k ≠ 0 → sP σ m k = some (ad k) ∧ sK σ (ad k) = ak k ∧ sN σ (ad k) = al k) ∧ ∀ j k, ak j ≠ 0 → ak k ≠ 0 → ad j = ad k → j = k
def RefC (m : Nat) (ad : Nat → Nat) (σ : Sto) (X : Xc) : Prop := RefS m ad σ ∧ (∀ k, sI σ m k = X.1 k) ∧ ∀ k, ak k ≠ 0 → ∀ i, sI σ (ad k) i = X.2 k i
/-- the cells of the reference -/
def rg (m : Nat) (ad : Nat → Nat) : Nat → Prop := fun a => a = m ∨ ∃ k, ak k ≠ 0 ∧ a = ad k
/-- only the reference's ints have changed -/
def Fi (m : Nat) (ad : Nat → Nat) (σ τ : Sto) : Prop := sK τ = sK σ ∧ sN τ = sN σ ∧ sJ τ = sJ σ ∧ sP τ = sP σ ∧ ∀ a, ¬ rg m ad a → sI τ a = sI σ a
theorem Fi.rf {m : Nat} {ad : Nat → Nat} {σ : Sto} : Fi m ad σ σ := ⟨rfl, rfl, rfl, rfl, fun _ _ => rfl⟩
theorem Fi.trans {m : Nat} {ad : Nat → Nat} {σ τ υ : Sto} (h1 : Fi m ad σ τ) (h2 : Fi m ad τ υ) : Fi m ad σ υ := ⟨h2.1.trans h1.1, h2.2.1.trans h1.2.1, h2.2.2.1.trans h1.2.2.1, h2.2.2.2.1.trans h1.2.2.2.1, fun a h => (h2.2.2.2.2 a h).trans (h1.2.2.2.2 a h)⟩
theorem Fi.S {m : Nat} {ad : Nat → Nat} {σ τ : Sto} {k : Nat} {v : Int32} (h : Fi m ad σ τ) : Fi m ad σ (stI τ m k v) := ⟨h.1, h.2.1, h.2.2.1, h.2.2.2.1, fun a ha => (up2_row _ v (fun e => ha (Or.inl e))).trans (h.2.2.2.2 a ha)⟩
theorem Fi.A {m : Nat} {ad : Nat → Nat} {σ τ : Sto} {k i : Nat} {v : Int32} (h : Fi m ad σ τ) (hk : ak k ≠ 0) : Fi m ad σ (stI τ (ad k) i v) := ⟨h.1, h.2.1, h.2.2.1, h.2.2.2.1, fun a ha => (up2_row _ v (fun e => ha (Or.inr ⟨k, hk, e⟩))).trans (h.2.2.2.2 a ha)⟩
theorem RefC.P {m : Nat} {ad : Nat → Nat} {σ : Sto} {X : Xc} {k : Nat} (h : RefC m ad σ X) (hk : ak k ≠ 0) : sP σ m k = some (ad k) := (h.1.2.1 k hk).1
theorem RefC.K {m : Nat} {ad : Nat → Nat} {σ : Sto} {X : Xc} {k : Nat} (h : RefC m ad σ X) (hk : ak k ≠ 0) : sK σ (ad k) = ak k := (h.1.2.1 k hk).2.1
theorem RefC.N {m : Nat} {ad : Nat → Nat} {σ : Sto} {X : Xc} {k : Nat} (h : RefC m ad σ X) (hk : ak k ≠ 0) {i : Int32} (hi : vp_in i (al k)) : vp_in i (sN σ (ad k)) := by rw [(h.1.2.1 k hk).2.2]; exact hi
theorem RefC.ne {m : Nat} {ad : Nat → Nat} {σ : Sto} {X : Xc} {k : Nat} (h : RefC m ad σ X) (hk : ak k ≠ 0) : ad k ≠ m := fun e => by
  have h1 := (h.1.2.1 k hk).2.1
  rw [e, h.1.1] at h1
  rcases ak_in k hk with h2 | h2 <;> omega
theorem RefC.S {m : Nat} {ad : Nat → Nat} {σ : Sto} {X : Xc} {k : Nat} {v : Int32} (h : RefC m ad σ X) : RefC m ad (stI σ m k v) (xS X k v) := by
  refine ⟨h.1, fun j => ?_, fun j hj i => ?_⟩
  · show up2 (sI σ) m k v m j = va_up X.1 k v j
    simp only [up2, va_up, true_and]
    split
    · rfl
    · exact h.2.1 j
  · have e : sI (stI σ m k v) (ad j) i = sI σ (ad j) i := up2_ne _ v (fun q => h.ne hj q.1)
    rw [e]; exact h.2.2 j hj i
theorem RefC.A {m : Nat} {ad : Nat → Nat} {σ : Sto} {X : Xc} {k i : Nat} {v : Int32} (h : RefC m ad σ X) (hk : ak k ≠ 0) : RefC m ad (stI σ (ad k) i v) (xA X k i v) := by
  refine ⟨h.1, fun j => ?_, fun j hj n => ?_⟩
  · have e : sI (stI σ (ad k) i v) m j = sI σ m j := up2_ne _ v (fun q => h.ne hk q.1.symm)
    rw [e]; exact h.2.1 j
  · show up2 (sI σ) (ad k) i v (ad j) n = up2 X.2 k i v j n
    by_cases e : j = k
    · subst e
      simp only [up2, true_and]
      split
      · rfl
      · exact h.2.2 j hj n
    · rw [up2_ne _ v (fun q => e (h.1.2.2 j k hj hk q.1)), up2_ne _ v (fun q => e q.1)]
      exact h.2.2 j hj n
/-- the reference's part of another store in which it stands the same -/
theorem RefC.kept {m : Nat} {ad : Nat → Nat} {σ τ : Sto} {X : Xc} (h : RefC m ad σ X) (hk : ∀ a, rg m ad a → sK τ a = sK σ a ∧ sN τ a = sN σ a ∧ sI τ a = sI σ a ∧ sP τ a = sP σ a) : RefC m ad τ X := by
  have h0 := hk m (Or.inl rfl)
  refine ⟨⟨h0.1.trans h.1.1, fun k hk9 => ?_, h.1.2.2⟩, fun k => by rw [h0.2.2.1]; exact h.2.1 k, fun k hk9 i => by rw [(hk (ad k) (Or.inr ⟨k, hk9, rfl⟩)).2.2.1]; exact h.2.2 k hk9 i⟩
  have h1 := hk (ad k) (Or.inr ⟨k, hk9, rfl⟩)
  rw [h0.2.2.2, h1.1, h1.2.1]
  exact h.1.2.1 k hk9
def LFx {T : Type} (F : (T → Xc → Prop) → T → Xc → Prop) (t : T) (X : Xc) : Prop := ∀ Rr : T → Xc → Prop, (∀ (t : T) (X : Xc), F Rr t X → Rr t X) → Rr t X
theorem lfx {T : Type} {F : (T → Sto → Prop) → T → Sto → Prop} {Fx : (T → Xc → Prop) → T → Xc → Prop} {m : Nat} {ad : Nat → Nat} {σ0 σ : Sto} {t : T} {X : Xc} (h : LFx Fx t X) (hR : RefC m ad σ X) (hF : Fi m ad σ0 σ) (step : ∀ (Lx : T → Xc → Prop) (L : T → Sto → Prop), (∀ (t : T) (σ : Sto) (X : Xc), Lx t X → RefC m ad σ X → Fi m ad σ0 σ → L t σ) → ∀ (t : T) (σ : Sto) (X : Xc), RefC m ad σ X → Fi m ad σ0 σ → Fx Lx t X → F L t σ) : LF F t σ := by
  intro R hc
  exact h (fun t X => ∀ σ, RefC m ad σ X → Fi m ad σ0 σ → R t σ) (fun t X hx σ hR hF => hc t σ (step _ R (fun t σ X h a b => h σ a b) t σ X hR hF hx)) σ hR hF
theorem lfx_m {T : Type} {F : (T → Xc → Prop) → T → Xc → Prop} (I : T → Xc → Prop) (μ : T → Xc → Nat) (hs : ∀ (t : T) (X : Xc), I t X → ∀ Rr : T → Xc → Prop, (∀ (t' : T) (X' : Xc), I t' X' → μ t' X' < μ t X → Rr t' X') → F Rr t X) {t : T} {X : Xc} (h : I t X) : LFx F t X := by
  intro Rr hR
  have key : ∀ (n : Nat) (t : T) (X : Xc), μ t X < n → I t X → Rr t X := by
    intro n
    induction n with
    | zero => intro t X hn; omega
    | succ n ih => intro t X hn hI; exact hR t X (hs t X hI Rr (fun t' X' hI' hl => ih t' X' (by omega) hI'))
  exact key _ t X (Nat.lt_succ_self _) h
/-! sumOf, by hand: a row of ints from one place to another -/
def crc1 (s : Int32) : Int32 := if s &&& 1 = 1 then ((s.toUInt32 >>> ((1 : Int32).toUInt32 &&& Int32.toUInt32 31)).toInt32) ^^^ (-306674912) else ((s.toUInt32 >>> ((1 : Int32).toUInt32 &&& Int32.toUInt32 31)).toInt32)
def crc8 : Nat → Int32 → Int32
  | 0, s => s
  | n + 1, s => crc8 n (crc1 s)
/-- n numbers of f from i on, into s -/
def crcn (f : Nat → Int32) : Nat → Nat → Int32 → Int32
  | _, 0, s => s
  | i, n + 1, s => crcn f (i + 1) n (crc8 8 (s ^^^ f i))
theorem sumOf_in {b : Nat} {σ : Sto} {L5 : Option Nat × Int32 × Int32 × Int32 → Sto → Prop} {Q : Int32 → Sto → Prop} {to k : Int32} {R : Option Nat × Int32 × Int32 × Int32 × Int32 → Sto → Prop} (hc : ∀ (t : Option Nat × Int32 × Int32 × Int32 × Int32) (σ : Sto), f_X12_sumOf_21 L5 Q R t σ → R t σ) :
    ∀ (d n : Nat) (s : Int32), n + d = 8 → L5 (some b, to, crc8 d s, k + 1) σ → R (some b, to, s, k, nI n) σ := by
  intro d
  induction d with
  | zero =>
    intro n s hn h
    have e : n = 8 := by omega
    subst e
    refine hc _ _ ⟨fun _ x2 e2 => ?_, fun h8 => absurd (show (8 : Int32) ≤ nI 8 by decide) h8⟩
    subst e2; exact h
  | succ d ih =>
    intro n s hn h
    have h8 : ¬ (8 : Int32) ≤ nI n := nI_ge (a := n) (b := 8) (by omega) (by decide)
    refine hc _ _ ⟨fun q => absurd q h8, fun _ => ⟨fun c1 => ?_, fun c1 => ?_⟩⟩
    · unfold b_X12_sumOf_40
      intro x1 e1
      refine ⟨fun _ => ?_, fun q => absurd rfl q⟩
      unfold b_X12_sumOf_57
      intro x2 e2
      rw [e2, show nI n + 1 = nI (n + 1) from nI_1 n]
      refine ih (n + 1) x1 (by omega) ?_
      have e3 : crc8 (d + 1) s = crc8 d x1 := by
        show crc8 d (crc1 s) = _
        rw [e1]; unfold crc1; rw [if_neg c1]
      rw [← e3]; exact h
    · unfold b_X12_sumOf_40
      intro x1 e1
      refine ⟨fun q => absurd q (by decide), fun _ x4 e4 => ?_⟩
      unfold b_X12_sumOf_57
      intro x2 e2
      rw [e2, show nI n + 1 = nI (n + 1) from nI_1 n]
      refine ih (n + 1) x4 (by omega) ?_
      have e3 : crc8 (d + 1) s = crc8 d x4 := by
        show crc8 d (crc1 s) = _
        rw [e4, e1]; unfold crc1; rw [if_pos c1]
      rw [← e3]; exact h
theorem sumOf_out {b : Nat} {σ : Sto} (hK : sK σ b = 14) (hN : sN σ b < 2 ^ 31) {Q : Int32 → Sto → Prop} {j : Nat} (hj : j ≤ sN σ b) {R : Option Nat × Int32 × Int32 × Int32 → Sto → Prop} (hc : ∀ (t : Option Nat × Int32 × Int32 × Int32) (σ : Sto), f_X12_sumOf_5 Q R t σ → R t σ) :
    ∀ (d i : Nat) (s : Int32), i + d = j → Q (crcn (sI σ b) i d s ^^^ (-1)) σ → R (some b, nI j, s, nI i) σ := by
  intro d
  induction d with
  | zero =>
    intro i s hi h
    have e : i = j := by omega
    subst e
    exact hc _ _ ⟨fun _ => h, fun q => absurd (nI_le (Nat.le_refl i) (by omega)) q⟩
  | succ d ih =>
    intro i s hi h
    have h1 : ¬ nI j ≤ nI i := nI_ge (by omega) (by omega)
    refine hc _ _ ⟨fun q => absurd q h1, fun _ => ⟨b, rfl, hK, vp_in_nI (by omega) hN, fun x6 e6 x8 e8 => ?_⟩⟩
    intro R2 hc2
    refine sumOf_in (b := b) (σ := σ) (to := nI j) (k := nI i) hc2 8 0 x8 rfl ?_
    rw [show nI i + 1 = nI (i + 1) from nI_1 i]
    refine ih (i + 1) _ (by omega) ?_
    have e6' : x6 = sI σ b i := by rw [e6]; show sI σ b (nI i).toNatClampNeg = _; rw [nI_clamp (by omega)]
    have e9 : crcn (sI σ b) i (d + 1) s = crcn (sI σ b) (i + 1) d (crc8 8 x8) := by
      show crcn (sI σ b) (i + 1) d (crc8 8 (s ^^^ sI σ b i)) = _
      rw [e8, e6']
    rw [← e9]; exact h
theorem al_small (k : Nat) : al k < 2 ^ 31 := by unfold al; split <;> decide
def wx_X12_sumOf (k : Nat) (p1 p2 : Int32) (X : Xc) (Qx : Int32 → Xc → Prop) : Prop := ak k = 14 ∧ ∃ i j : Nat, p1 = nI i ∧ p2 = nI j ∧ i ≤ j ∧ j ≤ al k ∧ Qx (crcn (X.2 k) i (j - i) (-1) ^^^ (-1)) X
theorem x_X12_sumOf {m : Nat} {ad : Nat → Nat} {k : Nat} {p1 p2 : Int32} {σ : Sto} {X : Xc} {Q : Int32 → Sto → Prop} {Qx : Int32 → Xc → Prop} (hR : RefC m ad σ X) (h : wx_X12_sumOf k p1 p2 X Qx) (hQ : ∀ (r : Int32) (σ' : Sto) (X' : Xc), Qx r X' → RefC m ad σ' X' → Fi m ad σ σ' → Q r σ') : wp_X12_sumOf (some (ad k)) p1 p2 σ Q := by
  obtain ⟨hk, i, j, e1, e2, hij, hj, h⟩ := h
  have hk0 : ak k ≠ 0 := by rw [hk]; decide
  subst e1; subst e2
  have hN : sN σ (ad k) = al k := (hR.1.2.1 k hk0).2.2
  intro R hc
  refine sumOf_out (by rw [hR.K hk0]; exact hk) (by rw [hN]; exact al_small k) (j := j) (by rw [hN]; exact hj) hc (j - i) i (-1) (by omega) ?_
  have e : sI σ (ad k) = X.2 k := by funext n; exact hR.2.2 k hk0 n
  rw [e]
  exact hQ _ _ _ h hR Fi.rf
