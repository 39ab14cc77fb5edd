/-! Constructors: cells by name, what they are to hold, what of it has been written -/
section
variable {kd nn : Nat → Nat → Nat} {FI : Nat → Nat → Nat → Int32} {FJ : Nat → Nat → Nat → Int64} {FP : Nat → Nat → Nat → Option (Nat × Nat)} {ad : Nat → Nat → Nat} {L L2 : Nat → Nat → Prop} {S S2 : Nat → Nat → Nat → Prop} {σ0 σ τ : Sto} {t o k : Nat}
def Sm5 (σ τ : Sto) (a b : Nat) : Prop := sK τ b = sK σ a ∧ sN τ b = sN σ a ∧ sI τ b = sI σ a ∧ sJ τ b = sJ σ a ∧ sP τ b = sP σ a
def CelC (FI : Nat → Nat → Nat → Int32) (FJ : Nat → Nat → Nat → Int64) (FP : Nat → Nat → Nat → Option (Nat × Nat)) (ad : Nat → Nat → Nat) (S : Nat → Nat → Nat → Prop) (σ : Sto) (t o k : Nat) : Prop :=
  (S t o k → sI σ (ad t o) k = FI t o k ∧ sJ σ (ad t o) k = FJ t o k ∧ sP σ (ad t o) k = (FP t o k).map (fun q => ad q.1 q.2)) ∧ (¬ S t o k → sI σ (ad t o) k = 0 ∧ sJ σ (ad t o) k = 0 ∧ sP σ (ad t o) k = none)
def Ab (kd nn : Nat → Nat → Nat) (FI : Nat → Nat → Nat → Int32) (FJ : Nat → Nat → Nat → Int64) (FP : Nat → Nat → Nat → Option (Nat × Nat)) (ad : Nat → Nat → Nat) (L : Nat → Nat → Prop) (S : Nat → Nat → Nat → Prop) (σ0 σ : Sto) : Prop :=
  (∀ t o, L t o → sK σ (ad t o) = kd t o ∧ kd t o < 23 ∧ sN σ (ad t o) = nn t o ∧ ¬ sK σ0 (ad t o) < 23 ∧ ∀ k, CelC FI FJ FP ad S σ t o k) ∧
  (∀ t o t' o', L t o → L t' o' → ad t o = ad t' o' → t = t' ∧ o = o') ∧
  (∀ t o k, S t o k → L t o ∧ ∀ q, FP t o k = some q → L q.1 q.2) ∧
  ∀ a, sK σ0 a < 23 → Sm5 σ0 σ a a
theorem Ab.K (H : Ab kd nn FI FJ FP ad L S σ0 σ) (h : L t o) : sK σ (ad t o) = kd t o := (H.1 t o h).1
theorem Ab.N (H : Ab kd nn FI FJ FP ad L S σ0 σ) (h : L t o) : sN σ (ad t o) = nn t o := (H.1 t o h).2.2.1
theorem Ab.gP (H : Ab kd nn FI FJ FP ad L S σ0 σ) (h : S t o k) {t2 o2 : Nat} (hf : FP t o k = some (t2, o2)) : sP σ (ad t o) k = some (ad t2 o2) := by
  have := ((H.1 t o (H.2.2.1 t o k h).1).2.2.2.2 k).1 h
  rw [this.2.2, hf]
  rfl
theorem Ab.gI (H : Ab kd nn FI FJ FP ad L S σ0 σ) (h : S t o k) : sI σ (ad t o) k = FI t o k := (((H.1 t o (H.2.2.1 t o k h).1).2.2.2.2 k).1 h).1
theorem Ab.cong (H : Ab kd nn FI FJ FP ad L S σ0 σ) (h : ∀ t o, L t o ↔ L2 t o) : Ab kd nn FI FJ FP ad L2 S σ0 σ := by
  have e : L = L2 := funext fun t => funext fun o => propext (h t o)
  subst e
  exact H
theorem Ab.fresh (H : Ab kd nn FI FJ FP ad L S σ0 σ) {q : Nat} (hq : ¬ sK σ q < 23) : ¬ sK σ0 q < 23 := fun h => hq (by rw [(H.2.2.2 q h).1]; exact h)
theorem Ab.nw (H : Ab kd nn FI FJ FP ad L S σ0 σ) {q K N : Nat} (hq : ¬ sK σ q < 23) (hL : ¬ L t o) (hk : kd t o = K) (hK : K < 23) (hn : nn t o = N) :
    ∃ ad', Ab kd nn FI FJ FP ad' (fun a b => L a b ∨ (a = t ∧ b = o)) S σ0 (stN σ q K N) ∧ ad' t o = q ∧ ∀ a b, L a b → ad' a b = ad a b := by
  have hne : ∀ a b, L a b → ad a b ≠ q := fun a b h e => hq (by rw [← e, H.K h]; exact (H.1 a b h).2.1)
  have hta : ∀ a b, L a b → ¬ (a = t ∧ b = o) := fun a b h e => hL (by rw [← e.1, ← e.2]; exact h)
  have ex : ∀ a b, L a b → (if a = t ∧ b = o then q else ad a b) = ad a b := fun a b h => if_neg (hta a b h)
  have eq : (if t = t ∧ o = o then q else ad t o) = q := if_pos ⟨rfl, rfl⟩
  refine ⟨fun a b => if a = t ∧ b = o then q else ad a b, ⟨fun a b h => ?_, fun a b a' b' h h' e => ?_, fun a b j h => ?_, fun a h => ?_⟩, eq, ex⟩
  · rcases h with h | ⟨rfl, rfl⟩
    · obtain ⟨h1, h2, h3, h4, h5⟩ := H.1 a b h
      obtain ⟨n1, n2, n3, n4, n5⟩ := stN_ne (σ := σ) (kd := K) (len := N) (hne a b h)
      dsimp only
      rw [ex a b h]
      refine ⟨n1.trans h1, h2, n2.trans h3, h4, fun j => ?_⟩
      unfold CelC
      dsimp only
      rw [ex a b h, n3, n4, n5]
      refine ⟨fun hs => ?_, (h5 j).2⟩
      obtain ⟨g1, g2, g3⟩ := (h5 j).1 hs
      refine ⟨g1, g2, ?_⟩
      rw [g3]
      cases hp : FP a b j with
      | none => rfl
      | some p =>
        have := (H.2.2.1 a b j hs).2 p hp
        exact congrArg some (ex p.1 p.2 this).symm
    · dsimp only
      rw [eq]
      refine ⟨stN_at.1.trans hk.symm, by rw [hk]; exact hK, stN_at.2.1.trans hn.symm, H.fresh hq, fun j => ?_⟩
      unfold CelC
      dsimp only
      rw [eq]
      exact ⟨fun hs => absurd (H.2.2.1 _ _ j hs).1 hL, fun _ => ⟨stN_at.2.2.1 j, stN_at.2.2.2.1 j, stN_at.2.2.2.2 j⟩⟩
  · dsimp only at e
    rcases h with h | ⟨rfl, rfl⟩
    · rcases h' with h' | ⟨rfl, rfl⟩
      · rw [ex a b h, ex a' b' h'] at e
        exact H.2.1 a b a' b' h h' e
      · rw [ex a b h, eq] at e
        exact absurd e (hne a b h)
    · rcases h' with h' | ⟨h1, h2⟩
      · rw [ex a' b' h', eq] at e
        exact absurd e.symm (hne a' b' h')
      · exact ⟨h1.symm, h2.symm⟩
  · exact ⟨Or.inl (H.2.2.1 a b j h).1, fun p hp => Or.inl ((H.2.2.1 a b j h).2 p hp)⟩
  · have hn : a ≠ q := fun e => H.fresh hq (by rw [← e]; exact h)
    obtain ⟨n1, n2, n3, n4, n5⟩ := stN_ne (σ := σ) (kd := K) (len := N) hn
    obtain ⟨m1, m2, m3, m4, m5⟩ := H.2.2.2 a h
    exact ⟨n1.trans m1, n2.trans m2, n3.trans m3, n4.trans m4, n5.trans m5⟩
theorem Ab.wr (H : Ab kd nn FI FJ FP ad L S σ0 σ) (hL : L t o) (hK : sK τ = sK σ) (hN : sN τ = sN σ) (hfr : ∀ b, b ≠ ad t o → sI τ b = sI σ b ∧ sJ τ b = sJ σ b ∧ sP τ b = sP σ b)
    (hot : ∀ j, j ≠ k → sI τ (ad t o) j = sI σ (ad t o) j ∧ sJ τ (ad t o) j = sJ σ (ad t o) j ∧ sP τ (ad t o) j = sP σ (ad t o) j)
    (hat : sI τ (ad t o) k = FI t o k ∧ sJ τ (ad t o) k = FJ t o k ∧ sP τ (ad t o) k = (FP t o k).map (fun q => ad q.1 q.2)) (hT : ∀ q, FP t o k = some q → L q.1 q.2) :
    Ab kd nn FI FJ FP ad L (fun a b j => S a b j ∨ (a = t ∧ b = o ∧ j = k)) σ0 τ := by
  refine ⟨fun a b h => ?_, H.2.1, fun a b j h => ?_, fun a h => ?_⟩
  · obtain ⟨h1, h2, h3, h4, h5⟩ := H.1 a b h
    refine ⟨by rw [hK]; exact h1, h2, by rw [hN]; exact h3, h4, fun j => ?_⟩
    unfold CelC
    by_cases e : a = t ∧ b = o
    · obtain ⟨rfl, rfl⟩ := e
      by_cases ej : j = k
      · subst ej
        exact ⟨fun _ => hat, fun q => absurd (Or.inr ⟨rfl, rfl, rfl⟩) q⟩
      · obtain ⟨g1, g2, g3⟩ := hot j ej
        rw [g1, g2, g3]
        refine ⟨fun hs => (h5 j).1 (hs.elim id (fun q => absurd q.2.2 ej)), fun hs => (h5 j).2 (fun q => hs (Or.inl q))⟩
    · have hn : ad a b ≠ ad t o := fun q => e (H.2.1 a b t o h hL q)
      obtain ⟨g1, g2, g3⟩ := hfr _ hn
      rw [g1, g2, g3]
      refine ⟨fun hs => (h5 j).1 (hs.elim id (fun q => absurd ⟨q.1, q.2.1⟩ e)), fun hs => (h5 j).2 (fun q => hs (Or.inl q))⟩
  · rcases h with h | ⟨rfl, rfl, rfl⟩
    · exact H.2.2.1 a b j h
    · exact ⟨hL, hT⟩
  · have hn : a ≠ ad t o := fun e => (H.1 t o hL).2.2.2.1 (by rw [← e]; exact h)
    obtain ⟨g1, g2, g3⟩ := hfr a hn
    obtain ⟨m1, m2, m3, m4, m5⟩ := H.2.2.2 a h
    exact ⟨by rw [hK]; exact m1, by rw [hN]; exact m2, g1.trans m3, g2.trans m4, g3.trans m5⟩
theorem Ab.old (H : Ab kd nn FI FJ FP ad L S σ0 σ) (hL : L t o) (k : Nat) (hI : FI t o k = 0) : sI σ (ad t o) k = FI t o k := by
  by_cases h : S t o k
  · exact H.gI h
  · rw [hI]
    exact (((H.1 t o hL).2.2.2.2 k).2 h).1
theorem Ab.oldJ (H : Ab kd nn FI FJ FP ad L S σ0 σ) (hL : L t o) (k : Nat) (hI : FJ t o k = 0) : sJ σ (ad t o) k = FJ t o k := by
  by_cases h : S t o k
  · exact (((H.1 t o hL).2.2.2.2 k).1 h).2.1
  · rw [hI]
    exact (((H.1 t o hL).2.2.2.2 k).2 h).2.1
theorem Ab.oldP (H : Ab kd nn FI FJ FP ad L S σ0 σ) (hL : L t o) (k : Nat) (hI : FP t o k = none) : sP σ (ad t o) k = (FP t o k).map (fun q => ad q.1 q.2) := by
  by_cases h : S t o k
  · exact (((H.1 t o hL).2.2.2.2 k).1 h).2.2
  · rw [hI]
    exact (((H.1 t o hL).2.2.2.2 k).2 h).2.2
theorem Ab.wI (H : Ab kd nn FI FJ FP ad L S σ0 σ) (hL : L t o) {v : Int32} (hI : FI t o k = v) (hJ : FJ t o k = 0) (hP : FP t o k = none) : Ab kd nn FI FJ FP ad L (fun a b j => S a b j ∨ (a = t ∧ b = o ∧ j = k)) σ0 (stI σ (ad t o) k v) := by
  refine H.wr hL rfl rfl (fun b hb => ⟨up2_row _ v hb, rfl, rfl⟩) (fun j hj => ⟨up2_ne _ v (fun q => hj q.2), rfl, rfl⟩) ⟨?_, H.oldJ hL k hJ, H.oldP hL k hP⟩ (fun q h => by rw [hP] at h; cases h)
  rw [hI]
  exact up2_self _ _ _ v
theorem Ab.wJ (H : Ab kd nn FI FJ FP ad L S σ0 σ) (hL : L t o) {v : Int64} (hJ : FJ t o k = v) (hI : FI t o k = 0) (hP : FP t o k = none) : Ab kd nn FI FJ FP ad L (fun a b j => S a b j ∨ (a = t ∧ b = o ∧ j = k)) σ0 (stJ σ (ad t o) k v) := by
  refine H.wr hL rfl rfl (fun b hb => ⟨rfl, up2_row _ v hb, rfl⟩) (fun j hj => ⟨rfl, up2_ne _ v (fun q => hj q.2), rfl⟩) ⟨H.old hL k hI, ?_, H.oldP hL k hP⟩ (fun q h => by rw [hP] at h; cases h)
  rw [hJ]
  exact up2_self _ _ _ v
theorem Ab.wP (H : Ab kd nn FI FJ FP ad L S σ0 σ) (hL : L t o) {t2 o2 : Nat} (hP : FP t o k = some (t2, o2)) (hL2 : L t2 o2) (hI : FI t o k = 0) (hJ : FJ t o k = 0) : Ab kd nn FI FJ FP ad L (fun a b j => S a b j ∨ (a = t ∧ b = o ∧ j = k)) σ0 (stP σ (ad t o) k (some (ad t2 o2))) := by
  refine H.wr hL rfl rfl (fun b hb => ⟨rfl, rfl, up2_row _ _ hb⟩) (fun j hj => ⟨rfl, rfl, up2_ne _ _ (fun q => hj q.2)⟩) ⟨H.old hL k hI, H.oldJ hL k hJ, ?_⟩ (fun q h => by rw [hP] at h; cases h; exact hL2)
  rw [hP]
  exact up2_self _ _ _ _
/-- what has grown -/
def Gw (ad : Nat → Nat → Nat) (L : Nat → Nat → Prop) (S : Nat → Nat → Nat → Prop) (ad' : Nat → Nat → Nat) (L' : Nat → Nat → Prop) (S' : Nat → Nat → Nat → Prop) (New : Nat → Nat → Prop) (Mk : Nat → Nat → Nat → Prop) : Prop :=
  (∀ t o, L' t o ↔ L t o ∨ New t o) ∧ (∀ t o k, S t o k ∨ Mk t o k → S' t o k) ∧ ∀ t o, L t o → ad' t o = ad t o
end
