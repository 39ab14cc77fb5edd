section XW2
variable {p : Program} {l : Launch} {e : Env} {R : Room} {s : State} {m : MethodId} {args : Array Value} {below : List Frame} {meth : Method} {c : Code} {D : va_G} {cy : Nat → ClassId} {A : Nat → Prop} {σ : Sto} {k n : Nat} {Q : State → Prop} {cc : ByteArray} {nL : Nat} {own : String} {pc : Nat} {ls : Array Slot} {rest : List Value}
theorem acn_I {σ : Sto} {a kd : Nat} (h : kd ≠ 15) (h2 : ¬ 17 ≤ kd) : acn σ a kd = (sN σ a, .inl (sI σ a)) := by simp [acn, h, h2]
theorem acn_J {σ : Sto} {a : Nat} : acn σ a 15 = (sN σ a, .inr (.inl (sJ σ a))) := by simp [acn]
theorem acn_P {σ : Sto} {a kd : Nat} (h : kd ≠ 15) (h2 : 17 ≤ kd) : acn σ a kd = (sN σ a, .inr (.inr (.inr (.inr (sP σ a))))) := by simp [acn, h, h2]
theorem up2_at {α : Type} (f : Nat → Nat → α) (a i : Nat) (v : α) : up2 f a i v a = fun j => if j = i then v else f a j := by funext j; simp [up2]
theorem x_iald (C : Cx p s m args meth c D cy A cc nL own) {a : Nat} {i : Int32} (hK : sK σ a = 14) (hin : vp_in i (sN σ a)) (hd : decode cc pc = .ok (.iaload, 1)) (kk : Xw p l e R s m args below meth c D cy A σ k n Q (F0 m (pc + 1) ls (.int (sI σ a i.toNatClampNeg) :: rest))) : Xw p l e R s m args below meth c D cy A σ k n Q (F0 m pc ls (.int i :: .ref a :: rest)) := by
  intro H locs h1 h2 h3
  have hP := h1.P (a := a) (by rw [hK]; omega)
  rw [cel_a hK (by decide), acn_I (by decide) (by decide)] at hP
  exact va_iald C.1.1 C.1.2.1 C.2.1.1 hP 0 1 rfl rfl hin hd (kk H locs h1 h2 h3)
theorem x_bald (C : Cx p s m args meth c D cy A cc nL own) {a : Nat} {i : Int32} (hK : sK σ a = 13) (hin : vp_in i (sN σ a)) (hd : decode cc pc = .ok (.baload, 1)) (kk : Xw p l e R s m args below meth c D cy A σ k n Q (F0 m (pc + 1) ls (.int (sI σ a i.toNatClampNeg) :: rest))) : Xw p l e R s m args below meth c D cy A σ k n Q (F0 m pc ls (.int i :: .ref a :: rest)) := by
  intro H locs h1 h2 h3
  have hP := h1.P (a := a) (by rw [hK]; omega)
  rw [cel_a hK (by decide), acn_I (by decide) (by decide)] at hP
  exact va_bald C.1.1 C.1.2.1 C.2.1.1 hP 0 0 rfl rfl hin hd (kk H locs h1 h2 h3)
theorem x_zald (C : Cx p s m args meth c D cy A cc nL own) {a : Nat} {i : Int32} (hK : sK σ a = 16) (hin : vp_in i (sN σ a)) (hd : decode cc pc = .ok (.baload, 1)) (kk : Xw p l e R s m args below meth c D cy A σ k n Q (F0 m (pc + 1) ls (.int (sI σ a i.toNatClampNeg) :: rest))) : Xw p l e R s m args below meth c D cy A σ k n Q (F0 m pc ls (.int i :: .ref a :: rest)) := by
  intro H locs h1 h2 h3
  have hP := h1.P (a := a) (by rw [hK]; omega)
  rw [cel_a hK (by decide), acn_I (by decide) (by decide)] at hP
  exact va_zald C.1.1 C.1.2.1 C.2.1.1 hP 0 3 rfl rfl hin hd (kk H locs h1 h2 h3)
theorem x_lald (C : Cx p s m args meth c D cy A cc nL own) {a : Nat} {i : Int32} (hK : sK σ a = 15) (hin : vp_in i (sN σ a)) (hd : decode cc pc = .ok (.laload, 1)) (kk : Xw p l e R s m args below meth c D cy A σ k n Q (F0 m (pc + 1) ls (.long (sJ σ a i.toNatClampNeg) :: rest))) : Xw p l e R s m args below meth c D cy A σ k n Q (F0 m pc ls (.int i :: .ref a :: rest)) := by
  intro H locs h1 h2 h3
  have hP := h1.P (a := a) (by rw [hK]; omega)
  rw [cel_a hK (by decide), acn_J] at hP
  exact va_lald C.1.1 C.1.2.1 C.2.1.1 hP 0 2 rfl rfl hin hd (kk H locs h1 h2 h3)
/-- a kind of arrays of references, the class of what they hold -/
def Rak (kd c0 : Nat) : Prop := 17 ≤ kd ∧ kd < 23 ∧ ∃ (C0 : String) (T : u_T) (N : Nat), vwCl[c0]? = some (C0, T, N) ∧ c0 < 13 ∧ ∀ cy : Nat → ClassId, (tyL cy)[kd - 13]? = some (cy kd, .object C0)
theorem x_aald (C : Cx p s m args meth c D cy A cc nL own) {a kd c0 : Nat} {i : Int32} (hr : Rak kd c0) (hK : sK σ a = kd) (hin : vp_in i (sN σ a)) (hd : decode cc pc = .ok (.aaload, 1)) (kk : Xw p l e R s m args below meth c D cy A σ k n Q (F0 m (pc + 1) ls (va_rf (sP σ a i.toNatClampNeg) :: rest))) : Xw p l e R s m args below meth c D cy A σ k n Q (F0 m pc ls (.int i :: .ref a :: rest)) := by
  intro H locs h1 h2 h3
  obtain ⟨r1, r2, C0, T, N, r3, r4, r5⟩ := hr
  have hP := h1.P (a := a) (by rw [hK]; omega)
  rw [cel_a hK (by omega), acn_P (by omega) r1] at hP
  exact va_aldq C.1.1 C.1.2.1 C.2.1.1 hP 0 (kd - 13) rfl (r5 cy) hin hd (kk H locs h1 h2 h3)
theorem x_alen (C : Cx p s m args meth c D cy A cc nL own) {a kd : Nat} (hK : sK σ a = kd) (h13 : 13 ≤ kd) (h23 : kd < 23) (hd : decode cc pc = .ok (.arraylength, 1)) (kk : Xw p l e R s m args below meth c D cy A σ k n Q (F0 m (pc + 1) ls (.int (nI (sN σ a)) :: rest))) : Xw p l e R s m args below meth c D cy A σ k n Q (F0 m pc ls (.ref a :: rest)) := by
  intro H locs h1 h2 h3
  have hP := h1.P (a := a) (by rw [hK]; omega)
  rw [cel_a hK (by omega)] at hP
  have ht : ∃ ty, (tyL cy)[kd - 13]? = some (cy kd, ty) := by
    rcases (show kd = 13 ∨ kd = 14 ∨ kd = 15 ∨ kd = 16 ∨ kd = 17 ∨ kd = 18 ∨ kd = 19 ∨ kd = 20 ∨ kd = 21 ∨ kd = 22 by omega) with h | h | h | h | h | h | h | h | h | h <;> subst h <;> exact ⟨_, rfl⟩
  obtain ⟨ty, ht⟩ := ht
  exact va_alen C.1.1 C.1.2.1 C.2.1.1 hP 0 (kd - 13) rfl ht (v := nI (sN σ a)) rfl hd (kk H locs h1 h2 h3)
theorem x_astW {τ : Sto} {a : Nat} {H H1 : Heap} {locs : List Loc} {j : Nat} (h1 : Rp D cy σ H) (h2 : ∀ a, sK σ a < 23 → A a) (h3 : va_S A s.heap H locs) (ha : sK σ a < 23) (hKt : sK τ = sK σ) (ho : ∀ b, b ≠ a → sK τ b = sK σ b ∧ cel cy τ b = cel cy σ b) (e1 : va_at D vwCl (a, cel cy τ a) H1) (z : H1.size = H.size) (oq : ∀ q, q ≠ a → H1[q]? = H[q]?) (kk : Xw p l e R s m args below meth c D cy A τ k n Q (F0 m (pc + 1) ls rest)) : W p l e R s m args below meth c H1 (locs ++ [⟨a, j⟩]) k n Q (F0 m (pc + 1) ls rest) :=
  kk H1 _ (h1.set ho e1 oq) (fun b hb => h2 b (by rw [← hKt]; exact hb)) (h3.put z oq (h2 a ha))
theorem x_iast (C : Cx p s m args meth c D cy A cc nL own) {a : Nat} {i : Int32} {x : Int32} (hK : sK σ a = 14) (hin : vp_in i (sN σ a)) (hd : decode cc pc = .ok (.iastore, 1)) (kk : Xw p l e R s m args below meth c D cy A (stI σ a i.toNatClampNeg x) k n Q (F0 m (pc + 1) ls rest)) : Xw p l e R s m args below meth c D cy A σ k n Q (F0 m pc ls (.int x :: .int i :: .ref a :: rest)) := by
  intro H locs h1 h2 h3
  have ha : sK σ a < 23 := by rw [hK]; omega
  have hat := h1 a ha
  rw [cel_a hK (by decide), acn_I (by decide) (by decide)] at hat
  have hat : H[a]? = some (vp_cell (cy 14) (sN σ a, .inl (sI σ a))) := hat
  refine W.iast C.1.1 C.1.2.1 hat ((C.2.1.1.2 1 _ rfl).1 (sN σ a) (fun j => .int (sI σ a j))) (fun q => by cases q) (by show ¬ (i < 0 ∨ (arrV _ _ _).slots.size ≤ _); rw [arrV_size]; exact hin) rfl rfl hd fun H1 e1 z oq => ?_
  refine x_astW (τ := stI σ a i.toNatClampNeg x) h1 h2 h3 ha rfl (fun b h => cel_I h) ?_ z oq kk
  rw [cel_a (σ := stI σ a i.toNatClampNeg x) (c := 14) (show sK (stI σ a i.toNatClampNeg x) a = 14 from hK) (by decide), acn_I (by decide) (by decide)]
  show H1[a]? = some (vp_cell _ _)
  rw [e1]
  rw [vp_cell_i, vp_cell_i, arrV_store]
  congr 2
  funext q
  by_cases hq : q = i.toNatClampNeg
  · subst hq
    simp [updV, sI, sJ, sP, stI, stJ, stP, up2, vp_nar]
    try rfl
  · simp [updV, sI, sJ, sP, stI, stJ, stP, up2, hq]
theorem x_bast (C : Cx p s m args meth c D cy A cc nL own) {a : Nat} {i : Int32} {x : Int32} (hK : sK σ a = 13) (hin : vp_in i (sN σ a)) (hd : decode cc pc = .ok (.bastore, 1)) (kk : Xw p l e R s m args below meth c D cy A (stI σ a i.toNatClampNeg (vp_nar .byte x)) k n Q (F0 m (pc + 1) ls rest)) : Xw p l e R s m args below meth c D cy A σ k n Q (F0 m pc ls (.int x :: .int i :: .ref a :: rest)) := by
  intro H locs h1 h2 h3
  have ha : sK σ a < 23 := by rw [hK]; omega
  have hat := h1 a ha
  rw [cel_a hK (by decide), acn_I (by decide) (by decide)] at hat
  have hat : H[a]? = some (vp_cell (cy 13) (sN σ a, .inl (sI σ a))) := hat
  refine W.bast C.1.1 C.1.2.1 hat ((C.2.1.1.2 0 _ rfl).1 (sN σ a) (fun j => .int (sI σ a j))) (fun q => by cases q) (by show ¬ (i < 0 ∨ (arrV _ _ _).slots.size ≤ _); rw [arrV_size]; exact hin) rfl rfl hd fun H1 e1 z oq => ?_
  refine x_astW (τ := stI σ a i.toNatClampNeg (vp_nar .byte x)) h1 h2 h3 ha rfl (fun b h => cel_I h) ?_ z oq kk
  rw [cel_a (σ := stI σ a i.toNatClampNeg (vp_nar .byte x)) (c := 13) (show sK (stI σ a i.toNatClampNeg (vp_nar .byte x)) a = 13 from hK) (by decide), acn_I (by decide) (by decide)]
  show H1[a]? = some (vp_cell _ _)
  rw [e1]
  rw [vp_cell_i, vp_cell_i, arrV_store]
  congr 2
  funext q
  by_cases hq : q = i.toNatClampNeg
  · subst hq
    simp [updV, sI, sJ, sP, stI, stJ, stP, up2, vp_nar]
    try rfl
  · simp [updV, sI, sJ, sP, stI, stJ, stP, up2, hq]
theorem x_zast (C : Cx p s m args meth c D cy A cc nL own) {a : Nat} {i : Int32} {x : Int32} (hK : sK σ a = 16) (hin : vp_in i (sN σ a)) (hd : decode cc pc = .ok (.bastore, 1)) (kk : Xw p l e R s m args below meth c D cy A (stI σ a i.toNatClampNeg (vp_nar .boolean x)) k n Q (F0 m (pc + 1) ls rest)) : Xw p l e R s m args below meth c D cy A σ k n Q (F0 m pc ls (.int x :: .int i :: .ref a :: rest)) := by
  intro H locs h1 h2 h3
  have ha : sK σ a < 23 := by rw [hK]; omega
  have hat := h1 a ha
  rw [cel_a hK (by decide), acn_I (by decide) (by decide)] at hat
  have hat : H[a]? = some (vp_cell (cy 16) (sN σ a, .inl (sI σ a))) := hat
  refine W.zast C.1.1 C.1.2.1 hat ((C.2.1.1.2 3 _ rfl).1 (sN σ a) (fun j => .int (sI σ a j))) (fun q => by cases q) (by show ¬ (i < 0 ∨ (arrV _ _ _).slots.size ≤ _); rw [arrV_size]; exact hin) rfl rfl hd fun H1 e1 z oq => ?_
  refine x_astW (τ := stI σ a i.toNatClampNeg (vp_nar .boolean x)) h1 h2 h3 ha rfl (fun b h => cel_I h) ?_ z oq kk
  rw [cel_a (σ := stI σ a i.toNatClampNeg (vp_nar .boolean x)) (c := 16) (show sK (stI σ a i.toNatClampNeg (vp_nar .boolean x)) a = 16 from hK) (by decide), acn_I (by decide) (by decide)]
  show H1[a]? = some (vp_cell _ _)
  rw [e1]
  rw [vp_cell_i, vp_cell_i, arrV_store]
  congr 2
  funext q
  by_cases hq : q = i.toNatClampNeg
  · subst hq
    simp [updV, sI, sJ, sP, stI, stJ, stP, up2, vp_nar]
    try rfl
  · simp [updV, sI, sJ, sP, stI, stJ, stP, up2, hq]
theorem x_last (C : Cx p s m args meth c D cy A cc nL own) {a : Nat} {i : Int32} {x : Int64} (hK : sK σ a = 15) (hin : vp_in i (sN σ a)) (hd : decode cc pc = .ok (.lastore, 1)) (kk : Xw p l e R s m args below meth c D cy A (stJ σ a i.toNatClampNeg x) k n Q (F0 m (pc + 1) ls rest)) : Xw p l e R s m args below meth c D cy A σ k n Q (F0 m pc ls (.long x :: .int i :: .ref a :: rest)) := by
  intro H locs h1 h2 h3
  have ha : sK σ a < 23 := by rw [hK]; omega
  have hat := h1 a ha
  rw [cel_a hK (by decide), acn_J] at hat
  have hat : H[a]? = some (vp_cell (cy 15) (sN σ a, .inr (.inl (sJ σ a)))) := hat
  refine W.last C.1.1 C.1.2.1 hat ((C.2.1.1.2 2 _ rfl).1 (sN σ a) (fun j => .long (sJ σ a j))) (fun q => by cases q) (by show ¬ (i < 0 ∨ (arrV _ _ _).slots.size ≤ _); rw [arrV_size]; exact hin) rfl rfl hd fun H1 e1 z oq => ?_
  refine x_astW (τ := stJ σ a i.toNatClampNeg x) h1 h2 h3 ha rfl (fun b h => cel_J h) ?_ z oq kk
  rw [cel_a (σ := stJ σ a i.toNatClampNeg x) (c := 15) (show sK (stJ σ a i.toNatClampNeg x) a = 15 from hK) (by decide), acn_J]
  show H1[a]? = some (vp_cell _ _)
  rw [e1]
  rw [vp_cell_l, vp_cell_l, arrV_store]
  congr 2
  funext q
  by_cases hq : q = i.toNatClampNeg
  · subst hq
    simp [updV, sI, sJ, sP, stI, stJ, stP, up2, vp_nar]
    try rfl
  · simp [updV, sI, sJ, sP, stI, stJ, stP, up2, hq]
theorem x_aast (C : Cx p s m args meth c D cy A cc nL own) {a kd c0 : Nat} {i : Int32} {v : Option Nat} (hr : Rak kd c0) (hK : sK σ a = kd) (hv : ∀ b, v = some b → sK σ b = c0) (hin : vp_in i (sN σ a)) (hd : decode cc pc = .ok (.aastore, 1)) (kk : Xw p l e R s m args below meth c D cy A (stP σ a i.toNatClampNeg v) k n Q (F0 m (pc + 1) ls rest)) : Xw p l e R s m args below meth c D cy A σ k n Q (F0 m pc ls (va_rf v :: .int i :: .ref a :: rest)) := by
  intro H locs h1 h2 h3
  obtain ⟨r1, r2, C0, T, N, r3, r4, r5⟩ := hr
  have ha : sK σ a < 23 := by rw [hK]; omega
  have hat := h1 a ha
  rw [cel_a hK (by omega), acn_P (by omega) r1] at hat
  have hat : H[a]? = some (vp_cell (cy kd) (sN σ a, .inr (.inr (.inr (.inr (sP σ a)))))) := hat
  have hlt : i.toNatClampNeg < sN σ a := Nat.not_le.mp fun q => hin (Or.inr q)
  have h0 : ¬ i < 0 := fun q => hin (Or.inl q)
  have fin2 : ∀ H1 : Heap, H1[a]? = some ((vp_cell (cy kd) (sN σ a, .inr (.inr (.inr (.inr (sP σ a)))))).setSlot i.toNatClampNeg (va_rf v)) → H1.size = H.size → (∀ q, q ≠ a → H1[q]? = H[q]?) → W p l e R s m args below meth c H1 (locs ++ [⟨a, i.toNatClampNeg⟩]) k n Q (F0 m (pc + 1) ls rest) := by
    intro H1 e1 z oq
    refine x_astW (τ := stP σ a i.toNatClampNeg v) h1 h2 h3 ha rfl (fun b h => cel_P h) ?_ z oq kk
    rw [cel_a (σ := stP σ a i.toNatClampNeg v) (c := kd) (show sK (stP σ a i.toNatClampNeg v) a = kd from hK) (by omega), acn_P (by omega) r1]
    show H1[a]? = some (vp_cell _ _)
    rw [e1]
    rw [vp_cell_q, vp_cell_q, arrV_store]
    congr 2
    funext q
    by_cases hq : q = i.toNatClampNeg
    · subst hq
      simp [updV, sP, stP, up2]
    · simp [updV, sP, stP, up2, hq]
  cases v with
  | none => exact va_WaastN (C := C0) C.1.1 C.1.2.1 hat ((C.2.1.1.2 _ _ (r5 cy)).1 (sN σ a) (fun j => va_rf (sP σ a j))) (fun h => by cases h) (by show ¬ (i < 0 ∨ (arrV _ _ _).slots.size ≤ _); rw [arrV_size]; exact hin) rfl rfl hd fin2
  | some v =>
    have hvk := hv v rfl
    have hvt := h1 v (by rw [hvk]; omega)
    rw [cel_o hvk r4] at hvt
    obtain ⟨r', hr', cellV, g1, g2, g3, -⟩ := hvt
    have hcls := (C.2.1.1.1 c0 _ r3).2
    obtain ⟨kA, comp, k1, k2, k3, -⟩ := (C.2.1.1.2 _ _ (r5 cy)).2
    have hcomp : comp = D.1 c0 := Option.some.inj (k3.symm.trans hcls.1)
    subst hcomp
    obtain ⟨kC, hkC, -⟩ := hcls.2
    exact W.aast C.1.1 C.1.2.1 hat (fun q h => by cases h) (fun h => by cases h) k1 k2 rfl hkC ⟨h0, by show _ < (arrV _ _ _).slots.size; rw [arrV_size]; exact hlt⟩ g1 (fun q h => by rw [g3] at h; cases h) (by rw [g2]; exact hkC) (by rw [g2]; exact va_assign hcls) rfl rfl hd fin2
theorem x_aastR (C : Cx p s m args meth c D cy A cc nL own) {a kd c0 b : Nat} {i : Int32} (hr : Rak kd c0) (hK : sK σ a = kd) (hv : sK σ b = c0) (hin : vp_in i (sN σ a)) (hd : decode cc pc = .ok (.aastore, 1)) (kk : Xw p l e R s m args below meth c D cy A (stP σ a i.toNatClampNeg (some b)) k n Q (F0 m (pc + 1) ls rest)) : Xw p l e R s m args below meth c D cy A σ k n Q (F0 m pc ls (.ref b :: .int i :: .ref a :: rest)) := x_aast (v := some b) C hr hK (fun _ h => by cases h; exact hv) hin hd kk
/-! new cells -/
theorem x_newW {a kd len : Nat} {H H1 : Heap} {locs : List Loc} (C : Cx p s m args meth c D cy A cc nL own) (h1 : Rp D cy σ H) (h2 : ∀ a, sK σ a < 23 → A a) (h3 : va_S A s.heap H locs) (ha : a = H.size) (e1 : va_at D vwCl (a, cel cy (stN σ a kd len) a) H1) (z : H1.size = H.size + 1) (oq : ∀ q, q < H.size → H1[q]? = H[q]?) : ¬ sK σ a < 23 ∧ Rp D cy (stN σ a kd len) H1 ∧ (∀ b, sK (stN σ a kd len) b < 23 → A b) ∧ va_S A s.heap H1 locs := by
  have hf : ¬ sK σ a < 23 := fun h => by have := h1.lt h; omega
  refine ⟨hf, fun b hb => ?_, fun b hb => ?_, ⟨Nat.le_trans h3.1 (by omega), fun q g1 g2 => (oq q (Nat.lt_of_lt_of_le g1 h3.1)).trans (h3.2.1 q g1 g2), h3.2.2⟩⟩
  · by_cases e : b = a
    · subst e; exact e1
    · obtain ⟨g1, g2⟩ := cel_N (cy := cy) (σ := σ) (kd := kd) (n := len) e
      rw [g1] at hb
      rw [g2]
      exact (h1 b hb).kept (oq b (h1.lt hb))
  · by_cases e : b = a
    · subst e; rw [ha]; exact C.2.2.1 _ h3.1
    · rw [(cel_N (cy := cy) (σ := σ) (kd := kd) (n := len) e).1] at hb
      exact h2 b hb
theorem x_new (C : Cx p s m args meth c D cy A cc nL own) {c0 idx N : Nat} {C0 : String} {T : u_T} {ty : Nat → FieldType} (hc : Cls c0 C0 T N ty) (w1 : Cond.classLink own idx C0 ∈ AW) (w2 : Cond.instantiable C0 N ∈ AW) (w3 : Cond.initialized C0 ∈ AW) (hcells : k + 1 ≤ R.cells) (hslots : n + N ≤ R.slots) (hd : decode cc pc = .ok (.new idx, 3)) (kk : ∀ q, ¬ sK σ q < 23 → Xw p l e R s m args below meth c D cy A (stN σ q c0 0) (k + 1) (n + N) Q (F0 m (pc + 3) ls (.ref q :: rest))) : Xw p l e R s m args below meth c D cy A σ k n Q (F0 m pc ls rest) := by
  intro H locs h1 h2 h3
  obtain ⟨g1, g2, g3, g4, g5, g6, g7⟩ := hc
  have hKn := C.2.1.1.1 c0 _ g1
  have hts := C.1.2.2.2.2
  refine W.newcK C.1.1 C.1.2.1 C.1.2.2.2.1 (hts _ w1) (hts _ w2) (hts _ w3) rfl hd hcells hslots hKn.2.1 rfl fun H1 kC hkC e1 z1 o1 => ?_
  have hkd : sK (stN σ H.size c0 0) H.size = c0 := va_up_self _ _ _
  obtain ⟨f0, f1, f2, f3⟩ := x_newW (kd := c0) (len := 0) C h1 h2 h3 rfl (by
    rw [cel_o hkd g5]
    refine ⟨_, g1, (u_born ty hts g2 hKn hkC e1 g3).to fun j hj => ?_⟩
    have hj2 : j < (fk c0).length := by rw [g6]; exact hj
    rw [g7 j hj]
    have hget : (fk c0)[j]? = some ((fk c0)[j]) := List.getElem?_eq_getElem hj2
    show _ = (fsl (stN σ H.size c0 0) c0 H.size).getD j .null
    rw [List.getD_eq_getElem?_getD, fsl_get hget, hget, Option.getD_some]
    have eJ : sJ (stN σ H.size c0 0) H.size j = 0 := by simp [sJ, stN, upr]
    have eP : sP (stN σ H.size c0 0) H.size j = none := by simp [sP, stN, upr]
    have eI : sI (stN σ H.size c0 0) H.size j = 0 := by simp [sI, stN, upr]
    simp only [fvl, eJ, eP, eI]
    generalize (fk c0)[j] = t9
    rcases t9 with _ | _ | _ | _ | t9
    · rfl
    · rfl
    · rfl
    · rfl
    · simp) z1 o1
  exact kk H.size f0 H1 locs f1 f2 f3
/-- which kind a new array of numbers has -/
def Nak (at0 : ArrayType) (kd : Nat) : Prop := (13 ≤ kd ∧ kd < 17) ∧ Cond.arrayClass (newarray.typeOf at0) ∈ AW ∧ (∀ cy : Nat → ClassId, (tyL cy)[kd - 13]? = some (cy kd, newarray.typeOf at0)) ∧ (∀ (U : State) (cA : ClassId), va_RA U cA (newarray.typeOf at0) → U.vm.findClass ("[" ++ (newarray.typeOf at0).toString) = some cA) ∧ (∀ (cA : ClassId) (N : Nat), vp_cell cA (N, if kd = 15 then .inr (.inl (fun _ => 0)) else .inl (fun _ => 0)) = arrV cA N (fun _ => defaultValue (newarray.typeOf at0))) ∧ componentBytes (newarray.typeOf at0) ≤ 8
theorem x_newa (C : Cx p s m args meth c D cy A cc nL own) {at0 : ArrayType} {kd N : Nat} {v : Int32} (hk : Nak at0 kd) (hv : ¬ v < 0) (hN : v.toNatClampNeg = N) (hs : N ≤ 67108864) (hcells : k + 1 ≤ R.cells) (hslots : n + N ≤ R.slots) (hd : decode cc pc = .ok (.newarray at0, 2)) (kk : ∀ q, ¬ sK σ q < 23 → Xw p l e R s m args below meth c D cy A (stN σ q kd N) (k + 1) (n + N) Q (F0 m (pc + 2) ls (.ref q :: rest))) : Xw p l e R s m args below meth c D cy A σ k n Q (F0 m pc ls (.int v :: rest)) := by
  intro H locs h1 h2 h3
  obtain ⟨⟨a1, a2⟩, a3, a4, a5, a6, a7⟩ := hk
  refine va_newaK C.1.1 C.1.2.1 (C.1.2.2.2.2 _ a3) rfl hd rfl hv hN (Nat.le_trans (Nat.mul_le_mul_left _ a7) (by omega)) hcells hslots rfl fun H1 cA e1 z1 o1 hAr hNm => ?_
  have hcA : cA = cy kd := Option.some.inj (hNm.symm.trans (a5 s _ (C.2.1.1.2 _ _ (a4 cy)).2))
  subst hcA
  have hkd : sK (stN σ H.size kd N) H.size = kd := va_up_self _ _ _
  have hnn : sN (stN σ H.size kd N) H.size = N := va_up_self _ _ _
  obtain ⟨f0, f1, f2, f3⟩ := x_newW (kd := kd) (len := N) C h1 h2 h3 rfl (by
    rw [cel_a hkd (by omega)]
    show H1[H.size]? = some (vp_cell _ _)
    rw [e1, ← a6]
    have eI : sI (stN σ H.size kd N) H.size = fun _ => 0 := by funext j; simp [sI, stN, upr]
    have eJ : sJ (stN σ H.size kd N) H.size = fun _ => 0 := by funext j; simp [sJ, stN, upr]
    simp only [acn, hnn, eI, eJ, show ¬ 17 ≤ kd by omega, if_false]) z1 o1
  exact kk H.size f0 H1 locs f1 f2 f3
theorem x_newq (C : Cx p s m args meth c D cy A cc nL own) {kd c0 idx N : Nat} {C0 : String} {v : Int32} (hr : Rak kd c0) (hC : ∀ cy : Nat → ClassId, (tyL cy)[kd - 13]? = some (cy kd, .object C0)) (hao : C0 ∈ aoL) (w1 : Cond.classLink own idx C0 ∈ AW) (hv : ¬ v < 0) (hN : v.toNatClampNeg = N) (hs : N ≤ 67108864) (hcells : k + 1 ≤ R.cells) (hslots : n + N ≤ R.slots) (hd : decode cc pc = .ok (.anewarray idx, 3)) (kk : ∀ q, ¬ sK σ q < 23 → Xw p l e R s m args below meth c D cy A (stN σ q kd N) (k + 1) (n + N) Q (F0 m (pc + 3) ls (.ref q :: rest))) : Xw p l e R s m args below meth c D cy A σ k n Q (F0 m pc ls (.int v :: rest)) := by
  intro H locs h1 h2 h3
  obtain ⟨r1, r2, -⟩ := hr
  subst hN
  refine W.anew C.1.1 C.1.2.1 C.1.2.2.2.1 (C.1.2.2.2.2 _ w1) (va_AO.use (C.2.1.2.2 _ hao)) rfl hd rfl hv (by omega) hcells hslots fun cA kA comp f1 f2 f3 f4 => ?_
  obtain ⟨kA', comp', k1, k2, k3, k4⟩ := (C.2.1.1.2 _ _ (hC cy)).2
  have hcA : cA = cy kd := Option.some.inj (f1.symm.trans k4)
  subst hcA
  generalize hH1 : H.push ({ cls := cy kd, slots := Array.replicate v.toNatClampNeg .null, vm := .none } : Cell) = H1
  have z1 : H1.size = H.size + 1 := by rw [← hH1, Array.size_push]
  have e1 : H1[H.size]? = some (arrV (cy kd) v.toNatClampNeg (fun _ => .null)) := by rw [← hH1, Array.getElem?_push_size, ← arrV_new]
  have o1 : ∀ q : Nat, q < H.size → H1[q]? = H[q]? := fun q hq => by rw [← hH1, Array.getElem?_push, if_neg (Nat.ne_of_lt hq)]
  have hkd : sK (stN σ H.size kd v.toNatClampNeg) H.size = kd := va_up_self _ _ _
  have hnn : sN (stN σ H.size kd v.toNatClampNeg) H.size = v.toNatClampNeg := va_up_self _ _ _
  obtain ⟨f0, f1, f2, f3⟩ := x_newW (kd := kd) (len := v.toNatClampNeg) C h1 h2 h3 rfl (by
    rw [cel_a hkd (by omega), acn_P (by omega) r1]
    show H1[H.size]? = some (vp_cell _ _)
    rw [e1, vp_cell_q, hnn]
    have eP : sP (stN σ H.size kd v.toNatClampNeg) H.size = fun _ => none := by funext j; simp [sP, stN, upr]
    rw [eP]
    rfl) z1 o1
  exact kk H.size f0 H1 locs f1 f2 f3
end XW2
