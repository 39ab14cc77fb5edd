/-! The words that all contracts share: the good ones of lw_tbl -/
def AW : List Cond := lw_tbl.filter goodWord
theorem aw_in {w : Cond} (i : Nat) (h : lw_tbl[i]? = some w) (hg : goodWord w = true) : w ∈ AW := List.mem_filter.mpr ⟨List.mem_of_getElem? h, hg⟩
theorem aw_good : GoodIn AW AW := fun w h => ⟨h, good_of_word (List.mem_filter.mp h).2⟩
theorem aw_cons {c : Cond} (hc : c ∈ AW) : GoodIn AW (c :: AW) := fun w h => by
  rcases List.mem_cons.mp h with rfl | h
  · exact aw_good _ hc
  · exact aw_good _ h
/-! The store: kind and length of each address, ints, longs, references by address and place -/
abbrev Sto : Type := (Nat → Nat) × (Nat → Nat) × (Nat → Nat → Int32) × (Nat → Nat → Int64) × (Nat → Nat → Option Nat)
def sK (σ : Sto) : Nat → Nat := σ.1
def sN (σ : Sto) : Nat → Nat := σ.2.1
def sI (σ : Sto) : Nat → Nat → Int32 := σ.2.2.1
def sJ (σ : Sto) : Nat → Nat → Int64 := σ.2.2.2.1
def sP (σ : Sto) : Nat → Nat → Option Nat := σ.2.2.2.2
def up2 {α : Type} (f : Nat → Nat → α) (a k : Nat) (v : α) : Nat → Nat → α := fun b j => if b = a ∧ j = k then v else f b j
def upr {α : Type} (f : Nat → Nat → α) (a : Nat) (v : α) : Nat → Nat → α := fun b j => if b = a then v else f b j
def stI (σ : Sto) (a k : Nat) (v : Int32) : Sto := (σ.1, σ.2.1, up2 σ.2.2.1 a k v, σ.2.2.2.1, σ.2.2.2.2)
def stJ (σ : Sto) (a k : Nat) (v : Int64) : Sto := (σ.1, σ.2.1, σ.2.2.1, up2 σ.2.2.2.1 a k v, σ.2.2.2.2)
def stP (σ : Sto) (a k : Nat) (v : Option Nat) : Sto := (σ.1, σ.2.1, σ.2.2.1, σ.2.2.2.1, up2 σ.2.2.2.2 a k v)
def stN (σ : Sto) (a kd len : Nat) : Sto := (va_up σ.1 a kd, va_up σ.2.1 a len, upr σ.2.2.1 a 0, upr σ.2.2.2.1 a 0, upr σ.2.2.2.2 a none)
theorem up2_self {α : Type} (f : Nat → Nat → α) (a k : Nat) (v : α) : up2 f a k v a k = v := by simp [up2]
theorem up2_ne {α : Type} (f : Nat → Nat → α) {a k b j : Nat} (v : α) (h : ¬ (b = a ∧ j = k)) : up2 f a k v b j = f b j := by simp [up2, h]
theorem up2_row {α : Type} (f : Nat → Nat → α) {a k b : Nat} (v : α) (h : b ≠ a) : up2 f a k v b = f b := by funext j; simp [up2, h]
/-! What each class's fields are (0 int, 1 boolean, 2 long, 3 reference), what each kind of array holds -/
def fk : Nat → List Nat := fun c => match c with
  | 0 => [3, 0]
  | 1 => [3, 0, 1, 0, 3, 3, 0, 0]
  | 2 => [3, 0, 0]
  | 3 => [0, 0, 0, 0, 2, 2, 0, 3, 0, 1, 0, 3]
  | 4 => [0, 0, 3, 3, 0, 0, 0, 0, 0]
  | 5 => [3, 3, 0, 0, 0, 0, 0, 3, 3]
  | 6 => [3, 2, 0, 0, 0, 1]
  | 7 => [3, 3, 0, 0, 0, 0]
  | 8 => [0, 3, 3, 1, 0, 2, 2, 3, 0, 0, 3, 0, 0, 0, 0, 0]
  | 9 => [0, 0, 0, 0, 0]
  | 10 => [3, 3, 3, 3, 3]
  | 11 => [0, 3, 3, 3, 3, 1, 0, 0, 0, 3, 0, 3, 3, 3]
  | 12 => [0, 0, 0, 0, 0, 3, 0, 0, 0, 3, 3, 3, 3, 3, 0, 3, 1, 0, 0, 0, 3, 3, 3, 3, 3, 3, 3, 3, 3, 3, 3, 3, 3, 3, 3, 3, 3, 3, 3, 3, 3, 3, 3, 3, 3, 3, 3, 3, 3, 3, 3, 3, 3, 3, 3, 3, 3, 3, 3, 3, 3, 3, 3, 3, 3, 3, 3, 3, 3, 3, 3, 3, 3, 3, 3, 3, 3, 3, 3, 3, 3, 0, 3, 3, 3, 3, 3, 3, 3, 0, 3, 0, 3, 0, 0, 0, 0, 0, 0]
  | _ => []
def aty : Nat → FieldType := fun c => match c with
  | 13 => .byte
  | 14 => .int
  | 15 => .long
  | 16 => .boolean
  | 17 => .object "OrderedWorks$Client"
  | 18 => .object "OrderedWorks$Log"
  | 19 => .object "OrderedWorks$Message"
  | 20 => .object "OrderedWorks$Place"
  | 21 => .object "OrderedWorks$Replica"
  | _ => .object "OrderedWorks$Request"
def fvl (σ : Sto) (a k t : Nat) : Value := if t = 2 then .long (sJ σ a k) else if t = 3 then va_rf (sP σ a k) else .int (sI σ a k)
def fsl (σ : Sto) (c a : Nat) : List Value := (fk c).mapIdx (fun k t => fvl σ a k t)
def acn (σ : Sto) (a k : Nat) : vp_A := (sN σ a, if k = 15 then .inr (.inl (sJ σ a)) else if 17 ≤ k then .inr (.inr (.inr (.inr (sP σ a)))) else .inl (sI σ a))
def cel (cy : Nat → ClassId) (σ : Sto) (a : Nat) : va_E := if sK σ a < 13 then .inr (sK σ a, fsl σ (sK σ a) a) else .inl (cy (sK σ a), acn σ a (sK σ a))
def Rp (D : va_G) (cy : Nat → ClassId) (σ : Sto) (H : Heap) : Prop := ∀ a, sK σ a < 23 → va_at D vwCl (a, cel cy σ a) H
def tyL (cy : Nat → ClassId) : List (ClassId × FieldType) := [(cy 13, .byte), (cy 14, .int), (cy 15, .long), (cy 16, .boolean), (cy 17, .object "OrderedWorks$Client"), (cy 18, .object "OrderedWorks$Log"), (cy 19, .object "OrderedWorks$Message"), (cy 20, .object "OrderedWorks$Place"), (cy 21, .object "OrderedWorks$Replica"), (cy 22, .object "OrderedWorks$Request")]
def nstL : List (String × Nat × MethodName × String) := [("OrderedWorks$Net", 17, yX3_init, "OrderedWorks"), ("OrderedWorks$Message", 11, yX2_init, "OrderedWorks"), ("OrderedWorks", 30, yX10_init, "OrderedWorks"), ("OrderedWorks$Replica", 9, yX11_viewOf, "OrderedWorks"), ("OrderedWorks$Replica", 24, yX2_init, "OrderedWorks"), ("OrderedWorks$Pending", 37, yX2_init, "OrderedWorks"), ("OrderedWorks$Client", 11, yX6_init, "OrderedWorks"), ("OrderedWorks", 66, yX6_init, "OrderedWorks"), ("OrderedWorks$Net", 32, yX11_leadOf, "OrderedWorks"), ("OrderedWorks$Message", 41, yX11_sessionOf, "OrderedWorks"), ("OrderedWorks$Bytes", 29, yX11_leadOf, "OrderedWorks"), ("OrderedWorks$Bytes", 36, yX11_sessionOf, "OrderedWorks"), ("OrderedWorks$Table", 68, yX11_isSameRequest, "OrderedWorks"), ("OrderedWorks$Replica", 230, yX11_isBehind, "OrderedWorks"), ("OrderedWorks$Replica", 136, yX11_leadOf, "OrderedWorks"), ("OrderedWorks$Replica", 133, yX11_sessionOf, "OrderedWorks")]
def aoL : List String := ["OrderedWorks$Message", "OrderedWorks$Request", "OrderedWorks$Replica", "OrderedWorks$Log", "OrderedWorks$Client", "OrderedWorks$Place"]
/-- what the tables say at every state of the run -/
def KK (D : va_G) (cy : Nat → ClassId) (U : State) : Prop := va_K D vwCl (tyL cy) U ∧ (∀ q ∈ nstL, va_Nw (.methodLinkNest q.1 q.2.1 q.2.2.1 q.2.2.2) U) ∧ ∀ C ∈ aoL, va_AO C U
theorem KK.warm {D : va_G} {cy : Nat → ClassId} {s U : State} (hW : s.WarmedH U.vm) (h : KK D cy s) : KK D cy U := ⟨va_K.moved hW.alike h.1, fun q hq => va_Nw.warmM hW (h.2.1 q hq), fun C hC => va_AO.moved hW.alike (h.2.2 C hC)⟩
theorem KK.calling {D : va_G} {cy : Nat → ClassId} {U : State} (g : JFrame) (mk : MethodId) (a : Array Value) (h : KK D cy U) : KK D cy (U.calling g mk a) := ⟨va_K.moved (u := U) (U := U.calling g mk a) (Vm.Alike.refl U.vm) h.1, fun q hq => va_Nw.same (u := U) (U := U.calling g mk a) rfl rfl (h.2.1 q hq), fun C hC => va_AO.moved (u := U) (U := U.calling g mk a) (Vm.Alike.refl U.vm) (h.2.2 C hC)⟩
theorem Rp.lt {D : va_G} {cy : Nat → ClassId} {σ : Sto} {H : Heap} (h : Rp D cy σ H) {a : Nat} (ha : sK σ a < 23) : a < H.size := (h a ha).lt
theorem Rp.P {D : va_G} {cy : Nat → ClassId} {σ : Sto} {H : Heap} (h : Rp D cy σ H) {a : Nat} (ha : sK σ a < 23) : va_P D vwCl [(a, cel cy σ a)] H := fun k q hk => by
  have hz : k < 1 := (List.getElem?_eq_some_iff.mp hk).1
  rw [show k = 0 by omega] at hk
  cases hk
  exact h a ha
theorem cel_o {cy : Nat → ClassId} {σ : Sto} {a c : Nat} (h : sK σ a = c) (hc : c < 13) : cel cy σ a = .inr (c, fsl σ c a) := by subst h; simp [cel, hc]
theorem cel_a {cy : Nat → ClassId} {σ : Sto} {a c : Nat} (h : sK σ a = c) (hc : ¬ c < 13) : cel cy σ a = .inl (cy c, acn σ a c) := by subst h; simp [cel, hc]
theorem fsl_get {σ : Sto} {a c k t : Nat} (h : (fk c)[k]? = some t) : (fsl σ c a)[k]? = some (fvl σ a k t) := by simp [fsl, h]
theorem fsl_len {σ : Sto} {a c : Nat} : (fsl σ c a).length = (fk c).length := by simp [fsl]
/-- another cell changes: this one's picture stays -/
theorem Rp.set {D : va_G} {cy : Nat → ClassId} {σ τ : Sto} {H H1 : Heap} {a : Nat} (h : Rp D cy σ H) (hk : ∀ b, b ≠ a → sK τ b = sK σ b ∧ cel cy τ b = cel cy σ b) (he : va_at D vwCl (a, cel cy τ a) H1) (oq : ∀ q : Nat, q ≠ a → H1[q]? = H[q]?) : Rp D cy τ H1 := by
  intro b hb
  by_cases e : b = a
  · subst e; exact he
  · obtain ⟨h1, h2⟩ := hk b e
    rw [h2]
    exact (h b (by rw [← h1]; exact hb)).kept (oq b e)
theorem cel_I {cy : Nat → ClassId} {σ : Sto} {a k : Nat} {v : Int32} {b : Nat} (h : b ≠ a) : sK (stI σ a k v) b = sK σ b ∧ cel cy (stI σ a k v) b = cel cy σ b := by
  refine ⟨rfl, ?_⟩
  have e1 : sI (stI σ a k v) b = sI σ b := up2_row _ v h
  have e2 : ∀ j, sI (stI σ a k v) b j = sI σ b j := fun j => congrFun e1 j
  have e3 : sJ (stI σ a k v) = sJ σ := rfl
  have e4 : sP (stI σ a k v) = sP σ := rfl
  have e5 : sK (stI σ a k v) = sK σ := rfl
  have e6 : sN (stI σ a k v) = sN σ := rfl
  simp only [cel, fsl, acn, fvl, e1, e2, e3, e4, e5, e6]
theorem cel_J {cy : Nat → ClassId} {σ : Sto} {a k : Nat} {v : Int64} {b : Nat} (h : b ≠ a) : sK (stJ σ a k v) b = sK σ b ∧ cel cy (stJ σ a k v) b = cel cy σ b := by
  refine ⟨rfl, ?_⟩
  have e1 : sJ (stJ σ a k v) b = sJ σ b := up2_row _ v h
  have e2 : ∀ j, sJ (stJ σ a k v) b j = sJ σ b j := fun j => congrFun e1 j
  have e3 : sI (stJ σ a k v) = sI σ := rfl
  have e4 : sP (stJ σ a k v) = sP σ := rfl
  have e5 : sK (stJ σ a k v) = sK σ := rfl
  have e6 : sN (stJ σ a k v) = sN σ := rfl
  simp only [cel, fsl, acn, fvl, e1, e2, e3, e4, e5, e6]
theorem cel_P {cy : Nat → ClassId} {σ : Sto} {a k : Nat} {v : Option Nat} {b : Nat} (h : b ≠ a) : sK (stP σ a k v) b = sK σ b ∧ cel cy (stP σ a k v) b = cel cy σ b := by
  refine ⟨rfl, ?_⟩
  have e1 : sP (stP σ a k v) b = sP σ b := up2_row _ v h
  have e2 : ∀ j, sP (stP σ a k v) b j = sP σ b j := fun j => congrFun e1 j
  have e3 : sI (stP σ a k v) = sI σ := rfl
  have e4 : sJ (stP σ a k v) = sJ σ := rfl
  have e5 : sK (stP σ a k v) = sK σ := rfl
  have e6 : sN (stP σ a k v) = sN σ := rfl
  simp only [cel, fsl, acn, fvl, e1, e2, e3, e4, e5, e6]
theorem cel_N {cy : Nat → ClassId} {σ : Sto} {a kd n : Nat} {b : Nat} (h : b ≠ a) : sK (stN σ a kd n) b = sK σ b ∧ cel cy (stN σ a kd n) b = cel cy σ b := by
  have e5 : sK (stN σ a kd n) b = sK σ b := va_up_ne _ _ h
  have e6 : sN (stN σ a kd n) b = sN σ b := va_up_ne _ _ h
  have e1 : sI (stN σ a kd n) b = sI σ b := by funext j; show upr _ _ _ b j = _; simp [upr, h, sI]
  have e2 : sJ (stN σ a kd n) b = sJ σ b := by funext j; show upr _ _ _ b j = _; simp [upr, h, sJ]
  have e3 : sP (stN σ a kd n) b = sP σ b := by funext j; show upr _ _ _ b j = _; simp [upr, h, sP]
  refine ⟨e5, ?_⟩
  simp only [cel, fsl, acn, fvl, e1, e2, e3, e5, e6]
theorem fsl_I {σ : Sto} {a c k t : Nat} {v : Int32} (h : (fk c)[k]? = some t) (ht : t ≠ 2) (ht3 : t ≠ 3) : fsl (stI σ a k v) c a = (fsl σ c a).set k (.int v) := by
  apply List.ext_getElem?
  intro j
  rw [List.getElem?_set]
  by_cases e : k = j
  · subst e
    have hl : k < (fsl σ c a).length := by rw [fsl_len]; exact (List.getElem?_eq_some_iff.mp h).1
    simp only [hl, if_true, fsl_get h]
    simp [fvl, ht, ht3, sI, stI, up2]
  · simp only [e, if_false]
    simp only [fsl, List.getElem?_mapIdx]
    congr 1
    funext t'
    have e2 : sI (stI σ a k v) a j = sI σ a j := up2_ne _ v (fun q => e q.2.symm)
    simp only [fvl, e2]
    rfl
theorem fsl_J {σ : Sto} {a c k : Nat} {v : Int64} (h : (fk c)[k]? = some 2) : fsl (stJ σ a k v) c a = (fsl σ c a).set k (.long v) := by
  apply List.ext_getElem?
  intro j
  rw [List.getElem?_set]
  by_cases e : k = j
  · subst e
    have hl : k < (fsl σ c a).length := by rw [fsl_len]; exact (List.getElem?_eq_some_iff.mp h).1
    simp only [hl, if_true, fsl_get h]
    simp [fvl, sJ, stJ, up2]
  · simp only [e, if_false]
    simp only [fsl, List.getElem?_mapIdx]
    congr 1
    funext t'
    have e2 : sJ (stJ σ a k v) a j = sJ σ a j := up2_ne _ v (fun q => e q.2.symm)
    simp only [fvl, e2]
    rfl
theorem fsl_P {σ : Sto} {a c k : Nat} {v : Option Nat} (h : (fk c)[k]? = some 3) : fsl (stP σ a k v) c a = (fsl σ c a).set k (va_rf v) := by
  apply List.ext_getElem?
  intro j
  rw [List.getElem?_set]
  by_cases e : k = j
  · subst e
    have hl : k < (fsl σ c a).length := by rw [fsl_len]; exact (List.getElem?_eq_some_iff.mp h).1
    simp only [hl, if_true, fsl_get h]
    simp [fvl, sP, stP, up2]
  · simp only [e, if_false]
    simp only [fsl, List.getElem?_mapIdx]
    congr 1
    funext t'
    have e2 : sP (stP σ a k v) a j = sP σ a j := up2_ne _ v (fun q => e q.2.symm)
    simp only [fvl, e2]
    rfl

