section XW3
variable {p : Program} {l : Launch} {e : Env} {R : Room} {s : State} {m : MethodId} {args : Array Value} {below : List Frame} {meth : Method} {c : Code} {D : va_G} {cy : Nat → ClassId} {A : Nat → Prop} {σ : Sto} {k n : Nat} {Q : State → Prop} {cc : ByteArray} {nL : Nat} {own : String} {pc : Nat} {ls : Array Slot} {rest : List Value}
/-- a contract's end: what it answers and the store behind it -/
def Qst (D : va_G) (cy : Nat → ClassId) (A : Nat → Prop) (post : Option Value → Sto → Prop) : Array Value → State → Outcome → State → Prop := fun _ st oc t => ∃ (r : Option Value) (τ : Sto), oc = .returned r ∧ post r τ ∧ Rp D cy τ t.heap ∧ (∀ a, sK τ a < 23 → A a) ∧ va_F A st t
def Pst (D : va_G) (cy : Nat → ClassId) (σ : Sto) (sz : Nat) (av : List Value) : Array Value → State → Prop := va_Pc av (fun U => U.heap.size = sz ∧ Rp D cy σ U.heap ∧ KK D cy U)
def Am (σ : Sto) (sz : Nat) : Nat → Prop := fun q => sK σ q < 23 ∨ sz ≤ q
/-- method y, called with av over the store σ, returns with post -/
def Mt (l : Launch) (D : va_G) (cy : Nat → ClassId) (y : MethodName) (bytes : ByteArray) (maxL : Nat) (ret : Option FieldType) (rm : Room) (av : List Value) (σ : Sto) (post : Option Value → Sto → Prop) : Prop :=
  ∀ sz : Nat, Met l y (.code y bytes maxL ret :: AW) rm (Pst D cy σ sz av) (Qst D cy (Am σ sz) post) rm.cells rm.slots (Am σ sz)
def PsI (q : Int32 → Sto → Prop) : Option Value → Sto → Prop := fun r τ => ∃ x : Int32, r = some (.int x) ∧ q x τ
def PsJ (q : Int64 → Sto → Prop) : Option Value → Sto → Prop := fun r τ => ∃ x : Int64, r = some (.long x) ∧ q x τ
def PsP (q : Option Nat → Sto → Prop) : Option Value → Sto → Prop := fun r τ => ∃ x : Option Nat, r = some (va_rf x) ∧ q x τ
def PsV (q : Sto → Prop) : Option Value → Sto → Prop := fun r τ => r = none ∧ q τ
theorem Pst.blind {av : List Value} {sz : Nat} : FrameBlind (Pst D cy σ sz av) := fun a U g mk q => ⟨q.1, q.2.1, q.2.2.1, KK.calling g mk a q.2.2.2⟩
theorem x_widen {mc ms : Nat} {g : JFrame} (h1 : k ≤ mc) (h2 : n ≤ ms) (kk : Xw p l e R s m args below meth c D cy A σ mc ms Q g) : Xw p l e R s m args below meth c D cy A σ k n Q g := fun H locs a b d => W.widen h1 h2 (kk H locs a b d)
theorem x_iret (C : Cx p s m args meth c D cy A cc nL own) {post : Option Value → Sto → Prop} {v : Int32} (hr : meth.sig.returnType = some .int) (hd : decode cc pc = .ok (.ireturn, 1)) (h : post (some (.int v)) σ) : Xw p l e R s m args below meth c D cy A σ k n (MQ below (Qst D cy A post) args s k n A) (F0 m pc ls [.int v]) := fun H locs h1 h2 h3 => W.iret C.1.1 C.1.2.1 hr (fun t ht hW => ⟨_, _, rfl, h, by rw [ht]; exact h1, h2, h3.F ht⟩) h3.2.2 hd C.2.2.2
theorem x_zret (C : Cx p s m args meth c D cy A cc nL own) {post : Option Value → Sto → Prop} {v : Int32} (hr : meth.sig.returnType = some .boolean) (hd : decode cc pc = .ok (.ireturn, 1)) (hv : v = 0 ∨ v = 1) (h : post (some (.int v)) σ) : Xw p l e R s m args below meth c D cy A σ k n (MQ below (Qst D cy A post) args s k n A) (F0 m pc ls [.int v]) := fun H locs h1 h2 h3 => W.zret C.1.1 C.1.2.1 hr (by rcases hv with rfl | rfl <;> decide) (fun t ht hW => ⟨_, _, rfl, h, by rw [ht]; exact h1, h2, h3.F ht⟩) h3.2.2 hd C.2.2.2
theorem x_lret (C : Cx p s m args meth c D cy A cc nL own) {post : Option Value → Sto → Prop} {v : Int64} (hr : meth.sig.returnType = some .long) (hd : decode cc pc = .ok (.lreturn, 1)) (h : post (some (.long v)) σ) : Xw p l e R s m args below meth c D cy A σ k n (MQ below (Qst D cy A post) args s k n A) (F0 m pc ls [.long v]) := fun H locs h1 h2 h3 => W.lret C.1.1 C.1.2.1 hr (fun t ht hW => ⟨_, _, rfl, h, by rw [ht]; exact h1, h2, h3.F ht⟩) h3.2.2 hd C.2.2.2
theorem x_aret (C : Cx p s m args meth c D cy A cc nL own) {post : Option Value → Sto → Prop} {v : Option Nat} {C0 : String} (hr : meth.sig.returnType = some (.object C0)) (hd : decode cc pc = .ok (.areturn, 1)) (h : post (some (va_rf v)) σ) : Xw p l e R s m args below meth c D cy A σ k n (MQ below (Qst D cy A post) args s k n A) (F0 m pc ls [va_rf v]) := fun H locs h1 h2 h3 => W.aret C.1.1 C.1.2.1 hr (Or.inl ⟨_, rfl⟩) (va_rf_or v) (fun t ht hW => ⟨_, _, rfl, h, by rw [ht]; exact h1, h2, h3.F ht⟩) h3.2.2 hd C.2.2.2
theorem x_vret (C : Cx p s m args meth c D cy A cc nL own) {post : Option Value → Sto → Prop} (hr : meth.sig.returnType = none) (hd : decode cc pc = .ok (.return_, 1)) (h : post none σ) : Xw p l e R s m args below meth c D cy A σ k n (MQ below (Qst D cy A post) args s k n A) (F0 m pc ls []) := fun H locs h1 h2 h3 => W.vret C.1.1 C.1.2.1 hr (fun t ht hW => ⟨_, _, rfl, h, by rw [ht]; exact h1, h2, h3.F ht⟩) h3.2.2 hd C.2.2.2
/-! calls -/
theorem x_run (C : Cx p s m args meth c D cy A cc nL own) {st0 : List Value} {mc ms : Nat} {a : Array Value} {post : Option Value → Sto → Prop} (hr : ∀ (H : Heap) (locs : List Loc), Rp D cy σ H → (∀ a, sK σ a < 23 → A a) → va_S A s.heap H locs → va_Run p l e R s m args below meth c H locs k n mc ms (F0 m pc ls st0) rest (Qst D cy (Am σ H.size) post a) (Am σ H.size)) (kk : ∀ (r : Option Value) (τ : Sto), post r τ → Xw p l e R s m args below meth c D cy A τ (k + mc) (n + ms) Q (F0 m (pc + 3) ls (r.toList ++ rest))) : Xw p l e R s m args below meth c D cy A σ k n Q (F0 m pc ls st0) := by
  intro H locs h1 h2 h3 T hT X
  obtain ⟨v, st₀, t, T', L, h0, X', hL, e1, e2, ⟨r, τ, hv, hp, hR, hdm, hz, hk⟩, st⟩ := hr H locs h1 h2 h3 T hT X
  cases hv
  rw [h0] at hz hk
  have hAm : ∀ q, Am σ H.size q → A q := fun q hq => hq.elim (h2 q) (fun h => C.2.2.1 q (Nat.le_trans h3.1 h))
  obtain ⟨t2, a1, b1⟩ := kk v τ hp T'.heap (locs ++ L) (by rw [e1]; exact hR) (fun b hb => hAm b (hdm b hb)) ⟨Nat.le_trans h3.1 (by rw [e1]; exact hz), fun q g1 g2 => by rw [e1, hk q (Nat.lt_of_lt_of_le g1 h3.1) (fun z => g2 (hAm q z))]; exact h3.2.1 q g1 g2, fun q hq => by
      rcases List.mem_append.mp hq with h | h
      · exact h3.2.2 q h
      · exact hAm _ (hL q h)⟩ T' rfl X'
  exact ⟨t2, st t2 a1, b1⟩
def Ymh (y : MethodName) (np : Nat) : Prop := y.cls ≠ "java/lang/invoke/MethodHandle" ∧ y.cls ≠ "java/lang/invoke/VarHandle" ∧ (parseMethodDescriptor y.desc).map (fun d => d.parameters.length) = some np
/-- the words of a call of an instance's method, of a constructor, of a static method -/
def CY (own : String) (idx : Nat) (c0 : Nat) (y : MethodName) (bytes : ByteArray) (maxL : Nat) (ret : Option FieldType) (np : Nat) : Prop := c0 < 13 ∧ (∃ (C0 : String) (T : u_T) (N : Nat), vwCl[c0]? = some (C0, T, N) ∧ y.cls = C0) ∧ Cond.methodLink own idx y ∈ AW ∧ Cond.instanceMethod y ∈ AW ∧ Cond.selects y.cls y y ∈ AW ∧ Cond.initialized y.cls ∈ AW ∧ Cond.code y bytes maxL ret ∈ AW ∧ Ymh y np
def CI (own : String) (idx : Nat) (y : MethodName) (bytes : ByteArray) (maxL : Nat) (np : Nat) : Prop := Cond.methodLink own idx y ∈ AW ∧ Cond.instanceMethod y ∈ AW ∧ Cond.initialized y.cls ∈ AW ∧ Cond.code y bytes maxL none ∈ AW ∧ y.name = "<init>" ∧ Ymh y np
def CIN (own : String) (idx : Nat) (y : MethodName) (host : String) (bytes : ByteArray) (maxL : Nat) (np : Nat) : Prop := (own, idx, y, host) ∈ nstL ∧ Cond.instanceMethod y ∈ AW ∧ Cond.initialized y.cls ∈ AW ∧ Cond.code y bytes maxL none ∈ AW ∧ y.name = "<init>" ∧ Ymh y np
def CS (own : String) (idx : Nat) (y : MethodName) (bytes : ByteArray) (maxL : Nat) (ret : Option FieldType) (np : Nat) : Prop := Cond.methodLink own idx y ∈ AW ∧ Cond.static y ∈ AW ∧ Cond.initialized y.cls ∈ AW ∧ Cond.code y bytes maxL ret ∈ AW ∧ Ymh y np
def CSN (own : String) (idx : Nat) (y : MethodName) (host : String) (bytes : ByteArray) (maxL : Nat) (ret : Option FieldType) (np : Nat) : Prop := (own, idx, y, host) ∈ nstL ∧ Cond.static y ∈ AW ∧ Cond.initialized y.cls ∈ AW ∧ Cond.code y bytes maxL ret ∈ AW ∧ Ymh y np
variable {y : MethodName} {bytes : ByteArray} {maxL idx np : Nat} {ret : Option FieldType} {rm : Room} {As st0 : List Value} {post : Option Value → Sto → Prop}
theorem x_callV (C : Cx p s m args meth c D cy A cc nL own) {c0 b : Nat} (Y : CY own idx c0 y bytes maxL ret np) (hK : sK σ b = c0) (hR : rm.frames + 1 ≤ R.frames ∧ 8 + (maxL + 11) + rm.locals ≤ R.locals) (hf : k + rm.cells ≤ R.cells ∧ n + rm.slots ≤ R.slots) (hn : As.length = np) (hst : st0 = As.reverse ++ .ref b :: rest) (hcat : (rest.map fun v => v.category).sum ≤ 8) (hl : ls.size = nL) (hd : decode cc pc = .ok (.invokevirtual idx, 3)) (hM : Mt l D cy y bytes maxL ret rm (.ref b :: As) σ post) (kk : ∀ (r : Option Value) (τ : Sto), post r τ → Xw p l e R s m args below meth c D cy A τ (k + rm.cells) (n + rm.slots) Q (F0 m (pc + 3) ls (r.toList ++ rest))) : Xw p l e R s m args below meth c D cy A σ k n Q (F0 m pc ls st0) := by
  obtain ⟨y1, ⟨C0, T, N, y2, y3⟩, y4, y5, y6, y7, y8, y9⟩ := Y
  refine x_run (a := (Value.ref b :: As).toArray) C (fun H locs h1 h2 h3 => ?_) kk
  have hb := h1 b (by rw [hK]; omega)
  rw [cel_o hK y1] at hb
  have hts := C.1.2.2.2.2
  obtain ⟨q', g0, cell, g1, g2, g3, -⟩ := hb
  refine va_runV (As := As) (rest := rest) C.1 (hM H.size) ⟨callB_of np hts (aw_cons y8) rfl rfl rfl (hts _ y7) (hts _ y4) y9 hR, hts _ y5, hts _ y6⟩ ⟨Pst.blind, ⟨cell, g1, by rw [g3]; rfl, by rw [g2, y3]; exact (C.2.1.1.1 c0 _ y2).2.1⟩, fun U hU hW => ⟨rfl, by rw [hU], by rw [hU]; exact h1, KK.warm hW C.2.1⟩⟩ rfl hn hl hst (lv_room hcat) hd hf
theorem x_callI (C : Cx p s m args meth c D cy A cc nL own) {b : Nat} (Y : CI own idx y bytes maxL np) (hR : rm.frames + 1 ≤ R.frames ∧ 8 + (maxL + 11) + rm.locals ≤ R.locals) (hf : k + rm.cells ≤ R.cells ∧ n + rm.slots ≤ R.slots) (hn : As.length = np) (hst : st0 = As.reverse ++ .ref b :: rest) (hcat : (rest.map fun v => v.category).sum ≤ 8) (hl : ls.size = nL) (hd : decode cc pc = .ok (.invokespecial idx, 3)) (hM : Mt l D cy y bytes maxL none rm (.ref b :: As) σ post) (kk : ∀ (r : Option Value) (τ : Sto), post r τ → Xw p l e R s m args below meth c D cy A τ (k + rm.cells) (n + rm.slots) Q (F0 m (pc + 3) ls (r.toList ++ rest))) : Xw p l e R s m args below meth c D cy A σ k n Q (F0 m pc ls st0) := by
  obtain ⟨y4, y5, y7, y8, y6, y9⟩ := Y
  refine x_run (a := (Value.ref b :: As).toArray) C (fun H locs h1 h2 h3 => ?_) kk
  have hts := C.1.2.2.2.2
  exact va_runI (As := As) (rest := rest) C.1 (hM H.size) ⟨callB_of np hts (aw_cons y8) rfl rfl rfl (hts _ y7) (hts _ y4) y9 hR, y6, hts _ y5⟩ ⟨Pst.blind, fun U hU hW => ⟨rfl, by rw [hU], by rw [hU]; exact h1, KK.warm hW C.2.1⟩⟩ rfl hn hl hst (lv_room hcat) hd hf
theorem x_callIN (C : Cx p s m args meth c D cy A cc nL own) {b : Nat} {host : String} (Y : CIN own idx y host bytes maxL np) (hR : rm.frames + 1 ≤ R.frames ∧ 8 + (maxL + 11) + rm.locals ≤ R.locals) (hf : k + rm.cells ≤ R.cells ∧ n + rm.slots ≤ R.slots) (hn : As.length = np) (hst : st0 = As.reverse ++ .ref b :: rest) (hcat : (rest.map fun v => v.category).sum ≤ 8) (hl : ls.size = nL) (hd : decode cc pc = .ok (.invokespecial idx, 3)) (hM : Mt l D cy y bytes maxL none rm (.ref b :: As) σ post) (kk : ∀ (r : Option Value) (τ : Sto), post r τ → Xw p l e R s m args below meth c D cy A τ (k + rm.cells) (n + rm.slots) Q (F0 m (pc + 3) ls (r.toList ++ rest))) : Xw p l e R s m args below meth c D cy A σ k n Q (F0 m pc ls st0) := by
  obtain ⟨y4, y5, y7, y8, y6, y9⟩ := Y
  refine x_run (a := (Value.ref b :: As).toArray) C (fun H locs h1 h2 h3 => ?_) kk
  have hts := C.1.2.2.2.2
  exact va_runIN (As := As) (rest := rest) C.1 (hM H.size) ⟨va_cnB np hts (aw_cons y8) rfl rfl rfl (C.2.1.2.1 _ y4) (hts _ y7) y9 hR, y6, hts _ y5⟩ ⟨Pst.blind, fun U hU hW => ⟨rfl, by rw [hU], by rw [hU]; exact h1, KK.warm hW C.2.1⟩⟩ rfl hn hl hst (lv_room hcat) hd hf
theorem x_callS (C : Cx p s m args meth c D cy A cc nL own) (Y : CS own idx y bytes maxL ret np) (hR : rm.frames + 1 ≤ R.frames ∧ 8 + (maxL + 11) + rm.locals ≤ R.locals) (hf : k + rm.cells ≤ R.cells ∧ n + rm.slots ≤ R.slots) (hn : As.length = np) (hst : st0 = As.reverse ++ rest) (hcat : (rest.map fun v => v.category).sum ≤ 8) (hl : ls.size = nL) (hd : decode cc pc = .ok (.invokestatic idx, 3)) (hM : Mt l D cy y bytes maxL ret rm As σ post) (kk : ∀ (r : Option Value) (τ : Sto), post r τ → Xw p l e R s m args below meth c D cy A τ (k + rm.cells) (n + rm.slots) Q (F0 m (pc + 3) ls (r.toList ++ rest))) : Xw p l e R s m args below meth c D cy A σ k n Q (F0 m pc ls st0) := by
  obtain ⟨y4, y5, y7, y8, y9⟩ := Y
  refine x_run (a := As.toArray) C (fun H locs h1 h2 h3 => ?_) kk
  have hts := C.1.2.2.2.2
  exact va_runS (As := As) (rest := rest) C.1 (hM H.size) ⟨callB_of np hts (aw_cons y8) rfl rfl rfl (hts _ y7) (hts _ y4) y9 hR, hts _ y5⟩ ⟨Pst.blind, fun U hU hW => ⟨rfl, by rw [hU], by rw [hU]; exact h1, KK.warm hW C.2.1⟩⟩ rfl hn hl hst (lv_room hcat) hd hf
theorem x_callSN (C : Cx p s m args meth c D cy A cc nL own) {host : String} (Y : CSN own idx y host bytes maxL ret np) (hR : rm.frames + 1 ≤ R.frames ∧ 8 + (maxL + 11) + rm.locals ≤ R.locals) (hf : k + rm.cells ≤ R.cells ∧ n + rm.slots ≤ R.slots) (hn : As.length = np) (hst : st0 = As.reverse ++ rest) (hcat : (rest.map fun v => v.category).sum ≤ 8) (hl : ls.size = nL) (hd : decode cc pc = .ok (.invokestatic idx, 3)) (hM : Mt l D cy y bytes maxL ret rm As σ post) (kk : ∀ (r : Option Value) (τ : Sto), post r τ → Xw p l e R s m args below meth c D cy A τ (k + rm.cells) (n + rm.slots) Q (F0 m (pc + 3) ls (r.toList ++ rest))) : Xw p l e R s m args below meth c D cy A σ k n Q (F0 m pc ls st0) := by
  obtain ⟨y4, y5, y7, y8, y9⟩ := Y
  refine x_run (a := As.toArray) C (fun H locs h1 h2 h3 => ?_) kk
  have hts := C.1.2.2.2.2
  exact va_runSN (As := As) (rest := rest) C.1 (hM H.size) ⟨va_cnB np hts (aw_cons y8) rfl rfl rfl (C.2.1.2.1 _ y4) (hts _ y7) y9 hR, hts _ y5, trivial⟩ ⟨Pst.blind, fun U hU hW => ⟨rfl, by rw [hU], by rw [hU]; exact h1, KK.warm hW C.2.1⟩⟩ rfl hn hl hst (lv_room hcat) hd hf
theorem x_objInit (C : Cx p s m args meth c D cy A cc nL own) {a : Nat} (w1 : Cond.methodLink own idx objectInit ∈ AW) (w2 : Cond.instanceMethod objectInit ∈ AW) (w3 : Cond.code objectInit ⟨#[0xb1]⟩ 1 none ∈ AW) (hl : ls.size = nL) (hR : 1 ≤ R.frames ∧ 20 ≤ R.locals) (hcat : (rest.map fun v => v.category).sum ≤ 8) (hd : decode cc pc = .ok (.invokespecial idx, 3)) (kk : Xw p l e R s m args below meth c D cy A σ k n Q (F0 m (pc + 3) ls rest)) : Xw p l e R s m args below meth c D cy A σ k n Q (F0 m pc ls (.ref a :: rest)) := fun H locs h1 h2 h3 =>
  W.objInit C.1.1 C.1.2.1 C.1.2.2.2.1 (C.1.2.2.2.2 _ w1) (C.1.2.2.2.2 _ w2) (C.1.2.2.2.2 _ w3) rfl (hl.trans C.1.2.2.1.symm) rfl hd hR.1 (by have := lv_room (m := m) (pc := pc) (ls := ls) (rest := .ref a :: rest) hcat; omega) (kk H locs h1 h2 h3)
theorem ks_i {q : Int32 → Sto → Prop} {pc' k' n' : Nat} (kk : ∀ (x : Int32) (τ : Sto), q x τ → Xw p l e R s m args below meth c D cy A τ k' n' Q (F0 m pc' ls (.int x :: rest))) : ∀ (r : Option Value) (τ : Sto), PsI q r τ → Xw p l e R s m args below meth c D cy A τ k' n' Q (F0 m pc' ls (r.toList ++ rest)) := by
  rintro r τ ⟨x, rfl, h⟩; exact kk x τ h
theorem ks_j {q : Int64 → Sto → Prop} {pc' k' n' : Nat} (kk : ∀ (x : Int64) (τ : Sto), q x τ → Xw p l e R s m args below meth c D cy A τ k' n' Q (F0 m pc' ls (.long x :: rest))) : ∀ (r : Option Value) (τ : Sto), PsJ q r τ → Xw p l e R s m args below meth c D cy A τ k' n' Q (F0 m pc' ls (r.toList ++ rest)) := by
  rintro r τ ⟨x, rfl, h⟩; exact kk x τ h
theorem ks_p {q : Option Nat → Sto → Prop} {pc' k' n' : Nat} (kk : ∀ (x : Option Nat) (τ : Sto), q x τ → Xw p l e R s m args below meth c D cy A τ k' n' Q (F0 m pc' ls (va_rf x :: rest))) : ∀ (r : Option Value) (τ : Sto), PsP q r τ → Xw p l e R s m args below meth c D cy A τ k' n' Q (F0 m pc' ls (r.toList ++ rest)) := by
  rintro r τ ⟨x, rfl, h⟩; exact kk x τ h
theorem ks_v {q : Sto → Prop} {pc' k' n' : Nat} (kk : ∀ (τ : Sto), q τ → Xw p l e R s m args below meth c D cy A τ k' n' Q (F0 m pc' ls rest)) : ∀ (r : Option Value) (τ : Sto), PsV q r τ → Xw p l e R s m args below meth c D cy A τ k' n' Q (F0 m pc' ls (r.toList ++ rest)) := by
  rintro r τ ⟨rfl, h⟩; exact kk τ h
end XW3
/-- a contract out of the walk of the body -/
theorem mt_of {l : Launch} {D : va_G} {cy : Nat → ClassId} {y : MethodName} {bytes : ByteArray} {maxL : Nat} {ret : Option FieldType} {rm : Room} {av : List Value} {σ : Sto} {post : Option Value → Sto → Prop} (hy : plainName y.cls = true) (hlen : (lg_sl av).length ≤ maxL)
    (body : ∀ (p : Program) (e : Env) (s : State) (m : MethodId) (args : Array Value) (below : List Frame) (meth : Method) (c : Code) (A : Nat → Prop) (ls : Array Slot), Cx p s m args meth c D cy A bytes maxL y.cls → meth.sig.returnType = ret → meth.name = y.name → lv_has ls maxL (lv_args 0 av) →
      Xw p l e rm s m args below meth c D cy A σ 0 0 (MQ below (Qst D cy A post) args s rm.cells rm.slots A) (F0 m 0 ls [])) : Mt l D cy y bytes maxL ret rm av σ post := by
  intro sz
  refine Met.ofW (cc := bytes) (maxL := maxL) (ret := ret) hy rfl ?_
  intro p e s m args below meth c s₁ B hml hv
  obtain ⟨rfl, hsz, hP, hK⟩ := hv
  have hts := atoms_spec (ws := Cond.code y bytes maxL ret :: AW) B.pre
  have hown : s.vm.findClass y.cls = some m.cls := findClass_of_methodNamed B.named
  subst hsz
  have hl := lv_entry av (n := maxL) hlen
  rw [lg_entry_eq]
  exact body p e s m av.toArray below meth c (Am σ s.heap.size) _ ⟨⟨B.exec, B.bytes, hml, hown, fun w h => hts w (List.mem_cons_of_mem _ h)⟩, hK, fun q h => Or.inr h, B.notSynchronized⟩ B.returns (name_of_methodNamed B.named B.method).1 hl s.heap [] hP (fun a h => Or.inl h) va_S.rf
/-! loops: what holds at a loop's head is the least such predicate -/
def LF {T : Type} (F : (T → Sto → Prop) → T → Sto → Prop) (t : T) (σ : Sto) : Prop := ∀ Rr : T → Sto → Prop, (∀ (t : T) (σ : Sto), F Rr t σ → Rr t σ) → Rr t σ
theorem lf_m {T : Type} {F : (T → Sto → Prop) → T → Sto → Prop} (I : T → Sto → Prop) (μ : T → Sto → Nat) (hs : ∀ (t : T) (σ : Sto), I t σ → ∀ Rr : T → Sto → Prop, (∀ (t' : T) (σ' : Sto), I t' σ' → μ t' σ' < μ t σ → Rr t' σ') → F Rr t σ) {t : T} {σ : Sto} (h : I t σ) : LF F t σ := by
  intro Rr hR
  have key : ∀ (n : Nat) (t : T) (σ : Sto), μ t σ < n → I t σ → Rr t σ := by
    intro n
    induction n with
    | zero => intro t σ hn; omega
    | succ n ih => intro t σ hn hI; exact hR t σ (hs t σ hI Rr (fun t' σ' hI' hl => ih t' σ' (by omega) hI'))
  exact key _ t σ (Nat.lt_succ_self _) h

