def exn : Nat → String := fun n => match n with
  | 0 => "java/lang/IndexOutOfBoundsException"
  | 1 => "java/lang/IllegalArgumentException"
  | _ => "java/lang/IllegalStateException"
def exUp : List String := ["java/lang/RuntimeException", "java/lang/Exception"]
def decL : List MethodName := [⟨"java/lang/RuntimeException", "<init>", "(Ljava/lang/String;)V"⟩, ⟨"java/lang/Exception", "<init>", "(Ljava/lang/String;)V"⟩, ⟨"java/lang/Throwable", "<init>", "(Ljava/lang/String;)V"⟩]
def casL : List String := ["java/lang/IndexOutOfBoundsException", "java/lang/IllegalArgumentException", "java/lang/IllegalStateException"]
def ncL : List (String × String) := [("java/lang/IllegalArgumentException", "java/lang/IndexOutOfBoundsException"), ("java/lang/IllegalStateException", "java/lang/IndexOutOfBoundsException"), ("java/lang/IllegalStateException", "java/lang/IllegalArgumentException")]
def strL : List (Nat × String) := [(92, "no such client or key"), (99, "no such kind"), (107, "its latest request is open"), (126, "no such client"), (128, "it has no open request"), (134, "it is not in the air"), (146, "n is not 0 .. 40"), (154, "no such replica"), (166, "it is down, or as many as may be are"), (177, "it is not down"), (185, "it is down"), (203, "it is down, does not lead, or is not normal"), (211, "n is not 0 .. 20"), (347, "the tape has a fault")]
def nonL : List Cond := decL.map (fun x => Cond.declares x) ++ casL.map (fun C => Cond.castable C C)
/-- what a throw needs of the tables beyond the shared words -/
def ZW (U : State) : Prop := (∀ x ∈ decL, va_Nw (.declares x) U) ∧ (∀ C ∈ casL, va_Nw (.castable C C) U) ∧ (∀ q ∈ strL, ∃ sa : Nat, vk_R RX11 q.1 q.2 sa U) ∧ ∀ q ∈ ncL, va_Nc q.1 q.2 U
/-- .. and of the heap: two statics that nobody writes -/
def ZH (A : Nat → Prop) (U : State) (H : Heap) : Prop := vx_Zq Bundle.tN "UNASSIGNED_STACK" Bundle.steD A U H ∧ vx_Zq Bundle.tN "SUPPRESSED_SENTINEL" Bundle.listD A U H
theorem ZW.warm {s U : State} (hW : s.WarmedH U.vm) (h : ZW s) : ZW U := ⟨fun x hx => va_Nw.warmD hW (h.1 x hx), fun C hC => va_Nw.warmC hW (h.2.1 C hC), fun q hq => by obtain ⟨sa, h9⟩ := h.2.2.1 q hq; exact ⟨sa, vk_R.warm hW h9⟩, fun q hq => va_Nc.moved hW.alike (h.2.2.2 q hq)⟩
theorem ZW.calling {U : State} (g : JFrame) (mk : MethodId) (a : Array Value) (h : ZW U) : ZW (U.calling g mk a) := ⟨fun x hx => va_Nw.same (u := U) (U := U.calling g mk a) rfl rfl (h.1 x hx), fun C hC => va_Nw.same (u := U) (U := U.calling g mk a) rfl rfl (h.2.1 C hC), fun q hq => by obtain ⟨sa, h9⟩ := h.2.2.1 q hq; exact ⟨sa, vk_R.same (u := U) (U := U.calling g mk a) rfl h9⟩, fun q hq => va_Nc.moved (u := U) (U := U.calling g mk a) (Vm.Alike.refl U.vm) (h.2.2.2 q hq)⟩
theorem ZH.calling {A : Nat → Prop} {U : State} (g : JFrame) (mk : MethodId) (a : Array Value) {H : Heap} (h : ZH A U H) : ZH A (U.calling g mk a) H := ⟨vx_Zq.moved (u := U) (U := U.calling g mk a) (Vm.Alike.refl U.vm) h.1, vx_Zq.moved (u := U) (U := U.calling g mk a) (Vm.Alike.refl U.vm) h.2⟩
/-- as Pst, with what throws need -/
def PstX (D : va_G) (cy : Nat → ClassId) (σ : Sto) (sz : Nat) (av : List Value) : Array Value → State → Prop := va_Pc av (fun U => U.heap.size = sz ∧ Rp D cy σ U.heap ∧ KK D cy U ∧ ZW U ∧ ZH (Am σ sz) U U.heap)
theorem PstX.blind {D : va_G} {cy : Nat → ClassId} {σ : Sto} {av : List Value} {sz : Nat} : FrameBlind (PstX D cy σ sz av) := fun a U g mk q => ⟨q.1, q.2.1, q.2.2.1, KK.calling g mk a q.2.2.2.1, ZW.calling g mk a q.2.2.2.2.1, ZH.calling g mk a q.2.2.2.2.2⟩
def Xst (D : va_G) (cy : Nat → ClassId) (A : Nat → Prop) (xp : Nat → Sto → Prop) : String → State → State → Prop := fun E st t => ∃ (n : Nat) (τ : Sto), E = exn n ∧ n < 3 ∧ xp n τ ∧ Rp D cy τ t.heap ∧ (∀ a, sK τ a < 23 → A a) ∧ va_F A st t
/-- method y returns with post, or throws with xp -/
def MtX (l : Launch) (D : va_G) (cy : Nat → ClassId) (y : MethodName) (bytes : ByteArray) (maxL : Nat) (ret : Option FieldType) (rm : Room) (av : List Value) (σ : Sto) (post : Option Value → Sto → Prop) (xp : Nat → Sto → Prop) : Prop :=
  ∀ sz : Nat, vx_Met l y (.code y bytes maxL ret :: AW) rm (PstX D cy σ sz av) (Qst D cy (Am σ sz) post) (Xst D cy (Am σ sz) xp) rm.cells rm.slots (Am σ sz)
/-- method y of its own table of exceptions, which returns -/
def MtW (l : Launch) (D : va_G) (cy : Nat → ClassId) (y : MethodName) (bytes : ByteArray) (maxL : Nat) (ret : Option FieldType) (hh : List (Nat × Nat × Nat × Nat)) (rm : Room) (av : List Value) (σ : Sto) (post : Option Value → Sto → Prop) : Prop :=
  ∀ sz : Nat, Met l y (.codeWith y bytes maxL ret hh :: AW) rm (PstX D cy σ sz av) (Qst D cy (Am σ sz) post) rm.cells rm.slots (Am σ sz)
/-- the words of a throw of kind n0 -/
def TW (ik is ic n0 : Nat) (tx : String) : Prop := n0 < 3 ∧ Cond.classLink RX11 ik (exn n0) ∈ AW ∧ Cond.initialized (exn n0) ∈ AW ∧ (is, tx) ∈ strL ∧ (∀ w ∈ (vx_atS RX11 ic (exn n0) exUp).filter goodWord, w ∈ AW) ∧ (∀ w ∈ (vx_atS RX11 ic (exn n0) exUp).filter (fun w => !goodWord w), w ∈ nonL) ∧ (∀ w ∈ Cond.classLink RX11 ik (exn n0) :: Cond.initialized (exn n0) :: vx_atS RX11 ic (exn n0) exUp, vx_ot w = true) ∧ Bundle.fit (exn n0) = true ∧ ∀ n ∈ exUp, Bundle.fit n = true
section XW5
variable {p : Program} {l : Launch} {e : Env} {R : Room} {s : State} {m : MethodId} {args : Array Value} {below : List Frame} {meth : Method} {c : Code} {D : va_G} {cy : Nat → ClassId} {A : Nat → Prop} {σ : Sto} {k n : Nat} {Q : State → Prop} {cc : ByteArray} {nL : Nat} {own : String} {pc : Nat} {ls : Array Slot} {rest : List Value}
theorem x_xret {post : Option Value → Sto → Prop} {XC : String → State → State → Prop} {mc ms : Nat} {g : JFrame} (kk : Xw p l e R s m args below meth c D cy A σ k n (MQ below (Qst D cy A post) args s mc ms A) g) : Xw p l e R s m args below meth c D cy A σ k n (vx_MQ below (Qst D cy A post) XC args s mc ms A) g := fun H locs h1 h2 h3 => vx_ret (kk H locs h1 h2 h3)
theorem x_throwZ {xp : Nat → Sto → Prop} {n0 : Nat} {H : Heap} {locs : List Loc} (hn : n0 < 3) (h : xp n0 σ) (h1 : Rp D cy σ H) (h2 : ∀ a, sK σ a < 23 → A a) (h3 : va_S A s.heap H locs) : ∀ t : State, s.vm.Alike t.vm → H.size ≤ t.heap.size → (∀ q : Nat, q < H.size → t.heap[q]? = H[q]?) → Xst D cy A xp (exn n0) s t := fun t _ hz hk =>
  ⟨n0, σ, rfl, hn, h, fun a ha => (h1 a ha).kept (hk a (h1.lt ha)), h2, Nat.le_trans h3.1 hz, fun q g1 g2 => (hk q (Nat.lt_of_lt_of_le g1 h3.1)).trans (h3.2.1 q g1 g2)⟩
theorem x_throw (C : Cx p s m args meth c D cy A cc nL RX11) (hlt : l.stackTraces = false) (Z : ZW s) (Z2 : ZH A s s.heap) {ik is ic n0 : Nat} {tx : String} (T : TW ik is ic n0 tx) (htab : ∀ x ∈ c.exceptionTable.toList, False) (hl : ls.size = nL) {post : Option Value → Sto → Prop} {xp : Nat → Sto → Prop} {mc ms : Nat}
    (d0 : decode cc pc = .ok (.new ik, 3)) (d3 : decode cc (pc + 3) = .ok (.dup, 1)) (d4 : decode cc (pc + 4) = .ok (.ldc is, 2)) (d6 : decode cc (pc + 6) = .ok (.invokespecial ic, 3)) (d9 : decode cc (pc + 9) = .ok (.athrow, 1))
    (hR : 6 ≤ R.frames ∧ 90 ≤ R.locals) (hcat : (rest.map fun v => v.category).sum ≤ 8) (hk : k + 1 ≤ R.cells ∧ n + 6 ≤ R.slots) (hk2 : k + 1 ≤ mc ∧ n + 6 ≤ ms) (h : xp n0 σ) : Xw p l e R s m args below meth c D cy A σ k n (vx_MQ below (Qst D cy A post) (Xst D cy A xp) args s mc ms A) (F0 m pc ls rest) := by
  intro H locs h1 h2 h3
  obtain ⟨t0, t1, t2, t3, t4, t5, t6, t7, t8⟩ := T
  obtain ⟨sa, hsa⟩ := Z.2.2.1 _ t3
  have hts := C.1.2.2.2.2
  refine vx_throwS (A := A) (names := exUp) C.1.1 C.1.2.1 hlt C.1.2.2.2.1 t7 t8 (hts _ t1) (hts _ t2) hsa (vx_hat (fun w hw => hts w (t4 w hw)) t5 (fun w hw => ?_)) t6 Z2.1 Z2.2 h3 (hl.trans C.1.2.2.1.symm) d0 d3 d4 d6 d9 (fun x hx => (htab x hx).elim) (by show 2 + 3 < _; omega) (by show _ + (13 * (2 + 1) + 43) ≤ _; omega) hk.1 hk.2 C.2.2.2 (x_throwZ t0 h h1 h2 h3) h3.2.2 hk2.1 hk2.2
  rcases List.mem_append.mp hw with h9 | h9
  · obtain ⟨x, hx, rfl⟩ := List.mem_map.mp h9
    exact va_Nw.use rfl (Z.1 x hx)
  · obtain ⟨x, hx, rfl⟩ := List.mem_map.mp h9
    exact va_Nw.use rfl (Z.2.1 x hx)
theorem x_throwW (C : Cx p s m args meth c D cy A cc nL RX11) (hlt : l.stackTraces = false) (Z : ZW s) (Z2 : ZH A s s.heap) {ik is ic n0 : Nat} {tx : String} (T : TW ik is ic n0 tx) (htab : ∀ x ∈ c.exceptionTable.toList, False) (hl : ls.size = nL) {post : Option Value → Sto → Prop} {xp : Nat → Sto → Prop} {mc ms : Nat}
    (d0 : decode cc pc = .ok (.new ik, 3)) (d3 : decode cc (pc + 3) = .ok (.dup, 1)) (d4 : decode cc (pc + 4) = .ok (.ldc_w is, 3)) (d7 : decode cc (pc + 7) = .ok (.invokespecial ic, 3)) (d10 : decode cc (pc + 10) = .ok (.athrow, 1))
    (hR : 6 ≤ R.frames ∧ 90 ≤ R.locals) (hcat : (rest.map fun v => v.category).sum ≤ 8) (hk : k + 1 ≤ R.cells ∧ n + 6 ≤ R.slots) (hk2 : k + 1 ≤ mc ∧ n + 6 ≤ ms) (h : xp n0 σ) : Xw p l e R s m args below meth c D cy A σ k n (vx_MQ below (Qst D cy A post) (Xst D cy A xp) args s mc ms A) (F0 m pc ls rest) := by
  intro H locs h1 h2 h3
  obtain ⟨t0, t1, t2, t3, t4, t5, t6, t7, t8⟩ := T
  obtain ⟨sa, hsa⟩ := Z.2.2.1 _ t3
  have hts := C.1.2.2.2.2
  refine vx_throwSW (A := A) (names := exUp) C.1.1 C.1.2.1 hlt C.1.2.2.2.1 t7 t8 (hts _ t1) (hts _ t2) hsa (vx_hat (fun w hw => hts w (t4 w hw)) t5 (fun w hw => ?_)) t6 Z2.1 Z2.2 h3 (hl.trans C.1.2.2.1.symm) d0 d3 d4 d7 d10 (fun x hx => (htab x hx).elim) (by show 2 + 3 < _; omega) (by show _ + (13 * (2 + 1) + 43) ≤ _; omega) hk.1 hk.2 C.2.2.2 (x_throwZ t0 h h1 h2 h3) h3.2.2 hk2.1 hk2.2
  rcases List.mem_append.mp hw with h9 | h9
  · obtain ⟨x, hx, rfl⟩ := List.mem_map.mp h9
    exact va_Nw.use rfl (Z.1 x hx)
  · obtain ⟨x, hx, rfl⟩ := List.mem_map.mp h9
    exact va_Nw.use rfl (Z.2.1 x hx)
variable {y : MethodName} {bytes : ByteArray} {maxL idx np : Nat} {ret : Option FieldType} {rm : Room} {As st0 : List Value} {post : Option Value → Sto → Prop} {xp : Nat → Sto → Prop}
/-- what throws need, in a callee's words -/
theorem zh_in {H : Heap} {locs : List Loc} {U : State} (C : Cx p s m args meth c D cy A cc nL own) (Z2 : ZH A s s.heap) (h2 : ∀ a, sK σ a < 23 → A a) (h3 : va_S A s.heap H locs) (hU : U.heap = H) (hW : s.WarmedH U.vm) : ZH (Am σ H.size) U U.heap := by
  have hAm : ∀ q, Am σ H.size q → A q := fun q hq => hq.elim (h2 q) (fun h => C.2.2.1 q (Nat.le_trans h3.1 h))
  rw [hU]
  exact ⟨vx_Zq.narrow (vx_Zq.kept (vx_Zq.moved hW.alike Z2.1) (fun a g1 g2 => h3.2.1 a g1 g2)) hAm, vx_Zq.narrow (vx_Zq.kept (vx_Zq.moved hW.alike Z2.2) (fun a g1 g2 => h3.2.1 a g1 g2)) hAm⟩
/-- a call of a method that returns or throws, caught here: 'hcat' says where each kind goes -/
theorem x_callX (C : Cx p s m args meth c D cy A cc nL own) (Z : ZW s) (Z2 : ZH A s s.heap) {c0 b : Nat} (Y : CY own idx c0 y bytes maxL ret np) (hK : sK σ b = c0) (hR : rm.frames + 1 ≤ R.frames ∧ 8 + (maxL + 11) + rm.locals ≤ R.locals) (hf : k + rm.cells ≤ R.cells ∧ n + rm.slots ≤ R.slots) (hn : As.length = np) (hst : st0 = As.reverse ++ .ref b :: rest) (hcat : (rest.map fun v => v.category).sum ≤ 8) (hl : ls.size = nL) (hd : decode cc pc = .ok (.invokevirtual idx, 3)) (hM : MtX l D cy y bytes maxL ret rm (.ref b :: As) σ post xp)
    (kk : ∀ (r : Option Value) (τ : Sto), post r τ → Xw p l e R s m args below meth c D cy A τ (k + rm.cells) (n + rm.slots) Q (F0 m (pc + 3) ls (r.toList ++ rest)))
    (kx : ∀ (n0 : Nat) (τ : Sto) (q : Nat), n0 < 3 → xp n0 τ → ∃ (pre : List ExceptionTableEntry) (x : ExceptionTableEntry) (suf : List ExceptionTableEntry), c.exceptionTable.toList = pre ++ x :: suf ∧ (∀ z ∈ pre, covers z pc = false ∨ (z.catchType ≠ 0 ∧ ∃ nm : String, (Cond.classLink own z.catchType nm) ∈ AW ∧ (exn n0, nm) ∈ ncL)) ∧ covers x pc = true ∧ x.catchType ≠ 0 ∧ Cond.classLink own x.catchType (exn n0) ∈ AW ∧ Xw p l e R s m args below meth c D cy A τ (k + rm.cells) (n + rm.slots) Q (F0 m x.handlerPc ls [.ref q])) : Xw p l e R s m args below meth c D cy A σ k n Q (F0 m pc ls st0) := by
  obtain ⟨y1, ⟨C0, T, N, y2, y3⟩, y4, y5, y6, y7, y8, y9⟩ := Y
  intro H locs h1 h2 h3 T' hT' X
  have hb := h1 b (by rw [hK]; omega)
  rw [cel_o hK y1] at hb
  have hts := C.1.2.2.2.2
  obtain ⟨q', g0, cell, g1, g2, g3, -⟩ := hb
  have hrun := vx_runV (As := As) (rest := rest) (g := F0 m pc ls st0) (H := H) (locs := locs) (cells := k) (slots := n) (e := e) (below := below) (meth := meth) C.1 (hM H.size) ⟨callB_of (R := R) np hts (aw_cons y8) rfl rfl rfl (hts _ y7) (hts _ y4) y9 hR, hts _ y5, hts _ y6⟩ ⟨PstX.blind, ⟨cell, g1, by rw [g3]; rfl, by rw [g2, y3]; exact (C.2.1.1.1 c0 _ y2).2.1⟩, fun U hU hW => ⟨rfl, by rw [hU], by rw [hU]; exact h1, KK.warm hW C.2.1, ZW.warm hW Z, zh_in C Z2 h2 h3 hU hW⟩⟩ rfl hn hl hst (lv_room hcat) hd hf
  have hAm : ∀ q, Am σ H.size q → A q := fun q hq => hq.elim (h2 q) (fun h => C.2.2.1 q (Nat.le_trans h3.1 h))
  rcases hrun T' hT' X with ⟨v, st₀, t, T2, L, e0, X', hL, e1, e2, ⟨r, τ, hv, hp, hRp, hdm, hz, hk⟩, st⟩ | ⟨q, st₀, t, T2, L, E, ce, e0, X', hL, e1, e2, ⟨n0, τ, rfl, hn0, hp, hRp, hdm, hz, hk⟩, hce, hcv, hcl, st⟩
  · cases hv
    rw [e0] at hz hk
    obtain ⟨t2, a1, b1⟩ := kk v τ hp T2.heap (locs ++ L) (by rw [e1]; exact hRp) (fun b hb => hAm b (hdm b hb)) ⟨Nat.le_trans h3.1 (by rw [e1]; exact hz), fun q g1 g2 => by rw [e1, hk q (Nat.lt_of_lt_of_le g1 h3.1) (fun z => g2 (hAm q z))]; exact h3.2.1 q g1 g2, fun q hq => by
      rcases List.mem_append.mp hq with h | h
      · exact h3.2.2 q h
      · exact hAm _ (hL q h)⟩ T2 rfl X'
    exact ⟨t2, st t2 a1, b1⟩
  · rw [e0] at hz hk
    obtain ⟨pre, x, suf, x1, x2, x3, x4, x5, x6⟩ := kx n0 τ q hn0 hp
    have hcas : (Cond.castable (exn n0) (exn n0)).before args s = true := va_Nw.use rfl (Z.2.1 _ (by
      rcases (show n0 = 0 ∨ n0 = 1 ∨ n0 = 2 by omega) with h | h | h <;> subst h <;> decide +kernel))
    obtain ⟨t2, a1, b1⟩ := vx_catch (pc := pc) (ls := ls) (rest := rest) C.1.2.2.2.1 pre x suf x1 (fun z hz => (x2 z hz).elim Or.inl (fun ⟨w1, nm, w2, w3⟩ => Or.inr ⟨w1, nm, hts _ w2, Z.2.2.2 _ w3⟩)) x3 x4 (hts _ x5) hcas (by rw [e1]; exact hce) hcv hcl (x6 T2.heap (locs ++ L) (by rw [e1]; exact hRp) (fun b hb => hAm b (hdm b hb)) ⟨Nat.le_trans h3.1 (by rw [e1]; exact hz), fun q g1 g2 => by rw [e1, hk q (Nat.lt_of_lt_of_le g1 h3.1) (fun z => g2 (hAm q z))]; exact h3.2.1 q g1 g2, fun q hq => by
      rcases List.mem_append.mp hq with h | h
      · exact h3.2.2 q h
      · exact hAm _ (hL q h)⟩) T2 rfl X'
    exact ⟨t2, st.trans a1, b1⟩
/-- a static call of a method with a table of its own -/
theorem x_callSW (C : Cx p s m args meth c D cy A cc nL own) (Z : ZW s) (Z2 : ZH A s s.heap) {hh : List (Nat × Nat × Nat × Nat)} (y4 : Cond.methodLink own idx y ∈ AW) (y5 : Cond.static y ∈ AW) (y7 : Cond.initialized y.cls ∈ AW) (y8 : Cond.codeWith y bytes maxL ret hh ∈ AW) (y9 : Ymh y np) (hR : rm.frames + 1 ≤ R.frames ∧ 8 + (maxL + 11) + rm.locals ≤ R.locals) (hf : k + rm.cells ≤ R.cells ∧ n + rm.slots ≤ R.slots) (hn : As.length = np) (hst : st0 = As.reverse ++ rest) (hcat : (rest.map fun v => v.category).sum ≤ 8) (hl : ls.size = nL) (hd : decode cc pc = .ok (.invokestatic idx, 3)) (hM : MtW l D cy y bytes maxL ret hh rm As σ post) (kk : ∀ (r : Option Value) (τ : Sto), post r τ → Xw p l e R s m args below meth c D cy A τ (k + rm.cells) (n + rm.slots) Q (F0 m (pc + 3) ls (r.toList ++ rest))) : Xw p l e R s m args below meth c D cy A σ k n Q (F0 m pc ls st0) := by
  refine x_run (a := As.toArray) C (fun H locs h1 h2 h3 => ?_) kk
  have hts := C.1.2.2.2.2
  have hG : GoodIn AW (va_wsS own idx y (Cond.codeWith y bytes maxL ret hh :: AW)) := fun w hw => by
    unfold va_wsS at hw
    rcases List.mem_append.mp hw with h | h
    · simp only [List.mem_cons, List.mem_nil_iff, or_false] at h
      rcases h with rfl | rfl | rfl
      · exact aw_good _ y4
      · exact aw_good _ y5
      · exact aw_good _ y7
    · exact aw_cons y8 w h
  exact vx_runSW (As := As) (rest := rest) C.1 (hM H.size) (vx_cwSW np hts hG rfl rfl rfl y9 hR) ⟨PstX.blind, fun U hU hW => ⟨rfl, by rw [hU], by rw [hU]; exact h1, KK.warm hW C.2.1, ZW.warm hW Z, zh_in C Z2 h2 h3 hU hW⟩⟩ rfl hn hl hst (lv_room hcat) hd hf
end XW5
theorem mx_of {l : Launch} {D : va_G} {cy : Nat → ClassId} {y : MethodName} {bytes : ByteArray} {maxL : Nat} {ret : Option FieldType} {rm : Room} {av : List Value} {σ : Sto} {post : Option Value → Sto → Prop} {xp : Nat → Sto → Prop} (hy : plainName y.cls = true) (hlen : (lg_sl av).length ≤ maxL)
    (body : ∀ (p : Program) (e : Env) (s : State) (m : MethodId) (args : Array Value) (below : List Frame) (meth : Method) (c : Code) (A : Nat → Prop) (ls : Array Slot), Cx p s m args meth c D cy A bytes maxL y.cls → meth.sig.returnType = ret → meth.name = y.name → (∀ x ∈ c.exceptionTable.toList, False) → ZW s → ZH A s s.heap → lv_has ls maxL (lv_args 0 av) →
      Xw p l e rm s m args below meth c D cy A σ 0 0 (vx_MQ below (Qst D cy A post) (Xst D cy A xp) args s rm.cells rm.slots A) (F0 m 0 ls [])) : MtX l D cy y bytes maxL ret rm av σ post xp := by
  intro sz
  refine vx_ofW (cc := bytes) (maxL := maxL) (ret := ret) hy rfl ?_
  intro p e s m args below meth c s₁ B hml htab hv
  obtain ⟨rfl, hsz, hP, hK, hZ, hZ2⟩ := hv
  have hts := atoms_spec (ws := Cond.code y bytes maxL ret :: AW) B.pre
  have hown : s.vm.findClass y.cls = some m.cls := findClass_of_methodNamed B.named
  subst hsz
  have hl := lv_entry av (n := maxL) hlen
  rw [lg_entry_eq]
  exact body p e s m av.toArray below meth c (Am σ s.heap.size) _ ⟨⟨B.exec, B.bytes, hml, hown, fun w h => hts w (List.mem_cons_of_mem _ h)⟩, hK, fun q h => Or.inr h, B.notSynchronized⟩ B.returns (name_of_methodNamed B.named B.method).1 htab hZ hZ2 hl s.heap [] hP (fun a h => Or.inl h) va_S.rf
theorem mw_of {l : Launch} {D : va_G} {cy : Nat → ClassId} {y : MethodName} {bytes : ByteArray} {maxL : Nat} {ret : Option FieldType} {hh : List (Nat × Nat × Nat × Nat)} {rm : Room} {av : List Value} {σ : Sto} {post : Option Value → Sto → Prop} (hy : plainName y.cls = true) (hlen : (lg_sl av).length ≤ maxL)
    (body : ∀ (p : Program) (e : Env) (s : State) (m : MethodId) (args : Array Value) (below : List Frame) (meth : Method) (c : Code) (A : Nat → Prop) (ls : Array Slot), Cx p s m args meth c D cy A bytes maxL y.cls → meth.sig.returnType = ret → c.exceptionTable.toList = tableOf hh → ZW s → ZH A s s.heap → lv_has ls maxL (lv_args 0 av) →
      Xw p l e rm s m args below meth c D cy A σ 0 0 (MQ below (Qst D cy A post) args s rm.cells rm.slots A) (F0 m 0 ls [])) : MtW l D cy y bytes maxL ret hh rm av σ post := by
  intro sz
  refine va_MetW (hh := hh) (cc := bytes) (maxL := maxL) (ret := ret) hy rfl ?_
  intro p e s m args below meth c s₁ B hml hv
  obtain ⟨rfl, hsz, hP, hK, hZ, hZ2⟩ := hv
  have hts := atoms_spec (ws := Cond.codeWith y bytes maxL ret hh :: AW) B.pre
  have hown : s.vm.findClass y.cls = some m.cls := findClass_of_methodNamed B.named
  have htab : c.exceptionTable.toList = tableOf hh := vx_table (x := y) B (hts _ List.mem_cons_self)
  subst hsz
  have hl := lv_entry av (n := maxL) hlen
  rw [lg_entry_eq]
  exact body p e s m av.toArray below meth c (Am σ s.heap.size) _ ⟨⟨B.exec, B.bytes, hml, hown, fun w h => hts w (List.mem_cons_of_mem _ h)⟩, hK, fun q h => Or.inr h, B.notSynchronized⟩ B.returns htab hZ hZ2 hl s.heap [] hP (fun a h => Or.inl h) va_S.rf
set_option maxRecDepth 100000 in
theorem tw_a0 : ∀ w ∈ (vx_atS RX11 94 (exn 0) exUp).filter goodWord, w ∈ AW := fun w hw => List.mem_filter.mpr ⟨(show ∀ w ∈ (vx_atS RX11 94 (exn 0) exUp).filter goodWord, w ∈ lw_tbl by decide +kernel) w hw, (List.mem_filter.mp hw).2⟩
theorem tw_b0 : ∀ w ∈ (vx_atS RX11 94 (exn 0) exUp).filter (fun w => !goodWord w), w ∈ nonL := by decide +kernel
theorem tw_c0 : ∀ w ∈ Cond.classLink RX11 90 (exn 0) :: Cond.initialized (exn 0) :: vx_atS RX11 94 (exn 0) exUp, vx_ot w = true := by decide +kernel
set_option maxRecDepth 100000 in
theorem tw_d0 : Cond.classLink RX11 90 (exn 0) ∈ AW ∧ Cond.initialized (exn 0) ∈ AW := ⟨(aw_t3 224 rfl rfl), (aw_t1 17 rfl rfl)⟩
theorem tw_0 {is : Nat} {tx : String} (h : (is, tx) ∈ strL) : TW 90 is 94 0 tx := ⟨by decide, tw_d0.1, tw_d0.2, h, tw_a0, tw_b0, tw_c0, by decide +kernel, by decide +kernel⟩
set_option maxRecDepth 100000 in
theorem tw_a1 : ∀ w ∈ (vx_atS RX11 101 (exn 1) exUp).filter goodWord, w ∈ AW := fun w hw => List.mem_filter.mpr ⟨(show ∀ w ∈ (vx_atS RX11 101 (exn 1) exUp).filter goodWord, w ∈ lw_tbl by decide +kernel) w hw, (List.mem_filter.mp hw).2⟩
theorem tw_b1 : ∀ w ∈ (vx_atS RX11 101 (exn 1) exUp).filter (fun w => !goodWord w), w ∈ nonL := by decide +kernel
theorem tw_c1 : ∀ w ∈ Cond.classLink RX11 97 (exn 1) :: Cond.initialized (exn 1) :: vx_atS RX11 101 (exn 1) exUp, vx_ot w = true := by decide +kernel
set_option maxRecDepth 100000 in
theorem tw_d1 : Cond.classLink RX11 97 (exn 1) ∈ AW ∧ Cond.initialized (exn 1) ∈ AW := ⟨(aw_t4 51 rfl rfl), (aw_t1 18 rfl rfl)⟩
theorem tw_1 {is : Nat} {tx : String} (h : (is, tx) ∈ strL) : TW 97 is 101 1 tx := ⟨by decide, tw_d1.1, tw_d1.2, h, tw_a1, tw_b1, tw_c1, by decide +kernel, by decide +kernel⟩
set_option maxRecDepth 100000 in
theorem tw_a2 : ∀ w ∈ (vx_atS RX11 109 (exn 2) exUp).filter goodWord, w ∈ AW := fun w hw => List.mem_filter.mpr ⟨(show ∀ w ∈ (vx_atS RX11 109 (exn 2) exUp).filter goodWord, w ∈ lw_tbl by decide +kernel) w hw, (List.mem_filter.mp hw).2⟩
theorem tw_b2 : ∀ w ∈ (vx_atS RX11 109 (exn 2) exUp).filter (fun w => !goodWord w), w ∈ nonL := by decide +kernel
theorem tw_c2 : ∀ w ∈ Cond.classLink RX11 105 (exn 2) :: Cond.initialized (exn 2) :: vx_atS RX11 109 (exn 2) exUp, vx_ot w = true := by decide +kernel
set_option maxRecDepth 100000 in
theorem tw_d2 : Cond.classLink RX11 105 (exn 2) ∈ AW ∧ Cond.initialized (exn 2) ∈ AW := ⟨(aw_t4 67 rfl rfl), (aw_t1 19 rfl rfl)⟩
theorem tw_2 {is : Nat} {tx : String} (h : (is, tx) ∈ strL) : TW 105 is 109 2 tx := ⟨by decide, tw_d2.1, tw_d2.2, h, tw_a2, tw_b2, tw_c2, by decide +kernel, by decide +kernel⟩
