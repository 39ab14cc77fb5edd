/-! THE CLAIM OUT OF ONE WALK OF THE LAW'S BODY. Your part is whole_start (and what it stands on); all else here is the same for every law, but numbers. -/
def R_law : String := "OrderedWorksLaw"
def lw_P (b : Addr) (xs : List Int32) (args : Array Value) (s : State) : Prop := args = #[.ref b] ∧ s.IntsAt b xs ∧ xs.length ≤ 322 ∧ (Jvm.Cond.and given_1 narrow_1).before args s = true
def lw_Q (_ : Array Value) (s : State) (o : Outcome) (t : State) : Prop := o = .returned (some (.int 1)) ∧ Framed s o t [] 600128 7301064
def lw_Z (below : List Frame) (a : Array Value) (s : State) : State → Prop := fun t => ∃ o, t.status = .running ∧ Ended t below o ∧ lw_Q a s o t
/-- the law's own end, with 1 on the stack, nothing written that was there before, its room as the claim has it -/
theorem lw_ret {p : Program} {l : Launch} {e : Env} {s : State} {m : MethodId} {below : List Frame} {meth : Method} {c : Code} {b : Nat} (hx : p.tables.exec = Jvm.exec) (hb : c.code = code) (hr : meth.sig.returnType = ret) (hlocks : meth.locks = false) {pc : Nat} {H : Heap} {ls : Array Slot} (hdg : decode code pc = .ok (.ireturn, 1)) : W p l e room_1 s m #[Value.ref b] below meth c H [] 600128 7301064 (lw_Z below #[Value.ref b] s) (F0 m pc ls [.int 1]) := by
  intro T hT X
  obtain ⟨fs, hret, hrun, hended, hW, hframe⟩ := X.leave (v := some (.int 1)) (hlocks := hlocks) (fun h => by rw [hr] at h; cases h)
  have hmeth' : T.vm.method? m = some meth := X.method'
  refine ⟨T.setFrames fs, ?_, .returned (some (.int 1)), hrun, hended, rfl, ⟨_, rfl⟩, hW, hframe⟩
  jvm_step X.here [X.here.top, hx, hb, hdg, hmeth', hr, ret, narrow_b1]
  (try refine ⟨rfl, ?_⟩); (try refine ⟨rfl, ?_⟩)
  first | (intro acts; rw [hret _ acts rfl rfl rfl]) | rw [hret _ _ rfl rfl rfl]
  exact Steps.refl _
/-- what holds at the law's entry: the machine, the code, the tables' words (any of lw_tbl by 'hts w (by decide +kernel)'), the script of L ints xs at the cell b, what the Statement gives of the start (any of its parts by flat_of_before) -/
def lw_At (p : Program) (s : State) (m : MethodId) (meth : Method) (c : Code) (b L : Nat) (xs : Nat → Int32) : Prop :=
  p.tables.exec = Jvm.exec ∧ c.code = code ∧ meth.sig.returnType = ret ∧ c.maxLocals = 7 ∧ s.vm.findClass R_law = some m.cls ∧ (∀ w ∈ lw_tbl, w.before #[Value.ref b] s = true) ∧ va_X b L xs s s.heap ∧ b < s.heap.size ∧ meth.locks = false ∧ (Jvm.Cond.and given_1 narrow_1).before #[Value.ref b] s = true
/-- what the law may change: what it makes -/
def LA (s : State) : Nat → Prop := fun q => s.heap.size ≤ q
/-- the store before anything is made -/
def sto0 : Sto := (fun _ => 99, fun _ => 0, fun _ _ => 0, fun _ _ => 0, fun _ _ => none)
def vcell (L : Nat) (xs : Nat → Int32) (k : Int32) : Int32 := if nI L ≤ k then 0 else xs k.toNatClampNeg
section XLAW
variable {p : Program} {l : Launch} {e : Env} {R : Room} {s : State} {m : MethodId} {args : Array Value} {below : List Frame} {meth : Method} {c : Code} {D : va_G} {cy : Nat → ClassId} {A : Nat → Prop} {σ : Sto} {k n : Nat} {Q : State → Prop} {cc : ByteArray} {nL : Nat} {own : String} {pc : Nat} {ls : Array Slot} {rest : List Value} {b L : Nat} {xs : Nat → Int32}
theorem x_sldA (C : Cx p s m args meth c D cy A cc nL own) (hX : va_X b L xs s s.heap) (hbl : b < s.heap.size) (hbA : ¬ A b) {i : Int32} (hin : vp_in i L) (hd : decode cc pc = .ok (.iaload, 1)) (kk : Xw p l e R s m args below meth c D cy A σ k n Q (F0 m (pc + 1) ls (.int (xs i.toNatClampNeg) :: rest))) : Xw p l e R s m args below meth c D cy A σ k n Q (F0 m pc ls (.int i :: .ref b :: rest)) := fun H locs h1 h2 h3 => va_sld C.1.1 C.1.2.1 hX hbl hbA h3 hin hd (kk H locs h1 h2 h3)
theorem x_slenA (C : Cx p s m args meth c D cy A cc nL own) (hX : va_X b L xs s s.heap) (hbl : b < s.heap.size) (hbA : ¬ A b) (hd : decode cc pc = .ok (.arraylength, 1)) (kk : Xw p l e R s m args below meth c D cy A σ k n Q (F0 m (pc + 1) ls (.int (nI L) :: rest))) : Xw p l e R s m args below meth c D cy A σ k n Q (F0 m pc ls (.ref b :: rest)) := fun H locs h1 h2 h3 => va_slen C.1.1 C.1.2.1 hX hbl hbA h3 hd (kk H locs h1 h2 h3)
theorem x_sld (C : Cx p s m args meth c D cy (LA s) cc nL own) (hX : va_X b L xs s s.heap) (hbl : b < s.heap.size) {i : Int32} (hin : vp_in i L) (hd : decode cc pc = .ok (.iaload, 1)) (kk : Xw p l e R s m args below meth c D cy (LA s) σ k n Q (F0 m (pc + 1) ls (.int (xs i.toNatClampNeg) :: rest))) : Xw p l e R s m args below meth c D cy (LA s) σ k n Q (F0 m pc ls (.int i :: .ref b :: rest)) := x_sldA C hX hbl (Nat.not_le.mpr hbl) hin hd kk
theorem x_slen (C : Cx p s m args meth c D cy (LA s) cc nL own) (hX : va_X b L xs s s.heap) (hbl : b < s.heap.size) (hd : decode cc pc = .ok (.arraylength, 1)) (kk : Xw p l e R s m args below meth c D cy (LA s) σ k n Q (F0 m (pc + 1) ls (.int (nI L) :: rest))) : Xw p l e R s m args below meth c D cy (LA s) σ k n Q (F0 m pc ls (.ref b :: rest)) := x_slenA C hX hbl (Nat.not_le.mpr hbl) hd kk
theorem x_lawret (C : Cx p s m #[Value.ref b] meth c D cy (LA s) code nL own) {v : Int32} (hr : meth.sig.returnType = ret) (hk : k ≤ 600128 ∧ n ≤ 7301064) (hv : v = 1) (hd : decode code pc = .ok (.ireturn, 1)) : Xw p l e room_1 s m #[Value.ref b] below meth c D cy (LA s) σ k n (lw_Z below #[Value.ref b] s) (F0 m pc ls [.int v]) := by
  intro H locs h1 h2 h3
  subst hv
  exact va_forget (fun q hq => h3.2.2 q hq) (W.widen hk.1 hk.2 (lw_ret C.1.1 C.1.2.1 hr C.2.2.2 hd))
end XLAW
theorem dL_cell_0 : decode cL_cell 0 = .ok (.iload_n 1, 1) := by decide +kernel
theorem dL_cell_1 : decode cL_cell 1 = .ok (.aload_n 0, 1) := by decide +kernel
theorem dL_cell_2 : decode cL_cell 2 = .ok (.arraylength, 1) := by decide +kernel
theorem dL_cell_3 : decode cL_cell 3 = .ok (.if_icmp .ge 9, 3) := by decide +kernel
theorem dL_cell_6 : decode cL_cell 6 = .ok (.aload_n 0, 1) := by decide +kernel
theorem dL_cell_7 : decode cL_cell 7 = .ok (.iload_n 1, 1) := by decide +kernel
theorem dL_cell_8 : decode cL_cell 8 = .ok (.iaload, 1) := by decide +kernel
theorem dL_cell_9 : decode cL_cell 9 = .ok (.goto 4, 3) := by decide +kernel
theorem dL_cell_12 : decode cL_cell 12 = .ok (.iconst 0, 1) := by decide +kernel
theorem dL_cell_13 : decode cL_cell 13 = .ok (.ireturn, 1) := by decide +kernel
set_option maxRecDepth 100000 in
theorem ml_cell : Cond.methodLink RL 61 yL_cell ∈ AW := (aw_t3 211 rfl rfl)
/- cell: [(0, ('.iload_n 1', 1)), (1, ('.aload_n 0', 1)), (2, ('.arraylength', 1)), (3, ('.if_icmp .ge 9', 3)), (6, ('.aload_n 0', 1)), (7, ('.iload_n 1', 1)), (8, ('.iaload', 1)), (9, ('.goto 4', 3)), (12, ('.iconst 0', 1)), (13, ('.ireturn', 1))] -/
set_option maxHeartbeats 4000000 in
set_option maxRecDepth 100000 in
theorem c_L_cell (l : Launch) (D : va_G) (cy : Nat → ClassId) (b L : Nat) (xs : Nat → Int32) (hL : L < 2 ^ 31) (i : Int32) (hi : ¬ i < 0) (σ : Sto) (sz : Nat) : Met l yL_cell (.code yL_cell cL_cell 2 (some .int) :: AW) { frames := 0, cells := 0, slots := 0, locals := 0 } (va_Pc [.ref b, .int i] (fun U => U.heap.size = sz ∧ Rp D cy σ U.heap ∧ KK D cy U ∧ va_X b L xs U U.heap ∧ b < sz ∧ ¬ Am σ sz b)) (Qst D cy (Am σ sz) (PsI (fun r τ => r = vcell L xs i ∧ τ = σ))) 0 0 (Am σ sz) := by
  refine Met.ofW (cc := cL_cell) (maxL := 2) (ret := some .int) (by decide +kernel) rfl ?_
  intro p e s m args below meth c s₁ B hml hv
  obtain ⟨rfl, hsz, hP, hK, hX, hbl, hbA⟩ := hv
  have hts := atoms_spec (ws := Cond.code yL_cell cL_cell 2 (some .int) :: AW) B.pre
  have hown : s.vm.findClass RL = some m.cls := findClass_of_methodNamed B.named
  subst hsz
  have hl := lv_entry [.ref b, .int i] (n := 2) (Nat.le_of_ble_eq_true rfl)
  rw [lg_entry_eq]
  generalize (lg_sl [.ref b, .int i] ++ List.replicate (2 - (lg_sl [.ref b, .int i]).length) Slot.unset).toArray = ls at hl ⊢
  have hl : lv_has ls 2 [(0, .ref b), (1, .int i)] := hl
  have C : Cx p s m #[.ref b, .int i] meth c D cy (Am σ s.heap.size) cL_cell 2 RL := ⟨⟨B.exec, B.bytes, hml, hown, fun w h => hts w (List.mem_cons_of_mem _ h)⟩, hK, fun q h => Or.inr h, B.notSynchronized⟩
  have hr := B.returns
  suffices hw : Xw p l e { frames := 0, cells := 0, slots := 0, locals := 0 } s m #[.ref b, .int i] below meth c D cy (Am σ s.heap.size) σ 0 0 (MQ below (Qst D cy (Am σ s.heap.size) (PsI (fun r τ => r = vcell L xs i ∧ τ = σ))) #[.ref b, .int i] s 0 0 (Am σ s.heap.size)) (F0 m 0 ls []) from hw s.heap [] hP (fun a h => Or.inl h) va_S.rf
  refine x_iload_n C dL_cell_0 rfl (lv_at hl 1 rfl) ?_
  refine x_aload_n C dL_cell_1 rfl (lv_at hl 0 rfl) ?_
  refine x_slenA C hX hbl hbA dL_cell_2 ?_
  refine x_icmp_ge (tgt := 12) C dL_cell_3 (by decide) (fun c1 => ?_) (fun c1 => ?_)
  · refine x_iconst (v := 0) C dL_cell_12 (by decide) ?_
    exact x_iret C hr dL_cell_13 ⟨_, rfl, by simp [vcell, c1], rfl⟩
  · refine x_aload_n C dL_cell_6 rfl (lv_at hl 0 rfl) ?_
    refine x_iload_n C dL_cell_7 rfl (lv_at hl 1 rfl) ?_
    refine x_sldA C hX hbl hbA (i := i) ?_ dL_cell_8 ?_
    · obtain ⟨j, hj, e1⟩ := nI_of hi
      subst e1
      exact vp_in_nI (Nat.lt_of_not_le fun q => c1 (nI_le q hj)) hL
    · refine x_goto (tgt := 13) C dL_cell_9 (by decide) ?_
      exact x_iret C hr dL_cell_13 ⟨_, rfl, by simp [vcell, c1], rfl⟩
section XLAW2
variable {p : Program} {l : Launch} {e : Env} {R : Room} {s : State} {m : MethodId} {args : Array Value} {below : List Frame} {meth : Method} {c : Code} {D : va_G} {cy : Nat → ClassId} {σ : Sto} {k n : Nat} {Q : State → Prop} {cc : ByteArray} {nL : Nat} {pc : Nat} {ls : Array Slot} {rest : List Value} {b L : Nat} {xs : Nat → Int32}
theorem x_callCell (C : Cx p s m args meth c D cy (LA s) cc nL RL) (hX : va_X b L xs s s.heap) (hbl : b < s.heap.size) (hL : L < 2 ^ 31) {i : Int32} (hi : ¬ i < 0) (hR : 1 ≤ R.frames ∧ 21 ≤ R.locals) (hk : k ≤ R.cells ∧ n ≤ R.slots) (hcat : (rest.map fun v => v.category).sum ≤ 8) (hl : ls.size = nL) (hd : decode cc pc = .ok (.invokestatic 61, 3)) (kk : Xw p l e R s m args below meth c D cy (LA s) σ k n Q (F0 m (pc + 3) ls (.int (vcell L xs i) :: rest))) : Xw p l e R s m args below meth c D cy (LA s) σ k n Q (F0 m pc ls (.int i :: .ref b :: rest)) := by
  refine x_run (mc := 0) (ms := 0) (rest := rest) (a := ([.ref b, .int i] : List Value).toArray) C (post := PsI (fun r τ => r = vcell L xs i ∧ τ = σ)) (fun H locs h1 h2 h3 => ?_) (fun r τ ⟨x, e1, e2, e3⟩ => by subst e1; subst e2; subst e3; exact kk)
  have hts := C.1.2.2.2.2
  have hbH : H[b]? = s.heap[b]? := h3.2.1 b hbl (Nat.not_le.mpr hbl)
  exact va_runS (As := [.ref b, .int i]) (rest := rest) C.1 (c_L_cell l D cy b L xs hL i hi σ H.size) ⟨callB_of (R := R) 2 hts (aw_cons yk_L_cell) rfl rfl rfl (hts _ in_RL) (hts _ ml_cell) yh_L_cell ⟨hR.1, by show 8 + (2 + 11) + 0 ≤ _; omega⟩, hts _ ys_L_cell⟩ ⟨fun a U g mk q => ⟨q.1, q.2.1, q.2.2.1, KK.calling g mk a q.2.2.2.1, va_X.moved (u := U) (U := U.calling g mk a) (Vm.Alike.refl U.vm) q.2.2.2.2.1, q.2.2.2.2.2⟩, fun U hU hW => ⟨rfl, by rw [hU], by rw [hU]; exact h1, KK.warm hW C.2.1, by rw [hU]; exact (va_X.moved hW.alike hX).kept hbH, by have := h3.1; omega, fun h => h.elim (fun h => Nat.not_le.mpr hbl (h2 b h)) (fun h => by have := h3.1; omega)⟩⟩ rfl rfl hl rfl (lv_room hcat) hd ⟨hk.1, hk.2⟩
end XLAW2
