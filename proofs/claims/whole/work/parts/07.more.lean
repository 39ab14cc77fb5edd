section XW4
variable {p : Program} {l : Launch} {e : Env} {R : Room} {s : State} {m : MethodId} {args : Array Value} {below : List Frame} {meth : Method} {c : Code} {D : va_G} {cy : Nat → ClassId} {A : Nat → Prop} {σ : Sto} {k n : Nat} {Q : State → Prop} {pc : Nat} {ls : Array Slot} {rest : List Value}
theorem x_topi {x : Int32} (kk : ∀ y : Int32, y = x → Xw p l e R s m args below meth c D cy A σ k n Q (F0 m pc ls (.int y :: rest))) : Xw p l e R s m args below meth c D cy A σ k n Q (F0 m pc ls (.int x :: rest)) := kk x rfl
theorem x_topj {x : Int64} (kk : ∀ y : Int64, y = x → Xw p l e R s m args below meth c D cy A σ k n Q (F0 m pc ls (.long y :: rest))) : Xw p l e R s m args below meth c D cy A σ k n Q (F0 m pc ls (.long x :: rest)) := kk x rfl
theorem x_topq {x : Option Nat} (kk : ∀ y : Option Nat, y = x → Xw p l e R s m args below meth c D cy A σ k n Q (F0 m pc ls (va_rf y :: rest))) : Xw p l e R s m args below meth c D cy A σ k n Q (F0 m pc ls (va_rf x :: rest)) := kk x rfl
theorem x_nameS {g : JFrame} (kk : ∀ τ : Sto, τ = σ → Xw p l e R s m args below meth c D cy A τ k n Q g) : Xw p l e R s m args below meth c D cy A σ k n Q g := kk σ rfl
end XW4
theorem sw_eq {x k : Int32} (h : x.toInt = k.toInt) : x = k := Int32.toInt_inj.mp h
theorem cat_i (x : Int32) : (Value.int x).category = 1 := rfl
theorem cat_r (x : Nat) : (Value.ref x).category = 1 := rfl
theorem cat_l (x : Int64) : (Value.long x).category = 2 := rfl
/-- the same for a method of the JDK -/
theorem mt_ofF {l : Launch} {D : va_G} {cy : Nat → ClassId} {y : MethodName} {bytes : ByteArray} {maxL : Nat} {ret : Option FieldType} {rm : Room} {av : List Value} {σ : Sto} {post : Option Value → Sto → Prop} (hy : plainFor y = true) (hlen : (lg_sl av).length ≤ maxL)
    (body : ∀ (p : Program) (e : Env) (s : State) (m : MethodId) (args : Array Value) (below : List Frame) (meth : Method) (c : Code) (A : Nat → Prop) (ls : Array Slot), Cx p s m args meth c D cy A bytes maxL y.cls → meth.sig.returnType = ret → meth.name = y.name → lv_has ls maxL (lv_args 0 av) →
      Xw p l e rm s m args below meth c D cy A σ 0 0 (MQ below (Qst D cy A post) args s rm.cells rm.slots A) (F0 m 0 ls [])) : Mt l D cy y bytes maxL ret rm av σ post := by
  intro sz
  refine va_MetF (cc := bytes) (maxL := maxL) (ret := ret) hy rfl ?_
  intro p e s m args below meth c s₁ B hml hv
  obtain ⟨rfl, hsz, hP, hK⟩ := hv
  have hts := atoms_spec (ws := Cond.code y bytes maxL ret :: AW) B.pre
  have hown : s.vm.findClass y.cls = some m.cls := findClass_of_methodNamed B.named
  subst hsz
  have hl := lv_entry av (n := maxL) hlen
  rw [lg_entry_eq]
  exact body p e s m av.toArray below meth c (Am σ s.heap.size) _ ⟨⟨B.exec, B.bytes, hml, hown, fun w h => hts w (List.mem_cons_of_mem _ h)⟩, hK, fun q h => Or.inr h, B.notSynchronized⟩ B.returns (name_of_methodNamed B.named B.method).1 hl s.heap [] hP (fun a h => Or.inl h) va_S.rf
theorem lk_ne {x k : Int32} (h : ¬ x = k) : x.toInt ≠ k.toInt := fun q => h (sw_eq q)
