theorem dX11_judge_0 : decode cX11_judge 0 = .ok (.aload_n 0, 1) := by decide +kernel
theorem dX11_judge_1 : decode cX11_judge 1 = .ok (.getfield 31, 3) := by decide +kernel
theorem dX11_judge_4 : decode cX11_judge 4 = .ok (.aload_n 1, 1) := by decide +kernel
theorem dX11_judge_5 : decode cX11_judge 5 = .ok (.getfield 233, 3) := by decide +kernel
theorem dX11_judge_8 : decode cX11_judge 8 = .ok (.aload_n 1, 1) := by decide +kernel
theorem dX11_judge_9 : decode cX11_judge 9 = .ok (.getfield 233, 3) := by decide +kernel
theorem dX11_judge_12 : decode cX11_judge 12 = .ok (.getfield 242, 3) := by decide +kernel
theorem dX11_judge_15 : decode cX11_judge 15 = .ok (.invokevirtual 282, 3) := by decide +kernel
theorem dX11_judge_18 : decode cX11_judge 18 = .ok (.iconst 0, 1) := by decide +kernel
theorem dX11_judge_19 : decode cX11_judge 19 = .ok (.istore_n 3, 1) := by decide +kernel
theorem dX11_judge_20 : decode cX11_judge 20 = .ok (.iload_n 3, 1) := by decide +kernel
theorem dX11_judge_21 : decode cX11_judge 21 = .ok (.iload_n 2, 1) := by decide +kernel
theorem dX11_judge_22 : decode cX11_judge 22 = .ok (.if_icmp .ge 88, 3) := by decide +kernel
theorem dX11_judge_25 : decode cX11_judge 25 = .ok (.iload_n 3, 1) := by decide +kernel
theorem dX11_judge_26 : decode cX11_judge 26 = .ok (.aload_n 0, 1) := by decide +kernel
theorem dX11_judge_27 : decode cX11_judge 27 = .ok (.getfield 62, 3) := by decide +kernel
theorem dX11_judge_30 : decode cX11_judge 30 = .ok (.arraylength, 1) := by decide +kernel
theorem dX11_judge_31 : decode cX11_judge 31 = .ok (.if_icmp .ge 79, 3) := by decide +kernel
theorem dX11_judge_34 : decode cX11_judge 34 = .ok (.aload_n 0, 1) := by decide +kernel
theorem dX11_judge_35 : decode cX11_judge 35 = .ok (.getfield 62, 3) := by decide +kernel
theorem dX11_judge_38 : decode cX11_judge 38 = .ok (.iload_n 3, 1) := by decide +kernel
theorem dX11_judge_39 : decode cX11_judge 39 = .ok (.aaload, 1) := by decide +kernel
theorem dX11_judge_40 : decode cX11_judge 40 = .ok (.astore 4, 2) := by decide +kernel
theorem dX11_judge_42 : decode cX11_judge 42 = .ok (.aload 4, 2) := by decide +kernel
theorem dX11_judge_44 : decode cX11_judge 44 = .ok (.getfield 296, 3) := by decide +kernel
theorem dX11_judge_47 : decode cX11_judge 47 = .ok (.aload_n 1, 1) := by decide +kernel
theorem dX11_judge_48 : decode cX11_judge 48 = .ok (.getfield 222, 3) := by decide +kernel
theorem dX11_judge_51 : decode cX11_judge 51 = .ok (.lcmp, 1) := by decide +kernel
theorem dX11_judge_52 : decode cX11_judge 52 = .ok (.ifCond .eq 18, 3) := by decide +kernel
theorem dX11_judge_55 : decode cX11_judge 55 = .ok (.aload 4, 2) := by decide +kernel
theorem dX11_judge_57 : decode cX11_judge 57 = .ok (.getfield 296, 3) := by decide +kernel
theorem dX11_judge_60 : decode cX11_judge 60 = .ok (.aload_n 1, 1) := by decide +kernel
theorem dX11_judge_61 : decode cX11_judge 61 = .ok (.getfield 222, 3) := by decide +kernel
theorem dX11_judge_64 : decode cX11_judge 64 = .ok (.invokestatic 364, 3) := by decide +kernel
theorem dX11_judge_67 : decode cX11_judge 67 = .ok (.ifCond .eq 7, 3) := by decide +kernel
theorem dX11_judge_70 : decode cX11_judge 70 = .ok (.iconst 1, 1) := by decide +kernel
theorem dX11_judge_71 : decode cX11_judge 71 = .ok (.goto 4, 3) := by decide +kernel
theorem dX11_judge_74 : decode cX11_judge 74 = .ok (.iconst 0, 1) := by decide +kernel
theorem dX11_judge_75 : decode cX11_judge 75 = .ok (.istore 5, 2) := by decide +kernel
theorem dX11_judge_77 : decode cX11_judge 77 = .ok (.iload 5, 2) := by decide +kernel
theorem dX11_judge_79 : decode cX11_judge 79 = .ok (.ifCond .eq 25, 3) := by decide +kernel
theorem dX11_judge_82 : decode cX11_judge 82 = .ok (.aload_n 0, 1) := by decide +kernel
theorem dX11_judge_83 : decode cX11_judge 83 = .ok (.getfield 31, 3) := by decide +kernel
theorem dX11_judge_86 : decode cX11_judge 86 = .ok (.aload_n 1, 1) := by decide +kernel
theorem dX11_judge_87 : decode cX11_judge 87 = .ok (.getfield 233, 3) := by decide +kernel
theorem dX11_judge_90 : decode cX11_judge 90 = .ok (.aload 4, 2) := by decide +kernel
theorem dX11_judge_92 : decode cX11_judge 92 = .ok (.invokevirtual 368, 3) := by decide +kernel
theorem dX11_judge_95 : decode cX11_judge 95 = .ok (.ifCond .ne 9, 3) := by decide +kernel
theorem dX11_judge_98 : decode cX11_judge 98 = .ok (.aload 4, 2) := by decide +kernel
theorem dX11_judge_100 : decode cX11_judge 100 = .ok (.iconst 1, 1) := by decide +kernel
theorem dX11_judge_101 : decode cX11_judge 101 = .ok (.putfield 357, 3) := by decide +kernel
theorem dX11_judge_104 : decode cX11_judge 104 = .ok (.iinc 3 1, 3) := by decide +kernel
theorem dX11_judge_107 : decode cX11_judge 107 = .ok (.goto (-87), 3) := by decide +kernel
theorem dX11_judge_110 : decode cX11_judge 110 = .ok (.return_, 1) := by decide +kernel
abbrev rm_X11_judge : Room := { frames := 3, cells := 0, slots := 0, locals := 65 }
def b_X11_judge_104 (a0 : Nat) (L20 : Option Nat × Int32 × Int32 → Sto → Prop) (Q : Sto → Prop) (p1 : Option Nat) (p2 : Int32) (p3 : Int32) (σ : Sto) : Prop := (∀ x1 : Int32, x1 = p3 + (1 : Int32) → L20 (p1, p2, x1) σ)
set_option maxHeartbeats 4000000 in
set_option maxRecDepth 100000 in
theorem t_X11_judge_104 {p : Program} {l : Launch} {e : Env} {s : State} {m : MethodId} {args : Array Value} {below : List Frame} {meth : Method} {c : Code} {D : va_G} {cy : Nat → ClassId} {A : Nat → Prop} {a0 : Nat} {L20 : Option Nat × Int32 × Int32 → Sto → Prop} {Q : Sto → Prop} (C : Cx p s m args meth c D cy A cX11_judge 6 RX11) (hr : meth.sig.returnType = none) (hnm : meth.name = yX11_judge.name) (hL20 : ∀ (t : Option Nat × Int32 × Int32) (σ : Sto), L20 t σ → ∀ ls : Array Slot, lv_has ls 6 [(0, .ref a0), (1, va_rf t.1), (2, .int t.2.1), (3, .int t.2.2)] → Xw p l e rm_X11_judge s m args below meth c D cy A σ 0 0 (MQ below (Qst D cy A (PsV Q)) args s rm_X11_judge.cells rm_X11_judge.slots A) (F0 m 20 ls [])) (p1 : Option Nat) (p2 : Int32) (p3 : Int32) (σ : Sto) (h : b_X11_judge_104 a0 L20 Q p1 p2 p3 σ) (ls : Array Slot) (hl : lv_has ls 6 [(0, .ref a0), (1, va_rf p1), (2, .int p2), (3, .int p3)]) : Xw p l e rm_X11_judge s m args below meth c D cy A σ 0 0 (MQ below (Qst D cy A (PsV Q)) args s rm_X11_judge.cells rm_X11_judge.slots A) (F0 m 104 ls []) := by
  unfold b_X11_judge_104 at h
  obtain ⟨x1, e2⟩ : ∃ z : Int32, z = p3 + (1 : Int32) := ⟨_, rfl⟩
  have h := h x1 e2
  refine x_iinc (v := x1) (lv' := [(3, .int x1), (0, .ref a0), (1, va_rf p1), (2, .int p2)]) C dX11_judge_104 hl (q0 := 3) rfl (by rw [e2]; rfl) (by decide) (by first | rfl | simp [vrc, cat_i, cat_r, cat_l]) (fun ls hl => ?_)
  refine x_goto (tgt := 20) C dX11_judge_107 (by decide) ?_
  exact hL20 (p1, p2, x1) _ h ls (lv_sub hl [1, 2, 3, 0] rfl)
def b_X11_judge_75 (a0 : Nat) (L20 : Option Nat × Int32 × Int32 → Sto → Prop) (Q : Sto → Prop) (p1 : Option Nat) (p2 : Int32) (p3 : Int32) (p4 : Option Nat) (s0 : Int32) (σ : Sto) : Prop := ((s0 = 0 → b_X11_judge_104 a0 L20 Q p1 p2 p3 σ) ∧ (¬ s0 = 0 → (sK σ a0 = 11 ∧ (∃ b3 : Nat, p1 = some b3 ∧ (sK σ b3 = 8 ∧ (∃ b6 : Nat, sP σ a0 2 = some b6 ∧ (sK σ b6 = 10 ∧ (wp_X10_keeps b6 (sP σ b3 7) p4 σ (fun (x10 : Int32) (σ9 : Sto) => ((¬ x10 = 0 → b_X11_judge_104 a0 L20 Q p1 p2 p3 σ9) ∧ (x10 = 0 → (∃ b12 : Nat, p4 = some b12 ∧ (sK σ9 b12 = 6 ∧ b_X11_judge_104 a0 L20 Q p1 p2 p3 (stI σ9 b12 5 (1 : Int32)))))))))))))))
set_option maxHeartbeats 4000000 in
set_option maxRecDepth 100000 in
theorem t_X11_judge_75 {p : Program} {l : Launch} {e : Env} {s : State} {m : MethodId} {args : Array Value} {below : List Frame} {meth : Method} {c : Code} {D : va_G} {cy : Nat → ClassId} {A : Nat → Prop} {a0 : Nat} {L20 : Option Nat × Int32 × Int32 → Sto → Prop} {Q : Sto → Prop} (C : Cx p s m args meth c D cy A cX11_judge 6 RX11) (hr : meth.sig.returnType = none) (hnm : meth.name = yX11_judge.name) (hL20 : ∀ (t : Option Nat × Int32 × Int32) (σ : Sto), L20 t σ → ∀ ls : Array Slot, lv_has ls 6 [(0, .ref a0), (1, va_rf t.1), (2, .int t.2.1), (3, .int t.2.2)] → Xw p l e rm_X11_judge s m args below meth c D cy A σ 0 0 (MQ below (Qst D cy A (PsV Q)) args s rm_X11_judge.cells rm_X11_judge.slots A) (F0 m 20 ls [])) (p1 : Option Nat) (p2 : Int32) (p3 : Int32) (p4 : Option Nat) (s0 : Int32) (σ : Sto) (h : b_X11_judge_75 a0 L20 Q p1 p2 p3 p4 s0 σ) (ls : Array Slot) (hl : lv_has ls 6 [(0, .ref a0), (1, va_rf p1), (2, .int p2), (3, .int p3), (4, va_rf p4)]) : Xw p l e rm_X11_judge s m args below meth c D cy A σ 0 0 (MQ below (Qst D cy A (PsV Q)) args s rm_X11_judge.cells rm_X11_judge.slots A) (F0 m 75 ls [.int s0]) := by
  unfold b_X11_judge_75 at h
  refine x_istore (i := 5) (lv' := [(5, .int s0), (0, .ref a0), (1, va_rf p1), (2, .int p2), (3, .int p3), (4, va_rf p4)]) C dX11_judge_75 hl (by decide) (by first | rfl | simp [vrc, cat_i, cat_r, cat_l]) (fun ls hl => ?_)
  refine x_iload C dX11_judge_77 (lv_at hl 0 rfl) ?_
  refine x_if_eq (tgt := 104) C dX11_judge_79 (by decide) (fun c1 => ?_) (fun c1 => ?_)
  · have h := h.1 c1
    exact t_X11_judge_104 C hr hnm hL20 p1 p2 p3 _ h ls (lv_sub hl [1, 2, 3, 4] rfl)
  · have h := h.2 c1
    refine x_aload_n C dX11_judge_82 rfl (lv_at hl 1 rfl) ?_
    obtain ⟨g2, h⟩ := h
    refine x_getP C fl_RX11_31 g2 dX11_judge_83 ?_
    refine x_aload_nq C dX11_judge_86 rfl (lv_at hl 2 rfl) ?_
    obtain ⟨b3, g4, h⟩ := h
    refine x_nn0 g4 ?_
    obtain ⟨g5, h⟩ := h
    refine x_getP C fl_RX11_233 g5 dX11_judge_87 ?_
    refine x_aloadq C dX11_judge_90 (lv_at hl 5 rfl) ?_
    obtain ⟨b6, g7, h⟩ := h
    refine x_nn2 g7 ?_
    obtain ⟨g8, h⟩ := h
    refine x_callV (rm := rm_X10_keeps) (rest := []) (As := [va_rf (sP σ b3 7), va_rf p4]) C cy_RX11_368 g8 (by decide) (by decide) rfl rfl (Nat.le_of_ble_eq_true rfl) hl.1 dX11_judge_92 (c_X10_keeps l D cy b6 (sP σ b3 7) p4 σ _ h) (ks_i (fun x10 σ9 h => ?_))
    refine x_if_ne (tgt := 104) C dX11_judge_95 (by decide) (fun c11 => ?_) (fun c11 => ?_)
    · have h := h.1 c11
      exact t_X11_judge_104 C hr hnm hL20 p1 p2 p3 _ h ls (lv_sub hl [1, 2, 3, 4] rfl)
    · have h := h.2 c11
      refine x_aloadq C dX11_judge_98 (lv_at hl 5 rfl) ?_
      refine x_iconst (v := 1) C dX11_judge_100 (by decide) ?_
      obtain ⟨b12, g13, h⟩ := h
      refine x_nn1 g13 ?_
      obtain ⟨g14, h⟩ := h
      refine x_putZ C fl_RX11_357 (Or.inl rfl) (by decide) g14 dX11_judge_101 ?_
      exact t_X11_judge_104 C hr hnm hL20 p1 p2 p3 _ h ls (lv_sub hl [1, 2, 3, 4] rfl)
def b_X11_judge_70 (a0 : Nat) (L20 : Option Nat × Int32 × Int32 → Sto → Prop) (Q : Sto → Prop) (p1 : Option Nat) (p2 : Int32) (p3 : Int32) (p4 : Option Nat) (σ : Sto) : Prop := b_X11_judge_75 a0 L20 Q p1 p2 p3 p4 (1 : Int32) σ
set_option maxHeartbeats 4000000 in
set_option maxRecDepth 100000 in
theorem t_X11_judge_70 {p : Program} {l : Launch} {e : Env} {s : State} {m : MethodId} {args : Array Value} {below : List Frame} {meth : Method} {c : Code} {D : va_G} {cy : Nat → ClassId} {A : Nat → Prop} {a0 : Nat} {L20 : Option Nat × Int32 × Int32 → Sto → Prop} {Q : Sto → Prop} (C : Cx p s m args meth c D cy A cX11_judge 6 RX11) (hr : meth.sig.returnType = none) (hnm : meth.name = yX11_judge.name) (hL20 : ∀ (t : Option Nat × Int32 × Int32) (σ : Sto), L20 t σ → ∀ ls : Array Slot, lv_has ls 6 [(0, .ref a0), (1, va_rf t.1), (2, .int t.2.1), (3, .int t.2.2)] → Xw p l e rm_X11_judge s m args below meth c D cy A σ 0 0 (MQ below (Qst D cy A (PsV Q)) args s rm_X11_judge.cells rm_X11_judge.slots A) (F0 m 20 ls [])) (p1 : Option Nat) (p2 : Int32) (p3 : Int32) (p4 : Option Nat) (σ : Sto) (h : b_X11_judge_70 a0 L20 Q p1 p2 p3 p4 σ) (ls : Array Slot) (hl : lv_has ls 6 [(0, .ref a0), (1, va_rf p1), (2, .int p2), (3, .int p3), (4, va_rf p4)]) : Xw p l e rm_X11_judge s m args below meth c D cy A σ 0 0 (MQ below (Qst D cy A (PsV Q)) args s rm_X11_judge.cells rm_X11_judge.slots A) (F0 m 70 ls []) := by
  unfold b_X11_judge_70 at h
  refine x_iconst (v := 1) C dX11_judge_70 (by decide) ?_
  refine x_goto (tgt := 75) C dX11_judge_71 (by decide) ?_
  exact t_X11_judge_75 C hr hnm hL20 p1 p2 p3 p4 (1 : Int32) _ h ls (lv_sub hl [0, 1, 2, 3, 4] rfl)
def f_X11_judge_20 (a0 : Nat)  (Q : Sto → Prop) (L20 : Option Nat × Int32 × Int32 → Sto → Prop) (t : Option Nat × Int32 × Int32) (σ : Sto) : Prop := ((t.2.1 ≤ t.2.2 → Q σ) ∧ (¬ t.2.1 ≤ t.2.2 → (sK σ a0 = 11 ∧ (∃ b3 : Nat, sP σ a0 9 = some b3 ∧ (sK σ b3 = 20 ∧ (((nI (sN σ b3)) ≤ t.2.2 → Q σ) ∧ (¬ (nI (sN σ b3)) ≤ t.2.2 → (vp_in t.2.2 (sN σ b3) ∧ (∀ r8 : Option Nat, r8 = sP σ b3 t.2.2.toNatClampNeg → (∃ b10 : Nat, r8 = some b10 ∧ (sK σ b10 = 6 ∧ (∀ y13 : Int64, y13 = sJ σ b10 1 → (∃ b15 : Nat, t.1 = some b15 ∧ (sK σ b15 = 8 ∧ (∀ y18 : Int64, y18 = sJ σ b15 5 → (((lg_cmp y13 y18) = 0 → b_X11_judge_70 a0 L20 Q t.1 t.2.1 t.2.2 r8 σ) ∧ (¬ (lg_cmp y13 y18) = 0 → (∀ y21 : Int64, y21 = sJ σ b10 1 → (∀ y23 : Int64, y23 = sJ σ b15 5 → (wp_X11_isBehind y21 y23 σ (fun (x26 : Int32) (σ25 : Sto) => ((x26 = 0 → b_X11_judge_75 a0 L20 Q t.1 t.2.1 t.2.2 r8 (0 : Int32) σ25) ∧ (¬ x26 = 0 → b_X11_judge_70 a0 L20 Q t.1 t.2.1 t.2.2 r8 σ25)))))))))))))))))))))))
set_option maxHeartbeats 4000000 in
set_option maxRecDepth 100000 in
theorem t_X11_judge_20 {p : Program} {l : Launch} {e : Env} {s : State} {m : MethodId} {args : Array Value} {below : List Frame} {meth : Method} {c : Code} {D : va_G} {cy : Nat → ClassId} {A : Nat → Prop} {a0 : Nat} {Q : Sto → Prop} {L20 : Option Nat × Int32 × Int32 → Sto → Prop} (C : Cx p s m args meth c D cy A cX11_judge 6 RX11) (hr : meth.sig.returnType = none) (hnm : meth.name = yX11_judge.name) (hL20 : ∀ (t : Option Nat × Int32 × Int32) (σ : Sto), L20 t σ → ∀ ls : Array Slot, lv_has ls 6 [(0, .ref a0), (1, va_rf t.1), (2, .int t.2.1), (3, .int t.2.2)] → Xw p l e rm_X11_judge s m args below meth c D cy A σ 0 0 (MQ below (Qst D cy A (PsV Q)) args s rm_X11_judge.cells rm_X11_judge.slots A) (F0 m 20 ls [])) : ∀ (t : Option Nat × Int32 × Int32) (σ : Sto), f_X11_judge_20 a0  Q L20 t σ → ∀ ls : Array Slot, lv_has ls 6 [(0, .ref a0), (1, va_rf t.1), (2, .int t.2.1), (3, .int t.2.2)] → Xw p l e rm_X11_judge s m args below meth c D cy A σ 0 0 (MQ below (Qst D cy A (PsV Q)) args s rm_X11_judge.cells rm_X11_judge.slots A) (F0 m 20 ls []) := by
  intro t σ h ls hl
  unfold f_X11_judge_20 at h
  refine x_iload_n C dX11_judge_20 rfl (lv_at hl 3 rfl) ?_
  refine x_iload_n C dX11_judge_21 rfl (lv_at hl 2 rfl) ?_
  refine x_icmp_ge (tgt := 110) C dX11_judge_22 (by decide) (fun c1 => ?_) (fun c1 => ?_)
  · have h := h.1 c1
    exact x_vret C hr dX11_judge_110 ⟨rfl, h⟩
  · have h := h.2 c1
    refine x_iload_n C dX11_judge_25 rfl (lv_at hl 3 rfl) ?_
    refine x_aload_n C dX11_judge_26 rfl (lv_at hl 0 rfl) ?_
    obtain ⟨g2, h⟩ := h
    refine x_getP C fl_RX11_62 g2 dX11_judge_27 ?_
    obtain ⟨b3, g4, h⟩ := h
    refine x_nn0 g4 ?_
    obtain ⟨g5, h⟩ := h
    refine x_alen C g5 (by decide) (by decide) dX11_judge_30 ?_
    refine x_icmp_ge (tgt := 110) C dX11_judge_31 (by decide) (fun c6 => ?_) (fun c6 => ?_)
    · have h := h.1 c6
      exact x_vret C hr dX11_judge_110 ⟨rfl, h⟩
    · have h := h.2 c6
      refine x_aload_n C dX11_judge_34 rfl (lv_at hl 0 rfl) ?_
      refine x_getP C fl_RX11_62 g2 dX11_judge_35 ?_
      refine x_iload_n C dX11_judge_38 rfl (lv_at hl 3 rfl) ?_
      refine x_nn1 g4 ?_
      obtain ⟨g7, h⟩ := h
      refine x_aald C rak_20 g5 g7 dX11_judge_39 ?_
      refine x_topq (fun r8 e9 => ?_)
      have h := h r8 e9
      refine x_astoreq (i := 4) (lv' := [(4, va_rf r8), (0, .ref a0), (1, va_rf t.1), (2, .int t.2.1), (3, .int t.2.2)]) C dX11_judge_40 hl (by decide) (by first | rfl | simp [vrc, cat_i, cat_r, cat_l]) (fun ls hl => ?_)
      refine x_aloadq C dX11_judge_42 (lv_at hl 0 rfl) ?_
      obtain ⟨b10, g11, h⟩ := h
      refine x_nn0 g11 ?_
      obtain ⟨g12, h⟩ := h
      refine x_getJ C fl_RX11_296 g12 dX11_judge_44 ?_
      refine x_topj (fun y13 e14 => ?_)
      have h := h y13 e14
      refine x_aload_nq C dX11_judge_47 rfl (lv_at hl 2 rfl) ?_
      obtain ⟨b15, g16, h⟩ := h
      refine x_nn0 g16 ?_
      obtain ⟨g17, h⟩ := h
      refine x_getJ C fl_RX11_222 g17 dX11_judge_48 ?_
      refine x_topj (fun y18 e19 => ?_)
      have h := h y18 e19
      refine x_lcmp C dX11_judge_51 ?_
      refine x_if_eq (tgt := 70) C dX11_judge_52 (by decide) (fun c20 => ?_) (fun c20 => ?_)
      · have h := h.1 c20
        exact t_X11_judge_70 C hr hnm hL20 t.1 t.2.1 t.2.2 r8 _ h ls (lv_sub hl [1, 2, 3, 4, 0] rfl)
      · have h := h.2 c20
        refine x_aloadq C dX11_judge_55 (lv_at hl 0 rfl) ?_
        refine x_nn0 g11 ?_
        refine x_getJ C fl_RX11_296 g12 dX11_judge_57 ?_
        refine x_topj (fun y21 e22 => ?_)
        have h := h y21 e22
        refine x_aload_nq C dX11_judge_60 rfl (lv_at hl 2 rfl) ?_
        refine x_nn0 g16 ?_
        refine x_getJ C fl_RX11_222 g17 dX11_judge_61 ?_
        refine x_topj (fun y23 e24 => ?_)
        have h := h y23 e24
        refine x_callS (rm := rm_X11_isBehind) (rest := []) (As := [.long y21, .long y23]) C cs_RX11_364 (by decide) (by decide) rfl rfl (Nat.le_of_ble_eq_true rfl) hl.1 dX11_judge_64 (c_X11_isBehind l D cy y21 y23 σ _ h) (ks_i (fun x26 σ25 h => ?_))
        refine x_if_eq (tgt := 74) C dX11_judge_67 (by decide) (fun c27 => ?_) (fun c27 => ?_)
        · have h := h.1 c27
          refine x_iconst (v := 0) C dX11_judge_74 (by decide) ?_
          exact t_X11_judge_75 C hr hnm hL20 t.1 t.2.1 t.2.2 r8 (0 : Int32) _ h ls (lv_sub hl [1, 2, 3, 4, 0] rfl)
        · have h := h.2 c27
          exact t_X11_judge_70 C hr hnm hL20 t.1 t.2.1 t.2.2 r8 _ h ls (lv_sub hl [1, 2, 3, 4, 0] rfl)
def wp_X11_judge (a0 : Nat) (p1 : Option Nat) (p2 : Int32) (σ : Sto) (Q : Sto → Prop) : Prop := (sK σ a0 = 11 ∧ (∃ b2 : Nat, p1 = some b2 ∧ (sK σ b2 = 8 ∧ (∃ b5 : Nat, sP σ b2 7 = some b5 ∧ (sK σ b5 = 2 ∧ (∀ x8 : Int32, x8 = sI σ b5 1 → (∃ b10 : Nat, sP σ a0 2 = some b10 ∧ (sK σ b10 = 10 ∧ (wp_X10_replay b10 (sP σ b2 7) x8 σ (fun (σ13 : Sto) => LF (f_X11_judge_20 a0  Q) (p1, p2, (0 : Int32)) σ13))))))))))
set_option maxHeartbeats 4000000 in
set_option maxRecDepth 100000 in
theorem c_X11_judge (l : Launch) (D : va_G) (cy : Nat → ClassId) (a0 : Nat) (p1 : Option Nat) (p2 : Int32) (σ : Sto) (Q : Sto → Prop) (h : wp_X11_judge a0 p1 p2 σ Q) : Mt l D cy yX11_judge cX11_judge 6 none rm_X11_judge [.ref a0, va_rf p1, .int p2] σ (PsV Q) := by
  unfold wp_X11_judge at h
  refine mt_of (by decide +kernel) (by simp [lg_sl, vrc, cat_i, cat_r, cat_l]) ?_
  intro p e s m args below meth c A ls C hr hnm hl
  have C : Cx p s m args meth c D cy A cX11_judge 6 RX11 := C
  have hl : lv_has ls 6 [(0, .ref a0), (1, va_rf p1), (2, .int p2)] := by simpa [lv_args, vrc, cat_i, cat_r, cat_l] using hl
  refine x_aload_n C dX11_judge_0 rfl (lv_at hl 0 rfl) ?_
  obtain ⟨g1, h⟩ := h
  refine x_getP C fl_RX11_31 g1 dX11_judge_1 ?_
  refine x_aload_nq C dX11_judge_4 rfl (lv_at hl 1 rfl) ?_
  obtain ⟨b2, g3, h⟩ := h
  refine x_nn0 g3 ?_
  obtain ⟨g4, h⟩ := h
  refine x_getP C fl_RX11_233 g4 dX11_judge_5 ?_
  refine x_aload_nq C dX11_judge_8 rfl (lv_at hl 1 rfl) ?_
  refine x_nn0 g3 ?_
  refine x_getP C fl_RX11_233 g4 dX11_judge_9 ?_
  obtain ⟨b5, g6, h⟩ := h
  refine x_nn0 g6 ?_
  obtain ⟨g7, h⟩ := h
  refine x_getI C fl_RX11_242 g7 dX11_judge_12 ?_
  refine x_topi (fun x8 e9 => ?_)
  have h := h x8 e9
  obtain ⟨b10, g11, h⟩ := h
  refine x_nn2 g11 ?_
  obtain ⟨g12, h⟩ := h
  refine x_callV (rm := rm_X10_replay) (rest := []) (As := [va_rf (sP σ b2 7), .int x8]) C cy_RX11_282 g12 (by decide) (by decide) rfl rfl (Nat.le_of_ble_eq_true rfl) hl.1 dX11_judge_15 (c_X10_replay l D cy b10 (sP σ b2 7) x8 σ _ h) (ks_v (fun σ13 h => ?_))
  refine x_iconst (v := 0) C dX11_judge_18 (by decide) ?_
  refine x_istore_n (i := 3) (lv' := [(3, .int (0 : Int32)), (0, .ref a0), (1, va_rf p1), (2, .int p2)]) C dX11_judge_19 rfl hl (by decide) (by first | rfl | simp [vrc, cat_i, cat_r, cat_l]) (fun ls hl => ?_)
  exact h (fun t σ => ∀ ls : Array Slot, lv_has ls 6 [(0, .ref a0), (1, va_rf t.1), (2, .int t.2.1), (3, .int t.2.2)] → Xw p l e rm_X11_judge s m args below meth c D cy A σ 0 0 (MQ below (Qst D cy A (PsV Q)) args s rm_X11_judge.cells rm_X11_judge.slots A) (F0 m 20 ls [])) (t_X11_judge_20 C hr hnm  (fun t σ h => h)) ls (lv_sub hl [1, 2, 3, 0] rfl)
theorem dX11_broken_0 : decode cX11_broken 0 = .ok (.aload_n 0, 1) := by decide +kernel
theorem dX11_broken_1 : decode cX11_broken 1 = .ok (.getfield 213, 3) := by decide +kernel
theorem dX11_broken_4 : decode cX11_broken 4 = .ok (.sipush 200, 3) := by decide +kernel
theorem dX11_broken_7 : decode cX11_broken 7 = .ok (.invokestatic 354, 3) := by decide +kernel
theorem dX11_broken_10 : decode cX11_broken 10 = .ok (.istore_n 1, 1) := by decide +kernel
theorem dX11_broken_11 : decode cX11_broken 11 = .ok (.iconst 0, 1) := by decide +kernel
theorem dX11_broken_12 : decode cX11_broken 12 = .ok (.istore_n 2, 1) := by decide +kernel
theorem dX11_broken_13 : decode cX11_broken 13 = .ok (.iload_n 2, 1) := by decide +kernel
theorem dX11_broken_14 : decode cX11_broken 14 = .ok (.iload_n 1, 1) := by decide +kernel
theorem dX11_broken_15 : decode cX11_broken 15 = .ok (.if_icmp .ge 19, 3) := by decide +kernel
theorem dX11_broken_18 : decode cX11_broken 18 = .ok (.aload_n 0, 1) := by decide +kernel
theorem dX11_broken_19 : decode cX11_broken 19 = .ok (.getfield 62, 3) := by decide +kernel
theorem dX11_broken_22 : decode cX11_broken 22 = .ok (.iload_n 2, 1) := by decide +kernel
theorem dX11_broken_23 : decode cX11_broken 23 = .ok (.aaload, 1) := by decide +kernel
theorem dX11_broken_24 : decode cX11_broken 24 = .ok (.iconst 0, 1) := by decide +kernel
theorem dX11_broken_25 : decode cX11_broken 25 = .ok (.putfield 357, 3) := by decide +kernel
theorem dX11_broken_28 : decode cX11_broken 28 = .ok (.iinc 2 1, 3) := by decide +kernel
theorem dX11_broken_31 : decode cX11_broken 31 = .ok (.goto (-18), 3) := by decide +kernel
theorem dX11_broken_34 : decode cX11_broken 34 = .ok (.aload_n 0, 1) := by decide +kernel
theorem dX11_broken_35 : decode cX11_broken 35 = .ok (.getfield 40, 3) := by decide +kernel
theorem dX11_broken_38 : decode cX11_broken 38 = .ok (.astore_n 2, 1) := by decide +kernel
theorem dX11_broken_39 : decode cX11_broken 39 = .ok (.aload_n 2, 1) := by decide +kernel
theorem dX11_broken_40 : decode cX11_broken 40 = .ok (.arraylength, 1) := by decide +kernel
theorem dX11_broken_41 : decode cX11_broken 41 = .ok (.istore_n 3, 1) := by decide +kernel
theorem dX11_broken_42 : decode cX11_broken 42 = .ok (.iconst 0, 1) := by decide +kernel
theorem dX11_broken_43 : decode cX11_broken 43 = .ok (.istore 4, 2) := by decide +kernel
theorem dX11_broken_45 : decode cX11_broken 45 = .ok (.iload 4, 2) := by decide +kernel
theorem dX11_broken_47 : decode cX11_broken 47 = .ok (.iload_n 3, 1) := by decide +kernel
theorem dX11_broken_48 : decode cX11_broken 48 = .ok (.if_icmp .ge 39, 3) := by decide +kernel
theorem dX11_broken_51 : decode cX11_broken 51 = .ok (.aload_n 2, 1) := by decide +kernel
theorem dX11_broken_52 : decode cX11_broken 52 = .ok (.iload 4, 2) := by decide +kernel
theorem dX11_broken_54 : decode cX11_broken 54 = .ok (.aaload, 1) := by decide +kernel
theorem dX11_broken_55 : decode cX11_broken 55 = .ok (.astore 5, 2) := by decide +kernel
theorem dX11_broken_57 : decode cX11_broken 57 = .ok (.aload 5, 2) := by decide +kernel
theorem dX11_broken_59 : decode cX11_broken 59 = .ok (.invokevirtual 196, 3) := by decide +kernel
theorem dX11_broken_62 : decode cX11_broken 62 = .ok (.ifCond .eq 19, 3) := by decide +kernel
theorem dX11_broken_65 : decode cX11_broken 65 = .ok (.aload 5, 2) := by decide +kernel
theorem dX11_broken_67 : decode cX11_broken 67 = .ok (.getfield 200, 3) := by decide +kernel
theorem dX11_broken_70 : decode cX11_broken 70 = .ok (.iconst 2, 1) := by decide +kernel
theorem dX11_broken_71 : decode cX11_broken 71 = .ok (.if_icmp .eq 10, 3) := by decide +kernel
theorem dX11_broken_74 : decode cX11_broken 74 = .ok (.aload_n 0, 1) := by decide +kernel
theorem dX11_broken_75 : decode cX11_broken 75 = .ok (.aload 5, 2) := by decide +kernel
theorem dX11_broken_77 : decode cX11_broken 77 = .ok (.iload_n 1, 1) := by decide +kernel
theorem dX11_broken_78 : decode cX11_broken 78 = .ok (.invokevirtual 360, 3) := by decide +kernel
theorem dX11_broken_81 : decode cX11_broken 81 = .ok (.iinc 4 1, 3) := by decide +kernel
theorem dX11_broken_84 : decode cX11_broken 84 = .ok (.goto (-39), 3) := by decide +kernel
theorem dX11_broken_87 : decode cX11_broken 87 = .ok (.iconst 0, 1) := by decide +kernel
theorem dX11_broken_88 : decode cX11_broken 88 = .ok (.istore_n 2, 1) := by decide +kernel
theorem dX11_broken_89 : decode cX11_broken 89 = .ok (.iconst 0, 1) := by decide +kernel
theorem dX11_broken_90 : decode cX11_broken 90 = .ok (.istore_n 3, 1) := by decide +kernel
theorem dX11_broken_91 : decode cX11_broken 91 = .ok (.iload_n 3, 1) := by decide +kernel
theorem dX11_broken_92 : decode cX11_broken 92 = .ok (.iload_n 1, 1) := by decide +kernel
theorem dX11_broken_93 : decode cX11_broken 93 = .ok (.if_icmp .ge 29, 3) := by decide +kernel
theorem dX11_broken_96 : decode cX11_broken 96 = .ok (.iload_n 2, 1) := by decide +kernel
theorem dX11_broken_97 : decode cX11_broken 97 = .ok (.aload_n 0, 1) := by decide +kernel
theorem dX11_broken_98 : decode cX11_broken 98 = .ok (.getfield 62, 3) := by decide +kernel
theorem dX11_broken_101 : decode cX11_broken 101 = .ok (.iload_n 3, 1) := by decide +kernel
theorem dX11_broken_102 : decode cX11_broken 102 = .ok (.aaload, 1) := by decide +kernel
theorem dX11_broken_103 : decode cX11_broken 103 = .ok (.getfield 357, 3) := by decide +kernel
theorem dX11_broken_106 : decode cX11_broken 106 = .ok (.ifCond .eq 7, 3) := by decide +kernel
theorem dX11_broken_109 : decode cX11_broken 109 = .ok (.iconst 1, 1) := by decide +kernel
theorem dX11_broken_110 : decode cX11_broken 110 = .ok (.goto 4, 3) := by decide +kernel
theorem dX11_broken_113 : decode cX11_broken 113 = .ok (.iconst 0, 1) := by decide +kernel
theorem dX11_broken_114 : decode cX11_broken 114 = .ok (.iadd, 1) := by decide +kernel
theorem dX11_broken_115 : decode cX11_broken 115 = .ok (.istore_n 2, 1) := by decide +kernel
theorem dX11_broken_116 : decode cX11_broken 116 = .ok (.iinc 3 1, 3) := by decide +kernel
theorem dX11_broken_119 : decode cX11_broken 119 = .ok (.goto (-28), 3) := by decide +kernel
theorem dX11_broken_122 : decode cX11_broken 122 = .ok (.iload_n 2, 1) := by decide +kernel
theorem dX11_broken_123 : decode cX11_broken 123 = .ok (.ireturn, 1) := by decide +kernel
abbrev rm_X11_broken : Room := { frames := 4, cells := 0, slots := 0, locals := 90 }
def b_X11_broken_114 (a0 : Nat) (L91 : Int32 × Int32 × Int32 → Sto → Prop) (Q : Int32 → Sto → Prop) (p1 : Int32) (p3 : Int32) (s0 : Int32) (s1 : Int32) (σ : Sto) : Prop := (∀ x1 : Int32, x1 = s1 + s0 → (∀ x3 : Int32, x3 = p3 + (1 : Int32) → L91 (p1, x1, x3) σ))
set_option maxHeartbeats 4000000 in
set_option maxRecDepth 100000 in
theorem t_X11_broken_114 {p : Program} {l : Launch} {e : Env} {s : State} {m : MethodId} {args : Array Value} {below : List Frame} {meth : Method} {c : Code} {D : va_G} {cy : Nat → ClassId} {A : Nat → Prop} {a0 : Nat} {L91 : Int32 × Int32 × Int32 → Sto → Prop} {Q : Int32 → Sto → Prop} (C : Cx p s m args meth c D cy A cX11_broken 6 RX11) (hr : meth.sig.returnType = (some .int)) (hnm : meth.name = yX11_broken.name) (hL91 : ∀ (t : Int32 × Int32 × Int32) (σ : Sto), L91 t σ → ∀ ls : Array Slot, lv_has ls 6 [(0, .ref a0), (1, .int t.1), (2, .int t.2.1), (3, .int t.2.2)] → Xw p l e rm_X11_broken s m args below meth c D cy A σ 0 0 (MQ below (Qst D cy A (PsI Q)) args s rm_X11_broken.cells rm_X11_broken.slots A) (F0 m 91 ls [])) (p1 : Int32) (p3 : Int32) (s0 : Int32) (s1 : Int32) (σ : Sto) (h : b_X11_broken_114 a0 L91 Q p1 p3 s0 s1 σ) (ls : Array Slot) (hl : lv_has ls 6 [(0, .ref a0), (1, .int p1), (3, .int p3)]) : Xw p l e rm_X11_broken s m args below meth c D cy A σ 0 0 (MQ below (Qst D cy A (PsI Q)) args s rm_X11_broken.cells rm_X11_broken.slots A) (F0 m 114 ls [.int s0, .int s1]) := by
  unfold b_X11_broken_114 at h
  refine x_iadd C dX11_broken_114 ?_
  refine x_topi (fun x1 e2 => ?_)
  have h := h x1 e2
  refine x_istore_n (i := 2) (lv' := [(2, .int x1), (0, .ref a0), (1, .int p1), (3, .int p3)]) C dX11_broken_115 rfl hl (by decide) (by first | rfl | simp [vrc, cat_i, cat_r, cat_l]) (fun ls hl => ?_)
  obtain ⟨x3, e4⟩ : ∃ z : Int32, z = p3 + (1 : Int32) := ⟨_, rfl⟩
  have h := h x3 e4
  refine x_iinc (v := x3) (lv' := [(3, .int x3), (2, .int x1), (0, .ref a0), (1, .int p1)]) C dX11_broken_116 hl (q0 := 3) rfl (by rw [e4]; rfl) (by decide) (by first | rfl | simp [vrc, cat_i, cat_r, cat_l]) (fun ls hl => ?_)
  refine x_goto (tgt := 91) C dX11_broken_119 (by decide) ?_
  exact hL91 (p1, x1, x3) _ h ls (lv_sub hl [2, 3, 1, 0] rfl)
def f_X11_broken_91 (a0 : Nat)  (Q : Int32 → Sto → Prop) (L91 : Int32 × Int32 × Int32 → Sto → Prop) (t : Int32 × Int32 × Int32) (σ : Sto) : Prop := ((t.1 ≤ t.2.2 → Q t.2.1 σ) ∧ (¬ t.1 ≤ t.2.2 → (sK σ a0 = 11 ∧ (∃ b3 : Nat, sP σ a0 9 = some b3 ∧ (sK σ b3 = 20 ∧ (vp_in t.2.2 (sN σ b3) ∧ (∀ r7 : Option Nat, r7 = sP σ b3 t.2.2.toNatClampNeg → (∃ b9 : Nat, r7 = some b9 ∧ (sK σ b9 = 6 ∧ (∀ x12 : Int32, x12 = sI σ b9 5 → ((x12 = 0 → b_X11_broken_114 a0 L91 Q t.1 t.2.2 (0 : Int32) t.2.1 σ) ∧ (¬ x12 = 0 → b_X11_broken_114 a0 L91 Q t.1 t.2.2 (1 : Int32) t.2.1 σ))))))))))))
set_option maxHeartbeats 4000000 in
set_option maxRecDepth 100000 in
theorem t_X11_broken_91 {p : Program} {l : Launch} {e : Env} {s : State} {m : MethodId} {args : Array Value} {below : List Frame} {meth : Method} {c : Code} {D : va_G} {cy : Nat → ClassId} {A : Nat → Prop} {a0 : Nat} {Q : Int32 → Sto → Prop} {L91 : Int32 × Int32 × Int32 → Sto → Prop} (C : Cx p s m args meth c D cy A cX11_broken 6 RX11) (hr : meth.sig.returnType = (some .int)) (hnm : meth.name = yX11_broken.name) (hL91 : ∀ (t : Int32 × Int32 × Int32) (σ : Sto), L91 t σ → ∀ ls : Array Slot, lv_has ls 6 [(0, .ref a0), (1, .int t.1), (2, .int t.2.1), (3, .int t.2.2)] → Xw p l e rm_X11_broken s m args below meth c D cy A σ 0 0 (MQ below (Qst D cy A (PsI Q)) args s rm_X11_broken.cells rm_X11_broken.slots A) (F0 m 91 ls [])) : ∀ (t : Int32 × Int32 × Int32) (σ : Sto), f_X11_broken_91 a0  Q L91 t σ → ∀ ls : Array Slot, lv_has ls 6 [(0, .ref a0), (1, .int t.1), (2, .int t.2.1), (3, .int t.2.2)] → Xw p l e rm_X11_broken s m args below meth c D cy A σ 0 0 (MQ below (Qst D cy A (PsI Q)) args s rm_X11_broken.cells rm_X11_broken.slots A) (F0 m 91 ls []) := by
  intro t σ h ls hl
  unfold f_X11_broken_91 at h
  refine x_iload_n C dX11_broken_91 rfl (lv_at hl 3 rfl) ?_
  refine x_iload_n C dX11_broken_92 rfl (lv_at hl 1 rfl) ?_
  refine x_icmp_ge (tgt := 122) C dX11_broken_93 (by decide) (fun c1 => ?_) (fun c1 => ?_)
  · have h := h.1 c1
    refine x_iload_n C dX11_broken_122 rfl (lv_at hl 2 rfl) ?_
    exact x_iret C hr dX11_broken_123 ⟨_, rfl, h⟩
  · have h := h.2 c1
    refine x_iload_n C dX11_broken_96 rfl (lv_at hl 2 rfl) ?_
    refine x_aload_n C dX11_broken_97 rfl (lv_at hl 0 rfl) ?_
    obtain ⟨g2, h⟩ := h
    refine x_getP C fl_RX11_62 g2 dX11_broken_98 ?_
    refine x_iload_n C dX11_broken_101 rfl (lv_at hl 3 rfl) ?_
    obtain ⟨b3, g4, h⟩ := h
    refine x_nn1 g4 ?_
    obtain ⟨g5, h⟩ := h
    obtain ⟨g6, h⟩ := h
    refine x_aald C rak_20 g5 g6 dX11_broken_102 ?_
    refine x_topq (fun r7 e8 => ?_)
    have h := h r7 e8
    obtain ⟨b9, g10, h⟩ := h
    refine x_nn0 g10 ?_
    obtain ⟨g11, h⟩ := h
    refine x_getZ C fl_RX11_357 g11 dX11_broken_103 ?_
    refine x_topi (fun x12 e13 => ?_)
    have h := h x12 e13
    refine x_if_eq (tgt := 113) C dX11_broken_106 (by decide) (fun c14 => ?_) (fun c14 => ?_)
    · have h := h.1 c14
      refine x_iconst (v := 0) C dX11_broken_113 (by decide) ?_
      exact t_X11_broken_114 C hr hnm hL91 t.1 t.2.2 (0 : Int32) t.2.1 _ h ls (lv_sub hl [0, 1, 3] rfl)
    · have h := h.2 c14
      refine x_iconst (v := 1) C dX11_broken_109 (by decide) ?_
      refine x_goto (tgt := 114) C dX11_broken_110 (by decide) ?_
      exact t_X11_broken_114 C hr hnm hL91 t.1 t.2.2 (1 : Int32) t.2.1 _ h ls (lv_sub hl [0, 1, 3] rfl)
def b_X11_broken_81 (a0 : Nat) (L45 : Int32 × Option Nat × Int32 × Int32 → Sto → Prop) (Q : Int32 → Sto → Prop) (p1 : Int32) (p2 : Option Nat) (p3 : Int32) (p4 : Int32) (σ : Sto) : Prop := (∀ x1 : Int32, x1 = p4 + (1 : Int32) → L45 (p1, p2, p3, x1) σ)
set_option maxHeartbeats 4000000 in
set_option maxRecDepth 100000 in
theorem t_X11_broken_81 {p : Program} {l : Launch} {e : Env} {s : State} {m : MethodId} {args : Array Value} {below : List Frame} {meth : Method} {c : Code} {D : va_G} {cy : Nat → ClassId} {A : Nat → Prop} {a0 : Nat} {L45 : Int32 × Option Nat × Int32 × Int32 → Sto → Prop} {Q : Int32 → Sto → Prop} (C : Cx p s m args meth c D cy A cX11_broken 6 RX11) (hr : meth.sig.returnType = (some .int)) (hnm : meth.name = yX11_broken.name) (hL45 : ∀ (t : Int32 × Option Nat × Int32 × Int32) (σ : Sto), L45 t σ → ∀ ls : Array Slot, lv_has ls 6 [(0, .ref a0), (1, .int t.1), (2, va_rf t.2.1), (3, .int t.2.2.1), (4, .int t.2.2.2)] → Xw p l e rm_X11_broken s m args below meth c D cy A σ 0 0 (MQ below (Qst D cy A (PsI Q)) args s rm_X11_broken.cells rm_X11_broken.slots A) (F0 m 45 ls [])) (p1 : Int32) (p2 : Option Nat) (p3 : Int32) (p4 : Int32) (σ : Sto) (h : b_X11_broken_81 a0 L45 Q p1 p2 p3 p4 σ) (ls : Array Slot) (hl : lv_has ls 6 [(0, .ref a0), (1, .int p1), (2, va_rf p2), (3, .int p3), (4, .int p4)]) : Xw p l e rm_X11_broken s m args below meth c D cy A σ 0 0 (MQ below (Qst D cy A (PsI Q)) args s rm_X11_broken.cells rm_X11_broken.slots A) (F0 m 81 ls []) := by
  unfold b_X11_broken_81 at h
  obtain ⟨x1, e2⟩ : ∃ z : Int32, z = p4 + (1 : Int32) := ⟨_, rfl⟩
  have h := h x1 e2
  refine x_iinc (v := x1) (lv' := [(4, .int x1), (0, .ref a0), (1, .int p1), (2, va_rf p2), (3, .int p3)]) C dX11_broken_81 hl (q0 := 4) rfl (by rw [e2]; rfl) (by decide) (by first | rfl | simp [vrc, cat_i, cat_r, cat_l]) (fun ls hl => ?_)
  refine x_goto (tgt := 45) C dX11_broken_84 (by decide) ?_
  exact hL45 (p1, p2, p3, x1) _ h ls (lv_sub hl [1, 2, 3, 4, 0] rfl)
def f_X11_broken_45 (a0 : Nat)  (Q : Int32 → Sto → Prop) (L45 : Int32 × Option Nat × Int32 × Int32 → Sto → Prop) (t : Int32 × Option Nat × Int32 × Int32) (σ : Sto) : Prop := ((t.2.2.1 ≤ t.2.2.2 → LF (f_X11_broken_91 a0  Q) (t.1, (0 : Int32), (0 : Int32)) σ) ∧ (¬ t.2.2.1 ≤ t.2.2.2 → (∃ b2 : Nat, t.2.1 = some b2 ∧ (sK σ b2 = 21 ∧ (vp_in t.2.2.2 (sN σ b2) ∧ (∀ r6 : Option Nat, r6 = sP σ b2 t.2.2.2.toNatClampNeg → (∃ b8 : Nat, r6 = some b8 ∧ (sK σ b8 = 8 ∧ (wp_X8_leads b8  σ (fun (x12 : Int32) (σ11 : Sto) => ((x12 = 0 → b_X11_broken_81 a0 L45 Q t.1 t.2.1 t.2.2.1 t.2.2.2 σ11) ∧ (¬ x12 = 0 → (sK σ11 b8 = 8 ∧ (∀ x15 : Int32, x15 = sI σ11 b8 4 → ((x15 = (2 : Int32) → b_X11_broken_81 a0 L45 Q t.1 t.2.1 t.2.2.1 t.2.2.2 σ11) ∧ (¬ x15 = (2 : Int32) → (sK σ11 a0 = 11 ∧ (wp_X11_judge a0 r6 t.1 σ11 (fun (σ19 : Sto) => b_X11_broken_81 a0 L45 Q t.1 t.2.1 t.2.2.1 t.2.2.2 σ19)))))))))))))))))))
set_option maxHeartbeats 4000000 in
set_option maxRecDepth 100000 in
theorem t_X11_broken_45 {p : Program} {l : Launch} {e : Env} {s : State} {m : MethodId} {args : Array Value} {below : List Frame} {meth : Method} {c : Code} {D : va_G} {cy : Nat → ClassId} {A : Nat → Prop} {a0 : Nat} {Q : Int32 → Sto → Prop} {L45 : Int32 × Option Nat × Int32 × Int32 → Sto → Prop} (C : Cx p s m args meth c D cy A cX11_broken 6 RX11) (hr : meth.sig.returnType = (some .int)) (hnm : meth.name = yX11_broken.name) (hL45 : ∀ (t : Int32 × Option Nat × Int32 × Int32) (σ : Sto), L45 t σ → ∀ ls : Array Slot, lv_has ls 6 [(0, .ref a0), (1, .int t.1), (2, va_rf t.2.1), (3, .int t.2.2.1), (4, .int t.2.2.2)] → Xw p l e rm_X11_broken s m args below meth c D cy A σ 0 0 (MQ below (Qst D cy A (PsI Q)) args s rm_X11_broken.cells rm_X11_broken.slots A) (F0 m 45 ls [])) : ∀ (t : Int32 × Option Nat × Int32 × Int32) (σ : Sto), f_X11_broken_45 a0  Q L45 t σ → ∀ ls : Array Slot, lv_has ls 6 [(0, .ref a0), (1, .int t.1), (2, va_rf t.2.1), (3, .int t.2.2.1), (4, .int t.2.2.2)] → Xw p l e rm_X11_broken s m args below meth c D cy A σ 0 0 (MQ below (Qst D cy A (PsI Q)) args s rm_X11_broken.cells rm_X11_broken.slots A) (F0 m 45 ls []) := by
  intro t σ h ls hl
  unfold f_X11_broken_45 at h
  refine x_iload C dX11_broken_45 (lv_at hl 4 rfl) ?_
  refine x_iload_n C dX11_broken_47 rfl (lv_at hl 3 rfl) ?_
  refine x_icmp_ge (tgt := 87) C dX11_broken_48 (by decide) (fun c1 => ?_) (fun c1 => ?_)
  · have h := h.1 c1
    refine x_iconst (v := 0) C dX11_broken_87 (by decide) ?_
    refine x_istore_n (i := 2) (lv' := [(2, .int (0 : Int32)), (0, .ref a0), (1, .int t.1), (3, .int t.2.2.1), (4, .int t.2.2.2)]) C dX11_broken_88 rfl hl (by decide) (by first | rfl | simp [vrc, cat_i, cat_r, cat_l]) (fun ls hl => ?_)
    refine x_iconst (v := 0) C dX11_broken_89 (by decide) ?_
    refine x_istore_n (i := 3) (lv' := [(3, .int (0 : Int32)), (2, .int (0 : Int32)), (0, .ref a0), (1, .int t.1), (4, .int t.2.2.2)]) C dX11_broken_90 rfl hl (by decide) (by first | rfl | simp [vrc, cat_i, cat_r, cat_l]) (fun ls hl => ?_)
    exact h (fun t σ => ∀ ls : Array Slot, lv_has ls 6 [(0, .ref a0), (1, .int t.1), (2, .int t.2.1), (3, .int t.2.2)] → Xw p l e rm_X11_broken s m args below meth c D cy A σ 0 0 (MQ below (Qst D cy A (PsI Q)) args s rm_X11_broken.cells rm_X11_broken.slots A) (F0 m 91 ls [])) (t_X11_broken_91 C hr hnm  (fun t σ h => h)) ls (lv_sub hl [2, 3, 1, 0] rfl)
  · have h := h.2 c1
    refine x_aload_nq C dX11_broken_51 rfl (lv_at hl 2 rfl) ?_
    refine x_iload C dX11_broken_52 (lv_at hl 4 rfl) ?_
    obtain ⟨b2, g3, h⟩ := h
    refine x_nn1 g3 ?_
    obtain ⟨g4, h⟩ := h
    obtain ⟨g5, h⟩ := h
    refine x_aald C rak_21 g4 g5 dX11_broken_54 ?_
    refine x_topq (fun r6 e7 => ?_)
    have h := h r6 e7
    refine x_astoreq (i := 5) (lv' := [(5, va_rf r6), (0, .ref a0), (1, .int t.1), (2, va_rf t.2.1), (3, .int t.2.2.1), (4, .int t.2.2.2)]) C dX11_broken_55 hl (by decide) (by first | rfl | simp [vrc, cat_i, cat_r, cat_l]) (fun ls hl => ?_)
    refine x_aloadq C dX11_broken_57 (lv_at hl 0 rfl) ?_
    obtain ⟨b8, g9, h⟩ := h
    refine x_nn0 g9 ?_
    obtain ⟨g10, h⟩ := h
    refine x_callV (rm := rm_X8_leads) (rest := []) (As := []) C cy_RX11_196 g10 (by decide) (by decide) rfl rfl (Nat.le_of_ble_eq_true rfl) hl.1 dX11_broken_59 (c_X8_leads l D cy b8  σ _ h) (ks_i (fun x12 σ11 h => ?_))
    refine x_if_eq (tgt := 81) C dX11_broken_62 (by decide) (fun c13 => ?_) (fun c13 => ?_)
    · have h := h.1 c13
      exact t_X11_broken_81 C hr hnm hL45 t.1 t.2.1 t.2.2.1 t.2.2.2 _ h ls (lv_sub hl [1, 2, 3, 4, 5] rfl)
    · have h := h.2 c13
      refine x_aloadq C dX11_broken_65 (lv_at hl 0 rfl) ?_
      refine x_nn0 g9 ?_
      obtain ⟨g14, h⟩ := h
      refine x_getI C fl_RX11_200 g14 dX11_broken_67 ?_
      refine x_topi (fun x15 e16 => ?_)
      have h := h x15 e16
      refine x_iconst (v := 2) C dX11_broken_70 (by decide) ?_
      refine x_icmp_eq (tgt := 81) C dX11_broken_71 (by decide) (fun c17 => ?_) (fun c17 => ?_)
      · have h := h.1 c17
        exact t_X11_broken_81 C hr hnm hL45 t.1 t.2.1 t.2.2.1 t.2.2.2 _ h ls (lv_sub hl [1, 2, 3, 4, 5] rfl)
      · have h := h.2 c17
        refine x_aload_n C dX11_broken_74 rfl (lv_at hl 1 rfl) ?_
        refine x_aloadq C dX11_broken_75 (lv_at hl 0 rfl) ?_
        refine x_iload_n C dX11_broken_77 rfl (lv_at hl 2 rfl) ?_
        obtain ⟨g18, h⟩ := h
        refine x_callV (rm := rm_X11_judge) (rest := []) (As := [va_rf r6, .int t.1]) C cy_RX11_360 g18 (by decide) (by decide) rfl rfl (Nat.le_of_ble_eq_true rfl) hl.1 dX11_broken_78 (c_X11_judge l D cy a0 r6 t.1 σ11 _ h) (ks_v (fun σ19 h => ?_))
        exact t_X11_broken_81 C hr hnm hL45 t.1 t.2.1 t.2.2.1 t.2.2.2 _ h ls (lv_sub hl [1, 2, 3, 4, 5] rfl)
def f_X11_broken_13 (a0 : Nat)  (Q : Int32 → Sto → Prop) (L13 : Int32 × Int32 → Sto → Prop) (t : Int32 × Int32) (σ : Sto) : Prop := ((t.1 ≤ t.2 → (sK σ a0 = 11 ∧ (∀ r3 : Option Nat, r3 = sP σ a0 3 → (∃ b5 : Nat, r3 = some b5 ∧ (sK σ b5 = 21 ∧ (∀ x8 : Int32, x8 = nI (sN σ b5) → LF (f_X11_broken_45 a0  Q) (t.1, r3, x8, (0 : Int32)) σ)))))) ∧ (¬ t.1 ≤ t.2 → (sK σ a0 = 11 ∧ (∃ b11 : Nat, sP σ a0 9 = some b11 ∧ (sK σ b11 = 20 ∧ (vp_in t.2 (sN σ b11) ∧ (∀ r15 : Option Nat, r15 = sP σ b11 t.2.toNatClampNeg → (∃ b17 : Nat, r15 = some b17 ∧ (sK σ b17 = 6 ∧ (∀ x20 : Int32, x20 = t.2 + (1 : Int32) → L13 (t.1, x20) (stI σ b17 5 (0 : Int32))))))))))))
set_option maxHeartbeats 4000000 in
set_option maxRecDepth 100000 in
theorem t_X11_broken_13 {p : Program} {l : Launch} {e : Env} {s : State} {m : MethodId} {args : Array Value} {below : List Frame} {meth : Method} {c : Code} {D : va_G} {cy : Nat → ClassId} {A : Nat → Prop} {a0 : Nat} {Q : Int32 → Sto → Prop} {L13 : Int32 × Int32 → Sto → Prop} (C : Cx p s m args meth c D cy A cX11_broken 6 RX11) (hr : meth.sig.returnType = (some .int)) (hnm : meth.name = yX11_broken.name) (hL13 : ∀ (t : Int32 × Int32) (σ : Sto), L13 t σ → ∀ ls : Array Slot, lv_has ls 6 [(0, .ref a0), (1, .int t.1), (2, .int t.2)] → Xw p l e rm_X11_broken s m args below meth c D cy A σ 0 0 (MQ below (Qst D cy A (PsI Q)) args s rm_X11_broken.cells rm_X11_broken.slots A) (F0 m 13 ls [])) : ∀ (t : Int32 × Int32) (σ : Sto), f_X11_broken_13 a0  Q L13 t σ → ∀ ls : Array Slot, lv_has ls 6 [(0, .ref a0), (1, .int t.1), (2, .int t.2)] → Xw p l e rm_X11_broken s m args below meth c D cy A σ 0 0 (MQ below (Qst D cy A (PsI Q)) args s rm_X11_broken.cells rm_X11_broken.slots A) (F0 m 13 ls []) := by
  intro t σ h ls hl
  unfold f_X11_broken_13 at h
  refine x_iload_n C dX11_broken_13 rfl (lv_at hl 2 rfl) ?_
  refine x_iload_n C dX11_broken_14 rfl (lv_at hl 1 rfl) ?_
  refine x_icmp_ge (tgt := 34) C dX11_broken_15 (by decide) (fun c1 => ?_) (fun c1 => ?_)
  · have h := h.1 c1
    refine x_aload_n C dX11_broken_34 rfl (lv_at hl 0 rfl) ?_
    obtain ⟨g2, h⟩ := h
    refine x_getP C fl_RX11_40 g2 dX11_broken_35 ?_
    refine x_topq (fun r3 e4 => ?_)
    have h := h r3 e4
    refine x_astore_nq (i := 2) (lv' := [(2, va_rf r3), (0, .ref a0), (1, .int t.1)]) C dX11_broken_38 rfl hl (by decide) (by first | rfl | simp [vrc, cat_i, cat_r, cat_l]) (fun ls hl => ?_)
    refine x_aload_nq C dX11_broken_39 rfl (lv_at hl 0 rfl) ?_
    obtain ⟨b5, g6, h⟩ := h
    refine x_nn0 g6 ?_
    obtain ⟨g7, h⟩ := h
    refine x_alen C g7 (by decide) (by decide) dX11_broken_40 ?_
    refine x_topi (fun x8 e9 => ?_)
    have h := h x8 e9
    refine x_istore_n (i := 3) (lv' := [(3, .int x8), (2, va_rf r3), (0, .ref a0), (1, .int t.1)]) C dX11_broken_41 rfl hl (by decide) (by first | rfl | simp [vrc, cat_i, cat_r, cat_l]) (fun ls hl => ?_)
    refine x_iconst (v := 0) C dX11_broken_42 (by decide) ?_
    refine x_istore (i := 4) (lv' := [(4, .int (0 : Int32)), (3, .int x8), (2, va_rf r3), (0, .ref a0), (1, .int t.1)]) C dX11_broken_43 hl (by decide) (by first | rfl | simp [vrc, cat_i, cat_r, cat_l]) (fun ls hl => ?_)
    exact h (fun t σ => ∀ ls : Array Slot, lv_has ls 6 [(0, .ref a0), (1, .int t.1), (2, va_rf t.2.1), (3, .int t.2.2.1), (4, .int t.2.2.2)] → Xw p l e rm_X11_broken s m args below meth c D cy A σ 0 0 (MQ below (Qst D cy A (PsI Q)) args s rm_X11_broken.cells rm_X11_broken.slots A) (F0 m 45 ls [])) (t_X11_broken_45 C hr hnm  (fun t σ h => h)) ls (lv_sub hl [3, 4, 2, 1, 0] rfl)
  · have h := h.2 c1
    refine x_aload_n C dX11_broken_18 rfl (lv_at hl 0 rfl) ?_
    obtain ⟨g10, h⟩ := h
    refine x_getP C fl_RX11_62 g10 dX11_broken_19 ?_
    refine x_iload_n C dX11_broken_22 rfl (lv_at hl 2 rfl) ?_
    obtain ⟨b11, g12, h⟩ := h
    refine x_nn1 g12 ?_
    obtain ⟨g13, h⟩ := h
    obtain ⟨g14, h⟩ := h
    refine x_aald C rak_20 g13 g14 dX11_broken_23 ?_
    refine x_topq (fun r15 e16 => ?_)
    have h := h r15 e16
    refine x_iconst (v := 0) C dX11_broken_24 (by decide) ?_
    obtain ⟨b17, g18, h⟩ := h
    refine x_nn1 g18 ?_
    obtain ⟨g19, h⟩ := h
    refine x_putZ C fl_RX11_357 (Or.inl rfl) (by decide) g19 dX11_broken_25 ?_
    obtain ⟨x20, e21⟩ : ∃ z : Int32, z = t.2 + (1 : Int32) := ⟨_, rfl⟩
    have h := h x20 e21
    refine x_iinc (v := x20) (lv' := [(2, .int x20), (0, .ref a0), (1, .int t.1)]) C dX11_broken_28 hl (q0 := 2) rfl (by rw [e21]; rfl) (by decide) (by first | rfl | simp [vrc, cat_i, cat_r, cat_l]) (fun ls hl => ?_)
    refine x_goto (tgt := 13) C dX11_broken_31 (by decide) ?_
    exact hL13 (t.1, x20) _ h ls (lv_sub hl [1, 2, 0] rfl)
def wp_X11_broken (a0 : Nat)  (σ : Sto) (Q : Int32 → Sto → Prop) : Prop := (sK σ a0 = 11 ∧ (∀ x2 : Int32, x2 = sI σ a0 10 → (wp_J9_min_7cf53 x2 (200 : Int32) σ (fun (x5 : Int32) (σ4 : Sto) => LF (f_X11_broken_13 a0  Q) (x5, (0 : Int32)) σ4))))
set_option maxHeartbeats 4000000 in
set_option maxRecDepth 100000 in
theorem c_X11_broken (l : Launch) (D : va_G) (cy : Nat → ClassId) (a0 : Nat)  (σ : Sto) (Q : Int32 → Sto → Prop) (h : wp_X11_broken a0  σ Q) : Mt l D cy yX11_broken cX11_broken 6 (some .int) rm_X11_broken [.ref a0] σ (PsI Q) := by
  unfold wp_X11_broken at h
  refine mt_of (by decide +kernel) (Nat.le_of_ble_eq_true rfl) ?_
  intro p e s m args below meth c A ls C hr hnm hl
  have C : Cx p s m args meth c D cy A cX11_broken 6 RX11 := C
  have hl : lv_has ls 6 [(0, .ref a0)] := hl
  refine x_aload_n C dX11_broken_0 rfl (lv_at hl 0 rfl) ?_
  obtain ⟨g1, h⟩ := h
  refine x_getI C fl_RX11_213 g1 dX11_broken_1 ?_
  refine x_topi (fun x2 e3 => ?_)
  have h := h x2 e3
  refine x_sipush (v := 200) C dX11_broken_4 (by decide) ?_
  refine x_callS (rm := rm_J9_min_7cf53) (rest := []) (As := [.int x2, .int (200 : Int32)]) C cs_RX11_354 (by decide) (by decide) rfl rfl (Nat.le_of_ble_eq_true rfl) hl.1 dX11_broken_7 (c_J9_min_7cf53 l D cy x2 (200 : Int32) σ _ h) (ks_i (fun x5 σ4 h => ?_))
  refine x_istore_n (i := 1) (lv' := [(1, .int x5), (0, .ref a0)]) C dX11_broken_10 rfl hl (by decide) (by first | rfl | simp [vrc, cat_i, cat_r, cat_l]) (fun ls hl => ?_)
  refine x_iconst (v := 0) C dX11_broken_11 (by decide) ?_
  refine x_istore_n (i := 2) (lv' := [(2, .int (0 : Int32)), (1, .int x5), (0, .ref a0)]) C dX11_broken_12 rfl hl (by decide) (by first | rfl | simp [vrc, cat_i, cat_r, cat_l]) (fun ls hl => ?_)
  exact h (fun t σ => ∀ ls : Array Slot, lv_has ls 6 [(0, .ref a0), (1, .int t.1), (2, .int t.2)] → Xw p l e rm_X11_broken s m args below meth c D cy A σ 0 0 (MQ below (Qst D cy A (PsI Q)) args s rm_X11_broken.cells rm_X11_broken.slots A) (F0 m 13 ls [])) (t_X11_broken_13 C hr hnm  (fun t σ h => h)) ls (lv_sub hl [2, 1, 0] rfl)
theorem dX11_downs_0 : decode cX11_downs 0 = .ok (.iconst 0, 1) := by decide +kernel
theorem dX11_downs_1 : decode cX11_downs 1 = .ok (.istore_n 1, 1) := by decide +kernel
theorem dX11_downs_2 : decode cX11_downs 2 = .ok (.aload_n 0, 1) := by decide +kernel
theorem dX11_downs_3 : decode cX11_downs 3 = .ok (.getfield 40, 3) := by decide +kernel
theorem dX11_downs_6 : decode cX11_downs 6 = .ok (.astore_n 2, 1) := by decide +kernel
theorem dX11_downs_7 : decode cX11_downs 7 = .ok (.aload_n 2, 1) := by decide +kernel
theorem dX11_downs_8 : decode cX11_downs 8 = .ok (.arraylength, 1) := by decide +kernel
theorem dX11_downs_9 : decode cX11_downs 9 = .ok (.istore_n 3, 1) := by decide +kernel
theorem dX11_downs_10 : decode cX11_downs 10 = .ok (.iconst 0, 1) := by decide +kernel
theorem dX11_downs_11 : decode cX11_downs 11 = .ok (.istore 4, 2) := by decide +kernel
theorem dX11_downs_13 : decode cX11_downs 13 = .ok (.iload 4, 2) := by decide +kernel
theorem dX11_downs_15 : decode cX11_downs 15 = .ok (.iload_n 3, 1) := by decide +kernel
theorem dX11_downs_16 : decode cX11_downs 16 = .ok (.if_icmp .ge 31, 3) := by decide +kernel
theorem dX11_downs_19 : decode cX11_downs 19 = .ok (.aload_n 2, 1) := by decide +kernel
theorem dX11_downs_20 : decode cX11_downs 20 = .ok (.iload 4, 2) := by decide +kernel
theorem dX11_downs_22 : decode cX11_downs 22 = .ok (.aaload, 1) := by decide +kernel
theorem dX11_downs_23 : decode cX11_downs 23 = .ok (.astore 5, 2) := by decide +kernel
theorem dX11_downs_25 : decode cX11_downs 25 = .ok (.iload_n 1, 1) := by decide +kernel
theorem dX11_downs_26 : decode cX11_downs 26 = .ok (.aload 5, 2) := by decide +kernel
theorem dX11_downs_28 : decode cX11_downs 28 = .ok (.getfield 156, 3) := by decide +kernel
theorem dX11_downs_31 : decode cX11_downs 31 = .ok (.ifCond .eq 7, 3) := by decide +kernel
theorem dX11_downs_34 : decode cX11_downs 34 = .ok (.iconst 1, 1) := by decide +kernel
theorem dX11_downs_35 : decode cX11_downs 35 = .ok (.goto 4, 3) := by decide +kernel
theorem dX11_downs_38 : decode cX11_downs 38 = .ok (.iconst 0, 1) := by decide +kernel
theorem dX11_downs_39 : decode cX11_downs 39 = .ok (.iadd, 1) := by decide +kernel
theorem dX11_downs_40 : decode cX11_downs 40 = .ok (.istore_n 1, 1) := by decide +kernel
theorem dX11_downs_41 : decode cX11_downs 41 = .ok (.iinc 4 1, 3) := by decide +kernel
theorem dX11_downs_44 : decode cX11_downs 44 = .ok (.goto (-31), 3) := by decide +kernel
theorem dX11_downs_47 : decode cX11_downs 47 = .ok (.iload_n 1, 1) := by decide +kernel
theorem dX11_downs_48 : decode cX11_downs 48 = .ok (.ireturn, 1) := by decide +kernel
abbrev rm_X11_downs : Room := { frames := 0, cells := 0, slots := 0, locals := 0 }
def b_X11_downs_39 (a0 : Nat) (L13 : Int32 × Option Nat × Int32 × Int32 → Sto → Prop) (Q : Int32 → Sto → Prop) (p2 : Option Nat) (p3 : Int32) (p4 : Int32) (s0 : Int32) (s1 : Int32) (σ : Sto) : Prop := (∀ x1 : Int32, x1 = s1 + s0 → (∀ x3 : Int32, x3 = p4 + (1 : Int32) → L13 (x1, p2, p3, x3) σ))
set_option maxHeartbeats 4000000 in
set_option maxRecDepth 100000 in
theorem t_X11_downs_39 {p : Program} {l : Launch} {e : Env} {s : State} {m : MethodId} {args : Array Value} {below : List Frame} {meth : Method} {c : Code} {D : va_G} {cy : Nat → ClassId} {A : Nat → Prop} {a0 : Nat} {L13 : Int32 × Option Nat × Int32 × Int32 → Sto → Prop} {Q : Int32 → Sto → Prop} (C : Cx p s m args meth c D cy A cX11_downs 6 RX11) (hr : meth.sig.returnType = (some .int)) (hnm : meth.name = yX11_downs.name) (hL13 : ∀ (t : Int32 × Option Nat × Int32 × Int32) (σ : Sto), L13 t σ → ∀ ls : Array Slot, lv_has ls 6 [(1, .int t.1), (2, va_rf t.2.1), (3, .int t.2.2.1), (4, .int t.2.2.2)] → Xw p l e rm_X11_downs s m args below meth c D cy A σ 0 0 (MQ below (Qst D cy A (PsI Q)) args s rm_X11_downs.cells rm_X11_downs.slots A) (F0 m 13 ls [])) (p2 : Option Nat) (p3 : Int32) (p4 : Int32) (s0 : Int32) (s1 : Int32) (σ : Sto) (h : b_X11_downs_39 a0 L13 Q p2 p3 p4 s0 s1 σ) (ls : Array Slot) (hl : lv_has ls 6 [(2, va_rf p2), (3, .int p3), (4, .int p4)]) : Xw p l e rm_X11_downs s m args below meth c D cy A σ 0 0 (MQ below (Qst D cy A (PsI Q)) args s rm_X11_downs.cells rm_X11_downs.slots A) (F0 m 39 ls [.int s0, .int s1]) := by
  unfold b_X11_downs_39 at h
  refine x_iadd C dX11_downs_39 ?_
  refine x_topi (fun x1 e2 => ?_)
  have h := h x1 e2
  refine x_istore_n (i := 1) (lv' := [(1, .int x1), (2, va_rf p2), (3, .int p3), (4, .int p4)]) C dX11_downs_40 rfl hl (by decide) (by first | rfl | simp [vrc, cat_i, cat_r, cat_l]) (fun ls hl => ?_)
  obtain ⟨x3, e4⟩ : ∃ z : Int32, z = p4 + (1 : Int32) := ⟨_, rfl⟩
  have h := h x3 e4
  refine x_iinc (v := x3) (lv' := [(4, .int x3), (1, .int x1), (2, va_rf p2), (3, .int p3)]) C dX11_downs_41 hl (q0 := 3) rfl (by rw [e4]; rfl) (by decide) (by first | rfl | simp [vrc, cat_i, cat_r, cat_l]) (fun ls hl => ?_)
  refine x_goto (tgt := 13) C dX11_downs_44 (by decide) ?_
  exact hL13 (x1, p2, p3, x3) _ h ls (lv_sub hl [1, 2, 3, 0] rfl)
def f_X11_downs_13 (a0 : Nat)  (Q : Int32 → Sto → Prop) (L13 : Int32 × Option Nat × Int32 × Int32 → Sto → Prop) (t : Int32 × Option Nat × Int32 × Int32) (σ : Sto) : Prop := ((t.2.2.1 ≤ t.2.2.2 → Q t.1 σ) ∧ (¬ t.2.2.1 ≤ t.2.2.2 → (∃ b2 : Nat, t.2.1 = some b2 ∧ (sK σ b2 = 21 ∧ (vp_in t.2.2.2 (sN σ b2) ∧ (∀ r6 : Option Nat, r6 = sP σ b2 t.2.2.2.toNatClampNeg → (∃ b8 : Nat, r6 = some b8 ∧ (sK σ b8 = 8 ∧ (∀ x11 : Int32, x11 = sI σ b8 3 → ((x11 = 0 → b_X11_downs_39 a0 L13 Q t.2.1 t.2.2.1 t.2.2.2 (0 : Int32) t.1 σ) ∧ (¬ x11 = 0 → b_X11_downs_39 a0 L13 Q t.2.1 t.2.2.1 t.2.2.2 (1 : Int32) t.1 σ)))))))))))
set_option maxHeartbeats 4000000 in
set_option maxRecDepth 100000 in
theorem t_X11_downs_13 {p : Program} {l : Launch} {e : Env} {s : State} {m : MethodId} {args : Array Value} {below : List Frame} {meth : Method} {c : Code} {D : va_G} {cy : Nat → ClassId} {A : Nat → Prop} {a0 : Nat} {Q : Int32 → Sto → Prop} {L13 : Int32 × Option Nat × Int32 × Int32 → Sto → Prop} (C : Cx p s m args meth c D cy A cX11_downs 6 RX11) (hr : meth.sig.returnType = (some .int)) (hnm : meth.name = yX11_downs.name) (hL13 : ∀ (t : Int32 × Option Nat × Int32 × Int32) (σ : Sto), L13 t σ → ∀ ls : Array Slot, lv_has ls 6 [(1, .int t.1), (2, va_rf t.2.1), (3, .int t.2.2.1), (4, .int t.2.2.2)] → Xw p l e rm_X11_downs s m args below meth c D cy A σ 0 0 (MQ below (Qst D cy A (PsI Q)) args s rm_X11_downs.cells rm_X11_downs.slots A) (F0 m 13 ls [])) : ∀ (t : Int32 × Option Nat × Int32 × Int32) (σ : Sto), f_X11_downs_13 a0  Q L13 t σ → ∀ ls : Array Slot, lv_has ls 6 [(1, .int t.1), (2, va_rf t.2.1), (3, .int t.2.2.1), (4, .int t.2.2.2)] → Xw p l e rm_X11_downs s m args below meth c D cy A σ 0 0 (MQ below (Qst D cy A (PsI Q)) args s rm_X11_downs.cells rm_X11_downs.slots A) (F0 m 13 ls []) := by
  intro t σ h ls hl
  unfold f_X11_downs_13 at h
  refine x_iload C dX11_downs_13 (lv_at hl 3 rfl) ?_
  refine x_iload_n C dX11_downs_15 rfl (lv_at hl 2 rfl) ?_
  refine x_icmp_ge (tgt := 47) C dX11_downs_16 (by decide) (fun c1 => ?_) (fun c1 => ?_)
  · have h := h.1 c1
    refine x_iload_n C dX11_downs_47 rfl (lv_at hl 0 rfl) ?_
    exact x_iret C hr dX11_downs_48 ⟨_, rfl, h⟩
  · have h := h.2 c1
    refine x_aload_nq C dX11_downs_19 rfl (lv_at hl 1 rfl) ?_
    refine x_iload C dX11_downs_20 (lv_at hl 3 rfl) ?_
    obtain ⟨b2, g3, h⟩ := h
    refine x_nn1 g3 ?_
    obtain ⟨g4, h⟩ := h
    obtain ⟨g5, h⟩ := h
    refine x_aald C rak_21 g4 g5 dX11_downs_22 ?_
    refine x_topq (fun r6 e7 => ?_)
    have h := h r6 e7
    refine x_astoreq (i := 5) (lv' := [(5, va_rf r6), (1, .int t.1), (2, va_rf t.2.1), (3, .int t.2.2.1), (4, .int t.2.2.2)]) C dX11_downs_23 hl (by decide) (by first | rfl | simp [vrc, cat_i, cat_r, cat_l]) (fun ls hl => ?_)
    refine x_iload_n C dX11_downs_25 rfl (lv_at hl 1 rfl) ?_
    refine x_aloadq C dX11_downs_26 (lv_at hl 0 rfl) ?_
    obtain ⟨b8, g9, h⟩ := h
    refine x_nn0 g9 ?_
    obtain ⟨g10, h⟩ := h
    refine x_getZ C fl_RX11_156 g10 dX11_downs_28 ?_
    refine x_topi (fun x11 e12 => ?_)
    have h := h x11 e12
    refine x_if_eq (tgt := 38) C dX11_downs_31 (by decide) (fun c13 => ?_) (fun c13 => ?_)
    · have h := h.1 c13
      refine x_iconst (v := 0) C dX11_downs_38 (by decide) ?_
      exact t_X11_downs_39 C hr hnm hL13 t.2.1 t.2.2.1 t.2.2.2 (0 : Int32) t.1 _ h ls (lv_sub hl [2, 3, 4] rfl)
    · have h := h.2 c13
      refine x_iconst (v := 1) C dX11_downs_34 (by decide) ?_
      refine x_goto (tgt := 39) C dX11_downs_35 (by decide) ?_
      exact t_X11_downs_39 C hr hnm hL13 t.2.1 t.2.2.1 t.2.2.2 (1 : Int32) t.1 _ h ls (lv_sub hl [2, 3, 4] rfl)
def wp_X11_downs (a0 : Nat)  (σ : Sto) (Q : Int32 → Sto → Prop) : Prop := (sK σ a0 = 11 ∧ (∀ r2 : Option Nat, r2 = sP σ a0 3 → (∃ b4 : Nat, r2 = some b4 ∧ (sK σ b4 = 21 ∧ (∀ x7 : Int32, x7 = nI (sN σ b4) → LF (f_X11_downs_13 a0  Q) ((0 : Int32), r2, x7, (0 : Int32)) σ)))))
set_option maxHeartbeats 4000000 in
set_option maxRecDepth 100000 in
theorem c_X11_downs (l : Launch) (D : va_G) (cy : Nat → ClassId) (a0 : Nat)  (σ : Sto) (Q : Int32 → Sto → Prop) (h : wp_X11_downs a0  σ Q) : Mt l D cy yX11_downs cX11_downs 6 (some .int) rm_X11_downs [.ref a0] σ (PsI Q) := by
  unfold wp_X11_downs at h
  refine mt_of (by decide +kernel) (Nat.le_of_ble_eq_true rfl) ?_
  intro p e s m args below meth c A ls C hr hnm hl
  have C : Cx p s m args meth c D cy A cX11_downs 6 RX11 := C
  have hl : lv_has ls 6 [(0, .ref a0)] := hl
  refine x_iconst (v := 0) C dX11_downs_0 (by decide) ?_
  refine x_istore_n (i := 1) (lv' := [(1, .int (0 : Int32)), (0, .ref a0)]) C dX11_downs_1 rfl hl (by decide) (by first | rfl | simp [vrc, cat_i, cat_r, cat_l]) (fun ls hl => ?_)
  refine x_aload_n C dX11_downs_2 rfl (lv_at hl 1 rfl) ?_
  obtain ⟨g1, h⟩ := h
  refine x_getP C fl_RX11_40 g1 dX11_downs_3 ?_
  refine x_topq (fun r2 e3 => ?_)
  have h := h r2 e3
  refine x_astore_nq (i := 2) (lv' := [(2, va_rf r2), (1, .int (0 : Int32)), (0, .ref a0)]) C dX11_downs_6 rfl hl (by decide) (by first | rfl | simp [vrc, cat_i, cat_r, cat_l]) (fun ls hl => ?_)
  refine x_aload_nq C dX11_downs_7 rfl (lv_at hl 0 rfl) ?_
  obtain ⟨b4, g5, h⟩ := h
  refine x_nn0 g5 ?_
  obtain ⟨g6, h⟩ := h
  refine x_alen C g6 (by decide) (by decide) dX11_downs_8 ?_
  refine x_topi (fun x7 e8 => ?_)
  have h := h x7 e8
  refine x_istore_n (i := 3) (lv' := [(3, .int x7), (2, va_rf r2), (1, .int (0 : Int32)), (0, .ref a0)]) C dX11_downs_9 rfl hl (by decide) (by first | rfl | simp [vrc, cat_i, cat_r, cat_l]) (fun ls hl => ?_)
  refine x_iconst (v := 0) C dX11_downs_10 (by decide) ?_
  refine x_istore (i := 4) (lv' := [(4, .int (0 : Int32)), (3, .int x7), (2, va_rf r2), (1, .int (0 : Int32)), (0, .ref a0)]) C dX11_downs_11 hl (by decide) (by first | rfl | simp [vrc, cat_i, cat_r, cat_l]) (fun ls hl => ?_)
  exact h (fun t σ => ∀ ls : Array Slot, lv_has ls 6 [(1, .int t.1), (2, va_rf t.2.1), (3, .int t.2.2.1), (4, .int t.2.2.2)] → Xw p l e rm_X11_downs s m args below meth c D cy A σ 0 0 (MQ below (Qst D cy A (PsI Q)) args s rm_X11_downs.cells rm_X11_downs.slots A) (F0 m 13 ls [])) (t_X11_downs_13 C hr hnm  (fun t σ h => h)) ls (lv_sub hl [3, 2, 1, 0] rfl)
theorem dX11_stamp_0 : decode cX11_stamp 0 = .ok (.aload_n 1, 1) := by decide +kernel
theorem dX11_stamp_1 : decode cX11_stamp 1 = .ok (.aload_n 0, 1) := by decide +kernel
theorem dX11_stamp_2 : decode cX11_stamp 2 = .ok (.getfield 24, 3) := by decide +kernel
theorem dX11_stamp_5 : decode cX11_stamp 5 = .ok (.getfield 179, 3) := by decide +kernel
theorem dX11_stamp_8 : decode cX11_stamp 8 = .ok (.putfield 372, 3) := by decide +kernel
theorem dX11_stamp_11 : decode cX11_stamp 11 = .ok (.aload_n 0, 1) := by decide +kernel
theorem dX11_stamp_12 : decode cX11_stamp 12 = .ok (.getfield 53, 3) := by decide +kernel
theorem dX11_stamp_15 : decode cX11_stamp 15 = .ok (.ifCond .ne 4, 3) := by decide +kernel
theorem dX11_stamp_18 : decode cX11_stamp 18 = .ok (.return_, 1) := by decide +kernel
theorem dX11_stamp_19 : decode cX11_stamp 19 = .ok (.aload_n 0, 1) := by decide +kernel
theorem dX11_stamp_20 : decode cX11_stamp 20 = .ok (.dup, 1) := by decide +kernel
theorem dX11_stamp_21 : decode cX11_stamp 21 = .ok (.getfield 300, 3) := by decide +kernel
theorem dX11_stamp_24 : decode cX11_stamp 24 = .ok (.iconst 1, 1) := by decide +kernel
theorem dX11_stamp_25 : decode cX11_stamp 25 = .ok (.iadd, 1) := by decide +kernel
theorem dX11_stamp_26 : decode cX11_stamp 26 = .ok (.putfield 300, 3) := by decide +kernel
theorem dX11_stamp_29 : decode cX11_stamp 29 = .ok (.iconst 0, 1) := by decide +kernel
theorem dX11_stamp_30 : decode cX11_stamp 30 = .ok (.istore_n 2, 1) := by decide +kernel
theorem dX11_stamp_31 : decode cX11_stamp 31 = .ok (.iload_n 2, 1) := by decide +kernel
theorem dX11_stamp_32 : decode cX11_stamp 32 = .ok (.aload_n 0, 1) := by decide +kernel
theorem dX11_stamp_33 : decode cX11_stamp 33 = .ok (.getfield 24, 3) := by decide +kernel
theorem dX11_stamp_36 : decode cX11_stamp 36 = .ok (.getfield 35, 3) := by decide +kernel
theorem dX11_stamp_39 : decode cX11_stamp 39 = .ok (.if_icmp .ge 40, 3) := by decide +kernel
theorem dX11_stamp_42 : decode cX11_stamp 42 = .ok (.aload_n 0, 1) := by decide +kernel
theorem dX11_stamp_43 : decode cX11_stamp 43 = .ok (.getfield 24, 3) := by decide +kernel
theorem dX11_stamp_46 : decode cX11_stamp 46 = .ok (.iconst 0, 1) := by decide +kernel
theorem dX11_stamp_47 : decode cX11_stamp 47 = .ok (.iconst (-1), 1) := by decide +kernel
theorem dX11_stamp_48 : decode cX11_stamp 48 = .ok (.iload_n 2, 1) := by decide +kernel
theorem dX11_stamp_49 : decode cX11_stamp 49 = .ok (.iconst 0, 1) := by decide +kernel
theorem dX11_stamp_50 : decode cX11_stamp 50 = .ok (.aload_n 0, 1) := by decide +kernel
theorem dX11_stamp_51 : decode cX11_stamp 51 = .ok (.getfield 57, 3) := by decide +kernel
theorem dX11_stamp_54 : decode cX11_stamp 54 = .ok (.invokestatic 375, 3) := by decide +kernel
theorem dX11_stamp_57 : decode cX11_stamp 57 = .ok (.aload_n 0, 1) := by decide +kernel
theorem dX11_stamp_58 : decode cX11_stamp 58 = .ok (.getfield 300, 3) := by decide +kernel
theorem dX11_stamp_61 : decode cX11_stamp 61 = .ok (.invokevirtual 379, 3) := by decide +kernel
theorem dX11_stamp_64 : decode cX11_stamp 64 = .ok (.astore_n 3, 1) := by decide +kernel
theorem dX11_stamp_65 : decode cX11_stamp 65 = .ok (.aload_n 3, 1) := by decide +kernel
theorem dX11_stamp_66 : decode cX11_stamp 66 = .ok (.aload_n 1, 1) := by decide +kernel
theorem dX11_stamp_67 : decode cX11_stamp 67 = .ok (.getfield 383, 3) := by decide +kernel
theorem dX11_stamp_70 : decode cX11_stamp 70 = .ok (.putfield 387, 3) := by decide +kernel
theorem dX11_stamp_73 : decode cX11_stamp 73 = .ok (.iinc 2 1, 3) := by decide +kernel
theorem dX11_stamp_76 : decode cX11_stamp 76 = .ok (.goto (-45), 3) := by decide +kernel
theorem dX11_stamp_79 : decode cX11_stamp 79 = .ok (.return_, 1) := by decide +kernel
abbrev rm_X11_stamp : Room := { frames := 1, cells := 0, slots := 0, locals := 27 }
def f_X11_stamp_31 (a0 : Nat)  (Q : Sto → Prop) (L31 : Option Nat × Int32 → Sto → Prop) (t : Option Nat × Int32) (σ : Sto) : Prop := (sK σ a0 = 11 ∧ (∃ b2 : Nat, sP σ a0 1 = some b2 ∧ (sK σ b2 = 4 ∧ (∀ x5 : Int32, x5 = sI σ b2 0 → ((x5 ≤ t.2 → Q σ) ∧ (¬ x5 ≤ t.2 → (∀ x8 : Int32, x8 = sI σ a0 6 → (wp_X11_viewOf (0 : Int32) x8 σ (fun (y11 : Int64) (σ10 : Sto) => (sK σ10 a0 = 11 ∧ (∀ x13 : Int32, x13 = sI σ10 a0 7 → (sK σ10 b2 = 4 ∧ (wp_X4_send b2 (0 : Int32) (-1 : Int32) t.2 y11 x13 σ10 (fun (r17 : Option Nat) (σ16 : Sto) => (∃ b18 : Nat, t.1 = some b18 ∧ (sK σ16 b18 = 1 ∧ (∀ r21 : Option Nat, r21 = sP σ16 b18 0 → (∃ b23 : Nat, r17 = some b23 ∧ (sK σ16 b23 = 3 ∧ (∀ x26 : Int32, x26 = t.2 + (1 : Int32) → L31 (t.1, x26) (stP σ16 b23 7 r21)))))))))))))))))))))
set_option maxHeartbeats 4000000 in
set_option maxRecDepth 100000 in
theorem t_X11_stamp_31 {p : Program} {l : Launch} {e : Env} {s : State} {m : MethodId} {args : Array Value} {below : List Frame} {meth : Method} {c : Code} {D : va_G} {cy : Nat → ClassId} {A : Nat → Prop} {a0 : Nat} {Q : Sto → Prop} {L31 : Option Nat × Int32 → Sto → Prop} (C : Cx p s m args meth c D cy A cX11_stamp 4 RX11) (hr : meth.sig.returnType = none) (hnm : meth.name = yX11_stamp.name) (hL31 : ∀ (t : Option Nat × Int32) (σ : Sto), L31 t σ → ∀ ls : Array Slot, lv_has ls 4 [(0, .ref a0), (1, va_rf t.1), (2, .int t.2)] → Xw p l e rm_X11_stamp s m args below meth c D cy A σ 0 0 (MQ below (Qst D cy A (PsV Q)) args s rm_X11_stamp.cells rm_X11_stamp.slots A) (F0 m 31 ls [])) : ∀ (t : Option Nat × Int32) (σ : Sto), f_X11_stamp_31 a0  Q L31 t σ → ∀ ls : Array Slot, lv_has ls 4 [(0, .ref a0), (1, va_rf t.1), (2, .int t.2)] → Xw p l e rm_X11_stamp s m args below meth c D cy A σ 0 0 (MQ below (Qst D cy A (PsV Q)) args s rm_X11_stamp.cells rm_X11_stamp.slots A) (F0 m 31 ls []) := by
  intro t σ h ls hl
  unfold f_X11_stamp_31 at h
  refine x_iload_n C dX11_stamp_31 rfl (lv_at hl 2 rfl) ?_
  refine x_aload_n C dX11_stamp_32 rfl (lv_at hl 0 rfl) ?_
  obtain ⟨g1, h⟩ := h
  refine x_getP C fl_RX11_24 g1 dX11_stamp_33 ?_
  obtain ⟨b2, g3, h⟩ := h
  refine x_nn0 g3 ?_
  obtain ⟨g4, h⟩ := h
  refine x_getI C fl_RX11_35 g4 dX11_stamp_36 ?_
  refine x_topi (fun x5 e6 => ?_)
  have h := h x5 e6
  refine x_icmp_ge (tgt := 79) C dX11_stamp_39 (by decide) (fun c7 => ?_) (fun c7 => ?_)
  · have h := h.1 c7
    exact x_vret C hr dX11_stamp_79 ⟨rfl, h⟩
  · have h := h.2 c7
    refine x_aload_n C dX11_stamp_42 rfl (lv_at hl 0 rfl) ?_
    refine x_getP C fl_RX11_24 g1 dX11_stamp_43 ?_
    refine x_iconst (v := 0) C dX11_stamp_46 (by decide) ?_
    refine x_iconst (v := -1) C dX11_stamp_47 (by decide) ?_
    refine x_iload_n C dX11_stamp_48 rfl (lv_at hl 2 rfl) ?_
    refine x_iconst (v := 0) C dX11_stamp_49 (by decide) ?_
    refine x_aload_n C dX11_stamp_50 rfl (lv_at hl 0 rfl) ?_
    refine x_getI C fl_RX11_57 g1 dX11_stamp_51 ?_
    refine x_topi (fun x8 e9 => ?_)
    have h := h x8 e9
    refine x_callS (rm := rm_X11_viewOf) (rest := [.int t.2, .int (-1 : Int32), .int (0 : Int32), va_rf (sP σ a0 1)]) (As := [.int (0 : Int32), .int x8]) C cs_RX11_375 (by decide) (by decide) rfl rfl (by simp [vrc, cat_i, cat_r, cat_l]) hl.1 dX11_stamp_54 (c_X11_viewOf l D cy (0 : Int32) x8 σ _ h) (ks_j (fun y11 σ10 h => ?_))
    refine x_aload_n C dX11_stamp_57 rfl (lv_at hl 0 rfl) ?_
    obtain ⟨g12, h⟩ := h
    refine x_getI C fl_RX11_300 g12 dX11_stamp_58 ?_
    refine x_topi (fun x13 e14 => ?_)
    have h := h x13 e14
    refine x_nn5 g3 ?_
    obtain ⟨g15, h⟩ := h
    refine x_callV (rm := rm_X4_send) (rest := []) (As := [.int (0 : Int32), .int (-1 : Int32), .int t.2, .long y11, .int x13]) C cy_RX11_379 g15 (by decide) (by decide) rfl rfl (Nat.le_of_ble_eq_true rfl) hl.1 dX11_stamp_61 (c_X4_send l D cy b2 (0 : Int32) (-1 : Int32) t.2 y11 x13 σ10 _ h) (ks_p (fun r17 σ16 h => ?_))
    refine x_astore_nq (i := 3) (lv' := [(3, va_rf r17), (0, .ref a0), (1, va_rf t.1), (2, .int t.2)]) C dX11_stamp_64 rfl hl (by decide) (by first | rfl | simp [vrc, cat_i, cat_r, cat_l]) (fun ls hl => ?_)
    refine x_aload_nq C dX11_stamp_65 rfl (lv_at hl 0 rfl) ?_
    refine x_aload_nq C dX11_stamp_66 rfl (lv_at hl 2 rfl) ?_
    obtain ⟨b18, g19, h⟩ := h
    refine x_nn0 g19 ?_
    obtain ⟨g20, h⟩ := h
    refine x_getP C fl_RX11_383 g20 dX11_stamp_67 ?_
    refine x_topq (fun r21 e22 => ?_)
    have h := h r21 e22
    obtain ⟨b23, g24, h⟩ := h
    refine x_nn1 g24 ?_
    obtain ⟨g25, h⟩ := h
    refine x_putP C fl_RX11_387 (rty_o _) (Or.inl rfl) g25 dX11_stamp_70 ?_
    obtain ⟨x26, e27⟩ : ∃ z : Int32, z = t.2 + (1 : Int32) := ⟨_, rfl⟩
    have h := h x26 e27
    refine x_iinc (v := x26) (lv' := [(2, .int x26), (3, va_rf r17), (0, .ref a0), (1, va_rf t.1)]) C dX11_stamp_73 hl (q0 := 3) rfl (by rw [e27]; rfl) (by decide) (by first | rfl | simp [vrc, cat_i, cat_r, cat_l]) (fun ls hl => ?_)
    refine x_goto (tgt := 31) C dX11_stamp_76 (by decide) ?_
    exact hL31 (t.1, x26) _ h ls (lv_sub hl [2, 3, 0] rfl)
def wp_X11_stamp (a0 : Nat) (p1 : Option Nat) (σ : Sto) (Q : Sto → Prop) : Prop := (sK σ a0 = 11 ∧ (∃ b2 : Nat, sP σ a0 1 = some b2 ∧ (sK σ b2 = 4 ∧ (∀ x5 : Int32, x5 = sI σ b2 8 → (∃ b7 : Nat, p1 = some b7 ∧ (sK σ b7 = 1 ∧ (∀ x10 : Int32, x10 = sI (stI σ b7 3 x5) a0 5 → ((¬ x10 = 0 → (∀ x13 : Int32, x13 = sI (stI σ b7 3 x5) a0 7 → (∀ x15 : Int32, x15 = x13 + (1 : Int32) → LF (f_X11_stamp_31 a0  Q) (p1, (0 : Int32)) (stI (stI σ b7 3 x5) a0 7 x15)))) ∧ (x10 = 0 → Q (stI σ b7 3 x5))))))))))
set_option maxHeartbeats 4000000 in
set_option maxRecDepth 100000 in
theorem c_X11_stamp (l : Launch) (D : va_G) (cy : Nat → ClassId) (a0 : Nat) (p1 : Option Nat) (σ : Sto) (Q : Sto → Prop) (h : wp_X11_stamp a0 p1 σ Q) : Mt l D cy yX11_stamp cX11_stamp 4 none rm_X11_stamp [.ref a0, va_rf p1] σ (PsV Q) := by
  unfold wp_X11_stamp at h
  refine mt_of (by decide +kernel) (by simp [lg_sl, vrc, cat_i, cat_r, cat_l]) ?_
  intro p e s m args below meth c A ls C hr hnm hl
  have C : Cx p s m args meth c D cy A cX11_stamp 4 RX11 := C
  have hl : lv_has ls 4 [(0, .ref a0), (1, va_rf p1)] := by simpa [lv_args, vrc, cat_i, cat_r, cat_l] using hl
  refine x_aload_nq C dX11_stamp_0 rfl (lv_at hl 1 rfl) ?_
  refine x_aload_n C dX11_stamp_1 rfl (lv_at hl 0 rfl) ?_
  obtain ⟨g1, h⟩ := h
  refine x_getP C fl_RX11_24 g1 dX11_stamp_2 ?_
  obtain ⟨b2, g3, h⟩ := h
  refine x_nn0 g3 ?_
  obtain ⟨g4, h⟩ := h
  refine x_getI C fl_RX11_179 g4 dX11_stamp_5 ?_
  refine x_topi (fun x5 e6 => ?_)
  have h := h x5 e6
  obtain ⟨b7, g8, h⟩ := h
  refine x_nn1 g8 ?_
  obtain ⟨g9, h⟩ := h
  refine x_putI C fl_RX11_372 (Or.inl rfl) g9 dX11_stamp_8 ?_
  refine x_aload_n C dX11_stamp_11 rfl (lv_at hl 0 rfl) ?_
  refine x_getZ C fl_RX11_53 g1 dX11_stamp_12 ?_
  refine x_topi (fun x10 e11 => ?_)
  have h := h x10 e11
  refine x_if_ne (tgt := 19) C dX11_stamp_15 (by decide) (fun c12 => ?_) (fun c12 => ?_)
  · have h := h.1 c12
    refine x_aload_n C dX11_stamp_19 rfl (lv_at hl 0 rfl) ?_
    refine x_dup C dX11_stamp_20 (rfl) ?_
    refine x_getI C fl_RX11_300 g1 dX11_stamp_21 ?_
    refine x_topi (fun x13 e14 => ?_)
    have h := h x13 e14
    refine x_iconst (v := 1) C dX11_stamp_24 (by decide) ?_
    refine x_iadd C dX11_stamp_25 ?_
    refine x_topi (fun x15 e16 => ?_)
    have h := h x15 e16
    refine x_putI C fl_RX11_300 (Or.inl rfl) g1 dX11_stamp_26 ?_
    refine x_iconst (v := 0) C dX11_stamp_29 (by decide) ?_
    refine x_istore_n (i := 2) (lv' := [(2, .int (0 : Int32)), (0, .ref a0), (1, va_rf p1)]) C dX11_stamp_30 rfl hl (by decide) (by first | rfl | simp [vrc, cat_i, cat_r, cat_l]) (fun ls hl => ?_)
    exact h (fun t σ => ∀ ls : Array Slot, lv_has ls 4 [(0, .ref a0), (1, va_rf t.1), (2, .int t.2)] → Xw p l e rm_X11_stamp s m args below meth c D cy A σ 0 0 (MQ below (Qst D cy A (PsV Q)) args s rm_X11_stamp.cells rm_X11_stamp.slots A) (F0 m 31 ls [])) (t_X11_stamp_31 C hr hnm  (fun t σ h => h)) ls (lv_sub hl [1, 2, 0] rfl)
  · have h := h.2 c12
    exact x_vret C hr dX11_stamp_18 ⟨rfl, h⟩
theorem dX11_passTick_0 : decode cX11_passTick 0 = .ok (.aload_n 0, 1) := by decide +kernel
theorem dX11_passTick_1 : decode cX11_passTick 1 = .ok (.getfield 24, 3) := by decide +kernel
theorem dX11_passTick_4 : decode cX11_passTick 4 = .ok (.dup, 1) := by decide +kernel
theorem dX11_passTick_5 : decode cX11_passTick 5 = .ok (.getfield 179, 3) := by decide +kernel
theorem dX11_passTick_8 : decode cX11_passTick 8 = .ok (.iconst 1, 1) := by decide +kernel
theorem dX11_passTick_9 : decode cX11_passTick 9 = .ok (.iadd, 1) := by decide +kernel
theorem dX11_passTick_10 : decode cX11_passTick 10 = .ok (.putfield 179, 3) := by decide +kernel
theorem dX11_passTick_13 : decode cX11_passTick 13 = .ok (.aload_n 0, 1) := by decide +kernel
theorem dX11_passTick_14 : decode cX11_passTick 14 = .ok (.getfield 53, 3) := by decide +kernel
theorem dX11_passTick_17 : decode cX11_passTick 17 = .ok (.ifCond .ne 26, 3) := by decide +kernel
theorem dX11_passTick_20 : decode cX11_passTick 20 = .ok (.aload_n 0, 1) := by decide +kernel
theorem dX11_passTick_21 : decode cX11_passTick 21 = .ok (.getfield 24, 3) := by decide +kernel
theorem dX11_passTick_24 : decode cX11_passTick 24 = .ok (.getfield 179, 3) := by decide +kernel
theorem dX11_passTick_27 : decode cX11_passTick 27 = .ok (.aload_n 0, 1) := by decide +kernel
theorem dX11_passTick_28 : decode cX11_passTick 28 = .ok (.getfield 216, 3) := by decide +kernel
theorem dX11_passTick_31 : decode cX11_passTick 31 = .ok (.isub, 1) := by decide +kernel
theorem dX11_passTick_32 : decode cX11_passTick 32 = .ok (.aload_n 0, 1) := by decide +kernel
theorem dX11_passTick_33 : decode cX11_passTick 33 = .ok (.getfield 15, 3) := by decide +kernel
theorem dX11_passTick_36 : decode cX11_passTick 36 = .ok (.if_icmp .lt 7, 3) := by decide +kernel
theorem dX11_passTick_39 : decode cX11_passTick 39 = .ok (.aload_n 0, 1) := by decide +kernel
theorem dX11_passTick_40 : decode cX11_passTick 40 = .ok (.invokevirtual 219, 3) := by decide +kernel
theorem dX11_passTick_43 : decode cX11_passTick 43 = .ok (.aload_n 0, 1) := by decide +kernel
theorem dX11_passTick_44 : decode cX11_passTick 44 = .ok (.getfield 40, 3) := by decide +kernel
theorem dX11_passTick_47 : decode cX11_passTick 47 = .ok (.astore_n 1, 1) := by decide +kernel
theorem dX11_passTick_48 : decode cX11_passTick 48 = .ok (.aload_n 1, 1) := by decide +kernel
theorem dX11_passTick_49 : decode cX11_passTick 49 = .ok (.arraylength, 1) := by decide +kernel
theorem dX11_passTick_50 : decode cX11_passTick 50 = .ok (.istore_n 2, 1) := by decide +kernel
theorem dX11_passTick_51 : decode cX11_passTick 51 = .ok (.iconst 0, 1) := by decide +kernel
theorem dX11_passTick_52 : decode cX11_passTick 52 = .ok (.istore_n 3, 1) := by decide +kernel
theorem dX11_passTick_53 : decode cX11_passTick 53 = .ok (.iload_n 3, 1) := by decide +kernel
theorem dX11_passTick_54 : decode cX11_passTick 54 = .ok (.iload_n 2, 1) := by decide +kernel
theorem dX11_passTick_55 : decode cX11_passTick 55 = .ok (.if_icmp .ge 31, 3) := by decide +kernel
theorem dX11_passTick_58 : decode cX11_passTick 58 = .ok (.aload_n 1, 1) := by decide +kernel
theorem dX11_passTick_59 : decode cX11_passTick 59 = .ok (.iload_n 3, 1) := by decide +kernel
theorem dX11_passTick_60 : decode cX11_passTick 60 = .ok (.aaload, 1) := by decide +kernel
theorem dX11_passTick_61 : decode cX11_passTick 61 = .ok (.astore 4, 2) := by decide +kernel
theorem dX11_passTick_63 : decode cX11_passTick 63 = .ok (.aload 4, 2) := by decide +kernel
theorem dX11_passTick_65 : decode cX11_passTick 65 = .ok (.getfield 156, 3) := by decide +kernel
theorem dX11_passTick_68 : decode cX11_passTick 68 = .ok (.ifCond .ne 12, 3) := by decide +kernel
theorem dX11_passTick_71 : decode cX11_passTick 71 = .ok (.aload 4, 2) := by decide +kernel
theorem dX11_passTick_73 : decode cX11_passTick 73 = .ok (.aload_n 0, 1) := by decide +kernel
theorem dX11_passTick_74 : decode cX11_passTick 74 = .ok (.getfield 15, 3) := by decide +kernel
theorem dX11_passTick_77 : decode cX11_passTick 77 = .ok (.invokevirtual 390, 3) := by decide +kernel
theorem dX11_passTick_80 : decode cX11_passTick 80 = .ok (.iinc 3 1, 3) := by decide +kernel
theorem dX11_passTick_83 : decode cX11_passTick 83 = .ok (.goto (-30), 3) := by decide +kernel
theorem dX11_passTick_86 : decode cX11_passTick 86 = .ok (.aload_n 0, 1) := by decide +kernel
theorem dX11_passTick_87 : decode cX11_passTick 87 = .ok (.getfield 48, 3) := by decide +kernel
theorem dX11_passTick_90 : decode cX11_passTick 90 = .ok (.astore_n 1, 1) := by decide +kernel
theorem dX11_passTick_91 : decode cX11_passTick 91 = .ok (.aload_n 1, 1) := by decide +kernel
theorem dX11_passTick_92 : decode cX11_passTick 92 = .ok (.arraylength, 1) := by decide +kernel
theorem dX11_passTick_93 : decode cX11_passTick 93 = .ok (.istore_n 2, 1) := by decide +kernel
theorem dX11_passTick_94 : decode cX11_passTick 94 = .ok (.iconst 0, 1) := by decide +kernel
theorem dX11_passTick_95 : decode cX11_passTick 95 = .ok (.istore_n 3, 1) := by decide +kernel
theorem dX11_passTick_96 : decode cX11_passTick 96 = .ok (.iload_n 3, 1) := by decide +kernel
theorem dX11_passTick_97 : decode cX11_passTick 97 = .ok (.iload_n 2, 1) := by decide +kernel
theorem dX11_passTick_98 : decode cX11_passTick 98 = .ok (.if_icmp .ge 50, 3) := by decide +kernel
theorem dX11_passTick_101 : decode cX11_passTick 101 = .ok (.aload_n 1, 1) := by decide +kernel
theorem dX11_passTick_102 : decode cX11_passTick 102 = .ok (.iload_n 3, 1) := by decide +kernel
theorem dX11_passTick_103 : decode cX11_passTick 103 = .ok (.aaload, 1) := by decide +kernel
theorem dX11_passTick_104 : decode cX11_passTick 104 = .ok (.astore 4, 2) := by decide +kernel
theorem dX11_passTick_106 : decode cX11_passTick 106 = .ok (.aload 4, 2) := by decide +kernel
theorem dX11_passTick_108 : decode cX11_passTick 108 = .ok (.getfield 102, 3) := by decide +kernel
theorem dX11_passTick_111 : decode cX11_passTick 111 = .ok (.ifCond .eq 31, 3) := by decide +kernel
theorem dX11_passTick_114 : decode cX11_passTick 114 = .ok (.aload_n 0, 1) := by decide +kernel
theorem dX11_passTick_115 : decode cX11_passTick 115 = .ok (.getfield 24, 3) := by decide +kernel
theorem dX11_passTick_118 : decode cX11_passTick 118 = .ok (.getfield 179, 3) := by decide +kernel
theorem dX11_passTick_121 : decode cX11_passTick 121 = .ok (.aload 4, 2) := by decide +kernel
theorem dX11_passTick_123 : decode cX11_passTick 123 = .ok (.getfield 372, 3) := by decide +kernel
theorem dX11_passTick_126 : decode cX11_passTick 126 = .ok (.isub, 1) := by decide +kernel
theorem dX11_passTick_127 : decode cX11_passTick 127 = .ok (.iconst 2, 1) := by decide +kernel
theorem dX11_passTick_128 : decode cX11_passTick 128 = .ok (.aload_n 0, 1) := by decide +kernel
theorem dX11_passTick_129 : decode cX11_passTick 129 = .ok (.getfield 15, 3) := by decide +kernel
theorem dX11_passTick_132 : decode cX11_passTick 132 = .ok (.imul, 1) := by decide +kernel
theorem dX11_passTick_133 : decode cX11_passTick 133 = .ok (.if_icmp .lt 9, 3) := by decide +kernel
theorem dX11_passTick_136 : decode cX11_passTick 136 = .ok (.aload_n 0, 1) := by decide +kernel
theorem dX11_passTick_137 : decode cX11_passTick 137 = .ok (.aload 4, 2) := by decide +kernel
theorem dX11_passTick_139 : decode cX11_passTick 139 = .ok (.invokevirtual 122, 3) := by decide +kernel
theorem dX11_passTick_142 : decode cX11_passTick 142 = .ok (.iinc 3 1, 3) := by decide +kernel
theorem dX11_passTick_145 : decode cX11_passTick 145 = .ok (.goto (-49), 3) := by decide +kernel
theorem dX11_passTick_148 : decode cX11_passTick 148 = .ok (.return_, 1) := by decide +kernel
abbrev rm_X11_passTick : Room := { frames := 6, cells := 0, slots := 0, locals := 133 }
def b_X11_passTick_142 (a0 : Nat) (L96 : Option Nat × Int32 × Int32 → Sto → Prop) (Q : Sto → Prop) (p1 : Option Nat) (p2 : Int32) (p3 : Int32) (σ : Sto) : Prop := (∀ x1 : Int32, x1 = p3 + (1 : Int32) → L96 (p1, p2, x1) σ)
set_option maxHeartbeats 4000000 in
set_option maxRecDepth 100000 in
theorem t_X11_passTick_142 {p : Program} {l : Launch} {e : Env} {s : State} {m : MethodId} {args : Array Value} {below : List Frame} {meth : Method} {c : Code} {D : va_G} {cy : Nat → ClassId} {A : Nat → Prop} {a0 : Nat} {L96 : Option Nat × Int32 × Int32 → Sto → Prop} {Q : Sto → Prop} (C : Cx p s m args meth c D cy A cX11_passTick 5 RX11) (hr : meth.sig.returnType = none) (hnm : meth.name = yX11_passTick.name) (hL96 : ∀ (t : Option Nat × Int32 × Int32) (σ : Sto), L96 t σ → ∀ ls : Array Slot, lv_has ls 5 [(0, .ref a0), (1, va_rf t.1), (2, .int t.2.1), (3, .int t.2.2)] → Xw p l e rm_X11_passTick s m args below meth c D cy A σ 0 0 (MQ below (Qst D cy A (PsV Q)) args s rm_X11_passTick.cells rm_X11_passTick.slots A) (F0 m 96 ls [])) (p1 : Option Nat) (p2 : Int32) (p3 : Int32) (σ : Sto) (h : b_X11_passTick_142 a0 L96 Q p1 p2 p3 σ) (ls : Array Slot) (hl : lv_has ls 5 [(0, .ref a0), (1, va_rf p1), (2, .int p2), (3, .int p3)]) : Xw p l e rm_X11_passTick s m args below meth c D cy A σ 0 0 (MQ below (Qst D cy A (PsV Q)) args s rm_X11_passTick.cells rm_X11_passTick.slots A) (F0 m 142 ls []) := by
  unfold b_X11_passTick_142 at h
  obtain ⟨x1, e2⟩ : ∃ z : Int32, z = p3 + (1 : Int32) := ⟨_, rfl⟩
  have h := h x1 e2
  refine x_iinc (v := x1) (lv' := [(3, .int x1), (0, .ref a0), (1, va_rf p1), (2, .int p2)]) C dX11_passTick_142 hl (q0 := 3) rfl (by rw [e2]; rfl) (by decide) (by first | rfl | simp [vrc, cat_i, cat_r, cat_l]) (fun ls hl => ?_)
  refine x_goto (tgt := 96) C dX11_passTick_145 (by decide) ?_
  exact hL96 (p1, p2, x1) _ h ls (lv_sub hl [1, 2, 3, 0] rfl)
def f_X11_passTick_96 (a0 : Nat)  (Q : Sto → Prop) (L96 : Option Nat × Int32 × Int32 → Sto → Prop) (t : Option Nat × Int32 × Int32) (σ : Sto) : Prop := ((t.2.1 ≤ t.2.2 → Q σ) ∧ (¬ t.2.1 ≤ t.2.2 → (∃ b2 : Nat, t.1 = some b2 ∧ (sK σ b2 = 17 ∧ (vp_in t.2.2 (sN σ b2) ∧ (∀ r6 : Option Nat, r6 = sP σ b2 t.2.2.toNatClampNeg → (∃ b8 : Nat, r6 = some b8 ∧ (sK σ b8 = 1 ∧ (∀ x11 : Int32, x11 = sI σ b8 2 → ((x11 = 0 → b_X11_passTick_142 a0 L96 Q t.1 t.2.1 t.2.2 σ) ∧ (¬ x11 = 0 → (sK σ a0 = 11 ∧ (∃ b15 : Nat, sP σ a0 1 = some b15 ∧ (sK σ b15 = 4 ∧ (∀ x18 : Int32, x18 = sI σ b15 8 → (∀ x20 : Int32, x20 = sI σ b8 3 → (∀ x22 : Int32, x22 = sI σ a0 0 → (((x18 - x20) < ((2 : Int32) * x22) → b_X11_passTick_142 a0 L96 Q t.1 t.2.1 t.2.2 σ) ∧ (¬ (x18 - x20) < ((2 : Int32) * x22) → (wp_X11_stamp a0 r6 σ (fun (σ25 : Sto) => b_X11_passTick_142 a0 L96 Q t.1 t.2.1 t.2.2 σ25)))))))))))))))))))))
set_option maxHeartbeats 4000000 in
set_option maxRecDepth 100000 in
theorem t_X11_passTick_96 {p : Program} {l : Launch} {e : Env} {s : State} {m : MethodId} {args : Array Value} {below : List Frame} {meth : Method} {c : Code} {D : va_G} {cy : Nat → ClassId} {A : Nat → Prop} {a0 : Nat} {Q : Sto → Prop} {L96 : Option Nat × Int32 × Int32 → Sto → Prop} (C : Cx p s m args meth c D cy A cX11_passTick 5 RX11) (hr : meth.sig.returnType = none) (hnm : meth.name = yX11_passTick.name) (hL96 : ∀ (t : Option Nat × Int32 × Int32) (σ : Sto), L96 t σ → ∀ ls : Array Slot, lv_has ls 5 [(0, .ref a0), (1, va_rf t.1), (2, .int t.2.1), (3, .int t.2.2)] → Xw p l e rm_X11_passTick s m args below meth c D cy A σ 0 0 (MQ below (Qst D cy A (PsV Q)) args s rm_X11_passTick.cells rm_X11_passTick.slots A) (F0 m 96 ls [])) : ∀ (t : Option Nat × Int32 × Int32) (σ : Sto), f_X11_passTick_96 a0  Q L96 t σ → ∀ ls : Array Slot, lv_has ls 5 [(0, .ref a0), (1, va_rf t.1), (2, .int t.2.1), (3, .int t.2.2)] → Xw p l e rm_X11_passTick s m args below meth c D cy A σ 0 0 (MQ below (Qst D cy A (PsV Q)) args s rm_X11_passTick.cells rm_X11_passTick.slots A) (F0 m 96 ls []) := by
  intro t σ h ls hl
  unfold f_X11_passTick_96 at h
  refine x_iload_n C dX11_passTick_96 rfl (lv_at hl 3 rfl) ?_
  refine x_iload_n C dX11_passTick_97 rfl (lv_at hl 2 rfl) ?_
  refine x_icmp_ge (tgt := 148) C dX11_passTick_98 (by decide) (fun c1 => ?_) (fun c1 => ?_)
  · have h := h.1 c1
    exact x_vret C hr dX11_passTick_148 ⟨rfl, h⟩
  · have h := h.2 c1
    refine x_aload_nq C dX11_passTick_101 rfl (lv_at hl 1 rfl) ?_
    refine x_iload_n C dX11_passTick_102 rfl (lv_at hl 3 rfl) ?_
    obtain ⟨b2, g3, h⟩ := h
    refine x_nn1 g3 ?_
    obtain ⟨g4, h⟩ := h
    obtain ⟨g5, h⟩ := h
    refine x_aald C rak_17 g4 g5 dX11_passTick_103 ?_
    refine x_topq (fun r6 e7 => ?_)
    have h := h r6 e7
    refine x_astoreq (i := 4) (lv' := [(4, va_rf r6), (0, .ref a0), (1, va_rf t.1), (2, .int t.2.1), (3, .int t.2.2)]) C dX11_passTick_104 hl (by decide) (by first | rfl | simp [vrc, cat_i, cat_r, cat_l]) (fun ls hl => ?_)
    refine x_aloadq C dX11_passTick_106 (lv_at hl 0 rfl) ?_
    obtain ⟨b8, g9, h⟩ := h
    refine x_nn0 g9 ?_
    obtain ⟨g10, h⟩ := h
    refine x_getZ C fl_RX11_102 g10 dX11_passTick_108 ?_
    refine x_topi (fun x11 e12 => ?_)
    have h := h x11 e12
    refine x_if_eq (tgt := 142) C dX11_passTick_111 (by decide) (fun c13 => ?_) (fun c13 => ?_)
    · have h := h.1 c13
      exact t_X11_passTick_142 C hr hnm hL96 t.1 t.2.1 t.2.2 _ h ls (lv_sub hl [1, 2, 3, 4] rfl)
    · have h := h.2 c13
      refine x_aload_n C dX11_passTick_114 rfl (lv_at hl 1 rfl) ?_
      obtain ⟨g14, h⟩ := h
      refine x_getP C fl_RX11_24 g14 dX11_passTick_115 ?_
      obtain ⟨b15, g16, h⟩ := h
      refine x_nn0 g16 ?_
      obtain ⟨g17, h⟩ := h
      refine x_getI C fl_RX11_179 g17 dX11_passTick_118 ?_
      refine x_topi (fun x18 e19 => ?_)
      have h := h x18 e19
      refine x_aloadq C dX11_passTick_121 (lv_at hl 0 rfl) ?_
      refine x_nn0 g9 ?_
      refine x_getI C fl_RX11_372 g10 dX11_passTick_123 ?_
      refine x_topi (fun x20 e21 => ?_)
      have h := h x20 e21
      refine x_isub C dX11_passTick_126 ?_
      refine x_iconst (v := 2) C dX11_passTick_127 (by decide) ?_
      refine x_aload_n C dX11_passTick_128 rfl (lv_at hl 1 rfl) ?_
      refine x_getI C fl_RX11_15 g14 dX11_passTick_129 ?_
      refine x_topi (fun x22 e23 => ?_)
      have h := h x22 e23
      refine x_imul C dX11_passTick_132 ?_
      refine x_icmp_lt (tgt := 142) C dX11_passTick_133 (by decide) (fun c24 => ?_) (fun c24 => ?_)
      · have h := h.1 c24
        exact t_X11_passTick_142 C hr hnm hL96 t.1 t.2.1 t.2.2 _ h ls (lv_sub hl [1, 2, 3, 4] rfl)
      · have h := h.2 c24
        refine x_aload_n C dX11_passTick_136 rfl (lv_at hl 1 rfl) ?_
        refine x_aloadq C dX11_passTick_137 (lv_at hl 0 rfl) ?_
        refine x_callV (rm := rm_X11_stamp) (rest := []) (As := [va_rf r6]) C cy_RX11_122 g14 (by decide) (by decide) rfl rfl (Nat.le_of_ble_eq_true rfl) hl.1 dX11_passTick_139 (c_X11_stamp l D cy a0 r6 σ _ h) (ks_v (fun σ25 h => ?_))
        exact t_X11_passTick_142 C hr hnm hL96 t.1 t.2.1 t.2.2 _ h ls (lv_sub hl [1, 2, 3, 4] rfl)
def b_X11_passTick_80 (a0 : Nat) (L53 : Option Nat × Int32 × Int32 → Sto → Prop) (Q : Sto → Prop) (p1 : Option Nat) (p2 : Int32) (p3 : Int32) (σ : Sto) : Prop := (∀ x1 : Int32, x1 = p3 + (1 : Int32) → L53 (p1, p2, x1) σ)
set_option maxHeartbeats 4000000 in
set_option maxRecDepth 100000 in
theorem t_X11_passTick_80 {p : Program} {l : Launch} {e : Env} {s : State} {m : MethodId} {args : Array Value} {below : List Frame} {meth : Method} {c : Code} {D : va_G} {cy : Nat → ClassId} {A : Nat → Prop} {a0 : Nat} {L53 : Option Nat × Int32 × Int32 → Sto → Prop} {Q : Sto → Prop} (C : Cx p s m args meth c D cy A cX11_passTick 5 RX11) (hr : meth.sig.returnType = none) (hnm : meth.name = yX11_passTick.name) (hL53 : ∀ (t : Option Nat × Int32 × Int32) (σ : Sto), L53 t σ → ∀ ls : Array Slot, lv_has ls 5 [(0, .ref a0), (1, va_rf t.1), (2, .int t.2.1), (3, .int t.2.2)] → Xw p l e rm_X11_passTick s m args below meth c D cy A σ 0 0 (MQ below (Qst D cy A (PsV Q)) args s rm_X11_passTick.cells rm_X11_passTick.slots A) (F0 m 53 ls [])) (p1 : Option Nat) (p2 : Int32) (p3 : Int32) (σ : Sto) (h : b_X11_passTick_80 a0 L53 Q p1 p2 p3 σ) (ls : Array Slot) (hl : lv_has ls 5 [(0, .ref a0), (1, va_rf p1), (2, .int p2), (3, .int p3)]) : Xw p l e rm_X11_passTick s m args below meth c D cy A σ 0 0 (MQ below (Qst D cy A (PsV Q)) args s rm_X11_passTick.cells rm_X11_passTick.slots A) (F0 m 80 ls []) := by
  unfold b_X11_passTick_80 at h
  obtain ⟨x1, e2⟩ : ∃ z : Int32, z = p3 + (1 : Int32) := ⟨_, rfl⟩
  have h := h x1 e2
  refine x_iinc (v := x1) (lv' := [(3, .int x1), (0, .ref a0), (1, va_rf p1), (2, .int p2)]) C dX11_passTick_80 hl (q0 := 3) rfl (by rw [e2]; rfl) (by decide) (by first | rfl | simp [vrc, cat_i, cat_r, cat_l]) (fun ls hl => ?_)
  refine x_goto (tgt := 53) C dX11_passTick_83 (by decide) ?_
  exact hL53 (p1, p2, x1) _ h ls (lv_sub hl [1, 2, 3, 0] rfl)
def f_X11_passTick_53 (a0 : Nat)  (Q : Sto → Prop) (L53 : Option Nat × Int32 × Int32 → Sto → Prop) (t : Option Nat × Int32 × Int32) (σ : Sto) : Prop := ((t.2.1 ≤ t.2.2 → (sK σ a0 = 11 ∧ (∀ r3 : Option Nat, r3 = sP σ a0 4 → (∃ b5 : Nat, r3 = some b5 ∧ (sK σ b5 = 17 ∧ (∀ x8 : Int32, x8 = nI (sN σ b5) → LF (f_X11_passTick_96 a0  Q) (r3, x8, (0 : Int32)) σ)))))) ∧ (¬ t.2.1 ≤ t.2.2 → (∃ b10 : Nat, t.1 = some b10 ∧ (sK σ b10 = 21 ∧ (vp_in t.2.2 (sN σ b10) ∧ (∀ r14 : Option Nat, r14 = sP σ b10 t.2.2.toNatClampNeg → (∃ b16 : Nat, r14 = some b16 ∧ (sK σ b16 = 8 ∧ (∀ x19 : Int32, x19 = sI σ b16 3 → ((¬ x19 = 0 → b_X11_passTick_80 a0 L53 Q t.1 t.2.1 t.2.2 σ) ∧ (x19 = 0 → (sK σ a0 = 11 ∧ (∀ x23 : Int32, x23 = sI σ a0 0 → (wp_X8_passTick b16 x23 σ (fun (σ25 : Sto) => b_X11_passTick_80 a0 L53 Q t.1 t.2.1 t.2.2 σ25)))))))))))))))
set_option maxHeartbeats 4000000 in
set_option maxRecDepth 100000 in
theorem t_X11_passTick_53 {p : Program} {l : Launch} {e : Env} {s : State} {m : MethodId} {args : Array Value} {below : List Frame} {meth : Method} {c : Code} {D : va_G} {cy : Nat → ClassId} {A : Nat → Prop} {a0 : Nat} {Q : Sto → Prop} {L53 : Option Nat × Int32 × Int32 → Sto → Prop} (C : Cx p s m args meth c D cy A cX11_passTick 5 RX11) (hr : meth.sig.returnType = none) (hnm : meth.name = yX11_passTick.name) (hL53 : ∀ (t : Option Nat × Int32 × Int32) (σ : Sto), L53 t σ → ∀ ls : Array Slot, lv_has ls 5 [(0, .ref a0), (1, va_rf t.1), (2, .int t.2.1), (3, .int t.2.2)] → Xw p l e rm_X11_passTick s m args below meth c D cy A σ 0 0 (MQ below (Qst D cy A (PsV Q)) args s rm_X11_passTick.cells rm_X11_passTick.slots A) (F0 m 53 ls [])) : ∀ (t : Option Nat × Int32 × Int32) (σ : Sto), f_X11_passTick_53 a0  Q L53 t σ → ∀ ls : Array Slot, lv_has ls 5 [(0, .ref a0), (1, va_rf t.1), (2, .int t.2.1), (3, .int t.2.2)] → Xw p l e rm_X11_passTick s m args below meth c D cy A σ 0 0 (MQ below (Qst D cy A (PsV Q)) args s rm_X11_passTick.cells rm_X11_passTick.slots A) (F0 m 53 ls []) := by
  intro t σ h ls hl
  unfold f_X11_passTick_53 at h
  refine x_iload_n C dX11_passTick_53 rfl (lv_at hl 3 rfl) ?_
  refine x_iload_n C dX11_passTick_54 rfl (lv_at hl 2 rfl) ?_
  refine x_icmp_ge (tgt := 86) C dX11_passTick_55 (by decide) (fun c1 => ?_) (fun c1 => ?_)
  · have h := h.1 c1
    refine x_aload_n C dX11_passTick_86 rfl (lv_at hl 0 rfl) ?_
    obtain ⟨g2, h⟩ := h
    refine x_getP C fl_RX11_48 g2 dX11_passTick_87 ?_
    refine x_topq (fun r3 e4 => ?_)
    have h := h r3 e4
    refine x_astore_nq (i := 1) (lv' := [(1, va_rf r3), (0, .ref a0), (2, .int t.2.1), (3, .int t.2.2)]) C dX11_passTick_90 rfl hl (by decide) (by first | rfl | simp [vrc, cat_i, cat_r, cat_l]) (fun ls hl => ?_)
    refine x_aload_nq C dX11_passTick_91 rfl (lv_at hl 0 rfl) ?_
    obtain ⟨b5, g6, h⟩ := h
    refine x_nn0 g6 ?_
    obtain ⟨g7, h⟩ := h
    refine x_alen C g7 (by decide) (by decide) dX11_passTick_92 ?_
    refine x_topi (fun x8 e9 => ?_)
    have h := h x8 e9
    refine x_istore_n (i := 2) (lv' := [(2, .int x8), (1, va_rf r3), (0, .ref a0), (3, .int t.2.2)]) C dX11_passTick_93 rfl hl (by decide) (by first | rfl | simp [vrc, cat_i, cat_r, cat_l]) (fun ls hl => ?_)
    refine x_iconst (v := 0) C dX11_passTick_94 (by decide) ?_
    refine x_istore_n (i := 3) (lv' := [(3, .int (0 : Int32)), (2, .int x8), (1, va_rf r3), (0, .ref a0)]) C dX11_passTick_95 rfl hl (by decide) (by first | rfl | simp [vrc, cat_i, cat_r, cat_l]) (fun ls hl => ?_)
    exact h (fun t σ => ∀ ls : Array Slot, lv_has ls 5 [(0, .ref a0), (1, va_rf t.1), (2, .int t.2.1), (3, .int t.2.2)] → Xw p l e rm_X11_passTick s m args below meth c D cy A σ 0 0 (MQ below (Qst D cy A (PsV Q)) args s rm_X11_passTick.cells rm_X11_passTick.slots A) (F0 m 96 ls [])) (t_X11_passTick_96 C hr hnm  (fun t σ h => h)) ls (lv_sub hl [3, 2, 1, 0] rfl)
  · have h := h.2 c1
    refine x_aload_nq C dX11_passTick_58 rfl (lv_at hl 1 rfl) ?_
    refine x_iload_n C dX11_passTick_59 rfl (lv_at hl 3 rfl) ?_
    obtain ⟨b10, g11, h⟩ := h
    refine x_nn1 g11 ?_
    obtain ⟨g12, h⟩ := h
    obtain ⟨g13, h⟩ := h
    refine x_aald C rak_21 g12 g13 dX11_passTick_60 ?_
    refine x_topq (fun r14 e15 => ?_)
    have h := h r14 e15
    refine x_astoreq (i := 4) (lv' := [(4, va_rf r14), (0, .ref a0), (1, va_rf t.1), (2, .int t.2.1), (3, .int t.2.2)]) C dX11_passTick_61 hl (by decide) (by first | rfl | simp [vrc, cat_i, cat_r, cat_l]) (fun ls hl => ?_)
    refine x_aloadq C dX11_passTick_63 (lv_at hl 0 rfl) ?_
    obtain ⟨b16, g17, h⟩ := h
    refine x_nn0 g17 ?_
    obtain ⟨g18, h⟩ := h
    refine x_getZ C fl_RX11_156 g18 dX11_passTick_65 ?_
    refine x_topi (fun x19 e20 => ?_)
    have h := h x19 e20
    refine x_if_ne (tgt := 80) C dX11_passTick_68 (by decide) (fun c21 => ?_) (fun c21 => ?_)
    · have h := h.1 c21
      exact t_X11_passTick_80 C hr hnm hL53 t.1 t.2.1 t.2.2 _ h ls (lv_sub hl [1, 2, 3, 4] rfl)
    · have h := h.2 c21
      refine x_aloadq C dX11_passTick_71 (lv_at hl 0 rfl) ?_
      refine x_aload_n C dX11_passTick_73 rfl (lv_at hl 1 rfl) ?_
      obtain ⟨g22, h⟩ := h
      refine x_getI C fl_RX11_15 g22 dX11_passTick_74 ?_
      refine x_topi (fun x23 e24 => ?_)
      have h := h x23 e24
      refine x_nn1 g17 ?_
      refine x_callV (rm := rm_X8_passTick) (rest := []) (As := [.int x23]) C cy_RX11_390 g18 (by decide) (by decide) rfl rfl (Nat.le_of_ble_eq_true rfl) hl.1 dX11_passTick_77 (c_X8_passTick l D cy b16 x23 σ _ h) (ks_v (fun σ25 h => ?_))
      exact t_X11_passTick_80 C hr hnm hL53 t.1 t.2.1 t.2.2 _ h ls (lv_sub hl [1, 2, 3, 4] rfl)
def b_X11_passTick_43 (a0 : Nat)  (Q : Sto → Prop)  (σ : Sto) : Prop := (sK σ a0 = 11 ∧ (∀ r2 : Option Nat, r2 = sP σ a0 3 → (∃ b4 : Nat, r2 = some b4 ∧ (sK σ b4 = 21 ∧ (∀ x7 : Int32, x7 = nI (sN σ b4) → LF (f_X11_passTick_53 a0  Q) (r2, x7, (0 : Int32)) σ)))))
set_option maxHeartbeats 4000000 in
set_option maxRecDepth 100000 in
theorem t_X11_passTick_43 {p : Program} {l : Launch} {e : Env} {s : State} {m : MethodId} {args : Array Value} {below : List Frame} {meth : Method} {c : Code} {D : va_G} {cy : Nat → ClassId} {A : Nat → Prop} {a0 : Nat} {Q : Sto → Prop} (C : Cx p s m args meth c D cy A cX11_passTick 5 RX11) (hr : meth.sig.returnType = none) (hnm : meth.name = yX11_passTick.name)  (σ : Sto) (h : b_X11_passTick_43 a0  Q  σ) (ls : Array Slot) (hl : lv_has ls 5 [(0, .ref a0)]) : Xw p l e rm_X11_passTick s m args below meth c D cy A σ 0 0 (MQ below (Qst D cy A (PsV Q)) args s rm_X11_passTick.cells rm_X11_passTick.slots A) (F0 m 43 ls []) := by
  unfold b_X11_passTick_43 at h
  refine x_aload_n C dX11_passTick_43 rfl (lv_at hl 0 rfl) ?_
  obtain ⟨g1, h⟩ := h
  refine x_getP C fl_RX11_40 g1 dX11_passTick_44 ?_
  refine x_topq (fun r2 e3 => ?_)
  have h := h r2 e3
  refine x_astore_nq (i := 1) (lv' := [(1, va_rf r2), (0, .ref a0)]) C dX11_passTick_47 rfl hl (by decide) (by first | rfl | simp [vrc, cat_i, cat_r, cat_l]) (fun ls hl => ?_)
  refine x_aload_nq C dX11_passTick_48 rfl (lv_at hl 0 rfl) ?_
  obtain ⟨b4, g5, h⟩ := h
  refine x_nn0 g5 ?_
  obtain ⟨g6, h⟩ := h
  refine x_alen C g6 (by decide) (by decide) dX11_passTick_49 ?_
  refine x_topi (fun x7 e8 => ?_)
  have h := h x7 e8
  refine x_istore_n (i := 2) (lv' := [(2, .int x7), (1, va_rf r2), (0, .ref a0)]) C dX11_passTick_50 rfl hl (by decide) (by first | rfl | simp [vrc, cat_i, cat_r, cat_l]) (fun ls hl => ?_)
  refine x_iconst (v := 0) C dX11_passTick_51 (by decide) ?_
  refine x_istore_n (i := 3) (lv' := [(3, .int (0 : Int32)), (2, .int x7), (1, va_rf r2), (0, .ref a0)]) C dX11_passTick_52 rfl hl (by decide) (by first | rfl | simp [vrc, cat_i, cat_r, cat_l]) (fun ls hl => ?_)
  exact h (fun t σ => ∀ ls : Array Slot, lv_has ls 5 [(0, .ref a0), (1, va_rf t.1), (2, .int t.2.1), (3, .int t.2.2)] → Xw p l e rm_X11_passTick s m args below meth c D cy A σ 0 0 (MQ below (Qst D cy A (PsV Q)) args s rm_X11_passTick.cells rm_X11_passTick.slots A) (F0 m 53 ls [])) (t_X11_passTick_53 C hr hnm  (fun t σ h => h)) ls (lv_sub hl [3, 2, 1, 0] rfl)
def wp_X11_passTick (a0 : Nat)  (σ : Sto) (Q : Sto → Prop) : Prop := (sK σ a0 = 11 ∧ (∀ r2 : Option Nat, r2 = sP σ a0 1 → (∃ b4 : Nat, r2 = some b4 ∧ (sK σ b4 = 4 ∧ (∀ x7 : Int32, x7 = sI σ b4 8 → (∀ x9 : Int32, x9 = x7 + (1 : Int32) → (∀ x11 : Int32, x11 = sI (stI σ b4 8 x9) a0 5 → ((¬ x11 = 0 → b_X11_passTick_43 a0  Q  (stI σ b4 8 x9)) ∧ (x11 = 0 → (∃ b14 : Nat, sP σ a0 1 = some b14 ∧ (sK σ b14 = 4 ∧ (∀ x17 : Int32, x17 = sI (stI σ b4 8 x9) b14 8 → (∀ x19 : Int32, x19 = sI (stI σ b4 8 x9) a0 8 → (∀ x21 : Int32, x21 = sI (stI σ b4 8 x9) a0 0 → (((x17 - x19) < x21 → b_X11_passTick_43 a0  Q  (stI σ b4 8 x9)) ∧ (¬ (x17 - x19) < x21 → (wp_X11_raiseSequencer a0  (stI σ b4 8 x9) (fun (σ24 : Sto) => b_X11_passTick_43 a0  Q  σ24))))))))))))))))))
set_option maxHeartbeats 4000000 in
set_option maxRecDepth 100000 in
theorem c_X11_passTick (l : Launch) (D : va_G) (cy : Nat → ClassId) (a0 : Nat)  (σ : Sto) (Q : Sto → Prop) (h : wp_X11_passTick a0  σ Q) : Mt l D cy yX11_passTick cX11_passTick 5 none rm_X11_passTick [.ref a0] σ (PsV Q) := by
  unfold wp_X11_passTick at h
  refine mt_of (by decide +kernel) (Nat.le_of_ble_eq_true rfl) ?_
  intro p e s m args below meth c A ls C hr hnm hl
  have C : Cx p s m args meth c D cy A cX11_passTick 5 RX11 := C
  have hl : lv_has ls 5 [(0, .ref a0)] := hl
  refine x_aload_n C dX11_passTick_0 rfl (lv_at hl 0 rfl) ?_
  obtain ⟨g1, h⟩ := h
  refine x_getP C fl_RX11_24 g1 dX11_passTick_1 ?_
  refine x_topq (fun r2 e3 => ?_)
  have h := h r2 e3
  refine x_dup C dX11_passTick_4 (vrc _) ?_
  obtain ⟨b4, g5, h⟩ := h
  refine x_nn0 g5 ?_
  obtain ⟨g6, h⟩ := h
  refine x_getI C fl_RX11_179 g6 dX11_passTick_5 ?_
  refine x_topi (fun x7 e8 => ?_)
  have h := h x7 e8
  refine x_iconst (v := 1) C dX11_passTick_8 (by decide) ?_
  refine x_iadd C dX11_passTick_9 ?_
  refine x_topi (fun x9 e10 => ?_)
  have h := h x9 e10
  refine x_nn1 g5 ?_
  refine x_putI C fl_RX11_179 (Or.inl rfl) g6 dX11_passTick_10 ?_
  refine x_aload_n C dX11_passTick_13 rfl (lv_at hl 0 rfl) ?_
  refine x_getZ C fl_RX11_53 g1 dX11_passTick_14 ?_
  refine x_topi (fun x11 e12 => ?_)
  have h := h x11 e12
  refine x_if_ne (tgt := 43) C dX11_passTick_17 (by decide) (fun c13 => ?_) (fun c13 => ?_)
  · have h := h.1 c13
    exact t_X11_passTick_43 C hr hnm   _ h ls (lv_sub hl [0] rfl)
  · have h := h.2 c13
    refine x_aload_n C dX11_passTick_20 rfl (lv_at hl 0 rfl) ?_
    refine x_getP C fl_RX11_24 g1 dX11_passTick_21 ?_
    obtain ⟨b14, g15, h⟩ := h
    refine x_nn0 g15 ?_
    obtain ⟨g16, h⟩ := h
    refine x_getI C fl_RX11_179 g16 dX11_passTick_24 ?_
    refine x_topi (fun x17 e18 => ?_)
    have h := h x17 e18
    refine x_aload_n C dX11_passTick_27 rfl (lv_at hl 0 rfl) ?_
    refine x_getI C fl_RX11_216 g1 dX11_passTick_28 ?_
    refine x_topi (fun x19 e20 => ?_)
    have h := h x19 e20
    refine x_isub C dX11_passTick_31 ?_
    refine x_aload_n C dX11_passTick_32 rfl (lv_at hl 0 rfl) ?_
    refine x_getI C fl_RX11_15 g1 dX11_passTick_33 ?_
    refine x_topi (fun x21 e22 => ?_)
    have h := h x21 e22
    refine x_icmp_lt (tgt := 43) C dX11_passTick_36 (by decide) (fun c23 => ?_) (fun c23 => ?_)
    · have h := h.1 c23
      exact t_X11_passTick_43 C hr hnm   _ h ls (lv_sub hl [0] rfl)
    · have h := h.2 c23
      refine x_aload_n C dX11_passTick_39 rfl (lv_at hl 0 rfl) ?_
      refine x_callV (rm := rm_X11_raiseSequencer) (rest := []) (As := []) C cy_RX11_219 g1 (by decide) (by decide) rfl rfl (Nat.le_of_ble_eq_true rfl) hl.1 dX11_passTick_40 (c_X11_raiseSequencer l D cy a0  (stI σ b4 8 x9) _ h) (ks_v (fun σ24 h => ?_))
      exact t_X11_passTick_43 C hr hnm   _ h ls (lv_sub hl [0] rfl)
theorem dX11_handToClient_0 : decode cX11_handToClient 0 = .ok (.aload_n 0, 1) := by decide +kernel
theorem dX11_handToClient_1 : decode cX11_handToClient 1 = .ok (.aload_n 1, 1) := by decide +kernel
theorem dX11_handToClient_2 : decode cX11_handToClient 2 = .ok (.getfield 312, 3) := by decide +kernel
theorem dX11_handToClient_5 : decode cX11_handToClient 5 = .ok (.invokevirtual 86, 3) := by decide +kernel
theorem dX11_handToClient_8 : decode cX11_handToClient 8 = .ok (.ifCond .ne 4, 3) := by decide +kernel
theorem dX11_handToClient_11 : decode cX11_handToClient 11 = .ok (.return_, 1) := by decide +kernel
theorem dX11_handToClient_12 : decode cX11_handToClient 12 = .ok (.aload_n 0, 1) := by decide +kernel
theorem dX11_handToClient_13 : decode cX11_handToClient 13 = .ok (.getfield 48, 3) := by decide +kernel
theorem dX11_handToClient_16 : decode cX11_handToClient 16 = .ok (.aload_n 1, 1) := by decide +kernel
theorem dX11_handToClient_17 : decode cX11_handToClient 17 = .ok (.getfield 312, 3) := by decide +kernel
theorem dX11_handToClient_20 : decode cX11_handToClient 20 = .ok (.aaload, 1) := by decide +kernel
theorem dX11_handToClient_21 : decode cX11_handToClient 21 = .ok (.astore_n 2, 1) := by decide +kernel
theorem dX11_handToClient_22 : decode cX11_handToClient 22 = .ok (.aload_n 2, 1) := by decide +kernel
theorem dX11_handToClient_23 : decode cX11_handToClient 23 = .ok (.aload_n 1, 1) := by decide +kernel
theorem dX11_handToClient_24 : decode cX11_handToClient 24 = .ok (.aload_n 0, 1) := by decide +kernel
theorem dX11_handToClient_25 : decode cX11_handToClient 25 = .ok (.getfield 24, 3) := by decide +kernel
theorem dX11_handToClient_28 : decode cX11_handToClient 28 = .ok (.aload_n 1, 1) := by decide +kernel
theorem dX11_handToClient_29 : decode cX11_handToClient 29 = .ok (.getfield 399, 3) := by decide +kernel
theorem dX11_handToClient_32 : decode cX11_handToClient 32 = .ok (.invokevirtual 400, 3) := by decide +kernel
theorem dX11_handToClient_35 : decode cX11_handToClient 35 = .ok (.aload_n 0, 1) := by decide +kernel
theorem dX11_handToClient_36 : decode cX11_handToClient 36 = .ok (.getfield 24, 3) := by decide +kernel
theorem dX11_handToClient_39 : decode cX11_handToClient 39 = .ok (.getfield 163, 3) := by decide +kernel
theorem dX11_handToClient_42 : decode cX11_handToClient 42 = .ok (.iconst 1, 1) := by decide +kernel
theorem dX11_handToClient_43 : decode cX11_handToClient 43 = .ok (.iadd, 1) := by decide +kernel
theorem dX11_handToClient_44 : decode cX11_handToClient 44 = .ok (.invokevirtual 403, 3) := by decide +kernel
theorem dX11_handToClient_47 : decode cX11_handToClient 47 = .ok (.ifCond .eq 46, 3) := by decide +kernel
theorem dX11_handToClient_50 : decode cX11_handToClient 50 = .ok (.aload_n 0, 1) := by decide +kernel
theorem dX11_handToClient_51 : decode cX11_handToClient 51 = .ok (.getfield 213, 3) := by decide +kernel
theorem dX11_handToClient_54 : decode cX11_handToClient 54 = .ok (.sipush 200, 3) := by decide +kernel
theorem dX11_handToClient_57 : decode cX11_handToClient 57 = .ok (.invokestatic 9, 3) := by decide +kernel
theorem dX11_handToClient_60 : decode cX11_handToClient 60 = .ok (.istore_n 3, 1) := by decide +kernel
theorem dX11_handToClient_61 : decode cX11_handToClient 61 = .ok (.iload_n 3, 1) := by decide +kernel
theorem dX11_handToClient_62 : decode cX11_handToClient 62 = .ok (.aload_n 0, 1) := by decide +kernel
theorem dX11_handToClient_63 : decode cX11_handToClient 63 = .ok (.getfield 62, 3) := by decide +kernel
theorem dX11_handToClient_66 : decode cX11_handToClient 66 = .ok (.arraylength, 1) := by decide +kernel
theorem dX11_handToClient_67 : decode cX11_handToClient 67 = .ok (.if_icmp .ge 16, 3) := by decide +kernel
theorem dX11_handToClient_70 : decode cX11_handToClient 70 = .ok (.aload_n 0, 1) := by decide +kernel
theorem dX11_handToClient_71 : decode cX11_handToClient 71 = .ok (.getfield 62, 3) := by decide +kernel
theorem dX11_handToClient_74 : decode cX11_handToClient 74 = .ok (.iload_n 3, 1) := by decide +kernel
theorem dX11_handToClient_75 : decode cX11_handToClient 75 = .ok (.aaload, 1) := by decide +kernel
theorem dX11_handToClient_76 : decode cX11_handToClient 76 = .ok (.aload_n 2, 1) := by decide +kernel
theorem dX11_handToClient_77 : decode cX11_handToClient 77 = .ok (.getfield 290, 3) := by decide +kernel
theorem dX11_handToClient_80 : decode cX11_handToClient 80 = .ok (.invokevirtual 407, 3) := by decide +kernel
theorem dX11_handToClient_83 : decode cX11_handToClient 83 = .ok (.aload_n 0, 1) := by decide +kernel
theorem dX11_handToClient_84 : decode cX11_handToClient 84 = .ok (.dup, 1) := by decide +kernel
theorem dX11_handToClient_85 : decode cX11_handToClient 85 = .ok (.getfield 213, 3) := by decide +kernel
theorem dX11_handToClient_88 : decode cX11_handToClient 88 = .ok (.iconst 1, 1) := by decide +kernel
theorem dX11_handToClient_89 : decode cX11_handToClient 89 = .ok (.iadd, 1) := by decide +kernel
theorem dX11_handToClient_90 : decode cX11_handToClient 90 = .ok (.putfield 213, 3) := by decide +kernel
theorem dX11_handToClient_93 : decode cX11_handToClient 93 = .ok (.return_, 1) := by decide +kernel
abbrev rm_X11_handToClient : Room := { frames := 3, cells := 0, slots := 0, locals := 74 }
def b_X11_handToClient_83 (a0 : Nat)  (Q : Sto → Prop)  (σ : Sto) : Prop := (sK σ a0 = 11 ∧ (∀ x2 : Int32, x2 = sI σ a0 10 → (∀ x4 : Int32, x4 = x2 + (1 : Int32) → Q (stI σ a0 10 x4))))
set_option maxHeartbeats 4000000 in
set_option maxRecDepth 100000 in
theorem t_X11_handToClient_83 {p : Program} {l : Launch} {e : Env} {s : State} {m : MethodId} {args : Array Value} {below : List Frame} {meth : Method} {c : Code} {D : va_G} {cy : Nat → ClassId} {A : Nat → Prop} {a0 : Nat} {Q : Sto → Prop} (C : Cx p s m args meth c D cy A cX11_handToClient 4 RX11) (hr : meth.sig.returnType = none) (hnm : meth.name = yX11_handToClient.name)  (σ : Sto) (h : b_X11_handToClient_83 a0  Q  σ) (ls : Array Slot) (hl : lv_has ls 4 [(0, .ref a0)]) : Xw p l e rm_X11_handToClient s m args below meth c D cy A σ 0 0 (MQ below (Qst D cy A (PsV Q)) args s rm_X11_handToClient.cells rm_X11_handToClient.slots A) (F0 m 83 ls []) := by
  unfold b_X11_handToClient_83 at h
  refine x_aload_n C dX11_handToClient_83 rfl (lv_at hl 0 rfl) ?_
  refine x_dup C dX11_handToClient_84 (rfl) ?_
  obtain ⟨g1, h⟩ := h
  refine x_getI C fl_RX11_213 g1 dX11_handToClient_85 ?_
  refine x_topi (fun x2 e3 => ?_)
  have h := h x2 e3
  refine x_iconst (v := 1) C dX11_handToClient_88 (by decide) ?_
  refine x_iadd C dX11_handToClient_89 ?_
  refine x_topi (fun x4 e5 => ?_)
  have h := h x4 e5
  refine x_putI C fl_RX11_213 (Or.inl rfl) g1 dX11_handToClient_90 ?_
  exact x_vret C hr dX11_handToClient_93 ⟨rfl, h⟩
def wp_X11_handToClient (a0 : Nat) (p1 : Option Nat) (σ : Sto) (Q : Sto → Prop) : Prop := (∃ b1 : Nat, p1 = some b1 ∧ (sK σ b1 = 3 ∧ (∀ x4 : Int32, x4 = sI σ b1 3 → (sK σ a0 = 11 ∧ (wp_X11_isClient a0 x4 σ (fun (x8 : Int32) (σ7 : Sto) => ((¬ x8 = 0 → (sK σ7 a0 = 11 ∧ (sK σ7 b1 = 3 ∧ (∀ x12 : Int32, x12 = sI σ7 b1 3 → (∃ b14 : Nat, sP σ7 a0 4 = some b14 ∧ (sK σ7 b14 = 17 ∧ (vp_in x12 (sN σ7 b14) ∧ (∀ r18 : Option Nat, r18 = sP σ7 b14 x12.toNatClampNeg → (∀ y20 : Int64, y20 = sJ σ7 b1 4 → (∃ b22 : Nat, sP σ7 a0 1 = some b22 ∧ (sK σ7 b22 = 4 ∧ (wp_X4_leaderOf b22 y20 σ7 (fun (x26 : Int32) (σ25 : Sto) => (sK σ25 a0 = 11 ∧ (∃ b28 : Nat, sP σ25 a0 1 = some b28 ∧ (sK σ25 b28 = 4 ∧ (∀ x31 : Int32, x31 = sI σ25 b28 1 → (∃ b33 : Nat, r18 = some b33 ∧ (sK σ25 b33 = 1 ∧ (wp_X1_hearReply b33 p1 x26 (x31 + (1 : Int32)) σ25 (fun (x37 : Int32) (σ36 : Sto) => ((x37 = 0 → Q σ36) ∧ (¬ x37 = 0 → (sK σ36 a0 = 11 ∧ (∀ x40 : Int32, x40 = sI σ36 a0 10 → (wp_J9_floorMod_7cf53 x40 (200 : Int32) σ36 (fun (x43 : Int32) (σ42 : Sto) => (sK σ42 a0 = 11 ∧ (∃ b45 : Nat, sP σ42 a0 9 = some b45 ∧ (sK σ42 b45 = 20 ∧ (((nI (sN σ42 b45)) ≤ x43 → b_X11_handToClient_83 a0  Q  σ42) ∧ (¬ (nI (sN σ42 b45)) ≤ x43 → (vp_in x43 (sN σ42 b45) ∧ (∀ r50 : Option Nat, r50 = sP σ42 b45 x43.toNatClampNeg → (sK σ42 b33 = 1 ∧ (∃ b53 : Nat, r50 = some b53 ∧ (sK σ42 b53 = 6 ∧ (wp_X6_become b53 (sP σ42 b33 4) σ42 (fun (σ56 : Sto) => b_X11_handToClient_83 a0  Q  σ56))))))))))))))))))))))))))))))))))))))) ∧ (x8 = 0 → Q σ7))))))))
set_option maxHeartbeats 4000000 in
set_option maxRecDepth 100000 in
theorem c_X11_handToClient (l : Launch) (D : va_G) (cy : Nat → ClassId) (a0 : Nat) (p1 : Option Nat) (σ : Sto) (Q : Sto → Prop) (h : wp_X11_handToClient a0 p1 σ Q) : Mt l D cy yX11_handToClient cX11_handToClient 4 none rm_X11_handToClient [.ref a0, va_rf p1] σ (PsV Q) := by
  unfold wp_X11_handToClient at h
  refine mt_of (by decide +kernel) (by simp [lg_sl, vrc, cat_i, cat_r, cat_l]) ?_
  intro p e s m args below meth c A ls C hr hnm hl
  have C : Cx p s m args meth c D cy A cX11_handToClient 4 RX11 := C
  have hl : lv_has ls 4 [(0, .ref a0), (1, va_rf p1)] := by simpa [lv_args, vrc, cat_i, cat_r, cat_l] using hl
  refine x_aload_n C dX11_handToClient_0 rfl (lv_at hl 0 rfl) ?_
  refine x_aload_nq C dX11_handToClient_1 rfl (lv_at hl 1 rfl) ?_
  obtain ⟨b1, g2, h⟩ := h
  refine x_nn0 g2 ?_
  obtain ⟨g3, h⟩ := h
  refine x_getI C fl_RX11_312 g3 dX11_handToClient_2 ?_
  refine x_topi (fun x4 e5 => ?_)
  have h := h x4 e5
  obtain ⟨g6, h⟩ := h
  refine x_callV (rm := rm_X11_isClient) (rest := []) (As := [.int x4]) C cy_RX11_86 g6 (by decide) (by decide) rfl rfl (Nat.le_of_ble_eq_true rfl) hl.1 dX11_handToClient_5 (c_X11_isClient l D cy a0 x4 σ _ h) (ks_i (fun x8 σ7 h => ?_))
  refine x_if_ne (tgt := 12) C dX11_handToClient_8 (by decide) (fun c9 => ?_) (fun c9 => ?_)
  · have h := h.1 c9
    refine x_aload_n C dX11_handToClient_12 rfl (lv_at hl 0 rfl) ?_
    obtain ⟨g10, h⟩ := h
    refine x_getP C fl_RX11_48 g10 dX11_handToClient_13 ?_
    refine x_aload_nq C dX11_handToClient_16 rfl (lv_at hl 1 rfl) ?_
    refine x_nn0 g2 ?_
    obtain ⟨g11, h⟩ := h
    refine x_getI C fl_RX11_312 g11 dX11_handToClient_17 ?_
    refine x_topi (fun x12 e13 => ?_)
    have h := h x12 e13
    obtain ⟨b14, g15, h⟩ := h
    refine x_nn1 g15 ?_
    obtain ⟨g16, h⟩ := h
    obtain ⟨g17, h⟩ := h
    refine x_aald C rak_17 g16 g17 dX11_handToClient_20 ?_
    refine x_topq (fun r18 e19 => ?_)
    have h := h r18 e19
    refine x_astore_nq (i := 2) (lv' := [(2, va_rf r18), (0, .ref a0), (1, va_rf p1)]) C dX11_handToClient_21 rfl hl (by decide) (by first | rfl | simp [vrc, cat_i, cat_r, cat_l]) (fun ls hl => ?_)
    refine x_aload_nq C dX11_handToClient_22 rfl (lv_at hl 0 rfl) ?_
    refine x_aload_nq C dX11_handToClient_23 rfl (lv_at hl 2 rfl) ?_
    refine x_aload_n C dX11_handToClient_24 rfl (lv_at hl 1 rfl) ?_
    refine x_getP C fl_RX11_24 g10 dX11_handToClient_25 ?_
    refine x_aload_nq C dX11_handToClient_28 rfl (lv_at hl 2 rfl) ?_
    refine x_nn0 g2 ?_
    refine x_getJ C fl_RX11_399 g11 dX11_handToClient_29 ?_
    refine x_topj (fun y20 e21 => ?_)
    have h := h y20 e21
    obtain ⟨b22, g23, h⟩ := h
    refine x_nn1 g23 ?_
    obtain ⟨g24, h⟩ := h
    refine x_callV (rm := rm_X4_leaderOf) (rest := [va_rf p1, va_rf r18]) (As := [.long y20]) C cy_RX11_400 g24 (by decide) (by decide) rfl rfl (by simp [vrc, cat_i, cat_r, cat_l]) hl.1 dX11_handToClient_32 (c_X4_leaderOf l D cy b22 y20 σ7 _ h) (ks_i (fun x26 σ25 h => ?_))
    refine x_aload_n C dX11_handToClient_35 rfl (lv_at hl 1 rfl) ?_
    obtain ⟨g27, h⟩ := h
    refine x_getP C fl_RX11_24 g27 dX11_handToClient_36 ?_
    obtain ⟨b28, g29, h⟩ := h
    refine x_nn0 g29 ?_
    obtain ⟨g30, h⟩ := h
    refine x_getI C fl_RX11_163 g30 dX11_handToClient_39 ?_
    refine x_topi (fun x31 e32 => ?_)
    have h := h x31 e32
    refine x_iconst (v := 1) C dX11_handToClient_42 (by decide) ?_
    refine x_iadd C dX11_handToClient_43 ?_
    obtain ⟨b33, g34, h⟩ := h
    refine x_nn3 g34 ?_
    obtain ⟨g35, h⟩ := h
    refine x_callV (rm := rm_X1_hearReply) (rest := []) (As := [va_rf p1, .int x26, .int (x31 + (1 : Int32))]) C cy_RX11_403 g35 (by decide) (by decide) rfl rfl (Nat.le_of_ble_eq_true rfl) hl.1 dX11_handToClient_44 (c_X1_hearReply l D cy b33 p1 x26 (x31 + (1 : Int32)) σ25 _ h) (ks_i (fun x37 σ36 h => ?_))
    refine x_if_eq (tgt := 93) C dX11_handToClient_47 (by decide) (fun c38 => ?_) (fun c38 => ?_)
    · have h := h.1 c38
      exact x_vret C hr dX11_handToClient_93 ⟨rfl, h⟩
    · have h := h.2 c38
      refine x_aload_n C dX11_handToClient_50 rfl (lv_at hl 1 rfl) ?_
      obtain ⟨g39, h⟩ := h
      refine x_getI C fl_RX11_213 g39 dX11_handToClient_51 ?_
      refine x_topi (fun x40 e41 => ?_)
      have h := h x40 e41
      refine x_sipush (v := 200) C dX11_handToClient_54 (by decide) ?_
      refine x_callS (rm := rm_J9_floorMod_7cf53) (rest := []) (As := [.int x40, .int (200 : Int32)]) C cs_RX11_9 (by decide) (by decide) rfl rfl (Nat.le_of_ble_eq_true rfl) hl.1 dX11_handToClient_57 (c_J9_floorMod_7cf53 l D cy x40 (200 : Int32) σ36 _ h) (ks_i (fun x43 σ42 h => ?_))
      refine x_istore_n (i := 3) (lv' := [(3, .int x43), (2, va_rf r18), (0, .ref a0), (1, va_rf p1)]) C dX11_handToClient_60 rfl hl (by decide) (by first | rfl | simp [vrc, cat_i, cat_r, cat_l]) (fun ls hl => ?_)
      refine x_iload_n C dX11_handToClient_61 rfl (lv_at hl 0 rfl) ?_
      refine x_aload_n C dX11_handToClient_62 rfl (lv_at hl 2 rfl) ?_
      obtain ⟨g44, h⟩ := h
      refine x_getP C fl_RX11_62 g44 dX11_handToClient_63 ?_
      obtain ⟨b45, g46, h⟩ := h
      refine x_nn0 g46 ?_
      obtain ⟨g47, h⟩ := h
      refine x_alen C g47 (by decide) (by decide) dX11_handToClient_66 ?_
      refine x_icmp_ge (tgt := 83) C dX11_handToClient_67 (by decide) (fun c48 => ?_) (fun c48 => ?_)
      · have h := h.1 c48
        exact t_X11_handToClient_83 C hr hnm   _ h ls (lv_sub hl [2] rfl)
      · have h := h.2 c48
        refine x_aload_n C dX11_handToClient_70 rfl (lv_at hl 2 rfl) ?_
        refine x_getP C fl_RX11_62 g44 dX11_handToClient_71 ?_
        refine x_iload_n C dX11_handToClient_74 rfl (lv_at hl 0 rfl) ?_
        refine x_nn1 g46 ?_
        obtain ⟨g49, h⟩ := h
        refine x_aald C rak_20 g47 g49 dX11_handToClient_75 ?_
        refine x_topq (fun r50 e51 => ?_)
        have h := h r50 e51
        refine x_aload_nq C dX11_handToClient_76 rfl (lv_at hl 1 rfl) ?_
        refine x_nn0 g34 ?_
        obtain ⟨g52, h⟩ := h
        refine x_getP C fl_RX11_290 g52 dX11_handToClient_77 ?_
        obtain ⟨b53, g54, h⟩ := h
        refine x_nn1 g54 ?_
        obtain ⟨g55, h⟩ := h
        refine x_callV (rm := rm_X6_become) (rest := []) (As := [va_rf (sP σ42 b33 4)]) C cy_RX11_407 g55 (by decide) (by decide) rfl rfl (Nat.le_of_ble_eq_true rfl) hl.1 dX11_handToClient_80 (c_X6_become l D cy b53 (sP σ42 b33 4) σ42 _ h) (ks_v (fun σ56 h => ?_))
        exact t_X11_handToClient_83 C hr hnm   _ h ls (lv_sub hl [2] rfl)
  · have h := h.2 c9
    exact x_vret C hr dX11_handToClient_11 ⟨rfl, h⟩
theorem dX11_handOver_0 : decode cX11_handOver 0 = .ok (.aload_n 0, 1) := by decide +kernel
theorem dX11_handOver_1 : decode cX11_handOver 1 = .ok (.getfield 24, 3) := by decide +kernel
theorem dX11_handOver_4 : decode cX11_handOver 4 = .ok (.iload_n 1, 1) := by decide +kernel
theorem dX11_handOver_5 : decode cX11_handOver 5 = .ok (.invokevirtual 139, 3) := by decide +kernel
theorem dX11_handOver_8 : decode cX11_handOver 8 = .ok (.astore_n 2, 1) := by decide +kernel
theorem dX11_handOver_9 : decode cX11_handOver 9 = .ok (.aload_n 2, 1) := by decide +kernel
theorem dX11_handOver_10 : decode cX11_handOver 10 = .ok (.getfield 308, 3) := by decide +kernel
theorem dX11_handOver_13 : decode cX11_handOver 13 = .ok (.bipush 11, 2) := by decide +kernel
theorem dX11_handOver_15 : decode cX11_handOver 15 = .ok (.if_icmp .ne 11, 3) := by decide +kernel
theorem dX11_handOver_18 : decode cX11_handOver 18 = .ok (.aload_n 0, 1) := by decide +kernel
theorem dX11_handOver_19 : decode cX11_handOver 19 = .ok (.aload_n 2, 1) := by decide +kernel
theorem dX11_handOver_20 : decode cX11_handOver 20 = .ok (.invokevirtual 392, 3) := by decide +kernel
theorem dX11_handOver_23 : decode cX11_handOver 23 = .ok (.goto 52, 3) := by decide +kernel
theorem dX11_handOver_26 : decode cX11_handOver 26 = .ok (.aload_n 0, 1) := by decide +kernel
theorem dX11_handOver_27 : decode cX11_handOver 27 = .ok (.aload_n 2, 1) := by decide +kernel
theorem dX11_handOver_28 : decode cX11_handOver 28 = .ok (.getfield 312, 3) := by decide +kernel
theorem dX11_handOver_31 : decode cX11_handOver 31 = .ok (.invokevirtual 151, 3) := by decide +kernel
theorem dX11_handOver_34 : decode cX11_handOver 34 = .ok (.ifCond .eq 41, 3) := by decide +kernel
theorem dX11_handOver_37 : decode cX11_handOver 37 = .ok (.aload_n 0, 1) := by decide +kernel
theorem dX11_handOver_38 : decode cX11_handOver 38 = .ok (.getfield 40, 3) := by decide +kernel
theorem dX11_handOver_41 : decode cX11_handOver 41 = .ok (.aload_n 2, 1) := by decide +kernel
theorem dX11_handOver_42 : decode cX11_handOver 42 = .ok (.getfield 312, 3) := by decide +kernel
theorem dX11_handOver_45 : decode cX11_handOver 45 = .ok (.aaload, 1) := by decide +kernel
theorem dX11_handOver_46 : decode cX11_handOver 46 = .ok (.astore_n 3, 1) := by decide +kernel
theorem dX11_handOver_47 : decode cX11_handOver 47 = .ok (.aload_n 3, 1) := by decide +kernel
theorem dX11_handOver_48 : decode cX11_handOver 48 = .ok (.getfield 156, 3) := by decide +kernel
theorem dX11_handOver_51 : decode cX11_handOver 51 = .ok (.ifCond .eq 19, 3) := by decide +kernel
theorem dX11_handOver_54 : decode cX11_handOver 54 = .ok (.aload_n 0, 1) := by decide +kernel
theorem dX11_handOver_55 : decode cX11_handOver 55 = .ok (.getfield 24, 3) := by decide +kernel
theorem dX11_handOver_58 : decode cX11_handOver 58 = .ok (.dup, 1) := by decide +kernel
theorem dX11_handOver_59 : decode cX11_handOver 59 = .ok (.getfield 143, 3) := by decide +kernel
theorem dX11_handOver_62 : decode cX11_handOver 62 = .ok (.iconst 1, 1) := by decide +kernel
theorem dX11_handOver_63 : decode cX11_handOver 63 = .ok (.iadd, 1) := by decide +kernel
theorem dX11_handOver_64 : decode cX11_handOver 64 = .ok (.putfield 143, 3) := by decide +kernel
theorem dX11_handOver_67 : decode cX11_handOver 67 = .ok (.goto 8, 3) := by decide +kernel
theorem dX11_handOver_70 : decode cX11_handOver 70 = .ok (.aload_n 3, 1) := by decide +kernel
theorem dX11_handOver_71 : decode cX11_handOver 71 = .ok (.aload_n 2, 1) := by decide +kernel
theorem dX11_handOver_72 : decode cX11_handOver 72 = .ok (.invokevirtual 396, 3) := by decide +kernel
theorem dX11_handOver_75 : decode cX11_handOver 75 = .ok (.return_, 1) := by decide +kernel
abbrev rm_X11_handOver : Room := { frames := 6, cells := 0, slots := 0, locals := 138 }
def wp_X11_handOver (a0 : Nat) (p1 : Int32) (σ : Sto) (Q : Sto → Prop) : Prop := (sK σ a0 = 11 ∧ (∃ b2 : Nat, sP σ a0 1 = some b2 ∧ (sK σ b2 = 4 ∧ (wp_X4_pull b2 p1 σ (fun (r6 : Option Nat) (σ5 : Sto) => (∃ b7 : Nat, r6 = some b7 ∧ (sK σ5 b7 = 3 ∧ (∀ x10 : Int32, x10 = sI σ5 b7 1 → ((¬ x10 = (11 : Int32) → (∀ x13 : Int32, x13 = sI σ5 b7 3 → (sK σ5 a0 = 11 ∧ (wp_X11_isReplica a0 x13 σ5 (fun (x17 : Int32) (σ16 : Sto) => ((x17 = 0 → Q σ16) ∧ (¬ x17 = 0 → (sK σ16 a0 = 11 ∧ (sK σ16 b7 = 3 ∧ (∀ x21 : Int32, x21 = sI σ16 b7 3 → (∃ b23 : Nat, sP σ16 a0 3 = some b23 ∧ (sK σ16 b23 = 21 ∧ (vp_in x21 (sN σ16 b23) ∧ (∀ r27 : Option Nat, r27 = sP σ16 b23 x21.toNatClampNeg → (∃ b29 : Nat, r27 = some b29 ∧ (sK σ16 b29 = 8 ∧ (∀ x32 : Int32, x32 = sI σ16 b29 3 → ((x32 = 0 → (wp_X8_hear b29 r6 σ16 (fun (σ35 : Sto) => Q σ35))) ∧ (¬ x32 = 0 → (∀ r36 : Option Nat, r36 = sP σ16 a0 1 → (∃ b38 : Nat, r36 = some b38 ∧ (sK σ16 b38 = 4 ∧ (∀ x41 : Int32, x41 = sI σ16 b38 7 → (∀ x43 : Int32, x43 = x41 + (1 : Int32) → Q (stI σ16 b38 7 x43))))))))))))))))))))))))) ∧ (x10 = (11 : Int32) → (sK σ5 a0 = 11 ∧ (wp_X11_handToClient a0 r6 σ5 (fun (σ46 : Sto) => Q σ46)))))))))))))
set_option maxHeartbeats 4000000 in
set_option maxRecDepth 100000 in
theorem c_X11_handOver (l : Launch) (D : va_G) (cy : Nat → ClassId) (a0 : Nat) (p1 : Int32) (σ : Sto) (Q : Sto → Prop) (h : wp_X11_handOver a0 p1 σ Q) : Mt l D cy yX11_handOver cX11_handOver 4 none rm_X11_handOver [.ref a0, .int p1] σ (PsV Q) := by
  unfold wp_X11_handOver at h
  refine mt_of (by decide +kernel) (Nat.le_of_ble_eq_true rfl) ?_
  intro p e s m args below meth c A ls C hr hnm hl
  have C : Cx p s m args meth c D cy A cX11_handOver 4 RX11 := C
  have hl : lv_has ls 4 [(0, .ref a0), (1, .int p1)] := hl
  refine x_aload_n C dX11_handOver_0 rfl (lv_at hl 0 rfl) ?_
  obtain ⟨g1, h⟩ := h
  refine x_getP C fl_RX11_24 g1 dX11_handOver_1 ?_
  refine x_iload_n C dX11_handOver_4 rfl (lv_at hl 1 rfl) ?_
  obtain ⟨b2, g3, h⟩ := h
  refine x_nn1 g3 ?_
  obtain ⟨g4, h⟩ := h
  refine x_callV (rm := rm_X4_pull) (rest := []) (As := [.int p1]) C cy_RX11_139 g4 (by decide) (by decide) rfl rfl (Nat.le_of_ble_eq_true rfl) hl.1 dX11_handOver_5 (c_X4_pull l D cy b2 p1 σ _ h) (ks_p (fun r6 σ5 h => ?_))
  refine x_astore_nq (i := 2) (lv' := [(2, va_rf r6), (0, .ref a0), (1, .int p1)]) C dX11_handOver_8 rfl hl (by decide) (by first | rfl | simp [vrc, cat_i, cat_r, cat_l]) (fun ls hl => ?_)
  refine x_aload_nq C dX11_handOver_9 rfl (lv_at hl 0 rfl) ?_
  obtain ⟨b7, g8, h⟩ := h
  refine x_nn0 g8 ?_
  obtain ⟨g9, h⟩ := h
  refine x_getI C fl_RX11_308 g9 dX11_handOver_10 ?_
  refine x_topi (fun x10 e11 => ?_)
  have h := h x10 e11
  refine x_bipush (v := 11) C dX11_handOver_13 (by decide) ?_
  refine x_icmp_ne (tgt := 26) C dX11_handOver_15 (by decide) (fun c12 => ?_) (fun c12 => ?_)
  · have h := h.1 c12
    refine x_aload_n C dX11_handOver_26 rfl (lv_at hl 1 rfl) ?_
    refine x_aload_nq C dX11_handOver_27 rfl (lv_at hl 0 rfl) ?_
    refine x_nn0 g8 ?_
    refine x_getI C fl_RX11_312 g9 dX11_handOver_28 ?_
    refine x_topi (fun x13 e14 => ?_)
    have h := h x13 e14
    obtain ⟨g15, h⟩ := h
    refine x_callV (rm := rm_X11_isReplica) (rest := []) (As := [.int x13]) C cy_RX11_151 g15 (by decide) (by decide) rfl rfl (Nat.le_of_ble_eq_true rfl) hl.1 dX11_handOver_31 (c_X11_isReplica l D cy a0 x13 σ5 _ h) (ks_i (fun x17 σ16 h => ?_))
    refine x_if_eq (tgt := 75) C dX11_handOver_34 (by decide) (fun c18 => ?_) (fun c18 => ?_)
    · have h := h.1 c18
      exact x_vret C hr dX11_handOver_75 ⟨rfl, h⟩
    · have h := h.2 c18
      refine x_aload_n C dX11_handOver_37 rfl (lv_at hl 1 rfl) ?_
      obtain ⟨g19, h⟩ := h
      refine x_getP C fl_RX11_40 g19 dX11_handOver_38 ?_
      refine x_aload_nq C dX11_handOver_41 rfl (lv_at hl 0 rfl) ?_
      refine x_nn0 g8 ?_
      obtain ⟨g20, h⟩ := h
      refine x_getI C fl_RX11_312 g20 dX11_handOver_42 ?_
      refine x_topi (fun x21 e22 => ?_)
      have h := h x21 e22
      obtain ⟨b23, g24, h⟩ := h
      refine x_nn1 g24 ?_
      obtain ⟨g25, h⟩ := h
      obtain ⟨g26, h⟩ := h
      refine x_aald C rak_21 g25 g26 dX11_handOver_45 ?_
      refine x_topq (fun r27 e28 => ?_)
      have h := h r27 e28
      refine x_astore_nq (i := 3) (lv' := [(3, va_rf r27), (2, va_rf r6), (0, .ref a0), (1, .int p1)]) C dX11_handOver_46 rfl hl (by decide) (by first | rfl | simp [vrc, cat_i, cat_r, cat_l]) (fun ls hl => ?_)
      refine x_aload_nq C dX11_handOver_47 rfl (lv_at hl 0 rfl) ?_
      obtain ⟨b29, g30, h⟩ := h
      refine x_nn0 g30 ?_
      obtain ⟨g31, h⟩ := h
      refine x_getZ C fl_RX11_156 g31 dX11_handOver_48 ?_
      refine x_topi (fun x32 e33 => ?_)
      have h := h x32 e33
      refine x_if_eq (tgt := 70) C dX11_handOver_51 (by decide) (fun c34 => ?_) (fun c34 => ?_)
      · have h := h.1 c34
        refine x_aload_nq C dX11_handOver_70 rfl (lv_at hl 0 rfl) ?_
        refine x_aload_nq C dX11_handOver_71 rfl (lv_at hl 1 rfl) ?_
        refine x_nn1 g30 ?_
        refine x_callV (rm := rm_X8_hear) (rest := []) (As := [va_rf r6]) C cy_RX11_396 g31 (by decide) (by decide) rfl rfl (Nat.le_of_ble_eq_true rfl) hl.1 dX11_handOver_72 (c_X8_hear l D cy b29 r6 σ16 _ h) (ks_v (fun σ35 h => ?_))
        exact x_vret C hr dX11_handOver_75 ⟨rfl, h⟩
      · have h := h.2 c34
        refine x_aload_n C dX11_handOver_54 rfl (lv_at hl 2 rfl) ?_
        refine x_getP C fl_RX11_24 g19 dX11_handOver_55 ?_
        refine x_topq (fun r36 e37 => ?_)
        have h := h r36 e37
        refine x_dup C dX11_handOver_58 (vrc _) ?_
        obtain ⟨b38, g39, h⟩ := h
        refine x_nn0 g39 ?_
        obtain ⟨g40, h⟩ := h
        refine x_getI C fl_RX11_143 g40 dX11_handOver_59 ?_
        refine x_topi (fun x41 e42 => ?_)
        have h := h x41 e42
        refine x_iconst (v := 1) C dX11_handOver_62 (by decide) ?_
        refine x_iadd C dX11_handOver_63 ?_
        refine x_topi (fun x43 e44 => ?_)
        have h := h x43 e44
        refine x_nn1 g39 ?_
        refine x_putI C fl_RX11_143 (Or.inl rfl) g40 dX11_handOver_64 ?_
        refine x_goto (tgt := 75) C dX11_handOver_67 (by decide) ?_
        exact x_vret C hr dX11_handOver_75 ⟨rfl, h⟩
  · have h := h.2 c12
    refine x_aload_n C dX11_handOver_18 rfl (lv_at hl 1 rfl) ?_
    refine x_aload_nq C dX11_handOver_19 rfl (lv_at hl 0 rfl) ?_
    obtain ⟨g45, h⟩ := h
    refine x_callV (rm := rm_X11_handToClient) (rest := []) (As := [va_rf r6]) C cy_RX11_392 g45 (by decide) (by decide) rfl rfl (Nat.le_of_ble_eq_true rfl) hl.1 dX11_handOver_20 (c_X11_handToClient l D cy a0 r6 σ5 _ h) (ks_v (fun σ46 h => ?_))
    refine x_goto (tgt := 75) C dX11_handOver_23 (by decide) ?_
    exact x_vret C hr dX11_handOver_75 ⟨rfl, h⟩
