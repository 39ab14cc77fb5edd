theorem dX12_readNumber_0 : decode cX12_readNumber 0 = .ok (.aload_n 0, 1) := by decide +kernel
theorem dX12_readNumber_1 : decode cX12_readNumber 1 = .ok (.getfield 538, 3) := by decide +kernel
theorem dX12_readNumber_4 : decode cX12_readNumber 4 = .ok (.istore_n 1, 1) := by decide +kernel
theorem dX12_readNumber_5 : decode cX12_readNumber 5 = .ok (.lconst 0, 1) := by decide +kernel
theorem dX12_readNumber_6 : decode cX12_readNumber 6 = .ok (.lstore_n 2, 1) := by decide +kernel
theorem dX12_readNumber_7 : decode cX12_readNumber 7 = .ok (.iconst 0, 1) := by decide +kernel
theorem dX12_readNumber_8 : decode cX12_readNumber 8 = .ok (.istore 4, 2) := by decide +kernel
theorem dX12_readNumber_10 : decode cX12_readNumber 10 = .ok (.iconst 1, 1) := by decide +kernel
theorem dX12_readNumber_11 : decode cX12_readNumber 11 = .ok (.istore 5, 2) := by decide +kernel
theorem dX12_readNumber_13 : decode cX12_readNumber 13 = .ok (.iload 5, 2) := by decide +kernel
theorem dX12_readNumber_15 : decode cX12_readNumber 15 = .ok (.ifCond .eq 116, 3) := by decide +kernel
theorem dX12_readNumber_18 : decode cX12_readNumber 18 = .ok (.aload_n 0, 1) := by decide +kernel
theorem dX12_readNumber_19 : decode cX12_readNumber 19 = .ok (.getfield 535, 3) := by decide +kernel
theorem dX12_readNumber_22 : decode cX12_readNumber 22 = .ok (.ifCond .ne 109, 3) := by decide +kernel
theorem dX12_readNumber_25 : decode cX12_readNumber 25 = .ok (.aload_n 0, 1) := by decide +kernel
theorem dX12_readNumber_26 : decode cX12_readNumber 26 = .ok (.invokevirtual 547, 3) := by decide +kernel
theorem dX12_readNumber_29 : decode cX12_readNumber 29 = .ok (.istore 6, 2) := by decide +kernel
theorem dX12_readNumber_31 : decode cX12_readNumber 31 = .ok (.lload_n 2, 1) := by decide +kernel
theorem dX12_readNumber_32 : decode cX12_readNumber 32 = .ok (.iload 6, 2) := by decide +kernel
theorem dX12_readNumber_34 : decode cX12_readNumber 34 = .ok (.bipush 127, 2) := by decide +kernel
theorem dX12_readNumber_36 : decode cX12_readNumber 36 = .ok (.iand, 1) := by decide +kernel
theorem dX12_readNumber_37 : decode cX12_readNumber 37 = .ok (.i2l, 1) := by decide +kernel
theorem dX12_readNumber_38 : decode cX12_readNumber 38 = .ok (.bipush 7, 2) := by decide +kernel
theorem dX12_readNumber_40 : decode cX12_readNumber 40 = .ok (.iload 4, 2) := by decide +kernel
theorem dX12_readNumber_42 : decode cX12_readNumber 42 = .ok (.imul, 1) := by decide +kernel
theorem dX12_readNumber_43 : decode cX12_readNumber 43 = .ok (.lshl, 1) := by decide +kernel
theorem dX12_readNumber_44 : decode cX12_readNumber 44 = .ok (.lor, 1) := by decide +kernel
theorem dX12_readNumber_45 : decode cX12_readNumber 45 = .ok (.lstore_n 2, 1) := by decide +kernel
theorem dX12_readNumber_46 : decode cX12_readNumber 46 = .ok (.iinc 4 1, 3) := by decide +kernel
theorem dX12_readNumber_49 : decode cX12_readNumber 49 = .ok (.iload 6, 2) := by decide +kernel
theorem dX12_readNumber_51 : decode cX12_readNumber 51 = .ok (.bipush 127, 2) := by decide +kernel
theorem dX12_readNumber_53 : decode cX12_readNumber 53 = .ok (.if_icmp .le 7, 3) := by decide +kernel
theorem dX12_readNumber_56 : decode cX12_readNumber 56 = .ok (.iconst 1, 1) := by decide +kernel
theorem dX12_readNumber_57 : decode cX12_readNumber 57 = .ok (.goto 4, 3) := by decide +kernel
theorem dX12_readNumber_60 : decode cX12_readNumber 60 = .ok (.iconst 0, 1) := by decide +kernel
theorem dX12_readNumber_61 : decode cX12_readNumber 61 = .ok (.istore 5, 2) := by decide +kernel
theorem dX12_readNumber_63 : decode cX12_readNumber 63 = .ok (.aload_n 0, 1) := by decide +kernel
theorem dX12_readNumber_64 : decode cX12_readNumber 64 = .ok (.getfield 535, 3) := by decide +kernel
theorem dX12_readNumber_67 : decode cX12_readNumber 67 = .ok (.ifCond .ne 12, 3) := by decide +kernel
theorem dX12_readNumber_70 : decode cX12_readNumber 70 = .ok (.iload 5, 2) := by decide +kernel
theorem dX12_readNumber_72 : decode cX12_readNumber 72 = .ok (.ifCond .ne 7, 3) := by decide +kernel
theorem dX12_readNumber_75 : decode cX12_readNumber 75 = .ok (.iconst 1, 1) := by decide +kernel
theorem dX12_readNumber_76 : decode cX12_readNumber 76 = .ok (.goto 4, 3) := by decide +kernel
theorem dX12_readNumber_79 : decode cX12_readNumber 79 = .ok (.iconst 0, 1) := by decide +kernel
theorem dX12_readNumber_80 : decode cX12_readNumber 80 = .ok (.istore 7, 2) := by decide +kernel
theorem dX12_readNumber_82 : decode cX12_readNumber 82 = .ok (.iload 5, 2) := by decide +kernel
theorem dX12_readNumber_84 : decode cX12_readNumber 84 = .ok (.ifCond .eq 9, 3) := by decide +kernel
theorem dX12_readNumber_87 : decode cX12_readNumber 87 = .ok (.iload 4, 2) := by decide +kernel
theorem dX12_readNumber_89 : decode cX12_readNumber 89 = .ok (.iconst 5, 1) := by decide +kernel
theorem dX12_readNumber_90 : decode cX12_readNumber 90 = .ok (.if_icmp .eq 32, 3) := by decide +kernel
theorem dX12_readNumber_93 : decode cX12_readNumber 93 = .ok (.iload 7, 2) := by decide +kernel
theorem dX12_readNumber_95 : decode cX12_readNumber 95 = .ok (.ifCond .eq 14, 3) := by decide +kernel
theorem dX12_readNumber_98 : decode cX12_readNumber 98 = .ok (.iload 4, 2) := by decide +kernel
theorem dX12_readNumber_100 : decode cX12_readNumber 100 = .ok (.iconst 1, 1) := by decide +kernel
theorem dX12_readNumber_101 : decode cX12_readNumber 101 = .ok (.if_icmp .le 8, 3) := by decide +kernel
theorem dX12_readNumber_104 : decode cX12_readNumber 104 = .ok (.iload 6, 2) := by decide +kernel
theorem dX12_readNumber_106 : decode cX12_readNumber 106 = .ok (.ifCond .eq 16, 3) := by decide +kernel
theorem dX12_readNumber_109 : decode cX12_readNumber 109 = .ok (.iload 7, 2) := by decide +kernel
theorem dX12_readNumber_111 : decode cX12_readNumber 111 = .ok (.ifCond .eq 17, 3) := by decide +kernel
theorem dX12_readNumber_114 : decode cX12_readNumber 114 = .ok (.lload_n 2, 1) := by decide +kernel
theorem dX12_readNumber_115 : decode cX12_readNumber 115 = .ok (.ldc2_w 553, 3) := by decide +kernel
theorem dX12_readNumber_118 : decode cX12_readNumber 118 = .ok (.lcmp, 1) := by decide +kernel
theorem dX12_readNumber_119 : decode cX12_readNumber 119 = .ok (.ifCond .le 9, 3) := by decide +kernel
theorem dX12_readNumber_122 : decode cX12_readNumber 122 = .ok (.aload_n 0, 1) := by decide +kernel
theorem dX12_readNumber_123 : decode cX12_readNumber 123 = .ok (.iconst 3, 1) := by decide +kernel
theorem dX12_readNumber_124 : decode cX12_readNumber 124 = .ok (.iload_n 1, 1) := by decide +kernel
theorem dX12_readNumber_125 : decode cX12_readNumber 125 = .ok (.invokevirtual 541, 3) := by decide +kernel
theorem dX12_readNumber_128 : decode cX12_readNumber 128 = .ok (.goto (-115), 3) := by decide +kernel
theorem dX12_readNumber_131 : decode cX12_readNumber 131 = .ok (.aload_n 0, 1) := by decide +kernel
theorem dX12_readNumber_132 : decode cX12_readNumber 132 = .ok (.lload_n 2, 1) := by decide +kernel
theorem dX12_readNumber_133 : decode cX12_readNumber 133 = .ok (.l2i, 1) := by decide +kernel
theorem dX12_readNumber_134 : decode cX12_readNumber 134 = .ok (.invokevirtual 550, 3) := by decide +kernel
theorem dX12_readNumber_137 : decode cX12_readNumber 137 = .ok (.lload_n 2, 1) := by decide +kernel
theorem dX12_readNumber_138 : decode cX12_readNumber 138 = .ok (.l2i, 1) := by decide +kernel
theorem dX12_readNumber_139 : decode cX12_readNumber 139 = .ok (.ireturn, 1) := by decide +kernel
abbrev rm_X12_readNumber : Room := { frames := 2, cells := 0, slots := 0, locals := 42 }
def b_X12_readNumber_131 (a0 : Nat)  (Q : Int32 → Sto → Prop) (p2 : Int64) (σ : Sto) : Prop := (sK σ a0 = 12 ∧ (wp_X12_keep a0 p2.toInt32 σ (fun (σ2 : Sto) => Q p2.toInt32 σ2)))
set_option maxHeartbeats 4000000 in
set_option maxRecDepth 100000 in
theorem t_X12_readNumber_131 {p : Program} {l : Launch} {e : Env} {s : State} {m : MethodId} {args : Array Value} {below : List Frame} {meth : Method} {c : Code} {D : va_G} {cy : Nat → ClassId} {A : Nat → Prop} {a0 : Nat} {Q : Int32 → Sto → Prop} (C : Cx p s m args meth c D cy A cX12_readNumber 8 RX12) (hr : meth.sig.returnType = (some .int)) (hnm : meth.name = yX12_readNumber.name) (p2 : Int64) (σ : Sto) (h : b_X12_readNumber_131 a0  Q p2 σ) (ls : Array Slot) (hl : lv_has ls 8 [(0, .ref a0), (2, .long p2)]) : Xw p l e rm_X12_readNumber s m args below meth c D cy A σ 0 0 (MQ below (Qst D cy A (PsI Q)) args s rm_X12_readNumber.cells rm_X12_readNumber.slots A) (F0 m 131 ls []) := by
  unfold b_X12_readNumber_131 at h
  refine x_aload_n C dX12_readNumber_131 rfl (lv_at hl 0 rfl) ?_
  refine x_lload_n C dX12_readNumber_132 rfl (lv_at hl 1 rfl) ?_
  refine x_l2i C dX12_readNumber_133 ?_
  obtain ⟨g1, h⟩ := h
  refine x_callV (rm := rm_X12_keep) (rest := []) (As := [.int p2.toInt32]) C cy_RX12_550 g1 (by decide) (by decide) rfl rfl (Nat.le_of_ble_eq_true rfl) hl.1 dX12_readNumber_134 (c_X12_keep l D cy a0 p2.toInt32 σ _ h) (ks_v (fun σ2 h => ?_))
  refine x_lload_n C dX12_readNumber_137 rfl (lv_at hl 1 rfl) ?_
  refine x_l2i C dX12_readNumber_138 ?_
  exact x_iret C hr dX12_readNumber_139 ⟨_, rfl, h⟩
def b_X12_readNumber_128 (a0 : Nat) (L13 : Int32 × Int64 × Int32 × Int32 → Sto → Prop) (Q : Int32 → Sto → Prop) (p1 : Int32) (p2 : Int64) (p4 : Int32) (p5 : Int32) (σ : Sto) : Prop := L13 (p1, p2, p4, p5) σ
set_option maxHeartbeats 4000000 in
set_option maxRecDepth 100000 in
theorem t_X12_readNumber_128 {p : Program} {l : Launch} {e : Env} {s : State} {m : MethodId} {args : Array Value} {below : List Frame} {meth : Method} {c : Code} {D : va_G} {cy : Nat → ClassId} {A : Nat → Prop} {a0 : Nat} {L13 : Int32 × Int64 × Int32 × Int32 → Sto → Prop} {Q : Int32 → Sto → Prop} (C : Cx p s m args meth c D cy A cX12_readNumber 8 RX12) (hr : meth.sig.returnType = (some .int)) (hnm : meth.name = yX12_readNumber.name) (hL13 : ∀ (t : Int32 × Int64 × Int32 × Int32) (σ : Sto), L13 t σ → ∀ ls : Array Slot, lv_has ls 8 [(0, .ref a0), (1, .int t.1), (2, .long t.2.1), (4, .int t.2.2.1), (5, .int t.2.2.2)] → Xw p l e rm_X12_readNumber s m args below meth c D cy A σ 0 0 (MQ below (Qst D cy A (PsI Q)) args s rm_X12_readNumber.cells rm_X12_readNumber.slots A) (F0 m 13 ls [])) (p1 : Int32) (p2 : Int64) (p4 : Int32) (p5 : Int32) (σ : Sto) (h : b_X12_readNumber_128 a0 L13 Q p1 p2 p4 p5 σ) (ls : Array Slot) (hl : lv_has ls 8 [(0, .ref a0), (1, .int p1), (2, .long p2), (4, .int p4), (5, .int p5)]) : Xw p l e rm_X12_readNumber s m args below meth c D cy A σ 0 0 (MQ below (Qst D cy A (PsI Q)) args s rm_X12_readNumber.cells rm_X12_readNumber.slots A) (F0 m 128 ls []) := by
  unfold b_X12_readNumber_128 at h
  refine x_goto (tgt := 13) C dX12_readNumber_128 (by decide) ?_
  exact hL13 (p1, p2, p4, p5) _ h ls (lv_sub hl [0, 1, 2, 3, 4] rfl)
def b_X12_readNumber_122 (a0 : Nat) (L13 : Int32 × Int64 × Int32 × Int32 → Sto → Prop) (Q : Int32 → Sto → Prop) (p1 : Int32) (p2 : Int64) (p4 : Int32) (p5 : Int32) (σ : Sto) : Prop := (sK σ a0 = 12 ∧ (wp_X12_wrongs a0 (3 : Int32) p1 σ (fun (σ2 : Sto) => b_X12_readNumber_128 a0 L13 Q p1 p2 p4 p5 σ2)))
set_option maxHeartbeats 4000000 in
set_option maxRecDepth 100000 in
theorem t_X12_readNumber_122 {p : Program} {l : Launch} {e : Env} {s : State} {m : MethodId} {args : Array Value} {below : List Frame} {meth : Method} {c : Code} {D : va_G} {cy : Nat → ClassId} {A : Nat → Prop} {a0 : Nat} {L13 : Int32 × Int64 × Int32 × Int32 → Sto → Prop} {Q : Int32 → Sto → Prop} (C : Cx p s m args meth c D cy A cX12_readNumber 8 RX12) (hr : meth.sig.returnType = (some .int)) (hnm : meth.name = yX12_readNumber.name) (hL13 : ∀ (t : Int32 × Int64 × Int32 × Int32) (σ : Sto), L13 t σ → ∀ ls : Array Slot, lv_has ls 8 [(0, .ref a0), (1, .int t.1), (2, .long t.2.1), (4, .int t.2.2.1), (5, .int t.2.2.2)] → Xw p l e rm_X12_readNumber s m args below meth c D cy A σ 0 0 (MQ below (Qst D cy A (PsI Q)) args s rm_X12_readNumber.cells rm_X12_readNumber.slots A) (F0 m 13 ls [])) (p1 : Int32) (p2 : Int64) (p4 : Int32) (p5 : Int32) (σ : Sto) (h : b_X12_readNumber_122 a0 L13 Q p1 p2 p4 p5 σ) (ls : Array Slot) (hl : lv_has ls 8 [(0, .ref a0), (1, .int p1), (2, .long p2), (4, .int p4), (5, .int p5)]) : Xw p l e rm_X12_readNumber s m args below meth c D cy A σ 0 0 (MQ below (Qst D cy A (PsI Q)) args s rm_X12_readNumber.cells rm_X12_readNumber.slots A) (F0 m 122 ls []) := by
  unfold b_X12_readNumber_122 at h
  refine x_aload_n C dX12_readNumber_122 rfl (lv_at hl 0 rfl) ?_
  refine x_iconst (v := 3) C dX12_readNumber_123 (by decide) ?_
  refine x_iload_n C dX12_readNumber_124 rfl (lv_at hl 1 rfl) ?_
  obtain ⟨g1, h⟩ := h
  refine x_callV (rm := rm_X12_wrongs) (rest := []) (As := [.int (3 : Int32), .int p1]) C cy_RX12_541 g1 (by decide) (by decide) rfl rfl (Nat.le_of_ble_eq_true rfl) hl.1 dX12_readNumber_125 (c_X12_wrongs l D cy a0 (3 : Int32) p1 σ _ h) (ks_v (fun σ2 h => ?_))
  exact t_X12_readNumber_128 C hr hnm hL13 p1 p2 p4 p5 _ h ls (lv_sub hl [0, 1, 2, 3, 4] rfl)
def b_X12_readNumber_109 (a0 : Nat) (L13 : Int32 × Int64 × Int32 × Int32 → Sto → Prop) (Q : Int32 → Sto → Prop) (p1 : Int32) (p2 : Int64) (p4 : Int32) (p5 : Int32) (p7 : Int32) (σ : Sto) : Prop := ((p7 = 0 → b_X12_readNumber_128 a0 L13 Q p1 p2 p4 p5 σ) ∧ (¬ p7 = 0 → (((lg_cmp p2 (2147483647 : Int64)) ≤ 0 → b_X12_readNumber_128 a0 L13 Q p1 p2 p4 p5 σ) ∧ (¬ (lg_cmp p2 (2147483647 : Int64)) ≤ 0 → b_X12_readNumber_122 a0 L13 Q p1 p2 p4 p5 σ))))
set_option maxHeartbeats 4000000 in
set_option maxRecDepth 100000 in
theorem t_X12_readNumber_109 {p : Program} {l : Launch} {e : Env} {s : State} {m : MethodId} {args : Array Value} {below : List Frame} {meth : Method} {c : Code} {D : va_G} {cy : Nat → ClassId} {A : Nat → Prop} {a0 : Nat} {L13 : Int32 × Int64 × Int32 × Int32 → Sto → Prop} {Q : Int32 → Sto → Prop} (C : Cx p s m args meth c D cy A cX12_readNumber 8 RX12) (hr : meth.sig.returnType = (some .int)) (hnm : meth.name = yX12_readNumber.name) (hL13 : ∀ (t : Int32 × Int64 × Int32 × Int32) (σ : Sto), L13 t σ → ∀ ls : Array Slot, lv_has ls 8 [(0, .ref a0), (1, .int t.1), (2, .long t.2.1), (4, .int t.2.2.1), (5, .int t.2.2.2)] → Xw p l e rm_X12_readNumber s m args below meth c D cy A σ 0 0 (MQ below (Qst D cy A (PsI Q)) args s rm_X12_readNumber.cells rm_X12_readNumber.slots A) (F0 m 13 ls [])) (p1 : Int32) (p2 : Int64) (p4 : Int32) (p5 : Int32) (p7 : Int32) (σ : Sto) (h : b_X12_readNumber_109 a0 L13 Q p1 p2 p4 p5 p7 σ) (ls : Array Slot) (hl : lv_has ls 8 [(0, .ref a0), (1, .int p1), (2, .long p2), (4, .int p4), (5, .int p5), (7, .int p7)]) : Xw p l e rm_X12_readNumber s m args below meth c D cy A σ 0 0 (MQ below (Qst D cy A (PsI Q)) args s rm_X12_readNumber.cells rm_X12_readNumber.slots A) (F0 m 109 ls []) := by
  unfold b_X12_readNumber_109 at h
  refine x_iload C dX12_readNumber_109 (lv_at hl 5 rfl) ?_
  refine x_if_eq (tgt := 128) C dX12_readNumber_111 (by decide) (fun c1 => ?_) (fun c1 => ?_)
  · have h := h.1 c1
    exact t_X12_readNumber_128 C hr hnm hL13 p1 p2 p4 p5 _ h ls (lv_sub hl [0, 1, 2, 3, 4] rfl)
  · have h := h.2 c1
    refine x_lload_n C dX12_readNumber_114 rfl (lv_at hl 2 rfl) ?_
    refine x_ldc2 C kk_RX12_553 dX12_readNumber_115 ?_
    refine x_lcmp C dX12_readNumber_118 ?_
    refine x_if_le (tgt := 128) C dX12_readNumber_119 (by decide) (fun c2 => ?_) (fun c2 => ?_)
    · have h := h.1 c2
      exact t_X12_readNumber_128 C hr hnm hL13 p1 p2 p4 p5 _ h ls (lv_sub hl [0, 1, 2, 3, 4] rfl)
    · have h := h.2 c2
      exact t_X12_readNumber_122 C hr hnm hL13 p1 p2 p4 p5 _ h ls (lv_sub hl [0, 1, 2, 3, 4] rfl)
def b_X12_readNumber_93 (a0 : Nat) (L13 : Int32 × Int64 × Int32 × Int32 → Sto → Prop) (Q : Int32 → Sto → Prop) (p1 : Int32) (p2 : Int64) (p4 : Int32) (p5 : Int32) (p6 : Int32) (p7 : Int32) (σ : Sto) : Prop := ((p7 = 0 → b_X12_readNumber_109 a0 L13 Q p1 p2 p4 p5 p7 σ) ∧ (¬ p7 = 0 → ((p4 ≤ (1 : Int32) → b_X12_readNumber_109 a0 L13 Q p1 p2 p4 p5 p7 σ) ∧ (¬ p4 ≤ (1 : Int32) → ((p6 = 0 → b_X12_readNumber_122 a0 L13 Q p1 p2 p4 p5 σ) ∧ (¬ p6 = 0 → b_X12_readNumber_109 a0 L13 Q p1 p2 p4 p5 p7 σ))))))
set_option maxHeartbeats 4000000 in
set_option maxRecDepth 100000 in
theorem t_X12_readNumber_93 {p : Program} {l : Launch} {e : Env} {s : State} {m : MethodId} {args : Array Value} {below : List Frame} {meth : Method} {c : Code} {D : va_G} {cy : Nat → ClassId} {A : Nat → Prop} {a0 : Nat} {L13 : Int32 × Int64 × Int32 × Int32 → Sto → Prop} {Q : Int32 → Sto → Prop} (C : Cx p s m args meth c D cy A cX12_readNumber 8 RX12) (hr : meth.sig.returnType = (some .int)) (hnm : meth.name = yX12_readNumber.name) (hL13 : ∀ (t : Int32 × Int64 × Int32 × Int32) (σ : Sto), L13 t σ → ∀ ls : Array Slot, lv_has ls 8 [(0, .ref a0), (1, .int t.1), (2, .long t.2.1), (4, .int t.2.2.1), (5, .int t.2.2.2)] → Xw p l e rm_X12_readNumber s m args below meth c D cy A σ 0 0 (MQ below (Qst D cy A (PsI Q)) args s rm_X12_readNumber.cells rm_X12_readNumber.slots A) (F0 m 13 ls [])) (p1 : Int32) (p2 : Int64) (p4 : Int32) (p5 : Int32) (p6 : Int32) (p7 : Int32) (σ : Sto) (h : b_X12_readNumber_93 a0 L13 Q p1 p2 p4 p5 p6 p7 σ) (ls : Array Slot) (hl : lv_has ls 8 [(0, .ref a0), (1, .int p1), (2, .long p2), (4, .int p4), (5, .int p5), (6, .int p6), (7, .int p7)]) : Xw p l e rm_X12_readNumber s m args below meth c D cy A σ 0 0 (MQ below (Qst D cy A (PsI Q)) args s rm_X12_readNumber.cells rm_X12_readNumber.slots A) (F0 m 93 ls []) := by
  unfold b_X12_readNumber_93 at h
  refine x_iload C dX12_readNumber_93 (lv_at hl 6 rfl) ?_
  refine x_if_eq (tgt := 109) C dX12_readNumber_95 (by decide) (fun c1 => ?_) (fun c1 => ?_)
  · have h := h.1 c1
    exact t_X12_readNumber_109 C hr hnm hL13 p1 p2 p4 p5 p7 _ h ls (lv_sub hl [0, 1, 2, 3, 4, 6] rfl)
  · have h := h.2 c1
    refine x_iload C dX12_readNumber_98 (lv_at hl 3 rfl) ?_
    refine x_iconst (v := 1) C dX12_readNumber_100 (by decide) ?_
    refine x_icmp_le (tgt := 109) C dX12_readNumber_101 (by decide) (fun c2 => ?_) (fun c2 => ?_)
    · have h := h.1 c2
      exact t_X12_readNumber_109 C hr hnm hL13 p1 p2 p4 p5 p7 _ h ls (lv_sub hl [0, 1, 2, 3, 4, 6] rfl)
    · have h := h.2 c2
      refine x_iload C dX12_readNumber_104 (lv_at hl 5 rfl) ?_
      refine x_if_eq (tgt := 122) C dX12_readNumber_106 (by decide) (fun c3 => ?_) (fun c3 => ?_)
      · have h := h.1 c3
        exact t_X12_readNumber_122 C hr hnm hL13 p1 p2 p4 p5 _ h ls (lv_sub hl [0, 1, 2, 3, 4] rfl)
      · have h := h.2 c3
        exact t_X12_readNumber_109 C hr hnm hL13 p1 p2 p4 p5 p7 _ h ls (lv_sub hl [0, 1, 2, 3, 4, 6] rfl)
def b_X12_readNumber_80 (a0 : Nat) (L13 : Int32 × Int64 × Int32 × Int32 → Sto → Prop) (Q : Int32 → Sto → Prop) (p1 : Int32) (p2 : Int64) (p4 : Int32) (p5 : Int32) (p6 : Int32) (s0 : Int32) (σ : Sto) : Prop := ((p5 = 0 → b_X12_readNumber_93 a0 L13 Q p1 p2 p4 p5 p6 s0 σ) ∧ (¬ p5 = 0 → ((p4 = (5 : Int32) → b_X12_readNumber_122 a0 L13 Q p1 p2 p4 p5 σ) ∧ (¬ p4 = (5 : Int32) → b_X12_readNumber_93 a0 L13 Q p1 p2 p4 p5 p6 s0 σ))))
set_option maxHeartbeats 4000000 in
set_option maxRecDepth 100000 in
theorem t_X12_readNumber_80 {p : Program} {l : Launch} {e : Env} {s : State} {m : MethodId} {args : Array Value} {below : List Frame} {meth : Method} {c : Code} {D : va_G} {cy : Nat → ClassId} {A : Nat → Prop} {a0 : Nat} {L13 : Int32 × Int64 × Int32 × Int32 → Sto → Prop} {Q : Int32 → Sto → Prop} (C : Cx p s m args meth c D cy A cX12_readNumber 8 RX12) (hr : meth.sig.returnType = (some .int)) (hnm : meth.name = yX12_readNumber.name) (hL13 : ∀ (t : Int32 × Int64 × Int32 × Int32) (σ : Sto), L13 t σ → ∀ ls : Array Slot, lv_has ls 8 [(0, .ref a0), (1, .int t.1), (2, .long t.2.1), (4, .int t.2.2.1), (5, .int t.2.2.2)] → Xw p l e rm_X12_readNumber s m args below meth c D cy A σ 0 0 (MQ below (Qst D cy A (PsI Q)) args s rm_X12_readNumber.cells rm_X12_readNumber.slots A) (F0 m 13 ls [])) (p1 : Int32) (p2 : Int64) (p4 : Int32) (p5 : Int32) (p6 : Int32) (s0 : Int32) (σ : Sto) (h : b_X12_readNumber_80 a0 L13 Q p1 p2 p4 p5 p6 s0 σ) (ls : Array Slot) (hl : lv_has ls 8 [(0, .ref a0), (1, .int p1), (2, .long p2), (4, .int p4), (5, .int p5), (6, .int p6)]) : Xw p l e rm_X12_readNumber s m args below meth c D cy A σ 0 0 (MQ below (Qst D cy A (PsI Q)) args s rm_X12_readNumber.cells rm_X12_readNumber.slots A) (F0 m 80 ls [.int s0]) := by
  unfold b_X12_readNumber_80 at h
  refine x_istore (i := 7) (lv' := [(7, .int s0), (0, .ref a0), (1, .int p1), (2, .long p2), (4, .int p4), (5, .int p5), (6, .int p6)]) C dX12_readNumber_80 hl (by decide) (by first | rfl | simp [vrc, cat_i, cat_r, cat_l]) (fun ls hl => ?_)
  refine x_iload C dX12_readNumber_82 (lv_at hl 5 rfl) ?_
  refine x_if_eq (tgt := 93) C dX12_readNumber_84 (by decide) (fun c1 => ?_) (fun c1 => ?_)
  · have h := h.1 c1
    exact t_X12_readNumber_93 C hr hnm hL13 p1 p2 p4 p5 p6 s0 _ h ls (lv_sub hl [1, 2, 3, 4, 5, 6, 0] rfl)
  · have h := h.2 c1
    refine x_iload C dX12_readNumber_87 (lv_at hl 4 rfl) ?_
    refine x_iconst (v := 5) C dX12_readNumber_89 (by decide) ?_
    refine x_icmp_eq (tgt := 122) C dX12_readNumber_90 (by decide) (fun c2 => ?_) (fun c2 => ?_)
    · have h := h.1 c2
      exact t_X12_readNumber_122 C hr hnm hL13 p1 p2 p4 p5 _ h ls (lv_sub hl [1, 2, 3, 4, 5] rfl)
    · have h := h.2 c2
      exact t_X12_readNumber_93 C hr hnm hL13 p1 p2 p4 p5 p6 s0 _ h ls (lv_sub hl [1, 2, 3, 4, 5, 6, 0] rfl)
def b_X12_readNumber_79 (a0 : Nat) (L13 : Int32 × Int64 × Int32 × Int32 → Sto → Prop) (Q : Int32 → Sto → Prop) (p1 : Int32) (p2 : Int64) (p4 : Int32) (p5 : Int32) (p6 : Int32) (σ : Sto) : Prop := b_X12_readNumber_80 a0 L13 Q p1 p2 p4 p5 p6 (0 : Int32) σ
set_option maxHeartbeats 4000000 in
set_option maxRecDepth 100000 in
theorem t_X12_readNumber_79 {p : Program} {l : Launch} {e : Env} {s : State} {m : MethodId} {args : Array Value} {below : List Frame} {meth : Method} {c : Code} {D : va_G} {cy : Nat → ClassId} {A : Nat → Prop} {a0 : Nat} {L13 : Int32 × Int64 × Int32 × Int32 → Sto → Prop} {Q : Int32 → Sto → Prop} (C : Cx p s m args meth c D cy A cX12_readNumber 8 RX12) (hr : meth.sig.returnType = (some .int)) (hnm : meth.name = yX12_readNumber.name) (hL13 : ∀ (t : Int32 × Int64 × Int32 × Int32) (σ : Sto), L13 t σ → ∀ ls : Array Slot, lv_has ls 8 [(0, .ref a0), (1, .int t.1), (2, .long t.2.1), (4, .int t.2.2.1), (5, .int t.2.2.2)] → Xw p l e rm_X12_readNumber s m args below meth c D cy A σ 0 0 (MQ below (Qst D cy A (PsI Q)) args s rm_X12_readNumber.cells rm_X12_readNumber.slots A) (F0 m 13 ls [])) (p1 : Int32) (p2 : Int64) (p4 : Int32) (p5 : Int32) (p6 : Int32) (σ : Sto) (h : b_X12_readNumber_79 a0 L13 Q p1 p2 p4 p5 p6 σ) (ls : Array Slot) (hl : lv_has ls 8 [(0, .ref a0), (1, .int p1), (2, .long p2), (4, .int p4), (5, .int p5), (6, .int p6)]) : Xw p l e rm_X12_readNumber s m args below meth c D cy A σ 0 0 (MQ below (Qst D cy A (PsI Q)) args s rm_X12_readNumber.cells rm_X12_readNumber.slots A) (F0 m 79 ls []) := by
  unfold b_X12_readNumber_79 at h
  refine x_iconst (v := 0) C dX12_readNumber_79 (by decide) ?_
  exact t_X12_readNumber_80 C hr hnm hL13 p1 p2 p4 p5 p6 (0 : Int32) _ h ls (lv_sub hl [0, 1, 2, 3, 4, 5] rfl)
def b_X12_readNumber_61 (a0 : Nat) (L13 : Int32 × Int64 × Int32 × Int32 → Sto → Prop) (Q : Int32 → Sto → Prop) (p1 : Int32) (p2 : Int64) (p4 : Int32) (p6 : Int32) (s0 : Int32) (σ : Sto) : Prop := (sK σ a0 = 12 ∧ (∀ x2 : Int32, x2 = sI σ a0 95 → ((¬ x2 = 0 → b_X12_readNumber_79 a0 L13 Q p1 p2 p4 s0 p6 σ) ∧ (x2 = 0 → ((¬ s0 = 0 → b_X12_readNumber_79 a0 L13 Q p1 p2 p4 s0 p6 σ) ∧ (s0 = 0 → b_X12_readNumber_80 a0 L13 Q p1 p2 p4 s0 p6 (1 : Int32) σ))))))
set_option maxHeartbeats 4000000 in
set_option maxRecDepth 100000 in
theorem t_X12_readNumber_61 {p : Program} {l : Launch} {e : Env} {s : State} {m : MethodId} {args : Array Value} {below : List Frame} {meth : Method} {c : Code} {D : va_G} {cy : Nat → ClassId} {A : Nat → Prop} {a0 : Nat} {L13 : Int32 × Int64 × Int32 × Int32 → Sto → Prop} {Q : Int32 → Sto → Prop} (C : Cx p s m args meth c D cy A cX12_readNumber 8 RX12) (hr : meth.sig.returnType = (some .int)) (hnm : meth.name = yX12_readNumber.name) (hL13 : ∀ (t : Int32 × Int64 × Int32 × Int32) (σ : Sto), L13 t σ → ∀ ls : Array Slot, lv_has ls 8 [(0, .ref a0), (1, .int t.1), (2, .long t.2.1), (4, .int t.2.2.1), (5, .int t.2.2.2)] → Xw p l e rm_X12_readNumber s m args below meth c D cy A σ 0 0 (MQ below (Qst D cy A (PsI Q)) args s rm_X12_readNumber.cells rm_X12_readNumber.slots A) (F0 m 13 ls [])) (p1 : Int32) (p2 : Int64) (p4 : Int32) (p6 : Int32) (s0 : Int32) (σ : Sto) (h : b_X12_readNumber_61 a0 L13 Q p1 p2 p4 p6 s0 σ) (ls : Array Slot) (hl : lv_has ls 8 [(0, .ref a0), (1, .int p1), (2, .long p2), (4, .int p4), (6, .int p6)]) : Xw p l e rm_X12_readNumber s m args below meth c D cy A σ 0 0 (MQ below (Qst D cy A (PsI Q)) args s rm_X12_readNumber.cells rm_X12_readNumber.slots A) (F0 m 61 ls [.int s0]) := by
  unfold b_X12_readNumber_61 at h
  refine x_istore (i := 5) (lv' := [(5, .int s0), (0, .ref a0), (1, .int p1), (2, .long p2), (4, .int p4), (6, .int p6)]) C dX12_readNumber_61 hl (by decide) (by first | rfl | simp [vrc, cat_i, cat_r, cat_l]) (fun ls hl => ?_)
  refine x_aload_n C dX12_readNumber_63 rfl (lv_at hl 1 rfl) ?_
  obtain ⟨g1, h⟩ := h
  refine x_getI C fl_RX12_535 g1 dX12_readNumber_64 ?_
  refine x_topi (fun x2 e3 => ?_)
  have h := h x2 e3
  refine x_if_ne (tgt := 79) C dX12_readNumber_67 (by decide) (fun c4 => ?_) (fun c4 => ?_)
  · have h := h.1 c4
    exact t_X12_readNumber_79 C hr hnm hL13 p1 p2 p4 s0 p6 _ h ls (lv_sub hl [1, 2, 3, 4, 0, 5] rfl)
  · have h := h.2 c4
    refine x_iload C dX12_readNumber_70 (lv_at hl 0 rfl) ?_
    refine x_if_ne (tgt := 79) C dX12_readNumber_72 (by decide) (fun c5 => ?_) (fun c5 => ?_)
    · have h := h.1 c5
      exact t_X12_readNumber_79 C hr hnm hL13 p1 p2 p4 s0 p6 _ h ls (lv_sub hl [1, 2, 3, 4, 0, 5] rfl)
    · have h := h.2 c5
      refine x_iconst (v := 1) C dX12_readNumber_75 (by decide) ?_
      refine x_goto (tgt := 80) C dX12_readNumber_76 (by decide) ?_
      exact t_X12_readNumber_80 C hr hnm hL13 p1 p2 p4 s0 p6 (1 : Int32) _ h ls (lv_sub hl [1, 2, 3, 4, 0, 5] rfl)
def f_X12_readNumber_13 (a0 : Nat)  (Q : Int32 → Sto → Prop) (L13 : Int32 × Int64 × Int32 × Int32 → Sto → Prop) (t : Int32 × Int64 × Int32 × Int32) (σ : Sto) : Prop := ((t.2.2.2 = 0 → b_X12_readNumber_131 a0  Q t.2.1 σ) ∧ (¬ t.2.2.2 = 0 → (sK σ a0 = 12 ∧ (∀ x3 : Int32, x3 = sI σ a0 95 → ((¬ x3 = 0 → b_X12_readNumber_131 a0  Q t.2.1 σ) ∧ (x3 = 0 → (wp_X12_next a0  σ (fun (x7 : Int32) (σ6 : Sto) => (∀ y8 : Int64, y8 = t.2.1 ||| (((x7 &&& (127 : Int32)).toInt64) <<< (((7 : Int32) * t.2.2.1).toInt64 &&& 63)) → (∀ x10 : Int32, x10 = t.2.2.1 + (1 : Int32) → ((x7 ≤ (127 : Int32) → b_X12_readNumber_61 a0 L13 Q t.1 y8 x10 x7 (0 : Int32) σ6) ∧ (¬ x7 ≤ (127 : Int32) → b_X12_readNumber_61 a0 L13 Q t.1 y8 x10 x7 (1 : Int32) σ6))))))))))))
set_option maxHeartbeats 4000000 in
set_option maxRecDepth 100000 in
theorem t_X12_readNumber_13 {p : Program} {l : Launch} {e : Env} {s : State} {m : MethodId} {args : Array Value} {below : List Frame} {meth : Method} {c : Code} {D : va_G} {cy : Nat → ClassId} {A : Nat → Prop} {a0 : Nat} {Q : Int32 → Sto → Prop} {L13 : Int32 × Int64 × Int32 × Int32 → Sto → Prop} (C : Cx p s m args meth c D cy A cX12_readNumber 8 RX12) (hr : meth.sig.returnType = (some .int)) (hnm : meth.name = yX12_readNumber.name) (hL13 : ∀ (t : Int32 × Int64 × Int32 × Int32) (σ : Sto), L13 t σ → ∀ ls : Array Slot, lv_has ls 8 [(0, .ref a0), (1, .int t.1), (2, .long t.2.1), (4, .int t.2.2.1), (5, .int t.2.2.2)] → Xw p l e rm_X12_readNumber s m args below meth c D cy A σ 0 0 (MQ below (Qst D cy A (PsI Q)) args s rm_X12_readNumber.cells rm_X12_readNumber.slots A) (F0 m 13 ls [])) : ∀ (t : Int32 × Int64 × Int32 × Int32) (σ : Sto), f_X12_readNumber_13 a0  Q L13 t σ → ∀ ls : Array Slot, lv_has ls 8 [(0, .ref a0), (1, .int t.1), (2, .long t.2.1), (4, .int t.2.2.1), (5, .int t.2.2.2)] → Xw p l e rm_X12_readNumber s m args below meth c D cy A σ 0 0 (MQ below (Qst D cy A (PsI Q)) args s rm_X12_readNumber.cells rm_X12_readNumber.slots A) (F0 m 13 ls []) := by
  intro t σ h ls hl
  unfold f_X12_readNumber_13 at h
  refine x_iload C dX12_readNumber_13 (lv_at hl 4 rfl) ?_
  refine x_if_eq (tgt := 131) C dX12_readNumber_15 (by decide) (fun c1 => ?_) (fun c1 => ?_)
  · have h := h.1 c1
    exact t_X12_readNumber_131 C hr hnm  t.2.1 _ h ls (lv_sub hl [0, 2] rfl)
  · have h := h.2 c1
    refine x_aload_n C dX12_readNumber_18 rfl (lv_at hl 0 rfl) ?_
    obtain ⟨g2, h⟩ := h
    refine x_getI C fl_RX12_535 g2 dX12_readNumber_19 ?_
    refine x_topi (fun x3 e4 => ?_)
    have h := h x3 e4
    refine x_if_ne (tgt := 131) C dX12_readNumber_22 (by decide) (fun c5 => ?_) (fun c5 => ?_)
    · have h := h.1 c5
      exact t_X12_readNumber_131 C hr hnm  t.2.1 _ h ls (lv_sub hl [0, 2] rfl)
    · have h := h.2 c5
      refine x_aload_n C dX12_readNumber_25 rfl (lv_at hl 0 rfl) ?_
      refine x_callV (rm := rm_X12_next) (rest := []) (As := []) C cy_RX12_547 g2 (by decide) (by decide) rfl rfl (Nat.le_of_ble_eq_true rfl) hl.1 dX12_readNumber_26 (c_X12_next l D cy a0  σ _ h) (ks_i (fun x7 σ6 h => ?_))
      refine x_istore (i := 6) (lv' := [(6, .int x7), (0, .ref a0), (1, .int t.1), (2, .long t.2.1), (4, .int t.2.2.1), (5, .int t.2.2.2)]) C dX12_readNumber_29 hl (by decide) (by first | rfl | simp [vrc, cat_i, cat_r, cat_l]) (fun ls hl => ?_)
      refine x_lload_n C dX12_readNumber_31 rfl (lv_at hl 3 rfl) ?_
      refine x_iload C dX12_readNumber_32 (lv_at hl 0 rfl) ?_
      refine x_bipush (v := 127) C dX12_readNumber_34 (by decide) ?_
      refine x_iand C dX12_readNumber_36 ?_
      refine x_i2l C dX12_readNumber_37 ?_
      refine x_bipush (v := 7) C dX12_readNumber_38 (by decide) ?_
      refine x_iload C dX12_readNumber_40 (lv_at hl 4 rfl) ?_
      refine x_imul C dX12_readNumber_42 ?_
      refine x_lshl C dX12_readNumber_43 ?_
      refine x_lor C dX12_readNumber_44 ?_
      refine x_topj (fun y8 e9 => ?_)
      have h := h y8 e9
      refine x_lstore_n (i := 2) (lv' := [(2, .long y8), (6, .int x7), (0, .ref a0), (1, .int t.1), (4, .int t.2.2.1), (5, .int t.2.2.2)]) C dX12_readNumber_45 rfl hl (by decide) (by first | rfl | simp [vrc, cat_i, cat_r, cat_l]) (fun ls hl => ?_)
      obtain ⟨x10, e11⟩ : ∃ z : Int32, z = t.2.2.1 + (1 : Int32) := ⟨_, rfl⟩
      have h := h x10 e11
      refine x_iinc (v := x10) (lv' := [(4, .int x10), (2, .long y8), (6, .int x7), (0, .ref a0), (1, .int t.1), (5, .int t.2.2.2)]) C dX12_readNumber_46 hl (q0 := 4) rfl (by rw [e11]; rfl) (by decide) (by first | rfl | simp [vrc, cat_i, cat_r, cat_l]) (fun ls hl => ?_)
      refine x_iload C dX12_readNumber_49 (lv_at hl 2 rfl) ?_
      refine x_bipush (v := 127) C dX12_readNumber_51 (by decide) ?_
      refine x_icmp_le (tgt := 60) C dX12_readNumber_53 (by decide) (fun c12 => ?_) (fun c12 => ?_)
      · have h := h.1 c12
        refine x_iconst (v := 0) C dX12_readNumber_60 (by decide) ?_
        exact t_X12_readNumber_61 C hr hnm hL13 t.1 y8 x10 x7 (0 : Int32) _ h ls (lv_sub hl [3, 4, 1, 0, 2] rfl)
      · have h := h.2 c12
        refine x_iconst (v := 1) C dX12_readNumber_56 (by decide) ?_
        refine x_goto (tgt := 61) C dX12_readNumber_57 (by decide) ?_
        exact t_X12_readNumber_61 C hr hnm hL13 t.1 y8 x10 x7 (1 : Int32) _ h ls (lv_sub hl [3, 4, 1, 0, 2] rfl)
def wp_X12_readNumber (a0 : Nat)  (σ : Sto) (Q : Int32 → Sto → Prop) : Prop := (sK σ a0 = 12 ∧ (∀ x2 : Int32, x2 = sI σ a0 94 → LF (f_X12_readNumber_13 a0  Q) (x2, (0 : Int64), (0 : Int32), (1 : Int32)) σ))
set_option maxHeartbeats 4000000 in
set_option maxRecDepth 100000 in
theorem c_X12_readNumber (l : Launch) (D : va_G) (cy : Nat → ClassId) (a0 : Nat)  (σ : Sto) (Q : Int32 → Sto → Prop) (h : wp_X12_readNumber a0  σ Q) : Mt l D cy yX12_readNumber cX12_readNumber 8 (some .int) rm_X12_readNumber [.ref a0] σ (PsI Q) := by
  unfold wp_X12_readNumber at h
  refine mt_of (by decide +kernel) (Nat.le_of_ble_eq_true rfl) ?_
  intro p e s m args below meth c A ls C hr hnm hl
  have C : Cx p s m args meth c D cy A cX12_readNumber 8 RX12 := C
  have hl : lv_has ls 8 [(0, .ref a0)] := hl
  refine x_aload_n C dX12_readNumber_0 rfl (lv_at hl 0 rfl) ?_
  obtain ⟨g1, h⟩ := h
  refine x_getI C fl_RX12_538 g1 dX12_readNumber_1 ?_
  refine x_topi (fun x2 e3 => ?_)
  have h := h x2 e3
  refine x_istore_n (i := 1) (lv' := [(1, .int x2), (0, .ref a0)]) C dX12_readNumber_4 rfl hl (by decide) (by first | rfl | simp [vrc, cat_i, cat_r, cat_l]) (fun ls hl => ?_)
  refine x_lconst (v := 0) C dX12_readNumber_5 (by decide) ?_
  refine x_lstore_n (i := 2) (lv' := [(2, .long (0 : Int64)), (1, .int x2), (0, .ref a0)]) C dX12_readNumber_6 rfl hl (by decide) (by first | rfl | simp [vrc, cat_i, cat_r, cat_l]) (fun ls hl => ?_)
  refine x_iconst (v := 0) C dX12_readNumber_7 (by decide) ?_
  refine x_istore (i := 4) (lv' := [(4, .int (0 : Int32)), (2, .long (0 : Int64)), (1, .int x2), (0, .ref a0)]) C dX12_readNumber_8 hl (by decide) (by first | rfl | simp [vrc, cat_i, cat_r, cat_l]) (fun ls hl => ?_)
  refine x_iconst (v := 1) C dX12_readNumber_10 (by decide) ?_
  refine x_istore (i := 5) (lv' := [(5, .int (1 : Int32)), (4, .int (0 : Int32)), (2, .long (0 : Int64)), (1, .int x2), (0, .ref a0)]) C dX12_readNumber_11 hl (by decide) (by first | rfl | simp [vrc, cat_i, cat_r, cat_l]) (fun ls hl => ?_)
  exact h (fun t σ => ∀ ls : Array Slot, lv_has ls 8 [(0, .ref a0), (1, .int t.1), (2, .long t.2.1), (4, .int t.2.2.1), (5, .int t.2.2.2)] → Xw p l e rm_X12_readNumber s m args below meth c D cy A σ 0 0 (MQ below (Qst D cy A (PsI Q)) args s rm_X12_readNumber.cells rm_X12_readNumber.slots A) (F0 m 13 ls [])) (t_X12_readNumber_13 C hr hnm  (fun t σ h => h)) ls (lv_sub hl [4, 3, 2, 1, 0] rfl)
theorem dX12_nextWord_0 : decode cX12_nextWord 0 = .ok (.iconst 0, 1) := by decide +kernel
theorem dX12_nextWord_1 : decode cX12_nextWord 1 = .ok (.istore_n 1, 1) := by decide +kernel
theorem dX12_nextWord_2 : decode cX12_nextWord 2 = .ok (.iconst 0, 1) := by decide +kernel
theorem dX12_nextWord_3 : decode cX12_nextWord 3 = .ok (.istore_n 2, 1) := by decide +kernel
theorem dX12_nextWord_4 : decode cX12_nextWord 4 = .ok (.iload_n 2, 1) := by decide +kernel
theorem dX12_nextWord_5 : decode cX12_nextWord 5 = .ok (.iconst 4, 1) := by decide +kernel
theorem dX12_nextWord_6 : decode cX12_nextWord 6 = .ok (.if_icmp .ge 19, 3) := by decide +kernel
theorem dX12_nextWord_9 : decode cX12_nextWord 9 = .ok (.iload_n 1, 1) := by decide +kernel
theorem dX12_nextWord_10 : decode cX12_nextWord 10 = .ok (.bipush 8, 2) := by decide +kernel
theorem dX12_nextWord_12 : decode cX12_nextWord 12 = .ok (.ishl, 1) := by decide +kernel
theorem dX12_nextWord_13 : decode cX12_nextWord 13 = .ok (.aload_n 0, 1) := by decide +kernel
theorem dX12_nextWord_14 : decode cX12_nextWord 14 = .ok (.invokevirtual 547, 3) := by decide +kernel
theorem dX12_nextWord_17 : decode cX12_nextWord 17 = .ok (.ior, 1) := by decide +kernel
theorem dX12_nextWord_18 : decode cX12_nextWord 18 = .ok (.istore_n 1, 1) := by decide +kernel
theorem dX12_nextWord_19 : decode cX12_nextWord 19 = .ok (.iinc 2 1, 3) := by decide +kernel
theorem dX12_nextWord_22 : decode cX12_nextWord 22 = .ok (.goto (-18), 3) := by decide +kernel
theorem dX12_nextWord_25 : decode cX12_nextWord 25 = .ok (.iload_n 1, 1) := by decide +kernel
theorem dX12_nextWord_26 : decode cX12_nextWord 26 = .ok (.ireturn, 1) := by decide +kernel
abbrev rm_X12_nextWord : Room := { frames := 2, cells := 0, slots := 0, locals := 42 }
def f_X12_nextWord_4 (a0 : Nat)  (Q : Int32 → Sto → Prop) (L4 : Int32 × Int32 → Sto → Prop) (t : Int32 × Int32) (σ : Sto) : Prop := (((4 : Int32) ≤ t.2 → Q t.1 σ) ∧ (¬ (4 : Int32) ≤ t.2 → (sK σ a0 = 12 ∧ (wp_X12_next a0  σ (fun (x4 : Int32) (σ3 : Sto) => (∀ x5 : Int32, x5 = (t.1 <<< ((8 : Int32) &&& 31)) ||| x4 → (∀ x7 : Int32, x7 = t.2 + (1 : Int32) → L4 (x5, x7) σ3)))))))
set_option maxHeartbeats 4000000 in
set_option maxRecDepth 100000 in
theorem t_X12_nextWord_4 {p : Program} {l : Launch} {e : Env} {s : State} {m : MethodId} {args : Array Value} {below : List Frame} {meth : Method} {c : Code} {D : va_G} {cy : Nat → ClassId} {A : Nat → Prop} {a0 : Nat} {Q : Int32 → Sto → Prop} {L4 : Int32 × Int32 → Sto → Prop} (C : Cx p s m args meth c D cy A cX12_nextWord 3 RX12) (hr : meth.sig.returnType = (some .int)) (hnm : meth.name = yX12_nextWord.name) (hL4 : ∀ (t : Int32 × Int32) (σ : Sto), L4 t σ → ∀ ls : Array Slot, lv_has ls 3 [(0, .ref a0), (1, .int t.1), (2, .int t.2)] → Xw p l e rm_X12_nextWord s m args below meth c D cy A σ 0 0 (MQ below (Qst D cy A (PsI Q)) args s rm_X12_nextWord.cells rm_X12_nextWord.slots A) (F0 m 4 ls [])) : ∀ (t : Int32 × Int32) (σ : Sto), f_X12_nextWord_4 a0  Q L4 t σ → ∀ ls : Array Slot, lv_has ls 3 [(0, .ref a0), (1, .int t.1), (2, .int t.2)] → Xw p l e rm_X12_nextWord s m args below meth c D cy A σ 0 0 (MQ below (Qst D cy A (PsI Q)) args s rm_X12_nextWord.cells rm_X12_nextWord.slots A) (F0 m 4 ls []) := by
  intro t σ h ls hl
  unfold f_X12_nextWord_4 at h
  refine x_iload_n C dX12_nextWord_4 rfl (lv_at hl 2 rfl) ?_
  refine x_iconst (v := 4) C dX12_nextWord_5 (by decide) ?_
  refine x_icmp_ge (tgt := 25) C dX12_nextWord_6 (by decide) (fun c1 => ?_) (fun c1 => ?_)
  · have h := h.1 c1
    refine x_iload_n C dX12_nextWord_25 rfl (lv_at hl 1 rfl) ?_
    exact x_iret C hr dX12_nextWord_26 ⟨_, rfl, h⟩
  · have h := h.2 c1
    refine x_iload_n C dX12_nextWord_9 rfl (lv_at hl 1 rfl) ?_
    refine x_bipush (v := 8) C dX12_nextWord_10 (by decide) ?_
    refine x_ishl C dX12_nextWord_12 ?_
    refine x_aload_n C dX12_nextWord_13 rfl (lv_at hl 0 rfl) ?_
    obtain ⟨g2, h⟩ := h
    refine x_callV (rm := rm_X12_next) (rest := [.int (t.1 <<< ((8 : Int32) &&& 31))]) (As := []) C cy_RX12_547 g2 (by decide) (by decide) rfl rfl (Nat.le_of_ble_eq_true rfl) hl.1 dX12_nextWord_14 (c_X12_next l D cy a0  σ _ h) (ks_i (fun x4 σ3 h => ?_))
    refine x_ior C dX12_nextWord_17 ?_
    refine x_topi (fun x5 e6 => ?_)
    have h := h x5 e6
    refine x_istore_n (i := 1) (lv' := [(1, .int x5), (0, .ref a0), (2, .int t.2)]) C dX12_nextWord_18 rfl hl (by decide) (by first | rfl | simp [vrc, cat_i, cat_r, cat_l]) (fun ls hl => ?_)
    obtain ⟨x7, e8⟩ : ∃ z : Int32, z = t.2 + (1 : Int32) := ⟨_, rfl⟩
    have h := h x7 e8
    refine x_iinc (v := x7) (lv' := [(2, .int x7), (1, .int x5), (0, .ref a0)]) C dX12_nextWord_19 hl (q0 := 2) rfl (by rw [e8]; rfl) (by decide) (by first | rfl | simp [vrc, cat_i, cat_r, cat_l]) (fun ls hl => ?_)
    refine x_goto (tgt := 4) C dX12_nextWord_22 (by decide) ?_
    exact hL4 (x5, x7) _ h ls (lv_sub hl [2, 1, 0] rfl)
def wp_X12_nextWord (a0 : Nat)  (σ : Sto) (Q : Int32 → Sto → Prop) : Prop := LF (f_X12_nextWord_4 a0  Q) ((0 : Int32), (0 : Int32)) σ
set_option maxHeartbeats 4000000 in
set_option maxRecDepth 100000 in
theorem c_X12_nextWord (l : Launch) (D : va_G) (cy : Nat → ClassId) (a0 : Nat)  (σ : Sto) (Q : Int32 → Sto → Prop) (h : wp_X12_nextWord a0  σ Q) : Mt l D cy yX12_nextWord cX12_nextWord 3 (some .int) rm_X12_nextWord [.ref a0] σ (PsI Q) := by
  unfold wp_X12_nextWord at h
  refine mt_of (by decide +kernel) (Nat.le_of_ble_eq_true rfl) ?_
  intro p e s m args below meth c A ls C hr hnm hl
  have C : Cx p s m args meth c D cy A cX12_nextWord 3 RX12 := C
  have hl : lv_has ls 3 [(0, .ref a0)] := hl
  refine x_iconst (v := 0) C dX12_nextWord_0 (by decide) ?_
  refine x_istore_n (i := 1) (lv' := [(1, .int (0 : Int32)), (0, .ref a0)]) C dX12_nextWord_1 rfl hl (by decide) (by first | rfl | simp [vrc, cat_i, cat_r, cat_l]) (fun ls hl => ?_)
  refine x_iconst (v := 0) C dX12_nextWord_2 (by decide) ?_
  refine x_istore_n (i := 2) (lv' := [(2, .int (0 : Int32)), (1, .int (0 : Int32)), (0, .ref a0)]) C dX12_nextWord_3 rfl hl (by decide) (by first | rfl | simp [vrc, cat_i, cat_r, cat_l]) (fun ls hl => ?_)
  exact h (fun t σ => ∀ ls : Array Slot, lv_has ls 3 [(0, .ref a0), (1, .int t.1), (2, .int t.2)] → Xw p l e rm_X12_nextWord s m args below meth c D cy A σ 0 0 (MQ below (Qst D cy A (PsI Q)) args s rm_X12_nextWord.cells rm_X12_nextWord.slots A) (F0 m 4 ls [])) (t_X12_nextWord_4 C hr hnm  (fun t σ h => h)) ls (lv_sub hl [2, 1, 0] rfl)
theorem dX12_readRequest_0 : decode cX12_readRequest 0 = .ok (.aload_n 0, 1) := by decide +kernel
theorem dX12_readRequest_1 : decode cX12_readRequest 1 = .ok (.iconst 3, 1) := by decide +kernel
theorem dX12_readRequest_2 : decode cX12_readRequest 2 = .ok (.invokevirtual 555, 3) := by decide +kernel
theorem dX12_readRequest_5 : decode cX12_readRequest 5 = .ok (.istore_n 1, 1) := by decide +kernel
theorem dX12_readRequest_6 : decode cX12_readRequest 6 = .ok (.aload_n 0, 1) := by decide +kernel
theorem dX12_readRequest_7 : decode cX12_readRequest 7 = .ok (.invokevirtual 558, 3) := by decide +kernel
theorem dX12_readRequest_10 : decode cX12_readRequest 10 = .ok (.istore_n 2, 1) := by decide +kernel
theorem dX12_readRequest_11 : decode cX12_readRequest 11 = .ok (.aload_n 0, 1) := by decide +kernel
theorem dX12_readRequest_12 : decode cX12_readRequest 12 = .ok (.iconst 2, 1) := by decide +kernel
theorem dX12_readRequest_13 : decode cX12_readRequest 13 = .ok (.invokevirtual 555, 3) := by decide +kernel
theorem dX12_readRequest_16 : decode cX12_readRequest 16 = .ok (.istore_n 3, 1) := by decide +kernel
theorem dX12_readRequest_17 : decode cX12_readRequest 17 = .ok (.aload_n 0, 1) := by decide +kernel
theorem dX12_readRequest_18 : decode cX12_readRequest 18 = .ok (.bipush 7, 2) := by decide +kernel
theorem dX12_readRequest_20 : decode cX12_readRequest 20 = .ok (.invokevirtual 555, 3) := by decide +kernel
theorem dX12_readRequest_23 : decode cX12_readRequest 23 = .ok (.istore 4, 2) := by decide +kernel
theorem dX12_readRequest_25 : decode cX12_readRequest 25 = .ok (.aload_n 0, 1) := by decide +kernel
theorem dX12_readRequest_26 : decode cX12_readRequest 26 = .ok (.aload_n 0, 1) := by decide +kernel
theorem dX12_readRequest_27 : decode cX12_readRequest 27 = .ok (.invokevirtual 561, 3) := by decide +kernel
theorem dX12_readRequest_30 : decode cX12_readRequest 30 = .ok (.invokevirtual 550, 3) := by decide +kernel
theorem dX12_readRequest_33 : decode cX12_readRequest 33 = .ok (.return_, 1) := by decide +kernel
abbrev rm_X12_readRequest : Room := { frames := 3, cells := 0, slots := 0, locals := 69 }
def wp_X12_readRequest (a0 : Nat)  (σ : Sto) (Q : Sto → Prop) : Prop := (sK σ a0 = 12 ∧ (wp_X12_readByte a0 (3 : Int32) σ (fun (x3 : Int32) (σ2 : Sto) => (sK σ2 a0 = 12 ∧ (wp_X12_readNumber a0  σ2 (fun (x6 : Int32) (σ5 : Sto) => (sK σ5 a0 = 12 ∧ (wp_X12_readByte a0 (2 : Int32) σ5 (fun (x9 : Int32) (σ8 : Sto) => (sK σ8 a0 = 12 ∧ (wp_X12_readByte a0 (7 : Int32) σ8 (fun (x12 : Int32) (σ11 : Sto) => (sK σ11 a0 = 12 ∧ (wp_X12_nextWord a0  σ11 (fun (x15 : Int32) (σ14 : Sto) => (sK σ14 a0 = 12 ∧ (wp_X12_keep a0 x15 σ14 (fun (σ17 : Sto) => Q σ17))))))))))))))))))
set_option maxHeartbeats 4000000 in
set_option maxRecDepth 100000 in
theorem c_X12_readRequest (l : Launch) (D : va_G) (cy : Nat → ClassId) (a0 : Nat)  (σ : Sto) (Q : Sto → Prop) (h : wp_X12_readRequest a0  σ Q) : Mt l D cy yX12_readRequest cX12_readRequest 5 none rm_X12_readRequest [.ref a0] σ (PsV Q) := by
  unfold wp_X12_readRequest at h
  refine mt_of (by decide +kernel) (Nat.le_of_ble_eq_true rfl) ?_
  intro p e s m args below meth c A ls C hr hnm hl
  have C : Cx p s m args meth c D cy A cX12_readRequest 5 RX12 := C
  have hl : lv_has ls 5 [(0, .ref a0)] := hl
  refine x_aload_n C dX12_readRequest_0 rfl (lv_at hl 0 rfl) ?_
  refine x_iconst (v := 3) C dX12_readRequest_1 (by decide) ?_
  obtain ⟨g1, h⟩ := h
  refine x_callV (rm := rm_X12_readByte) (rest := []) (As := [.int (3 : Int32)]) C cy_RX12_555 g1 (by decide) (by decide) rfl rfl (Nat.le_of_ble_eq_true rfl) hl.1 dX12_readRequest_2 (c_X12_readByte l D cy a0 (3 : Int32) σ _ h) (ks_i (fun x3 σ2 h => ?_))
  refine x_istore_n (i := 1) (lv' := [(1, .int x3), (0, .ref a0)]) C dX12_readRequest_5 rfl hl (by decide) (by first | rfl | simp [vrc, cat_i, cat_r, cat_l]) (fun ls hl => ?_)
  refine x_aload_n C dX12_readRequest_6 rfl (lv_at hl 1 rfl) ?_
  obtain ⟨g4, h⟩ := h
  refine x_callV (rm := rm_X12_readNumber) (rest := []) (As := []) C cy_RX12_558 g4 (by decide) (by decide) rfl rfl (Nat.le_of_ble_eq_true rfl) hl.1 dX12_readRequest_7 (c_X12_readNumber l D cy a0  σ2 _ h) (ks_i (fun x6 σ5 h => ?_))
  refine x_istore_n (i := 2) (lv' := [(2, .int x6), (1, .int x3), (0, .ref a0)]) C dX12_readRequest_10 rfl hl (by decide) (by first | rfl | simp [vrc, cat_i, cat_r, cat_l]) (fun ls hl => ?_)
  refine x_aload_n C dX12_readRequest_11 rfl (lv_at hl 2 rfl) ?_
  refine x_iconst (v := 2) C dX12_readRequest_12 (by decide) ?_
  obtain ⟨g7, h⟩ := h
  refine x_callV (rm := rm_X12_readByte) (rest := []) (As := [.int (2 : Int32)]) C cy_RX12_555 g7 (by decide) (by decide) rfl rfl (Nat.le_of_ble_eq_true rfl) hl.1 dX12_readRequest_13 (c_X12_readByte l D cy a0 (2 : Int32) σ5 _ h) (ks_i (fun x9 σ8 h => ?_))
  refine x_istore_n (i := 3) (lv' := [(3, .int x9), (2, .int x6), (1, .int x3), (0, .ref a0)]) C dX12_readRequest_16 rfl hl (by decide) (by first | rfl | simp [vrc, cat_i, cat_r, cat_l]) (fun ls hl => ?_)
  refine x_aload_n C dX12_readRequest_17 rfl (lv_at hl 3 rfl) ?_
  refine x_bipush (v := 7) C dX12_readRequest_18 (by decide) ?_
  obtain ⟨g10, h⟩ := h
  refine x_callV (rm := rm_X12_readByte) (rest := []) (As := [.int (7 : Int32)]) C cy_RX12_555 g10 (by decide) (by decide) rfl rfl (Nat.le_of_ble_eq_true rfl) hl.1 dX12_readRequest_20 (c_X12_readByte l D cy a0 (7 : Int32) σ8 _ h) (ks_i (fun x12 σ11 h => ?_))
  refine x_istore (i := 4) (lv' := [(4, .int x12), (3, .int x9), (2, .int x6), (1, .int x3), (0, .ref a0)]) C dX12_readRequest_23 hl (by decide) (by first | rfl | simp [vrc, cat_i, cat_r, cat_l]) (fun ls hl => ?_)
  refine x_aload_n C dX12_readRequest_25 rfl (lv_at hl 4 rfl) ?_
  refine x_aload_n C dX12_readRequest_26 rfl (lv_at hl 4 rfl) ?_
  obtain ⟨g13, h⟩ := h
  refine x_callV (rm := rm_X12_nextWord) (rest := [.ref a0]) (As := []) C cy_RX12_561 g13 (by decide) (by decide) rfl rfl (Nat.le_of_ble_eq_true rfl) hl.1 dX12_readRequest_27 (c_X12_nextWord l D cy a0  σ11 _ h) (ks_i (fun x15 σ14 h => ?_))
  obtain ⟨g16, h⟩ := h
  refine x_callV (rm := rm_X12_keep) (rest := []) (As := [.int x15]) C cy_RX12_550 g16 (by decide) (by decide) rfl rfl (Nat.le_of_ble_eq_true rfl) hl.1 dX12_readRequest_30 (c_X12_keep l D cy a0 x15 σ14 _ h) (ks_v (fun σ17 h => ?_))
  exact x_vret C hr dX12_readRequest_33 ⟨rfl, h⟩
theorem dX12_readLog_0 : decode cX12_readLog 0 = .ok (.aload_n 0, 1) := by decide +kernel
theorem dX12_readLog_1 : decode cX12_readLog 1 = .ok (.getfield 538, 3) := by decide +kernel
theorem dX12_readLog_4 : decode cX12_readLog 4 = .ok (.istore_n 1, 1) := by decide +kernel
theorem dX12_readLog_5 : decode cX12_readLog 5 = .ok (.aload_n 0, 1) := by decide +kernel
theorem dX12_readLog_6 : decode cX12_readLog 6 = .ok (.invokevirtual 558, 3) := by decide +kernel
theorem dX12_readLog_9 : decode cX12_readLog 9 = .ok (.istore_n 2, 1) := by decide +kernel
theorem dX12_readLog_10 : decode cX12_readLog 10 = .ok (.iload_n 2, 1) := by decide +kernel
theorem dX12_readLog_11 : decode cX12_readLog 11 = .ok (.bipush 100, 2) := by decide +kernel
theorem dX12_readLog_13 : decode cX12_readLog 13 = .ok (.if_icmp .le 9, 3) := by decide +kernel
theorem dX12_readLog_16 : decode cX12_readLog 16 = .ok (.aload_n 0, 1) := by decide +kernel
theorem dX12_readLog_17 : decode cX12_readLog 17 = .ok (.iconst 4, 1) := by decide +kernel
theorem dX12_readLog_18 : decode cX12_readLog 18 = .ok (.iload_n 1, 1) := by decide +kernel
theorem dX12_readLog_19 : decode cX12_readLog 19 = .ok (.invokevirtual 541, 3) := by decide +kernel
theorem dX12_readLog_22 : decode cX12_readLog 22 = .ok (.iconst 0, 1) := by decide +kernel
theorem dX12_readLog_23 : decode cX12_readLog 23 = .ok (.istore_n 3, 1) := by decide +kernel
theorem dX12_readLog_24 : decode cX12_readLog 24 = .ok (.iload_n 3, 1) := by decide +kernel
theorem dX12_readLog_25 : decode cX12_readLog 25 = .ok (.iload_n 2, 1) := by decide +kernel
theorem dX12_readLog_26 : decode cX12_readLog 26 = .ok (.if_icmp .ge 29, 3) := by decide +kernel
theorem dX12_readLog_29 : decode cX12_readLog 29 = .ok (.aload_n 0, 1) := by decide +kernel
theorem dX12_readLog_30 : decode cX12_readLog 30 = .ok (.getfield 535, 3) := by decide +kernel
theorem dX12_readLog_33 : decode cX12_readLog 33 = .ok (.ifCond .ne 22, 3) := by decide +kernel
theorem dX12_readLog_36 : decode cX12_readLog 36 = .ok (.aload_n 0, 1) := by decide +kernel
theorem dX12_readLog_37 : decode cX12_readLog 37 = .ok (.iconst 1, 1) := by decide +kernel
theorem dX12_readLog_38 : decode cX12_readLog 38 = .ok (.invokevirtual 555, 3) := by decide +kernel
theorem dX12_readLog_41 : decode cX12_readLog 41 = .ok (.iconst 1, 1) := by decide +kernel
theorem dX12_readLog_42 : decode cX12_readLog 42 = .ok (.if_icmp .ne 7, 3) := by decide +kernel
theorem dX12_readLog_45 : decode cX12_readLog 45 = .ok (.aload_n 0, 1) := by decide +kernel
theorem dX12_readLog_46 : decode cX12_readLog 46 = .ok (.invokevirtual 564, 3) := by decide +kernel
theorem dX12_readLog_49 : decode cX12_readLog 49 = .ok (.iinc 3 1, 3) := by decide +kernel
theorem dX12_readLog_52 : decode cX12_readLog 52 = .ok (.goto (-28), 3) := by decide +kernel
theorem dX12_readLog_55 : decode cX12_readLog 55 = .ok (.return_, 1) := by decide +kernel
abbrev rm_X12_readLog : Room := { frames := 4, cells := 0, slots := 0, locals := 93 }
def b_X12_readLog_49 (a0 : Nat) (L24 : Int32 × Int32 → Sto → Prop) (Q : Sto → Prop) (p2 : Int32) (p3 : Int32) (σ : Sto) : Prop := (∀ x1 : Int32, x1 = p3 + (1 : Int32) → L24 (p2, x1) σ)
set_option maxHeartbeats 4000000 in
set_option maxRecDepth 100000 in
theorem t_X12_readLog_49 {p : Program} {l : Launch} {e : Env} {s : State} {m : MethodId} {args : Array Value} {below : List Frame} {meth : Method} {c : Code} {D : va_G} {cy : Nat → ClassId} {A : Nat → Prop} {a0 : Nat} {L24 : Int32 × Int32 → Sto → Prop} {Q : Sto → Prop} (C : Cx p s m args meth c D cy A cX12_readLog 4 RX12) (hr : meth.sig.returnType = none) (hnm : meth.name = yX12_readLog.name) (hL24 : ∀ (t : Int32 × Int32) (σ : Sto), L24 t σ → ∀ ls : Array Slot, lv_has ls 4 [(0, .ref a0), (2, .int t.1), (3, .int t.2)] → Xw p l e rm_X12_readLog s m args below meth c D cy A σ 0 0 (MQ below (Qst D cy A (PsV Q)) args s rm_X12_readLog.cells rm_X12_readLog.slots A) (F0 m 24 ls [])) (p2 : Int32) (p3 : Int32) (σ : Sto) (h : b_X12_readLog_49 a0 L24 Q p2 p3 σ) (ls : Array Slot) (hl : lv_has ls 4 [(0, .ref a0), (2, .int p2), (3, .int p3)]) : Xw p l e rm_X12_readLog s m args below meth c D cy A σ 0 0 (MQ below (Qst D cy A (PsV Q)) args s rm_X12_readLog.cells rm_X12_readLog.slots A) (F0 m 49 ls []) := by
  unfold b_X12_readLog_49 at h
  obtain ⟨x1, e2⟩ : ∃ z : Int32, z = p3 + (1 : Int32) := ⟨_, rfl⟩
  have h := h x1 e2
  refine x_iinc (v := x1) (lv' := [(3, .int x1), (0, .ref a0), (2, .int p2)]) C dX12_readLog_49 hl (q0 := 2) rfl (by rw [e2]; rfl) (by decide) (by first | rfl | simp [vrc, cat_i, cat_r, cat_l]) (fun ls hl => ?_)
  refine x_goto (tgt := 24) C dX12_readLog_52 (by decide) ?_
  exact hL24 (p2, x1) _ h ls (lv_sub hl [1, 2, 0] rfl)
def f_X12_readLog_24 (a0 : Nat)  (Q : Sto → Prop) (L24 : Int32 × Int32 → Sto → Prop) (t : Int32 × Int32) (σ : Sto) : Prop := ((t.1 ≤ t.2 → Q σ) ∧ (¬ t.1 ≤ t.2 → (sK σ a0 = 12 ∧ (∀ x3 : Int32, x3 = sI σ a0 95 → ((¬ x3 = 0 → Q σ) ∧ (x3 = 0 → (wp_X12_readByte a0 (1 : Int32) σ (fun (x7 : Int32) (σ6 : Sto) => ((¬ x7 = (1 : Int32) → b_X12_readLog_49 a0 L24 Q t.1 t.2 σ6) ∧ (x7 = (1 : Int32) → (sK σ6 a0 = 12 ∧ (wp_X12_readRequest a0  σ6 (fun (σ10 : Sto) => b_X12_readLog_49 a0 L24 Q t.1 t.2 σ10)))))))))))))
set_option maxHeartbeats 4000000 in
set_option maxRecDepth 100000 in
theorem t_X12_readLog_24 {p : Program} {l : Launch} {e : Env} {s : State} {m : MethodId} {args : Array Value} {below : List Frame} {meth : Method} {c : Code} {D : va_G} {cy : Nat → ClassId} {A : Nat → Prop} {a0 : Nat} {Q : Sto → Prop} {L24 : Int32 × Int32 → Sto → Prop} (C : Cx p s m args meth c D cy A cX12_readLog 4 RX12) (hr : meth.sig.returnType = none) (hnm : meth.name = yX12_readLog.name) (hL24 : ∀ (t : Int32 × Int32) (σ : Sto), L24 t σ → ∀ ls : Array Slot, lv_has ls 4 [(0, .ref a0), (2, .int t.1), (3, .int t.2)] → Xw p l e rm_X12_readLog s m args below meth c D cy A σ 0 0 (MQ below (Qst D cy A (PsV Q)) args s rm_X12_readLog.cells rm_X12_readLog.slots A) (F0 m 24 ls [])) : ∀ (t : Int32 × Int32) (σ : Sto), f_X12_readLog_24 a0  Q L24 t σ → ∀ ls : Array Slot, lv_has ls 4 [(0, .ref a0), (2, .int t.1), (3, .int t.2)] → Xw p l e rm_X12_readLog s m args below meth c D cy A σ 0 0 (MQ below (Qst D cy A (PsV Q)) args s rm_X12_readLog.cells rm_X12_readLog.slots A) (F0 m 24 ls []) := by
  intro t σ h ls hl
  unfold f_X12_readLog_24 at h
  refine x_iload_n C dX12_readLog_24 rfl (lv_at hl 2 rfl) ?_
  refine x_iload_n C dX12_readLog_25 rfl (lv_at hl 1 rfl) ?_
  refine x_icmp_ge (tgt := 55) C dX12_readLog_26 (by decide) (fun c1 => ?_) (fun c1 => ?_)
  · have h := h.1 c1
    exact x_vret C hr dX12_readLog_55 ⟨rfl, h⟩
  · have h := h.2 c1
    refine x_aload_n C dX12_readLog_29 rfl (lv_at hl 0 rfl) ?_
    obtain ⟨g2, h⟩ := h
    refine x_getI C fl_RX12_535 g2 dX12_readLog_30 ?_
    refine x_topi (fun x3 e4 => ?_)
    have h := h x3 e4
    refine x_if_ne (tgt := 55) C dX12_readLog_33 (by decide) (fun c5 => ?_) (fun c5 => ?_)
    · have h := h.1 c5
      exact x_vret C hr dX12_readLog_55 ⟨rfl, h⟩
    · have h := h.2 c5
      refine x_aload_n C dX12_readLog_36 rfl (lv_at hl 0 rfl) ?_
      refine x_iconst (v := 1) C dX12_readLog_37 (by decide) ?_
      refine x_callV (rm := rm_X12_readByte) (rest := []) (As := [.int (1 : Int32)]) C cy_RX12_555 g2 (by decide) (by decide) rfl rfl (Nat.le_of_ble_eq_true rfl) hl.1 dX12_readLog_38 (c_X12_readByte l D cy a0 (1 : Int32) σ _ h) (ks_i (fun x7 σ6 h => ?_))
      refine x_iconst (v := 1) C dX12_readLog_41 (by decide) ?_
      refine x_icmp_ne (tgt := 49) C dX12_readLog_42 (by decide) (fun c8 => ?_) (fun c8 => ?_)
      · have h := h.1 c8
        exact t_X12_readLog_49 C hr hnm hL24 t.1 t.2 _ h ls (lv_sub hl [0, 1, 2] rfl)
      · have h := h.2 c8
        refine x_aload_n C dX12_readLog_45 rfl (lv_at hl 0 rfl) ?_
        obtain ⟨g9, h⟩ := h
        refine x_callV (rm := rm_X12_readRequest) (rest := []) (As := []) C cy_RX12_564 g9 (by decide) (by decide) rfl rfl (Nat.le_of_ble_eq_true rfl) hl.1 dX12_readLog_46 (c_X12_readRequest l D cy a0  σ6 _ h) (ks_v (fun σ10 h => ?_))
        exact t_X12_readLog_49 C hr hnm hL24 t.1 t.2 _ h ls (lv_sub hl [0, 1, 2] rfl)
def b_X12_readLog_22 (a0 : Nat)  (Q : Sto → Prop) (p2 : Int32) (σ : Sto) : Prop := LF (f_X12_readLog_24 a0  Q) (p2, (0 : Int32)) σ
set_option maxHeartbeats 4000000 in
set_option maxRecDepth 100000 in
theorem t_X12_readLog_22 {p : Program} {l : Launch} {e : Env} {s : State} {m : MethodId} {args : Array Value} {below : List Frame} {meth : Method} {c : Code} {D : va_G} {cy : Nat → ClassId} {A : Nat → Prop} {a0 : Nat} {Q : Sto → Prop} (C : Cx p s m args meth c D cy A cX12_readLog 4 RX12) (hr : meth.sig.returnType = none) (hnm : meth.name = yX12_readLog.name) (p2 : Int32) (σ : Sto) (h : b_X12_readLog_22 a0  Q p2 σ) (ls : Array Slot) (hl : lv_has ls 4 [(0, .ref a0), (2, .int p2)]) : Xw p l e rm_X12_readLog s m args below meth c D cy A σ 0 0 (MQ below (Qst D cy A (PsV Q)) args s rm_X12_readLog.cells rm_X12_readLog.slots A) (F0 m 22 ls []) := by
  unfold b_X12_readLog_22 at h
  refine x_iconst (v := 0) C dX12_readLog_22 (by decide) ?_
  refine x_istore_n (i := 3) (lv' := [(3, .int (0 : Int32)), (0, .ref a0), (2, .int p2)]) C dX12_readLog_23 rfl hl (by decide) (by first | rfl | simp [vrc, cat_i, cat_r, cat_l]) (fun ls hl => ?_)
  exact h (fun t σ => ∀ ls : Array Slot, lv_has ls 4 [(0, .ref a0), (2, .int t.1), (3, .int t.2)] → Xw p l e rm_X12_readLog s m args below meth c D cy A σ 0 0 (MQ below (Qst D cy A (PsV Q)) args s rm_X12_readLog.cells rm_X12_readLog.slots A) (F0 m 24 ls [])) (t_X12_readLog_24 C hr hnm  (fun t σ h => h)) ls (lv_sub hl [1, 2, 0] rfl)
def wp_X12_readLog (a0 : Nat)  (σ : Sto) (Q : Sto → Prop) : Prop := (sK σ a0 = 12 ∧ (∀ x2 : Int32, x2 = sI σ a0 94 → (wp_X12_readNumber a0  σ (fun (x5 : Int32) (σ4 : Sto) => ((x5 ≤ (100 : Int32) → b_X12_readLog_22 a0  Q x5 σ4) ∧ (¬ x5 ≤ (100 : Int32) → (sK σ4 a0 = 12 ∧ (wp_X12_wrongs a0 (4 : Int32) x2 σ4 (fun (σ8 : Sto) => b_X12_readLog_22 a0  Q x5 σ8)))))))))
set_option maxHeartbeats 4000000 in
set_option maxRecDepth 100000 in
theorem c_X12_readLog (l : Launch) (D : va_G) (cy : Nat → ClassId) (a0 : Nat)  (σ : Sto) (Q : Sto → Prop) (h : wp_X12_readLog a0  σ Q) : Mt l D cy yX12_readLog cX12_readLog 4 none rm_X12_readLog [.ref a0] σ (PsV Q) := by
  unfold wp_X12_readLog at h
  refine mt_of (by decide +kernel) (Nat.le_of_ble_eq_true rfl) ?_
  intro p e s m args below meth c A ls C hr hnm hl
  have C : Cx p s m args meth c D cy A cX12_readLog 4 RX12 := C
  have hl : lv_has ls 4 [(0, .ref a0)] := hl
  refine x_aload_n C dX12_readLog_0 rfl (lv_at hl 0 rfl) ?_
  obtain ⟨g1, h⟩ := h
  refine x_getI C fl_RX12_538 g1 dX12_readLog_1 ?_
  refine x_topi (fun x2 e3 => ?_)
  have h := h x2 e3
  refine x_istore_n (i := 1) (lv' := [(1, .int x2), (0, .ref a0)]) C dX12_readLog_4 rfl hl (by decide) (by first | rfl | simp [vrc, cat_i, cat_r, cat_l]) (fun ls hl => ?_)
  refine x_aload_n C dX12_readLog_5 rfl (lv_at hl 1 rfl) ?_
  refine x_callV (rm := rm_X12_readNumber) (rest := []) (As := []) C cy_RX12_558 g1 (by decide) (by decide) rfl rfl (Nat.le_of_ble_eq_true rfl) hl.1 dX12_readLog_6 (c_X12_readNumber l D cy a0  σ _ h) (ks_i (fun x5 σ4 h => ?_))
  refine x_istore_n (i := 2) (lv' := [(2, .int x5), (1, .int x2), (0, .ref a0)]) C dX12_readLog_9 rfl hl (by decide) (by first | rfl | simp [vrc, cat_i, cat_r, cat_l]) (fun ls hl => ?_)
  refine x_iload_n C dX12_readLog_10 rfl (lv_at hl 0 rfl) ?_
  refine x_bipush (v := 100) C dX12_readLog_11 (by decide) ?_
  refine x_icmp_le (tgt := 22) C dX12_readLog_13 (by decide) (fun c6 => ?_) (fun c6 => ?_)
  · have h := h.1 c6
    exact t_X12_readLog_22 C hr hnm  x5 _ h ls (lv_sub hl [2, 0] rfl)
  · have h := h.2 c6
    refine x_aload_n C dX12_readLog_16 rfl (lv_at hl 2 rfl) ?_
    refine x_iconst (v := 4) C dX12_readLog_17 (by decide) ?_
    refine x_iload_n C dX12_readLog_18 rfl (lv_at hl 1 rfl) ?_
    obtain ⟨g7, h⟩ := h
    refine x_callV (rm := rm_X12_wrongs) (rest := []) (As := [.int (4 : Int32), .int x2]) C cy_RX12_541 g7 (by decide) (by decide) rfl rfl (Nat.le_of_ble_eq_true rfl) hl.1 dX12_readLog_19 (c_X12_wrongs l D cy a0 (4 : Int32) x2 σ4 _ h) (ks_v (fun σ8 h => ?_))
    exact t_X12_readLog_22 C hr hnm  x5 _ h ls (lv_sub hl [2, 0] rfl)
theorem dX12_readEnd_0 : decode cX12_readEnd 0 = .ok (.aload_n 0, 1) := by decide +kernel
theorem dX12_readEnd_1 : decode cX12_readEnd 1 = .ok (.getfield 538, 3) := by decide +kernel
theorem dX12_readEnd_4 : decode cX12_readEnd 4 = .ok (.istore_n 2, 1) := by decide +kernel
theorem dX12_readEnd_5 : decode cX12_readEnd 5 = .ok (.aload_n 0, 1) := by decide +kernel
theorem dX12_readEnd_6 : decode cX12_readEnd 6 = .ok (.invokevirtual 547, 3) := by decide +kernel
theorem dX12_readEnd_9 : decode cX12_readEnd 9 = .ok (.istore_n 3, 1) := by decide +kernel
theorem dX12_readEnd_10 : decode cX12_readEnd 10 = .ok (.iload_n 3, 1) := by decide +kernel
theorem dX12_readEnd_11 : decode cX12_readEnd 11 = .ok (.bipush 6, 2) := by decide +kernel
theorem dX12_readEnd_13 : decode cX12_readEnd 13 = .ok (.if_icmp .le 28, 3) := by decide +kernel
theorem dX12_readEnd_16 : decode cX12_readEnd 16 = .ok (.iload_n 1, 1) := by decide +kernel
theorem dX12_readEnd_17 : decode cX12_readEnd 17 = .ok (.ifCond .eq 13, 3) := by decide +kernel
theorem dX12_readEnd_20 : decode cX12_readEnd 20 = .ok (.iload_n 3, 1) := by decide +kernel
theorem dX12_readEnd_21 : decode cX12_readEnd 21 = .ok (.sipush 255, 3) := by decide +kernel
theorem dX12_readEnd_24 : decode cX12_readEnd 24 = .ok (.if_icmp .ne 21, 3) := by decide +kernel
theorem dX12_readEnd_27 : decode cX12_readEnd 27 = .ok (.goto 14, 3) := by decide +kernel
theorem dX12_readEnd_30 : decode cX12_readEnd 30 = .ok (.iload_n 3, 1) := by decide +kernel
theorem dX12_readEnd_31 : decode cX12_readEnd 31 = .ok (.bipush 16, 2) := by decide +kernel
theorem dX12_readEnd_33 : decode cX12_readEnd 33 = .ok (.bipush 19, 2) := by decide +kernel
theorem dX12_readEnd_35 : decode cX12_readEnd 35 = .ok (.invokestatic 270, 3) := by decide +kernel
theorem dX12_readEnd_38 : decode cX12_readEnd 38 = .ok (.ifCond .eq 7, 3) := by decide +kernel
theorem dX12_readEnd_41 : decode cX12_readEnd 41 = .ok (.iconst 1, 1) := by decide +kernel
theorem dX12_readEnd_42 : decode cX12_readEnd 42 = .ok (.goto 4, 3) := by decide +kernel
theorem dX12_readEnd_45 : decode cX12_readEnd 45 = .ok (.iconst 0, 1) := by decide +kernel
theorem dX12_readEnd_46 : decode cX12_readEnd 46 = .ok (.istore 4, 2) := by decide +kernel
theorem dX12_readEnd_48 : decode cX12_readEnd 48 = .ok (.iload 4, 2) := by decide +kernel
theorem dX12_readEnd_50 : decode cX12_readEnd 50 = .ok (.ifCond .ne 9, 3) := by decide +kernel
theorem dX12_readEnd_53 : decode cX12_readEnd 53 = .ok (.aload_n 0, 1) := by decide +kernel
theorem dX12_readEnd_54 : decode cX12_readEnd 54 = .ok (.iconst 2, 1) := by decide +kernel
theorem dX12_readEnd_55 : decode cX12_readEnd 55 = .ok (.iload_n 2, 1) := by decide +kernel
theorem dX12_readEnd_56 : decode cX12_readEnd 56 = .ok (.invokevirtual 541, 3) := by decide +kernel
theorem dX12_readEnd_59 : decode cX12_readEnd 59 = .ok (.aload_n 0, 1) := by decide +kernel
theorem dX12_readEnd_60 : decode cX12_readEnd 60 = .ok (.iload_n 3, 1) := by decide +kernel
theorem dX12_readEnd_61 : decode cX12_readEnd 61 = .ok (.invokevirtual 550, 3) := by decide +kernel
theorem dX12_readEnd_64 : decode cX12_readEnd 64 = .ok (.return_, 1) := by decide +kernel
abbrev rm_X12_readEnd : Room := { frames := 2, cells := 0, slots := 0, locals := 42 }
def b_X12_readEnd_59 (a0 : Nat)  (Q : Sto → Prop) (p3 : Int32) (σ : Sto) : Prop := (sK σ a0 = 12 ∧ (wp_X12_keep a0 p3 σ (fun (σ2 : Sto) => Q σ2)))
set_option maxHeartbeats 4000000 in
set_option maxRecDepth 100000 in
theorem t_X12_readEnd_59 {p : Program} {l : Launch} {e : Env} {s : State} {m : MethodId} {args : Array Value} {below : List Frame} {meth : Method} {c : Code} {D : va_G} {cy : Nat → ClassId} {A : Nat → Prop} {a0 : Nat} {Q : Sto → Prop} (C : Cx p s m args meth c D cy A cX12_readEnd 5 RX12) (hr : meth.sig.returnType = none) (hnm : meth.name = yX12_readEnd.name) (p3 : Int32) (σ : Sto) (h : b_X12_readEnd_59 a0  Q p3 σ) (ls : Array Slot) (hl : lv_has ls 5 [(0, .ref a0), (3, .int p3)]) : Xw p l e rm_X12_readEnd s m args below meth c D cy A σ 0 0 (MQ below (Qst D cy A (PsV Q)) args s rm_X12_readEnd.cells rm_X12_readEnd.slots A) (F0 m 59 ls []) := by
  unfold b_X12_readEnd_59 at h
  refine x_aload_n C dX12_readEnd_59 rfl (lv_at hl 0 rfl) ?_
  refine x_iload_n C dX12_readEnd_60 rfl (lv_at hl 1 rfl) ?_
  obtain ⟨g1, h⟩ := h
  refine x_callV (rm := rm_X12_keep) (rest := []) (As := [.int p3]) C cy_RX12_550 g1 (by decide) (by decide) rfl rfl (Nat.le_of_ble_eq_true rfl) hl.1 dX12_readEnd_61 (c_X12_keep l D cy a0 p3 σ _ h) (ks_v (fun σ2 h => ?_))
  exact x_vret C hr dX12_readEnd_64 ⟨rfl, h⟩
def b_X12_readEnd_46 (a0 : Nat)  (Q : Sto → Prop) (p2 : Int32) (p3 : Int32) (s0 : Int32) (σ : Sto) : Prop := ((¬ s0 = 0 → b_X12_readEnd_59 a0  Q p3 σ) ∧ (s0 = 0 → (sK σ a0 = 12 ∧ (wp_X12_wrongs a0 (2 : Int32) p2 σ (fun (σ3 : Sto) => b_X12_readEnd_59 a0  Q p3 σ3)))))
set_option maxHeartbeats 4000000 in
set_option maxRecDepth 100000 in
theorem t_X12_readEnd_46 {p : Program} {l : Launch} {e : Env} {s : State} {m : MethodId} {args : Array Value} {below : List Frame} {meth : Method} {c : Code} {D : va_G} {cy : Nat → ClassId} {A : Nat → Prop} {a0 : Nat} {Q : Sto → Prop} (C : Cx p s m args meth c D cy A cX12_readEnd 5 RX12) (hr : meth.sig.returnType = none) (hnm : meth.name = yX12_readEnd.name) (p2 : Int32) (p3 : Int32) (s0 : Int32) (σ : Sto) (h : b_X12_readEnd_46 a0  Q p2 p3 s0 σ) (ls : Array Slot) (hl : lv_has ls 5 [(0, .ref a0), (2, .int p2), (3, .int p3)]) : Xw p l e rm_X12_readEnd s m args below meth c D cy A σ 0 0 (MQ below (Qst D cy A (PsV Q)) args s rm_X12_readEnd.cells rm_X12_readEnd.slots A) (F0 m 46 ls [.int s0]) := by
  unfold b_X12_readEnd_46 at h
  refine x_istore (i := 4) (lv' := [(4, .int s0), (0, .ref a0), (2, .int p2), (3, .int p3)]) C dX12_readEnd_46 hl (by decide) (by first | rfl | simp [vrc, cat_i, cat_r, cat_l]) (fun ls hl => ?_)
  refine x_iload C dX12_readEnd_48 (lv_at hl 0 rfl) ?_
  refine x_if_ne (tgt := 59) C dX12_readEnd_50 (by decide) (fun c1 => ?_) (fun c1 => ?_)
  · have h := h.1 c1
    exact t_X12_readEnd_59 C hr hnm  p3 _ h ls (lv_sub hl [1, 3] rfl)
  · have h := h.2 c1
    refine x_aload_n C dX12_readEnd_53 rfl (lv_at hl 1 rfl) ?_
    refine x_iconst (v := 2) C dX12_readEnd_54 (by decide) ?_
    refine x_iload_n C dX12_readEnd_55 rfl (lv_at hl 2 rfl) ?_
    obtain ⟨g2, h⟩ := h
    refine x_callV (rm := rm_X12_wrongs) (rest := []) (As := [.int (2 : Int32), .int p2]) C cy_RX12_541 g2 (by decide) (by decide) rfl rfl (Nat.le_of_ble_eq_true rfl) hl.1 dX12_readEnd_56 (c_X12_wrongs l D cy a0 (2 : Int32) p2 σ _ h) (ks_v (fun σ3 h => ?_))
    exact t_X12_readEnd_59 C hr hnm  p3 _ h ls (lv_sub hl [1, 3] rfl)
def b_X12_readEnd_45 (a0 : Nat)  (Q : Sto → Prop) (p2 : Int32) (p3 : Int32) (σ : Sto) : Prop := b_X12_readEnd_46 a0  Q p2 p3 (0 : Int32) σ
set_option maxHeartbeats 4000000 in
set_option maxRecDepth 100000 in
theorem t_X12_readEnd_45 {p : Program} {l : Launch} {e : Env} {s : State} {m : MethodId} {args : Array Value} {below : List Frame} {meth : Method} {c : Code} {D : va_G} {cy : Nat → ClassId} {A : Nat → Prop} {a0 : Nat} {Q : Sto → Prop} (C : Cx p s m args meth c D cy A cX12_readEnd 5 RX12) (hr : meth.sig.returnType = none) (hnm : meth.name = yX12_readEnd.name) (p2 : Int32) (p3 : Int32) (σ : Sto) (h : b_X12_readEnd_45 a0  Q p2 p3 σ) (ls : Array Slot) (hl : lv_has ls 5 [(0, .ref a0), (2, .int p2), (3, .int p3)]) : Xw p l e rm_X12_readEnd s m args below meth c D cy A σ 0 0 (MQ below (Qst D cy A (PsV Q)) args s rm_X12_readEnd.cells rm_X12_readEnd.slots A) (F0 m 45 ls []) := by
  unfold b_X12_readEnd_45 at h
  refine x_iconst (v := 0) C dX12_readEnd_45 (by decide) ?_
  exact t_X12_readEnd_46 C hr hnm  p2 p3 (0 : Int32) _ h ls (lv_sub hl [0, 1, 2] rfl)
def b_X12_readEnd_41 (a0 : Nat)  (Q : Sto → Prop) (p2 : Int32) (p3 : Int32) (σ : Sto) : Prop := b_X12_readEnd_46 a0  Q p2 p3 (1 : Int32) σ
set_option maxHeartbeats 4000000 in
set_option maxRecDepth 100000 in
theorem t_X12_readEnd_41 {p : Program} {l : Launch} {e : Env} {s : State} {m : MethodId} {args : Array Value} {below : List Frame} {meth : Method} {c : Code} {D : va_G} {cy : Nat → ClassId} {A : Nat → Prop} {a0 : Nat} {Q : Sto → Prop} (C : Cx p s m args meth c D cy A cX12_readEnd 5 RX12) (hr : meth.sig.returnType = none) (hnm : meth.name = yX12_readEnd.name) (p2 : Int32) (p3 : Int32) (σ : Sto) (h : b_X12_readEnd_41 a0  Q p2 p3 σ) (ls : Array Slot) (hl : lv_has ls 5 [(0, .ref a0), (2, .int p2), (3, .int p3)]) : Xw p l e rm_X12_readEnd s m args below meth c D cy A σ 0 0 (MQ below (Qst D cy A (PsV Q)) args s rm_X12_readEnd.cells rm_X12_readEnd.slots A) (F0 m 41 ls []) := by
  unfold b_X12_readEnd_41 at h
  refine x_iconst (v := 1) C dX12_readEnd_41 (by decide) ?_
  refine x_goto (tgt := 46) C dX12_readEnd_42 (by decide) ?_
  exact t_X12_readEnd_46 C hr hnm  p2 p3 (1 : Int32) _ h ls (lv_sub hl [0, 1, 2] rfl)
def wp_X12_readEnd (a0 : Nat) (p1 : Int32) (σ : Sto) (Q : Sto → Prop) : Prop := (sK σ a0 = 12 ∧ (∀ x2 : Int32, x2 = sI σ a0 94 → (wp_X12_next a0  σ (fun (x5 : Int32) (σ4 : Sto) => ((x5 ≤ (6 : Int32) → b_X12_readEnd_41 a0  Q x2 x5 σ4) ∧ (¬ x5 ≤ (6 : Int32) → ((p1 = 0 → (wp_X12_in x5 (16 : Int32) (19 : Int32) σ4 (fun (x9 : Int32) (σ8 : Sto) => ((x9 = 0 → b_X12_readEnd_45 a0  Q x2 x5 σ8) ∧ (¬ x9 = 0 → b_X12_readEnd_41 a0  Q x2 x5 σ8))))) ∧ (¬ p1 = 0 → ((¬ x5 = (255 : Int32) → b_X12_readEnd_45 a0  Q x2 x5 σ4) ∧ (x5 = (255 : Int32) → b_X12_readEnd_41 a0  Q x2 x5 σ4))))))))))
set_option maxHeartbeats 4000000 in
set_option maxRecDepth 100000 in
theorem c_X12_readEnd (l : Launch) (D : va_G) (cy : Nat → ClassId) (a0 : Nat) (p1 : Int32) (σ : Sto) (Q : Sto → Prop) (h : wp_X12_readEnd a0 p1 σ Q) : Mt l D cy yX12_readEnd cX12_readEnd 5 none rm_X12_readEnd [.ref a0, .int p1] σ (PsV Q) := by
  unfold wp_X12_readEnd at h
  refine mt_of (by decide +kernel) (Nat.le_of_ble_eq_true rfl) ?_
  intro p e s m args below meth c A ls C hr hnm hl
  have C : Cx p s m args meth c D cy A cX12_readEnd 5 RX12 := C
  have hl : lv_has ls 5 [(0, .ref a0), (1, .int p1)] := hl
  refine x_aload_n C dX12_readEnd_0 rfl (lv_at hl 0 rfl) ?_
  obtain ⟨g1, h⟩ := h
  refine x_getI C fl_RX12_538 g1 dX12_readEnd_1 ?_
  refine x_topi (fun x2 e3 => ?_)
  have h := h x2 e3
  refine x_istore_n (i := 2) (lv' := [(2, .int x2), (0, .ref a0), (1, .int p1)]) C dX12_readEnd_4 rfl hl (by decide) (by first | rfl | simp [vrc, cat_i, cat_r, cat_l]) (fun ls hl => ?_)
  refine x_aload_n C dX12_readEnd_5 rfl (lv_at hl 1 rfl) ?_
  refine x_callV (rm := rm_X12_next) (rest := []) (As := []) C cy_RX12_547 g1 (by decide) (by decide) rfl rfl (Nat.le_of_ble_eq_true rfl) hl.1 dX12_readEnd_6 (c_X12_next l D cy a0  σ _ h) (ks_i (fun x5 σ4 h => ?_))
  refine x_istore_n (i := 3) (lv' := [(3, .int x5), (2, .int x2), (0, .ref a0), (1, .int p1)]) C dX12_readEnd_9 rfl hl (by decide) (by first | rfl | simp [vrc, cat_i, cat_r, cat_l]) (fun ls hl => ?_)
  refine x_iload_n C dX12_readEnd_10 rfl (lv_at hl 0 rfl) ?_
  refine x_bipush (v := 6) C dX12_readEnd_11 (by decide) ?_
  refine x_icmp_le (tgt := 41) C dX12_readEnd_13 (by decide) (fun c6 => ?_) (fun c6 => ?_)
  · have h := h.1 c6
    exact t_X12_readEnd_41 C hr hnm  x2 x5 _ h ls (lv_sub hl [2, 1, 0] rfl)
  · have h := h.2 c6
    refine x_iload_n C dX12_readEnd_16 rfl (lv_at hl 3 rfl) ?_
    refine x_if_eq (tgt := 30) C dX12_readEnd_17 (by decide) (fun c7 => ?_) (fun c7 => ?_)
    · have h := h.1 c7
      refine x_iload_n C dX12_readEnd_30 rfl (lv_at hl 0 rfl) ?_
      refine x_bipush (v := 16) C dX12_readEnd_31 (by decide) ?_
      refine x_bipush (v := 19) C dX12_readEnd_33 (by decide) ?_
      refine x_callS (rm := rm_X12_in) (rest := []) (As := [.int x5, .int (16 : Int32), .int (19 : Int32)]) C cs_RX12_270 (by decide) (by decide) rfl rfl (Nat.le_of_ble_eq_true rfl) hl.1 dX12_readEnd_35 (c_X12_in l D cy x5 (16 : Int32) (19 : Int32) σ4 _ h) (ks_i (fun x9 σ8 h => ?_))
      refine x_if_eq (tgt := 45) C dX12_readEnd_38 (by decide) (fun c10 => ?_) (fun c10 => ?_)
      · have h := h.1 c10
        exact t_X12_readEnd_45 C hr hnm  x2 x5 _ h ls (lv_sub hl [2, 1, 0] rfl)
      · have h := h.2 c10
        exact t_X12_readEnd_41 C hr hnm  x2 x5 _ h ls (lv_sub hl [2, 1, 0] rfl)
    · have h := h.2 c7
      refine x_iload_n C dX12_readEnd_20 rfl (lv_at hl 0 rfl) ?_
      refine x_sipush (v := 255) C dX12_readEnd_21 (by decide) ?_
      refine x_icmp_ne (tgt := 45) C dX12_readEnd_24 (by decide) (fun c11 => ?_) (fun c11 => ?_)
      · have h := h.1 c11
        exact t_X12_readEnd_45 C hr hnm  x2 x5 _ h ls (lv_sub hl [2, 1, 0] rfl)
      · have h := h.2 c11
        refine x_goto (tgt := 41) C dX12_readEnd_27 (by decide) ?_
        exact t_X12_readEnd_41 C hr hnm  x2 x5 _ h ls (lv_sub hl [2, 1, 0] rfl)
theorem dX12_untake_0 : decode cX12_untake 0 = .ok (.aload_n 0, 1) := by decide +kernel
theorem dX12_untake_1 : decode cX12_untake 1 = .ok (.iconst 0, 1) := by decide +kernel
theorem dX12_untake_2 : decode cX12_untake 2 = .ok (.putfield 538, 3) := by decide +kernel
theorem dX12_untake_5 : decode cX12_untake 5 = .ok (.aload_n 0, 1) := by decide +kernel
theorem dX12_untake_6 : decode cX12_untake 6 = .ok (.iconst 0, 1) := by decide +kernel
theorem dX12_untake_7 : decode cX12_untake 7 = .ok (.putfield 544, 3) := by decide +kernel
theorem dX12_untake_10 : decode cX12_untake 10 = .ok (.aload_n 0, 1) := by decide +kernel
theorem dX12_untake_11 : decode cX12_untake 11 = .ok (.iconst 0, 1) := by decide +kernel
theorem dX12_untake_12 : decode cX12_untake 12 = .ok (.putfield 535, 3) := by decide +kernel
theorem dX12_untake_15 : decode cX12_untake 15 = .ok (.aload_n 0, 1) := by decide +kernel
theorem dX12_untake_16 : decode cX12_untake 16 = .ok (.iconst (-1), 1) := by decide +kernel
theorem dX12_untake_17 : decode cX12_untake 17 = .ok (.putfield 251, 3) := by decide +kernel
theorem dX12_untake_20 : decode cX12_untake 20 = .ok (.aload_n 0, 1) := by decide +kernel
theorem dX12_untake_21 : decode cX12_untake 21 = .ok (.bipush 12, 2) := by decide +kernel
theorem dX12_untake_23 : decode cX12_untake 23 = .ok (.invokevirtual 555, 3) := by decide +kernel
theorem dX12_untake_26 : decode cX12_untake 26 = .ok (.istore_n 1, 1) := by decide +kernel
theorem dX12_untake_27 : decode cX12_untake 27 = .ok (.aload_n 0, 1) := by decide +kernel
theorem dX12_untake_28 : decode cX12_untake 28 = .ok (.iconst 1, 1) := by decide +kernel
theorem dX12_untake_29 : decode cX12_untake 29 = .ok (.invokevirtual 567, 3) := by decide +kernel
theorem dX12_untake_32 : decode cX12_untake 32 = .ok (.aload_n 0, 1) := by decide +kernel
theorem dX12_untake_33 : decode cX12_untake 33 = .ok (.iconst 0, 1) := by decide +kernel
theorem dX12_untake_34 : decode cX12_untake 34 = .ok (.invokevirtual 567, 3) := by decide +kernel
theorem dX12_untake_37 : decode cX12_untake 37 = .ok (.iconst 0, 1) := by decide +kernel
theorem dX12_untake_38 : decode cX12_untake 38 = .ok (.istore_n 2, 1) := by decide +kernel
theorem dX12_untake_39 : decode cX12_untake 39 = .ok (.iload_n 2, 1) := by decide +kernel
theorem dX12_untake_40 : decode cX12_untake 40 = .ok (.iload_n 1, 1) := by decide +kernel
theorem dX12_untake_41 : decode cX12_untake 41 = .ok (.invokestatic 508, 3) := by decide +kernel
theorem dX12_untake_44 : decode cX12_untake 44 = .ok (.if_icmp .ge 21, 3) := by decide +kernel
theorem dX12_untake_47 : decode cX12_untake 47 = .ok (.aload_n 0, 1) := by decide +kernel
theorem dX12_untake_48 : decode cX12_untake 48 = .ok (.getfield 535, 3) := by decide +kernel
theorem dX12_untake_51 : decode cX12_untake 51 = .ok (.ifCond .ne 14, 3) := by decide +kernel
theorem dX12_untake_54 : decode cX12_untake 54 = .ok (.aload_n 0, 1) := by decide +kernel
theorem dX12_untake_55 : decode cX12_untake 55 = .ok (.invokevirtual 558, 3) := by decide +kernel
theorem dX12_untake_58 : decode cX12_untake 58 = .ok (.istore_n 3, 1) := by decide +kernel
theorem dX12_untake_59 : decode cX12_untake 59 = .ok (.iinc 2 1, 3) := by decide +kernel
theorem dX12_untake_62 : decode cX12_untake 62 = .ok (.goto (-23), 3) := by decide +kernel
theorem dX12_untake_65 : decode cX12_untake 65 = .ok (.aload_n 0, 1) := by decide +kernel
theorem dX12_untake_66 : decode cX12_untake 66 = .ok (.getfield 535, 3) := by decide +kernel
theorem dX12_untake_69 : decode cX12_untake 69 = .ok (.ifCond .ne 14, 3) := by decide +kernel
theorem dX12_untake_72 : decode cX12_untake 72 = .ok (.iload_n 1, 1) := by decide +kernel
theorem dX12_untake_73 : decode cX12_untake 73 = .ok (.invokestatic 511, 3) := by decide +kernel
theorem dX12_untake_76 : decode cX12_untake 76 = .ok (.ifCond .eq 7, 3) := by decide +kernel
theorem dX12_untake_79 : decode cX12_untake 79 = .ok (.aload_n 0, 1) := by decide +kernel
theorem dX12_untake_80 : decode cX12_untake 80 = .ok (.invokevirtual 564, 3) := by decide +kernel
theorem dX12_untake_83 : decode cX12_untake 83 = .ok (.aload_n 0, 1) := by decide +kernel
theorem dX12_untake_84 : decode cX12_untake 84 = .ok (.getfield 535, 3) := by decide +kernel
theorem dX12_untake_87 : decode cX12_untake 87 = .ok (.ifCond .ne 14, 3) := by decide +kernel
theorem dX12_untake_90 : decode cX12_untake 90 = .ok (.iload_n 1, 1) := by decide +kernel
theorem dX12_untake_91 : decode cX12_untake 91 = .ok (.invokestatic 514, 3) := by decide +kernel
theorem dX12_untake_94 : decode cX12_untake 94 = .ok (.ifCond .eq 7, 3) := by decide +kernel
theorem dX12_untake_97 : decode cX12_untake 97 = .ok (.aload_n 0, 1) := by decide +kernel
theorem dX12_untake_98 : decode cX12_untake 98 = .ok (.invokevirtual 571, 3) := by decide +kernel
theorem dX12_untake_101 : decode cX12_untake 101 = .ok (.aload_n 0, 1) := by decide +kernel
theorem dX12_untake_102 : decode cX12_untake 102 = .ok (.getfield 535, 3) := by decide +kernel
theorem dX12_untake_105 : decode cX12_untake 105 = .ok (.ifCond .ne 26, 3) := by decide +kernel
theorem dX12_untake_108 : decode cX12_untake 108 = .ok (.iload_n 1, 1) := by decide +kernel
theorem dX12_untake_109 : decode cX12_untake 109 = .ok (.bipush 11, 2) := by decide +kernel
theorem dX12_untake_111 : decode cX12_untake 111 = .ok (.if_icmp .ne 20, 3) := by decide +kernel
theorem dX12_untake_114 : decode cX12_untake 114 = .ok (.aload_n 0, 1) := by decide +kernel
theorem dX12_untake_115 : decode cX12_untake 115 = .ok (.iconst 1, 1) := by decide +kernel
theorem dX12_untake_116 : decode cX12_untake 116 = .ok (.invokevirtual 555, 3) := by decide +kernel
theorem dX12_untake_119 : decode cX12_untake 119 = .ok (.iconst 1, 1) := by decide +kernel
theorem dX12_untake_120 : decode cX12_untake 120 = .ok (.if_icmp .ne 11, 3) := by decide +kernel
theorem dX12_untake_123 : decode cX12_untake 123 = .ok (.aload_n 0, 1) := by decide +kernel
theorem dX12_untake_124 : decode cX12_untake 124 = .ok (.aload_n 0, 1) := by decide +kernel
theorem dX12_untake_125 : decode cX12_untake 125 = .ok (.invokevirtual 561, 3) := by decide +kernel
theorem dX12_untake_128 : decode cX12_untake 128 = .ok (.invokevirtual 550, 3) := by decide +kernel
theorem dX12_untake_131 : decode cX12_untake 131 = .ok (.aload_n 0, 1) := by decide +kernel
theorem dX12_untake_132 : decode cX12_untake 132 = .ok (.getfield 538, 3) := by decide +kernel
theorem dX12_untake_135 : decode cX12_untake 135 = .ok (.istore_n 2, 1) := by decide +kernel
theorem dX12_untake_136 : decode cX12_untake 136 = .ok (.aload_n 0, 1) := by decide +kernel
theorem dX12_untake_137 : decode cX12_untake 137 = .ok (.invokevirtual 561, 3) := by decide +kernel
theorem dX12_untake_140 : decode cX12_untake 140 = .ok (.istore_n 3, 1) := by decide +kernel
theorem dX12_untake_141 : decode cX12_untake 141 = .ok (.aload_n 0, 1) := by decide +kernel
theorem dX12_untake_142 : decode cX12_untake 142 = .ok (.getfield 535, 3) := by decide +kernel
theorem dX12_untake_145 : decode cX12_untake 145 = .ok (.ifCond .ne 22, 3) := by decide +kernel
theorem dX12_untake_148 : decode cX12_untake 148 = .ok (.iload_n 3, 1) := by decide +kernel
theorem dX12_untake_149 : decode cX12_untake 149 = .ok (.aload_n 0, 1) := by decide +kernel
theorem dX12_untake_150 : decode cX12_untake 150 = .ok (.getfield 245, 3) := by decide +kernel
theorem dX12_untake_153 : decode cX12_untake 153 = .ok (.iconst 0, 1) := by decide +kernel
theorem dX12_untake_154 : decode cX12_untake 154 = .ok (.iload_n 2, 1) := by decide +kernel
theorem dX12_untake_155 : decode cX12_untake 155 = .ok (.invokestatic 520, 3) := by decide +kernel
theorem dX12_untake_158 : decode cX12_untake 158 = .ok (.if_icmp .eq 9, 3) := by decide +kernel
theorem dX12_untake_161 : decode cX12_untake 161 = .ok (.aload_n 0, 1) := by decide +kernel
theorem dX12_untake_162 : decode cX12_untake 162 = .ok (.iconst 5, 1) := by decide +kernel
theorem dX12_untake_163 : decode cX12_untake 163 = .ok (.iload_n 2, 1) := by decide +kernel
theorem dX12_untake_164 : decode cX12_untake 164 = .ok (.invokevirtual 541, 3) := by decide +kernel
theorem dX12_untake_167 : decode cX12_untake 167 = .ok (.aload_n 0, 1) := by decide +kernel
theorem dX12_untake_168 : decode cX12_untake 168 = .ok (.getfield 535, 3) := by decide +kernel
theorem dX12_untake_171 : decode cX12_untake 171 = .ok (.ifCond .ne 24, 3) := by decide +kernel
theorem dX12_untake_174 : decode cX12_untake 174 = .ok (.aload_n 0, 1) := by decide +kernel
theorem dX12_untake_175 : decode cX12_untake 175 = .ok (.getfield 538, 3) := by decide +kernel
theorem dX12_untake_178 : decode cX12_untake 178 = .ok (.aload_n 0, 1) := by decide +kernel
theorem dX12_untake_179 : decode cX12_untake 179 = .ok (.getfield 530, 3) := by decide +kernel
theorem dX12_untake_182 : decode cX12_untake 182 = .ok (.if_icmp .ge 13, 3) := by decide +kernel
theorem dX12_untake_185 : decode cX12_untake 185 = .ok (.aload_n 0, 1) := by decide +kernel
theorem dX12_untake_186 : decode cX12_untake 186 = .ok (.bipush 6, 2) := by decide +kernel
theorem dX12_untake_188 : decode cX12_untake 188 = .ok (.aload_n 0, 1) := by decide +kernel
theorem dX12_untake_189 : decode cX12_untake 189 = .ok (.getfield 538, 3) := by decide +kernel
theorem dX12_untake_192 : decode cX12_untake 192 = .ok (.invokevirtual 541, 3) := by decide +kernel
theorem dX12_untake_195 : decode cX12_untake 195 = .ok (.aload_n 0, 1) := by decide +kernel
theorem dX12_untake_196 : decode cX12_untake 196 = .ok (.iconst 0, 1) := by decide +kernel
theorem dX12_untake_197 : decode cX12_untake 197 = .ok (.putfield 530, 3) := by decide +kernel
theorem dX12_untake_200 : decode cX12_untake 200 = .ok (.aload_n 0, 1) := by decide +kernel
theorem dX12_untake_201 : decode cX12_untake 201 = .ok (.aload_n 0, 1) := by decide +kernel
theorem dX12_untake_202 : decode cX12_untake 202 = .ok (.getfield 535, 3) := by decide +kernel
theorem dX12_untake_205 : decode cX12_untake 205 = .ok (.ifCond .le 7, 3) := by decide +kernel
theorem dX12_untake_208 : decode cX12_untake 208 = .ok (.iconst 1, 1) := by decide +kernel
theorem dX12_untake_209 : decode cX12_untake 209 = .ok (.goto 4, 3) := by decide +kernel
theorem dX12_untake_212 : decode cX12_untake 212 = .ok (.iconst 0, 1) := by decide +kernel
theorem dX12_untake_213 : decode cX12_untake 213 = .ok (.putfield 267, 3) := by decide +kernel
theorem dX12_untake_216 : decode cX12_untake 216 = .ok (.aload_n 0, 1) := by decide +kernel
theorem dX12_untake_217 : decode cX12_untake 217 = .ok (.aload_n 0, 1) := by decide +kernel
theorem dX12_untake_218 : decode cX12_untake 218 = .ok (.getfield 535, 3) := by decide +kernel
theorem dX12_untake_221 : decode cX12_untake 221 = .ok (.ifCond .le 7, 3) := by decide +kernel
theorem dX12_untake_224 : decode cX12_untake 224 = .ok (.iconst 0, 1) := by decide +kernel
theorem dX12_untake_225 : decode cX12_untake 225 = .ok (.goto 7, 3) := by decide +kernel
theorem dX12_untake_228 : decode cX12_untake 228 = .ok (.aload_n 0, 1) := by decide +kernel
theorem dX12_untake_229 : decode cX12_untake 229 = .ok (.getfield 544, 3) := by decide +kernel
theorem dX12_untake_232 : decode cX12_untake 232 = .ok (.putfield 544, 3) := by decide +kernel
theorem dX12_untake_235 : decode cX12_untake 235 = .ok (.aload_n 0, 1) := by decide +kernel
theorem dX12_untake_236 : decode cX12_untake 236 = .ok (.getfield 535, 3) := by decide +kernel
theorem dX12_untake_239 : decode cX12_untake 239 = .ok (.ifCond .le 7, 3) := by decide +kernel
theorem dX12_untake_242 : decode cX12_untake 242 = .ok (.iconst 0, 1) := by decide +kernel
theorem dX12_untake_243 : decode cX12_untake 243 = .ok (.goto 4, 3) := by decide +kernel
theorem dX12_untake_246 : decode cX12_untake 246 = .ok (.iload_n 1, 1) := by decide +kernel
theorem dX12_untake_247 : decode cX12_untake 247 = .ok (.ireturn, 1) := by decide +kernel
abbrev rm_X12_untake : Room := { frames := 5, cells := 0, slots := 0, locals := 116 }
def b_X12_untake_232 (a0 : Nat)  (Q : Int32 → Sto → Prop) (p1 : Int32) (s0 : Int32) (s1 : Nat) (σ : Sto) : Prop := (sK σ s1 = 12 ∧ (sK σ a0 = 12 ∧ (∀ x3 : Int32, x3 = sI (stI σ s1 93 s0) a0 95 → ((x3 ≤ 0 → Q p1 (stI σ s1 93 s0)) ∧ (¬ x3 ≤ 0 → Q (0 : Int32) (stI σ s1 93 s0))))))
set_option maxHeartbeats 4000000 in
set_option maxRecDepth 100000 in
theorem t_X12_untake_232 {p : Program} {l : Launch} {e : Env} {s : State} {m : MethodId} {args : Array Value} {below : List Frame} {meth : Method} {c : Code} {D : va_G} {cy : Nat → ClassId} {A : Nat → Prop} {a0 : Nat} {Q : Int32 → Sto → Prop} (C : Cx p s m args meth c D cy A cX12_untake 4 RX12) (hr : meth.sig.returnType = (some .int)) (hnm : meth.name = yX12_untake.name) (p1 : Int32) (s0 : Int32) (s1 : Nat) (σ : Sto) (h : b_X12_untake_232 a0  Q p1 s0 s1 σ) (ls : Array Slot) (hl : lv_has ls 4 [(0, .ref a0), (1, .int p1)]) : Xw p l e rm_X12_untake s m args below meth c D cy A σ 0 0 (MQ below (Qst D cy A (PsI Q)) args s rm_X12_untake.cells rm_X12_untake.slots A) (F0 m 232 ls [.int s0, .ref s1]) := by
  unfold b_X12_untake_232 at h
  obtain ⟨g1, h⟩ := h
  refine x_putI C fl_RX12_544 (Or.inl rfl) g1 dX12_untake_232 ?_
  refine x_aload_n C dX12_untake_235 rfl (lv_at hl 0 rfl) ?_
  obtain ⟨g2, h⟩ := h
  refine x_getI C fl_RX12_535 g2 dX12_untake_236 ?_
  refine x_topi (fun x3 e4 => ?_)
  have h := h x3 e4
  refine x_if_le (tgt := 246) C dX12_untake_239 (by decide) (fun c5 => ?_) (fun c5 => ?_)
  · have h := h.1 c5
    refine x_iload_n C dX12_untake_246 rfl (lv_at hl 1 rfl) ?_
    exact x_iret C hr dX12_untake_247 ⟨_, rfl, h⟩
  · have h := h.2 c5
    refine x_iconst (v := 0) C dX12_untake_242 (by decide) ?_
    refine x_goto (tgt := 247) C dX12_untake_243 (by decide) ?_
    exact x_iret C hr dX12_untake_247 ⟨_, rfl, h⟩
def b_X12_untake_213 (a0 : Nat)  (Q : Int32 → Sto → Prop) (p1 : Int32) (s0 : Int32) (s1 : Nat) (σ : Sto) : Prop := (sK σ s1 = 12 ∧ (sK σ a0 = 12 ∧ (∀ x3 : Int32, x3 = sI (stI σ s1 0 s0) a0 95 → ((x3 ≤ 0 → (∀ x6 : Int32, x6 = sI (stI σ s1 0 s0) a0 93 → b_X12_untake_232 a0  Q p1 x6 a0 (stI σ s1 0 s0))) ∧ (¬ x3 ≤ 0 → b_X12_untake_232 a0  Q p1 (0 : Int32) a0 (stI σ s1 0 s0))))))
set_option maxHeartbeats 4000000 in
set_option maxRecDepth 100000 in
theorem t_X12_untake_213 {p : Program} {l : Launch} {e : Env} {s : State} {m : MethodId} {args : Array Value} {below : List Frame} {meth : Method} {c : Code} {D : va_G} {cy : Nat → ClassId} {A : Nat → Prop} {a0 : Nat} {Q : Int32 → Sto → Prop} (C : Cx p s m args meth c D cy A cX12_untake 4 RX12) (hr : meth.sig.returnType = (some .int)) (hnm : meth.name = yX12_untake.name) (p1 : Int32) (s0 : Int32) (s1 : Nat) (σ : Sto) (h : b_X12_untake_213 a0  Q p1 s0 s1 σ) (ls : Array Slot) (hl : lv_has ls 4 [(0, .ref a0), (1, .int p1)]) : Xw p l e rm_X12_untake s m args below meth c D cy A σ 0 0 (MQ below (Qst D cy A (PsI Q)) args s rm_X12_untake.cells rm_X12_untake.slots A) (F0 m 213 ls [.int s0, .ref s1]) := by
  unfold b_X12_untake_213 at h
  obtain ⟨g1, h⟩ := h
  refine x_putI C fl_RX12_267 (Or.inl rfl) g1 dX12_untake_213 ?_
  refine x_aload_n C dX12_untake_216 rfl (lv_at hl 0 rfl) ?_
  refine x_aload_n C dX12_untake_217 rfl (lv_at hl 0 rfl) ?_
  obtain ⟨g2, h⟩ := h
  refine x_getI C fl_RX12_535 g2 dX12_untake_218 ?_
  refine x_topi (fun x3 e4 => ?_)
  have h := h x3 e4
  refine x_if_le (tgt := 228) C dX12_untake_221 (by decide) (fun c5 => ?_) (fun c5 => ?_)
  · have h := h.1 c5
    refine x_aload_n C dX12_untake_228 rfl (lv_at hl 0 rfl) ?_
    refine x_getI C fl_RX12_544 g2 dX12_untake_229 ?_
    refine x_topi (fun x6 e7 => ?_)
    have h := h x6 e7
    exact t_X12_untake_232 C hr hnm  p1 x6 a0 _ h ls (lv_sub hl [0, 1] rfl)
  · have h := h.2 c5
    refine x_iconst (v := 0) C dX12_untake_224 (by decide) ?_
    refine x_goto (tgt := 232) C dX12_untake_225 (by decide) ?_
    exact t_X12_untake_232 C hr hnm  p1 (0 : Int32) a0 _ h ls (lv_sub hl [0, 1] rfl)
def b_X12_untake_195 (a0 : Nat)  (Q : Int32 → Sto → Prop) (p1 : Int32) (σ : Sto) : Prop := (sK σ a0 = 12 ∧ (∀ x2 : Int32, x2 = sI (stI σ a0 91 (0 : Int32)) a0 95 → ((x2 ≤ 0 → b_X12_untake_213 a0  Q p1 (0 : Int32) a0 (stI σ a0 91 (0 : Int32))) ∧ (¬ x2 ≤ 0 → b_X12_untake_213 a0  Q p1 (1 : Int32) a0 (stI σ a0 91 (0 : Int32))))))
set_option maxHeartbeats 4000000 in
set_option maxRecDepth 100000 in
theorem t_X12_untake_195 {p : Program} {l : Launch} {e : Env} {s : State} {m : MethodId} {args : Array Value} {below : List Frame} {meth : Method} {c : Code} {D : va_G} {cy : Nat → ClassId} {A : Nat → Prop} {a0 : Nat} {Q : Int32 → Sto → Prop} (C : Cx p s m args meth c D cy A cX12_untake 4 RX12) (hr : meth.sig.returnType = (some .int)) (hnm : meth.name = yX12_untake.name) (p1 : Int32) (σ : Sto) (h : b_X12_untake_195 a0  Q p1 σ) (ls : Array Slot) (hl : lv_has ls 4 [(0, .ref a0), (1, .int p1)]) : Xw p l e rm_X12_untake s m args below meth c D cy A σ 0 0 (MQ below (Qst D cy A (PsI Q)) args s rm_X12_untake.cells rm_X12_untake.slots A) (F0 m 195 ls []) := by
  unfold b_X12_untake_195 at h
  refine x_aload_n C dX12_untake_195 rfl (lv_at hl 0 rfl) ?_
  refine x_iconst (v := 0) C dX12_untake_196 (by decide) ?_
  obtain ⟨g1, h⟩ := h
  refine x_putI C fl_RX12_530 (Or.inl rfl) g1 dX12_untake_197 ?_
  refine x_aload_n C dX12_untake_200 rfl (lv_at hl 0 rfl) ?_
  refine x_aload_n C dX12_untake_201 rfl (lv_at hl 0 rfl) ?_
  refine x_getI C fl_RX12_535 g1 dX12_untake_202 ?_
  refine x_topi (fun x2 e3 => ?_)
  have h := h x2 e3
  refine x_if_le (tgt := 212) C dX12_untake_205 (by decide) (fun c4 => ?_) (fun c4 => ?_)
  · have h := h.1 c4
    refine x_iconst (v := 0) C dX12_untake_212 (by decide) ?_
    exact t_X12_untake_213 C hr hnm  p1 (0 : Int32) a0 _ h ls (lv_sub hl [0, 1] rfl)
  · have h := h.2 c4
    refine x_iconst (v := 1) C dX12_untake_208 (by decide) ?_
    refine x_goto (tgt := 213) C dX12_untake_209 (by decide) ?_
    exact t_X12_untake_213 C hr hnm  p1 (1 : Int32) a0 _ h ls (lv_sub hl [0, 1] rfl)
def b_X12_untake_167 (a0 : Nat)  (Q : Int32 → Sto → Prop) (p1 : Int32) (σ : Sto) : Prop := (sK σ a0 = 12 ∧ (∀ x2 : Int32, x2 = sI σ a0 95 → ((¬ x2 = 0 → b_X12_untake_195 a0  Q p1 σ) ∧ (x2 = 0 → (∀ x5 : Int32, x5 = sI σ a0 94 → (∀ x7 : Int32, x7 = sI σ a0 91 → ((x7 ≤ x5 → b_X12_untake_195 a0  Q p1 σ) ∧ (¬ x7 ≤ x5 → (∀ x10 : Int32, x10 = sI σ a0 94 → (wp_X12_wrongs a0 (6 : Int32) x10 σ (fun (σ12 : Sto) => b_X12_untake_195 a0  Q p1 σ12)))))))))))
set_option maxHeartbeats 4000000 in
set_option maxRecDepth 100000 in
theorem t_X12_untake_167 {p : Program} {l : Launch} {e : Env} {s : State} {m : MethodId} {args : Array Value} {below : List Frame} {meth : Method} {c : Code} {D : va_G} {cy : Nat → ClassId} {A : Nat → Prop} {a0 : Nat} {Q : Int32 → Sto → Prop} (C : Cx p s m args meth c D cy A cX12_untake 4 RX12) (hr : meth.sig.returnType = (some .int)) (hnm : meth.name = yX12_untake.name) (p1 : Int32) (σ : Sto) (h : b_X12_untake_167 a0  Q p1 σ) (ls : Array Slot) (hl : lv_has ls 4 [(0, .ref a0), (1, .int p1)]) : Xw p l e rm_X12_untake s m args below meth c D cy A σ 0 0 (MQ below (Qst D cy A (PsI Q)) args s rm_X12_untake.cells rm_X12_untake.slots A) (F0 m 167 ls []) := by
  unfold b_X12_untake_167 at h
  refine x_aload_n C dX12_untake_167 rfl (lv_at hl 0 rfl) ?_
  obtain ⟨g1, h⟩ := h
  refine x_getI C fl_RX12_535 g1 dX12_untake_168 ?_
  refine x_topi (fun x2 e3 => ?_)
  have h := h x2 e3
  refine x_if_ne (tgt := 195) C dX12_untake_171 (by decide) (fun c4 => ?_) (fun c4 => ?_)
  · have h := h.1 c4
    exact t_X12_untake_195 C hr hnm  p1 _ h ls (lv_sub hl [0, 1] rfl)
  · have h := h.2 c4
    refine x_aload_n C dX12_untake_174 rfl (lv_at hl 0 rfl) ?_
    refine x_getI C fl_RX12_538 g1 dX12_untake_175 ?_
    refine x_topi (fun x5 e6 => ?_)
    have h := h x5 e6
    refine x_aload_n C dX12_untake_178 rfl (lv_at hl 0 rfl) ?_
    refine x_getI C fl_RX12_530 g1 dX12_untake_179 ?_
    refine x_topi (fun x7 e8 => ?_)
    have h := h x7 e8
    refine x_icmp_ge (tgt := 195) C dX12_untake_182 (by decide) (fun c9 => ?_) (fun c9 => ?_)
    · have h := h.1 c9
      exact t_X12_untake_195 C hr hnm  p1 _ h ls (lv_sub hl [0, 1] rfl)
    · have h := h.2 c9
      refine x_aload_n C dX12_untake_185 rfl (lv_at hl 0 rfl) ?_
      refine x_bipush (v := 6) C dX12_untake_186 (by decide) ?_
      refine x_aload_n C dX12_untake_188 rfl (lv_at hl 0 rfl) ?_
      refine x_getI C fl_RX12_538 g1 dX12_untake_189 ?_
      refine x_topi (fun x10 e11 => ?_)
      have h := h x10 e11
      refine x_callV (rm := rm_X12_wrongs) (rest := []) (As := [.int (6 : Int32), .int x10]) C cy_RX12_541 g1 (by decide) (by decide) rfl rfl (Nat.le_of_ble_eq_true rfl) hl.1 dX12_untake_192 (c_X12_wrongs l D cy a0 (6 : Int32) x10 σ _ h) (ks_v (fun σ12 h => ?_))
      exact t_X12_untake_195 C hr hnm  p1 _ h ls (lv_sub hl [0, 1] rfl)
def b_X12_untake_131 (a0 : Nat)  (Q : Int32 → Sto → Prop) (p1 : Int32) (σ : Sto) : Prop := (sK σ a0 = 12 ∧ (∀ x2 : Int32, x2 = sI σ a0 94 → (wp_X12_nextWord a0  σ (fun (x5 : Int32) (σ4 : Sto) => (sK σ4 a0 = 12 ∧ (∀ x7 : Int32, x7 = sI σ4 a0 95 → ((¬ x7 = 0 → b_X12_untake_167 a0  Q p1 σ4) ∧ (x7 = 0 → (wp_X12_sumOf (sP σ4 a0 90) (0 : Int32) x2 σ4 (fun (x11 : Int32) (σ10 : Sto) => ((x5 = x11 → b_X12_untake_167 a0  Q p1 σ10) ∧ (¬ x5 = x11 → (sK σ10 a0 = 12 ∧ (wp_X12_wrongs a0 (5 : Int32) x2 σ10 (fun (σ14 : Sto) => b_X12_untake_167 a0  Q p1 σ14)))))))))))))))
set_option maxHeartbeats 4000000 in
set_option maxRecDepth 100000 in
theorem t_X12_untake_131 {p : Program} {l : Launch} {e : Env} {s : State} {m : MethodId} {args : Array Value} {below : List Frame} {meth : Method} {c : Code} {D : va_G} {cy : Nat → ClassId} {A : Nat → Prop} {a0 : Nat} {Q : Int32 → Sto → Prop} (C : Cx p s m args meth c D cy A cX12_untake 4 RX12) (hr : meth.sig.returnType = (some .int)) (hnm : meth.name = yX12_untake.name) (p1 : Int32) (σ : Sto) (h : b_X12_untake_131 a0  Q p1 σ) (ls : Array Slot) (hl : lv_has ls 4 [(0, .ref a0), (1, .int p1)]) : Xw p l e rm_X12_untake s m args below meth c D cy A σ 0 0 (MQ below (Qst D cy A (PsI Q)) args s rm_X12_untake.cells rm_X12_untake.slots A) (F0 m 131 ls []) := by
  unfold b_X12_untake_131 at h
  refine x_aload_n C dX12_untake_131 rfl (lv_at hl 0 rfl) ?_
  obtain ⟨g1, h⟩ := h
  refine x_getI C fl_RX12_538 g1 dX12_untake_132 ?_
  refine x_topi (fun x2 e3 => ?_)
  have h := h x2 e3
  refine x_istore_n (i := 2) (lv' := [(2, .int x2), (0, .ref a0), (1, .int p1)]) C dX12_untake_135 rfl hl (by decide) (by first | rfl | simp [vrc, cat_i, cat_r, cat_l]) (fun ls hl => ?_)
  refine x_aload_n C dX12_untake_136 rfl (lv_at hl 1 rfl) ?_
  refine x_callV (rm := rm_X12_nextWord) (rest := []) (As := []) C cy_RX12_561 g1 (by decide) (by decide) rfl rfl (Nat.le_of_ble_eq_true rfl) hl.1 dX12_untake_137 (c_X12_nextWord l D cy a0  σ _ h) (ks_i (fun x5 σ4 h => ?_))
  refine x_istore_n (i := 3) (lv' := [(3, .int x5), (2, .int x2), (0, .ref a0), (1, .int p1)]) C dX12_untake_140 rfl hl (by decide) (by first | rfl | simp [vrc, cat_i, cat_r, cat_l]) (fun ls hl => ?_)
  refine x_aload_n C dX12_untake_141 rfl (lv_at hl 2 rfl) ?_
  obtain ⟨g6, h⟩ := h
  refine x_getI C fl_RX12_535 g6 dX12_untake_142 ?_
  refine x_topi (fun x7 e8 => ?_)
  have h := h x7 e8
  refine x_if_ne (tgt := 167) C dX12_untake_145 (by decide) (fun c9 => ?_) (fun c9 => ?_)
  · have h := h.1 c9
    exact t_X12_untake_167 C hr hnm  p1 _ h ls (lv_sub hl [2, 3] rfl)
  · have h := h.2 c9
    refine x_iload_n C dX12_untake_148 rfl (lv_at hl 0 rfl) ?_
    refine x_aload_n C dX12_untake_149 rfl (lv_at hl 2 rfl) ?_
    refine x_getP C fl_RX12_245 g6 dX12_untake_150 ?_
    refine x_iconst (v := 0) C dX12_untake_153 (by decide) ?_
    refine x_iload_n C dX12_untake_154 rfl (lv_at hl 1 rfl) ?_
    refine x_callS (rm := rm_X12_sumOf) (rest := [.int x5]) (As := [va_rf (sP σ4 a0 90), .int (0 : Int32), .int x2]) C cs_RX12_520 (by decide) (by decide) rfl rfl (Nat.le_of_ble_eq_true rfl) hl.1 dX12_untake_155 (c_X12_sumOf l D cy (sP σ4 a0 90) (0 : Int32) x2 σ4 _ h) (ks_i (fun x11 σ10 h => ?_))
    refine x_icmp_eq (tgt := 167) C dX12_untake_158 (by decide) (fun c12 => ?_) (fun c12 => ?_)
    · have h := h.1 c12
      exact t_X12_untake_167 C hr hnm  p1 _ h ls (lv_sub hl [2, 3] rfl)
    · have h := h.2 c12
      refine x_aload_n C dX12_untake_161 rfl (lv_at hl 2 rfl) ?_
      refine x_iconst (v := 5) C dX12_untake_162 (by decide) ?_
      refine x_iload_n C dX12_untake_163 rfl (lv_at hl 1 rfl) ?_
      obtain ⟨g13, h⟩ := h
      refine x_callV (rm := rm_X12_wrongs) (rest := []) (As := [.int (5 : Int32), .int x2]) C cy_RX12_541 g13 (by decide) (by decide) rfl rfl (Nat.le_of_ble_eq_true rfl) hl.1 dX12_untake_164 (c_X12_wrongs l D cy a0 (5 : Int32) x2 σ10 _ h) (ks_v (fun σ14 h => ?_))
      exact t_X12_untake_167 C hr hnm  p1 _ h ls (lv_sub hl [2, 3] rfl)
def b_X12_untake_101 (a0 : Nat)  (Q : Int32 → Sto → Prop) (p1 : Int32) (σ : Sto) : Prop := (sK σ a0 = 12 ∧ (∀ x2 : Int32, x2 = sI σ a0 95 → ((¬ x2 = 0 → b_X12_untake_131 a0  Q p1 σ) ∧ (x2 = 0 → ((¬ p1 = (11 : Int32) → b_X12_untake_131 a0  Q p1 σ) ∧ (p1 = (11 : Int32) → (wp_X12_readByte a0 (1 : Int32) σ (fun (x7 : Int32) (σ6 : Sto) => ((¬ x7 = (1 : Int32) → b_X12_untake_131 a0  Q p1 σ6) ∧ (x7 = (1 : Int32) → (sK σ6 a0 = 12 ∧ (wp_X12_nextWord a0  σ6 (fun (x11 : Int32) (σ10 : Sto) => (sK σ10 a0 = 12 ∧ (wp_X12_keep a0 x11 σ10 (fun (σ13 : Sto) => b_X12_untake_131 a0  Q p1 σ13))))))))))))))))
set_option maxHeartbeats 4000000 in
set_option maxRecDepth 100000 in
theorem t_X12_untake_101 {p : Program} {l : Launch} {e : Env} {s : State} {m : MethodId} {args : Array Value} {below : List Frame} {meth : Method} {c : Code} {D : va_G} {cy : Nat → ClassId} {A : Nat → Prop} {a0 : Nat} {Q : Int32 → Sto → Prop} (C : Cx p s m args meth c D cy A cX12_untake 4 RX12) (hr : meth.sig.returnType = (some .int)) (hnm : meth.name = yX12_untake.name) (p1 : Int32) (σ : Sto) (h : b_X12_untake_101 a0  Q p1 σ) (ls : Array Slot) (hl : lv_has ls 4 [(0, .ref a0), (1, .int p1)]) : Xw p l e rm_X12_untake s m args below meth c D cy A σ 0 0 (MQ below (Qst D cy A (PsI Q)) args s rm_X12_untake.cells rm_X12_untake.slots A) (F0 m 101 ls []) := by
  unfold b_X12_untake_101 at h
  refine x_aload_n C dX12_untake_101 rfl (lv_at hl 0 rfl) ?_
  obtain ⟨g1, h⟩ := h
  refine x_getI C fl_RX12_535 g1 dX12_untake_102 ?_
  refine x_topi (fun x2 e3 => ?_)
  have h := h x2 e3
  refine x_if_ne (tgt := 131) C dX12_untake_105 (by decide) (fun c4 => ?_) (fun c4 => ?_)
  · have h := h.1 c4
    exact t_X12_untake_131 C hr hnm  p1 _ h ls (lv_sub hl [0, 1] rfl)
  · have h := h.2 c4
    refine x_iload_n C dX12_untake_108 rfl (lv_at hl 1 rfl) ?_
    refine x_bipush (v := 11) C dX12_untake_109 (by decide) ?_
    refine x_icmp_ne (tgt := 131) C dX12_untake_111 (by decide) (fun c5 => ?_) (fun c5 => ?_)
    · have h := h.1 c5
      exact t_X12_untake_131 C hr hnm  p1 _ h ls (lv_sub hl [0, 1] rfl)
    · have h := h.2 c5
      refine x_aload_n C dX12_untake_114 rfl (lv_at hl 0 rfl) ?_
      refine x_iconst (v := 1) C dX12_untake_115 (by decide) ?_
      refine x_callV (rm := rm_X12_readByte) (rest := []) (As := [.int (1 : Int32)]) C cy_RX12_555 g1 (by decide) (by decide) rfl rfl (Nat.le_of_ble_eq_true rfl) hl.1 dX12_untake_116 (c_X12_readByte l D cy a0 (1 : Int32) σ _ h) (ks_i (fun x7 σ6 h => ?_))
      refine x_iconst (v := 1) C dX12_untake_119 (by decide) ?_
      refine x_icmp_ne (tgt := 131) C dX12_untake_120 (by decide) (fun c8 => ?_) (fun c8 => ?_)
      · have h := h.1 c8
        exact t_X12_untake_131 C hr hnm  p1 _ h ls (lv_sub hl [0, 1] rfl)
      · have h := h.2 c8
        refine x_aload_n C dX12_untake_123 rfl (lv_at hl 0 rfl) ?_
        refine x_aload_n C dX12_untake_124 rfl (lv_at hl 0 rfl) ?_
        obtain ⟨g9, h⟩ := h
        refine x_callV (rm := rm_X12_nextWord) (rest := [.ref a0]) (As := []) C cy_RX12_561 g9 (by decide) (by decide) rfl rfl (Nat.le_of_ble_eq_true rfl) hl.1 dX12_untake_125 (c_X12_nextWord l D cy a0  σ6 _ h) (ks_i (fun x11 σ10 h => ?_))
        obtain ⟨g12, h⟩ := h
        refine x_callV (rm := rm_X12_keep) (rest := []) (As := [.int x11]) C cy_RX12_550 g12 (by decide) (by decide) rfl rfl (Nat.le_of_ble_eq_true rfl) hl.1 dX12_untake_128 (c_X12_keep l D cy a0 x11 σ10 _ h) (ks_v (fun σ13 h => ?_))
        exact t_X12_untake_131 C hr hnm  p1 _ h ls (lv_sub hl [0, 1] rfl)
def b_X12_untake_83 (a0 : Nat)  (Q : Int32 → Sto → Prop) (p1 : Int32) (σ : Sto) : Prop := (sK σ a0 = 12 ∧ (∀ x2 : Int32, x2 = sI σ a0 95 → ((¬ x2 = 0 → b_X12_untake_101 a0  Q p1 σ) ∧ (x2 = 0 → (wp_X12_hasLog p1 σ (fun (x6 : Int32) (σ5 : Sto) => ((x6 = 0 → b_X12_untake_101 a0  Q p1 σ5) ∧ (¬ x6 = 0 → (sK σ5 a0 = 12 ∧ (wp_X12_readLog a0  σ5 (fun (σ9 : Sto) => b_X12_untake_101 a0  Q p1 σ9)))))))))))
set_option maxHeartbeats 4000000 in
set_option maxRecDepth 100000 in
theorem t_X12_untake_83 {p : Program} {l : Launch} {e : Env} {s : State} {m : MethodId} {args : Array Value} {below : List Frame} {meth : Method} {c : Code} {D : va_G} {cy : Nat → ClassId} {A : Nat → Prop} {a0 : Nat} {Q : Int32 → Sto → Prop} (C : Cx p s m args meth c D cy A cX12_untake 4 RX12) (hr : meth.sig.returnType = (some .int)) (hnm : meth.name = yX12_untake.name) (p1 : Int32) (σ : Sto) (h : b_X12_untake_83 a0  Q p1 σ) (ls : Array Slot) (hl : lv_has ls 4 [(0, .ref a0), (1, .int p1)]) : Xw p l e rm_X12_untake s m args below meth c D cy A σ 0 0 (MQ below (Qst D cy A (PsI Q)) args s rm_X12_untake.cells rm_X12_untake.slots A) (F0 m 83 ls []) := by
  unfold b_X12_untake_83 at h
  refine x_aload_n C dX12_untake_83 rfl (lv_at hl 0 rfl) ?_
  obtain ⟨g1, h⟩ := h
  refine x_getI C fl_RX12_535 g1 dX12_untake_84 ?_
  refine x_topi (fun x2 e3 => ?_)
  have h := h x2 e3
  refine x_if_ne (tgt := 101) C dX12_untake_87 (by decide) (fun c4 => ?_) (fun c4 => ?_)
  · have h := h.1 c4
    exact t_X12_untake_101 C hr hnm  p1 _ h ls (lv_sub hl [0, 1] rfl)
  · have h := h.2 c4
    refine x_iload_n C dX12_untake_90 rfl (lv_at hl 1 rfl) ?_
    refine x_callS (rm := rm_X12_hasLog) (rest := []) (As := [.int p1]) C cs_RX12_514 (by decide) (by decide) rfl rfl (Nat.le_of_ble_eq_true rfl) hl.1 dX12_untake_91 (c_X12_hasLog l D cy p1 σ _ h) (ks_i (fun x6 σ5 h => ?_))
    refine x_if_eq (tgt := 101) C dX12_untake_94 (by decide) (fun c7 => ?_) (fun c7 => ?_)
    · have h := h.1 c7
      exact t_X12_untake_101 C hr hnm  p1 _ h ls (lv_sub hl [0, 1] rfl)
    · have h := h.2 c7
      refine x_aload_n C dX12_untake_97 rfl (lv_at hl 0 rfl) ?_
      obtain ⟨g8, h⟩ := h
      refine x_callV (rm := rm_X12_readLog) (rest := []) (As := []) C cy_RX12_571 g8 (by decide) (by decide) rfl rfl (Nat.le_of_ble_eq_true rfl) hl.1 dX12_untake_98 (c_X12_readLog l D cy a0  σ5 _ h) (ks_v (fun σ9 h => ?_))
      exact t_X12_untake_101 C hr hnm  p1 _ h ls (lv_sub hl [0, 1] rfl)
def b_X12_untake_65 (a0 : Nat)  (Q : Int32 → Sto → Prop) (p1 : Int32) (σ : Sto) : Prop := (sK σ a0 = 12 ∧ (∀ x2 : Int32, x2 = sI σ a0 95 → ((¬ x2 = 0 → b_X12_untake_83 a0  Q p1 σ) ∧ (x2 = 0 → (wp_X12_hasRequest p1 σ (fun (x6 : Int32) (σ5 : Sto) => ((x6 = 0 → b_X12_untake_83 a0  Q p1 σ5) ∧ (¬ x6 = 0 → (sK σ5 a0 = 12 ∧ (wp_X12_readRequest a0  σ5 (fun (σ9 : Sto) => b_X12_untake_83 a0  Q p1 σ9)))))))))))
set_option maxHeartbeats 4000000 in
set_option maxRecDepth 100000 in
theorem t_X12_untake_65 {p : Program} {l : Launch} {e : Env} {s : State} {m : MethodId} {args : Array Value} {below : List Frame} {meth : Method} {c : Code} {D : va_G} {cy : Nat → ClassId} {A : Nat → Prop} {a0 : Nat} {Q : Int32 → Sto → Prop} (C : Cx p s m args meth c D cy A cX12_untake 4 RX12) (hr : meth.sig.returnType = (some .int)) (hnm : meth.name = yX12_untake.name) (p1 : Int32) (σ : Sto) (h : b_X12_untake_65 a0  Q p1 σ) (ls : Array Slot) (hl : lv_has ls 4 [(0, .ref a0), (1, .int p1)]) : Xw p l e rm_X12_untake s m args below meth c D cy A σ 0 0 (MQ below (Qst D cy A (PsI Q)) args s rm_X12_untake.cells rm_X12_untake.slots A) (F0 m 65 ls []) := by
  unfold b_X12_untake_65 at h
  refine x_aload_n C dX12_untake_65 rfl (lv_at hl 0 rfl) ?_
  obtain ⟨g1, h⟩ := h
  refine x_getI C fl_RX12_535 g1 dX12_untake_66 ?_
  refine x_topi (fun x2 e3 => ?_)
  have h := h x2 e3
  refine x_if_ne (tgt := 83) C dX12_untake_69 (by decide) (fun c4 => ?_) (fun c4 => ?_)
  · have h := h.1 c4
    exact t_X12_untake_83 C hr hnm  p1 _ h ls (lv_sub hl [0, 1] rfl)
  · have h := h.2 c4
    refine x_iload_n C dX12_untake_72 rfl (lv_at hl 1 rfl) ?_
    refine x_callS (rm := rm_X12_hasRequest) (rest := []) (As := [.int p1]) C cs_RX12_511 (by decide) (by decide) rfl rfl (Nat.le_of_ble_eq_true rfl) hl.1 dX12_untake_73 (c_X12_hasRequest l D cy p1 σ _ h) (ks_i (fun x6 σ5 h => ?_))
    refine x_if_eq (tgt := 83) C dX12_untake_76 (by decide) (fun c7 => ?_) (fun c7 => ?_)
    · have h := h.1 c7
      exact t_X12_untake_83 C hr hnm  p1 _ h ls (lv_sub hl [0, 1] rfl)
    · have h := h.2 c7
      refine x_aload_n C dX12_untake_79 rfl (lv_at hl 0 rfl) ?_
      obtain ⟨g8, h⟩ := h
      refine x_callV (rm := rm_X12_readRequest) (rest := []) (As := []) C cy_RX12_564 g8 (by decide) (by decide) rfl rfl (Nat.le_of_ble_eq_true rfl) hl.1 dX12_untake_80 (c_X12_readRequest l D cy a0  σ5 _ h) (ks_v (fun σ9 h => ?_))
      exact t_X12_untake_83 C hr hnm  p1 _ h ls (lv_sub hl [0, 1] rfl)
def f_X12_untake_39 (a0 : Nat)  (Q : Int32 → Sto → Prop) (L39 : Int32 × Int32 → Sto → Prop) (t : Int32 × Int32) (σ : Sto) : Prop := (wp_X12_numbers t.1 σ (fun (x2 : Int32) (σ1 : Sto) => ((x2 ≤ t.2 → b_X12_untake_65 a0  Q t.1 σ1) ∧ (¬ x2 ≤ t.2 → (sK σ1 a0 = 12 ∧ (∀ x5 : Int32, x5 = sI σ1 a0 95 → ((¬ x5 = 0 → b_X12_untake_65 a0  Q t.1 σ1) ∧ (x5 = 0 → (wp_X12_readNumber a0  σ1 (fun (x9 : Int32) (σ8 : Sto) => (∀ x10 : Int32, x10 = t.2 + (1 : Int32) → L39 (t.1, x10) σ8)))))))))))
set_option maxHeartbeats 4000000 in
set_option maxRecDepth 100000 in
theorem t_X12_untake_39 {p : Program} {l : Launch} {e : Env} {s : State} {m : MethodId} {args : Array Value} {below : List Frame} {meth : Method} {c : Code} {D : va_G} {cy : Nat → ClassId} {A : Nat → Prop} {a0 : Nat} {Q : Int32 → Sto → Prop} {L39 : Int32 × Int32 → Sto → Prop} (C : Cx p s m args meth c D cy A cX12_untake 4 RX12) (hr : meth.sig.returnType = (some .int)) (hnm : meth.name = yX12_untake.name) (hL39 : ∀ (t : Int32 × Int32) (σ : Sto), L39 t σ → ∀ ls : Array Slot, lv_has ls 4 [(0, .ref a0), (1, .int t.1), (2, .int t.2)] → Xw p l e rm_X12_untake s m args below meth c D cy A σ 0 0 (MQ below (Qst D cy A (PsI Q)) args s rm_X12_untake.cells rm_X12_untake.slots A) (F0 m 39 ls [])) : ∀ (t : Int32 × Int32) (σ : Sto), f_X12_untake_39 a0  Q L39 t σ → ∀ ls : Array Slot, lv_has ls 4 [(0, .ref a0), (1, .int t.1), (2, .int t.2)] → Xw p l e rm_X12_untake s m args below meth c D cy A σ 0 0 (MQ below (Qst D cy A (PsI Q)) args s rm_X12_untake.cells rm_X12_untake.slots A) (F0 m 39 ls []) := by
  intro t σ h ls hl
  unfold f_X12_untake_39 at h
  refine x_iload_n C dX12_untake_39 rfl (lv_at hl 2 rfl) ?_
  refine x_iload_n C dX12_untake_40 rfl (lv_at hl 1 rfl) ?_
  refine x_callS (rm := rm_X12_numbers) (rest := [.int t.2]) (As := [.int t.1]) C cs_RX12_508 (by decide) (by decide) rfl rfl (Nat.le_of_ble_eq_true rfl) hl.1 dX12_untake_41 (c_X12_numbers l D cy t.1 σ _ h) (ks_i (fun x2 σ1 h => ?_))
  refine x_icmp_ge (tgt := 65) C dX12_untake_44 (by decide) (fun c3 => ?_) (fun c3 => ?_)
  · have h := h.1 c3
    exact t_X12_untake_65 C hr hnm  t.1 _ h ls (lv_sub hl [0, 1] rfl)
  · have h := h.2 c3
    refine x_aload_n C dX12_untake_47 rfl (lv_at hl 0 rfl) ?_
    obtain ⟨g4, h⟩ := h
    refine x_getI C fl_RX12_535 g4 dX12_untake_48 ?_
    refine x_topi (fun x5 e6 => ?_)
    have h := h x5 e6
    refine x_if_ne (tgt := 65) C dX12_untake_51 (by decide) (fun c7 => ?_) (fun c7 => ?_)
    · have h := h.1 c7
      exact t_X12_untake_65 C hr hnm  t.1 _ h ls (lv_sub hl [0, 1] rfl)
    · have h := h.2 c7
      refine x_aload_n C dX12_untake_54 rfl (lv_at hl 0 rfl) ?_
      refine x_callV (rm := rm_X12_readNumber) (rest := []) (As := []) C cy_RX12_558 g4 (by decide) (by decide) rfl rfl (Nat.le_of_ble_eq_true rfl) hl.1 dX12_untake_55 (c_X12_readNumber l D cy a0  σ1 _ h) (ks_i (fun x9 σ8 h => ?_))
      refine x_istore_n (i := 3) (lv' := [(3, .int x9), (0, .ref a0), (1, .int t.1), (2, .int t.2)]) C dX12_untake_58 rfl hl (by decide) (by first | rfl | simp [vrc, cat_i, cat_r, cat_l]) (fun ls hl => ?_)
      obtain ⟨x10, e11⟩ : ∃ z : Int32, z = t.2 + (1 : Int32) := ⟨_, rfl⟩
      have h := h x10 e11
      refine x_iinc (v := x10) (lv' := [(2, .int x10), (3, .int x9), (0, .ref a0), (1, .int t.1)]) C dX12_untake_59 hl (q0 := 3) rfl (by rw [e11]; rfl) (by decide) (by first | rfl | simp [vrc, cat_i, cat_r, cat_l]) (fun ls hl => ?_)
      refine x_goto (tgt := 39) C dX12_untake_62 (by decide) ?_
      exact hL39 (t.1, x10) _ h ls (lv_sub hl [2, 3, 0] rfl)
def wp_X12_untake (a0 : Nat)  (σ : Sto) (Q : Int32 → Sto → Prop) : Prop := (sK σ a0 = 12 ∧ (wp_X12_readByte a0 (12 : Int32) (stI (stI (stI (stI σ a0 94 (0 : Int32)) a0 93 (0 : Int32)) a0 95 (0 : Int32)) a0 96 (-1 : Int32)) (fun (x3 : Int32) (σ2 : Sto) => (sK σ2 a0 = 12 ∧ (wp_X12_readEnd a0 (1 : Int32) σ2 (fun (σ5 : Sto) => (sK σ5 a0 = 12 ∧ (wp_X12_readEnd a0 (0 : Int32) σ5 (fun (σ7 : Sto) => LF (f_X12_untake_39 a0  Q) (x3, (0 : Int32)) σ7)))))))))
set_option maxHeartbeats 4000000 in
set_option maxRecDepth 100000 in
theorem c_X12_untake (l : Launch) (D : va_G) (cy : Nat → ClassId) (a0 : Nat)  (σ : Sto) (Q : Int32 → Sto → Prop) (h : wp_X12_untake a0  σ Q) : Mt l D cy yX12_untake cX12_untake 4 (some .int) rm_X12_untake [.ref a0] σ (PsI Q) := by
  unfold wp_X12_untake at h
  refine mt_of (by decide +kernel) (Nat.le_of_ble_eq_true rfl) ?_
  intro p e s m args below meth c A ls C hr hnm hl
  have C : Cx p s m args meth c D cy A cX12_untake 4 RX12 := C
  have hl : lv_has ls 4 [(0, .ref a0)] := hl
  refine x_aload_n C dX12_untake_0 rfl (lv_at hl 0 rfl) ?_
  refine x_iconst (v := 0) C dX12_untake_1 (by decide) ?_
  obtain ⟨g1, h⟩ := h
  refine x_putI C fl_RX12_538 (Or.inl rfl) g1 dX12_untake_2 ?_
  refine x_aload_n C dX12_untake_5 rfl (lv_at hl 0 rfl) ?_
  refine x_iconst (v := 0) C dX12_untake_6 (by decide) ?_
  refine x_putI C fl_RX12_544 (Or.inl rfl) g1 dX12_untake_7 ?_
  refine x_aload_n C dX12_untake_10 rfl (lv_at hl 0 rfl) ?_
  refine x_iconst (v := 0) C dX12_untake_11 (by decide) ?_
  refine x_putI C fl_RX12_535 (Or.inl rfl) g1 dX12_untake_12 ?_
  refine x_aload_n C dX12_untake_15 rfl (lv_at hl 0 rfl) ?_
  refine x_iconst (v := -1) C dX12_untake_16 (by decide) ?_
  refine x_putI C fl_RX12_251 (Or.inl rfl) g1 dX12_untake_17 ?_
  refine x_aload_n C dX12_untake_20 rfl (lv_at hl 0 rfl) ?_
  refine x_bipush (v := 12) C dX12_untake_21 (by decide) ?_
  refine x_callV (rm := rm_X12_readByte) (rest := []) (As := [.int (12 : Int32)]) C cy_RX12_555 g1 (by decide) (by decide) rfl rfl (Nat.le_of_ble_eq_true rfl) hl.1 dX12_untake_23 (c_X12_readByte l D cy a0 (12 : Int32) (stI (stI (stI (stI σ a0 94 (0 : Int32)) a0 93 (0 : Int32)) a0 95 (0 : Int32)) a0 96 (-1 : Int32)) _ h) (ks_i (fun x3 σ2 h => ?_))
  refine x_istore_n (i := 1) (lv' := [(1, .int x3), (0, .ref a0)]) C dX12_untake_26 rfl hl (by decide) (by first | rfl | simp [vrc, cat_i, cat_r, cat_l]) (fun ls hl => ?_)
  refine x_aload_n C dX12_untake_27 rfl (lv_at hl 1 rfl) ?_
  refine x_iconst (v := 1) C dX12_untake_28 (by decide) ?_
  obtain ⟨g4, h⟩ := h
  refine x_callV (rm := rm_X12_readEnd) (rest := []) (As := [.int (1 : Int32)]) C cy_RX12_567 g4 (by decide) (by decide) rfl rfl (Nat.le_of_ble_eq_true rfl) hl.1 dX12_untake_29 (c_X12_readEnd l D cy a0 (1 : Int32) σ2 _ h) (ks_v (fun σ5 h => ?_))
  refine x_aload_n C dX12_untake_32 rfl (lv_at hl 1 rfl) ?_
  refine x_iconst (v := 0) C dX12_untake_33 (by decide) ?_
  obtain ⟨g6, h⟩ := h
  refine x_callV (rm := rm_X12_readEnd) (rest := []) (As := [.int (0 : Int32)]) C cy_RX12_567 g6 (by decide) (by decide) rfl rfl (Nat.le_of_ble_eq_true rfl) hl.1 dX12_untake_34 (c_X12_readEnd l D cy a0 (0 : Int32) σ5 _ h) (ks_v (fun σ7 h => ?_))
  refine x_iconst (v := 0) C dX12_untake_37 (by decide) ?_
  refine x_istore_n (i := 2) (lv' := [(2, .int (0 : Int32)), (1, .int x3), (0, .ref a0)]) C dX12_untake_38 rfl hl (by decide) (by first | rfl | simp [vrc, cat_i, cat_r, cat_l]) (fun ls hl => ?_)
  exact h (fun t σ => ∀ ls : Array Slot, lv_has ls 4 [(0, .ref a0), (1, .int t.1), (2, .int t.2)] → Xw p l e rm_X12_untake s m args below meth c D cy A σ 0 0 (MQ below (Qst D cy A (PsI Q)) args s rm_X12_untake.cells rm_X12_untake.slots A) (F0 m 39 ls [])) (t_X12_untake_39 C hr hnm  (fun t σ h => h)) ls (lv_sub hl [2, 1, 0] rfl)
theorem dX12_fault_0 : decode cX12_fault 0 = .ok (.aload_n 0, 1) := by decide +kernel
theorem dX12_fault_1 : decode cX12_fault 1 = .ok (.iconst 0, 1) := by decide +kernel
theorem dX12_fault_2 : decode cX12_fault 2 = .ok (.putfield 267, 3) := by decide +kernel
theorem dX12_fault_5 : decode cX12_fault 5 = .ok (.iload_n 1, 1) := by decide +kernel
theorem dX12_fault_6 : decode cX12_fault 6 = .ok (.ifCond .ne 10, 3) := by decide +kernel
theorem dX12_fault_9 : decode cX12_fault 9 = .ok (.aload_n 0, 1) := by decide +kernel
theorem dX12_fault_10 : decode cX12_fault 10 = .ok (.getfield 535, 3) := by decide +kernel
theorem dX12_fault_13 : decode cX12_fault 13 = .ok (.goto 16, 3) := by decide +kernel
theorem dX12_fault_16 : decode cX12_fault 16 = .ok (.iload_n 1, 1) := by decide +kernel
theorem dX12_fault_17 : decode cX12_fault 17 = .ok (.iconst 1, 1) := by decide +kernel
theorem dX12_fault_18 : decode cX12_fault 18 = .ok (.if_icmp .ne 10, 3) := by decide +kernel
theorem dX12_fault_21 : decode cX12_fault 21 = .ok (.aload_n 0, 1) := by decide +kernel
theorem dX12_fault_22 : decode cX12_fault 22 = .ok (.getfield 251, 3) := by decide +kernel
theorem dX12_fault_25 : decode cX12_fault 25 = .ok (.goto 4, 3) := by decide +kernel
theorem dX12_fault_28 : decode cX12_fault 28 = .ok (.iconst (-1), 1) := by decide +kernel
theorem dX12_fault_29 : decode cX12_fault 29 = .ok (.ireturn, 1) := by decide +kernel
abbrev rm_X12_fault : Room := { frames := 0, cells := 0, slots := 0, locals := 0 }
def wp_X12_fault (a0 : Nat) (p1 : Int32) (σ : Sto) (Q : Int32 → Sto → Prop) : Prop := (sK σ a0 = 12 ∧ ((¬ p1 = 0 → ((¬ p1 = (1 : Int32) → Q (-1 : Int32) (stI σ a0 0 (0 : Int32))) ∧ (p1 = (1 : Int32) → (∀ x4 : Int32, x4 = sI (stI σ a0 0 (0 : Int32)) a0 96 → Q x4 (stI σ a0 0 (0 : Int32)))))) ∧ (p1 = 0 → (∀ x6 : Int32, x6 = sI (stI σ a0 0 (0 : Int32)) a0 95 → Q x6 (stI σ a0 0 (0 : Int32))))))
set_option maxHeartbeats 4000000 in
set_option maxRecDepth 100000 in
theorem c_X12_fault (l : Launch) (D : va_G) (cy : Nat → ClassId) (a0 : Nat) (p1 : Int32) (σ : Sto) (Q : Int32 → Sto → Prop) (h : wp_X12_fault a0 p1 σ Q) : Mt l D cy yX12_fault cX12_fault 2 (some .int) rm_X12_fault [.ref a0, .int p1] σ (PsI Q) := by
  unfold wp_X12_fault at h
  refine mt_of (by decide +kernel) (Nat.le_of_ble_eq_true rfl) ?_
  intro p e s m args below meth c A ls C hr hnm hl
  have C : Cx p s m args meth c D cy A cX12_fault 2 RX12 := C
  have hl : lv_has ls 2 [(0, .ref a0), (1, .int p1)] := hl
  refine x_aload_n C dX12_fault_0 rfl (lv_at hl 0 rfl) ?_
  refine x_iconst (v := 0) C dX12_fault_1 (by decide) ?_
  obtain ⟨g1, h⟩ := h
  refine x_putI C fl_RX12_267 (Or.inl rfl) g1 dX12_fault_2 ?_
  refine x_iload_n C dX12_fault_5 rfl (lv_at hl 1 rfl) ?_
  refine x_if_ne (tgt := 16) C dX12_fault_6 (by decide) (fun c2 => ?_) (fun c2 => ?_)
  · have h := h.1 c2
    refine x_iload_n C dX12_fault_16 rfl (lv_at hl 1 rfl) ?_
    refine x_iconst (v := 1) C dX12_fault_17 (by decide) ?_
    refine x_icmp_ne (tgt := 28) C dX12_fault_18 (by decide) (fun c3 => ?_) (fun c3 => ?_)
    · have h := h.1 c3
      refine x_iconst (v := -1) C dX12_fault_28 (by decide) ?_
      exact x_iret C hr dX12_fault_29 ⟨_, rfl, h⟩
    · have h := h.2 c3
      refine x_aload_n C dX12_fault_21 rfl (lv_at hl 0 rfl) ?_
      refine x_getI C fl_RX12_251 g1 dX12_fault_22 ?_
      refine x_topi (fun x4 e5 => ?_)
      have h := h x4 e5
      refine x_goto (tgt := 29) C dX12_fault_25 (by decide) ?_
      exact x_iret C hr dX12_fault_29 ⟨_, rfl, h⟩
  · have h := h.2 c2
    refine x_aload_n C dX12_fault_9 rfl (lv_at hl 0 rfl) ?_
    refine x_getI C fl_RX12_535 g1 dX12_fault_10 ?_
    refine x_topi (fun x6 e7 => ?_)
    have h := h x6 e7
    refine x_goto (tgt := 29) C dX12_fault_13 (by decide) ?_
    exact x_iret C hr dX12_fault_29 ⟨_, rfl, h⟩
theorem dX12_told_0 : decode cX12_told 0 = .ok (.aload_n 0, 1) := by decide +kernel
theorem dX12_told_1 : decode cX12_told 1 = .ok (.iconst 0, 1) := by decide +kernel
theorem dX12_told_2 : decode cX12_told 2 = .ok (.putfield 267, 3) := by decide +kernel
theorem dX12_told_5 : decode cX12_told 5 = .ok (.iload_n 1, 1) := by decide +kernel
theorem dX12_told_6 : decode cX12_told 6 = .ok (.iconst 0, 1) := by decide +kernel
theorem dX12_told_7 : decode cX12_told 7 = .ok (.aload_n 0, 1) := by decide +kernel
theorem dX12_told_8 : decode cX12_told 8 = .ok (.getfield 544, 3) := by decide +kernel
theorem dX12_told_11 : decode cX12_told 11 = .ok (.iconst 1, 1) := by decide +kernel
theorem dX12_told_12 : decode cX12_told 12 = .ok (.isub, 1) := by decide +kernel
theorem dX12_told_13 : decode cX12_told 13 = .ok (.invokestatic 270, 3) := by decide +kernel
theorem dX12_told_16 : decode cX12_told 16 = .ok (.ifCond .eq 12, 3) := by decide +kernel
theorem dX12_told_19 : decode cX12_told 19 = .ok (.aload_n 0, 1) := by decide +kernel
theorem dX12_told_20 : decode cX12_told 20 = .ok (.getfield 248, 3) := by decide +kernel
theorem dX12_told_23 : decode cX12_told 23 = .ok (.iload_n 1, 1) := by decide +kernel
theorem dX12_told_24 : decode cX12_told 24 = .ok (.iaload, 1) := by decide +kernel
theorem dX12_told_25 : decode cX12_told 25 = .ok (.goto 4, 3) := by decide +kernel
theorem dX12_told_28 : decode cX12_told 28 = .ok (.iconst 0, 1) := by decide +kernel
theorem dX12_told_29 : decode cX12_told 29 = .ok (.ireturn, 1) := by decide +kernel
abbrev rm_X12_told : Room := { frames := 1, cells := 0, slots := 0, locals := 22 }
def wp_X12_told (a0 : Nat) (p1 : Int32) (σ : Sto) (Q : Int32 → Sto → Prop) : Prop := (sK σ a0 = 12 ∧ (∀ x2 : Int32, x2 = sI (stI σ a0 0 (0 : Int32)) a0 93 → (wp_X12_in p1 (0 : Int32) (x2 - (1 : Int32)) (stI σ a0 0 (0 : Int32)) (fun (x5 : Int32) (σ4 : Sto) => ((x5 = 0 → Q (0 : Int32) σ4) ∧ (¬ x5 = 0 → (sK σ4 a0 = 12 ∧ (∃ b8 : Nat, sP σ4 a0 92 = some b8 ∧ (sK σ4 b8 = 14 ∧ (vp_in p1 (sN σ4 b8) ∧ (∀ x12 : Int32, x12 = sI σ4 b8 p1.toNatClampNeg → Q x12 σ4)))))))))))
set_option maxHeartbeats 4000000 in
set_option maxRecDepth 100000 in
theorem c_X12_told (l : Launch) (D : va_G) (cy : Nat → ClassId) (a0 : Nat) (p1 : Int32) (σ : Sto) (Q : Int32 → Sto → Prop) (h : wp_X12_told a0 p1 σ Q) : Mt l D cy yX12_told cX12_told 2 (some .int) rm_X12_told [.ref a0, .int p1] σ (PsI Q) := by
  unfold wp_X12_told at h
  refine mt_of (by decide +kernel) (Nat.le_of_ble_eq_true rfl) ?_
  intro p e s m args below meth c A ls C hr hnm hl
  have C : Cx p s m args meth c D cy A cX12_told 2 RX12 := C
  have hl : lv_has ls 2 [(0, .ref a0), (1, .int p1)] := hl
  refine x_aload_n C dX12_told_0 rfl (lv_at hl 0 rfl) ?_
  refine x_iconst (v := 0) C dX12_told_1 (by decide) ?_
  obtain ⟨g1, h⟩ := h
  refine x_putI C fl_RX12_267 (Or.inl rfl) g1 dX12_told_2 ?_
  refine x_iload_n C dX12_told_5 rfl (lv_at hl 1 rfl) ?_
  refine x_iconst (v := 0) C dX12_told_6 (by decide) ?_
  refine x_aload_n C dX12_told_7 rfl (lv_at hl 0 rfl) ?_
  refine x_getI C fl_RX12_544 g1 dX12_told_8 ?_
  refine x_topi (fun x2 e3 => ?_)
  have h := h x2 e3
  refine x_iconst (v := 1) C dX12_told_11 (by decide) ?_
  refine x_isub C dX12_told_12 ?_
  refine x_callS (rm := rm_X12_in) (rest := []) (As := [.int p1, .int (0 : Int32), .int (x2 - (1 : Int32))]) C cs_RX12_270 (by decide) (by decide) rfl rfl (Nat.le_of_ble_eq_true rfl) hl.1 dX12_told_13 (c_X12_in l D cy p1 (0 : Int32) (x2 - (1 : Int32)) (stI σ a0 0 (0 : Int32)) _ h) (ks_i (fun x5 σ4 h => ?_))
  refine x_if_eq (tgt := 28) C dX12_told_16 (by decide) (fun c6 => ?_) (fun c6 => ?_)
  · have h := h.1 c6
    refine x_iconst (v := 0) C dX12_told_28 (by decide) ?_
    exact x_iret C hr dX12_told_29 ⟨_, rfl, h⟩
  · have h := h.2 c6
    refine x_aload_n C dX12_told_19 rfl (lv_at hl 0 rfl) ?_
    obtain ⟨g7, h⟩ := h
    refine x_getP C fl_RX12_248 g7 dX12_told_20 ?_
    refine x_iload_n C dX12_told_23 rfl (lv_at hl 1 rfl) ?_
    obtain ⟨b8, g9, h⟩ := h
    refine x_nn1 g9 ?_
    obtain ⟨g10, h⟩ := h
    obtain ⟨g11, h⟩ := h
    refine x_iald C g10 g11 dX12_told_24 ?_
    refine x_topi (fun x12 e13 => ?_)
    have h := h x12 e13
    refine x_goto (tgt := 29) C dX12_told_25 (by decide) ?_
    exact x_iret C hr dX12_told_29 ⟨_, rfl, h⟩
theorem dX12_tolds_0 : decode cX12_tolds 0 = .ok (.aload_n 0, 1) := by decide +kernel
theorem dX12_tolds_1 : decode cX12_tolds 1 = .ok (.iconst 0, 1) := by decide +kernel
theorem dX12_tolds_2 : decode cX12_tolds 2 = .ok (.putfield 267, 3) := by decide +kernel
theorem dX12_tolds_5 : decode cX12_tolds 5 = .ok (.aload_n 0, 1) := by decide +kernel
theorem dX12_tolds_6 : decode cX12_tolds 6 = .ok (.getfield 544, 3) := by decide +kernel
theorem dX12_tolds_9 : decode cX12_tolds 9 = .ok (.ireturn, 1) := by decide +kernel
abbrev rm_X12_tolds : Room := { frames := 0, cells := 0, slots := 0, locals := 0 }
def wp_X12_tolds (a0 : Nat)  (σ : Sto) (Q : Int32 → Sto → Prop) : Prop := (sK σ a0 = 12 ∧ (∀ x2 : Int32, x2 = sI (stI σ a0 0 (0 : Int32)) a0 93 → Q x2 (stI σ a0 0 (0 : Int32))))
set_option maxHeartbeats 4000000 in
set_option maxRecDepth 100000 in
theorem c_X12_tolds (l : Launch) (D : va_G) (cy : Nat → ClassId) (a0 : Nat)  (σ : Sto) (Q : Int32 → Sto → Prop) (h : wp_X12_tolds a0  σ Q) : Mt l D cy yX12_tolds cX12_tolds 1 (some .int) rm_X12_tolds [.ref a0] σ (PsI Q) := by
  unfold wp_X12_tolds at h
  refine mt_of (by decide +kernel) (Nat.le_of_ble_eq_true rfl) ?_
  intro p e s m args below meth c A ls C hr hnm hl
  have C : Cx p s m args meth c D cy A cX12_tolds 1 RX12 := C
  have hl : lv_has ls 1 [(0, .ref a0)] := hl
  refine x_aload_n C dX12_tolds_0 rfl (lv_at hl 0 rfl) ?_
  refine x_iconst (v := 0) C dX12_tolds_1 (by decide) ?_
  obtain ⟨g1, h⟩ := h
  refine x_putI C fl_RX12_267 (Or.inl rfl) g1 dX12_tolds_2 ?_
  refine x_aload_n C dX12_tolds_5 rfl (lv_at hl 0 rfl) ?_
  refine x_getI C fl_RX12_544 g1 dX12_tolds_6 ?_
  refine x_topi (fun x2 e3 => ?_)
  have h := h x2 e3
  exact x_iret C hr dX12_tolds_9 ⟨_, rfl, h⟩
theorem dX12_isKept_0 : decode cX12_isKept 0 = .ok (.aload_n 0, 1) := by decide +kernel
theorem dX12_isKept_1 : decode cX12_isKept 1 = .ok (.getfield 71, 3) := by decide +kernel
theorem dX12_isKept_4 : decode cX12_isKept 4 = .ok (.iload_n 1, 1) := by decide +kernel
theorem dX12_isKept_5 : decode cX12_isKept 5 = .ok (.baload, 1) := by decide +kernel
theorem dX12_isKept_6 : decode cX12_isKept 6 = .ok (.ifCond .eq 37, 3) := by decide +kernel
theorem dX12_isKept_9 : decode cX12_isKept 9 = .ok (.aload_n 0, 1) := by decide +kernel
theorem dX12_isKept_10 : decode cX12_isKept 10 = .ok (.getfield 74, 3) := by decide +kernel
theorem dX12_isKept_13 : decode cX12_isKept 13 = .ok (.iload_n 1, 1) := by decide +kernel
theorem dX12_isKept_14 : decode cX12_isKept 14 = .ok (.iaload, 1) := by decide +kernel
theorem dX12_isKept_15 : decode cX12_isKept 15 = .ok (.aload_n 0, 1) := by decide +kernel
theorem dX12_isKept_16 : decode cX12_isKept 16 = .ok (.getfield 224, 3) := by decide +kernel
theorem dX12_isKept_19 : decode cX12_isKept 19 = .ok (.iload_n 2, 1) := by decide +kernel
theorem dX12_isKept_20 : decode cX12_isKept 20 = .ok (.iaload, 1) := by decide +kernel
theorem dX12_isKept_21 : decode cX12_isKept 21 = .ok (.if_icmp .ne 22, 3) := by decide +kernel
theorem dX12_isKept_24 : decode cX12_isKept 24 = .ok (.aload_n 0, 1) := by decide +kernel
theorem dX12_isKept_25 : decode cX12_isKept 25 = .ok (.getfield 77, 3) := by decide +kernel
theorem dX12_isKept_28 : decode cX12_isKept 28 = .ok (.iload_n 1, 1) := by decide +kernel
theorem dX12_isKept_29 : decode cX12_isKept 29 = .ok (.iaload, 1) := by decide +kernel
theorem dX12_isKept_30 : decode cX12_isKept 30 = .ok (.aload_n 0, 1) := by decide +kernel
theorem dX12_isKept_31 : decode cX12_isKept 31 = .ok (.getfield 227, 3) := by decide +kernel
theorem dX12_isKept_34 : decode cX12_isKept 34 = .ok (.iload_n 2, 1) := by decide +kernel
theorem dX12_isKept_35 : decode cX12_isKept 35 = .ok (.iaload, 1) := by decide +kernel
theorem dX12_isKept_36 : decode cX12_isKept 36 = .ok (.if_icmp .ne 7, 3) := by decide +kernel
theorem dX12_isKept_39 : decode cX12_isKept 39 = .ok (.iconst 1, 1) := by decide +kernel
theorem dX12_isKept_40 : decode cX12_isKept 40 = .ok (.goto 4, 3) := by decide +kernel
theorem dX12_isKept_43 : decode cX12_isKept 43 = .ok (.iconst 0, 1) := by decide +kernel
theorem dX12_isKept_44 : decode cX12_isKept 44 = .ok (.ireturn, 1) := by decide +kernel
abbrev rm_X12_isKept : Room := { frames := 0, cells := 0, slots := 0, locals := 0 }
def wp_X12_isKept (a0 : Nat) (p1 : Int32) (p2 : Int32) (σ : Sto) (Q : Int32 → Sto → Prop) : Prop := (sK σ a0 = 12 ∧ (∃ b2 : Nat, sP σ a0 30 = some b2 ∧ (sK σ b2 = 16 ∧ (vp_in p1 (sN σ b2) ∧ (∀ x6 : Int32, x6 = sI σ b2 p1.toNatClampNeg → ((x6 = 0 → Q (0 : Int32) σ) ∧ (¬ x6 = 0 → (∃ b9 : Nat, sP σ a0 31 = some b9 ∧ (sK σ b9 = 14 ∧ (vp_in p1 (sN σ b9) ∧ (∀ x13 : Int32, x13 = sI σ b9 p1.toNatClampNeg → (∃ b15 : Nat, sP σ a0 82 = some b15 ∧ (sK σ b15 = 14 ∧ (vp_in p2 (sN σ b15) ∧ (∀ x19 : Int32, x19 = sI σ b15 p2.toNatClampNeg → ((¬ x13 = x19 → Q (0 : Int32) σ) ∧ (x13 = x19 → (∃ b22 : Nat, sP σ a0 32 = some b22 ∧ (sK σ b22 = 14 ∧ (vp_in p1 (sN σ b22) ∧ (∀ x26 : Int32, x26 = sI σ b22 p1.toNatClampNeg → (∃ b28 : Nat, sP σ a0 83 = some b28 ∧ (sK σ b28 = 14 ∧ (vp_in p2 (sN σ b28) ∧ (∀ x32 : Int32, x32 = sI σ b28 p2.toNatClampNeg → ((¬ x26 = x32 → Q (0 : Int32) σ) ∧ (x26 = x32 → Q (1 : Int32) σ)))))))))))))))))))))))))))
set_option maxHeartbeats 4000000 in
set_option maxRecDepth 100000 in
theorem c_X12_isKept (l : Launch) (D : va_G) (cy : Nat → ClassId) (a0 : Nat) (p1 : Int32) (p2 : Int32) (σ : Sto) (Q : Int32 → Sto → Prop) (h : wp_X12_isKept a0 p1 p2 σ Q) : Mt l D cy yX12_isKept cX12_isKept 3 (some .boolean) rm_X12_isKept [.ref a0, .int p1, .int p2] σ (PsI Q) := by
  unfold wp_X12_isKept at h
  refine mt_of (by decide +kernel) (Nat.le_of_ble_eq_true rfl) ?_
  intro p e s m args below meth c A ls C hr hnm hl
  have C : Cx p s m args meth c D cy A cX12_isKept 3 RX12 := C
  have hl : lv_has ls 3 [(0, .ref a0), (1, .int p1), (2, .int p2)] := hl
  refine x_aload_n C dX12_isKept_0 rfl (lv_at hl 0 rfl) ?_
  obtain ⟨g1, h⟩ := h
  refine x_getP C fl_RX12_71 g1 dX12_isKept_1 ?_
  refine x_iload_n C dX12_isKept_4 rfl (lv_at hl 1 rfl) ?_
  obtain ⟨b2, g3, h⟩ := h
  refine x_nn1 g3 ?_
  obtain ⟨g4, h⟩ := h
  obtain ⟨g5, h⟩ := h
  refine x_zald C g4 g5 dX12_isKept_5 ?_
  refine x_topi (fun x6 e7 => ?_)
  have h := h x6 e7
  refine x_if_eq (tgt := 43) C dX12_isKept_6 (by decide) (fun c8 => ?_) (fun c8 => ?_)
  · have h := h.1 c8
    refine x_iconst (v := 0) C dX12_isKept_43 (by decide) ?_
    exact x_zret C hr dX12_isKept_44 (by decide) ⟨_, rfl, h⟩
  · have h := h.2 c8
    refine x_aload_n C dX12_isKept_9 rfl (lv_at hl 0 rfl) ?_
    refine x_getP C fl_RX12_74 g1 dX12_isKept_10 ?_
    refine x_iload_n C dX12_isKept_13 rfl (lv_at hl 1 rfl) ?_
    obtain ⟨b9, g10, h⟩ := h
    refine x_nn1 g10 ?_
    obtain ⟨g11, h⟩ := h
    obtain ⟨g12, h⟩ := h
    refine x_iald C g11 g12 dX12_isKept_14 ?_
    refine x_topi (fun x13 e14 => ?_)
    have h := h x13 e14
    refine x_aload_n C dX12_isKept_15 rfl (lv_at hl 0 rfl) ?_
    refine x_getP C fl_RX12_224 g1 dX12_isKept_16 ?_
    refine x_iload_n C dX12_isKept_19 rfl (lv_at hl 2 rfl) ?_
    obtain ⟨b15, g16, h⟩ := h
    refine x_nn1 g16 ?_
    obtain ⟨g17, h⟩ := h
    obtain ⟨g18, h⟩ := h
    refine x_iald C g17 g18 dX12_isKept_20 ?_
    refine x_topi (fun x19 e20 => ?_)
    have h := h x19 e20
    refine x_icmp_ne (tgt := 43) C dX12_isKept_21 (by decide) (fun c21 => ?_) (fun c21 => ?_)
    · have h := h.1 c21
      refine x_iconst (v := 0) C dX12_isKept_43 (by decide) ?_
      exact x_zret C hr dX12_isKept_44 (by decide) ⟨_, rfl, h⟩
    · have h := h.2 c21
      refine x_aload_n C dX12_isKept_24 rfl (lv_at hl 0 rfl) ?_
      refine x_getP C fl_RX12_77 g1 dX12_isKept_25 ?_
      refine x_iload_n C dX12_isKept_28 rfl (lv_at hl 1 rfl) ?_
      obtain ⟨b22, g23, h⟩ := h
      refine x_nn1 g23 ?_
      obtain ⟨g24, h⟩ := h
      obtain ⟨g25, h⟩ := h
      refine x_iald C g24 g25 dX12_isKept_29 ?_
      refine x_topi (fun x26 e27 => ?_)
      have h := h x26 e27
      refine x_aload_n C dX12_isKept_30 rfl (lv_at hl 0 rfl) ?_
      refine x_getP C fl_RX12_227 g1 dX12_isKept_31 ?_
      refine x_iload_n C dX12_isKept_34 rfl (lv_at hl 2 rfl) ?_
      obtain ⟨b28, g29, h⟩ := h
      refine x_nn1 g29 ?_
      obtain ⟨g30, h⟩ := h
      obtain ⟨g31, h⟩ := h
      refine x_iald C g30 g31 dX12_isKept_35 ?_
      refine x_topi (fun x32 e33 => ?_)
      have h := h x32 e33
      refine x_icmp_ne (tgt := 43) C dX12_isKept_36 (by decide) (fun c34 => ?_) (fun c34 => ?_)
      · have h := h.1 c34
        refine x_iconst (v := 0) C dX12_isKept_43 (by decide) ?_
        exact x_zret C hr dX12_isKept_44 (by decide) ⟨_, rfl, h⟩
      · have h := h.2 c34
        refine x_iconst (v := 1) C dX12_isKept_39 (by decide) ?_
        refine x_goto (tgt := 44) C dX12_isKept_40 (by decide) ?_
        exact x_zret C hr dX12_isKept_44 (by decide) ⟨_, rfl, h⟩
