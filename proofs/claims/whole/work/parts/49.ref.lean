theorem dX12_goOn_0 : decode cX12_goOn 0 = .ok (.aload_n 0, 1) := by decide +kernel
theorem dX12_goOn_1 : decode cX12_goOn 1 = .ok (.dup, 1) := by decide +kernel
theorem dX12_goOn_2 : decode cX12_goOn 2 = .ok (.getfield 318, 3) := by decide +kernel
theorem dX12_goOn_5 : decode cX12_goOn 5 = .ok (.iconst 1, 1) := by decide +kernel
theorem dX12_goOn_6 : decode cX12_goOn 6 = .ok (.iadd, 1) := by decide +kernel
theorem dX12_goOn_7 : decode cX12_goOn 7 = .ok (.putfield 318, 3) := by decide +kernel
theorem dX12_goOn_10 : decode cX12_goOn 10 = .ok (.aload_n 0, 1) := by decide +kernel
theorem dX12_goOn_11 : decode cX12_goOn 11 = .ok (.getfield 33, 3) := by decide +kernel
theorem dX12_goOn_14 : decode cX12_goOn 14 = .ok (.ifCond .ne 24, 3) := by decide +kernel
theorem dX12_goOn_17 : decode cX12_goOn 17 = .ok (.aload_n 0, 1) := by decide +kernel
theorem dX12_goOn_18 : decode cX12_goOn 18 = .ok (.getfield 318, 3) := by decide +kernel
theorem dX12_goOn_21 : decode cX12_goOn 21 = .ok (.aload_n 0, 1) := by decide +kernel
theorem dX12_goOn_22 : decode cX12_goOn 22 = .ok (.getfield 458, 3) := by decide +kernel
theorem dX12_goOn_25 : decode cX12_goOn 25 = .ok (.isub, 1) := by decide +kernel
theorem dX12_goOn_26 : decode cX12_goOn 26 = .ok (.aload_n 0, 1) := by decide +kernel
theorem dX12_goOn_27 : decode cX12_goOn 27 = .ok (.getfield 264, 3) := by decide +kernel
theorem dX12_goOn_30 : decode cX12_goOn 30 = .ok (.if_icmp .lt 8, 3) := by decide +kernel
theorem dX12_goOn_33 : decode cX12_goOn 33 = .ok (.aload_n 0, 1) := by decide +kernel
theorem dX12_goOn_34 : decode cX12_goOn 34 = .ok (.invokevirtual 461, 3) := by decide +kernel
theorem dX12_goOn_37 : decode cX12_goOn 37 = .ok (.istore_n 1, 1) := by decide +kernel
theorem dX12_goOn_38 : decode cX12_goOn 38 = .ok (.iconst 0, 1) := by decide +kernel
theorem dX12_goOn_39 : decode cX12_goOn 39 = .ok (.istore_n 1, 1) := by decide +kernel
theorem dX12_goOn_40 : decode cX12_goOn 40 = .ok (.iload_n 1, 1) := by decide +kernel
theorem dX12_goOn_41 : decode cX12_goOn 41 = .ok (.aload_n 0, 1) := by decide +kernel
theorem dX12_goOn_42 : decode cX12_goOn 42 = .ok (.getfield 258, 3) := by decide +kernel
theorem dX12_goOn_45 : decode cX12_goOn 45 = .ok (.if_icmp .ge 23, 3) := by decide +kernel
theorem dX12_goOn_48 : decode cX12_goOn 48 = .ok (.aload_n 0, 1) := by decide +kernel
theorem dX12_goOn_49 : decode cX12_goOn 49 = .ok (.getfield 41, 3) := by decide +kernel
theorem dX12_goOn_52 : decode cX12_goOn 52 = .ok (.iload_n 1, 1) := by decide +kernel
theorem dX12_goOn_53 : decode cX12_goOn 53 = .ok (.baload, 1) := by decide +kernel
theorem dX12_goOn_54 : decode cX12_goOn 54 = .ok (.ifCond .ne 8, 3) := by decide +kernel
theorem dX12_goOn_57 : decode cX12_goOn 57 = .ok (.aload_n 0, 1) := by decide +kernel
theorem dX12_goOn_58 : decode cX12_goOn 58 = .ok (.iload_n 1, 1) := by decide +kernel
theorem dX12_goOn_59 : decode cX12_goOn 59 = .ok (.invokevirtual 465, 3) := by decide +kernel
theorem dX12_goOn_62 : decode cX12_goOn 62 = .ok (.iinc 1 1, 3) := by decide +kernel
theorem dX12_goOn_65 : decode cX12_goOn 65 = .ok (.goto (-25), 3) := by decide +kernel
theorem dX12_goOn_68 : decode cX12_goOn 68 = .ok (.iconst 0, 1) := by decide +kernel
theorem dX12_goOn_69 : decode cX12_goOn 69 = .ok (.istore_n 1, 1) := by decide +kernel
theorem dX12_goOn_70 : decode cX12_goOn 70 = .ok (.iload_n 1, 1) := by decide +kernel
theorem dX12_goOn_71 : decode cX12_goOn 71 = .ok (.iconst 4, 1) := by decide +kernel
theorem dX12_goOn_72 : decode cX12_goOn 72 = .ok (.if_icmp .ge 43, 3) := by decide +kernel
theorem dX12_goOn_75 : decode cX12_goOn 75 = .ok (.aload_n 0, 1) := by decide +kernel
theorem dX12_goOn_76 : decode cX12_goOn 76 = .ok (.getfield 179, 3) := by decide +kernel
theorem dX12_goOn_79 : decode cX12_goOn 79 = .ok (.iload_n 1, 1) := by decide +kernel
theorem dX12_goOn_80 : decode cX12_goOn 80 = .ok (.baload, 1) := by decide +kernel
theorem dX12_goOn_81 : decode cX12_goOn 81 = .ok (.ifCond .eq 28, 3) := by decide +kernel
theorem dX12_goOn_84 : decode cX12_goOn 84 = .ok (.aload_n 0, 1) := by decide +kernel
theorem dX12_goOn_85 : decode cX12_goOn 85 = .ok (.getfield 318, 3) := by decide +kernel
theorem dX12_goOn_88 : decode cX12_goOn 88 = .ok (.aload_n 0, 1) := by decide +kernel
theorem dX12_goOn_89 : decode cX12_goOn 89 = .ok (.getfield 191, 3) := by decide +kernel
theorem dX12_goOn_92 : decode cX12_goOn 92 = .ok (.iload_n 1, 1) := by decide +kernel
theorem dX12_goOn_93 : decode cX12_goOn 93 = .ok (.iaload, 1) := by decide +kernel
theorem dX12_goOn_94 : decode cX12_goOn 94 = .ok (.isub, 1) := by decide +kernel
theorem dX12_goOn_95 : decode cX12_goOn 95 = .ok (.iconst 2, 1) := by decide +kernel
theorem dX12_goOn_96 : decode cX12_goOn 96 = .ok (.aload_n 0, 1) := by decide +kernel
theorem dX12_goOn_97 : decode cX12_goOn 97 = .ok (.getfield 264, 3) := by decide +kernel
theorem dX12_goOn_100 : decode cX12_goOn 100 = .ok (.imul, 1) := by decide +kernel
theorem dX12_goOn_101 : decode cX12_goOn 101 = .ok (.if_icmp .lt 8, 3) := by decide +kernel
theorem dX12_goOn_104 : decode cX12_goOn 104 = .ok (.aload_n 0, 1) := by decide +kernel
theorem dX12_goOn_105 : decode cX12_goOn 105 = .ok (.iload_n 1, 1) := by decide +kernel
theorem dX12_goOn_106 : decode cX12_goOn 106 = .ok (.invokevirtual 468, 3) := by decide +kernel
theorem dX12_goOn_109 : decode cX12_goOn 109 = .ok (.iinc 1 1, 3) := by decide +kernel
theorem dX12_goOn_112 : decode cX12_goOn 112 = .ok (.goto (-42), 3) := by decide +kernel
theorem dX12_goOn_115 : decode cX12_goOn 115 = .ok (.return_, 1) := by decide +kernel
abbrev rm_X12_goOn : Room := { frames := 6, cells := 0, slots := 0, locals := 136 }
def b_X12_goOn_109 (a0 : Nat) (L70 : Int32 → Sto → Prop) (Q : Sto → Prop) (p1 : Int32) (σ : Sto) : Prop := (∀ x1 : Int32, x1 = p1 + (1 : Int32) → L70 (x1) σ)
set_option maxHeartbeats 4000000 in
set_option maxRecDepth 100000 in
theorem t_X12_goOn_109 {p : Program} {l : Launch} {e : Env} {s : State} {m : MethodId} {args : Array Value} {below : List Frame} {meth : Method} {c : Code} {D : va_G} {cy : Nat → ClassId} {A : Nat → Prop} {a0 : Nat} {L70 : Int32 → Sto → Prop} {Q : Sto → Prop} (C : Cx p s m args meth c D cy A cX12_goOn 2 RX12) (hr : meth.sig.returnType = none) (hnm : meth.name = yX12_goOn.name) (hL70 : ∀ (t : Int32) (σ : Sto), L70 t σ → ∀ ls : Array Slot, lv_has ls 2 [(0, .ref a0), (1, .int t)] → Xw p l e rm_X12_goOn s m args below meth c D cy A σ 0 0 (MQ below (Qst D cy A (PsV Q)) args s rm_X12_goOn.cells rm_X12_goOn.slots A) (F0 m 70 ls [])) (p1 : Int32) (σ : Sto) (h : b_X12_goOn_109 a0 L70 Q p1 σ) (ls : Array Slot) (hl : lv_has ls 2 [(0, .ref a0), (1, .int p1)]) : Xw p l e rm_X12_goOn s m args below meth c D cy A σ 0 0 (MQ below (Qst D cy A (PsV Q)) args s rm_X12_goOn.cells rm_X12_goOn.slots A) (F0 m 109 ls []) := by
  unfold b_X12_goOn_109 at h
  obtain ⟨x1, e2⟩ : ∃ z : Int32, z = p1 + (1 : Int32) := ⟨_, rfl⟩
  have h := h x1 e2
  refine x_iinc (v := x1) (lv' := [(1, .int x1), (0, .ref a0)]) C dX12_goOn_109 hl (q0 := 1) rfl (by rw [e2]; rfl) (by decide) (by first | rfl | simp [vrc, cat_i, cat_r, cat_l]) (fun ls hl => ?_)
  refine x_goto (tgt := 70) C dX12_goOn_112 (by decide) ?_
  exact hL70 (x1) _ h ls (lv_sub hl [1, 0] rfl)
def f_X12_goOn_70 (a0 : Nat)  (Q : Sto → Prop) (L70 : Int32 → Sto → Prop) (t : Int32) (σ : Sto) : Prop := (((4 : Int32) ≤ t → Q σ) ∧ (¬ (4 : Int32) ≤ t → (sK σ a0 = 12 ∧ (∃ b3 : Nat, sP σ a0 66 = some b3 ∧ (sK σ b3 = 16 ∧ (vp_in t (sN σ b3) ∧ (∀ x7 : Int32, x7 = sI σ b3 t.toNatClampNeg → ((x7 = 0 → b_X12_goOn_109 a0 L70 Q t σ) ∧ (¬ x7 = 0 → (∀ x10 : Int32, x10 = sI σ a0 4 → (∃ b12 : Nat, sP σ a0 70 = some b12 ∧ (sK σ b12 = 14 ∧ (vp_in t (sN σ b12) ∧ (∀ x16 : Int32, x16 = sI σ b12 t.toNatClampNeg → (∀ x18 : Int32, x18 = sI σ a0 3 → (((x10 - x16) < ((2 : Int32) * x18) → b_X12_goOn_109 a0 L70 Q t σ) ∧ (¬ (x10 - x16) < ((2 : Int32) * x18) → (wp_X12_stamp a0 t σ (fun (σ21 : Sto) => b_X12_goOn_109 a0 L70 Q t σ21)))))))))))))))))))
set_option maxHeartbeats 4000000 in
set_option maxRecDepth 100000 in
theorem t_X12_goOn_70 {p : Program} {l : Launch} {e : Env} {s : State} {m : MethodId} {args : Array Value} {below : List Frame} {meth : Method} {c : Code} {D : va_G} {cy : Nat → ClassId} {A : Nat → Prop} {a0 : Nat} {Q : Sto → Prop} {L70 : Int32 → Sto → Prop} (C : Cx p s m args meth c D cy A cX12_goOn 2 RX12) (hr : meth.sig.returnType = none) (hnm : meth.name = yX12_goOn.name) (hL70 : ∀ (t : Int32) (σ : Sto), L70 t σ → ∀ ls : Array Slot, lv_has ls 2 [(0, .ref a0), (1, .int t)] → Xw p l e rm_X12_goOn s m args below meth c D cy A σ 0 0 (MQ below (Qst D cy A (PsV Q)) args s rm_X12_goOn.cells rm_X12_goOn.slots A) (F0 m 70 ls [])) : ∀ (t : Int32) (σ : Sto), f_X12_goOn_70 a0  Q L70 t σ → ∀ ls : Array Slot, lv_has ls 2 [(0, .ref a0), (1, .int t)] → Xw p l e rm_X12_goOn s m args below meth c D cy A σ 0 0 (MQ below (Qst D cy A (PsV Q)) args s rm_X12_goOn.cells rm_X12_goOn.slots A) (F0 m 70 ls []) := by
  intro t σ h ls hl
  unfold f_X12_goOn_70 at h
  refine x_iload_n C dX12_goOn_70 rfl (lv_at hl 1 rfl) ?_
  refine x_iconst (v := 4) C dX12_goOn_71 (by decide) ?_
  refine x_icmp_ge (tgt := 115) C dX12_goOn_72 (by decide) (fun c1 => ?_) (fun c1 => ?_)
  · have h := h.1 c1
    exact x_vret C hr dX12_goOn_115 ⟨rfl, h⟩
  · have h := h.2 c1
    refine x_aload_n C dX12_goOn_75 rfl (lv_at hl 0 rfl) ?_
    obtain ⟨g2, h⟩ := h
    refine x_getP C fl_RX12_179 g2 dX12_goOn_76 ?_
    refine x_iload_n C dX12_goOn_79 rfl (lv_at hl 1 rfl) ?_
    obtain ⟨b3, g4, h⟩ := h
    refine x_nn1 g4 ?_
    obtain ⟨g5, h⟩ := h
    obtain ⟨g6, h⟩ := h
    refine x_zald C g5 g6 dX12_goOn_80 ?_
    refine x_topi (fun x7 e8 => ?_)
    have h := h x7 e8
    refine x_if_eq (tgt := 109) C dX12_goOn_81 (by decide) (fun c9 => ?_) (fun c9 => ?_)
    · have h := h.1 c9
      exact t_X12_goOn_109 C hr hnm hL70 t _ h ls (lv_sub hl [0, 1] rfl)
    · have h := h.2 c9
      refine x_aload_n C dX12_goOn_84 rfl (lv_at hl 0 rfl) ?_
      refine x_getI C fl_RX12_318 g2 dX12_goOn_85 ?_
      refine x_topi (fun x10 e11 => ?_)
      have h := h x10 e11
      refine x_aload_n C dX12_goOn_88 rfl (lv_at hl 0 rfl) ?_
      refine x_getP C fl_RX12_191 g2 dX12_goOn_89 ?_
      refine x_iload_n C dX12_goOn_92 rfl (lv_at hl 1 rfl) ?_
      obtain ⟨b12, g13, h⟩ := h
      refine x_nn1 g13 ?_
      obtain ⟨g14, h⟩ := h
      obtain ⟨g15, h⟩ := h
      refine x_iald C g14 g15 dX12_goOn_93 ?_
      refine x_topi (fun x16 e17 => ?_)
      have h := h x16 e17
      refine x_isub C dX12_goOn_94 ?_
      refine x_iconst (v := 2) C dX12_goOn_95 (by decide) ?_
      refine x_aload_n C dX12_goOn_96 rfl (lv_at hl 0 rfl) ?_
      refine x_getI C fl_RX12_264 g2 dX12_goOn_97 ?_
      refine x_topi (fun x18 e19 => ?_)
      have h := h x18 e19
      refine x_imul C dX12_goOn_100 ?_
      refine x_icmp_lt (tgt := 109) C dX12_goOn_101 (by decide) (fun c20 => ?_) (fun c20 => ?_)
      · have h := h.1 c20
        exact t_X12_goOn_109 C hr hnm hL70 t _ h ls (lv_sub hl [0, 1] rfl)
      · have h := h.2 c20
        refine x_aload_n C dX12_goOn_104 rfl (lv_at hl 0 rfl) ?_
        refine x_iload_n C dX12_goOn_105 rfl (lv_at hl 1 rfl) ?_
        refine x_callV (rm := rm_X12_stamp) (rest := []) (As := [.int t]) C cy_RX12_468 g2 (by decide) (by decide) rfl rfl (Nat.le_of_ble_eq_true rfl) hl.1 dX12_goOn_106 (c_X12_stamp l D cy a0 t σ _ h) (ks_v (fun σ21 h => ?_))
        exact t_X12_goOn_109 C hr hnm hL70 t _ h ls (lv_sub hl [0, 1] rfl)
def b_X12_goOn_62 (a0 : Nat) (L40 : Int32 → Sto → Prop) (Q : Sto → Prop) (p1 : Int32) (σ : Sto) : Prop := (∀ x1 : Int32, x1 = p1 + (1 : Int32) → L40 (x1) σ)
set_option maxHeartbeats 4000000 in
set_option maxRecDepth 100000 in
theorem t_X12_goOn_62 {p : Program} {l : Launch} {e : Env} {s : State} {m : MethodId} {args : Array Value} {below : List Frame} {meth : Method} {c : Code} {D : va_G} {cy : Nat → ClassId} {A : Nat → Prop} {a0 : Nat} {L40 : Int32 → Sto → Prop} {Q : Sto → Prop} (C : Cx p s m args meth c D cy A cX12_goOn 2 RX12) (hr : meth.sig.returnType = none) (hnm : meth.name = yX12_goOn.name) (hL40 : ∀ (t : Int32) (σ : Sto), L40 t σ → ∀ ls : Array Slot, lv_has ls 2 [(0, .ref a0), (1, .int t)] → Xw p l e rm_X12_goOn s m args below meth c D cy A σ 0 0 (MQ below (Qst D cy A (PsV Q)) args s rm_X12_goOn.cells rm_X12_goOn.slots A) (F0 m 40 ls [])) (p1 : Int32) (σ : Sto) (h : b_X12_goOn_62 a0 L40 Q p1 σ) (ls : Array Slot) (hl : lv_has ls 2 [(0, .ref a0), (1, .int p1)]) : Xw p l e rm_X12_goOn s m args below meth c D cy A σ 0 0 (MQ below (Qst D cy A (PsV Q)) args s rm_X12_goOn.cells rm_X12_goOn.slots A) (F0 m 62 ls []) := by
  unfold b_X12_goOn_62 at h
  obtain ⟨x1, e2⟩ : ∃ z : Int32, z = p1 + (1 : Int32) := ⟨_, rfl⟩
  have h := h x1 e2
  refine x_iinc (v := x1) (lv' := [(1, .int x1), (0, .ref a0)]) C dX12_goOn_62 hl (q0 := 1) rfl (by rw [e2]; rfl) (by decide) (by first | rfl | simp [vrc, cat_i, cat_r, cat_l]) (fun ls hl => ?_)
  refine x_goto (tgt := 40) C dX12_goOn_65 (by decide) ?_
  exact hL40 (x1) _ h ls (lv_sub hl [1, 0] rfl)
def f_X12_goOn_40 (a0 : Nat)  (Q : Sto → Prop) (L40 : Int32 → Sto → Prop) (t : Int32) (σ : Sto) : Prop := (sK σ a0 = 12 ∧ (∀ x2 : Int32, x2 = sI σ a0 1 → ((x2 ≤ t → LF (f_X12_goOn_70 a0  Q) ((0 : Int32)) σ) ∧ (¬ x2 ≤ t → (∃ b5 : Nat, sP σ a0 20 = some b5 ∧ (sK σ b5 = 16 ∧ (vp_in t (sN σ b5) ∧ (∀ x9 : Int32, x9 = sI σ b5 t.toNatClampNeg → ((¬ x9 = 0 → b_X12_goOn_62 a0 L40 Q t σ) ∧ (x9 = 0 → (wp_X12_acts a0 t σ (fun (σ12 : Sto) => b_X12_goOn_62 a0 L40 Q t σ12))))))))))))
set_option maxHeartbeats 4000000 in
set_option maxRecDepth 100000 in
theorem t_X12_goOn_40 {p : Program} {l : Launch} {e : Env} {s : State} {m : MethodId} {args : Array Value} {below : List Frame} {meth : Method} {c : Code} {D : va_G} {cy : Nat → ClassId} {A : Nat → Prop} {a0 : Nat} {Q : Sto → Prop} {L40 : Int32 → Sto → Prop} (C : Cx p s m args meth c D cy A cX12_goOn 2 RX12) (hr : meth.sig.returnType = none) (hnm : meth.name = yX12_goOn.name) (hL40 : ∀ (t : Int32) (σ : Sto), L40 t σ → ∀ ls : Array Slot, lv_has ls 2 [(0, .ref a0), (1, .int t)] → Xw p l e rm_X12_goOn s m args below meth c D cy A σ 0 0 (MQ below (Qst D cy A (PsV Q)) args s rm_X12_goOn.cells rm_X12_goOn.slots A) (F0 m 40 ls [])) : ∀ (t : Int32) (σ : Sto), f_X12_goOn_40 a0  Q L40 t σ → ∀ ls : Array Slot, lv_has ls 2 [(0, .ref a0), (1, .int t)] → Xw p l e rm_X12_goOn s m args below meth c D cy A σ 0 0 (MQ below (Qst D cy A (PsV Q)) args s rm_X12_goOn.cells rm_X12_goOn.slots A) (F0 m 40 ls []) := by
  intro t σ h ls hl
  unfold f_X12_goOn_40 at h
  refine x_iload_n C dX12_goOn_40 rfl (lv_at hl 1 rfl) ?_
  refine x_aload_n C dX12_goOn_41 rfl (lv_at hl 0 rfl) ?_
  obtain ⟨g1, h⟩ := h
  refine x_getI C fl_RX12_258 g1 dX12_goOn_42 ?_
  refine x_topi (fun x2 e3 => ?_)
  have h := h x2 e3
  refine x_icmp_ge (tgt := 68) C dX12_goOn_45 (by decide) (fun c4 => ?_) (fun c4 => ?_)
  · have h := h.1 c4
    refine x_iconst (v := 0) C dX12_goOn_68 (by decide) ?_
    refine x_istore_n (i := 1) (lv' := [(1, .int (0 : Int32)), (0, .ref a0)]) C dX12_goOn_69 rfl hl (by decide) (by first | rfl | simp [vrc, cat_i, cat_r, cat_l]) (fun ls hl => ?_)
    exact h (fun t σ => ∀ ls : Array Slot, lv_has ls 2 [(0, .ref a0), (1, .int t)] → Xw p l e rm_X12_goOn s m args below meth c D cy A σ 0 0 (MQ below (Qst D cy A (PsV Q)) args s rm_X12_goOn.cells rm_X12_goOn.slots A) (F0 m 70 ls [])) (t_X12_goOn_70 C hr hnm  (fun t σ h => h)) ls (lv_sub hl [1, 0] rfl)
  · have h := h.2 c4
    refine x_aload_n C dX12_goOn_48 rfl (lv_at hl 0 rfl) ?_
    refine x_getP C fl_RX12_41 g1 dX12_goOn_49 ?_
    refine x_iload_n C dX12_goOn_52 rfl (lv_at hl 1 rfl) ?_
    obtain ⟨b5, g6, h⟩ := h
    refine x_nn1 g6 ?_
    obtain ⟨g7, h⟩ := h
    obtain ⟨g8, h⟩ := h
    refine x_zald C g7 g8 dX12_goOn_53 ?_
    refine x_topi (fun x9 e10 => ?_)
    have h := h x9 e10
    refine x_if_ne (tgt := 62) C dX12_goOn_54 (by decide) (fun c11 => ?_) (fun c11 => ?_)
    · have h := h.1 c11
      exact t_X12_goOn_62 C hr hnm hL40 t _ h ls (lv_sub hl [0, 1] rfl)
    · have h := h.2 c11
      refine x_aload_n C dX12_goOn_57 rfl (lv_at hl 0 rfl) ?_
      refine x_iload_n C dX12_goOn_58 rfl (lv_at hl 1 rfl) ?_
      refine x_callV (rm := rm_X12_acts) (rest := []) (As := [.int t]) C cy_RX12_465 g1 (by decide) (by decide) rfl rfl (Nat.le_of_ble_eq_true rfl) hl.1 dX12_goOn_59 (c_X12_acts l D cy a0 t σ _ h) (ks_v (fun σ12 h => ?_))
      exact t_X12_goOn_62 C hr hnm hL40 t _ h ls (lv_sub hl [0, 1] rfl)
def b_X12_goOn_38 (a0 : Nat)  (Q : Sto → Prop)  (σ : Sto) : Prop := LF (f_X12_goOn_40 a0  Q) ((0 : Int32)) σ
set_option maxHeartbeats 4000000 in
set_option maxRecDepth 100000 in
theorem t_X12_goOn_38 {p : Program} {l : Launch} {e : Env} {s : State} {m : MethodId} {args : Array Value} {below : List Frame} {meth : Method} {c : Code} {D : va_G} {cy : Nat → ClassId} {A : Nat → Prop} {a0 : Nat} {Q : Sto → Prop} (C : Cx p s m args meth c D cy A cX12_goOn 2 RX12) (hr : meth.sig.returnType = none) (hnm : meth.name = yX12_goOn.name)  (σ : Sto) (h : b_X12_goOn_38 a0  Q  σ) (ls : Array Slot) (hl : lv_has ls 2 [(0, .ref a0)]) : Xw p l e rm_X12_goOn s m args below meth c D cy A σ 0 0 (MQ below (Qst D cy A (PsV Q)) args s rm_X12_goOn.cells rm_X12_goOn.slots A) (F0 m 38 ls []) := by
  unfold b_X12_goOn_38 at h
  refine x_iconst (v := 0) C dX12_goOn_38 (by decide) ?_
  refine x_istore_n (i := 1) (lv' := [(1, .int (0 : Int32)), (0, .ref a0)]) C dX12_goOn_39 rfl hl (by decide) (by first | rfl | simp [vrc, cat_i, cat_r, cat_l]) (fun ls hl => ?_)
  exact h (fun t σ => ∀ ls : Array Slot, lv_has ls 2 [(0, .ref a0), (1, .int t)] → Xw p l e rm_X12_goOn s m args below meth c D cy A σ 0 0 (MQ below (Qst D cy A (PsV Q)) args s rm_X12_goOn.cells rm_X12_goOn.slots A) (F0 m 40 ls [])) (t_X12_goOn_40 C hr hnm  (fun t σ h => h)) ls (lv_sub hl [1, 0] rfl)
def wp_X12_goOn (a0 : Nat)  (σ : Sto) (Q : Sto → Prop) : Prop := (sK σ a0 = 12 ∧ (∀ x2 : Int32, x2 = sI σ a0 4 → (∀ x4 : Int32, x4 = x2 + (1 : Int32) → (∀ x6 : Int32, x6 = sI (stI σ a0 4 x4) a0 16 → ((¬ x6 = 0 → b_X12_goOn_38 a0  Q  (stI σ a0 4 x4)) ∧ (x6 = 0 → (∀ x9 : Int32, x9 = sI (stI σ a0 4 x4) a0 4 → (∀ x11 : Int32, x11 = sI (stI σ a0 4 x4) a0 19 → (∀ x13 : Int32, x13 = sI (stI σ a0 4 x4) a0 3 → (((x9 - x11) < x13 → b_X12_goOn_38 a0  Q  (stI σ a0 4 x4)) ∧ (¬ (x9 - x11) < x13 → (wp_X12_establish a0  (stI σ a0 4 x4) (fun (x17 : Int32) (σ16 : Sto) => b_X12_goOn_38 a0  Q  σ16)))))))))))))
set_option maxHeartbeats 4000000 in
set_option maxRecDepth 100000 in
theorem c_X12_goOn (l : Launch) (D : va_G) (cy : Nat → ClassId) (a0 : Nat)  (σ : Sto) (Q : Sto → Prop) (h : wp_X12_goOn a0  σ Q) : Mt l D cy yX12_goOn cX12_goOn 2 none rm_X12_goOn [.ref a0] σ (PsV Q) := by
  unfold wp_X12_goOn at h
  refine mt_of (by decide +kernel) (Nat.le_of_ble_eq_true rfl) ?_
  intro p e s m args below meth c A ls C hr hnm hl
  have C : Cx p s m args meth c D cy A cX12_goOn 2 RX12 := C
  have hl : lv_has ls 2 [(0, .ref a0)] := hl
  refine x_aload_n C dX12_goOn_0 rfl (lv_at hl 0 rfl) ?_
  refine x_dup C dX12_goOn_1 (rfl) ?_
  obtain ⟨g1, h⟩ := h
  refine x_getI C fl_RX12_318 g1 dX12_goOn_2 ?_
  refine x_topi (fun x2 e3 => ?_)
  have h := h x2 e3
  refine x_iconst (v := 1) C dX12_goOn_5 (by decide) ?_
  refine x_iadd C dX12_goOn_6 ?_
  refine x_topi (fun x4 e5 => ?_)
  have h := h x4 e5
  refine x_putI C fl_RX12_318 (Or.inl rfl) g1 dX12_goOn_7 ?_
  refine x_aload_n C dX12_goOn_10 rfl (lv_at hl 0 rfl) ?_
  refine x_getZ C fl_RX12_33 g1 dX12_goOn_11 ?_
  refine x_topi (fun x6 e7 => ?_)
  have h := h x6 e7
  refine x_if_ne (tgt := 38) C dX12_goOn_14 (by decide) (fun c8 => ?_) (fun c8 => ?_)
  · have h := h.1 c8
    exact t_X12_goOn_38 C hr hnm   _ h ls (lv_sub hl [0] rfl)
  · have h := h.2 c8
    refine x_aload_n C dX12_goOn_17 rfl (lv_at hl 0 rfl) ?_
    refine x_getI C fl_RX12_318 g1 dX12_goOn_18 ?_
    refine x_topi (fun x9 e10 => ?_)
    have h := h x9 e10
    refine x_aload_n C dX12_goOn_21 rfl (lv_at hl 0 rfl) ?_
    refine x_getI C fl_RX12_458 g1 dX12_goOn_22 ?_
    refine x_topi (fun x11 e12 => ?_)
    have h := h x11 e12
    refine x_isub C dX12_goOn_25 ?_
    refine x_aload_n C dX12_goOn_26 rfl (lv_at hl 0 rfl) ?_
    refine x_getI C fl_RX12_264 g1 dX12_goOn_27 ?_
    refine x_topi (fun x13 e14 => ?_)
    have h := h x13 e14
    refine x_icmp_lt (tgt := 38) C dX12_goOn_30 (by decide) (fun c15 => ?_) (fun c15 => ?_)
    · have h := h.1 c15
      exact t_X12_goOn_38 C hr hnm   _ h ls (lv_sub hl [0] rfl)
    · have h := h.2 c15
      refine x_aload_n C dX12_goOn_33 rfl (lv_at hl 0 rfl) ?_
      refine x_callV (rm := rm_X12_establish) (rest := []) (As := []) C cy_RX12_461 g1 (by decide) (by decide) rfl rfl (Nat.le_of_ble_eq_true rfl) hl.1 dX12_goOn_34 (c_X12_establish l D cy a0  (stI σ a0 4 x4) _ h) (ks_i (fun x17 σ16 h => ?_))
      refine x_istore_n (i := 1) (lv' := [(1, .int x17), (0, .ref a0)]) C dX12_goOn_37 rfl hl (by decide) (by first | rfl | simp [vrc, cat_i, cat_r, cat_l]) (fun ls hl => ?_)
      exact t_X12_goOn_38 C hr hnm   _ h ls (lv_sub hl [1] rfl)
theorem dX12_request_0 : decode cX12_request 0 = .ok (.aload_n 0, 1) := by decide +kernel
theorem dX12_request_1 : decode cX12_request 1 = .ok (.iconst 0, 1) := by decide +kernel
theorem dX12_request_2 : decode cX12_request 2 = .ok (.putfield 267, 3) := by decide +kernel
theorem dX12_request_5 : decode cX12_request 5 = .ok (.iload_n 1, 1) := by decide +kernel
theorem dX12_request_6 : decode cX12_request 6 = .ok (.invokestatic 471, 3) := by decide +kernel
theorem dX12_request_9 : decode cX12_request 9 = .ok (.ifCond .eq 13, 3) := by decide +kernel
theorem dX12_request_12 : decode cX12_request 12 = .ok (.iload_n 3, 1) := by decide +kernel
theorem dX12_request_13 : decode cX12_request 13 = .ok (.iconst 0, 1) := by decide +kernel
theorem dX12_request_14 : decode cX12_request 14 = .ok (.bipush 7, 2) := by decide +kernel
theorem dX12_request_16 : decode cX12_request 16 = .ok (.invokestatic 270, 3) := by decide +kernel
theorem dX12_request_19 : decode cX12_request 19 = .ok (.ifCond .ne 9, 3) := by decide +kernel
theorem dX12_request_22 : decode cX12_request 22 = .ok (.aload_n 0, 1) := by decide +kernel
theorem dX12_request_23 : decode cX12_request 23 = .ok (.iconst 1, 1) := by decide +kernel
theorem dX12_request_24 : decode cX12_request 24 = .ok (.invokevirtual 474, 3) := by decide +kernel
theorem dX12_request_27 : decode cX12_request 27 = .ok (.ireturn, 1) := by decide +kernel
theorem dX12_request_28 : decode cX12_request 28 = .ok (.iload_n 2, 1) := by decide +kernel
theorem dX12_request_29 : decode cX12_request 29 = .ok (.iconst 0, 1) := by decide +kernel
theorem dX12_request_30 : decode cX12_request 30 = .ok (.iconst 2, 1) := by decide +kernel
theorem dX12_request_31 : decode cX12_request 31 = .ok (.invokestatic 270, 3) := by decide +kernel
theorem dX12_request_34 : decode cX12_request 34 = .ok (.ifCond .ne 9, 3) := by decide +kernel
theorem dX12_request_37 : decode cX12_request 37 = .ok (.aload_n 0, 1) := by decide +kernel
theorem dX12_request_38 : decode cX12_request 38 = .ok (.iconst 2, 1) := by decide +kernel
theorem dX12_request_39 : decode cX12_request 39 = .ok (.invokevirtual 474, 3) := by decide +kernel
theorem dX12_request_42 : decode cX12_request 42 = .ok (.ireturn, 1) := by decide +kernel
theorem dX12_request_43 : decode cX12_request 43 = .ok (.aload_n 0, 1) := by decide +kernel
theorem dX12_request_44 : decode cX12_request 44 = .ok (.getfield 179, 3) := by decide +kernel
theorem dX12_request_47 : decode cX12_request 47 = .ok (.iload_n 1, 1) := by decide +kernel
theorem dX12_request_48 : decode cX12_request 48 = .ok (.baload, 1) := by decide +kernel
theorem dX12_request_49 : decode cX12_request 49 = .ok (.ifCond .eq 9, 3) := by decide +kernel
theorem dX12_request_52 : decode cX12_request 52 = .ok (.aload_n 0, 1) := by decide +kernel
theorem dX12_request_53 : decode cX12_request 53 = .ok (.iconst 3, 1) := by decide +kernel
theorem dX12_request_54 : decode cX12_request 54 = .ok (.invokevirtual 474, 3) := by decide +kernel
theorem dX12_request_57 : decode cX12_request 57 = .ok (.ireturn, 1) := by decide +kernel
theorem dX12_request_58 : decode cX12_request 58 = .ok (.aload_n 0, 1) := by decide +kernel
theorem dX12_request_59 : decode cX12_request 59 = .ok (.getfield 176, 3) := by decide +kernel
theorem dX12_request_62 : decode cX12_request 62 = .ok (.iload_n 1, 1) := by decide +kernel
theorem dX12_request_63 : decode cX12_request 63 = .ok (.dup2, 1) := by decide +kernel
theorem dX12_request_64 : decode cX12_request 64 = .ok (.iaload, 1) := by decide +kernel
theorem dX12_request_65 : decode cX12_request 65 = .ok (.iconst 1, 1) := by decide +kernel
theorem dX12_request_66 : decode cX12_request 66 = .ok (.iadd, 1) := by decide +kernel
theorem dX12_request_67 : decode cX12_request 67 = .ok (.iastore, 1) := by decide +kernel
theorem dX12_request_68 : decode cX12_request 68 = .ok (.aload_n 0, 1) := by decide +kernel
theorem dX12_request_69 : decode cX12_request 69 = .ok (.getfield 179, 3) := by decide +kernel
theorem dX12_request_72 : decode cX12_request 72 = .ok (.iload_n 1, 1) := by decide +kernel
theorem dX12_request_73 : decode cX12_request 73 = .ok (.iconst 1, 1) := by decide +kernel
theorem dX12_request_74 : decode cX12_request 74 = .ok (.bastore, 1) := by decide +kernel
theorem dX12_request_75 : decode cX12_request 75 = .ok (.aload_n 0, 1) := by decide +kernel
theorem dX12_request_76 : decode cX12_request 76 = .ok (.getfield 182, 3) := by decide +kernel
theorem dX12_request_79 : decode cX12_request 79 = .ok (.iload_n 1, 1) := by decide +kernel
theorem dX12_request_80 : decode cX12_request 80 = .ok (.iload_n 2, 1) := by decide +kernel
theorem dX12_request_81 : decode cX12_request 81 = .ok (.iastore, 1) := by decide +kernel
theorem dX12_request_82 : decode cX12_request 82 = .ok (.aload_n 0, 1) := by decide +kernel
theorem dX12_request_83 : decode cX12_request 83 = .ok (.getfield 185, 3) := by decide +kernel
theorem dX12_request_86 : decode cX12_request 86 = .ok (.iload_n 1, 1) := by decide +kernel
theorem dX12_request_87 : decode cX12_request 87 = .ok (.iload_n 3, 1) := by decide +kernel
theorem dX12_request_88 : decode cX12_request 88 = .ok (.iastore, 1) := by decide +kernel
theorem dX12_request_89 : decode cX12_request 89 = .ok (.aload_n 0, 1) := by decide +kernel
theorem dX12_request_90 : decode cX12_request 90 = .ok (.getfield 188, 3) := by decide +kernel
theorem dX12_request_93 : decode cX12_request 93 = .ok (.iload_n 1, 1) := by decide +kernel
theorem dX12_request_94 : decode cX12_request 94 = .ok (.iload 4, 2) := by decide +kernel
theorem dX12_request_96 : decode cX12_request 96 = .ok (.iastore, 1) := by decide +kernel
theorem dX12_request_97 : decode cX12_request 97 = .ok (.aload_n 0, 1) := by decide +kernel
theorem dX12_request_98 : decode cX12_request 98 = .ok (.getfield 206, 3) := by decide +kernel
theorem dX12_request_101 : decode cX12_request 101 = .ok (.iload_n 1, 1) := by decide +kernel
theorem dX12_request_102 : decode cX12_request 102 = .ok (.iconst 0, 1) := by decide +kernel
theorem dX12_request_103 : decode cX12_request 103 = .ok (.iastore, 1) := by decide +kernel
theorem dX12_request_104 : decode cX12_request 104 = .ok (.aload_n 0, 1) := by decide +kernel
theorem dX12_request_105 : decode cX12_request 105 = .ok (.iload_n 1, 1) := by decide +kernel
theorem dX12_request_106 : decode cX12_request 106 = .ok (.invokevirtual 468, 3) := by decide +kernel
theorem dX12_request_109 : decode cX12_request 109 = .ok (.aload_n 0, 1) := by decide +kernel
theorem dX12_request_110 : decode cX12_request 110 = .ok (.getfield 176, 3) := by decide +kernel
theorem dX12_request_113 : decode cX12_request 113 = .ok (.iload_n 1, 1) := by decide +kernel
theorem dX12_request_114 : decode cX12_request 114 = .ok (.iaload, 1) := by decide +kernel
theorem dX12_request_115 : decode cX12_request 115 = .ok (.ireturn, 1) := by decide +kernel
abbrev rm_X12_request : Room := { frames := 2, cells := 0, slots := 0, locals := 45 }
def b_X12_request_22 (a0 : Nat)  (Q : Int32 → Sto → Prop)  (σ : Sto) : Prop := (sK σ a0 = 12 ∧ (wp_X12_refuse a0 (1 : Int32) σ (fun (x3 : Int32) (σ2 : Sto) => Q x3 σ2)))
set_option maxHeartbeats 4000000 in
set_option maxRecDepth 100000 in
theorem t_X12_request_22 {p : Program} {l : Launch} {e : Env} {s : State} {m : MethodId} {args : Array Value} {below : List Frame} {meth : Method} {c : Code} {D : va_G} {cy : Nat → ClassId} {A : Nat → Prop} {a0 : Nat} {Q : Int32 → Sto → Prop} (C : Cx p s m args meth c D cy A cX12_request 5 RX12) (hr : meth.sig.returnType = (some .int)) (hnm : meth.name = yX12_request.name)  (σ : Sto) (h : b_X12_request_22 a0  Q  σ) (ls : Array Slot) (hl : lv_has ls 5 [(0, .ref a0)]) : Xw p l e rm_X12_request s m args below meth c D cy A σ 0 0 (MQ below (Qst D cy A (PsI Q)) args s rm_X12_request.cells rm_X12_request.slots A) (F0 m 22 ls []) := by
  unfold b_X12_request_22 at h
  refine x_aload_n C dX12_request_22 rfl (lv_at hl 0 rfl) ?_
  refine x_iconst (v := 1) C dX12_request_23 (by decide) ?_
  obtain ⟨g1, h⟩ := h
  refine x_callV (rm := rm_X12_refuse) (rest := []) (As := [.int (1 : Int32)]) C cy_RX12_474 g1 (by decide) (by decide) rfl rfl (Nat.le_of_ble_eq_true rfl) hl.1 dX12_request_24 (c_X12_refuse l D cy a0 (1 : Int32) σ _ h) (ks_i (fun x3 σ2 h => ?_))
  exact x_iret C hr dX12_request_27 ⟨_, rfl, h⟩
def wp_X12_request (a0 : Nat) (p1 : Int32) (p2 : Int32) (p3 : Int32) (p4 : Int32) (σ : Sto) (Q : Int32 → Sto → Prop) : Prop := (sK σ a0 = 12 ∧ (wp_X12_isClient p1 (stI σ a0 0 (0 : Int32)) (fun (x3 : Int32) (σ2 : Sto) => ((x3 = 0 → b_X12_request_22 a0  Q  σ2) ∧ (¬ x3 = 0 → (wp_X12_in p3 (0 : Int32) (7 : Int32) σ2 (fun (x6 : Int32) (σ5 : Sto) => ((¬ x6 = 0 → (wp_X12_in p2 (0 : Int32) (2 : Int32) σ5 (fun (x9 : Int32) (σ8 : Sto) => ((¬ x9 = 0 → (sK σ8 a0 = 12 ∧ (∃ b12 : Nat, sP σ8 a0 66 = some b12 ∧ (sK σ8 b12 = 16 ∧ (vp_in p1 (sN σ8 b12) ∧ (∀ x16 : Int32, x16 = sI σ8 b12 p1.toNatClampNeg → ((x16 = 0 → (∃ b19 : Nat, sP σ8 a0 65 = some b19 ∧ (sK σ8 b19 = 14 ∧ (vp_in p1 (sN σ8 b19) ∧ (∀ x23 : Int32, x23 = sI σ8 b19 p1.toNatClampNeg → (∀ x25 : Int32, x25 = x23 + (1 : Int32) → (vp_in p1 (sN σ8 b19) ∧ (vp_in p1 (sN σ8 b12) ∧ (∃ b29 : Nat, sP σ8 a0 67 = some b29 ∧ (sK σ8 b29 = 14 ∧ (vp_in p1 (sN σ8 b29) ∧ (∃ b33 : Nat, sP σ8 a0 68 = some b33 ∧ (sK σ8 b33 = 14 ∧ (vp_in p1 (sN σ8 b33) ∧ (∃ b37 : Nat, sP σ8 a0 69 = some b37 ∧ (sK σ8 b37 = 14 ∧ (vp_in p1 (sN σ8 b37) ∧ (∃ b41 : Nat, sP σ8 a0 75 = some b41 ∧ (sK σ8 b41 = 14 ∧ (vp_in p1 (sN σ8 b41) ∧ (wp_X12_stamp a0 p1 (stI (stI (stI (stI (stI (stI σ8 b19 p1.toNatClampNeg x25) b12 p1.toNatClampNeg (vp_nar .boolean (1 : Int32))) b29 p1.toNatClampNeg p2) b33 p1.toNatClampNeg p3) b37 p1.toNatClampNeg p4) b41 p1.toNatClampNeg (0 : Int32)) (fun (σ45 : Sto) => (sK σ45 a0 = 12 ∧ (∃ b47 : Nat, sP σ45 a0 65 = some b47 ∧ (sK σ45 b47 = 14 ∧ (vp_in p1 (sN σ45 b47) ∧ (∀ x51 : Int32, x51 = sI σ45 b47 p1.toNatClampNeg → Q x51 σ45))))))))))))))))))))))))))) ∧ (¬ x16 = 0 → (wp_X12_refuse a0 (3 : Int32) σ8 (fun (x54 : Int32) (σ53 : Sto) => Q x54 σ53)))))))))) ∧ (x9 = 0 → (sK σ8 a0 = 12 ∧ (wp_X12_refuse a0 (2 : Int32) σ8 (fun (x57 : Int32) (σ56 : Sto) => Q x57 σ56)))))))) ∧ (x6 = 0 → b_X12_request_22 a0  Q  σ5)))))))))
set_option maxHeartbeats 4000000 in
set_option maxRecDepth 100000 in
theorem c_X12_request (l : Launch) (D : va_G) (cy : Nat → ClassId) (a0 : Nat) (p1 : Int32) (p2 : Int32) (p3 : Int32) (p4 : Int32) (σ : Sto) (Q : Int32 → Sto → Prop) (h : wp_X12_request a0 p1 p2 p3 p4 σ Q) : Mt l D cy yX12_request cX12_request 5 (some .int) rm_X12_request [.ref a0, .int p1, .int p2, .int p3, .int p4] σ (PsI Q) := by
  unfold wp_X12_request at h
  refine mt_of (by decide +kernel) (Nat.le_of_ble_eq_true rfl) ?_
  intro p e s m args below meth c A ls C hr hnm hl
  have C : Cx p s m args meth c D cy A cX12_request 5 RX12 := C
  have hl : lv_has ls 5 [(0, .ref a0), (1, .int p1), (2, .int p2), (3, .int p3), (4, .int p4)] := hl
  refine x_aload_n C dX12_request_0 rfl (lv_at hl 0 rfl) ?_
  refine x_iconst (v := 0) C dX12_request_1 (by decide) ?_
  obtain ⟨g1, h⟩ := h
  refine x_putI C fl_RX12_267 (Or.inl rfl) g1 dX12_request_2 ?_
  refine x_iload_n C dX12_request_5 rfl (lv_at hl 1 rfl) ?_
  refine x_callS (rm := rm_X12_isClient) (rest := []) (As := [.int p1]) C cs_RX12_471 (by decide) (by decide) rfl rfl (Nat.le_of_ble_eq_true rfl) hl.1 dX12_request_6 (c_X12_isClient l D cy p1 (stI σ a0 0 (0 : Int32)) _ h) (ks_i (fun x3 σ2 h => ?_))
  refine x_if_eq (tgt := 22) C dX12_request_9 (by decide) (fun c4 => ?_) (fun c4 => ?_)
  · have h := h.1 c4
    exact t_X12_request_22 C hr hnm   _ h ls (lv_sub hl [0] rfl)
  · have h := h.2 c4
    refine x_iload_n C dX12_request_12 rfl (lv_at hl 3 rfl) ?_
    refine x_iconst (v := 0) C dX12_request_13 (by decide) ?_
    refine x_bipush (v := 7) C dX12_request_14 (by decide) ?_
    refine x_callS (rm := rm_X12_in) (rest := []) (As := [.int p3, .int (0 : Int32), .int (7 : Int32)]) C cs_RX12_270 (by decide) (by decide) rfl rfl (Nat.le_of_ble_eq_true rfl) hl.1 dX12_request_16 (c_X12_in l D cy p3 (0 : Int32) (7 : Int32) σ2 _ h) (ks_i (fun x6 σ5 h => ?_))
    refine x_if_ne (tgt := 28) C dX12_request_19 (by decide) (fun c7 => ?_) (fun c7 => ?_)
    · have h := h.1 c7
      refine x_iload_n C dX12_request_28 rfl (lv_at hl 2 rfl) ?_
      refine x_iconst (v := 0) C dX12_request_29 (by decide) ?_
      refine x_iconst (v := 2) C dX12_request_30 (by decide) ?_
      refine x_callS (rm := rm_X12_in) (rest := []) (As := [.int p2, .int (0 : Int32), .int (2 : Int32)]) C cs_RX12_270 (by decide) (by decide) rfl rfl (Nat.le_of_ble_eq_true rfl) hl.1 dX12_request_31 (c_X12_in l D cy p2 (0 : Int32) (2 : Int32) σ5 _ h) (ks_i (fun x9 σ8 h => ?_))
      refine x_if_ne (tgt := 43) C dX12_request_34 (by decide) (fun c10 => ?_) (fun c10 => ?_)
      · have h := h.1 c10
        refine x_aload_n C dX12_request_43 rfl (lv_at hl 0 rfl) ?_
        obtain ⟨g11, h⟩ := h
        refine x_getP C fl_RX12_179 g11 dX12_request_44 ?_
        refine x_iload_n C dX12_request_47 rfl (lv_at hl 1 rfl) ?_
        obtain ⟨b12, g13, h⟩ := h
        refine x_nn1 g13 ?_
        obtain ⟨g14, h⟩ := h
        obtain ⟨g15, h⟩ := h
        refine x_zald C g14 g15 dX12_request_48 ?_
        refine x_topi (fun x16 e17 => ?_)
        have h := h x16 e17
        refine x_if_eq (tgt := 58) C dX12_request_49 (by decide) (fun c18 => ?_) (fun c18 => ?_)
        · have h := h.1 c18
          refine x_aload_n C dX12_request_58 rfl (lv_at hl 0 rfl) ?_
          refine x_getP C fl_RX12_176 g11 dX12_request_59 ?_
          refine x_iload_n C dX12_request_62 rfl (lv_at hl 1 rfl) ?_
          refine x_dup2 C dX12_request_63 (rfl) (vrc _) ?_
          obtain ⟨b19, g20, h⟩ := h
          refine x_nn1 g20 ?_
          obtain ⟨g21, h⟩ := h
          obtain ⟨g22, h⟩ := h
          refine x_iald C g21 g22 dX12_request_64 ?_
          refine x_topi (fun x23 e24 => ?_)
          have h := h x23 e24
          refine x_iconst (v := 1) C dX12_request_65 (by decide) ?_
          refine x_iadd C dX12_request_66 ?_
          refine x_topi (fun x25 e26 => ?_)
          have h := h x25 e26
          refine x_nn2 g20 ?_
          obtain ⟨g27, h⟩ := h
          refine x_iast C g21 g27 dX12_request_67 ?_
          refine x_aload_n C dX12_request_68 rfl (lv_at hl 0 rfl) ?_
          refine x_getP C fl_RX12_179 g11 dX12_request_69 ?_
          refine x_iload_n C dX12_request_72 rfl (lv_at hl 1 rfl) ?_
          refine x_iconst (v := 1) C dX12_request_73 (by decide) ?_
          refine x_nn2 g13 ?_
          obtain ⟨g28, h⟩ := h
          refine x_zast C g14 g28 dX12_request_74 ?_
          refine x_aload_n C dX12_request_75 rfl (lv_at hl 0 rfl) ?_
          refine x_getP C fl_RX12_182 g11 dX12_request_76 ?_
          refine x_iload_n C dX12_request_79 rfl (lv_at hl 1 rfl) ?_
          refine x_iload_n C dX12_request_80 rfl (lv_at hl 2 rfl) ?_
          obtain ⟨b29, g30, h⟩ := h
          refine x_nn2 g30 ?_
          obtain ⟨g31, h⟩ := h
          obtain ⟨g32, h⟩ := h
          refine x_iast C g31 g32 dX12_request_81 ?_
          refine x_aload_n C dX12_request_82 rfl (lv_at hl 0 rfl) ?_
          refine x_getP C fl_RX12_185 g11 dX12_request_83 ?_
          refine x_iload_n C dX12_request_86 rfl (lv_at hl 1 rfl) ?_
          refine x_iload_n C dX12_request_87 rfl (lv_at hl 3 rfl) ?_
          obtain ⟨b33, g34, h⟩ := h
          refine x_nn2 g34 ?_
          obtain ⟨g35, h⟩ := h
          obtain ⟨g36, h⟩ := h
          refine x_iast C g35 g36 dX12_request_88 ?_
          refine x_aload_n C dX12_request_89 rfl (lv_at hl 0 rfl) ?_
          refine x_getP C fl_RX12_188 g11 dX12_request_90 ?_
          refine x_iload_n C dX12_request_93 rfl (lv_at hl 1 rfl) ?_
          refine x_iload C dX12_request_94 (lv_at hl 4 rfl) ?_
          obtain ⟨b37, g38, h⟩ := h
          refine x_nn2 g38 ?_
          obtain ⟨g39, h⟩ := h
          obtain ⟨g40, h⟩ := h
          refine x_iast C g39 g40 dX12_request_96 ?_
          refine x_aload_n C dX12_request_97 rfl (lv_at hl 0 rfl) ?_
          refine x_getP C fl_RX12_206 g11 dX12_request_98 ?_
          refine x_iload_n C dX12_request_101 rfl (lv_at hl 1 rfl) ?_
          refine x_iconst (v := 0) C dX12_request_102 (by decide) ?_
          obtain ⟨b41, g42, h⟩ := h
          refine x_nn2 g42 ?_
          obtain ⟨g43, h⟩ := h
          obtain ⟨g44, h⟩ := h
          refine x_iast C g43 g44 dX12_request_103 ?_
          refine x_aload_n C dX12_request_104 rfl (lv_at hl 0 rfl) ?_
          refine x_iload_n C dX12_request_105 rfl (lv_at hl 1 rfl) ?_
          refine x_callV (rm := rm_X12_stamp) (rest := []) (As := [.int p1]) C cy_RX12_468 g11 (by decide) (by decide) rfl rfl (Nat.le_of_ble_eq_true rfl) hl.1 dX12_request_106 (c_X12_stamp l D cy a0 p1 (stI (stI (stI (stI (stI (stI σ8 b19 p1.toNatClampNeg x25) b12 p1.toNatClampNeg (vp_nar .boolean (1 : Int32))) b29 p1.toNatClampNeg p2) b33 p1.toNatClampNeg p3) b37 p1.toNatClampNeg p4) b41 p1.toNatClampNeg (0 : Int32)) _ h) (ks_v (fun σ45 h => ?_))
          refine x_aload_n C dX12_request_109 rfl (lv_at hl 0 rfl) ?_
          obtain ⟨g46, h⟩ := h
          refine x_getP C fl_RX12_176 g46 dX12_request_110 ?_
          refine x_iload_n C dX12_request_113 rfl (lv_at hl 1 rfl) ?_
          obtain ⟨b47, g48, h⟩ := h
          refine x_nn1 g48 ?_
          obtain ⟨g49, h⟩ := h
          obtain ⟨g50, h⟩ := h
          refine x_iald C g49 g50 dX12_request_114 ?_
          refine x_topi (fun x51 e52 => ?_)
          have h := h x51 e52
          exact x_iret C hr dX12_request_115 ⟨_, rfl, h⟩
        · have h := h.2 c18
          refine x_aload_n C dX12_request_52 rfl (lv_at hl 0 rfl) ?_
          refine x_iconst (v := 3) C dX12_request_53 (by decide) ?_
          refine x_callV (rm := rm_X12_refuse) (rest := []) (As := [.int (3 : Int32)]) C cy_RX12_474 g11 (by decide) (by decide) rfl rfl (Nat.le_of_ble_eq_true rfl) hl.1 dX12_request_54 (c_X12_refuse l D cy a0 (3 : Int32) σ8 _ h) (ks_i (fun x54 σ53 h => ?_))
          exact x_iret C hr dX12_request_57 ⟨_, rfl, h⟩
      · have h := h.2 c10
        refine x_aload_n C dX12_request_37 rfl (lv_at hl 0 rfl) ?_
        refine x_iconst (v := 2) C dX12_request_38 (by decide) ?_
        obtain ⟨g55, h⟩ := h
        refine x_callV (rm := rm_X12_refuse) (rest := []) (As := [.int (2 : Int32)]) C cy_RX12_474 g55 (by decide) (by decide) rfl rfl (Nat.le_of_ble_eq_true rfl) hl.1 dX12_request_39 (c_X12_refuse l D cy a0 (2 : Int32) σ8 _ h) (ks_i (fun x57 σ56 h => ?_))
        exact x_iret C hr dX12_request_42 ⟨_, rfl, h⟩
    · have h := h.2 c7
      exact t_X12_request_22 C hr hnm   _ h ls (lv_sub hl [0] rfl)
theorem dX12_again_0 : decode cX12_again 0 = .ok (.aload_n 0, 1) := by decide +kernel
theorem dX12_again_1 : decode cX12_again 1 = .ok (.iload_n 1, 1) := by decide +kernel
theorem dX12_again_2 : decode cX12_again 2 = .ok (.invokestatic 471, 3) := by decide +kernel
theorem dX12_again_5 : decode cX12_again 5 = .ok (.ifCond .ne 7, 3) := by decide +kernel
theorem dX12_again_8 : decode cX12_again 8 = .ok (.iconst 1, 1) := by decide +kernel
theorem dX12_again_9 : decode cX12_again 9 = .ok (.goto 17, 3) := by decide +kernel
theorem dX12_again_12 : decode cX12_again 12 = .ok (.aload_n 0, 1) := by decide +kernel
theorem dX12_again_13 : decode cX12_again 13 = .ok (.getfield 179, 3) := by decide +kernel
theorem dX12_again_16 : decode cX12_again 16 = .ok (.iload_n 1, 1) := by decide +kernel
theorem dX12_again_17 : decode cX12_again 17 = .ok (.baload, 1) := by decide +kernel
theorem dX12_again_18 : decode cX12_again 18 = .ok (.ifCond .ne 7, 3) := by decide +kernel
theorem dX12_again_21 : decode cX12_again 21 = .ok (.iconst 2, 1) := by decide +kernel
theorem dX12_again_22 : decode cX12_again 22 = .ok (.goto 4, 3) := by decide +kernel
theorem dX12_again_25 : decode cX12_again 25 = .ok (.iconst 0, 1) := by decide +kernel
theorem dX12_again_26 : decode cX12_again 26 = .ok (.putfield 267, 3) := by decide +kernel
theorem dX12_again_29 : decode cX12_again 29 = .ok (.aload_n 0, 1) := by decide +kernel
theorem dX12_again_30 : decode cX12_again 30 = .ok (.getfield 267, 3) := by decide +kernel
theorem dX12_again_33 : decode cX12_again 33 = .ok (.ifCond .ne 8, 3) := by decide +kernel
theorem dX12_again_36 : decode cX12_again 36 = .ok (.aload_n 0, 1) := by decide +kernel
theorem dX12_again_37 : decode cX12_again 37 = .ok (.iload_n 1, 1) := by decide +kernel
theorem dX12_again_38 : decode cX12_again 38 = .ok (.invokevirtual 468, 3) := by decide +kernel
theorem dX12_again_41 : decode cX12_again 41 = .ok (.return_, 1) := by decide +kernel
abbrev rm_X12_again : Room := { frames := 2, cells := 0, slots := 0, locals := 45 }
def b_X12_again_26 (a0 : Nat)  (Q : Sto → Prop) (p1 : Int32) (s0 : Int32) (s1 : Nat) (σ : Sto) : Prop := (sK σ s1 = 12 ∧ (sK σ a0 = 12 ∧ (∀ x3 : Int32, x3 = sI (stI σ s1 0 s0) a0 0 → ((¬ x3 = 0 → Q (stI σ s1 0 s0)) ∧ (x3 = 0 → (wp_X12_stamp a0 p1 (stI σ s1 0 s0) (fun (σ6 : Sto) => Q σ6)))))))
set_option maxHeartbeats 4000000 in
set_option maxRecDepth 100000 in
theorem t_X12_again_26 {p : Program} {l : Launch} {e : Env} {s : State} {m : MethodId} {args : Array Value} {below : List Frame} {meth : Method} {c : Code} {D : va_G} {cy : Nat → ClassId} {A : Nat → Prop} {a0 : Nat} {Q : Sto → Prop} (C : Cx p s m args meth c D cy A cX12_again 2 RX12) (hr : meth.sig.returnType = none) (hnm : meth.name = yX12_again.name) (p1 : Int32) (s0 : Int32) (s1 : Nat) (σ : Sto) (h : b_X12_again_26 a0  Q p1 s0 s1 σ) (ls : Array Slot) (hl : lv_has ls 2 [(0, .ref a0), (1, .int p1)]) : Xw p l e rm_X12_again s m args below meth c D cy A σ 0 0 (MQ below (Qst D cy A (PsV Q)) args s rm_X12_again.cells rm_X12_again.slots A) (F0 m 26 ls [.int s0, .ref s1]) := by
  unfold b_X12_again_26 at h
  obtain ⟨g1, h⟩ := h
  refine x_putI C fl_RX12_267 (Or.inl rfl) g1 dX12_again_26 ?_
  refine x_aload_n C dX12_again_29 rfl (lv_at hl 0 rfl) ?_
  obtain ⟨g2, h⟩ := h
  refine x_getI C fl_RX12_267 g2 dX12_again_30 ?_
  refine x_topi (fun x3 e4 => ?_)
  have h := h x3 e4
  refine x_if_ne (tgt := 41) C dX12_again_33 (by decide) (fun c5 => ?_) (fun c5 => ?_)
  · have h := h.1 c5
    exact x_vret C hr dX12_again_41 ⟨rfl, h⟩
  · have h := h.2 c5
    refine x_aload_n C dX12_again_36 rfl (lv_at hl 0 rfl) ?_
    refine x_iload_n C dX12_again_37 rfl (lv_at hl 1 rfl) ?_
    refine x_callV (rm := rm_X12_stamp) (rest := []) (As := [.int p1]) C cy_RX12_468 g2 (by decide) (by decide) rfl rfl (Nat.le_of_ble_eq_true rfl) hl.1 dX12_again_38 (c_X12_stamp l D cy a0 p1 (stI σ s1 0 s0) _ h) (ks_v (fun σ6 h => ?_))
    exact x_vret C hr dX12_again_41 ⟨rfl, h⟩
def wp_X12_again (a0 : Nat) (p1 : Int32) (σ : Sto) (Q : Sto → Prop) : Prop := (wp_X12_isClient p1 σ (fun (x2 : Int32) (σ1 : Sto) => ((¬ x2 = 0 → (sK σ1 a0 = 12 ∧ (∃ b5 : Nat, sP σ1 a0 66 = some b5 ∧ (sK σ1 b5 = 16 ∧ (vp_in p1 (sN σ1 b5) ∧ (∀ x9 : Int32, x9 = sI σ1 b5 p1.toNatClampNeg → ((¬ x9 = 0 → b_X12_again_26 a0  Q p1 (0 : Int32) a0 σ1) ∧ (x9 = 0 → b_X12_again_26 a0  Q p1 (2 : Int32) a0 σ1)))))))) ∧ (x2 = 0 → b_X12_again_26 a0  Q p1 (1 : Int32) a0 σ1))))
set_option maxHeartbeats 4000000 in
set_option maxRecDepth 100000 in
theorem c_X12_again (l : Launch) (D : va_G) (cy : Nat → ClassId) (a0 : Nat) (p1 : Int32) (σ : Sto) (Q : Sto → Prop) (h : wp_X12_again a0 p1 σ Q) : Mt l D cy yX12_again cX12_again 2 none rm_X12_again [.ref a0, .int p1] σ (PsV Q) := by
  unfold wp_X12_again at h
  refine mt_of (by decide +kernel) (Nat.le_of_ble_eq_true rfl) ?_
  intro p e s m args below meth c A ls C hr hnm hl
  have C : Cx p s m args meth c D cy A cX12_again 2 RX12 := C
  have hl : lv_has ls 2 [(0, .ref a0), (1, .int p1)] := hl
  refine x_aload_n C dX12_again_0 rfl (lv_at hl 0 rfl) ?_
  refine x_iload_n C dX12_again_1 rfl (lv_at hl 1 rfl) ?_
  refine x_callS (rm := rm_X12_isClient) (rest := [.ref a0]) (As := [.int p1]) C cs_RX12_471 (by decide) (by decide) rfl rfl (Nat.le_of_ble_eq_true rfl) hl.1 dX12_again_2 (c_X12_isClient l D cy p1 σ _ h) (ks_i (fun x2 σ1 h => ?_))
  refine x_if_ne (tgt := 12) C dX12_again_5 (by decide) (fun c3 => ?_) (fun c3 => ?_)
  · have h := h.1 c3
    refine x_aload_n C dX12_again_12 rfl (lv_at hl 0 rfl) ?_
    obtain ⟨g4, h⟩ := h
    refine x_getP C fl_RX12_179 g4 dX12_again_13 ?_
    refine x_iload_n C dX12_again_16 rfl (lv_at hl 1 rfl) ?_
    obtain ⟨b5, g6, h⟩ := h
    refine x_nn1 g6 ?_
    obtain ⟨g7, h⟩ := h
    obtain ⟨g8, h⟩ := h
    refine x_zald C g7 g8 dX12_again_17 ?_
    refine x_topi (fun x9 e10 => ?_)
    have h := h x9 e10
    refine x_if_ne (tgt := 25) C dX12_again_18 (by decide) (fun c11 => ?_) (fun c11 => ?_)
    · have h := h.1 c11
      refine x_iconst (v := 0) C dX12_again_25 (by decide) ?_
      exact t_X12_again_26 C hr hnm  p1 (0 : Int32) a0 _ h ls (lv_sub hl [0, 1] rfl)
    · have h := h.2 c11
      refine x_iconst (v := 2) C dX12_again_21 (by decide) ?_
      refine x_goto (tgt := 26) C dX12_again_22 (by decide) ?_
      exact t_X12_again_26 C hr hnm  p1 (2 : Int32) a0 _ h ls (lv_sub hl [0, 1] rfl)
  · have h := h.2 c3
    refine x_iconst (v := 1) C dX12_again_8 (by decide) ?_
    refine x_goto (tgt := 26) C dX12_again_9 (by decide) ?_
    exact t_X12_again_26 C hr hnm  p1 (1 : Int32) a0 _ h ls (lv_sub hl [0, 1] rfl)
theorem dX12_deliver_0 : decode cX12_deliver 0 = .ok (.aload_n 0, 1) := by decide +kernel
theorem dX12_deliver_1 : decode cX12_deliver 1 = .ok (.iload_n 1, 1) := by decide +kernel
theorem dX12_deliver_2 : decode cX12_deliver 2 = .ok (.invokevirtual 477, 3) := by decide +kernel
theorem dX12_deliver_5 : decode cX12_deliver 5 = .ok (.istore_n 2, 1) := by decide +kernel
theorem dX12_deliver_6 : decode cX12_deliver 6 = .ok (.aload_n 0, 1) := by decide +kernel
theorem dX12_deliver_7 : decode cX12_deliver 7 = .ok (.iload_n 2, 1) := by decide +kernel
theorem dX12_deliver_8 : decode cX12_deliver 8 = .ok (.iconst (-1), 1) := by decide +kernel
theorem dX12_deliver_9 : decode cX12_deliver 9 = .ok (.if_icmp .ne 7, 3) := by decide +kernel
theorem dX12_deliver_12 : decode cX12_deliver 12 = .ok (.iconst 1, 1) := by decide +kernel
theorem dX12_deliver_13 : decode cX12_deliver 13 = .ok (.goto 4, 3) := by decide +kernel
theorem dX12_deliver_16 : decode cX12_deliver 16 = .ok (.iconst 0, 1) := by decide +kernel
theorem dX12_deliver_17 : decode cX12_deliver 17 = .ok (.putfield 267, 3) := by decide +kernel
theorem dX12_deliver_20 : decode cX12_deliver 20 = .ok (.aload_n 0, 1) := by decide +kernel
theorem dX12_deliver_21 : decode cX12_deliver 21 = .ok (.getfield 267, 3) := by decide +kernel
theorem dX12_deliver_24 : decode cX12_deliver 24 = .ok (.ifCond .ne 8, 3) := by decide +kernel
theorem dX12_deliver_27 : decode cX12_deliver 27 = .ok (.aload_n 0, 1) := by decide +kernel
theorem dX12_deliver_28 : decode cX12_deliver 28 = .ok (.iload_n 2, 1) := by decide +kernel
theorem dX12_deliver_29 : decode cX12_deliver 29 = .ok (.invokevirtual 480, 3) := by decide +kernel
theorem dX12_deliver_32 : decode cX12_deliver 32 = .ok (.return_, 1) := by decide +kernel
abbrev rm_X12_deliver : Room := { frames := 9, cells := 0, slots := 0, locals := 205 }
def b_X12_deliver_17 (a0 : Nat)  (Q : Sto → Prop) (p2 : Int32) (s0 : Int32) (s1 : Nat) (σ : Sto) : Prop := (sK σ s1 = 12 ∧ (sK σ a0 = 12 ∧ (∀ x3 : Int32, x3 = sI (stI σ s1 0 s0) a0 0 → ((¬ x3 = 0 → Q (stI σ s1 0 s0)) ∧ (x3 = 0 → (wp_X12_hand a0 p2 (stI σ s1 0 s0) (fun (σ6 : Sto) => Q σ6)))))))
set_option maxHeartbeats 4000000 in
set_option maxRecDepth 100000 in
theorem t_X12_deliver_17 {p : Program} {l : Launch} {e : Env} {s : State} {m : MethodId} {args : Array Value} {below : List Frame} {meth : Method} {c : Code} {D : va_G} {cy : Nat → ClassId} {A : Nat → Prop} {a0 : Nat} {Q : Sto → Prop} (C : Cx p s m args meth c D cy A cX12_deliver 3 RX12) (hr : meth.sig.returnType = none) (hnm : meth.name = yX12_deliver.name) (p2 : Int32) (s0 : Int32) (s1 : Nat) (σ : Sto) (h : b_X12_deliver_17 a0  Q p2 s0 s1 σ) (ls : Array Slot) (hl : lv_has ls 3 [(0, .ref a0), (2, .int p2)]) : Xw p l e rm_X12_deliver s m args below meth c D cy A σ 0 0 (MQ below (Qst D cy A (PsV Q)) args s rm_X12_deliver.cells rm_X12_deliver.slots A) (F0 m 17 ls [.int s0, .ref s1]) := by
  unfold b_X12_deliver_17 at h
  obtain ⟨g1, h⟩ := h
  refine x_putI C fl_RX12_267 (Or.inl rfl) g1 dX12_deliver_17 ?_
  refine x_aload_n C dX12_deliver_20 rfl (lv_at hl 0 rfl) ?_
  obtain ⟨g2, h⟩ := h
  refine x_getI C fl_RX12_267 g2 dX12_deliver_21 ?_
  refine x_topi (fun x3 e4 => ?_)
  have h := h x3 e4
  refine x_if_ne (tgt := 32) C dX12_deliver_24 (by decide) (fun c5 => ?_) (fun c5 => ?_)
  · have h := h.1 c5
    exact x_vret C hr dX12_deliver_32 ⟨rfl, h⟩
  · have h := h.2 c5
    refine x_aload_n C dX12_deliver_27 rfl (lv_at hl 0 rfl) ?_
    refine x_iload_n C dX12_deliver_28 rfl (lv_at hl 1 rfl) ?_
    refine x_callV (rm := rm_X12_hand) (rest := []) (As := [.int p2]) C cy_RX12_480 g2 (by decide) (by decide) rfl rfl (Nat.le_of_ble_eq_true rfl) hl.1 dX12_deliver_29 (c_X12_hand l D cy a0 p2 (stI σ s1 0 s0) _ h) (ks_v (fun σ6 h => ?_))
    exact x_vret C hr dX12_deliver_32 ⟨rfl, h⟩
def wp_X12_deliver (a0 : Nat) (p1 : Int32) (σ : Sto) (Q : Sto → Prop) : Prop := (sK σ a0 = 12 ∧ (wp_X12_find a0 p1 σ (fun (x3 : Int32) (σ2 : Sto) => ((¬ x3 = (-1 : Int32) → b_X12_deliver_17 a0  Q x3 (0 : Int32) a0 σ2) ∧ (x3 = (-1 : Int32) → b_X12_deliver_17 a0  Q x3 (1 : Int32) a0 σ2)))))
set_option maxHeartbeats 4000000 in
set_option maxRecDepth 100000 in
theorem c_X12_deliver (l : Launch) (D : va_G) (cy : Nat → ClassId) (a0 : Nat) (p1 : Int32) (σ : Sto) (Q : Sto → Prop) (h : wp_X12_deliver a0 p1 σ Q) : Mt l D cy yX12_deliver cX12_deliver 3 none rm_X12_deliver [.ref a0, .int p1] σ (PsV Q) := by
  unfold wp_X12_deliver at h
  refine mt_of (by decide +kernel) (Nat.le_of_ble_eq_true rfl) ?_
  intro p e s m args below meth c A ls C hr hnm hl
  have C : Cx p s m args meth c D cy A cX12_deliver 3 RX12 := C
  have hl : lv_has ls 3 [(0, .ref a0), (1, .int p1)] := hl
  refine x_aload_n C dX12_deliver_0 rfl (lv_at hl 0 rfl) ?_
  refine x_iload_n C dX12_deliver_1 rfl (lv_at hl 1 rfl) ?_
  obtain ⟨g1, h⟩ := h
  refine x_callV (rm := rm_X12_find) (rest := []) (As := [.int p1]) C cy_RX12_477 g1 (by decide) (by decide) rfl rfl (Nat.le_of_ble_eq_true rfl) hl.1 dX12_deliver_2 (c_X12_find l D cy a0 p1 σ _ h) (ks_i (fun x3 σ2 h => ?_))
  refine x_istore_n (i := 2) (lv' := [(2, .int x3), (0, .ref a0), (1, .int p1)]) C dX12_deliver_5 rfl hl (by decide) (by first | rfl | simp [vrc, cat_i, cat_r, cat_l]) (fun ls hl => ?_)
  refine x_aload_n C dX12_deliver_6 rfl (lv_at hl 1 rfl) ?_
  refine x_iload_n C dX12_deliver_7 rfl (lv_at hl 0 rfl) ?_
  refine x_iconst (v := -1) C dX12_deliver_8 (by decide) ?_
  refine x_icmp_ne (tgt := 16) C dX12_deliver_9 (by decide) (fun c4 => ?_) (fun c4 => ?_)
  · have h := h.1 c4
    refine x_iconst (v := 0) C dX12_deliver_16 (by decide) ?_
    exact t_X12_deliver_17 C hr hnm  x3 (0 : Int32) a0 _ h ls (lv_sub hl [1, 0] rfl)
  · have h := h.2 c4
    refine x_iconst (v := 1) C dX12_deliver_12 (by decide) ?_
    refine x_goto (tgt := 17) C dX12_deliver_13 (by decide) ?_
    exact t_X12_deliver_17 C hr hnm  x3 (1 : Int32) a0 _ h ls (lv_sub hl [1, 0] rfl)
theorem dX12_lose_0 : decode cX12_lose 0 = .ok (.aload_n 0, 1) := by decide +kernel
theorem dX12_lose_1 : decode cX12_lose 1 = .ok (.iload_n 1, 1) := by decide +kernel
theorem dX12_lose_2 : decode cX12_lose 2 = .ok (.invokevirtual 477, 3) := by decide +kernel
theorem dX12_lose_5 : decode cX12_lose 5 = .ok (.istore_n 2, 1) := by decide +kernel
theorem dX12_lose_6 : decode cX12_lose 6 = .ok (.aload_n 0, 1) := by decide +kernel
theorem dX12_lose_7 : decode cX12_lose 7 = .ok (.iload_n 2, 1) := by decide +kernel
theorem dX12_lose_8 : decode cX12_lose 8 = .ok (.iconst (-1), 1) := by decide +kernel
theorem dX12_lose_9 : decode cX12_lose 9 = .ok (.if_icmp .ne 7, 3) := by decide +kernel
theorem dX12_lose_12 : decode cX12_lose 12 = .ok (.iconst 1, 1) := by decide +kernel
theorem dX12_lose_13 : decode cX12_lose 13 = .ok (.goto 4, 3) := by decide +kernel
theorem dX12_lose_16 : decode cX12_lose 16 = .ok (.iconst 0, 1) := by decide +kernel
theorem dX12_lose_17 : decode cX12_lose 17 = .ok (.putfield 267, 3) := by decide +kernel
theorem dX12_lose_20 : decode cX12_lose 20 = .ok (.aload_n 0, 1) := by decide +kernel
theorem dX12_lose_21 : decode cX12_lose 21 = .ok (.getfield 267, 3) := by decide +kernel
theorem dX12_lose_24 : decode cX12_lose 24 = .ok (.ifCond .le 4, 3) := by decide +kernel
theorem dX12_lose_27 : decode cX12_lose 27 = .ok (.return_, 1) := by decide +kernel
theorem dX12_lose_28 : decode cX12_lose 28 = .ok (.aload_n 0, 1) := by decide +kernel
theorem dX12_lose_29 : decode cX12_lose 29 = .ok (.iload_n 2, 1) := by decide +kernel
theorem dX12_lose_30 : decode cX12_lose 30 = .ok (.invokevirtual 308, 3) := by decide +kernel
theorem dX12_lose_33 : decode cX12_lose 33 = .ok (.istore_n 3, 1) := by decide +kernel
theorem dX12_lose_34 : decode cX12_lose 34 = .ok (.aload_n 0, 1) := by decide +kernel
theorem dX12_lose_35 : decode cX12_lose 35 = .ok (.dup, 1) := by decide +kernel
theorem dX12_lose_36 : decode cX12_lose 36 = .ok (.getfield 284, 3) := by decide +kernel
theorem dX12_lose_39 : decode cX12_lose 39 = .ok (.iconst 1, 1) := by decide +kernel
theorem dX12_lose_40 : decode cX12_lose 40 = .ok (.iadd, 1) := by decide +kernel
theorem dX12_lose_41 : decode cX12_lose 41 = .ok (.putfield 284, 3) := by decide +kernel
theorem dX12_lose_44 : decode cX12_lose 44 = .ok (.return_, 1) := by decide +kernel
abbrev rm_X12_lose : Room := { frames := 1, cells := 0, slots := 0, locals := 23 }
def b_X12_lose_17 (a0 : Nat)  (Q : Sto → Prop) (p2 : Int32) (s0 : Int32) (s1 : Nat) (σ : Sto) : Prop := (sK σ s1 = 12 ∧ (sK σ a0 = 12 ∧ (∀ x3 : Int32, x3 = sI (stI σ s1 0 s0) a0 0 → ((x3 ≤ 0 → (wp_X12_remove a0 p2 (stI σ s1 0 s0) (fun (x7 : Int32) (σ6 : Sto) => (sK σ6 a0 = 12 ∧ (∀ x9 : Int32, x9 = sI σ6 a0 8 → (∀ x11 : Int32, x11 = x9 + (1 : Int32) → Q (stI σ6 a0 8 x11))))))) ∧ (¬ x3 ≤ 0 → Q (stI σ s1 0 s0))))))
set_option maxHeartbeats 4000000 in
set_option maxRecDepth 100000 in
theorem t_X12_lose_17 {p : Program} {l : Launch} {e : Env} {s : State} {m : MethodId} {args : Array Value} {below : List Frame} {meth : Method} {c : Code} {D : va_G} {cy : Nat → ClassId} {A : Nat → Prop} {a0 : Nat} {Q : Sto → Prop} (C : Cx p s m args meth c D cy A cX12_lose 4 RX12) (hr : meth.sig.returnType = none) (hnm : meth.name = yX12_lose.name) (p2 : Int32) (s0 : Int32) (s1 : Nat) (σ : Sto) (h : b_X12_lose_17 a0  Q p2 s0 s1 σ) (ls : Array Slot) (hl : lv_has ls 4 [(0, .ref a0), (2, .int p2)]) : Xw p l e rm_X12_lose s m args below meth c D cy A σ 0 0 (MQ below (Qst D cy A (PsV Q)) args s rm_X12_lose.cells rm_X12_lose.slots A) (F0 m 17 ls [.int s0, .ref s1]) := by
  unfold b_X12_lose_17 at h
  obtain ⟨g1, h⟩ := h
  refine x_putI C fl_RX12_267 (Or.inl rfl) g1 dX12_lose_17 ?_
  refine x_aload_n C dX12_lose_20 rfl (lv_at hl 0 rfl) ?_
  obtain ⟨g2, h⟩ := h
  refine x_getI C fl_RX12_267 g2 dX12_lose_21 ?_
  refine x_topi (fun x3 e4 => ?_)
  have h := h x3 e4
  refine x_if_le (tgt := 28) C dX12_lose_24 (by decide) (fun c5 => ?_) (fun c5 => ?_)
  · have h := h.1 c5
    refine x_aload_n C dX12_lose_28 rfl (lv_at hl 0 rfl) ?_
    refine x_iload_n C dX12_lose_29 rfl (lv_at hl 1 rfl) ?_
    refine x_callV (rm := rm_X12_remove) (rest := []) (As := [.int p2]) C cy_RX12_308 g2 (by decide) (by decide) rfl rfl (Nat.le_of_ble_eq_true rfl) hl.1 dX12_lose_30 (c_X12_remove l D cy a0 p2 (stI σ s1 0 s0) _ h) (ks_i (fun x7 σ6 h => ?_))
    refine x_istore_n (i := 3) (lv' := [(3, .int x7), (0, .ref a0), (2, .int p2)]) C dX12_lose_33 rfl hl (by decide) (by first | rfl | simp [vrc, cat_i, cat_r, cat_l]) (fun ls hl => ?_)
    refine x_aload_n C dX12_lose_34 rfl (lv_at hl 1 rfl) ?_
    refine x_dup C dX12_lose_35 (rfl) ?_
    obtain ⟨g8, h⟩ := h
    refine x_getI C fl_RX12_284 g8 dX12_lose_36 ?_
    refine x_topi (fun x9 e10 => ?_)
    have h := h x9 e10
    refine x_iconst (v := 1) C dX12_lose_39 (by decide) ?_
    refine x_iadd C dX12_lose_40 ?_
    refine x_topi (fun x11 e12 => ?_)
    have h := h x11 e12
    refine x_putI C fl_RX12_284 (Or.inl rfl) g8 dX12_lose_41 ?_
    exact x_vret C hr dX12_lose_44 ⟨rfl, h⟩
  · have h := h.2 c5
    exact x_vret C hr dX12_lose_27 ⟨rfl, h⟩
def wp_X12_lose (a0 : Nat) (p1 : Int32) (σ : Sto) (Q : Sto → Prop) : Prop := (sK σ a0 = 12 ∧ (wp_X12_find a0 p1 σ (fun (x3 : Int32) (σ2 : Sto) => ((¬ x3 = (-1 : Int32) → b_X12_lose_17 a0  Q x3 (0 : Int32) a0 σ2) ∧ (x3 = (-1 : Int32) → b_X12_lose_17 a0  Q x3 (1 : Int32) a0 σ2)))))
set_option maxHeartbeats 4000000 in
set_option maxRecDepth 100000 in
theorem c_X12_lose (l : Launch) (D : va_G) (cy : Nat → ClassId) (a0 : Nat) (p1 : Int32) (σ : Sto) (Q : Sto → Prop) (h : wp_X12_lose a0 p1 σ Q) : Mt l D cy yX12_lose cX12_lose 4 none rm_X12_lose [.ref a0, .int p1] σ (PsV Q) := by
  unfold wp_X12_lose at h
  refine mt_of (by decide +kernel) (Nat.le_of_ble_eq_true rfl) ?_
  intro p e s m args below meth c A ls C hr hnm hl
  have C : Cx p s m args meth c D cy A cX12_lose 4 RX12 := C
  have hl : lv_has ls 4 [(0, .ref a0), (1, .int p1)] := hl
  refine x_aload_n C dX12_lose_0 rfl (lv_at hl 0 rfl) ?_
  refine x_iload_n C dX12_lose_1 rfl (lv_at hl 1 rfl) ?_
  obtain ⟨g1, h⟩ := h
  refine x_callV (rm := rm_X12_find) (rest := []) (As := [.int p1]) C cy_RX12_477 g1 (by decide) (by decide) rfl rfl (Nat.le_of_ble_eq_true rfl) hl.1 dX12_lose_2 (c_X12_find l D cy a0 p1 σ _ h) (ks_i (fun x3 σ2 h => ?_))
  refine x_istore_n (i := 2) (lv' := [(2, .int x3), (0, .ref a0), (1, .int p1)]) C dX12_lose_5 rfl hl (by decide) (by first | rfl | simp [vrc, cat_i, cat_r, cat_l]) (fun ls hl => ?_)
  refine x_aload_n C dX12_lose_6 rfl (lv_at hl 1 rfl) ?_
  refine x_iload_n C dX12_lose_7 rfl (lv_at hl 0 rfl) ?_
  refine x_iconst (v := -1) C dX12_lose_8 (by decide) ?_
  refine x_icmp_ne (tgt := 16) C dX12_lose_9 (by decide) (fun c4 => ?_) (fun c4 => ?_)
  · have h := h.1 c4
    refine x_iconst (v := 0) C dX12_lose_16 (by decide) ?_
    exact t_X12_lose_17 C hr hnm  x3 (0 : Int32) a0 _ h ls (lv_sub hl [1, 0] rfl)
  · have h := h.2 c4
    refine x_iconst (v := 1) C dX12_lose_12 (by decide) ?_
    refine x_goto (tgt := 17) C dX12_lose_13 (by decide) ?_
    exact t_X12_lose_17 C hr hnm  x3 (1 : Int32) a0 _ h ls (lv_sub hl [1, 0] rfl)
theorem dX12_flow_0 : decode cX12_flow 0 = .ok (.aload_n 0, 1) := by decide +kernel
theorem dX12_flow_1 : decode cX12_flow 1 = .ok (.iload_n 1, 1) := by decide +kernel
theorem dX12_flow_2 : decode cX12_flow 2 = .ok (.iconst 0, 1) := by decide +kernel
theorem dX12_flow_3 : decode cX12_flow 3 = .ok (.bipush 40, 2) := by decide +kernel
theorem dX12_flow_5 : decode cX12_flow 5 = .ok (.invokestatic 270, 3) := by decide +kernel
theorem dX12_flow_8 : decode cX12_flow 8 = .ok (.ifCond .eq 7, 3) := by decide +kernel
theorem dX12_flow_11 : decode cX12_flow 11 = .ok (.iconst 0, 1) := by decide +kernel
theorem dX12_flow_12 : decode cX12_flow 12 = .ok (.goto 4, 3) := by decide +kernel
theorem dX12_flow_15 : decode cX12_flow 15 = .ok (.iconst 1, 1) := by decide +kernel
theorem dX12_flow_16 : decode cX12_flow 16 = .ok (.putfield 267, 3) := by decide +kernel
theorem dX12_flow_19 : decode cX12_flow 19 = .ok (.iconst 0, 1) := by decide +kernel
theorem dX12_flow_20 : decode cX12_flow 20 = .ok (.istore_n 2, 1) := by decide +kernel
theorem dX12_flow_21 : decode cX12_flow 21 = .ok (.aload_n 0, 1) := by decide +kernel
theorem dX12_flow_22 : decode cX12_flow 22 = .ok (.getfield 267, 3) := by decide +kernel
theorem dX12_flow_25 : decode cX12_flow 25 = .ok (.ifCond .ne 26, 3) := by decide +kernel
theorem dX12_flow_28 : decode cX12_flow 28 = .ok (.iload_n 2, 1) := by decide +kernel
theorem dX12_flow_29 : decode cX12_flow 29 = .ok (.iload_n 1, 1) := by decide +kernel
theorem dX12_flow_30 : decode cX12_flow 30 = .ok (.if_icmp .ge 21, 3) := by decide +kernel
theorem dX12_flow_33 : decode cX12_flow 33 = .ok (.aload_n 0, 1) := by decide +kernel
theorem dX12_flow_34 : decode cX12_flow 34 = .ok (.getfield 281, 3) := by decide +kernel
theorem dX12_flow_37 : decode cX12_flow 37 = .ok (.ifCond .le 14, 3) := by decide +kernel
theorem dX12_flow_40 : decode cX12_flow 40 = .ok (.aload_n 0, 1) := by decide +kernel
theorem dX12_flow_41 : decode cX12_flow 41 = .ok (.iconst 0, 1) := by decide +kernel
theorem dX12_flow_42 : decode cX12_flow 42 = .ok (.invokevirtual 480, 3) := by decide +kernel
theorem dX12_flow_45 : decode cX12_flow 45 = .ok (.iinc 2 1, 3) := by decide +kernel
theorem dX12_flow_48 : decode cX12_flow 48 = .ok (.goto (-27), 3) := by decide +kernel
theorem dX12_flow_51 : decode cX12_flow 51 = .ok (.iload_n 2, 1) := by decide +kernel
theorem dX12_flow_52 : decode cX12_flow 52 = .ok (.ireturn, 1) := by decide +kernel
abbrev rm_X12_flow : Room := { frames := 9, cells := 0, slots := 0, locals := 205 }
def f_X12_flow_21 (a0 : Nat)  (Q : Int32 → Sto → Prop) (L21 : Int32 × Int32 → Sto → Prop) (t : Int32 × Int32) (σ : Sto) : Prop := (sK σ a0 = 12 ∧ (∀ x2 : Int32, x2 = sI σ a0 0 → ((¬ x2 = 0 → Q t.2 σ) ∧ (x2 = 0 → ((t.1 ≤ t.2 → Q t.2 σ) ∧ (¬ t.1 ≤ t.2 → (∀ x6 : Int32, x6 = sI σ a0 6 → ((x6 ≤ 0 → Q t.2 σ) ∧ (¬ x6 ≤ 0 → (wp_X12_hand a0 (0 : Int32) σ (fun (σ9 : Sto) => (∀ x10 : Int32, x10 = t.2 + (1 : Int32) → L21 (t.1, x10) σ9))))))))))))
set_option maxHeartbeats 4000000 in
set_option maxRecDepth 100000 in
theorem t_X12_flow_21 {p : Program} {l : Launch} {e : Env} {s : State} {m : MethodId} {args : Array Value} {below : List Frame} {meth : Method} {c : Code} {D : va_G} {cy : Nat → ClassId} {A : Nat → Prop} {a0 : Nat} {Q : Int32 → Sto → Prop} {L21 : Int32 × Int32 → Sto → Prop} (C : Cx p s m args meth c D cy A cX12_flow 3 RX12) (hr : meth.sig.returnType = (some .int)) (hnm : meth.name = yX12_flow.name) (hL21 : ∀ (t : Int32 × Int32) (σ : Sto), L21 t σ → ∀ ls : Array Slot, lv_has ls 3 [(0, .ref a0), (1, .int t.1), (2, .int t.2)] → Xw p l e rm_X12_flow s m args below meth c D cy A σ 0 0 (MQ below (Qst D cy A (PsI Q)) args s rm_X12_flow.cells rm_X12_flow.slots A) (F0 m 21 ls [])) : ∀ (t : Int32 × Int32) (σ : Sto), f_X12_flow_21 a0  Q L21 t σ → ∀ ls : Array Slot, lv_has ls 3 [(0, .ref a0), (1, .int t.1), (2, .int t.2)] → Xw p l e rm_X12_flow s m args below meth c D cy A σ 0 0 (MQ below (Qst D cy A (PsI Q)) args s rm_X12_flow.cells rm_X12_flow.slots A) (F0 m 21 ls []) := by
  intro t σ h ls hl
  unfold f_X12_flow_21 at h
  refine x_aload_n C dX12_flow_21 rfl (lv_at hl 0 rfl) ?_
  obtain ⟨g1, h⟩ := h
  refine x_getI C fl_RX12_267 g1 dX12_flow_22 ?_
  refine x_topi (fun x2 e3 => ?_)
  have h := h x2 e3
  refine x_if_ne (tgt := 51) C dX12_flow_25 (by decide) (fun c4 => ?_) (fun c4 => ?_)
  · have h := h.1 c4
    refine x_iload_n C dX12_flow_51 rfl (lv_at hl 2 rfl) ?_
    exact x_iret C hr dX12_flow_52 ⟨_, rfl, h⟩
  · have h := h.2 c4
    refine x_iload_n C dX12_flow_28 rfl (lv_at hl 2 rfl) ?_
    refine x_iload_n C dX12_flow_29 rfl (lv_at hl 1 rfl) ?_
    refine x_icmp_ge (tgt := 51) C dX12_flow_30 (by decide) (fun c5 => ?_) (fun c5 => ?_)
    · have h := h.1 c5
      refine x_iload_n C dX12_flow_51 rfl (lv_at hl 2 rfl) ?_
      exact x_iret C hr dX12_flow_52 ⟨_, rfl, h⟩
    · have h := h.2 c5
      refine x_aload_n C dX12_flow_33 rfl (lv_at hl 0 rfl) ?_
      refine x_getI C fl_RX12_281 g1 dX12_flow_34 ?_
      refine x_topi (fun x6 e7 => ?_)
      have h := h x6 e7
      refine x_if_le (tgt := 51) C dX12_flow_37 (by decide) (fun c8 => ?_) (fun c8 => ?_)
      · have h := h.1 c8
        refine x_iload_n C dX12_flow_51 rfl (lv_at hl 2 rfl) ?_
        exact x_iret C hr dX12_flow_52 ⟨_, rfl, h⟩
      · have h := h.2 c8
        refine x_aload_n C dX12_flow_40 rfl (lv_at hl 0 rfl) ?_
        refine x_iconst (v := 0) C dX12_flow_41 (by decide) ?_
        refine x_callV (rm := rm_X12_hand) (rest := []) (As := [.int (0 : Int32)]) C cy_RX12_480 g1 (by decide) (by decide) rfl rfl (Nat.le_of_ble_eq_true rfl) hl.1 dX12_flow_42 (c_X12_hand l D cy a0 (0 : Int32) σ _ h) (ks_v (fun σ9 h => ?_))
        obtain ⟨x10, e11⟩ : ∃ z : Int32, z = t.2 + (1 : Int32) := ⟨_, rfl⟩
        have h := h x10 e11
        refine x_iinc (v := x10) (lv' := [(2, .int x10), (0, .ref a0), (1, .int t.1)]) C dX12_flow_45 hl (q0 := 2) rfl (by rw [e11]; rfl) (by decide) (by first | rfl | simp [vrc, cat_i, cat_r, cat_l]) (fun ls hl => ?_)
        refine x_goto (tgt := 21) C dX12_flow_48 (by decide) ?_
        exact hL21 (t.1, x10) _ h ls (lv_sub hl [1, 2, 0] rfl)
def b_X12_flow_16 (a0 : Nat)  (Q : Int32 → Sto → Prop) (p1 : Int32) (s0 : Int32) (s1 : Nat) (σ : Sto) : Prop := (sK σ s1 = 12 ∧ LF (f_X12_flow_21 a0  Q) (p1, (0 : Int32)) (stI σ s1 0 s0))
set_option maxHeartbeats 4000000 in
set_option maxRecDepth 100000 in
theorem t_X12_flow_16 {p : Program} {l : Launch} {e : Env} {s : State} {m : MethodId} {args : Array Value} {below : List Frame} {meth : Method} {c : Code} {D : va_G} {cy : Nat → ClassId} {A : Nat → Prop} {a0 : Nat} {Q : Int32 → Sto → Prop} (C : Cx p s m args meth c D cy A cX12_flow 3 RX12) (hr : meth.sig.returnType = (some .int)) (hnm : meth.name = yX12_flow.name) (p1 : Int32) (s0 : Int32) (s1 : Nat) (σ : Sto) (h : b_X12_flow_16 a0  Q p1 s0 s1 σ) (ls : Array Slot) (hl : lv_has ls 3 [(0, .ref a0), (1, .int p1)]) : Xw p l e rm_X12_flow s m args below meth c D cy A σ 0 0 (MQ below (Qst D cy A (PsI Q)) args s rm_X12_flow.cells rm_X12_flow.slots A) (F0 m 16 ls [.int s0, .ref s1]) := by
  unfold b_X12_flow_16 at h
  obtain ⟨g1, h⟩ := h
  refine x_putI C fl_RX12_267 (Or.inl rfl) g1 dX12_flow_16 ?_
  refine x_iconst (v := 0) C dX12_flow_19 (by decide) ?_
  refine x_istore_n (i := 2) (lv' := [(2, .int (0 : Int32)), (0, .ref a0), (1, .int p1)]) C dX12_flow_20 rfl hl (by decide) (by first | rfl | simp [vrc, cat_i, cat_r, cat_l]) (fun ls hl => ?_)
  exact h (fun t σ => ∀ ls : Array Slot, lv_has ls 3 [(0, .ref a0), (1, .int t.1), (2, .int t.2)] → Xw p l e rm_X12_flow s m args below meth c D cy A σ 0 0 (MQ below (Qst D cy A (PsI Q)) args s rm_X12_flow.cells rm_X12_flow.slots A) (F0 m 21 ls [])) (t_X12_flow_21 C hr hnm  (fun t σ h => h)) ls (lv_sub hl [1, 2, 0] rfl)
def wp_X12_flow (a0 : Nat) (p1 : Int32) (σ : Sto) (Q : Int32 → Sto → Prop) : Prop := (wp_X12_in p1 (0 : Int32) (40 : Int32) σ (fun (x2 : Int32) (σ1 : Sto) => ((x2 = 0 → b_X12_flow_16 a0  Q p1 (1 : Int32) a0 σ1) ∧ (¬ x2 = 0 → b_X12_flow_16 a0  Q p1 (0 : Int32) a0 σ1))))
set_option maxHeartbeats 4000000 in
set_option maxRecDepth 100000 in
theorem c_X12_flow (l : Launch) (D : va_G) (cy : Nat → ClassId) (a0 : Nat) (p1 : Int32) (σ : Sto) (Q : Int32 → Sto → Prop) (h : wp_X12_flow a0 p1 σ Q) : Mt l D cy yX12_flow cX12_flow 3 (some .int) rm_X12_flow [.ref a0, .int p1] σ (PsI Q) := by
  unfold wp_X12_flow at h
  refine mt_of (by decide +kernel) (Nat.le_of_ble_eq_true rfl) ?_
  intro p e s m args below meth c A ls C hr hnm hl
  have C : Cx p s m args meth c D cy A cX12_flow 3 RX12 := C
  have hl : lv_has ls 3 [(0, .ref a0), (1, .int p1)] := hl
  refine x_aload_n C dX12_flow_0 rfl (lv_at hl 0 rfl) ?_
  refine x_iload_n C dX12_flow_1 rfl (lv_at hl 1 rfl) ?_
  refine x_iconst (v := 0) C dX12_flow_2 (by decide) ?_
  refine x_bipush (v := 40) C dX12_flow_3 (by decide) ?_
  refine x_callS (rm := rm_X12_in) (rest := [.ref a0]) (As := [.int p1, .int (0 : Int32), .int (40 : Int32)]) C cs_RX12_270 (by decide) (by decide) rfl rfl (Nat.le_of_ble_eq_true rfl) hl.1 dX12_flow_5 (c_X12_in l D cy p1 (0 : Int32) (40 : Int32) σ _ h) (ks_i (fun x2 σ1 h => ?_))
  refine x_if_eq (tgt := 15) C dX12_flow_8 (by decide) (fun c3 => ?_) (fun c3 => ?_)
  · have h := h.1 c3
    refine x_iconst (v := 1) C dX12_flow_15 (by decide) ?_
    exact t_X12_flow_16 C hr hnm  p1 (1 : Int32) a0 _ h ls (lv_sub hl [0, 1] rfl)
  · have h := h.2 c3
    refine x_iconst (v := 0) C dX12_flow_11 (by decide) ?_
    refine x_goto (tgt := 16) C dX12_flow_12 (by decide) ?_
    exact t_X12_flow_16 C hr hnm  p1 (0 : Int32) a0 _ h ls (lv_sub hl [0, 1] rfl)
theorem dX12_downs_0 : decode cX12_downs 0 = .ok (.iconst 0, 1) := by decide +kernel
theorem dX12_downs_1 : decode cX12_downs 1 = .ok (.istore_n 1, 1) := by decide +kernel
theorem dX12_downs_2 : decode cX12_downs 2 = .ok (.iconst 0, 1) := by decide +kernel
theorem dX12_downs_3 : decode cX12_downs 3 = .ok (.istore_n 2, 1) := by decide +kernel
theorem dX12_downs_4 : decode cX12_downs 4 = .ok (.iload_n 2, 1) := by decide +kernel
theorem dX12_downs_5 : decode cX12_downs 5 = .ok (.aload_n 0, 1) := by decide +kernel
theorem dX12_downs_6 : decode cX12_downs 6 = .ok (.getfield 258, 3) := by decide +kernel
theorem dX12_downs_9 : decode cX12_downs 9 = .ok (.if_icmp .ge 26, 3) := by decide +kernel
theorem dX12_downs_12 : decode cX12_downs 12 = .ok (.iload_n 1, 1) := by decide +kernel
theorem dX12_downs_13 : decode cX12_downs 13 = .ok (.aload_n 0, 1) := by decide +kernel
theorem dX12_downs_14 : decode cX12_downs 14 = .ok (.getfield 41, 3) := by decide +kernel
theorem dX12_downs_17 : decode cX12_downs 17 = .ok (.iload_n 2, 1) := by decide +kernel
theorem dX12_downs_18 : decode cX12_downs 18 = .ok (.baload, 1) := by decide +kernel
theorem dX12_downs_19 : decode cX12_downs 19 = .ok (.ifCond .eq 7, 3) := by decide +kernel
theorem dX12_downs_22 : decode cX12_downs 22 = .ok (.iconst 1, 1) := by decide +kernel
theorem dX12_downs_23 : decode cX12_downs 23 = .ok (.goto 4, 3) := by decide +kernel
theorem dX12_downs_26 : decode cX12_downs 26 = .ok (.iconst 0, 1) := by decide +kernel
theorem dX12_downs_27 : decode cX12_downs 27 = .ok (.iadd, 1) := by decide +kernel
theorem dX12_downs_28 : decode cX12_downs 28 = .ok (.istore_n 1, 1) := by decide +kernel
theorem dX12_downs_29 : decode cX12_downs 29 = .ok (.iinc 2 1, 3) := by decide +kernel
theorem dX12_downs_32 : decode cX12_downs 32 = .ok (.goto (-28), 3) := by decide +kernel
theorem dX12_downs_35 : decode cX12_downs 35 = .ok (.iload_n 1, 1) := by decide +kernel
theorem dX12_downs_36 : decode cX12_downs 36 = .ok (.ireturn, 1) := by decide +kernel
abbrev rm_X12_downs : Room := { frames := 0, cells := 0, slots := 0, locals := 0 }
def b_X12_downs_27 (a0 : Nat) (L4 : Int32 × Int32 → Sto → Prop) (Q : Int32 → Sto → Prop) (p2 : Int32) (s0 : Int32) (s1 : Int32) (σ : Sto) : Prop := (∀ x1 : Int32, x1 = s1 + s0 → (∀ x3 : Int32, x3 = p2 + (1 : Int32) → L4 (x1, x3) σ))
set_option maxHeartbeats 4000000 in
set_option maxRecDepth 100000 in
theorem t_X12_downs_27 {p : Program} {l : Launch} {e : Env} {s : State} {m : MethodId} {args : Array Value} {below : List Frame} {meth : Method} {c : Code} {D : va_G} {cy : Nat → ClassId} {A : Nat → Prop} {a0 : Nat} {L4 : Int32 × Int32 → Sto → Prop} {Q : Int32 → Sto → Prop} (C : Cx p s m args meth c D cy A cX12_downs 3 RX12) (hr : meth.sig.returnType = (some .int)) (hnm : meth.name = yX12_downs.name) (hL4 : ∀ (t : Int32 × Int32) (σ : Sto), L4 t σ → ∀ ls : Array Slot, lv_has ls 3 [(0, .ref a0), (1, .int t.1), (2, .int t.2)] → Xw p l e rm_X12_downs s m args below meth c D cy A σ 0 0 (MQ below (Qst D cy A (PsI Q)) args s rm_X12_downs.cells rm_X12_downs.slots A) (F0 m 4 ls [])) (p2 : Int32) (s0 : Int32) (s1 : Int32) (σ : Sto) (h : b_X12_downs_27 a0 L4 Q p2 s0 s1 σ) (ls : Array Slot) (hl : lv_has ls 3 [(0, .ref a0), (2, .int p2)]) : Xw p l e rm_X12_downs s m args below meth c D cy A σ 0 0 (MQ below (Qst D cy A (PsI Q)) args s rm_X12_downs.cells rm_X12_downs.slots A) (F0 m 27 ls [.int s0, .int s1]) := by
  unfold b_X12_downs_27 at h
  refine x_iadd C dX12_downs_27 ?_
  refine x_topi (fun x1 e2 => ?_)
  have h := h x1 e2
  refine x_istore_n (i := 1) (lv' := [(1, .int x1), (0, .ref a0), (2, .int p2)]) C dX12_downs_28 rfl hl (by decide) (by first | rfl | simp [vrc, cat_i, cat_r, cat_l]) (fun ls hl => ?_)
  obtain ⟨x3, e4⟩ : ∃ z : Int32, z = p2 + (1 : Int32) := ⟨_, rfl⟩
  have h := h x3 e4
  refine x_iinc (v := x3) (lv' := [(2, .int x3), (1, .int x1), (0, .ref a0)]) C dX12_downs_29 hl (q0 := 2) rfl (by rw [e4]; rfl) (by decide) (by first | rfl | simp [vrc, cat_i, cat_r, cat_l]) (fun ls hl => ?_)
  refine x_goto (tgt := 4) C dX12_downs_32 (by decide) ?_
  exact hL4 (x1, x3) _ h ls (lv_sub hl [2, 1, 0] rfl)
def f_X12_downs_4 (a0 : Nat)  (Q : Int32 → Sto → Prop) (L4 : Int32 × Int32 → Sto → Prop) (t : Int32 × Int32) (σ : Sto) : Prop := (sK σ a0 = 12 ∧ (∀ x2 : Int32, x2 = sI σ a0 1 → ((x2 ≤ t.2 → Q t.1 σ) ∧ (¬ x2 ≤ t.2 → (∃ b5 : Nat, sP σ a0 20 = some b5 ∧ (sK σ b5 = 16 ∧ (vp_in t.2 (sN σ b5) ∧ (∀ x9 : Int32, x9 = sI σ b5 t.2.toNatClampNeg → ((x9 = 0 → b_X12_downs_27 a0 L4 Q t.2 (0 : Int32) t.1 σ) ∧ (¬ x9 = 0 → b_X12_downs_27 a0 L4 Q t.2 (1 : Int32) t.1 σ))))))))))
set_option maxHeartbeats 4000000 in
set_option maxRecDepth 100000 in
theorem t_X12_downs_4 {p : Program} {l : Launch} {e : Env} {s : State} {m : MethodId} {args : Array Value} {below : List Frame} {meth : Method} {c : Code} {D : va_G} {cy : Nat → ClassId} {A : Nat → Prop} {a0 : Nat} {Q : Int32 → Sto → Prop} {L4 : Int32 × Int32 → Sto → Prop} (C : Cx p s m args meth c D cy A cX12_downs 3 RX12) (hr : meth.sig.returnType = (some .int)) (hnm : meth.name = yX12_downs.name) (hL4 : ∀ (t : Int32 × Int32) (σ : Sto), L4 t σ → ∀ ls : Array Slot, lv_has ls 3 [(0, .ref a0), (1, .int t.1), (2, .int t.2)] → Xw p l e rm_X12_downs s m args below meth c D cy A σ 0 0 (MQ below (Qst D cy A (PsI Q)) args s rm_X12_downs.cells rm_X12_downs.slots A) (F0 m 4 ls [])) : ∀ (t : Int32 × Int32) (σ : Sto), f_X12_downs_4 a0  Q L4 t σ → ∀ ls : Array Slot, lv_has ls 3 [(0, .ref a0), (1, .int t.1), (2, .int t.2)] → Xw p l e rm_X12_downs s m args below meth c D cy A σ 0 0 (MQ below (Qst D cy A (PsI Q)) args s rm_X12_downs.cells rm_X12_downs.slots A) (F0 m 4 ls []) := by
  intro t σ h ls hl
  unfold f_X12_downs_4 at h
  refine x_iload_n C dX12_downs_4 rfl (lv_at hl 2 rfl) ?_
  refine x_aload_n C dX12_downs_5 rfl (lv_at hl 0 rfl) ?_
  obtain ⟨g1, h⟩ := h
  refine x_getI C fl_RX12_258 g1 dX12_downs_6 ?_
  refine x_topi (fun x2 e3 => ?_)
  have h := h x2 e3
  refine x_icmp_ge (tgt := 35) C dX12_downs_9 (by decide) (fun c4 => ?_) (fun c4 => ?_)
  · have h := h.1 c4
    refine x_iload_n C dX12_downs_35 rfl (lv_at hl 1 rfl) ?_
    exact x_iret C hr dX12_downs_36 ⟨_, rfl, h⟩
  · have h := h.2 c4
    refine x_iload_n C dX12_downs_12 rfl (lv_at hl 1 rfl) ?_
    refine x_aload_n C dX12_downs_13 rfl (lv_at hl 0 rfl) ?_
    refine x_getP C fl_RX12_41 g1 dX12_downs_14 ?_
    refine x_iload_n C dX12_downs_17 rfl (lv_at hl 2 rfl) ?_
    obtain ⟨b5, g6, h⟩ := h
    refine x_nn1 g6 ?_
    obtain ⟨g7, h⟩ := h
    obtain ⟨g8, h⟩ := h
    refine x_zald C g7 g8 dX12_downs_18 ?_
    refine x_topi (fun x9 e10 => ?_)
    have h := h x9 e10
    refine x_if_eq (tgt := 26) C dX12_downs_19 (by decide) (fun c11 => ?_) (fun c11 => ?_)
    · have h := h.1 c11
      refine x_iconst (v := 0) C dX12_downs_26 (by decide) ?_
      exact t_X12_downs_27 C hr hnm hL4 t.2 (0 : Int32) t.1 _ h ls (lv_sub hl [0, 2] rfl)
    · have h := h.2 c11
      refine x_iconst (v := 1) C dX12_downs_22 (by decide) ?_
      refine x_goto (tgt := 27) C dX12_downs_23 (by decide) ?_
      exact t_X12_downs_27 C hr hnm hL4 t.2 (1 : Int32) t.1 _ h ls (lv_sub hl [0, 2] rfl)
def wp_X12_downs (a0 : Nat)  (σ : Sto) (Q : Int32 → Sto → Prop) : Prop := LF (f_X12_downs_4 a0  Q) ((0 : Int32), (0 : Int32)) σ
set_option maxHeartbeats 4000000 in
set_option maxRecDepth 100000 in
theorem c_X12_downs (l : Launch) (D : va_G) (cy : Nat → ClassId) (a0 : Nat)  (σ : Sto) (Q : Int32 → Sto → Prop) (h : wp_X12_downs a0  σ Q) : Mt l D cy yX12_downs cX12_downs 3 (some .int) rm_X12_downs [.ref a0] σ (PsI Q) := by
  unfold wp_X12_downs at h
  refine mt_of (by decide +kernel) (Nat.le_of_ble_eq_true rfl) ?_
  intro p e s m args below meth c A ls C hr hnm hl
  have C : Cx p s m args meth c D cy A cX12_downs 3 RX12 := C
  have hl : lv_has ls 3 [(0, .ref a0)] := hl
  refine x_iconst (v := 0) C dX12_downs_0 (by decide) ?_
  refine x_istore_n (i := 1) (lv' := [(1, .int (0 : Int32)), (0, .ref a0)]) C dX12_downs_1 rfl hl (by decide) (by first | rfl | simp [vrc, cat_i, cat_r, cat_l]) (fun ls hl => ?_)
  refine x_iconst (v := 0) C dX12_downs_2 (by decide) ?_
  refine x_istore_n (i := 2) (lv' := [(2, .int (0 : Int32)), (1, .int (0 : Int32)), (0, .ref a0)]) C dX12_downs_3 rfl hl (by decide) (by first | rfl | simp [vrc, cat_i, cat_r, cat_l]) (fun ls hl => ?_)
  exact h (fun t σ => ∀ ls : Array Slot, lv_has ls 3 [(0, .ref a0), (1, .int t.1), (2, .int t.2)] → Xw p l e rm_X12_downs s m args below meth c D cy A σ 0 0 (MQ below (Qst D cy A (PsI Q)) args s rm_X12_downs.cells rm_X12_downs.slots A) (F0 m 4 ls [])) (t_X12_downs_4 C hr hnm  (fun t σ h => h)) ls (lv_sub hl [2, 1, 0] rfl)
theorem dX12_down_0 : decode cX12_down 0 = .ok (.aload_n 0, 1) := by decide +kernel
theorem dX12_down_1 : decode cX12_down 1 = .ok (.aload_n 0, 1) := by decide +kernel
theorem dX12_down_2 : decode cX12_down 2 = .ok (.iload_n 1, 1) := by decide +kernel
theorem dX12_down_3 : decode cX12_down 3 = .ok (.invokevirtual 483, 3) := by decide +kernel
theorem dX12_down_6 : decode cX12_down 6 = .ok (.ifCond .ne 7, 3) := by decide +kernel
theorem dX12_down_9 : decode cX12_down 9 = .ok (.iconst 1, 1) := by decide +kernel
theorem dX12_down_10 : decode cX12_down 10 = .ok (.goto 28, 3) := by decide +kernel
theorem dX12_down_13 : decode cX12_down 13 = .ok (.aload_n 0, 1) := by decide +kernel
theorem dX12_down_14 : decode cX12_down 14 = .ok (.getfield 41, 3) := by decide +kernel
theorem dX12_down_17 : decode cX12_down 17 = .ok (.iload_n 1, 1) := by decide +kernel
theorem dX12_down_18 : decode cX12_down 18 = .ok (.baload, 1) := by decide +kernel
theorem dX12_down_19 : decode cX12_down 19 = .ok (.ifCond .ne 14, 3) := by decide +kernel
theorem dX12_down_22 : decode cX12_down 22 = .ok (.aload_n 0, 1) := by decide +kernel
theorem dX12_down_23 : decode cX12_down 23 = .ok (.invokevirtual 486, 3) := by decide +kernel
theorem dX12_down_26 : decode cX12_down 26 = .ok (.aload_n 0, 1) := by decide +kernel
theorem dX12_down_27 : decode cX12_down 27 = .ok (.getfield 261, 3) := by decide +kernel
theorem dX12_down_30 : decode cX12_down 30 = .ok (.if_icmp .lt 7, 3) := by decide +kernel
theorem dX12_down_33 : decode cX12_down 33 = .ok (.iconst 2, 1) := by decide +kernel
theorem dX12_down_34 : decode cX12_down 34 = .ok (.goto 4, 3) := by decide +kernel
theorem dX12_down_37 : decode cX12_down 37 = .ok (.iconst 0, 1) := by decide +kernel
theorem dX12_down_38 : decode cX12_down 38 = .ok (.putfield 267, 3) := by decide +kernel
theorem dX12_down_41 : decode cX12_down 41 = .ok (.aload_n 0, 1) := by decide +kernel
theorem dX12_down_42 : decode cX12_down 42 = .ok (.getfield 267, 3) := by decide +kernel
theorem dX12_down_45 : decode cX12_down 45 = .ok (.ifCond .le 4, 3) := by decide +kernel
theorem dX12_down_48 : decode cX12_down 48 = .ok (.return_, 1) := by decide +kernel
theorem dX12_down_49 : decode cX12_down 49 = .ok (.aload_n 0, 1) := by decide +kernel
theorem dX12_down_50 : decode cX12_down 50 = .ok (.getfield 41, 3) := by decide +kernel
theorem dX12_down_53 : decode cX12_down 53 = .ok (.iload_n 1, 1) := by decide +kernel
theorem dX12_down_54 : decode cX12_down 54 = .ok (.iconst 1, 1) := by decide +kernel
theorem dX12_down_55 : decode cX12_down 55 = .ok (.bastore, 1) := by decide +kernel
theorem dX12_down_56 : decode cX12_down 56 = .ok (.aload_n 0, 1) := by decide +kernel
theorem dX12_down_57 : decode cX12_down 57 = .ok (.iload_n 1, 1) := by decide +kernel
theorem dX12_down_58 : decode cX12_down 58 = .ok (.invokevirtual 355, 3) := by decide +kernel
theorem dX12_down_61 : decode cX12_down 61 = .ok (.return_, 1) := by decide +kernel
abbrev rm_X12_down : Room := { frames := 2, cells := 0, slots := 0, locals := 43 }
def b_X12_down_38 (a0 : Nat)  (Q : Sto → Prop) (p1 : Int32) (s0 : Int32) (s1 : Nat) (σ : Sto) : Prop := (sK σ s1 = 12 ∧ (sK σ a0 = 12 ∧ (∀ x3 : Int32, x3 = sI (stI σ s1 0 s0) a0 0 → ((x3 ≤ 0 → (∃ b6 : Nat, sP σ a0 20 = some b6 ∧ (sK σ b6 = 16 ∧ (vp_in p1 (sN σ b6) ∧ (wp_X12_forgetCounts a0 p1 (stI (stI σ s1 0 s0) b6 p1.toNatClampNeg (vp_nar .boolean (1 : Int32))) (fun (σ10 : Sto) => Q σ10)))))) ∧ (¬ x3 ≤ 0 → Q (stI σ s1 0 s0))))))
set_option maxHeartbeats 4000000 in
set_option maxRecDepth 100000 in
theorem t_X12_down_38 {p : Program} {l : Launch} {e : Env} {s : State} {m : MethodId} {args : Array Value} {below : List Frame} {meth : Method} {c : Code} {D : va_G} {cy : Nat → ClassId} {A : Nat → Prop} {a0 : Nat} {Q : Sto → Prop} (C : Cx p s m args meth c D cy A cX12_down 2 RX12) (hr : meth.sig.returnType = none) (hnm : meth.name = yX12_down.name) (p1 : Int32) (s0 : Int32) (s1 : Nat) (σ : Sto) (h : b_X12_down_38 a0  Q p1 s0 s1 σ) (ls : Array Slot) (hl : lv_has ls 2 [(0, .ref a0), (1, .int p1)]) : Xw p l e rm_X12_down s m args below meth c D cy A σ 0 0 (MQ below (Qst D cy A (PsV Q)) args s rm_X12_down.cells rm_X12_down.slots A) (F0 m 38 ls [.int s0, .ref s1]) := by
  unfold b_X12_down_38 at h
  obtain ⟨g1, h⟩ := h
  refine x_putI C fl_RX12_267 (Or.inl rfl) g1 dX12_down_38 ?_
  refine x_aload_n C dX12_down_41 rfl (lv_at hl 0 rfl) ?_
  obtain ⟨g2, h⟩ := h
  refine x_getI C fl_RX12_267 g2 dX12_down_42 ?_
  refine x_topi (fun x3 e4 => ?_)
  have h := h x3 e4
  refine x_if_le (tgt := 49) C dX12_down_45 (by decide) (fun c5 => ?_) (fun c5 => ?_)
  · have h := h.1 c5
    refine x_aload_n C dX12_down_49 rfl (lv_at hl 0 rfl) ?_
    refine x_getP C fl_RX12_41 g2 dX12_down_50 ?_
    refine x_iload_n C dX12_down_53 rfl (lv_at hl 1 rfl) ?_
    refine x_iconst (v := 1) C dX12_down_54 (by decide) ?_
    obtain ⟨b6, g7, h⟩ := h
    refine x_nn2 g7 ?_
    obtain ⟨g8, h⟩ := h
    obtain ⟨g9, h⟩ := h
    refine x_zast C g8 g9 dX12_down_55 ?_
    refine x_aload_n C dX12_down_56 rfl (lv_at hl 0 rfl) ?_
    refine x_iload_n C dX12_down_57 rfl (lv_at hl 1 rfl) ?_
    refine x_callV (rm := rm_X12_forgetCounts) (rest := []) (As := [.int p1]) C cy_RX12_355 g2 (by decide) (by decide) rfl rfl (Nat.le_of_ble_eq_true rfl) hl.1 dX12_down_58 (c_X12_forgetCounts l D cy a0 p1 (stI (stI σ s1 0 s0) b6 p1.toNatClampNeg (vp_nar .boolean (1 : Int32))) _ h) (ks_v (fun σ10 h => ?_))
    exact x_vret C hr dX12_down_61 ⟨rfl, h⟩
  · have h := h.2 c5
    exact x_vret C hr dX12_down_48 ⟨rfl, h⟩
def b_X12_down_33 (a0 : Nat)  (Q : Sto → Prop) (p1 : Int32) (s0 : Nat) (σ : Sto) : Prop := b_X12_down_38 a0  Q p1 (2 : Int32) s0 σ
set_option maxHeartbeats 4000000 in
set_option maxRecDepth 100000 in
theorem t_X12_down_33 {p : Program} {l : Launch} {e : Env} {s : State} {m : MethodId} {args : Array Value} {below : List Frame} {meth : Method} {c : Code} {D : va_G} {cy : Nat → ClassId} {A : Nat → Prop} {a0 : Nat} {Q : Sto → Prop} (C : Cx p s m args meth c D cy A cX12_down 2 RX12) (hr : meth.sig.returnType = none) (hnm : meth.name = yX12_down.name) (p1 : Int32) (s0 : Nat) (σ : Sto) (h : b_X12_down_33 a0  Q p1 s0 σ) (ls : Array Slot) (hl : lv_has ls 2 [(0, .ref a0), (1, .int p1)]) : Xw p l e rm_X12_down s m args below meth c D cy A σ 0 0 (MQ below (Qst D cy A (PsV Q)) args s rm_X12_down.cells rm_X12_down.slots A) (F0 m 33 ls [.ref s0]) := by
  unfold b_X12_down_33 at h
  refine x_iconst (v := 2) C dX12_down_33 (by decide) ?_
  refine x_goto (tgt := 38) C dX12_down_34 (by decide) ?_
  exact t_X12_down_38 C hr hnm  p1 (2 : Int32) s0 _ h ls (lv_sub hl [0, 1] rfl)
def wp_X12_down (a0 : Nat) (p1 : Int32) (σ : Sto) (Q : Sto → Prop) : Prop := (sK σ a0 = 12 ∧ (wp_X12_isReplica a0 p1 σ (fun (x3 : Int32) (σ2 : Sto) => ((¬ x3 = 0 → (sK σ2 a0 = 12 ∧ (∃ b6 : Nat, sP σ2 a0 20 = some b6 ∧ (sK σ2 b6 = 16 ∧ (vp_in p1 (sN σ2 b6) ∧ (∀ x10 : Int32, x10 = sI σ2 b6 p1.toNatClampNeg → ((¬ x10 = 0 → b_X12_down_33 a0  Q p1 a0 σ2) ∧ (x10 = 0 → (wp_X12_downs a0  σ2 (fun (x14 : Int32) (σ13 : Sto) => (sK σ13 a0 = 12 ∧ (∀ x16 : Int32, x16 = sI σ13 a0 2 → ((x14 < x16 → b_X12_down_38 a0  Q p1 (0 : Int32) a0 σ13) ∧ (¬ x14 < x16 → b_X12_down_33 a0  Q p1 a0 σ13)))))))))))))) ∧ (x3 = 0 → b_X12_down_38 a0  Q p1 (1 : Int32) a0 σ2)))))
set_option maxHeartbeats 4000000 in
set_option maxRecDepth 100000 in
theorem c_X12_down (l : Launch) (D : va_G) (cy : Nat → ClassId) (a0 : Nat) (p1 : Int32) (σ : Sto) (Q : Sto → Prop) (h : wp_X12_down a0 p1 σ Q) : Mt l D cy yX12_down cX12_down 2 none rm_X12_down [.ref a0, .int p1] σ (PsV Q) := by
  unfold wp_X12_down at h
  refine mt_of (by decide +kernel) (Nat.le_of_ble_eq_true rfl) ?_
  intro p e s m args below meth c A ls C hr hnm hl
  have C : Cx p s m args meth c D cy A cX12_down 2 RX12 := C
  have hl : lv_has ls 2 [(0, .ref a0), (1, .int p1)] := hl
  refine x_aload_n C dX12_down_0 rfl (lv_at hl 0 rfl) ?_
  refine x_aload_n C dX12_down_1 rfl (lv_at hl 0 rfl) ?_
  refine x_iload_n C dX12_down_2 rfl (lv_at hl 1 rfl) ?_
  obtain ⟨g1, h⟩ := h
  refine x_callV (rm := rm_X12_isReplica) (rest := [.ref a0]) (As := [.int p1]) C cy_RX12_483 g1 (by decide) (by decide) rfl rfl (Nat.le_of_ble_eq_true rfl) hl.1 dX12_down_3 (c_X12_isReplica l D cy a0 p1 σ _ h) (ks_i (fun x3 σ2 h => ?_))
  refine x_if_ne (tgt := 13) C dX12_down_6 (by decide) (fun c4 => ?_) (fun c4 => ?_)
  · have h := h.1 c4
    refine x_aload_n C dX12_down_13 rfl (lv_at hl 0 rfl) ?_
    obtain ⟨g5, h⟩ := h
    refine x_getP C fl_RX12_41 g5 dX12_down_14 ?_
    refine x_iload_n C dX12_down_17 rfl (lv_at hl 1 rfl) ?_
    obtain ⟨b6, g7, h⟩ := h
    refine x_nn1 g7 ?_
    obtain ⟨g8, h⟩ := h
    obtain ⟨g9, h⟩ := h
    refine x_zald C g8 g9 dX12_down_18 ?_
    refine x_topi (fun x10 e11 => ?_)
    have h := h x10 e11
    refine x_if_ne (tgt := 33) C dX12_down_19 (by decide) (fun c12 => ?_) (fun c12 => ?_)
    · have h := h.1 c12
      exact t_X12_down_33 C hr hnm  p1 a0 _ h ls (lv_sub hl [0, 1] rfl)
    · have h := h.2 c12
      refine x_aload_n C dX12_down_22 rfl (lv_at hl 0 rfl) ?_
      refine x_callV (rm := rm_X12_downs) (rest := [.ref a0]) (As := []) C cy_RX12_486 g5 (by decide) (by decide) rfl rfl (Nat.le_of_ble_eq_true rfl) hl.1 dX12_down_23 (c_X12_downs l D cy a0  σ2 _ h) (ks_i (fun x14 σ13 h => ?_))
      refine x_aload_n C dX12_down_26 rfl (lv_at hl 0 rfl) ?_
      obtain ⟨g15, h⟩ := h
      refine x_getI C fl_RX12_261 g15 dX12_down_27 ?_
      refine x_topi (fun x16 e17 => ?_)
      have h := h x16 e17
      refine x_icmp_lt (tgt := 37) C dX12_down_30 (by decide) (fun c18 => ?_) (fun c18 => ?_)
      · have h := h.1 c18
        refine x_iconst (v := 0) C dX12_down_37 (by decide) ?_
        exact t_X12_down_38 C hr hnm  p1 (0 : Int32) a0 _ h ls (lv_sub hl [0, 1] rfl)
      · have h := h.2 c18
        exact t_X12_down_33 C hr hnm  p1 a0 _ h ls (lv_sub hl [0, 1] rfl)
  · have h := h.2 c4
    refine x_iconst (v := 1) C dX12_down_9 (by decide) ?_
    refine x_goto (tgt := 38) C dX12_down_10 (by decide) ?_
    exact t_X12_down_38 C hr hnm  p1 (1 : Int32) a0 _ h ls (lv_sub hl [0, 1] rfl)
theorem dX12_up_0 : decode cX12_up 0 = .ok (.aload_n 0, 1) := by decide +kernel
theorem dX12_up_1 : decode cX12_up 1 = .ok (.aload_n 0, 1) := by decide +kernel
theorem dX12_up_2 : decode cX12_up 2 = .ok (.iload_n 1, 1) := by decide +kernel
theorem dX12_up_3 : decode cX12_up 3 = .ok (.invokevirtual 483, 3) := by decide +kernel
theorem dX12_up_6 : decode cX12_up 6 = .ok (.ifCond .ne 7, 3) := by decide +kernel
theorem dX12_up_9 : decode cX12_up 9 = .ok (.iconst 1, 1) := by decide +kernel
theorem dX12_up_10 : decode cX12_up 10 = .ok (.goto 17, 3) := by decide +kernel
theorem dX12_up_13 : decode cX12_up 13 = .ok (.aload_n 0, 1) := by decide +kernel
theorem dX12_up_14 : decode cX12_up 14 = .ok (.getfield 41, 3) := by decide +kernel
theorem dX12_up_17 : decode cX12_up 17 = .ok (.iload_n 1, 1) := by decide +kernel
theorem dX12_up_18 : decode cX12_up 18 = .ok (.baload, 1) := by decide +kernel
theorem dX12_up_19 : decode cX12_up 19 = .ok (.ifCond .ne 7, 3) := by decide +kernel
theorem dX12_up_22 : decode cX12_up 22 = .ok (.iconst 2, 1) := by decide +kernel
theorem dX12_up_23 : decode cX12_up 23 = .ok (.goto 4, 3) := by decide +kernel
theorem dX12_up_26 : decode cX12_up 26 = .ok (.iconst 0, 1) := by decide +kernel
theorem dX12_up_27 : decode cX12_up 27 = .ok (.putfield 267, 3) := by decide +kernel
theorem dX12_up_30 : decode cX12_up 30 = .ok (.aload_n 0, 1) := by decide +kernel
theorem dX12_up_31 : decode cX12_up 31 = .ok (.getfield 267, 3) := by decide +kernel
theorem dX12_up_34 : decode cX12_up 34 = .ok (.ifCond .le 4, 3) := by decide +kernel
theorem dX12_up_37 : decode cX12_up 37 = .ok (.return_, 1) := by decide +kernel
theorem dX12_up_38 : decode cX12_up 38 = .ok (.aload_n 0, 1) := by decide +kernel
theorem dX12_up_39 : decode cX12_up 39 = .ok (.getfield 41, 3) := by decide +kernel
theorem dX12_up_42 : decode cX12_up 42 = .ok (.iload_n 1, 1) := by decide +kernel
theorem dX12_up_43 : decode cX12_up 43 = .ok (.iconst 0, 1) := by decide +kernel
theorem dX12_up_44 : decode cX12_up 44 = .ok (.bastore, 1) := by decide +kernel
theorem dX12_up_45 : decode cX12_up 45 = .ok (.aload_n 0, 1) := by decide +kernel
theorem dX12_up_46 : decode cX12_up 46 = .ok (.getfield 152, 3) := by decide +kernel
theorem dX12_up_49 : decode cX12_up 49 = .ok (.iload_n 1, 1) := by decide +kernel
theorem dX12_up_50 : decode cX12_up 50 = .ok (.aload_n 0, 1) := by decide +kernel
theorem dX12_up_51 : decode cX12_up 51 = .ok (.getfield 318, 3) := by decide +kernel
theorem dX12_up_54 : decode cX12_up 54 = .ok (.iastore, 1) := by decide +kernel
theorem dX12_up_55 : decode cX12_up 55 = .ok (.return_, 1) := by decide +kernel
abbrev rm_X12_up : Room := { frames := 2, cells := 0, slots := 0, locals := 43 }
def b_X12_up_27 (a0 : Nat)  (Q : Sto → Prop) (p1 : Int32) (s0 : Int32) (s1 : Nat) (σ : Sto) : Prop := (sK σ s1 = 12 ∧ (sK σ a0 = 12 ∧ (∀ x3 : Int32, x3 = sI (stI σ s1 0 s0) a0 0 → ((x3 ≤ 0 → (∃ b6 : Nat, sP σ a0 20 = some b6 ∧ (sK σ b6 = 16 ∧ (vp_in p1 (sN σ b6) ∧ (∀ x10 : Int32, x10 = sI (stI (stI σ s1 0 s0) b6 p1.toNatClampNeg (vp_nar .boolean (0 : Int32))) a0 4 → (∃ b12 : Nat, sP σ a0 57 = some b12 ∧ (sK σ b12 = 14 ∧ (vp_in p1 (sN σ b12) ∧ Q (stI (stI (stI σ s1 0 s0) b6 p1.toNatClampNeg (vp_nar .boolean (0 : Int32))) b12 p1.toNatClampNeg x10))))))))) ∧ (¬ x3 ≤ 0 → Q (stI σ s1 0 s0))))))
set_option maxHeartbeats 4000000 in
set_option maxRecDepth 100000 in
theorem t_X12_up_27 {p : Program} {l : Launch} {e : Env} {s : State} {m : MethodId} {args : Array Value} {below : List Frame} {meth : Method} {c : Code} {D : va_G} {cy : Nat → ClassId} {A : Nat → Prop} {a0 : Nat} {Q : Sto → Prop} (C : Cx p s m args meth c D cy A cX12_up 2 RX12) (hr : meth.sig.returnType = none) (hnm : meth.name = yX12_up.name) (p1 : Int32) (s0 : Int32) (s1 : Nat) (σ : Sto) (h : b_X12_up_27 a0  Q p1 s0 s1 σ) (ls : Array Slot) (hl : lv_has ls 2 [(0, .ref a0), (1, .int p1)]) : Xw p l e rm_X12_up s m args below meth c D cy A σ 0 0 (MQ below (Qst D cy A (PsV Q)) args s rm_X12_up.cells rm_X12_up.slots A) (F0 m 27 ls [.int s0, .ref s1]) := by
  unfold b_X12_up_27 at h
  obtain ⟨g1, h⟩ := h
  refine x_putI C fl_RX12_267 (Or.inl rfl) g1 dX12_up_27 ?_
  refine x_aload_n C dX12_up_30 rfl (lv_at hl 0 rfl) ?_
  obtain ⟨g2, h⟩ := h
  refine x_getI C fl_RX12_267 g2 dX12_up_31 ?_
  refine x_topi (fun x3 e4 => ?_)
  have h := h x3 e4
  refine x_if_le (tgt := 38) C dX12_up_34 (by decide) (fun c5 => ?_) (fun c5 => ?_)
  · have h := h.1 c5
    refine x_aload_n C dX12_up_38 rfl (lv_at hl 0 rfl) ?_
    refine x_getP C fl_RX12_41 g2 dX12_up_39 ?_
    refine x_iload_n C dX12_up_42 rfl (lv_at hl 1 rfl) ?_
    refine x_iconst (v := 0) C dX12_up_43 (by decide) ?_
    obtain ⟨b6, g7, h⟩ := h
    refine x_nn2 g7 ?_
    obtain ⟨g8, h⟩ := h
    obtain ⟨g9, h⟩ := h
    refine x_zast C g8 g9 dX12_up_44 ?_
    refine x_aload_n C dX12_up_45 rfl (lv_at hl 0 rfl) ?_
    refine x_getP C fl_RX12_152 g2 dX12_up_46 ?_
    refine x_iload_n C dX12_up_49 rfl (lv_at hl 1 rfl) ?_
    refine x_aload_n C dX12_up_50 rfl (lv_at hl 0 rfl) ?_
    refine x_getI C fl_RX12_318 g2 dX12_up_51 ?_
    refine x_topi (fun x10 e11 => ?_)
    have h := h x10 e11
    obtain ⟨b12, g13, h⟩ := h
    refine x_nn2 g13 ?_
    obtain ⟨g14, h⟩ := h
    obtain ⟨g15, h⟩ := h
    refine x_iast C g14 g15 dX12_up_54 ?_
    exact x_vret C hr dX12_up_55 ⟨rfl, h⟩
  · have h := h.2 c5
    exact x_vret C hr dX12_up_37 ⟨rfl, h⟩
def wp_X12_up (a0 : Nat) (p1 : Int32) (σ : Sto) (Q : Sto → Prop) : Prop := (sK σ a0 = 12 ∧ (wp_X12_isReplica a0 p1 σ (fun (x3 : Int32) (σ2 : Sto) => ((¬ x3 = 0 → (sK σ2 a0 = 12 ∧ (∃ b6 : Nat, sP σ2 a0 20 = some b6 ∧ (sK σ2 b6 = 16 ∧ (vp_in p1 (sN σ2 b6) ∧ (∀ x10 : Int32, x10 = sI σ2 b6 p1.toNatClampNeg → ((¬ x10 = 0 → b_X12_up_27 a0  Q p1 (0 : Int32) a0 σ2) ∧ (x10 = 0 → b_X12_up_27 a0  Q p1 (2 : Int32) a0 σ2)))))))) ∧ (x3 = 0 → b_X12_up_27 a0  Q p1 (1 : Int32) a0 σ2)))))
set_option maxHeartbeats 4000000 in
set_option maxRecDepth 100000 in
theorem c_X12_up (l : Launch) (D : va_G) (cy : Nat → ClassId) (a0 : Nat) (p1 : Int32) (σ : Sto) (Q : Sto → Prop) (h : wp_X12_up a0 p1 σ Q) : Mt l D cy yX12_up cX12_up 2 none rm_X12_up [.ref a0, .int p1] σ (PsV Q) := by
  unfold wp_X12_up at h
  refine mt_of (by decide +kernel) (Nat.le_of_ble_eq_true rfl) ?_
  intro p e s m args below meth c A ls C hr hnm hl
  have C : Cx p s m args meth c D cy A cX12_up 2 RX12 := C
  have hl : lv_has ls 2 [(0, .ref a0), (1, .int p1)] := hl
  refine x_aload_n C dX12_up_0 rfl (lv_at hl 0 rfl) ?_
  refine x_aload_n C dX12_up_1 rfl (lv_at hl 0 rfl) ?_
  refine x_iload_n C dX12_up_2 rfl (lv_at hl 1 rfl) ?_
  obtain ⟨g1, h⟩ := h
  refine x_callV (rm := rm_X12_isReplica) (rest := [.ref a0]) (As := [.int p1]) C cy_RX12_483 g1 (by decide) (by decide) rfl rfl (Nat.le_of_ble_eq_true rfl) hl.1 dX12_up_3 (c_X12_isReplica l D cy a0 p1 σ _ h) (ks_i (fun x3 σ2 h => ?_))
  refine x_if_ne (tgt := 13) C dX12_up_6 (by decide) (fun c4 => ?_) (fun c4 => ?_)
  · have h := h.1 c4
    refine x_aload_n C dX12_up_13 rfl (lv_at hl 0 rfl) ?_
    obtain ⟨g5, h⟩ := h
    refine x_getP C fl_RX12_41 g5 dX12_up_14 ?_
    refine x_iload_n C dX12_up_17 rfl (lv_at hl 1 rfl) ?_
    obtain ⟨b6, g7, h⟩ := h
    refine x_nn1 g7 ?_
    obtain ⟨g8, h⟩ := h
    obtain ⟨g9, h⟩ := h
    refine x_zald C g8 g9 dX12_up_18 ?_
    refine x_topi (fun x10 e11 => ?_)
    have h := h x10 e11
    refine x_if_ne (tgt := 26) C dX12_up_19 (by decide) (fun c12 => ?_) (fun c12 => ?_)
    · have h := h.1 c12
      refine x_iconst (v := 0) C dX12_up_26 (by decide) ?_
      exact t_X12_up_27 C hr hnm  p1 (0 : Int32) a0 _ h ls (lv_sub hl [0, 1] rfl)
    · have h := h.2 c12
      refine x_iconst (v := 2) C dX12_up_22 (by decide) ?_
      refine x_goto (tgt := 27) C dX12_up_23 (by decide) ?_
      exact t_X12_up_27 C hr hnm  p1 (2 : Int32) a0 _ h ls (lv_sub hl [0, 1] rfl)
  · have h := h.2 c4
    refine x_iconst (v := 1) C dX12_up_9 (by decide) ?_
    refine x_goto (tgt := 27) C dX12_up_10 (by decide) ?_
    exact t_X12_up_27 C hr hnm  p1 (1 : Int32) a0 _ h ls (lv_sub hl [0, 1] rfl)
theorem dX12_suspect_0 : decode cX12_suspect 0 = .ok (.aload_n 0, 1) := by decide +kernel
theorem dX12_suspect_1 : decode cX12_suspect 1 = .ok (.aload_n 0, 1) := by decide +kernel
theorem dX12_suspect_2 : decode cX12_suspect 2 = .ok (.iload_n 1, 1) := by decide +kernel
theorem dX12_suspect_3 : decode cX12_suspect 3 = .ok (.invokevirtual 483, 3) := by decide +kernel
theorem dX12_suspect_6 : decode cX12_suspect 6 = .ok (.ifCond .ne 7, 3) := by decide +kernel
theorem dX12_suspect_9 : decode cX12_suspect 9 = .ok (.iconst 1, 1) := by decide +kernel
theorem dX12_suspect_10 : decode cX12_suspect 10 = .ok (.goto 17, 3) := by decide +kernel
theorem dX12_suspect_13 : decode cX12_suspect 13 = .ok (.aload_n 0, 1) := by decide +kernel
theorem dX12_suspect_14 : decode cX12_suspect 14 = .ok (.getfield 41, 3) := by decide +kernel
theorem dX12_suspect_17 : decode cX12_suspect 17 = .ok (.iload_n 1, 1) := by decide +kernel
theorem dX12_suspect_18 : decode cX12_suspect 18 = .ok (.baload, 1) := by decide +kernel
theorem dX12_suspect_19 : decode cX12_suspect 19 = .ok (.ifCond .eq 7, 3) := by decide +kernel
theorem dX12_suspect_22 : decode cX12_suspect 22 = .ok (.iconst 2, 1) := by decide +kernel
theorem dX12_suspect_23 : decode cX12_suspect 23 = .ok (.goto 4, 3) := by decide +kernel
theorem dX12_suspect_26 : decode cX12_suspect 26 = .ok (.iconst 0, 1) := by decide +kernel
theorem dX12_suspect_27 : decode cX12_suspect 27 = .ok (.putfield 267, 3) := by decide +kernel
theorem dX12_suspect_30 : decode cX12_suspect 30 = .ok (.aload_n 0, 1) := by decide +kernel
theorem dX12_suspect_31 : decode cX12_suspect 31 = .ok (.getfield 267, 3) := by decide +kernel
theorem dX12_suspect_34 : decode cX12_suspect 34 = .ok (.ifCond .ne 22, 3) := by decide +kernel
theorem dX12_suspect_37 : decode cX12_suspect 37 = .ok (.aload_n 0, 1) := by decide +kernel
theorem dX12_suspect_38 : decode cX12_suspect 38 = .ok (.iload_n 1, 1) := by decide +kernel
theorem dX12_suspect_39 : decode cX12_suspect 39 = .ok (.aload_n 0, 1) := by decide +kernel
theorem dX12_suspect_40 : decode cX12_suspect 40 = .ok (.getfield 44, 3) := by decide +kernel
theorem dX12_suspect_43 : decode cX12_suspect 43 = .ok (.iload_n 1, 1) := by decide +kernel
theorem dX12_suspect_44 : decode cX12_suspect 44 = .ok (.iaload, 1) := by decide +kernel
theorem dX12_suspect_45 : decode cX12_suspect 45 = .ok (.iconst 1, 1) := by decide +kernel
theorem dX12_suspect_46 : decode cX12_suspect 46 = .ok (.iadd, 1) := by decide +kernel
theorem dX12_suspect_47 : decode cX12_suspect 47 = .ok (.aload_n 0, 1) := by decide +kernel
theorem dX12_suspect_48 : decode cX12_suspect 48 = .ok (.getfield 47, 3) := by decide +kernel
theorem dX12_suspect_51 : decode cX12_suspect 51 = .ok (.iload_n 1, 1) := by decide +kernel
theorem dX12_suspect_52 : decode cX12_suspect 52 = .ok (.iaload, 1) := by decide +kernel
theorem dX12_suspect_53 : decode cX12_suspect 53 = .ok (.invokevirtual 365, 3) := by decide +kernel
theorem dX12_suspect_56 : decode cX12_suspect 56 = .ok (.return_, 1) := by decide +kernel
abbrev rm_X12_suspect : Room := { frames := 5, cells := 0, slots := 0, locals := 113 }
def b_X12_suspect_27 (a0 : Nat)  (Q : Sto → Prop) (p1 : Int32) (s0 : Int32) (s1 : Nat) (σ : Sto) : Prop := (sK σ s1 = 12 ∧ (sK σ a0 = 12 ∧ (∀ x3 : Int32, x3 = sI (stI σ s1 0 s0) a0 0 → ((¬ x3 = 0 → Q (stI σ s1 0 s0)) ∧ (x3 = 0 → (∃ b6 : Nat, sP σ a0 21 = some b6 ∧ (sK σ b6 = 14 ∧ (vp_in p1 (sN σ b6) ∧ (∀ x10 : Int32, x10 = sI (stI σ s1 0 s0) b6 p1.toNatClampNeg → (∃ b12 : Nat, sP σ a0 22 = some b12 ∧ (sK σ b12 = 14 ∧ (vp_in p1 (sN σ b12) ∧ (∀ x16 : Int32, x16 = sI (stI σ s1 0 s0) b12 p1.toNatClampNeg → (wp_X12_turnsTo a0 p1 (x10 + (1 : Int32)) x16 (stI σ s1 0 s0) (fun (σ18 : Sto) => Q σ18)))))))))))))))
set_option maxHeartbeats 4000000 in
set_option maxRecDepth 100000 in
theorem t_X12_suspect_27 {p : Program} {l : Launch} {e : Env} {s : State} {m : MethodId} {args : Array Value} {below : List Frame} {meth : Method} {c : Code} {D : va_G} {cy : Nat → ClassId} {A : Nat → Prop} {a0 : Nat} {Q : Sto → Prop} (C : Cx p s m args meth c D cy A cX12_suspect 2 RX12) (hr : meth.sig.returnType = none) (hnm : meth.name = yX12_suspect.name) (p1 : Int32) (s0 : Int32) (s1 : Nat) (σ : Sto) (h : b_X12_suspect_27 a0  Q p1 s0 s1 σ) (ls : Array Slot) (hl : lv_has ls 2 [(0, .ref a0), (1, .int p1)]) : Xw p l e rm_X12_suspect s m args below meth c D cy A σ 0 0 (MQ below (Qst D cy A (PsV Q)) args s rm_X12_suspect.cells rm_X12_suspect.slots A) (F0 m 27 ls [.int s0, .ref s1]) := by
  unfold b_X12_suspect_27 at h
  obtain ⟨g1, h⟩ := h
  refine x_putI C fl_RX12_267 (Or.inl rfl) g1 dX12_suspect_27 ?_
  refine x_aload_n C dX12_suspect_30 rfl (lv_at hl 0 rfl) ?_
  obtain ⟨g2, h⟩ := h
  refine x_getI C fl_RX12_267 g2 dX12_suspect_31 ?_
  refine x_topi (fun x3 e4 => ?_)
  have h := h x3 e4
  refine x_if_ne (tgt := 56) C dX12_suspect_34 (by decide) (fun c5 => ?_) (fun c5 => ?_)
  · have h := h.1 c5
    exact x_vret C hr dX12_suspect_56 ⟨rfl, h⟩
  · have h := h.2 c5
    refine x_aload_n C dX12_suspect_37 rfl (lv_at hl 0 rfl) ?_
    refine x_iload_n C dX12_suspect_38 rfl (lv_at hl 1 rfl) ?_
    refine x_aload_n C dX12_suspect_39 rfl (lv_at hl 0 rfl) ?_
    refine x_getP C fl_RX12_44 g2 dX12_suspect_40 ?_
    refine x_iload_n C dX12_suspect_43 rfl (lv_at hl 1 rfl) ?_
    obtain ⟨b6, g7, h⟩ := h
    refine x_nn1 g7 ?_
    obtain ⟨g8, h⟩ := h
    obtain ⟨g9, h⟩ := h
    refine x_iald C g8 g9 dX12_suspect_44 ?_
    refine x_topi (fun x10 e11 => ?_)
    have h := h x10 e11
    refine x_iconst (v := 1) C dX12_suspect_45 (by decide) ?_
    refine x_iadd C dX12_suspect_46 ?_
    refine x_aload_n C dX12_suspect_47 rfl (lv_at hl 0 rfl) ?_
    refine x_getP C fl_RX12_47 g2 dX12_suspect_48 ?_
    refine x_iload_n C dX12_suspect_51 rfl (lv_at hl 1 rfl) ?_
    obtain ⟨b12, g13, h⟩ := h
    refine x_nn1 g13 ?_
    obtain ⟨g14, h⟩ := h
    obtain ⟨g15, h⟩ := h
    refine x_iald C g14 g15 dX12_suspect_52 ?_
    refine x_topi (fun x16 e17 => ?_)
    have h := h x16 e17
    refine x_callV (rm := rm_X12_turnsTo) (rest := []) (As := [.int p1, .int (x10 + (1 : Int32)), .int x16]) C cy_RX12_365 g2 (by decide) (by decide) rfl rfl (Nat.le_of_ble_eq_true rfl) hl.1 dX12_suspect_53 (c_X12_turnsTo l D cy a0 p1 (x10 + (1 : Int32)) x16 (stI σ s1 0 s0) _ h) (ks_v (fun σ18 h => ?_))
    exact x_vret C hr dX12_suspect_56 ⟨rfl, h⟩
def wp_X12_suspect (a0 : Nat) (p1 : Int32) (σ : Sto) (Q : Sto → Prop) : Prop := (sK σ a0 = 12 ∧ (wp_X12_isReplica a0 p1 σ (fun (x3 : Int32) (σ2 : Sto) => ((¬ x3 = 0 → (sK σ2 a0 = 12 ∧ (∃ b6 : Nat, sP σ2 a0 20 = some b6 ∧ (sK σ2 b6 = 16 ∧ (vp_in p1 (sN σ2 b6) ∧ (∀ x10 : Int32, x10 = sI σ2 b6 p1.toNatClampNeg → ((x10 = 0 → b_X12_suspect_27 a0  Q p1 (0 : Int32) a0 σ2) ∧ (¬ x10 = 0 → b_X12_suspect_27 a0  Q p1 (2 : Int32) a0 σ2)))))))) ∧ (x3 = 0 → b_X12_suspect_27 a0  Q p1 (1 : Int32) a0 σ2)))))
set_option maxHeartbeats 4000000 in
set_option maxRecDepth 100000 in
theorem c_X12_suspect (l : Launch) (D : va_G) (cy : Nat → ClassId) (a0 : Nat) (p1 : Int32) (σ : Sto) (Q : Sto → Prop) (h : wp_X12_suspect a0 p1 σ Q) : Mt l D cy yX12_suspect cX12_suspect 2 none rm_X12_suspect [.ref a0, .int p1] σ (PsV Q) := by
  unfold wp_X12_suspect at h
  refine mt_of (by decide +kernel) (Nat.le_of_ble_eq_true rfl) ?_
  intro p e s m args below meth c A ls C hr hnm hl
  have C : Cx p s m args meth c D cy A cX12_suspect 2 RX12 := C
  have hl : lv_has ls 2 [(0, .ref a0), (1, .int p1)] := hl
  refine x_aload_n C dX12_suspect_0 rfl (lv_at hl 0 rfl) ?_
  refine x_aload_n C dX12_suspect_1 rfl (lv_at hl 0 rfl) ?_
  refine x_iload_n C dX12_suspect_2 rfl (lv_at hl 1 rfl) ?_
  obtain ⟨g1, h⟩ := h
  refine x_callV (rm := rm_X12_isReplica) (rest := [.ref a0]) (As := [.int p1]) C cy_RX12_483 g1 (by decide) (by decide) rfl rfl (Nat.le_of_ble_eq_true rfl) hl.1 dX12_suspect_3 (c_X12_isReplica l D cy a0 p1 σ _ h) (ks_i (fun x3 σ2 h => ?_))
  refine x_if_ne (tgt := 13) C dX12_suspect_6 (by decide) (fun c4 => ?_) (fun c4 => ?_)
  · have h := h.1 c4
    refine x_aload_n C dX12_suspect_13 rfl (lv_at hl 0 rfl) ?_
    obtain ⟨g5, h⟩ := h
    refine x_getP C fl_RX12_41 g5 dX12_suspect_14 ?_
    refine x_iload_n C dX12_suspect_17 rfl (lv_at hl 1 rfl) ?_
    obtain ⟨b6, g7, h⟩ := h
    refine x_nn1 g7 ?_
    obtain ⟨g8, h⟩ := h
    obtain ⟨g9, h⟩ := h
    refine x_zald C g8 g9 dX12_suspect_18 ?_
    refine x_topi (fun x10 e11 => ?_)
    have h := h x10 e11
    refine x_if_eq (tgt := 26) C dX12_suspect_19 (by decide) (fun c12 => ?_) (fun c12 => ?_)
    · have h := h.1 c12
      refine x_iconst (v := 0) C dX12_suspect_26 (by decide) ?_
      exact t_X12_suspect_27 C hr hnm  p1 (0 : Int32) a0 _ h ls (lv_sub hl [0, 1] rfl)
    · have h := h.2 c12
      refine x_iconst (v := 2) C dX12_suspect_22 (by decide) ?_
      refine x_goto (tgt := 27) C dX12_suspect_23 (by decide) ?_
      exact t_X12_suspect_27 C hr hnm  p1 (2 : Int32) a0 _ h ls (lv_sub hl [0, 1] rfl)
  · have h := h.2 c4
    refine x_iconst (v := 1) C dX12_suspect_9 (by decide) ?_
    refine x_goto (tgt := 27) C dX12_suspect_10 (by decide) ?_
    exact t_X12_suspect_27 C hr hnm  p1 (1 : Int32) a0 _ h ls (lv_sub hl [0, 1] rfl)
theorem dX12_nudge_0 : decode cX12_nudge 0 = .ok (.aload_n 0, 1) := by decide +kernel
theorem dX12_nudge_1 : decode cX12_nudge 1 = .ok (.aload_n 0, 1) := by decide +kernel
theorem dX12_nudge_2 : decode cX12_nudge 2 = .ok (.iload_n 1, 1) := by decide +kernel
theorem dX12_nudge_3 : decode cX12_nudge 3 = .ok (.invokevirtual 483, 3) := by decide +kernel
theorem dX12_nudge_6 : decode cX12_nudge 6 = .ok (.ifCond .ne 7, 3) := by decide +kernel
theorem dX12_nudge_9 : decode cX12_nudge 9 = .ok (.iconst 1, 1) := by decide +kernel
theorem dX12_nudge_10 : decode cX12_nudge 10 = .ok (.goto 17, 3) := by decide +kernel
theorem dX12_nudge_13 : decode cX12_nudge 13 = .ok (.aload_n 0, 1) := by decide +kernel
theorem dX12_nudge_14 : decode cX12_nudge 14 = .ok (.getfield 41, 3) := by decide +kernel
theorem dX12_nudge_17 : decode cX12_nudge 17 = .ok (.iload_n 1, 1) := by decide +kernel
theorem dX12_nudge_18 : decode cX12_nudge 18 = .ok (.baload, 1) := by decide +kernel
theorem dX12_nudge_19 : decode cX12_nudge 19 = .ok (.ifCond .eq 7, 3) := by decide +kernel
theorem dX12_nudge_22 : decode cX12_nudge 22 = .ok (.iconst 2, 1) := by decide +kernel
theorem dX12_nudge_23 : decode cX12_nudge 23 = .ok (.goto 4, 3) := by decide +kernel
theorem dX12_nudge_26 : decode cX12_nudge 26 = .ok (.iconst 0, 1) := by decide +kernel
theorem dX12_nudge_27 : decode cX12_nudge 27 = .ok (.putfield 267, 3) := by decide +kernel
theorem dX12_nudge_30 : decode cX12_nudge 30 = .ok (.aload_n 0, 1) := by decide +kernel
theorem dX12_nudge_31 : decode cX12_nudge 31 = .ok (.getfield 267, 3) := by decide +kernel
theorem dX12_nudge_34 : decode cX12_nudge 34 = .ok (.ifCond .le 5, 3) := by decide +kernel
theorem dX12_nudge_37 : decode cX12_nudge 37 = .ok (.iconst 0, 1) := by decide +kernel
theorem dX12_nudge_38 : decode cX12_nudge 38 = .ok (.ireturn, 1) := by decide +kernel
theorem dX12_nudge_39 : decode cX12_nudge 39 = .ok (.aload_n 0, 1) := by decide +kernel
theorem dX12_nudge_40 : decode cX12_nudge 40 = .ok (.getfield 287, 3) := by decide +kernel
theorem dX12_nudge_43 : decode cX12_nudge 43 = .ok (.istore_n 2, 1) := by decide +kernel
theorem dX12_nudge_44 : decode cX12_nudge 44 = .ok (.aload_n 0, 1) := by decide +kernel
theorem dX12_nudge_45 : decode cX12_nudge 45 = .ok (.iload_n 1, 1) := by decide +kernel
theorem dX12_nudge_46 : decode cX12_nudge 46 = .ok (.invokevirtual 452, 3) := by decide +kernel
theorem dX12_nudge_49 : decode cX12_nudge 49 = .ok (.aload_n 0, 1) := by decide +kernel
theorem dX12_nudge_50 : decode cX12_nudge 50 = .ok (.getfield 287, 3) := by decide +kernel
theorem dX12_nudge_53 : decode cX12_nudge 53 = .ok (.iload_n 2, 1) := by decide +kernel
theorem dX12_nudge_54 : decode cX12_nudge 54 = .ok (.isub, 1) := by decide +kernel
theorem dX12_nudge_55 : decode cX12_nudge 55 = .ok (.ireturn, 1) := by decide +kernel
abbrev rm_X12_nudge : Room := { frames := 5, cells := 0, slots := 0, locals := 111 }
def b_X12_nudge_27 (a0 : Nat)  (Q : Int32 → Sto → Prop) (p1 : Int32) (s0 : Int32) (s1 : Nat) (σ : Sto) : Prop := (sK σ s1 = 12 ∧ (sK σ a0 = 12 ∧ (∀ x3 : Int32, x3 = sI (stI σ s1 0 s0) a0 0 → ((x3 ≤ 0 → (∀ x6 : Int32, x6 = sI (stI σ s1 0 s0) a0 7 → (wp_X12_asks a0 p1 (stI σ s1 0 s0) (fun (σ8 : Sto) => (sK σ8 a0 = 12 ∧ (∀ x10 : Int32, x10 = sI σ8 a0 7 → Q (x10 - x6) σ8)))))) ∧ (¬ x3 ≤ 0 → Q (0 : Int32) (stI σ s1 0 s0))))))
set_option maxHeartbeats 4000000 in
set_option maxRecDepth 100000 in
theorem t_X12_nudge_27 {p : Program} {l : Launch} {e : Env} {s : State} {m : MethodId} {args : Array Value} {below : List Frame} {meth : Method} {c : Code} {D : va_G} {cy : Nat → ClassId} {A : Nat → Prop} {a0 : Nat} {Q : Int32 → Sto → Prop} (C : Cx p s m args meth c D cy A cX12_nudge 3 RX12) (hr : meth.sig.returnType = (some .int)) (hnm : meth.name = yX12_nudge.name) (p1 : Int32) (s0 : Int32) (s1 : Nat) (σ : Sto) (h : b_X12_nudge_27 a0  Q p1 s0 s1 σ) (ls : Array Slot) (hl : lv_has ls 3 [(0, .ref a0), (1, .int p1)]) : Xw p l e rm_X12_nudge s m args below meth c D cy A σ 0 0 (MQ below (Qst D cy A (PsI Q)) args s rm_X12_nudge.cells rm_X12_nudge.slots A) (F0 m 27 ls [.int s0, .ref s1]) := by
  unfold b_X12_nudge_27 at h
  obtain ⟨g1, h⟩ := h
  refine x_putI C fl_RX12_267 (Or.inl rfl) g1 dX12_nudge_27 ?_
  refine x_aload_n C dX12_nudge_30 rfl (lv_at hl 0 rfl) ?_
  obtain ⟨g2, h⟩ := h
  refine x_getI C fl_RX12_267 g2 dX12_nudge_31 ?_
  refine x_topi (fun x3 e4 => ?_)
  have h := h x3 e4
  refine x_if_le (tgt := 39) C dX12_nudge_34 (by decide) (fun c5 => ?_) (fun c5 => ?_)
  · have h := h.1 c5
    refine x_aload_n C dX12_nudge_39 rfl (lv_at hl 0 rfl) ?_
    refine x_getI C fl_RX12_287 g2 dX12_nudge_40 ?_
    refine x_topi (fun x6 e7 => ?_)
    have h := h x6 e7
    refine x_istore_n (i := 2) (lv' := [(2, .int x6), (0, .ref a0), (1, .int p1)]) C dX12_nudge_43 rfl hl (by decide) (by first | rfl | simp [vrc, cat_i, cat_r, cat_l]) (fun ls hl => ?_)
    refine x_aload_n C dX12_nudge_44 rfl (lv_at hl 1 rfl) ?_
    refine x_iload_n C dX12_nudge_45 rfl (lv_at hl 2 rfl) ?_
    refine x_callV (rm := rm_X12_asks) (rest := []) (As := [.int p1]) C cy_RX12_452 g2 (by decide) (by decide) rfl rfl (Nat.le_of_ble_eq_true rfl) hl.1 dX12_nudge_46 (c_X12_asks l D cy a0 p1 (stI σ s1 0 s0) _ h) (ks_v (fun σ8 h => ?_))
    refine x_aload_n C dX12_nudge_49 rfl (lv_at hl 1 rfl) ?_
    obtain ⟨g9, h⟩ := h
    refine x_getI C fl_RX12_287 g9 dX12_nudge_50 ?_
    refine x_topi (fun x10 e11 => ?_)
    have h := h x10 e11
    refine x_iload_n C dX12_nudge_53 rfl (lv_at hl 0 rfl) ?_
    refine x_isub C dX12_nudge_54 ?_
    exact x_iret C hr dX12_nudge_55 ⟨_, rfl, h⟩
  · have h := h.2 c5
    refine x_iconst (v := 0) C dX12_nudge_37 (by decide) ?_
    exact x_iret C hr dX12_nudge_38 ⟨_, rfl, h⟩
def wp_X12_nudge (a0 : Nat) (p1 : Int32) (σ : Sto) (Q : Int32 → Sto → Prop) : Prop := (sK σ a0 = 12 ∧ (wp_X12_isReplica a0 p1 σ (fun (x3 : Int32) (σ2 : Sto) => ((¬ x3 = 0 → (sK σ2 a0 = 12 ∧ (∃ b6 : Nat, sP σ2 a0 20 = some b6 ∧ (sK σ2 b6 = 16 ∧ (vp_in p1 (sN σ2 b6) ∧ (∀ x10 : Int32, x10 = sI σ2 b6 p1.toNatClampNeg → ((x10 = 0 → b_X12_nudge_27 a0  Q p1 (0 : Int32) a0 σ2) ∧ (¬ x10 = 0 → b_X12_nudge_27 a0  Q p1 (2 : Int32) a0 σ2)))))))) ∧ (x3 = 0 → b_X12_nudge_27 a0  Q p1 (1 : Int32) a0 σ2)))))
set_option maxHeartbeats 4000000 in
set_option maxRecDepth 100000 in
theorem c_X12_nudge (l : Launch) (D : va_G) (cy : Nat → ClassId) (a0 : Nat) (p1 : Int32) (σ : Sto) (Q : Int32 → Sto → Prop) (h : wp_X12_nudge a0 p1 σ Q) : Mt l D cy yX12_nudge cX12_nudge 3 (some .int) rm_X12_nudge [.ref a0, .int p1] σ (PsI Q) := by
  unfold wp_X12_nudge at h
  refine mt_of (by decide +kernel) (Nat.le_of_ble_eq_true rfl) ?_
  intro p e s m args below meth c A ls C hr hnm hl
  have C : Cx p s m args meth c D cy A cX12_nudge 3 RX12 := C
  have hl : lv_has ls 3 [(0, .ref a0), (1, .int p1)] := hl
  refine x_aload_n C dX12_nudge_0 rfl (lv_at hl 0 rfl) ?_
  refine x_aload_n C dX12_nudge_1 rfl (lv_at hl 0 rfl) ?_
  refine x_iload_n C dX12_nudge_2 rfl (lv_at hl 1 rfl) ?_
  obtain ⟨g1, h⟩ := h
  refine x_callV (rm := rm_X12_isReplica) (rest := [.ref a0]) (As := [.int p1]) C cy_RX12_483 g1 (by decide) (by decide) rfl rfl (Nat.le_of_ble_eq_true rfl) hl.1 dX12_nudge_3 (c_X12_isReplica l D cy a0 p1 σ _ h) (ks_i (fun x3 σ2 h => ?_))
  refine x_if_ne (tgt := 13) C dX12_nudge_6 (by decide) (fun c4 => ?_) (fun c4 => ?_)
  · have h := h.1 c4
    refine x_aload_n C dX12_nudge_13 rfl (lv_at hl 0 rfl) ?_
    obtain ⟨g5, h⟩ := h
    refine x_getP C fl_RX12_41 g5 dX12_nudge_14 ?_
    refine x_iload_n C dX12_nudge_17 rfl (lv_at hl 1 rfl) ?_
    obtain ⟨b6, g7, h⟩ := h
    refine x_nn1 g7 ?_
    obtain ⟨g8, h⟩ := h
    obtain ⟨g9, h⟩ := h
    refine x_zald C g8 g9 dX12_nudge_18 ?_
    refine x_topi (fun x10 e11 => ?_)
    have h := h x10 e11
    refine x_if_eq (tgt := 26) C dX12_nudge_19 (by decide) (fun c12 => ?_) (fun c12 => ?_)
    · have h := h.1 c12
      refine x_iconst (v := 0) C dX12_nudge_26 (by decide) ?_
      exact t_X12_nudge_27 C hr hnm  p1 (0 : Int32) a0 _ h ls (lv_sub hl [0, 1] rfl)
    · have h := h.2 c12
      refine x_iconst (v := 2) C dX12_nudge_22 (by decide) ?_
      refine x_goto (tgt := 27) C dX12_nudge_23 (by decide) ?_
      exact t_X12_nudge_27 C hr hnm  p1 (2 : Int32) a0 _ h ls (lv_sub hl [0, 1] rfl)
  · have h := h.2 c4
    refine x_iconst (v := 1) C dX12_nudge_9 (by decide) ?_
    refine x_goto (tgt := 27) C dX12_nudge_10 (by decide) ?_
    exact t_X12_nudge_27 C hr hnm  p1 (1 : Int32) a0 _ h ls (lv_sub hl [0, 1] rfl)
theorem dX12_sync_0 : decode cX12_sync 0 = .ok (.aload_n 0, 1) := by decide +kernel
theorem dX12_sync_1 : decode cX12_sync 1 = .ok (.aload_n 0, 1) := by decide +kernel
theorem dX12_sync_2 : decode cX12_sync 2 = .ok (.iload_n 1, 1) := by decide +kernel
theorem dX12_sync_3 : decode cX12_sync 3 = .ok (.invokevirtual 483, 3) := by decide +kernel
theorem dX12_sync_6 : decode cX12_sync 6 = .ok (.ifCond .ne 7, 3) := by decide +kernel
theorem dX12_sync_9 : decode cX12_sync 9 = .ok (.iconst 1, 1) := by decide +kernel
theorem dX12_sync_10 : decode cX12_sync 10 = .ok (.goto 34, 3) := by decide +kernel
theorem dX12_sync_13 : decode cX12_sync 13 = .ok (.aload_n 0, 1) := by decide +kernel
theorem dX12_sync_14 : decode cX12_sync 14 = .ok (.getfield 41, 3) := by decide +kernel
theorem dX12_sync_17 : decode cX12_sync 17 = .ok (.iload_n 1, 1) := by decide +kernel
theorem dX12_sync_18 : decode cX12_sync 18 = .ok (.baload, 1) := by decide +kernel
theorem dX12_sync_19 : decode cX12_sync 19 = .ok (.ifCond .ne 20, 3) := by decide +kernel
theorem dX12_sync_22 : decode cX12_sync 22 = .ok (.aload_n 0, 1) := by decide +kernel
theorem dX12_sync_23 : decode cX12_sync 23 = .ok (.iload_n 1, 1) := by decide +kernel
theorem dX12_sync_24 : decode cX12_sync 24 = .ok (.invokevirtual 327, 3) := by decide +kernel
theorem dX12_sync_27 : decode cX12_sync 27 = .ok (.ifCond .eq 12, 3) := by decide +kernel
theorem dX12_sync_30 : decode cX12_sync 30 = .ok (.aload_n 0, 1) := by decide +kernel
theorem dX12_sync_31 : decode cX12_sync 31 = .ok (.getfield 50, 3) := by decide +kernel
theorem dX12_sync_34 : decode cX12_sync 34 = .ok (.iload_n 1, 1) := by decide +kernel
theorem dX12_sync_35 : decode cX12_sync 35 = .ok (.iaload, 1) := by decide +kernel
theorem dX12_sync_36 : decode cX12_sync 36 = .ok (.ifCond .eq 7, 3) := by decide +kernel
theorem dX12_sync_39 : decode cX12_sync 39 = .ok (.iconst 2, 1) := by decide +kernel
theorem dX12_sync_40 : decode cX12_sync 40 = .ok (.goto 4, 3) := by decide +kernel
theorem dX12_sync_43 : decode cX12_sync 43 = .ok (.iconst 0, 1) := by decide +kernel
theorem dX12_sync_44 : decode cX12_sync 44 = .ok (.putfield 267, 3) := by decide +kernel
theorem dX12_sync_47 : decode cX12_sync 47 = .ok (.aload_n 0, 1) := by decide +kernel
theorem dX12_sync_48 : decode cX12_sync 48 = .ok (.getfield 267, 3) := by decide +kernel
theorem dX12_sync_51 : decode cX12_sync 51 = .ok (.ifCond .ne 8, 3) := by decide +kernel
theorem dX12_sync_54 : decode cX12_sync 54 = .ok (.aload_n 0, 1) := by decide +kernel
theorem dX12_sync_55 : decode cX12_sync 55 = .ok (.iload_n 1, 1) := by decide +kernel
theorem dX12_sync_56 : decode cX12_sync 56 = .ok (.invokevirtual 455, 3) := by decide +kernel
theorem dX12_sync_59 : decode cX12_sync 59 = .ok (.return_, 1) := by decide +kernel
abbrev rm_X12_sync : Room := { frames := 3, cells := 0, slots := 0, locals := 67 }
def b_X12_sync_44 (a0 : Nat)  (Q : Sto → Prop) (p1 : Int32) (s0 : Int32) (s1 : Nat) (σ : Sto) : Prop := (sK σ s1 = 12 ∧ (sK σ a0 = 12 ∧ (∀ x3 : Int32, x3 = sI (stI σ s1 0 s0) a0 0 → ((¬ x3 = 0 → Q (stI σ s1 0 s0)) ∧ (x3 = 0 → (wp_X12_syncs a0 p1 (stI σ s1 0 s0) (fun (σ6 : Sto) => Q σ6)))))))
set_option maxHeartbeats 4000000 in
set_option maxRecDepth 100000 in
theorem t_X12_sync_44 {p : Program} {l : Launch} {e : Env} {s : State} {m : MethodId} {args : Array Value} {below : List Frame} {meth : Method} {c : Code} {D : va_G} {cy : Nat → ClassId} {A : Nat → Prop} {a0 : Nat} {Q : Sto → Prop} (C : Cx p s m args meth c D cy A cX12_sync 2 RX12) (hr : meth.sig.returnType = none) (hnm : meth.name = yX12_sync.name) (p1 : Int32) (s0 : Int32) (s1 : Nat) (σ : Sto) (h : b_X12_sync_44 a0  Q p1 s0 s1 σ) (ls : Array Slot) (hl : lv_has ls 2 [(0, .ref a0), (1, .int p1)]) : Xw p l e rm_X12_sync s m args below meth c D cy A σ 0 0 (MQ below (Qst D cy A (PsV Q)) args s rm_X12_sync.cells rm_X12_sync.slots A) (F0 m 44 ls [.int s0, .ref s1]) := by
  unfold b_X12_sync_44 at h
  obtain ⟨g1, h⟩ := h
  refine x_putI C fl_RX12_267 (Or.inl rfl) g1 dX12_sync_44 ?_
  refine x_aload_n C dX12_sync_47 rfl (lv_at hl 0 rfl) ?_
  obtain ⟨g2, h⟩ := h
  refine x_getI C fl_RX12_267 g2 dX12_sync_48 ?_
  refine x_topi (fun x3 e4 => ?_)
  have h := h x3 e4
  refine x_if_ne (tgt := 59) C dX12_sync_51 (by decide) (fun c5 => ?_) (fun c5 => ?_)
  · have h := h.1 c5
    exact x_vret C hr dX12_sync_59 ⟨rfl, h⟩
  · have h := h.2 c5
    refine x_aload_n C dX12_sync_54 rfl (lv_at hl 0 rfl) ?_
    refine x_iload_n C dX12_sync_55 rfl (lv_at hl 1 rfl) ?_
    refine x_callV (rm := rm_X12_syncs) (rest := []) (As := [.int p1]) C cy_RX12_455 g2 (by decide) (by decide) rfl rfl (Nat.le_of_ble_eq_true rfl) hl.1 dX12_sync_56 (c_X12_syncs l D cy a0 p1 (stI σ s1 0 s0) _ h) (ks_v (fun σ6 h => ?_))
    exact x_vret C hr dX12_sync_59 ⟨rfl, h⟩
def b_X12_sync_39 (a0 : Nat)  (Q : Sto → Prop) (p1 : Int32) (s0 : Nat) (σ : Sto) : Prop := b_X12_sync_44 a0  Q p1 (2 : Int32) s0 σ
set_option maxHeartbeats 4000000 in
set_option maxRecDepth 100000 in
theorem t_X12_sync_39 {p : Program} {l : Launch} {e : Env} {s : State} {m : MethodId} {args : Array Value} {below : List Frame} {meth : Method} {c : Code} {D : va_G} {cy : Nat → ClassId} {A : Nat → Prop} {a0 : Nat} {Q : Sto → Prop} (C : Cx p s m args meth c D cy A cX12_sync 2 RX12) (hr : meth.sig.returnType = none) (hnm : meth.name = yX12_sync.name) (p1 : Int32) (s0 : Nat) (σ : Sto) (h : b_X12_sync_39 a0  Q p1 s0 σ) (ls : Array Slot) (hl : lv_has ls 2 [(0, .ref a0), (1, .int p1)]) : Xw p l e rm_X12_sync s m args below meth c D cy A σ 0 0 (MQ below (Qst D cy A (PsV Q)) args s rm_X12_sync.cells rm_X12_sync.slots A) (F0 m 39 ls [.ref s0]) := by
  unfold b_X12_sync_39 at h
  refine x_iconst (v := 2) C dX12_sync_39 (by decide) ?_
  refine x_goto (tgt := 44) C dX12_sync_40 (by decide) ?_
  exact t_X12_sync_44 C hr hnm  p1 (2 : Int32) s0 _ h ls (lv_sub hl [0, 1] rfl)
def wp_X12_sync (a0 : Nat) (p1 : Int32) (σ : Sto) (Q : Sto → Prop) : Prop := (sK σ a0 = 12 ∧ (wp_X12_isReplica a0 p1 σ (fun (x3 : Int32) (σ2 : Sto) => ((¬ x3 = 0 → (sK σ2 a0 = 12 ∧ (∃ b6 : Nat, sP σ2 a0 20 = some b6 ∧ (sK σ2 b6 = 16 ∧ (vp_in p1 (sN σ2 b6) ∧ (∀ x10 : Int32, x10 = sI σ2 b6 p1.toNatClampNeg → ((¬ x10 = 0 → b_X12_sync_39 a0  Q p1 a0 σ2) ∧ (x10 = 0 → (wp_X12_leads a0 p1 σ2 (fun (x14 : Int32) (σ13 : Sto) => ((x14 = 0 → b_X12_sync_39 a0  Q p1 a0 σ13) ∧ (¬ x14 = 0 → (sK σ13 a0 = 12 ∧ (∃ b17 : Nat, sP σ13 a0 23 = some b17 ∧ (sK σ13 b17 = 14 ∧ (vp_in p1 (sN σ13 b17) ∧ (∀ x21 : Int32, x21 = sI σ13 b17 p1.toNatClampNeg → ((x21 = 0 → b_X12_sync_44 a0  Q p1 (0 : Int32) a0 σ13) ∧ (¬ x21 = 0 → b_X12_sync_39 a0  Q p1 a0 σ13))))))))))))))))))) ∧ (x3 = 0 → b_X12_sync_44 a0  Q p1 (1 : Int32) a0 σ2)))))
set_option maxHeartbeats 4000000 in
set_option maxRecDepth 100000 in
theorem c_X12_sync (l : Launch) (D : va_G) (cy : Nat → ClassId) (a0 : Nat) (p1 : Int32) (σ : Sto) (Q : Sto → Prop) (h : wp_X12_sync a0 p1 σ Q) : Mt l D cy yX12_sync cX12_sync 2 none rm_X12_sync [.ref a0, .int p1] σ (PsV Q) := by
  unfold wp_X12_sync at h
  refine mt_of (by decide +kernel) (Nat.le_of_ble_eq_true rfl) ?_
  intro p e s m args below meth c A ls C hr hnm hl
  have C : Cx p s m args meth c D cy A cX12_sync 2 RX12 := C
  have hl : lv_has ls 2 [(0, .ref a0), (1, .int p1)] := hl
  refine x_aload_n C dX12_sync_0 rfl (lv_at hl 0 rfl) ?_
  refine x_aload_n C dX12_sync_1 rfl (lv_at hl 0 rfl) ?_
  refine x_iload_n C dX12_sync_2 rfl (lv_at hl 1 rfl) ?_
  obtain ⟨g1, h⟩ := h
  refine x_callV (rm := rm_X12_isReplica) (rest := [.ref a0]) (As := [.int p1]) C cy_RX12_483 g1 (by decide) (by decide) rfl rfl (Nat.le_of_ble_eq_true rfl) hl.1 dX12_sync_3 (c_X12_isReplica l D cy a0 p1 σ _ h) (ks_i (fun x3 σ2 h => ?_))
  refine x_if_ne (tgt := 13) C dX12_sync_6 (by decide) (fun c4 => ?_) (fun c4 => ?_)
  · have h := h.1 c4
    refine x_aload_n C dX12_sync_13 rfl (lv_at hl 0 rfl) ?_
    obtain ⟨g5, h⟩ := h
    refine x_getP C fl_RX12_41 g5 dX12_sync_14 ?_
    refine x_iload_n C dX12_sync_17 rfl (lv_at hl 1 rfl) ?_
    obtain ⟨b6, g7, h⟩ := h
    refine x_nn1 g7 ?_
    obtain ⟨g8, h⟩ := h
    obtain ⟨g9, h⟩ := h
    refine x_zald C g8 g9 dX12_sync_18 ?_
    refine x_topi (fun x10 e11 => ?_)
    have h := h x10 e11
    refine x_if_ne (tgt := 39) C dX12_sync_19 (by decide) (fun c12 => ?_) (fun c12 => ?_)
    · have h := h.1 c12
      exact t_X12_sync_39 C hr hnm  p1 a0 _ h ls (lv_sub hl [0, 1] rfl)
    · have h := h.2 c12
      refine x_aload_n C dX12_sync_22 rfl (lv_at hl 0 rfl) ?_
      refine x_iload_n C dX12_sync_23 rfl (lv_at hl 1 rfl) ?_
      refine x_callV (rm := rm_X12_leads) (rest := [.ref a0]) (As := [.int p1]) C cy_RX12_327 g5 (by decide) (by decide) rfl rfl (Nat.le_of_ble_eq_true rfl) hl.1 dX12_sync_24 (c_X12_leads l D cy a0 p1 σ2 _ h) (ks_i (fun x14 σ13 h => ?_))
      refine x_if_eq (tgt := 39) C dX12_sync_27 (by decide) (fun c15 => ?_) (fun c15 => ?_)
      · have h := h.1 c15
        exact t_X12_sync_39 C hr hnm  p1 a0 _ h ls (lv_sub hl [0, 1] rfl)
      · have h := h.2 c15
        refine x_aload_n C dX12_sync_30 rfl (lv_at hl 0 rfl) ?_
        obtain ⟨g16, h⟩ := h
        refine x_getP C fl_RX12_50 g16 dX12_sync_31 ?_
        refine x_iload_n C dX12_sync_34 rfl (lv_at hl 1 rfl) ?_
        obtain ⟨b17, g18, h⟩ := h
        refine x_nn1 g18 ?_
        obtain ⟨g19, h⟩ := h
        obtain ⟨g20, h⟩ := h
        refine x_iald C g19 g20 dX12_sync_35 ?_
        refine x_topi (fun x21 e22 => ?_)
        have h := h x21 e22
        refine x_if_eq (tgt := 43) C dX12_sync_36 (by decide) (fun c23 => ?_) (fun c23 => ?_)
        · have h := h.1 c23
          refine x_iconst (v := 0) C dX12_sync_43 (by decide) ?_
          exact t_X12_sync_44 C hr hnm  p1 (0 : Int32) a0 _ h ls (lv_sub hl [0, 1] rfl)
        · have h := h.2 c23
          exact t_X12_sync_39 C hr hnm  p1 a0 _ h ls (lv_sub hl [0, 1] rfl)
  · have h := h.2 c4
    refine x_iconst (v := 1) C dX12_sync_9 (by decide) ?_
    refine x_goto (tgt := 44) C dX12_sync_10 (by decide) ?_
    exact t_X12_sync_44 C hr hnm  p1 (1 : Int32) a0 _ h ls (lv_sub hl [0, 1] rfl)
theorem dX12_tick_0 : decode cX12_tick 0 = .ok (.aload_n 0, 1) := by decide +kernel
theorem dX12_tick_1 : decode cX12_tick 1 = .ok (.iload_n 1, 1) := by decide +kernel
theorem dX12_tick_2 : decode cX12_tick 2 = .ok (.iconst 0, 1) := by decide +kernel
theorem dX12_tick_3 : decode cX12_tick 3 = .ok (.bipush 40, 2) := by decide +kernel
theorem dX12_tick_5 : decode cX12_tick 5 = .ok (.invokestatic 270, 3) := by decide +kernel
theorem dX12_tick_8 : decode cX12_tick 8 = .ok (.ifCond .eq 7, 3) := by decide +kernel
theorem dX12_tick_11 : decode cX12_tick 11 = .ok (.iconst 0, 1) := by decide +kernel
theorem dX12_tick_12 : decode cX12_tick 12 = .ok (.goto 4, 3) := by decide +kernel
theorem dX12_tick_15 : decode cX12_tick 15 = .ok (.iconst 1, 1) := by decide +kernel
theorem dX12_tick_16 : decode cX12_tick 16 = .ok (.putfield 267, 3) := by decide +kernel
theorem dX12_tick_19 : decode cX12_tick 19 = .ok (.aload_n 0, 1) := by decide +kernel
theorem dX12_tick_20 : decode cX12_tick 20 = .ok (.getfield 287, 3) := by decide +kernel
theorem dX12_tick_23 : decode cX12_tick 23 = .ok (.istore_n 2, 1) := by decide +kernel
theorem dX12_tick_24 : decode cX12_tick 24 = .ok (.iconst 0, 1) := by decide +kernel
theorem dX12_tick_25 : decode cX12_tick 25 = .ok (.istore_n 3, 1) := by decide +kernel
theorem dX12_tick_26 : decode cX12_tick 26 = .ok (.iload_n 3, 1) := by decide +kernel
theorem dX12_tick_27 : decode cX12_tick 27 = .ok (.iload_n 1, 1) := by decide +kernel
theorem dX12_tick_28 : decode cX12_tick 28 = .ok (.if_icmp .ge 20, 3) := by decide +kernel
theorem dX12_tick_31 : decode cX12_tick 31 = .ok (.aload_n 0, 1) := by decide +kernel
theorem dX12_tick_32 : decode cX12_tick 32 = .ok (.getfield 267, 3) := by decide +kernel
theorem dX12_tick_35 : decode cX12_tick 35 = .ok (.ifCond .ne 13, 3) := by decide +kernel
theorem dX12_tick_38 : decode cX12_tick 38 = .ok (.aload_n 0, 1) := by decide +kernel
theorem dX12_tick_39 : decode cX12_tick 39 = .ok (.invokevirtual 489, 3) := by decide +kernel
theorem dX12_tick_42 : decode cX12_tick 42 = .ok (.iinc 3 1, 3) := by decide +kernel
theorem dX12_tick_45 : decode cX12_tick 45 = .ok (.goto (-19), 3) := by decide +kernel
theorem dX12_tick_48 : decode cX12_tick 48 = .ok (.aload_n 0, 1) := by decide +kernel
theorem dX12_tick_49 : decode cX12_tick 49 = .ok (.getfield 287, 3) := by decide +kernel
theorem dX12_tick_52 : decode cX12_tick 52 = .ok (.iload_n 2, 1) := by decide +kernel
theorem dX12_tick_53 : decode cX12_tick 53 = .ok (.isub, 1) := by decide +kernel
theorem dX12_tick_54 : decode cX12_tick 54 = .ok (.ireturn, 1) := by decide +kernel
abbrev rm_X12_tick : Room := { frames := 7, cells := 0, slots := 0, locals := 157 }
def f_X12_tick_26 (a0 : Nat)  (Q : Int32 → Sto → Prop) (L26 : Int32 × Int32 × Int32 → Sto → Prop) (t : Int32 × Int32 × Int32) (σ : Sto) : Prop := ((t.1 ≤ t.2.2 → (sK σ a0 = 12 ∧ (∀ x3 : Int32, x3 = sI σ a0 7 → Q (x3 - t.2.1) σ))) ∧ (¬ t.1 ≤ t.2.2 → (sK σ a0 = 12 ∧ (∀ x6 : Int32, x6 = sI σ a0 0 → ((¬ x6 = 0 → (∀ x9 : Int32, x9 = sI σ a0 7 → Q (x9 - t.2.1) σ)) ∧ (x6 = 0 → (wp_X12_goOn a0  σ (fun (σ11 : Sto) => (∀ x12 : Int32, x12 = t.2.2 + (1 : Int32) → L26 (t.1, t.2.1, x12) σ11)))))))))
set_option maxHeartbeats 4000000 in
set_option maxRecDepth 100000 in
theorem t_X12_tick_26 {p : Program} {l : Launch} {e : Env} {s : State} {m : MethodId} {args : Array Value} {below : List Frame} {meth : Method} {c : Code} {D : va_G} {cy : Nat → ClassId} {A : Nat → Prop} {a0 : Nat} {Q : Int32 → Sto → Prop} {L26 : Int32 × Int32 × Int32 → Sto → Prop} (C : Cx p s m args meth c D cy A cX12_tick 4 RX12) (hr : meth.sig.returnType = (some .int)) (hnm : meth.name = yX12_tick.name) (hL26 : ∀ (t : Int32 × Int32 × Int32) (σ : Sto), L26 t σ → ∀ ls : Array Slot, lv_has ls 4 [(0, .ref a0), (1, .int t.1), (2, .int t.2.1), (3, .int t.2.2)] → Xw p l e rm_X12_tick s m args below meth c D cy A σ 0 0 (MQ below (Qst D cy A (PsI Q)) args s rm_X12_tick.cells rm_X12_tick.slots A) (F0 m 26 ls [])) : ∀ (t : Int32 × Int32 × Int32) (σ : Sto), f_X12_tick_26 a0  Q L26 t σ → ∀ ls : Array Slot, lv_has ls 4 [(0, .ref a0), (1, .int t.1), (2, .int t.2.1), (3, .int t.2.2)] → Xw p l e rm_X12_tick s m args below meth c D cy A σ 0 0 (MQ below (Qst D cy A (PsI Q)) args s rm_X12_tick.cells rm_X12_tick.slots A) (F0 m 26 ls []) := by
  intro t σ h ls hl
  unfold f_X12_tick_26 at h
  refine x_iload_n C dX12_tick_26 rfl (lv_at hl 3 rfl) ?_
  refine x_iload_n C dX12_tick_27 rfl (lv_at hl 1 rfl) ?_
  refine x_icmp_ge (tgt := 48) C dX12_tick_28 (by decide) (fun c1 => ?_) (fun c1 => ?_)
  · have h := h.1 c1
    refine x_aload_n C dX12_tick_48 rfl (lv_at hl 0 rfl) ?_
    obtain ⟨g2, h⟩ := h
    refine x_getI C fl_RX12_287 g2 dX12_tick_49 ?_
    refine x_topi (fun x3 e4 => ?_)
    have h := h x3 e4
    refine x_iload_n C dX12_tick_52 rfl (lv_at hl 2 rfl) ?_
    refine x_isub C dX12_tick_53 ?_
    exact x_iret C hr dX12_tick_54 ⟨_, rfl, h⟩
  · have h := h.2 c1
    refine x_aload_n C dX12_tick_31 rfl (lv_at hl 0 rfl) ?_
    obtain ⟨g5, h⟩ := h
    refine x_getI C fl_RX12_267 g5 dX12_tick_32 ?_
    refine x_topi (fun x6 e7 => ?_)
    have h := h x6 e7
    refine x_if_ne (tgt := 48) C dX12_tick_35 (by decide) (fun c8 => ?_) (fun c8 => ?_)
    · have h := h.1 c8
      refine x_aload_n C dX12_tick_48 rfl (lv_at hl 0 rfl) ?_
      refine x_getI C fl_RX12_287 g5 dX12_tick_49 ?_
      refine x_topi (fun x9 e10 => ?_)
      have h := h x9 e10
      refine x_iload_n C dX12_tick_52 rfl (lv_at hl 2 rfl) ?_
      refine x_isub C dX12_tick_53 ?_
      exact x_iret C hr dX12_tick_54 ⟨_, rfl, h⟩
    · have h := h.2 c8
      refine x_aload_n C dX12_tick_38 rfl (lv_at hl 0 rfl) ?_
      refine x_callV (rm := rm_X12_goOn) (rest := []) (As := []) C cy_RX12_489 g5 (by decide) (by decide) rfl rfl (Nat.le_of_ble_eq_true rfl) hl.1 dX12_tick_39 (c_X12_goOn l D cy a0  σ _ h) (ks_v (fun σ11 h => ?_))
      obtain ⟨x12, e13⟩ : ∃ z : Int32, z = t.2.2 + (1 : Int32) := ⟨_, rfl⟩
      have h := h x12 e13
      refine x_iinc (v := x12) (lv' := [(3, .int x12), (0, .ref a0), (1, .int t.1), (2, .int t.2.1)]) C dX12_tick_42 hl (q0 := 3) rfl (by rw [e13]; rfl) (by decide) (by first | rfl | simp [vrc, cat_i, cat_r, cat_l]) (fun ls hl => ?_)
      refine x_goto (tgt := 26) C dX12_tick_45 (by decide) ?_
      exact hL26 (t.1, t.2.1, x12) _ h ls (lv_sub hl [1, 2, 3, 0] rfl)
def b_X12_tick_16 (a0 : Nat)  (Q : Int32 → Sto → Prop) (p1 : Int32) (s0 : Int32) (s1 : Nat) (σ : Sto) : Prop := (sK σ s1 = 12 ∧ (sK σ a0 = 12 ∧ (∀ x3 : Int32, x3 = sI (stI σ s1 0 s0) a0 7 → LF (f_X12_tick_26 a0  Q) (p1, x3, (0 : Int32)) (stI σ s1 0 s0))))
set_option maxHeartbeats 4000000 in
set_option maxRecDepth 100000 in
theorem t_X12_tick_16 {p : Program} {l : Launch} {e : Env} {s : State} {m : MethodId} {args : Array Value} {below : List Frame} {meth : Method} {c : Code} {D : va_G} {cy : Nat → ClassId} {A : Nat → Prop} {a0 : Nat} {Q : Int32 → Sto → Prop} (C : Cx p s m args meth c D cy A cX12_tick 4 RX12) (hr : meth.sig.returnType = (some .int)) (hnm : meth.name = yX12_tick.name) (p1 : Int32) (s0 : Int32) (s1 : Nat) (σ : Sto) (h : b_X12_tick_16 a0  Q p1 s0 s1 σ) (ls : Array Slot) (hl : lv_has ls 4 [(0, .ref a0), (1, .int p1)]) : Xw p l e rm_X12_tick s m args below meth c D cy A σ 0 0 (MQ below (Qst D cy A (PsI Q)) args s rm_X12_tick.cells rm_X12_tick.slots A) (F0 m 16 ls [.int s0, .ref s1]) := by
  unfold b_X12_tick_16 at h
  obtain ⟨g1, h⟩ := h
  refine x_putI C fl_RX12_267 (Or.inl rfl) g1 dX12_tick_16 ?_
  refine x_aload_n C dX12_tick_19 rfl (lv_at hl 0 rfl) ?_
  obtain ⟨g2, h⟩ := h
  refine x_getI C fl_RX12_287 g2 dX12_tick_20 ?_
  refine x_topi (fun x3 e4 => ?_)
  have h := h x3 e4
  refine x_istore_n (i := 2) (lv' := [(2, .int x3), (0, .ref a0), (1, .int p1)]) C dX12_tick_23 rfl hl (by decide) (by first | rfl | simp [vrc, cat_i, cat_r, cat_l]) (fun ls hl => ?_)
  refine x_iconst (v := 0) C dX12_tick_24 (by decide) ?_
  refine x_istore_n (i := 3) (lv' := [(3, .int (0 : Int32)), (2, .int x3), (0, .ref a0), (1, .int p1)]) C dX12_tick_25 rfl hl (by decide) (by first | rfl | simp [vrc, cat_i, cat_r, cat_l]) (fun ls hl => ?_)
  exact h (fun t σ => ∀ ls : Array Slot, lv_has ls 4 [(0, .ref a0), (1, .int t.1), (2, .int t.2.1), (3, .int t.2.2)] → Xw p l e rm_X12_tick s m args below meth c D cy A σ 0 0 (MQ below (Qst D cy A (PsI Q)) args s rm_X12_tick.cells rm_X12_tick.slots A) (F0 m 26 ls [])) (t_X12_tick_26 C hr hnm  (fun t σ h => h)) ls (lv_sub hl [2, 3, 1, 0] rfl)
def wp_X12_tick (a0 : Nat) (p1 : Int32) (σ : Sto) (Q : Int32 → Sto → Prop) : Prop := (wp_X12_in p1 (0 : Int32) (40 : Int32) σ (fun (x2 : Int32) (σ1 : Sto) => ((x2 = 0 → b_X12_tick_16 a0  Q p1 (1 : Int32) a0 σ1) ∧ (¬ x2 = 0 → b_X12_tick_16 a0  Q p1 (0 : Int32) a0 σ1))))
set_option maxHeartbeats 4000000 in
set_option maxRecDepth 100000 in
theorem c_X12_tick (l : Launch) (D : va_G) (cy : Nat → ClassId) (a0 : Nat) (p1 : Int32) (σ : Sto) (Q : Int32 → Sto → Prop) (h : wp_X12_tick a0 p1 σ Q) : Mt l D cy yX12_tick cX12_tick 4 (some .int) rm_X12_tick [.ref a0, .int p1] σ (PsI Q) := by
  unfold wp_X12_tick at h
  refine mt_of (by decide +kernel) (Nat.le_of_ble_eq_true rfl) ?_
  intro p e s m args below meth c A ls C hr hnm hl
  have C : Cx p s m args meth c D cy A cX12_tick 4 RX12 := C
  have hl : lv_has ls 4 [(0, .ref a0), (1, .int p1)] := hl
  refine x_aload_n C dX12_tick_0 rfl (lv_at hl 0 rfl) ?_
  refine x_iload_n C dX12_tick_1 rfl (lv_at hl 1 rfl) ?_
  refine x_iconst (v := 0) C dX12_tick_2 (by decide) ?_
  refine x_bipush (v := 40) C dX12_tick_3 (by decide) ?_
  refine x_callS (rm := rm_X12_in) (rest := [.ref a0]) (As := [.int p1, .int (0 : Int32), .int (40 : Int32)]) C cs_RX12_270 (by decide) (by decide) rfl rfl (Nat.le_of_ble_eq_true rfl) hl.1 dX12_tick_5 (c_X12_in l D cy p1 (0 : Int32) (40 : Int32) σ _ h) (ks_i (fun x2 σ1 h => ?_))
  refine x_if_eq (tgt := 15) C dX12_tick_8 (by decide) (fun c3 => ?_) (fun c3 => ?_)
  · have h := h.1 c3
    refine x_iconst (v := 1) C dX12_tick_15 (by decide) ?_
    exact t_X12_tick_16 C hr hnm  p1 (1 : Int32) a0 _ h ls (lv_sub hl [0, 1] rfl)
  · have h := h.2 c3
    refine x_iconst (v := 0) C dX12_tick_11 (by decide) ?_
    refine x_goto (tgt := 16) C dX12_tick_12 (by decide) ?_
    exact t_X12_tick_16 C hr hnm  p1 (0 : Int32) a0 _ h ls (lv_sub hl [0, 1] rfl)
