theorem dX12_calm_0 : decode cX12_calm 0 = .ok (.aload_n 0, 1) := by decide +kernel
theorem dX12_calm_1 : decode cX12_calm 1 = .ok (.iload_n 1, 1) := by decide +kernel
theorem dX12_calm_2 : decode cX12_calm 2 = .ok (.iconst 0, 1) := by decide +kernel
theorem dX12_calm_3 : decode cX12_calm 3 = .ok (.bipush 20, 2) := by decide +kernel
theorem dX12_calm_5 : decode cX12_calm 5 = .ok (.invokestatic 270, 3) := by decide +kernel
theorem dX12_calm_8 : decode cX12_calm 8 = .ok (.ifCond .eq 7, 3) := by decide +kernel
theorem dX12_calm_11 : decode cX12_calm 11 = .ok (.iconst 0, 1) := by decide +kernel
theorem dX12_calm_12 : decode cX12_calm 12 = .ok (.goto 4, 3) := by decide +kernel
theorem dX12_calm_15 : decode cX12_calm 15 = .ok (.iconst 1, 1) := by decide +kernel
theorem dX12_calm_16 : decode cX12_calm 16 = .ok (.putfield 267, 3) := by decide +kernel
theorem dX12_calm_19 : decode cX12_calm 19 = .ok (.aload_n 0, 1) := by decide +kernel
theorem dX12_calm_20 : decode cX12_calm 20 = .ok (.getfield 449, 3) := by decide +kernel
theorem dX12_calm_23 : decode cX12_calm 23 = .ok (.istore_n 2, 1) := by decide +kernel
theorem dX12_calm_24 : decode cX12_calm 24 = .ok (.iconst 0, 1) := by decide +kernel
theorem dX12_calm_25 : decode cX12_calm 25 = .ok (.istore_n 3, 1) := by decide +kernel
theorem dX12_calm_26 : decode cX12_calm 26 = .ok (.iload_n 3, 1) := by decide +kernel
theorem dX12_calm_27 : decode cX12_calm 27 = .ok (.iload_n 1, 1) := by decide +kernel
theorem dX12_calm_28 : decode cX12_calm 28 = .ok (.if_icmp .ge 47, 3) := by decide +kernel
theorem dX12_calm_31 : decode cX12_calm 31 = .ok (.aload_n 0, 1) := by decide +kernel
theorem dX12_calm_32 : decode cX12_calm 32 = .ok (.getfield 267, 3) := by decide +kernel
theorem dX12_calm_35 : decode cX12_calm 35 = .ok (.ifCond .ne 40, 3) := by decide +kernel
theorem dX12_calm_38 : decode cX12_calm 38 = .ok (.aload_n 0, 1) := by decide +kernel
theorem dX12_calm_39 : decode cX12_calm 39 = .ok (.invokevirtual 489, 3) := by decide +kernel
theorem dX12_calm_42 : decode cX12_calm 42 = .ok (.aload_n 0, 1) := by decide +kernel
theorem dX12_calm_43 : decode cX12_calm 43 = .ok (.getfield 281, 3) := by decide +kernel
theorem dX12_calm_46 : decode cX12_calm 46 = .ok (.istore 4, 2) := by decide +kernel
theorem dX12_calm_48 : decode cX12_calm 48 = .ok (.iconst 0, 1) := by decide +kernel
theorem dX12_calm_49 : decode cX12_calm 49 = .ok (.istore 5, 2) := by decide +kernel
theorem dX12_calm_51 : decode cX12_calm 51 = .ok (.iload 5, 2) := by decide +kernel
theorem dX12_calm_53 : decode cX12_calm 53 = .ok (.iload 4, 2) := by decide +kernel
theorem dX12_calm_55 : decode cX12_calm 55 = .ok (.if_icmp .ge 14, 3) := by decide +kernel
theorem dX12_calm_58 : decode cX12_calm 58 = .ok (.aload_n 0, 1) := by decide +kernel
theorem dX12_calm_59 : decode cX12_calm 59 = .ok (.iconst 0, 1) := by decide +kernel
theorem dX12_calm_60 : decode cX12_calm 60 = .ok (.invokevirtual 480, 3) := by decide +kernel
theorem dX12_calm_63 : decode cX12_calm 63 = .ok (.iinc 5 1, 3) := by decide +kernel
theorem dX12_calm_66 : decode cX12_calm 66 = .ok (.goto (-15), 3) := by decide +kernel
theorem dX12_calm_69 : decode cX12_calm 69 = .ok (.iinc 3 1, 3) := by decide +kernel
theorem dX12_calm_72 : decode cX12_calm 72 = .ok (.goto (-46), 3) := by decide +kernel
theorem dX12_calm_75 : decode cX12_calm 75 = .ok (.aload_n 0, 1) := by decide +kernel
theorem dX12_calm_76 : decode cX12_calm 76 = .ok (.getfield 449, 3) := by decide +kernel
theorem dX12_calm_79 : decode cX12_calm 79 = .ok (.iload_n 2, 1) := by decide +kernel
theorem dX12_calm_80 : decode cX12_calm 80 = .ok (.isub, 1) := by decide +kernel
theorem dX12_calm_81 : decode cX12_calm 81 = .ok (.ireturn, 1) := by decide +kernel
abbrev rm_X12_calm : Room := { frames := 9, cells := 0, slots := 0, locals := 205 }
def f_X12_calm_51 (a0 : Nat) (L26 : Int32 × Int32 × Int32 → Sto → Prop) (Q : Int32 → Sto → Prop) (L51 : Int32 × Int32 × Int32 × Int32 × Int32 → Sto → Prop) (t : Int32 × Int32 × Int32 × Int32 × Int32) (σ : Sto) : Prop := ((t.2.2.2.1 ≤ t.2.2.2.2 → (∀ x2 : Int32, x2 = t.2.2.1 + (1 : Int32) → L26 (t.1, t.2.1, x2) σ)) ∧ (¬ t.2.2.2.1 ≤ t.2.2.2.2 → (sK σ a0 = 12 ∧ (wp_X12_hand a0 (0 : Int32) σ (fun (σ5 : Sto) => (∀ x6 : Int32, x6 = t.2.2.2.2 + (1 : Int32) → L51 (t.1, t.2.1, t.2.2.1, t.2.2.2.1, x6) σ5))))))
set_option maxHeartbeats 4000000 in
set_option maxRecDepth 100000 in
theorem t_X12_calm_51 {p : Program} {l : Launch} {e : Env} {s : State} {m : MethodId} {args : Array Value} {below : List Frame} {meth : Method} {c : Code} {D : va_G} {cy : Nat → ClassId} {A : Nat → Prop} {a0 : Nat} {L26 : Int32 × Int32 × Int32 → Sto → Prop} {Q : Int32 → Sto → Prop} {L51 : Int32 × Int32 × Int32 × Int32 × Int32 → Sto → Prop} (C : Cx p s m args meth c D cy A cX12_calm 6 RX12) (hr : meth.sig.returnType = (some .int)) (hnm : meth.name = yX12_calm.name) (hL26 : ∀ (t : Int32 × Int32 × Int32) (σ : Sto), L26 t σ → ∀ ls : Array Slot, lv_has ls 6 [(0, .ref a0), (1, .int t.1), (2, .int t.2.1), (3, .int t.2.2)] → Xw p l e rm_X12_calm s m args below meth c D cy A σ 0 0 (MQ below (Qst D cy A (PsI Q)) args s rm_X12_calm.cells rm_X12_calm.slots A) (F0 m 26 ls [])) (hL51 : ∀ (t : Int32 × Int32 × Int32 × Int32 × Int32) (σ : Sto), L51 t σ → ∀ ls : Array Slot, lv_has ls 6 [(0, .ref a0), (1, .int t.1), (2, .int t.2.1), (3, .int t.2.2.1), (4, .int t.2.2.2.1), (5, .int t.2.2.2.2)] → Xw p l e rm_X12_calm s m args below meth c D cy A σ 0 0 (MQ below (Qst D cy A (PsI Q)) args s rm_X12_calm.cells rm_X12_calm.slots A) (F0 m 51 ls [])) : ∀ (t : Int32 × Int32 × Int32 × Int32 × Int32) (σ : Sto), f_X12_calm_51 a0 L26 Q L51 t σ → ∀ ls : Array Slot, lv_has ls 6 [(0, .ref a0), (1, .int t.1), (2, .int t.2.1), (3, .int t.2.2.1), (4, .int t.2.2.2.1), (5, .int t.2.2.2.2)] → Xw p l e rm_X12_calm s m args below meth c D cy A σ 0 0 (MQ below (Qst D cy A (PsI Q)) args s rm_X12_calm.cells rm_X12_calm.slots A) (F0 m 51 ls []) := by
  intro t σ h ls hl
  unfold f_X12_calm_51 at h
  refine x_iload C dX12_calm_51 (lv_at hl 5 rfl) ?_
  refine x_iload C dX12_calm_53 (lv_at hl 4 rfl) ?_
  refine x_icmp_ge (tgt := 69) C dX12_calm_55 (by decide) (fun c1 => ?_) (fun c1 => ?_)
  · have h := h.1 c1
    obtain ⟨x2, e3⟩ : ∃ z : Int32, z = t.2.2.1 + (1 : Int32) := ⟨_, rfl⟩
    have h := h x2 e3
    refine x_iinc (v := x2) (lv' := [(3, .int x2), (0, .ref a0), (1, .int t.1), (2, .int t.2.1), (4, .int t.2.2.2.1), (5, .int t.2.2.2.2)]) C dX12_calm_69 hl (q0 := 3) rfl (by rw [e3]; rfl) (by decide) (by first | rfl | simp [vrc, cat_i, cat_r, cat_l]) (fun ls hl => ?_)
    refine x_goto (tgt := 26) C dX12_calm_72 (by decide) ?_
    exact hL26 (t.1, t.2.1, x2) _ h ls (lv_sub hl [1, 2, 3, 0] rfl)
  · have h := h.2 c1
    refine x_aload_n C dX12_calm_58 rfl (lv_at hl 0 rfl) ?_
    refine x_iconst (v := 0) C dX12_calm_59 (by decide) ?_
    obtain ⟨g4, h⟩ := h
    refine x_callV (rm := rm_X12_hand) (rest := []) (As := [.int (0 : Int32)]) C cy_RX12_480 g4 (by decide) (by decide) rfl rfl (Nat.le_of_ble_eq_true rfl) hl.1 dX12_calm_60 (c_X12_hand l D cy a0 (0 : Int32) σ _ h) (ks_v (fun σ5 h => ?_))
    obtain ⟨x6, e7⟩ : ∃ z : Int32, z = t.2.2.2.2 + (1 : Int32) := ⟨_, rfl⟩
    have h := h x6 e7
    refine x_iinc (v := x6) (lv' := [(5, .int x6), (0, .ref a0), (1, .int t.1), (2, .int t.2.1), (3, .int t.2.2.1), (4, .int t.2.2.2.1)]) C dX12_calm_63 hl (q0 := 5) rfl (by rw [e7]; rfl) (by decide) (by first | rfl | simp [vrc, cat_i, cat_r, cat_l]) (fun ls hl => ?_)
    refine x_goto (tgt := 51) C dX12_calm_66 (by decide) ?_
    exact hL51 (t.1, t.2.1, t.2.2.1, t.2.2.2.1, x6) _ h ls (lv_sub hl [1, 2, 3, 4, 5, 0] rfl)
def f_X12_calm_26 (a0 : Nat)  (Q : Int32 → Sto → Prop) (L26 : Int32 × Int32 × Int32 → Sto → Prop) (t : Int32 × Int32 × Int32) (σ : Sto) : Prop := ((t.1 ≤ t.2.2 → (sK σ a0 = 12 ∧ (∀ x3 : Int32, x3 = sI σ a0 81 → Q (x3 - t.2.1) σ))) ∧ (¬ t.1 ≤ t.2.2 → (sK σ a0 = 12 ∧ (∀ x6 : Int32, x6 = sI σ a0 0 → ((¬ x6 = 0 → (∀ x9 : Int32, x9 = sI σ a0 81 → Q (x9 - t.2.1) σ)) ∧ (x6 = 0 → (wp_X12_goOn a0  σ (fun (σ11 : Sto) => (sK σ11 a0 = 12 ∧ (∀ x13 : Int32, x13 = sI σ11 a0 6 → LF (f_X12_calm_51 a0 L26 Q) (t.1, t.2.1, t.2.2, x13, (0 : Int32)) σ11))))))))))
set_option maxHeartbeats 4000000 in
set_option maxRecDepth 100000 in
theorem t_X12_calm_26 {p : Program} {l : Launch} {e : Env} {s : State} {m : MethodId} {args : Array Value} {below : List Frame} {meth : Method} {c : Code} {D : va_G} {cy : Nat → ClassId} {A : Nat → Prop} {a0 : Nat} {Q : Int32 → Sto → Prop} {L26 : Int32 × Int32 × Int32 → Sto → Prop} (C : Cx p s m args meth c D cy A cX12_calm 6 RX12) (hr : meth.sig.returnType = (some .int)) (hnm : meth.name = yX12_calm.name) (hL26 : ∀ (t : Int32 × Int32 × Int32) (σ : Sto), L26 t σ → ∀ ls : Array Slot, lv_has ls 6 [(0, .ref a0), (1, .int t.1), (2, .int t.2.1), (3, .int t.2.2)] → Xw p l e rm_X12_calm s m args below meth c D cy A σ 0 0 (MQ below (Qst D cy A (PsI Q)) args s rm_X12_calm.cells rm_X12_calm.slots A) (F0 m 26 ls [])) : ∀ (t : Int32 × Int32 × Int32) (σ : Sto), f_X12_calm_26 a0  Q L26 t σ → ∀ ls : Array Slot, lv_has ls 6 [(0, .ref a0), (1, .int t.1), (2, .int t.2.1), (3, .int t.2.2)] → Xw p l e rm_X12_calm s m args below meth c D cy A σ 0 0 (MQ below (Qst D cy A (PsI Q)) args s rm_X12_calm.cells rm_X12_calm.slots A) (F0 m 26 ls []) := by
  intro t σ h ls hl
  unfold f_X12_calm_26 at h
  refine x_iload_n C dX12_calm_26 rfl (lv_at hl 3 rfl) ?_
  refine x_iload_n C dX12_calm_27 rfl (lv_at hl 1 rfl) ?_
  refine x_icmp_ge (tgt := 75) C dX12_calm_28 (by decide) (fun c1 => ?_) (fun c1 => ?_)
  · have h := h.1 c1
    refine x_aload_n C dX12_calm_75 rfl (lv_at hl 0 rfl) ?_
    obtain ⟨g2, h⟩ := h
    refine x_getI C fl_RX12_449 g2 dX12_calm_76 ?_
    refine x_topi (fun x3 e4 => ?_)
    have h := h x3 e4
    refine x_iload_n C dX12_calm_79 rfl (lv_at hl 2 rfl) ?_
    refine x_isub C dX12_calm_80 ?_
    exact x_iret C hr dX12_calm_81 ⟨_, rfl, h⟩
  · have h := h.2 c1
    refine x_aload_n C dX12_calm_31 rfl (lv_at hl 0 rfl) ?_
    obtain ⟨g5, h⟩ := h
    refine x_getI C fl_RX12_267 g5 dX12_calm_32 ?_
    refine x_topi (fun x6 e7 => ?_)
    have h := h x6 e7
    refine x_if_ne (tgt := 75) C dX12_calm_35 (by decide) (fun c8 => ?_) (fun c8 => ?_)
    · have h := h.1 c8
      refine x_aload_n C dX12_calm_75 rfl (lv_at hl 0 rfl) ?_
      refine x_getI C fl_RX12_449 g5 dX12_calm_76 ?_
      refine x_topi (fun x9 e10 => ?_)
      have h := h x9 e10
      refine x_iload_n C dX12_calm_79 rfl (lv_at hl 2 rfl) ?_
      refine x_isub C dX12_calm_80 ?_
      exact x_iret C hr dX12_calm_81 ⟨_, rfl, h⟩
    · have h := h.2 c8
      refine x_aload_n C dX12_calm_38 rfl (lv_at hl 0 rfl) ?_
      refine x_callV (rm := rm_X12_goOn) (rest := []) (As := []) C cy_RX12_489 g5 (by decide) (by decide) rfl rfl (Nat.le_of_ble_eq_true rfl) hl.1 dX12_calm_39 (c_X12_goOn l D cy a0  σ _ h) (ks_v (fun σ11 h => ?_))
      refine x_aload_n C dX12_calm_42 rfl (lv_at hl 0 rfl) ?_
      obtain ⟨g12, h⟩ := h
      refine x_getI C fl_RX12_281 g12 dX12_calm_43 ?_
      refine x_topi (fun x13 e14 => ?_)
      have h := h x13 e14
      refine x_istore (i := 4) (lv' := [(4, .int x13), (0, .ref a0), (1, .int t.1), (2, .int t.2.1), (3, .int t.2.2)]) C dX12_calm_46 hl (by decide) (by first | rfl | simp [vrc, cat_i, cat_r, cat_l]) (fun ls hl => ?_)
      refine x_iconst (v := 0) C dX12_calm_48 (by decide) ?_
      refine x_istore (i := 5) (lv' := [(5, .int (0 : Int32)), (4, .int x13), (0, .ref a0), (1, .int t.1), (2, .int t.2.1), (3, .int t.2.2)]) C dX12_calm_49 hl (by decide) (by first | rfl | simp [vrc, cat_i, cat_r, cat_l]) (fun ls hl => ?_)
      exact h (fun t σ => ∀ ls : Array Slot, lv_has ls 6 [(0, .ref a0), (1, .int t.1), (2, .int t.2.1), (3, .int t.2.2.1), (4, .int t.2.2.2.1), (5, .int t.2.2.2.2)] → Xw p l e rm_X12_calm s m args below meth c D cy A σ 0 0 (MQ below (Qst D cy A (PsI Q)) args s rm_X12_calm.cells rm_X12_calm.slots A) (F0 m 51 ls [])) (t_X12_calm_51 C hr hnm hL26 (fun t σ h => h)) ls (lv_sub hl [2, 3, 4, 5, 1, 0] rfl)
def b_X12_calm_16 (a0 : Nat)  (Q : Int32 → Sto → Prop) (p1 : Int32) (s0 : Int32) (s1 : Nat) (σ : Sto) : Prop := (sK σ s1 = 12 ∧ (sK σ a0 = 12 ∧ (∀ x3 : Int32, x3 = sI (stI σ s1 0 s0) a0 81 → LF (f_X12_calm_26 a0  Q) (p1, x3, (0 : Int32)) (stI σ s1 0 s0))))
set_option maxHeartbeats 4000000 in
set_option maxRecDepth 100000 in
theorem t_X12_calm_16 {p : Program} {l : Launch} {e : Env} {s : State} {m : MethodId} {args : Array Value} {below : List Frame} {meth : Method} {c : Code} {D : va_G} {cy : Nat → ClassId} {A : Nat → Prop} {a0 : Nat} {Q : Int32 → Sto → Prop} (C : Cx p s m args meth c D cy A cX12_calm 6 RX12) (hr : meth.sig.returnType = (some .int)) (hnm : meth.name = yX12_calm.name) (p1 : Int32) (s0 : Int32) (s1 : Nat) (σ : Sto) (h : b_X12_calm_16 a0  Q p1 s0 s1 σ) (ls : Array Slot) (hl : lv_has ls 6 [(0, .ref a0), (1, .int p1)]) : Xw p l e rm_X12_calm s m args below meth c D cy A σ 0 0 (MQ below (Qst D cy A (PsI Q)) args s rm_X12_calm.cells rm_X12_calm.slots A) (F0 m 16 ls [.int s0, .ref s1]) := by
  unfold b_X12_calm_16 at h
  obtain ⟨g1, h⟩ := h
  refine x_putI C fl_RX12_267 (Or.inl rfl) g1 dX12_calm_16 ?_
  refine x_aload_n C dX12_calm_19 rfl (lv_at hl 0 rfl) ?_
  obtain ⟨g2, h⟩ := h
  refine x_getI C fl_RX12_449 g2 dX12_calm_20 ?_
  refine x_topi (fun x3 e4 => ?_)
  have h := h x3 e4
  refine x_istore_n (i := 2) (lv' := [(2, .int x3), (0, .ref a0), (1, .int p1)]) C dX12_calm_23 rfl hl (by decide) (by first | rfl | simp [vrc, cat_i, cat_r, cat_l]) (fun ls hl => ?_)
  refine x_iconst (v := 0) C dX12_calm_24 (by decide) ?_
  refine x_istore_n (i := 3) (lv' := [(3, .int (0 : Int32)), (2, .int x3), (0, .ref a0), (1, .int p1)]) C dX12_calm_25 rfl hl (by decide) (by first | rfl | simp [vrc, cat_i, cat_r, cat_l]) (fun ls hl => ?_)
  exact h (fun t σ => ∀ ls : Array Slot, lv_has ls 6 [(0, .ref a0), (1, .int t.1), (2, .int t.2.1), (3, .int t.2.2)] → Xw p l e rm_X12_calm s m args below meth c D cy A σ 0 0 (MQ below (Qst D cy A (PsI Q)) args s rm_X12_calm.cells rm_X12_calm.slots A) (F0 m 26 ls [])) (t_X12_calm_26 C hr hnm  (fun t σ h => h)) ls (lv_sub hl [2, 3, 1, 0] rfl)
def wp_X12_calm (a0 : Nat) (p1 : Int32) (σ : Sto) (Q : Int32 → Sto → Prop) : Prop := (wp_X12_in p1 (0 : Int32) (20 : Int32) σ (fun (x2 : Int32) (σ1 : Sto) => ((x2 = 0 → b_X12_calm_16 a0  Q p1 (1 : Int32) a0 σ1) ∧ (¬ x2 = 0 → b_X12_calm_16 a0  Q p1 (0 : Int32) a0 σ1))))
set_option maxHeartbeats 4000000 in
set_option maxRecDepth 100000 in
theorem c_X12_calm (l : Launch) (D : va_G) (cy : Nat → ClassId) (a0 : Nat) (p1 : Int32) (σ : Sto) (Q : Int32 → Sto → Prop) (h : wp_X12_calm a0 p1 σ Q) : Mt l D cy yX12_calm cX12_calm 6 (some .int) rm_X12_calm [.ref a0, .int p1] σ (PsI Q) := by
  unfold wp_X12_calm at h
  refine mt_of (by decide +kernel) (Nat.le_of_ble_eq_true rfl) ?_
  intro p e s m args below meth c A ls C hr hnm hl
  have C : Cx p s m args meth c D cy A cX12_calm 6 RX12 := C
  have hl : lv_has ls 6 [(0, .ref a0), (1, .int p1)] := hl
  refine x_aload_n C dX12_calm_0 rfl (lv_at hl 0 rfl) ?_
  refine x_iload_n C dX12_calm_1 rfl (lv_at hl 1 rfl) ?_
  refine x_iconst (v := 0) C dX12_calm_2 (by decide) ?_
  refine x_bipush (v := 20) C dX12_calm_3 (by decide) ?_
  refine x_callS (rm := rm_X12_in) (rest := [.ref a0]) (As := [.int p1, .int (0 : Int32), .int (20 : Int32)]) C cs_RX12_270 (by decide) (by decide) rfl rfl (Nat.le_of_ble_eq_true rfl) hl.1 dX12_calm_5 (c_X12_in l D cy p1 (0 : Int32) (20 : Int32) σ _ h) (ks_i (fun x2 σ1 h => ?_))
  refine x_if_eq (tgt := 15) C dX12_calm_8 (by decide) (fun c3 => ?_) (fun c3 => ?_)
  · have h := h.1 c3
    refine x_iconst (v := 1) C dX12_calm_15 (by decide) ?_
    exact t_X12_calm_16 C hr hnm  p1 (1 : Int32) a0 _ h ls (lv_sub hl [0, 1] rfl)
  · have h := h.2 c3
    refine x_iconst (v := 0) C dX12_calm_11 (by decide) ?_
    refine x_goto (tgt := 16) C dX12_calm_12 (by decide) ?_
    exact t_X12_calm_16 C hr hnm  p1 (0 : Int32) a0 _ h ls (lv_sub hl [0, 1] rfl)
theorem dX12_fail_0 : decode cX12_fail 0 = .ok (.aload_n 0, 1) := by decide +kernel
theorem dX12_fail_1 : decode cX12_fail 1 = .ok (.iconst 0, 1) := by decide +kernel
theorem dX12_fail_2 : decode cX12_fail 2 = .ok (.putfield 267, 3) := by decide +kernel
theorem dX12_fail_5 : decode cX12_fail 5 = .ok (.aload_n 0, 1) := by decide +kernel
theorem dX12_fail_6 : decode cX12_fail 6 = .ok (.getfield 33, 3) := by decide +kernel
theorem dX12_fail_9 : decode cX12_fail 9 = .ok (.istore_n 1, 1) := by decide +kernel
theorem dX12_fail_10 : decode cX12_fail 10 = .ok (.iload_n 1, 1) := by decide +kernel
theorem dX12_fail_11 : decode cX12_fail 11 = .ok (.ifCond .eq 11, 3) := by decide +kernel
theorem dX12_fail_14 : decode cX12_fail 14 = .ok (.aload_n 0, 1) := by decide +kernel
theorem dX12_fail_15 : decode cX12_fail 15 = .ok (.aload_n 0, 1) := by decide +kernel
theorem dX12_fail_16 : decode cX12_fail 16 = .ok (.getfield 318, 3) := by decide +kernel
theorem dX12_fail_19 : decode cX12_fail 19 = .ok (.putfield 458, 3) := by decide +kernel
theorem dX12_fail_22 : decode cX12_fail 22 = .ok (.aload_n 0, 1) := by decide +kernel
theorem dX12_fail_23 : decode cX12_fail 23 = .ok (.iconst 0, 1) := by decide +kernel
theorem dX12_fail_24 : decode cX12_fail 24 = .ok (.putfield 33, 3) := by decide +kernel
theorem dX12_fail_27 : decode cX12_fail 27 = .ok (.iload_n 1, 1) := by decide +kernel
theorem dX12_fail_28 : decode cX12_fail 28 = .ok (.ireturn, 1) := by decide +kernel
abbrev rm_X12_fail : Room := { frames := 0, cells := 0, slots := 0, locals := 0 }
def b_X12_fail_22 (a0 : Nat)  (Q : Int32 → Sto → Prop) (p1 : Int32) (σ : Sto) : Prop := (sK σ a0 = 12 ∧ ((p1 = 0 ∨ p1 = 1) ∧ Q p1 (stI σ a0 16 (0 : Int32))))
set_option maxHeartbeats 4000000 in
set_option maxRecDepth 100000 in
theorem t_X12_fail_22 {p : Program} {l : Launch} {e : Env} {s : State} {m : MethodId} {args : Array Value} {below : List Frame} {meth : Method} {c : Code} {D : va_G} {cy : Nat → ClassId} {A : Nat → Prop} {a0 : Nat} {Q : Int32 → Sto → Prop} (C : Cx p s m args meth c D cy A cX12_fail 2 RX12) (hr : meth.sig.returnType = (some .boolean)) (hnm : meth.name = yX12_fail.name) (p1 : Int32) (σ : Sto) (h : b_X12_fail_22 a0  Q p1 σ) (ls : Array Slot) (hl : lv_has ls 2 [(0, .ref a0), (1, .int p1)]) : Xw p l e rm_X12_fail s m args below meth c D cy A σ 0 0 (MQ below (Qst D cy A (PsI Q)) args s rm_X12_fail.cells rm_X12_fail.slots A) (F0 m 22 ls []) := by
  unfold b_X12_fail_22 at h
  refine x_aload_n C dX12_fail_22 rfl (lv_at hl 0 rfl) ?_
  refine x_iconst (v := 0) C dX12_fail_23 (by decide) ?_
  obtain ⟨g1, h⟩ := h
  refine x_putZ C fl_RX12_33 (Or.inl rfl) (by decide) g1 dX12_fail_24 ?_
  refine x_iload_n C dX12_fail_27 rfl (lv_at hl 1 rfl) ?_
  exact x_zret C hr dX12_fail_28 h.1 ⟨_, rfl, h.2⟩
def wp_X12_fail (a0 : Nat)  (σ : Sto) (Q : Int32 → Sto → Prop) : Prop := (sK σ a0 = 12 ∧ (∀ x2 : Int32, x2 = sI (stI σ a0 0 (0 : Int32)) a0 16 → ((x2 = 0 → b_X12_fail_22 a0  Q x2 (stI σ a0 0 (0 : Int32))) ∧ (¬ x2 = 0 → (∀ x5 : Int32, x5 = sI (stI σ a0 0 (0 : Int32)) a0 4 → b_X12_fail_22 a0  Q x2 (stI (stI σ a0 0 (0 : Int32)) a0 19 x5))))))
set_option maxHeartbeats 4000000 in
set_option maxRecDepth 100000 in
theorem c_X12_fail (l : Launch) (D : va_G) (cy : Nat → ClassId) (a0 : Nat)  (σ : Sto) (Q : Int32 → Sto → Prop) (h : wp_X12_fail a0  σ Q) : Mt l D cy yX12_fail cX12_fail 2 (some .boolean) rm_X12_fail [.ref a0] σ (PsI Q) := by
  unfold wp_X12_fail at h
  refine mt_of (by decide +kernel) (Nat.le_of_ble_eq_true rfl) ?_
  intro p e s m args below meth c A ls C hr hnm hl
  have C : Cx p s m args meth c D cy A cX12_fail 2 RX12 := C
  have hl : lv_has ls 2 [(0, .ref a0)] := hl
  refine x_aload_n C dX12_fail_0 rfl (lv_at hl 0 rfl) ?_
  refine x_iconst (v := 0) C dX12_fail_1 (by decide) ?_
  obtain ⟨g1, h⟩ := h
  refine x_putI C fl_RX12_267 (Or.inl rfl) g1 dX12_fail_2 ?_
  refine x_aload_n C dX12_fail_5 rfl (lv_at hl 0 rfl) ?_
  refine x_getZ C fl_RX12_33 g1 dX12_fail_6 ?_
  refine x_topi (fun x2 e3 => ?_)
  have h := h x2 e3
  refine x_istore_n (i := 1) (lv' := [(1, .int x2), (0, .ref a0)]) C dX12_fail_9 rfl hl (by decide) (by first | rfl | simp [vrc, cat_i, cat_r, cat_l]) (fun ls hl => ?_)
  refine x_iload_n C dX12_fail_10 rfl (lv_at hl 0 rfl) ?_
  refine x_if_eq (tgt := 22) C dX12_fail_11 (by decide) (fun c4 => ?_) (fun c4 => ?_)
  · have h := h.1 c4
    exact t_X12_fail_22 C hr hnm  x2 _ h ls (lv_sub hl [1, 0] rfl)
  · have h := h.2 c4
    refine x_aload_n C dX12_fail_14 rfl (lv_at hl 1 rfl) ?_
    refine x_aload_n C dX12_fail_15 rfl (lv_at hl 1 rfl) ?_
    refine x_getI C fl_RX12_318 g1 dX12_fail_16 ?_
    refine x_topi (fun x5 e6 => ?_)
    have h := h x5 e6
    refine x_putI C fl_RX12_458 (Or.inl rfl) g1 dX12_fail_19 ?_
    exact t_X12_fail_22 C hr hnm  x2 _ h ls (lv_sub hl [1, 0] rfl)
theorem dX12_install_0 : decode cX12_install 0 = .ok (.aload_n 0, 1) := by decide +kernel
theorem dX12_install_1 : decode cX12_install 1 = .ok (.iconst 0, 1) := by decide +kernel
theorem dX12_install_2 : decode cX12_install 2 = .ok (.putfield 267, 3) := by decide +kernel
theorem dX12_install_5 : decode cX12_install 5 = .ok (.aload_n 0, 1) := by decide +kernel
theorem dX12_install_6 : decode cX12_install 6 = .ok (.invokevirtual 461, 3) := by decide +kernel
theorem dX12_install_9 : decode cX12_install 9 = .ok (.ireturn, 1) := by decide +kernel
abbrev rm_X12_install : Room := { frames := 1, cells := 0, slots := 0, locals := 20 }
def wp_X12_install (a0 : Nat)  (σ : Sto) (Q : Int32 → Sto → Prop) : Prop := (sK σ a0 = 12 ∧ (wp_X12_establish a0  (stI σ a0 0 (0 : Int32)) (fun (x3 : Int32) (σ2 : Sto) => Q x3 σ2)))
set_option maxHeartbeats 4000000 in
set_option maxRecDepth 100000 in
theorem c_X12_install (l : Launch) (D : va_G) (cy : Nat → ClassId) (a0 : Nat)  (σ : Sto) (Q : Int32 → Sto → Prop) (h : wp_X12_install a0  σ Q) : Mt l D cy yX12_install cX12_install 1 (some .int) rm_X12_install [.ref a0] σ (PsI Q) := by
  unfold wp_X12_install at h
  refine mt_of (by decide +kernel) (Nat.le_of_ble_eq_true rfl) ?_
  intro p e s m args below meth c A ls C hr hnm hl
  have C : Cx p s m args meth c D cy A cX12_install 1 RX12 := C
  have hl : lv_has ls 1 [(0, .ref a0)] := hl
  refine x_aload_n C dX12_install_0 rfl (lv_at hl 0 rfl) ?_
  refine x_iconst (v := 0) C dX12_install_1 (by decide) ?_
  obtain ⟨g1, h⟩ := h
  refine x_putI C fl_RX12_267 (Or.inl rfl) g1 dX12_install_2 ?_
  refine x_aload_n C dX12_install_5 rfl (lv_at hl 0 rfl) ?_
  refine x_callV (rm := rm_X12_establish) (rest := []) (As := []) C cy_RX12_461 g1 (by decide) (by decide) rfl rfl (Nat.le_of_ble_eq_true rfl) hl.1 dX12_install_6 (c_X12_establish l D cy a0  (stI σ a0 0 (0 : Int32)) _ h) (ks_i (fun x3 σ2 h => ?_))
  exact x_iret C hr dX12_install_9 ⟨_, rfl, h⟩
theorem dX12_replica_0 : decode cX12_replica 0 = .ok (.aload_n 0, 1) := by decide +kernel
theorem dX12_replica_1 : decode cX12_replica 1 = .ok (.iconst 0, 1) := by decide +kernel
theorem dX12_replica_2 : decode cX12_replica 2 = .ok (.putfield 267, 3) := by decide +kernel
theorem dX12_replica_5 : decode cX12_replica 5 = .ok (.aload_n 0, 1) := by decide +kernel
theorem dX12_replica_6 : decode cX12_replica 6 = .ok (.iload_n 1, 1) := by decide +kernel
theorem dX12_replica_7 : decode cX12_replica 7 = .ok (.invokevirtual 483, 3) := by decide +kernel
theorem dX12_replica_10 : decode cX12_replica 10 = .ok (.ifCond .ne 5, 3) := by decide +kernel
theorem dX12_replica_13 : decode cX12_replica 13 = .ok (.iconst (-1), 1) := by decide +kernel
theorem dX12_replica_14 : decode cX12_replica 14 = .ok (.ireturn, 1) := by decide +kernel
theorem dX12_replica_15 : decode cX12_replica 15 = .ok (.iload_n 2, 1) := by decide +kernel
theorem dX12_replica_16 : decode cX12_replica 16 = .ok (.tableswitch 145 0 10 #[60, 75, 82, 89, 96, 103, 110, 117, 124, 131, 138], 60) := by decide +kernel
theorem dX12_replica_76 : decode cX12_replica 76 = .ok (.aload_n 0, 1) := by decide +kernel
theorem dX12_replica_77 : decode cX12_replica 77 = .ok (.getfield 41, 3) := by decide +kernel
theorem dX12_replica_80 : decode cX12_replica 80 = .ok (.iload_n 1, 1) := by decide +kernel
theorem dX12_replica_81 : decode cX12_replica 81 = .ok (.baload, 1) := by decide +kernel
theorem dX12_replica_82 : decode cX12_replica 82 = .ok (.ifCond .eq 7, 3) := by decide +kernel
theorem dX12_replica_85 : decode cX12_replica 85 = .ok (.iconst 1, 1) := by decide +kernel
theorem dX12_replica_86 : decode cX12_replica 86 = .ok (.goto 4, 3) := by decide +kernel
theorem dX12_replica_89 : decode cX12_replica 89 = .ok (.iconst 0, 1) := by decide +kernel
theorem dX12_replica_90 : decode cX12_replica 90 = .ok (.ireturn, 1) := by decide +kernel
theorem dX12_replica_91 : decode cX12_replica 91 = .ok (.aload_n 0, 1) := by decide +kernel
theorem dX12_replica_92 : decode cX12_replica 92 = .ok (.getfield 50, 3) := by decide +kernel
theorem dX12_replica_95 : decode cX12_replica 95 = .ok (.iload_n 1, 1) := by decide +kernel
theorem dX12_replica_96 : decode cX12_replica 96 = .ok (.iaload, 1) := by decide +kernel
theorem dX12_replica_97 : decode cX12_replica 97 = .ok (.ireturn, 1) := by decide +kernel
theorem dX12_replica_98 : decode cX12_replica 98 = .ok (.aload_n 0, 1) := by decide +kernel
theorem dX12_replica_99 : decode cX12_replica 99 = .ok (.getfield 44, 3) := by decide +kernel
theorem dX12_replica_102 : decode cX12_replica 102 = .ok (.iload_n 1, 1) := by decide +kernel
theorem dX12_replica_103 : decode cX12_replica 103 = .ok (.iaload, 1) := by decide +kernel
theorem dX12_replica_104 : decode cX12_replica 104 = .ok (.ireturn, 1) := by decide +kernel
theorem dX12_replica_105 : decode cX12_replica 105 = .ok (.aload_n 0, 1) := by decide +kernel
theorem dX12_replica_106 : decode cX12_replica 106 = .ok (.getfield 47, 3) := by decide +kernel
theorem dX12_replica_109 : decode cX12_replica 109 = .ok (.iload_n 1, 1) := by decide +kernel
theorem dX12_replica_110 : decode cX12_replica 110 = .ok (.iaload, 1) := by decide +kernel
theorem dX12_replica_111 : decode cX12_replica 111 = .ok (.ireturn, 1) := by decide +kernel
theorem dX12_replica_112 : decode cX12_replica 112 = .ok (.aload_n 0, 1) := by decide +kernel
theorem dX12_replica_113 : decode cX12_replica 113 = .ok (.getfield 62, 3) := by decide +kernel
theorem dX12_replica_116 : decode cX12_replica 116 = .ok (.iload_n 1, 1) := by decide +kernel
theorem dX12_replica_117 : decode cX12_replica 117 = .ok (.iaload, 1) := by decide +kernel
theorem dX12_replica_118 : decode cX12_replica 118 = .ok (.ireturn, 1) := by decide +kernel
theorem dX12_replica_119 : decode cX12_replica 119 = .ok (.aload_n 0, 1) := by decide +kernel
theorem dX12_replica_120 : decode cX12_replica 120 = .ok (.getfield 59, 3) := by decide +kernel
theorem dX12_replica_123 : decode cX12_replica 123 = .ok (.iload_n 1, 1) := by decide +kernel
theorem dX12_replica_124 : decode cX12_replica 124 = .ok (.iaload, 1) := by decide +kernel
theorem dX12_replica_125 : decode cX12_replica 125 = .ok (.ireturn, 1) := by decide +kernel
theorem dX12_replica_126 : decode cX12_replica 126 = .ok (.aload_n 0, 1) := by decide +kernel
theorem dX12_replica_127 : decode cX12_replica 127 = .ok (.getfield 65, 3) := by decide +kernel
theorem dX12_replica_130 : decode cX12_replica 130 = .ok (.iload_n 1, 1) := by decide +kernel
theorem dX12_replica_131 : decode cX12_replica 131 = .ok (.iaload, 1) := by decide +kernel
theorem dX12_replica_132 : decode cX12_replica 132 = .ok (.ireturn, 1) := by decide +kernel
theorem dX12_replica_133 : decode cX12_replica 133 = .ok (.aload_n 0, 1) := by decide +kernel
theorem dX12_replica_134 : decode cX12_replica 134 = .ok (.getfield 89, 3) := by decide +kernel
theorem dX12_replica_137 : decode cX12_replica 137 = .ok (.iload_n 1, 1) := by decide +kernel
theorem dX12_replica_138 : decode cX12_replica 138 = .ok (.iaload, 1) := by decide +kernel
theorem dX12_replica_139 : decode cX12_replica 139 = .ok (.ireturn, 1) := by decide +kernel
theorem dX12_replica_140 : decode cX12_replica 140 = .ok (.aload_n 0, 1) := by decide +kernel
theorem dX12_replica_141 : decode cX12_replica 141 = .ok (.getfield 53, 3) := by decide +kernel
theorem dX12_replica_144 : decode cX12_replica 144 = .ok (.iload_n 1, 1) := by decide +kernel
theorem dX12_replica_145 : decode cX12_replica 145 = .ok (.iaload, 1) := by decide +kernel
theorem dX12_replica_146 : decode cX12_replica 146 = .ok (.ireturn, 1) := by decide +kernel
theorem dX12_replica_147 : decode cX12_replica 147 = .ok (.aload_n 0, 1) := by decide +kernel
theorem dX12_replica_148 : decode cX12_replica 148 = .ok (.getfield 56, 3) := by decide +kernel
theorem dX12_replica_151 : decode cX12_replica 151 = .ok (.iload_n 1, 1) := by decide +kernel
theorem dX12_replica_152 : decode cX12_replica 152 = .ok (.iaload, 1) := by decide +kernel
theorem dX12_replica_153 : decode cX12_replica 153 = .ok (.ireturn, 1) := by decide +kernel
theorem dX12_replica_154 : decode cX12_replica 154 = .ok (.aload_n 0, 1) := by decide +kernel
theorem dX12_replica_155 : decode cX12_replica 155 = .ok (.getfield 68, 3) := by decide +kernel
theorem dX12_replica_158 : decode cX12_replica 158 = .ok (.iload_n 1, 1) := by decide +kernel
theorem dX12_replica_159 : decode cX12_replica 159 = .ok (.iaload, 1) := by decide +kernel
theorem dX12_replica_160 : decode cX12_replica 160 = .ok (.ireturn, 1) := by decide +kernel
theorem dX12_replica_161 : decode cX12_replica 161 = .ok (.iconst (-1), 1) := by decide +kernel
theorem dX12_replica_162 : decode cX12_replica 162 = .ok (.ireturn, 1) := by decide +kernel
abbrev rm_X12_replica : Room := { frames := 2, cells := 0, slots := 0, locals := 43 }
def wp_X12_replica (a0 : Nat) (p1 : Int32) (p2 : Int32) (σ : Sto) (Q : Int32 → Sto → Prop) : Prop := (sK σ a0 = 12 ∧ (wp_X12_isReplica a0 p1 (stI σ a0 0 (0 : Int32)) (fun (x3 : Int32) (σ2 : Sto) => ((¬ x3 = 0 → ((p2.toInt < 0 ∨ 10 < p2.toInt → Q (-1 : Int32) σ2) ∧ (p2 = (0 : Int32) → (sK σ2 a0 = 12 ∧ (∃ b8 : Nat, sP σ2 a0 20 = some b8 ∧ (sK σ2 b8 = 16 ∧ (vp_in p1 (sN σ2 b8) ∧ (∀ x12 : Int32, x12 = sI σ2 b8 p1.toNatClampNeg → ((x12 = 0 → Q (0 : Int32) σ2) ∧ (¬ x12 = 0 → Q (1 : Int32) σ2)))))))) ∧ (p2 = (1 : Int32) → (sK σ2 a0 = 12 ∧ (∃ b16 : Nat, sP σ2 a0 23 = some b16 ∧ (sK σ2 b16 = 14 ∧ (vp_in p1 (sN σ2 b16) ∧ (∀ x20 : Int32, x20 = sI σ2 b16 p1.toNatClampNeg → Q x20 σ2)))))) ∧ (p2 = (2 : Int32) → (sK σ2 a0 = 12 ∧ (∃ b23 : Nat, sP σ2 a0 21 = some b23 ∧ (sK σ2 b23 = 14 ∧ (vp_in p1 (sN σ2 b23) ∧ (∀ x27 : Int32, x27 = sI σ2 b23 p1.toNatClampNeg → Q x27 σ2)))))) ∧ (p2 = (3 : Int32) → (sK σ2 a0 = 12 ∧ (∃ b30 : Nat, sP σ2 a0 22 = some b30 ∧ (sK σ2 b30 = 14 ∧ (vp_in p1 (sN σ2 b30) ∧ (∀ x34 : Int32, x34 = sI σ2 b30 p1.toNatClampNeg → Q x34 σ2)))))) ∧ (p2 = (4 : Int32) → (sK σ2 a0 = 12 ∧ (∃ b37 : Nat, sP σ2 a0 27 = some b37 ∧ (sK σ2 b37 = 14 ∧ (vp_in p1 (sN σ2 b37) ∧ (∀ x41 : Int32, x41 = sI σ2 b37 p1.toNatClampNeg → Q x41 σ2)))))) ∧ (p2 = (5 : Int32) → (sK σ2 a0 = 12 ∧ (∃ b44 : Nat, sP σ2 a0 26 = some b44 ∧ (sK σ2 b44 = 14 ∧ (vp_in p1 (sN σ2 b44) ∧ (∀ x48 : Int32, x48 = sI σ2 b44 p1.toNatClampNeg → Q x48 σ2)))))) ∧ (p2 = (6 : Int32) → (sK σ2 a0 = 12 ∧ (∃ b51 : Nat, sP σ2 a0 28 = some b51 ∧ (sK σ2 b51 = 14 ∧ (vp_in p1 (sN σ2 b51) ∧ (∀ x55 : Int32, x55 = sI σ2 b51 p1.toNatClampNeg → Q x55 σ2)))))) ∧ (p2 = (7 : Int32) → (sK σ2 a0 = 12 ∧ (∃ b58 : Nat, sP σ2 a0 36 = some b58 ∧ (sK σ2 b58 = 14 ∧ (vp_in p1 (sN σ2 b58) ∧ (∀ x62 : Int32, x62 = sI σ2 b58 p1.toNatClampNeg → Q x62 σ2)))))) ∧ (p2 = (8 : Int32) → (sK σ2 a0 = 12 ∧ (∃ b65 : Nat, sP σ2 a0 24 = some b65 ∧ (sK σ2 b65 = 14 ∧ (vp_in p1 (sN σ2 b65) ∧ (∀ x69 : Int32, x69 = sI σ2 b65 p1.toNatClampNeg → Q x69 σ2)))))) ∧ (p2 = (9 : Int32) → (sK σ2 a0 = 12 ∧ (∃ b72 : Nat, sP σ2 a0 25 = some b72 ∧ (sK σ2 b72 = 14 ∧ (vp_in p1 (sN σ2 b72) ∧ (∀ x76 : Int32, x76 = sI σ2 b72 p1.toNatClampNeg → Q x76 σ2)))))) ∧ (p2 = (10 : Int32) → (sK σ2 a0 = 12 ∧ (∃ b79 : Nat, sP σ2 a0 29 = some b79 ∧ (sK σ2 b79 = 14 ∧ (vp_in p1 (sN σ2 b79) ∧ (∀ x83 : Int32, x83 = sI σ2 b79 p1.toNatClampNeg → Q x83 σ2)))))))) ∧ (x3 = 0 → Q (-1 : Int32) σ2)))))
set_option maxHeartbeats 4000000 in
set_option maxRecDepth 100000 in
theorem c_X12_replica (l : Launch) (D : va_G) (cy : Nat → ClassId) (a0 : Nat) (p1 : Int32) (p2 : Int32) (σ : Sto) (Q : Int32 → Sto → Prop) (h : wp_X12_replica a0 p1 p2 σ Q) : Mt l D cy yX12_replica cX12_replica 3 (some .int) rm_X12_replica [.ref a0, .int p1, .int p2] σ (PsI Q) := by
  unfold wp_X12_replica at h
  refine mt_of (by decide +kernel) (Nat.le_of_ble_eq_true rfl) ?_
  intro p e s m args below meth c A ls C hr hnm hl
  have C : Cx p s m args meth c D cy A cX12_replica 3 RX12 := C
  have hl : lv_has ls 3 [(0, .ref a0), (1, .int p1), (2, .int p2)] := hl
  refine x_aload_n C dX12_replica_0 rfl (lv_at hl 0 rfl) ?_
  refine x_iconst (v := 0) C dX12_replica_1 (by decide) ?_
  obtain ⟨g1, h⟩ := h
  refine x_putI C fl_RX12_267 (Or.inl rfl) g1 dX12_replica_2 ?_
  refine x_aload_n C dX12_replica_5 rfl (lv_at hl 0 rfl) ?_
  refine x_iload_n C dX12_replica_6 rfl (lv_at hl 1 rfl) ?_
  refine x_callV (rm := rm_X12_isReplica) (rest := []) (As := [.int p1]) C cy_RX12_483 g1 (by decide) (by decide) rfl rfl (Nat.le_of_ble_eq_true rfl) hl.1 dX12_replica_7 (c_X12_isReplica l D cy a0 p1 (stI σ a0 0 (0 : Int32)) _ h) (ks_i (fun x3 σ2 h => ?_))
  refine x_if_ne (tgt := 15) C dX12_replica_10 (by decide) (fun c4 => ?_) (fun c4 => ?_)
  · have h := h.1 c4
    refine x_iload_n C dX12_replica_15 rfl (lv_at hl 2 rfl) ?_
    by_cases c5 : p2.toInt < 0 ∨ 10 < p2.toInt
    · have h := h.1 c5
      refine x_tableOut (tgt := 161) C dX12_replica_16 c5 (by decide) ?_
      refine x_iconst (v := -1) C dX12_replica_161 (by decide) ?_
      exact x_iret C hr dX12_replica_162 ⟨_, rfl, h⟩
    · rcases (show p2.toInt = 0 ∨ p2.toInt = 1 ∨ p2.toInt = 2 ∨ p2.toInt = 3 ∨ p2.toInt = 4 ∨ p2.toInt = 5 ∨ p2.toInt = 6 ∨ p2.toInt = 7 ∨ p2.toInt = 8 ∨ p2.toInt = 9 ∨ p2.toInt = 10 by omega) with c6 | c6 | c6 | c6 | c6 | c6 | c6 | c6 | c6 | c6 | c6
      · have h := h.2.1 (sw_eq (k := 0) (c6.trans (by decide)))
        refine x_tableIn (tgt := 76) (off := 60) C dX12_replica_16 (by omega) (by omega) (by rw [c6]; rfl) (by decide) ?_
        refine x_aload_n C dX12_replica_76 rfl (lv_at hl 0 rfl) ?_
        obtain ⟨g7, h⟩ := h
        refine x_getP C fl_RX12_41 g7 dX12_replica_77 ?_
        refine x_iload_n C dX12_replica_80 rfl (lv_at hl 1 rfl) ?_
        obtain ⟨b8, g9, h⟩ := h
        refine x_nn1 g9 ?_
        obtain ⟨g10, h⟩ := h
        obtain ⟨g11, h⟩ := h
        refine x_zald C g10 g11 dX12_replica_81 ?_
        refine x_topi (fun x12 e13 => ?_)
        have h := h x12 e13
        refine x_if_eq (tgt := 89) C dX12_replica_82 (by decide) (fun c14 => ?_) (fun c14 => ?_)
        · have h := h.1 c14
          refine x_iconst (v := 0) C dX12_replica_89 (by decide) ?_
          exact x_iret C hr dX12_replica_90 ⟨_, rfl, h⟩
        · have h := h.2 c14
          refine x_iconst (v := 1) C dX12_replica_85 (by decide) ?_
          refine x_goto (tgt := 90) C dX12_replica_86 (by decide) ?_
          exact x_iret C hr dX12_replica_90 ⟨_, rfl, h⟩
      · have h := h.2.2.1 (sw_eq (k := 1) (c6.trans (by decide)))
        refine x_tableIn (tgt := 91) (off := 75) C dX12_replica_16 (by omega) (by omega) (by rw [c6]; rfl) (by decide) ?_
        refine x_aload_n C dX12_replica_91 rfl (lv_at hl 0 rfl) ?_
        obtain ⟨g15, h⟩ := h
        refine x_getP C fl_RX12_50 g15 dX12_replica_92 ?_
        refine x_iload_n C dX12_replica_95 rfl (lv_at hl 1 rfl) ?_
        obtain ⟨b16, g17, h⟩ := h
        refine x_nn1 g17 ?_
        obtain ⟨g18, h⟩ := h
        obtain ⟨g19, h⟩ := h
        refine x_iald C g18 g19 dX12_replica_96 ?_
        refine x_topi (fun x20 e21 => ?_)
        have h := h x20 e21
        exact x_iret C hr dX12_replica_97 ⟨_, rfl, h⟩
      · have h := h.2.2.2.1 (sw_eq (k := 2) (c6.trans (by decide)))
        refine x_tableIn (tgt := 98) (off := 82) C dX12_replica_16 (by omega) (by omega) (by rw [c6]; rfl) (by decide) ?_
        refine x_aload_n C dX12_replica_98 rfl (lv_at hl 0 rfl) ?_
        obtain ⟨g22, h⟩ := h
        refine x_getP C fl_RX12_44 g22 dX12_replica_99 ?_
        refine x_iload_n C dX12_replica_102 rfl (lv_at hl 1 rfl) ?_
        obtain ⟨b23, g24, h⟩ := h
        refine x_nn1 g24 ?_
        obtain ⟨g25, h⟩ := h
        obtain ⟨g26, h⟩ := h
        refine x_iald C g25 g26 dX12_replica_103 ?_
        refine x_topi (fun x27 e28 => ?_)
        have h := h x27 e28
        exact x_iret C hr dX12_replica_104 ⟨_, rfl, h⟩
      · have h := h.2.2.2.2.1 (sw_eq (k := 3) (c6.trans (by decide)))
        refine x_tableIn (tgt := 105) (off := 89) C dX12_replica_16 (by omega) (by omega) (by rw [c6]; rfl) (by decide) ?_
        refine x_aload_n C dX12_replica_105 rfl (lv_at hl 0 rfl) ?_
        obtain ⟨g29, h⟩ := h
        refine x_getP C fl_RX12_47 g29 dX12_replica_106 ?_
        refine x_iload_n C dX12_replica_109 rfl (lv_at hl 1 rfl) ?_
        obtain ⟨b30, g31, h⟩ := h
        refine x_nn1 g31 ?_
        obtain ⟨g32, h⟩ := h
        obtain ⟨g33, h⟩ := h
        refine x_iald C g32 g33 dX12_replica_110 ?_
        refine x_topi (fun x34 e35 => ?_)
        have h := h x34 e35
        exact x_iret C hr dX12_replica_111 ⟨_, rfl, h⟩
      · have h := h.2.2.2.2.2.1 (sw_eq (k := 4) (c6.trans (by decide)))
        refine x_tableIn (tgt := 112) (off := 96) C dX12_replica_16 (by omega) (by omega) (by rw [c6]; rfl) (by decide) ?_
        refine x_aload_n C dX12_replica_112 rfl (lv_at hl 0 rfl) ?_
        obtain ⟨g36, h⟩ := h
        refine x_getP C fl_RX12_62 g36 dX12_replica_113 ?_
        refine x_iload_n C dX12_replica_116 rfl (lv_at hl 1 rfl) ?_
        obtain ⟨b37, g38, h⟩ := h
        refine x_nn1 g38 ?_
        obtain ⟨g39, h⟩ := h
        obtain ⟨g40, h⟩ := h
        refine x_iald C g39 g40 dX12_replica_117 ?_
        refine x_topi (fun x41 e42 => ?_)
        have h := h x41 e42
        exact x_iret C hr dX12_replica_118 ⟨_, rfl, h⟩
      · have h := h.2.2.2.2.2.2.1 (sw_eq (k := 5) (c6.trans (by decide)))
        refine x_tableIn (tgt := 119) (off := 103) C dX12_replica_16 (by omega) (by omega) (by rw [c6]; rfl) (by decide) ?_
        refine x_aload_n C dX12_replica_119 rfl (lv_at hl 0 rfl) ?_
        obtain ⟨g43, h⟩ := h
        refine x_getP C fl_RX12_59 g43 dX12_replica_120 ?_
        refine x_iload_n C dX12_replica_123 rfl (lv_at hl 1 rfl) ?_
        obtain ⟨b44, g45, h⟩ := h
        refine x_nn1 g45 ?_
        obtain ⟨g46, h⟩ := h
        obtain ⟨g47, h⟩ := h
        refine x_iald C g46 g47 dX12_replica_124 ?_
        refine x_topi (fun x48 e49 => ?_)
        have h := h x48 e49
        exact x_iret C hr dX12_replica_125 ⟨_, rfl, h⟩
      · have h := h.2.2.2.2.2.2.2.1 (sw_eq (k := 6) (c6.trans (by decide)))
        refine x_tableIn (tgt := 126) (off := 110) C dX12_replica_16 (by omega) (by omega) (by rw [c6]; rfl) (by decide) ?_
        refine x_aload_n C dX12_replica_126 rfl (lv_at hl 0 rfl) ?_
        obtain ⟨g50, h⟩ := h
        refine x_getP C fl_RX12_65 g50 dX12_replica_127 ?_
        refine x_iload_n C dX12_replica_130 rfl (lv_at hl 1 rfl) ?_
        obtain ⟨b51, g52, h⟩ := h
        refine x_nn1 g52 ?_
        obtain ⟨g53, h⟩ := h
        obtain ⟨g54, h⟩ := h
        refine x_iald C g53 g54 dX12_replica_131 ?_
        refine x_topi (fun x55 e56 => ?_)
        have h := h x55 e56
        exact x_iret C hr dX12_replica_132 ⟨_, rfl, h⟩
      · have h := h.2.2.2.2.2.2.2.2.1 (sw_eq (k := 7) (c6.trans (by decide)))
        refine x_tableIn (tgt := 133) (off := 117) C dX12_replica_16 (by omega) (by omega) (by rw [c6]; rfl) (by decide) ?_
        refine x_aload_n C dX12_replica_133 rfl (lv_at hl 0 rfl) ?_
        obtain ⟨g57, h⟩ := h
        refine x_getP C fl_RX12_89 g57 dX12_replica_134 ?_
        refine x_iload_n C dX12_replica_137 rfl (lv_at hl 1 rfl) ?_
        obtain ⟨b58, g59, h⟩ := h
        refine x_nn1 g59 ?_
        obtain ⟨g60, h⟩ := h
        obtain ⟨g61, h⟩ := h
        refine x_iald C g60 g61 dX12_replica_138 ?_
        refine x_topi (fun x62 e63 => ?_)
        have h := h x62 e63
        exact x_iret C hr dX12_replica_139 ⟨_, rfl, h⟩
      · have h := h.2.2.2.2.2.2.2.2.2.1 (sw_eq (k := 8) (c6.trans (by decide)))
        refine x_tableIn (tgt := 140) (off := 124) C dX12_replica_16 (by omega) (by omega) (by rw [c6]; rfl) (by decide) ?_
        refine x_aload_n C dX12_replica_140 rfl (lv_at hl 0 rfl) ?_
        obtain ⟨g64, h⟩ := h
        refine x_getP C fl_RX12_53 g64 dX12_replica_141 ?_
        refine x_iload_n C dX12_replica_144 rfl (lv_at hl 1 rfl) ?_
        obtain ⟨b65, g66, h⟩ := h
        refine x_nn1 g66 ?_
        obtain ⟨g67, h⟩ := h
        obtain ⟨g68, h⟩ := h
        refine x_iald C g67 g68 dX12_replica_145 ?_
        refine x_topi (fun x69 e70 => ?_)
        have h := h x69 e70
        exact x_iret C hr dX12_replica_146 ⟨_, rfl, h⟩
      · have h := h.2.2.2.2.2.2.2.2.2.2.1 (sw_eq (k := 9) (c6.trans (by decide)))
        refine x_tableIn (tgt := 147) (off := 131) C dX12_replica_16 (by omega) (by omega) (by rw [c6]; rfl) (by decide) ?_
        refine x_aload_n C dX12_replica_147 rfl (lv_at hl 0 rfl) ?_
        obtain ⟨g71, h⟩ := h
        refine x_getP C fl_RX12_56 g71 dX12_replica_148 ?_
        refine x_iload_n C dX12_replica_151 rfl (lv_at hl 1 rfl) ?_
        obtain ⟨b72, g73, h⟩ := h
        refine x_nn1 g73 ?_
        obtain ⟨g74, h⟩ := h
        obtain ⟨g75, h⟩ := h
        refine x_iald C g74 g75 dX12_replica_152 ?_
        refine x_topi (fun x76 e77 => ?_)
        have h := h x76 e77
        exact x_iret C hr dX12_replica_153 ⟨_, rfl, h⟩
      · have h := h.2.2.2.2.2.2.2.2.2.2.2 (sw_eq (k := 10) (c6.trans (by decide)))
        refine x_tableIn (tgt := 154) (off := 138) C dX12_replica_16 (by omega) (by omega) (by rw [c6]; rfl) (by decide) ?_
        refine x_aload_n C dX12_replica_154 rfl (lv_at hl 0 rfl) ?_
        obtain ⟨g78, h⟩ := h
        refine x_getP C fl_RX12_68 g78 dX12_replica_155 ?_
        refine x_iload_n C dX12_replica_158 rfl (lv_at hl 1 rfl) ?_
        obtain ⟨b79, g80, h⟩ := h
        refine x_nn1 g80 ?_
        obtain ⟨g81, h⟩ := h
        obtain ⟨g82, h⟩ := h
        refine x_iald C g81 g82 dX12_replica_159 ?_
        refine x_topi (fun x83 e84 => ?_)
        have h := h x83 e84
        exact x_iret C hr dX12_replica_160 ⟨_, rfl, h⟩
  · have h := h.2 c4
    refine x_iconst (v := -1) C dX12_replica_13 (by decide) ?_
    exact x_iret C hr dX12_replica_14 ⟨_, rfl, h⟩
theorem dX12_entry_0 : decode cX12_entry 0 = .ok (.aload_n 0, 1) := by decide +kernel
theorem dX12_entry_1 : decode cX12_entry 1 = .ok (.iconst 0, 1) := by decide +kernel
theorem dX12_entry_2 : decode cX12_entry 2 = .ok (.putfield 267, 3) := by decide +kernel
theorem dX12_entry_5 : decode cX12_entry 5 = .ok (.aload_n 0, 1) := by decide +kernel
theorem dX12_entry_6 : decode cX12_entry 6 = .ok (.iload_n 1, 1) := by decide +kernel
theorem dX12_entry_7 : decode cX12_entry 7 = .ok (.invokevirtual 483, 3) := by decide +kernel
theorem dX12_entry_10 : decode cX12_entry 10 = .ok (.ifCond .eq 33, 3) := by decide +kernel
theorem dX12_entry_13 : decode cX12_entry 13 = .ok (.iload_n 2, 1) := by decide +kernel
theorem dX12_entry_14 : decode cX12_entry 14 = .ok (.iconst 1, 1) := by decide +kernel
theorem dX12_entry_15 : decode cX12_entry 15 = .ok (.aload_n 0, 1) := by decide +kernel
theorem dX12_entry_16 : decode cX12_entry 16 = .ok (.getfield 59, 3) := by decide +kernel
theorem dX12_entry_19 : decode cX12_entry 19 = .ok (.aload_n 0, 1) := by decide +kernel
theorem dX12_entry_20 : decode cX12_entry 20 = .ok (.iload_n 1, 1) := by decide +kernel
theorem dX12_entry_21 : decode cX12_entry 21 = .ok (.invokevirtual 483, 3) := by decide +kernel
theorem dX12_entry_24 : decode cX12_entry 24 = .ok (.ifCond .eq 7, 3) := by decide +kernel
theorem dX12_entry_27 : decode cX12_entry 27 = .ok (.iload_n 1, 1) := by decide +kernel
theorem dX12_entry_28 : decode cX12_entry 28 = .ok (.goto 4, 3) := by decide +kernel
theorem dX12_entry_31 : decode cX12_entry 31 = .ok (.iconst 0, 1) := by decide +kernel
theorem dX12_entry_32 : decode cX12_entry 32 = .ok (.iaload, 1) := by decide +kernel
theorem dX12_entry_33 : decode cX12_entry 33 = .ok (.invokestatic 270, 3) := by decide +kernel
theorem dX12_entry_36 : decode cX12_entry 36 = .ok (.ifCond .eq 7, 3) := by decide +kernel
theorem dX12_entry_39 : decode cX12_entry 39 = .ok (.iconst 1, 1) := by decide +kernel
theorem dX12_entry_40 : decode cX12_entry 40 = .ok (.goto 4, 3) := by decide +kernel
theorem dX12_entry_43 : decode cX12_entry 43 = .ok (.iconst 0, 1) := by decide +kernel
theorem dX12_entry_44 : decode cX12_entry 44 = .ok (.istore 4, 2) := by decide +kernel
theorem dX12_entry_46 : decode cX12_entry 46 = .ok (.iload 4, 2) := by decide +kernel
theorem dX12_entry_48 : decode cX12_entry 48 = .ok (.ifCond .eq 14, 3) := by decide +kernel
theorem dX12_entry_51 : decode cX12_entry 51 = .ok (.bipush 100, 2) := by decide +kernel
theorem dX12_entry_53 : decode cX12_entry 53 = .ok (.iload_n 1, 1) := by decide +kernel
theorem dX12_entry_54 : decode cX12_entry 54 = .ok (.imul, 1) := by decide +kernel
theorem dX12_entry_55 : decode cX12_entry 55 = .ok (.iload_n 2, 1) := by decide +kernel
theorem dX12_entry_56 : decode cX12_entry 56 = .ok (.iadd, 1) := by decide +kernel
theorem dX12_entry_57 : decode cX12_entry 57 = .ok (.iconst 1, 1) := by decide +kernel
theorem dX12_entry_58 : decode cX12_entry 58 = .ok (.isub, 1) := by decide +kernel
theorem dX12_entry_59 : decode cX12_entry 59 = .ok (.goto 4, 3) := by decide +kernel
theorem dX12_entry_62 : decode cX12_entry 62 = .ok (.iconst 0, 1) := by decide +kernel
theorem dX12_entry_63 : decode cX12_entry 63 = .ok (.istore 5, 2) := by decide +kernel
theorem dX12_entry_65 : decode cX12_entry 65 = .ok (.iload 4, 2) := by decide +kernel
theorem dX12_entry_67 : decode cX12_entry 67 = .ok (.ifCond .eq 17, 3) := by decide +kernel
theorem dX12_entry_70 : decode cX12_entry 70 = .ok (.aload_n 0, 1) := by decide +kernel
theorem dX12_entry_71 : decode cX12_entry 71 = .ok (.getfield 71, 3) := by decide +kernel
theorem dX12_entry_74 : decode cX12_entry 74 = .ok (.iload 5, 2) := by decide +kernel
theorem dX12_entry_76 : decode cX12_entry 76 = .ok (.baload, 1) := by decide +kernel
theorem dX12_entry_77 : decode cX12_entry 77 = .ok (.ifCond .eq 7, 3) := by decide +kernel
theorem dX12_entry_80 : decode cX12_entry 80 = .ok (.iconst 1, 1) := by decide +kernel
theorem dX12_entry_81 : decode cX12_entry 81 = .ok (.goto 4, 3) := by decide +kernel
theorem dX12_entry_84 : decode cX12_entry 84 = .ok (.iconst 0, 1) := by decide +kernel
theorem dX12_entry_85 : decode cX12_entry 85 = .ok (.istore 6, 2) := by decide +kernel
theorem dX12_entry_87 : decode cX12_entry 87 = .ok (.iload_n 3, 1) := by decide +kernel
theorem dX12_entry_88 : decode cX12_entry 88 = .ok (.tableswitch 145 0 5 #[40, 60, 77, 94, 111, 128], 40) := by decide +kernel
theorem dX12_entry_128 : decode cX12_entry 128 = .ok (.iload 6, 2) := by decide +kernel
theorem dX12_entry_130 : decode cX12_entry 130 = .ok (.ifCond .eq 7, 3) := by decide +kernel
theorem dX12_entry_133 : decode cX12_entry 133 = .ok (.iconst 1, 1) := by decide +kernel
theorem dX12_entry_134 : decode cX12_entry 134 = .ok (.goto 13, 3) := by decide +kernel
theorem dX12_entry_137 : decode cX12_entry 137 = .ok (.iload 4, 2) := by decide +kernel
theorem dX12_entry_139 : decode cX12_entry 139 = .ok (.ifCond .eq 7, 3) := by decide +kernel
theorem dX12_entry_142 : decode cX12_entry 142 = .ok (.iconst 0, 1) := by decide +kernel
theorem dX12_entry_143 : decode cX12_entry 143 = .ok (.goto 4, 3) := by decide +kernel
theorem dX12_entry_146 : decode cX12_entry 146 = .ok (.iconst (-1), 1) := by decide +kernel
theorem dX12_entry_147 : decode cX12_entry 147 = .ok (.ireturn, 1) := by decide +kernel
theorem dX12_entry_148 : decode cX12_entry 148 = .ok (.iload 6, 2) := by decide +kernel
theorem dX12_entry_150 : decode cX12_entry 150 = .ok (.ifCond .eq 13, 3) := by decide +kernel
theorem dX12_entry_153 : decode cX12_entry 153 = .ok (.aload_n 0, 1) := by decide +kernel
theorem dX12_entry_154 : decode cX12_entry 154 = .ok (.getfield 74, 3) := by decide +kernel
theorem dX12_entry_157 : decode cX12_entry 157 = .ok (.iload 5, 2) := by decide +kernel
theorem dX12_entry_159 : decode cX12_entry 159 = .ok (.iaload, 1) := by decide +kernel
theorem dX12_entry_160 : decode cX12_entry 160 = .ok (.goto 4, 3) := by decide +kernel
theorem dX12_entry_163 : decode cX12_entry 163 = .ok (.iconst (-1), 1) := by decide +kernel
theorem dX12_entry_164 : decode cX12_entry 164 = .ok (.ireturn, 1) := by decide +kernel
theorem dX12_entry_165 : decode cX12_entry 165 = .ok (.iload 6, 2) := by decide +kernel
theorem dX12_entry_167 : decode cX12_entry 167 = .ok (.ifCond .eq 13, 3) := by decide +kernel
theorem dX12_entry_170 : decode cX12_entry 170 = .ok (.aload_n 0, 1) := by decide +kernel
theorem dX12_entry_171 : decode cX12_entry 171 = .ok (.getfield 77, 3) := by decide +kernel
theorem dX12_entry_174 : decode cX12_entry 174 = .ok (.iload 5, 2) := by decide +kernel
theorem dX12_entry_176 : decode cX12_entry 176 = .ok (.iaload, 1) := by decide +kernel
theorem dX12_entry_177 : decode cX12_entry 177 = .ok (.goto 4, 3) := by decide +kernel
theorem dX12_entry_180 : decode cX12_entry 180 = .ok (.iconst (-1), 1) := by decide +kernel
theorem dX12_entry_181 : decode cX12_entry 181 = .ok (.ireturn, 1) := by decide +kernel
theorem dX12_entry_182 : decode cX12_entry 182 = .ok (.iload 6, 2) := by decide +kernel
theorem dX12_entry_184 : decode cX12_entry 184 = .ok (.ifCond .eq 13, 3) := by decide +kernel
theorem dX12_entry_187 : decode cX12_entry 187 = .ok (.aload_n 0, 1) := by decide +kernel
theorem dX12_entry_188 : decode cX12_entry 188 = .ok (.getfield 80, 3) := by decide +kernel
theorem dX12_entry_191 : decode cX12_entry 191 = .ok (.iload 5, 2) := by decide +kernel
theorem dX12_entry_193 : decode cX12_entry 193 = .ok (.iaload, 1) := by decide +kernel
theorem dX12_entry_194 : decode cX12_entry 194 = .ok (.goto 4, 3) := by decide +kernel
theorem dX12_entry_197 : decode cX12_entry 197 = .ok (.iconst (-1), 1) := by decide +kernel
theorem dX12_entry_198 : decode cX12_entry 198 = .ok (.ireturn, 1) := by decide +kernel
theorem dX12_entry_199 : decode cX12_entry 199 = .ok (.iload 6, 2) := by decide +kernel
theorem dX12_entry_201 : decode cX12_entry 201 = .ok (.ifCond .eq 13, 3) := by decide +kernel
theorem dX12_entry_204 : decode cX12_entry 204 = .ok (.aload_n 0, 1) := by decide +kernel
theorem dX12_entry_205 : decode cX12_entry 205 = .ok (.getfield 83, 3) := by decide +kernel
theorem dX12_entry_208 : decode cX12_entry 208 = .ok (.iload 5, 2) := by decide +kernel
theorem dX12_entry_210 : decode cX12_entry 210 = .ok (.iaload, 1) := by decide +kernel
theorem dX12_entry_211 : decode cX12_entry 211 = .ok (.goto 4, 3) := by decide +kernel
theorem dX12_entry_214 : decode cX12_entry 214 = .ok (.iconst (-1), 1) := by decide +kernel
theorem dX12_entry_215 : decode cX12_entry 215 = .ok (.ireturn, 1) := by decide +kernel
theorem dX12_entry_216 : decode cX12_entry 216 = .ok (.iload 6, 2) := by decide +kernel
theorem dX12_entry_218 : decode cX12_entry 218 = .ok (.ifCond .eq 13, 3) := by decide +kernel
theorem dX12_entry_221 : decode cX12_entry 221 = .ok (.aload_n 0, 1) := by decide +kernel
theorem dX12_entry_222 : decode cX12_entry 222 = .ok (.getfield 86, 3) := by decide +kernel
theorem dX12_entry_225 : decode cX12_entry 225 = .ok (.iload 5, 2) := by decide +kernel
theorem dX12_entry_227 : decode cX12_entry 227 = .ok (.iaload, 1) := by decide +kernel
theorem dX12_entry_228 : decode cX12_entry 228 = .ok (.goto 4, 3) := by decide +kernel
theorem dX12_entry_231 : decode cX12_entry 231 = .ok (.iconst 0, 1) := by decide +kernel
theorem dX12_entry_232 : decode cX12_entry 232 = .ok (.ireturn, 1) := by decide +kernel
theorem dX12_entry_233 : decode cX12_entry 233 = .ok (.iconst (-1), 1) := by decide +kernel
theorem dX12_entry_234 : decode cX12_entry 234 = .ok (.ireturn, 1) := by decide +kernel
abbrev rm_X12_entry : Room := { frames := 2, cells := 0, slots := 0, locals := 43 }
def b_X12_entry_85 (a0 : Nat)  (Q : Int32 → Sto → Prop) (p3 : Int32) (p4 : Int32) (p5 : Int32) (s0 : Int32) (σ : Sto) : Prop := ((p3.toInt < 0 ∨ 5 < p3.toInt → Q (-1 : Int32) σ) ∧ (p3 = (0 : Int32) → ((s0 = 0 → ((p4 = 0 → Q (-1 : Int32) σ) ∧ (¬ p4 = 0 → Q (0 : Int32) σ))) ∧ (¬ s0 = 0 → Q (1 : Int32) σ))) ∧ (p3 = (1 : Int32) → ((s0 = 0 → Q (-1 : Int32) σ) ∧ (¬ s0 = 0 → (sK σ a0 = 12 ∧ (∃ b7 : Nat, sP σ a0 31 = some b7 ∧ (sK σ b7 = 14 ∧ (vp_in p5 (sN σ b7) ∧ (∀ x11 : Int32, x11 = sI σ b7 p5.toNatClampNeg → Q x11 σ)))))))) ∧ (p3 = (2 : Int32) → ((s0 = 0 → Q (-1 : Int32) σ) ∧ (¬ s0 = 0 → (sK σ a0 = 12 ∧ (∃ b15 : Nat, sP σ a0 32 = some b15 ∧ (sK σ b15 = 14 ∧ (vp_in p5 (sN σ b15) ∧ (∀ x19 : Int32, x19 = sI σ b15 p5.toNatClampNeg → Q x19 σ)))))))) ∧ (p3 = (3 : Int32) → ((s0 = 0 → Q (-1 : Int32) σ) ∧ (¬ s0 = 0 → (sK σ a0 = 12 ∧ (∃ b23 : Nat, sP σ a0 33 = some b23 ∧ (sK σ b23 = 14 ∧ (vp_in p5 (sN σ b23) ∧ (∀ x27 : Int32, x27 = sI σ b23 p5.toNatClampNeg → Q x27 σ)))))))) ∧ (p3 = (4 : Int32) → ((s0 = 0 → Q (-1 : Int32) σ) ∧ (¬ s0 = 0 → (sK σ a0 = 12 ∧ (∃ b31 : Nat, sP σ a0 34 = some b31 ∧ (sK σ b31 = 14 ∧ (vp_in p5 (sN σ b31) ∧ (∀ x35 : Int32, x35 = sI σ b31 p5.toNatClampNeg → Q x35 σ)))))))) ∧ (p3 = (5 : Int32) → ((s0 = 0 → Q (0 : Int32) σ) ∧ (¬ s0 = 0 → (sK σ a0 = 12 ∧ (∃ b39 : Nat, sP σ a0 35 = some b39 ∧ (sK σ b39 = 14 ∧ (vp_in p5 (sN σ b39) ∧ (∀ x43 : Int32, x43 = sI σ b39 p5.toNatClampNeg → Q x43 σ)))))))))
set_option maxHeartbeats 4000000 in
set_option maxRecDepth 100000 in
theorem t_X12_entry_85 {p : Program} {l : Launch} {e : Env} {s : State} {m : MethodId} {args : Array Value} {below : List Frame} {meth : Method} {c : Code} {D : va_G} {cy : Nat → ClassId} {A : Nat → Prop} {a0 : Nat} {Q : Int32 → Sto → Prop} (C : Cx p s m args meth c D cy A cX12_entry 7 RX12) (hr : meth.sig.returnType = (some .int)) (hnm : meth.name = yX12_entry.name) (p3 : Int32) (p4 : Int32) (p5 : Int32) (s0 : Int32) (σ : Sto) (h : b_X12_entry_85 a0  Q p3 p4 p5 s0 σ) (ls : Array Slot) (hl : lv_has ls 7 [(0, .ref a0), (3, .int p3), (4, .int p4), (5, .int p5)]) : Xw p l e rm_X12_entry s m args below meth c D cy A σ 0 0 (MQ below (Qst D cy A (PsI Q)) args s rm_X12_entry.cells rm_X12_entry.slots A) (F0 m 85 ls [.int s0]) := by
  unfold b_X12_entry_85 at h
  refine x_istore (i := 6) (lv' := [(6, .int s0), (0, .ref a0), (3, .int p3), (4, .int p4), (5, .int p5)]) C dX12_entry_85 hl (by decide) (by first | rfl | simp [vrc, cat_i, cat_r, cat_l]) (fun ls hl => ?_)
  refine x_iload_n C dX12_entry_87 rfl (lv_at hl 2 rfl) ?_
  by_cases c1 : p3.toInt < 0 ∨ 5 < p3.toInt
  · have h := h.1 c1
    refine x_tableOut (tgt := 233) C dX12_entry_88 c1 (by decide) ?_
    refine x_iconst (v := -1) C dX12_entry_233 (by decide) ?_
    exact x_iret C hr dX12_entry_234 ⟨_, rfl, h⟩
  · rcases (show p3.toInt = 0 ∨ p3.toInt = 1 ∨ p3.toInt = 2 ∨ p3.toInt = 3 ∨ p3.toInt = 4 ∨ p3.toInt = 5 by omega) with c2 | c2 | c2 | c2 | c2 | c2
    · have h := h.2.1 (sw_eq (k := 0) (c2.trans (by decide)))
      refine x_tableIn (tgt := 128) (off := 40) C dX12_entry_88 (by omega) (by omega) (by rw [c2]; rfl) (by decide) ?_
      refine x_iload C dX12_entry_128 (lv_at hl 0 rfl) ?_
      refine x_if_eq (tgt := 137) C dX12_entry_130 (by decide) (fun c3 => ?_) (fun c3 => ?_)
      · have h := h.1 c3
        refine x_iload C dX12_entry_137 (lv_at hl 3 rfl) ?_
        refine x_if_eq (tgt := 146) C dX12_entry_139 (by decide) (fun c4 => ?_) (fun c4 => ?_)
        · have h := h.1 c4
          refine x_iconst (v := -1) C dX12_entry_146 (by decide) ?_
          exact x_iret C hr dX12_entry_147 ⟨_, rfl, h⟩
        · have h := h.2 c4
          refine x_iconst (v := 0) C dX12_entry_142 (by decide) ?_
          refine x_goto (tgt := 147) C dX12_entry_143 (by decide) ?_
          exact x_iret C hr dX12_entry_147 ⟨_, rfl, h⟩
      · have h := h.2 c3
        refine x_iconst (v := 1) C dX12_entry_133 (by decide) ?_
        refine x_goto (tgt := 147) C dX12_entry_134 (by decide) ?_
        exact x_iret C hr dX12_entry_147 ⟨_, rfl, h⟩
    · have h := h.2.2.1 (sw_eq (k := 1) (c2.trans (by decide)))
      refine x_tableIn (tgt := 148) (off := 60) C dX12_entry_88 (by omega) (by omega) (by rw [c2]; rfl) (by decide) ?_
      refine x_iload C dX12_entry_148 (lv_at hl 0 rfl) ?_
      refine x_if_eq (tgt := 163) C dX12_entry_150 (by decide) (fun c5 => ?_) (fun c5 => ?_)
      · have h := h.1 c5
        refine x_iconst (v := -1) C dX12_entry_163 (by decide) ?_
        exact x_iret C hr dX12_entry_164 ⟨_, rfl, h⟩
      · have h := h.2 c5
        refine x_aload_n C dX12_entry_153 rfl (lv_at hl 1 rfl) ?_
        obtain ⟨g6, h⟩ := h
        refine x_getP C fl_RX12_74 g6 dX12_entry_154 ?_
        refine x_iload C dX12_entry_157 (lv_at hl 4 rfl) ?_
        obtain ⟨b7, g8, h⟩ := h
        refine x_nn1 g8 ?_
        obtain ⟨g9, h⟩ := h
        obtain ⟨g10, h⟩ := h
        refine x_iald C g9 g10 dX12_entry_159 ?_
        refine x_topi (fun x11 e12 => ?_)
        have h := h x11 e12
        refine x_goto (tgt := 164) C dX12_entry_160 (by decide) ?_
        exact x_iret C hr dX12_entry_164 ⟨_, rfl, h⟩
    · have h := h.2.2.2.1 (sw_eq (k := 2) (c2.trans (by decide)))
      refine x_tableIn (tgt := 165) (off := 77) C dX12_entry_88 (by omega) (by omega) (by rw [c2]; rfl) (by decide) ?_
      refine x_iload C dX12_entry_165 (lv_at hl 0 rfl) ?_
      refine x_if_eq (tgt := 180) C dX12_entry_167 (by decide) (fun c13 => ?_) (fun c13 => ?_)
      · have h := h.1 c13
        refine x_iconst (v := -1) C dX12_entry_180 (by decide) ?_
        exact x_iret C hr dX12_entry_181 ⟨_, rfl, h⟩
      · have h := h.2 c13
        refine x_aload_n C dX12_entry_170 rfl (lv_at hl 1 rfl) ?_
        obtain ⟨g14, h⟩ := h
        refine x_getP C fl_RX12_77 g14 dX12_entry_171 ?_
        refine x_iload C dX12_entry_174 (lv_at hl 4 rfl) ?_
        obtain ⟨b15, g16, h⟩ := h
        refine x_nn1 g16 ?_
        obtain ⟨g17, h⟩ := h
        obtain ⟨g18, h⟩ := h
        refine x_iald C g17 g18 dX12_entry_176 ?_
        refine x_topi (fun x19 e20 => ?_)
        have h := h x19 e20
        refine x_goto (tgt := 181) C dX12_entry_177 (by decide) ?_
        exact x_iret C hr dX12_entry_181 ⟨_, rfl, h⟩
    · have h := h.2.2.2.2.1 (sw_eq (k := 3) (c2.trans (by decide)))
      refine x_tableIn (tgt := 182) (off := 94) C dX12_entry_88 (by omega) (by omega) (by rw [c2]; rfl) (by decide) ?_
      refine x_iload C dX12_entry_182 (lv_at hl 0 rfl) ?_
      refine x_if_eq (tgt := 197) C dX12_entry_184 (by decide) (fun c21 => ?_) (fun c21 => ?_)
      · have h := h.1 c21
        refine x_iconst (v := -1) C dX12_entry_197 (by decide) ?_
        exact x_iret C hr dX12_entry_198 ⟨_, rfl, h⟩
      · have h := h.2 c21
        refine x_aload_n C dX12_entry_187 rfl (lv_at hl 1 rfl) ?_
        obtain ⟨g22, h⟩ := h
        refine x_getP C fl_RX12_80 g22 dX12_entry_188 ?_
        refine x_iload C dX12_entry_191 (lv_at hl 4 rfl) ?_
        obtain ⟨b23, g24, h⟩ := h
        refine x_nn1 g24 ?_
        obtain ⟨g25, h⟩ := h
        obtain ⟨g26, h⟩ := h
        refine x_iald C g25 g26 dX12_entry_193 ?_
        refine x_topi (fun x27 e28 => ?_)
        have h := h x27 e28
        refine x_goto (tgt := 198) C dX12_entry_194 (by decide) ?_
        exact x_iret C hr dX12_entry_198 ⟨_, rfl, h⟩
    · have h := h.2.2.2.2.2.1 (sw_eq (k := 4) (c2.trans (by decide)))
      refine x_tableIn (tgt := 199) (off := 111) C dX12_entry_88 (by omega) (by omega) (by rw [c2]; rfl) (by decide) ?_
      refine x_iload C dX12_entry_199 (lv_at hl 0 rfl) ?_
      refine x_if_eq (tgt := 214) C dX12_entry_201 (by decide) (fun c29 => ?_) (fun c29 => ?_)
      · have h := h.1 c29
        refine x_iconst (v := -1) C dX12_entry_214 (by decide) ?_
        exact x_iret C hr dX12_entry_215 ⟨_, rfl, h⟩
      · have h := h.2 c29
        refine x_aload_n C dX12_entry_204 rfl (lv_at hl 1 rfl) ?_
        obtain ⟨g30, h⟩ := h
        refine x_getP C fl_RX12_83 g30 dX12_entry_205 ?_
        refine x_iload C dX12_entry_208 (lv_at hl 4 rfl) ?_
        obtain ⟨b31, g32, h⟩ := h
        refine x_nn1 g32 ?_
        obtain ⟨g33, h⟩ := h
        obtain ⟨g34, h⟩ := h
        refine x_iald C g33 g34 dX12_entry_210 ?_
        refine x_topi (fun x35 e36 => ?_)
        have h := h x35 e36
        refine x_goto (tgt := 215) C dX12_entry_211 (by decide) ?_
        exact x_iret C hr dX12_entry_215 ⟨_, rfl, h⟩
    · have h := h.2.2.2.2.2.2 (sw_eq (k := 5) (c2.trans (by decide)))
      refine x_tableIn (tgt := 216) (off := 128) C dX12_entry_88 (by omega) (by omega) (by rw [c2]; rfl) (by decide) ?_
      refine x_iload C dX12_entry_216 (lv_at hl 0 rfl) ?_
      refine x_if_eq (tgt := 231) C dX12_entry_218 (by decide) (fun c37 => ?_) (fun c37 => ?_)
      · have h := h.1 c37
        refine x_iconst (v := 0) C dX12_entry_231 (by decide) ?_
        exact x_iret C hr dX12_entry_232 ⟨_, rfl, h⟩
      · have h := h.2 c37
        refine x_aload_n C dX12_entry_221 rfl (lv_at hl 1 rfl) ?_
        obtain ⟨g38, h⟩ := h
        refine x_getP C fl_RX12_86 g38 dX12_entry_222 ?_
        refine x_iload C dX12_entry_225 (lv_at hl 4 rfl) ?_
        obtain ⟨b39, g40, h⟩ := h
        refine x_nn1 g40 ?_
        obtain ⟨g41, h⟩ := h
        obtain ⟨g42, h⟩ := h
        refine x_iald C g41 g42 dX12_entry_227 ?_
        refine x_topi (fun x43 e44 => ?_)
        have h := h x43 e44
        refine x_goto (tgt := 232) C dX12_entry_228 (by decide) ?_
        exact x_iret C hr dX12_entry_232 ⟨_, rfl, h⟩
def b_X12_entry_84 (a0 : Nat)  (Q : Int32 → Sto → Prop) (p3 : Int32) (p4 : Int32) (p5 : Int32) (σ : Sto) : Prop := b_X12_entry_85 a0  Q p3 p4 p5 (0 : Int32) σ
set_option maxHeartbeats 4000000 in
set_option maxRecDepth 100000 in
theorem t_X12_entry_84 {p : Program} {l : Launch} {e : Env} {s : State} {m : MethodId} {args : Array Value} {below : List Frame} {meth : Method} {c : Code} {D : va_G} {cy : Nat → ClassId} {A : Nat → Prop} {a0 : Nat} {Q : Int32 → Sto → Prop} (C : Cx p s m args meth c D cy A cX12_entry 7 RX12) (hr : meth.sig.returnType = (some .int)) (hnm : meth.name = yX12_entry.name) (p3 : Int32) (p4 : Int32) (p5 : Int32) (σ : Sto) (h : b_X12_entry_84 a0  Q p3 p4 p5 σ) (ls : Array Slot) (hl : lv_has ls 7 [(0, .ref a0), (3, .int p3), (4, .int p4), (5, .int p5)]) : Xw p l e rm_X12_entry s m args below meth c D cy A σ 0 0 (MQ below (Qst D cy A (PsI Q)) args s rm_X12_entry.cells rm_X12_entry.slots A) (F0 m 84 ls []) := by
  unfold b_X12_entry_84 at h
  refine x_iconst (v := 0) C dX12_entry_84 (by decide) ?_
  exact t_X12_entry_85 C hr hnm  p3 p4 p5 (0 : Int32) _ h ls (lv_sub hl [0, 1, 2, 3] rfl)
def b_X12_entry_63 (a0 : Nat)  (Q : Int32 → Sto → Prop) (p3 : Int32) (p4 : Int32) (s0 : Int32) (σ : Sto) : Prop := ((p4 = 0 → b_X12_entry_84 a0  Q p3 p4 s0 σ) ∧ (¬ p4 = 0 → (sK σ a0 = 12 ∧ (∃ b3 : Nat, sP σ a0 30 = some b3 ∧ (sK σ b3 = 16 ∧ (vp_in s0 (sN σ b3) ∧ (∀ x7 : Int32, x7 = sI σ b3 s0.toNatClampNeg → ((x7 = 0 → b_X12_entry_84 a0  Q p3 p4 s0 σ) ∧ (¬ x7 = 0 → b_X12_entry_85 a0  Q p3 p4 s0 (1 : Int32) σ)))))))))
set_option maxHeartbeats 4000000 in
set_option maxRecDepth 100000 in
theorem t_X12_entry_63 {p : Program} {l : Launch} {e : Env} {s : State} {m : MethodId} {args : Array Value} {below : List Frame} {meth : Method} {c : Code} {D : va_G} {cy : Nat → ClassId} {A : Nat → Prop} {a0 : Nat} {Q : Int32 → Sto → Prop} (C : Cx p s m args meth c D cy A cX12_entry 7 RX12) (hr : meth.sig.returnType = (some .int)) (hnm : meth.name = yX12_entry.name) (p3 : Int32) (p4 : Int32) (s0 : Int32) (σ : Sto) (h : b_X12_entry_63 a0  Q p3 p4 s0 σ) (ls : Array Slot) (hl : lv_has ls 7 [(0, .ref a0), (3, .int p3), (4, .int p4)]) : Xw p l e rm_X12_entry s m args below meth c D cy A σ 0 0 (MQ below (Qst D cy A (PsI Q)) args s rm_X12_entry.cells rm_X12_entry.slots A) (F0 m 63 ls [.int s0]) := by
  unfold b_X12_entry_63 at h
  refine x_istore (i := 5) (lv' := [(5, .int s0), (0, .ref a0), (3, .int p3), (4, .int p4)]) C dX12_entry_63 hl (by decide) (by first | rfl | simp [vrc, cat_i, cat_r, cat_l]) (fun ls hl => ?_)
  refine x_iload C dX12_entry_65 (lv_at hl 3 rfl) ?_
  refine x_if_eq (tgt := 84) C dX12_entry_67 (by decide) (fun c1 => ?_) (fun c1 => ?_)
  · have h := h.1 c1
    exact t_X12_entry_84 C hr hnm  p3 p4 s0 _ h ls (lv_sub hl [1, 2, 3, 0] rfl)
  · have h := h.2 c1
    refine x_aload_n C dX12_entry_70 rfl (lv_at hl 1 rfl) ?_
    obtain ⟨g2, h⟩ := h
    refine x_getP C fl_RX12_71 g2 dX12_entry_71 ?_
    refine x_iload C dX12_entry_74 (lv_at hl 0 rfl) ?_
    obtain ⟨b3, g4, h⟩ := h
    refine x_nn1 g4 ?_
    obtain ⟨g5, h⟩ := h
    obtain ⟨g6, h⟩ := h
    refine x_zald C g5 g6 dX12_entry_76 ?_
    refine x_topi (fun x7 e8 => ?_)
    have h := h x7 e8
    refine x_if_eq (tgt := 84) C dX12_entry_77 (by decide) (fun c9 => ?_) (fun c9 => ?_)
    · have h := h.1 c9
      exact t_X12_entry_84 C hr hnm  p3 p4 s0 _ h ls (lv_sub hl [1, 2, 3, 0] rfl)
    · have h := h.2 c9
      refine x_iconst (v := 1) C dX12_entry_80 (by decide) ?_
      refine x_goto (tgt := 85) C dX12_entry_81 (by decide) ?_
      exact t_X12_entry_85 C hr hnm  p3 p4 s0 (1 : Int32) _ h ls (lv_sub hl [1, 2, 3, 0] rfl)
def b_X12_entry_44 (a0 : Nat)  (Q : Int32 → Sto → Prop) (p1 : Int32) (p2 : Int32) (p3 : Int32) (s0 : Int32) (σ : Sto) : Prop := ((s0 = 0 → b_X12_entry_63 a0  Q p3 s0 (0 : Int32) σ) ∧ (¬ s0 = 0 → b_X12_entry_63 a0  Q p3 s0 ((((100 : Int32) * p1) + p2) - (1 : Int32)) σ))
set_option maxHeartbeats 4000000 in
set_option maxRecDepth 100000 in
theorem t_X12_entry_44 {p : Program} {l : Launch} {e : Env} {s : State} {m : MethodId} {args : Array Value} {below : List Frame} {meth : Method} {c : Code} {D : va_G} {cy : Nat → ClassId} {A : Nat → Prop} {a0 : Nat} {Q : Int32 → Sto → Prop} (C : Cx p s m args meth c D cy A cX12_entry 7 RX12) (hr : meth.sig.returnType = (some .int)) (hnm : meth.name = yX12_entry.name) (p1 : Int32) (p2 : Int32) (p3 : Int32) (s0 : Int32) (σ : Sto) (h : b_X12_entry_44 a0  Q p1 p2 p3 s0 σ) (ls : Array Slot) (hl : lv_has ls 7 [(0, .ref a0), (1, .int p1), (2, .int p2), (3, .int p3)]) : Xw p l e rm_X12_entry s m args below meth c D cy A σ 0 0 (MQ below (Qst D cy A (PsI Q)) args s rm_X12_entry.cells rm_X12_entry.slots A) (F0 m 44 ls [.int s0]) := by
  unfold b_X12_entry_44 at h
  refine x_istore (i := 4) (lv' := [(4, .int s0), (0, .ref a0), (1, .int p1), (2, .int p2), (3, .int p3)]) C dX12_entry_44 hl (by decide) (by first | rfl | simp [vrc, cat_i, cat_r, cat_l]) (fun ls hl => ?_)
  refine x_iload C dX12_entry_46 (lv_at hl 0 rfl) ?_
  refine x_if_eq (tgt := 62) C dX12_entry_48 (by decide) (fun c1 => ?_) (fun c1 => ?_)
  · have h := h.1 c1
    refine x_iconst (v := 0) C dX12_entry_62 (by decide) ?_
    exact t_X12_entry_63 C hr hnm  p3 s0 (0 : Int32) _ h ls (lv_sub hl [1, 4, 0] rfl)
  · have h := h.2 c1
    refine x_bipush (v := 100) C dX12_entry_51 (by decide) ?_
    refine x_iload_n C dX12_entry_53 rfl (lv_at hl 2 rfl) ?_
    refine x_imul C dX12_entry_54 ?_
    refine x_iload_n C dX12_entry_55 rfl (lv_at hl 3 rfl) ?_
    refine x_iadd C dX12_entry_56 ?_
    refine x_iconst (v := 1) C dX12_entry_57 (by decide) ?_
    refine x_isub C dX12_entry_58 ?_
    refine x_goto (tgt := 63) C dX12_entry_59 (by decide) ?_
    exact t_X12_entry_63 C hr hnm  p3 s0 ((((100 : Int32) * p1) + p2) - (1 : Int32)) _ h ls (lv_sub hl [1, 4, 0] rfl)
def b_X12_entry_43 (a0 : Nat)  (Q : Int32 → Sto → Prop) (p1 : Int32) (p2 : Int32) (p3 : Int32) (σ : Sto) : Prop := b_X12_entry_44 a0  Q p1 p2 p3 (0 : Int32) σ
set_option maxHeartbeats 4000000 in
set_option maxRecDepth 100000 in
theorem t_X12_entry_43 {p : Program} {l : Launch} {e : Env} {s : State} {m : MethodId} {args : Array Value} {below : List Frame} {meth : Method} {c : Code} {D : va_G} {cy : Nat → ClassId} {A : Nat → Prop} {a0 : Nat} {Q : Int32 → Sto → Prop} (C : Cx p s m args meth c D cy A cX12_entry 7 RX12) (hr : meth.sig.returnType = (some .int)) (hnm : meth.name = yX12_entry.name) (p1 : Int32) (p2 : Int32) (p3 : Int32) (σ : Sto) (h : b_X12_entry_43 a0  Q p1 p2 p3 σ) (ls : Array Slot) (hl : lv_has ls 7 [(0, .ref a0), (1, .int p1), (2, .int p2), (3, .int p3)]) : Xw p l e rm_X12_entry s m args below meth c D cy A σ 0 0 (MQ below (Qst D cy A (PsI Q)) args s rm_X12_entry.cells rm_X12_entry.slots A) (F0 m 43 ls []) := by
  unfold b_X12_entry_43 at h
  refine x_iconst (v := 0) C dX12_entry_43 (by decide) ?_
  exact t_X12_entry_44 C hr hnm  p1 p2 p3 (0 : Int32) _ h ls (lv_sub hl [0, 1, 2, 3] rfl)
def b_X12_entry_32 (a0 : Nat)  (Q : Int32 → Sto → Prop) (p1 : Int32) (p2 : Int32) (p3 : Int32) (s0 : Int32) (s1 : Option Nat) (s2 : Int32) (s3 : Int32) (σ : Sto) : Prop := (∃ b1 : Nat, s1 = some b1 ∧ (sK σ b1 = 14 ∧ (vp_in s0 (sN σ b1) ∧ (∀ x5 : Int32, x5 = sI σ b1 s0.toNatClampNeg → (wp_X12_in s3 s2 x5 σ (fun (x8 : Int32) (σ7 : Sto) => ((x8 = 0 → b_X12_entry_43 a0  Q p1 p2 p3 σ7) ∧ (¬ x8 = 0 → b_X12_entry_44 a0  Q p1 p2 p3 (1 : Int32) σ7))))))))
set_option maxHeartbeats 4000000 in
set_option maxRecDepth 100000 in
theorem t_X12_entry_32 {p : Program} {l : Launch} {e : Env} {s : State} {m : MethodId} {args : Array Value} {below : List Frame} {meth : Method} {c : Code} {D : va_G} {cy : Nat → ClassId} {A : Nat → Prop} {a0 : Nat} {Q : Int32 → Sto → Prop} (C : Cx p s m args meth c D cy A cX12_entry 7 RX12) (hr : meth.sig.returnType = (some .int)) (hnm : meth.name = yX12_entry.name) (p1 : Int32) (p2 : Int32) (p3 : Int32) (s0 : Int32) (s1 : Option Nat) (s2 : Int32) (s3 : Int32) (σ : Sto) (h : b_X12_entry_32 a0  Q p1 p2 p3 s0 s1 s2 s3 σ) (ls : Array Slot) (hl : lv_has ls 7 [(0, .ref a0), (1, .int p1), (2, .int p2), (3, .int p3)]) : Xw p l e rm_X12_entry s m args below meth c D cy A σ 0 0 (MQ below (Qst D cy A (PsI Q)) args s rm_X12_entry.cells rm_X12_entry.slots A) (F0 m 32 ls [.int s0, va_rf s1, .int s2, .int s3]) := by
  unfold b_X12_entry_32 at h
  obtain ⟨b1, g2, h⟩ := h
  refine x_nn1 g2 ?_
  obtain ⟨g3, h⟩ := h
  obtain ⟨g4, h⟩ := h
  refine x_iald C g3 g4 dX12_entry_32 ?_
  refine x_topi (fun x5 e6 => ?_)
  have h := h x5 e6
  refine x_callS (rm := rm_X12_in) (rest := []) (As := [.int s3, .int s2, .int x5]) C cs_RX12_270 (by decide) (by decide) rfl rfl (Nat.le_of_ble_eq_true rfl) hl.1 dX12_entry_33 (c_X12_in l D cy s3 s2 x5 σ _ h) (ks_i (fun x8 σ7 h => ?_))
  refine x_if_eq (tgt := 43) C dX12_entry_36 (by decide) (fun c9 => ?_) (fun c9 => ?_)
  · have h := h.1 c9
    exact t_X12_entry_43 C hr hnm  p1 p2 p3 _ h ls (lv_sub hl [0, 1, 2, 3] rfl)
  · have h := h.2 c9
    refine x_iconst (v := 1) C dX12_entry_39 (by decide) ?_
    refine x_goto (tgt := 44) C dX12_entry_40 (by decide) ?_
    exact t_X12_entry_44 C hr hnm  p1 p2 p3 (1 : Int32) _ h ls (lv_sub hl [0, 1, 2, 3] rfl)
def wp_X12_entry (a0 : Nat) (p1 : Int32) (p2 : Int32) (p3 : Int32) (σ : Sto) (Q : Int32 → Sto → Prop) : Prop := (sK σ a0 = 12 ∧ (wp_X12_isReplica a0 p1 (stI σ a0 0 (0 : Int32)) (fun (x3 : Int32) (σ2 : Sto) => ((x3 = 0 → b_X12_entry_43 a0  Q p1 p2 p3 σ2) ∧ (¬ x3 = 0 → (sK σ2 a0 = 12 ∧ (wp_X12_isReplica a0 p1 σ2 (fun (x7 : Int32) (σ6 : Sto) => ((x7 = 0 → b_X12_entry_32 a0  Q p1 p2 p3 (0 : Int32) (sP σ2 a0 26) (1 : Int32) p2 σ6) ∧ (¬ x7 = 0 → b_X12_entry_32 a0  Q p1 p2 p3 p1 (sP σ2 a0 26) (1 : Int32) p2 σ6))))))))))
set_option maxHeartbeats 4000000 in
set_option maxRecDepth 100000 in
theorem c_X12_entry (l : Launch) (D : va_G) (cy : Nat → ClassId) (a0 : Nat) (p1 : Int32) (p2 : Int32) (p3 : Int32) (σ : Sto) (Q : Int32 → Sto → Prop) (h : wp_X12_entry a0 p1 p2 p3 σ Q) : Mt l D cy yX12_entry cX12_entry 7 (some .int) rm_X12_entry [.ref a0, .int p1, .int p2, .int p3] σ (PsI Q) := by
  unfold wp_X12_entry at h
  refine mt_of (by decide +kernel) (Nat.le_of_ble_eq_true rfl) ?_
  intro p e s m args below meth c A ls C hr hnm hl
  have C : Cx p s m args meth c D cy A cX12_entry 7 RX12 := C
  have hl : lv_has ls 7 [(0, .ref a0), (1, .int p1), (2, .int p2), (3, .int p3)] := hl
  refine x_aload_n C dX12_entry_0 rfl (lv_at hl 0 rfl) ?_
  refine x_iconst (v := 0) C dX12_entry_1 (by decide) ?_
  obtain ⟨g1, h⟩ := h
  refine x_putI C fl_RX12_267 (Or.inl rfl) g1 dX12_entry_2 ?_
  refine x_aload_n C dX12_entry_5 rfl (lv_at hl 0 rfl) ?_
  refine x_iload_n C dX12_entry_6 rfl (lv_at hl 1 rfl) ?_
  refine x_callV (rm := rm_X12_isReplica) (rest := []) (As := [.int p1]) C cy_RX12_483 g1 (by decide) (by decide) rfl rfl (Nat.le_of_ble_eq_true rfl) hl.1 dX12_entry_7 (c_X12_isReplica l D cy a0 p1 (stI σ a0 0 (0 : Int32)) _ h) (ks_i (fun x3 σ2 h => ?_))
  refine x_if_eq (tgt := 43) C dX12_entry_10 (by decide) (fun c4 => ?_) (fun c4 => ?_)
  · have h := h.1 c4
    exact t_X12_entry_43 C hr hnm  p1 p2 p3 _ h ls (lv_sub hl [0, 1, 2, 3] rfl)
  · have h := h.2 c4
    refine x_iload_n C dX12_entry_13 rfl (lv_at hl 2 rfl) ?_
    refine x_iconst (v := 1) C dX12_entry_14 (by decide) ?_
    refine x_aload_n C dX12_entry_15 rfl (lv_at hl 0 rfl) ?_
    obtain ⟨g5, h⟩ := h
    refine x_getP C fl_RX12_59 g5 dX12_entry_16 ?_
    refine x_aload_n C dX12_entry_19 rfl (lv_at hl 0 rfl) ?_
    refine x_iload_n C dX12_entry_20 rfl (lv_at hl 1 rfl) ?_
    refine x_callV (rm := rm_X12_isReplica) (rest := [va_rf (sP σ2 a0 26), .int (1 : Int32), .int p2]) (As := [.int p1]) C cy_RX12_483 g5 (by decide) (by decide) rfl rfl (by simp [vrc, cat_i, cat_r, cat_l]) hl.1 dX12_entry_21 (c_X12_isReplica l D cy a0 p1 σ2 _ h) (ks_i (fun x7 σ6 h => ?_))
    refine x_if_eq (tgt := 31) C dX12_entry_24 (by decide) (fun c8 => ?_) (fun c8 => ?_)
    · have h := h.1 c8
      refine x_iconst (v := 0) C dX12_entry_31 (by decide) ?_
      exact t_X12_entry_32 C hr hnm  p1 p2 p3 (0 : Int32) (sP σ2 a0 26) (1 : Int32) p2 _ h ls (lv_sub hl [0, 1, 2, 3] rfl)
    · have h := h.2 c8
      refine x_iload_n C dX12_entry_27 rfl (lv_at hl 1 rfl) ?_
      refine x_goto (tgt := 32) C dX12_entry_28 (by decide) ?_
      exact t_X12_entry_32 C hr hnm  p1 p2 p3 p1 (sP σ2 a0 26) (1 : Int32) p2 _ h ls (lv_sub hl [0, 1, 2, 3] rfl)
theorem dX12_word_0 : decode cX12_word 0 = .ok (.aload_n 0, 1) := by decide +kernel
theorem dX12_word_1 : decode cX12_word 1 = .ok (.iconst 0, 1) := by decide +kernel
theorem dX12_word_2 : decode cX12_word 2 = .ok (.putfield 267, 3) := by decide +kernel
theorem dX12_word_5 : decode cX12_word 5 = .ok (.aload_n 0, 1) := by decide +kernel
theorem dX12_word_6 : decode cX12_word 6 = .ok (.iload_n 1, 1) := by decide +kernel
theorem dX12_word_7 : decode cX12_word 7 = .ok (.invokevirtual 483, 3) := by decide +kernel
theorem dX12_word_10 : decode cX12_word 10 = .ok (.ifCond .eq 13, 3) := by decide +kernel
theorem dX12_word_13 : decode cX12_word 13 = .ok (.iload_n 2, 1) := by decide +kernel
theorem dX12_word_14 : decode cX12_word 14 = .ok (.iconst 0, 1) := by decide +kernel
theorem dX12_word_15 : decode cX12_word 15 = .ok (.bipush 7, 2) := by decide +kernel
theorem dX12_word_17 : decode cX12_word 17 = .ok (.invokestatic 270, 3) := by decide +kernel
theorem dX12_word_20 : decode cX12_word 20 = .ok (.ifCond .ne 5, 3) := by decide +kernel
theorem dX12_word_23 : decode cX12_word 23 = .ok (.iconst 0, 1) := by decide +kernel
theorem dX12_word_24 : decode cX12_word 24 = .ok (.ireturn, 1) := by decide +kernel
theorem dX12_word_25 : decode cX12_word 25 = .ok (.aload_n 0, 1) := by decide +kernel
theorem dX12_word_26 : decode cX12_word 26 = .ok (.iload_n 1, 1) := by decide +kernel
theorem dX12_word_27 : decode cX12_word 27 = .ok (.invokevirtual 343, 3) := by decide +kernel
theorem dX12_word_30 : decode cX12_word 30 = .ok (.aload_n 0, 1) := by decide +kernel
theorem dX12_word_31 : decode cX12_word 31 = .ok (.getfield 167, 3) := by decide +kernel
theorem dX12_word_34 : decode cX12_word 34 = .ok (.iload_n 2, 1) := by decide +kernel
theorem dX12_word_35 : decode cX12_word 35 = .ok (.iaload, 1) := by decide +kernel
theorem dX12_word_36 : decode cX12_word 36 = .ok (.ireturn, 1) := by decide +kernel
abbrev rm_X12_word : Room := { frames := 3, cells := 0, slots := 0, locals := 66 }
def wp_X12_word (a0 : Nat) (p1 : Int32) (p2 : Int32) (σ : Sto) (Q : Int32 → Sto → Prop) : Prop := (sK σ a0 = 12 ∧ (wp_X12_isReplica a0 p1 (stI σ a0 0 (0 : Int32)) (fun (x3 : Int32) (σ2 : Sto) => ((x3 = 0 → Q (0 : Int32) σ2) ∧ (¬ x3 = 0 → (wp_X12_in p2 (0 : Int32) (7 : Int32) σ2 (fun (x6 : Int32) (σ5 : Sto) => ((¬ x6 = 0 → (sK σ5 a0 = 12 ∧ (wp_X12_execute a0 p1 σ5 (fun (σ9 : Sto) => (sK σ9 a0 = 12 ∧ (∃ b11 : Nat, sP σ9 a0 62 = some b11 ∧ (sK σ9 b11 = 14 ∧ (vp_in p2 (sN σ9 b11) ∧ (∀ x15 : Int32, x15 = sI σ9 b11 p2.toNatClampNeg → Q x15 σ9))))))))) ∧ (x6 = 0 → Q (0 : Int32) σ5)))))))))
set_option maxHeartbeats 4000000 in
set_option maxRecDepth 100000 in
theorem c_X12_word (l : Launch) (D : va_G) (cy : Nat → ClassId) (a0 : Nat) (p1 : Int32) (p2 : Int32) (σ : Sto) (Q : Int32 → Sto → Prop) (h : wp_X12_word a0 p1 p2 σ Q) : Mt l D cy yX12_word cX12_word 3 (some .int) rm_X12_word [.ref a0, .int p1, .int p2] σ (PsI Q) := by
  unfold wp_X12_word at h
  refine mt_of (by decide +kernel) (Nat.le_of_ble_eq_true rfl) ?_
  intro p e s m args below meth c A ls C hr hnm hl
  have C : Cx p s m args meth c D cy A cX12_word 3 RX12 := C
  have hl : lv_has ls 3 [(0, .ref a0), (1, .int p1), (2, .int p2)] := hl
  refine x_aload_n C dX12_word_0 rfl (lv_at hl 0 rfl) ?_
  refine x_iconst (v := 0) C dX12_word_1 (by decide) ?_
  obtain ⟨g1, h⟩ := h
  refine x_putI C fl_RX12_267 (Or.inl rfl) g1 dX12_word_2 ?_
  refine x_aload_n C dX12_word_5 rfl (lv_at hl 0 rfl) ?_
  refine x_iload_n C dX12_word_6 rfl (lv_at hl 1 rfl) ?_
  refine x_callV (rm := rm_X12_isReplica) (rest := []) (As := [.int p1]) C cy_RX12_483 g1 (by decide) (by decide) rfl rfl (Nat.le_of_ble_eq_true rfl) hl.1 dX12_word_7 (c_X12_isReplica l D cy a0 p1 (stI σ a0 0 (0 : Int32)) _ h) (ks_i (fun x3 σ2 h => ?_))
  refine x_if_eq (tgt := 23) C dX12_word_10 (by decide) (fun c4 => ?_) (fun c4 => ?_)
  · have h := h.1 c4
    refine x_iconst (v := 0) C dX12_word_23 (by decide) ?_
    exact x_iret C hr dX12_word_24 ⟨_, rfl, h⟩
  · have h := h.2 c4
    refine x_iload_n C dX12_word_13 rfl (lv_at hl 2 rfl) ?_
    refine x_iconst (v := 0) C dX12_word_14 (by decide) ?_
    refine x_bipush (v := 7) C dX12_word_15 (by decide) ?_
    refine x_callS (rm := rm_X12_in) (rest := []) (As := [.int p2, .int (0 : Int32), .int (7 : Int32)]) C cs_RX12_270 (by decide) (by decide) rfl rfl (Nat.le_of_ble_eq_true rfl) hl.1 dX12_word_17 (c_X12_in l D cy p2 (0 : Int32) (7 : Int32) σ2 _ h) (ks_i (fun x6 σ5 h => ?_))
    refine x_if_ne (tgt := 25) C dX12_word_20 (by decide) (fun c7 => ?_) (fun c7 => ?_)
    · have h := h.1 c7
      refine x_aload_n C dX12_word_25 rfl (lv_at hl 0 rfl) ?_
      refine x_iload_n C dX12_word_26 rfl (lv_at hl 1 rfl) ?_
      obtain ⟨g8, h⟩ := h
      refine x_callV (rm := rm_X12_execute) (rest := []) (As := [.int p1]) C cy_RX12_343 g8 (by decide) (by decide) rfl rfl (Nat.le_of_ble_eq_true rfl) hl.1 dX12_word_27 (c_X12_execute l D cy a0 p1 σ5 _ h) (ks_v (fun σ9 h => ?_))
      refine x_aload_n C dX12_word_30 rfl (lv_at hl 0 rfl) ?_
      obtain ⟨g10, h⟩ := h
      refine x_getP C fl_RX12_167 g10 dX12_word_31 ?_
      refine x_iload_n C dX12_word_34 rfl (lv_at hl 2 rfl) ?_
      obtain ⟨b11, g12, h⟩ := h
      refine x_nn1 g12 ?_
      obtain ⟨g13, h⟩ := h
      obtain ⟨g14, h⟩ := h
      refine x_iald C g13 g14 dX12_word_35 ?_
      refine x_topi (fun x15 e16 => ?_)
      have h := h x15 e16
      exact x_iret C hr dX12_word_36 ⟨_, rfl, h⟩
    · have h := h.2 c7
      refine x_iconst (v := 0) C dX12_word_23 (by decide) ?_
      exact x_iret C hr dX12_word_24 ⟨_, rfl, h⟩
theorem dX12_client_0 : decode cX12_client 0 = .ok (.aload_n 0, 1) := by decide +kernel
theorem dX12_client_1 : decode cX12_client 1 = .ok (.iconst 0, 1) := by decide +kernel
theorem dX12_client_2 : decode cX12_client 2 = .ok (.putfield 267, 3) := by decide +kernel
theorem dX12_client_5 : decode cX12_client 5 = .ok (.iload_n 1, 1) := by decide +kernel
theorem dX12_client_6 : decode cX12_client 6 = .ok (.invokestatic 471, 3) := by decide +kernel
theorem dX12_client_9 : decode cX12_client 9 = .ok (.ifCond .ne 5, 3) := by decide +kernel
theorem dX12_client_12 : decode cX12_client 12 = .ok (.iconst (-1), 1) := by decide +kernel
theorem dX12_client_13 : decode cX12_client 13 = .ok (.ireturn, 1) := by decide +kernel
theorem dX12_client_14 : decode cX12_client 14 = .ok (.aload_n 0, 1) := by decide +kernel
theorem dX12_client_15 : decode cX12_client 15 = .ok (.getfield 176, 3) := by decide +kernel
theorem dX12_client_18 : decode cX12_client 18 = .ok (.iload_n 1, 1) := by decide +kernel
theorem dX12_client_19 : decode cX12_client 19 = .ok (.iaload, 1) := by decide +kernel
theorem dX12_client_20 : decode cX12_client 20 = .ok (.ifCond .le 16, 3) := by decide +kernel
theorem dX12_client_23 : decode cX12_client 23 = .ok (.aload_n 0, 1) := by decide +kernel
theorem dX12_client_24 : decode cX12_client 24 = .ok (.getfield 179, 3) := by decide +kernel
theorem dX12_client_27 : decode cX12_client 27 = .ok (.iload_n 1, 1) := by decide +kernel
theorem dX12_client_28 : decode cX12_client 28 = .ok (.baload, 1) := by decide +kernel
theorem dX12_client_29 : decode cX12_client 29 = .ok (.ifCond .ne 7, 3) := by decide +kernel
theorem dX12_client_32 : decode cX12_client 32 = .ok (.iconst 1, 1) := by decide +kernel
theorem dX12_client_33 : decode cX12_client 33 = .ok (.goto 4, 3) := by decide +kernel
theorem dX12_client_36 : decode cX12_client 36 = .ok (.iconst 0, 1) := by decide +kernel
theorem dX12_client_37 : decode cX12_client 37 = .ok (.istore_n 3, 1) := by decide +kernel
theorem dX12_client_38 : decode cX12_client 38 = .ok (.iload_n 2, 1) := by decide +kernel
theorem dX12_client_39 : decode cX12_client 39 = .ok (.tableswitch 108 0 4 #[33, 40, 63, 78, 93], 33) := by decide +kernel
theorem dX12_client_72 : decode cX12_client 72 = .ok (.aload_n 0, 1) := by decide +kernel
theorem dX12_client_73 : decode cX12_client 73 = .ok (.getfield 176, 3) := by decide +kernel
theorem dX12_client_76 : decode cX12_client 76 = .ok (.iload_n 1, 1) := by decide +kernel
theorem dX12_client_77 : decode cX12_client 77 = .ok (.iaload, 1) := by decide +kernel
theorem dX12_client_78 : decode cX12_client 78 = .ok (.ireturn, 1) := by decide +kernel
theorem dX12_client_79 : decode cX12_client 79 = .ok (.iload_n 3, 1) := by decide +kernel
theorem dX12_client_80 : decode cX12_client 80 = .ok (.ifCond .eq 7, 3) := by decide +kernel
theorem dX12_client_83 : decode cX12_client 83 = .ok (.iconst 2, 1) := by decide +kernel
theorem dX12_client_84 : decode cX12_client 84 = .ok (.goto 17, 3) := by decide +kernel
theorem dX12_client_87 : decode cX12_client 87 = .ok (.aload_n 0, 1) := by decide +kernel
theorem dX12_client_88 : decode cX12_client 88 = .ok (.getfield 179, 3) := by decide +kernel
theorem dX12_client_91 : decode cX12_client 91 = .ok (.iload_n 1, 1) := by decide +kernel
theorem dX12_client_92 : decode cX12_client 92 = .ok (.baload, 1) := by decide +kernel
theorem dX12_client_93 : decode cX12_client 93 = .ok (.ifCond .eq 7, 3) := by decide +kernel
theorem dX12_client_96 : decode cX12_client 96 = .ok (.iconst 1, 1) := by decide +kernel
theorem dX12_client_97 : decode cX12_client 97 = .ok (.goto 4, 3) := by decide +kernel
theorem dX12_client_100 : decode cX12_client 100 = .ok (.iconst 0, 1) := by decide +kernel
theorem dX12_client_101 : decode cX12_client 101 = .ok (.ireturn, 1) := by decide +kernel
theorem dX12_client_102 : decode cX12_client 102 = .ok (.iload_n 3, 1) := by decide +kernel
theorem dX12_client_103 : decode cX12_client 103 = .ok (.ifCond .eq 12, 3) := by decide +kernel
theorem dX12_client_106 : decode cX12_client 106 = .ok (.aload_n 0, 1) := by decide +kernel
theorem dX12_client_107 : decode cX12_client 107 = .ok (.getfield 197, 3) := by decide +kernel
theorem dX12_client_110 : decode cX12_client 110 = .ok (.iload_n 1, 1) := by decide +kernel
theorem dX12_client_111 : decode cX12_client 111 = .ok (.iaload, 1) := by decide +kernel
theorem dX12_client_112 : decode cX12_client 112 = .ok (.goto 4, 3) := by decide +kernel
theorem dX12_client_115 : decode cX12_client 115 = .ok (.iconst (-1), 1) := by decide +kernel
theorem dX12_client_116 : decode cX12_client 116 = .ok (.ireturn, 1) := by decide +kernel
theorem dX12_client_117 : decode cX12_client 117 = .ok (.iload_n 3, 1) := by decide +kernel
theorem dX12_client_118 : decode cX12_client 118 = .ok (.ifCond .eq 12, 3) := by decide +kernel
theorem dX12_client_121 : decode cX12_client 121 = .ok (.aload_n 0, 1) := by decide +kernel
theorem dX12_client_122 : decode cX12_client 122 = .ok (.getfield 200, 3) := by decide +kernel
theorem dX12_client_125 : decode cX12_client 125 = .ok (.iload_n 1, 1) := by decide +kernel
theorem dX12_client_126 : decode cX12_client 126 = .ok (.iaload, 1) := by decide +kernel
theorem dX12_client_127 : decode cX12_client 127 = .ok (.goto 4, 3) := by decide +kernel
theorem dX12_client_130 : decode cX12_client 130 = .ok (.iconst (-1), 1) := by decide +kernel
theorem dX12_client_131 : decode cX12_client 131 = .ok (.ireturn, 1) := by decide +kernel
theorem dX12_client_132 : decode cX12_client 132 = .ok (.iload_n 3, 1) := by decide +kernel
theorem dX12_client_133 : decode cX12_client 133 = .ok (.ifCond .eq 12, 3) := by decide +kernel
theorem dX12_client_136 : decode cX12_client 136 = .ok (.aload_n 0, 1) := by decide +kernel
theorem dX12_client_137 : decode cX12_client 137 = .ok (.getfield 203, 3) := by decide +kernel
theorem dX12_client_140 : decode cX12_client 140 = .ok (.iload_n 1, 1) := by decide +kernel
theorem dX12_client_141 : decode cX12_client 141 = .ok (.iaload, 1) := by decide +kernel
theorem dX12_client_142 : decode cX12_client 142 = .ok (.goto 4, 3) := by decide +kernel
theorem dX12_client_145 : decode cX12_client 145 = .ok (.iconst (-1), 1) := by decide +kernel
theorem dX12_client_146 : decode cX12_client 146 = .ok (.ireturn, 1) := by decide +kernel
theorem dX12_client_147 : decode cX12_client 147 = .ok (.iconst (-1), 1) := by decide +kernel
theorem dX12_client_148 : decode cX12_client 148 = .ok (.ireturn, 1) := by decide +kernel
abbrev rm_X12_client : Room := { frames := 2, cells := 0, slots := 0, locals := 42 }
def b_X12_client_37 (a0 : Nat)  (Q : Int32 → Sto → Prop) (p1 : Int32) (p2 : Int32) (s0 : Int32) (σ : Sto) : Prop := ((p2.toInt < 0 ∨ 4 < p2.toInt → Q (-1 : Int32) σ) ∧ (p2 = (0 : Int32) → (sK σ a0 = 12 ∧ (∃ b4 : Nat, sP σ a0 65 = some b4 ∧ (sK σ b4 = 14 ∧ (vp_in p1 (sN σ b4) ∧ (∀ x8 : Int32, x8 = sI σ b4 p1.toNatClampNeg → Q x8 σ)))))) ∧ (p2 = (1 : Int32) → ((s0 = 0 → (sK σ a0 = 12 ∧ (∃ b12 : Nat, sP σ a0 66 = some b12 ∧ (sK σ b12 = 16 ∧ (vp_in p1 (sN σ b12) ∧ (∀ x16 : Int32, x16 = sI σ b12 p1.toNatClampNeg → ((x16 = 0 → Q (0 : Int32) σ) ∧ (¬ x16 = 0 → Q (1 : Int32) σ)))))))) ∧ (¬ s0 = 0 → Q (2 : Int32) σ))) ∧ (p2 = (2 : Int32) → ((s0 = 0 → Q (-1 : Int32) σ) ∧ (¬ s0 = 0 → (sK σ a0 = 12 ∧ (∃ b21 : Nat, sP σ a0 72 = some b21 ∧ (sK σ b21 = 14 ∧ (vp_in p1 (sN σ b21) ∧ (∀ x25 : Int32, x25 = sI σ b21 p1.toNatClampNeg → Q x25 σ)))))))) ∧ (p2 = (3 : Int32) → ((s0 = 0 → Q (-1 : Int32) σ) ∧ (¬ s0 = 0 → (sK σ a0 = 12 ∧ (∃ b29 : Nat, sP σ a0 73 = some b29 ∧ (sK σ b29 = 14 ∧ (vp_in p1 (sN σ b29) ∧ (∀ x33 : Int32, x33 = sI σ b29 p1.toNatClampNeg → Q x33 σ)))))))) ∧ (p2 = (4 : Int32) → ((s0 = 0 → Q (-1 : Int32) σ) ∧ (¬ s0 = 0 → (sK σ a0 = 12 ∧ (∃ b37 : Nat, sP σ a0 74 = some b37 ∧ (sK σ b37 = 14 ∧ (vp_in p1 (sN σ b37) ∧ (∀ x41 : Int32, x41 = sI σ b37 p1.toNatClampNeg → Q x41 σ)))))))))
set_option maxHeartbeats 4000000 in
set_option maxRecDepth 100000 in
theorem t_X12_client_37 {p : Program} {l : Launch} {e : Env} {s : State} {m : MethodId} {args : Array Value} {below : List Frame} {meth : Method} {c : Code} {D : va_G} {cy : Nat → ClassId} {A : Nat → Prop} {a0 : Nat} {Q : Int32 → Sto → Prop} (C : Cx p s m args meth c D cy A cX12_client 4 RX12) (hr : meth.sig.returnType = (some .int)) (hnm : meth.name = yX12_client.name) (p1 : Int32) (p2 : Int32) (s0 : Int32) (σ : Sto) (h : b_X12_client_37 a0  Q p1 p2 s0 σ) (ls : Array Slot) (hl : lv_has ls 4 [(0, .ref a0), (1, .int p1), (2, .int p2)]) : Xw p l e rm_X12_client s m args below meth c D cy A σ 0 0 (MQ below (Qst D cy A (PsI Q)) args s rm_X12_client.cells rm_X12_client.slots A) (F0 m 37 ls [.int s0]) := by
  unfold b_X12_client_37 at h
  refine x_istore_n (i := 3) (lv' := [(3, .int s0), (0, .ref a0), (1, .int p1), (2, .int p2)]) C dX12_client_37 rfl hl (by decide) (by first | rfl | simp [vrc, cat_i, cat_r, cat_l]) (fun ls hl => ?_)
  refine x_iload_n C dX12_client_38 rfl (lv_at hl 3 rfl) ?_
  by_cases c1 : p2.toInt < 0 ∨ 4 < p2.toInt
  · have h := h.1 c1
    refine x_tableOut (tgt := 147) C dX12_client_39 c1 (by decide) ?_
    refine x_iconst (v := -1) C dX12_client_147 (by decide) ?_
    exact x_iret C hr dX12_client_148 ⟨_, rfl, h⟩
  · rcases (show p2.toInt = 0 ∨ p2.toInt = 1 ∨ p2.toInt = 2 ∨ p2.toInt = 3 ∨ p2.toInt = 4 by omega) with c2 | c2 | c2 | c2 | c2
    · have h := h.2.1 (sw_eq (k := 0) (c2.trans (by decide)))
      refine x_tableIn (tgt := 72) (off := 33) C dX12_client_39 (by omega) (by omega) (by rw [c2]; rfl) (by decide) ?_
      refine x_aload_n C dX12_client_72 rfl (lv_at hl 1 rfl) ?_
      obtain ⟨g3, h⟩ := h
      refine x_getP C fl_RX12_176 g3 dX12_client_73 ?_
      refine x_iload_n C dX12_client_76 rfl (lv_at hl 2 rfl) ?_
      obtain ⟨b4, g5, h⟩ := h
      refine x_nn1 g5 ?_
      obtain ⟨g6, h⟩ := h
      obtain ⟨g7, h⟩ := h
      refine x_iald C g6 g7 dX12_client_77 ?_
      refine x_topi (fun x8 e9 => ?_)
      have h := h x8 e9
      exact x_iret C hr dX12_client_78 ⟨_, rfl, h⟩
    · have h := h.2.2.1 (sw_eq (k := 1) (c2.trans (by decide)))
      refine x_tableIn (tgt := 79) (off := 40) C dX12_client_39 (by omega) (by omega) (by rw [c2]; rfl) (by decide) ?_
      refine x_iload_n C dX12_client_79 rfl (lv_at hl 0 rfl) ?_
      refine x_if_eq (tgt := 87) C dX12_client_80 (by decide) (fun c10 => ?_) (fun c10 => ?_)
      · have h := h.1 c10
        refine x_aload_n C dX12_client_87 rfl (lv_at hl 1 rfl) ?_
        obtain ⟨g11, h⟩ := h
        refine x_getP C fl_RX12_179 g11 dX12_client_88 ?_
        refine x_iload_n C dX12_client_91 rfl (lv_at hl 2 rfl) ?_
        obtain ⟨b12, g13, h⟩ := h
        refine x_nn1 g13 ?_
        obtain ⟨g14, h⟩ := h
        obtain ⟨g15, h⟩ := h
        refine x_zald C g14 g15 dX12_client_92 ?_
        refine x_topi (fun x16 e17 => ?_)
        have h := h x16 e17
        refine x_if_eq (tgt := 100) C dX12_client_93 (by decide) (fun c18 => ?_) (fun c18 => ?_)
        · have h := h.1 c18
          refine x_iconst (v := 0) C dX12_client_100 (by decide) ?_
          exact x_iret C hr dX12_client_101 ⟨_, rfl, h⟩
        · have h := h.2 c18
          refine x_iconst (v := 1) C dX12_client_96 (by decide) ?_
          refine x_goto (tgt := 101) C dX12_client_97 (by decide) ?_
          exact x_iret C hr dX12_client_101 ⟨_, rfl, h⟩
      · have h := h.2 c10
        refine x_iconst (v := 2) C dX12_client_83 (by decide) ?_
        refine x_goto (tgt := 101) C dX12_client_84 (by decide) ?_
        exact x_iret C hr dX12_client_101 ⟨_, rfl, h⟩
    · have h := h.2.2.2.1 (sw_eq (k := 2) (c2.trans (by decide)))
      refine x_tableIn (tgt := 102) (off := 63) C dX12_client_39 (by omega) (by omega) (by rw [c2]; rfl) (by decide) ?_
      refine x_iload_n C dX12_client_102 rfl (lv_at hl 0 rfl) ?_
      refine x_if_eq (tgt := 115) C dX12_client_103 (by decide) (fun c19 => ?_) (fun c19 => ?_)
      · have h := h.1 c19
        refine x_iconst (v := -1) C dX12_client_115 (by decide) ?_
        exact x_iret C hr dX12_client_116 ⟨_, rfl, h⟩
      · have h := h.2 c19
        refine x_aload_n C dX12_client_106 rfl (lv_at hl 1 rfl) ?_
        obtain ⟨g20, h⟩ := h
        refine x_getP C fl_RX12_197 g20 dX12_client_107 ?_
        refine x_iload_n C dX12_client_110 rfl (lv_at hl 2 rfl) ?_
        obtain ⟨b21, g22, h⟩ := h
        refine x_nn1 g22 ?_
        obtain ⟨g23, h⟩ := h
        obtain ⟨g24, h⟩ := h
        refine x_iald C g23 g24 dX12_client_111 ?_
        refine x_topi (fun x25 e26 => ?_)
        have h := h x25 e26
        refine x_goto (tgt := 116) C dX12_client_112 (by decide) ?_
        exact x_iret C hr dX12_client_116 ⟨_, rfl, h⟩
    · have h := h.2.2.2.2.1 (sw_eq (k := 3) (c2.trans (by decide)))
      refine x_tableIn (tgt := 117) (off := 78) C dX12_client_39 (by omega) (by omega) (by rw [c2]; rfl) (by decide) ?_
      refine x_iload_n C dX12_client_117 rfl (lv_at hl 0 rfl) ?_
      refine x_if_eq (tgt := 130) C dX12_client_118 (by decide) (fun c27 => ?_) (fun c27 => ?_)
      · have h := h.1 c27
        refine x_iconst (v := -1) C dX12_client_130 (by decide) ?_
        exact x_iret C hr dX12_client_131 ⟨_, rfl, h⟩
      · have h := h.2 c27
        refine x_aload_n C dX12_client_121 rfl (lv_at hl 1 rfl) ?_
        obtain ⟨g28, h⟩ := h
        refine x_getP C fl_RX12_200 g28 dX12_client_122 ?_
        refine x_iload_n C dX12_client_125 rfl (lv_at hl 2 rfl) ?_
        obtain ⟨b29, g30, h⟩ := h
        refine x_nn1 g30 ?_
        obtain ⟨g31, h⟩ := h
        obtain ⟨g32, h⟩ := h
        refine x_iald C g31 g32 dX12_client_126 ?_
        refine x_topi (fun x33 e34 => ?_)
        have h := h x33 e34
        refine x_goto (tgt := 131) C dX12_client_127 (by decide) ?_
        exact x_iret C hr dX12_client_131 ⟨_, rfl, h⟩
    · have h := h.2.2.2.2.2 (sw_eq (k := 4) (c2.trans (by decide)))
      refine x_tableIn (tgt := 132) (off := 93) C dX12_client_39 (by omega) (by omega) (by rw [c2]; rfl) (by decide) ?_
      refine x_iload_n C dX12_client_132 rfl (lv_at hl 0 rfl) ?_
      refine x_if_eq (tgt := 145) C dX12_client_133 (by decide) (fun c35 => ?_) (fun c35 => ?_)
      · have h := h.1 c35
        refine x_iconst (v := -1) C dX12_client_145 (by decide) ?_
        exact x_iret C hr dX12_client_146 ⟨_, rfl, h⟩
      · have h := h.2 c35
        refine x_aload_n C dX12_client_136 rfl (lv_at hl 1 rfl) ?_
        obtain ⟨g36, h⟩ := h
        refine x_getP C fl_RX12_203 g36 dX12_client_137 ?_
        refine x_iload_n C dX12_client_140 rfl (lv_at hl 2 rfl) ?_
        obtain ⟨b37, g38, h⟩ := h
        refine x_nn1 g38 ?_
        obtain ⟨g39, h⟩ := h
        obtain ⟨g40, h⟩ := h
        refine x_iald C g39 g40 dX12_client_141 ?_
        refine x_topi (fun x41 e42 => ?_)
        have h := h x41 e42
        refine x_goto (tgt := 146) C dX12_client_142 (by decide) ?_
        exact x_iret C hr dX12_client_146 ⟨_, rfl, h⟩
def b_X12_client_36 (a0 : Nat)  (Q : Int32 → Sto → Prop) (p1 : Int32) (p2 : Int32) (σ : Sto) : Prop := b_X12_client_37 a0  Q p1 p2 (0 : Int32) σ
set_option maxHeartbeats 4000000 in
set_option maxRecDepth 100000 in
theorem t_X12_client_36 {p : Program} {l : Launch} {e : Env} {s : State} {m : MethodId} {args : Array Value} {below : List Frame} {meth : Method} {c : Code} {D : va_G} {cy : Nat → ClassId} {A : Nat → Prop} {a0 : Nat} {Q : Int32 → Sto → Prop} (C : Cx p s m args meth c D cy A cX12_client 4 RX12) (hr : meth.sig.returnType = (some .int)) (hnm : meth.name = yX12_client.name) (p1 : Int32) (p2 : Int32) (σ : Sto) (h : b_X12_client_36 a0  Q p1 p2 σ) (ls : Array Slot) (hl : lv_has ls 4 [(0, .ref a0), (1, .int p1), (2, .int p2)]) : Xw p l e rm_X12_client s m args below meth c D cy A σ 0 0 (MQ below (Qst D cy A (PsI Q)) args s rm_X12_client.cells rm_X12_client.slots A) (F0 m 36 ls []) := by
  unfold b_X12_client_36 at h
  refine x_iconst (v := 0) C dX12_client_36 (by decide) ?_
  exact t_X12_client_37 C hr hnm  p1 p2 (0 : Int32) _ h ls (lv_sub hl [0, 1, 2] rfl)
def wp_X12_client (a0 : Nat) (p1 : Int32) (p2 : Int32) (σ : Sto) (Q : Int32 → Sto → Prop) : Prop := (sK σ a0 = 12 ∧ (wp_X12_isClient p1 (stI σ a0 0 (0 : Int32)) (fun (x3 : Int32) (σ2 : Sto) => ((¬ x3 = 0 → (sK σ2 a0 = 12 ∧ (∃ b6 : Nat, sP σ2 a0 65 = some b6 ∧ (sK σ2 b6 = 14 ∧ (vp_in p1 (sN σ2 b6) ∧ (∀ x10 : Int32, x10 = sI σ2 b6 p1.toNatClampNeg → ((x10 ≤ 0 → b_X12_client_36 a0  Q p1 p2 σ2) ∧ (¬ x10 ≤ 0 → (∃ b13 : Nat, sP σ2 a0 66 = some b13 ∧ (sK σ2 b13 = 16 ∧ (vp_in p1 (sN σ2 b13) ∧ (∀ x17 : Int32, x17 = sI σ2 b13 p1.toNatClampNeg → ((¬ x17 = 0 → b_X12_client_36 a0  Q p1 p2 σ2) ∧ (x17 = 0 → b_X12_client_37 a0  Q p1 p2 (1 : Int32) σ2)))))))))))))) ∧ (x3 = 0 → Q (-1 : Int32) σ2)))))
set_option maxHeartbeats 4000000 in
set_option maxRecDepth 100000 in
theorem c_X12_client (l : Launch) (D : va_G) (cy : Nat → ClassId) (a0 : Nat) (p1 : Int32) (p2 : Int32) (σ : Sto) (Q : Int32 → Sto → Prop) (h : wp_X12_client a0 p1 p2 σ Q) : Mt l D cy yX12_client cX12_client 4 (some .int) rm_X12_client [.ref a0, .int p1, .int p2] σ (PsI Q) := by
  unfold wp_X12_client at h
  refine mt_of (by decide +kernel) (Nat.le_of_ble_eq_true rfl) ?_
  intro p e s m args below meth c A ls C hr hnm hl
  have C : Cx p s m args meth c D cy A cX12_client 4 RX12 := C
  have hl : lv_has ls 4 [(0, .ref a0), (1, .int p1), (2, .int p2)] := hl
  refine x_aload_n C dX12_client_0 rfl (lv_at hl 0 rfl) ?_
  refine x_iconst (v := 0) C dX12_client_1 (by decide) ?_
  obtain ⟨g1, h⟩ := h
  refine x_putI C fl_RX12_267 (Or.inl rfl) g1 dX12_client_2 ?_
  refine x_iload_n C dX12_client_5 rfl (lv_at hl 1 rfl) ?_
  refine x_callS (rm := rm_X12_isClient) (rest := []) (As := [.int p1]) C cs_RX12_471 (by decide) (by decide) rfl rfl (Nat.le_of_ble_eq_true rfl) hl.1 dX12_client_6 (c_X12_isClient l D cy p1 (stI σ a0 0 (0 : Int32)) _ h) (ks_i (fun x3 σ2 h => ?_))
  refine x_if_ne (tgt := 14) C dX12_client_9 (by decide) (fun c4 => ?_) (fun c4 => ?_)
  · have h := h.1 c4
    refine x_aload_n C dX12_client_14 rfl (lv_at hl 0 rfl) ?_
    obtain ⟨g5, h⟩ := h
    refine x_getP C fl_RX12_176 g5 dX12_client_15 ?_
    refine x_iload_n C dX12_client_18 rfl (lv_at hl 1 rfl) ?_
    obtain ⟨b6, g7, h⟩ := h
    refine x_nn1 g7 ?_
    obtain ⟨g8, h⟩ := h
    obtain ⟨g9, h⟩ := h
    refine x_iald C g8 g9 dX12_client_19 ?_
    refine x_topi (fun x10 e11 => ?_)
    have h := h x10 e11
    refine x_if_le (tgt := 36) C dX12_client_20 (by decide) (fun c12 => ?_) (fun c12 => ?_)
    · have h := h.1 c12
      exact t_X12_client_36 C hr hnm  p1 p2 _ h ls (lv_sub hl [0, 1, 2] rfl)
    · have h := h.2 c12
      refine x_aload_n C dX12_client_23 rfl (lv_at hl 0 rfl) ?_
      refine x_getP C fl_RX12_179 g5 dX12_client_24 ?_
      refine x_iload_n C dX12_client_27 rfl (lv_at hl 1 rfl) ?_
      obtain ⟨b13, g14, h⟩ := h
      refine x_nn1 g14 ?_
      obtain ⟨g15, h⟩ := h
      obtain ⟨g16, h⟩ := h
      refine x_zald C g15 g16 dX12_client_28 ?_
      refine x_topi (fun x17 e18 => ?_)
      have h := h x17 e18
      refine x_if_ne (tgt := 36) C dX12_client_29 (by decide) (fun c19 => ?_) (fun c19 => ?_)
      · have h := h.1 c19
        exact t_X12_client_36 C hr hnm  p1 p2 _ h ls (lv_sub hl [0, 1, 2] rfl)
      · have h := h.2 c19
        refine x_iconst (v := 1) C dX12_client_32 (by decide) ?_
        refine x_goto (tgt := 37) C dX12_client_33 (by decide) ?_
        exact t_X12_client_37 C hr hnm  p1 p2 (1 : Int32) _ h ls (lv_sub hl [0, 1, 2] rfl)
  · have h := h.2 c4
    refine x_iconst (v := -1) C dX12_client_12 (by decide) ?_
    exact x_iret C hr dX12_client_13 ⟨_, rfl, h⟩
theorem dX12_answer_0 : decode cX12_answer 0 = .ok (.aload_n 0, 1) := by decide +kernel
theorem dX12_answer_1 : decode cX12_answer 1 = .ok (.iconst 0, 1) := by decide +kernel
theorem dX12_answer_2 : decode cX12_answer 2 = .ok (.putfield 267, 3) := by decide +kernel
theorem dX12_answer_5 : decode cX12_answer 5 = .ok (.iload_n 1, 1) := by decide +kernel
theorem dX12_answer_6 : decode cX12_answer 6 = .ok (.invokestatic 471, 3) := by decide +kernel
theorem dX12_answer_9 : decode cX12_answer 9 = .ok (.ifCond .eq 12, 3) := by decide +kernel
theorem dX12_answer_12 : decode cX12_answer 12 = .ok (.aload_n 0, 1) := by decide +kernel
theorem dX12_answer_13 : decode cX12_answer 13 = .ok (.getfield 194, 3) := by decide +kernel
theorem dX12_answer_16 : decode cX12_answer 16 = .ok (.iload_n 1, 1) := by decide +kernel
theorem dX12_answer_17 : decode cX12_answer 17 = .ok (.iaload, 1) := by decide +kernel
theorem dX12_answer_18 : decode cX12_answer 18 = .ok (.goto 4, 3) := by decide +kernel
theorem dX12_answer_21 : decode cX12_answer 21 = .ok (.iconst 0, 1) := by decide +kernel
theorem dX12_answer_22 : decode cX12_answer 22 = .ok (.ireturn, 1) := by decide +kernel
abbrev rm_X12_answer : Room := { frames := 2, cells := 0, slots := 0, locals := 42 }
def wp_X12_answer (a0 : Nat) (p1 : Int32) (σ : Sto) (Q : Int32 → Sto → Prop) : Prop := (sK σ a0 = 12 ∧ (wp_X12_isClient p1 (stI σ a0 0 (0 : Int32)) (fun (x3 : Int32) (σ2 : Sto) => ((x3 = 0 → Q (0 : Int32) σ2) ∧ (¬ x3 = 0 → (sK σ2 a0 = 12 ∧ (∃ b6 : Nat, sP σ2 a0 71 = some b6 ∧ (sK σ2 b6 = 14 ∧ (vp_in p1 (sN σ2 b6) ∧ (∀ x10 : Int32, x10 = sI σ2 b6 p1.toNatClampNeg → Q x10 σ2))))))))))
set_option maxHeartbeats 4000000 in
set_option maxRecDepth 100000 in
theorem c_X12_answer (l : Launch) (D : va_G) (cy : Nat → ClassId) (a0 : Nat) (p1 : Int32) (σ : Sto) (Q : Int32 → Sto → Prop) (h : wp_X12_answer a0 p1 σ Q) : Mt l D cy yX12_answer cX12_answer 2 (some .int) rm_X12_answer [.ref a0, .int p1] σ (PsI Q) := by
  unfold wp_X12_answer at h
  refine mt_of (by decide +kernel) (Nat.le_of_ble_eq_true rfl) ?_
  intro p e s m args below meth c A ls C hr hnm hl
  have C : Cx p s m args meth c D cy A cX12_answer 2 RX12 := C
  have hl : lv_has ls 2 [(0, .ref a0), (1, .int p1)] := hl
  refine x_aload_n C dX12_answer_0 rfl (lv_at hl 0 rfl) ?_
  refine x_iconst (v := 0) C dX12_answer_1 (by decide) ?_
  obtain ⟨g1, h⟩ := h
  refine x_putI C fl_RX12_267 (Or.inl rfl) g1 dX12_answer_2 ?_
  refine x_iload_n C dX12_answer_5 rfl (lv_at hl 1 rfl) ?_
  refine x_callS (rm := rm_X12_isClient) (rest := []) (As := [.int p1]) C cs_RX12_471 (by decide) (by decide) rfl rfl (Nat.le_of_ble_eq_true rfl) hl.1 dX12_answer_6 (c_X12_isClient l D cy p1 (stI σ a0 0 (0 : Int32)) _ h) (ks_i (fun x3 σ2 h => ?_))
  refine x_if_eq (tgt := 21) C dX12_answer_9 (by decide) (fun c4 => ?_) (fun c4 => ?_)
  · have h := h.1 c4
    refine x_iconst (v := 0) C dX12_answer_21 (by decide) ?_
    exact x_iret C hr dX12_answer_22 ⟨_, rfl, h⟩
  · have h := h.2 c4
    refine x_aload_n C dX12_answer_12 rfl (lv_at hl 0 rfl) ?_
    obtain ⟨g5, h⟩ := h
    refine x_getP C fl_RX12_194 g5 dX12_answer_13 ?_
    refine x_iload_n C dX12_answer_16 rfl (lv_at hl 1 rfl) ?_
    obtain ⟨b6, g7, h⟩ := h
    refine x_nn1 g7 ?_
    obtain ⟨g8, h⟩ := h
    obtain ⟨g9, h⟩ := h
    refine x_iald C g8 g9 dX12_answer_17 ?_
    refine x_topi (fun x10 e11 => ?_)
    have h := h x10 e11
    refine x_goto (tgt := 22) C dX12_answer_18 (by decide) ?_
    exact x_iret C hr dX12_answer_22 ⟨_, rfl, h⟩
theorem dX12_about_0 : decode cX12_about 0 = .ok (.aload_n 0, 1) := by decide +kernel
theorem dX12_about_1 : decode cX12_about 1 = .ok (.iconst 0, 1) := by decide +kernel
theorem dX12_about_2 : decode cX12_about 2 = .ok (.putfield 267, 3) := by decide +kernel
theorem dX12_about_5 : decode cX12_about 5 = .ok (.iload_n 1, 1) := by decide +kernel
theorem dX12_about_6 : decode cX12_about 6 = .ok (.tableswitch 103 0 8 #[50, 55, 60, 65, 78, 83, 88, 93, 98], 50) := by decide +kernel
theorem dX12_about_56 : decode cX12_about 56 = .ok (.aload_n 0, 1) := by decide +kernel
theorem dX12_about_57 : decode cX12_about 57 = .ok (.getfield 281, 3) := by decide +kernel
theorem dX12_about_60 : decode cX12_about 60 = .ok (.ireturn, 1) := by decide +kernel
theorem dX12_about_61 : decode cX12_about 61 = .ok (.aload_n 0, 1) := by decide +kernel
theorem dX12_about_62 : decode cX12_about 62 = .ok (.getfield 287, 3) := by decide +kernel
theorem dX12_about_65 : decode cX12_about 65 = .ok (.ireturn, 1) := by decide +kernel
theorem dX12_about_66 : decode cX12_about 66 = .ok (.aload_n 0, 1) := by decide +kernel
theorem dX12_about_67 : decode cX12_about 67 = .ok (.getfield 284, 3) := by decide +kernel
theorem dX12_about_70 : decode cX12_about 70 = .ok (.ireturn, 1) := by decide +kernel
theorem dX12_about_71 : decode cX12_about 71 = .ok (.aload_n 0, 1) := by decide +kernel
theorem dX12_about_72 : decode cX12_about 72 = .ok (.getfield 33, 3) := by decide +kernel
theorem dX12_about_75 : decode cX12_about 75 = .ok (.ifCond .eq 7, 3) := by decide +kernel
theorem dX12_about_78 : decode cX12_about 78 = .ok (.iconst 1, 1) := by decide +kernel
theorem dX12_about_79 : decode cX12_about 79 = .ok (.goto 4, 3) := by decide +kernel
theorem dX12_about_82 : decode cX12_about 82 = .ok (.iconst 0, 1) := by decide +kernel
theorem dX12_about_83 : decode cX12_about 83 = .ok (.ireturn, 1) := by decide +kernel
theorem dX12_about_84 : decode cX12_about 84 = .ok (.aload_n 0, 1) := by decide +kernel
theorem dX12_about_85 : decode cX12_about 85 = .ok (.getfield 37, 3) := by decide +kernel
theorem dX12_about_88 : decode cX12_about 88 = .ok (.ireturn, 1) := by decide +kernel
theorem dX12_about_89 : decode cX12_about 89 = .ok (.aload_n 0, 1) := by decide +kernel
theorem dX12_about_90 : decode cX12_about 90 = .ok (.getfield 321, 3) := by decide +kernel
theorem dX12_about_93 : decode cX12_about 93 = .ok (.ireturn, 1) := by decide +kernel
theorem dX12_about_94 : decode cX12_about 94 = .ok (.aload_n 0, 1) := by decide +kernel
theorem dX12_about_95 : decode cX12_about 95 = .ok (.getfield 449, 3) := by decide +kernel
theorem dX12_about_98 : decode cX12_about 98 = .ok (.ireturn, 1) := by decide +kernel
theorem dX12_about_99 : decode cX12_about 99 = .ok (.aload_n 0, 1) := by decide +kernel
theorem dX12_about_100 : decode cX12_about 100 = .ok (.getfield 318, 3) := by decide +kernel
theorem dX12_about_103 : decode cX12_about 103 = .ok (.ireturn, 1) := by decide +kernel
theorem dX12_about_104 : decode cX12_about 104 = .ok (.aload_n 0, 1) := by decide +kernel
theorem dX12_about_105 : decode cX12_about 105 = .ok (.getfield 264, 3) := by decide +kernel
theorem dX12_about_108 : decode cX12_about 108 = .ok (.ireturn, 1) := by decide +kernel
theorem dX12_about_109 : decode cX12_about 109 = .ok (.iconst (-1), 1) := by decide +kernel
theorem dX12_about_110 : decode cX12_about 110 = .ok (.ireturn, 1) := by decide +kernel
abbrev rm_X12_about : Room := { frames := 0, cells := 0, slots := 0, locals := 0 }
def wp_X12_about (a0 : Nat) (p1 : Int32) (σ : Sto) (Q : Int32 → Sto → Prop) : Prop := (sK σ a0 = 12 ∧ ((p1.toInt < 0 ∨ 8 < p1.toInt → Q (-1 : Int32) (stI σ a0 0 (0 : Int32))) ∧ (p1 = (0 : Int32) → (∀ x4 : Int32, x4 = sI (stI σ a0 0 (0 : Int32)) a0 6 → Q x4 (stI σ a0 0 (0 : Int32)))) ∧ (p1 = (1 : Int32) → (∀ x6 : Int32, x6 = sI (stI σ a0 0 (0 : Int32)) a0 7 → Q x6 (stI σ a0 0 (0 : Int32)))) ∧ (p1 = (2 : Int32) → (∀ x8 : Int32, x8 = sI (stI σ a0 0 (0 : Int32)) a0 8 → Q x8 (stI σ a0 0 (0 : Int32)))) ∧ (p1 = (3 : Int32) → (∀ x10 : Int32, x10 = sI (stI σ a0 0 (0 : Int32)) a0 16 → ((x10 = 0 → Q (0 : Int32) (stI σ a0 0 (0 : Int32))) ∧ (¬ x10 = 0 → Q (1 : Int32) (stI σ a0 0 (0 : Int32)))))) ∧ (p1 = (4 : Int32) → (∀ x13 : Int32, x13 = sI (stI σ a0 0 (0 : Int32)) a0 17 → Q x13 (stI σ a0 0 (0 : Int32)))) ∧ (p1 = (5 : Int32) → (∀ x15 : Int32, x15 = sI (stI σ a0 0 (0 : Int32)) a0 18 → Q x15 (stI σ a0 0 (0 : Int32)))) ∧ (p1 = (6 : Int32) → (∀ x17 : Int32, x17 = sI (stI σ a0 0 (0 : Int32)) a0 81 → Q x17 (stI σ a0 0 (0 : Int32)))) ∧ (p1 = (7 : Int32) → (∀ x19 : Int32, x19 = sI (stI σ a0 0 (0 : Int32)) a0 4 → Q x19 (stI σ a0 0 (0 : Int32)))) ∧ (p1 = (8 : Int32) → (∀ x21 : Int32, x21 = sI (stI σ a0 0 (0 : Int32)) a0 3 → Q x21 (stI σ a0 0 (0 : Int32))))))
set_option maxHeartbeats 4000000 in
set_option maxRecDepth 100000 in
theorem c_X12_about (l : Launch) (D : va_G) (cy : Nat → ClassId) (a0 : Nat) (p1 : Int32) (σ : Sto) (Q : Int32 → Sto → Prop) (h : wp_X12_about a0 p1 σ Q) : Mt l D cy yX12_about cX12_about 2 (some .int) rm_X12_about [.ref a0, .int p1] σ (PsI Q) := by
  unfold wp_X12_about at h
  refine mt_of (by decide +kernel) (Nat.le_of_ble_eq_true rfl) ?_
  intro p e s m args below meth c A ls C hr hnm hl
  have C : Cx p s m args meth c D cy A cX12_about 2 RX12 := C
  have hl : lv_has ls 2 [(0, .ref a0), (1, .int p1)] := hl
  refine x_aload_n C dX12_about_0 rfl (lv_at hl 0 rfl) ?_
  refine x_iconst (v := 0) C dX12_about_1 (by decide) ?_
  obtain ⟨g1, h⟩ := h
  refine x_putI C fl_RX12_267 (Or.inl rfl) g1 dX12_about_2 ?_
  refine x_iload_n C dX12_about_5 rfl (lv_at hl 1 rfl) ?_
  by_cases c2 : p1.toInt < 0 ∨ 8 < p1.toInt
  · have h := h.1 c2
    refine x_tableOut (tgt := 109) C dX12_about_6 c2 (by decide) ?_
    refine x_iconst (v := -1) C dX12_about_109 (by decide) ?_
    exact x_iret C hr dX12_about_110 ⟨_, rfl, h⟩
  · rcases (show p1.toInt = 0 ∨ p1.toInt = 1 ∨ p1.toInt = 2 ∨ p1.toInt = 3 ∨ p1.toInt = 4 ∨ p1.toInt = 5 ∨ p1.toInt = 6 ∨ p1.toInt = 7 ∨ p1.toInt = 8 by omega) with c3 | c3 | c3 | c3 | c3 | c3 | c3 | c3 | c3
    · have h := h.2.1 (sw_eq (k := 0) (c3.trans (by decide)))
      refine x_tableIn (tgt := 56) (off := 50) C dX12_about_6 (by omega) (by omega) (by rw [c3]; rfl) (by decide) ?_
      refine x_aload_n C dX12_about_56 rfl (lv_at hl 0 rfl) ?_
      refine x_getI C fl_RX12_281 g1 dX12_about_57 ?_
      refine x_topi (fun x4 e5 => ?_)
      have h := h x4 e5
      exact x_iret C hr dX12_about_60 ⟨_, rfl, h⟩
    · have h := h.2.2.1 (sw_eq (k := 1) (c3.trans (by decide)))
      refine x_tableIn (tgt := 61) (off := 55) C dX12_about_6 (by omega) (by omega) (by rw [c3]; rfl) (by decide) ?_
      refine x_aload_n C dX12_about_61 rfl (lv_at hl 0 rfl) ?_
      refine x_getI C fl_RX12_287 g1 dX12_about_62 ?_
      refine x_topi (fun x6 e7 => ?_)
      have h := h x6 e7
      exact x_iret C hr dX12_about_65 ⟨_, rfl, h⟩
    · have h := h.2.2.2.1 (sw_eq (k := 2) (c3.trans (by decide)))
      refine x_tableIn (tgt := 66) (off := 60) C dX12_about_6 (by omega) (by omega) (by rw [c3]; rfl) (by decide) ?_
      refine x_aload_n C dX12_about_66 rfl (lv_at hl 0 rfl) ?_
      refine x_getI C fl_RX12_284 g1 dX12_about_67 ?_
      refine x_topi (fun x8 e9 => ?_)
      have h := h x8 e9
      exact x_iret C hr dX12_about_70 ⟨_, rfl, h⟩
    · have h := h.2.2.2.2.1 (sw_eq (k := 3) (c3.trans (by decide)))
      refine x_tableIn (tgt := 71) (off := 65) C dX12_about_6 (by omega) (by omega) (by rw [c3]; rfl) (by decide) ?_
      refine x_aload_n C dX12_about_71 rfl (lv_at hl 0 rfl) ?_
      refine x_getZ C fl_RX12_33 g1 dX12_about_72 ?_
      refine x_topi (fun x10 e11 => ?_)
      have h := h x10 e11
      refine x_if_eq (tgt := 82) C dX12_about_75 (by decide) (fun c12 => ?_) (fun c12 => ?_)
      · have h := h.1 c12
        refine x_iconst (v := 0) C dX12_about_82 (by decide) ?_
        exact x_iret C hr dX12_about_83 ⟨_, rfl, h⟩
      · have h := h.2 c12
        refine x_iconst (v := 1) C dX12_about_78 (by decide) ?_
        refine x_goto (tgt := 83) C dX12_about_79 (by decide) ?_
        exact x_iret C hr dX12_about_83 ⟨_, rfl, h⟩
    · have h := h.2.2.2.2.2.1 (sw_eq (k := 4) (c3.trans (by decide)))
      refine x_tableIn (tgt := 84) (off := 78) C dX12_about_6 (by omega) (by omega) (by rw [c3]; rfl) (by decide) ?_
      refine x_aload_n C dX12_about_84 rfl (lv_at hl 0 rfl) ?_
      refine x_getI C fl_RX12_37 g1 dX12_about_85 ?_
      refine x_topi (fun x13 e14 => ?_)
      have h := h x13 e14
      exact x_iret C hr dX12_about_88 ⟨_, rfl, h⟩
    · have h := h.2.2.2.2.2.2.1 (sw_eq (k := 5) (c3.trans (by decide)))
      refine x_tableIn (tgt := 89) (off := 83) C dX12_about_6 (by omega) (by omega) (by rw [c3]; rfl) (by decide) ?_
      refine x_aload_n C dX12_about_89 rfl (lv_at hl 0 rfl) ?_
      refine x_getI C fl_RX12_321 g1 dX12_about_90 ?_
      refine x_topi (fun x15 e16 => ?_)
      have h := h x15 e16
      exact x_iret C hr dX12_about_93 ⟨_, rfl, h⟩
    · have h := h.2.2.2.2.2.2.2.1 (sw_eq (k := 6) (c3.trans (by decide)))
      refine x_tableIn (tgt := 94) (off := 88) C dX12_about_6 (by omega) (by omega) (by rw [c3]; rfl) (by decide) ?_
      refine x_aload_n C dX12_about_94 rfl (lv_at hl 0 rfl) ?_
      refine x_getI C fl_RX12_449 g1 dX12_about_95 ?_
      refine x_topi (fun x17 e18 => ?_)
      have h := h x17 e18
      exact x_iret C hr dX12_about_98 ⟨_, rfl, h⟩
    · have h := h.2.2.2.2.2.2.2.2.1 (sw_eq (k := 7) (c3.trans (by decide)))
      refine x_tableIn (tgt := 99) (off := 93) C dX12_about_6 (by omega) (by omega) (by rw [c3]; rfl) (by decide) ?_
      refine x_aload_n C dX12_about_99 rfl (lv_at hl 0 rfl) ?_
      refine x_getI C fl_RX12_318 g1 dX12_about_100 ?_
      refine x_topi (fun x19 e20 => ?_)
      have h := h x19 e20
      exact x_iret C hr dX12_about_103 ⟨_, rfl, h⟩
    · have h := h.2.2.2.2.2.2.2.2.2 (sw_eq (k := 8) (c3.trans (by decide)))
      refine x_tableIn (tgt := 104) (off := 98) C dX12_about_6 (by omega) (by omega) (by rw [c3]; rfl) (by decide) ?_
      refine x_aload_n C dX12_about_104 rfl (lv_at hl 0 rfl) ?_
      refine x_getI C fl_RX12_264 g1 dX12_about_105 ?_
      refine x_topi (fun x21 e22 => ?_)
      have h := h x21 e22
      exact x_iret C hr dX12_about_108 ⟨_, rfl, h⟩
