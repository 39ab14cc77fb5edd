theorem dX7_at_0 : decode cX7_at 0 = .ok (.iload_n 1, 1) := by decide +kernel
theorem dX7_at_1 : decode cX7_at 1 = .ok (.ifCond .lt 29, 3) := by decide +kernel
theorem dX7_at_4 : decode cX7_at 4 = .ok (.iload_n 1, 1) := by decide +kernel
theorem dX7_at_5 : decode cX7_at 5 = .ok (.aload_n 0, 1) := by decide +kernel
theorem dX7_at_6 : decode cX7_at 6 = .ok (.getfield 23, 3) := by decide +kernel
theorem dX7_at_9 : decode cX7_at 9 = .ok (.if_icmp .ge 21, 3) := by decide +kernel
theorem dX7_at_12 : decode cX7_at 12 = .ok (.iload_n 1, 1) := by decide +kernel
theorem dX7_at_13 : decode cX7_at 13 = .ok (.aload_n 0, 1) := by decide +kernel
theorem dX7_at_14 : decode cX7_at 14 = .ok (.getfield 9, 3) := by decide +kernel
theorem dX7_at_17 : decode cX7_at 17 = .ok (.arraylength, 1) := by decide +kernel
theorem dX7_at_18 : decode cX7_at 18 = .ok (.if_icmp .ge 12, 3) := by decide +kernel
theorem dX7_at_21 : decode cX7_at 21 = .ok (.aload_n 0, 1) := by decide +kernel
theorem dX7_at_22 : decode cX7_at 22 = .ok (.getfield 9, 3) := by decide +kernel
theorem dX7_at_25 : decode cX7_at 25 = .ok (.iload_n 1, 1) := by decide +kernel
theorem dX7_at_26 : decode cX7_at 26 = .ok (.iaload, 1) := by decide +kernel
theorem dX7_at_27 : decode cX7_at 27 = .ok (.goto 4, 3) := by decide +kernel
theorem dX7_at_30 : decode cX7_at 30 = .ok (.iconst 0, 1) := by decide +kernel
theorem dX7_at_31 : decode cX7_at 31 = .ok (.ireturn, 1) := by decide +kernel
abbrev rm_X7_at : Room := { frames := 0, cells := 0, slots := 0, locals := 0 }
def wp_X7_at (a0 : Nat) (p1 : Int32) (σ : Sto) (Q : Int32 → Sto → Prop) : Prop := ((p1 < 0 → Q (0 : Int32) σ) ∧ (¬ p1 < 0 → (sK σ a0 = 7 ∧ (∀ x3 : Int32, x3 = sI σ a0 2 → ((x3 ≤ p1 → Q (0 : Int32) σ) ∧ (¬ x3 ≤ p1 → (∃ b6 : Nat, sP σ a0 1 = some b6 ∧ (sK σ b6 = 14 ∧ (((nI (sN σ b6)) ≤ p1 → Q (0 : Int32) σ) ∧ (¬ (nI (sN σ b6)) ≤ p1 → (vp_in p1 (sN σ b6) ∧ (∀ x11 : Int32, x11 = sI σ b6 p1.toNatClampNeg → Q x11 σ))))))))))))
set_option maxHeartbeats 4000000 in
set_option maxRecDepth 100000 in
theorem c_X7_at (l : Launch) (D : va_G) (cy : Nat → ClassId) (a0 : Nat) (p1 : Int32) (σ : Sto) (Q : Int32 → Sto → Prop) (h : wp_X7_at a0 p1 σ Q) : Mt l D cy yX7_at cX7_at 2 (some .int) rm_X7_at [.ref a0, .int p1] σ (PsI Q) := by
  unfold wp_X7_at at h
  refine mt_of (by decide +kernel) (Nat.le_of_ble_eq_true rfl) ?_
  intro p e s m args below meth c A ls C hr hnm hl
  have C : Cx p s m args meth c D cy A cX7_at 2 RX7 := C
  have hl : lv_has ls 2 [(0, .ref a0), (1, .int p1)] := hl
  refine x_iload_n C dX7_at_0 rfl (lv_at hl 1 rfl) ?_
  refine x_if_lt (tgt := 30) C dX7_at_1 (by decide) (fun c1 => ?_) (fun c1 => ?_)
  · have h := h.1 c1
    refine x_iconst (v := 0) C dX7_at_30 (by decide) ?_
    exact x_iret C hr dX7_at_31 ⟨_, rfl, h⟩
  · have h := h.2 c1
    refine x_iload_n C dX7_at_4 rfl (lv_at hl 1 rfl) ?_
    refine x_aload_n C dX7_at_5 rfl (lv_at hl 0 rfl) ?_
    obtain ⟨g2, h⟩ := h
    refine x_getI C fl_RX7_23 g2 dX7_at_6 ?_
    refine x_topi (fun x3 e4 => ?_)
    have h := h x3 e4
    refine x_icmp_ge (tgt := 30) C dX7_at_9 (by decide) (fun c5 => ?_) (fun c5 => ?_)
    · have h := h.1 c5
      refine x_iconst (v := 0) C dX7_at_30 (by decide) ?_
      exact x_iret C hr dX7_at_31 ⟨_, rfl, h⟩
    · have h := h.2 c5
      refine x_iload_n C dX7_at_12 rfl (lv_at hl 1 rfl) ?_
      refine x_aload_n C dX7_at_13 rfl (lv_at hl 0 rfl) ?_
      refine x_getP C fl_RX7_9 g2 dX7_at_14 ?_
      obtain ⟨b6, g7, h⟩ := h
      refine x_nn0 g7 ?_
      obtain ⟨g8, h⟩ := h
      refine x_alen C g8 (by decide) (by decide) dX7_at_17 ?_
      refine x_icmp_ge (tgt := 30) C dX7_at_18 (by decide) (fun c9 => ?_) (fun c9 => ?_)
      · have h := h.1 c9
        refine x_iconst (v := 0) C dX7_at_30 (by decide) ?_
        exact x_iret C hr dX7_at_31 ⟨_, rfl, h⟩
      · have h := h.2 c9
        refine x_aload_n C dX7_at_21 rfl (lv_at hl 0 rfl) ?_
        refine x_getP C fl_RX7_9 g2 dX7_at_22 ?_
        refine x_iload_n C dX7_at_25 rfl (lv_at hl 1 rfl) ?_
        refine x_nn1 g7 ?_
        obtain ⟨g10, h⟩ := h
        refine x_iald C g8 g10 dX7_at_26 ?_
        refine x_topi (fun x11 e12 => ?_)
        have h := h x11 e12
        refine x_goto (tgt := 31) C dX7_at_27 (by decide) ?_
        exact x_iret C hr dX7_at_31 ⟨_, rfl, h⟩
theorem dX7_spoil_0 : decode cX7_spoil 0 = .ok (.aload_n 0, 1) := by decide +kernel
theorem dX7_spoil_1 : decode cX7_spoil 1 = .ok (.getfield 26, 3) := by decide +kernel
theorem dX7_spoil_4 : decode cX7_spoil 4 = .ok (.ifCond .ne 13, 3) := by decide +kernel
theorem dX7_spoil_7 : decode cX7_spoil 7 = .ok (.aload_n 0, 1) := by decide +kernel
theorem dX7_spoil_8 : decode cX7_spoil 8 = .ok (.iload_n 1, 1) := by decide +kernel
theorem dX7_spoil_9 : decode cX7_spoil 9 = .ok (.putfield 26, 3) := by decide +kernel
theorem dX7_spoil_12 : decode cX7_spoil 12 = .ok (.aload_n 0, 1) := by decide +kernel
theorem dX7_spoil_13 : decode cX7_spoil 13 = .ok (.iload_n 2, 1) := by decide +kernel
theorem dX7_spoil_14 : decode cX7_spoil 14 = .ok (.putfield 15, 3) := by decide +kernel
theorem dX7_spoil_17 : decode cX7_spoil 17 = .ok (.return_, 1) := by decide +kernel
abbrev rm_X7_spoil : Room := { frames := 0, cells := 0, slots := 0, locals := 0 }
def wp_X7_spoil (a0 : Nat) (p1 : Int32) (p2 : Int32) (σ : Sto) (Q : Sto → Prop) : Prop := (sK σ a0 = 7 ∧ (∀ x2 : Int32, x2 = sI σ a0 3 → ((¬ x2 = 0 → Q σ) ∧ (x2 = 0 → Q (stI (stI σ a0 3 p1) a0 4 p2)))))
set_option maxHeartbeats 4000000 in
set_option maxRecDepth 100000 in
theorem c_X7_spoil (l : Launch) (D : va_G) (cy : Nat → ClassId) (a0 : Nat) (p1 : Int32) (p2 : Int32) (σ : Sto) (Q : Sto → Prop) (h : wp_X7_spoil a0 p1 p2 σ Q) : Mt l D cy yX7_spoil cX7_spoil 3 none rm_X7_spoil [.ref a0, .int p1, .int p2] σ (PsV Q) := by
  unfold wp_X7_spoil at h
  refine mt_of (by decide +kernel) (Nat.le_of_ble_eq_true rfl) ?_
  intro p e s m args below meth c A ls C hr hnm hl
  have C : Cx p s m args meth c D cy A cX7_spoil 3 RX7 := C
  have hl : lv_has ls 3 [(0, .ref a0), (1, .int p1), (2, .int p2)] := hl
  refine x_aload_n C dX7_spoil_0 rfl (lv_at hl 0 rfl) ?_
  obtain ⟨g1, h⟩ := h
  refine x_getI C fl_RX7_26 g1 dX7_spoil_1 ?_
  refine x_topi (fun x2 e3 => ?_)
  have h := h x2 e3
  refine x_if_ne (tgt := 17) C dX7_spoil_4 (by decide) (fun c4 => ?_) (fun c4 => ?_)
  · have h := h.1 c4
    exact x_vret C hr dX7_spoil_17 ⟨rfl, h⟩
  · have h := h.2 c4
    refine x_aload_n C dX7_spoil_7 rfl (lv_at hl 0 rfl) ?_
    refine x_iload_n C dX7_spoil_8 rfl (lv_at hl 1 rfl) ?_
    refine x_putI C fl_RX7_26 (Or.inl rfl) g1 dX7_spoil_9 ?_
    refine x_aload_n C dX7_spoil_12 rfl (lv_at hl 0 rfl) ?_
    refine x_iload_n C dX7_spoil_13 rfl (lv_at hl 2 rfl) ?_
    refine x_putI C fl_RX7_15 (Or.inl rfl) g1 dX7_spoil_14 ?_
    exact x_vret C hr dX7_spoil_17 ⟨rfl, h⟩
theorem dX7_nextByte_0 : decode cX7_nextByte 0 = .ok (.aload_n 0, 1) := by decide +kernel
theorem dX7_nextByte_1 : decode cX7_nextByte 1 = .ok (.getfield 26, 3) := by decide +kernel
theorem dX7_nextByte_4 : decode cX7_nextByte 4 = .ok (.ifCond .eq 5, 3) := by decide +kernel
theorem dX7_nextByte_7 : decode cX7_nextByte 7 = .ok (.iconst 0, 1) := by decide +kernel
theorem dX7_nextByte_8 : decode cX7_nextByte 8 = .ok (.ireturn, 1) := by decide +kernel
theorem dX7_nextByte_9 : decode cX7_nextByte 9 = .ok (.aload_n 0, 1) := by decide +kernel
theorem dX7_nextByte_10 : decode cX7_nextByte 10 = .ok (.getfield 19, 3) := by decide +kernel
theorem dX7_nextByte_13 : decode cX7_nextByte 13 = .ok (.aload_n 0, 1) := by decide +kernel
theorem dX7_nextByte_14 : decode cX7_nextByte 14 = .ok (.getfield 29, 3) := by decide +kernel
theorem dX7_nextByte_17 : decode cX7_nextByte 17 = .ok (.invokevirtual 83, 3) := by decide +kernel
theorem dX7_nextByte_20 : decode cX7_nextByte 20 = .ok (.istore_n 1, 1) := by decide +kernel
theorem dX7_nextByte_21 : decode cX7_nextByte 21 = .ok (.iload_n 1, 1) := by decide +kernel
theorem dX7_nextByte_22 : decode cX7_nextByte 22 = .ok (.iconst (-1), 1) := by decide +kernel
theorem dX7_nextByte_23 : decode cX7_nextByte 23 = .ok (.if_icmp .ne 17, 3) := by decide +kernel
theorem dX7_nextByte_26 : decode cX7_nextByte 26 = .ok (.aload_n 0, 1) := by decide +kernel
theorem dX7_nextByte_27 : decode cX7_nextByte 27 = .ok (.iconst 1, 1) := by decide +kernel
theorem dX7_nextByte_28 : decode cX7_nextByte 28 = .ok (.aload_n 0, 1) := by decide +kernel
theorem dX7_nextByte_29 : decode cX7_nextByte 29 = .ok (.getfield 19, 3) := by decide +kernel
theorem dX7_nextByte_32 : decode cX7_nextByte 32 = .ok (.getfield 49, 3) := by decide +kernel
theorem dX7_nextByte_35 : decode cX7_nextByte 35 = .ok (.invokevirtual 54, 3) := by decide +kernel
theorem dX7_nextByte_38 : decode cX7_nextByte 38 = .ok (.iconst 0, 1) := by decide +kernel
theorem dX7_nextByte_39 : decode cX7_nextByte 39 = .ok (.ireturn, 1) := by decide +kernel
theorem dX7_nextByte_40 : decode cX7_nextByte 40 = .ok (.aload_n 0, 1) := by decide +kernel
theorem dX7_nextByte_41 : decode cX7_nextByte 41 = .ok (.dup, 1) := by decide +kernel
theorem dX7_nextByte_42 : decode cX7_nextByte 42 = .ok (.getfield 29, 3) := by decide +kernel
theorem dX7_nextByte_45 : decode cX7_nextByte 45 = .ok (.iconst 1, 1) := by decide +kernel
theorem dX7_nextByte_46 : decode cX7_nextByte 46 = .ok (.iadd, 1) := by decide +kernel
theorem dX7_nextByte_47 : decode cX7_nextByte 47 = .ok (.putfield 29, 3) := by decide +kernel
theorem dX7_nextByte_50 : decode cX7_nextByte 50 = .ok (.iload_n 1, 1) := by decide +kernel
theorem dX7_nextByte_51 : decode cX7_nextByte 51 = .ok (.ireturn, 1) := by decide +kernel
abbrev rm_X7_nextByte : Room := { frames := 1, cells := 0, slots := 0, locals := 22 }
def wp_X7_nextByte (a0 : Nat)  (σ : Sto) (Q : Int32 → Sto → Prop) : Prop := (sK σ a0 = 7 ∧ (∀ x2 : Int32, x2 = sI σ a0 3 → ((x2 = 0 → (∀ x5 : Int32, x5 = sI σ a0 5 → (∃ b7 : Nat, sP σ a0 0 = some b7 ∧ (sK σ b7 = 0 ∧ (wp_X0_at b7 x5 σ (fun (x11 : Int32) (σ10 : Sto) => ((¬ x11 = (-1 : Int32) → (sK σ10 a0 = 7 ∧ (∀ x14 : Int32, x14 = sI σ10 a0 5 → (∀ x16 : Int32, x16 = x14 + (1 : Int32) → Q x11 (stI σ10 a0 5 x16))))) ∧ (x11 = (-1 : Int32) → (sK σ10 a0 = 7 ∧ (∃ b19 : Nat, sP σ10 a0 0 = some b19 ∧ (sK σ10 b19 = 0 ∧ (∀ x22 : Int32, x22 = sI σ10 b19 1 → (wp_X7_spoil a0 (1 : Int32) x22 σ10 (fun (σ24 : Sto) => Q (0 : Int32) σ24)))))))))))))) ∧ (¬ x2 = 0 → Q (0 : Int32) σ))))
set_option maxHeartbeats 4000000 in
set_option maxRecDepth 100000 in
theorem c_X7_nextByte (l : Launch) (D : va_G) (cy : Nat → ClassId) (a0 : Nat)  (σ : Sto) (Q : Int32 → Sto → Prop) (h : wp_X7_nextByte a0  σ Q) : Mt l D cy yX7_nextByte cX7_nextByte 2 (some .int) rm_X7_nextByte [.ref a0] σ (PsI Q) := by
  unfold wp_X7_nextByte at h
  refine mt_of (by decide +kernel) (Nat.le_of_ble_eq_true rfl) ?_
  intro p e s m args below meth c A ls C hr hnm hl
  have C : Cx p s m args meth c D cy A cX7_nextByte 2 RX7 := C
  have hl : lv_has ls 2 [(0, .ref a0)] := hl
  refine x_aload_n C dX7_nextByte_0 rfl (lv_at hl 0 rfl) ?_
  obtain ⟨g1, h⟩ := h
  refine x_getI C fl_RX7_26 g1 dX7_nextByte_1 ?_
  refine x_topi (fun x2 e3 => ?_)
  have h := h x2 e3
  refine x_if_eq (tgt := 9) C dX7_nextByte_4 (by decide) (fun c4 => ?_) (fun c4 => ?_)
  · have h := h.1 c4
    refine x_aload_n C dX7_nextByte_9 rfl (lv_at hl 0 rfl) ?_
    refine x_getP C fl_RX7_19 g1 dX7_nextByte_10 ?_
    refine x_aload_n C dX7_nextByte_13 rfl (lv_at hl 0 rfl) ?_
    refine x_getI C fl_RX7_29 g1 dX7_nextByte_14 ?_
    refine x_topi (fun x5 e6 => ?_)
    have h := h x5 e6
    obtain ⟨b7, g8, h⟩ := h
    refine x_nn1 g8 ?_
    obtain ⟨g9, h⟩ := h
    refine x_callV (rm := rm_X0_at) (rest := []) (As := [.int x5]) C cy_RX7_83 g9 (by decide) (by decide) rfl rfl (Nat.le_of_ble_eq_true rfl) hl.1 dX7_nextByte_17 (c_X0_at l D cy b7 x5 σ _ h) (ks_i (fun x11 σ10 h => ?_))
    refine x_istore_n (i := 1) (lv' := [(1, .int x11), (0, .ref a0)]) C dX7_nextByte_20 rfl hl (by decide) (by first | rfl | simp [vrc, cat_i, cat_r, cat_l]) (fun ls hl => ?_)
    refine x_iload_n C dX7_nextByte_21 rfl (lv_at hl 0 rfl) ?_
    refine x_iconst (v := -1) C dX7_nextByte_22 (by decide) ?_
    refine x_icmp_ne (tgt := 40) C dX7_nextByte_23 (by decide) (fun c12 => ?_) (fun c12 => ?_)
    · have h := h.1 c12
      refine x_aload_n C dX7_nextByte_40 rfl (lv_at hl 1 rfl) ?_
      refine x_dup C dX7_nextByte_41 (rfl) ?_
      obtain ⟨g13, h⟩ := h
      refine x_getI C fl_RX7_29 g13 dX7_nextByte_42 ?_
      refine x_topi (fun x14 e15 => ?_)
      have h := h x14 e15
      refine x_iconst (v := 1) C dX7_nextByte_45 (by decide) ?_
      refine x_iadd C dX7_nextByte_46 ?_
      refine x_topi (fun x16 e17 => ?_)
      have h := h x16 e17
      refine x_putI C fl_RX7_29 (Or.inl rfl) g13 dX7_nextByte_47 ?_
      refine x_iload_n C dX7_nextByte_50 rfl (lv_at hl 0 rfl) ?_
      exact x_iret C hr dX7_nextByte_51 ⟨_, rfl, h⟩
    · have h := h.2 c12
      refine x_aload_n C dX7_nextByte_26 rfl (lv_at hl 1 rfl) ?_
      refine x_iconst (v := 1) C dX7_nextByte_27 (by decide) ?_
      refine x_aload_n C dX7_nextByte_28 rfl (lv_at hl 1 rfl) ?_
      obtain ⟨g18, h⟩ := h
      refine x_getP C fl_RX7_19 g18 dX7_nextByte_29 ?_
      obtain ⟨b19, g20, h⟩ := h
      refine x_nn0 g20 ?_
      obtain ⟨g21, h⟩ := h
      refine x_getI C fl_RX7_49 g21 dX7_nextByte_32 ?_
      refine x_topi (fun x22 e23 => ?_)
      have h := h x22 e23
      refine x_callV (rm := rm_X7_spoil) (rest := []) (As := [.int (1 : Int32), .int x22]) C cy_RX7_54 g18 (by decide) (by decide) rfl rfl (Nat.le_of_ble_eq_true rfl) hl.1 dX7_nextByte_35 (c_X7_spoil l D cy a0 (1 : Int32) x22 σ10 _ h) (ks_v (fun σ24 h => ?_))
      refine x_iconst (v := 0) C dX7_nextByte_38 (by decide) ?_
      exact x_iret C hr dX7_nextByte_39 ⟨_, rfl, h⟩
  · have h := h.2 c4
    refine x_iconst (v := 0) C dX7_nextByte_7 (by decide) ?_
    exact x_iret C hr dX7_nextByte_8 ⟨_, rfl, h⟩
theorem dX7_tell_0 : decode cX7_tell 0 = .ok (.aload_n 0, 1) := by decide +kernel
theorem dX7_tell_1 : decode cX7_tell 1 = .ok (.getfield 26, 3) := by decide +kernel
theorem dX7_tell_4 : decode cX7_tell 4 = .ok (.ifCond .ne 42, 3) := by decide +kernel
theorem dX7_tell_7 : decode cX7_tell 7 = .ok (.aload_n 0, 1) := by decide +kernel
theorem dX7_tell_8 : decode cX7_tell 8 = .ok (.getfield 23, 3) := by decide +kernel
theorem dX7_tell_11 : decode cX7_tell 11 = .ok (.ifCond .lt 35, 3) := by decide +kernel
theorem dX7_tell_14 : decode cX7_tell 14 = .ok (.aload_n 0, 1) := by decide +kernel
theorem dX7_tell_15 : decode cX7_tell 15 = .ok (.getfield 23, 3) := by decide +kernel
theorem dX7_tell_18 : decode cX7_tell 18 = .ok (.aload_n 0, 1) := by decide +kernel
theorem dX7_tell_19 : decode cX7_tell 19 = .ok (.getfield 9, 3) := by decide +kernel
theorem dX7_tell_22 : decode cX7_tell 22 = .ok (.arraylength, 1) := by decide +kernel
theorem dX7_tell_23 : decode cX7_tell 23 = .ok (.if_icmp .ge 23, 3) := by decide +kernel
theorem dX7_tell_26 : decode cX7_tell 26 = .ok (.aload_n 0, 1) := by decide +kernel
theorem dX7_tell_27 : decode cX7_tell 27 = .ok (.getfield 9, 3) := by decide +kernel
theorem dX7_tell_30 : decode cX7_tell 30 = .ok (.aload_n 0, 1) := by decide +kernel
theorem dX7_tell_31 : decode cX7_tell 31 = .ok (.getfield 23, 3) := by decide +kernel
theorem dX7_tell_34 : decode cX7_tell 34 = .ok (.iload_n 1, 1) := by decide +kernel
theorem dX7_tell_35 : decode cX7_tell 35 = .ok (.iastore, 1) := by decide +kernel
theorem dX7_tell_36 : decode cX7_tell 36 = .ok (.aload_n 0, 1) := by decide +kernel
theorem dX7_tell_37 : decode cX7_tell 37 = .ok (.dup, 1) := by decide +kernel
theorem dX7_tell_38 : decode cX7_tell 38 = .ok (.getfield 23, 3) := by decide +kernel
theorem dX7_tell_41 : decode cX7_tell 41 = .ok (.iconst 1, 1) := by decide +kernel
theorem dX7_tell_42 : decode cX7_tell 42 = .ok (.iadd, 1) := by decide +kernel
theorem dX7_tell_43 : decode cX7_tell 43 = .ok (.putfield 23, 3) := by decide +kernel
theorem dX7_tell_46 : decode cX7_tell 46 = .ok (.return_, 1) := by decide +kernel
abbrev rm_X7_tell : Room := { frames := 0, cells := 0, slots := 0, locals := 0 }
def wp_X7_tell (a0 : Nat) (p1 : Int32) (σ : Sto) (Q : Sto → Prop) : Prop := (sK σ a0 = 7 ∧ (∀ x2 : Int32, x2 = sI σ a0 3 → ((¬ x2 = 0 → Q σ) ∧ (x2 = 0 → (∀ x5 : Int32, x5 = sI σ a0 2 → ((x5 < 0 → Q σ) ∧ (¬ x5 < 0 → (∀ x8 : Int32, x8 = sI σ a0 2 → (∃ b10 : Nat, sP σ a0 1 = some b10 ∧ (sK σ b10 = 14 ∧ (((nI (sN σ b10)) ≤ x8 → Q σ) ∧ (¬ (nI (sN σ b10)) ≤ x8 → (∀ x14 : Int32, x14 = sI σ a0 2 → (vp_in x14 (sN σ b10) ∧ (∀ x17 : Int32, x17 = sI (stI σ b10 x14.toNatClampNeg p1) a0 2 → (∀ x19 : Int32, x19 = x17 + (1 : Int32) → Q (stI (stI σ b10 x14.toNatClampNeg p1) a0 2 x19)))))))))))))))))
set_option maxHeartbeats 4000000 in
set_option maxRecDepth 100000 in
theorem c_X7_tell (l : Launch) (D : va_G) (cy : Nat → ClassId) (a0 : Nat) (p1 : Int32) (σ : Sto) (Q : Sto → Prop) (h : wp_X7_tell a0 p1 σ Q) : Mt l D cy yX7_tell cX7_tell 2 none rm_X7_tell [.ref a0, .int p1] σ (PsV Q) := by
  unfold wp_X7_tell at h
  refine mt_of (by decide +kernel) (Nat.le_of_ble_eq_true rfl) ?_
  intro p e s m args below meth c A ls C hr hnm hl
  have C : Cx p s m args meth c D cy A cX7_tell 2 RX7 := C
  have hl : lv_has ls 2 [(0, .ref a0), (1, .int p1)] := hl
  refine x_aload_n C dX7_tell_0 rfl (lv_at hl 0 rfl) ?_
  obtain ⟨g1, h⟩ := h
  refine x_getI C fl_RX7_26 g1 dX7_tell_1 ?_
  refine x_topi (fun x2 e3 => ?_)
  have h := h x2 e3
  refine x_if_ne (tgt := 46) C dX7_tell_4 (by decide) (fun c4 => ?_) (fun c4 => ?_)
  · have h := h.1 c4
    exact x_vret C hr dX7_tell_46 ⟨rfl, h⟩
  · have h := h.2 c4
    refine x_aload_n C dX7_tell_7 rfl (lv_at hl 0 rfl) ?_
    refine x_getI C fl_RX7_23 g1 dX7_tell_8 ?_
    refine x_topi (fun x5 e6 => ?_)
    have h := h x5 e6
    refine x_if_lt (tgt := 46) C dX7_tell_11 (by decide) (fun c7 => ?_) (fun c7 => ?_)
    · have h := h.1 c7
      exact x_vret C hr dX7_tell_46 ⟨rfl, h⟩
    · have h := h.2 c7
      refine x_aload_n C dX7_tell_14 rfl (lv_at hl 0 rfl) ?_
      refine x_getI C fl_RX7_23 g1 dX7_tell_15 ?_
      refine x_topi (fun x8 e9 => ?_)
      have h := h x8 e9
      refine x_aload_n C dX7_tell_18 rfl (lv_at hl 0 rfl) ?_
      refine x_getP C fl_RX7_9 g1 dX7_tell_19 ?_
      obtain ⟨b10, g11, h⟩ := h
      refine x_nn0 g11 ?_
      obtain ⟨g12, h⟩ := h
      refine x_alen C g12 (by decide) (by decide) dX7_tell_22 ?_
      refine x_icmp_ge (tgt := 46) C dX7_tell_23 (by decide) (fun c13 => ?_) (fun c13 => ?_)
      · have h := h.1 c13
        exact x_vret C hr dX7_tell_46 ⟨rfl, h⟩
      · have h := h.2 c13
        refine x_aload_n C dX7_tell_26 rfl (lv_at hl 0 rfl) ?_
        refine x_getP C fl_RX7_9 g1 dX7_tell_27 ?_
        refine x_aload_n C dX7_tell_30 rfl (lv_at hl 0 rfl) ?_
        refine x_getI C fl_RX7_23 g1 dX7_tell_31 ?_
        refine x_topi (fun x14 e15 => ?_)
        have h := h x14 e15
        refine x_iload_n C dX7_tell_34 rfl (lv_at hl 1 rfl) ?_
        refine x_nn2 g11 ?_
        obtain ⟨g16, h⟩ := h
        refine x_iast C g12 g16 dX7_tell_35 ?_
        refine x_aload_n C dX7_tell_36 rfl (lv_at hl 0 rfl) ?_
        refine x_dup C dX7_tell_37 (rfl) ?_
        refine x_getI C fl_RX7_23 g1 dX7_tell_38 ?_
        refine x_topi (fun x17 e18 => ?_)
        have h := h x17 e18
        refine x_iconst (v := 1) C dX7_tell_41 (by decide) ?_
        refine x_iadd C dX7_tell_42 ?_
        refine x_topi (fun x19 e20 => ?_)
        have h := h x19 e20
        refine x_putI C fl_RX7_23 (Or.inl rfl) g1 dX7_tell_43 ?_
        exact x_vret C hr dX7_tell_46 ⟨rfl, h⟩
theorem dX7_readByte_0 : decode cX7_readByte 0 = .ok (.aload_n 0, 1) := by decide +kernel
theorem dX7_readByte_1 : decode cX7_readByte 1 = .ok (.invokevirtual 78, 3) := by decide +kernel
theorem dX7_readByte_4 : decode cX7_readByte 4 = .ok (.istore_n 2, 1) := by decide +kernel
theorem dX7_readByte_5 : decode cX7_readByte 5 = .ok (.iload_n 2, 1) := by decide +kernel
theorem dX7_readByte_6 : decode cX7_readByte 6 = .ok (.iload_n 1, 1) := by decide +kernel
theorem dX7_readByte_7 : decode cX7_readByte 7 = .ok (.if_icmp .le 14, 3) := by decide +kernel
theorem dX7_readByte_10 : decode cX7_readByte 10 = .ok (.aload_n 0, 1) := by decide +kernel
theorem dX7_readByte_11 : decode cX7_readByte 11 = .ok (.iconst 2, 1) := by decide +kernel
theorem dX7_readByte_12 : decode cX7_readByte 12 = .ok (.aload_n 0, 1) := by decide +kernel
theorem dX7_readByte_13 : decode cX7_readByte 13 = .ok (.getfield 29, 3) := by decide +kernel
theorem dX7_readByte_16 : decode cX7_readByte 16 = .ok (.iconst 1, 1) := by decide +kernel
theorem dX7_readByte_17 : decode cX7_readByte 17 = .ok (.isub, 1) := by decide +kernel
theorem dX7_readByte_18 : decode cX7_readByte 18 = .ok (.invokevirtual 54, 3) := by decide +kernel
theorem dX7_readByte_21 : decode cX7_readByte 21 = .ok (.aload_n 0, 1) := by decide +kernel
theorem dX7_readByte_22 : decode cX7_readByte 22 = .ok (.iload_n 2, 1) := by decide +kernel
theorem dX7_readByte_23 : decode cX7_readByte 23 = .ok (.invokevirtual 68, 3) := by decide +kernel
theorem dX7_readByte_26 : decode cX7_readByte 26 = .ok (.iload_n 2, 1) := by decide +kernel
theorem dX7_readByte_27 : decode cX7_readByte 27 = .ok (.ireturn, 1) := by decide +kernel
abbrev rm_X7_readByte : Room := { frames := 2, cells := 0, slots := 0, locals := 43 }
def b_X7_readByte_21 (a0 : Nat)  (Q : Int32 → Sto → Prop) (p2 : Int32) (σ : Sto) : Prop := (sK σ a0 = 7 ∧ (wp_X7_tell a0 p2 σ (fun (σ2 : Sto) => Q p2 σ2)))
set_option maxHeartbeats 4000000 in
set_option maxRecDepth 100000 in
theorem t_X7_readByte_21 {p : Program} {l : Launch} {e : Env} {s : State} {m : MethodId} {args : Array Value} {below : List Frame} {meth : Method} {c : Code} {D : va_G} {cy : Nat → ClassId} {A : Nat → Prop} {a0 : Nat} {Q : Int32 → Sto → Prop} (C : Cx p s m args meth c D cy A cX7_readByte 3 RX7) (hr : meth.sig.returnType = (some .int)) (hnm : meth.name = yX7_readByte.name) (p2 : Int32) (σ : Sto) (h : b_X7_readByte_21 a0  Q p2 σ) (ls : Array Slot) (hl : lv_has ls 3 [(0, .ref a0), (2, .int p2)]) : Xw p l e rm_X7_readByte s m args below meth c D cy A σ 0 0 (MQ below (Qst D cy A (PsI Q)) args s rm_X7_readByte.cells rm_X7_readByte.slots A) (F0 m 21 ls []) := by
  unfold b_X7_readByte_21 at h
  refine x_aload_n C dX7_readByte_21 rfl (lv_at hl 0 rfl) ?_
  refine x_iload_n C dX7_readByte_22 rfl (lv_at hl 1 rfl) ?_
  obtain ⟨g1, h⟩ := h
  refine x_callV (rm := rm_X7_tell) (rest := []) (As := [.int p2]) C cy_RX7_68 g1 (by decide) (by decide) rfl rfl (Nat.le_of_ble_eq_true rfl) hl.1 dX7_readByte_23 (c_X7_tell l D cy a0 p2 σ _ h) (ks_v (fun σ2 h => ?_))
  refine x_iload_n C dX7_readByte_26 rfl (lv_at hl 1 rfl) ?_
  exact x_iret C hr dX7_readByte_27 ⟨_, rfl, h⟩
def wp_X7_readByte (a0 : Nat) (p1 : Int32) (σ : Sto) (Q : Int32 → Sto → Prop) : Prop := (sK σ a0 = 7 ∧ (wp_X7_nextByte a0  σ (fun (x3 : Int32) (σ2 : Sto) => ((x3 ≤ p1 → b_X7_readByte_21 a0  Q x3 σ2) ∧ (¬ x3 ≤ p1 → (sK σ2 a0 = 7 ∧ (∀ x6 : Int32, x6 = sI σ2 a0 5 → (wp_X7_spoil a0 (2 : Int32) (x6 - (1 : Int32)) σ2 (fun (σ8 : Sto) => b_X7_readByte_21 a0  Q x3 σ8)))))))))
set_option maxHeartbeats 4000000 in
set_option maxRecDepth 100000 in
theorem c_X7_readByte (l : Launch) (D : va_G) (cy : Nat → ClassId) (a0 : Nat) (p1 : Int32) (σ : Sto) (Q : Int32 → Sto → Prop) (h : wp_X7_readByte a0 p1 σ Q) : Mt l D cy yX7_readByte cX7_readByte 3 (some .int) rm_X7_readByte [.ref a0, .int p1] σ (PsI Q) := by
  unfold wp_X7_readByte at h
  refine mt_of (by decide +kernel) (Nat.le_of_ble_eq_true rfl) ?_
  intro p e s m args below meth c A ls C hr hnm hl
  have C : Cx p s m args meth c D cy A cX7_readByte 3 RX7 := C
  have hl : lv_has ls 3 [(0, .ref a0), (1, .int p1)] := hl
  refine x_aload_n C dX7_readByte_0 rfl (lv_at hl 0 rfl) ?_
  obtain ⟨g1, h⟩ := h
  refine x_callV (rm := rm_X7_nextByte) (rest := []) (As := []) C cy_RX7_78 g1 (by decide) (by decide) rfl rfl (Nat.le_of_ble_eq_true rfl) hl.1 dX7_readByte_1 (c_X7_nextByte l D cy a0  σ _ h) (ks_i (fun x3 σ2 h => ?_))
  refine x_istore_n (i := 2) (lv' := [(2, .int x3), (0, .ref a0), (1, .int p1)]) C dX7_readByte_4 rfl hl (by decide) (by first | rfl | simp [vrc, cat_i, cat_r, cat_l]) (fun ls hl => ?_)
  refine x_iload_n C dX7_readByte_5 rfl (lv_at hl 0 rfl) ?_
  refine x_iload_n C dX7_readByte_6 rfl (lv_at hl 2 rfl) ?_
  refine x_icmp_le (tgt := 21) C dX7_readByte_7 (by decide) (fun c4 => ?_) (fun c4 => ?_)
  · have h := h.1 c4
    exact t_X7_readByte_21 C hr hnm  x3 _ h ls (lv_sub hl [1, 0] rfl)
  · have h := h.2 c4
    refine x_aload_n C dX7_readByte_10 rfl (lv_at hl 1 rfl) ?_
    refine x_iconst (v := 2) C dX7_readByte_11 (by decide) ?_
    refine x_aload_n C dX7_readByte_12 rfl (lv_at hl 1 rfl) ?_
    obtain ⟨g5, h⟩ := h
    refine x_getI C fl_RX7_29 g5 dX7_readByte_13 ?_
    refine x_topi (fun x6 e7 => ?_)
    have h := h x6 e7
    refine x_iconst (v := 1) C dX7_readByte_16 (by decide) ?_
    refine x_isub C dX7_readByte_17 ?_
    refine x_callV (rm := rm_X7_spoil) (rest := []) (As := [.int (2 : Int32), .int (x6 - (1 : Int32))]) C cy_RX7_54 g5 (by decide) (by decide) rfl rfl (Nat.le_of_ble_eq_true rfl) hl.1 dX7_readByte_18 (c_X7_spoil l D cy a0 (2 : Int32) (x6 - (1 : Int32)) σ2 _ h) (ks_v (fun σ8 h => ?_))
    exact t_X7_readByte_21 C hr hnm  x3 _ h ls (lv_sub hl [1, 0] rfl)
theorem dX7_readSender_0 : decode cX7_readSender 0 = .ok (.aload_n 0, 1) := by decide +kernel
theorem dX7_readSender_1 : decode cX7_readSender 1 = .ok (.sipush 255, 3) := by decide +kernel
theorem dX7_readSender_4 : decode cX7_readSender 4 = .ok (.invokevirtual 32, 3) := by decide +kernel
theorem dX7_readSender_7 : decode cX7_readSender 7 = .ok (.istore_n 1, 1) := by decide +kernel
theorem dX7_readSender_8 : decode cX7_readSender 8 = .ok (.iload_n 1, 1) := by decide +kernel
theorem dX7_readSender_9 : decode cX7_readSender 9 = .ok (.bipush 6, 2) := by decide +kernel
theorem dX7_readSender_11 : decode cX7_readSender 11 = .ok (.if_icmp .le 21, 3) := by decide +kernel
theorem dX7_readSender_14 : decode cX7_readSender 14 = .ok (.iload_n 1, 1) := by decide +kernel
theorem dX7_readSender_15 : decode cX7_readSender 15 = .ok (.sipush 255, 3) := by decide +kernel
theorem dX7_readSender_18 : decode cX7_readSender 18 = .ok (.if_icmp .eq 14, 3) := by decide +kernel
theorem dX7_readSender_21 : decode cX7_readSender 21 = .ok (.aload_n 0, 1) := by decide +kernel
theorem dX7_readSender_22 : decode cX7_readSender 22 = .ok (.iconst 2, 1) := by decide +kernel
theorem dX7_readSender_23 : decode cX7_readSender 23 = .ok (.aload_n 0, 1) := by decide +kernel
theorem dX7_readSender_24 : decode cX7_readSender 24 = .ok (.getfield 29, 3) := by decide +kernel
theorem dX7_readSender_27 : decode cX7_readSender 27 = .ok (.iconst 1, 1) := by decide +kernel
theorem dX7_readSender_28 : decode cX7_readSender 28 = .ok (.isub, 1) := by decide +kernel
theorem dX7_readSender_29 : decode cX7_readSender 29 = .ok (.invokevirtual 54, 3) := by decide +kernel
theorem dX7_readSender_32 : decode cX7_readSender 32 = .ok (.return_, 1) := by decide +kernel
abbrev rm_X7_readSender : Room := { frames := 3, cells := 0, slots := 0, locals := 65 }
def wp_X7_readSender (a0 : Nat)  (σ : Sto) (Q : Sto → Prop) : Prop := (sK σ a0 = 7 ∧ (wp_X7_readByte a0 (255 : Int32) σ (fun (x3 : Int32) (σ2 : Sto) => ((x3 ≤ (6 : Int32) → Q σ2) ∧ (¬ x3 ≤ (6 : Int32) → ((x3 = (255 : Int32) → Q σ2) ∧ (¬ x3 = (255 : Int32) → (sK σ2 a0 = 7 ∧ (∀ x7 : Int32, x7 = sI σ2 a0 5 → (wp_X7_spoil a0 (2 : Int32) (x7 - (1 : Int32)) σ2 (fun (σ9 : Sto) => Q σ9)))))))))))
set_option maxHeartbeats 4000000 in
set_option maxRecDepth 100000 in
theorem c_X7_readSender (l : Launch) (D : va_G) (cy : Nat → ClassId) (a0 : Nat)  (σ : Sto) (Q : Sto → Prop) (h : wp_X7_readSender a0  σ Q) : Mt l D cy yX7_readSender cX7_readSender 2 none rm_X7_readSender [.ref a0] σ (PsV Q) := by
  unfold wp_X7_readSender at h
  refine mt_of (by decide +kernel) (Nat.le_of_ble_eq_true rfl) ?_
  intro p e s m args below meth c A ls C hr hnm hl
  have C : Cx p s m args meth c D cy A cX7_readSender 2 RX7 := C
  have hl : lv_has ls 2 [(0, .ref a0)] := hl
  refine x_aload_n C dX7_readSender_0 rfl (lv_at hl 0 rfl) ?_
  refine x_sipush (v := 255) C dX7_readSender_1 (by decide) ?_
  obtain ⟨g1, h⟩ := h
  refine x_callV (rm := rm_X7_readByte) (rest := []) (As := [.int (255 : Int32)]) C cy_RX7_32 g1 (by decide) (by decide) rfl rfl (Nat.le_of_ble_eq_true rfl) hl.1 dX7_readSender_4 (c_X7_readByte l D cy a0 (255 : Int32) σ _ h) (ks_i (fun x3 σ2 h => ?_))
  refine x_istore_n (i := 1) (lv' := [(1, .int x3), (0, .ref a0)]) C dX7_readSender_7 rfl hl (by decide) (by first | rfl | simp [vrc, cat_i, cat_r, cat_l]) (fun ls hl => ?_)
  refine x_iload_n C dX7_readSender_8 rfl (lv_at hl 0 rfl) ?_
  refine x_bipush (v := 6) C dX7_readSender_9 (by decide) ?_
  refine x_icmp_le (tgt := 32) C dX7_readSender_11 (by decide) (fun c4 => ?_) (fun c4 => ?_)
  · have h := h.1 c4
    exact x_vret C hr dX7_readSender_32 ⟨rfl, h⟩
  · have h := h.2 c4
    refine x_iload_n C dX7_readSender_14 rfl (lv_at hl 0 rfl) ?_
    refine x_sipush (v := 255) C dX7_readSender_15 (by decide) ?_
    refine x_icmp_eq (tgt := 32) C dX7_readSender_18 (by decide) (fun c5 => ?_) (fun c5 => ?_)
    · have h := h.1 c5
      exact x_vret C hr dX7_readSender_32 ⟨rfl, h⟩
    · have h := h.2 c5
      refine x_aload_n C dX7_readSender_21 rfl (lv_at hl 1 rfl) ?_
      refine x_iconst (v := 2) C dX7_readSender_22 (by decide) ?_
      refine x_aload_n C dX7_readSender_23 rfl (lv_at hl 1 rfl) ?_
      obtain ⟨g6, h⟩ := h
      refine x_getI C fl_RX7_29 g6 dX7_readSender_24 ?_
      refine x_topi (fun x7 e8 => ?_)
      have h := h x7 e8
      refine x_iconst (v := 1) C dX7_readSender_27 (by decide) ?_
      refine x_isub C dX7_readSender_28 ?_
      refine x_callV (rm := rm_X7_spoil) (rest := []) (As := [.int (2 : Int32), .int (x7 - (1 : Int32))]) C cy_RX7_54 g6 (by decide) (by decide) rfl rfl (Nat.le_of_ble_eq_true rfl) hl.1 dX7_readSender_29 (c_X7_spoil l D cy a0 (2 : Int32) (x7 - (1 : Int32)) σ2 _ h) (ks_v (fun σ9 h => ?_))
      exact x_vret C hr dX7_readSender_32 ⟨rfl, h⟩
theorem dX7_readReceiver_0 : decode cX7_readReceiver 0 = .ok (.aload_n 0, 1) := by decide +kernel
theorem dX7_readReceiver_1 : decode cX7_readReceiver 1 = .ok (.sipush 255, 3) := by decide +kernel
theorem dX7_readReceiver_4 : decode cX7_readReceiver 4 = .ok (.invokevirtual 32, 3) := by decide +kernel
theorem dX7_readReceiver_7 : decode cX7_readReceiver 7 = .ok (.istore_n 1, 1) := by decide +kernel
theorem dX7_readReceiver_8 : decode cX7_readReceiver 8 = .ok (.iload_n 1, 1) := by decide +kernel
theorem dX7_readReceiver_9 : decode cX7_readReceiver 9 = .ok (.bipush 16, 2) := by decide +kernel
theorem dX7_readReceiver_11 : decode cX7_readReceiver 11 = .ok (.if_icmp .lt 13, 3) := by decide +kernel
theorem dX7_readReceiver_14 : decode cX7_readReceiver 14 = .ok (.iload_n 1, 1) := by decide +kernel
theorem dX7_readReceiver_15 : decode cX7_readReceiver 15 = .ok (.bipush 20, 2) := by decide +kernel
theorem dX7_readReceiver_17 : decode cX7_readReceiver 17 = .ok (.if_icmp .ge 7, 3) := by decide +kernel
theorem dX7_readReceiver_20 : decode cX7_readReceiver 20 = .ok (.iconst 1, 1) := by decide +kernel
theorem dX7_readReceiver_21 : decode cX7_readReceiver 21 = .ok (.goto 4, 3) := by decide +kernel
theorem dX7_readReceiver_24 : decode cX7_readReceiver 24 = .ok (.iconst 0, 1) := by decide +kernel
theorem dX7_readReceiver_25 : decode cX7_readReceiver 25 = .ok (.istore_n 2, 1) := by decide +kernel
theorem dX7_readReceiver_26 : decode cX7_readReceiver 26 = .ok (.iload_n 1, 1) := by decide +kernel
theorem dX7_readReceiver_27 : decode cX7_readReceiver 27 = .ok (.bipush 6, 2) := by decide +kernel
theorem dX7_readReceiver_29 : decode cX7_readReceiver 29 = .ok (.if_icmp .le 18, 3) := by decide +kernel
theorem dX7_readReceiver_32 : decode cX7_readReceiver 32 = .ok (.iload_n 2, 1) := by decide +kernel
theorem dX7_readReceiver_33 : decode cX7_readReceiver 33 = .ok (.ifCond .ne 14, 3) := by decide +kernel
theorem dX7_readReceiver_36 : decode cX7_readReceiver 36 = .ok (.aload_n 0, 1) := by decide +kernel
theorem dX7_readReceiver_37 : decode cX7_readReceiver 37 = .ok (.iconst 2, 1) := by decide +kernel
theorem dX7_readReceiver_38 : decode cX7_readReceiver 38 = .ok (.aload_n 0, 1) := by decide +kernel
theorem dX7_readReceiver_39 : decode cX7_readReceiver 39 = .ok (.getfield 29, 3) := by decide +kernel
theorem dX7_readReceiver_42 : decode cX7_readReceiver 42 = .ok (.iconst 1, 1) := by decide +kernel
theorem dX7_readReceiver_43 : decode cX7_readReceiver 43 = .ok (.isub, 1) := by decide +kernel
theorem dX7_readReceiver_44 : decode cX7_readReceiver 44 = .ok (.invokevirtual 54, 3) := by decide +kernel
theorem dX7_readReceiver_47 : decode cX7_readReceiver 47 = .ok (.return_, 1) := by decide +kernel
abbrev rm_X7_readReceiver : Room := { frames := 3, cells := 0, slots := 0, locals := 65 }
def b_X7_readReceiver_25 (a0 : Nat)  (Q : Sto → Prop) (p1 : Int32) (s0 : Int32) (σ : Sto) : Prop := ((p1 ≤ (6 : Int32) → Q σ) ∧ (¬ p1 ≤ (6 : Int32) → ((¬ s0 = 0 → Q σ) ∧ (s0 = 0 → (sK σ a0 = 7 ∧ (∀ x4 : Int32, x4 = sI σ a0 5 → (wp_X7_spoil a0 (2 : Int32) (x4 - (1 : Int32)) σ (fun (σ6 : Sto) => Q σ6))))))))
set_option maxHeartbeats 4000000 in
set_option maxRecDepth 100000 in
theorem t_X7_readReceiver_25 {p : Program} {l : Launch} {e : Env} {s : State} {m : MethodId} {args : Array Value} {below : List Frame} {meth : Method} {c : Code} {D : va_G} {cy : Nat → ClassId} {A : Nat → Prop} {a0 : Nat} {Q : Sto → Prop} (C : Cx p s m args meth c D cy A cX7_readReceiver 3 RX7) (hr : meth.sig.returnType = none) (hnm : meth.name = yX7_readReceiver.name) (p1 : Int32) (s0 : Int32) (σ : Sto) (h : b_X7_readReceiver_25 a0  Q p1 s0 σ) (ls : Array Slot) (hl : lv_has ls 3 [(0, .ref a0), (1, .int p1)]) : Xw p l e rm_X7_readReceiver s m args below meth c D cy A σ 0 0 (MQ below (Qst D cy A (PsV Q)) args s rm_X7_readReceiver.cells rm_X7_readReceiver.slots A) (F0 m 25 ls [.int s0]) := by
  unfold b_X7_readReceiver_25 at h
  refine x_istore_n (i := 2) (lv' := [(2, .int s0), (0, .ref a0), (1, .int p1)]) C dX7_readReceiver_25 rfl hl (by decide) (by first | rfl | simp [vrc, cat_i, cat_r, cat_l]) (fun ls hl => ?_)
  refine x_iload_n C dX7_readReceiver_26 rfl (lv_at hl 2 rfl) ?_
  refine x_bipush (v := 6) C dX7_readReceiver_27 (by decide) ?_
  refine x_icmp_le (tgt := 47) C dX7_readReceiver_29 (by decide) (fun c1 => ?_) (fun c1 => ?_)
  · have h := h.1 c1
    exact x_vret C hr dX7_readReceiver_47 ⟨rfl, h⟩
  · have h := h.2 c1
    refine x_iload_n C dX7_readReceiver_32 rfl (lv_at hl 0 rfl) ?_
    refine x_if_ne (tgt := 47) C dX7_readReceiver_33 (by decide) (fun c2 => ?_) (fun c2 => ?_)
    · have h := h.1 c2
      exact x_vret C hr dX7_readReceiver_47 ⟨rfl, h⟩
    · have h := h.2 c2
      refine x_aload_n C dX7_readReceiver_36 rfl (lv_at hl 1 rfl) ?_
      refine x_iconst (v := 2) C dX7_readReceiver_37 (by decide) ?_
      refine x_aload_n C dX7_readReceiver_38 rfl (lv_at hl 1 rfl) ?_
      obtain ⟨g3, h⟩ := h
      refine x_getI C fl_RX7_29 g3 dX7_readReceiver_39 ?_
      refine x_topi (fun x4 e5 => ?_)
      have h := h x4 e5
      refine x_iconst (v := 1) C dX7_readReceiver_42 (by decide) ?_
      refine x_isub C dX7_readReceiver_43 ?_
      refine x_callV (rm := rm_X7_spoil) (rest := []) (As := [.int (2 : Int32), .int (x4 - (1 : Int32))]) C cy_RX7_54 g3 (by decide) (by decide) rfl rfl (Nat.le_of_ble_eq_true rfl) hl.1 dX7_readReceiver_44 (c_X7_spoil l D cy a0 (2 : Int32) (x4 - (1 : Int32)) σ _ h) (ks_v (fun σ6 h => ?_))
      exact x_vret C hr dX7_readReceiver_47 ⟨rfl, h⟩
def b_X7_readReceiver_24 (a0 : Nat)  (Q : Sto → Prop) (p1 : Int32) (σ : Sto) : Prop := b_X7_readReceiver_25 a0  Q p1 (0 : Int32) σ
set_option maxHeartbeats 4000000 in
set_option maxRecDepth 100000 in
theorem t_X7_readReceiver_24 {p : Program} {l : Launch} {e : Env} {s : State} {m : MethodId} {args : Array Value} {below : List Frame} {meth : Method} {c : Code} {D : va_G} {cy : Nat → ClassId} {A : Nat → Prop} {a0 : Nat} {Q : Sto → Prop} (C : Cx p s m args meth c D cy A cX7_readReceiver 3 RX7) (hr : meth.sig.returnType = none) (hnm : meth.name = yX7_readReceiver.name) (p1 : Int32) (σ : Sto) (h : b_X7_readReceiver_24 a0  Q p1 σ) (ls : Array Slot) (hl : lv_has ls 3 [(0, .ref a0), (1, .int p1)]) : Xw p l e rm_X7_readReceiver s m args below meth c D cy A σ 0 0 (MQ below (Qst D cy A (PsV Q)) args s rm_X7_readReceiver.cells rm_X7_readReceiver.slots A) (F0 m 24 ls []) := by
  unfold b_X7_readReceiver_24 at h
  refine x_iconst (v := 0) C dX7_readReceiver_24 (by decide) ?_
  exact t_X7_readReceiver_25 C hr hnm  p1 (0 : Int32) _ h ls (lv_sub hl [0, 1] rfl)
def wp_X7_readReceiver (a0 : Nat)  (σ : Sto) (Q : Sto → Prop) : Prop := (sK σ a0 = 7 ∧ (wp_X7_readByte a0 (255 : Int32) σ (fun (x3 : Int32) (σ2 : Sto) => ((x3 < (16 : Int32) → b_X7_readReceiver_24 a0  Q x3 σ2) ∧ (¬ x3 < (16 : Int32) → (((20 : Int32) ≤ x3 → b_X7_readReceiver_24 a0  Q x3 σ2) ∧ (¬ (20 : Int32) ≤ x3 → b_X7_readReceiver_25 a0  Q x3 (1 : Int32) σ2)))))))
set_option maxHeartbeats 4000000 in
set_option maxRecDepth 100000 in
theorem c_X7_readReceiver (l : Launch) (D : va_G) (cy : Nat → ClassId) (a0 : Nat)  (σ : Sto) (Q : Sto → Prop) (h : wp_X7_readReceiver a0  σ Q) : Mt l D cy yX7_readReceiver cX7_readReceiver 3 none rm_X7_readReceiver [.ref a0] σ (PsV Q) := by
  unfold wp_X7_readReceiver at h
  refine mt_of (by decide +kernel) (Nat.le_of_ble_eq_true rfl) ?_
  intro p e s m args below meth c A ls C hr hnm hl
  have C : Cx p s m args meth c D cy A cX7_readReceiver 3 RX7 := C
  have hl : lv_has ls 3 [(0, .ref a0)] := hl
  refine x_aload_n C dX7_readReceiver_0 rfl (lv_at hl 0 rfl) ?_
  refine x_sipush (v := 255) C dX7_readReceiver_1 (by decide) ?_
  obtain ⟨g1, h⟩ := h
  refine x_callV (rm := rm_X7_readByte) (rest := []) (As := [.int (255 : Int32)]) C cy_RX7_32 g1 (by decide) (by decide) rfl rfl (Nat.le_of_ble_eq_true rfl) hl.1 dX7_readReceiver_4 (c_X7_readByte l D cy a0 (255 : Int32) σ _ h) (ks_i (fun x3 σ2 h => ?_))
  refine x_istore_n (i := 1) (lv' := [(1, .int x3), (0, .ref a0)]) C dX7_readReceiver_7 rfl hl (by decide) (by first | rfl | simp [vrc, cat_i, cat_r, cat_l]) (fun ls hl => ?_)
  refine x_iload_n C dX7_readReceiver_8 rfl (lv_at hl 0 rfl) ?_
  refine x_bipush (v := 16) C dX7_readReceiver_9 (by decide) ?_
  refine x_icmp_lt (tgt := 24) C dX7_readReceiver_11 (by decide) (fun c4 => ?_) (fun c4 => ?_)
  · have h := h.1 c4
    exact t_X7_readReceiver_24 C hr hnm  x3 _ h ls (lv_sub hl [1, 0] rfl)
  · have h := h.2 c4
    refine x_iload_n C dX7_readReceiver_14 rfl (lv_at hl 0 rfl) ?_
    refine x_bipush (v := 20) C dX7_readReceiver_15 (by decide) ?_
    refine x_icmp_ge (tgt := 24) C dX7_readReceiver_17 (by decide) (fun c5 => ?_) (fun c5 => ?_)
    · have h := h.1 c5
      exact t_X7_readReceiver_24 C hr hnm  x3 _ h ls (lv_sub hl [1, 0] rfl)
    · have h := h.2 c5
      refine x_iconst (v := 1) C dX7_readReceiver_20 (by decide) ?_
      refine x_goto (tgt := 25) C dX7_readReceiver_21 (by decide) ?_
      exact t_X7_readReceiver_25 C hr hnm  x3 (1 : Int32) _ h ls (lv_sub hl [1, 0] rfl)
theorem dX7_readNumber_0 : decode cX7_readNumber 0 = .ok (.aload_n 0, 1) := by decide +kernel
theorem dX7_readNumber_1 : decode cX7_readNumber 1 = .ok (.getfield 29, 3) := by decide +kernel
theorem dX7_readNumber_4 : decode cX7_readNumber 4 = .ok (.istore_n 1, 1) := by decide +kernel
theorem dX7_readNumber_5 : decode cX7_readNumber 5 = .ok (.iconst 0, 1) := by decide +kernel
theorem dX7_readNumber_6 : decode cX7_readNumber 6 = .ok (.istore_n 2, 1) := by decide +kernel
theorem dX7_readNumber_7 : decode cX7_readNumber 7 = .ok (.sipush 128, 3) := by decide +kernel
theorem dX7_readNumber_10 : decode cX7_readNumber 10 = .ok (.istore_n 3, 1) := by decide +kernel
theorem dX7_readNumber_11 : decode cX7_readNumber 11 = .ok (.lconst 0, 1) := by decide +kernel
theorem dX7_readNumber_12 : decode cX7_readNumber 12 = .ok (.lstore 4, 2) := by decide +kernel
theorem dX7_readNumber_14 : decode cX7_readNumber 14 = .ok (.iload_n 2, 1) := by decide +kernel
theorem dX7_readNumber_15 : decode cX7_readNumber 15 = .ok (.iconst 5, 1) := by decide +kernel
theorem dX7_readNumber_16 : decode cX7_readNumber 16 = .ok (.if_icmp .ge 36, 3) := by decide +kernel
theorem dX7_readNumber_19 : decode cX7_readNumber 19 = .ok (.iload_n 3, 1) := by decide +kernel
theorem dX7_readNumber_20 : decode cX7_readNumber 20 = .ok (.sipush 128, 3) := by decide +kernel
theorem dX7_readNumber_23 : decode cX7_readNumber 23 = .ok (.if_icmp .lt 29, 3) := by decide +kernel
theorem dX7_readNumber_26 : decode cX7_readNumber 26 = .ok (.aload_n 0, 1) := by decide +kernel
theorem dX7_readNumber_27 : decode cX7_readNumber 27 = .ok (.invokevirtual 78, 3) := by decide +kernel
theorem dX7_readNumber_30 : decode cX7_readNumber 30 = .ok (.istore_n 3, 1) := by decide +kernel
theorem dX7_readNumber_31 : decode cX7_readNumber 31 = .ok (.lload 4, 2) := by decide +kernel
theorem dX7_readNumber_33 : decode cX7_readNumber 33 = .ok (.iload_n 3, 1) := by decide +kernel
theorem dX7_readNumber_34 : decode cX7_readNumber 34 = .ok (.bipush 127, 2) := by decide +kernel
theorem dX7_readNumber_36 : decode cX7_readNumber 36 = .ok (.iand, 1) := by decide +kernel
theorem dX7_readNumber_37 : decode cX7_readNumber 37 = .ok (.i2l, 1) := by decide +kernel
theorem dX7_readNumber_38 : decode cX7_readNumber 38 = .ok (.bipush 7, 2) := by decide +kernel
theorem dX7_readNumber_40 : decode cX7_readNumber 40 = .ok (.iload_n 2, 1) := by decide +kernel
theorem dX7_readNumber_41 : decode cX7_readNumber 41 = .ok (.imul, 1) := by decide +kernel
theorem dX7_readNumber_42 : decode cX7_readNumber 42 = .ok (.lshl, 1) := by decide +kernel
theorem dX7_readNumber_43 : decode cX7_readNumber 43 = .ok (.lor, 1) := by decide +kernel
theorem dX7_readNumber_44 : decode cX7_readNumber 44 = .ok (.lstore 4, 2) := by decide +kernel
theorem dX7_readNumber_46 : decode cX7_readNumber 46 = .ok (.iinc 2 1, 3) := by decide +kernel
theorem dX7_readNumber_49 : decode cX7_readNumber 49 = .ok (.goto (-35), 3) := by decide +kernel
theorem dX7_readNumber_52 : decode cX7_readNumber 52 = .ok (.iload_n 3, 1) := by decide +kernel
theorem dX7_readNumber_53 : decode cX7_readNumber 53 = .ok (.sipush 128, 3) := by decide +kernel
theorem dX7_readNumber_56 : decode cX7_readNumber 56 = .ok (.if_icmp .ge 21, 3) := by decide +kernel
theorem dX7_readNumber_59 : decode cX7_readNumber 59 = .ok (.lload 4, 2) := by decide +kernel
theorem dX7_readNumber_61 : decode cX7_readNumber 61 = .ok (.ldc2_w 81, 3) := by decide +kernel
theorem dX7_readNumber_64 : decode cX7_readNumber 64 = .ok (.lcmp, 1) := by decide +kernel
theorem dX7_readNumber_65 : decode cX7_readNumber 65 = .ok (.ifCond .gt 12, 3) := by decide +kernel
theorem dX7_readNumber_68 : decode cX7_readNumber 68 = .ok (.iload_n 2, 1) := by decide +kernel
theorem dX7_readNumber_69 : decode cX7_readNumber 69 = .ok (.iconst 1, 1) := by decide +kernel
theorem dX7_readNumber_70 : decode cX7_readNumber 70 = .ok (.if_icmp .le 13, 3) := by decide +kernel
theorem dX7_readNumber_73 : decode cX7_readNumber 73 = .ok (.iload_n 3, 1) := by decide +kernel
theorem dX7_readNumber_74 : decode cX7_readNumber 74 = .ok (.ifCond .ne 9, 3) := by decide +kernel
theorem dX7_readNumber_77 : decode cX7_readNumber 77 = .ok (.aload_n 0, 1) := by decide +kernel
theorem dX7_readNumber_78 : decode cX7_readNumber 78 = .ok (.iconst 3, 1) := by decide +kernel
theorem dX7_readNumber_79 : decode cX7_readNumber 79 = .ok (.iload_n 1, 1) := by decide +kernel
theorem dX7_readNumber_80 : decode cX7_readNumber 80 = .ok (.invokevirtual 54, 3) := by decide +kernel
theorem dX7_readNumber_83 : decode cX7_readNumber 83 = .ok (.aload_n 0, 1) := by decide +kernel
theorem dX7_readNumber_84 : decode cX7_readNumber 84 = .ok (.lload 4, 2) := by decide +kernel
theorem dX7_readNumber_86 : decode cX7_readNumber 86 = .ok (.l2i, 1) := by decide +kernel
theorem dX7_readNumber_87 : decode cX7_readNumber 87 = .ok (.invokevirtual 68, 3) := by decide +kernel
theorem dX7_readNumber_90 : decode cX7_readNumber 90 = .ok (.lload 4, 2) := by decide +kernel
theorem dX7_readNumber_92 : decode cX7_readNumber 92 = .ok (.l2i, 1) := by decide +kernel
theorem dX7_readNumber_93 : decode cX7_readNumber 93 = .ok (.ireturn, 1) := by decide +kernel
abbrev rm_X7_readNumber : Room := { frames := 2, cells := 0, slots := 0, locals := 43 }
def b_X7_readNumber_83 (a0 : Nat)  (Q : Int32 → Sto → Prop) (p4 : Int64) (σ : Sto) : Prop := (sK σ a0 = 7 ∧ (wp_X7_tell a0 p4.toInt32 σ (fun (σ2 : Sto) => Q p4.toInt32 σ2)))
set_option maxHeartbeats 4000000 in
set_option maxRecDepth 100000 in
theorem t_X7_readNumber_83 {p : Program} {l : Launch} {e : Env} {s : State} {m : MethodId} {args : Array Value} {below : List Frame} {meth : Method} {c : Code} {D : va_G} {cy : Nat → ClassId} {A : Nat → Prop} {a0 : Nat} {Q : Int32 → Sto → Prop} (C : Cx p s m args meth c D cy A cX7_readNumber 6 RX7) (hr : meth.sig.returnType = (some .int)) (hnm : meth.name = yX7_readNumber.name) (p4 : Int64) (σ : Sto) (h : b_X7_readNumber_83 a0  Q p4 σ) (ls : Array Slot) (hl : lv_has ls 6 [(0, .ref a0), (4, .long p4)]) : Xw p l e rm_X7_readNumber s m args below meth c D cy A σ 0 0 (MQ below (Qst D cy A (PsI Q)) args s rm_X7_readNumber.cells rm_X7_readNumber.slots A) (F0 m 83 ls []) := by
  unfold b_X7_readNumber_83 at h
  refine x_aload_n C dX7_readNumber_83 rfl (lv_at hl 0 rfl) ?_
  refine x_lload C dX7_readNumber_84 (lv_at hl 1 rfl) ?_
  refine x_l2i C dX7_readNumber_86 ?_
  obtain ⟨g1, h⟩ := h
  refine x_callV (rm := rm_X7_tell) (rest := []) (As := [.int p4.toInt32]) C cy_RX7_68 g1 (by decide) (by decide) rfl rfl (Nat.le_of_ble_eq_true rfl) hl.1 dX7_readNumber_87 (c_X7_tell l D cy a0 p4.toInt32 σ _ h) (ks_v (fun σ2 h => ?_))
  refine x_lload C dX7_readNumber_90 (lv_at hl 1 rfl) ?_
  refine x_l2i C dX7_readNumber_92 ?_
  exact x_iret C hr dX7_readNumber_93 ⟨_, rfl, h⟩
def b_X7_readNumber_77 (a0 : Nat)  (Q : Int32 → Sto → Prop) (p1 : Int32) (p4 : Int64) (σ : Sto) : Prop := (sK σ a0 = 7 ∧ (wp_X7_spoil a0 (3 : Int32) p1 σ (fun (σ2 : Sto) => b_X7_readNumber_83 a0  Q p4 σ2)))
set_option maxHeartbeats 4000000 in
set_option maxRecDepth 100000 in
theorem t_X7_readNumber_77 {p : Program} {l : Launch} {e : Env} {s : State} {m : MethodId} {args : Array Value} {below : List Frame} {meth : Method} {c : Code} {D : va_G} {cy : Nat → ClassId} {A : Nat → Prop} {a0 : Nat} {Q : Int32 → Sto → Prop} (C : Cx p s m args meth c D cy A cX7_readNumber 6 RX7) (hr : meth.sig.returnType = (some .int)) (hnm : meth.name = yX7_readNumber.name) (p1 : Int32) (p4 : Int64) (σ : Sto) (h : b_X7_readNumber_77 a0  Q p1 p4 σ) (ls : Array Slot) (hl : lv_has ls 6 [(0, .ref a0), (1, .int p1), (4, .long p4)]) : Xw p l e rm_X7_readNumber s m args below meth c D cy A σ 0 0 (MQ below (Qst D cy A (PsI Q)) args s rm_X7_readNumber.cells rm_X7_readNumber.slots A) (F0 m 77 ls []) := by
  unfold b_X7_readNumber_77 at h
  refine x_aload_n C dX7_readNumber_77 rfl (lv_at hl 0 rfl) ?_
  refine x_iconst (v := 3) C dX7_readNumber_78 (by decide) ?_
  refine x_iload_n C dX7_readNumber_79 rfl (lv_at hl 1 rfl) ?_
  obtain ⟨g1, h⟩ := h
  refine x_callV (rm := rm_X7_spoil) (rest := []) (As := [.int (3 : Int32), .int p1]) C cy_RX7_54 g1 (by decide) (by decide) rfl rfl (Nat.le_of_ble_eq_true rfl) hl.1 dX7_readNumber_80 (c_X7_spoil l D cy a0 (3 : Int32) p1 σ _ h) (ks_v (fun σ2 h => ?_))
  exact t_X7_readNumber_83 C hr hnm  p4 _ h ls (lv_sub hl [0, 2] rfl)
def b_X7_readNumber_52 (a0 : Nat)  (Q : Int32 → Sto → Prop) (p1 : Int32) (p2 : Int32) (p3 : Int32) (p4 : Int64) (σ : Sto) : Prop := (((128 : Int32) ≤ p3 → b_X7_readNumber_77 a0  Q p1 p4 σ) ∧ (¬ (128 : Int32) ≤ p3 → ((0 < (lg_cmp p4 (2147483647 : Int64)) → b_X7_readNumber_77 a0  Q p1 p4 σ) ∧ (¬ 0 < (lg_cmp p4 (2147483647 : Int64)) → ((p2 ≤ (1 : Int32) → b_X7_readNumber_83 a0  Q p4 σ) ∧ (¬ p2 ≤ (1 : Int32) → ((¬ p3 = 0 → b_X7_readNumber_83 a0  Q p4 σ) ∧ (p3 = 0 → b_X7_readNumber_77 a0  Q p1 p4 σ))))))))
set_option maxHeartbeats 4000000 in
set_option maxRecDepth 100000 in
theorem t_X7_readNumber_52 {p : Program} {l : Launch} {e : Env} {s : State} {m : MethodId} {args : Array Value} {below : List Frame} {meth : Method} {c : Code} {D : va_G} {cy : Nat → ClassId} {A : Nat → Prop} {a0 : Nat} {Q : Int32 → Sto → Prop} (C : Cx p s m args meth c D cy A cX7_readNumber 6 RX7) (hr : meth.sig.returnType = (some .int)) (hnm : meth.name = yX7_readNumber.name) (p1 : Int32) (p2 : Int32) (p3 : Int32) (p4 : Int64) (σ : Sto) (h : b_X7_readNumber_52 a0  Q p1 p2 p3 p4 σ) (ls : Array Slot) (hl : lv_has ls 6 [(0, .ref a0), (1, .int p1), (2, .int p2), (3, .int p3), (4, .long p4)]) : Xw p l e rm_X7_readNumber s m args below meth c D cy A σ 0 0 (MQ below (Qst D cy A (PsI Q)) args s rm_X7_readNumber.cells rm_X7_readNumber.slots A) (F0 m 52 ls []) := by
  unfold b_X7_readNumber_52 at h
  refine x_iload_n C dX7_readNumber_52 rfl (lv_at hl 3 rfl) ?_
  refine x_sipush (v := 128) C dX7_readNumber_53 (by decide) ?_
  refine x_icmp_ge (tgt := 77) C dX7_readNumber_56 (by decide) (fun c1 => ?_) (fun c1 => ?_)
  · have h := h.1 c1
    exact t_X7_readNumber_77 C hr hnm  p1 p4 _ h ls (lv_sub hl [0, 1, 4] rfl)
  · have h := h.2 c1
    refine x_lload C dX7_readNumber_59 (lv_at hl 4 rfl) ?_
    refine x_ldc2 C kk_RX7_81 dX7_readNumber_61 ?_
    refine x_lcmp C dX7_readNumber_64 ?_
    refine x_if_gt (tgt := 77) C dX7_readNumber_65 (by decide) (fun c2 => ?_) (fun c2 => ?_)
    · have h := h.1 c2
      exact t_X7_readNumber_77 C hr hnm  p1 p4 _ h ls (lv_sub hl [0, 1, 4] rfl)
    · have h := h.2 c2
      refine x_iload_n C dX7_readNumber_68 rfl (lv_at hl 2 rfl) ?_
      refine x_iconst (v := 1) C dX7_readNumber_69 (by decide) ?_
      refine x_icmp_le (tgt := 83) C dX7_readNumber_70 (by decide) (fun c3 => ?_) (fun c3 => ?_)
      · have h := h.1 c3
        exact t_X7_readNumber_83 C hr hnm  p4 _ h ls (lv_sub hl [0, 4] rfl)
      · have h := h.2 c3
        refine x_iload_n C dX7_readNumber_73 rfl (lv_at hl 3 rfl) ?_
        refine x_if_ne (tgt := 83) C dX7_readNumber_74 (by decide) (fun c4 => ?_) (fun c4 => ?_)
        · have h := h.1 c4
          exact t_X7_readNumber_83 C hr hnm  p4 _ h ls (lv_sub hl [0, 4] rfl)
        · have h := h.2 c4
          exact t_X7_readNumber_77 C hr hnm  p1 p4 _ h ls (lv_sub hl [0, 1, 4] rfl)
def f_X7_readNumber_14 (a0 : Nat)  (Q : Int32 → Sto → Prop) (L14 : Int32 × Int32 × Int32 × Int64 → Sto → Prop) (t : Int32 × Int32 × Int32 × Int64) (σ : Sto) : Prop := (((5 : Int32) ≤ t.2.1 → b_X7_readNumber_52 a0  Q t.1 t.2.1 t.2.2.1 t.2.2.2 σ) ∧ (¬ (5 : Int32) ≤ t.2.1 → ((t.2.2.1 < (128 : Int32) → b_X7_readNumber_52 a0  Q t.1 t.2.1 t.2.2.1 t.2.2.2 σ) ∧ (¬ t.2.2.1 < (128 : Int32) → (sK σ a0 = 7 ∧ (wp_X7_nextByte a0  σ (fun (x5 : Int32) (σ4 : Sto) => (∀ y6 : Int64, y6 = t.2.2.2 ||| (((x5 &&& (127 : Int32)).toInt64) <<< (((7 : Int32) * t.2.1).toInt64 &&& 63)) → (∀ x8 : Int32, x8 = t.2.1 + (1 : Int32) → L14 (t.1, x8, x5, y6) σ4)))))))))
set_option maxHeartbeats 4000000 in
set_option maxRecDepth 100000 in
theorem t_X7_readNumber_14 {p : Program} {l : Launch} {e : Env} {s : State} {m : MethodId} {args : Array Value} {below : List Frame} {meth : Method} {c : Code} {D : va_G} {cy : Nat → ClassId} {A : Nat → Prop} {a0 : Nat} {Q : Int32 → Sto → Prop} {L14 : Int32 × Int32 × Int32 × Int64 → Sto → Prop} (C : Cx p s m args meth c D cy A cX7_readNumber 6 RX7) (hr : meth.sig.returnType = (some .int)) (hnm : meth.name = yX7_readNumber.name) (hL14 : ∀ (t : Int32 × Int32 × Int32 × Int64) (σ : Sto), L14 t σ → ∀ ls : Array Slot, lv_has ls 6 [(0, .ref a0), (1, .int t.1), (2, .int t.2.1), (3, .int t.2.2.1), (4, .long t.2.2.2)] → Xw p l e rm_X7_readNumber s m args below meth c D cy A σ 0 0 (MQ below (Qst D cy A (PsI Q)) args s rm_X7_readNumber.cells rm_X7_readNumber.slots A) (F0 m 14 ls [])) : ∀ (t : Int32 × Int32 × Int32 × Int64) (σ : Sto), f_X7_readNumber_14 a0  Q L14 t σ → ∀ ls : Array Slot, lv_has ls 6 [(0, .ref a0), (1, .int t.1), (2, .int t.2.1), (3, .int t.2.2.1), (4, .long t.2.2.2)] → Xw p l e rm_X7_readNumber s m args below meth c D cy A σ 0 0 (MQ below (Qst D cy A (PsI Q)) args s rm_X7_readNumber.cells rm_X7_readNumber.slots A) (F0 m 14 ls []) := by
  intro t σ h ls hl
  unfold f_X7_readNumber_14 at h
  refine x_iload_n C dX7_readNumber_14 rfl (lv_at hl 2 rfl) ?_
  refine x_iconst (v := 5) C dX7_readNumber_15 (by decide) ?_
  refine x_icmp_ge (tgt := 52) C dX7_readNumber_16 (by decide) (fun c1 => ?_) (fun c1 => ?_)
  · have h := h.1 c1
    exact t_X7_readNumber_52 C hr hnm  t.1 t.2.1 t.2.2.1 t.2.2.2 _ h ls (lv_sub hl [0, 1, 2, 3, 4] rfl)
  · have h := h.2 c1
    refine x_iload_n C dX7_readNumber_19 rfl (lv_at hl 3 rfl) ?_
    refine x_sipush (v := 128) C dX7_readNumber_20 (by decide) ?_
    refine x_icmp_lt (tgt := 52) C dX7_readNumber_23 (by decide) (fun c2 => ?_) (fun c2 => ?_)
    · have h := h.1 c2
      exact t_X7_readNumber_52 C hr hnm  t.1 t.2.1 t.2.2.1 t.2.2.2 _ h ls (lv_sub hl [0, 1, 2, 3, 4] rfl)
    · have h := h.2 c2
      refine x_aload_n C dX7_readNumber_26 rfl (lv_at hl 0 rfl) ?_
      obtain ⟨g3, h⟩ := h
      refine x_callV (rm := rm_X7_nextByte) (rest := []) (As := []) C cy_RX7_78 g3 (by decide) (by decide) rfl rfl (Nat.le_of_ble_eq_true rfl) hl.1 dX7_readNumber_27 (c_X7_nextByte l D cy a0  σ _ h) (ks_i (fun x5 σ4 h => ?_))
      refine x_istore_n (i := 3) (lv' := [(3, .int x5), (0, .ref a0), (1, .int t.1), (2, .int t.2.1), (4, .long t.2.2.2)]) C dX7_readNumber_30 rfl hl (by decide) (by first | rfl | simp [vrc, cat_i, cat_r, cat_l]) (fun ls hl => ?_)
      refine x_lload C dX7_readNumber_31 (lv_at hl 4 rfl) ?_
      refine x_iload_n C dX7_readNumber_33 rfl (lv_at hl 0 rfl) ?_
      refine x_bipush (v := 127) C dX7_readNumber_34 (by decide) ?_
      refine x_iand C dX7_readNumber_36 ?_
      refine x_i2l C dX7_readNumber_37 ?_
      refine x_bipush (v := 7) C dX7_readNumber_38 (by decide) ?_
      refine x_iload_n C dX7_readNumber_40 rfl (lv_at hl 3 rfl) ?_
      refine x_imul C dX7_readNumber_41 ?_
      refine x_lshl C dX7_readNumber_42 ?_
      refine x_lor C dX7_readNumber_43 ?_
      refine x_topj (fun y6 e7 => ?_)
      have h := h y6 e7
      refine x_lstore (i := 4) (lv' := [(4, .long y6), (3, .int x5), (0, .ref a0), (1, .int t.1), (2, .int t.2.1)]) C dX7_readNumber_44 hl (by decide) (by first | rfl | simp [vrc, cat_i, cat_r, cat_l]) (fun ls hl => ?_)
      obtain ⟨x8, e9⟩ : ∃ z : Int32, z = t.2.1 + (1 : Int32) := ⟨_, rfl⟩
      have h := h x8 e9
      refine x_iinc (v := x8) (lv' := [(2, .int x8), (4, .long y6), (3, .int x5), (0, .ref a0), (1, .int t.1)]) C dX7_readNumber_46 hl (q0 := 4) rfl (by rw [e9]; rfl) (by decide) (by first | rfl | simp [vrc, cat_i, cat_r, cat_l]) (fun ls hl => ?_)
      refine x_goto (tgt := 14) C dX7_readNumber_49 (by decide) ?_
      exact hL14 (t.1, x8, x5, y6) _ h ls (lv_sub hl [3, 4, 0, 2, 1] rfl)
def wp_X7_readNumber (a0 : Nat)  (σ : Sto) (Q : Int32 → Sto → Prop) : Prop := (sK σ a0 = 7 ∧ (∀ x2 : Int32, x2 = sI σ a0 5 → LF (f_X7_readNumber_14 a0  Q) (x2, (0 : Int32), (128 : Int32), (0 : Int64)) σ))
set_option maxHeartbeats 4000000 in
set_option maxRecDepth 100000 in
theorem c_X7_readNumber (l : Launch) (D : va_G) (cy : Nat → ClassId) (a0 : Nat)  (σ : Sto) (Q : Int32 → Sto → Prop) (h : wp_X7_readNumber a0  σ Q) : Mt l D cy yX7_readNumber cX7_readNumber 6 (some .int) rm_X7_readNumber [.ref a0] σ (PsI Q) := by
  unfold wp_X7_readNumber at h
  refine mt_of (by decide +kernel) (Nat.le_of_ble_eq_true rfl) ?_
  intro p e s m args below meth c A ls C hr hnm hl
  have C : Cx p s m args meth c D cy A cX7_readNumber 6 RX7 := C
  have hl : lv_has ls 6 [(0, .ref a0)] := hl
  refine x_aload_n C dX7_readNumber_0 rfl (lv_at hl 0 rfl) ?_
  obtain ⟨g1, h⟩ := h
  refine x_getI C fl_RX7_29 g1 dX7_readNumber_1 ?_
  refine x_topi (fun x2 e3 => ?_)
  have h := h x2 e3
  refine x_istore_n (i := 1) (lv' := [(1, .int x2), (0, .ref a0)]) C dX7_readNumber_4 rfl hl (by decide) (by first | rfl | simp [vrc, cat_i, cat_r, cat_l]) (fun ls hl => ?_)
  refine x_iconst (v := 0) C dX7_readNumber_5 (by decide) ?_
  refine x_istore_n (i := 2) (lv' := [(2, .int (0 : Int32)), (1, .int x2), (0, .ref a0)]) C dX7_readNumber_6 rfl hl (by decide) (by first | rfl | simp [vrc, cat_i, cat_r, cat_l]) (fun ls hl => ?_)
  refine x_sipush (v := 128) C dX7_readNumber_7 (by decide) ?_
  refine x_istore_n (i := 3) (lv' := [(3, .int (128 : Int32)), (2, .int (0 : Int32)), (1, .int x2), (0, .ref a0)]) C dX7_readNumber_10 rfl hl (by decide) (by first | rfl | simp [vrc, cat_i, cat_r, cat_l]) (fun ls hl => ?_)
  refine x_lconst (v := 0) C dX7_readNumber_11 (by decide) ?_
  refine x_lstore (i := 4) (lv' := [(4, .long (0 : Int64)), (3, .int (128 : Int32)), (2, .int (0 : Int32)), (1, .int x2), (0, .ref a0)]) C dX7_readNumber_12 hl (by decide) (by first | rfl | simp [vrc, cat_i, cat_r, cat_l]) (fun ls hl => ?_)
  exact h (fun t σ => ∀ ls : Array Slot, lv_has ls 6 [(0, .ref a0), (1, .int t.1), (2, .int t.2.1), (3, .int t.2.2.1), (4, .long t.2.2.2)] → Xw p l e rm_X7_readNumber s m args below meth c D cy A σ 0 0 (MQ below (Qst D cy A (PsI Q)) args s rm_X7_readNumber.cells rm_X7_readNumber.slots A) (F0 m 14 ls [])) (t_X7_readNumber_14 C hr hnm  (fun t σ h => h)) ls (lv_sub hl [4, 3, 2, 1, 0] rfl)
theorem dX7_nextWord_0 : decode cX7_nextWord 0 = .ok (.iconst 0, 1) := by decide +kernel
theorem dX7_nextWord_1 : decode cX7_nextWord 1 = .ok (.istore_n 1, 1) := by decide +kernel
theorem dX7_nextWord_2 : decode cX7_nextWord 2 = .ok (.iconst 0, 1) := by decide +kernel
theorem dX7_nextWord_3 : decode cX7_nextWord 3 = .ok (.istore_n 2, 1) := by decide +kernel
theorem dX7_nextWord_4 : decode cX7_nextWord 4 = .ok (.iload_n 2, 1) := by decide +kernel
theorem dX7_nextWord_5 : decode cX7_nextWord 5 = .ok (.iconst 4, 1) := by decide +kernel
theorem dX7_nextWord_6 : decode cX7_nextWord 6 = .ok (.if_icmp .ge 19, 3) := by decide +kernel
theorem dX7_nextWord_9 : decode cX7_nextWord 9 = .ok (.iload_n 1, 1) := by decide +kernel
theorem dX7_nextWord_10 : decode cX7_nextWord 10 = .ok (.bipush 8, 2) := by decide +kernel
theorem dX7_nextWord_12 : decode cX7_nextWord 12 = .ok (.ishl, 1) := by decide +kernel
theorem dX7_nextWord_13 : decode cX7_nextWord 13 = .ok (.aload_n 0, 1) := by decide +kernel
theorem dX7_nextWord_14 : decode cX7_nextWord 14 = .ok (.invokevirtual 78, 3) := by decide +kernel
theorem dX7_nextWord_17 : decode cX7_nextWord 17 = .ok (.ior, 1) := by decide +kernel
theorem dX7_nextWord_18 : decode cX7_nextWord 18 = .ok (.istore_n 1, 1) := by decide +kernel
theorem dX7_nextWord_19 : decode cX7_nextWord 19 = .ok (.iinc 2 1, 3) := by decide +kernel
theorem dX7_nextWord_22 : decode cX7_nextWord 22 = .ok (.goto (-18), 3) := by decide +kernel
theorem dX7_nextWord_25 : decode cX7_nextWord 25 = .ok (.iload_n 1, 1) := by decide +kernel
theorem dX7_nextWord_26 : decode cX7_nextWord 26 = .ok (.ireturn, 1) := by decide +kernel
abbrev rm_X7_nextWord : Room := { frames := 2, cells := 0, slots := 0, locals := 43 }
def f_X7_nextWord_4 (a0 : Nat)  (Q : Int32 → Sto → Prop) (L4 : Int32 × Int32 → Sto → Prop) (t : Int32 × Int32) (σ : Sto) : Prop := (((4 : Int32) ≤ t.2 → Q t.1 σ) ∧ (¬ (4 : Int32) ≤ t.2 → (sK σ a0 = 7 ∧ (wp_X7_nextByte a0  σ (fun (x4 : Int32) (σ3 : Sto) => (∀ x5 : Int32, x5 = (t.1 <<< ((8 : Int32) &&& 31)) ||| x4 → (∀ x7 : Int32, x7 = t.2 + (1 : Int32) → L4 (x5, x7) σ3)))))))
set_option maxHeartbeats 4000000 in
set_option maxRecDepth 100000 in
theorem t_X7_nextWord_4 {p : Program} {l : Launch} {e : Env} {s : State} {m : MethodId} {args : Array Value} {below : List Frame} {meth : Method} {c : Code} {D : va_G} {cy : Nat → ClassId} {A : Nat → Prop} {a0 : Nat} {Q : Int32 → Sto → Prop} {L4 : Int32 × Int32 → Sto → Prop} (C : Cx p s m args meth c D cy A cX7_nextWord 3 RX7) (hr : meth.sig.returnType = (some .int)) (hnm : meth.name = yX7_nextWord.name) (hL4 : ∀ (t : Int32 × Int32) (σ : Sto), L4 t σ → ∀ ls : Array Slot, lv_has ls 3 [(0, .ref a0), (1, .int t.1), (2, .int t.2)] → Xw p l e rm_X7_nextWord s m args below meth c D cy A σ 0 0 (MQ below (Qst D cy A (PsI Q)) args s rm_X7_nextWord.cells rm_X7_nextWord.slots A) (F0 m 4 ls [])) : ∀ (t : Int32 × Int32) (σ : Sto), f_X7_nextWord_4 a0  Q L4 t σ → ∀ ls : Array Slot, lv_has ls 3 [(0, .ref a0), (1, .int t.1), (2, .int t.2)] → Xw p l e rm_X7_nextWord s m args below meth c D cy A σ 0 0 (MQ below (Qst D cy A (PsI Q)) args s rm_X7_nextWord.cells rm_X7_nextWord.slots A) (F0 m 4 ls []) := by
  intro t σ h ls hl
  unfold f_X7_nextWord_4 at h
  refine x_iload_n C dX7_nextWord_4 rfl (lv_at hl 2 rfl) ?_
  refine x_iconst (v := 4) C dX7_nextWord_5 (by decide) ?_
  refine x_icmp_ge (tgt := 25) C dX7_nextWord_6 (by decide) (fun c1 => ?_) (fun c1 => ?_)
  · have h := h.1 c1
    refine x_iload_n C dX7_nextWord_25 rfl (lv_at hl 1 rfl) ?_
    exact x_iret C hr dX7_nextWord_26 ⟨_, rfl, h⟩
  · have h := h.2 c1
    refine x_iload_n C dX7_nextWord_9 rfl (lv_at hl 1 rfl) ?_
    refine x_bipush (v := 8) C dX7_nextWord_10 (by decide) ?_
    refine x_ishl C dX7_nextWord_12 ?_
    refine x_aload_n C dX7_nextWord_13 rfl (lv_at hl 0 rfl) ?_
    obtain ⟨g2, h⟩ := h
    refine x_callV (rm := rm_X7_nextByte) (rest := [.int (t.1 <<< ((8 : Int32) &&& 31))]) (As := []) C cy_RX7_78 g2 (by decide) (by decide) rfl rfl (Nat.le_of_ble_eq_true rfl) hl.1 dX7_nextWord_14 (c_X7_nextByte l D cy a0  σ _ h) (ks_i (fun x4 σ3 h => ?_))
    refine x_ior C dX7_nextWord_17 ?_
    refine x_topi (fun x5 e6 => ?_)
    have h := h x5 e6
    refine x_istore_n (i := 1) (lv' := [(1, .int x5), (0, .ref a0), (2, .int t.2)]) C dX7_nextWord_18 rfl hl (by decide) (by first | rfl | simp [vrc, cat_i, cat_r, cat_l]) (fun ls hl => ?_)
    obtain ⟨x7, e8⟩ : ∃ z : Int32, z = t.2 + (1 : Int32) := ⟨_, rfl⟩
    have h := h x7 e8
    refine x_iinc (v := x7) (lv' := [(2, .int x7), (1, .int x5), (0, .ref a0)]) C dX7_nextWord_19 hl (q0 := 2) rfl (by rw [e8]; rfl) (by decide) (by first | rfl | simp [vrc, cat_i, cat_r, cat_l]) (fun ls hl => ?_)
    refine x_goto (tgt := 4) C dX7_nextWord_22 (by decide) ?_
    exact hL4 (x5, x7) _ h ls (lv_sub hl [2, 1, 0] rfl)
def wp_X7_nextWord (a0 : Nat)  (σ : Sto) (Q : Int32 → Sto → Prop) : Prop := LF (f_X7_nextWord_4 a0  Q) ((0 : Int32), (0 : Int32)) σ
set_option maxHeartbeats 4000000 in
set_option maxRecDepth 100000 in
theorem c_X7_nextWord (l : Launch) (D : va_G) (cy : Nat → ClassId) (a0 : Nat)  (σ : Sto) (Q : Int32 → Sto → Prop) (h : wp_X7_nextWord a0  σ Q) : Mt l D cy yX7_nextWord cX7_nextWord 3 (some .int) rm_X7_nextWord [.ref a0] σ (PsI Q) := by
  unfold wp_X7_nextWord at h
  refine mt_of (by decide +kernel) (Nat.le_of_ble_eq_true rfl) ?_
  intro p e s m args below meth c A ls C hr hnm hl
  have C : Cx p s m args meth c D cy A cX7_nextWord 3 RX7 := C
  have hl : lv_has ls 3 [(0, .ref a0)] := hl
  refine x_iconst (v := 0) C dX7_nextWord_0 (by decide) ?_
  refine x_istore_n (i := 1) (lv' := [(1, .int (0 : Int32)), (0, .ref a0)]) C dX7_nextWord_1 rfl hl (by decide) (by first | rfl | simp [vrc, cat_i, cat_r, cat_l]) (fun ls hl => ?_)
  refine x_iconst (v := 0) C dX7_nextWord_2 (by decide) ?_
  refine x_istore_n (i := 2) (lv' := [(2, .int (0 : Int32)), (1, .int (0 : Int32)), (0, .ref a0)]) C dX7_nextWord_3 rfl hl (by decide) (by first | rfl | simp [vrc, cat_i, cat_r, cat_l]) (fun ls hl => ?_)
  exact h (fun t σ => ∀ ls : Array Slot, lv_has ls 3 [(0, .ref a0), (1, .int t.1), (2, .int t.2)] → Xw p l e rm_X7_nextWord s m args below meth c D cy A σ 0 0 (MQ below (Qst D cy A (PsI Q)) args s rm_X7_nextWord.cells rm_X7_nextWord.slots A) (F0 m 4 ls [])) (t_X7_nextWord_4 C hr hnm  (fun t σ h => h)) ls (lv_sub hl [2, 1, 0] rfl)
theorem dX7_readRequest_0 : decode cX7_readRequest 0 = .ok (.aload_n 0, 1) := by decide +kernel
theorem dX7_readRequest_1 : decode cX7_readRequest 1 = .ok (.iconst 3, 1) := by decide +kernel
theorem dX7_readRequest_2 : decode cX7_readRequest 2 = .ok (.invokevirtual 32, 3) := by decide +kernel
theorem dX7_readRequest_5 : decode cX7_readRequest 5 = .ok (.pop, 1) := by decide +kernel
theorem dX7_readRequest_6 : decode cX7_readRequest 6 = .ok (.aload_n 0, 1) := by decide +kernel
theorem dX7_readRequest_7 : decode cX7_readRequest 7 = .ok (.invokevirtual 58, 3) := by decide +kernel
theorem dX7_readRequest_10 : decode cX7_readRequest 10 = .ok (.pop, 1) := by decide +kernel
theorem dX7_readRequest_11 : decode cX7_readRequest 11 = .ok (.aload_n 0, 1) := by decide +kernel
theorem dX7_readRequest_12 : decode cX7_readRequest 12 = .ok (.iconst 2, 1) := by decide +kernel
theorem dX7_readRequest_13 : decode cX7_readRequest 13 = .ok (.invokevirtual 32, 3) := by decide +kernel
theorem dX7_readRequest_16 : decode cX7_readRequest 16 = .ok (.pop, 1) := by decide +kernel
theorem dX7_readRequest_17 : decode cX7_readRequest 17 = .ok (.aload_n 0, 1) := by decide +kernel
theorem dX7_readRequest_18 : decode cX7_readRequest 18 = .ok (.bipush 7, 2) := by decide +kernel
theorem dX7_readRequest_20 : decode cX7_readRequest 20 = .ok (.invokevirtual 32, 3) := by decide +kernel
theorem dX7_readRequest_23 : decode cX7_readRequest 23 = .ok (.pop, 1) := by decide +kernel
theorem dX7_readRequest_24 : decode cX7_readRequest 24 = .ok (.aload_n 0, 1) := by decide +kernel
theorem dX7_readRequest_25 : decode cX7_readRequest 25 = .ok (.aload_n 0, 1) := by decide +kernel
theorem dX7_readRequest_26 : decode cX7_readRequest 26 = .ok (.invokevirtual 65, 3) := by decide +kernel
theorem dX7_readRequest_29 : decode cX7_readRequest 29 = .ok (.invokevirtual 68, 3) := by decide +kernel
theorem dX7_readRequest_32 : decode cX7_readRequest 32 = .ok (.return_, 1) := by decide +kernel
abbrev rm_X7_readRequest : Room := { frames := 3, cells := 0, slots := 0, locals := 68 }
def wp_X7_readRequest (a0 : Nat)  (σ : Sto) (Q : Sto → Prop) : Prop := (sK σ a0 = 7 ∧ (wp_X7_readByte a0 (3 : Int32) σ (fun (x3 : Int32) (σ2 : Sto) => (sK σ2 a0 = 7 ∧ (wp_X7_readNumber a0  σ2 (fun (x6 : Int32) (σ5 : Sto) => (sK σ5 a0 = 7 ∧ (wp_X7_readByte a0 (2 : Int32) σ5 (fun (x9 : Int32) (σ8 : Sto) => (sK σ8 a0 = 7 ∧ (wp_X7_readByte a0 (7 : Int32) σ8 (fun (x12 : Int32) (σ11 : Sto) => (sK σ11 a0 = 7 ∧ (wp_X7_nextWord a0  σ11 (fun (x15 : Int32) (σ14 : Sto) => (sK σ14 a0 = 7 ∧ (wp_X7_tell a0 x15 σ14 (fun (σ17 : Sto) => Q σ17))))))))))))))))))
set_option maxHeartbeats 4000000 in
set_option maxRecDepth 100000 in
theorem c_X7_readRequest (l : Launch) (D : va_G) (cy : Nat → ClassId) (a0 : Nat)  (σ : Sto) (Q : Sto → Prop) (h : wp_X7_readRequest a0  σ Q) : Mt l D cy yX7_readRequest cX7_readRequest 1 none rm_X7_readRequest [.ref a0] σ (PsV Q) := by
  unfold wp_X7_readRequest at h
  refine mt_of (by decide +kernel) (Nat.le_of_ble_eq_true rfl) ?_
  intro p e s m args below meth c A ls C hr hnm hl
  have C : Cx p s m args meth c D cy A cX7_readRequest 1 RX7 := C
  have hl : lv_has ls 1 [(0, .ref a0)] := hl
  refine x_aload_n C dX7_readRequest_0 rfl (lv_at hl 0 rfl) ?_
  refine x_iconst (v := 3) C dX7_readRequest_1 (by decide) ?_
  obtain ⟨g1, h⟩ := h
  refine x_callV (rm := rm_X7_readByte) (rest := []) (As := [.int (3 : Int32)]) C cy_RX7_32 g1 (by decide) (by decide) rfl rfl (Nat.le_of_ble_eq_true rfl) hl.1 dX7_readRequest_2 (c_X7_readByte l D cy a0 (3 : Int32) σ _ h) (ks_i (fun x3 σ2 h => ?_))
  refine x_pop C dX7_readRequest_5 (rfl) ?_
  refine x_aload_n C dX7_readRequest_6 rfl (lv_at hl 0 rfl) ?_
  obtain ⟨g4, h⟩ := h
  refine x_callV (rm := rm_X7_readNumber) (rest := []) (As := []) C cy_RX7_58 g4 (by decide) (by decide) rfl rfl (Nat.le_of_ble_eq_true rfl) hl.1 dX7_readRequest_7 (c_X7_readNumber l D cy a0  σ2 _ h) (ks_i (fun x6 σ5 h => ?_))
  refine x_pop C dX7_readRequest_10 (rfl) ?_
  refine x_aload_n C dX7_readRequest_11 rfl (lv_at hl 0 rfl) ?_
  refine x_iconst (v := 2) C dX7_readRequest_12 (by decide) ?_
  obtain ⟨g7, h⟩ := h
  refine x_callV (rm := rm_X7_readByte) (rest := []) (As := [.int (2 : Int32)]) C cy_RX7_32 g7 (by decide) (by decide) rfl rfl (Nat.le_of_ble_eq_true rfl) hl.1 dX7_readRequest_13 (c_X7_readByte l D cy a0 (2 : Int32) σ5 _ h) (ks_i (fun x9 σ8 h => ?_))
  refine x_pop C dX7_readRequest_16 (rfl) ?_
  refine x_aload_n C dX7_readRequest_17 rfl (lv_at hl 0 rfl) ?_
  refine x_bipush (v := 7) C dX7_readRequest_18 (by decide) ?_
  obtain ⟨g10, h⟩ := h
  refine x_callV (rm := rm_X7_readByte) (rest := []) (As := [.int (7 : Int32)]) C cy_RX7_32 g10 (by decide) (by decide) rfl rfl (Nat.le_of_ble_eq_true rfl) hl.1 dX7_readRequest_20 (c_X7_readByte l D cy a0 (7 : Int32) σ8 _ h) (ks_i (fun x12 σ11 h => ?_))
  refine x_pop C dX7_readRequest_23 (rfl) ?_
  refine x_aload_n C dX7_readRequest_24 rfl (lv_at hl 0 rfl) ?_
  refine x_aload_n C dX7_readRequest_25 rfl (lv_at hl 0 rfl) ?_
  obtain ⟨g13, h⟩ := h
  refine x_callV (rm := rm_X7_nextWord) (rest := [.ref a0]) (As := []) C cy_RX7_65 g13 (by decide) (by decide) rfl rfl (Nat.le_of_ble_eq_true rfl) hl.1 dX7_readRequest_26 (c_X7_nextWord l D cy a0  σ11 _ h) (ks_i (fun x15 σ14 h => ?_))
  obtain ⟨g16, h⟩ := h
  refine x_callV (rm := rm_X7_tell) (rest := []) (As := [.int x15]) C cy_RX7_68 g16 (by decide) (by decide) rfl rfl (Nat.le_of_ble_eq_true rfl) hl.1 dX7_readRequest_29 (c_X7_tell l D cy a0 x15 σ14 _ h) (ks_v (fun σ17 h => ?_))
  exact x_vret C hr dX7_readRequest_32 ⟨rfl, h⟩
theorem dX7_readLog_0 : decode cX7_readLog 0 = .ok (.aload_n 0, 1) := by decide +kernel
theorem dX7_readLog_1 : decode cX7_readLog 1 = .ok (.getfield 29, 3) := by decide +kernel
theorem dX7_readLog_4 : decode cX7_readLog 4 = .ok (.istore_n 1, 1) := by decide +kernel
theorem dX7_readLog_5 : decode cX7_readLog 5 = .ok (.aload_n 0, 1) := by decide +kernel
theorem dX7_readLog_6 : decode cX7_readLog 6 = .ok (.invokevirtual 58, 3) := by decide +kernel
theorem dX7_readLog_9 : decode cX7_readLog 9 = .ok (.istore_n 2, 1) := by decide +kernel
theorem dX7_readLog_10 : decode cX7_readLog 10 = .ok (.iload_n 2, 1) := by decide +kernel
theorem dX7_readLog_11 : decode cX7_readLog 11 = .ok (.bipush 100, 2) := by decide +kernel
theorem dX7_readLog_13 : decode cX7_readLog 13 = .ok (.if_icmp .le 9, 3) := by decide +kernel
theorem dX7_readLog_16 : decode cX7_readLog 16 = .ok (.aload_n 0, 1) := by decide +kernel
theorem dX7_readLog_17 : decode cX7_readLog 17 = .ok (.iconst 4, 1) := by decide +kernel
theorem dX7_readLog_18 : decode cX7_readLog 18 = .ok (.iload_n 1, 1) := by decide +kernel
theorem dX7_readLog_19 : decode cX7_readLog 19 = .ok (.invokevirtual 54, 3) := by decide +kernel
theorem dX7_readLog_22 : decode cX7_readLog 22 = .ok (.iconst 0, 1) := by decide +kernel
theorem dX7_readLog_23 : decode cX7_readLog 23 = .ok (.istore_n 3, 1) := by decide +kernel
theorem dX7_readLog_24 : decode cX7_readLog 24 = .ok (.iload_n 3, 1) := by decide +kernel
theorem dX7_readLog_25 : decode cX7_readLog 25 = .ok (.iload_n 2, 1) := by decide +kernel
theorem dX7_readLog_26 : decode cX7_readLog 26 = .ok (.if_icmp .ge 29, 3) := by decide +kernel
theorem dX7_readLog_29 : decode cX7_readLog 29 = .ok (.aload_n 0, 1) := by decide +kernel
theorem dX7_readLog_30 : decode cX7_readLog 30 = .ok (.getfield 26, 3) := by decide +kernel
theorem dX7_readLog_33 : decode cX7_readLog 33 = .ok (.ifCond .ne 22, 3) := by decide +kernel
theorem dX7_readLog_36 : decode cX7_readLog 36 = .ok (.aload_n 0, 1) := by decide +kernel
theorem dX7_readLog_37 : decode cX7_readLog 37 = .ok (.iconst 1, 1) := by decide +kernel
theorem dX7_readLog_38 : decode cX7_readLog 38 = .ok (.invokevirtual 32, 3) := by decide +kernel
theorem dX7_readLog_41 : decode cX7_readLog 41 = .ok (.iconst 1, 1) := by decide +kernel
theorem dX7_readLog_42 : decode cX7_readLog 42 = .ok (.if_icmp .ne 7, 3) := by decide +kernel
theorem dX7_readLog_45 : decode cX7_readLog 45 = .ok (.aload_n 0, 1) := by decide +kernel
theorem dX7_readLog_46 : decode cX7_readLog 46 = .ok (.invokevirtual 71, 3) := by decide +kernel
theorem dX7_readLog_49 : decode cX7_readLog 49 = .ok (.iinc 3 1, 3) := by decide +kernel
theorem dX7_readLog_52 : decode cX7_readLog 52 = .ok (.goto (-28), 3) := by decide +kernel
theorem dX7_readLog_55 : decode cX7_readLog 55 = .ok (.return_, 1) := by decide +kernel
abbrev rm_X7_readLog : Room := { frames := 4, cells := 0, slots := 0, locals := 88 }
def b_X7_readLog_49 (a0 : Nat) (L24 : Int32 × Int32 → Sto → Prop) (Q : Sto → Prop) (p2 : Int32) (p3 : Int32) (σ : Sto) : Prop := (∀ x1 : Int32, x1 = p3 + (1 : Int32) → L24 (p2, x1) σ)
set_option maxHeartbeats 4000000 in
set_option maxRecDepth 100000 in
theorem t_X7_readLog_49 {p : Program} {l : Launch} {e : Env} {s : State} {m : MethodId} {args : Array Value} {below : List Frame} {meth : Method} {c : Code} {D : va_G} {cy : Nat → ClassId} {A : Nat → Prop} {a0 : Nat} {L24 : Int32 × Int32 → Sto → Prop} {Q : Sto → Prop} (C : Cx p s m args meth c D cy A cX7_readLog 4 RX7) (hr : meth.sig.returnType = none) (hnm : meth.name = yX7_readLog.name) (hL24 : ∀ (t : Int32 × Int32) (σ : Sto), L24 t σ → ∀ ls : Array Slot, lv_has ls 4 [(0, .ref a0), (2, .int t.1), (3, .int t.2)] → Xw p l e rm_X7_readLog s m args below meth c D cy A σ 0 0 (MQ below (Qst D cy A (PsV Q)) args s rm_X7_readLog.cells rm_X7_readLog.slots A) (F0 m 24 ls [])) (p2 : Int32) (p3 : Int32) (σ : Sto) (h : b_X7_readLog_49 a0 L24 Q p2 p3 σ) (ls : Array Slot) (hl : lv_has ls 4 [(0, .ref a0), (2, .int p2), (3, .int p3)]) : Xw p l e rm_X7_readLog s m args below meth c D cy A σ 0 0 (MQ below (Qst D cy A (PsV Q)) args s rm_X7_readLog.cells rm_X7_readLog.slots A) (F0 m 49 ls []) := by
  unfold b_X7_readLog_49 at h
  obtain ⟨x1, e2⟩ : ∃ z : Int32, z = p3 + (1 : Int32) := ⟨_, rfl⟩
  have h := h x1 e2
  refine x_iinc (v := x1) (lv' := [(3, .int x1), (0, .ref a0), (2, .int p2)]) C dX7_readLog_49 hl (q0 := 2) rfl (by rw [e2]; rfl) (by decide) (by first | rfl | simp [vrc, cat_i, cat_r, cat_l]) (fun ls hl => ?_)
  refine x_goto (tgt := 24) C dX7_readLog_52 (by decide) ?_
  exact hL24 (p2, x1) _ h ls (lv_sub hl [1, 2, 0] rfl)
def f_X7_readLog_24 (a0 : Nat)  (Q : Sto → Prop) (L24 : Int32 × Int32 → Sto → Prop) (t : Int32 × Int32) (σ : Sto) : Prop := ((t.1 ≤ t.2 → Q σ) ∧ (¬ t.1 ≤ t.2 → (sK σ a0 = 7 ∧ (∀ x3 : Int32, x3 = sI σ a0 3 → ((¬ x3 = 0 → Q σ) ∧ (x3 = 0 → (wp_X7_readByte a0 (1 : Int32) σ (fun (x7 : Int32) (σ6 : Sto) => ((¬ x7 = (1 : Int32) → b_X7_readLog_49 a0 L24 Q t.1 t.2 σ6) ∧ (x7 = (1 : Int32) → (sK σ6 a0 = 7 ∧ (wp_X7_readRequest a0  σ6 (fun (σ10 : Sto) => b_X7_readLog_49 a0 L24 Q t.1 t.2 σ10)))))))))))))
set_option maxHeartbeats 4000000 in
set_option maxRecDepth 100000 in
theorem t_X7_readLog_24 {p : Program} {l : Launch} {e : Env} {s : State} {m : MethodId} {args : Array Value} {below : List Frame} {meth : Method} {c : Code} {D : va_G} {cy : Nat → ClassId} {A : Nat → Prop} {a0 : Nat} {Q : Sto → Prop} {L24 : Int32 × Int32 → Sto → Prop} (C : Cx p s m args meth c D cy A cX7_readLog 4 RX7) (hr : meth.sig.returnType = none) (hnm : meth.name = yX7_readLog.name) (hL24 : ∀ (t : Int32 × Int32) (σ : Sto), L24 t σ → ∀ ls : Array Slot, lv_has ls 4 [(0, .ref a0), (2, .int t.1), (3, .int t.2)] → Xw p l e rm_X7_readLog s m args below meth c D cy A σ 0 0 (MQ below (Qst D cy A (PsV Q)) args s rm_X7_readLog.cells rm_X7_readLog.slots A) (F0 m 24 ls [])) : ∀ (t : Int32 × Int32) (σ : Sto), f_X7_readLog_24 a0  Q L24 t σ → ∀ ls : Array Slot, lv_has ls 4 [(0, .ref a0), (2, .int t.1), (3, .int t.2)] → Xw p l e rm_X7_readLog s m args below meth c D cy A σ 0 0 (MQ below (Qst D cy A (PsV Q)) args s rm_X7_readLog.cells rm_X7_readLog.slots A) (F0 m 24 ls []) := by
  intro t σ h ls hl
  unfold f_X7_readLog_24 at h
  refine x_iload_n C dX7_readLog_24 rfl (lv_at hl 2 rfl) ?_
  refine x_iload_n C dX7_readLog_25 rfl (lv_at hl 1 rfl) ?_
  refine x_icmp_ge (tgt := 55) C dX7_readLog_26 (by decide) (fun c1 => ?_) (fun c1 => ?_)
  · have h := h.1 c1
    exact x_vret C hr dX7_readLog_55 ⟨rfl, h⟩
  · have h := h.2 c1
    refine x_aload_n C dX7_readLog_29 rfl (lv_at hl 0 rfl) ?_
    obtain ⟨g2, h⟩ := h
    refine x_getI C fl_RX7_26 g2 dX7_readLog_30 ?_
    refine x_topi (fun x3 e4 => ?_)
    have h := h x3 e4
    refine x_if_ne (tgt := 55) C dX7_readLog_33 (by decide) (fun c5 => ?_) (fun c5 => ?_)
    · have h := h.1 c5
      exact x_vret C hr dX7_readLog_55 ⟨rfl, h⟩
    · have h := h.2 c5
      refine x_aload_n C dX7_readLog_36 rfl (lv_at hl 0 rfl) ?_
      refine x_iconst (v := 1) C dX7_readLog_37 (by decide) ?_
      refine x_callV (rm := rm_X7_readByte) (rest := []) (As := [.int (1 : Int32)]) C cy_RX7_32 g2 (by decide) (by decide) rfl rfl (Nat.le_of_ble_eq_true rfl) hl.1 dX7_readLog_38 (c_X7_readByte l D cy a0 (1 : Int32) σ _ h) (ks_i (fun x7 σ6 h => ?_))
      refine x_iconst (v := 1) C dX7_readLog_41 (by decide) ?_
      refine x_icmp_ne (tgt := 49) C dX7_readLog_42 (by decide) (fun c8 => ?_) (fun c8 => ?_)
      · have h := h.1 c8
        exact t_X7_readLog_49 C hr hnm hL24 t.1 t.2 _ h ls (lv_sub hl [0, 1, 2] rfl)
      · have h := h.2 c8
        refine x_aload_n C dX7_readLog_45 rfl (lv_at hl 0 rfl) ?_
        obtain ⟨g9, h⟩ := h
        refine x_callV (rm := rm_X7_readRequest) (rest := []) (As := []) C cy_RX7_71 g9 (by decide) (by decide) rfl rfl (Nat.le_of_ble_eq_true rfl) hl.1 dX7_readLog_46 (c_X7_readRequest l D cy a0  σ6 _ h) (ks_v (fun σ10 h => ?_))
        exact t_X7_readLog_49 C hr hnm hL24 t.1 t.2 _ h ls (lv_sub hl [0, 1, 2] rfl)
def b_X7_readLog_22 (a0 : Nat)  (Q : Sto → Prop) (p2 : Int32) (σ : Sto) : Prop := LF (f_X7_readLog_24 a0  Q) (p2, (0 : Int32)) σ
set_option maxHeartbeats 4000000 in
set_option maxRecDepth 100000 in
theorem t_X7_readLog_22 {p : Program} {l : Launch} {e : Env} {s : State} {m : MethodId} {args : Array Value} {below : List Frame} {meth : Method} {c : Code} {D : va_G} {cy : Nat → ClassId} {A : Nat → Prop} {a0 : Nat} {Q : Sto → Prop} (C : Cx p s m args meth c D cy A cX7_readLog 4 RX7) (hr : meth.sig.returnType = none) (hnm : meth.name = yX7_readLog.name) (p2 : Int32) (σ : Sto) (h : b_X7_readLog_22 a0  Q p2 σ) (ls : Array Slot) (hl : lv_has ls 4 [(0, .ref a0), (2, .int p2)]) : Xw p l e rm_X7_readLog s m args below meth c D cy A σ 0 0 (MQ below (Qst D cy A (PsV Q)) args s rm_X7_readLog.cells rm_X7_readLog.slots A) (F0 m 22 ls []) := by
  unfold b_X7_readLog_22 at h
  refine x_iconst (v := 0) C dX7_readLog_22 (by decide) ?_
  refine x_istore_n (i := 3) (lv' := [(3, .int (0 : Int32)), (0, .ref a0), (2, .int p2)]) C dX7_readLog_23 rfl hl (by decide) (by first | rfl | simp [vrc, cat_i, cat_r, cat_l]) (fun ls hl => ?_)
  exact h (fun t σ => ∀ ls : Array Slot, lv_has ls 4 [(0, .ref a0), (2, .int t.1), (3, .int t.2)] → Xw p l e rm_X7_readLog s m args below meth c D cy A σ 0 0 (MQ below (Qst D cy A (PsV Q)) args s rm_X7_readLog.cells rm_X7_readLog.slots A) (F0 m 24 ls [])) (t_X7_readLog_24 C hr hnm  (fun t σ h => h)) ls (lv_sub hl [1, 2, 0] rfl)
def wp_X7_readLog (a0 : Nat)  (σ : Sto) (Q : Sto → Prop) : Prop := (sK σ a0 = 7 ∧ (∀ x2 : Int32, x2 = sI σ a0 5 → (wp_X7_readNumber a0  σ (fun (x5 : Int32) (σ4 : Sto) => ((x5 ≤ (100 : Int32) → b_X7_readLog_22 a0  Q x5 σ4) ∧ (¬ x5 ≤ (100 : Int32) → (sK σ4 a0 = 7 ∧ (wp_X7_spoil a0 (4 : Int32) x2 σ4 (fun (σ8 : Sto) => b_X7_readLog_22 a0  Q x5 σ8)))))))))
set_option maxHeartbeats 4000000 in
set_option maxRecDepth 100000 in
theorem c_X7_readLog (l : Launch) (D : va_G) (cy : Nat → ClassId) (a0 : Nat)  (σ : Sto) (Q : Sto → Prop) (h : wp_X7_readLog a0  σ Q) : Mt l D cy yX7_readLog cX7_readLog 4 none rm_X7_readLog [.ref a0] σ (PsV Q) := by
  unfold wp_X7_readLog at h
  refine mt_of (by decide +kernel) (Nat.le_of_ble_eq_true rfl) ?_
  intro p e s m args below meth c A ls C hr hnm hl
  have C : Cx p s m args meth c D cy A cX7_readLog 4 RX7 := C
  have hl : lv_has ls 4 [(0, .ref a0)] := hl
  refine x_aload_n C dX7_readLog_0 rfl (lv_at hl 0 rfl) ?_
  obtain ⟨g1, h⟩ := h
  refine x_getI C fl_RX7_29 g1 dX7_readLog_1 ?_
  refine x_topi (fun x2 e3 => ?_)
  have h := h x2 e3
  refine x_istore_n (i := 1) (lv' := [(1, .int x2), (0, .ref a0)]) C dX7_readLog_4 rfl hl (by decide) (by first | rfl | simp [vrc, cat_i, cat_r, cat_l]) (fun ls hl => ?_)
  refine x_aload_n C dX7_readLog_5 rfl (lv_at hl 1 rfl) ?_
  refine x_callV (rm := rm_X7_readNumber) (rest := []) (As := []) C cy_RX7_58 g1 (by decide) (by decide) rfl rfl (Nat.le_of_ble_eq_true rfl) hl.1 dX7_readLog_6 (c_X7_readNumber l D cy a0  σ _ h) (ks_i (fun x5 σ4 h => ?_))
  refine x_istore_n (i := 2) (lv' := [(2, .int x5), (1, .int x2), (0, .ref a0)]) C dX7_readLog_9 rfl hl (by decide) (by first | rfl | simp [vrc, cat_i, cat_r, cat_l]) (fun ls hl => ?_)
  refine x_iload_n C dX7_readLog_10 rfl (lv_at hl 0 rfl) ?_
  refine x_bipush (v := 100) C dX7_readLog_11 (by decide) ?_
  refine x_icmp_le (tgt := 22) C dX7_readLog_13 (by decide) (fun c6 => ?_) (fun c6 => ?_)
  · have h := h.1 c6
    exact t_X7_readLog_22 C hr hnm  x5 _ h ls (lv_sub hl [2, 0] rfl)
  · have h := h.2 c6
    refine x_aload_n C dX7_readLog_16 rfl (lv_at hl 2 rfl) ?_
    refine x_iconst (v := 4) C dX7_readLog_17 (by decide) ?_
    refine x_iload_n C dX7_readLog_18 rfl (lv_at hl 1 rfl) ?_
    obtain ⟨g7, h⟩ := h
    refine x_callV (rm := rm_X7_spoil) (rest := []) (As := [.int (4 : Int32), .int x2]) C cy_RX7_54 g7 (by decide) (by decide) rfl rfl (Nat.le_of_ble_eq_true rfl) hl.1 dX7_readLog_19 (c_X7_spoil l D cy a0 (4 : Int32) x2 σ4 _ h) (ks_v (fun σ8 h => ?_))
    exact t_X7_readLog_22 C hr hnm  x5 _ h ls (lv_sub hl [2, 0] rfl)
theorem dX7_readRest_0 : decode cX7_readRest 0 = .ok (.aload_n 0, 1) := by decide +kernel
theorem dX7_readRest_1 : decode cX7_readRest 1 = .ok (.invokevirtual 58, 3) := by decide +kernel
theorem dX7_readRest_4 : decode cX7_readRest 4 = .ok (.pop, 1) := by decide +kernel
theorem dX7_readRest_5 : decode cX7_readRest 5 = .ok (.iload_n 1, 1) := by decide +kernel
theorem dX7_readRest_6 : decode cX7_readRest 6 = .ok (.ifCond .eq 8, 3) := by decide +kernel
theorem dX7_readRest_9 : decode cX7_readRest 9 = .ok (.aload_n 0, 1) := by decide +kernel
theorem dX7_readRest_10 : decode cX7_readRest 10 = .ok (.invokevirtual 58, 3) := by decide +kernel
theorem dX7_readRest_13 : decode cX7_readRest 13 = .ok (.pop, 1) := by decide +kernel
theorem dX7_readRest_14 : decode cX7_readRest 14 = .ok (.iload_n 1, 1) := by decide +kernel
theorem dX7_readRest_15 : decode cX7_readRest 15 = .ok (.tableswitch 119 5 12 #[48, 119, 119, 45, 55, 77, 89, 45], 45) := by decide +kernel
theorem dX7_readRest_60 : decode cX7_readRest 60 = .ok (.goto 92, 3) := by decide +kernel
theorem dX7_readRest_63 : decode cX7_readRest 63 = .ok (.aload_n 0, 1) := by decide +kernel
theorem dX7_readRest_64 : decode cX7_readRest 64 = .ok (.invokevirtual 62, 3) := by decide +kernel
theorem dX7_readRest_67 : decode cX7_readRest 67 = .ok (.goto 85, 3) := by decide +kernel
theorem dX7_readRest_70 : decode cX7_readRest 70 = .ok (.aload_n 0, 1) := by decide +kernel
theorem dX7_readRest_71 : decode cX7_readRest 71 = .ok (.invokevirtual 58, 3) := by decide +kernel
theorem dX7_readRest_74 : decode cX7_readRest 74 = .ok (.pop, 1) := by decide +kernel
theorem dX7_readRest_75 : decode cX7_readRest 75 = .ok (.aload_n 0, 1) := by decide +kernel
theorem dX7_readRest_76 : decode cX7_readRest 76 = .ok (.invokevirtual 58, 3) := by decide +kernel
theorem dX7_readRest_79 : decode cX7_readRest 79 = .ok (.pop, 1) := by decide +kernel
theorem dX7_readRest_80 : decode cX7_readRest 80 = .ok (.aload_n 0, 1) := by decide +kernel
theorem dX7_readRest_81 : decode cX7_readRest 81 = .ok (.invokevirtual 58, 3) := by decide +kernel
theorem dX7_readRest_84 : decode cX7_readRest 84 = .ok (.pop, 1) := by decide +kernel
theorem dX7_readRest_85 : decode cX7_readRest 85 = .ok (.aload_n 0, 1) := by decide +kernel
theorem dX7_readRest_86 : decode cX7_readRest 86 = .ok (.invokevirtual 62, 3) := by decide +kernel
theorem dX7_readRest_89 : decode cX7_readRest 89 = .ok (.goto 63, 3) := by decide +kernel
theorem dX7_readRest_92 : decode cX7_readRest 92 = .ok (.aload_n 0, 1) := by decide +kernel
theorem dX7_readRest_93 : decode cX7_readRest 93 = .ok (.invokevirtual 58, 3) := by decide +kernel
theorem dX7_readRest_96 : decode cX7_readRest 96 = .ok (.pop, 1) := by decide +kernel
theorem dX7_readRest_97 : decode cX7_readRest 97 = .ok (.aload_n 0, 1) := by decide +kernel
theorem dX7_readRest_98 : decode cX7_readRest 98 = .ok (.invokevirtual 62, 3) := by decide +kernel
theorem dX7_readRest_101 : decode cX7_readRest 101 = .ok (.goto 51, 3) := by decide +kernel
theorem dX7_readRest_104 : decode cX7_readRest 104 = .ok (.aload_n 0, 1) := by decide +kernel
theorem dX7_readRest_105 : decode cX7_readRest 105 = .ok (.invokevirtual 58, 3) := by decide +kernel
theorem dX7_readRest_108 : decode cX7_readRest 108 = .ok (.pop, 1) := by decide +kernel
theorem dX7_readRest_109 : decode cX7_readRest 109 = .ok (.aload_n 0, 1) := by decide +kernel
theorem dX7_readRest_110 : decode cX7_readRest 110 = .ok (.invokevirtual 58, 3) := by decide +kernel
theorem dX7_readRest_113 : decode cX7_readRest 113 = .ok (.pop, 1) := by decide +kernel
theorem dX7_readRest_114 : decode cX7_readRest 114 = .ok (.aload_n 0, 1) := by decide +kernel
theorem dX7_readRest_115 : decode cX7_readRest 115 = .ok (.iconst 1, 1) := by decide +kernel
theorem dX7_readRest_116 : decode cX7_readRest 116 = .ok (.invokevirtual 32, 3) := by decide +kernel
theorem dX7_readRest_119 : decode cX7_readRest 119 = .ok (.iconst 1, 1) := by decide +kernel
theorem dX7_readRest_120 : decode cX7_readRest 120 = .ok (.if_icmp .ne 32, 3) := by decide +kernel
theorem dX7_readRest_123 : decode cX7_readRest 123 = .ok (.aload_n 0, 1) := by decide +kernel
theorem dX7_readRest_124 : decode cX7_readRest 124 = .ok (.aload_n 0, 1) := by decide +kernel
theorem dX7_readRest_125 : decode cX7_readRest 125 = .ok (.invokevirtual 65, 3) := by decide +kernel
theorem dX7_readRest_128 : decode cX7_readRest 128 = .ok (.invokevirtual 68, 3) := by decide +kernel
theorem dX7_readRest_131 : decode cX7_readRest 131 = .ok (.goto 21, 3) := by decide +kernel
theorem dX7_readRest_134 : decode cX7_readRest 134 = .ok (.aload_n 0, 1) := by decide +kernel
theorem dX7_readRest_135 : decode cX7_readRest 135 = .ok (.invokevirtual 58, 3) := by decide +kernel
theorem dX7_readRest_138 : decode cX7_readRest 138 = .ok (.pop, 1) := by decide +kernel
theorem dX7_readRest_139 : decode cX7_readRest 139 = .ok (.iload_n 1, 1) := by decide +kernel
theorem dX7_readRest_140 : decode cX7_readRest 140 = .ok (.ifCond .eq 8, 3) := by decide +kernel
theorem dX7_readRest_143 : decode cX7_readRest 143 = .ok (.iload_n 1, 1) := by decide +kernel
theorem dX7_readRest_144 : decode cX7_readRest 144 = .ok (.iconst 2, 1) := by decide +kernel
theorem dX7_readRest_145 : decode cX7_readRest 145 = .ok (.if_icmp .ne 7, 3) := by decide +kernel
theorem dX7_readRest_148 : decode cX7_readRest 148 = .ok (.aload_n 0, 1) := by decide +kernel
theorem dX7_readRest_149 : decode cX7_readRest 149 = .ok (.invokevirtual 71, 3) := by decide +kernel
theorem dX7_readRest_152 : decode cX7_readRest 152 = .ok (.return_, 1) := by decide +kernel
abbrev rm_X7_readRest : Room := { frames := 5, cells := 0, slots := 0, locals := 111 }
def b_X7_readRest_148 (a0 : Nat)  (Q : Sto → Prop)  (σ : Sto) : Prop := (sK σ a0 = 7 ∧ (wp_X7_readRequest a0  σ (fun (σ2 : Sto) => Q σ2)))
set_option maxHeartbeats 4000000 in
set_option maxRecDepth 100000 in
theorem t_X7_readRest_148 {p : Program} {l : Launch} {e : Env} {s : State} {m : MethodId} {args : Array Value} {below : List Frame} {meth : Method} {c : Code} {D : va_G} {cy : Nat → ClassId} {A : Nat → Prop} {a0 : Nat} {Q : Sto → Prop} (C : Cx p s m args meth c D cy A cX7_readRest 2 RX7) (hr : meth.sig.returnType = none) (hnm : meth.name = yX7_readRest.name)  (σ : Sto) (h : b_X7_readRest_148 a0  Q  σ) (ls : Array Slot) (hl : lv_has ls 2 [(0, .ref a0)]) : Xw p l e rm_X7_readRest s m args below meth c D cy A σ 0 0 (MQ below (Qst D cy A (PsV Q)) args s rm_X7_readRest.cells rm_X7_readRest.slots A) (F0 m 148 ls []) := by
  unfold b_X7_readRest_148 at h
  refine x_aload_n C dX7_readRest_148 rfl (lv_at hl 0 rfl) ?_
  obtain ⟨g1, h⟩ := h
  refine x_callV (rm := rm_X7_readRequest) (rest := []) (As := []) C cy_RX7_71 g1 (by decide) (by decide) rfl rfl (Nat.le_of_ble_eq_true rfl) hl.1 dX7_readRest_149 (c_X7_readRequest l D cy a0  σ _ h) (ks_v (fun σ2 h => ?_))
  exact x_vret C hr dX7_readRest_152 ⟨rfl, h⟩
def b_X7_readRest_134 (a0 : Nat)  (Q : Sto → Prop) (p1 : Int32) (σ : Sto) : Prop := (sK σ a0 = 7 ∧ (wp_X7_readNumber a0  σ (fun (x3 : Int32) (σ2 : Sto) => ((p1 = 0 → b_X7_readRest_148 a0  Q  σ2) ∧ (¬ p1 = 0 → ((¬ p1 = (2 : Int32) → Q σ2) ∧ (p1 = (2 : Int32) → b_X7_readRest_148 a0  Q  σ2)))))))
set_option maxHeartbeats 4000000 in
set_option maxRecDepth 100000 in
theorem t_X7_readRest_134 {p : Program} {l : Launch} {e : Env} {s : State} {m : MethodId} {args : Array Value} {below : List Frame} {meth : Method} {c : Code} {D : va_G} {cy : Nat → ClassId} {A : Nat → Prop} {a0 : Nat} {Q : Sto → Prop} (C : Cx p s m args meth c D cy A cX7_readRest 2 RX7) (hr : meth.sig.returnType = none) (hnm : meth.name = yX7_readRest.name) (p1 : Int32) (σ : Sto) (h : b_X7_readRest_134 a0  Q p1 σ) (ls : Array Slot) (hl : lv_has ls 2 [(0, .ref a0), (1, .int p1)]) : Xw p l e rm_X7_readRest s m args below meth c D cy A σ 0 0 (MQ below (Qst D cy A (PsV Q)) args s rm_X7_readRest.cells rm_X7_readRest.slots A) (F0 m 134 ls []) := by
  unfold b_X7_readRest_134 at h
  refine x_aload_n C dX7_readRest_134 rfl (lv_at hl 0 rfl) ?_
  obtain ⟨g1, h⟩ := h
  refine x_callV (rm := rm_X7_readNumber) (rest := []) (As := []) C cy_RX7_58 g1 (by decide) (by decide) rfl rfl (Nat.le_of_ble_eq_true rfl) hl.1 dX7_readRest_135 (c_X7_readNumber l D cy a0  σ _ h) (ks_i (fun x3 σ2 h => ?_))
  refine x_pop C dX7_readRest_138 (rfl) ?_
  refine x_iload_n C dX7_readRest_139 rfl (lv_at hl 1 rfl) ?_
  refine x_if_eq (tgt := 148) C dX7_readRest_140 (by decide) (fun c4 => ?_) (fun c4 => ?_)
  · have h := h.1 c4
    exact t_X7_readRest_148 C hr hnm   _ h ls (lv_sub hl [0] rfl)
  · have h := h.2 c4
    refine x_iload_n C dX7_readRest_143 rfl (lv_at hl 1 rfl) ?_
    refine x_iconst (v := 2) C dX7_readRest_144 (by decide) ?_
    refine x_icmp_ne (tgt := 152) C dX7_readRest_145 (by decide) (fun c5 => ?_) (fun c5 => ?_)
    · have h := h.1 c5
      exact x_vret C hr dX7_readRest_152 ⟨rfl, h⟩
    · have h := h.2 c5
      exact t_X7_readRest_148 C hr hnm   _ h ls (lv_sub hl [0] rfl)
def b_X7_readRest_60 (a0 : Nat)  (Q : Sto → Prop)  (σ : Sto) : Prop := Q σ
set_option maxHeartbeats 4000000 in
set_option maxRecDepth 100000 in
theorem t_X7_readRest_60 {p : Program} {l : Launch} {e : Env} {s : State} {m : MethodId} {args : Array Value} {below : List Frame} {meth : Method} {c : Code} {D : va_G} {cy : Nat → ClassId} {A : Nat → Prop} {a0 : Nat} {Q : Sto → Prop} (C : Cx p s m args meth c D cy A cX7_readRest 2 RX7) (hr : meth.sig.returnType = none) (hnm : meth.name = yX7_readRest.name)  (σ : Sto) (h : b_X7_readRest_60 a0  Q  σ) (ls : Array Slot) (hl : lv_has ls 2 []) : Xw p l e rm_X7_readRest s m args below meth c D cy A σ 0 0 (MQ below (Qst D cy A (PsV Q)) args s rm_X7_readRest.cells rm_X7_readRest.slots A) (F0 m 60 ls []) := by
  unfold b_X7_readRest_60 at h
  refine x_goto (tgt := 152) C dX7_readRest_60 (by decide) ?_
  exact x_vret C hr dX7_readRest_152 ⟨rfl, h⟩
def b_X7_readRest_14 (a0 : Nat)  (Q : Sto → Prop) (p1 : Int32) (σ : Sto) : Prop := ((p1.toInt < 5 ∨ 12 < p1.toInt → b_X7_readRest_134 a0  Q p1 σ) ∧ (p1 = (5 : Int32) → (sK σ a0 = 7 ∧ (wp_X7_readLog a0  σ (fun (σ4 : Sto) => Q σ4)))) ∧ (p1 = (6 : Int32) → b_X7_readRest_134 a0  Q p1 σ) ∧ (p1 = (7 : Int32) → b_X7_readRest_134 a0  Q p1 σ) ∧ (p1 = (8 : Int32) → b_X7_readRest_60 a0  Q  σ) ∧ (p1 = (9 : Int32) → (sK σ a0 = 7 ∧ (wp_X7_readNumber a0  σ (fun (x7 : Int32) (σ6 : Sto) => (sK σ6 a0 = 7 ∧ (wp_X7_readNumber a0  σ6 (fun (x10 : Int32) (σ9 : Sto) => (sK σ9 a0 = 7 ∧ (wp_X7_readNumber a0  σ9 (fun (x13 : Int32) (σ12 : Sto) => (sK σ12 a0 = 7 ∧ (wp_X7_readLog a0  σ12 (fun (σ15 : Sto) => Q σ15))))))))))))) ∧ (p1 = (10 : Int32) → (sK σ a0 = 7 ∧ (wp_X7_readNumber a0  σ (fun (x18 : Int32) (σ17 : Sto) => (sK σ17 a0 = 7 ∧ (wp_X7_readLog a0  σ17 (fun (σ20 : Sto) => Q σ20))))))) ∧ (p1 = (11 : Int32) → (sK σ a0 = 7 ∧ (wp_X7_readNumber a0  σ (fun (x23 : Int32) (σ22 : Sto) => (sK σ22 a0 = 7 ∧ (wp_X7_readNumber a0  σ22 (fun (x26 : Int32) (σ25 : Sto) => (sK σ25 a0 = 7 ∧ (wp_X7_readByte a0 (1 : Int32) σ25 (fun (x29 : Int32) (σ28 : Sto) => ((¬ x29 = (1 : Int32) → Q σ28) ∧ (x29 = (1 : Int32) → (sK σ28 a0 = 7 ∧ (wp_X7_nextWord a0  σ28 (fun (x33 : Int32) (σ32 : Sto) => (sK σ32 a0 = 7 ∧ (wp_X7_tell a0 x33 σ32 (fun (σ35 : Sto) => Q σ35)))))))))))))))))) ∧ (p1 = (12 : Int32) → b_X7_readRest_60 a0  Q  σ))
set_option maxHeartbeats 4000000 in
set_option maxRecDepth 100000 in
theorem t_X7_readRest_14 {p : Program} {l : Launch} {e : Env} {s : State} {m : MethodId} {args : Array Value} {below : List Frame} {meth : Method} {c : Code} {D : va_G} {cy : Nat → ClassId} {A : Nat → Prop} {a0 : Nat} {Q : Sto → Prop} (C : Cx p s m args meth c D cy A cX7_readRest 2 RX7) (hr : meth.sig.returnType = none) (hnm : meth.name = yX7_readRest.name) (p1 : Int32) (σ : Sto) (h : b_X7_readRest_14 a0  Q p1 σ) (ls : Array Slot) (hl : lv_has ls 2 [(0, .ref a0), (1, .int p1)]) : Xw p l e rm_X7_readRest s m args below meth c D cy A σ 0 0 (MQ below (Qst D cy A (PsV Q)) args s rm_X7_readRest.cells rm_X7_readRest.slots A) (F0 m 14 ls []) := by
  unfold b_X7_readRest_14 at h
  refine x_iload_n C dX7_readRest_14 rfl (lv_at hl 1 rfl) ?_
  by_cases c1 : p1.toInt < 5 ∨ 12 < p1.toInt
  · have h := h.1 c1
    refine x_tableOut (tgt := 134) C dX7_readRest_15 c1 (by decide) ?_
    exact t_X7_readRest_134 C hr hnm  p1 _ h ls (lv_sub hl [0, 1] rfl)
  · rcases (show p1.toInt = 5 ∨ p1.toInt = 6 ∨ p1.toInt = 7 ∨ p1.toInt = 8 ∨ p1.toInt = 9 ∨ p1.toInt = 10 ∨ p1.toInt = 11 ∨ p1.toInt = 12 by omega) with c2 | c2 | c2 | c2 | c2 | c2 | c2 | c2
    · have h := h.2.1 (sw_eq (k := 5) (c2.trans (by decide)))
      refine x_tableIn (tgt := 63) (off := 48) C dX7_readRest_15 (by omega) (by omega) (by rw [c2]; rfl) (by decide) ?_
      refine x_aload_n C dX7_readRest_63 rfl (lv_at hl 0 rfl) ?_
      obtain ⟨g3, h⟩ := h
      refine x_callV (rm := rm_X7_readLog) (rest := []) (As := []) C cy_RX7_62 g3 (by decide) (by decide) rfl rfl (Nat.le_of_ble_eq_true rfl) hl.1 dX7_readRest_64 (c_X7_readLog l D cy a0  σ _ h) (ks_v (fun σ4 h => ?_))
      refine x_goto (tgt := 152) C dX7_readRest_67 (by decide) ?_
      exact x_vret C hr dX7_readRest_152 ⟨rfl, h⟩
    · have h := h.2.2.1 (sw_eq (k := 6) (c2.trans (by decide)))
      refine x_tableIn (tgt := 134) (off := 119) C dX7_readRest_15 (by omega) (by omega) (by rw [c2]; rfl) (by decide) ?_
      exact t_X7_readRest_134 C hr hnm  p1 _ h ls (lv_sub hl [0, 1] rfl)
    · have h := h.2.2.2.1 (sw_eq (k := 7) (c2.trans (by decide)))
      refine x_tableIn (tgt := 134) (off := 119) C dX7_readRest_15 (by omega) (by omega) (by rw [c2]; rfl) (by decide) ?_
      exact t_X7_readRest_134 C hr hnm  p1 _ h ls (lv_sub hl [0, 1] rfl)
    · have h := h.2.2.2.2.1 (sw_eq (k := 8) (c2.trans (by decide)))
      refine x_tableIn (tgt := 60) (off := 45) C dX7_readRest_15 (by omega) (by omega) (by rw [c2]; rfl) (by decide) ?_
      exact t_X7_readRest_60 C hr hnm   _ h ls (lv_sub hl [] rfl)
    · have h := h.2.2.2.2.2.1 (sw_eq (k := 9) (c2.trans (by decide)))
      refine x_tableIn (tgt := 70) (off := 55) C dX7_readRest_15 (by omega) (by omega) (by rw [c2]; rfl) (by decide) ?_
      refine x_aload_n C dX7_readRest_70 rfl (lv_at hl 0 rfl) ?_
      obtain ⟨g5, h⟩ := h
      refine x_callV (rm := rm_X7_readNumber) (rest := []) (As := []) C cy_RX7_58 g5 (by decide) (by decide) rfl rfl (Nat.le_of_ble_eq_true rfl) hl.1 dX7_readRest_71 (c_X7_readNumber l D cy a0  σ _ h) (ks_i (fun x7 σ6 h => ?_))
      refine x_pop C dX7_readRest_74 (rfl) ?_
      refine x_aload_n C dX7_readRest_75 rfl (lv_at hl 0 rfl) ?_
      obtain ⟨g8, h⟩ := h
      refine x_callV (rm := rm_X7_readNumber) (rest := []) (As := []) C cy_RX7_58 g8 (by decide) (by decide) rfl rfl (Nat.le_of_ble_eq_true rfl) hl.1 dX7_readRest_76 (c_X7_readNumber l D cy a0  σ6 _ h) (ks_i (fun x10 σ9 h => ?_))
      refine x_pop C dX7_readRest_79 (rfl) ?_
      refine x_aload_n C dX7_readRest_80 rfl (lv_at hl 0 rfl) ?_
      obtain ⟨g11, h⟩ := h
      refine x_callV (rm := rm_X7_readNumber) (rest := []) (As := []) C cy_RX7_58 g11 (by decide) (by decide) rfl rfl (Nat.le_of_ble_eq_true rfl) hl.1 dX7_readRest_81 (c_X7_readNumber l D cy a0  σ9 _ h) (ks_i (fun x13 σ12 h => ?_))
      refine x_pop C dX7_readRest_84 (rfl) ?_
      refine x_aload_n C dX7_readRest_85 rfl (lv_at hl 0 rfl) ?_
      obtain ⟨g14, h⟩ := h
      refine x_callV (rm := rm_X7_readLog) (rest := []) (As := []) C cy_RX7_62 g14 (by decide) (by decide) rfl rfl (Nat.le_of_ble_eq_true rfl) hl.1 dX7_readRest_86 (c_X7_readLog l D cy a0  σ12 _ h) (ks_v (fun σ15 h => ?_))
      refine x_goto (tgt := 152) C dX7_readRest_89 (by decide) ?_
      exact x_vret C hr dX7_readRest_152 ⟨rfl, h⟩
    · have h := h.2.2.2.2.2.2.1 (sw_eq (k := 10) (c2.trans (by decide)))
      refine x_tableIn (tgt := 92) (off := 77) C dX7_readRest_15 (by omega) (by omega) (by rw [c2]; rfl) (by decide) ?_
      refine x_aload_n C dX7_readRest_92 rfl (lv_at hl 0 rfl) ?_
      obtain ⟨g16, h⟩ := h
      refine x_callV (rm := rm_X7_readNumber) (rest := []) (As := []) C cy_RX7_58 g16 (by decide) (by decide) rfl rfl (Nat.le_of_ble_eq_true rfl) hl.1 dX7_readRest_93 (c_X7_readNumber l D cy a0  σ _ h) (ks_i (fun x18 σ17 h => ?_))
      refine x_pop C dX7_readRest_96 (rfl) ?_
      refine x_aload_n C dX7_readRest_97 rfl (lv_at hl 0 rfl) ?_
      obtain ⟨g19, h⟩ := h
      refine x_callV (rm := rm_X7_readLog) (rest := []) (As := []) C cy_RX7_62 g19 (by decide) (by decide) rfl rfl (Nat.le_of_ble_eq_true rfl) hl.1 dX7_readRest_98 (c_X7_readLog l D cy a0  σ17 _ h) (ks_v (fun σ20 h => ?_))
      refine x_goto (tgt := 152) C dX7_readRest_101 (by decide) ?_
      exact x_vret C hr dX7_readRest_152 ⟨rfl, h⟩
    · have h := h.2.2.2.2.2.2.2.1 (sw_eq (k := 11) (c2.trans (by decide)))
      refine x_tableIn (tgt := 104) (off := 89) C dX7_readRest_15 (by omega) (by omega) (by rw [c2]; rfl) (by decide) ?_
      refine x_aload_n C dX7_readRest_104 rfl (lv_at hl 0 rfl) ?_
      obtain ⟨g21, h⟩ := h
      refine x_callV (rm := rm_X7_readNumber) (rest := []) (As := []) C cy_RX7_58 g21 (by decide) (by decide) rfl rfl (Nat.le_of_ble_eq_true rfl) hl.1 dX7_readRest_105 (c_X7_readNumber l D cy a0  σ _ h) (ks_i (fun x23 σ22 h => ?_))
      refine x_pop C dX7_readRest_108 (rfl) ?_
      refine x_aload_n C dX7_readRest_109 rfl (lv_at hl 0 rfl) ?_
      obtain ⟨g24, h⟩ := h
      refine x_callV (rm := rm_X7_readNumber) (rest := []) (As := []) C cy_RX7_58 g24 (by decide) (by decide) rfl rfl (Nat.le_of_ble_eq_true rfl) hl.1 dX7_readRest_110 (c_X7_readNumber l D cy a0  σ22 _ h) (ks_i (fun x26 σ25 h => ?_))
      refine x_pop C dX7_readRest_113 (rfl) ?_
      refine x_aload_n C dX7_readRest_114 rfl (lv_at hl 0 rfl) ?_
      refine x_iconst (v := 1) C dX7_readRest_115 (by decide) ?_
      obtain ⟨g27, h⟩ := h
      refine x_callV (rm := rm_X7_readByte) (rest := []) (As := [.int (1 : Int32)]) C cy_RX7_32 g27 (by decide) (by decide) rfl rfl (Nat.le_of_ble_eq_true rfl) hl.1 dX7_readRest_116 (c_X7_readByte l D cy a0 (1 : Int32) σ25 _ h) (ks_i (fun x29 σ28 h => ?_))
      refine x_iconst (v := 1) C dX7_readRest_119 (by decide) ?_
      refine x_icmp_ne (tgt := 152) C dX7_readRest_120 (by decide) (fun c30 => ?_) (fun c30 => ?_)
      · have h := h.1 c30
        exact x_vret C hr dX7_readRest_152 ⟨rfl, h⟩
      · have h := h.2 c30
        refine x_aload_n C dX7_readRest_123 rfl (lv_at hl 0 rfl) ?_
        refine x_aload_n C dX7_readRest_124 rfl (lv_at hl 0 rfl) ?_
        obtain ⟨g31, h⟩ := h
        refine x_callV (rm := rm_X7_nextWord) (rest := [.ref a0]) (As := []) C cy_RX7_65 g31 (by decide) (by decide) rfl rfl (Nat.le_of_ble_eq_true rfl) hl.1 dX7_readRest_125 (c_X7_nextWord l D cy a0  σ28 _ h) (ks_i (fun x33 σ32 h => ?_))
        obtain ⟨g34, h⟩ := h
        refine x_callV (rm := rm_X7_tell) (rest := []) (As := [.int x33]) C cy_RX7_68 g34 (by decide) (by decide) rfl rfl (Nat.le_of_ble_eq_true rfl) hl.1 dX7_readRest_128 (c_X7_tell l D cy a0 x33 σ32 _ h) (ks_v (fun σ35 h => ?_))
        refine x_goto (tgt := 152) C dX7_readRest_131 (by decide) ?_
        exact x_vret C hr dX7_readRest_152 ⟨rfl, h⟩
    · have h := h.2.2.2.2.2.2.2.2 (sw_eq (k := 12) (c2.trans (by decide)))
      refine x_tableIn (tgt := 60) (off := 45) C dX7_readRest_15 (by omega) (by omega) (by rw [c2]; rfl) (by decide) ?_
      exact t_X7_readRest_60 C hr hnm   _ h ls (lv_sub hl [] rfl)
def wp_X7_readRest (a0 : Nat) (p1 : Int32) (σ : Sto) (Q : Sto → Prop) : Prop := (sK σ a0 = 7 ∧ (wp_X7_readNumber a0  σ (fun (x3 : Int32) (σ2 : Sto) => ((p1 = 0 → b_X7_readRest_14 a0  Q p1 σ2) ∧ (¬ p1 = 0 → (sK σ2 a0 = 7 ∧ (wp_X7_readNumber a0  σ2 (fun (x7 : Int32) (σ6 : Sto) => b_X7_readRest_14 a0  Q p1 σ6))))))))
set_option maxHeartbeats 4000000 in
set_option maxRecDepth 100000 in
theorem c_X7_readRest (l : Launch) (D : va_G) (cy : Nat → ClassId) (a0 : Nat) (p1 : Int32) (σ : Sto) (Q : Sto → Prop) (h : wp_X7_readRest a0 p1 σ Q) : Mt l D cy yX7_readRest cX7_readRest 2 none rm_X7_readRest [.ref a0, .int p1] σ (PsV Q) := by
  unfold wp_X7_readRest at h
  refine mt_of (by decide +kernel) (Nat.le_of_ble_eq_true rfl) ?_
  intro p e s m args below meth c A ls C hr hnm hl
  have C : Cx p s m args meth c D cy A cX7_readRest 2 RX7 := C
  have hl : lv_has ls 2 [(0, .ref a0), (1, .int p1)] := hl
  refine x_aload_n C dX7_readRest_0 rfl (lv_at hl 0 rfl) ?_
  obtain ⟨g1, h⟩ := h
  refine x_callV (rm := rm_X7_readNumber) (rest := []) (As := []) C cy_RX7_58 g1 (by decide) (by decide) rfl rfl (Nat.le_of_ble_eq_true rfl) hl.1 dX7_readRest_1 (c_X7_readNumber l D cy a0  σ _ h) (ks_i (fun x3 σ2 h => ?_))
  refine x_pop C dX7_readRest_4 (rfl) ?_
  refine x_iload_n C dX7_readRest_5 rfl (lv_at hl 1 rfl) ?_
  refine x_if_eq (tgt := 14) C dX7_readRest_6 (by decide) (fun c4 => ?_) (fun c4 => ?_)
  · have h := h.1 c4
    exact t_X7_readRest_14 C hr hnm  p1 _ h ls (lv_sub hl [0, 1] rfl)
  · have h := h.2 c4
    refine x_aload_n C dX7_readRest_9 rfl (lv_at hl 0 rfl) ?_
    obtain ⟨g5, h⟩ := h
    refine x_callV (rm := rm_X7_readNumber) (rest := []) (As := []) C cy_RX7_58 g5 (by decide) (by decide) rfl rfl (Nat.le_of_ble_eq_true rfl) hl.1 dX7_readRest_10 (c_X7_readNumber l D cy a0  σ2 _ h) (ks_i (fun x7 σ6 h => ?_))
    refine x_pop C dX7_readRest_13 (rfl) ?_
    exact t_X7_readRest_14 C hr hnm  p1 _ h ls (lv_sub hl [0, 1] rfl)
theorem dX7_readSum_0 : decode cX7_readSum 0 = .ok (.aload_n 0, 1) := by decide +kernel
theorem dX7_readSum_1 : decode cX7_readSum 1 = .ok (.getfield 29, 3) := by decide +kernel
theorem dX7_readSum_4 : decode cX7_readSum 4 = .ok (.istore_n 1, 1) := by decide +kernel
theorem dX7_readSum_5 : decode cX7_readSum 5 = .ok (.aload_n 0, 1) := by decide +kernel
theorem dX7_readSum_6 : decode cX7_readSum 6 = .ok (.getfield 19, 3) := by decide +kernel
theorem dX7_readSum_9 : decode cX7_readSum 9 = .ok (.iconst 0, 1) := by decide +kernel
theorem dX7_readSum_10 : decode cX7_readSum 10 = .ok (.iload_n 1, 1) := by decide +kernel
theorem dX7_readSum_11 : decode cX7_readSum 11 = .ok (.invokevirtual 74, 3) := by decide +kernel
theorem dX7_readSum_14 : decode cX7_readSum 14 = .ok (.istore_n 2, 1) := by decide +kernel
theorem dX7_readSum_15 : decode cX7_readSum 15 = .ok (.aload_n 0, 1) := by decide +kernel
theorem dX7_readSum_16 : decode cX7_readSum 16 = .ok (.invokevirtual 65, 3) := by decide +kernel
theorem dX7_readSum_19 : decode cX7_readSum 19 = .ok (.istore_n 3, 1) := by decide +kernel
theorem dX7_readSum_20 : decode cX7_readSum 20 = .ok (.iload_n 3, 1) := by decide +kernel
theorem dX7_readSum_21 : decode cX7_readSum 21 = .ok (.iload_n 2, 1) := by decide +kernel
theorem dX7_readSum_22 : decode cX7_readSum 22 = .ok (.if_icmp .eq 9, 3) := by decide +kernel
theorem dX7_readSum_25 : decode cX7_readSum 25 = .ok (.aload_n 0, 1) := by decide +kernel
theorem dX7_readSum_26 : decode cX7_readSum 26 = .ok (.iconst 5, 1) := by decide +kernel
theorem dX7_readSum_27 : decode cX7_readSum 27 = .ok (.iload_n 1, 1) := by decide +kernel
theorem dX7_readSum_28 : decode cX7_readSum 28 = .ok (.invokevirtual 54, 3) := by decide +kernel
theorem dX7_readSum_31 : decode cX7_readSum 31 = .ok (.return_, 1) := by decide +kernel
abbrev rm_X7_readSum : Room := { frames := 3, cells := 0, slots := 0, locals := 65 }
def wp_X7_readSum (a0 : Nat)  (σ : Sto) (Q : Sto → Prop) : Prop := (sK σ a0 = 7 ∧ (∀ x2 : Int32, x2 = sI σ a0 5 → (∃ b4 : Nat, sP σ a0 0 = some b4 ∧ (sK σ b4 = 0 ∧ (wp_X0_sumOf b4 (0 : Int32) x2 σ (fun (x8 : Int32) (σ7 : Sto) => (sK σ7 a0 = 7 ∧ (wp_X7_nextWord a0  σ7 (fun (x11 : Int32) (σ10 : Sto) => ((x11 = x8 → Q σ10) ∧ (¬ x11 = x8 → (sK σ10 a0 = 7 ∧ (wp_X7_spoil a0 (5 : Int32) x2 σ10 (fun (σ14 : Sto) => Q σ14))))))))))))))
set_option maxHeartbeats 4000000 in
set_option maxRecDepth 100000 in
theorem c_X7_readSum (l : Launch) (D : va_G) (cy : Nat → ClassId) (a0 : Nat)  (σ : Sto) (Q : Sto → Prop) (h : wp_X7_readSum a0  σ Q) : Mt l D cy yX7_readSum cX7_readSum 4 none rm_X7_readSum [.ref a0] σ (PsV Q) := by
  unfold wp_X7_readSum at h
  refine mt_of (by decide +kernel) (Nat.le_of_ble_eq_true rfl) ?_
  intro p e s m args below meth c A ls C hr hnm hl
  have C : Cx p s m args meth c D cy A cX7_readSum 4 RX7 := C
  have hl : lv_has ls 4 [(0, .ref a0)] := hl
  refine x_aload_n C dX7_readSum_0 rfl (lv_at hl 0 rfl) ?_
  obtain ⟨g1, h⟩ := h
  refine x_getI C fl_RX7_29 g1 dX7_readSum_1 ?_
  refine x_topi (fun x2 e3 => ?_)
  have h := h x2 e3
  refine x_istore_n (i := 1) (lv' := [(1, .int x2), (0, .ref a0)]) C dX7_readSum_4 rfl hl (by decide) (by first | rfl | simp [vrc, cat_i, cat_r, cat_l]) (fun ls hl => ?_)
  refine x_aload_n C dX7_readSum_5 rfl (lv_at hl 1 rfl) ?_
  refine x_getP C fl_RX7_19 g1 dX7_readSum_6 ?_
  refine x_iconst (v := 0) C dX7_readSum_9 (by decide) ?_
  refine x_iload_n C dX7_readSum_10 rfl (lv_at hl 0 rfl) ?_
  obtain ⟨b4, g5, h⟩ := h
  refine x_nn2 g5 ?_
  obtain ⟨g6, h⟩ := h
  refine x_callV (rm := rm_X0_sumOf) (rest := []) (As := [.int (0 : Int32), .int x2]) C cy_RX7_74 g6 (by decide) (by decide) rfl rfl (Nat.le_of_ble_eq_true rfl) hl.1 dX7_readSum_11 (c_X0_sumOf l D cy b4 (0 : Int32) x2 σ _ h) (ks_i (fun x8 σ7 h => ?_))
  refine x_istore_n (i := 2) (lv' := [(2, .int x8), (1, .int x2), (0, .ref a0)]) C dX7_readSum_14 rfl hl (by decide) (by first | rfl | simp [vrc, cat_i, cat_r, cat_l]) (fun ls hl => ?_)
  refine x_aload_n C dX7_readSum_15 rfl (lv_at hl 2 rfl) ?_
  obtain ⟨g9, h⟩ := h
  refine x_callV (rm := rm_X7_nextWord) (rest := []) (As := []) C cy_RX7_65 g9 (by decide) (by decide) rfl rfl (Nat.le_of_ble_eq_true rfl) hl.1 dX7_readSum_16 (c_X7_nextWord l D cy a0  σ7 _ h) (ks_i (fun x11 σ10 h => ?_))
  refine x_istore_n (i := 3) (lv' := [(3, .int x11), (2, .int x8), (1, .int x2), (0, .ref a0)]) C dX7_readSum_19 rfl hl (by decide) (by first | rfl | simp [vrc, cat_i, cat_r, cat_l]) (fun ls hl => ?_)
  refine x_iload_n C dX7_readSum_20 rfl (lv_at hl 0 rfl) ?_
  refine x_iload_n C dX7_readSum_21 rfl (lv_at hl 1 rfl) ?_
  refine x_icmp_eq (tgt := 31) C dX7_readSum_22 (by decide) (fun c12 => ?_) (fun c12 => ?_)
  · have h := h.1 c12
    exact x_vret C hr dX7_readSum_31 ⟨rfl, h⟩
  · have h := h.2 c12
    refine x_aload_n C dX7_readSum_25 rfl (lv_at hl 3 rfl) ?_
    refine x_iconst (v := 5) C dX7_readSum_26 (by decide) ?_
    refine x_iload_n C dX7_readSum_27 rfl (lv_at hl 2 rfl) ?_
    obtain ⟨g13, h⟩ := h
    refine x_callV (rm := rm_X7_spoil) (rest := []) (As := [.int (5 : Int32), .int x2]) C cy_RX7_54 g13 (by decide) (by decide) rfl rfl (Nat.le_of_ble_eq_true rfl) hl.1 dX7_readSum_28 (c_X7_spoil l D cy a0 (5 : Int32) x2 σ10 _ h) (ks_v (fun σ14 h => ?_))
    exact x_vret C hr dX7_readSum_31 ⟨rfl, h⟩
theorem dX7_read_0 : decode cX7_read 0 = .ok (.aload_n 0, 1) := by decide +kernel
theorem dX7_read_1 : decode cX7_read 1 = .ok (.iconst 0, 1) := by decide +kernel
theorem dX7_read_2 : decode cX7_read 2 = .ok (.putfield 23, 3) := by decide +kernel
theorem dX7_read_5 : decode cX7_read 5 = .ok (.aload_n 0, 1) := by decide +kernel
theorem dX7_read_6 : decode cX7_read 6 = .ok (.iconst 0, 1) := by decide +kernel
theorem dX7_read_7 : decode cX7_read 7 = .ok (.putfield 26, 3) := by decide +kernel
theorem dX7_read_10 : decode cX7_read 10 = .ok (.aload_n 0, 1) := by decide +kernel
theorem dX7_read_11 : decode cX7_read 11 = .ok (.iconst (-1), 1) := by decide +kernel
theorem dX7_read_12 : decode cX7_read 12 = .ok (.putfield 15, 3) := by decide +kernel
theorem dX7_read_15 : decode cX7_read 15 = .ok (.aload_n 0, 1) := by decide +kernel
theorem dX7_read_16 : decode cX7_read 16 = .ok (.iconst 0, 1) := by decide +kernel
theorem dX7_read_17 : decode cX7_read 17 = .ok (.putfield 29, 3) := by decide +kernel
theorem dX7_read_20 : decode cX7_read 20 = .ok (.aload_n 0, 1) := by decide +kernel
theorem dX7_read_21 : decode cX7_read 21 = .ok (.bipush 12, 2) := by decide +kernel
theorem dX7_read_23 : decode cX7_read 23 = .ok (.invokevirtual 32, 3) := by decide +kernel
theorem dX7_read_26 : decode cX7_read 26 = .ok (.istore_n 1, 1) := by decide +kernel
theorem dX7_read_27 : decode cX7_read 27 = .ok (.aload_n 0, 1) := by decide +kernel
theorem dX7_read_28 : decode cX7_read 28 = .ok (.invokevirtual 36, 3) := by decide +kernel
theorem dX7_read_31 : decode cX7_read 31 = .ok (.aload_n 0, 1) := by decide +kernel
theorem dX7_read_32 : decode cX7_read 32 = .ok (.invokevirtual 39, 3) := by decide +kernel
theorem dX7_read_35 : decode cX7_read 35 = .ok (.aload_n 0, 1) := by decide +kernel
theorem dX7_read_36 : decode cX7_read 36 = .ok (.iload_n 1, 1) := by decide +kernel
theorem dX7_read_37 : decode cX7_read 37 = .ok (.invokevirtual 42, 3) := by decide +kernel
theorem dX7_read_40 : decode cX7_read 40 = .ok (.aload_n 0, 1) := by decide +kernel
theorem dX7_read_41 : decode cX7_read 41 = .ok (.invokevirtual 46, 3) := by decide +kernel
theorem dX7_read_44 : decode cX7_read 44 = .ok (.aload_n 0, 1) := by decide +kernel
theorem dX7_read_45 : decode cX7_read 45 = .ok (.getfield 26, 3) := by decide +kernel
theorem dX7_read_48 : decode cX7_read 48 = .ok (.ifCond .ne 27, 3) := by decide +kernel
theorem dX7_read_51 : decode cX7_read 51 = .ok (.aload_n 0, 1) := by decide +kernel
theorem dX7_read_52 : decode cX7_read 52 = .ok (.getfield 29, 3) := by decide +kernel
theorem dX7_read_55 : decode cX7_read 55 = .ok (.aload_n 0, 1) := by decide +kernel
theorem dX7_read_56 : decode cX7_read 56 = .ok (.getfield 19, 3) := by decide +kernel
theorem dX7_read_59 : decode cX7_read 59 = .ok (.getfield 49, 3) := by decide +kernel
theorem dX7_read_62 : decode cX7_read 62 = .ok (.if_icmp .ge 13, 3) := by decide +kernel
theorem dX7_read_65 : decode cX7_read 65 = .ok (.aload_n 0, 1) := by decide +kernel
theorem dX7_read_66 : decode cX7_read 66 = .ok (.bipush 6, 2) := by decide +kernel
theorem dX7_read_68 : decode cX7_read 68 = .ok (.aload_n 0, 1) := by decide +kernel
theorem dX7_read_69 : decode cX7_read 69 = .ok (.getfield 29, 3) := by decide +kernel
theorem dX7_read_72 : decode cX7_read 72 = .ok (.invokevirtual 54, 3) := by decide +kernel
theorem dX7_read_75 : decode cX7_read 75 = .ok (.aload_n 0, 1) := by decide +kernel
theorem dX7_read_76 : decode cX7_read 76 = .ok (.getfield 26, 3) := by decide +kernel
theorem dX7_read_79 : decode cX7_read 79 = .ok (.ifCond .eq 8, 3) := by decide +kernel
theorem dX7_read_82 : decode cX7_read 82 = .ok (.aload_n 0, 1) := by decide +kernel
theorem dX7_read_83 : decode cX7_read 83 = .ok (.iconst 0, 1) := by decide +kernel
theorem dX7_read_84 : decode cX7_read 84 = .ok (.putfield 23, 3) := by decide +kernel
theorem dX7_read_87 : decode cX7_read 87 = .ok (.aload_n 0, 1) := by decide +kernel
theorem dX7_read_88 : decode cX7_read 88 = .ok (.getfield 19, 3) := by decide +kernel
theorem dX7_read_91 : decode cX7_read 91 = .ok (.iconst 0, 1) := by decide +kernel
theorem dX7_read_92 : decode cX7_read 92 = .ok (.putfield 49, 3) := by decide +kernel
theorem dX7_read_95 : decode cX7_read 95 = .ok (.return_, 1) := by decide +kernel
abbrev rm_X7_read : Room := { frames := 6, cells := 0, slots := 0, locals := 132 }
def b_X7_read_87 (a0 : Nat)  (Q : Sto → Prop)  (σ : Sto) : Prop := (sK σ a0 = 7 ∧ (∃ b2 : Nat, sP σ a0 0 = some b2 ∧ (sK σ b2 = 0 ∧ Q (stI σ b2 1 (0 : Int32)))))
set_option maxHeartbeats 4000000 in
set_option maxRecDepth 100000 in
theorem t_X7_read_87 {p : Program} {l : Launch} {e : Env} {s : State} {m : MethodId} {args : Array Value} {below : List Frame} {meth : Method} {c : Code} {D : va_G} {cy : Nat → ClassId} {A : Nat → Prop} {a0 : Nat} {Q : Sto → Prop} (C : Cx p s m args meth c D cy A cX7_read 2 RX7) (hr : meth.sig.returnType = none) (hnm : meth.name = yX7_read.name)  (σ : Sto) (h : b_X7_read_87 a0  Q  σ) (ls : Array Slot) (hl : lv_has ls 2 [(0, .ref a0)]) : Xw p l e rm_X7_read s m args below meth c D cy A σ 0 0 (MQ below (Qst D cy A (PsV Q)) args s rm_X7_read.cells rm_X7_read.slots A) (F0 m 87 ls []) := by
  unfold b_X7_read_87 at h
  refine x_aload_n C dX7_read_87 rfl (lv_at hl 0 rfl) ?_
  obtain ⟨g1, h⟩ := h
  refine x_getP C fl_RX7_19 g1 dX7_read_88 ?_
  refine x_iconst (v := 0) C dX7_read_91 (by decide) ?_
  obtain ⟨b2, g3, h⟩ := h
  refine x_nn1 g3 ?_
  obtain ⟨g4, h⟩ := h
  refine x_putI C fl_RX7_49 (Or.inl rfl) g4 dX7_read_92 ?_
  exact x_vret C hr dX7_read_95 ⟨rfl, h⟩
def b_X7_read_75 (a0 : Nat)  (Q : Sto → Prop)  (σ : Sto) : Prop := (sK σ a0 = 7 ∧ (∀ x2 : Int32, x2 = sI σ a0 3 → ((x2 = 0 → b_X7_read_87 a0  Q  σ) ∧ (¬ x2 = 0 → b_X7_read_87 a0  Q  (stI σ a0 2 (0 : Int32))))))
set_option maxHeartbeats 4000000 in
set_option maxRecDepth 100000 in
theorem t_X7_read_75 {p : Program} {l : Launch} {e : Env} {s : State} {m : MethodId} {args : Array Value} {below : List Frame} {meth : Method} {c : Code} {D : va_G} {cy : Nat → ClassId} {A : Nat → Prop} {a0 : Nat} {Q : Sto → Prop} (C : Cx p s m args meth c D cy A cX7_read 2 RX7) (hr : meth.sig.returnType = none) (hnm : meth.name = yX7_read.name)  (σ : Sto) (h : b_X7_read_75 a0  Q  σ) (ls : Array Slot) (hl : lv_has ls 2 [(0, .ref a0)]) : Xw p l e rm_X7_read s m args below meth c D cy A σ 0 0 (MQ below (Qst D cy A (PsV Q)) args s rm_X7_read.cells rm_X7_read.slots A) (F0 m 75 ls []) := by
  unfold b_X7_read_75 at h
  refine x_aload_n C dX7_read_75 rfl (lv_at hl 0 rfl) ?_
  obtain ⟨g1, h⟩ := h
  refine x_getI C fl_RX7_26 g1 dX7_read_76 ?_
  refine x_topi (fun x2 e3 => ?_)
  have h := h x2 e3
  refine x_if_eq (tgt := 87) C dX7_read_79 (by decide) (fun c4 => ?_) (fun c4 => ?_)
  · have h := h.1 c4
    exact t_X7_read_87 C hr hnm   _ h ls (lv_sub hl [0] rfl)
  · have h := h.2 c4
    refine x_aload_n C dX7_read_82 rfl (lv_at hl 0 rfl) ?_
    refine x_iconst (v := 0) C dX7_read_83 (by decide) ?_
    refine x_putI C fl_RX7_23 (Or.inl rfl) g1 dX7_read_84 ?_
    exact t_X7_read_87 C hr hnm   _ h ls (lv_sub hl [0] rfl)
def wp_X7_read (a0 : Nat)  (σ : Sto) (Q : Sto → Prop) : Prop := (sK σ a0 = 7 ∧ (wp_X7_readByte a0 (12 : Int32) (stI (stI (stI (stI σ a0 2 (0 : Int32)) a0 3 (0 : Int32)) a0 4 (-1 : Int32)) a0 5 (0 : Int32)) (fun (x3 : Int32) (σ2 : Sto) => (sK σ2 a0 = 7 ∧ (wp_X7_readSender a0  σ2 (fun (σ5 : Sto) => (sK σ5 a0 = 7 ∧ (wp_X7_readReceiver a0  σ5 (fun (σ7 : Sto) => (sK σ7 a0 = 7 ∧ (wp_X7_readRest a0 x3 σ7 (fun (σ9 : Sto) => (sK σ9 a0 = 7 ∧ (wp_X7_readSum a0  σ9 (fun (σ11 : Sto) => (sK σ11 a0 = 7 ∧ (∀ x13 : Int32, x13 = sI σ11 a0 3 → ((¬ x13 = 0 → b_X7_read_75 a0  Q  σ11) ∧ (x13 = 0 → (∀ x16 : Int32, x16 = sI σ11 a0 5 → (∃ b18 : Nat, sP σ11 a0 0 = some b18 ∧ (sK σ11 b18 = 0 ∧ (∀ x21 : Int32, x21 = sI σ11 b18 1 → ((x21 ≤ x16 → b_X7_read_75 a0  Q  σ11) ∧ (¬ x21 ≤ x16 → (∀ x24 : Int32, x24 = sI σ11 a0 5 → (wp_X7_spoil a0 (6 : Int32) x24 σ11 (fun (σ26 : Sto) => b_X7_read_75 a0  Q  σ26))))))))))))))))))))))))))))
set_option maxHeartbeats 4000000 in
set_option maxRecDepth 100000 in
theorem c_X7_read (l : Launch) (D : va_G) (cy : Nat → ClassId) (a0 : Nat)  (σ : Sto) (Q : Sto → Prop) (h : wp_X7_read a0  σ Q) : Mt l D cy yX7_read cX7_read 2 none rm_X7_read [.ref a0] σ (PsV Q) := by
  unfold wp_X7_read at h
  refine mt_of (by decide +kernel) (Nat.le_of_ble_eq_true rfl) ?_
  intro p e s m args below meth c A ls C hr hnm hl
  have C : Cx p s m args meth c D cy A cX7_read 2 RX7 := C
  have hl : lv_has ls 2 [(0, .ref a0)] := hl
  refine x_aload_n C dX7_read_0 rfl (lv_at hl 0 rfl) ?_
  refine x_iconst (v := 0) C dX7_read_1 (by decide) ?_
  obtain ⟨g1, h⟩ := h
  refine x_putI C fl_RX7_23 (Or.inl rfl) g1 dX7_read_2 ?_
  refine x_aload_n C dX7_read_5 rfl (lv_at hl 0 rfl) ?_
  refine x_iconst (v := 0) C dX7_read_6 (by decide) ?_
  refine x_putI C fl_RX7_26 (Or.inl rfl) g1 dX7_read_7 ?_
  refine x_aload_n C dX7_read_10 rfl (lv_at hl 0 rfl) ?_
  refine x_iconst (v := -1) C dX7_read_11 (by decide) ?_
  refine x_putI C fl_RX7_15 (Or.inl rfl) g1 dX7_read_12 ?_
  refine x_aload_n C dX7_read_15 rfl (lv_at hl 0 rfl) ?_
  refine x_iconst (v := 0) C dX7_read_16 (by decide) ?_
  refine x_putI C fl_RX7_29 (Or.inl rfl) g1 dX7_read_17 ?_
  refine x_aload_n C dX7_read_20 rfl (lv_at hl 0 rfl) ?_
  refine x_bipush (v := 12) C dX7_read_21 (by decide) ?_
  refine x_callV (rm := rm_X7_readByte) (rest := []) (As := [.int (12 : Int32)]) C cy_RX7_32 g1 (by decide) (by decide) rfl rfl (Nat.le_of_ble_eq_true rfl) hl.1 dX7_read_23 (c_X7_readByte l D cy a0 (12 : Int32) (stI (stI (stI (stI σ a0 2 (0 : Int32)) a0 3 (0 : Int32)) a0 4 (-1 : Int32)) a0 5 (0 : Int32)) _ h) (ks_i (fun x3 σ2 h => ?_))
  refine x_istore_n (i := 1) (lv' := [(1, .int x3), (0, .ref a0)]) C dX7_read_26 rfl hl (by decide) (by first | rfl | simp [vrc, cat_i, cat_r, cat_l]) (fun ls hl => ?_)
  refine x_aload_n C dX7_read_27 rfl (lv_at hl 1 rfl) ?_
  obtain ⟨g4, h⟩ := h
  refine x_callV (rm := rm_X7_readSender) (rest := []) (As := []) C cy_RX7_36 g4 (by decide) (by decide) rfl rfl (Nat.le_of_ble_eq_true rfl) hl.1 dX7_read_28 (c_X7_readSender l D cy a0  σ2 _ h) (ks_v (fun σ5 h => ?_))
  refine x_aload_n C dX7_read_31 rfl (lv_at hl 1 rfl) ?_
  obtain ⟨g6, h⟩ := h
  refine x_callV (rm := rm_X7_readReceiver) (rest := []) (As := []) C cy_RX7_39 g6 (by decide) (by decide) rfl rfl (Nat.le_of_ble_eq_true rfl) hl.1 dX7_read_32 (c_X7_readReceiver l D cy a0  σ5 _ h) (ks_v (fun σ7 h => ?_))
  refine x_aload_n C dX7_read_35 rfl (lv_at hl 1 rfl) ?_
  refine x_iload_n C dX7_read_36 rfl (lv_at hl 0 rfl) ?_
  obtain ⟨g8, h⟩ := h
  refine x_callV (rm := rm_X7_readRest) (rest := []) (As := [.int x3]) C cy_RX7_42 g8 (by decide) (by decide) rfl rfl (Nat.le_of_ble_eq_true rfl) hl.1 dX7_read_37 (c_X7_readRest l D cy a0 x3 σ7 _ h) (ks_v (fun σ9 h => ?_))
  refine x_aload_n C dX7_read_40 rfl (lv_at hl 1 rfl) ?_
  obtain ⟨g10, h⟩ := h
  refine x_callV (rm := rm_X7_readSum) (rest := []) (As := []) C cy_RX7_46 g10 (by decide) (by decide) rfl rfl (Nat.le_of_ble_eq_true rfl) hl.1 dX7_read_41 (c_X7_readSum l D cy a0  σ9 _ h) (ks_v (fun σ11 h => ?_))
  refine x_aload_n C dX7_read_44 rfl (lv_at hl 1 rfl) ?_
  obtain ⟨g12, h⟩ := h
  refine x_getI C fl_RX7_26 g12 dX7_read_45 ?_
  refine x_topi (fun x13 e14 => ?_)
  have h := h x13 e14
  refine x_if_ne (tgt := 75) C dX7_read_48 (by decide) (fun c15 => ?_) (fun c15 => ?_)
  · have h := h.1 c15
    exact t_X7_read_75 C hr hnm   _ h ls (lv_sub hl [1] rfl)
  · have h := h.2 c15
    refine x_aload_n C dX7_read_51 rfl (lv_at hl 1 rfl) ?_
    refine x_getI C fl_RX7_29 g12 dX7_read_52 ?_
    refine x_topi (fun x16 e17 => ?_)
    have h := h x16 e17
    refine x_aload_n C dX7_read_55 rfl (lv_at hl 1 rfl) ?_
    refine x_getP C fl_RX7_19 g12 dX7_read_56 ?_
    obtain ⟨b18, g19, h⟩ := h
    refine x_nn0 g19 ?_
    obtain ⟨g20, h⟩ := h
    refine x_getI C fl_RX7_49 g20 dX7_read_59 ?_
    refine x_topi (fun x21 e22 => ?_)
    have h := h x21 e22
    refine x_icmp_ge (tgt := 75) C dX7_read_62 (by decide) (fun c23 => ?_) (fun c23 => ?_)
    · have h := h.1 c23
      exact t_X7_read_75 C hr hnm   _ h ls (lv_sub hl [1] rfl)
    · have h := h.2 c23
      refine x_aload_n C dX7_read_65 rfl (lv_at hl 1 rfl) ?_
      refine x_bipush (v := 6) C dX7_read_66 (by decide) ?_
      refine x_aload_n C dX7_read_68 rfl (lv_at hl 1 rfl) ?_
      refine x_getI C fl_RX7_29 g12 dX7_read_69 ?_
      refine x_topi (fun x24 e25 => ?_)
      have h := h x24 e25
      refine x_callV (rm := rm_X7_spoil) (rest := []) (As := [.int (6 : Int32), .int x24]) C cy_RX7_54 g12 (by decide) (by decide) rfl rfl (Nat.le_of_ble_eq_true rfl) hl.1 dX7_read_72 (c_X7_spoil l D cy a0 (6 : Int32) x24 σ11 _ h) (ks_v (fun σ26 h => ?_))
      exact t_X7_read_75 C hr hnm   _ h ls (lv_sub hl [1] rfl)
theorem dX11_viewOf_0 : decode cX11_viewOf 0 = .ok (.iload_n 1, 1) := by decide +kernel
theorem dX11_viewOf_1 : decode cX11_viewOf 1 = .ok (.i2l, 1) := by decide +kernel
theorem dX11_viewOf_2 : decode cX11_viewOf 2 = .ok (.bipush 32, 2) := by decide +kernel
theorem dX11_viewOf_4 : decode cX11_viewOf 4 = .ok (.lshl, 1) := by decide +kernel
theorem dX11_viewOf_5 : decode cX11_viewOf 5 = .ok (.iload_n 0, 1) := by decide +kernel
theorem dX11_viewOf_6 : decode cX11_viewOf 6 = .ok (.i2l, 1) := by decide +kernel
theorem dX11_viewOf_7 : decode cX11_viewOf 7 = .ok (.ldc2_w 410, 3) := by decide +kernel
theorem dX11_viewOf_10 : decode cX11_viewOf 10 = .ok (.land, 1) := by decide +kernel
theorem dX11_viewOf_11 : decode cX11_viewOf 11 = .ok (.lor, 1) := by decide +kernel
theorem dX11_viewOf_12 : decode cX11_viewOf 12 = .ok (.lreturn, 1) := by decide +kernel
abbrev rm_X11_viewOf : Room := { frames := 0, cells := 0, slots := 0, locals := 0 }
def wp_X11_viewOf (p0 : Int32) (p1 : Int32) (σ : Sto) (Q : Int64 → Sto → Prop) : Prop := Q ((p1.toInt64 <<< ((32 : Int32).toInt64 &&& 63)) ||| (p0.toInt64 &&& (4294967295 : Int64))) σ
set_option maxHeartbeats 4000000 in
set_option maxRecDepth 100000 in
theorem c_X11_viewOf (l : Launch) (D : va_G) (cy : Nat → ClassId) (p0 : Int32) (p1 : Int32) (σ : Sto) (Q : Int64 → Sto → Prop) (h : wp_X11_viewOf p0 p1 σ Q) : Mt l D cy yX11_viewOf cX11_viewOf 2 (some .long) rm_X11_viewOf [.int p0, .int p1] σ (PsJ Q) := by
  unfold wp_X11_viewOf at h
  refine mt_of (by decide +kernel) (Nat.le_of_ble_eq_true rfl) ?_
  intro p e s m args below meth c A ls C hr hnm hl
  have C : Cx p s m args meth c D cy A cX11_viewOf 2 RX11 := C
  have hl : lv_has ls 2 [(0, .int p0), (1, .int p1)] := hl
  refine x_iload_n C dX11_viewOf_0 rfl (lv_at hl 1 rfl) ?_
  refine x_i2l C dX11_viewOf_1 ?_
  refine x_bipush (v := 32) C dX11_viewOf_2 (by decide) ?_
  refine x_lshl C dX11_viewOf_4 ?_
  refine x_iload_n C dX11_viewOf_5 rfl (lv_at hl 0 rfl) ?_
  refine x_i2l C dX11_viewOf_6 ?_
  refine x_ldc2 C kk_RX11_410 dX11_viewOf_7 ?_
  refine x_land C dX11_viewOf_10 ?_
  refine x_lor C dX11_viewOf_11 ?_
  exact x_lret C hr dX11_viewOf_12 ⟨_, rfl, h⟩
theorem dX8_init_0 : decode cX8_init 0 = .ok (.aload_n 0, 1) := by decide +kernel
theorem dX8_init_1 : decode cX8_init 1 = .ok (.invokespecial 3, 3) := by decide +kernel
theorem dX8_init_4 : decode cX8_init 4 = .ok (.aload_n 0, 1) := by decide +kernel
theorem dX8_init_5 : decode cX8_init 5 = .ok (.iconst 0, 1) := by decide +kernel
theorem dX8_init_6 : decode cX8_init 6 = .ok (.iconst 1, 1) := by decide +kernel
theorem dX8_init_7 : decode cX8_init 7 = .ok (.invokestatic 9, 3) := by decide +kernel
theorem dX8_init_10 : decode cX8_init 10 = .ok (.putfield 13, 3) := by decide +kernel
theorem dX8_init_13 : decode cX8_init 13 = .ok (.aload_n 0, 1) := by decide +kernel
theorem dX8_init_14 : decode cX8_init 14 = .ok (.iconst 0, 1) := by decide +kernel
theorem dX8_init_15 : decode cX8_init 15 = .ok (.iconst 1, 1) := by decide +kernel
theorem dX8_init_16 : decode cX8_init 16 = .ok (.invokestatic 9, 3) := by decide +kernel
theorem dX8_init_19 : decode cX8_init 19 = .ok (.putfield 19, 3) := by decide +kernel
theorem dX8_init_22 : decode cX8_init 22 = .ok (.aload_n 0, 1) := by decide +kernel
theorem dX8_init_23 : decode cX8_init 23 = .ok (.new 22, 3) := by decide +kernel
theorem dX8_init_26 : decode cX8_init 26 = .ok (.dup, 1) := by decide +kernel
theorem dX8_init_27 : decode cX8_init 27 = .ok (.invokespecial 24, 3) := by decide +kernel
theorem dX8_init_30 : decode cX8_init 30 = .ok (.putfield 25, 3) := by decide +kernel
theorem dX8_init_33 : decode cX8_init 33 = .ok (.aload_n 0, 1) := by decide +kernel
theorem dX8_init_34 : decode cX8_init 34 = .ok (.iload_n 1, 1) := by decide +kernel
theorem dX8_init_35 : decode cX8_init 35 = .ok (.putfield 29, 3) := by decide +kernel
theorem dX8_init_38 : decode cX8_init 38 = .ok (.aload_n 0, 1) := by decide +kernel
theorem dX8_init_39 : decode cX8_init 39 = .ok (.aload_n 2, 1) := by decide +kernel
theorem dX8_init_40 : decode cX8_init 40 = .ok (.putfield 33, 3) := by decide +kernel
theorem dX8_init_43 : decode cX8_init 43 = .ok (.aload_n 0, 1) := by decide +kernel
theorem dX8_init_44 : decode cX8_init 44 = .ok (.aload_n 3, 1) := by decide +kernel
theorem dX8_init_45 : decode cX8_init 45 = .ok (.putfield 37, 3) := by decide +kernel
theorem dX8_init_48 : decode cX8_init 48 = .ok (.aload_n 0, 1) := by decide +kernel
theorem dX8_init_49 : decode cX8_init 49 = .ok (.new 41, 3) := by decide +kernel
theorem dX8_init_52 : decode cX8_init 52 = .ok (.dup, 1) := by decide +kernel
theorem dX8_init_53 : decode cX8_init 53 = .ok (.aload_n 2, 1) := by decide +kernel
theorem dX8_init_54 : decode cX8_init 54 = .ok (.getfield 43, 3) := by decide +kernel
theorem dX8_init_57 : decode cX8_init 57 = .ok (.invokespecial 48, 3) := by decide +kernel
theorem dX8_init_60 : decode cX8_init 60 = .ok (.putfield 51, 3) := by decide +kernel
theorem dX8_init_63 : decode cX8_init 63 = .ok (.return_, 1) := by decide +kernel
abbrev rm_X8_init : Room := { frames := 3, cells := 21, slots := 865, locals := 62 }
def wp_X8_init (a0 : Nat) (p1 : Int32) (p2 : Option Nat) (p3 : Option Nat) (σ : Sto) (Q : Sto → Prop) : Prop := ((0 ≤ 21 ∧ 0 ≤ 865) ∧ (wp_X11_viewOf (0 : Int32) (1 : Int32) σ (fun (y3 : Int64) (σ2 : Sto) => (sK σ2 a0 = 8 ∧ ((0 ≤ 21 ∧ 0 ≤ 865) ∧ (wp_X11_viewOf (0 : Int32) (1 : Int32) (stJ σ2 a0 5 y3) (fun (y7 : Int64) (σ6 : Sto) => (sK σ6 a0 = 8 ∧ (0 + 1 ≤ 21 ∧ 0 + 3 ≤ 865 ∧ (∀ q11 : Nat, ¬ sK σ6 q11 < 23 → ∀ σ13 : Sto, σ13 = stN (stJ σ6 a0 6 y7) q11 2 0 → (((0 + 1) + 1 ≤ 21 ∧ (0 + 3) + 100 ≤ 865) ∧ (wp_X2_init q11  σ13 (fun (σ16 : Sto) => (sK σ16 a0 = 8 ∧ (((0 + 1) + 1) + 1 ≤ 21 ∧ ((0 + 3) + 100) + 9 ≤ 865 ∧ (∀ q20 : Nat, ¬ sK σ16 q20 < 23 → ∀ σ22 : Sto, σ22 = stN (stP (stP (stI (stP σ16 a0 7 (some q11)) a0 0 p1) a0 1 p2) a0 2 p3) q20 5 0 → (∃ b24 : Nat, p2 = some b24 ∧ (sK σ22 b24 = 4 ∧ (∀ x27 : Int32, x27 = sI σ22 b24 0 → (((((0 + 1) + 1) + 1) + 18 ≤ 21 ∧ (((0 + 3) + 100) + 9) + 753 ≤ 865) ∧ (wp_X5_init q20 x27 σ22 (fun (σ30 : Sto) => (sK σ30 a0 = 8 ∧ ((((((0 + 1) + 1) + 1) + 18) ≤ 21 ∧ ((((0 + 3) + 100) + 9) + 753) ≤ 865) ∧ Q (stP σ30 a0 10 (some q20))))))))))))))))))))))))))
set_option maxHeartbeats 4000000 in
set_option maxRecDepth 100000 in
theorem c_X8_init (l : Launch) (D : va_G) (cy : Nat → ClassId) (a0 : Nat) (p1 : Int32) (p2 : Option Nat) (p3 : Option Nat) (σ : Sto) (Q : Sto → Prop) (h : wp_X8_init a0 p1 p2 p3 σ Q) : Mt l D cy yX8_init cX8_init 4 none rm_X8_init [.ref a0, .int p1, va_rf p2, va_rf p3] σ (PsV Q) := by
  unfold wp_X8_init at h
  refine mt_of (by decide +kernel) (by simp [lg_sl, vrc, cat_i, cat_r, cat_l]) ?_
  intro p e s m args below meth c A ls C hr hnm hl
  have C : Cx p s m args meth c D cy A cX8_init 4 RX8 := C
  have hl : lv_has ls 4 [(0, .ref a0), (1, .int p1), (2, va_rf p2), (3, va_rf p3)] := by simpa [lv_args, vrc, cat_i, cat_r, cat_l] using hl
  refine x_aload_n C dX8_init_0 rfl (lv_at hl 0 rfl) ?_
  refine x_objInit C oi_RX8_3 oi_w2 oi_w3 hl.1 (by decide) (Nat.le_of_ble_eq_true rfl) dX8_init_1 ?_
  refine x_aload_n C dX8_init_4 rfl (lv_at hl 0 rfl) ?_
  refine x_iconst (v := 0) C dX8_init_5 (by decide) ?_
  refine x_iconst (v := 1) C dX8_init_6 (by decide) ?_
  obtain ⟨g1, h⟩ := h
  refine x_callSN (rm := rm_X11_viewOf) (rest := [.ref a0]) (As := [.int (0 : Int32), .int (1 : Int32)]) C csn_RX8_9 (by decide) g1 rfl rfl (Nat.le_of_ble_eq_true rfl) hl.1 dX8_init_7 (c_X11_viewOf l D cy (0 : Int32) (1 : Int32) σ _ h) (ks_j (fun y3 σ2 h => ?_))
  obtain ⟨g4, h⟩ := h
  refine x_putJ C fl_RX8_13 (Or.inl rfl) g4 dX8_init_10 ?_
  refine x_aload_n C dX8_init_13 rfl (lv_at hl 0 rfl) ?_
  refine x_iconst (v := 0) C dX8_init_14 (by decide) ?_
  refine x_iconst (v := 1) C dX8_init_15 (by decide) ?_
  obtain ⟨g5, h⟩ := h
  refine x_callSN (rm := rm_X11_viewOf) (rest := [.ref a0]) (As := [.int (0 : Int32), .int (1 : Int32)]) C csn_RX8_9 (by decide) g5 rfl rfl (Nat.le_of_ble_eq_true rfl) hl.1 dX8_init_16 (c_X11_viewOf l D cy (0 : Int32) (1 : Int32) (stJ σ2 a0 5 y3) _ h) (ks_j (fun y7 σ6 h => ?_))
  obtain ⟨g8, h⟩ := h
  refine x_putJ C fl_RX8_19 (Or.inl rfl) g8 dX8_init_19 ?_
  refine x_aload_n C dX8_init_22 rfl (lv_at hl 0 rfl) ?_
  obtain ⟨g9, g10, h⟩ := h
  refine x_new C cls_2 cl_RX8_22 ins_2 ini_2 g9 g10 dX8_init_23 (fun q11 g12 => ?_)
  refine x_nameS (fun σ13 e14 => ?_)
  have h := h q11 g12 σ13 e14
  refine x_dup C dX8_init_26 (rfl) ?_
  obtain ⟨g15, h⟩ := h
  refine x_callIN (rm := rm_X2_init) (rest := [.ref q11, .ref a0]) (As := []) C cn_RX8_24 (by decide) g15 rfl rfl (Nat.le_of_ble_eq_true rfl) hl.1 dX8_init_27 (c_X2_init l D cy q11  σ13 _ h) (ks_v (fun σ16 h => ?_))
  obtain ⟨g17, h⟩ := h
  refine x_putR C fl_RX8_25 (rty_o _) (Or.inr ⟨hnm, _, _, _, rfl, rfl⟩) g17 dX8_init_30 ?_
  refine x_aload_n C dX8_init_33 rfl (lv_at hl 0 rfl) ?_
  refine x_iload_n C dX8_init_34 rfl (lv_at hl 1 rfl) ?_
  refine x_putI C fl_RX8_29 (Or.inr ⟨hnm, _, _, _, rfl, rfl⟩) g17 dX8_init_35 ?_
  refine x_aload_n C dX8_init_38 rfl (lv_at hl 0 rfl) ?_
  refine x_aload_nq C dX8_init_39 rfl (lv_at hl 2 rfl) ?_
  refine x_putP C fl_RX8_33 (rty_o _) (Or.inr ⟨hnm, _, _, _, rfl, rfl⟩) g17 dX8_init_40 ?_
  refine x_aload_n C dX8_init_43 rfl (lv_at hl 0 rfl) ?_
  refine x_aload_nq C dX8_init_44 rfl (lv_at hl 3 rfl) ?_
  refine x_putP C fl_RX8_37 (rty_o _) (Or.inr ⟨hnm, _, _, _, rfl, rfl⟩) g17 dX8_init_45 ?_
  refine x_aload_n C dX8_init_48 rfl (lv_at hl 0 rfl) ?_
  obtain ⟨g18, g19, h⟩ := h
  refine x_new C cls_5 cl_RX8_41 ins_5 ini_5 g18 g19 dX8_init_49 (fun q20 g21 => ?_)
  refine x_nameS (fun σ22 e23 => ?_)
  have h := h q20 g21 σ22 e23
  refine x_dup C dX8_init_52 (rfl) ?_
  refine x_aload_nq C dX8_init_53 rfl (lv_at hl 2 rfl) ?_
  obtain ⟨b24, g25, h⟩ := h
  refine x_nn0 g25 ?_
  obtain ⟨g26, h⟩ := h
  refine x_getI C fl_RX8_43 g26 dX8_init_54 ?_
  refine x_topi (fun x27 e28 => ?_)
  have h := h x27 e28
  obtain ⟨g29, h⟩ := h
  refine x_callI (rm := rm_X5_init) (rest := [.ref q20, .ref a0]) (As := [.int x27]) C ci_RX8_48 (by decide) g29 rfl rfl (Nat.le_of_ble_eq_true rfl) hl.1 dX8_init_57 (c_X5_init l D cy q20 x27 σ22 _ h) (ks_v (fun σ30 h => ?_))
  obtain ⟨g31, h⟩ := h
  refine x_putR C fl_RX8_51 (rty_o _) (Or.inr ⟨hnm, _, _, _, rfl, rfl⟩) g31 dX8_init_60 ?_
  refine x_widen h.1.1 h.1.2 ?_
  exact x_vret C hr dX8_init_63 ⟨rfl, h.2⟩
