theorem dJ9_max_7cf53_0 : decode cJ9_max_7cf53 0 = .ok (.iload_n 0, 1) := by decide +kernel
theorem dJ9_max_7cf53_1 : decode cJ9_max_7cf53 1 = .ok (.iload_n 1, 1) := by decide +kernel
theorem dJ9_max_7cf53_2 : decode cJ9_max_7cf53 2 = .ok (.if_icmp .lt 7, 3) := by decide +kernel
theorem dJ9_max_7cf53_5 : decode cJ9_max_7cf53 5 = .ok (.iload_n 0, 1) := by decide +kernel
theorem dJ9_max_7cf53_6 : decode cJ9_max_7cf53 6 = .ok (.goto 4, 3) := by decide +kernel
theorem dJ9_max_7cf53_9 : decode cJ9_max_7cf53 9 = .ok (.iload_n 1, 1) := by decide +kernel
theorem dJ9_max_7cf53_10 : decode cJ9_max_7cf53 10 = .ok (.ireturn, 1) := by decide +kernel
abbrev rm_J9_max_7cf53 : Room := { frames := 0, cells := 0, slots := 0, locals := 0 }
def wp_J9_max_7cf53 (p0 : Int32) (p1 : Int32) (σ : Sto) (Q : Int32 → Sto → Prop) : Prop := ((p0 < p1 → Q p1 σ) ∧ (¬ p0 < p1 → Q p0 σ))
set_option maxHeartbeats 4000000 in
set_option maxRecDepth 100000 in
theorem c_J9_max_7cf53 (l : Launch) (D : va_G) (cy : Nat → ClassId) (p0 : Int32) (p1 : Int32) (σ : Sto) (Q : Int32 → Sto → Prop) (h : wp_J9_max_7cf53 p0 p1 σ Q) : Mt l D cy yJ9_max_7cf53 cJ9_max_7cf53 2 (some .int) rm_J9_max_7cf53 [.int p0, .int p1] σ (PsI Q) := by
  unfold wp_J9_max_7cf53 at h
  refine mt_ofF (by decide +kernel) (Nat.le_of_ble_eq_true rfl) ?_
  intro p e s m args below meth c A ls C hr hnm hl
  have C : Cx p s m args meth c D cy A cJ9_max_7cf53 2 RJ9 := C
  have hl : lv_has ls 2 [(0, .int p0), (1, .int p1)] := hl
  refine x_iload_n C dJ9_max_7cf53_0 rfl (lv_at hl 0 rfl) ?_
  refine x_iload_n C dJ9_max_7cf53_1 rfl (lv_at hl 1 rfl) ?_
  refine x_icmp_lt (tgt := 9) C dJ9_max_7cf53_2 (by decide) (fun c1 => ?_) (fun c1 => ?_)
  · have h := h.1 c1
    refine x_iload_n C dJ9_max_7cf53_9 rfl (lv_at hl 1 rfl) ?_
    exact x_iret C hr dJ9_max_7cf53_10 ⟨_, rfl, h⟩
  · have h := h.2 c1
    refine x_iload_n C dJ9_max_7cf53_5 rfl (lv_at hl 0 rfl) ?_
    refine x_goto (tgt := 10) C dJ9_max_7cf53_6 (by decide) ?_
    exact x_iret C hr dJ9_max_7cf53_10 ⟨_, rfl, h⟩
theorem dX0_init_0 : decode cX0_init 0 = .ok (.aload_n 0, 1) := by decide +kernel
theorem dX0_init_1 : decode cX0_init 1 = .ok (.invokespecial 3, 3) := by decide +kernel
theorem dX0_init_4 : decode cX0_init 4 = .ok (.aload_n 0, 1) := by decide +kernel
theorem dX0_init_5 : decode cX0_init 5 = .ok (.iconst 0, 1) := by decide +kernel
theorem dX0_init_6 : decode cX0_init 6 = .ok (.iload_n 1, 1) := by decide +kernel
theorem dX0_init_7 : decode cX0_init 7 = .ok (.invokestatic 9, 3) := by decide +kernel
theorem dX0_init_10 : decode cX0_init 10 = .ok (.newarray .byte, 2) := by decide +kernel
theorem dX0_init_12 : decode cX0_init 12 = .ok (.putfield 15, 3) := by decide +kernel
theorem dX0_init_15 : decode cX0_init 15 = .ok (.return_, 1) := by decide +kernel
abbrev rm_X0_init : Room := { frames := 1, cells := 1, slots := 2560, locals := 21 }
def wp_X0_init (a0 : Nat) (p1 : Int32) (σ : Sto) (Q : Sto → Prop) : Prop := ((0 ≤ 1 ∧ 0 ≤ 2560) ∧ (wp_J9_max_7cf53 (0 : Int32) p1 σ (fun (x3 : Int32) (σ2 : Sto) => (¬ x3 < 0 ∧ x3.toNatClampNeg ≤ 67108864 ∧ 0 + 1 ≤ 1 ∧ 0 + x3.toNatClampNeg ≤ 2560 ∧ (∀ q8 : Nat, ¬ sK σ2 q8 < 23 → ∀ σ10 : Sto, σ10 = stN σ2 q8 13 x3.toNatClampNeg → (sK σ10 a0 = 0 ∧ (((0 + 1) ≤ 1 ∧ (0 + x3.toNatClampNeg) ≤ 2560) ∧ Q (stP σ10 a0 0 (some q8)))))))))
set_option maxHeartbeats 4000000 in
set_option maxRecDepth 100000 in
theorem c_X0_init (l : Launch) (D : va_G) (cy : Nat → ClassId) (a0 : Nat) (p1 : Int32) (σ : Sto) (Q : Sto → Prop) (h : wp_X0_init a0 p1 σ Q) : Mt l D cy yX0_init cX0_init 2 none rm_X0_init [.ref a0, .int p1] σ (PsV Q) := by
  unfold wp_X0_init at h
  refine mt_of (by decide +kernel) (Nat.le_of_ble_eq_true rfl) ?_
  intro p e s m args below meth c A ls C hr hnm hl
  have C : Cx p s m args meth c D cy A cX0_init 2 RX0 := C
  have hl : lv_has ls 2 [(0, .ref a0), (1, .int p1)] := hl
  refine x_aload_n C dX0_init_0 rfl (lv_at hl 0 rfl) ?_
  refine x_objInit C oi_RX0_3 oi_w2 oi_w3 hl.1 (by decide) (Nat.le_of_ble_eq_true rfl) dX0_init_1 ?_
  refine x_aload_n C dX0_init_4 rfl (lv_at hl 0 rfl) ?_
  refine x_iconst (v := 0) C dX0_init_5 (by decide) ?_
  refine x_iload_n C dX0_init_6 rfl (lv_at hl 1 rfl) ?_
  obtain ⟨g1, h⟩ := h
  refine x_callS (rm := rm_J9_max_7cf53) (rest := [.ref a0]) (As := [.int (0 : Int32), .int p1]) C cs_RX0_9 (by decide) g1 rfl rfl (Nat.le_of_ble_eq_true rfl) hl.1 dX0_init_7 (c_J9_max_7cf53 l D cy (0 : Int32) p1 σ _ h) (ks_i (fun x3 σ2 h => ?_))
  obtain ⟨g6, g7, g4, g5, h⟩ := h
  refine x_newa C nak_13 g6 rfl g7 g4 g5 dX0_init_10 (fun q8 g9 => ?_)
  refine x_nameS (fun σ10 e11 => ?_)
  have h := h q8 g9 σ10 e11
  obtain ⟨g12, h⟩ := h
  refine x_putR C fl_RX0_15 (rty_a _) (Or.inr ⟨hnm, _, _, _, rfl, rfl⟩) g12 dX0_init_12 ?_
  refine x_widen h.1.1 h.1.2 ?_
  exact x_vret C hr dX0_init_15 ⟨rfl, h.2⟩
theorem dX0_at_0 : decode cX0_at 0 = .ok (.iload_n 1, 1) := by decide +kernel
theorem dX0_at_1 : decode cX0_at 1 = .ok (.ifCond .lt 33, 3) := by decide +kernel
theorem dX0_at_4 : decode cX0_at 4 = .ok (.iload_n 1, 1) := by decide +kernel
theorem dX0_at_5 : decode cX0_at 5 = .ok (.aload_n 0, 1) := by decide +kernel
theorem dX0_at_6 : decode cX0_at 6 = .ok (.getfield 21, 3) := by decide +kernel
theorem dX0_at_9 : decode cX0_at 9 = .ok (.if_icmp .ge 25, 3) := by decide +kernel
theorem dX0_at_12 : decode cX0_at 12 = .ok (.iload_n 1, 1) := by decide +kernel
theorem dX0_at_13 : decode cX0_at 13 = .ok (.aload_n 0, 1) := by decide +kernel
theorem dX0_at_14 : decode cX0_at 14 = .ok (.getfield 15, 3) := by decide +kernel
theorem dX0_at_17 : decode cX0_at 17 = .ok (.arraylength, 1) := by decide +kernel
theorem dX0_at_18 : decode cX0_at 18 = .ok (.if_icmp .ge 16, 3) := by decide +kernel
theorem dX0_at_21 : decode cX0_at 21 = .ok (.aload_n 0, 1) := by decide +kernel
theorem dX0_at_22 : decode cX0_at 22 = .ok (.getfield 15, 3) := by decide +kernel
theorem dX0_at_25 : decode cX0_at 25 = .ok (.iload_n 1, 1) := by decide +kernel
theorem dX0_at_26 : decode cX0_at 26 = .ok (.baload, 1) := by decide +kernel
theorem dX0_at_27 : decode cX0_at 27 = .ok (.sipush 255, 3) := by decide +kernel
theorem dX0_at_30 : decode cX0_at 30 = .ok (.iand, 1) := by decide +kernel
theorem dX0_at_31 : decode cX0_at 31 = .ok (.goto 4, 3) := by decide +kernel
theorem dX0_at_34 : decode cX0_at 34 = .ok (.iconst (-1), 1) := by decide +kernel
theorem dX0_at_35 : decode cX0_at 35 = .ok (.ireturn, 1) := by decide +kernel
abbrev rm_X0_at : Room := { frames := 0, cells := 0, slots := 0, locals := 0 }
def wp_X0_at (a0 : Nat) (p1 : Int32) (σ : Sto) (Q : Int32 → Sto → Prop) : Prop := ((p1 < 0 → Q (-1 : Int32) σ) ∧ (¬ p1 < 0 → (sK σ a0 = 0 ∧ (∀ x3 : Int32, x3 = sI σ a0 1 → ((x3 ≤ p1 → Q (-1 : Int32) σ) ∧ (¬ x3 ≤ p1 → (∃ b6 : Nat, sP σ a0 0 = some b6 ∧ (sK σ b6 = 13 ∧ (((nI (sN σ b6)) ≤ p1 → Q (-1 : Int32) σ) ∧ (¬ (nI (sN σ b6)) ≤ p1 → (vp_in p1 (sN σ b6) ∧ (∀ x11 : Int32, x11 = sI σ b6 p1.toNatClampNeg → Q (x11 &&& (255 : Int32)) σ))))))))))))
set_option maxHeartbeats 4000000 in
set_option maxRecDepth 100000 in
theorem c_X0_at (l : Launch) (D : va_G) (cy : Nat → ClassId) (a0 : Nat) (p1 : Int32) (σ : Sto) (Q : Int32 → Sto → Prop) (h : wp_X0_at a0 p1 σ Q) : Mt l D cy yX0_at cX0_at 2 (some .int) rm_X0_at [.ref a0, .int p1] σ (PsI Q) := by
  unfold wp_X0_at at h
  refine mt_of (by decide +kernel) (Nat.le_of_ble_eq_true rfl) ?_
  intro p e s m args below meth c A ls C hr hnm hl
  have C : Cx p s m args meth c D cy A cX0_at 2 RX0 := C
  have hl : lv_has ls 2 [(0, .ref a0), (1, .int p1)] := hl
  refine x_iload_n C dX0_at_0 rfl (lv_at hl 1 rfl) ?_
  refine x_if_lt (tgt := 34) C dX0_at_1 (by decide) (fun c1 => ?_) (fun c1 => ?_)
  · have h := h.1 c1
    refine x_iconst (v := -1) C dX0_at_34 (by decide) ?_
    exact x_iret C hr dX0_at_35 ⟨_, rfl, h⟩
  · have h := h.2 c1
    refine x_iload_n C dX0_at_4 rfl (lv_at hl 1 rfl) ?_
    refine x_aload_n C dX0_at_5 rfl (lv_at hl 0 rfl) ?_
    obtain ⟨g2, h⟩ := h
    refine x_getI C fl_RX0_21 g2 dX0_at_6 ?_
    refine x_topi (fun x3 e4 => ?_)
    have h := h x3 e4
    refine x_icmp_ge (tgt := 34) C dX0_at_9 (by decide) (fun c5 => ?_) (fun c5 => ?_)
    · have h := h.1 c5
      refine x_iconst (v := -1) C dX0_at_34 (by decide) ?_
      exact x_iret C hr dX0_at_35 ⟨_, rfl, h⟩
    · have h := h.2 c5
      refine x_iload_n C dX0_at_12 rfl (lv_at hl 1 rfl) ?_
      refine x_aload_n C dX0_at_13 rfl (lv_at hl 0 rfl) ?_
      refine x_getP C fl_RX0_15 g2 dX0_at_14 ?_
      obtain ⟨b6, g7, h⟩ := h
      refine x_nn0 g7 ?_
      obtain ⟨g8, h⟩ := h
      refine x_alen C g8 (by decide) (by decide) dX0_at_17 ?_
      refine x_icmp_ge (tgt := 34) C dX0_at_18 (by decide) (fun c9 => ?_) (fun c9 => ?_)
      · have h := h.1 c9
        refine x_iconst (v := -1) C dX0_at_34 (by decide) ?_
        exact x_iret C hr dX0_at_35 ⟨_, rfl, h⟩
      · have h := h.2 c9
        refine x_aload_n C dX0_at_21 rfl (lv_at hl 0 rfl) ?_
        refine x_getP C fl_RX0_15 g2 dX0_at_22 ?_
        refine x_iload_n C dX0_at_25 rfl (lv_at hl 1 rfl) ?_
        refine x_nn1 g7 ?_
        obtain ⟨g10, h⟩ := h
        refine x_bald C g8 g10 dX0_at_26 ?_
        refine x_topi (fun x11 e12 => ?_)
        have h := h x11 e12
        refine x_sipush (v := 255) C dX0_at_27 (by decide) ?_
        refine x_iand C dX0_at_30 ?_
        refine x_goto (tgt := 35) C dX0_at_31 (by decide) ?_
        exact x_iret C hr dX0_at_35 ⟨_, rfl, h⟩
theorem dX0_add_0 : decode cX0_add 0 = .ok (.aload_n 0, 1) := by decide +kernel
theorem dX0_add_1 : decode cX0_add 1 = .ok (.getfield 21, 3) := by decide +kernel
theorem dX0_add_4 : decode cX0_add 4 = .ok (.ifCond .lt 36, 3) := by decide +kernel
theorem dX0_add_7 : decode cX0_add 7 = .ok (.aload_n 0, 1) := by decide +kernel
theorem dX0_add_8 : decode cX0_add 8 = .ok (.getfield 21, 3) := by decide +kernel
theorem dX0_add_11 : decode cX0_add 11 = .ok (.aload_n 0, 1) := by decide +kernel
theorem dX0_add_12 : decode cX0_add 12 = .ok (.getfield 15, 3) := by decide +kernel
theorem dX0_add_15 : decode cX0_add 15 = .ok (.arraylength, 1) := by decide +kernel
theorem dX0_add_16 : decode cX0_add 16 = .ok (.if_icmp .ge 24, 3) := by decide +kernel
theorem dX0_add_19 : decode cX0_add 19 = .ok (.aload_n 0, 1) := by decide +kernel
theorem dX0_add_20 : decode cX0_add 20 = .ok (.getfield 15, 3) := by decide +kernel
theorem dX0_add_23 : decode cX0_add 23 = .ok (.aload_n 0, 1) := by decide +kernel
theorem dX0_add_24 : decode cX0_add 24 = .ok (.getfield 21, 3) := by decide +kernel
theorem dX0_add_27 : decode cX0_add 27 = .ok (.iload_n 1, 1) := by decide +kernel
theorem dX0_add_28 : decode cX0_add 28 = .ok (.i2b, 1) := by decide +kernel
theorem dX0_add_29 : decode cX0_add 29 = .ok (.bastore, 1) := by decide +kernel
theorem dX0_add_30 : decode cX0_add 30 = .ok (.aload_n 0, 1) := by decide +kernel
theorem dX0_add_31 : decode cX0_add 31 = .ok (.dup, 1) := by decide +kernel
theorem dX0_add_32 : decode cX0_add 32 = .ok (.getfield 21, 3) := by decide +kernel
theorem dX0_add_35 : decode cX0_add 35 = .ok (.iconst 1, 1) := by decide +kernel
theorem dX0_add_36 : decode cX0_add 36 = .ok (.iadd, 1) := by decide +kernel
theorem dX0_add_37 : decode cX0_add 37 = .ok (.putfield 21, 3) := by decide +kernel
theorem dX0_add_40 : decode cX0_add 40 = .ok (.return_, 1) := by decide +kernel
abbrev rm_X0_add : Room := { frames := 0, cells := 0, slots := 0, locals := 0 }
def wp_X0_add (a0 : Nat) (p1 : Int32) (σ : Sto) (Q : Sto → Prop) : Prop := (sK σ a0 = 0 ∧ (∀ x2 : Int32, x2 = sI σ a0 1 → ((x2 < 0 → Q σ) ∧ (¬ x2 < 0 → (∀ x5 : Int32, x5 = sI σ a0 1 → (∃ b7 : Nat, sP σ a0 0 = some b7 ∧ (sK σ b7 = 13 ∧ (((nI (sN σ b7)) ≤ x5 → Q σ) ∧ (¬ (nI (sN σ b7)) ≤ x5 → (∀ x11 : Int32, x11 = sI σ a0 1 → (vp_in x11 (sN σ b7) ∧ (∀ x14 : Int32, x14 = sI (stI σ b7 x11.toNatClampNeg (vp_nar .byte p1.toInt8.toInt32)) a0 1 → (∀ x16 : Int32, x16 = x14 + (1 : Int32) → Q (stI (stI σ b7 x11.toNatClampNeg (vp_nar .byte p1.toInt8.toInt32)) a0 1 x16))))))))))))))
set_option maxHeartbeats 4000000 in
set_option maxRecDepth 100000 in
theorem c_X0_add (l : Launch) (D : va_G) (cy : Nat → ClassId) (a0 : Nat) (p1 : Int32) (σ : Sto) (Q : Sto → Prop) (h : wp_X0_add a0 p1 σ Q) : Mt l D cy yX0_add cX0_add 2 none rm_X0_add [.ref a0, .int p1] σ (PsV Q) := by
  unfold wp_X0_add at h
  refine mt_of (by decide +kernel) (Nat.le_of_ble_eq_true rfl) ?_
  intro p e s m args below meth c A ls C hr hnm hl
  have C : Cx p s m args meth c D cy A cX0_add 2 RX0 := C
  have hl : lv_has ls 2 [(0, .ref a0), (1, .int p1)] := hl
  refine x_aload_n C dX0_add_0 rfl (lv_at hl 0 rfl) ?_
  obtain ⟨g1, h⟩ := h
  refine x_getI C fl_RX0_21 g1 dX0_add_1 ?_
  refine x_topi (fun x2 e3 => ?_)
  have h := h x2 e3
  refine x_if_lt (tgt := 40) C dX0_add_4 (by decide) (fun c4 => ?_) (fun c4 => ?_)
  · have h := h.1 c4
    exact x_vret C hr dX0_add_40 ⟨rfl, h⟩
  · have h := h.2 c4
    refine x_aload_n C dX0_add_7 rfl (lv_at hl 0 rfl) ?_
    refine x_getI C fl_RX0_21 g1 dX0_add_8 ?_
    refine x_topi (fun x5 e6 => ?_)
    have h := h x5 e6
    refine x_aload_n C dX0_add_11 rfl (lv_at hl 0 rfl) ?_
    refine x_getP C fl_RX0_15 g1 dX0_add_12 ?_
    obtain ⟨b7, g8, h⟩ := h
    refine x_nn0 g8 ?_
    obtain ⟨g9, h⟩ := h
    refine x_alen C g9 (by decide) (by decide) dX0_add_15 ?_
    refine x_icmp_ge (tgt := 40) C dX0_add_16 (by decide) (fun c10 => ?_) (fun c10 => ?_)
    · have h := h.1 c10
      exact x_vret C hr dX0_add_40 ⟨rfl, h⟩
    · have h := h.2 c10
      refine x_aload_n C dX0_add_19 rfl (lv_at hl 0 rfl) ?_
      refine x_getP C fl_RX0_15 g1 dX0_add_20 ?_
      refine x_aload_n C dX0_add_23 rfl (lv_at hl 0 rfl) ?_
      refine x_getI C fl_RX0_21 g1 dX0_add_24 ?_
      refine x_topi (fun x11 e12 => ?_)
      have h := h x11 e12
      refine x_iload_n C dX0_add_27 rfl (lv_at hl 1 rfl) ?_
      refine x_i2b C dX0_add_28 ?_
      refine x_nn2 g8 ?_
      obtain ⟨g13, h⟩ := h
      refine x_bast C g9 g13 dX0_add_29 ?_
      refine x_aload_n C dX0_add_30 rfl (lv_at hl 0 rfl) ?_
      refine x_dup C dX0_add_31 (rfl) ?_
      refine x_getI C fl_RX0_21 g1 dX0_add_32 ?_
      refine x_topi (fun x14 e15 => ?_)
      have h := h x14 e15
      refine x_iconst (v := 1) C dX0_add_35 (by decide) ?_
      refine x_iadd C dX0_add_36 ?_
      refine x_topi (fun x16 e17 => ?_)
      have h := h x16 e17
      refine x_putI C fl_RX0_21 (Or.inl rfl) g1 dX0_add_37 ?_
      exact x_vret C hr dX0_add_40 ⟨rfl, h⟩
theorem dX0_addZeros_0 : decode cX0_addZeros 0 = .ok (.iconst 0, 1) := by decide +kernel
theorem dX0_addZeros_1 : decode cX0_addZeros 1 = .ok (.istore_n 2, 1) := by decide +kernel
theorem dX0_addZeros_2 : decode cX0_addZeros 2 = .ok (.iload_n 2, 1) := by decide +kernel
theorem dX0_addZeros_3 : decode cX0_addZeros 3 = .ok (.iload_n 1, 1) := by decide +kernel
theorem dX0_addZeros_4 : decode cX0_addZeros 4 = .ok (.if_icmp .ge 14, 3) := by decide +kernel
theorem dX0_addZeros_7 : decode cX0_addZeros 7 = .ok (.aload_n 0, 1) := by decide +kernel
theorem dX0_addZeros_8 : decode cX0_addZeros 8 = .ok (.iconst 0, 1) := by decide +kernel
theorem dX0_addZeros_9 : decode cX0_addZeros 9 = .ok (.invokevirtual 25, 3) := by decide +kernel
theorem dX0_addZeros_12 : decode cX0_addZeros 12 = .ok (.iinc 2 1, 3) := by decide +kernel
theorem dX0_addZeros_15 : decode cX0_addZeros 15 = .ok (.goto (-13), 3) := by decide +kernel
theorem dX0_addZeros_18 : decode cX0_addZeros 18 = .ok (.return_, 1) := by decide +kernel
abbrev rm_X0_addZeros : Room := { frames := 1, cells := 0, slots := 0, locals := 21 }
def f_X0_addZeros_2 (a0 : Nat)  (Q : Sto → Prop) (L2 : Int32 × Int32 → Sto → Prop) (t : Int32 × Int32) (σ : Sto) : Prop := ((t.1 ≤ t.2 → Q σ) ∧ (¬ t.1 ≤ t.2 → (sK σ a0 = 0 ∧ (wp_X0_add a0 (0 : Int32) σ (fun (σ3 : Sto) => (∀ x4 : Int32, x4 = t.2 + (1 : Int32) → L2 (t.1, x4) σ3))))))
set_option maxHeartbeats 4000000 in
set_option maxRecDepth 100000 in
theorem t_X0_addZeros_2 {p : Program} {l : Launch} {e : Env} {s : State} {m : MethodId} {args : Array Value} {below : List Frame} {meth : Method} {c : Code} {D : va_G} {cy : Nat → ClassId} {A : Nat → Prop} {a0 : Nat} {Q : Sto → Prop} {L2 : Int32 × Int32 → Sto → Prop} (C : Cx p s m args meth c D cy A cX0_addZeros 3 RX0) (hr : meth.sig.returnType = none) (hnm : meth.name = yX0_addZeros.name) (hL2 : ∀ (t : Int32 × Int32) (σ : Sto), L2 t σ → ∀ ls : Array Slot, lv_has ls 3 [(0, .ref a0), (1, .int t.1), (2, .int t.2)] → Xw p l e rm_X0_addZeros s m args below meth c D cy A σ 0 0 (MQ below (Qst D cy A (PsV Q)) args s rm_X0_addZeros.cells rm_X0_addZeros.slots A) (F0 m 2 ls [])) : ∀ (t : Int32 × Int32) (σ : Sto), f_X0_addZeros_2 a0  Q L2 t σ → ∀ ls : Array Slot, lv_has ls 3 [(0, .ref a0), (1, .int t.1), (2, .int t.2)] → Xw p l e rm_X0_addZeros s m args below meth c D cy A σ 0 0 (MQ below (Qst D cy A (PsV Q)) args s rm_X0_addZeros.cells rm_X0_addZeros.slots A) (F0 m 2 ls []) := by
  intro t σ h ls hl
  unfold f_X0_addZeros_2 at h
  refine x_iload_n C dX0_addZeros_2 rfl (lv_at hl 2 rfl) ?_
  refine x_iload_n C dX0_addZeros_3 rfl (lv_at hl 1 rfl) ?_
  refine x_icmp_ge (tgt := 18) C dX0_addZeros_4 (by decide) (fun c1 => ?_) (fun c1 => ?_)
  · have h := h.1 c1
    exact x_vret C hr dX0_addZeros_18 ⟨rfl, h⟩
  · have h := h.2 c1
    refine x_aload_n C dX0_addZeros_7 rfl (lv_at hl 0 rfl) ?_
    refine x_iconst (v := 0) C dX0_addZeros_8 (by decide) ?_
    obtain ⟨g2, h⟩ := h
    refine x_callV (rm := rm_X0_add) (rest := []) (As := [.int (0 : Int32)]) C cy_RX0_25 g2 (by decide) (by decide) rfl rfl (Nat.le_of_ble_eq_true rfl) hl.1 dX0_addZeros_9 (c_X0_add l D cy a0 (0 : Int32) σ _ h) (ks_v (fun σ3 h => ?_))
    obtain ⟨x4, e5⟩ : ∃ z : Int32, z = t.2 + (1 : Int32) := ⟨_, rfl⟩
    have h := h x4 e5
    refine x_iinc (v := x4) (lv' := [(2, .int x4), (0, .ref a0), (1, .int t.1)]) C dX0_addZeros_12 hl (q0 := 2) rfl (by rw [e5]; rfl) (by decide) (by first | rfl | simp [vrc, cat_i, cat_r, cat_l]) (fun ls hl => ?_)
    refine x_goto (tgt := 2) C dX0_addZeros_15 (by decide) ?_
    exact hL2 (t.1, x4) _ h ls (lv_sub hl [1, 2, 0] rfl)
def wp_X0_addZeros (a0 : Nat) (p1 : Int32) (σ : Sto) (Q : Sto → Prop) : Prop := LF (f_X0_addZeros_2 a0  Q) (p1, (0 : Int32)) σ
set_option maxHeartbeats 4000000 in
set_option maxRecDepth 100000 in
theorem c_X0_addZeros (l : Launch) (D : va_G) (cy : Nat → ClassId) (a0 : Nat) (p1 : Int32) (σ : Sto) (Q : Sto → Prop) (h : wp_X0_addZeros a0 p1 σ Q) : Mt l D cy yX0_addZeros cX0_addZeros 3 none rm_X0_addZeros [.ref a0, .int p1] σ (PsV Q) := by
  unfold wp_X0_addZeros at h
  refine mt_of (by decide +kernel) (Nat.le_of_ble_eq_true rfl) ?_
  intro p e s m args below meth c A ls C hr hnm hl
  have C : Cx p s m args meth c D cy A cX0_addZeros 3 RX0 := C
  have hl : lv_has ls 3 [(0, .ref a0), (1, .int p1)] := hl
  refine x_iconst (v := 0) C dX0_addZeros_0 (by decide) ?_
  refine x_istore_n (i := 2) (lv' := [(2, .int (0 : Int32)), (0, .ref a0), (1, .int p1)]) C dX0_addZeros_1 rfl hl (by decide) (by first | rfl | simp [vrc, cat_i, cat_r, cat_l]) (fun ls hl => ?_)
  exact h (fun t σ => ∀ ls : Array Slot, lv_has ls 3 [(0, .ref a0), (1, .int t.1), (2, .int t.2)] → Xw p l e rm_X0_addZeros s m args below meth c D cy A σ 0 0 (MQ below (Qst D cy A (PsV Q)) args s rm_X0_addZeros.cells rm_X0_addZeros.slots A) (F0 m 2 ls [])) (t_X0_addZeros_2 C hr hnm  (fun t σ h => h)) ls (lv_sub hl [1, 2, 0] rfl)
theorem dX0_addWord_0 : decode cX0_addWord 0 = .ok (.bipush 24, 2) := by decide +kernel
theorem dX0_addWord_2 : decode cX0_addWord 2 = .ok (.istore_n 2, 1) := by decide +kernel
theorem dX0_addWord_3 : decode cX0_addWord 3 = .ok (.iload_n 2, 1) := by decide +kernel
theorem dX0_addWord_4 : decode cX0_addWord 4 = .ok (.ifCond .lt 16, 3) := by decide +kernel
theorem dX0_addWord_7 : decode cX0_addWord 7 = .ok (.aload_n 0, 1) := by decide +kernel
theorem dX0_addWord_8 : decode cX0_addWord 8 = .ok (.iload_n 1, 1) := by decide +kernel
theorem dX0_addWord_9 : decode cX0_addWord 9 = .ok (.iload_n 2, 1) := by decide +kernel
theorem dX0_addWord_10 : decode cX0_addWord 10 = .ok (.iushr, 1) := by decide +kernel
theorem dX0_addWord_11 : decode cX0_addWord 11 = .ok (.invokevirtual 25, 3) := by decide +kernel
theorem dX0_addWord_14 : decode cX0_addWord 14 = .ok (.iinc 2 (-8), 3) := by decide +kernel
theorem dX0_addWord_17 : decode cX0_addWord 17 = .ok (.goto (-14), 3) := by decide +kernel
theorem dX0_addWord_20 : decode cX0_addWord 20 = .ok (.return_, 1) := by decide +kernel
abbrev rm_X0_addWord : Room := { frames := 1, cells := 0, slots := 0, locals := 21 }
def f_X0_addWord_3 (a0 : Nat)  (Q : Sto → Prop) (L3 : Int32 × Int32 → Sto → Prop) (t : Int32 × Int32) (σ : Sto) : Prop := ((t.2 < 0 → Q σ) ∧ (¬ t.2 < 0 → (sK σ a0 = 0 ∧ (wp_X0_add a0 ((t.1.toUInt32 >>> (t.2.toUInt32 &&& Int32.toUInt32 31)).toInt32) σ (fun (σ3 : Sto) => (∀ x4 : Int32, x4 = t.2 + (-8 : Int32) → L3 (t.1, x4) σ3))))))
set_option maxHeartbeats 4000000 in
set_option maxRecDepth 100000 in
theorem t_X0_addWord_3 {p : Program} {l : Launch} {e : Env} {s : State} {m : MethodId} {args : Array Value} {below : List Frame} {meth : Method} {c : Code} {D : va_G} {cy : Nat → ClassId} {A : Nat → Prop} {a0 : Nat} {Q : Sto → Prop} {L3 : Int32 × Int32 → Sto → Prop} (C : Cx p s m args meth c D cy A cX0_addWord 3 RX0) (hr : meth.sig.returnType = none) (hnm : meth.name = yX0_addWord.name) (hL3 : ∀ (t : Int32 × Int32) (σ : Sto), L3 t σ → ∀ ls : Array Slot, lv_has ls 3 [(0, .ref a0), (1, .int t.1), (2, .int t.2)] → Xw p l e rm_X0_addWord s m args below meth c D cy A σ 0 0 (MQ below (Qst D cy A (PsV Q)) args s rm_X0_addWord.cells rm_X0_addWord.slots A) (F0 m 3 ls [])) : ∀ (t : Int32 × Int32) (σ : Sto), f_X0_addWord_3 a0  Q L3 t σ → ∀ ls : Array Slot, lv_has ls 3 [(0, .ref a0), (1, .int t.1), (2, .int t.2)] → Xw p l e rm_X0_addWord s m args below meth c D cy A σ 0 0 (MQ below (Qst D cy A (PsV Q)) args s rm_X0_addWord.cells rm_X0_addWord.slots A) (F0 m 3 ls []) := by
  intro t σ h ls hl
  unfold f_X0_addWord_3 at h
  refine x_iload_n C dX0_addWord_3 rfl (lv_at hl 2 rfl) ?_
  refine x_if_lt (tgt := 20) C dX0_addWord_4 (by decide) (fun c1 => ?_) (fun c1 => ?_)
  · have h := h.1 c1
    exact x_vret C hr dX0_addWord_20 ⟨rfl, h⟩
  · have h := h.2 c1
    refine x_aload_n C dX0_addWord_7 rfl (lv_at hl 0 rfl) ?_
    refine x_iload_n C dX0_addWord_8 rfl (lv_at hl 1 rfl) ?_
    refine x_iload_n C dX0_addWord_9 rfl (lv_at hl 2 rfl) ?_
    refine x_iushr C dX0_addWord_10 ?_
    obtain ⟨g2, h⟩ := h
    refine x_callV (rm := rm_X0_add) (rest := []) (As := [.int ((t.1.toUInt32 >>> (t.2.toUInt32 &&& Int32.toUInt32 31)).toInt32)]) C cy_RX0_25 g2 (by decide) (by decide) rfl rfl (Nat.le_of_ble_eq_true rfl) hl.1 dX0_addWord_11 (c_X0_add l D cy a0 ((t.1.toUInt32 >>> (t.2.toUInt32 &&& Int32.toUInt32 31)).toInt32) σ _ h) (ks_v (fun σ3 h => ?_))
    obtain ⟨x4, e5⟩ : ∃ z : Int32, z = t.2 + (-8 : Int32) := ⟨_, rfl⟩
    have h := h x4 e5
    refine x_iinc (v := x4) (lv' := [(2, .int x4), (0, .ref a0), (1, .int t.1)]) C dX0_addWord_14 hl (q0 := 2) rfl (by rw [e5]; rfl) (by decide) (by first | rfl | simp [vrc, cat_i, cat_r, cat_l]) (fun ls hl => ?_)
    refine x_goto (tgt := 3) C dX0_addWord_17 (by decide) ?_
    exact hL3 (t.1, x4) _ h ls (lv_sub hl [1, 2, 0] rfl)
def wp_X0_addWord (a0 : Nat) (p1 : Int32) (σ : Sto) (Q : Sto → Prop) : Prop := LF (f_X0_addWord_3 a0  Q) (p1, (24 : Int32)) σ
set_option maxHeartbeats 4000000 in
set_option maxRecDepth 100000 in
theorem c_X0_addWord (l : Launch) (D : va_G) (cy : Nat → ClassId) (a0 : Nat) (p1 : Int32) (σ : Sto) (Q : Sto → Prop) (h : wp_X0_addWord a0 p1 σ Q) : Mt l D cy yX0_addWord cX0_addWord 3 none rm_X0_addWord [.ref a0, .int p1] σ (PsV Q) := by
  unfold wp_X0_addWord at h
  refine mt_of (by decide +kernel) (Nat.le_of_ble_eq_true rfl) ?_
  intro p e s m args below meth c A ls C hr hnm hl
  have C : Cx p s m args meth c D cy A cX0_addWord 3 RX0 := C
  have hl : lv_has ls 3 [(0, .ref a0), (1, .int p1)] := hl
  refine x_bipush (v := 24) C dX0_addWord_0 (by decide) ?_
  refine x_istore_n (i := 2) (lv' := [(2, .int (24 : Int32)), (0, .ref a0), (1, .int p1)]) C dX0_addWord_2 rfl hl (by decide) (by first | rfl | simp [vrc, cat_i, cat_r, cat_l]) (fun ls hl => ?_)
  exact h (fun t σ => ∀ ls : Array Slot, lv_has ls 3 [(0, .ref a0), (1, .int t.1), (2, .int t.2)] → Xw p l e rm_X0_addWord s m args below meth c D cy A σ 0 0 (MQ below (Qst D cy A (PsV Q)) args s rm_X0_addWord.cells rm_X0_addWord.slots A) (F0 m 3 ls [])) (t_X0_addWord_3 C hr hnm  (fun t σ h => h)) ls (lv_sub hl [1, 2, 0] rfl)
theorem dX0_addNumber_0 : decode cX0_addNumber 0 = .ok (.iload_n 1, 1) := by decide +kernel
theorem dX0_addNumber_1 : decode cX0_addNumber 1 = .ok (.istore_n 2, 1) := by decide +kernel
theorem dX0_addNumber_2 : decode cX0_addNumber 2 = .ok (.iconst 0, 1) := by decide +kernel
theorem dX0_addNumber_3 : decode cX0_addNumber 3 = .ok (.istore_n 3, 1) := by decide +kernel
theorem dX0_addNumber_4 : decode cX0_addNumber 4 = .ok (.iload_n 3, 1) := by decide +kernel
theorem dX0_addNumber_5 : decode cX0_addNumber 5 = .ok (.iconst 4, 1) := by decide +kernel
theorem dX0_addNumber_6 : decode cX0_addNumber 6 = .ok (.if_icmp .ge 33, 3) := by decide +kernel
theorem dX0_addNumber_9 : decode cX0_addNumber 9 = .ok (.iload_n 2, 1) := by decide +kernel
theorem dX0_addNumber_10 : decode cX0_addNumber 10 = .ok (.bipush 7, 2) := by decide +kernel
theorem dX0_addNumber_12 : decode cX0_addNumber 12 = .ok (.iushr, 1) := by decide +kernel
theorem dX0_addNumber_13 : decode cX0_addNumber 13 = .ok (.ifCond .eq 26, 3) := by decide +kernel
theorem dX0_addNumber_16 : decode cX0_addNumber 16 = .ok (.aload_n 0, 1) := by decide +kernel
theorem dX0_addNumber_17 : decode cX0_addNumber 17 = .ok (.iload_n 2, 1) := by decide +kernel
theorem dX0_addNumber_18 : decode cX0_addNumber 18 = .ok (.bipush 127, 2) := by decide +kernel
theorem dX0_addNumber_20 : decode cX0_addNumber 20 = .ok (.iand, 1) := by decide +kernel
theorem dX0_addNumber_21 : decode cX0_addNumber 21 = .ok (.sipush 128, 3) := by decide +kernel
theorem dX0_addNumber_24 : decode cX0_addNumber 24 = .ok (.ior, 1) := by decide +kernel
theorem dX0_addNumber_25 : decode cX0_addNumber 25 = .ok (.invokevirtual 25, 3) := by decide +kernel
theorem dX0_addNumber_28 : decode cX0_addNumber 28 = .ok (.iload_n 2, 1) := by decide +kernel
theorem dX0_addNumber_29 : decode cX0_addNumber 29 = .ok (.bipush 7, 2) := by decide +kernel
theorem dX0_addNumber_31 : decode cX0_addNumber 31 = .ok (.iushr, 1) := by decide +kernel
theorem dX0_addNumber_32 : decode cX0_addNumber 32 = .ok (.istore_n 2, 1) := by decide +kernel
theorem dX0_addNumber_33 : decode cX0_addNumber 33 = .ok (.iinc 3 1, 3) := by decide +kernel
theorem dX0_addNumber_36 : decode cX0_addNumber 36 = .ok (.goto (-32), 3) := by decide +kernel
theorem dX0_addNumber_39 : decode cX0_addNumber 39 = .ok (.aload_n 0, 1) := by decide +kernel
theorem dX0_addNumber_40 : decode cX0_addNumber 40 = .ok (.iload_n 2, 1) := by decide +kernel
theorem dX0_addNumber_41 : decode cX0_addNumber 41 = .ok (.invokevirtual 25, 3) := by decide +kernel
theorem dX0_addNumber_44 : decode cX0_addNumber 44 = .ok (.return_, 1) := by decide +kernel
abbrev rm_X0_addNumber : Room := { frames := 1, cells := 0, slots := 0, locals := 21 }
def b_X0_addNumber_39 (a0 : Nat)  (Q : Sto → Prop) (p2 : Int32) (σ : Sto) : Prop := (sK σ a0 = 0 ∧ (wp_X0_add a0 p2 σ (fun (σ2 : Sto) => Q σ2)))
set_option maxHeartbeats 4000000 in
set_option maxRecDepth 100000 in
theorem t_X0_addNumber_39 {p : Program} {l : Launch} {e : Env} {s : State} {m : MethodId} {args : Array Value} {below : List Frame} {meth : Method} {c : Code} {D : va_G} {cy : Nat → ClassId} {A : Nat → Prop} {a0 : Nat} {Q : Sto → Prop} (C : Cx p s m args meth c D cy A cX0_addNumber 4 RX0) (hr : meth.sig.returnType = none) (hnm : meth.name = yX0_addNumber.name) (p2 : Int32) (σ : Sto) (h : b_X0_addNumber_39 a0  Q p2 σ) (ls : Array Slot) (hl : lv_has ls 4 [(0, .ref a0), (2, .int p2)]) : Xw p l e rm_X0_addNumber s m args below meth c D cy A σ 0 0 (MQ below (Qst D cy A (PsV Q)) args s rm_X0_addNumber.cells rm_X0_addNumber.slots A) (F0 m 39 ls []) := by
  unfold b_X0_addNumber_39 at h
  refine x_aload_n C dX0_addNumber_39 rfl (lv_at hl 0 rfl) ?_
  refine x_iload_n C dX0_addNumber_40 rfl (lv_at hl 1 rfl) ?_
  obtain ⟨g1, h⟩ := h
  refine x_callV (rm := rm_X0_add) (rest := []) (As := [.int p2]) C cy_RX0_25 g1 (by decide) (by decide) rfl rfl (Nat.le_of_ble_eq_true rfl) hl.1 dX0_addNumber_41 (c_X0_add l D cy a0 p2 σ _ h) (ks_v (fun σ2 h => ?_))
  exact x_vret C hr dX0_addNumber_44 ⟨rfl, h⟩
def f_X0_addNumber_4 (a0 : Nat)  (Q : Sto → Prop) (L4 : Int32 × Int32 → Sto → Prop) (t : Int32 × Int32) (σ : Sto) : Prop := (((4 : Int32) ≤ t.2 → b_X0_addNumber_39 a0  Q t.1 σ) ∧ (¬ (4 : Int32) ≤ t.2 → ((((t.1.toUInt32 >>> ((7 : Int32).toUInt32 &&& Int32.toUInt32 31)).toInt32) = 0 → b_X0_addNumber_39 a0  Q t.1 σ) ∧ (¬ ((t.1.toUInt32 >>> ((7 : Int32).toUInt32 &&& Int32.toUInt32 31)).toInt32) = 0 → (sK σ a0 = 0 ∧ (wp_X0_add a0 ((t.1 &&& (127 : Int32)) ||| (128 : Int32)) σ (fun (σ4 : Sto) => (∀ x5 : Int32, x5 = (t.1.toUInt32 >>> ((7 : Int32).toUInt32 &&& Int32.toUInt32 31)).toInt32 → (∀ x7 : Int32, x7 = t.2 + (1 : Int32) → L4 (x5, x7) σ4)))))))))
set_option maxHeartbeats 4000000 in
set_option maxRecDepth 100000 in
theorem t_X0_addNumber_4 {p : Program} {l : Launch} {e : Env} {s : State} {m : MethodId} {args : Array Value} {below : List Frame} {meth : Method} {c : Code} {D : va_G} {cy : Nat → ClassId} {A : Nat → Prop} {a0 : Nat} {Q : Sto → Prop} {L4 : Int32 × Int32 → Sto → Prop} (C : Cx p s m args meth c D cy A cX0_addNumber 4 RX0) (hr : meth.sig.returnType = none) (hnm : meth.name = yX0_addNumber.name) (hL4 : ∀ (t : Int32 × Int32) (σ : Sto), L4 t σ → ∀ ls : Array Slot, lv_has ls 4 [(0, .ref a0), (2, .int t.1), (3, .int t.2)] → Xw p l e rm_X0_addNumber s m args below meth c D cy A σ 0 0 (MQ below (Qst D cy A (PsV Q)) args s rm_X0_addNumber.cells rm_X0_addNumber.slots A) (F0 m 4 ls [])) : ∀ (t : Int32 × Int32) (σ : Sto), f_X0_addNumber_4 a0  Q L4 t σ → ∀ ls : Array Slot, lv_has ls 4 [(0, .ref a0), (2, .int t.1), (3, .int t.2)] → Xw p l e rm_X0_addNumber s m args below meth c D cy A σ 0 0 (MQ below (Qst D cy A (PsV Q)) args s rm_X0_addNumber.cells rm_X0_addNumber.slots A) (F0 m 4 ls []) := by
  intro t σ h ls hl
  unfold f_X0_addNumber_4 at h
  refine x_iload_n C dX0_addNumber_4 rfl (lv_at hl 2 rfl) ?_
  refine x_iconst (v := 4) C dX0_addNumber_5 (by decide) ?_
  refine x_icmp_ge (tgt := 39) C dX0_addNumber_6 (by decide) (fun c1 => ?_) (fun c1 => ?_)
  · have h := h.1 c1
    exact t_X0_addNumber_39 C hr hnm  t.1 _ h ls (lv_sub hl [0, 1] rfl)
  · have h := h.2 c1
    refine x_iload_n C dX0_addNumber_9 rfl (lv_at hl 1 rfl) ?_
    refine x_bipush (v := 7) C dX0_addNumber_10 (by decide) ?_
    refine x_iushr C dX0_addNumber_12 ?_
    refine x_if_eq (tgt := 39) C dX0_addNumber_13 (by decide) (fun c2 => ?_) (fun c2 => ?_)
    · have h := h.1 c2
      exact t_X0_addNumber_39 C hr hnm  t.1 _ h ls (lv_sub hl [0, 1] rfl)
    · have h := h.2 c2
      refine x_aload_n C dX0_addNumber_16 rfl (lv_at hl 0 rfl) ?_
      refine x_iload_n C dX0_addNumber_17 rfl (lv_at hl 1 rfl) ?_
      refine x_bipush (v := 127) C dX0_addNumber_18 (by decide) ?_
      refine x_iand C dX0_addNumber_20 ?_
      refine x_sipush (v := 128) C dX0_addNumber_21 (by decide) ?_
      refine x_ior C dX0_addNumber_24 ?_
      obtain ⟨g3, h⟩ := h
      refine x_callV (rm := rm_X0_add) (rest := []) (As := [.int ((t.1 &&& (127 : Int32)) ||| (128 : Int32))]) C cy_RX0_25 g3 (by decide) (by decide) rfl rfl (Nat.le_of_ble_eq_true rfl) hl.1 dX0_addNumber_25 (c_X0_add l D cy a0 ((t.1 &&& (127 : Int32)) ||| (128 : Int32)) σ _ h) (ks_v (fun σ4 h => ?_))
      refine x_iload_n C dX0_addNumber_28 rfl (lv_at hl 1 rfl) ?_
      refine x_bipush (v := 7) C dX0_addNumber_29 (by decide) ?_
      refine x_iushr C dX0_addNumber_31 ?_
      refine x_topi (fun x5 e6 => ?_)
      have h := h x5 e6
      refine x_istore_n (i := 2) (lv' := [(2, .int x5), (0, .ref a0), (3, .int t.2)]) C dX0_addNumber_32 rfl hl (by decide) (by first | rfl | simp [vrc, cat_i, cat_r, cat_l]) (fun ls hl => ?_)
      obtain ⟨x7, e8⟩ : ∃ z : Int32, z = t.2 + (1 : Int32) := ⟨_, rfl⟩
      have h := h x7 e8
      refine x_iinc (v := x7) (lv' := [(3, .int x7), (2, .int x5), (0, .ref a0)]) C dX0_addNumber_33 hl (q0 := 2) rfl (by rw [e8]; rfl) (by decide) (by first | rfl | simp [vrc, cat_i, cat_r, cat_l]) (fun ls hl => ?_)
      refine x_goto (tgt := 4) C dX0_addNumber_36 (by decide) ?_
      exact hL4 (x5, x7) _ h ls (lv_sub hl [2, 1, 0] rfl)
def wp_X0_addNumber (a0 : Nat) (p1 : Int32) (σ : Sto) (Q : Sto → Prop) : Prop := LF (f_X0_addNumber_4 a0  Q) (p1, (0 : Int32)) σ
set_option maxHeartbeats 4000000 in
set_option maxRecDepth 100000 in
theorem c_X0_addNumber (l : Launch) (D : va_G) (cy : Nat → ClassId) (a0 : Nat) (p1 : Int32) (σ : Sto) (Q : Sto → Prop) (h : wp_X0_addNumber a0 p1 σ Q) : Mt l D cy yX0_addNumber cX0_addNumber 4 none rm_X0_addNumber [.ref a0, .int p1] σ (PsV Q) := by
  unfold wp_X0_addNumber at h
  refine mt_of (by decide +kernel) (Nat.le_of_ble_eq_true rfl) ?_
  intro p e s m args below meth c A ls C hr hnm hl
  have C : Cx p s m args meth c D cy A cX0_addNumber 4 RX0 := C
  have hl : lv_has ls 4 [(0, .ref a0), (1, .int p1)] := hl
  refine x_iload_n C dX0_addNumber_0 rfl (lv_at hl 1 rfl) ?_
  refine x_istore_n (i := 2) (lv' := [(2, .int p1), (0, .ref a0), (1, .int p1)]) C dX0_addNumber_1 rfl hl (by decide) (by first | rfl | simp [vrc, cat_i, cat_r, cat_l]) (fun ls hl => ?_)
  refine x_iconst (v := 0) C dX0_addNumber_2 (by decide) ?_
  refine x_istore_n (i := 3) (lv' := [(3, .int (0 : Int32)), (2, .int p1), (0, .ref a0), (1, .int p1)]) C dX0_addNumber_3 rfl hl (by decide) (by first | rfl | simp [vrc, cat_i, cat_r, cat_l]) (fun ls hl => ?_)
  exact h (fun t σ => ∀ ls : Array Slot, lv_has ls 4 [(0, .ref a0), (2, .int t.1), (3, .int t.2)] → Xw p l e rm_X0_addNumber s m args below meth c D cy A σ 0 0 (MQ below (Qst D cy A (PsV Q)) args s rm_X0_addNumber.cells rm_X0_addNumber.slots A) (F0 m 4 ls [])) (t_X0_addNumber_4 C hr hnm  (fun t σ h => h)) ls (lv_sub hl [2, 1, 0] rfl)
theorem dX11_leadOf_0 : decode cX11_leadOf 0 = .ok (.lload_n 0, 1) := by decide +kernel
theorem dX11_leadOf_1 : decode cX11_leadOf 1 = .ok (.l2i, 1) := by decide +kernel
theorem dX11_leadOf_2 : decode cX11_leadOf 2 = .ok (.ireturn, 1) := by decide +kernel
abbrev rm_X11_leadOf : Room := { frames := 0, cells := 0, slots := 0, locals := 0 }
def wp_X11_leadOf (p0 : Int64) (σ : Sto) (Q : Int32 → Sto → Prop) : Prop := Q p0.toInt32 σ
set_option maxHeartbeats 4000000 in
set_option maxRecDepth 100000 in
theorem c_X11_leadOf (l : Launch) (D : va_G) (cy : Nat → ClassId) (p0 : Int64) (σ : Sto) (Q : Int32 → Sto → Prop) (h : wp_X11_leadOf p0 σ Q) : Mt l D cy yX11_leadOf cX11_leadOf 2 (some .int) rm_X11_leadOf [.long p0] σ (PsI Q) := by
  unfold wp_X11_leadOf at h
  refine mt_of (by decide +kernel) (Nat.le_of_ble_eq_true rfl) ?_
  intro p e s m args below meth c A ls C hr hnm hl
  have C : Cx p s m args meth c D cy A cX11_leadOf 2 RX11 := C
  have hl : lv_has ls 2 [(0, .long p0)] := hl
  refine x_lload_n C dX11_leadOf_0 rfl (lv_at hl 0 rfl) ?_
  refine x_l2i C dX11_leadOf_1 ?_
  exact x_iret C hr dX11_leadOf_2 ⟨_, rfl, h⟩
theorem dX11_sessionOf_0 : decode cX11_sessionOf 0 = .ok (.lload_n 0, 1) := by decide +kernel
theorem dX11_sessionOf_1 : decode cX11_sessionOf 1 = .ok (.bipush 32, 2) := by decide +kernel
theorem dX11_sessionOf_3 : decode cX11_sessionOf 3 = .ok (.lshr, 1) := by decide +kernel
theorem dX11_sessionOf_4 : decode cX11_sessionOf 4 = .ok (.l2i, 1) := by decide +kernel
theorem dX11_sessionOf_5 : decode cX11_sessionOf 5 = .ok (.ireturn, 1) := by decide +kernel
abbrev rm_X11_sessionOf : Room := { frames := 0, cells := 0, slots := 0, locals := 0 }
def wp_X11_sessionOf (p0 : Int64) (σ : Sto) (Q : Int32 → Sto → Prop) : Prop := Q ((p0 >>> ((32 : Int32).toInt64 &&& 63)).toInt32) σ
set_option maxHeartbeats 4000000 in
set_option maxRecDepth 100000 in
theorem c_X11_sessionOf (l : Launch) (D : va_G) (cy : Nat → ClassId) (p0 : Int64) (σ : Sto) (Q : Int32 → Sto → Prop) (h : wp_X11_sessionOf p0 σ Q) : Mt l D cy yX11_sessionOf cX11_sessionOf 2 (some .int) rm_X11_sessionOf [.long p0] σ (PsI Q) := by
  unfold wp_X11_sessionOf at h
  refine mt_of (by decide +kernel) (Nat.le_of_ble_eq_true rfl) ?_
  intro p e s m args below meth c A ls C hr hnm hl
  have C : Cx p s m args meth c D cy A cX11_sessionOf 2 RX11 := C
  have hl : lv_has ls 2 [(0, .long p0)] := hl
  refine x_lload_n C dX11_sessionOf_0 rfl (lv_at hl 0 rfl) ?_
  refine x_bipush (v := 32) C dX11_sessionOf_1 (by decide) ?_
  refine x_lshr C dX11_sessionOf_3 ?_
  refine x_l2i C dX11_sessionOf_4 ?_
  exact x_iret C hr dX11_sessionOf_5 ⟨_, rfl, h⟩
theorem dX0_addView_0 : decode cX0_addView 0 = .ok (.aload_n 0, 1) := by decide +kernel
theorem dX0_addView_1 : decode cX0_addView 1 = .ok (.lload_n 1, 1) := by decide +kernel
theorem dX0_addView_2 : decode cX0_addView 2 = .ok (.invokestatic 29, 3) := by decide +kernel
theorem dX0_addView_5 : decode cX0_addView 5 = .ok (.invokevirtual 33, 3) := by decide +kernel
theorem dX0_addView_8 : decode cX0_addView 8 = .ok (.aload_n 0, 1) := by decide +kernel
theorem dX0_addView_9 : decode cX0_addView 9 = .ok (.lload_n 1, 1) := by decide +kernel
theorem dX0_addView_10 : decode cX0_addView 10 = .ok (.invokestatic 36, 3) := by decide +kernel
theorem dX0_addView_13 : decode cX0_addView 13 = .ok (.invokevirtual 33, 3) := by decide +kernel
theorem dX0_addView_16 : decode cX0_addView 16 = .ok (.return_, 1) := by decide +kernel
abbrev rm_X0_addView : Room := { frames := 2, cells := 0, slots := 0, locals := 44 }
def wp_X0_addView (a0 : Nat) (p1 : Int64) (σ : Sto) (Q : Sto → Prop) : Prop := (wp_X11_leadOf p1 σ (fun (x2 : Int32) (σ1 : Sto) => (sK σ1 a0 = 0 ∧ (wp_X0_addNumber a0 x2 σ1 (fun (σ4 : Sto) => (wp_X11_sessionOf p1 σ4 (fun (x6 : Int32) (σ5 : Sto) => (sK σ5 a0 = 0 ∧ (wp_X0_addNumber a0 x6 σ5 (fun (σ8 : Sto) => Q σ8))))))))))
set_option maxHeartbeats 4000000 in
set_option maxRecDepth 100000 in
theorem c_X0_addView (l : Launch) (D : va_G) (cy : Nat → ClassId) (a0 : Nat) (p1 : Int64) (σ : Sto) (Q : Sto → Prop) (h : wp_X0_addView a0 p1 σ Q) : Mt l D cy yX0_addView cX0_addView 3 none rm_X0_addView [.ref a0, .long p1] σ (PsV Q) := by
  unfold wp_X0_addView at h
  refine mt_of (by decide +kernel) (Nat.le_of_ble_eq_true rfl) ?_
  intro p e s m args below meth c A ls C hr hnm hl
  have C : Cx p s m args meth c D cy A cX0_addView 3 RX0 := C
  have hl : lv_has ls 3 [(0, .ref a0), (1, .long p1)] := hl
  refine x_aload_n C dX0_addView_0 rfl (lv_at hl 0 rfl) ?_
  refine x_lload_n C dX0_addView_1 rfl (lv_at hl 1 rfl) ?_
  refine x_callSN (rm := rm_X11_leadOf) (rest := [.ref a0]) (As := [.long p1]) C csn_RX0_29 (by decide) (by decide) rfl rfl (Nat.le_of_ble_eq_true rfl) hl.1 dX0_addView_2 (c_X11_leadOf l D cy p1 σ _ h) (ks_i (fun x2 σ1 h => ?_))
  obtain ⟨g3, h⟩ := h
  refine x_callV (rm := rm_X0_addNumber) (rest := []) (As := [.int x2]) C cy_RX0_33 g3 (by decide) (by decide) rfl rfl (Nat.le_of_ble_eq_true rfl) hl.1 dX0_addView_5 (c_X0_addNumber l D cy a0 x2 σ1 _ h) (ks_v (fun σ4 h => ?_))
  refine x_aload_n C dX0_addView_8 rfl (lv_at hl 0 rfl) ?_
  refine x_lload_n C dX0_addView_9 rfl (lv_at hl 1 rfl) ?_
  refine x_callSN (rm := rm_X11_sessionOf) (rest := [.ref a0]) (As := [.long p1]) C csn_RX0_36 (by decide) (by decide) rfl rfl (Nat.le_of_ble_eq_true rfl) hl.1 dX0_addView_10 (c_X11_sessionOf l D cy p1 σ4 _ h) (ks_i (fun x6 σ5 h => ?_))
  obtain ⟨g7, h⟩ := h
  refine x_callV (rm := rm_X0_addNumber) (rest := []) (As := [.int x6]) C cy_RX0_33 g7 (by decide) (by decide) rfl rfl (Nat.le_of_ble_eq_true rfl) hl.1 dX0_addView_13 (c_X0_addNumber l D cy a0 x6 σ5 _ h) (ks_v (fun σ8 h => ?_))
  exact x_vret C hr dX0_addView_16 ⟨rfl, h⟩
theorem dX0_sumOf_0 : decode cX0_sumOf 0 = .ok (.iconst (-1), 1) := by decide +kernel
theorem dX0_sumOf_1 : decode cX0_sumOf 1 = .ok (.istore_n 3, 1) := by decide +kernel
theorem dX0_sumOf_2 : decode cX0_sumOf 2 = .ok (.iconst 0, 1) := by decide +kernel
theorem dX0_sumOf_3 : decode cX0_sumOf 3 = .ok (.iload_n 1, 1) := by decide +kernel
theorem dX0_sumOf_4 : decode cX0_sumOf 4 = .ok (.invokestatic 9, 3) := by decide +kernel
theorem dX0_sumOf_7 : decode cX0_sumOf 7 = .ok (.istore 4, 2) := by decide +kernel
theorem dX0_sumOf_9 : decode cX0_sumOf 9 = .ok (.iload 4, 2) := by decide +kernel
theorem dX0_sumOf_11 : decode cX0_sumOf 11 = .ok (.iload_n 2, 1) := by decide +kernel
theorem dX0_sumOf_12 : decode cX0_sumOf 12 = .ok (.if_icmp .ge 69, 3) := by decide +kernel
theorem dX0_sumOf_15 : decode cX0_sumOf 15 = .ok (.iload 4, 2) := by decide +kernel
theorem dX0_sumOf_17 : decode cX0_sumOf 17 = .ok (.aload_n 0, 1) := by decide +kernel
theorem dX0_sumOf_18 : decode cX0_sumOf 18 = .ok (.getfield 15, 3) := by decide +kernel
theorem dX0_sumOf_21 : decode cX0_sumOf 21 = .ok (.arraylength, 1) := by decide +kernel
theorem dX0_sumOf_22 : decode cX0_sumOf 22 = .ok (.if_icmp .ge 59, 3) := by decide +kernel
theorem dX0_sumOf_25 : decode cX0_sumOf 25 = .ok (.iload_n 3, 1) := by decide +kernel
theorem dX0_sumOf_26 : decode cX0_sumOf 26 = .ok (.aload_n 0, 1) := by decide +kernel
theorem dX0_sumOf_27 : decode cX0_sumOf 27 = .ok (.getfield 15, 3) := by decide +kernel
theorem dX0_sumOf_30 : decode cX0_sumOf 30 = .ok (.iload 4, 2) := by decide +kernel
theorem dX0_sumOf_32 : decode cX0_sumOf 32 = .ok (.baload, 1) := by decide +kernel
theorem dX0_sumOf_33 : decode cX0_sumOf 33 = .ok (.sipush 255, 3) := by decide +kernel
theorem dX0_sumOf_36 : decode cX0_sumOf 36 = .ok (.iand, 1) := by decide +kernel
theorem dX0_sumOf_37 : decode cX0_sumOf 37 = .ok (.ixor, 1) := by decide +kernel
theorem dX0_sumOf_38 : decode cX0_sumOf 38 = .ok (.istore_n 3, 1) := by decide +kernel
theorem dX0_sumOf_39 : decode cX0_sumOf 39 = .ok (.iconst 0, 1) := by decide +kernel
theorem dX0_sumOf_40 : decode cX0_sumOf 40 = .ok (.istore 5, 2) := by decide +kernel
theorem dX0_sumOf_42 : decode cX0_sumOf 42 = .ok (.iload 5, 2) := by decide +kernel
theorem dX0_sumOf_44 : decode cX0_sumOf 44 = .ok (.bipush 8, 2) := by decide +kernel
theorem dX0_sumOf_46 : decode cX0_sumOf 46 = .ok (.if_icmp .ge 29, 3) := by decide +kernel
theorem dX0_sumOf_49 : decode cX0_sumOf 49 = .ok (.iload_n 3, 1) := by decide +kernel
theorem dX0_sumOf_50 : decode cX0_sumOf 50 = .ok (.iconst 1, 1) := by decide +kernel
theorem dX0_sumOf_51 : decode cX0_sumOf 51 = .ok (.iand, 1) := by decide +kernel
theorem dX0_sumOf_52 : decode cX0_sumOf 52 = .ok (.iconst 1, 1) := by decide +kernel
theorem dX0_sumOf_53 : decode cX0_sumOf 53 = .ok (.if_icmp .ne 12, 3) := by decide +kernel
theorem dX0_sumOf_56 : decode cX0_sumOf 56 = .ok (.iload_n 3, 1) := by decide +kernel
theorem dX0_sumOf_57 : decode cX0_sumOf 57 = .ok (.iconst 1, 1) := by decide +kernel
theorem dX0_sumOf_58 : decode cX0_sumOf 58 = .ok (.iushr, 1) := by decide +kernel
theorem dX0_sumOf_59 : decode cX0_sumOf 59 = .ok (.ldc 51, 2) := by decide +kernel
theorem dX0_sumOf_61 : decode cX0_sumOf 61 = .ok (.ixor, 1) := by decide +kernel
theorem dX0_sumOf_62 : decode cX0_sumOf 62 = .ok (.goto 6, 3) := by decide +kernel
theorem dX0_sumOf_65 : decode cX0_sumOf 65 = .ok (.iload_n 3, 1) := by decide +kernel
theorem dX0_sumOf_66 : decode cX0_sumOf 66 = .ok (.iconst 1, 1) := by decide +kernel
theorem dX0_sumOf_67 : decode cX0_sumOf 67 = .ok (.iushr, 1) := by decide +kernel
theorem dX0_sumOf_68 : decode cX0_sumOf 68 = .ok (.istore_n 3, 1) := by decide +kernel
theorem dX0_sumOf_69 : decode cX0_sumOf 69 = .ok (.iinc 5 1, 3) := by decide +kernel
theorem dX0_sumOf_72 : decode cX0_sumOf 72 = .ok (.goto (-30), 3) := by decide +kernel
theorem dX0_sumOf_75 : decode cX0_sumOf 75 = .ok (.iinc 4 1, 3) := by decide +kernel
theorem dX0_sumOf_78 : decode cX0_sumOf 78 = .ok (.goto (-69), 3) := by decide +kernel
theorem dX0_sumOf_81 : decode cX0_sumOf 81 = .ok (.iload_n 3, 1) := by decide +kernel
theorem dX0_sumOf_82 : decode cX0_sumOf 82 = .ok (.iconst (-1), 1) := by decide +kernel
theorem dX0_sumOf_83 : decode cX0_sumOf 83 = .ok (.ixor, 1) := by decide +kernel
theorem dX0_sumOf_84 : decode cX0_sumOf 84 = .ok (.ireturn, 1) := by decide +kernel
abbrev rm_X0_sumOf : Room := { frames := 1, cells := 0, slots := 0, locals := 21 }
def b_X0_sumOf_68 (a0 : Nat) (L9 : Int32 × Int32 × Int32 → Sto → Prop) (L42 : Int32 × Int32 × Int32 × Int32 → Sto → Prop) (Q : Int32 → Sto → Prop) (p2 : Int32) (p4 : Int32) (p5 : Int32) (s0 : Int32) (σ : Sto) : Prop := (∀ x1 : Int32, x1 = p5 + (1 : Int32) → L42 (p2, s0, p4, x1) σ)
set_option maxHeartbeats 4000000 in
set_option maxRecDepth 100000 in
theorem t_X0_sumOf_68 {p : Program} {l : Launch} {e : Env} {s : State} {m : MethodId} {args : Array Value} {below : List Frame} {meth : Method} {c : Code} {D : va_G} {cy : Nat → ClassId} {A : Nat → Prop} {a0 : Nat} {L9 : Int32 × Int32 × Int32 → Sto → Prop} {L42 : Int32 × Int32 × Int32 × Int32 → Sto → Prop} {Q : Int32 → Sto → Prop} (C : Cx p s m args meth c D cy A cX0_sumOf 6 RX0) (hr : meth.sig.returnType = (some .int)) (hnm : meth.name = yX0_sumOf.name) (hL9 : ∀ (t : Int32 × Int32 × Int32) (σ : Sto), L9 t σ → ∀ ls : Array Slot, lv_has ls 6 [(0, .ref a0), (2, .int t.1), (3, .int t.2.1), (4, .int t.2.2)] → Xw p l e rm_X0_sumOf s m args below meth c D cy A σ 0 0 (MQ below (Qst D cy A (PsI Q)) args s rm_X0_sumOf.cells rm_X0_sumOf.slots A) (F0 m 9 ls [])) (hL42 : ∀ (t : Int32 × Int32 × Int32 × Int32) (σ : Sto), L42 t σ → ∀ ls : Array Slot, lv_has ls 6 [(0, .ref a0), (2, .int t.1), (3, .int t.2.1), (4, .int t.2.2.1), (5, .int t.2.2.2)] → Xw p l e rm_X0_sumOf s m args below meth c D cy A σ 0 0 (MQ below (Qst D cy A (PsI Q)) args s rm_X0_sumOf.cells rm_X0_sumOf.slots A) (F0 m 42 ls [])) (p2 : Int32) (p4 : Int32) (p5 : Int32) (s0 : Int32) (σ : Sto) (h : b_X0_sumOf_68 a0 L9 L42 Q p2 p4 p5 s0 σ) (ls : Array Slot) (hl : lv_has ls 6 [(0, .ref a0), (2, .int p2), (4, .int p4), (5, .int p5)]) : Xw p l e rm_X0_sumOf s m args below meth c D cy A σ 0 0 (MQ below (Qst D cy A (PsI Q)) args s rm_X0_sumOf.cells rm_X0_sumOf.slots A) (F0 m 68 ls [.int s0]) := by
  unfold b_X0_sumOf_68 at h
  refine x_istore_n (i := 3) (lv' := [(3, .int s0), (0, .ref a0), (2, .int p2), (4, .int p4), (5, .int p5)]) C dX0_sumOf_68 rfl hl (by decide) (by first | rfl | simp [vrc, cat_i, cat_r, cat_l]) (fun ls hl => ?_)
  obtain ⟨x1, e2⟩ : ∃ z : Int32, z = p5 + (1 : Int32) := ⟨_, rfl⟩
  have h := h x1 e2
  refine x_iinc (v := x1) (lv' := [(5, .int x1), (3, .int s0), (0, .ref a0), (2, .int p2), (4, .int p4)]) C dX0_sumOf_69 hl (q0 := 4) rfl (by rw [e2]; rfl) (by decide) (by first | rfl | simp [vrc, cat_i, cat_r, cat_l]) (fun ls hl => ?_)
  refine x_goto (tgt := 42) C dX0_sumOf_72 (by decide) ?_
  exact hL42 (p2, s0, p4, x1) _ h ls (lv_sub hl [2, 3, 1, 4, 0] rfl)
def f_X0_sumOf_42 (a0 : Nat) (L9 : Int32 × Int32 × Int32 → Sto → Prop) (Q : Int32 → Sto → Prop) (L42 : Int32 × Int32 × Int32 × Int32 → Sto → Prop) (t : Int32 × Int32 × Int32 × Int32) (σ : Sto) : Prop := (((8 : Int32) ≤ t.2.2.2 → (∀ x2 : Int32, x2 = t.2.2.1 + (1 : Int32) → L9 (t.1, t.2.1, x2) σ)) ∧ (¬ (8 : Int32) ≤ t.2.2.2 → ((¬ (t.2.1 &&& (1 : Int32)) = (1 : Int32) → b_X0_sumOf_68 a0 L9 L42 Q t.1 t.2.2.1 t.2.2.2 ((t.2.1.toUInt32 >>> ((1 : Int32).toUInt32 &&& Int32.toUInt32 31)).toInt32) σ) ∧ ((t.2.1 &&& (1 : Int32)) = (1 : Int32) → b_X0_sumOf_68 a0 L9 L42 Q t.1 t.2.2.1 t.2.2.2 (((t.2.1.toUInt32 >>> ((1 : Int32).toUInt32 &&& Int32.toUInt32 31)).toInt32) ^^^ (-306674912 : Int32)) σ))))
set_option maxHeartbeats 4000000 in
set_option maxRecDepth 100000 in
theorem t_X0_sumOf_42 {p : Program} {l : Launch} {e : Env} {s : State} {m : MethodId} {args : Array Value} {below : List Frame} {meth : Method} {c : Code} {D : va_G} {cy : Nat → ClassId} {A : Nat → Prop} {a0 : Nat} {L9 : Int32 × Int32 × Int32 → Sto → Prop} {Q : Int32 → Sto → Prop} {L42 : Int32 × Int32 × Int32 × Int32 → Sto → Prop} (C : Cx p s m args meth c D cy A cX0_sumOf 6 RX0) (hr : meth.sig.returnType = (some .int)) (hnm : meth.name = yX0_sumOf.name) (hL9 : ∀ (t : Int32 × Int32 × Int32) (σ : Sto), L9 t σ → ∀ ls : Array Slot, lv_has ls 6 [(0, .ref a0), (2, .int t.1), (3, .int t.2.1), (4, .int t.2.2)] → Xw p l e rm_X0_sumOf s m args below meth c D cy A σ 0 0 (MQ below (Qst D cy A (PsI Q)) args s rm_X0_sumOf.cells rm_X0_sumOf.slots A) (F0 m 9 ls [])) (hL42 : ∀ (t : Int32 × Int32 × Int32 × Int32) (σ : Sto), L42 t σ → ∀ ls : Array Slot, lv_has ls 6 [(0, .ref a0), (2, .int t.1), (3, .int t.2.1), (4, .int t.2.2.1), (5, .int t.2.2.2)] → Xw p l e rm_X0_sumOf s m args below meth c D cy A σ 0 0 (MQ below (Qst D cy A (PsI Q)) args s rm_X0_sumOf.cells rm_X0_sumOf.slots A) (F0 m 42 ls [])) : ∀ (t : Int32 × Int32 × Int32 × Int32) (σ : Sto), f_X0_sumOf_42 a0 L9 Q L42 t σ → ∀ ls : Array Slot, lv_has ls 6 [(0, .ref a0), (2, .int t.1), (3, .int t.2.1), (4, .int t.2.2.1), (5, .int t.2.2.2)] → Xw p l e rm_X0_sumOf s m args below meth c D cy A σ 0 0 (MQ below (Qst D cy A (PsI Q)) args s rm_X0_sumOf.cells rm_X0_sumOf.slots A) (F0 m 42 ls []) := by
  intro t σ h ls hl
  unfold f_X0_sumOf_42 at h
  refine x_iload C dX0_sumOf_42 (lv_at hl 4 rfl) ?_
  refine x_bipush (v := 8) C dX0_sumOf_44 (by decide) ?_
  refine x_icmp_ge (tgt := 75) C dX0_sumOf_46 (by decide) (fun c1 => ?_) (fun c1 => ?_)
  · have h := h.1 c1
    obtain ⟨x2, e3⟩ : ∃ z : Int32, z = t.2.2.1 + (1 : Int32) := ⟨_, rfl⟩
    have h := h x2 e3
    refine x_iinc (v := x2) (lv' := [(4, .int x2), (0, .ref a0), (2, .int t.1), (3, .int t.2.1), (5, .int t.2.2.2)]) C dX0_sumOf_75 hl (q0 := 3) rfl (by rw [e3]; rfl) (by decide) (by first | rfl | simp [vrc, cat_i, cat_r, cat_l]) (fun ls hl => ?_)
    refine x_goto (tgt := 9) C dX0_sumOf_78 (by decide) ?_
    exact hL9 (t.1, t.2.1, x2) _ h ls (lv_sub hl [1, 2, 3, 0] rfl)
  · have h := h.2 c1
    refine x_iload_n C dX0_sumOf_49 rfl (lv_at hl 2 rfl) ?_
    refine x_iconst (v := 1) C dX0_sumOf_50 (by decide) ?_
    refine x_iand C dX0_sumOf_51 ?_
    refine x_iconst (v := 1) C dX0_sumOf_52 (by decide) ?_
    refine x_icmp_ne (tgt := 65) C dX0_sumOf_53 (by decide) (fun c4 => ?_) (fun c4 => ?_)
    · have h := h.1 c4
      refine x_iload_n C dX0_sumOf_65 rfl (lv_at hl 2 rfl) ?_
      refine x_iconst (v := 1) C dX0_sumOf_66 (by decide) ?_
      refine x_iushr C dX0_sumOf_67 ?_
      exact t_X0_sumOf_68 C hr hnm hL9 hL42 t.1 t.2.2.1 t.2.2.2 ((t.2.1.toUInt32 >>> ((1 : Int32).toUInt32 &&& Int32.toUInt32 31)).toInt32) _ h ls (lv_sub hl [0, 1, 3, 4] rfl)
    · have h := h.2 c4
      refine x_iload_n C dX0_sumOf_56 rfl (lv_at hl 2 rfl) ?_
      refine x_iconst (v := 1) C dX0_sumOf_57 (by decide) ?_
      refine x_iushr C dX0_sumOf_58 ?_
      refine x_ldc C kk_RX0_51 dX0_sumOf_59 ?_
      refine x_ixor C dX0_sumOf_61 ?_
      refine x_goto (tgt := 68) C dX0_sumOf_62 (by decide) ?_
      exact t_X0_sumOf_68 C hr hnm hL9 hL42 t.1 t.2.2.1 t.2.2.2 (((t.2.1.toUInt32 >>> ((1 : Int32).toUInt32 &&& Int32.toUInt32 31)).toInt32) ^^^ (-306674912 : Int32)) _ h ls (lv_sub hl [0, 1, 3, 4] rfl)
def f_X0_sumOf_9 (a0 : Nat)  (Q : Int32 → Sto → Prop) (L9 : Int32 × Int32 × Int32 → Sto → Prop) (t : Int32 × Int32 × Int32) (σ : Sto) : Prop := ((t.1 ≤ t.2.2 → Q (t.2.1 ^^^ (-1 : Int32)) σ) ∧ (¬ t.1 ≤ t.2.2 → (sK σ a0 = 0 ∧ (∃ b3 : Nat, sP σ a0 0 = some b3 ∧ (sK σ b3 = 13 ∧ (((nI (sN σ b3)) ≤ t.2.2 → Q (t.2.1 ^^^ (-1 : Int32)) σ) ∧ (¬ (nI (sN σ b3)) ≤ t.2.2 → (vp_in t.2.2 (sN σ b3) ∧ (∀ x8 : Int32, x8 = sI σ b3 t.2.2.toNatClampNeg → (∀ x10 : Int32, x10 = t.2.1 ^^^ (x8 &&& (255 : Int32)) → LF (f_X0_sumOf_42 a0 L9 Q) (t.1, x10, t.2.2, (0 : Int32)) σ))))))))))
set_option maxHeartbeats 4000000 in
set_option maxRecDepth 100000 in
theorem t_X0_sumOf_9 {p : Program} {l : Launch} {e : Env} {s : State} {m : MethodId} {args : Array Value} {below : List Frame} {meth : Method} {c : Code} {D : va_G} {cy : Nat → ClassId} {A : Nat → Prop} {a0 : Nat} {Q : Int32 → Sto → Prop} {L9 : Int32 × Int32 × Int32 → Sto → Prop} (C : Cx p s m args meth c D cy A cX0_sumOf 6 RX0) (hr : meth.sig.returnType = (some .int)) (hnm : meth.name = yX0_sumOf.name) (hL9 : ∀ (t : Int32 × Int32 × Int32) (σ : Sto), L9 t σ → ∀ ls : Array Slot, lv_has ls 6 [(0, .ref a0), (2, .int t.1), (3, .int t.2.1), (4, .int t.2.2)] → Xw p l e rm_X0_sumOf s m args below meth c D cy A σ 0 0 (MQ below (Qst D cy A (PsI Q)) args s rm_X0_sumOf.cells rm_X0_sumOf.slots A) (F0 m 9 ls [])) : ∀ (t : Int32 × Int32 × Int32) (σ : Sto), f_X0_sumOf_9 a0  Q L9 t σ → ∀ ls : Array Slot, lv_has ls 6 [(0, .ref a0), (2, .int t.1), (3, .int t.2.1), (4, .int t.2.2)] → Xw p l e rm_X0_sumOf s m args below meth c D cy A σ 0 0 (MQ below (Qst D cy A (PsI Q)) args s rm_X0_sumOf.cells rm_X0_sumOf.slots A) (F0 m 9 ls []) := by
  intro t σ h ls hl
  unfold f_X0_sumOf_9 at h
  refine x_iload C dX0_sumOf_9 (lv_at hl 3 rfl) ?_
  refine x_iload_n C dX0_sumOf_11 rfl (lv_at hl 1 rfl) ?_
  refine x_icmp_ge (tgt := 81) C dX0_sumOf_12 (by decide) (fun c1 => ?_) (fun c1 => ?_)
  · have h := h.1 c1
    refine x_iload_n C dX0_sumOf_81 rfl (lv_at hl 2 rfl) ?_
    refine x_iconst (v := -1) C dX0_sumOf_82 (by decide) ?_
    refine x_ixor C dX0_sumOf_83 ?_
    exact x_iret C hr dX0_sumOf_84 ⟨_, rfl, h⟩
  · have h := h.2 c1
    refine x_iload C dX0_sumOf_15 (lv_at hl 3 rfl) ?_
    refine x_aload_n C dX0_sumOf_17 rfl (lv_at hl 0 rfl) ?_
    obtain ⟨g2, h⟩ := h
    refine x_getP C fl_RX0_15 g2 dX0_sumOf_18 ?_
    obtain ⟨b3, g4, h⟩ := h
    refine x_nn0 g4 ?_
    obtain ⟨g5, h⟩ := h
    refine x_alen C g5 (by decide) (by decide) dX0_sumOf_21 ?_
    refine x_icmp_ge (tgt := 81) C dX0_sumOf_22 (by decide) (fun c6 => ?_) (fun c6 => ?_)
    · have h := h.1 c6
      refine x_iload_n C dX0_sumOf_81 rfl (lv_at hl 2 rfl) ?_
      refine x_iconst (v := -1) C dX0_sumOf_82 (by decide) ?_
      refine x_ixor C dX0_sumOf_83 ?_
      exact x_iret C hr dX0_sumOf_84 ⟨_, rfl, h⟩
    · have h := h.2 c6
      refine x_iload_n C dX0_sumOf_25 rfl (lv_at hl 2 rfl) ?_
      refine x_aload_n C dX0_sumOf_26 rfl (lv_at hl 0 rfl) ?_
      refine x_getP C fl_RX0_15 g2 dX0_sumOf_27 ?_
      refine x_iload C dX0_sumOf_30 (lv_at hl 3 rfl) ?_
      refine x_nn1 g4 ?_
      obtain ⟨g7, h⟩ := h
      refine x_bald C g5 g7 dX0_sumOf_32 ?_
      refine x_topi (fun x8 e9 => ?_)
      have h := h x8 e9
      refine x_sipush (v := 255) C dX0_sumOf_33 (by decide) ?_
      refine x_iand C dX0_sumOf_36 ?_
      refine x_ixor C dX0_sumOf_37 ?_
      refine x_topi (fun x10 e11 => ?_)
      have h := h x10 e11
      refine x_istore_n (i := 3) (lv' := [(3, .int x10), (0, .ref a0), (2, .int t.1), (4, .int t.2.2)]) C dX0_sumOf_38 rfl hl (by decide) (by first | rfl | simp [vrc, cat_i, cat_r, cat_l]) (fun ls hl => ?_)
      refine x_iconst (v := 0) C dX0_sumOf_39 (by decide) ?_
      refine x_istore (i := 5) (lv' := [(5, .int (0 : Int32)), (3, .int x10), (0, .ref a0), (2, .int t.1), (4, .int t.2.2)]) C dX0_sumOf_40 hl (by decide) (by first | rfl | simp [vrc, cat_i, cat_r, cat_l]) (fun ls hl => ?_)
      exact h (fun t σ => ∀ ls : Array Slot, lv_has ls 6 [(0, .ref a0), (2, .int t.1), (3, .int t.2.1), (4, .int t.2.2.1), (5, .int t.2.2.2)] → Xw p l e rm_X0_sumOf s m args below meth c D cy A σ 0 0 (MQ below (Qst D cy A (PsI Q)) args s rm_X0_sumOf.cells rm_X0_sumOf.slots A) (F0 m 42 ls [])) (t_X0_sumOf_42 C hr hnm hL9 (fun t σ h => h)) ls (lv_sub hl [2, 3, 1, 4, 0] rfl)
def wp_X0_sumOf (a0 : Nat) (p1 : Int32) (p2 : Int32) (σ : Sto) (Q : Int32 → Sto → Prop) : Prop := (wp_J9_max_7cf53 (0 : Int32) p1 σ (fun (x2 : Int32) (σ1 : Sto) => LF (f_X0_sumOf_9 a0  Q) (p2, (-1 : Int32), x2) σ1))
set_option maxHeartbeats 4000000 in
set_option maxRecDepth 100000 in
theorem c_X0_sumOf (l : Launch) (D : va_G) (cy : Nat → ClassId) (a0 : Nat) (p1 : Int32) (p2 : Int32) (σ : Sto) (Q : Int32 → Sto → Prop) (h : wp_X0_sumOf a0 p1 p2 σ Q) : Mt l D cy yX0_sumOf cX0_sumOf 6 (some .int) rm_X0_sumOf [.ref a0, .int p1, .int p2] σ (PsI Q) := by
  unfold wp_X0_sumOf at h
  refine mt_of (by decide +kernel) (Nat.le_of_ble_eq_true rfl) ?_
  intro p e s m args below meth c A ls C hr hnm hl
  have C : Cx p s m args meth c D cy A cX0_sumOf 6 RX0 := C
  have hl : lv_has ls 6 [(0, .ref a0), (1, .int p1), (2, .int p2)] := hl
  refine x_iconst (v := -1) C dX0_sumOf_0 (by decide) ?_
  refine x_istore_n (i := 3) (lv' := [(3, .int (-1 : Int32)), (0, .ref a0), (1, .int p1), (2, .int p2)]) C dX0_sumOf_1 rfl hl (by decide) (by first | rfl | simp [vrc, cat_i, cat_r, cat_l]) (fun ls hl => ?_)
  refine x_iconst (v := 0) C dX0_sumOf_2 (by decide) ?_
  refine x_iload_n C dX0_sumOf_3 rfl (lv_at hl 2 rfl) ?_
  refine x_callS (rm := rm_J9_max_7cf53) (rest := []) (As := [.int (0 : Int32), .int p1]) C cs_RX0_9 (by decide) (by decide) rfl rfl (Nat.le_of_ble_eq_true rfl) hl.1 dX0_sumOf_4 (c_J9_max_7cf53 l D cy (0 : Int32) p1 σ _ h) (ks_i (fun x2 σ1 h => ?_))
  refine x_istore (i := 4) (lv' := [(4, .int x2), (3, .int (-1 : Int32)), (0, .ref a0), (1, .int p1), (2, .int p2)]) C dX0_sumOf_7 hl (by decide) (by first | rfl | simp [vrc, cat_i, cat_r, cat_l]) (fun ls hl => ?_)
  exact h (fun t σ => ∀ ls : Array Slot, lv_has ls 6 [(0, .ref a0), (2, .int t.1), (3, .int t.2.1), (4, .int t.2.2)] → Xw p l e rm_X0_sumOf s m args below meth c D cy A σ 0 0 (MQ below (Qst D cy A (PsI Q)) args s rm_X0_sumOf.cells rm_X0_sumOf.slots A) (F0 m 9 ls [])) (t_X0_sumOf_9 C hr hnm  (fun t σ h => h)) ls (lv_sub hl [2, 4, 1, 0] rfl)
theorem dX0_endBlock_0 : decode cX0_endBlock 0 = .ok (.aload_n 0, 1) := by decide +kernel
theorem dX0_endBlock_1 : decode cX0_endBlock 1 = .ok (.iload_n 1, 1) := by decide +kernel
theorem dX0_endBlock_2 : decode cX0_endBlock 2 = .ok (.iconst 4, 1) := by decide +kernel
theorem dX0_endBlock_3 : decode cX0_endBlock 3 = .ok (.isub, 1) := by decide +kernel
theorem dX0_endBlock_4 : decode cX0_endBlock 4 = .ok (.aload_n 0, 1) := by decide +kernel
theorem dX0_endBlock_5 : decode cX0_endBlock 5 = .ok (.getfield 21, 3) := by decide +kernel
theorem dX0_endBlock_8 : decode cX0_endBlock 8 = .ok (.isub, 1) := by decide +kernel
theorem dX0_endBlock_9 : decode cX0_endBlock 9 = .ok (.invokevirtual 39, 3) := by decide +kernel
theorem dX0_endBlock_12 : decode cX0_endBlock 12 = .ok (.aload_n 0, 1) := by decide +kernel
theorem dX0_endBlock_13 : decode cX0_endBlock 13 = .ok (.aload_n 0, 1) := by decide +kernel
theorem dX0_endBlock_14 : decode cX0_endBlock 14 = .ok (.iload_n 1, 1) := by decide +kernel
theorem dX0_endBlock_15 : decode cX0_endBlock 15 = .ok (.sipush 512, 3) := by decide +kernel
theorem dX0_endBlock_18 : decode cX0_endBlock 18 = .ok (.isub, 1) := by decide +kernel
theorem dX0_endBlock_19 : decode cX0_endBlock 19 = .ok (.aload_n 0, 1) := by decide +kernel
theorem dX0_endBlock_20 : decode cX0_endBlock 20 = .ok (.getfield 21, 3) := by decide +kernel
theorem dX0_endBlock_23 : decode cX0_endBlock 23 = .ok (.invokevirtual 42, 3) := by decide +kernel
theorem dX0_endBlock_26 : decode cX0_endBlock 26 = .ok (.invokevirtual 45, 3) := by decide +kernel
theorem dX0_endBlock_29 : decode cX0_endBlock 29 = .ok (.return_, 1) := by decide +kernel
abbrev rm_X0_endBlock : Room := { frames := 2, cells := 0, slots := 0, locals := 46 }
def wp_X0_endBlock (a0 : Nat) (p1 : Int32) (σ : Sto) (Q : Sto → Prop) : Prop := (sK σ a0 = 0 ∧ (∀ x2 : Int32, x2 = sI σ a0 1 → (wp_X0_addZeros a0 ((p1 - (4 : Int32)) - x2) σ (fun (σ4 : Sto) => (sK σ4 a0 = 0 ∧ (∀ x6 : Int32, x6 = sI σ4 a0 1 → (wp_X0_sumOf a0 (p1 - (512 : Int32)) x6 σ4 (fun (x9 : Int32) (σ8 : Sto) => (sK σ8 a0 = 0 ∧ (wp_X0_addWord a0 x9 σ8 (fun (σ11 : Sto) => Q σ11)))))))))))
set_option maxHeartbeats 4000000 in
set_option maxRecDepth 100000 in
theorem c_X0_endBlock (l : Launch) (D : va_G) (cy : Nat → ClassId) (a0 : Nat) (p1 : Int32) (σ : Sto) (Q : Sto → Prop) (h : wp_X0_endBlock a0 p1 σ Q) : Mt l D cy yX0_endBlock cX0_endBlock 2 none rm_X0_endBlock [.ref a0, .int p1] σ (PsV Q) := by
  unfold wp_X0_endBlock at h
  refine mt_of (by decide +kernel) (Nat.le_of_ble_eq_true rfl) ?_
  intro p e s m args below meth c A ls C hr hnm hl
  have C : Cx p s m args meth c D cy A cX0_endBlock 2 RX0 := C
  have hl : lv_has ls 2 [(0, .ref a0), (1, .int p1)] := hl
  refine x_aload_n C dX0_endBlock_0 rfl (lv_at hl 0 rfl) ?_
  refine x_iload_n C dX0_endBlock_1 rfl (lv_at hl 1 rfl) ?_
  refine x_iconst (v := 4) C dX0_endBlock_2 (by decide) ?_
  refine x_isub C dX0_endBlock_3 ?_
  refine x_aload_n C dX0_endBlock_4 rfl (lv_at hl 0 rfl) ?_
  obtain ⟨g1, h⟩ := h
  refine x_getI C fl_RX0_21 g1 dX0_endBlock_5 ?_
  refine x_topi (fun x2 e3 => ?_)
  have h := h x2 e3
  refine x_isub C dX0_endBlock_8 ?_
  refine x_callV (rm := rm_X0_addZeros) (rest := []) (As := [.int ((p1 - (4 : Int32)) - x2)]) C cy_RX0_39 g1 (by decide) (by decide) rfl rfl (Nat.le_of_ble_eq_true rfl) hl.1 dX0_endBlock_9 (c_X0_addZeros l D cy a0 ((p1 - (4 : Int32)) - x2) σ _ h) (ks_v (fun σ4 h => ?_))
  refine x_aload_n C dX0_endBlock_12 rfl (lv_at hl 0 rfl) ?_
  refine x_aload_n C dX0_endBlock_13 rfl (lv_at hl 0 rfl) ?_
  refine x_iload_n C dX0_endBlock_14 rfl (lv_at hl 1 rfl) ?_
  refine x_sipush (v := 512) C dX0_endBlock_15 (by decide) ?_
  refine x_isub C dX0_endBlock_18 ?_
  refine x_aload_n C dX0_endBlock_19 rfl (lv_at hl 0 rfl) ?_
  obtain ⟨g5, h⟩ := h
  refine x_getI C fl_RX0_21 g5 dX0_endBlock_20 ?_
  refine x_topi (fun x6 e7 => ?_)
  have h := h x6 e7
  refine x_callV (rm := rm_X0_sumOf) (rest := [.ref a0]) (As := [.int (p1 - (512 : Int32)), .int x6]) C cy_RX0_42 g5 (by decide) (by decide) rfl rfl (Nat.le_of_ble_eq_true rfl) hl.1 dX0_endBlock_23 (c_X0_sumOf l D cy a0 (p1 - (512 : Int32)) x6 σ4 _ h) (ks_i (fun x9 σ8 h => ?_))
  obtain ⟨g10, h⟩ := h
  refine x_callV (rm := rm_X0_addWord) (rest := []) (As := [.int x9]) C cy_RX0_45 g10 (by decide) (by decide) rfl rfl (Nat.le_of_ble_eq_true rfl) hl.1 dX0_endBlock_26 (c_X0_addWord l D cy a0 x9 σ8 _ h) (ks_v (fun σ11 h => ?_))
  exact x_vret C hr dX0_endBlock_29 ⟨rfl, h⟩
theorem dJ9_min_7cf53_0 : decode cJ9_min_7cf53 0 = .ok (.iload_n 0, 1) := by decide +kernel
theorem dJ9_min_7cf53_1 : decode cJ9_min_7cf53 1 = .ok (.iload_n 1, 1) := by decide +kernel
theorem dJ9_min_7cf53_2 : decode cJ9_min_7cf53 2 = .ok (.if_icmp .gt 7, 3) := by decide +kernel
theorem dJ9_min_7cf53_5 : decode cJ9_min_7cf53 5 = .ok (.iload_n 0, 1) := by decide +kernel
theorem dJ9_min_7cf53_6 : decode cJ9_min_7cf53 6 = .ok (.goto 4, 3) := by decide +kernel
theorem dJ9_min_7cf53_9 : decode cJ9_min_7cf53 9 = .ok (.iload_n 1, 1) := by decide +kernel
theorem dJ9_min_7cf53_10 : decode cJ9_min_7cf53 10 = .ok (.ireturn, 1) := by decide +kernel
abbrev rm_J9_min_7cf53 : Room := { frames := 0, cells := 0, slots := 0, locals := 0 }
def wp_J9_min_7cf53 (p0 : Int32) (p1 : Int32) (σ : Sto) (Q : Int32 → Sto → Prop) : Prop := ((p1 < p0 → Q p1 σ) ∧ (¬ p1 < p0 → Q p0 σ))
set_option maxHeartbeats 4000000 in
set_option maxRecDepth 100000 in
theorem c_J9_min_7cf53 (l : Launch) (D : va_G) (cy : Nat → ClassId) (p0 : Int32) (p1 : Int32) (σ : Sto) (Q : Int32 → Sto → Prop) (h : wp_J9_min_7cf53 p0 p1 σ Q) : Mt l D cy yJ9_min_7cf53 cJ9_min_7cf53 2 (some .int) rm_J9_min_7cf53 [.int p0, .int p1] σ (PsI Q) := by
  unfold wp_J9_min_7cf53 at h
  refine mt_ofF (by decide +kernel) (Nat.le_of_ble_eq_true rfl) ?_
  intro p e s m args below meth c A ls C hr hnm hl
  have C : Cx p s m args meth c D cy A cJ9_min_7cf53 2 RJ9 := C
  have hl : lv_has ls 2 [(0, .int p0), (1, .int p1)] := hl
  refine x_iload_n C dJ9_min_7cf53_0 rfl (lv_at hl 0 rfl) ?_
  refine x_iload_n C dJ9_min_7cf53_1 rfl (lv_at hl 1 rfl) ?_
  refine x_icmp_gt (tgt := 9) C dJ9_min_7cf53_2 (by decide) (fun c1 => ?_) (fun c1 => ?_)
  · have h := h.1 c1
    refine x_iload_n C dJ9_min_7cf53_9 rfl (lv_at hl 1 rfl) ?_
    exact x_iret C hr dJ9_min_7cf53_10 ⟨_, rfl, h⟩
  · have h := h.2 c1
    refine x_iload_n C dJ9_min_7cf53_5 rfl (lv_at hl 0 rfl) ?_
    refine x_goto (tgt := 10) C dJ9_min_7cf53_6 (by decide) ?_
    exact x_iret C hr dJ9_min_7cf53_10 ⟨_, rfl, h⟩
theorem dX0_become_0 : decode cX0_become 0 = .ok (.aload_n 0, 1) := by decide +kernel
theorem dX0_become_1 : decode cX0_become 1 = .ok (.aload_n 1, 1) := by decide +kernel
theorem dX0_become_2 : decode cX0_become 2 = .ok (.getfield 21, 3) := by decide +kernel
theorem dX0_become_5 : decode cX0_become 5 = .ok (.aload_n 0, 1) := by decide +kernel
theorem dX0_become_6 : decode cX0_become 6 = .ok (.getfield 15, 3) := by decide +kernel
theorem dX0_become_9 : decode cX0_become 9 = .ok (.arraylength, 1) := by decide +kernel
theorem dX0_become_10 : decode cX0_become 10 = .ok (.invokestatic 48, 3) := by decide +kernel
theorem dX0_become_13 : decode cX0_become 13 = .ok (.putfield 21, 3) := by decide +kernel
theorem dX0_become_16 : decode cX0_become 16 = .ok (.iconst 0, 1) := by decide +kernel
theorem dX0_become_17 : decode cX0_become 17 = .ok (.istore_n 2, 1) := by decide +kernel
theorem dX0_become_18 : decode cX0_become 18 = .ok (.iload_n 2, 1) := by decide +kernel
theorem dX0_become_19 : decode cX0_become 19 = .ok (.aload_n 0, 1) := by decide +kernel
theorem dX0_become_20 : decode cX0_become 20 = .ok (.getfield 21, 3) := by decide +kernel
theorem dX0_become_23 : decode cX0_become 23 = .ok (.if_icmp .ge 30, 3) := by decide +kernel
theorem dX0_become_26 : decode cX0_become 26 = .ok (.iload_n 2, 1) := by decide +kernel
theorem dX0_become_27 : decode cX0_become 27 = .ok (.aload_n 1, 1) := by decide +kernel
theorem dX0_become_28 : decode cX0_become 28 = .ok (.getfield 15, 3) := by decide +kernel
theorem dX0_become_31 : decode cX0_become 31 = .ok (.arraylength, 1) := by decide +kernel
theorem dX0_become_32 : decode cX0_become 32 = .ok (.if_icmp .ge 21, 3) := by decide +kernel
theorem dX0_become_35 : decode cX0_become 35 = .ok (.aload_n 0, 1) := by decide +kernel
theorem dX0_become_36 : decode cX0_become 36 = .ok (.getfield 15, 3) := by decide +kernel
theorem dX0_become_39 : decode cX0_become 39 = .ok (.iload_n 2, 1) := by decide +kernel
theorem dX0_become_40 : decode cX0_become 40 = .ok (.aload_n 1, 1) := by decide +kernel
theorem dX0_become_41 : decode cX0_become 41 = .ok (.getfield 15, 3) := by decide +kernel
theorem dX0_become_44 : decode cX0_become 44 = .ok (.iload_n 2, 1) := by decide +kernel
theorem dX0_become_45 : decode cX0_become 45 = .ok (.baload, 1) := by decide +kernel
theorem dX0_become_46 : decode cX0_become 46 = .ok (.bastore, 1) := by decide +kernel
theorem dX0_become_47 : decode cX0_become 47 = .ok (.iinc 2 1, 3) := by decide +kernel
theorem dX0_become_50 : decode cX0_become 50 = .ok (.goto (-32), 3) := by decide +kernel
theorem dX0_become_53 : decode cX0_become 53 = .ok (.return_, 1) := by decide +kernel
abbrev rm_X0_become : Room := { frames := 1, cells := 0, slots := 0, locals := 21 }
def f_X0_become_18 (a0 : Nat)  (Q : Sto → Prop) (L18 : Option Nat × Int32 → Sto → Prop) (t : Option Nat × Int32) (σ : Sto) : Prop := (sK σ a0 = 0 ∧ (∀ x2 : Int32, x2 = sI σ a0 1 → ((x2 ≤ t.2 → Q σ) ∧ (¬ x2 ≤ t.2 → (∃ b5 : Nat, t.1 = some b5 ∧ (sK σ b5 = 0 ∧ (∃ b8 : Nat, sP σ b5 0 = some b8 ∧ (sK σ b8 = 13 ∧ (((nI (sN σ b8)) ≤ t.2 → Q σ) ∧ (¬ (nI (sN σ b8)) ≤ t.2 → (vp_in t.2 (sN σ b8) ∧ (∀ x13 : Int32, x13 = sI σ b8 t.2.toNatClampNeg → (∃ b15 : Nat, sP σ a0 0 = some b15 ∧ (sK σ b15 = 13 ∧ (vp_in t.2 (sN σ b15) ∧ (∀ x19 : Int32, x19 = t.2 + (1 : Int32) → L18 (t.1, x19) (stI σ b15 t.2.toNatClampNeg (vp_nar .byte x13))))))))))))))))))
set_option maxHeartbeats 4000000 in
set_option maxRecDepth 100000 in
theorem t_X0_become_18 {p : Program} {l : Launch} {e : Env} {s : State} {m : MethodId} {args : Array Value} {below : List Frame} {meth : Method} {c : Code} {D : va_G} {cy : Nat → ClassId} {A : Nat → Prop} {a0 : Nat} {Q : Sto → Prop} {L18 : Option Nat × Int32 → Sto → Prop} (C : Cx p s m args meth c D cy A cX0_become 3 RX0) (hr : meth.sig.returnType = none) (hnm : meth.name = yX0_become.name) (hL18 : ∀ (t : Option Nat × Int32) (σ : Sto), L18 t σ → ∀ ls : Array Slot, lv_has ls 3 [(0, .ref a0), (1, va_rf t.1), (2, .int t.2)] → Xw p l e rm_X0_become s m args below meth c D cy A σ 0 0 (MQ below (Qst D cy A (PsV Q)) args s rm_X0_become.cells rm_X0_become.slots A) (F0 m 18 ls [])) : ∀ (t : Option Nat × Int32) (σ : Sto), f_X0_become_18 a0  Q L18 t σ → ∀ ls : Array Slot, lv_has ls 3 [(0, .ref a0), (1, va_rf t.1), (2, .int t.2)] → Xw p l e rm_X0_become s m args below meth c D cy A σ 0 0 (MQ below (Qst D cy A (PsV Q)) args s rm_X0_become.cells rm_X0_become.slots A) (F0 m 18 ls []) := by
  intro t σ h ls hl
  unfold f_X0_become_18 at h
  refine x_iload_n C dX0_become_18 rfl (lv_at hl 2 rfl) ?_
  refine x_aload_n C dX0_become_19 rfl (lv_at hl 0 rfl) ?_
  obtain ⟨g1, h⟩ := h
  refine x_getI C fl_RX0_21 g1 dX0_become_20 ?_
  refine x_topi (fun x2 e3 => ?_)
  have h := h x2 e3
  refine x_icmp_ge (tgt := 53) C dX0_become_23 (by decide) (fun c4 => ?_) (fun c4 => ?_)
  · have h := h.1 c4
    exact x_vret C hr dX0_become_53 ⟨rfl, h⟩
  · have h := h.2 c4
    refine x_iload_n C dX0_become_26 rfl (lv_at hl 2 rfl) ?_
    refine x_aload_nq C dX0_become_27 rfl (lv_at hl 1 rfl) ?_
    obtain ⟨b5, g6, h⟩ := h
    refine x_nn0 g6 ?_
    obtain ⟨g7, h⟩ := h
    refine x_getP C fl_RX0_15 g7 dX0_become_28 ?_
    obtain ⟨b8, g9, h⟩ := h
    refine x_nn0 g9 ?_
    obtain ⟨g10, h⟩ := h
    refine x_alen C g10 (by decide) (by decide) dX0_become_31 ?_
    refine x_icmp_ge (tgt := 53) C dX0_become_32 (by decide) (fun c11 => ?_) (fun c11 => ?_)
    · have h := h.1 c11
      exact x_vret C hr dX0_become_53 ⟨rfl, h⟩
    · have h := h.2 c11
      refine x_aload_n C dX0_become_35 rfl (lv_at hl 0 rfl) ?_
      refine x_getP C fl_RX0_15 g1 dX0_become_36 ?_
      refine x_iload_n C dX0_become_39 rfl (lv_at hl 2 rfl) ?_
      refine x_aload_nq C dX0_become_40 rfl (lv_at hl 1 rfl) ?_
      refine x_nn0 g6 ?_
      refine x_getP C fl_RX0_15 g7 dX0_become_41 ?_
      refine x_iload_n C dX0_become_44 rfl (lv_at hl 2 rfl) ?_
      refine x_nn1 g9 ?_
      obtain ⟨g12, h⟩ := h
      refine x_bald C g10 g12 dX0_become_45 ?_
      refine x_topi (fun x13 e14 => ?_)
      have h := h x13 e14
      obtain ⟨b15, g16, h⟩ := h
      refine x_nn2 g16 ?_
      obtain ⟨g17, h⟩ := h
      obtain ⟨g18, h⟩ := h
      refine x_bast C g17 g18 dX0_become_46 ?_
      obtain ⟨x19, e20⟩ : ∃ z : Int32, z = t.2 + (1 : Int32) := ⟨_, rfl⟩
      have h := h x19 e20
      refine x_iinc (v := x19) (lv' := [(2, .int x19), (0, .ref a0), (1, va_rf t.1)]) C dX0_become_47 hl (q0 := 2) rfl (by rw [e20]; rfl) (by decide) (by first | rfl | simp [vrc, cat_i, cat_r, cat_l]) (fun ls hl => ?_)
      refine x_goto (tgt := 18) C dX0_become_50 (by decide) ?_
      exact hL18 (t.1, x19) _ h ls (lv_sub hl [1, 2, 0] rfl)
def wp_X0_become (a0 : Nat) (p1 : Option Nat) (σ : Sto) (Q : Sto → Prop) : Prop := (∃ b1 : Nat, p1 = some b1 ∧ (sK σ b1 = 0 ∧ (∀ x4 : Int32, x4 = sI σ b1 1 → (sK σ a0 = 0 ∧ (∃ b7 : Nat, sP σ a0 0 = some b7 ∧ (sK σ b7 = 13 ∧ (wp_J9_min_7cf53 x4 (nI (sN σ b7)) σ (fun (x11 : Int32) (σ10 : Sto) => (sK σ10 a0 = 0 ∧ LF (f_X0_become_18 a0  Q) (p1, (0 : Int32)) (stI σ10 a0 1 x11))))))))))
set_option maxHeartbeats 4000000 in
set_option maxRecDepth 100000 in
theorem c_X0_become (l : Launch) (D : va_G) (cy : Nat → ClassId) (a0 : Nat) (p1 : Option Nat) (σ : Sto) (Q : Sto → Prop) (h : wp_X0_become a0 p1 σ Q) : Mt l D cy yX0_become cX0_become 3 none rm_X0_become [.ref a0, va_rf p1] σ (PsV Q) := by
  unfold wp_X0_become at h
  refine mt_of (by decide +kernel) (by simp [lg_sl, vrc, cat_i, cat_r, cat_l]) ?_
  intro p e s m args below meth c A ls C hr hnm hl
  have C : Cx p s m args meth c D cy A cX0_become 3 RX0 := C
  have hl : lv_has ls 3 [(0, .ref a0), (1, va_rf p1)] := by simpa [lv_args, vrc, cat_i, cat_r, cat_l] using hl
  refine x_aload_n C dX0_become_0 rfl (lv_at hl 0 rfl) ?_
  refine x_aload_nq C dX0_become_1 rfl (lv_at hl 1 rfl) ?_
  obtain ⟨b1, g2, h⟩ := h
  refine x_nn0 g2 ?_
  obtain ⟨g3, h⟩ := h
  refine x_getI C fl_RX0_21 g3 dX0_become_2 ?_
  refine x_topi (fun x4 e5 => ?_)
  have h := h x4 e5
  refine x_aload_n C dX0_become_5 rfl (lv_at hl 0 rfl) ?_
  obtain ⟨g6, h⟩ := h
  refine x_getP C fl_RX0_15 g6 dX0_become_6 ?_
  obtain ⟨b7, g8, h⟩ := h
  refine x_nn0 g8 ?_
  obtain ⟨g9, h⟩ := h
  refine x_alen C g9 (by decide) (by decide) dX0_become_9 ?_
  refine x_callS (rm := rm_J9_min_7cf53) (rest := [.ref a0]) (As := [.int x4, .int (nI (sN σ b7))]) C cs_RX0_48 (by decide) (by decide) rfl rfl (Nat.le_of_ble_eq_true rfl) hl.1 dX0_become_10 (c_J9_min_7cf53 l D cy x4 (nI (sN σ b7)) σ _ h) (ks_i (fun x11 σ10 h => ?_))
  obtain ⟨g12, h⟩ := h
  refine x_putI C fl_RX0_21 (Or.inl rfl) g12 dX0_become_13 ?_
  refine x_iconst (v := 0) C dX0_become_16 (by decide) ?_
  refine x_istore_n (i := 2) (lv' := [(2, .int (0 : Int32)), (0, .ref a0), (1, va_rf p1)]) C dX0_become_17 rfl hl (by decide) (by first | rfl | simp [vrc, cat_i, cat_r, cat_l]) (fun ls hl => ?_)
  exact h (fun t σ => ∀ ls : Array Slot, lv_has ls 3 [(0, .ref a0), (1, va_rf t.1), (2, .int t.2)] → Xw p l e rm_X0_become s m args below meth c D cy A σ 0 0 (MQ below (Qst D cy A (PsV Q)) args s rm_X0_become.cells rm_X0_become.slots A) (F0 m 18 ls [])) (t_X0_become_18 C hr hnm  (fun t σ h => h)) ls (lv_sub hl [1, 2, 0] rfl)
theorem dX0_turnBit_0 : decode cX0_turnBit 0 = .ok (.iload_n 1, 1) := by decide +kernel
theorem dX0_turnBit_1 : decode cX0_turnBit 1 = .ok (.ifCond .lt 37, 3) := by decide +kernel
theorem dX0_turnBit_4 : decode cX0_turnBit 4 = .ok (.iload_n 1, 1) := by decide +kernel
theorem dX0_turnBit_5 : decode cX0_turnBit 5 = .ok (.aload_n 0, 1) := by decide +kernel
theorem dX0_turnBit_6 : decode cX0_turnBit 6 = .ok (.getfield 21, 3) := by decide +kernel
theorem dX0_turnBit_9 : decode cX0_turnBit 9 = .ok (.if_icmp .ge 29, 3) := by decide +kernel
theorem dX0_turnBit_12 : decode cX0_turnBit 12 = .ok (.iload_n 1, 1) := by decide +kernel
theorem dX0_turnBit_13 : decode cX0_turnBit 13 = .ok (.aload_n 0, 1) := by decide +kernel
theorem dX0_turnBit_14 : decode cX0_turnBit 14 = .ok (.getfield 15, 3) := by decide +kernel
theorem dX0_turnBit_17 : decode cX0_turnBit 17 = .ok (.arraylength, 1) := by decide +kernel
theorem dX0_turnBit_18 : decode cX0_turnBit 18 = .ok (.if_icmp .ge 20, 3) := by decide +kernel
theorem dX0_turnBit_21 : decode cX0_turnBit 21 = .ok (.aload_n 0, 1) := by decide +kernel
theorem dX0_turnBit_22 : decode cX0_turnBit 22 = .ok (.getfield 15, 3) := by decide +kernel
theorem dX0_turnBit_25 : decode cX0_turnBit 25 = .ok (.iload_n 1, 1) := by decide +kernel
theorem dX0_turnBit_26 : decode cX0_turnBit 26 = .ok (.aload_n 0, 1) := by decide +kernel
theorem dX0_turnBit_27 : decode cX0_turnBit 27 = .ok (.getfield 15, 3) := by decide +kernel
theorem dX0_turnBit_30 : decode cX0_turnBit 30 = .ok (.iload_n 1, 1) := by decide +kernel
theorem dX0_turnBit_31 : decode cX0_turnBit 31 = .ok (.baload, 1) := by decide +kernel
theorem dX0_turnBit_32 : decode cX0_turnBit 32 = .ok (.iconst 1, 1) := by decide +kernel
theorem dX0_turnBit_33 : decode cX0_turnBit 33 = .ok (.iload_n 2, 1) := by decide +kernel
theorem dX0_turnBit_34 : decode cX0_turnBit 34 = .ok (.ishl, 1) := by decide +kernel
theorem dX0_turnBit_35 : decode cX0_turnBit 35 = .ok (.ixor, 1) := by decide +kernel
theorem dX0_turnBit_36 : decode cX0_turnBit 36 = .ok (.i2b, 1) := by decide +kernel
theorem dX0_turnBit_37 : decode cX0_turnBit 37 = .ok (.bastore, 1) := by decide +kernel
theorem dX0_turnBit_38 : decode cX0_turnBit 38 = .ok (.return_, 1) := by decide +kernel
abbrev rm_X0_turnBit : Room := { frames := 0, cells := 0, slots := 0, locals := 0 }
def wp_X0_turnBit (a0 : Nat) (p1 : Int32) (p2 : Int32) (σ : Sto) (Q : Sto → Prop) : Prop := ((p1 < 0 → Q σ) ∧ (¬ p1 < 0 → (sK σ a0 = 0 ∧ (∀ x3 : Int32, x3 = sI σ a0 1 → ((x3 ≤ p1 → Q σ) ∧ (¬ x3 ≤ p1 → (∃ b6 : Nat, sP σ a0 0 = some b6 ∧ (sK σ b6 = 13 ∧ (((nI (sN σ b6)) ≤ p1 → Q σ) ∧ (¬ (nI (sN σ b6)) ≤ p1 → (vp_in p1 (sN σ b6) ∧ (∀ x11 : Int32, x11 = sI σ b6 p1.toNatClampNeg → (∀ x13 : Int32, x13 = (x11 ^^^ ((1 : Int32) <<< (p2 &&& 31))).toInt8.toInt32 → (vp_in p1 (sN σ b6) ∧ Q (stI σ b6 p1.toNatClampNeg (vp_nar .byte x13))))))))))))))))
set_option maxHeartbeats 4000000 in
set_option maxRecDepth 100000 in
theorem c_X0_turnBit (l : Launch) (D : va_G) (cy : Nat → ClassId) (a0 : Nat) (p1 : Int32) (p2 : Int32) (σ : Sto) (Q : Sto → Prop) (h : wp_X0_turnBit a0 p1 p2 σ Q) : Mt l D cy yX0_turnBit cX0_turnBit 3 none rm_X0_turnBit [.ref a0, .int p1, .int p2] σ (PsV Q) := by
  unfold wp_X0_turnBit at h
  refine mt_of (by decide +kernel) (Nat.le_of_ble_eq_true rfl) ?_
  intro p e s m args below meth c A ls C hr hnm hl
  have C : Cx p s m args meth c D cy A cX0_turnBit 3 RX0 := C
  have hl : lv_has ls 3 [(0, .ref a0), (1, .int p1), (2, .int p2)] := hl
  refine x_iload_n C dX0_turnBit_0 rfl (lv_at hl 1 rfl) ?_
  refine x_if_lt (tgt := 38) C dX0_turnBit_1 (by decide) (fun c1 => ?_) (fun c1 => ?_)
  · have h := h.1 c1
    exact x_vret C hr dX0_turnBit_38 ⟨rfl, h⟩
  · have h := h.2 c1
    refine x_iload_n C dX0_turnBit_4 rfl (lv_at hl 1 rfl) ?_
    refine x_aload_n C dX0_turnBit_5 rfl (lv_at hl 0 rfl) ?_
    obtain ⟨g2, h⟩ := h
    refine x_getI C fl_RX0_21 g2 dX0_turnBit_6 ?_
    refine x_topi (fun x3 e4 => ?_)
    have h := h x3 e4
    refine x_icmp_ge (tgt := 38) C dX0_turnBit_9 (by decide) (fun c5 => ?_) (fun c5 => ?_)
    · have h := h.1 c5
      exact x_vret C hr dX0_turnBit_38 ⟨rfl, h⟩
    · have h := h.2 c5
      refine x_iload_n C dX0_turnBit_12 rfl (lv_at hl 1 rfl) ?_
      refine x_aload_n C dX0_turnBit_13 rfl (lv_at hl 0 rfl) ?_
      refine x_getP C fl_RX0_15 g2 dX0_turnBit_14 ?_
      obtain ⟨b6, g7, h⟩ := h
      refine x_nn0 g7 ?_
      obtain ⟨g8, h⟩ := h
      refine x_alen C g8 (by decide) (by decide) dX0_turnBit_17 ?_
      refine x_icmp_ge (tgt := 38) C dX0_turnBit_18 (by decide) (fun c9 => ?_) (fun c9 => ?_)
      · have h := h.1 c9
        exact x_vret C hr dX0_turnBit_38 ⟨rfl, h⟩
      · have h := h.2 c9
        refine x_aload_n C dX0_turnBit_21 rfl (lv_at hl 0 rfl) ?_
        refine x_getP C fl_RX0_15 g2 dX0_turnBit_22 ?_
        refine x_iload_n C dX0_turnBit_25 rfl (lv_at hl 1 rfl) ?_
        refine x_aload_n C dX0_turnBit_26 rfl (lv_at hl 0 rfl) ?_
        refine x_getP C fl_RX0_15 g2 dX0_turnBit_27 ?_
        refine x_iload_n C dX0_turnBit_30 rfl (lv_at hl 1 rfl) ?_
        refine x_nn1 g7 ?_
        obtain ⟨g10, h⟩ := h
        refine x_bald C g8 g10 dX0_turnBit_31 ?_
        refine x_topi (fun x11 e12 => ?_)
        have h := h x11 e12
        refine x_iconst (v := 1) C dX0_turnBit_32 (by decide) ?_
        refine x_iload_n C dX0_turnBit_33 rfl (lv_at hl 2 rfl) ?_
        refine x_ishl C dX0_turnBit_34 ?_
        refine x_ixor C dX0_turnBit_35 ?_
        refine x_i2b C dX0_turnBit_36 ?_
        refine x_topi (fun x13 e14 => ?_)
        have h := h x13 e14
        refine x_nn2 g7 ?_
        obtain ⟨g15, h⟩ := h
        refine x_bast C g8 g15 dX0_turnBit_37 ?_
        exact x_vret C hr dX0_turnBit_38 ⟨rfl, h⟩
theorem dX6_init_0 : decode cX6_init 0 = .ok (.aload_n 0, 1) := by decide +kernel
theorem dX6_init_1 : decode cX6_init 1 = .ok (.invokespecial 1, 3) := by decide +kernel
theorem dX6_init_4 : decode cX6_init 4 = .ok (.return_, 1) := by decide +kernel
abbrev rm_X6_init : Room := { frames := 1, cells := 0, slots := 0, locals := 20 }
def wp_X6_init (a0 : Nat)  (σ : Sto) (Q : Sto → Prop) : Prop := Q σ
set_option maxHeartbeats 4000000 in
set_option maxRecDepth 100000 in
theorem c_X6_init (l : Launch) (D : va_G) (cy : Nat → ClassId) (a0 : Nat)  (σ : Sto) (Q : Sto → Prop) (h : wp_X6_init a0  σ Q) : Mt l D cy yX6_init cX6_init 1 none rm_X6_init [.ref a0] σ (PsV Q) := by
  unfold wp_X6_init at h
  refine mt_of (by decide +kernel) (Nat.le_of_ble_eq_true rfl) ?_
  intro p e s m args below meth c A ls C hr hnm hl
  have C : Cx p s m args meth c D cy A cX6_init 1 RX6 := C
  have hl : lv_has ls 1 [(0, .ref a0)] := hl
  refine x_aload_n C dX6_init_0 rfl (lv_at hl 0 rfl) ?_
  refine x_objInit C oi_RX6_1 oi_w2 oi_w3 hl.1 (by decide) (Nat.le_of_ble_eq_true rfl) dX6_init_1 ?_
  exact x_vret C hr dX6_init_4 ⟨rfl, h⟩
theorem dX1_init_0 : decode cX1_init 0 = .ok (.aload_n 0, 1) := by decide +kernel
theorem dX1_init_1 : decode cX1_init 1 = .ok (.invokespecial 3, 3) := by decide +kernel
theorem dX1_init_4 : decode cX1_init 4 = .ok (.aload_n 0, 1) := by decide +kernel
theorem dX1_init_5 : decode cX1_init 5 = .ok (.new 9, 3) := by decide +kernel
theorem dX1_init_8 : decode cX1_init 8 = .ok (.dup, 1) := by decide +kernel
theorem dX1_init_9 : decode cX1_init 9 = .ok (.invokespecial 11, 3) := by decide +kernel
theorem dX1_init_12 : decode cX1_init 12 = .ok (.putfield 12, 3) := by decide +kernel
theorem dX1_init_15 : decode cX1_init 15 = .ok (.aload_n 0, 1) := by decide +kernel
theorem dX1_init_16 : decode cX1_init 16 = .ok (.bipush 64, 2) := by decide +kernel
theorem dX1_init_18 : decode cX1_init 18 = .ok (.anewarray 9, 3) := by decide +kernel
theorem dX1_init_21 : decode cX1_init 21 = .ok (.putfield 18, 3) := by decide +kernel
theorem dX1_init_24 : decode cX1_init 24 = .ok (.iconst 0, 1) := by decide +kernel
theorem dX1_init_25 : decode cX1_init 25 = .ok (.istore_n 1, 1) := by decide +kernel
theorem dX1_init_26 : decode cX1_init 26 = .ok (.iload_n 1, 1) := by decide +kernel
theorem dX1_init_27 : decode cX1_init 27 = .ok (.aload_n 0, 1) := by decide +kernel
theorem dX1_init_28 : decode cX1_init 28 = .ok (.getfield 18, 3) := by decide +kernel
theorem dX1_init_31 : decode cX1_init 31 = .ok (.arraylength, 1) := by decide +kernel
theorem dX1_init_32 : decode cX1_init 32 = .ok (.if_icmp .ge 22, 3) := by decide +kernel
theorem dX1_init_35 : decode cX1_init 35 = .ok (.aload_n 0, 1) := by decide +kernel
theorem dX1_init_36 : decode cX1_init 36 = .ok (.getfield 18, 3) := by decide +kernel
theorem dX1_init_39 : decode cX1_init 39 = .ok (.iload_n 1, 1) := by decide +kernel
theorem dX1_init_40 : decode cX1_init 40 = .ok (.new 9, 3) := by decide +kernel
theorem dX1_init_43 : decode cX1_init 43 = .ok (.dup, 1) := by decide +kernel
theorem dX1_init_44 : decode cX1_init 44 = .ok (.invokespecial 11, 3) := by decide +kernel
theorem dX1_init_47 : decode cX1_init 47 = .ok (.aastore, 1) := by decide +kernel
theorem dX1_init_48 : decode cX1_init 48 = .ok (.iinc 1 1, 3) := by decide +kernel
theorem dX1_init_51 : decode cX1_init 51 = .ok (.goto (-25), 3) := by decide +kernel
theorem dX1_init_54 : decode cX1_init 54 = .ok (.return_, 1) := by decide +kernel
abbrev rm_X1_init : Room := { frames := 2, cells := 66, slots := 454, locals := 40 }
def f_X1_init_26 (a0 : Nat)  (Q : Sto → Prop) (L26 : Int32 × Nat × Nat → Sto → Prop) (t : Int32 × Nat × Nat) (σ : Sto) : Prop := (sK σ a0 = 1 ∧ (∃ b2 : Nat, sP σ a0 5 = some b2 ∧ (sK σ b2 = 20 ∧ (((nI (sN σ b2)) ≤ t.1 → ((t.2.1 ≤ 66 ∧ t.2.2 ≤ 454) ∧ Q σ)) ∧ (¬ (nI (sN σ b2)) ≤ t.1 → (t.2.1 + 1 ≤ 66 ∧ t.2.2 + 6 ≤ 454 ∧ (∀ q8 : Nat, ¬ sK σ q8 < 23 → ∀ σ10 : Sto, σ10 = stN σ q8 6 0 → (((t.2.1 + 1) ≤ 66 ∧ (t.2.2 + 6) ≤ 454) ∧ (wp_X6_init q8  σ10 (fun (σ13 : Sto) => (sK σ13 b2 = 20 ∧ (vp_in t.1 (sN σ13 b2) ∧ (sK σ13 q8 = 6 ∧ (∀ x17 : Int32, x17 = t.1 + (1 : Int32) → L26 (x17, (t.2.1 + 1), (t.2.2 + 6)) (stP σ13 b2 t.1.toNatClampNeg (some q8))))))))))))))))
set_option maxHeartbeats 4000000 in
set_option maxRecDepth 100000 in
theorem t_X1_init_26 {p : Program} {l : Launch} {e : Env} {s : State} {m : MethodId} {args : Array Value} {below : List Frame} {meth : Method} {c : Code} {D : va_G} {cy : Nat → ClassId} {A : Nat → Prop} {a0 : Nat} {Q : Sto → Prop} {L26 : Int32 × Nat × Nat → Sto → Prop} (C : Cx p s m args meth c D cy A cX1_init 2 RX1) (hr : meth.sig.returnType = none) (hnm : meth.name = yX1_init.name) (hL26 : ∀ (t : Int32 × Nat × Nat) (σ : Sto), L26 t σ → ∀ ls : Array Slot, lv_has ls 2 [(0, .ref a0), (1, .int t.1)] → Xw p l e rm_X1_init s m args below meth c D cy A σ t.2.1 t.2.2 (MQ below (Qst D cy A (PsV Q)) args s rm_X1_init.cells rm_X1_init.slots A) (F0 m 26 ls [])) : ∀ (t : Int32 × Nat × Nat) (σ : Sto), f_X1_init_26 a0  Q L26 t σ → ∀ ls : Array Slot, lv_has ls 2 [(0, .ref a0), (1, .int t.1)] → Xw p l e rm_X1_init s m args below meth c D cy A σ t.2.1 t.2.2 (MQ below (Qst D cy A (PsV Q)) args s rm_X1_init.cells rm_X1_init.slots A) (F0 m 26 ls []) := by
  intro t σ h ls hl
  unfold f_X1_init_26 at h
  refine x_iload_n C dX1_init_26 rfl (lv_at hl 1 rfl) ?_
  refine x_aload_n C dX1_init_27 rfl (lv_at hl 0 rfl) ?_
  obtain ⟨g1, h⟩ := h
  refine x_getP C fl_RX1_18 g1 dX1_init_28 ?_
  obtain ⟨b2, g3, h⟩ := h
  refine x_nn0 g3 ?_
  obtain ⟨g4, h⟩ := h
  refine x_alen C g4 (by decide) (by decide) dX1_init_31 ?_
  refine x_icmp_ge (tgt := 54) C dX1_init_32 (by decide) (fun c5 => ?_) (fun c5 => ?_)
  · have h := h.1 c5
    refine x_widen h.1.1 h.1.2 ?_
    exact x_vret C hr dX1_init_54 ⟨rfl, h.2⟩
  · have h := h.2 c5
    refine x_aload_n C dX1_init_35 rfl (lv_at hl 0 rfl) ?_
    refine x_getP C fl_RX1_18 g1 dX1_init_36 ?_
    refine x_iload_n C dX1_init_39 rfl (lv_at hl 1 rfl) ?_
    obtain ⟨g6, g7, h⟩ := h
    refine x_new C cls_6 cl_RX1_9 ins_6 ini_6 g6 g7 dX1_init_40 (fun q8 g9 => ?_)
    refine x_nameS (fun σ10 e11 => ?_)
    have h := h q8 g9 σ10 e11
    refine x_dup C dX1_init_43 (rfl) ?_
    obtain ⟨g12, h⟩ := h
    refine x_callIN (rm := rm_X6_init) (rest := [.ref q8, .int t.1, va_rf (sP σ a0 5)]) (As := []) C cn_RX1_11 (by decide) g12 rfl rfl (by simp [vrc, cat_i, cat_r, cat_l]) hl.1 dX1_init_44 (c_X6_init l D cy q8  σ10 _ h) (ks_v (fun σ13 h => ?_))
    refine x_nn2 g3 ?_
    obtain ⟨g14, h⟩ := h
    obtain ⟨g15, h⟩ := h
    obtain ⟨g16, h⟩ := h
    refine x_aastR C rak_20 g14 g16 g15 dX1_init_47 ?_
    obtain ⟨x17, e18⟩ : ∃ z : Int32, z = t.1 + (1 : Int32) := ⟨_, rfl⟩
    have h := h x17 e18
    refine x_iinc (v := x17) (lv' := [(1, .int x17), (0, .ref a0)]) C dX1_init_48 hl (q0 := 1) rfl (by rw [e18]; rfl) (by decide) (by first | rfl | simp [vrc, cat_i, cat_r, cat_l]) (fun ls hl => ?_)
    refine x_goto (tgt := 26) C dX1_init_51 (by decide) ?_
    exact hL26 (x17, (t.2.1 + 1), (t.2.2 + 6)) _ h ls (lv_sub hl [1, 0] rfl)
def wp_X1_init (a0 : Nat)  (σ : Sto) (Q : Sto → Prop) : Prop := (0 + 1 ≤ 66 ∧ 0 + 6 ≤ 454 ∧ (∀ q3 : Nat, ¬ sK σ q3 < 23 → ∀ σ5 : Sto, σ5 = stN σ q3 6 0 → (((0 + 1) ≤ 66 ∧ (0 + 6) ≤ 454) ∧ (wp_X6_init q3  σ5 (fun (σ8 : Sto) => (sK σ8 a0 = 1 ∧ ((0 + 1) + 1 ≤ 66 ∧ (0 + 6) + 64 ≤ 454 ∧ (∀ q12 : Nat, ¬ sK σ8 q12 < 23 → ∀ σ14 : Sto, σ14 = stN (stP σ8 a0 4 (some q3)) q12 20 64 → (sK σ14 a0 = 1 ∧ LF (f_X1_init_26 a0  Q) ((0 : Int32), ((0 + 1) + 1), ((0 + 6) + 64)) (stP σ14 a0 5 (some q12)))))))))))
set_option maxHeartbeats 4000000 in
set_option maxRecDepth 100000 in
theorem c_X1_init (l : Launch) (D : va_G) (cy : Nat → ClassId) (a0 : Nat)  (σ : Sto) (Q : Sto → Prop) (h : wp_X1_init a0  σ Q) : Mt l D cy yX1_init cX1_init 2 none rm_X1_init [.ref a0] σ (PsV Q) := by
  unfold wp_X1_init at h
  refine mt_of (by decide +kernel) (Nat.le_of_ble_eq_true rfl) ?_
  intro p e s m args below meth c A ls C hr hnm hl
  have C : Cx p s m args meth c D cy A cX1_init 2 RX1 := C
  have hl : lv_has ls 2 [(0, .ref a0)] := hl
  refine x_aload_n C dX1_init_0 rfl (lv_at hl 0 rfl) ?_
  refine x_objInit C oi_RX1_3 oi_w2 oi_w3 hl.1 (by decide) (Nat.le_of_ble_eq_true rfl) dX1_init_1 ?_
  refine x_aload_n C dX1_init_4 rfl (lv_at hl 0 rfl) ?_
  obtain ⟨g1, g2, h⟩ := h
  refine x_new C cls_6 cl_RX1_9 ins_6 ini_6 g1 g2 dX1_init_5 (fun q3 g4 => ?_)
  refine x_nameS (fun σ5 e6 => ?_)
  have h := h q3 g4 σ5 e6
  refine x_dup C dX1_init_8 (rfl) ?_
  obtain ⟨g7, h⟩ := h
  refine x_callIN (rm := rm_X6_init) (rest := [.ref q3, .ref a0]) (As := []) C cn_RX1_11 (by decide) g7 rfl rfl (Nat.le_of_ble_eq_true rfl) hl.1 dX1_init_9 (c_X6_init l D cy q3  σ5 _ h) (ks_v (fun σ8 h => ?_))
  obtain ⟨g9, h⟩ := h
  refine x_putR C fl_RX1_12 (rty_o _) (Or.inr ⟨hnm, _, _, _, rfl, rfl⟩) g9 dX1_init_12 ?_
  refine x_aload_n C dX1_init_15 rfl (lv_at hl 0 rfl) ?_
  refine x_bipush (v := 64) C dX1_init_16 (by decide) ?_
  obtain ⟨g10, g11, h⟩ := h
  refine x_newq C rak_20 (fun _ => rfl) (by decide) cl_RX1_9 (by decide) (by decide) (by decide) g10 g11 dX1_init_18 (fun q12 g13 => ?_)
  refine x_nameS (fun σ14 e15 => ?_)
  have h := h q12 g13 σ14 e15
  obtain ⟨g16, h⟩ := h
  refine x_putR C fl_RX1_18 (rty_a _) (Or.inr ⟨hnm, _, _, _, rfl, rfl⟩) g16 dX1_init_21 ?_
  refine x_iconst (v := 0) C dX1_init_24 (by decide) ?_
  refine x_istore_n (i := 1) (lv' := [(1, .int (0 : Int32)), (0, .ref a0)]) C dX1_init_25 rfl hl (by decide) (by first | rfl | simp [vrc, cat_i, cat_r, cat_l]) (fun ls hl => ?_)
  exact h (fun t σ => ∀ ls : Array Slot, lv_has ls 2 [(0, .ref a0), (1, .int t.1)] → Xw p l e rm_X1_init s m args below meth c D cy A σ t.2.1 t.2.2 (MQ below (Qst D cy A (PsV Q)) args s rm_X1_init.cells rm_X1_init.slots A) (F0 m 26 ls [])) (t_X1_init_26 C hr hnm  (fun t σ h => h)) ls (lv_sub hl [1, 0] rfl)
theorem dX1_begin_0 : decode cX1_begin 0 = .ok (.aload_n 0, 1) := by decide +kernel
theorem dX1_begin_1 : decode cX1_begin 1 = .ok (.aload_n 1, 1) := by decide +kernel
theorem dX1_begin_2 : decode cX1_begin 2 = .ok (.putfield 22, 3) := by decide +kernel
theorem dX1_begin_5 : decode cX1_begin 5 = .ok (.aload_n 0, 1) := by decide +kernel
theorem dX1_begin_6 : decode cX1_begin 6 = .ok (.aload_n 1, 1) := by decide +kernel
theorem dX1_begin_7 : decode cX1_begin 7 = .ok (.getfield 26, 3) := by decide +kernel
theorem dX1_begin_10 : decode cX1_begin 10 = .ok (.putfield 32, 3) := by decide +kernel
theorem dX1_begin_13 : decode cX1_begin 13 = .ok (.aload_n 0, 1) := by decide +kernel
theorem dX1_begin_14 : decode cX1_begin 14 = .ok (.iconst 1, 1) := by decide +kernel
theorem dX1_begin_15 : decode cX1_begin 15 = .ok (.putfield 35, 3) := by decide +kernel
theorem dX1_begin_18 : decode cX1_begin 18 = .ok (.aload_n 0, 1) := by decide +kernel
theorem dX1_begin_19 : decode cX1_begin 19 = .ok (.iconst 0, 1) := by decide +kernel
theorem dX1_begin_20 : decode cX1_begin 20 = .ok (.putfield 39, 3) := by decide +kernel
theorem dX1_begin_23 : decode cX1_begin 23 = .ok (.aload_n 0, 1) := by decide +kernel
theorem dX1_begin_24 : decode cX1_begin 24 = .ok (.iconst 0, 1) := by decide +kernel
theorem dX1_begin_25 : decode cX1_begin 25 = .ok (.putfield 42, 3) := by decide +kernel
theorem dX1_begin_28 : decode cX1_begin 28 = .ok (.return_, 1) := by decide +kernel
abbrev rm_X1_begin : Room := { frames := 0, cells := 0, slots := 0, locals := 0 }
def wp_X1_begin (a0 : Nat) (p1 : Option Nat) (σ : Sto) (Q : Sto → Prop) : Prop := (sK σ a0 = 1 ∧ (∃ b2 : Nat, p1 = some b2 ∧ (sK σ b2 = 9 ∧ (∀ x5 : Int32, x5 = sI σ b2 1 → Q (stI (stI (stI (stI (stP σ a0 0 p1) a0 1 x5) a0 2 (1 : Int32)) a0 6 (0 : Int32)) a0 7 (0 : Int32))))))
set_option maxHeartbeats 4000000 in
set_option maxRecDepth 100000 in
theorem c_X1_begin (l : Launch) (D : va_G) (cy : Nat → ClassId) (a0 : Nat) (p1 : Option Nat) (σ : Sto) (Q : Sto → Prop) (h : wp_X1_begin a0 p1 σ Q) : Mt l D cy yX1_begin cX1_begin 2 none rm_X1_begin [.ref a0, va_rf p1] σ (PsV Q) := by
  unfold wp_X1_begin at h
  refine mt_of (by decide +kernel) (by simp [lg_sl, vrc, cat_i, cat_r, cat_l]) ?_
  intro p e s m args below meth c A ls C hr hnm hl
  have C : Cx p s m args meth c D cy A cX1_begin 2 RX1 := C
  have hl : lv_has ls 2 [(0, .ref a0), (1, va_rf p1)] := by simpa [lv_args, vrc, cat_i, cat_r, cat_l] using hl
  refine x_aload_n C dX1_begin_0 rfl (lv_at hl 0 rfl) ?_
  refine x_aload_nq C dX1_begin_1 rfl (lv_at hl 1 rfl) ?_
  obtain ⟨g1, h⟩ := h
  refine x_putP C fl_RX1_22 (rty_o _) (Or.inl rfl) g1 dX1_begin_2 ?_
  refine x_aload_n C dX1_begin_5 rfl (lv_at hl 0 rfl) ?_
  refine x_aload_nq C dX1_begin_6 rfl (lv_at hl 1 rfl) ?_
  obtain ⟨b2, g3, h⟩ := h
  refine x_nn0 g3 ?_
  obtain ⟨g4, h⟩ := h
  refine x_getI C fl_RX1_26 g4 dX1_begin_7 ?_
  refine x_topi (fun x5 e6 => ?_)
  have h := h x5 e6
  refine x_putI C fl_RX1_32 (Or.inl rfl) g1 dX1_begin_10 ?_
  refine x_aload_n C dX1_begin_13 rfl (lv_at hl 0 rfl) ?_
  refine x_iconst (v := 1) C dX1_begin_14 (by decide) ?_
  refine x_putZ C fl_RX1_35 (Or.inl rfl) (by decide) g1 dX1_begin_15 ?_
  refine x_aload_n C dX1_begin_18 rfl (lv_at hl 0 rfl) ?_
  refine x_iconst (v := 0) C dX1_begin_19 (by decide) ?_
  refine x_putI C fl_RX1_39 (Or.inl rfl) g1 dX1_begin_20 ?_
  refine x_aload_n C dX1_begin_23 rfl (lv_at hl 0 rfl) ?_
  refine x_iconst (v := 0) C dX1_begin_24 (by decide) ?_
  refine x_putI C fl_RX1_42 (Or.inl rfl) g1 dX1_begin_25 ?_
  exact x_vret C hr dX1_begin_28 ⟨rfl, h⟩
theorem dX6_begin_0 : decode cX6_begin 0 = .ok (.aload_n 0, 1) := by decide +kernel
theorem dX6_begin_1 : decode cX6_begin 1 = .ok (.aload_n 1, 1) := by decide +kernel
theorem dX6_begin_2 : decode cX6_begin 2 = .ok (.putfield 7, 3) := by decide +kernel
theorem dX6_begin_5 : decode cX6_begin 5 = .ok (.aload_n 0, 1) := by decide +kernel
theorem dX6_begin_6 : decode cX6_begin 6 = .ok (.lload_n 2, 1) := by decide +kernel
theorem dX6_begin_7 : decode cX6_begin 7 = .ok (.putfield 13, 3) := by decide +kernel
theorem dX6_begin_10 : decode cX6_begin 10 = .ok (.aload_n 0, 1) := by decide +kernel
theorem dX6_begin_11 : decode cX6_begin 11 = .ok (.iload 4, 2) := by decide +kernel
theorem dX6_begin_13 : decode cX6_begin 13 = .ok (.putfield 17, 3) := by decide +kernel
theorem dX6_begin_16 : decode cX6_begin 16 = .ok (.aload_n 0, 1) := by decide +kernel
theorem dX6_begin_17 : decode cX6_begin 17 = .ok (.iconst 0, 1) := by decide +kernel
theorem dX6_begin_18 : decode cX6_begin 18 = .ok (.putfield 21, 3) := by decide +kernel
theorem dX6_begin_21 : decode cX6_begin 21 = .ok (.aload_n 0, 1) := by decide +kernel
theorem dX6_begin_22 : decode cX6_begin 22 = .ok (.iconst 0, 1) := by decide +kernel
theorem dX6_begin_23 : decode cX6_begin 23 = .ok (.putfield 24, 3) := by decide +kernel
theorem dX6_begin_26 : decode cX6_begin 26 = .ok (.return_, 1) := by decide +kernel
abbrev rm_X6_begin : Room := { frames := 0, cells := 0, slots := 0, locals := 0 }
def wp_X6_begin (a0 : Nat) (p1 : Option Nat) (p2 : Int64) (p4 : Int32) (σ : Sto) (Q : Sto → Prop) : Prop := (sK σ a0 = 6 ∧ Q (stI (stI (stI (stJ (stP σ a0 0 p1) a0 1 p2) a0 2 p4) a0 3 (0 : Int32)) a0 4 (0 : Int32)))
set_option maxHeartbeats 4000000 in
set_option maxRecDepth 100000 in
theorem c_X6_begin (l : Launch) (D : va_G) (cy : Nat → ClassId) (a0 : Nat) (p1 : Option Nat) (p2 : Int64) (p4 : Int32) (σ : Sto) (Q : Sto → Prop) (h : wp_X6_begin a0 p1 p2 p4 σ Q) : Mt l D cy yX6_begin cX6_begin 5 none rm_X6_begin [.ref a0, va_rf p1, .long p2, .int p4] σ (PsV Q) := by
  unfold wp_X6_begin at h
  refine mt_of (by decide +kernel) (by simp [lg_sl, vrc, cat_i, cat_r, cat_l]) ?_
  intro p e s m args below meth c A ls C hr hnm hl
  have C : Cx p s m args meth c D cy A cX6_begin 5 RX6 := C
  have hl : lv_has ls 5 [(0, .ref a0), (1, va_rf p1), (2, .long p2), (4, .int p4)] := by simpa [lv_args, vrc, cat_i, cat_r, cat_l] using hl
  refine x_aload_n C dX6_begin_0 rfl (lv_at hl 0 rfl) ?_
  refine x_aload_nq C dX6_begin_1 rfl (lv_at hl 1 rfl) ?_
  obtain ⟨g1, h⟩ := h
  refine x_putP C fl_RX6_7 (rty_o _) (Or.inl rfl) g1 dX6_begin_2 ?_
  refine x_aload_n C dX6_begin_5 rfl (lv_at hl 0 rfl) ?_
  refine x_lload_n C dX6_begin_6 rfl (lv_at hl 2 rfl) ?_
  refine x_putJ C fl_RX6_13 (Or.inl rfl) g1 dX6_begin_7 ?_
  refine x_aload_n C dX6_begin_10 rfl (lv_at hl 0 rfl) ?_
  refine x_iload C dX6_begin_11 (lv_at hl 3 rfl) ?_
  refine x_putI C fl_RX6_17 (Or.inl rfl) g1 dX6_begin_13 ?_
  refine x_aload_n C dX6_begin_16 rfl (lv_at hl 0 rfl) ?_
  refine x_iconst (v := 0) C dX6_begin_17 (by decide) ?_
  refine x_putI C fl_RX6_21 (Or.inl rfl) g1 dX6_begin_18 ?_
  refine x_aload_n C dX6_begin_21 rfl (lv_at hl 0 rfl) ?_
  refine x_iconst (v := 0) C dX6_begin_22 (by decide) ?_
  refine x_putI C fl_RX6_24 (Or.inl rfl) g1 dX6_begin_23 ?_
  exact x_vret C hr dX6_begin_26 ⟨rfl, h⟩
theorem dX1_placeOf_0 : decode cX1_placeOf 0 = .ok (.iconst 0, 1) := by decide +kernel
theorem dX1_placeOf_1 : decode cX1_placeOf 1 = .ok (.istore 4, 2) := by decide +kernel
theorem dX1_placeOf_3 : decode cX1_placeOf 3 = .ok (.iload 4, 2) := by decide +kernel
theorem dX1_placeOf_5 : decode cX1_placeOf 5 = .ok (.aload_n 0, 1) := by decide +kernel
theorem dX1_placeOf_6 : decode cX1_placeOf 6 = .ok (.getfield 42, 3) := by decide +kernel
theorem dX1_placeOf_9 : decode cX1_placeOf 9 = .ok (.if_icmp .ge 48, 3) := by decide +kernel
theorem dX1_placeOf_12 : decode cX1_placeOf 12 = .ok (.aload_n 0, 1) := by decide +kernel
theorem dX1_placeOf_13 : decode cX1_placeOf 13 = .ok (.getfield 18, 3) := by decide +kernel
theorem dX1_placeOf_16 : decode cX1_placeOf 16 = .ok (.aload_n 0, 1) := by decide +kernel
theorem dX1_placeOf_17 : decode cX1_placeOf 17 = .ok (.getfield 39, 3) := by decide +kernel
theorem dX1_placeOf_20 : decode cX1_placeOf 20 = .ok (.iload 4, 2) := by decide +kernel
theorem dX1_placeOf_22 : decode cX1_placeOf 22 = .ok (.iadd, 1) := by decide +kernel
theorem dX1_placeOf_23 : decode cX1_placeOf 23 = .ok (.bipush 63, 2) := by decide +kernel
theorem dX1_placeOf_25 : decode cX1_placeOf 25 = .ok (.iand, 1) := by decide +kernel
theorem dX1_placeOf_26 : decode cX1_placeOf 26 = .ok (.aaload, 1) := by decide +kernel
theorem dX1_placeOf_27 : decode cX1_placeOf 27 = .ok (.astore 5, 2) := by decide +kernel
theorem dX1_placeOf_29 : decode cX1_placeOf 29 = .ok (.aload 5, 2) := by decide +kernel
theorem dX1_placeOf_31 : decode cX1_placeOf 31 = .ok (.getfield 84, 3) := by decide +kernel
theorem dX1_placeOf_34 : decode cX1_placeOf 34 = .ok (.lload_n 1, 1) := by decide +kernel
theorem dX1_placeOf_35 : decode cX1_placeOf 35 = .ok (.lcmp, 1) := by decide +kernel
theorem dX1_placeOf_36 : decode cX1_placeOf 36 = .ok (.ifCond .ne 15, 3) := by decide +kernel
theorem dX1_placeOf_39 : decode cX1_placeOf 39 = .ok (.aload 5, 2) := by decide +kernel
theorem dX1_placeOf_41 : decode cX1_placeOf 41 = .ok (.getfield 85, 3) := by decide +kernel
theorem dX1_placeOf_44 : decode cX1_placeOf 44 = .ok (.iload_n 3, 1) := by decide +kernel
theorem dX1_placeOf_45 : decode cX1_placeOf 45 = .ok (.if_icmp .ne 6, 3) := by decide +kernel
theorem dX1_placeOf_48 : decode cX1_placeOf 48 = .ok (.aload 5, 2) := by decide +kernel
theorem dX1_placeOf_50 : decode cX1_placeOf 50 = .ok (.areturn, 1) := by decide +kernel
theorem dX1_placeOf_51 : decode cX1_placeOf 51 = .ok (.iinc 4 1, 3) := by decide +kernel
theorem dX1_placeOf_54 : decode cX1_placeOf 54 = .ok (.goto (-51), 3) := by decide +kernel
theorem dX1_placeOf_57 : decode cX1_placeOf 57 = .ok (.aload_n 0, 1) := by decide +kernel
theorem dX1_placeOf_58 : decode cX1_placeOf 58 = .ok (.getfield 42, 3) := by decide +kernel
theorem dX1_placeOf_61 : decode cX1_placeOf 61 = .ok (.bipush 64, 2) := by decide +kernel
theorem dX1_placeOf_63 : decode cX1_placeOf 63 = .ok (.if_icmp .ge 16, 3) := by decide +kernel
theorem dX1_placeOf_66 : decode cX1_placeOf 66 = .ok (.aload_n 0, 1) := by decide +kernel
theorem dX1_placeOf_67 : decode cX1_placeOf 67 = .ok (.dup, 1) := by decide +kernel
theorem dX1_placeOf_68 : decode cX1_placeOf 68 = .ok (.getfield 42, 3) := by decide +kernel
theorem dX1_placeOf_71 : decode cX1_placeOf 71 = .ok (.iconst 1, 1) := by decide +kernel
theorem dX1_placeOf_72 : decode cX1_placeOf 72 = .ok (.iadd, 1) := by decide +kernel
theorem dX1_placeOf_73 : decode cX1_placeOf 73 = .ok (.putfield 42, 3) := by decide +kernel
theorem dX1_placeOf_76 : decode cX1_placeOf 76 = .ok (.goto 16, 3) := by decide +kernel
theorem dX1_placeOf_79 : decode cX1_placeOf 79 = .ok (.aload_n 0, 1) := by decide +kernel
theorem dX1_placeOf_80 : decode cX1_placeOf 80 = .ok (.aload_n 0, 1) := by decide +kernel
theorem dX1_placeOf_81 : decode cX1_placeOf 81 = .ok (.getfield 39, 3) := by decide +kernel
theorem dX1_placeOf_84 : decode cX1_placeOf 84 = .ok (.iconst 1, 1) := by decide +kernel
theorem dX1_placeOf_85 : decode cX1_placeOf 85 = .ok (.iadd, 1) := by decide +kernel
theorem dX1_placeOf_86 : decode cX1_placeOf 86 = .ok (.bipush 63, 2) := by decide +kernel
theorem dX1_placeOf_88 : decode cX1_placeOf 88 = .ok (.iand, 1) := by decide +kernel
theorem dX1_placeOf_89 : decode cX1_placeOf 89 = .ok (.putfield 39, 3) := by decide +kernel
theorem dX1_placeOf_92 : decode cX1_placeOf 92 = .ok (.aload_n 0, 1) := by decide +kernel
theorem dX1_placeOf_93 : decode cX1_placeOf 93 = .ok (.getfield 18, 3) := by decide +kernel
theorem dX1_placeOf_96 : decode cX1_placeOf 96 = .ok (.aload_n 0, 1) := by decide +kernel
theorem dX1_placeOf_97 : decode cX1_placeOf 97 = .ok (.getfield 39, 3) := by decide +kernel
theorem dX1_placeOf_100 : decode cX1_placeOf 100 = .ok (.aload_n 0, 1) := by decide +kernel
theorem dX1_placeOf_101 : decode cX1_placeOf 101 = .ok (.getfield 42, 3) := by decide +kernel
theorem dX1_placeOf_104 : decode cX1_placeOf 104 = .ok (.iadd, 1) := by decide +kernel
theorem dX1_placeOf_105 : decode cX1_placeOf 105 = .ok (.iconst 1, 1) := by decide +kernel
theorem dX1_placeOf_106 : decode cX1_placeOf 106 = .ok (.isub, 1) := by decide +kernel
theorem dX1_placeOf_107 : decode cX1_placeOf 107 = .ok (.bipush 63, 2) := by decide +kernel
theorem dX1_placeOf_109 : decode cX1_placeOf 109 = .ok (.iand, 1) := by decide +kernel
theorem dX1_placeOf_110 : decode cX1_placeOf 110 = .ok (.aaload, 1) := by decide +kernel
theorem dX1_placeOf_111 : decode cX1_placeOf 111 = .ok (.astore 4, 2) := by decide +kernel
theorem dX1_placeOf_113 : decode cX1_placeOf 113 = .ok (.aload 4, 2) := by decide +kernel
theorem dX1_placeOf_115 : decode cX1_placeOf 115 = .ok (.aload_n 0, 1) := by decide +kernel
theorem dX1_placeOf_116 : decode cX1_placeOf 116 = .ok (.getfield 22, 3) := by decide +kernel
theorem dX1_placeOf_119 : decode cX1_placeOf 119 = .ok (.lload_n 1, 1) := by decide +kernel
theorem dX1_placeOf_120 : decode cX1_placeOf 120 = .ok (.iload_n 3, 1) := by decide +kernel
theorem dX1_placeOf_121 : decode cX1_placeOf 121 = .ok (.invokevirtual 86, 3) := by decide +kernel
theorem dX1_placeOf_124 : decode cX1_placeOf 124 = .ok (.aload 4, 2) := by decide +kernel
theorem dX1_placeOf_126 : decode cX1_placeOf 126 = .ok (.areturn, 1) := by decide +kernel
abbrev rm_X1_placeOf : Room := { frames := 1, cells := 0, slots := 0, locals := 24 }
def b_X1_placeOf_92 (a0 : Nat)  (Q : Option Nat → Sto → Prop) (p1 : Int64) (p3 : Int32) (σ : Sto) : Prop := (sK σ a0 = 1 ∧ (∀ x2 : Int32, x2 = sI σ a0 6 → (∀ x4 : Int32, x4 = sI σ a0 7 → (∀ x6 : Int32, x6 = ((x2 + x4) - (1 : Int32)) &&& (63 : Int32) → (∃ b8 : Nat, sP σ a0 5 = some b8 ∧ (sK σ b8 = 20 ∧ (vp_in x6 (sN σ b8) ∧ (∀ r12 : Option Nat, r12 = sP σ b8 x6.toNatClampNeg → (∃ b14 : Nat, r12 = some b14 ∧ (sK σ b14 = 6 ∧ (wp_X6_begin b14 (sP σ a0 0) p1 p3 σ (fun (σ17 : Sto) => Q r12 σ17))))))))))))
set_option maxHeartbeats 4000000 in
set_option maxRecDepth 100000 in
theorem t_X1_placeOf_92 {p : Program} {l : Launch} {e : Env} {s : State} {m : MethodId} {args : Array Value} {below : List Frame} {meth : Method} {c : Code} {D : va_G} {cy : Nat → ClassId} {A : Nat → Prop} {a0 : Nat} {Q : Option Nat → Sto → Prop} (C : Cx p s m args meth c D cy A cX1_placeOf 6 RX1) (hr : meth.sig.returnType = (some (.object "OrderedWorks$Place"))) (hnm : meth.name = yX1_placeOf.name) (p1 : Int64) (p3 : Int32) (σ : Sto) (h : b_X1_placeOf_92 a0  Q p1 p3 σ) (ls : Array Slot) (hl : lv_has ls 6 [(0, .ref a0), (1, .long p1), (3, .int p3)]) : Xw p l e rm_X1_placeOf s m args below meth c D cy A σ 0 0 (MQ below (Qst D cy A (PsP Q)) args s rm_X1_placeOf.cells rm_X1_placeOf.slots A) (F0 m 92 ls []) := by
  unfold b_X1_placeOf_92 at h
  refine x_aload_n C dX1_placeOf_92 rfl (lv_at hl 0 rfl) ?_
  obtain ⟨g1, h⟩ := h
  refine x_getP C fl_RX1_18 g1 dX1_placeOf_93 ?_
  refine x_aload_n C dX1_placeOf_96 rfl (lv_at hl 0 rfl) ?_
  refine x_getI C fl_RX1_39 g1 dX1_placeOf_97 ?_
  refine x_topi (fun x2 e3 => ?_)
  have h := h x2 e3
  refine x_aload_n C dX1_placeOf_100 rfl (lv_at hl 0 rfl) ?_
  refine x_getI C fl_RX1_42 g1 dX1_placeOf_101 ?_
  refine x_topi (fun x4 e5 => ?_)
  have h := h x4 e5
  refine x_iadd C dX1_placeOf_104 ?_
  refine x_iconst (v := 1) C dX1_placeOf_105 (by decide) ?_
  refine x_isub C dX1_placeOf_106 ?_
  refine x_bipush (v := 63) C dX1_placeOf_107 (by decide) ?_
  refine x_iand C dX1_placeOf_109 ?_
  refine x_topi (fun x6 e7 => ?_)
  have h := h x6 e7
  obtain ⟨b8, g9, h⟩ := h
  refine x_nn1 g9 ?_
  obtain ⟨g10, h⟩ := h
  obtain ⟨g11, h⟩ := h
  refine x_aald C rak_20 g10 g11 dX1_placeOf_110 ?_
  refine x_topq (fun r12 e13 => ?_)
  have h := h r12 e13
  refine x_astoreq (i := 4) (lv' := [(4, va_rf r12), (0, .ref a0), (1, .long p1), (3, .int p3)]) C dX1_placeOf_111 hl (by decide) (by first | rfl | simp [vrc, cat_i, cat_r, cat_l]) (fun ls hl => ?_)
  refine x_aloadq C dX1_placeOf_113 (lv_at hl 0 rfl) ?_
  refine x_aload_n C dX1_placeOf_115 rfl (lv_at hl 1 rfl) ?_
  refine x_getP C fl_RX1_22 g1 dX1_placeOf_116 ?_
  refine x_lload_n C dX1_placeOf_119 rfl (lv_at hl 2 rfl) ?_
  refine x_iload_n C dX1_placeOf_120 rfl (lv_at hl 3 rfl) ?_
  obtain ⟨b14, g15, h⟩ := h
  refine x_nn3 g15 ?_
  obtain ⟨g16, h⟩ := h
  refine x_callV (rm := rm_X6_begin) (rest := []) (As := [va_rf (sP σ a0 0), .long p1, .int p3]) C cy_RX1_86 g16 (by decide) (by decide) rfl rfl (Nat.le_of_ble_eq_true rfl) hl.1 dX1_placeOf_121 (c_X6_begin l D cy b14 (sP σ a0 0) p1 p3 σ _ h) (ks_v (fun σ17 h => ?_))
  refine x_aloadq C dX1_placeOf_124 (lv_at hl 0 rfl) ?_
  exact x_aret (v := r12) C hr dX1_placeOf_126 ⟨_, rfl, h⟩
def b_X1_placeOf_51 (a0 : Nat) (L3 : Int64 × Int32 × Int32 → Sto → Prop) (Q : Option Nat → Sto → Prop) (p1 : Int64) (p3 : Int32) (p4 : Int32) (σ : Sto) : Prop := (∀ x1 : Int32, x1 = p4 + (1 : Int32) → L3 (p1, p3, x1) σ)
set_option maxHeartbeats 4000000 in
set_option maxRecDepth 100000 in
theorem t_X1_placeOf_51 {p : Program} {l : Launch} {e : Env} {s : State} {m : MethodId} {args : Array Value} {below : List Frame} {meth : Method} {c : Code} {D : va_G} {cy : Nat → ClassId} {A : Nat → Prop} {a0 : Nat} {L3 : Int64 × Int32 × Int32 → Sto → Prop} {Q : Option Nat → Sto → Prop} (C : Cx p s m args meth c D cy A cX1_placeOf 6 RX1) (hr : meth.sig.returnType = (some (.object "OrderedWorks$Place"))) (hnm : meth.name = yX1_placeOf.name) (hL3 : ∀ (t : Int64 × Int32 × Int32) (σ : Sto), L3 t σ → ∀ ls : Array Slot, lv_has ls 6 [(0, .ref a0), (1, .long t.1), (3, .int t.2.1), (4, .int t.2.2)] → Xw p l e rm_X1_placeOf s m args below meth c D cy A σ 0 0 (MQ below (Qst D cy A (PsP Q)) args s rm_X1_placeOf.cells rm_X1_placeOf.slots A) (F0 m 3 ls [])) (p1 : Int64) (p3 : Int32) (p4 : Int32) (σ : Sto) (h : b_X1_placeOf_51 a0 L3 Q p1 p3 p4 σ) (ls : Array Slot) (hl : lv_has ls 6 [(0, .ref a0), (1, .long p1), (3, .int p3), (4, .int p4)]) : Xw p l e rm_X1_placeOf s m args below meth c D cy A σ 0 0 (MQ below (Qst D cy A (PsP Q)) args s rm_X1_placeOf.cells rm_X1_placeOf.slots A) (F0 m 51 ls []) := by
  unfold b_X1_placeOf_51 at h
  obtain ⟨x1, e2⟩ : ∃ z : Int32, z = p4 + (1 : Int32) := ⟨_, rfl⟩
  have h := h x1 e2
  refine x_iinc (v := x1) (lv' := [(4, .int x1), (0, .ref a0), (1, .long p1), (3, .int p3)]) C dX1_placeOf_51 hl (q0 := 3) rfl (by rw [e2]; rfl) (by decide) (by first | rfl | simp [vrc, cat_i, cat_r, cat_l]) (fun ls hl => ?_)
  refine x_goto (tgt := 3) C dX1_placeOf_54 (by decide) ?_
  exact hL3 (p1, p3, x1) _ h ls (lv_sub hl [1, 2, 3, 0] rfl)
def f_X1_placeOf_3 (a0 : Nat)  (Q : Option Nat → Sto → Prop) (L3 : Int64 × Int32 × Int32 → Sto → Prop) (t : Int64 × Int32 × Int32) (σ : Sto) : Prop := (sK σ a0 = 1 ∧ (∀ x2 : Int32, x2 = sI σ a0 7 → ((x2 ≤ t.2.2 → (∀ x5 : Int32, x5 = sI σ a0 7 → (((64 : Int32) ≤ x5 → (∀ x8 : Int32, x8 = sI σ a0 6 → (∀ x10 : Int32, x10 = (x8 + (1 : Int32)) &&& (63 : Int32) → b_X1_placeOf_92 a0  Q t.1 t.2.1 (stI σ a0 6 x10)))) ∧ (¬ (64 : Int32) ≤ x5 → (∀ x12 : Int32, x12 = sI σ a0 7 → (∀ x14 : Int32, x14 = x12 + (1 : Int32) → b_X1_placeOf_92 a0  Q t.1 t.2.1 (stI σ a0 7 x14))))))) ∧ (¬ x2 ≤ t.2.2 → (∀ x16 : Int32, x16 = sI σ a0 6 → (∀ x18 : Int32, x18 = (x16 + t.2.2) &&& (63 : Int32) → (∃ b20 : Nat, sP σ a0 5 = some b20 ∧ (sK σ b20 = 20 ∧ (vp_in x18 (sN σ b20) ∧ (∀ r24 : Option Nat, r24 = sP σ b20 x18.toNatClampNeg → (∃ b26 : Nat, r24 = some b26 ∧ (sK σ b26 = 6 ∧ (∀ y29 : Int64, y29 = sJ σ b26 1 → ((¬ (lg_cmp y29 t.1) = 0 → b_X1_placeOf_51 a0 L3 Q t.1 t.2.1 t.2.2 σ) ∧ ((lg_cmp y29 t.1) = 0 → (∀ x32 : Int32, x32 = sI σ b26 2 → ((¬ x32 = t.2.1 → b_X1_placeOf_51 a0 L3 Q t.1 t.2.1 t.2.2 σ) ∧ (x32 = t.2.1 → Q r24 σ))))))))))))))))))
set_option maxHeartbeats 4000000 in
set_option maxRecDepth 100000 in
theorem t_X1_placeOf_3 {p : Program} {l : Launch} {e : Env} {s : State} {m : MethodId} {args : Array Value} {below : List Frame} {meth : Method} {c : Code} {D : va_G} {cy : Nat → ClassId} {A : Nat → Prop} {a0 : Nat} {Q : Option Nat → Sto → Prop} {L3 : Int64 × Int32 × Int32 → Sto → Prop} (C : Cx p s m args meth c D cy A cX1_placeOf 6 RX1) (hr : meth.sig.returnType = (some (.object "OrderedWorks$Place"))) (hnm : meth.name = yX1_placeOf.name) (hL3 : ∀ (t : Int64 × Int32 × Int32) (σ : Sto), L3 t σ → ∀ ls : Array Slot, lv_has ls 6 [(0, .ref a0), (1, .long t.1), (3, .int t.2.1), (4, .int t.2.2)] → Xw p l e rm_X1_placeOf s m args below meth c D cy A σ 0 0 (MQ below (Qst D cy A (PsP Q)) args s rm_X1_placeOf.cells rm_X1_placeOf.slots A) (F0 m 3 ls [])) : ∀ (t : Int64 × Int32 × Int32) (σ : Sto), f_X1_placeOf_3 a0  Q L3 t σ → ∀ ls : Array Slot, lv_has ls 6 [(0, .ref a0), (1, .long t.1), (3, .int t.2.1), (4, .int t.2.2)] → Xw p l e rm_X1_placeOf s m args below meth c D cy A σ 0 0 (MQ below (Qst D cy A (PsP Q)) args s rm_X1_placeOf.cells rm_X1_placeOf.slots A) (F0 m 3 ls []) := by
  intro t σ h ls hl
  unfold f_X1_placeOf_3 at h
  refine x_iload C dX1_placeOf_3 (lv_at hl 3 rfl) ?_
  refine x_aload_n C dX1_placeOf_5 rfl (lv_at hl 0 rfl) ?_
  obtain ⟨g1, h⟩ := h
  refine x_getI C fl_RX1_42 g1 dX1_placeOf_6 ?_
  refine x_topi (fun x2 e3 => ?_)
  have h := h x2 e3
  refine x_icmp_ge (tgt := 57) C dX1_placeOf_9 (by decide) (fun c4 => ?_) (fun c4 => ?_)
  · have h := h.1 c4
    refine x_aload_n C dX1_placeOf_57 rfl (lv_at hl 0 rfl) ?_
    refine x_getI C fl_RX1_42 g1 dX1_placeOf_58 ?_
    refine x_topi (fun x5 e6 => ?_)
    have h := h x5 e6
    refine x_bipush (v := 64) C dX1_placeOf_61 (by decide) ?_
    refine x_icmp_ge (tgt := 79) C dX1_placeOf_63 (by decide) (fun c7 => ?_) (fun c7 => ?_)
    · have h := h.1 c7
      refine x_aload_n C dX1_placeOf_79 rfl (lv_at hl 0 rfl) ?_
      refine x_aload_n C dX1_placeOf_80 rfl (lv_at hl 0 rfl) ?_
      refine x_getI C fl_RX1_39 g1 dX1_placeOf_81 ?_
      refine x_topi (fun x8 e9 => ?_)
      have h := h x8 e9
      refine x_iconst (v := 1) C dX1_placeOf_84 (by decide) ?_
      refine x_iadd C dX1_placeOf_85 ?_
      refine x_bipush (v := 63) C dX1_placeOf_86 (by decide) ?_
      refine x_iand C dX1_placeOf_88 ?_
      refine x_topi (fun x10 e11 => ?_)
      have h := h x10 e11
      refine x_putI C fl_RX1_39 (Or.inl rfl) g1 dX1_placeOf_89 ?_
      exact t_X1_placeOf_92 C hr hnm  t.1 t.2.1 _ h ls (lv_sub hl [0, 1, 2] rfl)
    · have h := h.2 c7
      refine x_aload_n C dX1_placeOf_66 rfl (lv_at hl 0 rfl) ?_
      refine x_dup C dX1_placeOf_67 (rfl) ?_
      refine x_getI C fl_RX1_42 g1 dX1_placeOf_68 ?_
      refine x_topi (fun x12 e13 => ?_)
      have h := h x12 e13
      refine x_iconst (v := 1) C dX1_placeOf_71 (by decide) ?_
      refine x_iadd C dX1_placeOf_72 ?_
      refine x_topi (fun x14 e15 => ?_)
      have h := h x14 e15
      refine x_putI C fl_RX1_42 (Or.inl rfl) g1 dX1_placeOf_73 ?_
      refine x_goto (tgt := 92) C dX1_placeOf_76 (by decide) ?_
      exact t_X1_placeOf_92 C hr hnm  t.1 t.2.1 _ h ls (lv_sub hl [0, 1, 2] rfl)
  · have h := h.2 c4
    refine x_aload_n C dX1_placeOf_12 rfl (lv_at hl 0 rfl) ?_
    refine x_getP C fl_RX1_18 g1 dX1_placeOf_13 ?_
    refine x_aload_n C dX1_placeOf_16 rfl (lv_at hl 0 rfl) ?_
    refine x_getI C fl_RX1_39 g1 dX1_placeOf_17 ?_
    refine x_topi (fun x16 e17 => ?_)
    have h := h x16 e17
    refine x_iload C dX1_placeOf_20 (lv_at hl 3 rfl) ?_
    refine x_iadd C dX1_placeOf_22 ?_
    refine x_bipush (v := 63) C dX1_placeOf_23 (by decide) ?_
    refine x_iand C dX1_placeOf_25 ?_
    refine x_topi (fun x18 e19 => ?_)
    have h := h x18 e19
    obtain ⟨b20, g21, h⟩ := h
    refine x_nn1 g21 ?_
    obtain ⟨g22, h⟩ := h
    obtain ⟨g23, h⟩ := h
    refine x_aald C rak_20 g22 g23 dX1_placeOf_26 ?_
    refine x_topq (fun r24 e25 => ?_)
    have h := h r24 e25
    refine x_astoreq (i := 5) (lv' := [(5, va_rf r24), (0, .ref a0), (1, .long t.1), (3, .int t.2.1), (4, .int t.2.2)]) C dX1_placeOf_27 hl (by decide) (by first | rfl | simp [vrc, cat_i, cat_r, cat_l]) (fun ls hl => ?_)
    refine x_aloadq C dX1_placeOf_29 (lv_at hl 0 rfl) ?_
    obtain ⟨b26, g27, h⟩ := h
    refine x_nn0 g27 ?_
    obtain ⟨g28, h⟩ := h
    refine x_getJ C fl_RX1_84 g28 dX1_placeOf_31 ?_
    refine x_topj (fun y29 e30 => ?_)
    have h := h y29 e30
    refine x_lload_n C dX1_placeOf_34 rfl (lv_at hl 2 rfl) ?_
    refine x_lcmp C dX1_placeOf_35 ?_
    refine x_if_ne (tgt := 51) C dX1_placeOf_36 (by decide) (fun c31 => ?_) (fun c31 => ?_)
    · have h := h.1 c31
      exact t_X1_placeOf_51 C hr hnm hL3 t.1 t.2.1 t.2.2 _ h ls (lv_sub hl [1, 2, 3, 4] rfl)
    · have h := h.2 c31
      refine x_aloadq C dX1_placeOf_39 (lv_at hl 0 rfl) ?_
      refine x_nn0 g27 ?_
      refine x_getI C fl_RX1_85 g28 dX1_placeOf_41 ?_
      refine x_topi (fun x32 e33 => ?_)
      have h := h x32 e33
      refine x_iload_n C dX1_placeOf_44 rfl (lv_at hl 3 rfl) ?_
      refine x_icmp_ne (tgt := 51) C dX1_placeOf_45 (by decide) (fun c34 => ?_) (fun c34 => ?_)
      · have h := h.1 c34
        exact t_X1_placeOf_51 C hr hnm hL3 t.1 t.2.1 t.2.2 _ h ls (lv_sub hl [1, 2, 3, 4] rfl)
      · have h := h.2 c34
        refine x_aloadq C dX1_placeOf_48 (lv_at hl 0 rfl) ?_
        exact x_aret (v := r24) C hr dX1_placeOf_50 ⟨_, rfl, h⟩
def wp_X1_placeOf (a0 : Nat) (p1 : Int64) (p3 : Int32) (σ : Sto) (Q : Option Nat → Sto → Prop) : Prop := LF (f_X1_placeOf_3 a0  Q) (p1, p3, (0 : Int32)) σ
set_option maxHeartbeats 4000000 in
set_option maxRecDepth 100000 in
theorem c_X1_placeOf (l : Launch) (D : va_G) (cy : Nat → ClassId) (a0 : Nat) (p1 : Int64) (p3 : Int32) (σ : Sto) (Q : Option Nat → Sto → Prop) (h : wp_X1_placeOf a0 p1 p3 σ Q) : Mt l D cy yX1_placeOf cX1_placeOf 6 (some (.object "OrderedWorks$Place")) rm_X1_placeOf [.ref a0, .long p1, .int p3] σ (PsP Q) := by
  unfold wp_X1_placeOf at h
  refine mt_of (by decide +kernel) (Nat.le_of_ble_eq_true rfl) ?_
  intro p e s m args below meth c A ls C hr hnm hl
  have C : Cx p s m args meth c D cy A cX1_placeOf 6 RX1 := C
  have hl : lv_has ls 6 [(0, .ref a0), (1, .long p1), (3, .int p3)] := hl
  refine x_iconst (v := 0) C dX1_placeOf_0 (by decide) ?_
  refine x_istore (i := 4) (lv' := [(4, .int (0 : Int32)), (0, .ref a0), (1, .long p1), (3, .int p3)]) C dX1_placeOf_1 hl (by decide) (by first | rfl | simp [vrc, cat_i, cat_r, cat_l]) (fun ls hl => ?_)
  exact h (fun t σ => ∀ ls : Array Slot, lv_has ls 6 [(0, .ref a0), (1, .long t.1), (3, .int t.2.1), (4, .int t.2.2)] → Xw p l e rm_X1_placeOf s m args below meth c D cy A σ 0 0 (MQ below (Qst D cy A (PsP Q)) args s rm_X1_placeOf.cells rm_X1_placeOf.slots A) (F0 m 3 ls [])) (t_X1_placeOf_3 C hr hnm  (fun t σ h => h)) ls (lv_sub hl [1, 2, 3, 0] rfl)
theorem dJ6_bitCount_0f7a4_0 : decode cJ6_bitCount_0f7a4 0 = .ok (.iload_n 0, 1) := by decide +kernel
theorem dJ6_bitCount_0f7a4_1 : decode cJ6_bitCount_0f7a4 1 = .ok (.iload_n 0, 1) := by decide +kernel
theorem dJ6_bitCount_0f7a4_2 : decode cJ6_bitCount_0f7a4 2 = .ok (.iconst 1, 1) := by decide +kernel
theorem dJ6_bitCount_0f7a4_3 : decode cJ6_bitCount_0f7a4 3 = .ok (.iushr, 1) := by decide +kernel
theorem dJ6_bitCount_0f7a4_4 : decode cJ6_bitCount_0f7a4 4 = .ok (.ldc_w 265, 3) := by decide +kernel
theorem dJ6_bitCount_0f7a4_7 : decode cJ6_bitCount_0f7a4 7 = .ok (.iand, 1) := by decide +kernel
theorem dJ6_bitCount_0f7a4_8 : decode cJ6_bitCount_0f7a4 8 = .ok (.isub, 1) := by decide +kernel
theorem dJ6_bitCount_0f7a4_9 : decode cJ6_bitCount_0f7a4 9 = .ok (.istore_n 0, 1) := by decide +kernel
theorem dJ6_bitCount_0f7a4_10 : decode cJ6_bitCount_0f7a4 10 = .ok (.iload_n 0, 1) := by decide +kernel
theorem dJ6_bitCount_0f7a4_11 : decode cJ6_bitCount_0f7a4 11 = .ok (.ldc_w 266, 3) := by decide +kernel
theorem dJ6_bitCount_0f7a4_14 : decode cJ6_bitCount_0f7a4 14 = .ok (.iand, 1) := by decide +kernel
theorem dJ6_bitCount_0f7a4_15 : decode cJ6_bitCount_0f7a4 15 = .ok (.iload_n 0, 1) := by decide +kernel
theorem dJ6_bitCount_0f7a4_16 : decode cJ6_bitCount_0f7a4 16 = .ok (.iconst 2, 1) := by decide +kernel
theorem dJ6_bitCount_0f7a4_17 : decode cJ6_bitCount_0f7a4 17 = .ok (.iushr, 1) := by decide +kernel
theorem dJ6_bitCount_0f7a4_18 : decode cJ6_bitCount_0f7a4 18 = .ok (.ldc_w 266, 3) := by decide +kernel
theorem dJ6_bitCount_0f7a4_21 : decode cJ6_bitCount_0f7a4 21 = .ok (.iand, 1) := by decide +kernel
theorem dJ6_bitCount_0f7a4_22 : decode cJ6_bitCount_0f7a4 22 = .ok (.iadd, 1) := by decide +kernel
theorem dJ6_bitCount_0f7a4_23 : decode cJ6_bitCount_0f7a4 23 = .ok (.istore_n 0, 1) := by decide +kernel
theorem dJ6_bitCount_0f7a4_24 : decode cJ6_bitCount_0f7a4 24 = .ok (.iload_n 0, 1) := by decide +kernel
theorem dJ6_bitCount_0f7a4_25 : decode cJ6_bitCount_0f7a4 25 = .ok (.iload_n 0, 1) := by decide +kernel
theorem dJ6_bitCount_0f7a4_26 : decode cJ6_bitCount_0f7a4 26 = .ok (.iconst 4, 1) := by decide +kernel
theorem dJ6_bitCount_0f7a4_27 : decode cJ6_bitCount_0f7a4 27 = .ok (.iushr, 1) := by decide +kernel
theorem dJ6_bitCount_0f7a4_28 : decode cJ6_bitCount_0f7a4 28 = .ok (.iadd, 1) := by decide +kernel
theorem dJ6_bitCount_0f7a4_29 : decode cJ6_bitCount_0f7a4 29 = .ok (.ldc_w 267, 3) := by decide +kernel
theorem dJ6_bitCount_0f7a4_32 : decode cJ6_bitCount_0f7a4 32 = .ok (.iand, 1) := by decide +kernel
theorem dJ6_bitCount_0f7a4_33 : decode cJ6_bitCount_0f7a4 33 = .ok (.istore_n 0, 1) := by decide +kernel
theorem dJ6_bitCount_0f7a4_34 : decode cJ6_bitCount_0f7a4 34 = .ok (.iload_n 0, 1) := by decide +kernel
theorem dJ6_bitCount_0f7a4_35 : decode cJ6_bitCount_0f7a4 35 = .ok (.iload_n 0, 1) := by decide +kernel
theorem dJ6_bitCount_0f7a4_36 : decode cJ6_bitCount_0f7a4 36 = .ok (.bipush 8, 2) := by decide +kernel
theorem dJ6_bitCount_0f7a4_38 : decode cJ6_bitCount_0f7a4 38 = .ok (.iushr, 1) := by decide +kernel
theorem dJ6_bitCount_0f7a4_39 : decode cJ6_bitCount_0f7a4 39 = .ok (.iadd, 1) := by decide +kernel
theorem dJ6_bitCount_0f7a4_40 : decode cJ6_bitCount_0f7a4 40 = .ok (.istore_n 0, 1) := by decide +kernel
theorem dJ6_bitCount_0f7a4_41 : decode cJ6_bitCount_0f7a4 41 = .ok (.iload_n 0, 1) := by decide +kernel
theorem dJ6_bitCount_0f7a4_42 : decode cJ6_bitCount_0f7a4 42 = .ok (.iload_n 0, 1) := by decide +kernel
theorem dJ6_bitCount_0f7a4_43 : decode cJ6_bitCount_0f7a4 43 = .ok (.bipush 16, 2) := by decide +kernel
theorem dJ6_bitCount_0f7a4_45 : decode cJ6_bitCount_0f7a4 45 = .ok (.iushr, 1) := by decide +kernel
theorem dJ6_bitCount_0f7a4_46 : decode cJ6_bitCount_0f7a4 46 = .ok (.iadd, 1) := by decide +kernel
theorem dJ6_bitCount_0f7a4_47 : decode cJ6_bitCount_0f7a4 47 = .ok (.istore_n 0, 1) := by decide +kernel
theorem dJ6_bitCount_0f7a4_48 : decode cJ6_bitCount_0f7a4 48 = .ok (.iload_n 0, 1) := by decide +kernel
theorem dJ6_bitCount_0f7a4_49 : decode cJ6_bitCount_0f7a4 49 = .ok (.bipush 63, 2) := by decide +kernel
theorem dJ6_bitCount_0f7a4_51 : decode cJ6_bitCount_0f7a4 51 = .ok (.iand, 1) := by decide +kernel
theorem dJ6_bitCount_0f7a4_52 : decode cJ6_bitCount_0f7a4 52 = .ok (.ireturn, 1) := by decide +kernel
abbrev rm_J6_bitCount_0f7a4 : Room := { frames := 0, cells := 0, slots := 0, locals := 0 }
def wp_J6_bitCount_0f7a4 (p0 : Int32) (σ : Sto) (Q : Int32 → Sto → Prop) : Prop := (∀ x1 : Int32, x1 = p0 - (((p0.toUInt32 >>> ((1 : Int32).toUInt32 &&& Int32.toUInt32 31)).toInt32) &&& (1431655765 : Int32)) → (∀ x3 : Int32, x3 = (x1 &&& (858993459 : Int32)) + (((x1.toUInt32 >>> ((2 : Int32).toUInt32 &&& Int32.toUInt32 31)).toInt32) &&& (858993459 : Int32)) → (∀ x5 : Int32, x5 = (x3 + ((x3.toUInt32 >>> ((4 : Int32).toUInt32 &&& Int32.toUInt32 31)).toInt32)) &&& (252645135 : Int32) → (∀ x7 : Int32, x7 = x5 + ((x5.toUInt32 >>> ((8 : Int32).toUInt32 &&& Int32.toUInt32 31)).toInt32) → (∀ x9 : Int32, x9 = x7 + ((x7.toUInt32 >>> ((16 : Int32).toUInt32 &&& Int32.toUInt32 31)).toInt32) → Q (x9 &&& (63 : Int32)) σ)))))
set_option maxHeartbeats 4000000 in
set_option maxRecDepth 100000 in
theorem c_J6_bitCount_0f7a4 (l : Launch) (D : va_G) (cy : Nat → ClassId) (p0 : Int32) (σ : Sto) (Q : Int32 → Sto → Prop) (h : wp_J6_bitCount_0f7a4 p0 σ Q) : Mt l D cy yJ6_bitCount_0f7a4 cJ6_bitCount_0f7a4 1 (some .int) rm_J6_bitCount_0f7a4 [.int p0] σ (PsI Q) := by
  unfold wp_J6_bitCount_0f7a4 at h
  refine mt_ofF (by decide +kernel) (Nat.le_of_ble_eq_true rfl) ?_
  intro p e s m args below meth c A ls C hr hnm hl
  have C : Cx p s m args meth c D cy A cJ6_bitCount_0f7a4 1 RJ6 := C
  have hl : lv_has ls 1 [(0, .int p0)] := hl
  refine x_iload_n C dJ6_bitCount_0f7a4_0 rfl (lv_at hl 0 rfl) ?_
  refine x_iload_n C dJ6_bitCount_0f7a4_1 rfl (lv_at hl 0 rfl) ?_
  refine x_iconst (v := 1) C dJ6_bitCount_0f7a4_2 (by decide) ?_
  refine x_iushr C dJ6_bitCount_0f7a4_3 ?_
  refine x_ldcw C kk_RJ6_265 dJ6_bitCount_0f7a4_4 ?_
  refine x_iand C dJ6_bitCount_0f7a4_7 ?_
  refine x_isub C dJ6_bitCount_0f7a4_8 ?_
  refine x_topi (fun x1 e2 => ?_)
  have h := h x1 e2
  refine x_istore_n (i := 0) (lv' := [(0, .int x1)]) C dJ6_bitCount_0f7a4_9 rfl hl (by decide) (by first | rfl | simp [vrc, cat_i, cat_r, cat_l]) (fun ls hl => ?_)
  refine x_iload_n C dJ6_bitCount_0f7a4_10 rfl (lv_at hl 0 rfl) ?_
  refine x_ldcw C kk_RJ6_266 dJ6_bitCount_0f7a4_11 ?_
  refine x_iand C dJ6_bitCount_0f7a4_14 ?_
  refine x_iload_n C dJ6_bitCount_0f7a4_15 rfl (lv_at hl 0 rfl) ?_
  refine x_iconst (v := 2) C dJ6_bitCount_0f7a4_16 (by decide) ?_
  refine x_iushr C dJ6_bitCount_0f7a4_17 ?_
  refine x_ldcw C kk_RJ6_266 dJ6_bitCount_0f7a4_18 ?_
  refine x_iand C dJ6_bitCount_0f7a4_21 ?_
  refine x_iadd C dJ6_bitCount_0f7a4_22 ?_
  refine x_topi (fun x3 e4 => ?_)
  have h := h x3 e4
  refine x_istore_n (i := 0) (lv' := [(0, .int x3)]) C dJ6_bitCount_0f7a4_23 rfl hl (by decide) (by first | rfl | simp [vrc, cat_i, cat_r, cat_l]) (fun ls hl => ?_)
  refine x_iload_n C dJ6_bitCount_0f7a4_24 rfl (lv_at hl 0 rfl) ?_
  refine x_iload_n C dJ6_bitCount_0f7a4_25 rfl (lv_at hl 0 rfl) ?_
  refine x_iconst (v := 4) C dJ6_bitCount_0f7a4_26 (by decide) ?_
  refine x_iushr C dJ6_bitCount_0f7a4_27 ?_
  refine x_iadd C dJ6_bitCount_0f7a4_28 ?_
  refine x_ldcw C kk_RJ6_267 dJ6_bitCount_0f7a4_29 ?_
  refine x_iand C dJ6_bitCount_0f7a4_32 ?_
  refine x_topi (fun x5 e6 => ?_)
  have h := h x5 e6
  refine x_istore_n (i := 0) (lv' := [(0, .int x5)]) C dJ6_bitCount_0f7a4_33 rfl hl (by decide) (by first | rfl | simp [vrc, cat_i, cat_r, cat_l]) (fun ls hl => ?_)
  refine x_iload_n C dJ6_bitCount_0f7a4_34 rfl (lv_at hl 0 rfl) ?_
  refine x_iload_n C dJ6_bitCount_0f7a4_35 rfl (lv_at hl 0 rfl) ?_
  refine x_bipush (v := 8) C dJ6_bitCount_0f7a4_36 (by decide) ?_
  refine x_iushr C dJ6_bitCount_0f7a4_38 ?_
  refine x_iadd C dJ6_bitCount_0f7a4_39 ?_
  refine x_topi (fun x7 e8 => ?_)
  have h := h x7 e8
  refine x_istore_n (i := 0) (lv' := [(0, .int x7)]) C dJ6_bitCount_0f7a4_40 rfl hl (by decide) (by first | rfl | simp [vrc, cat_i, cat_r, cat_l]) (fun ls hl => ?_)
  refine x_iload_n C dJ6_bitCount_0f7a4_41 rfl (lv_at hl 0 rfl) ?_
  refine x_iload_n C dJ6_bitCount_0f7a4_42 rfl (lv_at hl 0 rfl) ?_
  refine x_bipush (v := 16) C dJ6_bitCount_0f7a4_43 (by decide) ?_
  refine x_iushr C dJ6_bitCount_0f7a4_45 ?_
  refine x_iadd C dJ6_bitCount_0f7a4_46 ?_
  refine x_topi (fun x9 e10 => ?_)
  have h := h x9 e10
  refine x_istore_n (i := 0) (lv' := [(0, .int x9)]) C dJ6_bitCount_0f7a4_47 rfl hl (by decide) (by first | rfl | simp [vrc, cat_i, cat_r, cat_l]) (fun ls hl => ?_)
  refine x_iload_n C dJ6_bitCount_0f7a4_48 rfl (lv_at hl 0 rfl) ?_
  refine x_bipush (v := 63) C dJ6_bitCount_0f7a4_49 (by decide) ?_
  refine x_iand C dJ6_bitCount_0f7a4_51 ?_
  exact x_iret C hr dJ6_bitCount_0f7a4_52 ⟨_, rfl, h⟩
