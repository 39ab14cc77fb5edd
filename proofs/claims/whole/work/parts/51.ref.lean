theorem dX12_message_0 : decode cX12_message 0 = .ok (.aload_n 0, 1) := by decide +kernel
theorem dX12_message_1 : decode cX12_message 1 = .ok (.iconst 0, 1) := by decide +kernel
theorem dX12_message_2 : decode cX12_message 2 = .ok (.putfield 267, 3) := by decide +kernel
theorem dX12_message_5 : decode cX12_message 5 = .ok (.iload_n 1, 1) := by decide +kernel
theorem dX12_message_6 : decode cX12_message 6 = .ok (.iconst 0, 1) := by decide +kernel
theorem dX12_message_7 : decode cX12_message 7 = .ok (.aload_n 0, 1) := by decide +kernel
theorem dX12_message_8 : decode cX12_message 8 = .ok (.getfield 281, 3) := by decide +kernel
theorem dX12_message_11 : decode cX12_message 11 = .ok (.iconst 1, 1) := by decide +kernel
theorem dX12_message_12 : decode cX12_message 12 = .ok (.isub, 1) := by decide +kernel
theorem dX12_message_13 : decode cX12_message 13 = .ok (.invokestatic 270, 3) := by decide +kernel
theorem dX12_message_16 : decode cX12_message 16 = .ok (.ifCond .ne 5, 3) := by decide +kernel
theorem dX12_message_19 : decode cX12_message 19 = .ok (.iconst (-1), 1) := by decide +kernel
theorem dX12_message_20 : decode cX12_message 20 = .ok (.ireturn, 1) := by decide +kernel
theorem dX12_message_21 : decode cX12_message 21 = .ok (.aload_n 0, 1) := by decide +kernel
theorem dX12_message_22 : decode cX12_message 22 = .ok (.getfield 9, 3) := by decide +kernel
theorem dX12_message_25 : decode cX12_message 25 = .ok (.iload_n 1, 1) := by decide +kernel
theorem dX12_message_26 : decode cX12_message 26 = .ok (.iaload, 1) := by decide +kernel
theorem dX12_message_27 : decode cX12_message 27 = .ok (.istore_n 3, 1) := by decide +kernel
theorem dX12_message_28 : decode cX12_message 28 = .ok (.sipush 640, 3) := by decide +kernel
theorem dX12_message_31 : decode cX12_message 31 = .ok (.iload_n 3, 1) := by decide +kernel
theorem dX12_message_32 : decode cX12_message 32 = .ok (.imul, 1) := by decide +kernel
theorem dX12_message_33 : decode cX12_message 33 = .ok (.istore 4, 2) := by decide +kernel
theorem dX12_message_35 : decode cX12_message 35 = .ok (.iload_n 2, 1) := by decide +kernel
theorem dX12_message_36 : decode cX12_message 36 = .ok (.tableswitch 115 0 3 #[32, 39, 47, 76], 32) := by decide +kernel
theorem dX12_message_68 : decode cX12_message 68 = .ok (.aload_n 0, 1) := by decide +kernel
theorem dX12_message_69 : decode cX12_message 69 = .ok (.getfield 24, 3) := by decide +kernel
theorem dX12_message_72 : decode cX12_message 72 = .ok (.iload_n 3, 1) := by decide +kernel
theorem dX12_message_73 : decode cX12_message 73 = .ok (.iaload, 1) := by decide +kernel
theorem dX12_message_74 : decode cX12_message 74 = .ok (.ireturn, 1) := by decide +kernel
theorem dX12_message_75 : decode cX12_message 75 = .ok (.aload_n 0, 1) := by decide +kernel
theorem dX12_message_76 : decode cX12_message 76 = .ok (.getfield 18, 3) := by decide +kernel
theorem dX12_message_79 : decode cX12_message 79 = .ok (.iload 4, 2) := by decide +kernel
theorem dX12_message_81 : decode cX12_message 81 = .ok (.iaload, 1) := by decide +kernel
theorem dX12_message_82 : decode cX12_message 82 = .ok (.ireturn, 1) := by decide +kernel
theorem dX12_message_83 : decode cX12_message 83 = .ok (.aload_n 0, 1) := by decide +kernel
theorem dX12_message_84 : decode cX12_message 84 = .ok (.getfield 18, 3) := by decide +kernel
theorem dX12_message_87 : decode cX12_message 87 = .ok (.iload 4, 2) := by decide +kernel
theorem dX12_message_89 : decode cX12_message 89 = .ok (.iconst 1, 1) := by decide +kernel
theorem dX12_message_90 : decode cX12_message 90 = .ok (.iadd, 1) := by decide +kernel
theorem dX12_message_91 : decode cX12_message 91 = .ok (.iaload, 1) := by decide +kernel
theorem dX12_message_92 : decode cX12_message 92 = .ok (.sipush 255, 3) := by decide +kernel
theorem dX12_message_95 : decode cX12_message 95 = .ok (.if_icmp .ne 7, 3) := by decide +kernel
theorem dX12_message_98 : decode cX12_message 98 = .ok (.iconst (-1), 1) := by decide +kernel
theorem dX12_message_99 : decode cX12_message 99 = .ok (.goto 12, 3) := by decide +kernel
theorem dX12_message_102 : decode cX12_message 102 = .ok (.aload_n 0, 1) := by decide +kernel
theorem dX12_message_103 : decode cX12_message 103 = .ok (.getfield 18, 3) := by decide +kernel
theorem dX12_message_106 : decode cX12_message 106 = .ok (.iload 4, 2) := by decide +kernel
theorem dX12_message_108 : decode cX12_message 108 = .ok (.iconst 1, 1) := by decide +kernel
theorem dX12_message_109 : decode cX12_message 109 = .ok (.iadd, 1) := by decide +kernel
theorem dX12_message_110 : decode cX12_message 110 = .ok (.iaload, 1) := by decide +kernel
theorem dX12_message_111 : decode cX12_message 111 = .ok (.ireturn, 1) := by decide +kernel
theorem dX12_message_112 : decode cX12_message 112 = .ok (.aload_n 0, 1) := by decide +kernel
theorem dX12_message_113 : decode cX12_message 113 = .ok (.getfield 18, 3) := by decide +kernel
theorem dX12_message_116 : decode cX12_message 116 = .ok (.iload 4, 2) := by decide +kernel
theorem dX12_message_118 : decode cX12_message 118 = .ok (.iconst 2, 1) := by decide +kernel
theorem dX12_message_119 : decode cX12_message 119 = .ok (.iadd, 1) := by decide +kernel
theorem dX12_message_120 : decode cX12_message 120 = .ok (.iaload, 1) := by decide +kernel
theorem dX12_message_121 : decode cX12_message 121 = .ok (.bipush 16, 2) := by decide +kernel
theorem dX12_message_123 : decode cX12_message 123 = .ok (.if_icmp .lt 18, 3) := by decide +kernel
theorem dX12_message_126 : decode cX12_message 126 = .ok (.aload_n 0, 1) := by decide +kernel
theorem dX12_message_127 : decode cX12_message 127 = .ok (.getfield 18, 3) := by decide +kernel
theorem dX12_message_130 : decode cX12_message 130 = .ok (.iload 4, 2) := by decide +kernel
theorem dX12_message_132 : decode cX12_message 132 = .ok (.iconst 2, 1) := by decide +kernel
theorem dX12_message_133 : decode cX12_message 133 = .ok (.iadd, 1) := by decide +kernel
theorem dX12_message_134 : decode cX12_message 134 = .ok (.iaload, 1) := by decide +kernel
theorem dX12_message_135 : decode cX12_message 135 = .ok (.bipush 16, 2) := by decide +kernel
theorem dX12_message_137 : decode cX12_message 137 = .ok (.isub, 1) := by decide +kernel
theorem dX12_message_138 : decode cX12_message 138 = .ok (.goto 12, 3) := by decide +kernel
theorem dX12_message_141 : decode cX12_message 141 = .ok (.aload_n 0, 1) := by decide +kernel
theorem dX12_message_142 : decode cX12_message 142 = .ok (.getfield 18, 3) := by decide +kernel
theorem dX12_message_145 : decode cX12_message 145 = .ok (.iload 4, 2) := by decide +kernel
theorem dX12_message_147 : decode cX12_message 147 = .ok (.iconst 2, 1) := by decide +kernel
theorem dX12_message_148 : decode cX12_message 148 = .ok (.iadd, 1) := by decide +kernel
theorem dX12_message_149 : decode cX12_message 149 = .ok (.iaload, 1) := by decide +kernel
theorem dX12_message_150 : decode cX12_message 150 = .ok (.ireturn, 1) := by decide +kernel
theorem dX12_message_151 : decode cX12_message 151 = .ok (.iconst (-1), 1) := by decide +kernel
theorem dX12_message_152 : decode cX12_message 152 = .ok (.ireturn, 1) := by decide +kernel
abbrev rm_X12_message : Room := { frames := 1, cells := 0, slots := 0, locals := 22 }
def wp_X12_message (a0 : Nat) (p1 : Int32) (p2 : Int32) (σ : Sto) (Q : Int32 → Sto → Prop) : Prop := (sK σ a0 = 12 ∧ (∀ x2 : Int32, x2 = sI (stI σ a0 0 (0 : Int32)) a0 6 → (wp_X12_in p1 (0 : Int32) (x2 - (1 : Int32)) (stI σ a0 0 (0 : Int32)) (fun (x5 : Int32) (σ4 : Sto) => ((¬ x5 = 0 → (sK σ4 a0 = 12 ∧ (∃ b8 : Nat, sP σ4 a0 5 = some b8 ∧ (sK σ4 b8 = 14 ∧ (vp_in p1 (sN σ4 b8) ∧ (∀ x12 : Int32, x12 = sI σ4 b8 p1.toNatClampNeg → (∀ x14 : Int32, x14 = (640 : Int32) * x12 → ((p2.toInt < 0 ∨ 3 < p2.toInt → Q (-1 : Int32) σ4) ∧ (p2 = (0 : Int32) → (∃ b18 : Nat, sP σ4 a0 12 = some b18 ∧ (sK σ4 b18 = 14 ∧ (vp_in x12 (sN σ4 b18) ∧ (∀ x22 : Int32, x22 = sI σ4 b18 x12.toNatClampNeg → Q x22 σ4))))) ∧ (p2 = (1 : Int32) → (∃ b24 : Nat, sP σ4 a0 10 = some b24 ∧ (sK σ4 b24 = 14 ∧ (vp_in x14 (sN σ4 b24) ∧ (∀ x28 : Int32, x28 = sI σ4 b24 x14.toNatClampNeg → Q x28 σ4))))) ∧ (p2 = (2 : Int32) → (∀ x30 : Int32, x30 = x14 + (1 : Int32) → (∃ b32 : Nat, sP σ4 a0 10 = some b32 ∧ (sK σ4 b32 = 14 ∧ (vp_in x30 (sN σ4 b32) ∧ (∀ x36 : Int32, x36 = sI σ4 b32 x30.toNatClampNeg → ((¬ x36 = (255 : Int32) → (∀ x39 : Int32, x39 = x14 + (1 : Int32) → (vp_in x39 (sN σ4 b32) ∧ (∀ x42 : Int32, x42 = sI σ4 b32 x39.toNatClampNeg → Q x42 σ4)))) ∧ (x36 = (255 : Int32) → Q (-1 : Int32) σ4)))))))) ∧ (p2 = (3 : Int32) → (∀ x44 : Int32, x44 = x14 + (2 : Int32) → (∃ b46 : Nat, sP σ4 a0 10 = some b46 ∧ (sK σ4 b46 = 14 ∧ (vp_in x44 (sN σ4 b46) ∧ (∀ x50 : Int32, x50 = sI σ4 b46 x44.toNatClampNeg → ((x50 < (16 : Int32) → (∀ x53 : Int32, x53 = x14 + (2 : Int32) → (vp_in x53 (sN σ4 b46) ∧ (∀ x56 : Int32, x56 = sI σ4 b46 x53.toNatClampNeg → Q x56 σ4)))) ∧ (¬ x50 < (16 : Int32) → (∀ x58 : Int32, x58 = x14 + (2 : Int32) → (vp_in x58 (sN σ4 b46) ∧ (∀ x61 : Int32, x61 = sI σ4 b46 x58.toNatClampNeg → Q (x61 - (16 : Int32)) σ4))))))))))))))))))) ∧ (x5 = 0 → Q (-1 : Int32) σ4))))))
set_option maxHeartbeats 4000000 in
set_option maxRecDepth 100000 in
theorem c_X12_message (l : Launch) (D : va_G) (cy : Nat → ClassId) (a0 : Nat) (p1 : Int32) (p2 : Int32) (σ : Sto) (Q : Int32 → Sto → Prop) (h : wp_X12_message a0 p1 p2 σ Q) : Mt l D cy yX12_message cX12_message 5 (some .int) rm_X12_message [.ref a0, .int p1, .int p2] σ (PsI Q) := by
  unfold wp_X12_message at h
  refine mt_of (by decide +kernel) (Nat.le_of_ble_eq_true rfl) ?_
  intro p e s m args below meth c A ls C hr hnm hl
  have C : Cx p s m args meth c D cy A cX12_message 5 RX12 := C
  have hl : lv_has ls 5 [(0, .ref a0), (1, .int p1), (2, .int p2)] := hl
  refine x_aload_n C dX12_message_0 rfl (lv_at hl 0 rfl) ?_
  refine x_iconst (v := 0) C dX12_message_1 (by decide) ?_
  obtain ⟨g1, h⟩ := h
  refine x_putI C fl_RX12_267 (Or.inl rfl) g1 dX12_message_2 ?_
  refine x_iload_n C dX12_message_5 rfl (lv_at hl 1 rfl) ?_
  refine x_iconst (v := 0) C dX12_message_6 (by decide) ?_
  refine x_aload_n C dX12_message_7 rfl (lv_at hl 0 rfl) ?_
  refine x_getI C fl_RX12_281 g1 dX12_message_8 ?_
  refine x_topi (fun x2 e3 => ?_)
  have h := h x2 e3
  refine x_iconst (v := 1) C dX12_message_11 (by decide) ?_
  refine x_isub C dX12_message_12 ?_
  refine x_callS (rm := rm_X12_in) (rest := []) (As := [.int p1, .int (0 : Int32), .int (x2 - (1 : Int32))]) C cs_RX12_270 (by decide) (by decide) rfl rfl (Nat.le_of_ble_eq_true rfl) hl.1 dX12_message_13 (c_X12_in l D cy p1 (0 : Int32) (x2 - (1 : Int32)) (stI σ a0 0 (0 : Int32)) _ h) (ks_i (fun x5 σ4 h => ?_))
  refine x_if_ne (tgt := 21) C dX12_message_16 (by decide) (fun c6 => ?_) (fun c6 => ?_)
  · have h := h.1 c6
    refine x_aload_n C dX12_message_21 rfl (lv_at hl 0 rfl) ?_
    obtain ⟨g7, h⟩ := h
    refine x_getP C fl_RX12_9 g7 dX12_message_22 ?_
    refine x_iload_n C dX12_message_25 rfl (lv_at hl 1 rfl) ?_
    obtain ⟨b8, g9, h⟩ := h
    refine x_nn1 g9 ?_
    obtain ⟨g10, h⟩ := h
    obtain ⟨g11, h⟩ := h
    refine x_iald C g10 g11 dX12_message_26 ?_
    refine x_topi (fun x12 e13 => ?_)
    have h := h x12 e13
    refine x_istore_n (i := 3) (lv' := [(3, .int x12), (0, .ref a0), (1, .int p1), (2, .int p2)]) C dX12_message_27 rfl hl (by decide) (by first | rfl | simp [vrc, cat_i, cat_r, cat_l]) (fun ls hl => ?_)
    refine x_sipush (v := 640) C dX12_message_28 (by decide) ?_
    refine x_iload_n C dX12_message_31 rfl (lv_at hl 0 rfl) ?_
    refine x_imul C dX12_message_32 ?_
    refine x_topi (fun x14 e15 => ?_)
    have h := h x14 e15
    refine x_istore (i := 4) (lv' := [(4, .int x14), (3, .int x12), (0, .ref a0), (1, .int p1), (2, .int p2)]) C dX12_message_33 hl (by decide) (by first | rfl | simp [vrc, cat_i, cat_r, cat_l]) (fun ls hl => ?_)
    refine x_iload_n C dX12_message_35 rfl (lv_at hl 4 rfl) ?_
    by_cases c16 : p2.toInt < 0 ∨ 3 < p2.toInt
    · have h := h.1 c16
      refine x_tableOut (tgt := 151) C dX12_message_36 c16 (by decide) ?_
      refine x_iconst (v := -1) C dX12_message_151 (by decide) ?_
      exact x_iret C hr dX12_message_152 ⟨_, rfl, h⟩
    · rcases (show p2.toInt = 0 ∨ p2.toInt = 1 ∨ p2.toInt = 2 ∨ p2.toInt = 3 by omega) with c17 | c17 | c17 | c17
      · have h := h.2.1 (sw_eq (k := 0) (c17.trans (by decide)))
        refine x_tableIn (tgt := 68) (off := 32) C dX12_message_36 (by omega) (by omega) (by rw [c17]; rfl) (by decide) ?_
        refine x_aload_n C dX12_message_68 rfl (lv_at hl 2 rfl) ?_
        refine x_getP C fl_RX12_24 g7 dX12_message_69 ?_
        refine x_iload_n C dX12_message_72 rfl (lv_at hl 1 rfl) ?_
        obtain ⟨b18, g19, h⟩ := h
        refine x_nn1 g19 ?_
        obtain ⟨g20, h⟩ := h
        obtain ⟨g21, h⟩ := h
        refine x_iald C g20 g21 dX12_message_73 ?_
        refine x_topi (fun x22 e23 => ?_)
        have h := h x22 e23
        exact x_iret C hr dX12_message_74 ⟨_, rfl, h⟩
      · have h := h.2.2.1 (sw_eq (k := 1) (c17.trans (by decide)))
        refine x_tableIn (tgt := 75) (off := 39) C dX12_message_36 (by omega) (by omega) (by rw [c17]; rfl) (by decide) ?_
        refine x_aload_n C dX12_message_75 rfl (lv_at hl 2 rfl) ?_
        refine x_getP C fl_RX12_18 g7 dX12_message_76 ?_
        refine x_iload C dX12_message_79 (lv_at hl 0 rfl) ?_
        obtain ⟨b24, g25, h⟩ := h
        refine x_nn1 g25 ?_
        obtain ⟨g26, h⟩ := h
        obtain ⟨g27, h⟩ := h
        refine x_iald C g26 g27 dX12_message_81 ?_
        refine x_topi (fun x28 e29 => ?_)
        have h := h x28 e29
        exact x_iret C hr dX12_message_82 ⟨_, rfl, h⟩
      · have h := h.2.2.2.1 (sw_eq (k := 2) (c17.trans (by decide)))
        refine x_tableIn (tgt := 83) (off := 47) C dX12_message_36 (by omega) (by omega) (by rw [c17]; rfl) (by decide) ?_
        refine x_aload_n C dX12_message_83 rfl (lv_at hl 2 rfl) ?_
        refine x_getP C fl_RX12_18 g7 dX12_message_84 ?_
        refine x_iload C dX12_message_87 (lv_at hl 0 rfl) ?_
        refine x_iconst (v := 1) C dX12_message_89 (by decide) ?_
        refine x_iadd C dX12_message_90 ?_
        refine x_topi (fun x30 e31 => ?_)
        have h := h x30 e31
        obtain ⟨b32, g33, h⟩ := h
        refine x_nn1 g33 ?_
        obtain ⟨g34, h⟩ := h
        obtain ⟨g35, h⟩ := h
        refine x_iald C g34 g35 dX12_message_91 ?_
        refine x_topi (fun x36 e37 => ?_)
        have h := h x36 e37
        refine x_sipush (v := 255) C dX12_message_92 (by decide) ?_
        refine x_icmp_ne (tgt := 102) C dX12_message_95 (by decide) (fun c38 => ?_) (fun c38 => ?_)
        · have h := h.1 c38
          refine x_aload_n C dX12_message_102 rfl (lv_at hl 2 rfl) ?_
          refine x_getP C fl_RX12_18 g7 dX12_message_103 ?_
          refine x_iload C dX12_message_106 (lv_at hl 0 rfl) ?_
          refine x_iconst (v := 1) C dX12_message_108 (by decide) ?_
          refine x_iadd C dX12_message_109 ?_
          refine x_topi (fun x39 e40 => ?_)
          have h := h x39 e40
          refine x_nn1 g33 ?_
          obtain ⟨g41, h⟩ := h
          refine x_iald C g34 g41 dX12_message_110 ?_
          refine x_topi (fun x42 e43 => ?_)
          have h := h x42 e43
          exact x_iret C hr dX12_message_111 ⟨_, rfl, h⟩
        · have h := h.2 c38
          refine x_iconst (v := -1) C dX12_message_98 (by decide) ?_
          refine x_goto (tgt := 111) C dX12_message_99 (by decide) ?_
          exact x_iret C hr dX12_message_111 ⟨_, rfl, h⟩
      · have h := h.2.2.2.2 (sw_eq (k := 3) (c17.trans (by decide)))
        refine x_tableIn (tgt := 112) (off := 76) C dX12_message_36 (by omega) (by omega) (by rw [c17]; rfl) (by decide) ?_
        refine x_aload_n C dX12_message_112 rfl (lv_at hl 2 rfl) ?_
        refine x_getP C fl_RX12_18 g7 dX12_message_113 ?_
        refine x_iload C dX12_message_116 (lv_at hl 0 rfl) ?_
        refine x_iconst (v := 2) C dX12_message_118 (by decide) ?_
        refine x_iadd C dX12_message_119 ?_
        refine x_topi (fun x44 e45 => ?_)
        have h := h x44 e45
        obtain ⟨b46, g47, h⟩ := h
        refine x_nn1 g47 ?_
        obtain ⟨g48, h⟩ := h
        obtain ⟨g49, h⟩ := h
        refine x_iald C g48 g49 dX12_message_120 ?_
        refine x_topi (fun x50 e51 => ?_)
        have h := h x50 e51
        refine x_bipush (v := 16) C dX12_message_121 (by decide) ?_
        refine x_icmp_lt (tgt := 141) C dX12_message_123 (by decide) (fun c52 => ?_) (fun c52 => ?_)
        · have h := h.1 c52
          refine x_aload_n C dX12_message_141 rfl (lv_at hl 2 rfl) ?_
          refine x_getP C fl_RX12_18 g7 dX12_message_142 ?_
          refine x_iload C dX12_message_145 (lv_at hl 0 rfl) ?_
          refine x_iconst (v := 2) C dX12_message_147 (by decide) ?_
          refine x_iadd C dX12_message_148 ?_
          refine x_topi (fun x53 e54 => ?_)
          have h := h x53 e54
          refine x_nn1 g47 ?_
          obtain ⟨g55, h⟩ := h
          refine x_iald C g48 g55 dX12_message_149 ?_
          refine x_topi (fun x56 e57 => ?_)
          have h := h x56 e57
          exact x_iret C hr dX12_message_150 ⟨_, rfl, h⟩
        · have h := h.2 c52
          refine x_aload_n C dX12_message_126 rfl (lv_at hl 2 rfl) ?_
          refine x_getP C fl_RX12_18 g7 dX12_message_127 ?_
          refine x_iload C dX12_message_130 (lv_at hl 0 rfl) ?_
          refine x_iconst (v := 2) C dX12_message_132 (by decide) ?_
          refine x_iadd C dX12_message_133 ?_
          refine x_topi (fun x58 e59 => ?_)
          have h := h x58 e59
          refine x_nn1 g47 ?_
          obtain ⟨g60, h⟩ := h
          refine x_iald C g48 g60 dX12_message_134 ?_
          refine x_topi (fun x61 e62 => ?_)
          have h := h x61 e62
          refine x_bipush (v := 16) C dX12_message_135 (by decide) ?_
          refine x_isub C dX12_message_137 ?_
          refine x_goto (tgt := 150) C dX12_message_138 (by decide) ?_
          exact x_iret C hr dX12_message_150 ⟨_, rfl, h⟩
  · have h := h.2 c6
    refine x_iconst (v := -1) C dX12_message_19 (by decide) ?_
    exact x_iret C hr dX12_message_20 ⟨_, rfl, h⟩
theorem dX12_write_0 : decode cX12_write 0 = .ok (.aload_n 0, 1) := by decide +kernel
theorem dX12_write_1 : decode cX12_write 1 = .ok (.getfield 242, 3) := by decide +kernel
theorem dX12_write_4 : decode cX12_write 4 = .ok (.aload_n 0, 1) := by decide +kernel
theorem dX12_write_5 : decode cX12_write 5 = .ok (.getfield 492, 3) := by decide +kernel
theorem dX12_write_8 : decode cX12_write 8 = .ok (.iload_n 1, 1) := by decide +kernel
theorem dX12_write_9 : decode cX12_write 9 = .ok (.sipush 255, 3) := by decide +kernel
theorem dX12_write_12 : decode cX12_write 12 = .ok (.iand, 1) := by decide +kernel
theorem dX12_write_13 : decode cX12_write 13 = .ok (.iastore, 1) := by decide +kernel
theorem dX12_write_14 : decode cX12_write 14 = .ok (.aload_n 0, 1) := by decide +kernel
theorem dX12_write_15 : decode cX12_write 15 = .ok (.dup, 1) := by decide +kernel
theorem dX12_write_16 : decode cX12_write 16 = .ok (.getfield 492, 3) := by decide +kernel
theorem dX12_write_19 : decode cX12_write 19 = .ok (.iconst 1, 1) := by decide +kernel
theorem dX12_write_20 : decode cX12_write 20 = .ok (.iadd, 1) := by decide +kernel
theorem dX12_write_21 : decode cX12_write 21 = .ok (.putfield 492, 3) := by decide +kernel
theorem dX12_write_24 : decode cX12_write 24 = .ok (.return_, 1) := by decide +kernel
abbrev rm_X12_write : Room := { frames := 0, cells := 0, slots := 0, locals := 0 }
def wp_X12_write (a0 : Nat) (p1 : Int32) (σ : Sto) (Q : Sto → Prop) : Prop := (sK σ a0 = 12 ∧ (∀ x2 : Int32, x2 = sI σ a0 89 → (∀ x4 : Int32, x4 = p1 &&& (255 : Int32) → (∃ b6 : Nat, sP σ a0 88 = some b6 ∧ (sK σ b6 = 14 ∧ (vp_in x2 (sN σ b6) ∧ (∀ x10 : Int32, x10 = sI (stI σ b6 x2.toNatClampNeg x4) a0 89 → (∀ x12 : Int32, x12 = x10 + (1 : Int32) → Q (stI (stI σ b6 x2.toNatClampNeg x4) a0 89 x12)))))))))
set_option maxHeartbeats 4000000 in
set_option maxRecDepth 100000 in
theorem c_X12_write (l : Launch) (D : va_G) (cy : Nat → ClassId) (a0 : Nat) (p1 : Int32) (σ : Sto) (Q : Sto → Prop) (h : wp_X12_write a0 p1 σ Q) : Mt l D cy yX12_write cX12_write 2 none rm_X12_write [.ref a0, .int p1] σ (PsV Q) := by
  unfold wp_X12_write at h
  refine mt_of (by decide +kernel) (Nat.le_of_ble_eq_true rfl) ?_
  intro p e s m args below meth c A ls C hr hnm hl
  have C : Cx p s m args meth c D cy A cX12_write 2 RX12 := C
  have hl : lv_has ls 2 [(0, .ref a0), (1, .int p1)] := hl
  refine x_aload_n C dX12_write_0 rfl (lv_at hl 0 rfl) ?_
  obtain ⟨g1, h⟩ := h
  refine x_getP C fl_RX12_242 g1 dX12_write_1 ?_
  refine x_aload_n C dX12_write_4 rfl (lv_at hl 0 rfl) ?_
  refine x_getI C fl_RX12_492 g1 dX12_write_5 ?_
  refine x_topi (fun x2 e3 => ?_)
  have h := h x2 e3
  refine x_iload_n C dX12_write_8 rfl (lv_at hl 1 rfl) ?_
  refine x_sipush (v := 255) C dX12_write_9 (by decide) ?_
  refine x_iand C dX12_write_12 ?_
  refine x_topi (fun x4 e5 => ?_)
  have h := h x4 e5
  obtain ⟨b6, g7, h⟩ := h
  refine x_nn2 g7 ?_
  obtain ⟨g8, h⟩ := h
  obtain ⟨g9, h⟩ := h
  refine x_iast C g8 g9 dX12_write_13 ?_
  refine x_aload_n C dX12_write_14 rfl (lv_at hl 0 rfl) ?_
  refine x_dup C dX12_write_15 (rfl) ?_
  refine x_getI C fl_RX12_492 g1 dX12_write_16 ?_
  refine x_topi (fun x10 e11 => ?_)
  have h := h x10 e11
  refine x_iconst (v := 1) C dX12_write_19 (by decide) ?_
  refine x_iadd C dX12_write_20 ?_
  refine x_topi (fun x12 e13 => ?_)
  have h := h x12 e13
  refine x_putI C fl_RX12_492 (Or.inl rfl) g1 dX12_write_21 ?_
  exact x_vret C hr dX12_write_24 ⟨rfl, h⟩
theorem dX12_writeNumber_0 : decode cX12_writeNumber 0 = .ok (.iload_n 1, 1) := by decide +kernel
theorem dX12_writeNumber_1 : decode cX12_writeNumber 1 = .ok (.istore_n 2, 1) := by decide +kernel
theorem dX12_writeNumber_2 : decode cX12_writeNumber 2 = .ok (.iload_n 2, 1) := by decide +kernel
theorem dX12_writeNumber_3 : decode cX12_writeNumber 3 = .ok (.bipush 127, 2) := by decide +kernel
theorem dX12_writeNumber_5 : decode cX12_writeNumber 5 = .ok (.if_icmp .le 23, 3) := by decide +kernel
theorem dX12_writeNumber_8 : decode cX12_writeNumber 8 = .ok (.aload_n 0, 1) := by decide +kernel
theorem dX12_writeNumber_9 : decode cX12_writeNumber 9 = .ok (.iload_n 2, 1) := by decide +kernel
theorem dX12_writeNumber_10 : decode cX12_writeNumber 10 = .ok (.bipush 127, 2) := by decide +kernel
theorem dX12_writeNumber_12 : decode cX12_writeNumber 12 = .ok (.iand, 1) := by decide +kernel
theorem dX12_writeNumber_13 : decode cX12_writeNumber 13 = .ok (.sipush 128, 3) := by decide +kernel
theorem dX12_writeNumber_16 : decode cX12_writeNumber 16 = .ok (.ior, 1) := by decide +kernel
theorem dX12_writeNumber_17 : decode cX12_writeNumber 17 = .ok (.invokevirtual 495, 3) := by decide +kernel
theorem dX12_writeNumber_20 : decode cX12_writeNumber 20 = .ok (.iload_n 2, 1) := by decide +kernel
theorem dX12_writeNumber_21 : decode cX12_writeNumber 21 = .ok (.bipush 7, 2) := by decide +kernel
theorem dX12_writeNumber_23 : decode cX12_writeNumber 23 = .ok (.ishr, 1) := by decide +kernel
theorem dX12_writeNumber_24 : decode cX12_writeNumber 24 = .ok (.istore_n 2, 1) := by decide +kernel
theorem dX12_writeNumber_25 : decode cX12_writeNumber 25 = .ok (.goto (-23), 3) := by decide +kernel
theorem dX12_writeNumber_28 : decode cX12_writeNumber 28 = .ok (.aload_n 0, 1) := by decide +kernel
theorem dX12_writeNumber_29 : decode cX12_writeNumber 29 = .ok (.iload_n 2, 1) := by decide +kernel
theorem dX12_writeNumber_30 : decode cX12_writeNumber 30 = .ok (.invokevirtual 495, 3) := by decide +kernel
theorem dX12_writeNumber_33 : decode cX12_writeNumber 33 = .ok (.return_, 1) := by decide +kernel
abbrev rm_X12_writeNumber : Room := { frames := 1, cells := 0, slots := 0, locals := 21 }
def f_X12_writeNumber_2 (a0 : Nat)  (Q : Sto → Prop) (L2 : Int32 → Sto → Prop) (t : Int32) (σ : Sto) : Prop := ((t ≤ (127 : Int32) → (sK σ a0 = 12 ∧ (wp_X12_write a0 t σ (fun (σ3 : Sto) => Q σ3)))) ∧ (¬ t ≤ (127 : Int32) → (sK σ a0 = 12 ∧ (wp_X12_write a0 ((t &&& (127 : Int32)) ||| (128 : Int32)) σ (fun (σ5 : Sto) => (∀ x6 : Int32, x6 = t >>> ((7 : Int32) &&& 31) → L2 (x6) σ5))))))
set_option maxHeartbeats 4000000 in
set_option maxRecDepth 100000 in
theorem t_X12_writeNumber_2 {p : Program} {l : Launch} {e : Env} {s : State} {m : MethodId} {args : Array Value} {below : List Frame} {meth : Method} {c : Code} {D : va_G} {cy : Nat → ClassId} {A : Nat → Prop} {a0 : Nat} {Q : Sto → Prop} {L2 : Int32 → Sto → Prop} (C : Cx p s m args meth c D cy A cX12_writeNumber 3 RX12) (hr : meth.sig.returnType = none) (hnm : meth.name = yX12_writeNumber.name) (hL2 : ∀ (t : Int32) (σ : Sto), L2 t σ → ∀ ls : Array Slot, lv_has ls 3 [(0, .ref a0), (2, .int t)] → Xw p l e rm_X12_writeNumber s m args below meth c D cy A σ 0 0 (MQ below (Qst D cy A (PsV Q)) args s rm_X12_writeNumber.cells rm_X12_writeNumber.slots A) (F0 m 2 ls [])) : ∀ (t : Int32) (σ : Sto), f_X12_writeNumber_2 a0  Q L2 t σ → ∀ ls : Array Slot, lv_has ls 3 [(0, .ref a0), (2, .int t)] → Xw p l e rm_X12_writeNumber s m args below meth c D cy A σ 0 0 (MQ below (Qst D cy A (PsV Q)) args s rm_X12_writeNumber.cells rm_X12_writeNumber.slots A) (F0 m 2 ls []) := by
  intro t σ h ls hl
  unfold f_X12_writeNumber_2 at h
  refine x_iload_n C dX12_writeNumber_2 rfl (lv_at hl 1 rfl) ?_
  refine x_bipush (v := 127) C dX12_writeNumber_3 (by decide) ?_
  refine x_icmp_le (tgt := 28) C dX12_writeNumber_5 (by decide) (fun c1 => ?_) (fun c1 => ?_)
  · have h := h.1 c1
    refine x_aload_n C dX12_writeNumber_28 rfl (lv_at hl 0 rfl) ?_
    refine x_iload_n C dX12_writeNumber_29 rfl (lv_at hl 1 rfl) ?_
    obtain ⟨g2, h⟩ := h
    refine x_callV (rm := rm_X12_write) (rest := []) (As := [.int t]) C cy_RX12_495 g2 (by decide) (by decide) rfl rfl (Nat.le_of_ble_eq_true rfl) hl.1 dX12_writeNumber_30 (c_X12_write l D cy a0 t σ _ h) (ks_v (fun σ3 h => ?_))
    exact x_vret C hr dX12_writeNumber_33 ⟨rfl, h⟩
  · have h := h.2 c1
    refine x_aload_n C dX12_writeNumber_8 rfl (lv_at hl 0 rfl) ?_
    refine x_iload_n C dX12_writeNumber_9 rfl (lv_at hl 1 rfl) ?_
    refine x_bipush (v := 127) C dX12_writeNumber_10 (by decide) ?_
    refine x_iand C dX12_writeNumber_12 ?_
    refine x_sipush (v := 128) C dX12_writeNumber_13 (by decide) ?_
    refine x_ior C dX12_writeNumber_16 ?_
    obtain ⟨g4, h⟩ := h
    refine x_callV (rm := rm_X12_write) (rest := []) (As := [.int ((t &&& (127 : Int32)) ||| (128 : Int32))]) C cy_RX12_495 g4 (by decide) (by decide) rfl rfl (Nat.le_of_ble_eq_true rfl) hl.1 dX12_writeNumber_17 (c_X12_write l D cy a0 ((t &&& (127 : Int32)) ||| (128 : Int32)) σ _ h) (ks_v (fun σ5 h => ?_))
    refine x_iload_n C dX12_writeNumber_20 rfl (lv_at hl 1 rfl) ?_
    refine x_bipush (v := 7) C dX12_writeNumber_21 (by decide) ?_
    refine x_ishr C dX12_writeNumber_23 ?_
    refine x_topi (fun x6 e7 => ?_)
    have h := h x6 e7
    refine x_istore_n (i := 2) (lv' := [(2, .int x6), (0, .ref a0)]) C dX12_writeNumber_24 rfl hl (by decide) (by first | rfl | simp [vrc, cat_i, cat_r, cat_l]) (fun ls hl => ?_)
    refine x_goto (tgt := 2) C dX12_writeNumber_25 (by decide) ?_
    exact hL2 (x6) _ h ls (lv_sub hl [1, 0] rfl)
def wp_X12_writeNumber (a0 : Nat) (p1 : Int32) (σ : Sto) (Q : Sto → Prop) : Prop := LF (f_X12_writeNumber_2 a0  Q) (p1) σ
set_option maxHeartbeats 4000000 in
set_option maxRecDepth 100000 in
theorem c_X12_writeNumber (l : Launch) (D : va_G) (cy : Nat → ClassId) (a0 : Nat) (p1 : Int32) (σ : Sto) (Q : Sto → Prop) (h : wp_X12_writeNumber a0 p1 σ Q) : Mt l D cy yX12_writeNumber cX12_writeNumber 3 none rm_X12_writeNumber [.ref a0, .int p1] σ (PsV Q) := by
  unfold wp_X12_writeNumber at h
  refine mt_of (by decide +kernel) (Nat.le_of_ble_eq_true rfl) ?_
  intro p e s m args below meth c A ls C hr hnm hl
  have C : Cx p s m args meth c D cy A cX12_writeNumber 3 RX12 := C
  have hl : lv_has ls 3 [(0, .ref a0), (1, .int p1)] := hl
  refine x_iload_n C dX12_writeNumber_0 rfl (lv_at hl 1 rfl) ?_
  refine x_istore_n (i := 2) (lv' := [(2, .int p1), (0, .ref a0), (1, .int p1)]) C dX12_writeNumber_1 rfl hl (by decide) (by first | rfl | simp [vrc, cat_i, cat_r, cat_l]) (fun ls hl => ?_)
  exact h (fun t σ => ∀ ls : Array Slot, lv_has ls 3 [(0, .ref a0), (2, .int t)] → Xw p l e rm_X12_writeNumber s m args below meth c D cy A σ 0 0 (MQ below (Qst D cy A (PsV Q)) args s rm_X12_writeNumber.cells rm_X12_writeNumber.slots A) (F0 m 2 ls [])) (t_X12_writeNumber_2 C hr hnm  (fun t σ h => h)) ls (lv_sub hl [1, 0] rfl)
theorem dX12_writeWord_0 : decode cX12_writeWord 0 = .ok (.bipush 24, 2) := by decide +kernel
theorem dX12_writeWord_2 : decode cX12_writeWord 2 = .ok (.istore_n 2, 1) := by decide +kernel
theorem dX12_writeWord_3 : decode cX12_writeWord 3 = .ok (.iload_n 2, 1) := by decide +kernel
theorem dX12_writeWord_4 : decode cX12_writeWord 4 = .ok (.ifCond .lt 16, 3) := by decide +kernel
theorem dX12_writeWord_7 : decode cX12_writeWord 7 = .ok (.aload_n 0, 1) := by decide +kernel
theorem dX12_writeWord_8 : decode cX12_writeWord 8 = .ok (.iload_n 1, 1) := by decide +kernel
theorem dX12_writeWord_9 : decode cX12_writeWord 9 = .ok (.iload_n 2, 1) := by decide +kernel
theorem dX12_writeWord_10 : decode cX12_writeWord 10 = .ok (.ishr, 1) := by decide +kernel
theorem dX12_writeWord_11 : decode cX12_writeWord 11 = .ok (.invokevirtual 495, 3) := by decide +kernel
theorem dX12_writeWord_14 : decode cX12_writeWord 14 = .ok (.iinc 2 (-8), 3) := by decide +kernel
theorem dX12_writeWord_17 : decode cX12_writeWord 17 = .ok (.goto (-14), 3) := by decide +kernel
theorem dX12_writeWord_20 : decode cX12_writeWord 20 = .ok (.return_, 1) := by decide +kernel
abbrev rm_X12_writeWord : Room := { frames := 1, cells := 0, slots := 0, locals := 21 }
def f_X12_writeWord_3 (a0 : Nat)  (Q : Sto → Prop) (L3 : Int32 × Int32 → Sto → Prop) (t : Int32 × Int32) (σ : Sto) : Prop := ((t.2 < 0 → Q σ) ∧ (¬ t.2 < 0 → (sK σ a0 = 12 ∧ (wp_X12_write a0 (t.1 >>> (t.2 &&& 31)) σ (fun (σ3 : Sto) => (∀ x4 : Int32, x4 = t.2 + (-8 : Int32) → L3 (t.1, x4) σ3))))))
set_option maxHeartbeats 4000000 in
set_option maxRecDepth 100000 in
theorem t_X12_writeWord_3 {p : Program} {l : Launch} {e : Env} {s : State} {m : MethodId} {args : Array Value} {below : List Frame} {meth : Method} {c : Code} {D : va_G} {cy : Nat → ClassId} {A : Nat → Prop} {a0 : Nat} {Q : Sto → Prop} {L3 : Int32 × Int32 → Sto → Prop} (C : Cx p s m args meth c D cy A cX12_writeWord 3 RX12) (hr : meth.sig.returnType = none) (hnm : meth.name = yX12_writeWord.name) (hL3 : ∀ (t : Int32 × Int32) (σ : Sto), L3 t σ → ∀ ls : Array Slot, lv_has ls 3 [(0, .ref a0), (1, .int t.1), (2, .int t.2)] → Xw p l e rm_X12_writeWord s m args below meth c D cy A σ 0 0 (MQ below (Qst D cy A (PsV Q)) args s rm_X12_writeWord.cells rm_X12_writeWord.slots A) (F0 m 3 ls [])) : ∀ (t : Int32 × Int32) (σ : Sto), f_X12_writeWord_3 a0  Q L3 t σ → ∀ ls : Array Slot, lv_has ls 3 [(0, .ref a0), (1, .int t.1), (2, .int t.2)] → Xw p l e rm_X12_writeWord s m args below meth c D cy A σ 0 0 (MQ below (Qst D cy A (PsV Q)) args s rm_X12_writeWord.cells rm_X12_writeWord.slots A) (F0 m 3 ls []) := by
  intro t σ h ls hl
  unfold f_X12_writeWord_3 at h
  refine x_iload_n C dX12_writeWord_3 rfl (lv_at hl 2 rfl) ?_
  refine x_if_lt (tgt := 20) C dX12_writeWord_4 (by decide) (fun c1 => ?_) (fun c1 => ?_)
  · have h := h.1 c1
    exact x_vret C hr dX12_writeWord_20 ⟨rfl, h⟩
  · have h := h.2 c1
    refine x_aload_n C dX12_writeWord_7 rfl (lv_at hl 0 rfl) ?_
    refine x_iload_n C dX12_writeWord_8 rfl (lv_at hl 1 rfl) ?_
    refine x_iload_n C dX12_writeWord_9 rfl (lv_at hl 2 rfl) ?_
    refine x_ishr C dX12_writeWord_10 ?_
    obtain ⟨g2, h⟩ := h
    refine x_callV (rm := rm_X12_write) (rest := []) (As := [.int (t.1 >>> (t.2 &&& 31))]) C cy_RX12_495 g2 (by decide) (by decide) rfl rfl (Nat.le_of_ble_eq_true rfl) hl.1 dX12_writeWord_11 (c_X12_write l D cy a0 (t.1 >>> (t.2 &&& 31)) σ _ h) (ks_v (fun σ3 h => ?_))
    obtain ⟨x4, e5⟩ : ∃ z : Int32, z = t.2 + (-8 : Int32) := ⟨_, rfl⟩
    have h := h x4 e5
    refine x_iinc (v := x4) (lv' := [(2, .int x4), (0, .ref a0), (1, .int t.1)]) C dX12_writeWord_14 hl (q0 := 2) rfl (by rw [e5]; rfl) (by decide) (by first | rfl | simp [vrc, cat_i, cat_r, cat_l]) (fun ls hl => ?_)
    refine x_goto (tgt := 3) C dX12_writeWord_17 (by decide) ?_
    exact hL3 (t.1, x4) _ h ls (lv_sub hl [1, 2, 0] rfl)
def wp_X12_writeWord (a0 : Nat) (p1 : Int32) (σ : Sto) (Q : Sto → Prop) : Prop := LF (f_X12_writeWord_3 a0  Q) (p1, (24 : Int32)) σ
set_option maxHeartbeats 4000000 in
set_option maxRecDepth 100000 in
theorem c_X12_writeWord (l : Launch) (D : va_G) (cy : Nat → ClassId) (a0 : Nat) (p1 : Int32) (σ : Sto) (Q : Sto → Prop) (h : wp_X12_writeWord a0 p1 σ Q) : Mt l D cy yX12_writeWord cX12_writeWord 3 none rm_X12_writeWord [.ref a0, .int p1] σ (PsV Q) := by
  unfold wp_X12_writeWord at h
  refine mt_of (by decide +kernel) (Nat.le_of_ble_eq_true rfl) ?_
  intro p e s m args below meth c A ls C hr hnm hl
  have C : Cx p s m args meth c D cy A cX12_writeWord 3 RX12 := C
  have hl : lv_has ls 3 [(0, .ref a0), (1, .int p1)] := hl
  refine x_bipush (v := 24) C dX12_writeWord_0 (by decide) ?_
  refine x_istore_n (i := 2) (lv' := [(2, .int (24 : Int32)), (0, .ref a0), (1, .int p1)]) C dX12_writeWord_2 rfl hl (by decide) (by first | rfl | simp [vrc, cat_i, cat_r, cat_l]) (fun ls hl => ?_)
  exact h (fun t σ => ∀ ls : Array Slot, lv_has ls 3 [(0, .ref a0), (1, .int t.1), (2, .int t.2)] → Xw p l e rm_X12_writeWord s m args below meth c D cy A σ 0 0 (MQ below (Qst D cy A (PsV Q)) args s rm_X12_writeWord.cells rm_X12_writeWord.slots A) (F0 m 3 ls [])) (t_X12_writeWord_3 C hr hnm  (fun t σ h => h)) ls (lv_sub hl [1, 2, 0] rfl)
theorem dX12_writeRequest_0 : decode cX12_writeRequest 0 = .ok (.aload_n 0, 1) := by decide +kernel
theorem dX12_writeRequest_1 : decode cX12_writeRequest 1 = .ok (.aload_n 0, 1) := by decide +kernel
theorem dX12_writeRequest_2 : decode cX12_writeRequest 2 = .ok (.getfield 18, 3) := by decide +kernel
theorem dX12_writeRequest_5 : decode cX12_writeRequest 5 = .ok (.iload_n 1, 1) := by decide +kernel
theorem dX12_writeRequest_6 : decode cX12_writeRequest 6 = .ok (.iaload, 1) := by decide +kernel
theorem dX12_writeRequest_7 : decode cX12_writeRequest 7 = .ok (.invokevirtual 495, 3) := by decide +kernel
theorem dX12_writeRequest_10 : decode cX12_writeRequest 10 = .ok (.aload_n 0, 1) := by decide +kernel
theorem dX12_writeRequest_11 : decode cX12_writeRequest 11 = .ok (.aload_n 0, 1) := by decide +kernel
theorem dX12_writeRequest_12 : decode cX12_writeRequest 12 = .ok (.getfield 18, 3) := by decide +kernel
theorem dX12_writeRequest_15 : decode cX12_writeRequest 15 = .ok (.iload_n 1, 1) := by decide +kernel
theorem dX12_writeRequest_16 : decode cX12_writeRequest 16 = .ok (.iconst 1, 1) := by decide +kernel
theorem dX12_writeRequest_17 : decode cX12_writeRequest 17 = .ok (.iadd, 1) := by decide +kernel
theorem dX12_writeRequest_18 : decode cX12_writeRequest 18 = .ok (.iaload, 1) := by decide +kernel
theorem dX12_writeRequest_19 : decode cX12_writeRequest 19 = .ok (.invokevirtual 498, 3) := by decide +kernel
theorem dX12_writeRequest_22 : decode cX12_writeRequest 22 = .ok (.aload_n 0, 1) := by decide +kernel
theorem dX12_writeRequest_23 : decode cX12_writeRequest 23 = .ok (.aload_n 0, 1) := by decide +kernel
theorem dX12_writeRequest_24 : decode cX12_writeRequest 24 = .ok (.getfield 18, 3) := by decide +kernel
theorem dX12_writeRequest_27 : decode cX12_writeRequest 27 = .ok (.iload_n 1, 1) := by decide +kernel
theorem dX12_writeRequest_28 : decode cX12_writeRequest 28 = .ok (.iconst 2, 1) := by decide +kernel
theorem dX12_writeRequest_29 : decode cX12_writeRequest 29 = .ok (.iadd, 1) := by decide +kernel
theorem dX12_writeRequest_30 : decode cX12_writeRequest 30 = .ok (.iaload, 1) := by decide +kernel
theorem dX12_writeRequest_31 : decode cX12_writeRequest 31 = .ok (.invokevirtual 495, 3) := by decide +kernel
theorem dX12_writeRequest_34 : decode cX12_writeRequest 34 = .ok (.aload_n 0, 1) := by decide +kernel
theorem dX12_writeRequest_35 : decode cX12_writeRequest 35 = .ok (.aload_n 0, 1) := by decide +kernel
theorem dX12_writeRequest_36 : decode cX12_writeRequest 36 = .ok (.getfield 18, 3) := by decide +kernel
theorem dX12_writeRequest_39 : decode cX12_writeRequest 39 = .ok (.iload_n 1, 1) := by decide +kernel
theorem dX12_writeRequest_40 : decode cX12_writeRequest 40 = .ok (.iconst 3, 1) := by decide +kernel
theorem dX12_writeRequest_41 : decode cX12_writeRequest 41 = .ok (.iadd, 1) := by decide +kernel
theorem dX12_writeRequest_42 : decode cX12_writeRequest 42 = .ok (.iaload, 1) := by decide +kernel
theorem dX12_writeRequest_43 : decode cX12_writeRequest 43 = .ok (.invokevirtual 495, 3) := by decide +kernel
theorem dX12_writeRequest_46 : decode cX12_writeRequest 46 = .ok (.aload_n 0, 1) := by decide +kernel
theorem dX12_writeRequest_47 : decode cX12_writeRequest 47 = .ok (.aload_n 0, 1) := by decide +kernel
theorem dX12_writeRequest_48 : decode cX12_writeRequest 48 = .ok (.getfield 18, 3) := by decide +kernel
theorem dX12_writeRequest_51 : decode cX12_writeRequest 51 = .ok (.iload_n 1, 1) := by decide +kernel
theorem dX12_writeRequest_52 : decode cX12_writeRequest 52 = .ok (.iconst 4, 1) := by decide +kernel
theorem dX12_writeRequest_53 : decode cX12_writeRequest 53 = .ok (.iadd, 1) := by decide +kernel
theorem dX12_writeRequest_54 : decode cX12_writeRequest 54 = .ok (.iaload, 1) := by decide +kernel
theorem dX12_writeRequest_55 : decode cX12_writeRequest 55 = .ok (.invokevirtual 501, 3) := by decide +kernel
theorem dX12_writeRequest_58 : decode cX12_writeRequest 58 = .ok (.return_, 1) := by decide +kernel
abbrev rm_X12_writeRequest : Room := { frames := 2, cells := 0, slots := 0, locals := 43 }
def wp_X12_writeRequest (a0 : Nat) (p1 : Int32) (σ : Sto) (Q : Sto → Prop) : Prop := (sK σ a0 = 12 ∧ (∃ b2 : Nat, sP σ a0 10 = some b2 ∧ (sK σ b2 = 14 ∧ (vp_in p1 (sN σ b2) ∧ (∀ x6 : Int32, x6 = sI σ b2 p1.toNatClampNeg → (wp_X12_write a0 x6 σ (fun (σ8 : Sto) => (sK σ8 a0 = 12 ∧ (∀ x10 : Int32, x10 = p1 + (1 : Int32) → (∃ b12 : Nat, sP σ8 a0 10 = some b12 ∧ (sK σ8 b12 = 14 ∧ (vp_in x10 (sN σ8 b12) ∧ (∀ x16 : Int32, x16 = sI σ8 b12 x10.toNatClampNeg → (wp_X12_writeNumber a0 x16 σ8 (fun (σ18 : Sto) => (sK σ18 a0 = 12 ∧ (∀ x20 : Int32, x20 = p1 + (2 : Int32) → (∃ b22 : Nat, sP σ18 a0 10 = some b22 ∧ (sK σ18 b22 = 14 ∧ (vp_in x20 (sN σ18 b22) ∧ (∀ x26 : Int32, x26 = sI σ18 b22 x20.toNatClampNeg → (wp_X12_write a0 x26 σ18 (fun (σ28 : Sto) => (sK σ28 a0 = 12 ∧ (∀ x30 : Int32, x30 = p1 + (3 : Int32) → (∃ b32 : Nat, sP σ28 a0 10 = some b32 ∧ (sK σ28 b32 = 14 ∧ (vp_in x30 (sN σ28 b32) ∧ (∀ x36 : Int32, x36 = sI σ28 b32 x30.toNatClampNeg → (wp_X12_write a0 x36 σ28 (fun (σ38 : Sto) => (sK σ38 a0 = 12 ∧ (∀ x40 : Int32, x40 = p1 + (4 : Int32) → (∃ b42 : Nat, sP σ38 a0 10 = some b42 ∧ (sK σ38 b42 = 14 ∧ (vp_in x40 (sN σ38 b42) ∧ (∀ x46 : Int32, x46 = sI σ38 b42 x40.toNatClampNeg → (wp_X12_writeWord a0 x46 σ38 (fun (σ48 : Sto) => Q σ48)))))))))))))))))))))))))))))))))))))))
set_option maxHeartbeats 4000000 in
set_option maxRecDepth 100000 in
theorem c_X12_writeRequest (l : Launch) (D : va_G) (cy : Nat → ClassId) (a0 : Nat) (p1 : Int32) (σ : Sto) (Q : Sto → Prop) (h : wp_X12_writeRequest a0 p1 σ Q) : Mt l D cy yX12_writeRequest cX12_writeRequest 2 none rm_X12_writeRequest [.ref a0, .int p1] σ (PsV Q) := by
  unfold wp_X12_writeRequest at h
  refine mt_of (by decide +kernel) (Nat.le_of_ble_eq_true rfl) ?_
  intro p e s m args below meth c A ls C hr hnm hl
  have C : Cx p s m args meth c D cy A cX12_writeRequest 2 RX12 := C
  have hl : lv_has ls 2 [(0, .ref a0), (1, .int p1)] := hl
  refine x_aload_n C dX12_writeRequest_0 rfl (lv_at hl 0 rfl) ?_
  refine x_aload_n C dX12_writeRequest_1 rfl (lv_at hl 0 rfl) ?_
  obtain ⟨g1, h⟩ := h
  refine x_getP C fl_RX12_18 g1 dX12_writeRequest_2 ?_
  refine x_iload_n C dX12_writeRequest_5 rfl (lv_at hl 1 rfl) ?_
  obtain ⟨b2, g3, h⟩ := h
  refine x_nn1 g3 ?_
  obtain ⟨g4, h⟩ := h
  obtain ⟨g5, h⟩ := h
  refine x_iald C g4 g5 dX12_writeRequest_6 ?_
  refine x_topi (fun x6 e7 => ?_)
  have h := h x6 e7
  refine x_callV (rm := rm_X12_write) (rest := []) (As := [.int x6]) C cy_RX12_495 g1 (by decide) (by decide) rfl rfl (Nat.le_of_ble_eq_true rfl) hl.1 dX12_writeRequest_7 (c_X12_write l D cy a0 x6 σ _ h) (ks_v (fun σ8 h => ?_))
  refine x_aload_n C dX12_writeRequest_10 rfl (lv_at hl 0 rfl) ?_
  refine x_aload_n C dX12_writeRequest_11 rfl (lv_at hl 0 rfl) ?_
  obtain ⟨g9, h⟩ := h
  refine x_getP C fl_RX12_18 g9 dX12_writeRequest_12 ?_
  refine x_iload_n C dX12_writeRequest_15 rfl (lv_at hl 1 rfl) ?_
  refine x_iconst (v := 1) C dX12_writeRequest_16 (by decide) ?_
  refine x_iadd C dX12_writeRequest_17 ?_
  refine x_topi (fun x10 e11 => ?_)
  have h := h x10 e11
  obtain ⟨b12, g13, h⟩ := h
  refine x_nn1 g13 ?_
  obtain ⟨g14, h⟩ := h
  obtain ⟨g15, h⟩ := h
  refine x_iald C g14 g15 dX12_writeRequest_18 ?_
  refine x_topi (fun x16 e17 => ?_)
  have h := h x16 e17
  refine x_callV (rm := rm_X12_writeNumber) (rest := []) (As := [.int x16]) C cy_RX12_498 g9 (by decide) (by decide) rfl rfl (Nat.le_of_ble_eq_true rfl) hl.1 dX12_writeRequest_19 (c_X12_writeNumber l D cy a0 x16 σ8 _ h) (ks_v (fun σ18 h => ?_))
  refine x_aload_n C dX12_writeRequest_22 rfl (lv_at hl 0 rfl) ?_
  refine x_aload_n C dX12_writeRequest_23 rfl (lv_at hl 0 rfl) ?_
  obtain ⟨g19, h⟩ := h
  refine x_getP C fl_RX12_18 g19 dX12_writeRequest_24 ?_
  refine x_iload_n C dX12_writeRequest_27 rfl (lv_at hl 1 rfl) ?_
  refine x_iconst (v := 2) C dX12_writeRequest_28 (by decide) ?_
  refine x_iadd C dX12_writeRequest_29 ?_
  refine x_topi (fun x20 e21 => ?_)
  have h := h x20 e21
  obtain ⟨b22, g23, h⟩ := h
  refine x_nn1 g23 ?_
  obtain ⟨g24, h⟩ := h
  obtain ⟨g25, h⟩ := h
  refine x_iald C g24 g25 dX12_writeRequest_30 ?_
  refine x_topi (fun x26 e27 => ?_)
  have h := h x26 e27
  refine x_callV (rm := rm_X12_write) (rest := []) (As := [.int x26]) C cy_RX12_495 g19 (by decide) (by decide) rfl rfl (Nat.le_of_ble_eq_true rfl) hl.1 dX12_writeRequest_31 (c_X12_write l D cy a0 x26 σ18 _ h) (ks_v (fun σ28 h => ?_))
  refine x_aload_n C dX12_writeRequest_34 rfl (lv_at hl 0 rfl) ?_
  refine x_aload_n C dX12_writeRequest_35 rfl (lv_at hl 0 rfl) ?_
  obtain ⟨g29, h⟩ := h
  refine x_getP C fl_RX12_18 g29 dX12_writeRequest_36 ?_
  refine x_iload_n C dX12_writeRequest_39 rfl (lv_at hl 1 rfl) ?_
  refine x_iconst (v := 3) C dX12_writeRequest_40 (by decide) ?_
  refine x_iadd C dX12_writeRequest_41 ?_
  refine x_topi (fun x30 e31 => ?_)
  have h := h x30 e31
  obtain ⟨b32, g33, h⟩ := h
  refine x_nn1 g33 ?_
  obtain ⟨g34, h⟩ := h
  obtain ⟨g35, h⟩ := h
  refine x_iald C g34 g35 dX12_writeRequest_42 ?_
  refine x_topi (fun x36 e37 => ?_)
  have h := h x36 e37
  refine x_callV (rm := rm_X12_write) (rest := []) (As := [.int x36]) C cy_RX12_495 g29 (by decide) (by decide) rfl rfl (Nat.le_of_ble_eq_true rfl) hl.1 dX12_writeRequest_43 (c_X12_write l D cy a0 x36 σ28 _ h) (ks_v (fun σ38 h => ?_))
  refine x_aload_n C dX12_writeRequest_46 rfl (lv_at hl 0 rfl) ?_
  refine x_aload_n C dX12_writeRequest_47 rfl (lv_at hl 0 rfl) ?_
  obtain ⟨g39, h⟩ := h
  refine x_getP C fl_RX12_18 g39 dX12_writeRequest_48 ?_
  refine x_iload_n C dX12_writeRequest_51 rfl (lv_at hl 1 rfl) ?_
  refine x_iconst (v := 4) C dX12_writeRequest_52 (by decide) ?_
  refine x_iadd C dX12_writeRequest_53 ?_
  refine x_topi (fun x40 e41 => ?_)
  have h := h x40 e41
  obtain ⟨b42, g43, h⟩ := h
  refine x_nn1 g43 ?_
  obtain ⟨g44, h⟩ := h
  obtain ⟨g45, h⟩ := h
  refine x_iald C g44 g45 dX12_writeRequest_54 ?_
  refine x_topi (fun x46 e47 => ?_)
  have h := h x46 e47
  refine x_callV (rm := rm_X12_writeWord) (rest := []) (As := [.int x46]) C cy_RX12_501 g39 (by decide) (by decide) rfl rfl (Nat.le_of_ble_eq_true rfl) hl.1 dX12_writeRequest_55 (c_X12_writeWord l D cy a0 x46 σ38 _ h) (ks_v (fun σ48 h => ?_))
  exact x_vret C hr dX12_writeRequest_58 ⟨rfl, h⟩
theorem dX12_writeLog_0 : decode cX12_writeLog 0 = .ok (.aload_n 0, 1) := by decide +kernel
theorem dX12_writeLog_1 : decode cX12_writeLog 1 = .ok (.getfield 18, 3) := by decide +kernel
theorem dX12_writeLog_4 : decode cX12_writeLog 4 = .ok (.iload_n 1, 1) := by decide +kernel
theorem dX12_writeLog_5 : decode cX12_writeLog 5 = .ok (.iaload, 1) := by decide +kernel
theorem dX12_writeLog_6 : decode cX12_writeLog 6 = .ok (.istore_n 2, 1) := by decide +kernel
theorem dX12_writeLog_7 : decode cX12_writeLog 7 = .ok (.iload_n 1, 1) := by decide +kernel
theorem dX12_writeLog_8 : decode cX12_writeLog 8 = .ok (.iconst 1, 1) := by decide +kernel
theorem dX12_writeLog_9 : decode cX12_writeLog 9 = .ok (.iadd, 1) := by decide +kernel
theorem dX12_writeLog_10 : decode cX12_writeLog 10 = .ok (.istore_n 3, 1) := by decide +kernel
theorem dX12_writeLog_11 : decode cX12_writeLog 11 = .ok (.aload_n 0, 1) := by decide +kernel
theorem dX12_writeLog_12 : decode cX12_writeLog 12 = .ok (.iload_n 2, 1) := by decide +kernel
theorem dX12_writeLog_13 : decode cX12_writeLog 13 = .ok (.invokevirtual 498, 3) := by decide +kernel
theorem dX12_writeLog_16 : decode cX12_writeLog 16 = .ok (.iconst 0, 1) := by decide +kernel
theorem dX12_writeLog_17 : decode cX12_writeLog 17 = .ok (.istore 4, 2) := by decide +kernel
theorem dX12_writeLog_19 : decode cX12_writeLog 19 = .ok (.iload 4, 2) := by decide +kernel
theorem dX12_writeLog_21 : decode cX12_writeLog 21 = .ok (.iload_n 2, 1) := by decide +kernel
theorem dX12_writeLog_22 : decode cX12_writeLog 22 = .ok (.if_icmp .ge 40, 3) := by decide +kernel
theorem dX12_writeLog_25 : decode cX12_writeLog 25 = .ok (.aload_n 0, 1) := by decide +kernel
theorem dX12_writeLog_26 : decode cX12_writeLog 26 = .ok (.getfield 18, 3) := by decide +kernel
theorem dX12_writeLog_29 : decode cX12_writeLog 29 = .ok (.iload_n 3, 1) := by decide +kernel
theorem dX12_writeLog_30 : decode cX12_writeLog 30 = .ok (.iaload, 1) := by decide +kernel
theorem dX12_writeLog_31 : decode cX12_writeLog 31 = .ok (.istore 5, 2) := by decide +kernel
theorem dX12_writeLog_33 : decode cX12_writeLog 33 = .ok (.iinc 3 1, 3) := by decide +kernel
theorem dX12_writeLog_36 : decode cX12_writeLog 36 = .ok (.aload_n 0, 1) := by decide +kernel
theorem dX12_writeLog_37 : decode cX12_writeLog 37 = .ok (.iload 5, 2) := by decide +kernel
theorem dX12_writeLog_39 : decode cX12_writeLog 39 = .ok (.invokevirtual 495, 3) := by decide +kernel
theorem dX12_writeLog_42 : decode cX12_writeLog 42 = .ok (.iload 5, 2) := by decide +kernel
theorem dX12_writeLog_44 : decode cX12_writeLog 44 = .ok (.iconst 1, 1) := by decide +kernel
theorem dX12_writeLog_45 : decode cX12_writeLog 45 = .ok (.if_icmp .ne 11, 3) := by decide +kernel
theorem dX12_writeLog_48 : decode cX12_writeLog 48 = .ok (.aload_n 0, 1) := by decide +kernel
theorem dX12_writeLog_49 : decode cX12_writeLog 49 = .ok (.iload_n 3, 1) := by decide +kernel
theorem dX12_writeLog_50 : decode cX12_writeLog 50 = .ok (.invokevirtual 504, 3) := by decide +kernel
theorem dX12_writeLog_53 : decode cX12_writeLog 53 = .ok (.iinc 3 5, 3) := by decide +kernel
theorem dX12_writeLog_56 : decode cX12_writeLog 56 = .ok (.iinc 4 1, 3) := by decide +kernel
theorem dX12_writeLog_59 : decode cX12_writeLog 59 = .ok (.goto (-40), 3) := by decide +kernel
theorem dX12_writeLog_62 : decode cX12_writeLog 62 = .ok (.return_, 1) := by decide +kernel
abbrev rm_X12_writeLog : Room := { frames := 3, cells := 0, slots := 0, locals := 64 }
def b_X12_writeLog_56 (a0 : Nat) (L19 : Int32 × Int32 × Int32 → Sto → Prop) (Q : Sto → Prop) (p2 : Int32) (p3 : Int32) (p4 : Int32) (σ : Sto) : Prop := (∀ x1 : Int32, x1 = p4 + (1 : Int32) → L19 (p2, p3, x1) σ)
set_option maxHeartbeats 4000000 in
set_option maxRecDepth 100000 in
theorem t_X12_writeLog_56 {p : Program} {l : Launch} {e : Env} {s : State} {m : MethodId} {args : Array Value} {below : List Frame} {meth : Method} {c : Code} {D : va_G} {cy : Nat → ClassId} {A : Nat → Prop} {a0 : Nat} {L19 : Int32 × Int32 × Int32 → Sto → Prop} {Q : Sto → Prop} (C : Cx p s m args meth c D cy A cX12_writeLog 6 RX12) (hr : meth.sig.returnType = none) (hnm : meth.name = yX12_writeLog.name) (hL19 : ∀ (t : Int32 × Int32 × Int32) (σ : Sto), L19 t σ → ∀ ls : Array Slot, lv_has ls 6 [(0, .ref a0), (2, .int t.1), (3, .int t.2.1), (4, .int t.2.2)] → Xw p l e rm_X12_writeLog s m args below meth c D cy A σ 0 0 (MQ below (Qst D cy A (PsV Q)) args s rm_X12_writeLog.cells rm_X12_writeLog.slots A) (F0 m 19 ls [])) (p2 : Int32) (p3 : Int32) (p4 : Int32) (σ : Sto) (h : b_X12_writeLog_56 a0 L19 Q p2 p3 p4 σ) (ls : Array Slot) (hl : lv_has ls 6 [(0, .ref a0), (2, .int p2), (3, .int p3), (4, .int p4)]) : Xw p l e rm_X12_writeLog s m args below meth c D cy A σ 0 0 (MQ below (Qst D cy A (PsV Q)) args s rm_X12_writeLog.cells rm_X12_writeLog.slots A) (F0 m 56 ls []) := by
  unfold b_X12_writeLog_56 at h
  obtain ⟨x1, e2⟩ : ∃ z : Int32, z = p4 + (1 : Int32) := ⟨_, rfl⟩
  have h := h x1 e2
  refine x_iinc (v := x1) (lv' := [(4, .int x1), (0, .ref a0), (2, .int p2), (3, .int p3)]) C dX12_writeLog_56 hl (q0 := 3) rfl (by rw [e2]; rfl) (by decide) (by first | rfl | simp [vrc, cat_i, cat_r, cat_l]) (fun ls hl => ?_)
  refine x_goto (tgt := 19) C dX12_writeLog_59 (by decide) ?_
  exact hL19 (p2, p3, x1) _ h ls (lv_sub hl [1, 2, 3, 0] rfl)
def f_X12_writeLog_19 (a0 : Nat)  (Q : Sto → Prop) (L19 : Int32 × Int32 × Int32 → Sto → Prop) (t : Int32 × Int32 × Int32) (σ : Sto) : Prop := ((t.1 ≤ t.2.2 → Q σ) ∧ (¬ t.1 ≤ t.2.2 → (sK σ a0 = 12 ∧ (∃ b3 : Nat, sP σ a0 10 = some b3 ∧ (sK σ b3 = 14 ∧ (vp_in t.2.1 (sN σ b3) ∧ (∀ x7 : Int32, x7 = sI σ b3 t.2.1.toNatClampNeg → (∀ x9 : Int32, x9 = t.2.1 + (1 : Int32) → (wp_X12_write a0 x7 σ (fun (σ11 : Sto) => ((¬ x7 = (1 : Int32) → b_X12_writeLog_56 a0 L19 Q t.1 x9 t.2.2 σ11) ∧ (x7 = (1 : Int32) → (sK σ11 a0 = 12 ∧ (wp_X12_writeRequest a0 x9 σ11 (fun (σ14 : Sto) => (∀ x15 : Int32, x15 = x9 + (5 : Int32) → b_X12_writeLog_56 a0 L19 Q t.1 x15 t.2.2 σ14))))))))))))))))
set_option maxHeartbeats 4000000 in
set_option maxRecDepth 100000 in
theorem t_X12_writeLog_19 {p : Program} {l : Launch} {e : Env} {s : State} {m : MethodId} {args : Array Value} {below : List Frame} {meth : Method} {c : Code} {D : va_G} {cy : Nat → ClassId} {A : Nat → Prop} {a0 : Nat} {Q : Sto → Prop} {L19 : Int32 × Int32 × Int32 → Sto → Prop} (C : Cx p s m args meth c D cy A cX12_writeLog 6 RX12) (hr : meth.sig.returnType = none) (hnm : meth.name = yX12_writeLog.name) (hL19 : ∀ (t : Int32 × Int32 × Int32) (σ : Sto), L19 t σ → ∀ ls : Array Slot, lv_has ls 6 [(0, .ref a0), (2, .int t.1), (3, .int t.2.1), (4, .int t.2.2)] → Xw p l e rm_X12_writeLog s m args below meth c D cy A σ 0 0 (MQ below (Qst D cy A (PsV Q)) args s rm_X12_writeLog.cells rm_X12_writeLog.slots A) (F0 m 19 ls [])) : ∀ (t : Int32 × Int32 × Int32) (σ : Sto), f_X12_writeLog_19 a0  Q L19 t σ → ∀ ls : Array Slot, lv_has ls 6 [(0, .ref a0), (2, .int t.1), (3, .int t.2.1), (4, .int t.2.2)] → Xw p l e rm_X12_writeLog s m args below meth c D cy A σ 0 0 (MQ below (Qst D cy A (PsV Q)) args s rm_X12_writeLog.cells rm_X12_writeLog.slots A) (F0 m 19 ls []) := by
  intro t σ h ls hl
  unfold f_X12_writeLog_19 at h
  refine x_iload C dX12_writeLog_19 (lv_at hl 3 rfl) ?_
  refine x_iload_n C dX12_writeLog_21 rfl (lv_at hl 1 rfl) ?_
  refine x_icmp_ge (tgt := 62) C dX12_writeLog_22 (by decide) (fun c1 => ?_) (fun c1 => ?_)
  · have h := h.1 c1
    exact x_vret C hr dX12_writeLog_62 ⟨rfl, h⟩
  · have h := h.2 c1
    refine x_aload_n C dX12_writeLog_25 rfl (lv_at hl 0 rfl) ?_
    obtain ⟨g2, h⟩ := h
    refine x_getP C fl_RX12_18 g2 dX12_writeLog_26 ?_
    refine x_iload_n C dX12_writeLog_29 rfl (lv_at hl 2 rfl) ?_
    obtain ⟨b3, g4, h⟩ := h
    refine x_nn1 g4 ?_
    obtain ⟨g5, h⟩ := h
    obtain ⟨g6, h⟩ := h
    refine x_iald C g5 g6 dX12_writeLog_30 ?_
    refine x_topi (fun x7 e8 => ?_)
    have h := h x7 e8
    refine x_istore (i := 5) (lv' := [(5, .int x7), (0, .ref a0), (2, .int t.1), (3, .int t.2.1), (4, .int t.2.2)]) C dX12_writeLog_31 hl (by decide) (by first | rfl | simp [vrc, cat_i, cat_r, cat_l]) (fun ls hl => ?_)
    obtain ⟨x9, e10⟩ : ∃ z : Int32, z = t.2.1 + (1 : Int32) := ⟨_, rfl⟩
    have h := h x9 e10
    refine x_iinc (v := x9) (lv' := [(3, .int x9), (5, .int x7), (0, .ref a0), (2, .int t.1), (4, .int t.2.2)]) C dX12_writeLog_33 hl (q0 := 3) rfl (by rw [e10]; rfl) (by decide) (by first | rfl | simp [vrc, cat_i, cat_r, cat_l]) (fun ls hl => ?_)
    refine x_aload_n C dX12_writeLog_36 rfl (lv_at hl 2 rfl) ?_
    refine x_iload C dX12_writeLog_37 (lv_at hl 1 rfl) ?_
    refine x_callV (rm := rm_X12_write) (rest := []) (As := [.int x7]) C cy_RX12_495 g2 (by decide) (by decide) rfl rfl (Nat.le_of_ble_eq_true rfl) hl.1 dX12_writeLog_39 (c_X12_write l D cy a0 x7 σ _ h) (ks_v (fun σ11 h => ?_))
    refine x_iload C dX12_writeLog_42 (lv_at hl 1 rfl) ?_
    refine x_iconst (v := 1) C dX12_writeLog_44 (by decide) ?_
    refine x_icmp_ne (tgt := 56) C dX12_writeLog_45 (by decide) (fun c12 => ?_) (fun c12 => ?_)
    · have h := h.1 c12
      exact t_X12_writeLog_56 C hr hnm hL19 t.1 x9 t.2.2 _ h ls (lv_sub hl [2, 3, 0, 4] rfl)
    · have h := h.2 c12
      refine x_aload_n C dX12_writeLog_48 rfl (lv_at hl 2 rfl) ?_
      refine x_iload_n C dX12_writeLog_49 rfl (lv_at hl 0 rfl) ?_
      obtain ⟨g13, h⟩ := h
      refine x_callV (rm := rm_X12_writeRequest) (rest := []) (As := [.int x9]) C cy_RX12_504 g13 (by decide) (by decide) rfl rfl (Nat.le_of_ble_eq_true rfl) hl.1 dX12_writeLog_50 (c_X12_writeRequest l D cy a0 x9 σ11 _ h) (ks_v (fun σ14 h => ?_))
      obtain ⟨x15, e16⟩ : ∃ z : Int32, z = x9 + (5 : Int32) := ⟨_, rfl⟩
      have h := h x15 e16
      refine x_iinc (v := x15) (lv' := [(3, .int x15), (5, .int x7), (0, .ref a0), (2, .int t.1), (4, .int t.2.2)]) C dX12_writeLog_53 hl (q0 := 0) rfl (by rw [e16]; rfl) (by decide) (by first | rfl | simp [vrc, cat_i, cat_r, cat_l]) (fun ls hl => ?_)
      exact t_X12_writeLog_56 C hr hnm hL19 t.1 x15 t.2.2 _ h ls (lv_sub hl [2, 3, 0, 4] rfl)
def wp_X12_writeLog (a0 : Nat) (p1 : Int32) (σ : Sto) (Q : Sto → Prop) : Prop := (sK σ a0 = 12 ∧ (∃ b2 : Nat, sP σ a0 10 = some b2 ∧ (sK σ b2 = 14 ∧ (vp_in p1 (sN σ b2) ∧ (∀ x6 : Int32, x6 = sI σ b2 p1.toNatClampNeg → (∀ x8 : Int32, x8 = p1 + (1 : Int32) → (wp_X12_writeNumber a0 x6 σ (fun (σ10 : Sto) => LF (f_X12_writeLog_19 a0  Q) (x6, x8, (0 : Int32)) σ10))))))))
set_option maxHeartbeats 4000000 in
set_option maxRecDepth 100000 in
theorem c_X12_writeLog (l : Launch) (D : va_G) (cy : Nat → ClassId) (a0 : Nat) (p1 : Int32) (σ : Sto) (Q : Sto → Prop) (h : wp_X12_writeLog a0 p1 σ Q) : Mt l D cy yX12_writeLog cX12_writeLog 6 none rm_X12_writeLog [.ref a0, .int p1] σ (PsV Q) := by
  unfold wp_X12_writeLog at h
  refine mt_of (by decide +kernel) (Nat.le_of_ble_eq_true rfl) ?_
  intro p e s m args below meth c A ls C hr hnm hl
  have C : Cx p s m args meth c D cy A cX12_writeLog 6 RX12 := C
  have hl : lv_has ls 6 [(0, .ref a0), (1, .int p1)] := hl
  refine x_aload_n C dX12_writeLog_0 rfl (lv_at hl 0 rfl) ?_
  obtain ⟨g1, h⟩ := h
  refine x_getP C fl_RX12_18 g1 dX12_writeLog_1 ?_
  refine x_iload_n C dX12_writeLog_4 rfl (lv_at hl 1 rfl) ?_
  obtain ⟨b2, g3, h⟩ := h
  refine x_nn1 g3 ?_
  obtain ⟨g4, h⟩ := h
  obtain ⟨g5, h⟩ := h
  refine x_iald C g4 g5 dX12_writeLog_5 ?_
  refine x_topi (fun x6 e7 => ?_)
  have h := h x6 e7
  refine x_istore_n (i := 2) (lv' := [(2, .int x6), (0, .ref a0), (1, .int p1)]) C dX12_writeLog_6 rfl hl (by decide) (by first | rfl | simp [vrc, cat_i, cat_r, cat_l]) (fun ls hl => ?_)
  refine x_iload_n C dX12_writeLog_7 rfl (lv_at hl 2 rfl) ?_
  refine x_iconst (v := 1) C dX12_writeLog_8 (by decide) ?_
  refine x_iadd C dX12_writeLog_9 ?_
  refine x_topi (fun x8 e9 => ?_)
  have h := h x8 e9
  refine x_istore_n (i := 3) (lv' := [(3, .int x8), (2, .int x6), (0, .ref a0), (1, .int p1)]) C dX12_writeLog_10 rfl hl (by decide) (by first | rfl | simp [vrc, cat_i, cat_r, cat_l]) (fun ls hl => ?_)
  refine x_aload_n C dX12_writeLog_11 rfl (lv_at hl 2 rfl) ?_
  refine x_iload_n C dX12_writeLog_12 rfl (lv_at hl 1 rfl) ?_
  refine x_callV (rm := rm_X12_writeNumber) (rest := []) (As := [.int x6]) C cy_RX12_498 g1 (by decide) (by decide) rfl rfl (Nat.le_of_ble_eq_true rfl) hl.1 dX12_writeLog_13 (c_X12_writeNumber l D cy a0 x6 σ _ h) (ks_v (fun σ10 h => ?_))
  refine x_iconst (v := 0) C dX12_writeLog_16 (by decide) ?_
  refine x_istore (i := 4) (lv' := [(4, .int (0 : Int32)), (3, .int x8), (2, .int x6), (0, .ref a0), (1, .int p1)]) C dX12_writeLog_17 hl (by decide) (by first | rfl | simp [vrc, cat_i, cat_r, cat_l]) (fun ls hl => ?_)
  exact h (fun t σ => ∀ ls : Array Slot, lv_has ls 6 [(0, .ref a0), (2, .int t.1), (3, .int t.2.1), (4, .int t.2.2)] → Xw p l e rm_X12_writeLog s m args below meth c D cy A σ 0 0 (MQ below (Qst D cy A (PsV Q)) args s rm_X12_writeLog.cells rm_X12_writeLog.slots A) (F0 m 19 ls [])) (t_X12_writeLog_19 C hr hnm  (fun t σ h => h)) ls (lv_sub hl [3, 2, 1, 0] rfl)
theorem dX12_sumOf_0 : decode cX12_sumOf 0 = .ok (.iconst (-1), 1) := by decide +kernel
theorem dX12_sumOf_1 : decode cX12_sumOf 1 = .ok (.istore_n 3, 1) := by decide +kernel
theorem dX12_sumOf_2 : decode cX12_sumOf 2 = .ok (.iload_n 1, 1) := by decide +kernel
theorem dX12_sumOf_3 : decode cX12_sumOf 3 = .ok (.istore 4, 2) := by decide +kernel
theorem dX12_sumOf_5 : decode cX12_sumOf 5 = .ok (.iload 4, 2) := by decide +kernel
theorem dX12_sumOf_7 : decode cX12_sumOf 7 = .ok (.iload_n 2, 1) := by decide +kernel
theorem dX12_sumOf_8 : decode cX12_sumOf 8 = .ok (.if_icmp .ge 61, 3) := by decide +kernel
theorem dX12_sumOf_11 : decode cX12_sumOf 11 = .ok (.iload_n 3, 1) := by decide +kernel
theorem dX12_sumOf_12 : decode cX12_sumOf 12 = .ok (.aload_n 0, 1) := by decide +kernel
theorem dX12_sumOf_13 : decode cX12_sumOf 13 = .ok (.iload 4, 2) := by decide +kernel
theorem dX12_sumOf_15 : decode cX12_sumOf 15 = .ok (.iaload, 1) := by decide +kernel
theorem dX12_sumOf_16 : decode cX12_sumOf 16 = .ok (.ixor, 1) := by decide +kernel
theorem dX12_sumOf_17 : decode cX12_sumOf 17 = .ok (.istore_n 3, 1) := by decide +kernel
theorem dX12_sumOf_18 : decode cX12_sumOf 18 = .ok (.iconst 0, 1) := by decide +kernel
theorem dX12_sumOf_19 : decode cX12_sumOf 19 = .ok (.istore 5, 2) := by decide +kernel
theorem dX12_sumOf_21 : decode cX12_sumOf 21 = .ok (.iload 5, 2) := by decide +kernel
theorem dX12_sumOf_23 : decode cX12_sumOf 23 = .ok (.bipush 8, 2) := by decide +kernel
theorem dX12_sumOf_25 : decode cX12_sumOf 25 = .ok (.if_icmp .ge 38, 3) := by decide +kernel
theorem dX12_sumOf_28 : decode cX12_sumOf 28 = .ok (.iload_n 3, 1) := by decide +kernel
theorem dX12_sumOf_29 : decode cX12_sumOf 29 = .ok (.iconst 1, 1) := by decide +kernel
theorem dX12_sumOf_30 : decode cX12_sumOf 30 = .ok (.iand, 1) := by decide +kernel
theorem dX12_sumOf_31 : decode cX12_sumOf 31 = .ok (.iconst 1, 1) := by decide +kernel
theorem dX12_sumOf_32 : decode cX12_sumOf 32 = .ok (.if_icmp .ne 7, 3) := by decide +kernel
theorem dX12_sumOf_35 : decode cX12_sumOf 35 = .ok (.iconst 1, 1) := by decide +kernel
theorem dX12_sumOf_36 : decode cX12_sumOf 36 = .ok (.goto 4, 3) := by decide +kernel
theorem dX12_sumOf_39 : decode cX12_sumOf 39 = .ok (.iconst 0, 1) := by decide +kernel
theorem dX12_sumOf_40 : decode cX12_sumOf 40 = .ok (.istore 6, 2) := by decide +kernel
theorem dX12_sumOf_42 : decode cX12_sumOf 42 = .ok (.iload_n 3, 1) := by decide +kernel
theorem dX12_sumOf_43 : decode cX12_sumOf 43 = .ok (.iconst 1, 1) := by decide +kernel
theorem dX12_sumOf_44 : decode cX12_sumOf 44 = .ok (.iushr, 1) := by decide +kernel
theorem dX12_sumOf_45 : decode cX12_sumOf 45 = .ok (.istore_n 3, 1) := by decide +kernel
theorem dX12_sumOf_46 : decode cX12_sumOf 46 = .ok (.iload 6, 2) := by decide +kernel
theorem dX12_sumOf_48 : decode cX12_sumOf 48 = .ok (.ifCond .eq 9, 3) := by decide +kernel
theorem dX12_sumOf_51 : decode cX12_sumOf 51 = .ok (.iload_n 3, 1) := by decide +kernel
theorem dX12_sumOf_52 : decode cX12_sumOf 52 = .ok (.ldc_w 507, 3) := by decide +kernel
theorem dX12_sumOf_55 : decode cX12_sumOf 55 = .ok (.ixor, 1) := by decide +kernel
theorem dX12_sumOf_56 : decode cX12_sumOf 56 = .ok (.istore_n 3, 1) := by decide +kernel
theorem dX12_sumOf_57 : decode cX12_sumOf 57 = .ok (.iinc 5 1, 3) := by decide +kernel
theorem dX12_sumOf_60 : decode cX12_sumOf 60 = .ok (.goto (-39), 3) := by decide +kernel
theorem dX12_sumOf_63 : decode cX12_sumOf 63 = .ok (.iinc 4 1, 3) := by decide +kernel
theorem dX12_sumOf_66 : decode cX12_sumOf 66 = .ok (.goto (-61), 3) := by decide +kernel
theorem dX12_sumOf_69 : decode cX12_sumOf 69 = .ok (.iload_n 3, 1) := by decide +kernel
theorem dX12_sumOf_70 : decode cX12_sumOf 70 = .ok (.iconst (-1), 1) := by decide +kernel
theorem dX12_sumOf_71 : decode cX12_sumOf 71 = .ok (.ixor, 1) := by decide +kernel
theorem dX12_sumOf_72 : decode cX12_sumOf 72 = .ok (.ireturn, 1) := by decide +kernel
abbrev rm_X12_sumOf : Room := { frames := 0, cells := 0, slots := 0, locals := 0 }
def b_X12_sumOf_57 (L5 : Option Nat × Int32 × Int32 × Int32 → Sto → Prop) (L21 : Option Nat × Int32 × Int32 × Int32 × Int32 → Sto → Prop) (Q : Int32 → Sto → Prop) (p0 : Option Nat) (p2 : Int32) (p3 : Int32) (p4 : Int32) (p5 : Int32) (σ : Sto) : Prop := (∀ x1 : Int32, x1 = p5 + (1 : Int32) → L21 (p0, p2, p3, p4, x1) σ)
set_option maxHeartbeats 4000000 in
set_option maxRecDepth 100000 in
theorem t_X12_sumOf_57 {p : Program} {l : Launch} {e : Env} {s : State} {m : MethodId} {args : Array Value} {below : List Frame} {meth : Method} {c : Code} {D : va_G} {cy : Nat → ClassId} {A : Nat → Prop}  {L5 : Option Nat × Int32 × Int32 × Int32 → Sto → Prop} {L21 : Option Nat × Int32 × Int32 × Int32 × Int32 → Sto → Prop} {Q : Int32 → Sto → Prop} (C : Cx p s m args meth c D cy A cX12_sumOf 7 RX12) (hr : meth.sig.returnType = (some .int)) (hnm : meth.name = yX12_sumOf.name) (hL5 : ∀ (t : Option Nat × Int32 × Int32 × Int32) (σ : Sto), L5 t σ → ∀ ls : Array Slot, lv_has ls 7 [(0, va_rf t.1), (2, .int t.2.1), (3, .int t.2.2.1), (4, .int t.2.2.2)] → Xw p l e rm_X12_sumOf s m args below meth c D cy A σ 0 0 (MQ below (Qst D cy A (PsI Q)) args s rm_X12_sumOf.cells rm_X12_sumOf.slots A) (F0 m 5 ls [])) (hL21 : ∀ (t : Option Nat × Int32 × Int32 × Int32 × Int32) (σ : Sto), L21 t σ → ∀ ls : Array Slot, lv_has ls 7 [(0, va_rf t.1), (2, .int t.2.1), (3, .int t.2.2.1), (4, .int t.2.2.2.1), (5, .int t.2.2.2.2)] → Xw p l e rm_X12_sumOf s m args below meth c D cy A σ 0 0 (MQ below (Qst D cy A (PsI Q)) args s rm_X12_sumOf.cells rm_X12_sumOf.slots A) (F0 m 21 ls [])) (p0 : Option Nat) (p2 : Int32) (p3 : Int32) (p4 : Int32) (p5 : Int32) (σ : Sto) (h : b_X12_sumOf_57 L5 L21 Q p0 p2 p3 p4 p5 σ) (ls : Array Slot) (hl : lv_has ls 7 [(0, va_rf p0), (2, .int p2), (3, .int p3), (4, .int p4), (5, .int p5)]) : Xw p l e rm_X12_sumOf s m args below meth c D cy A σ 0 0 (MQ below (Qst D cy A (PsI Q)) args s rm_X12_sumOf.cells rm_X12_sumOf.slots A) (F0 m 57 ls []) := by
  unfold b_X12_sumOf_57 at h
  obtain ⟨x1, e2⟩ : ∃ z : Int32, z = p5 + (1 : Int32) := ⟨_, rfl⟩
  have h := h x1 e2
  refine x_iinc (v := x1) (lv' := [(5, .int x1), (0, va_rf p0), (2, .int p2), (3, .int p3), (4, .int p4)]) C dX12_sumOf_57 hl (q0 := 4) rfl (by rw [e2]; rfl) (by decide) (by first | rfl | simp [vrc, cat_i, cat_r, cat_l]) (fun ls hl => ?_)
  refine x_goto (tgt := 21) C dX12_sumOf_60 (by decide) ?_
  exact hL21 (p0, p2, p3, p4, x1) _ h ls (lv_sub hl [1, 2, 3, 4, 0] rfl)
def b_X12_sumOf_40 (L5 : Option Nat × Int32 × Int32 × Int32 → Sto → Prop) (L21 : Option Nat × Int32 × Int32 × Int32 × Int32 → Sto → Prop) (Q : Int32 → Sto → Prop) (p0 : Option Nat) (p2 : Int32) (p3 : Int32) (p4 : Int32) (p5 : Int32) (s0 : Int32) (σ : Sto) : Prop := (∀ x1 : Int32, x1 = (p3.toUInt32 >>> ((1 : Int32).toUInt32 &&& Int32.toUInt32 31)).toInt32 → ((s0 = 0 → b_X12_sumOf_57 L5 L21 Q p0 p2 x1 p4 p5 σ) ∧ (¬ s0 = 0 → (∀ x4 : Int32, x4 = x1 ^^^ (-306674912 : Int32) → b_X12_sumOf_57 L5 L21 Q p0 p2 x4 p4 p5 σ))))
set_option maxHeartbeats 4000000 in
set_option maxRecDepth 100000 in
theorem t_X12_sumOf_40 {p : Program} {l : Launch} {e : Env} {s : State} {m : MethodId} {args : Array Value} {below : List Frame} {meth : Method} {c : Code} {D : va_G} {cy : Nat → ClassId} {A : Nat → Prop}  {L5 : Option Nat × Int32 × Int32 × Int32 → Sto → Prop} {L21 : Option Nat × Int32 × Int32 × Int32 × Int32 → Sto → Prop} {Q : Int32 → Sto → Prop} (C : Cx p s m args meth c D cy A cX12_sumOf 7 RX12) (hr : meth.sig.returnType = (some .int)) (hnm : meth.name = yX12_sumOf.name) (hL5 : ∀ (t : Option Nat × Int32 × Int32 × Int32) (σ : Sto), L5 t σ → ∀ ls : Array Slot, lv_has ls 7 [(0, va_rf t.1), (2, .int t.2.1), (3, .int t.2.2.1), (4, .int t.2.2.2)] → Xw p l e rm_X12_sumOf s m args below meth c D cy A σ 0 0 (MQ below (Qst D cy A (PsI Q)) args s rm_X12_sumOf.cells rm_X12_sumOf.slots A) (F0 m 5 ls [])) (hL21 : ∀ (t : Option Nat × Int32 × Int32 × Int32 × Int32) (σ : Sto), L21 t σ → ∀ ls : Array Slot, lv_has ls 7 [(0, va_rf t.1), (2, .int t.2.1), (3, .int t.2.2.1), (4, .int t.2.2.2.1), (5, .int t.2.2.2.2)] → Xw p l e rm_X12_sumOf s m args below meth c D cy A σ 0 0 (MQ below (Qst D cy A (PsI Q)) args s rm_X12_sumOf.cells rm_X12_sumOf.slots A) (F0 m 21 ls [])) (p0 : Option Nat) (p2 : Int32) (p3 : Int32) (p4 : Int32) (p5 : Int32) (s0 : Int32) (σ : Sto) (h : b_X12_sumOf_40 L5 L21 Q p0 p2 p3 p4 p5 s0 σ) (ls : Array Slot) (hl : lv_has ls 7 [(0, va_rf p0), (2, .int p2), (3, .int p3), (4, .int p4), (5, .int p5)]) : Xw p l e rm_X12_sumOf s m args below meth c D cy A σ 0 0 (MQ below (Qst D cy A (PsI Q)) args s rm_X12_sumOf.cells rm_X12_sumOf.slots A) (F0 m 40 ls [.int s0]) := by
  unfold b_X12_sumOf_40 at h
  refine x_istore (i := 6) (lv' := [(6, .int s0), (0, va_rf p0), (2, .int p2), (3, .int p3), (4, .int p4), (5, .int p5)]) C dX12_sumOf_40 hl (by decide) (by first | rfl | simp [vrc, cat_i, cat_r, cat_l]) (fun ls hl => ?_)
  refine x_iload_n C dX12_sumOf_42 rfl (lv_at hl 3 rfl) ?_
  refine x_iconst (v := 1) C dX12_sumOf_43 (by decide) ?_
  refine x_iushr C dX12_sumOf_44 ?_
  refine x_topi (fun x1 e2 => ?_)
  have h := h x1 e2
  refine x_istore_n (i := 3) (lv' := [(3, .int x1), (6, .int s0), (0, va_rf p0), (2, .int p2), (4, .int p4), (5, .int p5)]) C dX12_sumOf_45 rfl hl (by decide) (by first | rfl | simp [vrc, cat_i, cat_r, cat_l]) (fun ls hl => ?_)
  refine x_iload C dX12_sumOf_46 (lv_at hl 1 rfl) ?_
  refine x_if_eq (tgt := 57) C dX12_sumOf_48 (by decide) (fun c3 => ?_) (fun c3 => ?_)
  · have h := h.1 c3
    exact t_X12_sumOf_57 C hr hnm hL5 hL21 p0 p2 x1 p4 p5 _ h ls (lv_sub hl [2, 3, 0, 4, 5] rfl)
  · have h := h.2 c3
    refine x_iload_n C dX12_sumOf_51 rfl (lv_at hl 0 rfl) ?_
    refine x_ldcw C kk_RX12_507 dX12_sumOf_52 ?_
    refine x_ixor C dX12_sumOf_55 ?_
    refine x_topi (fun x4 e5 => ?_)
    have h := h x4 e5
    refine x_istore_n (i := 3) (lv' := [(3, .int x4), (6, .int s0), (0, va_rf p0), (2, .int p2), (4, .int p4), (5, .int p5)]) C dX12_sumOf_56 rfl hl (by decide) (by first | rfl | simp [vrc, cat_i, cat_r, cat_l]) (fun ls hl => ?_)
    exact t_X12_sumOf_57 C hr hnm hL5 hL21 p0 p2 x4 p4 p5 _ h ls (lv_sub hl [2, 3, 0, 4, 5] rfl)
def f_X12_sumOf_21 (L5 : Option Nat × Int32 × Int32 × Int32 → Sto → Prop) (Q : Int32 → Sto → Prop) (L21 : Option Nat × Int32 × Int32 × Int32 × Int32 → Sto → Prop) (t : Option Nat × Int32 × Int32 × Int32 × Int32) (σ : Sto) : Prop := (((8 : Int32) ≤ t.2.2.2.2 → (∀ x2 : Int32, x2 = t.2.2.2.1 + (1 : Int32) → L5 (t.1, t.2.1, t.2.2.1, x2) σ)) ∧ (¬ (8 : Int32) ≤ t.2.2.2.2 → ((¬ (t.2.2.1 &&& (1 : Int32)) = (1 : Int32) → b_X12_sumOf_40 L5 L21 Q t.1 t.2.1 t.2.2.1 t.2.2.2.1 t.2.2.2.2 (0 : Int32) σ) ∧ ((t.2.2.1 &&& (1 : Int32)) = (1 : Int32) → b_X12_sumOf_40 L5 L21 Q t.1 t.2.1 t.2.2.1 t.2.2.2.1 t.2.2.2.2 (1 : Int32) σ))))
set_option maxHeartbeats 4000000 in
set_option maxRecDepth 100000 in
theorem t_X12_sumOf_21 {p : Program} {l : Launch} {e : Env} {s : State} {m : MethodId} {args : Array Value} {below : List Frame} {meth : Method} {c : Code} {D : va_G} {cy : Nat → ClassId} {A : Nat → Prop}  {L5 : Option Nat × Int32 × Int32 × Int32 → Sto → Prop} {Q : Int32 → Sto → Prop} {L21 : Option Nat × Int32 × Int32 × Int32 × Int32 → Sto → Prop} (C : Cx p s m args meth c D cy A cX12_sumOf 7 RX12) (hr : meth.sig.returnType = (some .int)) (hnm : meth.name = yX12_sumOf.name) (hL5 : ∀ (t : Option Nat × Int32 × Int32 × Int32) (σ : Sto), L5 t σ → ∀ ls : Array Slot, lv_has ls 7 [(0, va_rf t.1), (2, .int t.2.1), (3, .int t.2.2.1), (4, .int t.2.2.2)] → Xw p l e rm_X12_sumOf s m args below meth c D cy A σ 0 0 (MQ below (Qst D cy A (PsI Q)) args s rm_X12_sumOf.cells rm_X12_sumOf.slots A) (F0 m 5 ls [])) (hL21 : ∀ (t : Option Nat × Int32 × Int32 × Int32 × Int32) (σ : Sto), L21 t σ → ∀ ls : Array Slot, lv_has ls 7 [(0, va_rf t.1), (2, .int t.2.1), (3, .int t.2.2.1), (4, .int t.2.2.2.1), (5, .int t.2.2.2.2)] → Xw p l e rm_X12_sumOf s m args below meth c D cy A σ 0 0 (MQ below (Qst D cy A (PsI Q)) args s rm_X12_sumOf.cells rm_X12_sumOf.slots A) (F0 m 21 ls [])) : ∀ (t : Option Nat × Int32 × Int32 × Int32 × Int32) (σ : Sto), f_X12_sumOf_21 L5 Q L21 t σ → ∀ ls : Array Slot, lv_has ls 7 [(0, va_rf t.1), (2, .int t.2.1), (3, .int t.2.2.1), (4, .int t.2.2.2.1), (5, .int t.2.2.2.2)] → Xw p l e rm_X12_sumOf s m args below meth c D cy A σ 0 0 (MQ below (Qst D cy A (PsI Q)) args s rm_X12_sumOf.cells rm_X12_sumOf.slots A) (F0 m 21 ls []) := by
  intro t σ h ls hl
  unfold f_X12_sumOf_21 at h
  refine x_iload C dX12_sumOf_21 (lv_at hl 4 rfl) ?_
  refine x_bipush (v := 8) C dX12_sumOf_23 (by decide) ?_
  refine x_icmp_ge (tgt := 63) C dX12_sumOf_25 (by decide) (fun c1 => ?_) (fun c1 => ?_)
  · have h := h.1 c1
    obtain ⟨x2, e3⟩ : ∃ z : Int32, z = t.2.2.2.1 + (1 : Int32) := ⟨_, rfl⟩
    have h := h x2 e3
    refine x_iinc (v := x2) (lv' := [(4, .int x2), (0, va_rf t.1), (2, .int t.2.1), (3, .int t.2.2.1), (5, .int t.2.2.2.2)]) C dX12_sumOf_63 hl (q0 := 3) rfl (by rw [e3]; rfl) (by decide) (by first | rfl | simp [vrc, cat_i, cat_r, cat_l]) (fun ls hl => ?_)
    refine x_goto (tgt := 5) C dX12_sumOf_66 (by decide) ?_
    exact hL5 (t.1, t.2.1, t.2.2.1, x2) _ h ls (lv_sub hl [1, 2, 3, 0] rfl)
  · have h := h.2 c1
    refine x_iload_n C dX12_sumOf_28 rfl (lv_at hl 2 rfl) ?_
    refine x_iconst (v := 1) C dX12_sumOf_29 (by decide) ?_
    refine x_iand C dX12_sumOf_30 ?_
    refine x_iconst (v := 1) C dX12_sumOf_31 (by decide) ?_
    refine x_icmp_ne (tgt := 39) C dX12_sumOf_32 (by decide) (fun c4 => ?_) (fun c4 => ?_)
    · have h := h.1 c4
      refine x_iconst (v := 0) C dX12_sumOf_39 (by decide) ?_
      exact t_X12_sumOf_40 C hr hnm hL5 hL21 t.1 t.2.1 t.2.2.1 t.2.2.2.1 t.2.2.2.2 (0 : Int32) _ h ls (lv_sub hl [0, 1, 2, 3, 4] rfl)
    · have h := h.2 c4
      refine x_iconst (v := 1) C dX12_sumOf_35 (by decide) ?_
      refine x_goto (tgt := 40) C dX12_sumOf_36 (by decide) ?_
      exact t_X12_sumOf_40 C hr hnm hL5 hL21 t.1 t.2.1 t.2.2.1 t.2.2.2.1 t.2.2.2.2 (1 : Int32) _ h ls (lv_sub hl [0, 1, 2, 3, 4] rfl)
def f_X12_sumOf_5  (Q : Int32 → Sto → Prop) (L5 : Option Nat × Int32 × Int32 × Int32 → Sto → Prop) (t : Option Nat × Int32 × Int32 × Int32) (σ : Sto) : Prop := ((t.2.1 ≤ t.2.2.2 → Q (t.2.2.1 ^^^ (-1 : Int32)) σ) ∧ (¬ t.2.1 ≤ t.2.2.2 → (∃ b2 : Nat, t.1 = some b2 ∧ (sK σ b2 = 14 ∧ (vp_in t.2.2.2 (sN σ b2) ∧ (∀ x6 : Int32, x6 = sI σ b2 t.2.2.2.toNatClampNeg → (∀ x8 : Int32, x8 = t.2.2.1 ^^^ x6 → LF (f_X12_sumOf_21 L5 Q) (t.1, t.2.1, x8, t.2.2.2, (0 : Int32)) σ)))))))
set_option maxHeartbeats 4000000 in
set_option maxRecDepth 100000 in
theorem t_X12_sumOf_5 {p : Program} {l : Launch} {e : Env} {s : State} {m : MethodId} {args : Array Value} {below : List Frame} {meth : Method} {c : Code} {D : va_G} {cy : Nat → ClassId} {A : Nat → Prop}  {Q : Int32 → Sto → Prop} {L5 : Option Nat × Int32 × Int32 × Int32 → Sto → Prop} (C : Cx p s m args meth c D cy A cX12_sumOf 7 RX12) (hr : meth.sig.returnType = (some .int)) (hnm : meth.name = yX12_sumOf.name) (hL5 : ∀ (t : Option Nat × Int32 × Int32 × Int32) (σ : Sto), L5 t σ → ∀ ls : Array Slot, lv_has ls 7 [(0, va_rf t.1), (2, .int t.2.1), (3, .int t.2.2.1), (4, .int t.2.2.2)] → Xw p l e rm_X12_sumOf s m args below meth c D cy A σ 0 0 (MQ below (Qst D cy A (PsI Q)) args s rm_X12_sumOf.cells rm_X12_sumOf.slots A) (F0 m 5 ls [])) : ∀ (t : Option Nat × Int32 × Int32 × Int32) (σ : Sto), f_X12_sumOf_5  Q L5 t σ → ∀ ls : Array Slot, lv_has ls 7 [(0, va_rf t.1), (2, .int t.2.1), (3, .int t.2.2.1), (4, .int t.2.2.2)] → Xw p l e rm_X12_sumOf s m args below meth c D cy A σ 0 0 (MQ below (Qst D cy A (PsI Q)) args s rm_X12_sumOf.cells rm_X12_sumOf.slots A) (F0 m 5 ls []) := by
  intro t σ h ls hl
  unfold f_X12_sumOf_5 at h
  refine x_iload C dX12_sumOf_5 (lv_at hl 3 rfl) ?_
  refine x_iload_n C dX12_sumOf_7 rfl (lv_at hl 1 rfl) ?_
  refine x_icmp_ge (tgt := 69) C dX12_sumOf_8 (by decide) (fun c1 => ?_) (fun c1 => ?_)
  · have h := h.1 c1
    refine x_iload_n C dX12_sumOf_69 rfl (lv_at hl 2 rfl) ?_
    refine x_iconst (v := -1) C dX12_sumOf_70 (by decide) ?_
    refine x_ixor C dX12_sumOf_71 ?_
    exact x_iret C hr dX12_sumOf_72 ⟨_, rfl, h⟩
  · have h := h.2 c1
    refine x_iload_n C dX12_sumOf_11 rfl (lv_at hl 2 rfl) ?_
    refine x_aload_nq C dX12_sumOf_12 rfl (lv_at hl 0 rfl) ?_
    refine x_iload C dX12_sumOf_13 (lv_at hl 3 rfl) ?_
    obtain ⟨b2, g3, h⟩ := h
    refine x_nn1 g3 ?_
    obtain ⟨g4, h⟩ := h
    obtain ⟨g5, h⟩ := h
    refine x_iald C g4 g5 dX12_sumOf_15 ?_
    refine x_topi (fun x6 e7 => ?_)
    have h := h x6 e7
    refine x_ixor C dX12_sumOf_16 ?_
    refine x_topi (fun x8 e9 => ?_)
    have h := h x8 e9
    refine x_istore_n (i := 3) (lv' := [(3, .int x8), (0, va_rf t.1), (2, .int t.2.1), (4, .int t.2.2.2)]) C dX12_sumOf_17 rfl hl (by decide) (by first | rfl | simp [vrc, cat_i, cat_r, cat_l]) (fun ls hl => ?_)
    refine x_iconst (v := 0) C dX12_sumOf_18 (by decide) ?_
    refine x_istore (i := 5) (lv' := [(5, .int (0 : Int32)), (3, .int x8), (0, va_rf t.1), (2, .int t.2.1), (4, .int t.2.2.2)]) C dX12_sumOf_19 hl (by decide) (by first | rfl | simp [vrc, cat_i, cat_r, cat_l]) (fun ls hl => ?_)
    exact h (fun t σ => ∀ ls : Array Slot, lv_has ls 7 [(0, va_rf t.1), (2, .int t.2.1), (3, .int t.2.2.1), (4, .int t.2.2.2.1), (5, .int t.2.2.2.2)] → Xw p l e rm_X12_sumOf s m args below meth c D cy A σ 0 0 (MQ below (Qst D cy A (PsI Q)) args s rm_X12_sumOf.cells rm_X12_sumOf.slots A) (F0 m 21 ls [])) (t_X12_sumOf_21 C hr hnm hL5 (fun t σ h => h)) ls (lv_sub hl [2, 3, 1, 4, 0] rfl)
def wp_X12_sumOf (p0 : Option Nat) (p1 : Int32) (p2 : Int32) (σ : Sto) (Q : Int32 → Sto → Prop) : Prop := LF (f_X12_sumOf_5  Q) (p0, p2, (-1 : Int32), p1) σ
set_option maxHeartbeats 4000000 in
set_option maxRecDepth 100000 in
theorem c_X12_sumOf (l : Launch) (D : va_G) (cy : Nat → ClassId) (p0 : Option Nat) (p1 : Int32) (p2 : Int32) (σ : Sto) (Q : Int32 → Sto → Prop) (h : wp_X12_sumOf p0 p1 p2 σ Q) : Mt l D cy yX12_sumOf cX12_sumOf 7 (some .int) rm_X12_sumOf [va_rf p0, .int p1, .int p2] σ (PsI Q) := by
  unfold wp_X12_sumOf at h
  refine mt_of (by decide +kernel) (by simp [lg_sl, vrc, cat_i, cat_r, cat_l]) ?_
  intro p e s m args below meth c A ls C hr hnm hl
  have C : Cx p s m args meth c D cy A cX12_sumOf 7 RX12 := C
  have hl : lv_has ls 7 [(0, va_rf p0), (1, .int p1), (2, .int p2)] := by simpa [lv_args, vrc, cat_i, cat_r, cat_l] using hl
  refine x_iconst (v := -1) C dX12_sumOf_0 (by decide) ?_
  refine x_istore_n (i := 3) (lv' := [(3, .int (-1 : Int32)), (0, va_rf p0), (1, .int p1), (2, .int p2)]) C dX12_sumOf_1 rfl hl (by decide) (by first | rfl | simp [vrc, cat_i, cat_r, cat_l]) (fun ls hl => ?_)
  refine x_iload_n C dX12_sumOf_2 rfl (lv_at hl 2 rfl) ?_
  refine x_istore (i := 4) (lv' := [(4, .int p1), (3, .int (-1 : Int32)), (0, va_rf p0), (1, .int p1), (2, .int p2)]) C dX12_sumOf_3 hl (by decide) (by first | rfl | simp [vrc, cat_i, cat_r, cat_l]) (fun ls hl => ?_)
  exact h (fun t σ => ∀ ls : Array Slot, lv_has ls 7 [(0, va_rf t.1), (2, .int t.2.1), (3, .int t.2.2.1), (4, .int t.2.2.2)] → Xw p l e rm_X12_sumOf s m args below meth c D cy A σ 0 0 (MQ below (Qst D cy A (PsI Q)) args s rm_X12_sumOf.cells rm_X12_sumOf.slots A) (F0 m 5 ls [])) (t_X12_sumOf_5 C hr hnm  (fun t σ h => h)) ls (lv_sub hl [2, 4, 1, 0] rfl)
theorem dX12_numbers_0 : decode cX12_numbers 0 = .ok (.iload_n 0, 1) := by decide +kernel
theorem dX12_numbers_1 : decode cX12_numbers 1 = .ok (.tableswitch 73 0 12 #[67, 73, 73, 73, 73, 67, 73, 73, 67, 69, 73, 71, 67], 67) := by decide +kernel
theorem dX12_numbers_68 : decode cX12_numbers 68 = .ok (.iconst 2, 1) := by decide +kernel
theorem dX12_numbers_69 : decode cX12_numbers 69 = .ok (.ireturn, 1) := by decide +kernel
theorem dX12_numbers_70 : decode cX12_numbers 70 = .ok (.iconst 5, 1) := by decide +kernel
theorem dX12_numbers_71 : decode cX12_numbers 71 = .ok (.ireturn, 1) := by decide +kernel
theorem dX12_numbers_72 : decode cX12_numbers 72 = .ok (.iconst 4, 1) := by decide +kernel
theorem dX12_numbers_73 : decode cX12_numbers 73 = .ok (.ireturn, 1) := by decide +kernel
theorem dX12_numbers_74 : decode cX12_numbers 74 = .ok (.iconst 3, 1) := by decide +kernel
theorem dX12_numbers_75 : decode cX12_numbers 75 = .ok (.ireturn, 1) := by decide +kernel
abbrev rm_X12_numbers : Room := { frames := 0, cells := 0, slots := 0, locals := 0 }
def wp_X12_numbers (p0 : Int32) (σ : Sto) (Q : Int32 → Sto → Prop) : Prop := ((p0.toInt < 0 ∨ 12 < p0.toInt → Q (3 : Int32) σ) ∧ (p0 = (0 : Int32) → Q (2 : Int32) σ) ∧ (p0 = (1 : Int32) → Q (3 : Int32) σ) ∧ (p0 = (2 : Int32) → Q (3 : Int32) σ) ∧ (p0 = (3 : Int32) → Q (3 : Int32) σ) ∧ (p0 = (4 : Int32) → Q (3 : Int32) σ) ∧ (p0 = (5 : Int32) → Q (2 : Int32) σ) ∧ (p0 = (6 : Int32) → Q (3 : Int32) σ) ∧ (p0 = (7 : Int32) → Q (3 : Int32) σ) ∧ (p0 = (8 : Int32) → Q (2 : Int32) σ) ∧ (p0 = (9 : Int32) → Q (5 : Int32) σ) ∧ (p0 = (10 : Int32) → Q (3 : Int32) σ) ∧ (p0 = (11 : Int32) → Q (4 : Int32) σ) ∧ (p0 = (12 : Int32) → Q (2 : Int32) σ))
set_option maxHeartbeats 4000000 in
set_option maxRecDepth 100000 in
theorem c_X12_numbers (l : Launch) (D : va_G) (cy : Nat → ClassId) (p0 : Int32) (σ : Sto) (Q : Int32 → Sto → Prop) (h : wp_X12_numbers p0 σ Q) : Mt l D cy yX12_numbers cX12_numbers 1 (some .int) rm_X12_numbers [.int p0] σ (PsI Q) := by
  unfold wp_X12_numbers at h
  refine mt_of (by decide +kernel) (Nat.le_of_ble_eq_true rfl) ?_
  intro p e s m args below meth c A ls C hr hnm hl
  have C : Cx p s m args meth c D cy A cX12_numbers 1 RX12 := C
  have hl : lv_has ls 1 [(0, .int p0)] := hl
  refine x_iload_n C dX12_numbers_0 rfl (lv_at hl 0 rfl) ?_
  by_cases c1 : p0.toInt < 0 ∨ 12 < p0.toInt
  · have h := h.1 c1
    refine x_tableOut (tgt := 74) C dX12_numbers_1 c1 (by decide) ?_
    refine x_iconst (v := 3) C dX12_numbers_74 (by decide) ?_
    exact x_iret C hr dX12_numbers_75 ⟨_, rfl, h⟩
  · rcases (show p0.toInt = 0 ∨ p0.toInt = 1 ∨ p0.toInt = 2 ∨ p0.toInt = 3 ∨ p0.toInt = 4 ∨ p0.toInt = 5 ∨ p0.toInt = 6 ∨ p0.toInt = 7 ∨ p0.toInt = 8 ∨ p0.toInt = 9 ∨ p0.toInt = 10 ∨ p0.toInt = 11 ∨ p0.toInt = 12 by omega) with c2 | c2 | c2 | c2 | c2 | c2 | c2 | c2 | c2 | c2 | c2 | c2 | c2
    · have h := h.2.1 (sw_eq (k := 0) (c2.trans (by decide)))
      refine x_tableIn (tgt := 68) (off := 67) C dX12_numbers_1 (by omega) (by omega) (by rw [c2]; rfl) (by decide) ?_
      refine x_iconst (v := 2) C dX12_numbers_68 (by decide) ?_
      exact x_iret C hr dX12_numbers_69 ⟨_, rfl, h⟩
    · have h := h.2.2.1 (sw_eq (k := 1) (c2.trans (by decide)))
      refine x_tableIn (tgt := 74) (off := 73) C dX12_numbers_1 (by omega) (by omega) (by rw [c2]; rfl) (by decide) ?_
      refine x_iconst (v := 3) C dX12_numbers_74 (by decide) ?_
      exact x_iret C hr dX12_numbers_75 ⟨_, rfl, h⟩
    · have h := h.2.2.2.1 (sw_eq (k := 2) (c2.trans (by decide)))
      refine x_tableIn (tgt := 74) (off := 73) C dX12_numbers_1 (by omega) (by omega) (by rw [c2]; rfl) (by decide) ?_
      refine x_iconst (v := 3) C dX12_numbers_74 (by decide) ?_
      exact x_iret C hr dX12_numbers_75 ⟨_, rfl, h⟩
    · have h := h.2.2.2.2.1 (sw_eq (k := 3) (c2.trans (by decide)))
      refine x_tableIn (tgt := 74) (off := 73) C dX12_numbers_1 (by omega) (by omega) (by rw [c2]; rfl) (by decide) ?_
      refine x_iconst (v := 3) C dX12_numbers_74 (by decide) ?_
      exact x_iret C hr dX12_numbers_75 ⟨_, rfl, h⟩
    · have h := h.2.2.2.2.2.1 (sw_eq (k := 4) (c2.trans (by decide)))
      refine x_tableIn (tgt := 74) (off := 73) C dX12_numbers_1 (by omega) (by omega) (by rw [c2]; rfl) (by decide) ?_
      refine x_iconst (v := 3) C dX12_numbers_74 (by decide) ?_
      exact x_iret C hr dX12_numbers_75 ⟨_, rfl, h⟩
    · have h := h.2.2.2.2.2.2.1 (sw_eq (k := 5) (c2.trans (by decide)))
      refine x_tableIn (tgt := 68) (off := 67) C dX12_numbers_1 (by omega) (by omega) (by rw [c2]; rfl) (by decide) ?_
      refine x_iconst (v := 2) C dX12_numbers_68 (by decide) ?_
      exact x_iret C hr dX12_numbers_69 ⟨_, rfl, h⟩
    · have h := h.2.2.2.2.2.2.2.1 (sw_eq (k := 6) (c2.trans (by decide)))
      refine x_tableIn (tgt := 74) (off := 73) C dX12_numbers_1 (by omega) (by omega) (by rw [c2]; rfl) (by decide) ?_
      refine x_iconst (v := 3) C dX12_numbers_74 (by decide) ?_
      exact x_iret C hr dX12_numbers_75 ⟨_, rfl, h⟩
    · have h := h.2.2.2.2.2.2.2.2.1 (sw_eq (k := 7) (c2.trans (by decide)))
      refine x_tableIn (tgt := 74) (off := 73) C dX12_numbers_1 (by omega) (by omega) (by rw [c2]; rfl) (by decide) ?_
      refine x_iconst (v := 3) C dX12_numbers_74 (by decide) ?_
      exact x_iret C hr dX12_numbers_75 ⟨_, rfl, h⟩
    · have h := h.2.2.2.2.2.2.2.2.2.1 (sw_eq (k := 8) (c2.trans (by decide)))
      refine x_tableIn (tgt := 68) (off := 67) C dX12_numbers_1 (by omega) (by omega) (by rw [c2]; rfl) (by decide) ?_
      refine x_iconst (v := 2) C dX12_numbers_68 (by decide) ?_
      exact x_iret C hr dX12_numbers_69 ⟨_, rfl, h⟩
    · have h := h.2.2.2.2.2.2.2.2.2.2.1 (sw_eq (k := 9) (c2.trans (by decide)))
      refine x_tableIn (tgt := 70) (off := 69) C dX12_numbers_1 (by omega) (by omega) (by rw [c2]; rfl) (by decide) ?_
      refine x_iconst (v := 5) C dX12_numbers_70 (by decide) ?_
      exact x_iret C hr dX12_numbers_71 ⟨_, rfl, h⟩
    · have h := h.2.2.2.2.2.2.2.2.2.2.2.1 (sw_eq (k := 10) (c2.trans (by decide)))
      refine x_tableIn (tgt := 74) (off := 73) C dX12_numbers_1 (by omega) (by omega) (by rw [c2]; rfl) (by decide) ?_
      refine x_iconst (v := 3) C dX12_numbers_74 (by decide) ?_
      exact x_iret C hr dX12_numbers_75 ⟨_, rfl, h⟩
    · have h := h.2.2.2.2.2.2.2.2.2.2.2.2.1 (sw_eq (k := 11) (c2.trans (by decide)))
      refine x_tableIn (tgt := 72) (off := 71) C dX12_numbers_1 (by omega) (by omega) (by rw [c2]; rfl) (by decide) ?_
      refine x_iconst (v := 4) C dX12_numbers_72 (by decide) ?_
      exact x_iret C hr dX12_numbers_73 ⟨_, rfl, h⟩
    · have h := h.2.2.2.2.2.2.2.2.2.2.2.2.2 (sw_eq (k := 12) (c2.trans (by decide)))
      refine x_tableIn (tgt := 68) (off := 67) C dX12_numbers_1 (by omega) (by omega) (by rw [c2]; rfl) (by decide) ?_
      refine x_iconst (v := 2) C dX12_numbers_68 (by decide) ?_
      exact x_iret C hr dX12_numbers_69 ⟨_, rfl, h⟩
theorem dX12_hasRequest_0 : decode cX12_hasRequest 0 = .ok (.iload_n 0, 1) := by decide +kernel
theorem dX12_hasRequest_1 : decode cX12_hasRequest 1 = .ok (.ifCond .eq 8, 3) := by decide +kernel
theorem dX12_hasRequest_4 : decode cX12_hasRequest 4 = .ok (.iload_n 0, 1) := by decide +kernel
theorem dX12_hasRequest_5 : decode cX12_hasRequest 5 = .ok (.iconst 2, 1) := by decide +kernel
theorem dX12_hasRequest_6 : decode cX12_hasRequest 6 = .ok (.if_icmp .ne 7, 3) := by decide +kernel
theorem dX12_hasRequest_9 : decode cX12_hasRequest 9 = .ok (.iconst 1, 1) := by decide +kernel
theorem dX12_hasRequest_10 : decode cX12_hasRequest 10 = .ok (.goto 4, 3) := by decide +kernel
theorem dX12_hasRequest_13 : decode cX12_hasRequest 13 = .ok (.iconst 0, 1) := by decide +kernel
theorem dX12_hasRequest_14 : decode cX12_hasRequest 14 = .ok (.ireturn, 1) := by decide +kernel
abbrev rm_X12_hasRequest : Room := { frames := 0, cells := 0, slots := 0, locals := 0 }
def b_X12_hasRequest_9  (Q : Int32 → Sto → Prop)  (σ : Sto) : Prop := Q (1 : Int32) σ
set_option maxHeartbeats 4000000 in
set_option maxRecDepth 100000 in
theorem t_X12_hasRequest_9 {p : Program} {l : Launch} {e : Env} {s : State} {m : MethodId} {args : Array Value} {below : List Frame} {meth : Method} {c : Code} {D : va_G} {cy : Nat → ClassId} {A : Nat → Prop}  {Q : Int32 → Sto → Prop} (C : Cx p s m args meth c D cy A cX12_hasRequest 1 RX12) (hr : meth.sig.returnType = (some .boolean)) (hnm : meth.name = yX12_hasRequest.name)  (σ : Sto) (h : b_X12_hasRequest_9  Q  σ) (ls : Array Slot) (hl : lv_has ls 1 []) : Xw p l e rm_X12_hasRequest s m args below meth c D cy A σ 0 0 (MQ below (Qst D cy A (PsI Q)) args s rm_X12_hasRequest.cells rm_X12_hasRequest.slots A) (F0 m 9 ls []) := by
  unfold b_X12_hasRequest_9 at h
  refine x_iconst (v := 1) C dX12_hasRequest_9 (by decide) ?_
  refine x_goto (tgt := 14) C dX12_hasRequest_10 (by decide) ?_
  exact x_zret C hr dX12_hasRequest_14 (by decide) ⟨_, rfl, h⟩
def wp_X12_hasRequest (p0 : Int32) (σ : Sto) (Q : Int32 → Sto → Prop) : Prop := ((p0 = 0 → b_X12_hasRequest_9  Q  σ) ∧ (¬ p0 = 0 → ((¬ p0 = (2 : Int32) → Q (0 : Int32) σ) ∧ (p0 = (2 : Int32) → b_X12_hasRequest_9  Q  σ))))
set_option maxHeartbeats 4000000 in
set_option maxRecDepth 100000 in
theorem c_X12_hasRequest (l : Launch) (D : va_G) (cy : Nat → ClassId) (p0 : Int32) (σ : Sto) (Q : Int32 → Sto → Prop) (h : wp_X12_hasRequest p0 σ Q) : Mt l D cy yX12_hasRequest cX12_hasRequest 1 (some .boolean) rm_X12_hasRequest [.int p0] σ (PsI Q) := by
  unfold wp_X12_hasRequest at h
  refine mt_of (by decide +kernel) (Nat.le_of_ble_eq_true rfl) ?_
  intro p e s m args below meth c A ls C hr hnm hl
  have C : Cx p s m args meth c D cy A cX12_hasRequest 1 RX12 := C
  have hl : lv_has ls 1 [(0, .int p0)] := hl
  refine x_iload_n C dX12_hasRequest_0 rfl (lv_at hl 0 rfl) ?_
  refine x_if_eq (tgt := 9) C dX12_hasRequest_1 (by decide) (fun c1 => ?_) (fun c1 => ?_)
  · have h := h.1 c1
    exact t_X12_hasRequest_9 C hr hnm   _ h ls (lv_sub hl [] rfl)
  · have h := h.2 c1
    refine x_iload_n C dX12_hasRequest_4 rfl (lv_at hl 0 rfl) ?_
    refine x_iconst (v := 2) C dX12_hasRequest_5 (by decide) ?_
    refine x_icmp_ne (tgt := 13) C dX12_hasRequest_6 (by decide) (fun c2 => ?_) (fun c2 => ?_)
    · have h := h.1 c2
      refine x_iconst (v := 0) C dX12_hasRequest_13 (by decide) ?_
      exact x_zret C hr dX12_hasRequest_14 (by decide) ⟨_, rfl, h⟩
    · have h := h.2 c2
      exact t_X12_hasRequest_9 C hr hnm   _ h ls (lv_sub hl [] rfl)
theorem dX12_hasLog_0 : decode cX12_hasLog 0 = .ok (.iload_n 0, 1) := by decide +kernel
theorem dX12_hasLog_1 : decode cX12_hasLog 1 = .ok (.iconst 5, 1) := by decide +kernel
theorem dX12_hasLog_2 : decode cX12_hasLog 2 = .ok (.if_icmp .eq 15, 3) := by decide +kernel
theorem dX12_hasLog_5 : decode cX12_hasLog 5 = .ok (.iload_n 0, 1) := by decide +kernel
theorem dX12_hasLog_6 : decode cX12_hasLog 6 = .ok (.bipush 9, 2) := by decide +kernel
theorem dX12_hasLog_8 : decode cX12_hasLog 8 = .ok (.if_icmp .eq 9, 3) := by decide +kernel
theorem dX12_hasLog_11 : decode cX12_hasLog 11 = .ok (.iload_n 0, 1) := by decide +kernel
theorem dX12_hasLog_12 : decode cX12_hasLog 12 = .ok (.bipush 10, 2) := by decide +kernel
theorem dX12_hasLog_14 : decode cX12_hasLog 14 = .ok (.if_icmp .ne 7, 3) := by decide +kernel
theorem dX12_hasLog_17 : decode cX12_hasLog 17 = .ok (.iconst 1, 1) := by decide +kernel
theorem dX12_hasLog_18 : decode cX12_hasLog 18 = .ok (.goto 4, 3) := by decide +kernel
theorem dX12_hasLog_21 : decode cX12_hasLog 21 = .ok (.iconst 0, 1) := by decide +kernel
theorem dX12_hasLog_22 : decode cX12_hasLog 22 = .ok (.ireturn, 1) := by decide +kernel
abbrev rm_X12_hasLog : Room := { frames := 0, cells := 0, slots := 0, locals := 0 }
def b_X12_hasLog_17  (Q : Int32 → Sto → Prop)  (σ : Sto) : Prop := Q (1 : Int32) σ
set_option maxHeartbeats 4000000 in
set_option maxRecDepth 100000 in
theorem t_X12_hasLog_17 {p : Program} {l : Launch} {e : Env} {s : State} {m : MethodId} {args : Array Value} {below : List Frame} {meth : Method} {c : Code} {D : va_G} {cy : Nat → ClassId} {A : Nat → Prop}  {Q : Int32 → Sto → Prop} (C : Cx p s m args meth c D cy A cX12_hasLog 1 RX12) (hr : meth.sig.returnType = (some .boolean)) (hnm : meth.name = yX12_hasLog.name)  (σ : Sto) (h : b_X12_hasLog_17  Q  σ) (ls : Array Slot) (hl : lv_has ls 1 []) : Xw p l e rm_X12_hasLog s m args below meth c D cy A σ 0 0 (MQ below (Qst D cy A (PsI Q)) args s rm_X12_hasLog.cells rm_X12_hasLog.slots A) (F0 m 17 ls []) := by
  unfold b_X12_hasLog_17 at h
  refine x_iconst (v := 1) C dX12_hasLog_17 (by decide) ?_
  refine x_goto (tgt := 22) C dX12_hasLog_18 (by decide) ?_
  exact x_zret C hr dX12_hasLog_22 (by decide) ⟨_, rfl, h⟩
def wp_X12_hasLog (p0 : Int32) (σ : Sto) (Q : Int32 → Sto → Prop) : Prop := ((p0 = (5 : Int32) → b_X12_hasLog_17  Q  σ) ∧ (¬ p0 = (5 : Int32) → ((p0 = (9 : Int32) → b_X12_hasLog_17  Q  σ) ∧ (¬ p0 = (9 : Int32) → ((¬ p0 = (10 : Int32) → Q (0 : Int32) σ) ∧ (p0 = (10 : Int32) → b_X12_hasLog_17  Q  σ))))))
set_option maxHeartbeats 4000000 in
set_option maxRecDepth 100000 in
theorem c_X12_hasLog (l : Launch) (D : va_G) (cy : Nat → ClassId) (p0 : Int32) (σ : Sto) (Q : Int32 → Sto → Prop) (h : wp_X12_hasLog p0 σ Q) : Mt l D cy yX12_hasLog cX12_hasLog 1 (some .boolean) rm_X12_hasLog [.int p0] σ (PsI Q) := by
  unfold wp_X12_hasLog at h
  refine mt_of (by decide +kernel) (Nat.le_of_ble_eq_true rfl) ?_
  intro p e s m args below meth c A ls C hr hnm hl
  have C : Cx p s m args meth c D cy A cX12_hasLog 1 RX12 := C
  have hl : lv_has ls 1 [(0, .int p0)] := hl
  refine x_iload_n C dX12_hasLog_0 rfl (lv_at hl 0 rfl) ?_
  refine x_iconst (v := 5) C dX12_hasLog_1 (by decide) ?_
  refine x_icmp_eq (tgt := 17) C dX12_hasLog_2 (by decide) (fun c1 => ?_) (fun c1 => ?_)
  · have h := h.1 c1
    exact t_X12_hasLog_17 C hr hnm   _ h ls (lv_sub hl [] rfl)
  · have h := h.2 c1
    refine x_iload_n C dX12_hasLog_5 rfl (lv_at hl 0 rfl) ?_
    refine x_bipush (v := 9) C dX12_hasLog_6 (by decide) ?_
    refine x_icmp_eq (tgt := 17) C dX12_hasLog_8 (by decide) (fun c2 => ?_) (fun c2 => ?_)
    · have h := h.1 c2
      exact t_X12_hasLog_17 C hr hnm   _ h ls (lv_sub hl [] rfl)
    · have h := h.2 c2
      refine x_iload_n C dX12_hasLog_11 rfl (lv_at hl 0 rfl) ?_
      refine x_bipush (v := 10) C dX12_hasLog_12 (by decide) ?_
      refine x_icmp_ne (tgt := 21) C dX12_hasLog_14 (by decide) (fun c3 => ?_) (fun c3 => ?_)
      · have h := h.1 c3
        refine x_iconst (v := 0) C dX12_hasLog_21 (by decide) ?_
        exact x_zret C hr dX12_hasLog_22 (by decide) ⟨_, rfl, h⟩
      · have h := h.2 c3
        exact t_X12_hasLog_17 C hr hnm   _ h ls (lv_sub hl [] rfl)
theorem dX12_wire_0 : decode cX12_wire 0 = .ok (.aload_n 0, 1) := by decide +kernel
theorem dX12_wire_1 : decode cX12_wire 1 = .ok (.iconst 0, 1) := by decide +kernel
theorem dX12_wire_2 : decode cX12_wire 2 = .ok (.putfield 267, 3) := by decide +kernel
theorem dX12_wire_5 : decode cX12_wire 5 = .ok (.iload_n 1, 1) := by decide +kernel
theorem dX12_wire_6 : decode cX12_wire 6 = .ok (.iconst 0, 1) := by decide +kernel
theorem dX12_wire_7 : decode cX12_wire 7 = .ok (.aload_n 0, 1) := by decide +kernel
theorem dX12_wire_8 : decode cX12_wire 8 = .ok (.getfield 281, 3) := by decide +kernel
theorem dX12_wire_11 : decode cX12_wire 11 = .ok (.iconst 1, 1) := by decide +kernel
theorem dX12_wire_12 : decode cX12_wire 12 = .ok (.isub, 1) := by decide +kernel
theorem dX12_wire_13 : decode cX12_wire 13 = .ok (.invokestatic 270, 3) := by decide +kernel
theorem dX12_wire_16 : decode cX12_wire 16 = .ok (.ifCond .ne 5, 3) := by decide +kernel
theorem dX12_wire_19 : decode cX12_wire 19 = .ok (.iconst (-1), 1) := by decide +kernel
theorem dX12_wire_20 : decode cX12_wire 20 = .ok (.ireturn, 1) := by decide +kernel
theorem dX12_wire_21 : decode cX12_wire 21 = .ok (.sipush 640, 3) := by decide +kernel
theorem dX12_wire_24 : decode cX12_wire 24 = .ok (.aload_n 0, 1) := by decide +kernel
theorem dX12_wire_25 : decode cX12_wire 25 = .ok (.getfield 9, 3) := by decide +kernel
theorem dX12_wire_28 : decode cX12_wire 28 = .ok (.iload_n 1, 1) := by decide +kernel
theorem dX12_wire_29 : decode cX12_wire 29 = .ok (.iaload, 1) := by decide +kernel
theorem dX12_wire_30 : decode cX12_wire 30 = .ok (.imul, 1) := by decide +kernel
theorem dX12_wire_31 : decode cX12_wire 31 = .ok (.istore_n 2, 1) := by decide +kernel
theorem dX12_wire_32 : decode cX12_wire 32 = .ok (.aload_n 0, 1) := by decide +kernel
theorem dX12_wire_33 : decode cX12_wire 33 = .ok (.getfield 18, 3) := by decide +kernel
theorem dX12_wire_36 : decode cX12_wire 36 = .ok (.iload_n 2, 1) := by decide +kernel
theorem dX12_wire_37 : decode cX12_wire 37 = .ok (.iaload, 1) := by decide +kernel
theorem dX12_wire_38 : decode cX12_wire 38 = .ok (.istore_n 3, 1) := by decide +kernel
theorem dX12_wire_39 : decode cX12_wire 39 = .ok (.aload_n 0, 1) := by decide +kernel
theorem dX12_wire_40 : decode cX12_wire 40 = .ok (.iconst 0, 1) := by decide +kernel
theorem dX12_wire_41 : decode cX12_wire 41 = .ok (.putfield 492, 3) := by decide +kernel
theorem dX12_wire_44 : decode cX12_wire 44 = .ok (.iconst 0, 1) := by decide +kernel
theorem dX12_wire_45 : decode cX12_wire 45 = .ok (.istore 4, 2) := by decide +kernel
theorem dX12_wire_47 : decode cX12_wire 47 = .ok (.iload 4, 2) := by decide +kernel
theorem dX12_wire_49 : decode cX12_wire 49 = .ok (.iconst 3, 1) := by decide +kernel
theorem dX12_wire_50 : decode cX12_wire 50 = .ok (.if_icmp .ge 22, 3) := by decide +kernel
theorem dX12_wire_53 : decode cX12_wire 53 = .ok (.aload_n 0, 1) := by decide +kernel
theorem dX12_wire_54 : decode cX12_wire 54 = .ok (.aload_n 0, 1) := by decide +kernel
theorem dX12_wire_55 : decode cX12_wire 55 = .ok (.getfield 18, 3) := by decide +kernel
theorem dX12_wire_58 : decode cX12_wire 58 = .ok (.iload_n 2, 1) := by decide +kernel
theorem dX12_wire_59 : decode cX12_wire 59 = .ok (.iload 4, 2) := by decide +kernel
theorem dX12_wire_61 : decode cX12_wire 61 = .ok (.iadd, 1) := by decide +kernel
theorem dX12_wire_62 : decode cX12_wire 62 = .ok (.iaload, 1) := by decide +kernel
theorem dX12_wire_63 : decode cX12_wire 63 = .ok (.invokevirtual 495, 3) := by decide +kernel
theorem dX12_wire_66 : decode cX12_wire 66 = .ok (.iinc 4 1, 3) := by decide +kernel
theorem dX12_wire_69 : decode cX12_wire 69 = .ok (.goto (-22), 3) := by decide +kernel
theorem dX12_wire_72 : decode cX12_wire 72 = .ok (.iload_n 2, 1) := by decide +kernel
theorem dX12_wire_73 : decode cX12_wire 73 = .ok (.iconst 3, 1) := by decide +kernel
theorem dX12_wire_74 : decode cX12_wire 74 = .ok (.iadd, 1) := by decide +kernel
theorem dX12_wire_75 : decode cX12_wire 75 = .ok (.istore 4, 2) := by decide +kernel
theorem dX12_wire_77 : decode cX12_wire 77 = .ok (.iconst 0, 1) := by decide +kernel
theorem dX12_wire_78 : decode cX12_wire 78 = .ok (.istore 5, 2) := by decide +kernel
theorem dX12_wire_80 : decode cX12_wire 80 = .ok (.iload 5, 2) := by decide +kernel
theorem dX12_wire_82 : decode cX12_wire 82 = .ok (.iload_n 3, 1) := by decide +kernel
theorem dX12_wire_83 : decode cX12_wire 83 = .ok (.invokestatic 508, 3) := by decide +kernel
theorem dX12_wire_86 : decode cX12_wire 86 = .ok (.if_icmp .ge 23, 3) := by decide +kernel
theorem dX12_wire_89 : decode cX12_wire 89 = .ok (.aload_n 0, 1) := by decide +kernel
theorem dX12_wire_90 : decode cX12_wire 90 = .ok (.aload_n 0, 1) := by decide +kernel
theorem dX12_wire_91 : decode cX12_wire 91 = .ok (.getfield 18, 3) := by decide +kernel
theorem dX12_wire_94 : decode cX12_wire 94 = .ok (.iload 4, 2) := by decide +kernel
theorem dX12_wire_96 : decode cX12_wire 96 = .ok (.iload 5, 2) := by decide +kernel
theorem dX12_wire_98 : decode cX12_wire 98 = .ok (.iadd, 1) := by decide +kernel
theorem dX12_wire_99 : decode cX12_wire 99 = .ok (.iaload, 1) := by decide +kernel
theorem dX12_wire_100 : decode cX12_wire 100 = .ok (.invokevirtual 498, 3) := by decide +kernel
theorem dX12_wire_103 : decode cX12_wire 103 = .ok (.iinc 5 1, 3) := by decide +kernel
theorem dX12_wire_106 : decode cX12_wire 106 = .ok (.goto (-26), 3) := by decide +kernel
theorem dX12_wire_109 : decode cX12_wire 109 = .ok (.iload 4, 2) := by decide +kernel
theorem dX12_wire_111 : decode cX12_wire 111 = .ok (.iload_n 3, 1) := by decide +kernel
theorem dX12_wire_112 : decode cX12_wire 112 = .ok (.invokestatic 508, 3) := by decide +kernel
theorem dX12_wire_115 : decode cX12_wire 115 = .ok (.iadd, 1) := by decide +kernel
theorem dX12_wire_116 : decode cX12_wire 116 = .ok (.istore 4, 2) := by decide +kernel
theorem dX12_wire_118 : decode cX12_wire 118 = .ok (.iload_n 3, 1) := by decide +kernel
theorem dX12_wire_119 : decode cX12_wire 119 = .ok (.invokestatic 511, 3) := by decide +kernel
theorem dX12_wire_122 : decode cX12_wire 122 = .ok (.ifCond .eq 9, 3) := by decide +kernel
theorem dX12_wire_125 : decode cX12_wire 125 = .ok (.aload_n 0, 1) := by decide +kernel
theorem dX12_wire_126 : decode cX12_wire 126 = .ok (.iload 4, 2) := by decide +kernel
theorem dX12_wire_128 : decode cX12_wire 128 = .ok (.invokevirtual 504, 3) := by decide +kernel
theorem dX12_wire_131 : decode cX12_wire 131 = .ok (.iload_n 3, 1) := by decide +kernel
theorem dX12_wire_132 : decode cX12_wire 132 = .ok (.invokestatic 514, 3) := by decide +kernel
theorem dX12_wire_135 : decode cX12_wire 135 = .ok (.ifCond .eq 9, 3) := by decide +kernel
theorem dX12_wire_138 : decode cX12_wire 138 = .ok (.aload_n 0, 1) := by decide +kernel
theorem dX12_wire_139 : decode cX12_wire 139 = .ok (.iload 4, 2) := by decide +kernel
theorem dX12_wire_141 : decode cX12_wire 141 = .ok (.invokevirtual 517, 3) := by decide +kernel
theorem dX12_wire_144 : decode cX12_wire 144 = .ok (.iload_n 3, 1) := by decide +kernel
theorem dX12_wire_145 : decode cX12_wire 145 = .ok (.bipush 11, 2) := by decide +kernel
theorem dX12_wire_147 : decode cX12_wire 147 = .ok (.if_icmp .ne 38, 3) := by decide +kernel
theorem dX12_wire_150 : decode cX12_wire 150 = .ok (.aload_n 0, 1) := by decide +kernel
theorem dX12_wire_151 : decode cX12_wire 151 = .ok (.aload_n 0, 1) := by decide +kernel
theorem dX12_wire_152 : decode cX12_wire 152 = .ok (.getfield 18, 3) := by decide +kernel
theorem dX12_wire_155 : decode cX12_wire 155 = .ok (.iload 4, 2) := by decide +kernel
theorem dX12_wire_157 : decode cX12_wire 157 = .ok (.iaload, 1) := by decide +kernel
theorem dX12_wire_158 : decode cX12_wire 158 = .ok (.invokevirtual 495, 3) := by decide +kernel
theorem dX12_wire_161 : decode cX12_wire 161 = .ok (.aload_n 0, 1) := by decide +kernel
theorem dX12_wire_162 : decode cX12_wire 162 = .ok (.getfield 18, 3) := by decide +kernel
theorem dX12_wire_165 : decode cX12_wire 165 = .ok (.iload 4, 2) := by decide +kernel
theorem dX12_wire_167 : decode cX12_wire 167 = .ok (.iaload, 1) := by decide +kernel
theorem dX12_wire_168 : decode cX12_wire 168 = .ok (.iconst 1, 1) := by decide +kernel
theorem dX12_wire_169 : decode cX12_wire 169 = .ok (.if_icmp .ne 16, 3) := by decide +kernel
theorem dX12_wire_172 : decode cX12_wire 172 = .ok (.aload_n 0, 1) := by decide +kernel
theorem dX12_wire_173 : decode cX12_wire 173 = .ok (.aload_n 0, 1) := by decide +kernel
theorem dX12_wire_174 : decode cX12_wire 174 = .ok (.getfield 18, 3) := by decide +kernel
theorem dX12_wire_177 : decode cX12_wire 177 = .ok (.iload 4, 2) := by decide +kernel
theorem dX12_wire_179 : decode cX12_wire 179 = .ok (.iconst 1, 1) := by decide +kernel
theorem dX12_wire_180 : decode cX12_wire 180 = .ok (.iadd, 1) := by decide +kernel
theorem dX12_wire_181 : decode cX12_wire 181 = .ok (.iaload, 1) := by decide +kernel
theorem dX12_wire_182 : decode cX12_wire 182 = .ok (.invokevirtual 501, 3) := by decide +kernel
theorem dX12_wire_185 : decode cX12_wire 185 = .ok (.aload_n 0, 1) := by decide +kernel
theorem dX12_wire_186 : decode cX12_wire 186 = .ok (.aload_n 0, 1) := by decide +kernel
theorem dX12_wire_187 : decode cX12_wire 187 = .ok (.getfield 242, 3) := by decide +kernel
theorem dX12_wire_190 : decode cX12_wire 190 = .ok (.iconst 0, 1) := by decide +kernel
theorem dX12_wire_191 : decode cX12_wire 191 = .ok (.aload_n 0, 1) := by decide +kernel
theorem dX12_wire_192 : decode cX12_wire 192 = .ok (.getfield 492, 3) := by decide +kernel
theorem dX12_wire_195 : decode cX12_wire 195 = .ok (.invokestatic 520, 3) := by decide +kernel
theorem dX12_wire_198 : decode cX12_wire 198 = .ok (.invokevirtual 501, 3) := by decide +kernel
theorem dX12_wire_201 : decode cX12_wire 201 = .ok (.aload_n 0, 1) := by decide +kernel
theorem dX12_wire_202 : decode cX12_wire 202 = .ok (.getfield 492, 3) := by decide +kernel
theorem dX12_wire_205 : decode cX12_wire 205 = .ok (.ireturn, 1) := by decide +kernel
abbrev rm_X12_wire : Room := { frames := 4, cells := 0, slots := 0, locals := 89 }
def b_X12_wire_185 (a0 : Nat)  (Q : Int32 → Sto → Prop)  (σ : Sto) : Prop := (sK σ a0 = 12 ∧ (∀ x2 : Int32, x2 = sI σ a0 89 → (wp_X12_sumOf (sP σ a0 88) (0 : Int32) x2 σ (fun (x5 : Int32) (σ4 : Sto) => (sK σ4 a0 = 12 ∧ (wp_X12_writeWord a0 x5 σ4 (fun (σ7 : Sto) => (sK σ7 a0 = 12 ∧ (∀ x9 : Int32, x9 = sI σ7 a0 89 → Q x9 σ7)))))))))
set_option maxHeartbeats 4000000 in
set_option maxRecDepth 100000 in
theorem t_X12_wire_185 {p : Program} {l : Launch} {e : Env} {s : State} {m : MethodId} {args : Array Value} {below : List Frame} {meth : Method} {c : Code} {D : va_G} {cy : Nat → ClassId} {A : Nat → Prop} {a0 : Nat} {Q : Int32 → Sto → Prop} (C : Cx p s m args meth c D cy A cX12_wire 6 RX12) (hr : meth.sig.returnType = (some .int)) (hnm : meth.name = yX12_wire.name)  (σ : Sto) (h : b_X12_wire_185 a0  Q  σ) (ls : Array Slot) (hl : lv_has ls 6 [(0, .ref a0)]) : Xw p l e rm_X12_wire s m args below meth c D cy A σ 0 0 (MQ below (Qst D cy A (PsI Q)) args s rm_X12_wire.cells rm_X12_wire.slots A) (F0 m 185 ls []) := by
  unfold b_X12_wire_185 at h
  refine x_aload_n C dX12_wire_185 rfl (lv_at hl 0 rfl) ?_
  refine x_aload_n C dX12_wire_186 rfl (lv_at hl 0 rfl) ?_
  obtain ⟨g1, h⟩ := h
  refine x_getP C fl_RX12_242 g1 dX12_wire_187 ?_
  refine x_iconst (v := 0) C dX12_wire_190 (by decide) ?_
  refine x_aload_n C dX12_wire_191 rfl (lv_at hl 0 rfl) ?_
  refine x_getI C fl_RX12_492 g1 dX12_wire_192 ?_
  refine x_topi (fun x2 e3 => ?_)
  have h := h x2 e3
  refine x_callS (rm := rm_X12_sumOf) (rest := [.ref a0]) (As := [va_rf (sP σ a0 88), .int (0 : Int32), .int x2]) C cs_RX12_520 (by decide) (by decide) rfl rfl (Nat.le_of_ble_eq_true rfl) hl.1 dX12_wire_195 (c_X12_sumOf l D cy (sP σ a0 88) (0 : Int32) x2 σ _ h) (ks_i (fun x5 σ4 h => ?_))
  obtain ⟨g6, h⟩ := h
  refine x_callV (rm := rm_X12_writeWord) (rest := []) (As := [.int x5]) C cy_RX12_501 g6 (by decide) (by decide) rfl rfl (Nat.le_of_ble_eq_true rfl) hl.1 dX12_wire_198 (c_X12_writeWord l D cy a0 x5 σ4 _ h) (ks_v (fun σ7 h => ?_))
  refine x_aload_n C dX12_wire_201 rfl (lv_at hl 0 rfl) ?_
  obtain ⟨g8, h⟩ := h
  refine x_getI C fl_RX12_492 g8 dX12_wire_202 ?_
  refine x_topi (fun x9 e10 => ?_)
  have h := h x9 e10
  exact x_iret C hr dX12_wire_205 ⟨_, rfl, h⟩
def b_X12_wire_144 (a0 : Nat)  (Q : Int32 → Sto → Prop) (p3 : Int32) (p4 : Int32) (σ : Sto) : Prop := ((¬ p3 = (11 : Int32) → b_X12_wire_185 a0  Q  σ) ∧ (p3 = (11 : Int32) → (sK σ a0 = 12 ∧ (∃ b3 : Nat, sP σ a0 10 = some b3 ∧ (sK σ b3 = 14 ∧ (vp_in p4 (sN σ b3) ∧ (∀ x7 : Int32, x7 = sI σ b3 p4.toNatClampNeg → (wp_X12_write a0 x7 σ (fun (σ9 : Sto) => (sK σ9 a0 = 12 ∧ (∃ b11 : Nat, sP σ9 a0 10 = some b11 ∧ (sK σ9 b11 = 14 ∧ (vp_in p4 (sN σ9 b11) ∧ (∀ x15 : Int32, x15 = sI σ9 b11 p4.toNatClampNeg → ((¬ x15 = (1 : Int32) → b_X12_wire_185 a0  Q  σ9) ∧ (x15 = (1 : Int32) → (∀ x18 : Int32, x18 = p4 + (1 : Int32) → (vp_in x18 (sN σ9 b11) ∧ (∀ x21 : Int32, x21 = sI σ9 b11 x18.toNatClampNeg → (wp_X12_writeWord a0 x21 σ9 (fun (σ23 : Sto) => b_X12_wire_185 a0  Q  σ23)))))))))))))))))))))
set_option maxHeartbeats 4000000 in
set_option maxRecDepth 100000 in
theorem t_X12_wire_144 {p : Program} {l : Launch} {e : Env} {s : State} {m : MethodId} {args : Array Value} {below : List Frame} {meth : Method} {c : Code} {D : va_G} {cy : Nat → ClassId} {A : Nat → Prop} {a0 : Nat} {Q : Int32 → Sto → Prop} (C : Cx p s m args meth c D cy A cX12_wire 6 RX12) (hr : meth.sig.returnType = (some .int)) (hnm : meth.name = yX12_wire.name) (p3 : Int32) (p4 : Int32) (σ : Sto) (h : b_X12_wire_144 a0  Q p3 p4 σ) (ls : Array Slot) (hl : lv_has ls 6 [(0, .ref a0), (3, .int p3), (4, .int p4)]) : Xw p l e rm_X12_wire s m args below meth c D cy A σ 0 0 (MQ below (Qst D cy A (PsI Q)) args s rm_X12_wire.cells rm_X12_wire.slots A) (F0 m 144 ls []) := by
  unfold b_X12_wire_144 at h
  refine x_iload_n C dX12_wire_144 rfl (lv_at hl 1 rfl) ?_
  refine x_bipush (v := 11) C dX12_wire_145 (by decide) ?_
  refine x_icmp_ne (tgt := 185) C dX12_wire_147 (by decide) (fun c1 => ?_) (fun c1 => ?_)
  · have h := h.1 c1
    exact t_X12_wire_185 C hr hnm   _ h ls (lv_sub hl [0] rfl)
  · have h := h.2 c1
    refine x_aload_n C dX12_wire_150 rfl (lv_at hl 0 rfl) ?_
    refine x_aload_n C dX12_wire_151 rfl (lv_at hl 0 rfl) ?_
    obtain ⟨g2, h⟩ := h
    refine x_getP C fl_RX12_18 g2 dX12_wire_152 ?_
    refine x_iload C dX12_wire_155 (lv_at hl 2 rfl) ?_
    obtain ⟨b3, g4, h⟩ := h
    refine x_nn1 g4 ?_
    obtain ⟨g5, h⟩ := h
    obtain ⟨g6, h⟩ := h
    refine x_iald C g5 g6 dX12_wire_157 ?_
    refine x_topi (fun x7 e8 => ?_)
    have h := h x7 e8
    refine x_callV (rm := rm_X12_write) (rest := []) (As := [.int x7]) C cy_RX12_495 g2 (by decide) (by decide) rfl rfl (Nat.le_of_ble_eq_true rfl) hl.1 dX12_wire_158 (c_X12_write l D cy a0 x7 σ _ h) (ks_v (fun σ9 h => ?_))
    refine x_aload_n C dX12_wire_161 rfl (lv_at hl 0 rfl) ?_
    obtain ⟨g10, h⟩ := h
    refine x_getP C fl_RX12_18 g10 dX12_wire_162 ?_
    refine x_iload C dX12_wire_165 (lv_at hl 2 rfl) ?_
    obtain ⟨b11, g12, h⟩ := h
    refine x_nn1 g12 ?_
    obtain ⟨g13, h⟩ := h
    obtain ⟨g14, h⟩ := h
    refine x_iald C g13 g14 dX12_wire_167 ?_
    refine x_topi (fun x15 e16 => ?_)
    have h := h x15 e16
    refine x_iconst (v := 1) C dX12_wire_168 (by decide) ?_
    refine x_icmp_ne (tgt := 185) C dX12_wire_169 (by decide) (fun c17 => ?_) (fun c17 => ?_)
    · have h := h.1 c17
      exact t_X12_wire_185 C hr hnm   _ h ls (lv_sub hl [0] rfl)
    · have h := h.2 c17
      refine x_aload_n C dX12_wire_172 rfl (lv_at hl 0 rfl) ?_
      refine x_aload_n C dX12_wire_173 rfl (lv_at hl 0 rfl) ?_
      refine x_getP C fl_RX12_18 g10 dX12_wire_174 ?_
      refine x_iload C dX12_wire_177 (lv_at hl 2 rfl) ?_
      refine x_iconst (v := 1) C dX12_wire_179 (by decide) ?_
      refine x_iadd C dX12_wire_180 ?_
      refine x_topi (fun x18 e19 => ?_)
      have h := h x18 e19
      refine x_nn1 g12 ?_
      obtain ⟨g20, h⟩ := h
      refine x_iald C g13 g20 dX12_wire_181 ?_
      refine x_topi (fun x21 e22 => ?_)
      have h := h x21 e22
      refine x_callV (rm := rm_X12_writeWord) (rest := []) (As := [.int x21]) C cy_RX12_501 g10 (by decide) (by decide) rfl rfl (Nat.le_of_ble_eq_true rfl) hl.1 dX12_wire_182 (c_X12_writeWord l D cy a0 x21 σ9 _ h) (ks_v (fun σ23 h => ?_))
      exact t_X12_wire_185 C hr hnm   _ h ls (lv_sub hl [0] rfl)
def b_X12_wire_131 (a0 : Nat)  (Q : Int32 → Sto → Prop) (p3 : Int32) (p4 : Int32) (σ : Sto) : Prop := (wp_X12_hasLog p3 σ (fun (x2 : Int32) (σ1 : Sto) => ((x2 = 0 → b_X12_wire_144 a0  Q p3 p4 σ1) ∧ (¬ x2 = 0 → (sK σ1 a0 = 12 ∧ (wp_X12_writeLog a0 p4 σ1 (fun (σ5 : Sto) => b_X12_wire_144 a0  Q p3 p4 σ5)))))))
set_option maxHeartbeats 4000000 in
set_option maxRecDepth 100000 in
theorem t_X12_wire_131 {p : Program} {l : Launch} {e : Env} {s : State} {m : MethodId} {args : Array Value} {below : List Frame} {meth : Method} {c : Code} {D : va_G} {cy : Nat → ClassId} {A : Nat → Prop} {a0 : Nat} {Q : Int32 → Sto → Prop} (C : Cx p s m args meth c D cy A cX12_wire 6 RX12) (hr : meth.sig.returnType = (some .int)) (hnm : meth.name = yX12_wire.name) (p3 : Int32) (p4 : Int32) (σ : Sto) (h : b_X12_wire_131 a0  Q p3 p4 σ) (ls : Array Slot) (hl : lv_has ls 6 [(0, .ref a0), (3, .int p3), (4, .int p4)]) : Xw p l e rm_X12_wire s m args below meth c D cy A σ 0 0 (MQ below (Qst D cy A (PsI Q)) args s rm_X12_wire.cells rm_X12_wire.slots A) (F0 m 131 ls []) := by
  unfold b_X12_wire_131 at h
  refine x_iload_n C dX12_wire_131 rfl (lv_at hl 1 rfl) ?_
  refine x_callS (rm := rm_X12_hasLog) (rest := []) (As := [.int p3]) C cs_RX12_514 (by decide) (by decide) rfl rfl (Nat.le_of_ble_eq_true rfl) hl.1 dX12_wire_132 (c_X12_hasLog l D cy p3 σ _ h) (ks_i (fun x2 σ1 h => ?_))
  refine x_if_eq (tgt := 144) C dX12_wire_135 (by decide) (fun c3 => ?_) (fun c3 => ?_)
  · have h := h.1 c3
    exact t_X12_wire_144 C hr hnm  p3 p4 _ h ls (lv_sub hl [0, 1, 2] rfl)
  · have h := h.2 c3
    refine x_aload_n C dX12_wire_138 rfl (lv_at hl 0 rfl) ?_
    refine x_iload C dX12_wire_139 (lv_at hl 2 rfl) ?_
    obtain ⟨g4, h⟩ := h
    refine x_callV (rm := rm_X12_writeLog) (rest := []) (As := [.int p4]) C cy_RX12_517 g4 (by decide) (by decide) rfl rfl (Nat.le_of_ble_eq_true rfl) hl.1 dX12_wire_141 (c_X12_writeLog l D cy a0 p4 σ1 _ h) (ks_v (fun σ5 h => ?_))
    exact t_X12_wire_144 C hr hnm  p3 p4 _ h ls (lv_sub hl [0, 1, 2] rfl)
def f_X12_wire_80 (a0 : Nat)  (Q : Int32 → Sto → Prop) (L80 : Int32 × Int32 × Int32 → Sto → Prop) (t : Int32 × Int32 × Int32) (σ : Sto) : Prop := (wp_X12_numbers t.1 σ (fun (x2 : Int32) (σ1 : Sto) => ((x2 ≤ t.2.2 → (wp_X12_numbers t.1 σ1 (fun (x5 : Int32) (σ4 : Sto) => (∀ x6 : Int32, x6 = t.2.1 + x5 → (wp_X12_hasRequest t.1 σ4 (fun (x9 : Int32) (σ8 : Sto) => ((x9 = 0 → b_X12_wire_131 a0  Q t.1 x6 σ8) ∧ (¬ x9 = 0 → (sK σ8 a0 = 12 ∧ (wp_X12_writeRequest a0 x6 σ8 (fun (σ12 : Sto) => b_X12_wire_131 a0  Q t.1 x6 σ12))))))))))) ∧ (¬ x2 ≤ t.2.2 → (sK σ1 a0 = 12 ∧ (∀ x14 : Int32, x14 = t.2.1 + t.2.2 → (∃ b16 : Nat, sP σ1 a0 10 = some b16 ∧ (sK σ1 b16 = 14 ∧ (vp_in x14 (sN σ1 b16) ∧ (∀ x20 : Int32, x20 = sI σ1 b16 x14.toNatClampNeg → (wp_X12_writeNumber a0 x20 σ1 (fun (σ22 : Sto) => (∀ x23 : Int32, x23 = t.2.2 + (1 : Int32) → L80 (t.1, t.2.1, x23) σ22)))))))))))))
set_option maxHeartbeats 4000000 in
set_option maxRecDepth 100000 in
theorem t_X12_wire_80 {p : Program} {l : Launch} {e : Env} {s : State} {m : MethodId} {args : Array Value} {below : List Frame} {meth : Method} {c : Code} {D : va_G} {cy : Nat → ClassId} {A : Nat → Prop} {a0 : Nat} {Q : Int32 → Sto → Prop} {L80 : Int32 × Int32 × Int32 → Sto → Prop} (C : Cx p s m args meth c D cy A cX12_wire 6 RX12) (hr : meth.sig.returnType = (some .int)) (hnm : meth.name = yX12_wire.name) (hL80 : ∀ (t : Int32 × Int32 × Int32) (σ : Sto), L80 t σ → ∀ ls : Array Slot, lv_has ls 6 [(0, .ref a0), (3, .int t.1), (4, .int t.2.1), (5, .int t.2.2)] → Xw p l e rm_X12_wire s m args below meth c D cy A σ 0 0 (MQ below (Qst D cy A (PsI Q)) args s rm_X12_wire.cells rm_X12_wire.slots A) (F0 m 80 ls [])) : ∀ (t : Int32 × Int32 × Int32) (σ : Sto), f_X12_wire_80 a0  Q L80 t σ → ∀ ls : Array Slot, lv_has ls 6 [(0, .ref a0), (3, .int t.1), (4, .int t.2.1), (5, .int t.2.2)] → Xw p l e rm_X12_wire s m args below meth c D cy A σ 0 0 (MQ below (Qst D cy A (PsI Q)) args s rm_X12_wire.cells rm_X12_wire.slots A) (F0 m 80 ls []) := by
  intro t σ h ls hl
  unfold f_X12_wire_80 at h
  refine x_iload C dX12_wire_80 (lv_at hl 3 rfl) ?_
  refine x_iload_n C dX12_wire_82 rfl (lv_at hl 1 rfl) ?_
  refine x_callS (rm := rm_X12_numbers) (rest := [.int t.2.2]) (As := [.int t.1]) C cs_RX12_508 (by decide) (by decide) rfl rfl (Nat.le_of_ble_eq_true rfl) hl.1 dX12_wire_83 (c_X12_numbers l D cy t.1 σ _ h) (ks_i (fun x2 σ1 h => ?_))
  refine x_icmp_ge (tgt := 109) C dX12_wire_86 (by decide) (fun c3 => ?_) (fun c3 => ?_)
  · have h := h.1 c3
    refine x_iload C dX12_wire_109 (lv_at hl 2 rfl) ?_
    refine x_iload_n C dX12_wire_111 rfl (lv_at hl 1 rfl) ?_
    refine x_callS (rm := rm_X12_numbers) (rest := [.int t.2.1]) (As := [.int t.1]) C cs_RX12_508 (by decide) (by decide) rfl rfl (Nat.le_of_ble_eq_true rfl) hl.1 dX12_wire_112 (c_X12_numbers l D cy t.1 σ1 _ h) (ks_i (fun x5 σ4 h => ?_))
    refine x_iadd C dX12_wire_115 ?_
    refine x_topi (fun x6 e7 => ?_)
    have h := h x6 e7
    refine x_istore (i := 4) (lv' := [(4, .int x6), (0, .ref a0), (3, .int t.1), (5, .int t.2.2)]) C dX12_wire_116 hl (by decide) (by first | rfl | simp [vrc, cat_i, cat_r, cat_l]) (fun ls hl => ?_)
    refine x_iload_n C dX12_wire_118 rfl (lv_at hl 2 rfl) ?_
    refine x_callS (rm := rm_X12_hasRequest) (rest := []) (As := [.int t.1]) C cs_RX12_511 (by decide) (by decide) rfl rfl (Nat.le_of_ble_eq_true rfl) hl.1 dX12_wire_119 (c_X12_hasRequest l D cy t.1 σ4 _ h) (ks_i (fun x9 σ8 h => ?_))
    refine x_if_eq (tgt := 131) C dX12_wire_122 (by decide) (fun c10 => ?_) (fun c10 => ?_)
    · have h := h.1 c10
      exact t_X12_wire_131 C hr hnm  t.1 x6 _ h ls (lv_sub hl [1, 2, 0] rfl)
    · have h := h.2 c10
      refine x_aload_n C dX12_wire_125 rfl (lv_at hl 1 rfl) ?_
      refine x_iload C dX12_wire_126 (lv_at hl 0 rfl) ?_
      obtain ⟨g11, h⟩ := h
      refine x_callV (rm := rm_X12_writeRequest) (rest := []) (As := [.int x6]) C cy_RX12_504 g11 (by decide) (by decide) rfl rfl (Nat.le_of_ble_eq_true rfl) hl.1 dX12_wire_128 (c_X12_writeRequest l D cy a0 x6 σ8 _ h) (ks_v (fun σ12 h => ?_))
      exact t_X12_wire_131 C hr hnm  t.1 x6 _ h ls (lv_sub hl [1, 2, 0] rfl)
  · have h := h.2 c3
    refine x_aload_n C dX12_wire_89 rfl (lv_at hl 0 rfl) ?_
    refine x_aload_n C dX12_wire_90 rfl (lv_at hl 0 rfl) ?_
    obtain ⟨g13, h⟩ := h
    refine x_getP C fl_RX12_18 g13 dX12_wire_91 ?_
    refine x_iload C dX12_wire_94 (lv_at hl 2 rfl) ?_
    refine x_iload C dX12_wire_96 (lv_at hl 3 rfl) ?_
    refine x_iadd C dX12_wire_98 ?_
    refine x_topi (fun x14 e15 => ?_)
    have h := h x14 e15
    obtain ⟨b16, g17, h⟩ := h
    refine x_nn1 g17 ?_
    obtain ⟨g18, h⟩ := h
    obtain ⟨g19, h⟩ := h
    refine x_iald C g18 g19 dX12_wire_99 ?_
    refine x_topi (fun x20 e21 => ?_)
    have h := h x20 e21
    refine x_callV (rm := rm_X12_writeNumber) (rest := []) (As := [.int x20]) C cy_RX12_498 g13 (by decide) (by decide) rfl rfl (Nat.le_of_ble_eq_true rfl) hl.1 dX12_wire_100 (c_X12_writeNumber l D cy a0 x20 σ1 _ h) (ks_v (fun σ22 h => ?_))
    obtain ⟨x23, e24⟩ : ∃ z : Int32, z = t.2.2 + (1 : Int32) := ⟨_, rfl⟩
    have h := h x23 e24
    refine x_iinc (v := x23) (lv' := [(5, .int x23), (0, .ref a0), (3, .int t.1), (4, .int t.2.1)]) C dX12_wire_103 hl (q0 := 3) rfl (by rw [e24]; rfl) (by decide) (by first | rfl | simp [vrc, cat_i, cat_r, cat_l]) (fun ls hl => ?_)
    refine x_goto (tgt := 80) C dX12_wire_106 (by decide) ?_
    exact hL80 (t.1, t.2.1, x23) _ h ls (lv_sub hl [1, 2, 3, 0] rfl)
def f_X12_wire_47 (a0 : Nat)  (Q : Int32 → Sto → Prop) (L47 : Int32 × Int32 × Int32 → Sto → Prop) (t : Int32 × Int32 × Int32) (σ : Sto) : Prop := (((3 : Int32) ≤ t.2.2 → (∀ x2 : Int32, x2 = t.1 + (3 : Int32) → LF (f_X12_wire_80 a0  Q) (t.2.1, x2, (0 : Int32)) σ)) ∧ (¬ (3 : Int32) ≤ t.2.2 → (sK σ a0 = 12 ∧ (∀ x5 : Int32, x5 = t.1 + t.2.2 → (∃ b7 : Nat, sP σ a0 10 = some b7 ∧ (sK σ b7 = 14 ∧ (vp_in x5 (sN σ b7) ∧ (∀ x11 : Int32, x11 = sI σ b7 x5.toNatClampNeg → (wp_X12_write a0 x11 σ (fun (σ13 : Sto) => (∀ x14 : Int32, x14 = t.2.2 + (1 : Int32) → L47 (t.1, t.2.1, x14) σ13)))))))))))
set_option maxHeartbeats 4000000 in
set_option maxRecDepth 100000 in
theorem t_X12_wire_47 {p : Program} {l : Launch} {e : Env} {s : State} {m : MethodId} {args : Array Value} {below : List Frame} {meth : Method} {c : Code} {D : va_G} {cy : Nat → ClassId} {A : Nat → Prop} {a0 : Nat} {Q : Int32 → Sto → Prop} {L47 : Int32 × Int32 × Int32 → Sto → Prop} (C : Cx p s m args meth c D cy A cX12_wire 6 RX12) (hr : meth.sig.returnType = (some .int)) (hnm : meth.name = yX12_wire.name) (hL47 : ∀ (t : Int32 × Int32 × Int32) (σ : Sto), L47 t σ → ∀ ls : Array Slot, lv_has ls 6 [(0, .ref a0), (2, .int t.1), (3, .int t.2.1), (4, .int t.2.2)] → Xw p l e rm_X12_wire s m args below meth c D cy A σ 0 0 (MQ below (Qst D cy A (PsI Q)) args s rm_X12_wire.cells rm_X12_wire.slots A) (F0 m 47 ls [])) : ∀ (t : Int32 × Int32 × Int32) (σ : Sto), f_X12_wire_47 a0  Q L47 t σ → ∀ ls : Array Slot, lv_has ls 6 [(0, .ref a0), (2, .int t.1), (3, .int t.2.1), (4, .int t.2.2)] → Xw p l e rm_X12_wire s m args below meth c D cy A σ 0 0 (MQ below (Qst D cy A (PsI Q)) args s rm_X12_wire.cells rm_X12_wire.slots A) (F0 m 47 ls []) := by
  intro t σ h ls hl
  unfold f_X12_wire_47 at h
  refine x_iload C dX12_wire_47 (lv_at hl 3 rfl) ?_
  refine x_iconst (v := 3) C dX12_wire_49 (by decide) ?_
  refine x_icmp_ge (tgt := 72) C dX12_wire_50 (by decide) (fun c1 => ?_) (fun c1 => ?_)
  · have h := h.1 c1
    refine x_iload_n C dX12_wire_72 rfl (lv_at hl 1 rfl) ?_
    refine x_iconst (v := 3) C dX12_wire_73 (by decide) ?_
    refine x_iadd C dX12_wire_74 ?_
    refine x_topi (fun x2 e3 => ?_)
    have h := h x2 e3
    refine x_istore (i := 4) (lv' := [(4, .int x2), (0, .ref a0), (2, .int t.1), (3, .int t.2.1)]) C dX12_wire_75 hl (by decide) (by first | rfl | simp [vrc, cat_i, cat_r, cat_l]) (fun ls hl => ?_)
    refine x_iconst (v := 0) C dX12_wire_77 (by decide) ?_
    refine x_istore (i := 5) (lv' := [(5, .int (0 : Int32)), (4, .int x2), (0, .ref a0), (2, .int t.1), (3, .int t.2.1)]) C dX12_wire_78 hl (by decide) (by first | rfl | simp [vrc, cat_i, cat_r, cat_l]) (fun ls hl => ?_)
    exact h (fun t σ => ∀ ls : Array Slot, lv_has ls 6 [(0, .ref a0), (3, .int t.1), (4, .int t.2.1), (5, .int t.2.2)] → Xw p l e rm_X12_wire s m args below meth c D cy A σ 0 0 (MQ below (Qst D cy A (PsI Q)) args s rm_X12_wire.cells rm_X12_wire.slots A) (F0 m 80 ls [])) (t_X12_wire_80 C hr hnm  (fun t σ h => h)) ls (lv_sub hl [2, 4, 1, 0] rfl)
  · have h := h.2 c1
    refine x_aload_n C dX12_wire_53 rfl (lv_at hl 0 rfl) ?_
    refine x_aload_n C dX12_wire_54 rfl (lv_at hl 0 rfl) ?_
    obtain ⟨g4, h⟩ := h
    refine x_getP C fl_RX12_18 g4 dX12_wire_55 ?_
    refine x_iload_n C dX12_wire_58 rfl (lv_at hl 1 rfl) ?_
    refine x_iload C dX12_wire_59 (lv_at hl 3 rfl) ?_
    refine x_iadd C dX12_wire_61 ?_
    refine x_topi (fun x5 e6 => ?_)
    have h := h x5 e6
    obtain ⟨b7, g8, h⟩ := h
    refine x_nn1 g8 ?_
    obtain ⟨g9, h⟩ := h
    obtain ⟨g10, h⟩ := h
    refine x_iald C g9 g10 dX12_wire_62 ?_
    refine x_topi (fun x11 e12 => ?_)
    have h := h x11 e12
    refine x_callV (rm := rm_X12_write) (rest := []) (As := [.int x11]) C cy_RX12_495 g4 (by decide) (by decide) rfl rfl (Nat.le_of_ble_eq_true rfl) hl.1 dX12_wire_63 (c_X12_write l D cy a0 x11 σ _ h) (ks_v (fun σ13 h => ?_))
    obtain ⟨x14, e15⟩ : ∃ z : Int32, z = t.2.2 + (1 : Int32) := ⟨_, rfl⟩
    have h := h x14 e15
    refine x_iinc (v := x14) (lv' := [(4, .int x14), (0, .ref a0), (2, .int t.1), (3, .int t.2.1)]) C dX12_wire_66 hl (q0 := 3) rfl (by rw [e15]; rfl) (by decide) (by first | rfl | simp [vrc, cat_i, cat_r, cat_l]) (fun ls hl => ?_)
    refine x_goto (tgt := 47) C dX12_wire_69 (by decide) ?_
    exact hL47 (t.1, t.2.1, x14) _ h ls (lv_sub hl [1, 2, 3, 0] rfl)
def wp_X12_wire (a0 : Nat) (p1 : Int32) (σ : Sto) (Q : Int32 → Sto → Prop) : Prop := (sK σ a0 = 12 ∧ (∀ x2 : Int32, x2 = sI (stI σ a0 0 (0 : Int32)) a0 6 → (wp_X12_in p1 (0 : Int32) (x2 - (1 : Int32)) (stI σ a0 0 (0 : Int32)) (fun (x5 : Int32) (σ4 : Sto) => ((¬ x5 = 0 → (sK σ4 a0 = 12 ∧ (∃ b8 : Nat, sP σ4 a0 5 = some b8 ∧ (sK σ4 b8 = 14 ∧ (vp_in p1 (sN σ4 b8) ∧ (∀ x12 : Int32, x12 = sI σ4 b8 p1.toNatClampNeg → (∀ x14 : Int32, x14 = (640 : Int32) * x12 → (∃ b16 : Nat, sP σ4 a0 10 = some b16 ∧ (sK σ4 b16 = 14 ∧ (vp_in x14 (sN σ4 b16) ∧ (∀ x20 : Int32, x20 = sI σ4 b16 x14.toNatClampNeg → LF (f_X12_wire_47 a0  Q) (x14, x20, (0 : Int32)) (stI σ4 a0 89 (0 : Int32))))))))))))) ∧ (x5 = 0 → Q (-1 : Int32) σ4))))))
set_option maxHeartbeats 4000000 in
set_option maxRecDepth 100000 in
theorem c_X12_wire (l : Launch) (D : va_G) (cy : Nat → ClassId) (a0 : Nat) (p1 : Int32) (σ : Sto) (Q : Int32 → Sto → Prop) (h : wp_X12_wire a0 p1 σ Q) : Mt l D cy yX12_wire cX12_wire 6 (some .int) rm_X12_wire [.ref a0, .int p1] σ (PsI Q) := by
  unfold wp_X12_wire at h
  refine mt_of (by decide +kernel) (Nat.le_of_ble_eq_true rfl) ?_
  intro p e s m args below meth c A ls C hr hnm hl
  have C : Cx p s m args meth c D cy A cX12_wire 6 RX12 := C
  have hl : lv_has ls 6 [(0, .ref a0), (1, .int p1)] := hl
  refine x_aload_n C dX12_wire_0 rfl (lv_at hl 0 rfl) ?_
  refine x_iconst (v := 0) C dX12_wire_1 (by decide) ?_
  obtain ⟨g1, h⟩ := h
  refine x_putI C fl_RX12_267 (Or.inl rfl) g1 dX12_wire_2 ?_
  refine x_iload_n C dX12_wire_5 rfl (lv_at hl 1 rfl) ?_
  refine x_iconst (v := 0) C dX12_wire_6 (by decide) ?_
  refine x_aload_n C dX12_wire_7 rfl (lv_at hl 0 rfl) ?_
  refine x_getI C fl_RX12_281 g1 dX12_wire_8 ?_
  refine x_topi (fun x2 e3 => ?_)
  have h := h x2 e3
  refine x_iconst (v := 1) C dX12_wire_11 (by decide) ?_
  refine x_isub C dX12_wire_12 ?_
  refine x_callS (rm := rm_X12_in) (rest := []) (As := [.int p1, .int (0 : Int32), .int (x2 - (1 : Int32))]) C cs_RX12_270 (by decide) (by decide) rfl rfl (Nat.le_of_ble_eq_true rfl) hl.1 dX12_wire_13 (c_X12_in l D cy p1 (0 : Int32) (x2 - (1 : Int32)) (stI σ a0 0 (0 : Int32)) _ h) (ks_i (fun x5 σ4 h => ?_))
  refine x_if_ne (tgt := 21) C dX12_wire_16 (by decide) (fun c6 => ?_) (fun c6 => ?_)
  · have h := h.1 c6
    refine x_sipush (v := 640) C dX12_wire_21 (by decide) ?_
    refine x_aload_n C dX12_wire_24 rfl (lv_at hl 0 rfl) ?_
    obtain ⟨g7, h⟩ := h
    refine x_getP C fl_RX12_9 g7 dX12_wire_25 ?_
    refine x_iload_n C dX12_wire_28 rfl (lv_at hl 1 rfl) ?_
    obtain ⟨b8, g9, h⟩ := h
    refine x_nn1 g9 ?_
    obtain ⟨g10, h⟩ := h
    obtain ⟨g11, h⟩ := h
    refine x_iald C g10 g11 dX12_wire_29 ?_
    refine x_topi (fun x12 e13 => ?_)
    have h := h x12 e13
    refine x_imul C dX12_wire_30 ?_
    refine x_topi (fun x14 e15 => ?_)
    have h := h x14 e15
    refine x_istore_n (i := 2) (lv' := [(2, .int x14), (0, .ref a0), (1, .int p1)]) C dX12_wire_31 rfl hl (by decide) (by first | rfl | simp [vrc, cat_i, cat_r, cat_l]) (fun ls hl => ?_)
    refine x_aload_n C dX12_wire_32 rfl (lv_at hl 1 rfl) ?_
    refine x_getP C fl_RX12_18 g7 dX12_wire_33 ?_
    refine x_iload_n C dX12_wire_36 rfl (lv_at hl 0 rfl) ?_
    obtain ⟨b16, g17, h⟩ := h
    refine x_nn1 g17 ?_
    obtain ⟨g18, h⟩ := h
    obtain ⟨g19, h⟩ := h
    refine x_iald C g18 g19 dX12_wire_37 ?_
    refine x_topi (fun x20 e21 => ?_)
    have h := h x20 e21
    refine x_istore_n (i := 3) (lv' := [(3, .int x20), (2, .int x14), (0, .ref a0), (1, .int p1)]) C dX12_wire_38 rfl hl (by decide) (by first | rfl | simp [vrc, cat_i, cat_r, cat_l]) (fun ls hl => ?_)
    refine x_aload_n C dX12_wire_39 rfl (lv_at hl 2 rfl) ?_
    refine x_iconst (v := 0) C dX12_wire_40 (by decide) ?_
    refine x_putI C fl_RX12_492 (Or.inl rfl) g7 dX12_wire_41 ?_
    refine x_iconst (v := 0) C dX12_wire_44 (by decide) ?_
    refine x_istore (i := 4) (lv' := [(4, .int (0 : Int32)), (3, .int x20), (2, .int x14), (0, .ref a0), (1, .int p1)]) C dX12_wire_45 hl (by decide) (by first | rfl | simp [vrc, cat_i, cat_r, cat_l]) (fun ls hl => ?_)
    exact h (fun t σ => ∀ ls : Array Slot, lv_has ls 6 [(0, .ref a0), (2, .int t.1), (3, .int t.2.1), (4, .int t.2.2)] → Xw p l e rm_X12_wire s m args below meth c D cy A σ 0 0 (MQ below (Qst D cy A (PsI Q)) args s rm_X12_wire.cells rm_X12_wire.slots A) (F0 m 47 ls [])) (t_X12_wire_47 C hr hnm  (fun t σ h => h)) ls (lv_sub hl [3, 2, 1, 0] rfl)
  · have h := h.2 c6
    refine x_iconst (v := -1) C dX12_wire_19 (by decide) ?_
    exact x_iret C hr dX12_wire_20 ⟨_, rfl, h⟩
theorem dX12_endBlock_0 : decode cX12_endBlock 0 = .ok (.aload_n 0, 1) := by decide +kernel
theorem dX12_endBlock_1 : decode cX12_endBlock 1 = .ok (.getfield 492, 3) := by decide +kernel
theorem dX12_endBlock_4 : decode cX12_endBlock 4 = .ok (.sipush 512, 3) := by decide +kernel
theorem dX12_endBlock_7 : decode cX12_endBlock 7 = .ok (.iload_n 1, 1) := by decide +kernel
theorem dX12_endBlock_8 : decode cX12_endBlock 8 = .ok (.iconst 1, 1) := by decide +kernel
theorem dX12_endBlock_9 : decode cX12_endBlock 9 = .ok (.iadd, 1) := by decide +kernel
theorem dX12_endBlock_10 : decode cX12_endBlock 10 = .ok (.imul, 1) := by decide +kernel
theorem dX12_endBlock_11 : decode cX12_endBlock 11 = .ok (.iconst 4, 1) := by decide +kernel
theorem dX12_endBlock_12 : decode cX12_endBlock 12 = .ok (.isub, 1) := by decide +kernel
theorem dX12_endBlock_13 : decode cX12_endBlock 13 = .ok (.if_icmp .ge 11, 3) := by decide +kernel
theorem dX12_endBlock_16 : decode cX12_endBlock 16 = .ok (.aload_n 0, 1) := by decide +kernel
theorem dX12_endBlock_17 : decode cX12_endBlock 17 = .ok (.iconst 0, 1) := by decide +kernel
theorem dX12_endBlock_18 : decode cX12_endBlock 18 = .ok (.invokevirtual 495, 3) := by decide +kernel
theorem dX12_endBlock_21 : decode cX12_endBlock 21 = .ok (.goto (-21), 3) := by decide +kernel
theorem dX12_endBlock_24 : decode cX12_endBlock 24 = .ok (.aload_n 0, 1) := by decide +kernel
theorem dX12_endBlock_25 : decode cX12_endBlock 25 = .ok (.aload_n 0, 1) := by decide +kernel
theorem dX12_endBlock_26 : decode cX12_endBlock 26 = .ok (.getfield 242, 3) := by decide +kernel
theorem dX12_endBlock_29 : decode cX12_endBlock 29 = .ok (.sipush 512, 3) := by decide +kernel
theorem dX12_endBlock_32 : decode cX12_endBlock 32 = .ok (.iload_n 1, 1) := by decide +kernel
theorem dX12_endBlock_33 : decode cX12_endBlock 33 = .ok (.imul, 1) := by decide +kernel
theorem dX12_endBlock_34 : decode cX12_endBlock 34 = .ok (.aload_n 0, 1) := by decide +kernel
theorem dX12_endBlock_35 : decode cX12_endBlock 35 = .ok (.getfield 492, 3) := by decide +kernel
theorem dX12_endBlock_38 : decode cX12_endBlock 38 = .ok (.invokestatic 520, 3) := by decide +kernel
theorem dX12_endBlock_41 : decode cX12_endBlock 41 = .ok (.invokevirtual 501, 3) := by decide +kernel
theorem dX12_endBlock_44 : decode cX12_endBlock 44 = .ok (.return_, 1) := by decide +kernel
abbrev rm_X12_endBlock : Room := { frames := 2, cells := 0, slots := 0, locals := 43 }
def f_X12_endBlock_0 (a0 : Nat)  (Q : Sto → Prop) (L0 : Int32 → Sto → Prop) (t : Int32) (σ : Sto) : Prop := (sK σ a0 = 12 ∧ (∀ x2 : Int32, x2 = sI σ a0 89 → (((((512 : Int32) * (t + (1 : Int32))) - (4 : Int32)) ≤ x2 → (∀ x5 : Int32, x5 = sI σ a0 89 → (wp_X12_sumOf (sP σ a0 88) ((512 : Int32) * t) x5 σ (fun (x8 : Int32) (σ7 : Sto) => (sK σ7 a0 = 12 ∧ (wp_X12_writeWord a0 x8 σ7 (fun (σ10 : Sto) => Q σ10))))))) ∧ (¬ (((512 : Int32) * (t + (1 : Int32))) - (4 : Int32)) ≤ x2 → (wp_X12_write a0 (0 : Int32) σ (fun (σ11 : Sto) => L0 (t) σ11))))))
set_option maxHeartbeats 4000000 in
set_option maxRecDepth 100000 in
theorem t_X12_endBlock_0 {p : Program} {l : Launch} {e : Env} {s : State} {m : MethodId} {args : Array Value} {below : List Frame} {meth : Method} {c : Code} {D : va_G} {cy : Nat → ClassId} {A : Nat → Prop} {a0 : Nat} {Q : Sto → Prop} {L0 : Int32 → Sto → Prop} (C : Cx p s m args meth c D cy A cX12_endBlock 2 RX12) (hr : meth.sig.returnType = none) (hnm : meth.name = yX12_endBlock.name) (hL0 : ∀ (t : Int32) (σ : Sto), L0 t σ → ∀ ls : Array Slot, lv_has ls 2 [(0, .ref a0), (1, .int t)] → Xw p l e rm_X12_endBlock s m args below meth c D cy A σ 0 0 (MQ below (Qst D cy A (PsV Q)) args s rm_X12_endBlock.cells rm_X12_endBlock.slots A) (F0 m 0 ls [])) : ∀ (t : Int32) (σ : Sto), f_X12_endBlock_0 a0  Q L0 t σ → ∀ ls : Array Slot, lv_has ls 2 [(0, .ref a0), (1, .int t)] → Xw p l e rm_X12_endBlock s m args below meth c D cy A σ 0 0 (MQ below (Qst D cy A (PsV Q)) args s rm_X12_endBlock.cells rm_X12_endBlock.slots A) (F0 m 0 ls []) := by
  intro t σ h ls hl
  unfold f_X12_endBlock_0 at h
  refine x_aload_n C dX12_endBlock_0 rfl (lv_at hl 0 rfl) ?_
  obtain ⟨g1, h⟩ := h
  refine x_getI C fl_RX12_492 g1 dX12_endBlock_1 ?_
  refine x_topi (fun x2 e3 => ?_)
  have h := h x2 e3
  refine x_sipush (v := 512) C dX12_endBlock_4 (by decide) ?_
  refine x_iload_n C dX12_endBlock_7 rfl (lv_at hl 1 rfl) ?_
  refine x_iconst (v := 1) C dX12_endBlock_8 (by decide) ?_
  refine x_iadd C dX12_endBlock_9 ?_
  refine x_imul C dX12_endBlock_10 ?_
  refine x_iconst (v := 4) C dX12_endBlock_11 (by decide) ?_
  refine x_isub C dX12_endBlock_12 ?_
  refine x_icmp_ge (tgt := 24) C dX12_endBlock_13 (by decide) (fun c4 => ?_) (fun c4 => ?_)
  · have h := h.1 c4
    refine x_aload_n C dX12_endBlock_24 rfl (lv_at hl 0 rfl) ?_
    refine x_aload_n C dX12_endBlock_25 rfl (lv_at hl 0 rfl) ?_
    refine x_getP C fl_RX12_242 g1 dX12_endBlock_26 ?_
    refine x_sipush (v := 512) C dX12_endBlock_29 (by decide) ?_
    refine x_iload_n C dX12_endBlock_32 rfl (lv_at hl 1 rfl) ?_
    refine x_imul C dX12_endBlock_33 ?_
    refine x_aload_n C dX12_endBlock_34 rfl (lv_at hl 0 rfl) ?_
    refine x_getI C fl_RX12_492 g1 dX12_endBlock_35 ?_
    refine x_topi (fun x5 e6 => ?_)
    have h := h x5 e6
    refine x_callS (rm := rm_X12_sumOf) (rest := [.ref a0]) (As := [va_rf (sP σ a0 88), .int ((512 : Int32) * t), .int x5]) C cs_RX12_520 (by decide) (by decide) rfl rfl (Nat.le_of_ble_eq_true rfl) hl.1 dX12_endBlock_38 (c_X12_sumOf l D cy (sP σ a0 88) ((512 : Int32) * t) x5 σ _ h) (ks_i (fun x8 σ7 h => ?_))
    obtain ⟨g9, h⟩ := h
    refine x_callV (rm := rm_X12_writeWord) (rest := []) (As := [.int x8]) C cy_RX12_501 g9 (by decide) (by decide) rfl rfl (Nat.le_of_ble_eq_true rfl) hl.1 dX12_endBlock_41 (c_X12_writeWord l D cy a0 x8 σ7 _ h) (ks_v (fun σ10 h => ?_))
    exact x_vret C hr dX12_endBlock_44 ⟨rfl, h⟩
  · have h := h.2 c4
    refine x_aload_n C dX12_endBlock_16 rfl (lv_at hl 0 rfl) ?_
    refine x_iconst (v := 0) C dX12_endBlock_17 (by decide) ?_
    refine x_callV (rm := rm_X12_write) (rest := []) (As := [.int (0 : Int32)]) C cy_RX12_495 g1 (by decide) (by decide) rfl rfl (Nat.le_of_ble_eq_true rfl) hl.1 dX12_endBlock_18 (c_X12_write l D cy a0 (0 : Int32) σ _ h) (ks_v (fun σ11 h => ?_))
    refine x_goto (tgt := 0) C dX12_endBlock_21 (by decide) ?_
    exact hL0 (t) _ h ls (lv_sub hl [0, 1] rfl)
def wp_X12_endBlock (a0 : Nat) (p1 : Int32) (σ : Sto) (Q : Sto → Prop) : Prop := LF (f_X12_endBlock_0 a0  Q) (p1) σ
set_option maxHeartbeats 4000000 in
set_option maxRecDepth 100000 in
theorem c_X12_endBlock (l : Launch) (D : va_G) (cy : Nat → ClassId) (a0 : Nat) (p1 : Int32) (σ : Sto) (Q : Sto → Prop) (h : wp_X12_endBlock a0 p1 σ Q) : Mt l D cy yX12_endBlock cX12_endBlock 2 none rm_X12_endBlock [.ref a0, .int p1] σ (PsV Q) := by
  unfold wp_X12_endBlock at h
  refine mt_of (by decide +kernel) (Nat.le_of_ble_eq_true rfl) ?_
  intro p e s m args below meth c A ls C hr hnm hl
  have C : Cx p s m args meth c D cy A cX12_endBlock 2 RX12 := C
  have hl : lv_has ls 2 [(0, .ref a0), (1, .int p1)] := hl
  exact h (fun t σ => ∀ ls : Array Slot, lv_has ls 2 [(0, .ref a0), (1, .int t)] → Xw p l e rm_X12_endBlock s m args below meth c D cy A σ 0 0 (MQ below (Qst D cy A (PsV Q)) args s rm_X12_endBlock.cells rm_X12_endBlock.slots A) (F0 m 0 ls [])) (t_X12_endBlock_0 C hr hnm  (fun t σ h => h)) ls (lv_sub hl [0, 1] rfl)
