theorem dX12_accept_0 : decode cX12_accept 0 = .ok (.aload_n 0, 1) := by decide +kernel
theorem dX12_accept_1 : decode cX12_accept 1 = .ok (.getfield 179, 3) := by decide +kernel
theorem dX12_accept_4 : decode cX12_accept 4 = .ok (.iload_n 1, 1) := by decide +kernel
theorem dX12_accept_5 : decode cX12_accept 5 = .ok (.iconst 0, 1) := by decide +kernel
theorem dX12_accept_6 : decode cX12_accept 6 = .ok (.bastore, 1) := by decide +kernel
theorem dX12_accept_7 : decode cX12_accept 7 = .ok (.aload_n 0, 1) := by decide +kernel
theorem dX12_accept_8 : decode cX12_accept 8 = .ok (.getfield 194, 3) := by decide +kernel
theorem dX12_accept_11 : decode cX12_accept 11 = .ok (.iload_n 1, 1) := by decide +kernel
theorem dX12_accept_12 : decode cX12_accept 12 = .ok (.aload_n 0, 1) := by decide +kernel
theorem dX12_accept_13 : decode cX12_accept 13 = .ok (.getfield 221, 3) := by decide +kernel
theorem dX12_accept_16 : decode cX12_accept 16 = .ok (.iload_n 2, 1) := by decide +kernel
theorem dX12_accept_17 : decode cX12_accept 17 = .ok (.iaload, 1) := by decide +kernel
theorem dX12_accept_18 : decode cX12_accept 18 = .ok (.iastore, 1) := by decide +kernel
theorem dX12_accept_19 : decode cX12_accept 19 = .ok (.aload_n 0, 1) := by decide +kernel
theorem dX12_accept_20 : decode cX12_accept 20 = .ok (.getfield 197, 3) := by decide +kernel
theorem dX12_accept_23 : decode cX12_accept 23 = .ok (.iload_n 1, 1) := by decide +kernel
theorem dX12_accept_24 : decode cX12_accept 24 = .ok (.aload_n 0, 1) := by decide +kernel
theorem dX12_accept_25 : decode cX12_accept 25 = .ok (.getfield 215, 3) := by decide +kernel
theorem dX12_accept_28 : decode cX12_accept 28 = .ok (.iload_n 2, 1) := by decide +kernel
theorem dX12_accept_29 : decode cX12_accept 29 = .ok (.iaload, 1) := by decide +kernel
theorem dX12_accept_30 : decode cX12_accept 30 = .ok (.iastore, 1) := by decide +kernel
theorem dX12_accept_31 : decode cX12_accept 31 = .ok (.aload_n 0, 1) := by decide +kernel
theorem dX12_accept_32 : decode cX12_accept 32 = .ok (.getfield 200, 3) := by decide +kernel
theorem dX12_accept_35 : decode cX12_accept 35 = .ok (.iload_n 1, 1) := by decide +kernel
theorem dX12_accept_36 : decode cX12_accept 36 = .ok (.aload_n 0, 1) := by decide +kernel
theorem dX12_accept_37 : decode cX12_accept 37 = .ok (.getfield 209, 3) := by decide +kernel
theorem dX12_accept_40 : decode cX12_accept 40 = .ok (.iload_n 2, 1) := by decide +kernel
theorem dX12_accept_41 : decode cX12_accept 41 = .ok (.iaload, 1) := by decide +kernel
theorem dX12_accept_42 : decode cX12_accept 42 = .ok (.iastore, 1) := by decide +kernel
theorem dX12_accept_43 : decode cX12_accept 43 = .ok (.aload_n 0, 1) := by decide +kernel
theorem dX12_accept_44 : decode cX12_accept 44 = .ok (.getfield 203, 3) := by decide +kernel
theorem dX12_accept_47 : decode cX12_accept 47 = .ok (.iload_n 1, 1) := by decide +kernel
theorem dX12_accept_48 : decode cX12_accept 48 = .ok (.aload_n 0, 1) := by decide +kernel
theorem dX12_accept_49 : decode cX12_accept 49 = .ok (.getfield 212, 3) := by decide +kernel
theorem dX12_accept_52 : decode cX12_accept 52 = .ok (.iload_n 2, 1) := by decide +kernel
theorem dX12_accept_53 : decode cX12_accept 53 = .ok (.iaload, 1) := by decide +kernel
theorem dX12_accept_54 : decode cX12_accept 54 = .ok (.iastore, 1) := by decide +kernel
theorem dX12_accept_55 : decode cX12_accept 55 = .ok (.aload_n 0, 1) := by decide +kernel
theorem dX12_accept_56 : decode cX12_accept 56 = .ok (.getfield 449, 3) := by decide +kernel
theorem dX12_accept_59 : decode cX12_accept 59 = .ok (.sipush 200, 3) := by decide +kernel
theorem dX12_accept_62 : decode cX12_accept 62 = .ok (.irem, 1) := by decide +kernel
theorem dX12_accept_63 : decode cX12_accept 63 = .ok (.istore_n 3, 1) := by decide +kernel
theorem dX12_accept_64 : decode cX12_accept 64 = .ok (.aload_n 0, 1) := by decide +kernel
theorem dX12_accept_65 : decode cX12_accept 65 = .ok (.dup, 1) := by decide +kernel
theorem dX12_accept_66 : decode cX12_accept 66 = .ok (.getfield 449, 3) := by decide +kernel
theorem dX12_accept_69 : decode cX12_accept 69 = .ok (.iconst 1, 1) := by decide +kernel
theorem dX12_accept_70 : decode cX12_accept 70 = .ok (.iadd, 1) := by decide +kernel
theorem dX12_accept_71 : decode cX12_accept 71 = .ok (.putfield 449, 3) := by decide +kernel
theorem dX12_accept_74 : decode cX12_accept 74 = .ok (.aload_n 0, 1) := by decide +kernel
theorem dX12_accept_75 : decode cX12_accept 75 = .ok (.getfield 224, 3) := by decide +kernel
theorem dX12_accept_78 : decode cX12_accept 78 = .ok (.iload_n 3, 1) := by decide +kernel
theorem dX12_accept_79 : decode cX12_accept 79 = .ok (.iload_n 1, 1) := by decide +kernel
theorem dX12_accept_80 : decode cX12_accept 80 = .ok (.iastore, 1) := by decide +kernel
theorem dX12_accept_81 : decode cX12_accept 81 = .ok (.aload_n 0, 1) := by decide +kernel
theorem dX12_accept_82 : decode cX12_accept 82 = .ok (.getfield 227, 3) := by decide +kernel
theorem dX12_accept_85 : decode cX12_accept 85 = .ok (.iload_n 3, 1) := by decide +kernel
theorem dX12_accept_86 : decode cX12_accept 86 = .ok (.aload_n 0, 1) := by decide +kernel
theorem dX12_accept_87 : decode cX12_accept 87 = .ok (.getfield 176, 3) := by decide +kernel
theorem dX12_accept_90 : decode cX12_accept 90 = .ok (.iload_n 1, 1) := by decide +kernel
theorem dX12_accept_91 : decode cX12_accept 91 = .ok (.iaload, 1) := by decide +kernel
theorem dX12_accept_92 : decode cX12_accept 92 = .ok (.iastore, 1) := by decide +kernel
theorem dX12_accept_93 : decode cX12_accept 93 = .ok (.aload_n 0, 1) := by decide +kernel
theorem dX12_accept_94 : decode cX12_accept 94 = .ok (.getfield 230, 3) := by decide +kernel
theorem dX12_accept_97 : decode cX12_accept 97 = .ok (.iload_n 3, 1) := by decide +kernel
theorem dX12_accept_98 : decode cX12_accept 98 = .ok (.aload_n 0, 1) := by decide +kernel
theorem dX12_accept_99 : decode cX12_accept 99 = .ok (.getfield 197, 3) := by decide +kernel
theorem dX12_accept_102 : decode cX12_accept 102 = .ok (.iload_n 1, 1) := by decide +kernel
theorem dX12_accept_103 : decode cX12_accept 103 = .ok (.iaload, 1) := by decide +kernel
theorem dX12_accept_104 : decode cX12_accept 104 = .ok (.iastore, 1) := by decide +kernel
theorem dX12_accept_105 : decode cX12_accept 105 = .ok (.aload_n 0, 1) := by decide +kernel
theorem dX12_accept_106 : decode cX12_accept 106 = .ok (.getfield 233, 3) := by decide +kernel
theorem dX12_accept_109 : decode cX12_accept 109 = .ok (.iload_n 3, 1) := by decide +kernel
theorem dX12_accept_110 : decode cX12_accept 110 = .ok (.aload_n 0, 1) := by decide +kernel
theorem dX12_accept_111 : decode cX12_accept 111 = .ok (.getfield 200, 3) := by decide +kernel
theorem dX12_accept_114 : decode cX12_accept 114 = .ok (.iload_n 1, 1) := by decide +kernel
theorem dX12_accept_115 : decode cX12_accept 115 = .ok (.iaload, 1) := by decide +kernel
theorem dX12_accept_116 : decode cX12_accept 116 = .ok (.iastore, 1) := by decide +kernel
theorem dX12_accept_117 : decode cX12_accept 117 = .ok (.aload_n 0, 1) := by decide +kernel
theorem dX12_accept_118 : decode cX12_accept 118 = .ok (.getfield 236, 3) := by decide +kernel
theorem dX12_accept_121 : decode cX12_accept 121 = .ok (.iload_n 3, 1) := by decide +kernel
theorem dX12_accept_122 : decode cX12_accept 122 = .ok (.aload_n 0, 1) := by decide +kernel
theorem dX12_accept_123 : decode cX12_accept 123 = .ok (.getfield 203, 3) := by decide +kernel
theorem dX12_accept_126 : decode cX12_accept 126 = .ok (.iload_n 1, 1) := by decide +kernel
theorem dX12_accept_127 : decode cX12_accept 127 = .ok (.iaload, 1) := by decide +kernel
theorem dX12_accept_128 : decode cX12_accept 128 = .ok (.iastore, 1) := by decide +kernel
theorem dX12_accept_129 : decode cX12_accept 129 = .ok (.aload_n 0, 1) := by decide +kernel
theorem dX12_accept_130 : decode cX12_accept 130 = .ok (.getfield 239, 3) := by decide +kernel
theorem dX12_accept_133 : decode cX12_accept 133 = .ok (.iload_n 3, 1) := by decide +kernel
theorem dX12_accept_134 : decode cX12_accept 134 = .ok (.aload_n 0, 1) := by decide +kernel
theorem dX12_accept_135 : decode cX12_accept 135 = .ok (.getfield 194, 3) := by decide +kernel
theorem dX12_accept_138 : decode cX12_accept 138 = .ok (.iload_n 1, 1) := by decide +kernel
theorem dX12_accept_139 : decode cX12_accept 139 = .ok (.iaload, 1) := by decide +kernel
theorem dX12_accept_140 : decode cX12_accept 140 = .ok (.iastore, 1) := by decide +kernel
theorem dX12_accept_141 : decode cX12_accept 141 = .ok (.return_, 1) := by decide +kernel
abbrev rm_X12_accept : Room := { frames := 0, cells := 0, slots := 0, locals := 0 }
set_option maxRecDepth 100000 in
def wp_X12_accept (a0 : Nat) (p1 : Int32) (p2 : Int32) (σ : Sto) (Q : Sto → Prop) : Prop := (sK σ a0 = 12 ∧ (∃ b2 : Nat, sP σ a0 66 = some b2 ∧ (sK σ b2 = 16 ∧ (vp_in p1 (sN σ b2) ∧ (∃ b6 : Nat, sP σ a0 80 = some b6 ∧ (sK σ b6 = 14 ∧ (vp_in p2 (sN σ b6) ∧ (∀ x10 : Int32, x10 = sI (stI σ b2 p1.toNatClampNeg (vp_nar .boolean (0 : Int32))) b6 p2.toNatClampNeg → (∃ b12 : Nat, sP σ a0 71 = some b12 ∧ (sK σ b12 = 14 ∧ (vp_in p1 (sN σ b12) ∧ (∃ b16 : Nat, sP σ a0 78 = some b16 ∧ (sK σ b16 = 14 ∧ (vp_in p2 (sN σ b16) ∧ (∀ x20 : Int32, x20 = sI (stI (stI σ b2 p1.toNatClampNeg (vp_nar .boolean (0 : Int32))) b12 p1.toNatClampNeg x10) b16 p2.toNatClampNeg → (∃ b22 : Nat, sP σ a0 72 = some b22 ∧ (sK σ b22 = 14 ∧ (vp_in p1 (sN σ b22) ∧ (∃ b26 : Nat, sP σ a0 76 = some b26 ∧ (sK σ b26 = 14 ∧ (vp_in p2 (sN σ b26) ∧ (∀ x30 : Int32, x30 = sI (stI (stI (stI σ b2 p1.toNatClampNeg (vp_nar .boolean (0 : Int32))) b12 p1.toNatClampNeg x10) b22 p1.toNatClampNeg x20) b26 p2.toNatClampNeg → (∃ b32 : Nat, sP σ a0 73 = some b32 ∧ (sK σ b32 = 14 ∧ (vp_in p1 (sN σ b32) ∧ (∃ b36 : Nat, sP σ a0 77 = some b36 ∧ (sK σ b36 = 14 ∧ (vp_in p2 (sN σ b36) ∧ (∀ x40 : Int32, x40 = sI (stI (stI (stI (stI σ b2 p1.toNatClampNeg (vp_nar .boolean (0 : Int32))) b12 p1.toNatClampNeg x10) b22 p1.toNatClampNeg x20) b32 p1.toNatClampNeg x30) b36 p2.toNatClampNeg → (∃ b42 : Nat, sP σ a0 74 = some b42 ∧ (sK σ b42 = 14 ∧ (vp_in p1 (sN σ b42) ∧ (∀ x46 : Int32, x46 = sI (stI (stI (stI (stI (stI σ b2 p1.toNatClampNeg (vp_nar .boolean (0 : Int32))) b12 p1.toNatClampNeg x10) b22 p1.toNatClampNeg x20) b32 p1.toNatClampNeg x30) b42 p1.toNatClampNeg x40) a0 81 → (∀ x49 : Int32, x49 = x46 - x46 / (200 : Int32) * (200 : Int32) → (∀ x51 : Int32, x51 = sI (stI (stI (stI (stI (stI σ b2 p1.toNatClampNeg (vp_nar .boolean (0 : Int32))) b12 p1.toNatClampNeg x10) b22 p1.toNatClampNeg x20) b32 p1.toNatClampNeg x30) b42 p1.toNatClampNeg x40) a0 81 → (∀ x53 : Int32, x53 = x51 + (1 : Int32) → (∃ b55 : Nat, sP σ a0 82 = some b55 ∧ (sK σ b55 = 14 ∧ (vp_in x49 (sN σ b55) ∧ (∃ b59 : Nat, sP σ a0 65 = some b59 ∧ (sK σ b59 = 14 ∧ (vp_in p1 (sN σ b59) ∧ (∀ x63 : Int32, x63 = sI (stI (stI (stI (stI (stI (stI (stI σ b2 p1.toNatClampNeg (vp_nar .boolean (0 : Int32))) b12 p1.toNatClampNeg x10) b22 p1.toNatClampNeg x20) b32 p1.toNatClampNeg x30) b42 p1.toNatClampNeg x40) a0 81 x53) b55 x49.toNatClampNeg p1) b59 p1.toNatClampNeg → (∃ b65 : Nat, sP σ a0 83 = some b65 ∧ (sK σ b65 = 14 ∧ (vp_in x49 (sN σ b65) ∧ (vp_in p1 (sN σ b22) ∧ (∀ x70 : Int32, x70 = sI (stI (stI (stI (stI (stI (stI (stI (stI σ b2 p1.toNatClampNeg (vp_nar .boolean (0 : Int32))) b12 p1.toNatClampNeg x10) b22 p1.toNatClampNeg x20) b32 p1.toNatClampNeg x30) b42 p1.toNatClampNeg x40) a0 81 x53) b55 x49.toNatClampNeg p1) b65 x49.toNatClampNeg x63) b22 p1.toNatClampNeg → (∃ b72 : Nat, sP σ a0 84 = some b72 ∧ (sK σ b72 = 14 ∧ (vp_in x49 (sN σ b72) ∧ (vp_in p1 (sN σ b32) ∧ (∀ x77 : Int32, x77 = sI (stI (stI (stI (stI (stI (stI (stI (stI (stI σ b2 p1.toNatClampNeg (vp_nar .boolean (0 : Int32))) b12 p1.toNatClampNeg x10) b22 p1.toNatClampNeg x20) b32 p1.toNatClampNeg x30) b42 p1.toNatClampNeg x40) a0 81 x53) b55 x49.toNatClampNeg p1) b65 x49.toNatClampNeg x63) b72 x49.toNatClampNeg x70) b32 p1.toNatClampNeg → (∃ b79 : Nat, sP σ a0 85 = some b79 ∧ (sK σ b79 = 14 ∧ (vp_in x49 (sN σ b79) ∧ (vp_in p1 (sN σ b42) ∧ (∀ x84 : Int32, x84 = sI (stI (stI (stI (stI (stI (stI (stI (stI (stI (stI σ b2 p1.toNatClampNeg (vp_nar .boolean (0 : Int32))) b12 p1.toNatClampNeg x10) b22 p1.toNatClampNeg x20) b32 p1.toNatClampNeg x30) b42 p1.toNatClampNeg x40) a0 81 x53) b55 x49.toNatClampNeg p1) b65 x49.toNatClampNeg x63) b72 x49.toNatClampNeg x70) b79 x49.toNatClampNeg x77) b42 p1.toNatClampNeg → (∃ b86 : Nat, sP σ a0 86 = some b86 ∧ (sK σ b86 = 14 ∧ (vp_in x49 (sN σ b86) ∧ (vp_in p1 (sN σ b12) ∧ (∀ x91 : Int32, x91 = sI (stI (stI (stI (stI (stI (stI (stI (stI (stI (stI (stI σ b2 p1.toNatClampNeg (vp_nar .boolean (0 : Int32))) b12 p1.toNatClampNeg x10) b22 p1.toNatClampNeg x20) b32 p1.toNatClampNeg x30) b42 p1.toNatClampNeg x40) a0 81 x53) b55 x49.toNatClampNeg p1) b65 x49.toNatClampNeg x63) b72 x49.toNatClampNeg x70) b79 x49.toNatClampNeg x77) b86 x49.toNatClampNeg x84) b12 p1.toNatClampNeg → (∃ b93 : Nat, sP σ a0 87 = some b93 ∧ (sK σ b93 = 14 ∧ (vp_in x49 (sN σ b93) ∧ Q (stI (stI (stI (stI (stI (stI (stI (stI (stI (stI (stI (stI σ b2 p1.toNatClampNeg (vp_nar .boolean (0 : Int32))) b12 p1.toNatClampNeg x10) b22 p1.toNatClampNeg x20) b32 p1.toNatClampNeg x30) b42 p1.toNatClampNeg x40) a0 81 x53) b55 x49.toNatClampNeg p1) b65 x49.toNatClampNeg x63) b72 x49.toNatClampNeg x70) b79 x49.toNatClampNeg x77) b86 x49.toNatClampNeg x84) b93 x49.toNatClampNeg x91)))))))))))))))))))))))))))))))))))))))))))))))))))))))))))))))))))
set_option maxHeartbeats 4000000 in
set_option maxRecDepth 100000 in
theorem c_X12_accept (l : Launch) (D : va_G) (cy : Nat → ClassId) (a0 : Nat) (p1 : Int32) (p2 : Int32) (σ : Sto) (Q : Sto → Prop) (h : wp_X12_accept a0 p1 p2 σ Q) : Mt l D cy yX12_accept cX12_accept 4 none rm_X12_accept [.ref a0, .int p1, .int p2] σ (PsV Q) := by
  unfold wp_X12_accept at h
  refine mt_of (by decide +kernel) (Nat.le_of_ble_eq_true rfl) ?_
  intro p e s m args below meth c A ls C hr hnm hl
  have C : Cx p s m args meth c D cy A cX12_accept 4 RX12 := C
  have hl : lv_has ls 4 [(0, .ref a0), (1, .int p1), (2, .int p2)] := hl
  refine x_aload_n C dX12_accept_0 rfl (lv_at hl 0 rfl) ?_
  obtain ⟨g1, h⟩ := h
  refine x_getP C fl_RX12_179 g1 dX12_accept_1 ?_
  refine x_iload_n C dX12_accept_4 rfl (lv_at hl 1 rfl) ?_
  refine x_iconst (v := 0) C dX12_accept_5 (by decide) ?_
  obtain ⟨b2, g3, h⟩ := h
  refine x_nn2 g3 ?_
  obtain ⟨g4, h⟩ := h
  obtain ⟨g5, h⟩ := h
  refine x_zast C g4 g5 dX12_accept_6 ?_
  refine x_aload_n C dX12_accept_7 rfl (lv_at hl 0 rfl) ?_
  refine x_getP C fl_RX12_194 g1 dX12_accept_8 ?_
  refine x_iload_n C dX12_accept_11 rfl (lv_at hl 1 rfl) ?_
  refine x_aload_n C dX12_accept_12 rfl (lv_at hl 0 rfl) ?_
  refine x_getP C fl_RX12_221 g1 dX12_accept_13 ?_
  refine x_iload_n C dX12_accept_16 rfl (lv_at hl 2 rfl) ?_
  obtain ⟨b6, g7, h⟩ := h
  refine x_nn1 g7 ?_
  obtain ⟨g8, h⟩ := h
  obtain ⟨g9, h⟩ := h
  refine x_iald C g8 g9 dX12_accept_17 ?_
  refine x_topi (fun x10 e11 => ?_)
  have h := h x10 e11
  obtain ⟨b12, g13, h⟩ := h
  refine x_nn2 g13 ?_
  obtain ⟨g14, h⟩ := h
  obtain ⟨g15, h⟩ := h
  refine x_iast C g14 g15 dX12_accept_18 ?_
  refine x_aload_n C dX12_accept_19 rfl (lv_at hl 0 rfl) ?_
  refine x_getP C fl_RX12_197 g1 dX12_accept_20 ?_
  refine x_iload_n C dX12_accept_23 rfl (lv_at hl 1 rfl) ?_
  refine x_aload_n C dX12_accept_24 rfl (lv_at hl 0 rfl) ?_
  refine x_getP C fl_RX12_215 g1 dX12_accept_25 ?_
  refine x_iload_n C dX12_accept_28 rfl (lv_at hl 2 rfl) ?_
  obtain ⟨b16, g17, h⟩ := h
  refine x_nn1 g17 ?_
  obtain ⟨g18, h⟩ := h
  obtain ⟨g19, h⟩ := h
  refine x_iald C g18 g19 dX12_accept_29 ?_
  refine x_topi (fun x20 e21 => ?_)
  have h := h x20 e21
  obtain ⟨b22, g23, h⟩ := h
  refine x_nn2 g23 ?_
  obtain ⟨g24, h⟩ := h
  obtain ⟨g25, h⟩ := h
  refine x_iast C g24 g25 dX12_accept_30 ?_
  refine x_aload_n C dX12_accept_31 rfl (lv_at hl 0 rfl) ?_
  refine x_getP C fl_RX12_200 g1 dX12_accept_32 ?_
  refine x_iload_n C dX12_accept_35 rfl (lv_at hl 1 rfl) ?_
  refine x_aload_n C dX12_accept_36 rfl (lv_at hl 0 rfl) ?_
  refine x_getP C fl_RX12_209 g1 dX12_accept_37 ?_
  refine x_iload_n C dX12_accept_40 rfl (lv_at hl 2 rfl) ?_
  obtain ⟨b26, g27, h⟩ := h
  refine x_nn1 g27 ?_
  obtain ⟨g28, h⟩ := h
  obtain ⟨g29, h⟩ := h
  refine x_iald C g28 g29 dX12_accept_41 ?_
  refine x_topi (fun x30 e31 => ?_)
  have h := h x30 e31
  obtain ⟨b32, g33, h⟩ := h
  refine x_nn2 g33 ?_
  obtain ⟨g34, h⟩ := h
  obtain ⟨g35, h⟩ := h
  refine x_iast C g34 g35 dX12_accept_42 ?_
  refine x_aload_n C dX12_accept_43 rfl (lv_at hl 0 rfl) ?_
  refine x_getP C fl_RX12_203 g1 dX12_accept_44 ?_
  refine x_iload_n C dX12_accept_47 rfl (lv_at hl 1 rfl) ?_
  refine x_aload_n C dX12_accept_48 rfl (lv_at hl 0 rfl) ?_
  refine x_getP C fl_RX12_212 g1 dX12_accept_49 ?_
  refine x_iload_n C dX12_accept_52 rfl (lv_at hl 2 rfl) ?_
  obtain ⟨b36, g37, h⟩ := h
  refine x_nn1 g37 ?_
  obtain ⟨g38, h⟩ := h
  obtain ⟨g39, h⟩ := h
  refine x_iald C g38 g39 dX12_accept_53 ?_
  refine x_topi (fun x40 e41 => ?_)
  have h := h x40 e41
  obtain ⟨b42, g43, h⟩ := h
  refine x_nn2 g43 ?_
  obtain ⟨g44, h⟩ := h
  obtain ⟨g45, h⟩ := h
  refine x_iast C g44 g45 dX12_accept_54 ?_
  refine x_aload_n C dX12_accept_55 rfl (lv_at hl 0 rfl) ?_
  refine x_getI C fl_RX12_449 g1 dX12_accept_56 ?_
  refine x_topi (fun x46 e47 => ?_)
  have h := h x46 e47
  refine x_sipush (v := 200) C dX12_accept_59 (by decide) ?_
  refine x_irem C dX12_accept_62 (by decide) ?_
  refine x_topi (fun x49 e50 => ?_)
  have h := h x49 e50
  refine x_istore_n (i := 3) (lv' := [(3, .int x49), (0, .ref a0), (1, .int p1), (2, .int p2)]) C dX12_accept_63 rfl hl (by decide) (by first | rfl | simp [vrc, cat_i, cat_r, cat_l]) (fun ls hl => ?_)
  refine x_aload_n C dX12_accept_64 rfl (lv_at hl 1 rfl) ?_
  refine x_dup C dX12_accept_65 (rfl) ?_
  refine x_getI C fl_RX12_449 g1 dX12_accept_66 ?_
  refine x_topi (fun x51 e52 => ?_)
  have h := h x51 e52
  refine x_iconst (v := 1) C dX12_accept_69 (by decide) ?_
  refine x_iadd C dX12_accept_70 ?_
  refine x_topi (fun x53 e54 => ?_)
  have h := h x53 e54
  refine x_putI C fl_RX12_449 (Or.inl rfl) g1 dX12_accept_71 ?_
  refine x_aload_n C dX12_accept_74 rfl (lv_at hl 1 rfl) ?_
  refine x_getP C fl_RX12_224 g1 dX12_accept_75 ?_
  refine x_iload_n C dX12_accept_78 rfl (lv_at hl 0 rfl) ?_
  refine x_iload_n C dX12_accept_79 rfl (lv_at hl 2 rfl) ?_
  obtain ⟨b55, g56, h⟩ := h
  refine x_nn2 g56 ?_
  obtain ⟨g57, h⟩ := h
  obtain ⟨g58, h⟩ := h
  refine x_iast C g57 g58 dX12_accept_80 ?_
  refine x_aload_n C dX12_accept_81 rfl (lv_at hl 1 rfl) ?_
  refine x_getP C fl_RX12_227 g1 dX12_accept_82 ?_
  refine x_iload_n C dX12_accept_85 rfl (lv_at hl 0 rfl) ?_
  refine x_aload_n C dX12_accept_86 rfl (lv_at hl 1 rfl) ?_
  refine x_getP C fl_RX12_176 g1 dX12_accept_87 ?_
  refine x_iload_n C dX12_accept_90 rfl (lv_at hl 2 rfl) ?_
  obtain ⟨b59, g60, h⟩ := h
  refine x_nn1 g60 ?_
  obtain ⟨g61, h⟩ := h
  obtain ⟨g62, h⟩ := h
  refine x_iald C g61 g62 dX12_accept_91 ?_
  refine x_topi (fun x63 e64 => ?_)
  have h := h x63 e64
  obtain ⟨b65, g66, h⟩ := h
  refine x_nn2 g66 ?_
  obtain ⟨g67, h⟩ := h
  obtain ⟨g68, h⟩ := h
  refine x_iast C g67 g68 dX12_accept_92 ?_
  refine x_aload_n C dX12_accept_93 rfl (lv_at hl 1 rfl) ?_
  refine x_getP C fl_RX12_230 g1 dX12_accept_94 ?_
  refine x_iload_n C dX12_accept_97 rfl (lv_at hl 0 rfl) ?_
  refine x_aload_n C dX12_accept_98 rfl (lv_at hl 1 rfl) ?_
  refine x_getP C fl_RX12_197 g1 dX12_accept_99 ?_
  refine x_iload_n C dX12_accept_102 rfl (lv_at hl 2 rfl) ?_
  refine x_nn1 g23 ?_
  obtain ⟨g69, h⟩ := h
  refine x_iald C g24 g69 dX12_accept_103 ?_
  refine x_topi (fun x70 e71 => ?_)
  have h := h x70 e71
  obtain ⟨b72, g73, h⟩ := h
  refine x_nn2 g73 ?_
  obtain ⟨g74, h⟩ := h
  obtain ⟨g75, h⟩ := h
  refine x_iast C g74 g75 dX12_accept_104 ?_
  refine x_aload_n C dX12_accept_105 rfl (lv_at hl 1 rfl) ?_
  refine x_getP C fl_RX12_233 g1 dX12_accept_106 ?_
  refine x_iload_n C dX12_accept_109 rfl (lv_at hl 0 rfl) ?_
  refine x_aload_n C dX12_accept_110 rfl (lv_at hl 1 rfl) ?_
  refine x_getP C fl_RX12_200 g1 dX12_accept_111 ?_
  refine x_iload_n C dX12_accept_114 rfl (lv_at hl 2 rfl) ?_
  refine x_nn1 g33 ?_
  obtain ⟨g76, h⟩ := h
  refine x_iald C g34 g76 dX12_accept_115 ?_
  refine x_topi (fun x77 e78 => ?_)
  have h := h x77 e78
  obtain ⟨b79, g80, h⟩ := h
  refine x_nn2 g80 ?_
  obtain ⟨g81, h⟩ := h
  obtain ⟨g82, h⟩ := h
  refine x_iast C g81 g82 dX12_accept_116 ?_
  refine x_aload_n C dX12_accept_117 rfl (lv_at hl 1 rfl) ?_
  refine x_getP C fl_RX12_236 g1 dX12_accept_118 ?_
  refine x_iload_n C dX12_accept_121 rfl (lv_at hl 0 rfl) ?_
  refine x_aload_n C dX12_accept_122 rfl (lv_at hl 1 rfl) ?_
  refine x_getP C fl_RX12_203 g1 dX12_accept_123 ?_
  refine x_iload_n C dX12_accept_126 rfl (lv_at hl 2 rfl) ?_
  refine x_nn1 g43 ?_
  obtain ⟨g83, h⟩ := h
  refine x_iald C g44 g83 dX12_accept_127 ?_
  refine x_topi (fun x84 e85 => ?_)
  have h := h x84 e85
  obtain ⟨b86, g87, h⟩ := h
  refine x_nn2 g87 ?_
  obtain ⟨g88, h⟩ := h
  obtain ⟨g89, h⟩ := h
  refine x_iast C g88 g89 dX12_accept_128 ?_
  refine x_aload_n C dX12_accept_129 rfl (lv_at hl 1 rfl) ?_
  refine x_getP C fl_RX12_239 g1 dX12_accept_130 ?_
  refine x_iload_n C dX12_accept_133 rfl (lv_at hl 0 rfl) ?_
  refine x_aload_n C dX12_accept_134 rfl (lv_at hl 1 rfl) ?_
  refine x_getP C fl_RX12_194 g1 dX12_accept_135 ?_
  refine x_iload_n C dX12_accept_138 rfl (lv_at hl 2 rfl) ?_
  refine x_nn1 g13 ?_
  obtain ⟨g90, h⟩ := h
  refine x_iald C g14 g90 dX12_accept_139 ?_
  refine x_topi (fun x91 e92 => ?_)
  have h := h x91 e92
  obtain ⟨b93, g94, h⟩ := h
  refine x_nn2 g94 ?_
  obtain ⟨g95, h⟩ := h
  obtain ⟨g96, h⟩ := h
  refine x_iast C g95 g96 dX12_accept_140 ?_
  exact x_vret C hr dX12_accept_141 ⟨rfl, h⟩
theorem dX12_clientGets_0 : decode cX12_clientGets 0 = .ok (.aload_n 0, 1) := by decide +kernel
theorem dX12_clientGets_1 : decode cX12_clientGets 1 = .ok (.getfield 179, 3) := by decide +kernel
theorem dX12_clientGets_4 : decode cX12_clientGets 4 = .ok (.iload_n 1, 1) := by decide +kernel
theorem dX12_clientGets_5 : decode cX12_clientGets 5 = .ok (.baload, 1) := by decide +kernel
theorem dX12_clientGets_6 : decode cX12_clientGets 6 = .ok (.ifCond .eq 19, 3) := by decide +kernel
theorem dX12_clientGets_9 : decode cX12_clientGets 9 = .ok (.aload_n 0, 1) := by decide +kernel
theorem dX12_clientGets_10 : decode cX12_clientGets 10 = .ok (.getfield 30, 3) := by decide +kernel
theorem dX12_clientGets_13 : decode cX12_clientGets 13 = .ok (.bipush 6, 2) := by decide +kernel
theorem dX12_clientGets_15 : decode cX12_clientGets 15 = .ok (.iaload, 1) := by decide +kernel
theorem dX12_clientGets_16 : decode cX12_clientGets 16 = .ok (.aload_n 0, 1) := by decide +kernel
theorem dX12_clientGets_17 : decode cX12_clientGets 17 = .ok (.getfield 176, 3) := by decide +kernel
theorem dX12_clientGets_20 : decode cX12_clientGets 20 = .ok (.iload_n 1, 1) := by decide +kernel
theorem dX12_clientGets_21 : decode cX12_clientGets 21 = .ok (.iaload, 1) := by decide +kernel
theorem dX12_clientGets_22 : decode cX12_clientGets 22 = .ok (.if_icmp .eq 4, 3) := by decide +kernel
theorem dX12_clientGets_25 : decode cX12_clientGets 25 = .ok (.return_, 1) := by decide +kernel
theorem dX12_clientGets_26 : decode cX12_clientGets 26 = .ok (.aload_n 0, 1) := by decide +kernel
theorem dX12_clientGets_27 : decode cX12_clientGets 27 = .ok (.iload_n 1, 1) := by decide +kernel
theorem dX12_clientGets_28 : decode cX12_clientGets 28 = .ok (.aload_n 0, 1) := by decide +kernel
theorem dX12_clientGets_29 : decode cX12_clientGets 29 = .ok (.getfield 30, 3) := by decide +kernel
theorem dX12_clientGets_32 : decode cX12_clientGets 32 = .ok (.iconst 3, 1) := by decide +kernel
theorem dX12_clientGets_33 : decode cX12_clientGets 33 = .ok (.iaload, 1) := by decide +kernel
theorem dX12_clientGets_34 : decode cX12_clientGets 34 = .ok (.aload_n 0, 1) := by decide +kernel
theorem dX12_clientGets_35 : decode cX12_clientGets 35 = .ok (.getfield 30, 3) := by decide +kernel
theorem dX12_clientGets_38 : decode cX12_clientGets 38 = .ok (.iconst 4, 1) := by decide +kernel
theorem dX12_clientGets_39 : decode cX12_clientGets 39 = .ok (.iaload, 1) := by decide +kernel
theorem dX12_clientGets_40 : decode cX12_clientGets 40 = .ok (.aload_n 0, 1) := by decide +kernel
theorem dX12_clientGets_41 : decode cX12_clientGets 41 = .ok (.getfield 30, 3) := by decide +kernel
theorem dX12_clientGets_44 : decode cX12_clientGets 44 = .ok (.iconst 5, 1) := by decide +kernel
theorem dX12_clientGets_45 : decode cX12_clientGets 45 = .ok (.iaload, 1) := by decide +kernel
theorem dX12_clientGets_46 : decode cX12_clientGets 46 = .ok (.invokevirtual 442, 3) := by decide +kernel
theorem dX12_clientGets_49 : decode cX12_clientGets 49 = .ok (.istore_n 2, 1) := by decide +kernel
theorem dX12_clientGets_50 : decode cX12_clientGets 50 = .ok (.aload_n 0, 1) := by decide +kernel
theorem dX12_clientGets_51 : decode cX12_clientGets 51 = .ok (.getfield 30, 3) := by decide +kernel
theorem dX12_clientGets_54 : decode cX12_clientGets 54 = .ok (.iconst 3, 1) := by decide +kernel
theorem dX12_clientGets_55 : decode cX12_clientGets 55 = .ok (.iaload, 1) := by decide +kernel
theorem dX12_clientGets_56 : decode cX12_clientGets 56 = .ok (.aload_n 0, 1) := by decide +kernel
theorem dX12_clientGets_57 : decode cX12_clientGets 57 = .ok (.getfield 258, 3) := by decide +kernel
theorem dX12_clientGets_60 : decode cX12_clientGets 60 = .ok (.irem, 1) := by decide +kernel
theorem dX12_clientGets_61 : decode cX12_clientGets 61 = .ok (.istore_n 3, 1) := by decide +kernel
theorem dX12_clientGets_62 : decode cX12_clientGets 62 = .ok (.aload_n 0, 1) := by decide +kernel
theorem dX12_clientGets_63 : decode cX12_clientGets 63 = .ok (.getfield 218, 3) := by decide +kernel
theorem dX12_clientGets_66 : decode cX12_clientGets 66 = .ok (.iload_n 2, 1) := by decide +kernel
theorem dX12_clientGets_67 : decode cX12_clientGets 67 = .ok (.dup2, 1) := by decide +kernel
theorem dX12_clientGets_68 : decode cX12_clientGets 68 = .ok (.iaload, 1) := by decide +kernel
theorem dX12_clientGets_69 : decode cX12_clientGets 69 = .ok (.iconst 1, 1) := by decide +kernel
theorem dX12_clientGets_70 : decode cX12_clientGets 70 = .ok (.aload_n 0, 1) := by decide +kernel
theorem dX12_clientGets_71 : decode cX12_clientGets 71 = .ok (.getfield 30, 3) := by decide +kernel
theorem dX12_clientGets_74 : decode cX12_clientGets 74 = .ok (.iconst 1, 1) := by decide +kernel
theorem dX12_clientGets_75 : decode cX12_clientGets 75 = .ok (.iaload, 1) := by decide +kernel
theorem dX12_clientGets_76 : decode cX12_clientGets 76 = .ok (.ishl, 1) := by decide +kernel
theorem dX12_clientGets_77 : decode cX12_clientGets 77 = .ok (.ior, 1) := by decide +kernel
theorem dX12_clientGets_78 : decode cX12_clientGets 78 = .ok (.iastore, 1) := by decide +kernel
theorem dX12_clientGets_79 : decode cX12_clientGets 79 = .ok (.aload_n 0, 1) := by decide +kernel
theorem dX12_clientGets_80 : decode cX12_clientGets 80 = .ok (.getfield 30, 3) := by decide +kernel
theorem dX12_clientGets_83 : decode cX12_clientGets 83 = .ok (.iconst 1, 1) := by decide +kernel
theorem dX12_clientGets_84 : decode cX12_clientGets 84 = .ok (.iaload, 1) := by decide +kernel
theorem dX12_clientGets_85 : decode cX12_clientGets 85 = .ok (.iload_n 3, 1) := by decide +kernel
theorem dX12_clientGets_86 : decode cX12_clientGets 86 = .ok (.if_icmp .ne 27, 3) := by decide +kernel
theorem dX12_clientGets_89 : decode cX12_clientGets 89 = .ok (.aload_n 0, 1) := by decide +kernel
theorem dX12_clientGets_90 : decode cX12_clientGets 90 = .ok (.getfield 30, 3) := by decide +kernel
theorem dX12_clientGets_93 : decode cX12_clientGets 93 = .ok (.bipush 7, 2) := by decide +kernel
theorem dX12_clientGets_95 : decode cX12_clientGets 95 = .ok (.iaload, 1) := by decide +kernel
theorem dX12_clientGets_96 : decode cX12_clientGets 96 = .ok (.iconst 1, 1) := by decide +kernel
theorem dX12_clientGets_97 : decode cX12_clientGets 97 = .ok (.if_icmp .ne 16, 3) := by decide +kernel
theorem dX12_clientGets_100 : decode cX12_clientGets 100 = .ok (.aload_n 0, 1) := by decide +kernel
theorem dX12_clientGets_101 : decode cX12_clientGets 101 = .ok (.getfield 221, 3) := by decide +kernel
theorem dX12_clientGets_104 : decode cX12_clientGets 104 = .ok (.iload_n 2, 1) := by decide +kernel
theorem dX12_clientGets_105 : decode cX12_clientGets 105 = .ok (.aload_n 0, 1) := by decide +kernel
theorem dX12_clientGets_106 : decode cX12_clientGets 106 = .ok (.getfield 30, 3) := by decide +kernel
theorem dX12_clientGets_109 : decode cX12_clientGets 109 = .ok (.bipush 8, 2) := by decide +kernel
theorem dX12_clientGets_111 : decode cX12_clientGets 111 = .ok (.iaload, 1) := by decide +kernel
theorem dX12_clientGets_112 : decode cX12_clientGets 112 = .ok (.iastore, 1) := by decide +kernel
theorem dX12_clientGets_113 : decode cX12_clientGets 113 = .ok (.aload_n 0, 1) := by decide +kernel
theorem dX12_clientGets_114 : decode cX12_clientGets 114 = .ok (.getfield 218, 3) := by decide +kernel
theorem dX12_clientGets_117 : decode cX12_clientGets 117 = .ok (.iload_n 2, 1) := by decide +kernel
theorem dX12_clientGets_118 : decode cX12_clientGets 118 = .ok (.iaload, 1) := by decide +kernel
theorem dX12_clientGets_119 : decode cX12_clientGets 119 = .ok (.invokestatic 381, 3) := by decide +kernel
theorem dX12_clientGets_122 : decode cX12_clientGets 122 = .ok (.aload_n 0, 1) := by decide +kernel
theorem dX12_clientGets_123 : decode cX12_clientGets 123 = .ok (.getfield 261, 3) := by decide +kernel
theorem dX12_clientGets_126 : decode cX12_clientGets 126 = .ok (.if_icmp .le 23, 3) := by decide +kernel
theorem dX12_clientGets_129 : decode cX12_clientGets 129 = .ok (.aload_n 0, 1) := by decide +kernel
theorem dX12_clientGets_130 : decode cX12_clientGets 130 = .ok (.getfield 218, 3) := by decide +kernel
theorem dX12_clientGets_133 : decode cX12_clientGets 133 = .ok (.iload_n 2, 1) := by decide +kernel
theorem dX12_clientGets_134 : decode cX12_clientGets 134 = .ok (.iaload, 1) := by decide +kernel
theorem dX12_clientGets_135 : decode cX12_clientGets 135 = .ok (.iload_n 3, 1) := by decide +kernel
theorem dX12_clientGets_136 : decode cX12_clientGets 136 = .ok (.ishr, 1) := by decide +kernel
theorem dX12_clientGets_137 : decode cX12_clientGets 137 = .ok (.iconst 1, 1) := by decide +kernel
theorem dX12_clientGets_138 : decode cX12_clientGets 138 = .ok (.iand, 1) := by decide +kernel
theorem dX12_clientGets_139 : decode cX12_clientGets 139 = .ok (.iconst 1, 1) := by decide +kernel
theorem dX12_clientGets_140 : decode cX12_clientGets 140 = .ok (.if_icmp .ne 9, 3) := by decide +kernel
theorem dX12_clientGets_143 : decode cX12_clientGets 143 = .ok (.aload_n 0, 1) := by decide +kernel
theorem dX12_clientGets_144 : decode cX12_clientGets 144 = .ok (.iload_n 1, 1) := by decide +kernel
theorem dX12_clientGets_145 : decode cX12_clientGets 145 = .ok (.iload_n 2, 1) := by decide +kernel
theorem dX12_clientGets_146 : decode cX12_clientGets 146 = .ok (.invokevirtual 446, 3) := by decide +kernel
theorem dX12_clientGets_149 : decode cX12_clientGets 149 = .ok (.return_, 1) := by decide +kernel
abbrev rm_X12_clientGets : Room := { frames := 1, cells := 0, slots := 0, locals := 25 }
def b_X12_clientGets_113 (a0 : Nat)  (Q : Sto → Prop) (p1 : Int32) (p2 : Int32) (p3 : Int32) (σ : Sto) : Prop := (sK σ a0 = 12 ∧ (∃ b2 : Nat, sP σ a0 79 = some b2 ∧ (sK σ b2 = 14 ∧ (vp_in p2 (sN σ b2) ∧ (∀ x6 : Int32, x6 = sI σ b2 p2.toNatClampNeg → (wp_X12_bits x6 σ (fun (x9 : Int32) (σ8 : Sto) => (sK σ8 a0 = 12 ∧ (∀ x11 : Int32, x11 = sI σ8 a0 2 → ((x9 ≤ x11 → Q σ8) ∧ (¬ x9 ≤ x11 → (∃ b14 : Nat, sP σ8 a0 79 = some b14 ∧ (sK σ8 b14 = 14 ∧ (vp_in p2 (sN σ8 b14) ∧ (∀ x18 : Int32, x18 = sI σ8 b14 p2.toNatClampNeg → ((¬ ((x18 >>> (p3 &&& 31)) &&& (1 : Int32)) = (1 : Int32) → Q σ8) ∧ (((x18 >>> (p3 &&& 31)) &&& (1 : Int32)) = (1 : Int32) → (wp_X12_accept a0 p1 p2 σ8 (fun (σ21 : Sto) => Q σ21)))))))))))))))))))
set_option maxHeartbeats 4000000 in
set_option maxRecDepth 100000 in
theorem t_X12_clientGets_113 {p : Program} {l : Launch} {e : Env} {s : State} {m : MethodId} {args : Array Value} {below : List Frame} {meth : Method} {c : Code} {D : va_G} {cy : Nat → ClassId} {A : Nat → Prop} {a0 : Nat} {Q : Sto → Prop} (C : Cx p s m args meth c D cy A cX12_clientGets 4 RX12) (hr : meth.sig.returnType = none) (hnm : meth.name = yX12_clientGets.name) (p1 : Int32) (p2 : Int32) (p3 : Int32) (σ : Sto) (h : b_X12_clientGets_113 a0  Q p1 p2 p3 σ) (ls : Array Slot) (hl : lv_has ls 4 [(0, .ref a0), (1, .int p1), (2, .int p2), (3, .int p3)]) : Xw p l e rm_X12_clientGets s m args below meth c D cy A σ 0 0 (MQ below (Qst D cy A (PsV Q)) args s rm_X12_clientGets.cells rm_X12_clientGets.slots A) (F0 m 113 ls []) := by
  unfold b_X12_clientGets_113 at h
  refine x_aload_n C dX12_clientGets_113 rfl (lv_at hl 0 rfl) ?_
  obtain ⟨g1, h⟩ := h
  refine x_getP C fl_RX12_218 g1 dX12_clientGets_114 ?_
  refine x_iload_n C dX12_clientGets_117 rfl (lv_at hl 2 rfl) ?_
  obtain ⟨b2, g3, h⟩ := h
  refine x_nn1 g3 ?_
  obtain ⟨g4, h⟩ := h
  obtain ⟨g5, h⟩ := h
  refine x_iald C g4 g5 dX12_clientGets_118 ?_
  refine x_topi (fun x6 e7 => ?_)
  have h := h x6 e7
  refine x_callS (rm := rm_X12_bits) (rest := []) (As := [.int x6]) C cs_RX12_381 (by decide) (by decide) rfl rfl (Nat.le_of_ble_eq_true rfl) hl.1 dX12_clientGets_119 (c_X12_bits l D cy x6 σ _ h) (ks_i (fun x9 σ8 h => ?_))
  refine x_aload_n C dX12_clientGets_122 rfl (lv_at hl 0 rfl) ?_
  obtain ⟨g10, h⟩ := h
  refine x_getI C fl_RX12_261 g10 dX12_clientGets_123 ?_
  refine x_topi (fun x11 e12 => ?_)
  have h := h x11 e12
  refine x_icmp_le (tgt := 149) C dX12_clientGets_126 (by decide) (fun c13 => ?_) (fun c13 => ?_)
  · have h := h.1 c13
    exact x_vret C hr dX12_clientGets_149 ⟨rfl, h⟩
  · have h := h.2 c13
    refine x_aload_n C dX12_clientGets_129 rfl (lv_at hl 0 rfl) ?_
    refine x_getP C fl_RX12_218 g10 dX12_clientGets_130 ?_
    refine x_iload_n C dX12_clientGets_133 rfl (lv_at hl 2 rfl) ?_
    obtain ⟨b14, g15, h⟩ := h
    refine x_nn1 g15 ?_
    obtain ⟨g16, h⟩ := h
    obtain ⟨g17, h⟩ := h
    refine x_iald C g16 g17 dX12_clientGets_134 ?_
    refine x_topi (fun x18 e19 => ?_)
    have h := h x18 e19
    refine x_iload_n C dX12_clientGets_135 rfl (lv_at hl 3 rfl) ?_
    refine x_ishr C dX12_clientGets_136 ?_
    refine x_iconst (v := 1) C dX12_clientGets_137 (by decide) ?_
    refine x_iand C dX12_clientGets_138 ?_
    refine x_iconst (v := 1) C dX12_clientGets_139 (by decide) ?_
    refine x_icmp_ne (tgt := 149) C dX12_clientGets_140 (by decide) (fun c20 => ?_) (fun c20 => ?_)
    · have h := h.1 c20
      exact x_vret C hr dX12_clientGets_149 ⟨rfl, h⟩
    · have h := h.2 c20
      refine x_aload_n C dX12_clientGets_143 rfl (lv_at hl 0 rfl) ?_
      refine x_iload_n C dX12_clientGets_144 rfl (lv_at hl 1 rfl) ?_
      refine x_iload_n C dX12_clientGets_145 rfl (lv_at hl 2 rfl) ?_
      refine x_callV (rm := rm_X12_accept) (rest := []) (As := [.int p1, .int p2]) C cy_RX12_446 g10 (by decide) (by decide) rfl rfl (Nat.le_of_ble_eq_true rfl) hl.1 dX12_clientGets_146 (c_X12_accept l D cy a0 p1 p2 σ8 _ h) (ks_v (fun σ21 h => ?_))
      exact x_vret C hr dX12_clientGets_149 ⟨rfl, h⟩
def wp_X12_clientGets (a0 : Nat) (p1 : Int32) (σ : Sto) (Q : Sto → Prop) : Prop := (sK σ a0 = 12 ∧ (∃ b2 : Nat, sP σ a0 66 = some b2 ∧ (sK σ b2 = 16 ∧ (vp_in p1 (sN σ b2) ∧ (∀ x6 : Int32, x6 = sI σ b2 p1.toNatClampNeg → ((x6 = 0 → Q σ) ∧ (¬ x6 = 0 → (∃ b9 : Nat, sP σ a0 15 = some b9 ∧ (sK σ b9 = 14 ∧ (vp_in (6 : Int32) (sN σ b9) ∧ (∀ x13 : Int32, x13 = sI σ b9 (6 : Int32).toNatClampNeg → (∃ b15 : Nat, sP σ a0 65 = some b15 ∧ (sK σ b15 = 14 ∧ (vp_in p1 (sN σ b15) ∧ (∀ x19 : Int32, x19 = sI σ b15 p1.toNatClampNeg → ((x13 = x19 → (vp_in (3 : Int32) (sN σ b9) ∧ (∀ x23 : Int32, x23 = sI σ b9 (3 : Int32).toNatClampNeg → (vp_in (4 : Int32) (sN σ b9) ∧ (∀ x26 : Int32, x26 = sI σ b9 (4 : Int32).toNatClampNeg → (vp_in (5 : Int32) (sN σ b9) ∧ (∀ x29 : Int32, x29 = sI σ b9 (5 : Int32).toNatClampNeg → (wp_X12_placeOf a0 p1 x23 x26 x29 σ (fun (x32 : Int32) (σ31 : Sto) => (sK σ31 a0 = 12 ∧ (∃ b34 : Nat, sP σ31 a0 15 = some b34 ∧ (sK σ31 b34 = 14 ∧ (vp_in (3 : Int32) (sN σ31 b34) ∧ (∀ x38 : Int32, x38 = sI σ31 b34 (3 : Int32).toNatClampNeg → (∀ x40 : Int32, x40 = sI σ31 a0 1 → (¬ x40 = 0 ∧ (∀ x43 : Int32, x43 = x38 - x38 / x40 * x40 → (∃ b45 : Nat, sP σ31 a0 79 = some b45 ∧ (sK σ31 b45 = 14 ∧ (vp_in x32 (sN σ31 b45) ∧ (∀ x49 : Int32, x49 = sI σ31 b45 x32.toNatClampNeg → (vp_in (1 : Int32) (sN σ31 b34) ∧ (∀ x52 : Int32, x52 = sI σ31 b34 (1 : Int32).toNatClampNeg → (∀ x54 : Int32, x54 = x49 ||| ((1 : Int32) <<< (x52 &&& 31)) → (vp_in x32 (sN σ31 b45) ∧ (vp_in (1 : Int32) (sN σ31 b34) ∧ (∀ x58 : Int32, x58 = sI (stI σ31 b45 x32.toNatClampNeg x54) b34 (1 : Int32).toNatClampNeg → ((¬ x58 = x43 → b_X12_clientGets_113 a0  Q p1 x32 x43 (stI σ31 b45 x32.toNatClampNeg x54)) ∧ (x58 = x43 → (vp_in (7 : Int32) (sN σ31 b34) ∧ (∀ x62 : Int32, x62 = sI (stI σ31 b45 x32.toNatClampNeg x54) b34 (7 : Int32).toNatClampNeg → ((¬ x62 = (1 : Int32) → b_X12_clientGets_113 a0  Q p1 x32 x43 (stI σ31 b45 x32.toNatClampNeg x54)) ∧ (x62 = (1 : Int32) → (vp_in (8 : Int32) (sN σ31 b34) ∧ (∀ x66 : Int32, x66 = sI (stI σ31 b45 x32.toNatClampNeg x54) b34 (8 : Int32).toNatClampNeg → (∃ b68 : Nat, sP σ31 a0 80 = some b68 ∧ (sK σ31 b68 = 14 ∧ (vp_in x32 (sN σ31 b68) ∧ b_X12_clientGets_113 a0  Q p1 x32 x43 (stI (stI σ31 b45 x32.toNatClampNeg x54) b68 x32.toNatClampNeg x66))))))))))))))))))))))))))))))))))))))) ∧ (¬ x13 = x19 → Q σ)))))))))))))))))
set_option maxHeartbeats 4000000 in
set_option maxRecDepth 100000 in
theorem c_X12_clientGets (l : Launch) (D : va_G) (cy : Nat → ClassId) (a0 : Nat) (p1 : Int32) (σ : Sto) (Q : Sto → Prop) (h : wp_X12_clientGets a0 p1 σ Q) : Mt l D cy yX12_clientGets cX12_clientGets 4 none rm_X12_clientGets [.ref a0, .int p1] σ (PsV Q) := by
  unfold wp_X12_clientGets at h
  refine mt_of (by decide +kernel) (Nat.le_of_ble_eq_true rfl) ?_
  intro p e s m args below meth c A ls C hr hnm hl
  have C : Cx p s m args meth c D cy A cX12_clientGets 4 RX12 := C
  have hl : lv_has ls 4 [(0, .ref a0), (1, .int p1)] := hl
  refine x_aload_n C dX12_clientGets_0 rfl (lv_at hl 0 rfl) ?_
  obtain ⟨g1, h⟩ := h
  refine x_getP C fl_RX12_179 g1 dX12_clientGets_1 ?_
  refine x_iload_n C dX12_clientGets_4 rfl (lv_at hl 1 rfl) ?_
  obtain ⟨b2, g3, h⟩ := h
  refine x_nn1 g3 ?_
  obtain ⟨g4, h⟩ := h
  obtain ⟨g5, h⟩ := h
  refine x_zald C g4 g5 dX12_clientGets_5 ?_
  refine x_topi (fun x6 e7 => ?_)
  have h := h x6 e7
  refine x_if_eq (tgt := 25) C dX12_clientGets_6 (by decide) (fun c8 => ?_) (fun c8 => ?_)
  · have h := h.1 c8
    exact x_vret C hr dX12_clientGets_25 ⟨rfl, h⟩
  · have h := h.2 c8
    refine x_aload_n C dX12_clientGets_9 rfl (lv_at hl 0 rfl) ?_
    refine x_getP C fl_RX12_30 g1 dX12_clientGets_10 ?_
    refine x_bipush (v := 6) C dX12_clientGets_13 (by decide) ?_
    obtain ⟨b9, g10, h⟩ := h
    refine x_nn1 g10 ?_
    obtain ⟨g11, h⟩ := h
    obtain ⟨g12, h⟩ := h
    refine x_iald C g11 g12 dX12_clientGets_15 ?_
    refine x_topi (fun x13 e14 => ?_)
    have h := h x13 e14
    refine x_aload_n C dX12_clientGets_16 rfl (lv_at hl 0 rfl) ?_
    refine x_getP C fl_RX12_176 g1 dX12_clientGets_17 ?_
    refine x_iload_n C dX12_clientGets_20 rfl (lv_at hl 1 rfl) ?_
    obtain ⟨b15, g16, h⟩ := h
    refine x_nn1 g16 ?_
    obtain ⟨g17, h⟩ := h
    obtain ⟨g18, h⟩ := h
    refine x_iald C g17 g18 dX12_clientGets_21 ?_
    refine x_topi (fun x19 e20 => ?_)
    have h := h x19 e20
    refine x_icmp_eq (tgt := 26) C dX12_clientGets_22 (by decide) (fun c21 => ?_) (fun c21 => ?_)
    · have h := h.1 c21
      refine x_aload_n C dX12_clientGets_26 rfl (lv_at hl 0 rfl) ?_
      refine x_iload_n C dX12_clientGets_27 rfl (lv_at hl 1 rfl) ?_
      refine x_aload_n C dX12_clientGets_28 rfl (lv_at hl 0 rfl) ?_
      refine x_getP C fl_RX12_30 g1 dX12_clientGets_29 ?_
      refine x_iconst (v := 3) C dX12_clientGets_32 (by decide) ?_
      refine x_nn1 g10 ?_
      obtain ⟨g22, h⟩ := h
      refine x_iald C g11 g22 dX12_clientGets_33 ?_
      refine x_topi (fun x23 e24 => ?_)
      have h := h x23 e24
      refine x_aload_n C dX12_clientGets_34 rfl (lv_at hl 0 rfl) ?_
      refine x_getP C fl_RX12_30 g1 dX12_clientGets_35 ?_
      refine x_iconst (v := 4) C dX12_clientGets_38 (by decide) ?_
      refine x_nn1 g10 ?_
      obtain ⟨g25, h⟩ := h
      refine x_iald C g11 g25 dX12_clientGets_39 ?_
      refine x_topi (fun x26 e27 => ?_)
      have h := h x26 e27
      refine x_aload_n C dX12_clientGets_40 rfl (lv_at hl 0 rfl) ?_
      refine x_getP C fl_RX12_30 g1 dX12_clientGets_41 ?_
      refine x_iconst (v := 5) C dX12_clientGets_44 (by decide) ?_
      refine x_nn1 g10 ?_
      obtain ⟨g28, h⟩ := h
      refine x_iald C g11 g28 dX12_clientGets_45 ?_
      refine x_topi (fun x29 e30 => ?_)
      have h := h x29 e30
      refine x_callV (rm := rm_X12_placeOf) (rest := []) (As := [.int p1, .int x23, .int x26, .int x29]) C cy_RX12_442 g1 (by decide) (by decide) rfl rfl (Nat.le_of_ble_eq_true rfl) hl.1 dX12_clientGets_46 (c_X12_placeOf l D cy a0 p1 x23 x26 x29 σ _ h) (ks_i (fun x32 σ31 h => ?_))
      refine x_istore_n (i := 2) (lv' := [(2, .int x32), (0, .ref a0), (1, .int p1)]) C dX12_clientGets_49 rfl hl (by decide) (by first | rfl | simp [vrc, cat_i, cat_r, cat_l]) (fun ls hl => ?_)
      refine x_aload_n C dX12_clientGets_50 rfl (lv_at hl 1 rfl) ?_
      obtain ⟨g33, h⟩ := h
      refine x_getP C fl_RX12_30 g33 dX12_clientGets_51 ?_
      refine x_iconst (v := 3) C dX12_clientGets_54 (by decide) ?_
      obtain ⟨b34, g35, h⟩ := h
      refine x_nn1 g35 ?_
      obtain ⟨g36, h⟩ := h
      obtain ⟨g37, h⟩ := h
      refine x_iald C g36 g37 dX12_clientGets_55 ?_
      refine x_topi (fun x38 e39 => ?_)
      have h := h x38 e39
      refine x_aload_n C dX12_clientGets_56 rfl (lv_at hl 1 rfl) ?_
      refine x_getI C fl_RX12_258 g33 dX12_clientGets_57 ?_
      refine x_topi (fun x40 e41 => ?_)
      have h := h x40 e41
      obtain ⟨g42, h⟩ := h
      refine x_irem C dX12_clientGets_60 g42 ?_
      refine x_topi (fun x43 e44 => ?_)
      have h := h x43 e44
      refine x_istore_n (i := 3) (lv' := [(3, .int x43), (2, .int x32), (0, .ref a0), (1, .int p1)]) C dX12_clientGets_61 rfl hl (by decide) (by first | rfl | simp [vrc, cat_i, cat_r, cat_l]) (fun ls hl => ?_)
      refine x_aload_n C dX12_clientGets_62 rfl (lv_at hl 2 rfl) ?_
      refine x_getP C fl_RX12_218 g33 dX12_clientGets_63 ?_
      refine x_iload_n C dX12_clientGets_66 rfl (lv_at hl 1 rfl) ?_
      refine x_dup2 C dX12_clientGets_67 (rfl) (vrc _) ?_
      obtain ⟨b45, g46, h⟩ := h
      refine x_nn1 g46 ?_
      obtain ⟨g47, h⟩ := h
      obtain ⟨g48, h⟩ := h
      refine x_iald C g47 g48 dX12_clientGets_68 ?_
      refine x_topi (fun x49 e50 => ?_)
      have h := h x49 e50
      refine x_iconst (v := 1) C dX12_clientGets_69 (by decide) ?_
      refine x_aload_n C dX12_clientGets_70 rfl (lv_at hl 2 rfl) ?_
      refine x_getP C fl_RX12_30 g33 dX12_clientGets_71 ?_
      refine x_iconst (v := 1) C dX12_clientGets_74 (by decide) ?_
      refine x_nn1 g35 ?_
      obtain ⟨g51, h⟩ := h
      refine x_iald C g36 g51 dX12_clientGets_75 ?_
      refine x_topi (fun x52 e53 => ?_)
      have h := h x52 e53
      refine x_ishl C dX12_clientGets_76 ?_
      refine x_ior C dX12_clientGets_77 ?_
      refine x_topi (fun x54 e55 => ?_)
      have h := h x54 e55
      refine x_nn2 g46 ?_
      obtain ⟨g56, h⟩ := h
      refine x_iast C g47 g56 dX12_clientGets_78 ?_
      refine x_aload_n C dX12_clientGets_79 rfl (lv_at hl 2 rfl) ?_
      refine x_getP C fl_RX12_30 g33 dX12_clientGets_80 ?_
      refine x_iconst (v := 1) C dX12_clientGets_83 (by decide) ?_
      refine x_nn1 g35 ?_
      obtain ⟨g57, h⟩ := h
      refine x_iald C g36 g57 dX12_clientGets_84 ?_
      refine x_topi (fun x58 e59 => ?_)
      have h := h x58 e59
      refine x_iload_n C dX12_clientGets_85 rfl (lv_at hl 0 rfl) ?_
      refine x_icmp_ne (tgt := 113) C dX12_clientGets_86 (by decide) (fun c60 => ?_) (fun c60 => ?_)
      · have h := h.1 c60
        exact t_X12_clientGets_113 C hr hnm  p1 x32 x43 _ h ls (lv_sub hl [2, 3, 1, 0] rfl)
      · have h := h.2 c60
        refine x_aload_n C dX12_clientGets_89 rfl (lv_at hl 2 rfl) ?_
        refine x_getP C fl_RX12_30 g33 dX12_clientGets_90 ?_
        refine x_bipush (v := 7) C dX12_clientGets_93 (by decide) ?_
        refine x_nn1 g35 ?_
        obtain ⟨g61, h⟩ := h
        refine x_iald C g36 g61 dX12_clientGets_95 ?_
        refine x_topi (fun x62 e63 => ?_)
        have h := h x62 e63
        refine x_iconst (v := 1) C dX12_clientGets_96 (by decide) ?_
        refine x_icmp_ne (tgt := 113) C dX12_clientGets_97 (by decide) (fun c64 => ?_) (fun c64 => ?_)
        · have h := h.1 c64
          exact t_X12_clientGets_113 C hr hnm  p1 x32 x43 _ h ls (lv_sub hl [2, 3, 1, 0] rfl)
        · have h := h.2 c64
          refine x_aload_n C dX12_clientGets_100 rfl (lv_at hl 2 rfl) ?_
          refine x_getP C fl_RX12_221 g33 dX12_clientGets_101 ?_
          refine x_iload_n C dX12_clientGets_104 rfl (lv_at hl 1 rfl) ?_
          refine x_aload_n C dX12_clientGets_105 rfl (lv_at hl 2 rfl) ?_
          refine x_getP C fl_RX12_30 g33 dX12_clientGets_106 ?_
          refine x_bipush (v := 8) C dX12_clientGets_109 (by decide) ?_
          refine x_nn1 g35 ?_
          obtain ⟨g65, h⟩ := h
          refine x_iald C g36 g65 dX12_clientGets_111 ?_
          refine x_topi (fun x66 e67 => ?_)
          have h := h x66 e67
          obtain ⟨b68, g69, h⟩ := h
          refine x_nn2 g69 ?_
          obtain ⟨g70, h⟩ := h
          obtain ⟨g71, h⟩ := h
          refine x_iast C g70 g71 dX12_clientGets_112 ?_
          exact t_X12_clientGets_113 C hr hnm  p1 x32 x43 _ h ls (lv_sub hl [2, 3, 1, 0] rfl)
    · have h := h.2 c21
      exact x_vret C hr dX12_clientGets_25 ⟨rfl, h⟩
theorem dX12_forgetCounts_0 : decode cX12_forgetCounts 0 = .ok (.aload_n 0, 1) := by decide +kernel
theorem dX12_forgetCounts_1 : decode cX12_forgetCounts 1 = .ok (.getfield 89, 3) := by decide +kernel
theorem dX12_forgetCounts_4 : decode cX12_forgetCounts 4 = .ok (.iload_n 1, 1) := by decide +kernel
theorem dX12_forgetCounts_5 : decode cX12_forgetCounts 5 = .ok (.iconst 0, 1) := by decide +kernel
theorem dX12_forgetCounts_6 : decode cX12_forgetCounts 6 = .ok (.iastore, 1) := by decide +kernel
theorem dX12_forgetCounts_7 : decode cX12_forgetCounts 7 = .ok (.aload_n 0, 1) := by decide +kernel
theorem dX12_forgetCounts_8 : decode cX12_forgetCounts 8 = .ok (.getfield 110, 3) := by decide +kernel
theorem dX12_forgetCounts_11 : decode cX12_forgetCounts 11 = .ok (.iload_n 1, 1) := by decide +kernel
theorem dX12_forgetCounts_12 : decode cX12_forgetCounts 12 = .ok (.iconst 0, 1) := by decide +kernel
theorem dX12_forgetCounts_13 : decode cX12_forgetCounts 13 = .ok (.iastore, 1) := by decide +kernel
theorem dX12_forgetCounts_14 : decode cX12_forgetCounts 14 = .ok (.aload_n 0, 1) := by decide +kernel
theorem dX12_forgetCounts_15 : decode cX12_forgetCounts 15 = .ok (.getfield 113, 3) := by decide +kernel
theorem dX12_forgetCounts_18 : decode cX12_forgetCounts 18 = .ok (.iload_n 1, 1) := by decide +kernel
theorem dX12_forgetCounts_19 : decode cX12_forgetCounts 19 = .ok (.iconst 0, 1) := by decide +kernel
theorem dX12_forgetCounts_20 : decode cX12_forgetCounts 20 = .ok (.iastore, 1) := by decide +kernel
theorem dX12_forgetCounts_21 : decode cX12_forgetCounts 21 = .ok (.aload_n 0, 1) := by decide +kernel
theorem dX12_forgetCounts_22 : decode cX12_forgetCounts 22 = .ok (.getfield 116, 3) := by decide +kernel
theorem dX12_forgetCounts_25 : decode cX12_forgetCounts 25 = .ok (.iload_n 1, 1) := by decide +kernel
theorem dX12_forgetCounts_26 : decode cX12_forgetCounts 26 = .ok (.iconst 0, 1) := by decide +kernel
theorem dX12_forgetCounts_27 : decode cX12_forgetCounts 27 = .ok (.iastore, 1) := by decide +kernel
theorem dX12_forgetCounts_28 : decode cX12_forgetCounts 28 = .ok (.aload_n 0, 1) := by decide +kernel
theorem dX12_forgetCounts_29 : decode cX12_forgetCounts 29 = .ok (.getfield 119, 3) := by decide +kernel
theorem dX12_forgetCounts_32 : decode cX12_forgetCounts 32 = .ok (.iload_n 1, 1) := by decide +kernel
theorem dX12_forgetCounts_33 : decode cX12_forgetCounts 33 = .ok (.iconst 0, 1) := by decide +kernel
theorem dX12_forgetCounts_34 : decode cX12_forgetCounts 34 = .ok (.iastore, 1) := by decide +kernel
theorem dX12_forgetCounts_35 : decode cX12_forgetCounts 35 = .ok (.return_, 1) := by decide +kernel
abbrev rm_X12_forgetCounts : Room := { frames := 0, cells := 0, slots := 0, locals := 0 }
def wp_X12_forgetCounts (a0 : Nat) (p1 : Int32) (σ : Sto) (Q : Sto → Prop) : Prop := (sK σ a0 = 12 ∧ (∃ b2 : Nat, sP σ a0 36 = some b2 ∧ (sK σ b2 = 14 ∧ (vp_in p1 (sN σ b2) ∧ (∃ b6 : Nat, sP σ a0 43 = some b6 ∧ (sK σ b6 = 14 ∧ (vp_in p1 (sN σ b6) ∧ (∃ b10 : Nat, sP σ a0 44 = some b10 ∧ (sK σ b10 = 14 ∧ (vp_in p1 (sN σ b10) ∧ (∃ b14 : Nat, sP σ a0 45 = some b14 ∧ (sK σ b14 = 14 ∧ (vp_in p1 (sN σ b14) ∧ (∃ b18 : Nat, sP σ a0 46 = some b18 ∧ (sK σ b18 = 14 ∧ (vp_in p1 (sN σ b18) ∧ Q (stI (stI (stI (stI (stI σ b2 p1.toNatClampNeg (0 : Int32)) b6 p1.toNatClampNeg (0 : Int32)) b10 p1.toNatClampNeg (0 : Int32)) b14 p1.toNatClampNeg (0 : Int32)) b18 p1.toNatClampNeg (0 : Int32))))))))))))))))))
set_option maxHeartbeats 4000000 in
set_option maxRecDepth 100000 in
theorem c_X12_forgetCounts (l : Launch) (D : va_G) (cy : Nat → ClassId) (a0 : Nat) (p1 : Int32) (σ : Sto) (Q : Sto → Prop) (h : wp_X12_forgetCounts a0 p1 σ Q) : Mt l D cy yX12_forgetCounts cX12_forgetCounts 2 none rm_X12_forgetCounts [.ref a0, .int p1] σ (PsV Q) := by
  unfold wp_X12_forgetCounts at h
  refine mt_of (by decide +kernel) (Nat.le_of_ble_eq_true rfl) ?_
  intro p e s m args below meth c A ls C hr hnm hl
  have C : Cx p s m args meth c D cy A cX12_forgetCounts 2 RX12 := C
  have hl : lv_has ls 2 [(0, .ref a0), (1, .int p1)] := hl
  refine x_aload_n C dX12_forgetCounts_0 rfl (lv_at hl 0 rfl) ?_
  obtain ⟨g1, h⟩ := h
  refine x_getP C fl_RX12_89 g1 dX12_forgetCounts_1 ?_
  refine x_iload_n C dX12_forgetCounts_4 rfl (lv_at hl 1 rfl) ?_
  refine x_iconst (v := 0) C dX12_forgetCounts_5 (by decide) ?_
  obtain ⟨b2, g3, h⟩ := h
  refine x_nn2 g3 ?_
  obtain ⟨g4, h⟩ := h
  obtain ⟨g5, h⟩ := h
  refine x_iast C g4 g5 dX12_forgetCounts_6 ?_
  refine x_aload_n C dX12_forgetCounts_7 rfl (lv_at hl 0 rfl) ?_
  refine x_getP C fl_RX12_110 g1 dX12_forgetCounts_8 ?_
  refine x_iload_n C dX12_forgetCounts_11 rfl (lv_at hl 1 rfl) ?_
  refine x_iconst (v := 0) C dX12_forgetCounts_12 (by decide) ?_
  obtain ⟨b6, g7, h⟩ := h
  refine x_nn2 g7 ?_
  obtain ⟨g8, h⟩ := h
  obtain ⟨g9, h⟩ := h
  refine x_iast C g8 g9 dX12_forgetCounts_13 ?_
  refine x_aload_n C dX12_forgetCounts_14 rfl (lv_at hl 0 rfl) ?_
  refine x_getP C fl_RX12_113 g1 dX12_forgetCounts_15 ?_
  refine x_iload_n C dX12_forgetCounts_18 rfl (lv_at hl 1 rfl) ?_
  refine x_iconst (v := 0) C dX12_forgetCounts_19 (by decide) ?_
  obtain ⟨b10, g11, h⟩ := h
  refine x_nn2 g11 ?_
  obtain ⟨g12, h⟩ := h
  obtain ⟨g13, h⟩ := h
  refine x_iast C g12 g13 dX12_forgetCounts_20 ?_
  refine x_aload_n C dX12_forgetCounts_21 rfl (lv_at hl 0 rfl) ?_
  refine x_getP C fl_RX12_116 g1 dX12_forgetCounts_22 ?_
  refine x_iload_n C dX12_forgetCounts_25 rfl (lv_at hl 1 rfl) ?_
  refine x_iconst (v := 0) C dX12_forgetCounts_26 (by decide) ?_
  obtain ⟨b14, g15, h⟩ := h
  refine x_nn2 g15 ?_
  obtain ⟨g16, h⟩ := h
  obtain ⟨g17, h⟩ := h
  refine x_iast C g16 g17 dX12_forgetCounts_27 ?_
  refine x_aload_n C dX12_forgetCounts_28 rfl (lv_at hl 0 rfl) ?_
  refine x_getP C fl_RX12_119 g1 dX12_forgetCounts_29 ?_
  refine x_iload_n C dX12_forgetCounts_32 rfl (lv_at hl 1 rfl) ?_
  refine x_iconst (v := 0) C dX12_forgetCounts_33 (by decide) ?_
  obtain ⟨b18, g19, h⟩ := h
  refine x_nn2 g19 ?_
  obtain ⟨g20, h⟩ := h
  obtain ⟨g21, h⟩ := h
  refine x_iast C g20 g21 dX12_forgetCounts_34 ?_
  exact x_vret C hr dX12_forgetCounts_35 ⟨rfl, h⟩
theorem dX12_leader_0 : decode cX12_leader 0 = .ok (.aload_n 0, 1) := by decide +kernel
theorem dX12_leader_1 : decode cX12_leader 1 = .ok (.getfield 44, 3) := by decide +kernel
theorem dX12_leader_4 : decode cX12_leader 4 = .ok (.iload_n 1, 1) := by decide +kernel
theorem dX12_leader_5 : decode cX12_leader 5 = .ok (.iaload, 1) := by decide +kernel
theorem dX12_leader_6 : decode cX12_leader 6 = .ok (.aload_n 0, 1) := by decide +kernel
theorem dX12_leader_7 : decode cX12_leader 7 = .ok (.getfield 258, 3) := by decide +kernel
theorem dX12_leader_10 : decode cX12_leader 10 = .ok (.irem, 1) := by decide +kernel
theorem dX12_leader_11 : decode cX12_leader 11 = .ok (.ireturn, 1) := by decide +kernel
abbrev rm_X12_leader : Room := { frames := 0, cells := 0, slots := 0, locals := 0 }
def wp_X12_leader (a0 : Nat) (p1 : Int32) (σ : Sto) (Q : Int32 → Sto → Prop) : Prop := (sK σ a0 = 12 ∧ (∃ b2 : Nat, sP σ a0 21 = some b2 ∧ (sK σ b2 = 14 ∧ (vp_in p1 (sN σ b2) ∧ (∀ x6 : Int32, x6 = sI σ b2 p1.toNatClampNeg → (∀ x8 : Int32, x8 = sI σ a0 1 → (¬ x8 = 0 ∧ Q (x6 - x6 / x8 * x8) σ)))))))
set_option maxHeartbeats 4000000 in
set_option maxRecDepth 100000 in
theorem c_X12_leader (l : Launch) (D : va_G) (cy : Nat → ClassId) (a0 : Nat) (p1 : Int32) (σ : Sto) (Q : Int32 → Sto → Prop) (h : wp_X12_leader a0 p1 σ Q) : Mt l D cy yX12_leader cX12_leader 2 (some .int) rm_X12_leader [.ref a0, .int p1] σ (PsI Q) := by
  unfold wp_X12_leader at h
  refine mt_of (by decide +kernel) (Nat.le_of_ble_eq_true rfl) ?_
  intro p e s m args below meth c A ls C hr hnm hl
  have C : Cx p s m args meth c D cy A cX12_leader 2 RX12 := C
  have hl : lv_has ls 2 [(0, .ref a0), (1, .int p1)] := hl
  refine x_aload_n C dX12_leader_0 rfl (lv_at hl 0 rfl) ?_
  obtain ⟨g1, h⟩ := h
  refine x_getP C fl_RX12_44 g1 dX12_leader_1 ?_
  refine x_iload_n C dX12_leader_4 rfl (lv_at hl 1 rfl) ?_
  obtain ⟨b2, g3, h⟩ := h
  refine x_nn1 g3 ?_
  obtain ⟨g4, h⟩ := h
  obtain ⟨g5, h⟩ := h
  refine x_iald C g4 g5 dX12_leader_5 ?_
  refine x_topi (fun x6 e7 => ?_)
  have h := h x6 e7
  refine x_aload_n C dX12_leader_6 rfl (lv_at hl 0 rfl) ?_
  refine x_getI C fl_RX12_258 g1 dX12_leader_7 ?_
  refine x_topi (fun x8 e9 => ?_)
  have h := h x8 e9
  obtain ⟨g10, h⟩ := h
  refine x_irem C dX12_leader_10 g10 ?_
  exact x_iret C hr dX12_leader_11 ⟨_, rfl, h⟩
theorem dX12_leads_0 : decode cX12_leads 0 = .ok (.aload_n 0, 1) := by decide +kernel
theorem dX12_leads_1 : decode cX12_leads 1 = .ok (.iload_n 1, 1) := by decide +kernel
theorem dX12_leads_2 : decode cX12_leads 2 = .ok (.invokevirtual 324, 3) := by decide +kernel
theorem dX12_leads_5 : decode cX12_leads 5 = .ok (.iload_n 1, 1) := by decide +kernel
theorem dX12_leads_6 : decode cX12_leads 6 = .ok (.if_icmp .ne 7, 3) := by decide +kernel
theorem dX12_leads_9 : decode cX12_leads 9 = .ok (.iconst 1, 1) := by decide +kernel
theorem dX12_leads_10 : decode cX12_leads 10 = .ok (.goto 4, 3) := by decide +kernel
theorem dX12_leads_13 : decode cX12_leads 13 = .ok (.iconst 0, 1) := by decide +kernel
theorem dX12_leads_14 : decode cX12_leads 14 = .ok (.ireturn, 1) := by decide +kernel
abbrev rm_X12_leads : Room := { frames := 1, cells := 0, slots := 0, locals := 21 }
def wp_X12_leads (a0 : Nat) (p1 : Int32) (σ : Sto) (Q : Int32 → Sto → Prop) : Prop := (sK σ a0 = 12 ∧ (wp_X12_leader a0 p1 σ (fun (x3 : Int32) (σ2 : Sto) => ((¬ x3 = p1 → Q (0 : Int32) σ2) ∧ (x3 = p1 → Q (1 : Int32) σ2)))))
set_option maxHeartbeats 4000000 in
set_option maxRecDepth 100000 in
theorem c_X12_leads (l : Launch) (D : va_G) (cy : Nat → ClassId) (a0 : Nat) (p1 : Int32) (σ : Sto) (Q : Int32 → Sto → Prop) (h : wp_X12_leads a0 p1 σ Q) : Mt l D cy yX12_leads cX12_leads 2 (some .boolean) rm_X12_leads [.ref a0, .int p1] σ (PsI Q) := by
  unfold wp_X12_leads at h
  refine mt_of (by decide +kernel) (Nat.le_of_ble_eq_true rfl) ?_
  intro p e s m args below meth c A ls C hr hnm hl
  have C : Cx p s m args meth c D cy A cX12_leads 2 RX12 := C
  have hl : lv_has ls 2 [(0, .ref a0), (1, .int p1)] := hl
  refine x_aload_n C dX12_leads_0 rfl (lv_at hl 0 rfl) ?_
  refine x_iload_n C dX12_leads_1 rfl (lv_at hl 1 rfl) ?_
  obtain ⟨g1, h⟩ := h
  refine x_callV (rm := rm_X12_leader) (rest := []) (As := [.int p1]) C cy_RX12_324 g1 (by decide) (by decide) rfl rfl (Nat.le_of_ble_eq_true rfl) hl.1 dX12_leads_2 (c_X12_leader l D cy a0 p1 σ _ h) (ks_i (fun x3 σ2 h => ?_))
  refine x_iload_n C dX12_leads_5 rfl (lv_at hl 1 rfl) ?_
  refine x_icmp_ne (tgt := 13) C dX12_leads_6 (by decide) (fun c4 => ?_) (fun c4 => ?_)
  · have h := h.1 c4
    refine x_iconst (v := 0) C dX12_leads_13 (by decide) ?_
    exact x_zret C hr dX12_leads_14 (by decide) ⟨_, rfl, h⟩
  · have h := h.2 c4
    refine x_iconst (v := 1) C dX12_leads_9 (by decide) ?_
    refine x_goto (tgt := 14) C dX12_leads_10 (by decide) ?_
    exact x_zret C hr dX12_leads_14 (by decide) ⟨_, rfl, h⟩
theorem dX12_sendTurned_0 : decode cX12_sendTurned 0 = .ok (.aload_n 0, 1) := by decide +kernel
theorem dX12_sendTurned_1 : decode cX12_sendTurned 1 = .ok (.iload_n 1, 1) := by decide +kernel
theorem dX12_sendTurned_2 : decode cX12_sendTurned 2 = .ok (.invokevirtual 327, 3) := by decide +kernel
theorem dX12_sendTurned_5 : decode cX12_sendTurned 5 = .ok (.ifCond .eq 4, 3) := by decide +kernel
theorem dX12_sendTurned_8 : decode cX12_sendTurned 8 = .ok (.return_, 1) := by decide +kernel
theorem dX12_sendTurned_9 : decode cX12_sendTurned 9 = .ok (.aload_n 0, 1) := by decide +kernel
theorem dX12_sendTurned_10 : decode cX12_sendTurned 10 = .ok (.bipush 9, 2) := by decide +kernel
theorem dX12_sendTurned_12 : decode cX12_sendTurned 12 = .ok (.iload_n 1, 1) := by decide +kernel
theorem dX12_sendTurned_13 : decode cX12_sendTurned 13 = .ok (.aload_n 0, 1) := by decide +kernel
theorem dX12_sendTurned_14 : decode cX12_sendTurned 14 = .ok (.iload_n 1, 1) := by decide +kernel
theorem dX12_sendTurned_15 : decode cX12_sendTurned 15 = .ok (.invokevirtual 324, 3) := by decide +kernel
theorem dX12_sendTurned_18 : decode cX12_sendTurned 18 = .ok (.invokevirtual 290, 3) := by decide +kernel
theorem dX12_sendTurned_21 : decode cX12_sendTurned 21 = .ok (.aload_n 0, 1) := by decide +kernel
theorem dX12_sendTurned_22 : decode cX12_sendTurned 22 = .ok (.iload_n 1, 1) := by decide +kernel
theorem dX12_sendTurned_23 : decode cX12_sendTurned 23 = .ok (.invokevirtual 294, 3) := by decide +kernel
theorem dX12_sendTurned_26 : decode cX12_sendTurned 26 = .ok (.aload_n 0, 1) := by decide +kernel
theorem dX12_sendTurned_27 : decode cX12_sendTurned 27 = .ok (.aload_n 0, 1) := by decide +kernel
theorem dX12_sendTurned_28 : decode cX12_sendTurned 28 = .ok (.getfield 53, 3) := by decide +kernel
theorem dX12_sendTurned_31 : decode cX12_sendTurned 31 = .ok (.iload_n 1, 1) := by decide +kernel
theorem dX12_sendTurned_32 : decode cX12_sendTurned 32 = .ok (.iaload, 1) := by decide +kernel
theorem dX12_sendTurned_33 : decode cX12_sendTurned 33 = .ok (.invokevirtual 277, 3) := by decide +kernel
theorem dX12_sendTurned_36 : decode cX12_sendTurned 36 = .ok (.aload_n 0, 1) := by decide +kernel
theorem dX12_sendTurned_37 : decode cX12_sendTurned 37 = .ok (.aload_n 0, 1) := by decide +kernel
theorem dX12_sendTurned_38 : decode cX12_sendTurned 38 = .ok (.getfield 56, 3) := by decide +kernel
theorem dX12_sendTurned_41 : decode cX12_sendTurned 41 = .ok (.iload_n 1, 1) := by decide +kernel
theorem dX12_sendTurned_42 : decode cX12_sendTurned 42 = .ok (.iaload, 1) := by decide +kernel
theorem dX12_sendTurned_43 : decode cX12_sendTurned 43 = .ok (.invokevirtual 277, 3) := by decide +kernel
theorem dX12_sendTurned_46 : decode cX12_sendTurned 46 = .ok (.aload_n 0, 1) := by decide +kernel
theorem dX12_sendTurned_47 : decode cX12_sendTurned 47 = .ok (.aload_n 0, 1) := by decide +kernel
theorem dX12_sendTurned_48 : decode cX12_sendTurned 48 = .ok (.getfield 62, 3) := by decide +kernel
theorem dX12_sendTurned_51 : decode cX12_sendTurned 51 = .ok (.iload_n 1, 1) := by decide +kernel
theorem dX12_sendTurned_52 : decode cX12_sendTurned 52 = .ok (.iaload, 1) := by decide +kernel
theorem dX12_sendTurned_53 : decode cX12_sendTurned 53 = .ok (.invokevirtual 277, 3) := by decide +kernel
theorem dX12_sendTurned_56 : decode cX12_sendTurned 56 = .ok (.aload_n 0, 1) := by decide +kernel
theorem dX12_sendTurned_57 : decode cX12_sendTurned 57 = .ok (.iload_n 1, 1) := by decide +kernel
theorem dX12_sendTurned_58 : decode cX12_sendTurned 58 = .ok (.aload_n 0, 1) := by decide +kernel
theorem dX12_sendTurned_59 : decode cX12_sendTurned 59 = .ok (.getfield 59, 3) := by decide +kernel
theorem dX12_sendTurned_62 : decode cX12_sendTurned 62 = .ok (.iload_n 1, 1) := by decide +kernel
theorem dX12_sendTurned_63 : decode cX12_sendTurned 63 = .ok (.iaload, 1) := by decide +kernel
theorem dX12_sendTurned_64 : decode cX12_sendTurned 64 = .ok (.invokevirtual 304, 3) := by decide +kernel
theorem dX12_sendTurned_67 : decode cX12_sendTurned 67 = .ok (.aload_n 0, 1) := by decide +kernel
theorem dX12_sendTurned_68 : decode cX12_sendTurned 68 = .ok (.invokevirtual 297, 3) := by decide +kernel
theorem dX12_sendTurned_71 : decode cX12_sendTurned 71 = .ok (.return_, 1) := by decide +kernel
abbrev rm_X12_sendTurned : Room := { frames := 2, cells := 0, slots := 0, locals := 45 }
def wp_X12_sendTurned (a0 : Nat) (p1 : Int32) (σ : Sto) (Q : Sto → Prop) : Prop := (sK σ a0 = 12 ∧ (wp_X12_leads a0 p1 σ (fun (x3 : Int32) (σ2 : Sto) => ((x3 = 0 → (sK σ2 a0 = 12 ∧ (wp_X12_leader a0 p1 σ2 (fun (x7 : Int32) (σ6 : Sto) => (sK σ6 a0 = 12 ∧ (wp_X12_begin a0 (9 : Int32) p1 x7 σ6 (fun (σ9 : Sto) => (sK σ9 a0 = 12 ∧ (wp_X12_addView a0 p1 σ9 (fun (σ11 : Sto) => (sK σ11 a0 = 12 ∧ (∃ b13 : Nat, sP σ11 a0 24 = some b13 ∧ (sK σ11 b13 = 14 ∧ (vp_in p1 (sN σ11 b13) ∧ (∀ x17 : Int32, x17 = sI σ11 b13 p1.toNatClampNeg → (wp_X12_add a0 x17 σ11 (fun (σ19 : Sto) => (sK σ19 a0 = 12 ∧ (∃ b21 : Nat, sP σ19 a0 25 = some b21 ∧ (sK σ19 b21 = 14 ∧ (vp_in p1 (sN σ19 b21) ∧ (∀ x25 : Int32, x25 = sI σ19 b21 p1.toNatClampNeg → (wp_X12_add a0 x25 σ19 (fun (σ27 : Sto) => (sK σ27 a0 = 12 ∧ (∃ b29 : Nat, sP σ27 a0 27 = some b29 ∧ (sK σ27 b29 = 14 ∧ (vp_in p1 (sN σ27 b29) ∧ (∀ x33 : Int32, x33 = sI σ27 b29 p1.toNatClampNeg → (wp_X12_add a0 x33 σ27 (fun (σ35 : Sto) => (sK σ35 a0 = 12 ∧ (∃ b37 : Nat, sP σ35 a0 26 = some b37 ∧ (sK σ35 b37 = 14 ∧ (vp_in p1 (sN σ35 b37) ∧ (∀ x41 : Int32, x41 = sI σ35 b37 p1.toNatClampNeg → (wp_X12_addLog a0 p1 x41 σ35 (fun (σ43 : Sto) => (sK σ43 a0 = 12 ∧ (wp_X12_post a0  σ43 (fun (σ45 : Sto) => Q σ45))))))))))))))))))))))))))))))))))))))))) ∧ (¬ x3 = 0 → Q σ2)))))
set_option maxHeartbeats 4000000 in
set_option maxRecDepth 100000 in
theorem c_X12_sendTurned (l : Launch) (D : va_G) (cy : Nat → ClassId) (a0 : Nat) (p1 : Int32) (σ : Sto) (Q : Sto → Prop) (h : wp_X12_sendTurned a0 p1 σ Q) : Mt l D cy yX12_sendTurned cX12_sendTurned 2 none rm_X12_sendTurned [.ref a0, .int p1] σ (PsV Q) := by
  unfold wp_X12_sendTurned at h
  refine mt_of (by decide +kernel) (Nat.le_of_ble_eq_true rfl) ?_
  intro p e s m args below meth c A ls C hr hnm hl
  have C : Cx p s m args meth c D cy A cX12_sendTurned 2 RX12 := C
  have hl : lv_has ls 2 [(0, .ref a0), (1, .int p1)] := hl
  refine x_aload_n C dX12_sendTurned_0 rfl (lv_at hl 0 rfl) ?_
  refine x_iload_n C dX12_sendTurned_1 rfl (lv_at hl 1 rfl) ?_
  obtain ⟨g1, h⟩ := h
  refine x_callV (rm := rm_X12_leads) (rest := []) (As := [.int p1]) C cy_RX12_327 g1 (by decide) (by decide) rfl rfl (Nat.le_of_ble_eq_true rfl) hl.1 dX12_sendTurned_2 (c_X12_leads l D cy a0 p1 σ _ h) (ks_i (fun x3 σ2 h => ?_))
  refine x_if_eq (tgt := 9) C dX12_sendTurned_5 (by decide) (fun c4 => ?_) (fun c4 => ?_)
  · have h := h.1 c4
    refine x_aload_n C dX12_sendTurned_9 rfl (lv_at hl 0 rfl) ?_
    refine x_bipush (v := 9) C dX12_sendTurned_10 (by decide) ?_
    refine x_iload_n C dX12_sendTurned_12 rfl (lv_at hl 1 rfl) ?_
    refine x_aload_n C dX12_sendTurned_13 rfl (lv_at hl 0 rfl) ?_
    refine x_iload_n C dX12_sendTurned_14 rfl (lv_at hl 1 rfl) ?_
    obtain ⟨g5, h⟩ := h
    refine x_callV (rm := rm_X12_leader) (rest := [.int p1, .int (9 : Int32), .ref a0]) (As := [.int p1]) C cy_RX12_324 g5 (by decide) (by decide) rfl rfl (Nat.le_of_ble_eq_true rfl) hl.1 dX12_sendTurned_15 (c_X12_leader l D cy a0 p1 σ2 _ h) (ks_i (fun x7 σ6 h => ?_))
    obtain ⟨g8, h⟩ := h
    refine x_callV (rm := rm_X12_begin) (rest := []) (As := [.int (9 : Int32), .int p1, .int x7]) C cy_RX12_290 g8 (by decide) (by decide) rfl rfl (Nat.le_of_ble_eq_true rfl) hl.1 dX12_sendTurned_18 (c_X12_begin l D cy a0 (9 : Int32) p1 x7 σ6 _ h) (ks_v (fun σ9 h => ?_))
    refine x_aload_n C dX12_sendTurned_21 rfl (lv_at hl 0 rfl) ?_
    refine x_iload_n C dX12_sendTurned_22 rfl (lv_at hl 1 rfl) ?_
    obtain ⟨g10, h⟩ := h
    refine x_callV (rm := rm_X12_addView) (rest := []) (As := [.int p1]) C cy_RX12_294 g10 (by decide) (by decide) rfl rfl (Nat.le_of_ble_eq_true rfl) hl.1 dX12_sendTurned_23 (c_X12_addView l D cy a0 p1 σ9 _ h) (ks_v (fun σ11 h => ?_))
    refine x_aload_n C dX12_sendTurned_26 rfl (lv_at hl 0 rfl) ?_
    refine x_aload_n C dX12_sendTurned_27 rfl (lv_at hl 0 rfl) ?_
    obtain ⟨g12, h⟩ := h
    refine x_getP C fl_RX12_53 g12 dX12_sendTurned_28 ?_
    refine x_iload_n C dX12_sendTurned_31 rfl (lv_at hl 1 rfl) ?_
    obtain ⟨b13, g14, h⟩ := h
    refine x_nn1 g14 ?_
    obtain ⟨g15, h⟩ := h
    obtain ⟨g16, h⟩ := h
    refine x_iald C g15 g16 dX12_sendTurned_32 ?_
    refine x_topi (fun x17 e18 => ?_)
    have h := h x17 e18
    refine x_callV (rm := rm_X12_add) (rest := []) (As := [.int x17]) C cy_RX12_277 g12 (by decide) (by decide) rfl rfl (Nat.le_of_ble_eq_true rfl) hl.1 dX12_sendTurned_33 (c_X12_add l D cy a0 x17 σ11 _ h) (ks_v (fun σ19 h => ?_))
    refine x_aload_n C dX12_sendTurned_36 rfl (lv_at hl 0 rfl) ?_
    refine x_aload_n C dX12_sendTurned_37 rfl (lv_at hl 0 rfl) ?_
    obtain ⟨g20, h⟩ := h
    refine x_getP C fl_RX12_56 g20 dX12_sendTurned_38 ?_
    refine x_iload_n C dX12_sendTurned_41 rfl (lv_at hl 1 rfl) ?_
    obtain ⟨b21, g22, h⟩ := h
    refine x_nn1 g22 ?_
    obtain ⟨g23, h⟩ := h
    obtain ⟨g24, h⟩ := h
    refine x_iald C g23 g24 dX12_sendTurned_42 ?_
    refine x_topi (fun x25 e26 => ?_)
    have h := h x25 e26
    refine x_callV (rm := rm_X12_add) (rest := []) (As := [.int x25]) C cy_RX12_277 g20 (by decide) (by decide) rfl rfl (Nat.le_of_ble_eq_true rfl) hl.1 dX12_sendTurned_43 (c_X12_add l D cy a0 x25 σ19 _ h) (ks_v (fun σ27 h => ?_))
    refine x_aload_n C dX12_sendTurned_46 rfl (lv_at hl 0 rfl) ?_
    refine x_aload_n C dX12_sendTurned_47 rfl (lv_at hl 0 rfl) ?_
    obtain ⟨g28, h⟩ := h
    refine x_getP C fl_RX12_62 g28 dX12_sendTurned_48 ?_
    refine x_iload_n C dX12_sendTurned_51 rfl (lv_at hl 1 rfl) ?_
    obtain ⟨b29, g30, h⟩ := h
    refine x_nn1 g30 ?_
    obtain ⟨g31, h⟩ := h
    obtain ⟨g32, h⟩ := h
    refine x_iald C g31 g32 dX12_sendTurned_52 ?_
    refine x_topi (fun x33 e34 => ?_)
    have h := h x33 e34
    refine x_callV (rm := rm_X12_add) (rest := []) (As := [.int x33]) C cy_RX12_277 g28 (by decide) (by decide) rfl rfl (Nat.le_of_ble_eq_true rfl) hl.1 dX12_sendTurned_53 (c_X12_add l D cy a0 x33 σ27 _ h) (ks_v (fun σ35 h => ?_))
    refine x_aload_n C dX12_sendTurned_56 rfl (lv_at hl 0 rfl) ?_
    refine x_iload_n C dX12_sendTurned_57 rfl (lv_at hl 1 rfl) ?_
    refine x_aload_n C dX12_sendTurned_58 rfl (lv_at hl 0 rfl) ?_
    obtain ⟨g36, h⟩ := h
    refine x_getP C fl_RX12_59 g36 dX12_sendTurned_59 ?_
    refine x_iload_n C dX12_sendTurned_62 rfl (lv_at hl 1 rfl) ?_
    obtain ⟨b37, g38, h⟩ := h
    refine x_nn1 g38 ?_
    obtain ⟨g39, h⟩ := h
    obtain ⟨g40, h⟩ := h
    refine x_iald C g39 g40 dX12_sendTurned_63 ?_
    refine x_topi (fun x41 e42 => ?_)
    have h := h x41 e42
    refine x_callV (rm := rm_X12_addLog) (rest := []) (As := [.int p1, .int x41]) C cy_RX12_304 g36 (by decide) (by decide) rfl rfl (Nat.le_of_ble_eq_true rfl) hl.1 dX12_sendTurned_64 (c_X12_addLog l D cy a0 p1 x41 σ35 _ h) (ks_v (fun σ43 h => ?_))
    refine x_aload_n C dX12_sendTurned_67 rfl (lv_at hl 0 rfl) ?_
    obtain ⟨g44, h⟩ := h
    refine x_callV (rm := rm_X12_post) (rest := []) (As := []) C cy_RX12_297 g44 (by decide) (by decide) rfl rfl (Nat.le_of_ble_eq_true rfl) hl.1 dX12_sendTurned_68 (c_X12_post l D cy a0  σ43 _ h) (ks_v (fun σ45 h => ?_))
    exact x_vret C hr dX12_sendTurned_71 ⟨rfl, h⟩
  · have h := h.2 c4
    exact x_vret C hr dX12_sendTurned_8 ⟨rfl, h⟩
theorem dX12_turnsTo_0 : decode cX12_turnsTo 0 = .ok (.aload_n 0, 1) := by decide +kernel
theorem dX12_turnsTo_1 : decode cX12_turnsTo 1 = .ok (.getfield 44, 3) := by decide +kernel
theorem dX12_turnsTo_4 : decode cX12_turnsTo 4 = .ok (.iload_n 1, 1) := by decide +kernel
theorem dX12_turnsTo_5 : decode cX12_turnsTo 5 = .ok (.iload_n 2, 1) := by decide +kernel
theorem dX12_turnsTo_6 : decode cX12_turnsTo 6 = .ok (.iastore, 1) := by decide +kernel
theorem dX12_turnsTo_7 : decode cX12_turnsTo 7 = .ok (.aload_n 0, 1) := by decide +kernel
theorem dX12_turnsTo_8 : decode cX12_turnsTo 8 = .ok (.getfield 47, 3) := by decide +kernel
theorem dX12_turnsTo_11 : decode cX12_turnsTo 11 = .ok (.iload_n 1, 1) := by decide +kernel
theorem dX12_turnsTo_12 : decode cX12_turnsTo 12 = .ok (.iload_n 3, 1) := by decide +kernel
theorem dX12_turnsTo_13 : decode cX12_turnsTo 13 = .ok (.iastore, 1) := by decide +kernel
theorem dX12_turnsTo_14 : decode cX12_turnsTo 14 = .ok (.aload_n 0, 1) := by decide +kernel
theorem dX12_turnsTo_15 : decode cX12_turnsTo 15 = .ok (.getfield 50, 3) := by decide +kernel
theorem dX12_turnsTo_18 : decode cX12_turnsTo 18 = .ok (.iload_n 1, 1) := by decide +kernel
theorem dX12_turnsTo_19 : decode cX12_turnsTo 19 = .ok (.iconst 2, 1) := by decide +kernel
theorem dX12_turnsTo_20 : decode cX12_turnsTo 20 = .ok (.iastore, 1) := by decide +kernel
theorem dX12_turnsTo_21 : decode cX12_turnsTo 21 = .ok (.aload_n 0, 1) := by decide +kernel
theorem dX12_turnsTo_22 : decode cX12_turnsTo 22 = .ok (.iload_n 1, 1) := by decide +kernel
theorem dX12_turnsTo_23 : decode cX12_turnsTo 23 = .ok (.invokevirtual 355, 3) := by decide +kernel
theorem dX12_turnsTo_26 : decode cX12_turnsTo 26 = .ok (.aload_n 0, 1) := by decide +kernel
theorem dX12_turnsTo_27 : decode cX12_turnsTo 27 = .ok (.getfield 68, 3) := by decide +kernel
theorem dX12_turnsTo_30 : decode cX12_turnsTo 30 = .ok (.iload_n 1, 1) := by decide +kernel
theorem dX12_turnsTo_31 : decode cX12_turnsTo 31 = .ok (.iconst 0, 1) := by decide +kernel
theorem dX12_turnsTo_32 : decode cX12_turnsTo 32 = .ok (.iastore, 1) := by decide +kernel
theorem dX12_turnsTo_33 : decode cX12_turnsTo 33 = .ok (.aload_n 0, 1) := by decide +kernel
theorem dX12_turnsTo_34 : decode cX12_turnsTo 34 = .ok (.getfield 158, 3) := by decide +kernel
theorem dX12_turnsTo_37 : decode cX12_turnsTo 37 = .ok (.iload_n 1, 1) := by decide +kernel
theorem dX12_turnsTo_38 : decode cX12_turnsTo 38 = .ok (.aload_n 0, 1) := by decide +kernel
theorem dX12_turnsTo_39 : decode cX12_turnsTo 39 = .ok (.getfield 318, 3) := by decide +kernel
theorem dX12_turnsTo_42 : decode cX12_turnsTo 42 = .ok (.iastore, 1) := by decide +kernel
theorem dX12_turnsTo_43 : decode cX12_turnsTo 43 = .ok (.aload_n 0, 1) := by decide +kernel
theorem dX12_turnsTo_44 : decode cX12_turnsTo 44 = .ok (.getfield 155, 3) := by decide +kernel
theorem dX12_turnsTo_47 : decode cX12_turnsTo 47 = .ok (.iload_n 1, 1) := by decide +kernel
theorem dX12_turnsTo_48 : decode cX12_turnsTo 48 = .ok (.aload_n 0, 1) := by decide +kernel
theorem dX12_turnsTo_49 : decode cX12_turnsTo 49 = .ok (.getfield 318, 3) := by decide +kernel
theorem dX12_turnsTo_52 : decode cX12_turnsTo 52 = .ok (.iastore, 1) := by decide +kernel
theorem dX12_turnsTo_53 : decode cX12_turnsTo 53 = .ok (.aload_n 0, 1) := by decide +kernel
theorem dX12_turnsTo_54 : decode cX12_turnsTo 54 = .ok (.bipush 8, 2) := by decide +kernel
theorem dX12_turnsTo_56 : decode cX12_turnsTo 56 = .ok (.iload_n 1, 1) := by decide +kernel
theorem dX12_turnsTo_57 : decode cX12_turnsTo 57 = .ok (.iconst (-1), 1) := by decide +kernel
theorem dX12_turnsTo_58 : decode cX12_turnsTo 58 = .ok (.invokevirtual 352, 3) := by decide +kernel
theorem dX12_turnsTo_61 : decode cX12_turnsTo 61 = .ok (.aload_n 0, 1) := by decide +kernel
theorem dX12_turnsTo_62 : decode cX12_turnsTo 62 = .ok (.iload_n 1, 1) := by decide +kernel
theorem dX12_turnsTo_63 : decode cX12_turnsTo 63 = .ok (.invokevirtual 358, 3) := by decide +kernel
theorem dX12_turnsTo_66 : decode cX12_turnsTo 66 = .ok (.return_, 1) := by decide +kernel
abbrev rm_X12_turnsTo : Room := { frames := 4, cells := 0, slots := 0, locals := 90 }
def wp_X12_turnsTo (a0 : Nat) (p1 : Int32) (p2 : Int32) (p3 : Int32) (σ : Sto) (Q : Sto → Prop) : Prop := (sK σ a0 = 12 ∧ (∃ b2 : Nat, sP σ a0 21 = some b2 ∧ (sK σ b2 = 14 ∧ (vp_in p1 (sN σ b2) ∧ (∃ b6 : Nat, sP σ a0 22 = some b6 ∧ (sK σ b6 = 14 ∧ (vp_in p1 (sN σ b6) ∧ (∃ b10 : Nat, sP σ a0 23 = some b10 ∧ (sK σ b10 = 14 ∧ (vp_in p1 (sN σ b10) ∧ (wp_X12_forgetCounts a0 p1 (stI (stI (stI σ b2 p1.toNatClampNeg p2) b6 p1.toNatClampNeg p3) b10 p1.toNatClampNeg (2 : Int32)) (fun (σ14 : Sto) => (sK σ14 a0 = 12 ∧ (∃ b16 : Nat, sP σ14 a0 29 = some b16 ∧ (sK σ14 b16 = 14 ∧ (vp_in p1 (sN σ14 b16) ∧ (∀ x20 : Int32, x20 = sI (stI σ14 b16 p1.toNatClampNeg (0 : Int32)) a0 4 → (∃ b22 : Nat, sP σ14 a0 59 = some b22 ∧ (sK σ14 b22 = 14 ∧ (vp_in p1 (sN σ14 b22) ∧ (∀ x26 : Int32, x26 = sI (stI (stI σ14 b16 p1.toNatClampNeg (0 : Int32)) b22 p1.toNatClampNeg x20) a0 4 → (∃ b28 : Nat, sP σ14 a0 58 = some b28 ∧ (sK σ14 b28 = 14 ∧ (vp_in p1 (sN σ14 b28) ∧ (wp_X12_tellOthers a0 (8 : Int32) p1 (-1 : Int32) (stI (stI (stI σ14 b16 p1.toNatClampNeg (0 : Int32)) b22 p1.toNatClampNeg x20) b28 p1.toNatClampNeg x26) (fun (σ32 : Sto) => (sK σ32 a0 = 12 ∧ (wp_X12_sendTurned a0 p1 σ32 (fun (σ34 : Sto) => Q σ34)))))))))))))))))))))))))))))
set_option maxHeartbeats 4000000 in
set_option maxRecDepth 100000 in
theorem c_X12_turnsTo (l : Launch) (D : va_G) (cy : Nat → ClassId) (a0 : Nat) (p1 : Int32) (p2 : Int32) (p3 : Int32) (σ : Sto) (Q : Sto → Prop) (h : wp_X12_turnsTo a0 p1 p2 p3 σ Q) : Mt l D cy yX12_turnsTo cX12_turnsTo 4 none rm_X12_turnsTo [.ref a0, .int p1, .int p2, .int p3] σ (PsV Q) := by
  unfold wp_X12_turnsTo at h
  refine mt_of (by decide +kernel) (Nat.le_of_ble_eq_true rfl) ?_
  intro p e s m args below meth c A ls C hr hnm hl
  have C : Cx p s m args meth c D cy A cX12_turnsTo 4 RX12 := C
  have hl : lv_has ls 4 [(0, .ref a0), (1, .int p1), (2, .int p2), (3, .int p3)] := hl
  refine x_aload_n C dX12_turnsTo_0 rfl (lv_at hl 0 rfl) ?_
  obtain ⟨g1, h⟩ := h
  refine x_getP C fl_RX12_44 g1 dX12_turnsTo_1 ?_
  refine x_iload_n C dX12_turnsTo_4 rfl (lv_at hl 1 rfl) ?_
  refine x_iload_n C dX12_turnsTo_5 rfl (lv_at hl 2 rfl) ?_
  obtain ⟨b2, g3, h⟩ := h
  refine x_nn2 g3 ?_
  obtain ⟨g4, h⟩ := h
  obtain ⟨g5, h⟩ := h
  refine x_iast C g4 g5 dX12_turnsTo_6 ?_
  refine x_aload_n C dX12_turnsTo_7 rfl (lv_at hl 0 rfl) ?_
  refine x_getP C fl_RX12_47 g1 dX12_turnsTo_8 ?_
  refine x_iload_n C dX12_turnsTo_11 rfl (lv_at hl 1 rfl) ?_
  refine x_iload_n C dX12_turnsTo_12 rfl (lv_at hl 3 rfl) ?_
  obtain ⟨b6, g7, h⟩ := h
  refine x_nn2 g7 ?_
  obtain ⟨g8, h⟩ := h
  obtain ⟨g9, h⟩ := h
  refine x_iast C g8 g9 dX12_turnsTo_13 ?_
  refine x_aload_n C dX12_turnsTo_14 rfl (lv_at hl 0 rfl) ?_
  refine x_getP C fl_RX12_50 g1 dX12_turnsTo_15 ?_
  refine x_iload_n C dX12_turnsTo_18 rfl (lv_at hl 1 rfl) ?_
  refine x_iconst (v := 2) C dX12_turnsTo_19 (by decide) ?_
  obtain ⟨b10, g11, h⟩ := h
  refine x_nn2 g11 ?_
  obtain ⟨g12, h⟩ := h
  obtain ⟨g13, h⟩ := h
  refine x_iast C g12 g13 dX12_turnsTo_20 ?_
  refine x_aload_n C dX12_turnsTo_21 rfl (lv_at hl 0 rfl) ?_
  refine x_iload_n C dX12_turnsTo_22 rfl (lv_at hl 1 rfl) ?_
  refine x_callV (rm := rm_X12_forgetCounts) (rest := []) (As := [.int p1]) C cy_RX12_355 g1 (by decide) (by decide) rfl rfl (Nat.le_of_ble_eq_true rfl) hl.1 dX12_turnsTo_23 (c_X12_forgetCounts l D cy a0 p1 (stI (stI (stI σ b2 p1.toNatClampNeg p2) b6 p1.toNatClampNeg p3) b10 p1.toNatClampNeg (2 : Int32)) _ h) (ks_v (fun σ14 h => ?_))
  refine x_aload_n C dX12_turnsTo_26 rfl (lv_at hl 0 rfl) ?_
  obtain ⟨g15, h⟩ := h
  refine x_getP C fl_RX12_68 g15 dX12_turnsTo_27 ?_
  refine x_iload_n C dX12_turnsTo_30 rfl (lv_at hl 1 rfl) ?_
  refine x_iconst (v := 0) C dX12_turnsTo_31 (by decide) ?_
  obtain ⟨b16, g17, h⟩ := h
  refine x_nn2 g17 ?_
  obtain ⟨g18, h⟩ := h
  obtain ⟨g19, h⟩ := h
  refine x_iast C g18 g19 dX12_turnsTo_32 ?_
  refine x_aload_n C dX12_turnsTo_33 rfl (lv_at hl 0 rfl) ?_
  refine x_getP C fl_RX12_158 g15 dX12_turnsTo_34 ?_
  refine x_iload_n C dX12_turnsTo_37 rfl (lv_at hl 1 rfl) ?_
  refine x_aload_n C dX12_turnsTo_38 rfl (lv_at hl 0 rfl) ?_
  refine x_getI C fl_RX12_318 g15 dX12_turnsTo_39 ?_
  refine x_topi (fun x20 e21 => ?_)
  have h := h x20 e21
  obtain ⟨b22, g23, h⟩ := h
  refine x_nn2 g23 ?_
  obtain ⟨g24, h⟩ := h
  obtain ⟨g25, h⟩ := h
  refine x_iast C g24 g25 dX12_turnsTo_42 ?_
  refine x_aload_n C dX12_turnsTo_43 rfl (lv_at hl 0 rfl) ?_
  refine x_getP C fl_RX12_155 g15 dX12_turnsTo_44 ?_
  refine x_iload_n C dX12_turnsTo_47 rfl (lv_at hl 1 rfl) ?_
  refine x_aload_n C dX12_turnsTo_48 rfl (lv_at hl 0 rfl) ?_
  refine x_getI C fl_RX12_318 g15 dX12_turnsTo_49 ?_
  refine x_topi (fun x26 e27 => ?_)
  have h := h x26 e27
  obtain ⟨b28, g29, h⟩ := h
  refine x_nn2 g29 ?_
  obtain ⟨g30, h⟩ := h
  obtain ⟨g31, h⟩ := h
  refine x_iast C g30 g31 dX12_turnsTo_52 ?_
  refine x_aload_n C dX12_turnsTo_53 rfl (lv_at hl 0 rfl) ?_
  refine x_bipush (v := 8) C dX12_turnsTo_54 (by decide) ?_
  refine x_iload_n C dX12_turnsTo_56 rfl (lv_at hl 1 rfl) ?_
  refine x_iconst (v := -1) C dX12_turnsTo_57 (by decide) ?_
  refine x_callV (rm := rm_X12_tellOthers) (rest := []) (As := [.int (8 : Int32), .int p1, .int (-1 : Int32)]) C cy_RX12_352 g15 (by decide) (by decide) rfl rfl (Nat.le_of_ble_eq_true rfl) hl.1 dX12_turnsTo_58 (c_X12_tellOthers l D cy a0 (8 : Int32) p1 (-1 : Int32) (stI (stI (stI σ14 b16 p1.toNatClampNeg (0 : Int32)) b22 p1.toNatClampNeg x20) b28 p1.toNatClampNeg x26) _ h) (ks_v (fun σ32 h => ?_))
  refine x_aload_n C dX12_turnsTo_61 rfl (lv_at hl 0 rfl) ?_
  refine x_iload_n C dX12_turnsTo_62 rfl (lv_at hl 1 rfl) ?_
  obtain ⟨g33, h⟩ := h
  refine x_callV (rm := rm_X12_sendTurned) (rest := []) (As := [.int p1]) C cy_RX12_358 g33 (by decide) (by decide) rfl rfl (Nat.le_of_ble_eq_true rfl) hl.1 dX12_turnsTo_63 (c_X12_sendTurned l D cy a0 p1 σ32 _ h) (ks_v (fun σ34 h => ?_))
  exact x_vret C hr dX12_turnsTo_66 ⟨rfl, h⟩
theorem dX12_heldAt_0 : decode cX12_heldAt 0 = .ok (.bipush 16, 2) := by decide +kernel
theorem dX12_heldAt_2 : decode cX12_heldAt 2 = .ok (.iload_n 1, 1) := by decide +kernel
theorem dX12_heldAt_3 : decode cX12_heldAt 3 = .ok (.imul, 1) := by decide +kernel
theorem dX12_heldAt_4 : decode cX12_heldAt 4 = .ok (.istore_n 3, 1) := by decide +kernel
theorem dX12_heldAt_5 : decode cX12_heldAt 5 = .ok (.iload_n 3, 1) := by decide +kernel
theorem dX12_heldAt_6 : decode cX12_heldAt 6 = .ok (.bipush 16, 2) := by decide +kernel
theorem dX12_heldAt_8 : decode cX12_heldAt 8 = .ok (.iload_n 1, 1) := by decide +kernel
theorem dX12_heldAt_9 : decode cX12_heldAt 9 = .ok (.imul, 1) := by decide +kernel
theorem dX12_heldAt_10 : decode cX12_heldAt 10 = .ok (.aload_n 0, 1) := by decide +kernel
theorem dX12_heldAt_11 : decode cX12_heldAt 11 = .ok (.getfield 89, 3) := by decide +kernel
theorem dX12_heldAt_14 : decode cX12_heldAt 14 = .ok (.iload_n 1, 1) := by decide +kernel
theorem dX12_heldAt_15 : decode cX12_heldAt 15 = .ok (.iaload, 1) := by decide +kernel
theorem dX12_heldAt_16 : decode cX12_heldAt 16 = .ok (.iadd, 1) := by decide +kernel
theorem dX12_heldAt_17 : decode cX12_heldAt 17 = .ok (.if_icmp .ge 21, 3) := by decide +kernel
theorem dX12_heldAt_20 : decode cX12_heldAt 20 = .ok (.aload_n 0, 1) := by decide +kernel
theorem dX12_heldAt_21 : decode cX12_heldAt 21 = .ok (.getfield 92, 3) := by decide +kernel
theorem dX12_heldAt_24 : decode cX12_heldAt 24 = .ok (.iload_n 3, 1) := by decide +kernel
theorem dX12_heldAt_25 : decode cX12_heldAt 25 = .ok (.iaload, 1) := by decide +kernel
theorem dX12_heldAt_26 : decode cX12_heldAt 26 = .ok (.iload_n 2, 1) := by decide +kernel
theorem dX12_heldAt_27 : decode cX12_heldAt 27 = .ok (.if_icmp .ne 5, 3) := by decide +kernel
theorem dX12_heldAt_30 : decode cX12_heldAt 30 = .ok (.iload_n 3, 1) := by decide +kernel
theorem dX12_heldAt_31 : decode cX12_heldAt 31 = .ok (.ireturn, 1) := by decide +kernel
theorem dX12_heldAt_32 : decode cX12_heldAt 32 = .ok (.iinc 3 1, 3) := by decide +kernel
theorem dX12_heldAt_35 : decode cX12_heldAt 35 = .ok (.goto (-30), 3) := by decide +kernel
theorem dX12_heldAt_38 : decode cX12_heldAt 38 = .ok (.iconst (-1), 1) := by decide +kernel
theorem dX12_heldAt_39 : decode cX12_heldAt 39 = .ok (.ireturn, 1) := by decide +kernel
abbrev rm_X12_heldAt : Room := { frames := 0, cells := 0, slots := 0, locals := 0 }
def f_X12_heldAt_5 (a0 : Nat)  (Q : Int32 → Sto → Prop) (L5 : Int32 × Int32 × Int32 → Sto → Prop) (t : Int32 × Int32 × Int32) (σ : Sto) : Prop := (sK σ a0 = 12 ∧ (∃ b2 : Nat, sP σ a0 36 = some b2 ∧ (sK σ b2 = 14 ∧ (vp_in t.1 (sN σ b2) ∧ (∀ x6 : Int32, x6 = sI σ b2 t.1.toNatClampNeg → (((((16 : Int32) * t.1) + x6) ≤ t.2.2 → Q (-1 : Int32) σ) ∧ (¬ (((16 : Int32) * t.1) + x6) ≤ t.2.2 → (∃ b9 : Nat, sP σ a0 37 = some b9 ∧ (sK σ b9 = 14 ∧ (vp_in t.2.2 (sN σ b9) ∧ (∀ x13 : Int32, x13 = sI σ b9 t.2.2.toNatClampNeg → ((¬ x13 = t.2.1 → (∀ x16 : Int32, x16 = t.2.2 + (1 : Int32) → L5 (t.1, t.2.1, x16) σ)) ∧ (x13 = t.2.1 → Q t.2.2 σ)))))))))))))
set_option maxHeartbeats 4000000 in
set_option maxRecDepth 100000 in
theorem t_X12_heldAt_5 {p : Program} {l : Launch} {e : Env} {s : State} {m : MethodId} {args : Array Value} {below : List Frame} {meth : Method} {c : Code} {D : va_G} {cy : Nat → ClassId} {A : Nat → Prop} {a0 : Nat} {Q : Int32 → Sto → Prop} {L5 : Int32 × Int32 × Int32 → Sto → Prop} (C : Cx p s m args meth c D cy A cX12_heldAt 4 RX12) (hr : meth.sig.returnType = (some .int)) (hnm : meth.name = yX12_heldAt.name) (hL5 : ∀ (t : Int32 × Int32 × Int32) (σ : Sto), L5 t σ → ∀ ls : Array Slot, lv_has ls 4 [(0, .ref a0), (1, .int t.1), (2, .int t.2.1), (3, .int t.2.2)] → Xw p l e rm_X12_heldAt s m args below meth c D cy A σ 0 0 (MQ below (Qst D cy A (PsI Q)) args s rm_X12_heldAt.cells rm_X12_heldAt.slots A) (F0 m 5 ls [])) : ∀ (t : Int32 × Int32 × Int32) (σ : Sto), f_X12_heldAt_5 a0  Q L5 t σ → ∀ ls : Array Slot, lv_has ls 4 [(0, .ref a0), (1, .int t.1), (2, .int t.2.1), (3, .int t.2.2)] → Xw p l e rm_X12_heldAt s m args below meth c D cy A σ 0 0 (MQ below (Qst D cy A (PsI Q)) args s rm_X12_heldAt.cells rm_X12_heldAt.slots A) (F0 m 5 ls []) := by
  intro t σ h ls hl
  unfold f_X12_heldAt_5 at h
  refine x_iload_n C dX12_heldAt_5 rfl (lv_at hl 3 rfl) ?_
  refine x_bipush (v := 16) C dX12_heldAt_6 (by decide) ?_
  refine x_iload_n C dX12_heldAt_8 rfl (lv_at hl 1 rfl) ?_
  refine x_imul C dX12_heldAt_9 ?_
  refine x_aload_n C dX12_heldAt_10 rfl (lv_at hl 0 rfl) ?_
  obtain ⟨g1, h⟩ := h
  refine x_getP C fl_RX12_89 g1 dX12_heldAt_11 ?_
  refine x_iload_n C dX12_heldAt_14 rfl (lv_at hl 1 rfl) ?_
  obtain ⟨b2, g3, h⟩ := h
  refine x_nn1 g3 ?_
  obtain ⟨g4, h⟩ := h
  obtain ⟨g5, h⟩ := h
  refine x_iald C g4 g5 dX12_heldAt_15 ?_
  refine x_topi (fun x6 e7 => ?_)
  have h := h x6 e7
  refine x_iadd C dX12_heldAt_16 ?_
  refine x_icmp_ge (tgt := 38) C dX12_heldAt_17 (by decide) (fun c8 => ?_) (fun c8 => ?_)
  · have h := h.1 c8
    refine x_iconst (v := -1) C dX12_heldAt_38 (by decide) ?_
    exact x_iret C hr dX12_heldAt_39 ⟨_, rfl, h⟩
  · have h := h.2 c8
    refine x_aload_n C dX12_heldAt_20 rfl (lv_at hl 0 rfl) ?_
    refine x_getP C fl_RX12_92 g1 dX12_heldAt_21 ?_
    refine x_iload_n C dX12_heldAt_24 rfl (lv_at hl 3 rfl) ?_
    obtain ⟨b9, g10, h⟩ := h
    refine x_nn1 g10 ?_
    obtain ⟨g11, h⟩ := h
    obtain ⟨g12, h⟩ := h
    refine x_iald C g11 g12 dX12_heldAt_25 ?_
    refine x_topi (fun x13 e14 => ?_)
    have h := h x13 e14
    refine x_iload_n C dX12_heldAt_26 rfl (lv_at hl 2 rfl) ?_
    refine x_icmp_ne (tgt := 32) C dX12_heldAt_27 (by decide) (fun c15 => ?_) (fun c15 => ?_)
    · have h := h.1 c15
      obtain ⟨x16, e17⟩ : ∃ z : Int32, z = t.2.2 + (1 : Int32) := ⟨_, rfl⟩
      have h := h x16 e17
      refine x_iinc (v := x16) (lv' := [(3, .int x16), (0, .ref a0), (1, .int t.1), (2, .int t.2.1)]) C dX12_heldAt_32 hl (q0 := 3) rfl (by rw [e17]; rfl) (by decide) (by first | rfl | simp [vrc, cat_i, cat_r, cat_l]) (fun ls hl => ?_)
      refine x_goto (tgt := 5) C dX12_heldAt_35 (by decide) ?_
      exact hL5 (t.1, t.2.1, x16) _ h ls (lv_sub hl [1, 2, 3, 0] rfl)
    · have h := h.2 c15
      refine x_iload_n C dX12_heldAt_30 rfl (lv_at hl 3 rfl) ?_
      exact x_iret C hr dX12_heldAt_31 ⟨_, rfl, h⟩
def wp_X12_heldAt (a0 : Nat) (p1 : Int32) (p2 : Int32) (σ : Sto) (Q : Int32 → Sto → Prop) : Prop := (∀ x1 : Int32, x1 = (16 : Int32) * p1 → LF (f_X12_heldAt_5 a0  Q) (p1, p2, x1) σ)
set_option maxHeartbeats 4000000 in
set_option maxRecDepth 100000 in
theorem c_X12_heldAt (l : Launch) (D : va_G) (cy : Nat → ClassId) (a0 : Nat) (p1 : Int32) (p2 : Int32) (σ : Sto) (Q : Int32 → Sto → Prop) (h : wp_X12_heldAt a0 p1 p2 σ Q) : Mt l D cy yX12_heldAt cX12_heldAt 4 (some .int) rm_X12_heldAt [.ref a0, .int p1, .int p2] σ (PsI Q) := by
  unfold wp_X12_heldAt at h
  refine mt_of (by decide +kernel) (Nat.le_of_ble_eq_true rfl) ?_
  intro p e s m args below meth c A ls C hr hnm hl
  have C : Cx p s m args meth c D cy A cX12_heldAt 4 RX12 := C
  have hl : lv_has ls 4 [(0, .ref a0), (1, .int p1), (2, .int p2)] := hl
  refine x_bipush (v := 16) C dX12_heldAt_0 (by decide) ?_
  refine x_iload_n C dX12_heldAt_2 rfl (lv_at hl 1 rfl) ?_
  refine x_imul C dX12_heldAt_3 ?_
  refine x_topi (fun x1 e2 => ?_)
  have h := h x1 e2
  refine x_istore_n (i := 3) (lv' := [(3, .int x1), (0, .ref a0), (1, .int p1), (2, .int p2)]) C dX12_heldAt_4 rfl hl (by decide) (by first | rfl | simp [vrc, cat_i, cat_r, cat_l]) (fun ls hl => ?_)
  exact h (fun t σ => ∀ ls : Array Slot, lv_has ls 4 [(0, .ref a0), (1, .int t.1), (2, .int t.2.1), (3, .int t.2.2)] → Xw p l e rm_X12_heldAt s m args below meth c D cy A σ 0 0 (MQ below (Qst D cy A (PsI Q)) args s rm_X12_heldAt.cells rm_X12_heldAt.slots A) (F0 m 5 ls [])) (t_X12_heldAt_5 C hr hnm  (fun t σ h => h)) ls (lv_sub hl [1, 2, 3, 0] rfl)
theorem dX12_hold_0 : decode cX12_hold 0 = .ok (.aload_n 0, 1) := by decide +kernel
theorem dX12_hold_1 : decode cX12_hold 1 = .ok (.iload_n 1, 1) := by decide +kernel
theorem dX12_hold_2 : decode cX12_hold 2 = .ok (.iload_n 2, 1) := by decide +kernel
theorem dX12_hold_3 : decode cX12_hold 3 = .ok (.invokevirtual 337, 3) := by decide +kernel
theorem dX12_hold_6 : decode cX12_hold 6 = .ok (.istore 4, 2) := by decide +kernel
theorem dX12_hold_8 : decode cX12_hold 8 = .ok (.iload 4, 2) := by decide +kernel
theorem dX12_hold_10 : decode cX12_hold 10 = .ok (.iconst (-1), 1) := by decide +kernel
theorem dX12_hold_11 : decode cX12_hold 11 = .ok (.if_icmp .ne 26, 3) := by decide +kernel
theorem dX12_hold_14 : decode cX12_hold 14 = .ok (.bipush 16, 2) := by decide +kernel
theorem dX12_hold_16 : decode cX12_hold 16 = .ok (.iload_n 1, 1) := by decide +kernel
theorem dX12_hold_17 : decode cX12_hold 17 = .ok (.imul, 1) := by decide +kernel
theorem dX12_hold_18 : decode cX12_hold 18 = .ok (.aload_n 0, 1) := by decide +kernel
theorem dX12_hold_19 : decode cX12_hold 19 = .ok (.getfield 89, 3) := by decide +kernel
theorem dX12_hold_22 : decode cX12_hold 22 = .ok (.iload_n 1, 1) := by decide +kernel
theorem dX12_hold_23 : decode cX12_hold 23 = .ok (.iaload, 1) := by decide +kernel
theorem dX12_hold_24 : decode cX12_hold 24 = .ok (.iadd, 1) := by decide +kernel
theorem dX12_hold_25 : decode cX12_hold 25 = .ok (.istore 4, 2) := by decide +kernel
theorem dX12_hold_27 : decode cX12_hold 27 = .ok (.aload_n 0, 1) := by decide +kernel
theorem dX12_hold_28 : decode cX12_hold 28 = .ok (.getfield 89, 3) := by decide +kernel
theorem dX12_hold_31 : decode cX12_hold 31 = .ok (.iload_n 1, 1) := by decide +kernel
theorem dX12_hold_32 : decode cX12_hold 32 = .ok (.dup2, 1) := by decide +kernel
theorem dX12_hold_33 : decode cX12_hold 33 = .ok (.iaload, 1) := by decide +kernel
theorem dX12_hold_34 : decode cX12_hold 34 = .ok (.iconst 1, 1) := by decide +kernel
theorem dX12_hold_35 : decode cX12_hold 35 = .ok (.iadd, 1) := by decide +kernel
theorem dX12_hold_36 : decode cX12_hold 36 = .ok (.iastore, 1) := by decide +kernel
theorem dX12_hold_37 : decode cX12_hold 37 = .ok (.aload_n 0, 1) := by decide +kernel
theorem dX12_hold_38 : decode cX12_hold 38 = .ok (.getfield 92, 3) := by decide +kernel
theorem dX12_hold_41 : decode cX12_hold 41 = .ok (.iload 4, 2) := by decide +kernel
theorem dX12_hold_43 : decode cX12_hold 43 = .ok (.iload_n 2, 1) := by decide +kernel
theorem dX12_hold_44 : decode cX12_hold 44 = .ok (.iastore, 1) := by decide +kernel
theorem dX12_hold_45 : decode cX12_hold 45 = .ok (.aload_n 0, 1) := by decide +kernel
theorem dX12_hold_46 : decode cX12_hold 46 = .ok (.getfield 95, 3) := by decide +kernel
theorem dX12_hold_49 : decode cX12_hold 49 = .ok (.iload 4, 2) := by decide +kernel
theorem dX12_hold_51 : decode cX12_hold 51 = .ok (.aload_n 0, 1) := by decide +kernel
theorem dX12_hold_52 : decode cX12_hold 52 = .ok (.getfield 30, 3) := by decide +kernel
theorem dX12_hold_55 : decode cX12_hold 55 = .ok (.iload_n 3, 1) := by decide +kernel
theorem dX12_hold_56 : decode cX12_hold 56 = .ok (.iaload, 1) := by decide +kernel
theorem dX12_hold_57 : decode cX12_hold 57 = .ok (.iastore, 1) := by decide +kernel
theorem dX12_hold_58 : decode cX12_hold 58 = .ok (.aload_n 0, 1) := by decide +kernel
theorem dX12_hold_59 : decode cX12_hold 59 = .ok (.getfield 98, 3) := by decide +kernel
theorem dX12_hold_62 : decode cX12_hold 62 = .ok (.iload 4, 2) := by decide +kernel
theorem dX12_hold_64 : decode cX12_hold 64 = .ok (.aload_n 0, 1) := by decide +kernel
theorem dX12_hold_65 : decode cX12_hold 65 = .ok (.getfield 30, 3) := by decide +kernel
theorem dX12_hold_68 : decode cX12_hold 68 = .ok (.iload_n 3, 1) := by decide +kernel
theorem dX12_hold_69 : decode cX12_hold 69 = .ok (.iconst 1, 1) := by decide +kernel
theorem dX12_hold_70 : decode cX12_hold 70 = .ok (.iadd, 1) := by decide +kernel
theorem dX12_hold_71 : decode cX12_hold 71 = .ok (.iaload, 1) := by decide +kernel
theorem dX12_hold_72 : decode cX12_hold 72 = .ok (.iastore, 1) := by decide +kernel
theorem dX12_hold_73 : decode cX12_hold 73 = .ok (.aload_n 0, 1) := by decide +kernel
theorem dX12_hold_74 : decode cX12_hold 74 = .ok (.getfield 101, 3) := by decide +kernel
theorem dX12_hold_77 : decode cX12_hold 77 = .ok (.iload 4, 2) := by decide +kernel
theorem dX12_hold_79 : decode cX12_hold 79 = .ok (.aload_n 0, 1) := by decide +kernel
theorem dX12_hold_80 : decode cX12_hold 80 = .ok (.getfield 30, 3) := by decide +kernel
theorem dX12_hold_83 : decode cX12_hold 83 = .ok (.iload_n 3, 1) := by decide +kernel
theorem dX12_hold_84 : decode cX12_hold 84 = .ok (.iconst 2, 1) := by decide +kernel
theorem dX12_hold_85 : decode cX12_hold 85 = .ok (.iadd, 1) := by decide +kernel
theorem dX12_hold_86 : decode cX12_hold 86 = .ok (.iaload, 1) := by decide +kernel
theorem dX12_hold_87 : decode cX12_hold 87 = .ok (.iastore, 1) := by decide +kernel
theorem dX12_hold_88 : decode cX12_hold 88 = .ok (.aload_n 0, 1) := by decide +kernel
theorem dX12_hold_89 : decode cX12_hold 89 = .ok (.getfield 104, 3) := by decide +kernel
theorem dX12_hold_92 : decode cX12_hold 92 = .ok (.iload 4, 2) := by decide +kernel
theorem dX12_hold_94 : decode cX12_hold 94 = .ok (.aload_n 0, 1) := by decide +kernel
theorem dX12_hold_95 : decode cX12_hold 95 = .ok (.getfield 30, 3) := by decide +kernel
theorem dX12_hold_98 : decode cX12_hold 98 = .ok (.iload_n 3, 1) := by decide +kernel
theorem dX12_hold_99 : decode cX12_hold 99 = .ok (.iconst 3, 1) := by decide +kernel
theorem dX12_hold_100 : decode cX12_hold 100 = .ok (.iadd, 1) := by decide +kernel
theorem dX12_hold_101 : decode cX12_hold 101 = .ok (.iaload, 1) := by decide +kernel
theorem dX12_hold_102 : decode cX12_hold 102 = .ok (.iastore, 1) := by decide +kernel
theorem dX12_hold_103 : decode cX12_hold 103 = .ok (.aload_n 0, 1) := by decide +kernel
theorem dX12_hold_104 : decode cX12_hold 104 = .ok (.getfield 107, 3) := by decide +kernel
theorem dX12_hold_107 : decode cX12_hold 107 = .ok (.iload 4, 2) := by decide +kernel
theorem dX12_hold_109 : decode cX12_hold 109 = .ok (.aload_n 0, 1) := by decide +kernel
theorem dX12_hold_110 : decode cX12_hold 110 = .ok (.getfield 30, 3) := by decide +kernel
theorem dX12_hold_113 : decode cX12_hold 113 = .ok (.iload_n 3, 1) := by decide +kernel
theorem dX12_hold_114 : decode cX12_hold 114 = .ok (.iconst 4, 1) := by decide +kernel
theorem dX12_hold_115 : decode cX12_hold 115 = .ok (.iadd, 1) := by decide +kernel
theorem dX12_hold_116 : decode cX12_hold 116 = .ok (.iaload, 1) := by decide +kernel
theorem dX12_hold_117 : decode cX12_hold 117 = .ok (.iastore, 1) := by decide +kernel
theorem dX12_hold_118 : decode cX12_hold 118 = .ok (.return_, 1) := by decide +kernel
abbrev rm_X12_hold : Room := { frames := 1, cells := 0, slots := 0, locals := 23 }
def b_X12_hold_37 (a0 : Nat)  (Q : Sto → Prop) (p2 : Int32) (p3 : Int32) (p4 : Int32) (σ : Sto) : Prop := (sK σ a0 = 12 ∧ (∃ b2 : Nat, sP σ a0 37 = some b2 ∧ (sK σ b2 = 14 ∧ (vp_in p4 (sN σ b2) ∧ (∃ b6 : Nat, sP σ a0 15 = some b6 ∧ (sK σ b6 = 14 ∧ (vp_in p3 (sN σ b6) ∧ (∀ x10 : Int32, x10 = sI (stI σ b2 p4.toNatClampNeg p2) b6 p3.toNatClampNeg → (∃ b12 : Nat, sP σ a0 38 = some b12 ∧ (sK σ b12 = 14 ∧ (vp_in p4 (sN σ b12) ∧ (∀ x16 : Int32, x16 = p3 + (1 : Int32) → (vp_in x16 (sN σ b6) ∧ (∀ x19 : Int32, x19 = sI (stI (stI σ b2 p4.toNatClampNeg p2) b12 p4.toNatClampNeg x10) b6 x16.toNatClampNeg → (∃ b21 : Nat, sP σ a0 39 = some b21 ∧ (sK σ b21 = 14 ∧ (vp_in p4 (sN σ b21) ∧ (∀ x25 : Int32, x25 = p3 + (2 : Int32) → (vp_in x25 (sN σ b6) ∧ (∀ x28 : Int32, x28 = sI (stI (stI (stI σ b2 p4.toNatClampNeg p2) b12 p4.toNatClampNeg x10) b21 p4.toNatClampNeg x19) b6 x25.toNatClampNeg → (∃ b30 : Nat, sP σ a0 40 = some b30 ∧ (sK σ b30 = 14 ∧ (vp_in p4 (sN σ b30) ∧ (∀ x34 : Int32, x34 = p3 + (3 : Int32) → (vp_in x34 (sN σ b6) ∧ (∀ x37 : Int32, x37 = sI (stI (stI (stI (stI σ b2 p4.toNatClampNeg p2) b12 p4.toNatClampNeg x10) b21 p4.toNatClampNeg x19) b30 p4.toNatClampNeg x28) b6 x34.toNatClampNeg → (∃ b39 : Nat, sP σ a0 41 = some b39 ∧ (sK σ b39 = 14 ∧ (vp_in p4 (sN σ b39) ∧ (∀ x43 : Int32, x43 = p3 + (4 : Int32) → (vp_in x43 (sN σ b6) ∧ (∀ x46 : Int32, x46 = sI (stI (stI (stI (stI (stI σ b2 p4.toNatClampNeg p2) b12 p4.toNatClampNeg x10) b21 p4.toNatClampNeg x19) b30 p4.toNatClampNeg x28) b39 p4.toNatClampNeg x37) b6 x43.toNatClampNeg → (∃ b48 : Nat, sP σ a0 42 = some b48 ∧ (sK σ b48 = 14 ∧ (vp_in p4 (sN σ b48) ∧ Q (stI (stI (stI (stI (stI (stI σ b2 p4.toNatClampNeg p2) b12 p4.toNatClampNeg x10) b21 p4.toNatClampNeg x19) b30 p4.toNatClampNeg x28) b39 p4.toNatClampNeg x37) b48 p4.toNatClampNeg x46))))))))))))))))))))))))))))))))))))
set_option maxHeartbeats 4000000 in
set_option maxRecDepth 100000 in
theorem t_X12_hold_37 {p : Program} {l : Launch} {e : Env} {s : State} {m : MethodId} {args : Array Value} {below : List Frame} {meth : Method} {c : Code} {D : va_G} {cy : Nat → ClassId} {A : Nat → Prop} {a0 : Nat} {Q : Sto → Prop} (C : Cx p s m args meth c D cy A cX12_hold 5 RX12) (hr : meth.sig.returnType = none) (hnm : meth.name = yX12_hold.name) (p2 : Int32) (p3 : Int32) (p4 : Int32) (σ : Sto) (h : b_X12_hold_37 a0  Q p2 p3 p4 σ) (ls : Array Slot) (hl : lv_has ls 5 [(0, .ref a0), (2, .int p2), (3, .int p3), (4, .int p4)]) : Xw p l e rm_X12_hold s m args below meth c D cy A σ 0 0 (MQ below (Qst D cy A (PsV Q)) args s rm_X12_hold.cells rm_X12_hold.slots A) (F0 m 37 ls []) := by
  unfold b_X12_hold_37 at h
  refine x_aload_n C dX12_hold_37 rfl (lv_at hl 0 rfl) ?_
  obtain ⟨g1, h⟩ := h
  refine x_getP C fl_RX12_92 g1 dX12_hold_38 ?_
  refine x_iload C dX12_hold_41 (lv_at hl 3 rfl) ?_
  refine x_iload_n C dX12_hold_43 rfl (lv_at hl 1 rfl) ?_
  obtain ⟨b2, g3, h⟩ := h
  refine x_nn2 g3 ?_
  obtain ⟨g4, h⟩ := h
  obtain ⟨g5, h⟩ := h
  refine x_iast C g4 g5 dX12_hold_44 ?_
  refine x_aload_n C dX12_hold_45 rfl (lv_at hl 0 rfl) ?_
  refine x_getP C fl_RX12_95 g1 dX12_hold_46 ?_
  refine x_iload C dX12_hold_49 (lv_at hl 3 rfl) ?_
  refine x_aload_n C dX12_hold_51 rfl (lv_at hl 0 rfl) ?_
  refine x_getP C fl_RX12_30 g1 dX12_hold_52 ?_
  refine x_iload_n C dX12_hold_55 rfl (lv_at hl 2 rfl) ?_
  obtain ⟨b6, g7, h⟩ := h
  refine x_nn1 g7 ?_
  obtain ⟨g8, h⟩ := h
  obtain ⟨g9, h⟩ := h
  refine x_iald C g8 g9 dX12_hold_56 ?_
  refine x_topi (fun x10 e11 => ?_)
  have h := h x10 e11
  obtain ⟨b12, g13, h⟩ := h
  refine x_nn2 g13 ?_
  obtain ⟨g14, h⟩ := h
  obtain ⟨g15, h⟩ := h
  refine x_iast C g14 g15 dX12_hold_57 ?_
  refine x_aload_n C dX12_hold_58 rfl (lv_at hl 0 rfl) ?_
  refine x_getP C fl_RX12_98 g1 dX12_hold_59 ?_
  refine x_iload C dX12_hold_62 (lv_at hl 3 rfl) ?_
  refine x_aload_n C dX12_hold_64 rfl (lv_at hl 0 rfl) ?_
  refine x_getP C fl_RX12_30 g1 dX12_hold_65 ?_
  refine x_iload_n C dX12_hold_68 rfl (lv_at hl 2 rfl) ?_
  refine x_iconst (v := 1) C dX12_hold_69 (by decide) ?_
  refine x_iadd C dX12_hold_70 ?_
  refine x_topi (fun x16 e17 => ?_)
  have h := h x16 e17
  refine x_nn1 g7 ?_
  obtain ⟨g18, h⟩ := h
  refine x_iald C g8 g18 dX12_hold_71 ?_
  refine x_topi (fun x19 e20 => ?_)
  have h := h x19 e20
  obtain ⟨b21, g22, h⟩ := h
  refine x_nn2 g22 ?_
  obtain ⟨g23, h⟩ := h
  obtain ⟨g24, h⟩ := h
  refine x_iast C g23 g24 dX12_hold_72 ?_
  refine x_aload_n C dX12_hold_73 rfl (lv_at hl 0 rfl) ?_
  refine x_getP C fl_RX12_101 g1 dX12_hold_74 ?_
  refine x_iload C dX12_hold_77 (lv_at hl 3 rfl) ?_
  refine x_aload_n C dX12_hold_79 rfl (lv_at hl 0 rfl) ?_
  refine x_getP C fl_RX12_30 g1 dX12_hold_80 ?_
  refine x_iload_n C dX12_hold_83 rfl (lv_at hl 2 rfl) ?_
  refine x_iconst (v := 2) C dX12_hold_84 (by decide) ?_
  refine x_iadd C dX12_hold_85 ?_
  refine x_topi (fun x25 e26 => ?_)
  have h := h x25 e26
  refine x_nn1 g7 ?_
  obtain ⟨g27, h⟩ := h
  refine x_iald C g8 g27 dX12_hold_86 ?_
  refine x_topi (fun x28 e29 => ?_)
  have h := h x28 e29
  obtain ⟨b30, g31, h⟩ := h
  refine x_nn2 g31 ?_
  obtain ⟨g32, h⟩ := h
  obtain ⟨g33, h⟩ := h
  refine x_iast C g32 g33 dX12_hold_87 ?_
  refine x_aload_n C dX12_hold_88 rfl (lv_at hl 0 rfl) ?_
  refine x_getP C fl_RX12_104 g1 dX12_hold_89 ?_
  refine x_iload C dX12_hold_92 (lv_at hl 3 rfl) ?_
  refine x_aload_n C dX12_hold_94 rfl (lv_at hl 0 rfl) ?_
  refine x_getP C fl_RX12_30 g1 dX12_hold_95 ?_
  refine x_iload_n C dX12_hold_98 rfl (lv_at hl 2 rfl) ?_
  refine x_iconst (v := 3) C dX12_hold_99 (by decide) ?_
  refine x_iadd C dX12_hold_100 ?_
  refine x_topi (fun x34 e35 => ?_)
  have h := h x34 e35
  refine x_nn1 g7 ?_
  obtain ⟨g36, h⟩ := h
  refine x_iald C g8 g36 dX12_hold_101 ?_
  refine x_topi (fun x37 e38 => ?_)
  have h := h x37 e38
  obtain ⟨b39, g40, h⟩ := h
  refine x_nn2 g40 ?_
  obtain ⟨g41, h⟩ := h
  obtain ⟨g42, h⟩ := h
  refine x_iast C g41 g42 dX12_hold_102 ?_
  refine x_aload_n C dX12_hold_103 rfl (lv_at hl 0 rfl) ?_
  refine x_getP C fl_RX12_107 g1 dX12_hold_104 ?_
  refine x_iload C dX12_hold_107 (lv_at hl 3 rfl) ?_
  refine x_aload_n C dX12_hold_109 rfl (lv_at hl 0 rfl) ?_
  refine x_getP C fl_RX12_30 g1 dX12_hold_110 ?_
  refine x_iload_n C dX12_hold_113 rfl (lv_at hl 2 rfl) ?_
  refine x_iconst (v := 4) C dX12_hold_114 (by decide) ?_
  refine x_iadd C dX12_hold_115 ?_
  refine x_topi (fun x43 e44 => ?_)
  have h := h x43 e44
  refine x_nn1 g7 ?_
  obtain ⟨g45, h⟩ := h
  refine x_iald C g8 g45 dX12_hold_116 ?_
  refine x_topi (fun x46 e47 => ?_)
  have h := h x46 e47
  obtain ⟨b48, g49, h⟩ := h
  refine x_nn2 g49 ?_
  obtain ⟨g50, h⟩ := h
  obtain ⟨g51, h⟩ := h
  refine x_iast C g50 g51 dX12_hold_117 ?_
  exact x_vret C hr dX12_hold_118 ⟨rfl, h⟩
def wp_X12_hold (a0 : Nat) (p1 : Int32) (p2 : Int32) (p3 : Int32) (σ : Sto) (Q : Sto → Prop) : Prop := (sK σ a0 = 12 ∧ (wp_X12_heldAt a0 p1 p2 σ (fun (x3 : Int32) (σ2 : Sto) => ((¬ x3 = (-1 : Int32) → b_X12_hold_37 a0  Q p2 p3 x3 σ2) ∧ (x3 = (-1 : Int32) → (sK σ2 a0 = 12 ∧ (∃ b6 : Nat, sP σ2 a0 36 = some b6 ∧ (sK σ2 b6 = 14 ∧ (vp_in p1 (sN σ2 b6) ∧ (∀ x10 : Int32, x10 = sI σ2 b6 p1.toNatClampNeg → (∀ x12 : Int32, x12 = ((16 : Int32) * p1) + x10 → (vp_in p1 (sN σ2 b6) ∧ (∀ x15 : Int32, x15 = sI σ2 b6 p1.toNatClampNeg → (∀ x17 : Int32, x17 = x15 + (1 : Int32) → (vp_in p1 (sN σ2 b6) ∧ b_X12_hold_37 a0  Q p2 p3 x12 (stI σ2 b6 p1.toNatClampNeg x17))))))))))))))))
set_option maxHeartbeats 4000000 in
set_option maxRecDepth 100000 in
theorem c_X12_hold (l : Launch) (D : va_G) (cy : Nat → ClassId) (a0 : Nat) (p1 : Int32) (p2 : Int32) (p3 : Int32) (σ : Sto) (Q : Sto → Prop) (h : wp_X12_hold a0 p1 p2 p3 σ Q) : Mt l D cy yX12_hold cX12_hold 5 none rm_X12_hold [.ref a0, .int p1, .int p2, .int p3] σ (PsV Q) := by
  unfold wp_X12_hold at h
  refine mt_of (by decide +kernel) (Nat.le_of_ble_eq_true rfl) ?_
  intro p e s m args below meth c A ls C hr hnm hl
  have C : Cx p s m args meth c D cy A cX12_hold 5 RX12 := C
  have hl : lv_has ls 5 [(0, .ref a0), (1, .int p1), (2, .int p2), (3, .int p3)] := hl
  refine x_aload_n C dX12_hold_0 rfl (lv_at hl 0 rfl) ?_
  refine x_iload_n C dX12_hold_1 rfl (lv_at hl 1 rfl) ?_
  refine x_iload_n C dX12_hold_2 rfl (lv_at hl 2 rfl) ?_
  obtain ⟨g1, h⟩ := h
  refine x_callV (rm := rm_X12_heldAt) (rest := []) (As := [.int p1, .int p2]) C cy_RX12_337 g1 (by decide) (by decide) rfl rfl (Nat.le_of_ble_eq_true rfl) hl.1 dX12_hold_3 (c_X12_heldAt l D cy a0 p1 p2 σ _ h) (ks_i (fun x3 σ2 h => ?_))
  refine x_istore (i := 4) (lv' := [(4, .int x3), (0, .ref a0), (1, .int p1), (2, .int p2), (3, .int p3)]) C dX12_hold_6 hl (by decide) (by first | rfl | simp [vrc, cat_i, cat_r, cat_l]) (fun ls hl => ?_)
  refine x_iload C dX12_hold_8 (lv_at hl 0 rfl) ?_
  refine x_iconst (v := -1) C dX12_hold_10 (by decide) ?_
  refine x_icmp_ne (tgt := 37) C dX12_hold_11 (by decide) (fun c4 => ?_) (fun c4 => ?_)
  · have h := h.1 c4
    exact t_X12_hold_37 C hr hnm  p2 p3 x3 _ h ls (lv_sub hl [1, 3, 4, 0] rfl)
  · have h := h.2 c4
    refine x_bipush (v := 16) C dX12_hold_14 (by decide) ?_
    refine x_iload_n C dX12_hold_16 rfl (lv_at hl 2 rfl) ?_
    refine x_imul C dX12_hold_17 ?_
    refine x_aload_n C dX12_hold_18 rfl (lv_at hl 1 rfl) ?_
    obtain ⟨g5, h⟩ := h
    refine x_getP C fl_RX12_89 g5 dX12_hold_19 ?_
    refine x_iload_n C dX12_hold_22 rfl (lv_at hl 2 rfl) ?_
    obtain ⟨b6, g7, h⟩ := h
    refine x_nn1 g7 ?_
    obtain ⟨g8, h⟩ := h
    obtain ⟨g9, h⟩ := h
    refine x_iald C g8 g9 dX12_hold_23 ?_
    refine x_topi (fun x10 e11 => ?_)
    have h := h x10 e11
    refine x_iadd C dX12_hold_24 ?_
    refine x_topi (fun x12 e13 => ?_)
    have h := h x12 e13
    refine x_istore (i := 4) (lv' := [(4, .int x12), (0, .ref a0), (1, .int p1), (2, .int p2), (3, .int p3)]) C dX12_hold_25 hl (by decide) (by first | rfl | simp [vrc, cat_i, cat_r, cat_l]) (fun ls hl => ?_)
    refine x_aload_n C dX12_hold_27 rfl (lv_at hl 1 rfl) ?_
    refine x_getP C fl_RX12_89 g5 dX12_hold_28 ?_
    refine x_iload_n C dX12_hold_31 rfl (lv_at hl 2 rfl) ?_
    refine x_dup2 C dX12_hold_32 (rfl) (vrc _) ?_
    refine x_nn1 g7 ?_
    obtain ⟨g14, h⟩ := h
    refine x_iald C g8 g14 dX12_hold_33 ?_
    refine x_topi (fun x15 e16 => ?_)
    have h := h x15 e16
    refine x_iconst (v := 1) C dX12_hold_34 (by decide) ?_
    refine x_iadd C dX12_hold_35 ?_
    refine x_topi (fun x17 e18 => ?_)
    have h := h x17 e18
    refine x_nn2 g7 ?_
    obtain ⟨g19, h⟩ := h
    refine x_iast C g8 g19 dX12_hold_36 ?_
    exact t_X12_hold_37 C hr hnm  p2 p3 x12 _ h ls (lv_sub hl [1, 3, 4, 0] rfl)
