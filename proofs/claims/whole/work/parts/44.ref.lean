theorem dX12_takes_0 : decode cX12_takes 0 = .ok (.aload_n 0, 1) := by decide +kernel
theorem dX12_takes_1 : decode cX12_takes 1 = .ok (.iload_n 1, 1) := by decide +kernel
theorem dX12_takes_2 : decode cX12_takes 2 = .ok (.aload_n 0, 1) := by decide +kernel
theorem dX12_takes_3 : decode cX12_takes 3 = .ok (.getfield 59, 3) := by decide +kernel
theorem dX12_takes_6 : decode cX12_takes 6 = .ok (.iload_n 1, 1) := by decide +kernel
theorem dX12_takes_7 : decode cX12_takes 7 = .ok (.iaload, 1) := by decide +kernel
theorem dX12_takes_8 : decode cX12_takes 8 = .ok (.iconst 1, 1) := by decide +kernel
theorem dX12_takes_9 : decode cX12_takes 9 = .ok (.iadd, 1) := by decide +kernel
theorem dX12_takes_10 : decode cX12_takes 10 = .ok (.aload_n 0, 1) := by decide +kernel
theorem dX12_takes_11 : decode cX12_takes 11 = .ok (.getfield 62, 3) := by decide +kernel
theorem dX12_takes_14 : decode cX12_takes 14 = .ok (.iload_n 1, 1) := by decide +kernel
theorem dX12_takes_15 : decode cX12_takes 15 = .ok (.iaload, 1) := by decide +kernel
theorem dX12_takes_16 : decode cX12_takes 16 = .ok (.isub, 1) := by decide +kernel
theorem dX12_takes_17 : decode cX12_takes 17 = .ok (.invokevirtual 337, 3) := by decide +kernel
theorem dX12_takes_20 : decode cX12_takes 20 = .ok (.istore_n 2, 1) := by decide +kernel
theorem dX12_takes_21 : decode cX12_takes 21 = .ok (.iload_n 2, 1) := by decide +kernel
theorem dX12_takes_22 : decode cX12_takes 22 = .ok (.iconst (-1), 1) := by decide +kernel
theorem dX12_takes_23 : decode cX12_takes 23 = .ok (.if_icmp .eq 44, 3) := by decide +kernel
theorem dX12_takes_26 : decode cX12_takes 26 = .ok (.aload_n 0, 1) := by decide +kernel
theorem dX12_takes_27 : decode cX12_takes 27 = .ok (.getfield 59, 3) := by decide +kernel
theorem dX12_takes_30 : decode cX12_takes 30 = .ok (.iload_n 1, 1) := by decide +kernel
theorem dX12_takes_31 : decode cX12_takes 31 = .ok (.iaload, 1) := by decide +kernel
theorem dX12_takes_32 : decode cX12_takes 32 = .ok (.bipush 100, 2) := by decide +kernel
theorem dX12_takes_34 : decode cX12_takes 34 = .ok (.if_icmp .ge 33, 3) := by decide +kernel
theorem dX12_takes_37 : decode cX12_takes 37 = .ok (.aload_n 0, 1) := by decide +kernel
theorem dX12_takes_38 : decode cX12_takes 38 = .ok (.iload_n 1, 1) := by decide +kernel
theorem dX12_takes_39 : decode cX12_takes 39 = .ok (.iload_n 2, 1) := by decide +kernel
theorem dX12_takes_40 : decode cX12_takes 40 = .ok (.invokevirtual 346, 3) := by decide +kernel
theorem dX12_takes_43 : decode cX12_takes 43 = .ok (.aload_n 0, 1) := by decide +kernel
theorem dX12_takes_44 : decode cX12_takes 44 = .ok (.iload_n 1, 1) := by decide +kernel
theorem dX12_takes_45 : decode cX12_takes 45 = .ok (.aload_n 0, 1) := by decide +kernel
theorem dX12_takes_46 : decode cX12_takes 46 = .ok (.getfield 59, 3) := by decide +kernel
theorem dX12_takes_49 : decode cX12_takes 49 = .ok (.iload_n 1, 1) := by decide +kernel
theorem dX12_takes_50 : decode cX12_takes 50 = .ok (.iaload, 1) := by decide +kernel
theorem dX12_takes_51 : decode cX12_takes 51 = .ok (.iconst 1, 1) := by decide +kernel
theorem dX12_takes_52 : decode cX12_takes 52 = .ok (.iadd, 1) := by decide +kernel
theorem dX12_takes_53 : decode cX12_takes 53 = .ok (.aload_n 0, 1) := by decide +kernel
theorem dX12_takes_54 : decode cX12_takes 54 = .ok (.getfield 62, 3) := by decide +kernel
theorem dX12_takes_57 : decode cX12_takes 57 = .ok (.iload_n 1, 1) := by decide +kernel
theorem dX12_takes_58 : decode cX12_takes 58 = .ok (.iaload, 1) := by decide +kernel
theorem dX12_takes_59 : decode cX12_takes 59 = .ok (.isub, 1) := by decide +kernel
theorem dX12_takes_60 : decode cX12_takes 60 = .ok (.invokevirtual 337, 3) := by decide +kernel
theorem dX12_takes_63 : decode cX12_takes 63 = .ok (.istore_n 2, 1) := by decide +kernel
theorem dX12_takes_64 : decode cX12_takes 64 = .ok (.goto (-43), 3) := by decide +kernel
theorem dX12_takes_67 : decode cX12_takes 67 = .ok (.aload_n 0, 1) := by decide +kernel
theorem dX12_takes_68 : decode cX12_takes 68 = .ok (.getfield 89, 3) := by decide +kernel
theorem dX12_takes_71 : decode cX12_takes 71 = .ok (.iload_n 1, 1) := by decide +kernel
theorem dX12_takes_72 : decode cX12_takes 72 = .ok (.iaload, 1) := by decide +kernel
theorem dX12_takes_73 : decode cX12_takes 73 = .ok (.ifCond .eq 14, 3) := by decide +kernel
theorem dX12_takes_76 : decode cX12_takes 76 = .ok (.aload_n 0, 1) := by decide +kernel
theorem dX12_takes_77 : decode cX12_takes 77 = .ok (.getfield 59, 3) := by decide +kernel
theorem dX12_takes_80 : decode cX12_takes 80 = .ok (.iload_n 1, 1) := by decide +kernel
theorem dX12_takes_81 : decode cX12_takes 81 = .ok (.iaload, 1) := by decide +kernel
theorem dX12_takes_82 : decode cX12_takes 82 = .ok (.bipush 100, 2) := by decide +kernel
theorem dX12_takes_84 : decode cX12_takes 84 = .ok (.if_icmp .ne 4, 3) := by decide +kernel
theorem dX12_takes_87 : decode cX12_takes 87 = .ok (.return_, 1) := by decide +kernel
theorem dX12_takes_88 : decode cX12_takes 88 = .ok (.aload_n 0, 1) := by decide +kernel
theorem dX12_takes_89 : decode cX12_takes 89 = .ok (.getfield 155, 3) := by decide +kernel
theorem dX12_takes_92 : decode cX12_takes 92 = .ok (.iload_n 1, 1) := by decide +kernel
theorem dX12_takes_93 : decode cX12_takes 93 = .ok (.aload_n 0, 1) := by decide +kernel
theorem dX12_takes_94 : decode cX12_takes 94 = .ok (.getfield 318, 3) := by decide +kernel
theorem dX12_takes_97 : decode cX12_takes 97 = .ok (.iastore, 1) := by decide +kernel
theorem dX12_takes_98 : decode cX12_takes 98 = .ok (.aload_n 0, 1) := by decide +kernel
theorem dX12_takes_99 : decode cX12_takes 99 = .ok (.iload_n 1, 1) := by decide +kernel
theorem dX12_takes_100 : decode cX12_takes 100 = .ok (.invokevirtual 327, 3) := by decide +kernel
theorem dX12_takes_103 : decode cX12_takes 103 = .ok (.ifCond .eq 37, 3) := by decide +kernel
theorem dX12_takes_106 : decode cX12_takes 106 = .ok (.aload_n 0, 1) := by decide +kernel
theorem dX12_takes_107 : decode cX12_takes 107 = .ok (.iload_n 1, 1) := by decide +kernel
theorem dX12_takes_108 : decode cX12_takes 108 = .ok (.invokevirtual 349, 3) := by decide +kernel
theorem dX12_takes_111 : decode cX12_takes 111 = .ok (.aload_n 0, 1) := by decide +kernel
theorem dX12_takes_112 : decode cX12_takes 112 = .ok (.getfield 50, 3) := by decide +kernel
theorem dX12_takes_115 : decode cX12_takes 115 = .ok (.iload_n 1, 1) := by decide +kernel
theorem dX12_takes_116 : decode cX12_takes 116 = .ok (.iconst 1, 1) := by decide +kernel
theorem dX12_takes_117 : decode cX12_takes 117 = .ok (.iastore, 1) := by decide +kernel
theorem dX12_takes_118 : decode cX12_takes 118 = .ok (.aload_n 0, 1) := by decide +kernel
theorem dX12_takes_119 : decode cX12_takes 119 = .ok (.getfield 110, 3) := by decide +kernel
theorem dX12_takes_122 : decode cX12_takes 122 = .ok (.iload_n 1, 1) := by decide +kernel
theorem dX12_takes_123 : decode cX12_takes 123 = .ok (.iconst 0, 1) := by decide +kernel
theorem dX12_takes_124 : decode cX12_takes 124 = .ok (.iastore, 1) := by decide +kernel
theorem dX12_takes_125 : decode cX12_takes 125 = .ok (.aload_n 0, 1) := by decide +kernel
theorem dX12_takes_126 : decode cX12_takes 126 = .ok (.iconst 3, 1) := by decide +kernel
theorem dX12_takes_127 : decode cX12_takes 127 = .ok (.iload_n 1, 1) := by decide +kernel
theorem dX12_takes_128 : decode cX12_takes 128 = .ok (.aload_n 0, 1) := by decide +kernel
theorem dX12_takes_129 : decode cX12_takes 129 = .ok (.getfield 59, 3) := by decide +kernel
theorem dX12_takes_132 : decode cX12_takes 132 = .ok (.iload_n 1, 1) := by decide +kernel
theorem dX12_takes_133 : decode cX12_takes 133 = .ok (.iaload, 1) := by decide +kernel
theorem dX12_takes_134 : decode cX12_takes 134 = .ok (.invokevirtual 352, 3) := by decide +kernel
theorem dX12_takes_137 : decode cX12_takes 137 = .ok (.goto 22, 3) := by decide +kernel
theorem dX12_takes_140 : decode cX12_takes 140 = .ok (.aload_n 0, 1) := by decide +kernel
theorem dX12_takes_141 : decode cX12_takes 141 = .ok (.iconst 1, 1) := by decide +kernel
theorem dX12_takes_142 : decode cX12_takes 142 = .ok (.iload_n 1, 1) := by decide +kernel
theorem dX12_takes_143 : decode cX12_takes 143 = .ok (.aload_n 0, 1) := by decide +kernel
theorem dX12_takes_144 : decode cX12_takes 144 = .ok (.iload_n 1, 1) := by decide +kernel
theorem dX12_takes_145 : decode cX12_takes 145 = .ok (.invokevirtual 324, 3) := by decide +kernel
theorem dX12_takes_148 : decode cX12_takes 148 = .ok (.aload_n 0, 1) := by decide +kernel
theorem dX12_takes_149 : decode cX12_takes 149 = .ok (.getfield 59, 3) := by decide +kernel
theorem dX12_takes_152 : decode cX12_takes 152 = .ok (.iload_n 1, 1) := by decide +kernel
theorem dX12_takes_153 : decode cX12_takes 153 = .ok (.iaload, 1) := by decide +kernel
theorem dX12_takes_154 : decode cX12_takes 154 = .ok (.iconst 1, 1) := by decide +kernel
theorem dX12_takes_155 : decode cX12_takes 155 = .ok (.iadd, 1) := by decide +kernel
theorem dX12_takes_156 : decode cX12_takes 156 = .ok (.invokevirtual 300, 3) := by decide +kernel
theorem dX12_takes_159 : decode cX12_takes 159 = .ok (.return_, 1) := by decide +kernel
abbrev rm_X12_takes : Room := { frames := 4, cells := 0, slots := 0, locals := 91 }
def b_X12_takes_67 (a0 : Nat)  (Q : Sto → Prop) (p1 : Int32) (σ : Sto) : Prop := (sK σ a0 = 12 ∧ (∃ b2 : Nat, sP σ a0 36 = some b2 ∧ (sK σ b2 = 14 ∧ (vp_in p1 (sN σ b2) ∧ (∀ x6 : Int32, x6 = sI σ b2 p1.toNatClampNeg → ((x6 = 0 → Q σ) ∧ (¬ x6 = 0 → (∃ b9 : Nat, sP σ a0 26 = some b9 ∧ (sK σ b9 = 14 ∧ (vp_in p1 (sN σ b9) ∧ (∀ x13 : Int32, x13 = sI σ b9 p1.toNatClampNeg → ((¬ x13 = (100 : Int32) → (∀ x16 : Int32, x16 = sI σ a0 4 → (∃ b18 : Nat, sP σ a0 58 = some b18 ∧ (sK σ b18 = 14 ∧ (vp_in p1 (sN σ b18) ∧ (wp_X12_leads a0 p1 (stI σ b18 p1.toNatClampNeg x16) (fun (x23 : Int32) (σ22 : Sto) => ((x23 = 0 → (sK σ22 a0 = 12 ∧ (wp_X12_leader a0 p1 σ22 (fun (x27 : Int32) (σ26 : Sto) => (sK σ26 a0 = 12 ∧ (∃ b29 : Nat, sP σ26 a0 26 = some b29 ∧ (sK σ26 b29 = 14 ∧ (vp_in p1 (sN σ26 b29) ∧ (∀ x33 : Int32, x33 = sI σ26 b29 p1.toNatClampNeg → (wp_X12_tell a0 (1 : Int32) p1 x27 (x33 + (1 : Int32)) σ26 (fun (σ35 : Sto) => Q σ35))))))))))) ∧ (¬ x23 = 0 → (sK σ22 a0 = 12 ∧ (wp_X12_addNothing a0 p1 σ22 (fun (σ37 : Sto) => (sK σ37 a0 = 12 ∧ (∃ b39 : Nat, sP σ37 a0 23 = some b39 ∧ (sK σ37 b39 = 14 ∧ (vp_in p1 (sN σ37 b39) ∧ (∃ b43 : Nat, sP σ37 a0 43 = some b43 ∧ (sK σ37 b43 = 14 ∧ (vp_in p1 (sN σ37 b43) ∧ (∃ b47 : Nat, sP σ37 a0 26 = some b47 ∧ (sK σ37 b47 = 14 ∧ (vp_in p1 (sN σ37 b47) ∧ (∀ x51 : Int32, x51 = sI (stI (stI σ37 b39 p1.toNatClampNeg (1 : Int32)) b43 p1.toNatClampNeg (0 : Int32)) b47 p1.toNatClampNeg → (wp_X12_tellOthers a0 (3 : Int32) p1 x51 (stI (stI σ37 b39 p1.toNatClampNeg (1 : Int32)) b43 p1.toNatClampNeg (0 : Int32)) (fun (σ53 : Sto) => Q σ53))))))))))))))))))))))))) ∧ (x13 = (100 : Int32) → Q σ)))))))))))))
set_option maxHeartbeats 4000000 in
set_option maxRecDepth 100000 in
theorem t_X12_takes_67 {p : Program} {l : Launch} {e : Env} {s : State} {m : MethodId} {args : Array Value} {below : List Frame} {meth : Method} {c : Code} {D : va_G} {cy : Nat → ClassId} {A : Nat → Prop} {a0 : Nat} {Q : Sto → Prop} (C : Cx p s m args meth c D cy A cX12_takes 3 RX12) (hr : meth.sig.returnType = none) (hnm : meth.name = yX12_takes.name) (p1 : Int32) (σ : Sto) (h : b_X12_takes_67 a0  Q p1 σ) (ls : Array Slot) (hl : lv_has ls 3 [(0, .ref a0), (1, .int p1)]) : Xw p l e rm_X12_takes s m args below meth c D cy A σ 0 0 (MQ below (Qst D cy A (PsV Q)) args s rm_X12_takes.cells rm_X12_takes.slots A) (F0 m 67 ls []) := by
  unfold b_X12_takes_67 at h
  refine x_aload_n C dX12_takes_67 rfl (lv_at hl 0 rfl) ?_
  obtain ⟨g1, h⟩ := h
  refine x_getP C fl_RX12_89 g1 dX12_takes_68 ?_
  refine x_iload_n C dX12_takes_71 rfl (lv_at hl 1 rfl) ?_
  obtain ⟨b2, g3, h⟩ := h
  refine x_nn1 g3 ?_
  obtain ⟨g4, h⟩ := h
  obtain ⟨g5, h⟩ := h
  refine x_iald C g4 g5 dX12_takes_72 ?_
  refine x_topi (fun x6 e7 => ?_)
  have h := h x6 e7
  refine x_if_eq (tgt := 87) C dX12_takes_73 (by decide) (fun c8 => ?_) (fun c8 => ?_)
  · have h := h.1 c8
    exact x_vret C hr dX12_takes_87 ⟨rfl, h⟩
  · have h := h.2 c8
    refine x_aload_n C dX12_takes_76 rfl (lv_at hl 0 rfl) ?_
    refine x_getP C fl_RX12_59 g1 dX12_takes_77 ?_
    refine x_iload_n C dX12_takes_80 rfl (lv_at hl 1 rfl) ?_
    obtain ⟨b9, g10, h⟩ := h
    refine x_nn1 g10 ?_
    obtain ⟨g11, h⟩ := h
    obtain ⟨g12, h⟩ := h
    refine x_iald C g11 g12 dX12_takes_81 ?_
    refine x_topi (fun x13 e14 => ?_)
    have h := h x13 e14
    refine x_bipush (v := 100) C dX12_takes_82 (by decide) ?_
    refine x_icmp_ne (tgt := 88) C dX12_takes_84 (by decide) (fun c15 => ?_) (fun c15 => ?_)
    · have h := h.1 c15
      refine x_aload_n C dX12_takes_88 rfl (lv_at hl 0 rfl) ?_
      refine x_getP C fl_RX12_155 g1 dX12_takes_89 ?_
      refine x_iload_n C dX12_takes_92 rfl (lv_at hl 1 rfl) ?_
      refine x_aload_n C dX12_takes_93 rfl (lv_at hl 0 rfl) ?_
      refine x_getI C fl_RX12_318 g1 dX12_takes_94 ?_
      refine x_topi (fun x16 e17 => ?_)
      have h := h x16 e17
      obtain ⟨b18, g19, h⟩ := h
      refine x_nn2 g19 ?_
      obtain ⟨g20, h⟩ := h
      obtain ⟨g21, h⟩ := h
      refine x_iast C g20 g21 dX12_takes_97 ?_
      refine x_aload_n C dX12_takes_98 rfl (lv_at hl 0 rfl) ?_
      refine x_iload_n C dX12_takes_99 rfl (lv_at hl 1 rfl) ?_
      refine x_callV (rm := rm_X12_leads) (rest := []) (As := [.int p1]) C cy_RX12_327 g1 (by decide) (by decide) rfl rfl (Nat.le_of_ble_eq_true rfl) hl.1 dX12_takes_100 (c_X12_leads l D cy a0 p1 (stI σ b18 p1.toNatClampNeg x16) _ h) (ks_i (fun x23 σ22 h => ?_))
      refine x_if_eq (tgt := 140) C dX12_takes_103 (by decide) (fun c24 => ?_) (fun c24 => ?_)
      · have h := h.1 c24
        refine x_aload_n C dX12_takes_140 rfl (lv_at hl 0 rfl) ?_
        refine x_iconst (v := 1) C dX12_takes_141 (by decide) ?_
        refine x_iload_n C dX12_takes_142 rfl (lv_at hl 1 rfl) ?_
        refine x_aload_n C dX12_takes_143 rfl (lv_at hl 0 rfl) ?_
        refine x_iload_n C dX12_takes_144 rfl (lv_at hl 1 rfl) ?_
        obtain ⟨g25, h⟩ := h
        refine x_callV (rm := rm_X12_leader) (rest := [.int p1, .int (1 : Int32), .ref a0]) (As := [.int p1]) C cy_RX12_324 g25 (by decide) (by decide) rfl rfl (Nat.le_of_ble_eq_true rfl) hl.1 dX12_takes_145 (c_X12_leader l D cy a0 p1 σ22 _ h) (ks_i (fun x27 σ26 h => ?_))
        refine x_aload_n C dX12_takes_148 rfl (lv_at hl 0 rfl) ?_
        obtain ⟨g28, h⟩ := h
        refine x_getP C fl_RX12_59 g28 dX12_takes_149 ?_
        refine x_iload_n C dX12_takes_152 rfl (lv_at hl 1 rfl) ?_
        obtain ⟨b29, g30, h⟩ := h
        refine x_nn1 g30 ?_
        obtain ⟨g31, h⟩ := h
        obtain ⟨g32, h⟩ := h
        refine x_iald C g31 g32 dX12_takes_153 ?_
        refine x_topi (fun x33 e34 => ?_)
        have h := h x33 e34
        refine x_iconst (v := 1) C dX12_takes_154 (by decide) ?_
        refine x_iadd C dX12_takes_155 ?_
        refine x_callV (rm := rm_X12_tell) (rest := []) (As := [.int (1 : Int32), .int p1, .int x27, .int (x33 + (1 : Int32))]) C cy_RX12_300 g28 (by decide) (by decide) rfl rfl (Nat.le_of_ble_eq_true rfl) hl.1 dX12_takes_156 (c_X12_tell l D cy a0 (1 : Int32) p1 x27 (x33 + (1 : Int32)) σ26 _ h) (ks_v (fun σ35 h => ?_))
        exact x_vret C hr dX12_takes_159 ⟨rfl, h⟩
      · have h := h.2 c24
        refine x_aload_n C dX12_takes_106 rfl (lv_at hl 0 rfl) ?_
        refine x_iload_n C dX12_takes_107 rfl (lv_at hl 1 rfl) ?_
        obtain ⟨g36, h⟩ := h
        refine x_callV (rm := rm_X12_addNothing) (rest := []) (As := [.int p1]) C cy_RX12_349 g36 (by decide) (by decide) rfl rfl (Nat.le_of_ble_eq_true rfl) hl.1 dX12_takes_108 (c_X12_addNothing l D cy a0 p1 σ22 _ h) (ks_v (fun σ37 h => ?_))
        refine x_aload_n C dX12_takes_111 rfl (lv_at hl 0 rfl) ?_
        obtain ⟨g38, h⟩ := h
        refine x_getP C fl_RX12_50 g38 dX12_takes_112 ?_
        refine x_iload_n C dX12_takes_115 rfl (lv_at hl 1 rfl) ?_
        refine x_iconst (v := 1) C dX12_takes_116 (by decide) ?_
        obtain ⟨b39, g40, h⟩ := h
        refine x_nn2 g40 ?_
        obtain ⟨g41, h⟩ := h
        obtain ⟨g42, h⟩ := h
        refine x_iast C g41 g42 dX12_takes_117 ?_
        refine x_aload_n C dX12_takes_118 rfl (lv_at hl 0 rfl) ?_
        refine x_getP C fl_RX12_110 g38 dX12_takes_119 ?_
        refine x_iload_n C dX12_takes_122 rfl (lv_at hl 1 rfl) ?_
        refine x_iconst (v := 0) C dX12_takes_123 (by decide) ?_
        obtain ⟨b43, g44, h⟩ := h
        refine x_nn2 g44 ?_
        obtain ⟨g45, h⟩ := h
        obtain ⟨g46, h⟩ := h
        refine x_iast C g45 g46 dX12_takes_124 ?_
        refine x_aload_n C dX12_takes_125 rfl (lv_at hl 0 rfl) ?_
        refine x_iconst (v := 3) C dX12_takes_126 (by decide) ?_
        refine x_iload_n C dX12_takes_127 rfl (lv_at hl 1 rfl) ?_
        refine x_aload_n C dX12_takes_128 rfl (lv_at hl 0 rfl) ?_
        refine x_getP C fl_RX12_59 g38 dX12_takes_129 ?_
        refine x_iload_n C dX12_takes_132 rfl (lv_at hl 1 rfl) ?_
        obtain ⟨b47, g48, h⟩ := h
        refine x_nn1 g48 ?_
        obtain ⟨g49, h⟩ := h
        obtain ⟨g50, h⟩ := h
        refine x_iald C g49 g50 dX12_takes_133 ?_
        refine x_topi (fun x51 e52 => ?_)
        have h := h x51 e52
        refine x_callV (rm := rm_X12_tellOthers) (rest := []) (As := [.int (3 : Int32), .int p1, .int x51]) C cy_RX12_352 g38 (by decide) (by decide) rfl rfl (Nat.le_of_ble_eq_true rfl) hl.1 dX12_takes_134 (c_X12_tellOthers l D cy a0 (3 : Int32) p1 x51 (stI (stI σ37 b39 p1.toNatClampNeg (1 : Int32)) b43 p1.toNatClampNeg (0 : Int32)) _ h) (ks_v (fun σ53 h => ?_))
        refine x_goto (tgt := 159) C dX12_takes_137 (by decide) ?_
        exact x_vret C hr dX12_takes_159 ⟨rfl, h⟩
    · have h := h.2 c15
      exact x_vret C hr dX12_takes_87 ⟨rfl, h⟩
def f_X12_takes_21 (a0 : Nat)  (Q : Sto → Prop) (L21 : Int32 × Int32 → Sto → Prop) (t : Int32 × Int32) (σ : Sto) : Prop := ((t.2 = (-1 : Int32) → b_X12_takes_67 a0  Q t.1 σ) ∧ (¬ t.2 = (-1 : Int32) → (sK σ a0 = 12 ∧ (∃ b3 : Nat, sP σ a0 26 = some b3 ∧ (sK σ b3 = 14 ∧ (vp_in t.1 (sN σ b3) ∧ (∀ x7 : Int32, x7 = sI σ b3 t.1.toNatClampNeg → (((100 : Int32) ≤ x7 → b_X12_takes_67 a0  Q t.1 σ) ∧ (¬ (100 : Int32) ≤ x7 → (wp_X12_takeOne a0 t.1 t.2 σ (fun (σ10 : Sto) => (sK σ10 a0 = 12 ∧ (∃ b12 : Nat, sP σ10 a0 26 = some b12 ∧ (sK σ10 b12 = 14 ∧ (vp_in t.1 (sN σ10 b12) ∧ (∀ x16 : Int32, x16 = sI σ10 b12 t.1.toNatClampNeg → (∃ b18 : Nat, sP σ10 a0 27 = some b18 ∧ (sK σ10 b18 = 14 ∧ (vp_in t.1 (sN σ10 b18) ∧ (∀ x22 : Int32, x22 = sI σ10 b18 t.1.toNatClampNeg → (wp_X12_heldAt a0 t.1 ((x16 + (1 : Int32)) - x22) σ10 (fun (x25 : Int32) (σ24 : Sto) => L21 (t.1, x25) σ24))))))))))))))))))))))
set_option maxHeartbeats 4000000 in
set_option maxRecDepth 100000 in
theorem t_X12_takes_21 {p : Program} {l : Launch} {e : Env} {s : State} {m : MethodId} {args : Array Value} {below : List Frame} {meth : Method} {c : Code} {D : va_G} {cy : Nat → ClassId} {A : Nat → Prop} {a0 : Nat} {Q : Sto → Prop} {L21 : Int32 × Int32 → Sto → Prop} (C : Cx p s m args meth c D cy A cX12_takes 3 RX12) (hr : meth.sig.returnType = none) (hnm : meth.name = yX12_takes.name) (hL21 : ∀ (t : Int32 × Int32) (σ : Sto), L21 t σ → ∀ ls : Array Slot, lv_has ls 3 [(0, .ref a0), (1, .int t.1), (2, .int t.2)] → Xw p l e rm_X12_takes s m args below meth c D cy A σ 0 0 (MQ below (Qst D cy A (PsV Q)) args s rm_X12_takes.cells rm_X12_takes.slots A) (F0 m 21 ls [])) : ∀ (t : Int32 × Int32) (σ : Sto), f_X12_takes_21 a0  Q L21 t σ → ∀ ls : Array Slot, lv_has ls 3 [(0, .ref a0), (1, .int t.1), (2, .int t.2)] → Xw p l e rm_X12_takes s m args below meth c D cy A σ 0 0 (MQ below (Qst D cy A (PsV Q)) args s rm_X12_takes.cells rm_X12_takes.slots A) (F0 m 21 ls []) := by
  intro t σ h ls hl
  unfold f_X12_takes_21 at h
  refine x_iload_n C dX12_takes_21 rfl (lv_at hl 2 rfl) ?_
  refine x_iconst (v := -1) C dX12_takes_22 (by decide) ?_
  refine x_icmp_eq (tgt := 67) C dX12_takes_23 (by decide) (fun c1 => ?_) (fun c1 => ?_)
  · have h := h.1 c1
    exact t_X12_takes_67 C hr hnm  t.1 _ h ls (lv_sub hl [0, 1] rfl)
  · have h := h.2 c1
    refine x_aload_n C dX12_takes_26 rfl (lv_at hl 0 rfl) ?_
    obtain ⟨g2, h⟩ := h
    refine x_getP C fl_RX12_59 g2 dX12_takes_27 ?_
    refine x_iload_n C dX12_takes_30 rfl (lv_at hl 1 rfl) ?_
    obtain ⟨b3, g4, h⟩ := h
    refine x_nn1 g4 ?_
    obtain ⟨g5, h⟩ := h
    obtain ⟨g6, h⟩ := h
    refine x_iald C g5 g6 dX12_takes_31 ?_
    refine x_topi (fun x7 e8 => ?_)
    have h := h x7 e8
    refine x_bipush (v := 100) C dX12_takes_32 (by decide) ?_
    refine x_icmp_ge (tgt := 67) C dX12_takes_34 (by decide) (fun c9 => ?_) (fun c9 => ?_)
    · have h := h.1 c9
      exact t_X12_takes_67 C hr hnm  t.1 _ h ls (lv_sub hl [0, 1] rfl)
    · have h := h.2 c9
      refine x_aload_n C dX12_takes_37 rfl (lv_at hl 0 rfl) ?_
      refine x_iload_n C dX12_takes_38 rfl (lv_at hl 1 rfl) ?_
      refine x_iload_n C dX12_takes_39 rfl (lv_at hl 2 rfl) ?_
      refine x_callV (rm := rm_X12_takeOne) (rest := []) (As := [.int t.1, .int t.2]) C cy_RX12_346 g2 (by decide) (by decide) rfl rfl (Nat.le_of_ble_eq_true rfl) hl.1 dX12_takes_40 (c_X12_takeOne l D cy a0 t.1 t.2 σ _ h) (ks_v (fun σ10 h => ?_))
      refine x_aload_n C dX12_takes_43 rfl (lv_at hl 0 rfl) ?_
      refine x_iload_n C dX12_takes_44 rfl (lv_at hl 1 rfl) ?_
      refine x_aload_n C dX12_takes_45 rfl (lv_at hl 0 rfl) ?_
      obtain ⟨g11, h⟩ := h
      refine x_getP C fl_RX12_59 g11 dX12_takes_46 ?_
      refine x_iload_n C dX12_takes_49 rfl (lv_at hl 1 rfl) ?_
      obtain ⟨b12, g13, h⟩ := h
      refine x_nn1 g13 ?_
      obtain ⟨g14, h⟩ := h
      obtain ⟨g15, h⟩ := h
      refine x_iald C g14 g15 dX12_takes_50 ?_
      refine x_topi (fun x16 e17 => ?_)
      have h := h x16 e17
      refine x_iconst (v := 1) C dX12_takes_51 (by decide) ?_
      refine x_iadd C dX12_takes_52 ?_
      refine x_aload_n C dX12_takes_53 rfl (lv_at hl 0 rfl) ?_
      refine x_getP C fl_RX12_62 g11 dX12_takes_54 ?_
      refine x_iload_n C dX12_takes_57 rfl (lv_at hl 1 rfl) ?_
      obtain ⟨b18, g19, h⟩ := h
      refine x_nn1 g19 ?_
      obtain ⟨g20, h⟩ := h
      obtain ⟨g21, h⟩ := h
      refine x_iald C g20 g21 dX12_takes_58 ?_
      refine x_topi (fun x22 e23 => ?_)
      have h := h x22 e23
      refine x_isub C dX12_takes_59 ?_
      refine x_callV (rm := rm_X12_heldAt) (rest := []) (As := [.int t.1, .int ((x16 + (1 : Int32)) - x22)]) C cy_RX12_337 g11 (by decide) (by decide) rfl rfl (Nat.le_of_ble_eq_true rfl) hl.1 dX12_takes_60 (c_X12_heldAt l D cy a0 t.1 ((x16 + (1 : Int32)) - x22) σ10 _ h) (ks_i (fun x25 σ24 h => ?_))
      refine x_istore_n (i := 2) (lv' := [(2, .int x25), (0, .ref a0), (1, .int t.1)]) C dX12_takes_63 rfl hl (by decide) (by first | rfl | simp [vrc, cat_i, cat_r, cat_l]) (fun ls hl => ?_)
      refine x_goto (tgt := 21) C dX12_takes_64 (by decide) ?_
      exact hL21 (t.1, x25) _ h ls (lv_sub hl [1, 2, 0] rfl)
def wp_X12_takes (a0 : Nat) (p1 : Int32) (σ : Sto) (Q : Sto → Prop) : Prop := (sK σ a0 = 12 ∧ (∃ b2 : Nat, sP σ a0 26 = some b2 ∧ (sK σ b2 = 14 ∧ (vp_in p1 (sN σ b2) ∧ (∀ x6 : Int32, x6 = sI σ b2 p1.toNatClampNeg → (∃ b8 : Nat, sP σ a0 27 = some b8 ∧ (sK σ b8 = 14 ∧ (vp_in p1 (sN σ b8) ∧ (∀ x12 : Int32, x12 = sI σ b8 p1.toNatClampNeg → (wp_X12_heldAt a0 p1 ((x6 + (1 : Int32)) - x12) σ (fun (x15 : Int32) (σ14 : Sto) => LF (f_X12_takes_21 a0  Q) (p1, x15) σ14)))))))))))
set_option maxHeartbeats 4000000 in
set_option maxRecDepth 100000 in
theorem c_X12_takes (l : Launch) (D : va_G) (cy : Nat → ClassId) (a0 : Nat) (p1 : Int32) (σ : Sto) (Q : Sto → Prop) (h : wp_X12_takes a0 p1 σ Q) : Mt l D cy yX12_takes cX12_takes 3 none rm_X12_takes [.ref a0, .int p1] σ (PsV Q) := by
  unfold wp_X12_takes at h
  refine mt_of (by decide +kernel) (Nat.le_of_ble_eq_true rfl) ?_
  intro p e s m args below meth c A ls C hr hnm hl
  have C : Cx p s m args meth c D cy A cX12_takes 3 RX12 := C
  have hl : lv_has ls 3 [(0, .ref a0), (1, .int p1)] := hl
  refine x_aload_n C dX12_takes_0 rfl (lv_at hl 0 rfl) ?_
  refine x_iload_n C dX12_takes_1 rfl (lv_at hl 1 rfl) ?_
  refine x_aload_n C dX12_takes_2 rfl (lv_at hl 0 rfl) ?_
  obtain ⟨g1, h⟩ := h
  refine x_getP C fl_RX12_59 g1 dX12_takes_3 ?_
  refine x_iload_n C dX12_takes_6 rfl (lv_at hl 1 rfl) ?_
  obtain ⟨b2, g3, h⟩ := h
  refine x_nn1 g3 ?_
  obtain ⟨g4, h⟩ := h
  obtain ⟨g5, h⟩ := h
  refine x_iald C g4 g5 dX12_takes_7 ?_
  refine x_topi (fun x6 e7 => ?_)
  have h := h x6 e7
  refine x_iconst (v := 1) C dX12_takes_8 (by decide) ?_
  refine x_iadd C dX12_takes_9 ?_
  refine x_aload_n C dX12_takes_10 rfl (lv_at hl 0 rfl) ?_
  refine x_getP C fl_RX12_62 g1 dX12_takes_11 ?_
  refine x_iload_n C dX12_takes_14 rfl (lv_at hl 1 rfl) ?_
  obtain ⟨b8, g9, h⟩ := h
  refine x_nn1 g9 ?_
  obtain ⟨g10, h⟩ := h
  obtain ⟨g11, h⟩ := h
  refine x_iald C g10 g11 dX12_takes_15 ?_
  refine x_topi (fun x12 e13 => ?_)
  have h := h x12 e13
  refine x_isub C dX12_takes_16 ?_
  refine x_callV (rm := rm_X12_heldAt) (rest := []) (As := [.int p1, .int ((x6 + (1 : Int32)) - x12)]) C cy_RX12_337 g1 (by decide) (by decide) rfl rfl (Nat.le_of_ble_eq_true rfl) hl.1 dX12_takes_17 (c_X12_heldAt l D cy a0 p1 ((x6 + (1 : Int32)) - x12) σ _ h) (ks_i (fun x15 σ14 h => ?_))
  refine x_istore_n (i := 2) (lv' := [(2, .int x15), (0, .ref a0), (1, .int p1)]) C dX12_takes_20 rfl hl (by decide) (by first | rfl | simp [vrc, cat_i, cat_r, cat_l]) (fun ls hl => ?_)
  exact h (fun t σ => ∀ ls : Array Slot, lv_has ls 3 [(0, .ref a0), (1, .int t.1), (2, .int t.2)] → Xw p l e rm_X12_takes s m args below meth c D cy A σ 0 0 (MQ below (Qst D cy A (PsV Q)) args s rm_X12_takes.cells rm_X12_takes.slots A) (F0 m 21 ls [])) (t_X12_takes_21 C hr hnm  (fun t σ h => h)) ls (lv_sub hl [1, 2, 0] rfl)
theorem dX12_getsStamped_0 : decode cX12_getsStamped 0 = .ok (.aload_n 0, 1) := by decide +kernel
theorem dX12_getsStamped_1 : decode cX12_getsStamped 1 = .ok (.getfield 30, 3) := by decide +kernel
theorem dX12_getsStamped_4 : decode cX12_getsStamped 4 = .ok (.iconst 3, 1) := by decide +kernel
theorem dX12_getsStamped_5 : decode cX12_getsStamped 5 = .ok (.iaload, 1) := by decide +kernel
theorem dX12_getsStamped_6 : decode cX12_getsStamped 6 = .ok (.istore_n 2, 1) := by decide +kernel
theorem dX12_getsStamped_7 : decode cX12_getsStamped 7 = .ok (.aload_n 0, 1) := by decide +kernel
theorem dX12_getsStamped_8 : decode cX12_getsStamped 8 = .ok (.getfield 30, 3) := by decide +kernel
theorem dX12_getsStamped_11 : decode cX12_getsStamped 11 = .ok (.iconst 4, 1) := by decide +kernel
theorem dX12_getsStamped_12 : decode cX12_getsStamped 12 = .ok (.iaload, 1) := by decide +kernel
theorem dX12_getsStamped_13 : decode cX12_getsStamped 13 = .ok (.istore_n 3, 1) := by decide +kernel
theorem dX12_getsStamped_14 : decode cX12_getsStamped 14 = .ok (.iload_n 2, 1) := by decide +kernel
theorem dX12_getsStamped_15 : decode cX12_getsStamped 15 = .ok (.aload_n 0, 1) := by decide +kernel
theorem dX12_getsStamped_16 : decode cX12_getsStamped 16 = .ok (.getfield 47, 3) := by decide +kernel
theorem dX12_getsStamped_19 : decode cX12_getsStamped 19 = .ok (.iload_n 1, 1) := by decide +kernel
theorem dX12_getsStamped_20 : decode cX12_getsStamped 20 = .ok (.iaload, 1) := by decide +kernel
theorem dX12_getsStamped_21 : decode cX12_getsStamped 21 = .ok (.if_icmp .le 16, 3) := by decide +kernel
theorem dX12_getsStamped_24 : decode cX12_getsStamped 24 = .ok (.aload_n 0, 1) := by decide +kernel
theorem dX12_getsStamped_25 : decode cX12_getsStamped 25 = .ok (.iload_n 1, 1) := by decide +kernel
theorem dX12_getsStamped_26 : decode cX12_getsStamped 26 = .ok (.aload_n 0, 1) := by decide +kernel
theorem dX12_getsStamped_27 : decode cX12_getsStamped 27 = .ok (.getfield 44, 3) := by decide +kernel
theorem dX12_getsStamped_30 : decode cX12_getsStamped 30 = .ok (.iload_n 1, 1) := by decide +kernel
theorem dX12_getsStamped_31 : decode cX12_getsStamped 31 = .ok (.iaload, 1) := by decide +kernel
theorem dX12_getsStamped_32 : decode cX12_getsStamped 32 = .ok (.iload_n 2, 1) := by decide +kernel
theorem dX12_getsStamped_33 : decode cX12_getsStamped 33 = .ok (.invokevirtual 365, 3) := by decide +kernel
theorem dX12_getsStamped_36 : decode cX12_getsStamped 36 = .ok (.return_, 1) := by decide +kernel
theorem dX12_getsStamped_37 : decode cX12_getsStamped 37 = .ok (.iload_n 2, 1) := by decide +kernel
theorem dX12_getsStamped_38 : decode cX12_getsStamped 38 = .ok (.aload_n 0, 1) := by decide +kernel
theorem dX12_getsStamped_39 : decode cX12_getsStamped 39 = .ok (.getfield 47, 3) := by decide +kernel
theorem dX12_getsStamped_42 : decode cX12_getsStamped 42 = .ok (.iload_n 1, 1) := by decide +kernel
theorem dX12_getsStamped_43 : decode cX12_getsStamped 43 = .ok (.iaload, 1) := by decide +kernel
theorem dX12_getsStamped_44 : decode cX12_getsStamped 44 = .ok (.if_icmp .lt 51, 3) := by decide +kernel
theorem dX12_getsStamped_47 : decode cX12_getsStamped 47 = .ok (.aload_n 0, 1) := by decide +kernel
theorem dX12_getsStamped_48 : decode cX12_getsStamped 48 = .ok (.getfield 50, 3) := by decide +kernel
theorem dX12_getsStamped_51 : decode cX12_getsStamped 51 = .ok (.iload_n 1, 1) := by decide +kernel
theorem dX12_getsStamped_52 : decode cX12_getsStamped 52 = .ok (.iaload, 1) := by decide +kernel
theorem dX12_getsStamped_53 : decode cX12_getsStamped 53 = .ok (.iconst 2, 1) := by decide +kernel
theorem dX12_getsStamped_54 : decode cX12_getsStamped 54 = .ok (.if_icmp .eq 41, 3) := by decide +kernel
theorem dX12_getsStamped_57 : decode cX12_getsStamped 57 = .ok (.aload_n 0, 1) := by decide +kernel
theorem dX12_getsStamped_58 : decode cX12_getsStamped 58 = .ok (.getfield 62, 3) := by decide +kernel
theorem dX12_getsStamped_61 : decode cX12_getsStamped 61 = .ok (.iload_n 1, 1) := by decide +kernel
theorem dX12_getsStamped_62 : decode cX12_getsStamped 62 = .ok (.iaload, 1) := by decide +kernel
theorem dX12_getsStamped_63 : decode cX12_getsStamped 63 = .ok (.iload_n 3, 1) := by decide +kernel
theorem dX12_getsStamped_64 : decode cX12_getsStamped 64 = .ok (.iadd, 1) := by decide +kernel
theorem dX12_getsStamped_65 : decode cX12_getsStamped 65 = .ok (.aload_n 0, 1) := by decide +kernel
theorem dX12_getsStamped_66 : decode cX12_getsStamped 66 = .ok (.getfield 59, 3) := by decide +kernel
theorem dX12_getsStamped_69 : decode cX12_getsStamped 69 = .ok (.iload_n 1, 1) := by decide +kernel
theorem dX12_getsStamped_70 : decode cX12_getsStamped 70 = .ok (.iaload, 1) := by decide +kernel
theorem dX12_getsStamped_71 : decode cX12_getsStamped 71 = .ok (.if_icmp .le 24, 3) := by decide +kernel
theorem dX12_getsStamped_74 : decode cX12_getsStamped 74 = .ok (.aload_n 0, 1) := by decide +kernel
theorem dX12_getsStamped_75 : decode cX12_getsStamped 75 = .ok (.iload_n 1, 1) := by decide +kernel
theorem dX12_getsStamped_76 : decode cX12_getsStamped 76 = .ok (.iload_n 3, 1) := by decide +kernel
theorem dX12_getsStamped_77 : decode cX12_getsStamped 77 = .ok (.invokevirtual 337, 3) := by decide +kernel
theorem dX12_getsStamped_80 : decode cX12_getsStamped 80 = .ok (.iconst (-1), 1) := by decide +kernel
theorem dX12_getsStamped_81 : decode cX12_getsStamped 81 = .ok (.if_icmp .ne 14, 3) := by decide +kernel
theorem dX12_getsStamped_84 : decode cX12_getsStamped 84 = .ok (.aload_n 0, 1) := by decide +kernel
theorem dX12_getsStamped_85 : decode cX12_getsStamped 85 = .ok (.getfield 89, 3) := by decide +kernel
theorem dX12_getsStamped_88 : decode cX12_getsStamped 88 = .ok (.iload_n 1, 1) := by decide +kernel
theorem dX12_getsStamped_89 : decode cX12_getsStamped 89 = .ok (.iaload, 1) := by decide +kernel
theorem dX12_getsStamped_90 : decode cX12_getsStamped 90 = .ok (.bipush 8, 2) := by decide +kernel
theorem dX12_getsStamped_92 : decode cX12_getsStamped 92 = .ok (.if_icmp .lt 4, 3) := by decide +kernel
theorem dX12_getsStamped_95 : decode cX12_getsStamped 95 = .ok (.return_, 1) := by decide +kernel
theorem dX12_getsStamped_96 : decode cX12_getsStamped 96 = .ok (.aload_n 0, 1) := by decide +kernel
theorem dX12_getsStamped_97 : decode cX12_getsStamped 97 = .ok (.iload_n 1, 1) := by decide +kernel
theorem dX12_getsStamped_98 : decode cX12_getsStamped 98 = .ok (.iload_n 3, 1) := by decide +kernel
theorem dX12_getsStamped_99 : decode cX12_getsStamped 99 = .ok (.iconst 5, 1) := by decide +kernel
theorem dX12_getsStamped_100 : decode cX12_getsStamped 100 = .ok (.invokevirtual 415, 3) := by decide +kernel
theorem dX12_getsStamped_103 : decode cX12_getsStamped 103 = .ok (.aload_n 0, 1) := by decide +kernel
theorem dX12_getsStamped_104 : decode cX12_getsStamped 104 = .ok (.getfield 50, 3) := by decide +kernel
theorem dX12_getsStamped_107 : decode cX12_getsStamped 107 = .ok (.iload_n 1, 1) := by decide +kernel
theorem dX12_getsStamped_108 : decode cX12_getsStamped 108 = .ok (.iaload, 1) := by decide +kernel
theorem dX12_getsStamped_109 : decode cX12_getsStamped 109 = .ok (.ifCond .ne 8, 3) := by decide +kernel
theorem dX12_getsStamped_112 : decode cX12_getsStamped 112 = .ok (.aload_n 0, 1) := by decide +kernel
theorem dX12_getsStamped_113 : decode cX12_getsStamped 113 = .ok (.iload_n 1, 1) := by decide +kernel
theorem dX12_getsStamped_114 : decode cX12_getsStamped 114 = .ok (.invokevirtual 418, 3) := by decide +kernel
theorem dX12_getsStamped_117 : decode cX12_getsStamped 117 = .ok (.return_, 1) := by decide +kernel
abbrev rm_X12_getsStamped : Room := { frames := 5, cells := 0, slots := 0, locals := 113 }
def wp_X12_getsStamped (a0 : Nat) (p1 : Int32) (σ : Sto) (Q : Sto → Prop) : Prop := (sK σ a0 = 12 ∧ (∃ b2 : Nat, sP σ a0 15 = some b2 ∧ (sK σ b2 = 14 ∧ (vp_in (3 : Int32) (sN σ b2) ∧ (∀ x6 : Int32, x6 = sI σ b2 (3 : Int32).toNatClampNeg → (vp_in (4 : Int32) (sN σ b2) ∧ (∀ x9 : Int32, x9 = sI σ b2 (4 : Int32).toNatClampNeg → (∃ b11 : Nat, sP σ a0 22 = some b11 ∧ (sK σ b11 = 14 ∧ (vp_in p1 (sN σ b11) ∧ (∀ x15 : Int32, x15 = sI σ b11 p1.toNatClampNeg → ((x6 ≤ x15 → (vp_in p1 (sN σ b11) ∧ (∀ x19 : Int32, x19 = sI σ b11 p1.toNatClampNeg → ((x6 < x19 → Q σ) ∧ (¬ x6 < x19 → (∃ b22 : Nat, sP σ a0 23 = some b22 ∧ (sK σ b22 = 14 ∧ (vp_in p1 (sN σ b22) ∧ (∀ x26 : Int32, x26 = sI σ b22 p1.toNatClampNeg → ((x26 = (2 : Int32) → Q σ) ∧ (¬ x26 = (2 : Int32) → (∃ b29 : Nat, sP σ a0 27 = some b29 ∧ (sK σ b29 = 14 ∧ (vp_in p1 (sN σ b29) ∧ (∀ x33 : Int32, x33 = sI σ b29 p1.toNatClampNeg → (∃ b35 : Nat, sP σ a0 26 = some b35 ∧ (sK σ b35 = 14 ∧ (vp_in p1 (sN σ b35) ∧ (∀ x39 : Int32, x39 = sI σ b35 p1.toNatClampNeg → (((x33 + x9) ≤ x39 → Q σ) ∧ (¬ (x33 + x9) ≤ x39 → (wp_X12_heldAt a0 p1 x9 σ (fun (x43 : Int32) (σ42 : Sto) => ((¬ x43 = (-1 : Int32) → Q σ42) ∧ (x43 = (-1 : Int32) → (sK σ42 a0 = 12 ∧ (∃ b46 : Nat, sP σ42 a0 36 = some b46 ∧ (sK σ42 b46 = 14 ∧ (vp_in p1 (sN σ42 b46) ∧ (∀ x50 : Int32, x50 = sI σ42 b46 p1.toNatClampNeg → ((x50 < (8 : Int32) → (wp_X12_hold a0 p1 x9 (5 : Int32) σ42 (fun (σ53 : Sto) => (sK σ53 a0 = 12 ∧ (∃ b55 : Nat, sP σ53 a0 23 = some b55 ∧ (sK σ53 b55 = 14 ∧ (vp_in p1 (sN σ53 b55) ∧ (∀ x59 : Int32, x59 = sI σ53 b55 p1.toNatClampNeg → ((¬ x59 = 0 → Q σ53) ∧ (x59 = 0 → (wp_X12_takes a0 p1 σ53 (fun (σ62 : Sto) => Q σ62)))))))))))) ∧ (¬ x50 < (8 : Int32) → Q σ42)))))))))))))))))))))))))))))))) ∧ (¬ x6 ≤ x15 → (∃ b63 : Nat, sP σ a0 21 = some b63 ∧ (sK σ b63 = 14 ∧ (vp_in p1 (sN σ b63) ∧ (∀ x67 : Int32, x67 = sI σ b63 p1.toNatClampNeg → (wp_X12_turnsTo a0 p1 x67 x6 σ (fun (σ69 : Sto) => Q σ69)))))))))))))))))))
set_option maxHeartbeats 4000000 in
set_option maxRecDepth 100000 in
theorem c_X12_getsStamped (l : Launch) (D : va_G) (cy : Nat → ClassId) (a0 : Nat) (p1 : Int32) (σ : Sto) (Q : Sto → Prop) (h : wp_X12_getsStamped a0 p1 σ Q) : Mt l D cy yX12_getsStamped cX12_getsStamped 4 none rm_X12_getsStamped [.ref a0, .int p1] σ (PsV Q) := by
  unfold wp_X12_getsStamped at h
  refine mt_of (by decide +kernel) (Nat.le_of_ble_eq_true rfl) ?_
  intro p e s m args below meth c A ls C hr hnm hl
  have C : Cx p s m args meth c D cy A cX12_getsStamped 4 RX12 := C
  have hl : lv_has ls 4 [(0, .ref a0), (1, .int p1)] := hl
  refine x_aload_n C dX12_getsStamped_0 rfl (lv_at hl 0 rfl) ?_
  obtain ⟨g1, h⟩ := h
  refine x_getP C fl_RX12_30 g1 dX12_getsStamped_1 ?_
  refine x_iconst (v := 3) C dX12_getsStamped_4 (by decide) ?_
  obtain ⟨b2, g3, h⟩ := h
  refine x_nn1 g3 ?_
  obtain ⟨g4, h⟩ := h
  obtain ⟨g5, h⟩ := h
  refine x_iald C g4 g5 dX12_getsStamped_5 ?_
  refine x_topi (fun x6 e7 => ?_)
  have h := h x6 e7
  refine x_istore_n (i := 2) (lv' := [(2, .int x6), (0, .ref a0), (1, .int p1)]) C dX12_getsStamped_6 rfl hl (by decide) (by first | rfl | simp [vrc, cat_i, cat_r, cat_l]) (fun ls hl => ?_)
  refine x_aload_n C dX12_getsStamped_7 rfl (lv_at hl 1 rfl) ?_
  refine x_getP C fl_RX12_30 g1 dX12_getsStamped_8 ?_
  refine x_iconst (v := 4) C dX12_getsStamped_11 (by decide) ?_
  refine x_nn1 g3 ?_
  obtain ⟨g8, h⟩ := h
  refine x_iald C g4 g8 dX12_getsStamped_12 ?_
  refine x_topi (fun x9 e10 => ?_)
  have h := h x9 e10
  refine x_istore_n (i := 3) (lv' := [(3, .int x9), (2, .int x6), (0, .ref a0), (1, .int p1)]) C dX12_getsStamped_13 rfl hl (by decide) (by first | rfl | simp [vrc, cat_i, cat_r, cat_l]) (fun ls hl => ?_)
  refine x_iload_n C dX12_getsStamped_14 rfl (lv_at hl 1 rfl) ?_
  refine x_aload_n C dX12_getsStamped_15 rfl (lv_at hl 2 rfl) ?_
  refine x_getP C fl_RX12_47 g1 dX12_getsStamped_16 ?_
  refine x_iload_n C dX12_getsStamped_19 rfl (lv_at hl 3 rfl) ?_
  obtain ⟨b11, g12, h⟩ := h
  refine x_nn1 g12 ?_
  obtain ⟨g13, h⟩ := h
  obtain ⟨g14, h⟩ := h
  refine x_iald C g13 g14 dX12_getsStamped_20 ?_
  refine x_topi (fun x15 e16 => ?_)
  have h := h x15 e16
  refine x_icmp_le (tgt := 37) C dX12_getsStamped_21 (by decide) (fun c17 => ?_) (fun c17 => ?_)
  · have h := h.1 c17
    refine x_iload_n C dX12_getsStamped_37 rfl (lv_at hl 1 rfl) ?_
    refine x_aload_n C dX12_getsStamped_38 rfl (lv_at hl 2 rfl) ?_
    refine x_getP C fl_RX12_47 g1 dX12_getsStamped_39 ?_
    refine x_iload_n C dX12_getsStamped_42 rfl (lv_at hl 3 rfl) ?_
    refine x_nn1 g12 ?_
    obtain ⟨g18, h⟩ := h
    refine x_iald C g13 g18 dX12_getsStamped_43 ?_
    refine x_topi (fun x19 e20 => ?_)
    have h := h x19 e20
    refine x_icmp_lt (tgt := 95) C dX12_getsStamped_44 (by decide) (fun c21 => ?_) (fun c21 => ?_)
    · have h := h.1 c21
      exact x_vret C hr dX12_getsStamped_95 ⟨rfl, h⟩
    · have h := h.2 c21
      refine x_aload_n C dX12_getsStamped_47 rfl (lv_at hl 2 rfl) ?_
      refine x_getP C fl_RX12_50 g1 dX12_getsStamped_48 ?_
      refine x_iload_n C dX12_getsStamped_51 rfl (lv_at hl 3 rfl) ?_
      obtain ⟨b22, g23, h⟩ := h
      refine x_nn1 g23 ?_
      obtain ⟨g24, h⟩ := h
      obtain ⟨g25, h⟩ := h
      refine x_iald C g24 g25 dX12_getsStamped_52 ?_
      refine x_topi (fun x26 e27 => ?_)
      have h := h x26 e27
      refine x_iconst (v := 2) C dX12_getsStamped_53 (by decide) ?_
      refine x_icmp_eq (tgt := 95) C dX12_getsStamped_54 (by decide) (fun c28 => ?_) (fun c28 => ?_)
      · have h := h.1 c28
        exact x_vret C hr dX12_getsStamped_95 ⟨rfl, h⟩
      · have h := h.2 c28
        refine x_aload_n C dX12_getsStamped_57 rfl (lv_at hl 2 rfl) ?_
        refine x_getP C fl_RX12_62 g1 dX12_getsStamped_58 ?_
        refine x_iload_n C dX12_getsStamped_61 rfl (lv_at hl 3 rfl) ?_
        obtain ⟨b29, g30, h⟩ := h
        refine x_nn1 g30 ?_
        obtain ⟨g31, h⟩ := h
        obtain ⟨g32, h⟩ := h
        refine x_iald C g31 g32 dX12_getsStamped_62 ?_
        refine x_topi (fun x33 e34 => ?_)
        have h := h x33 e34
        refine x_iload_n C dX12_getsStamped_63 rfl (lv_at hl 0 rfl) ?_
        refine x_iadd C dX12_getsStamped_64 ?_
        refine x_aload_n C dX12_getsStamped_65 rfl (lv_at hl 2 rfl) ?_
        refine x_getP C fl_RX12_59 g1 dX12_getsStamped_66 ?_
        refine x_iload_n C dX12_getsStamped_69 rfl (lv_at hl 3 rfl) ?_
        obtain ⟨b35, g36, h⟩ := h
        refine x_nn1 g36 ?_
        obtain ⟨g37, h⟩ := h
        obtain ⟨g38, h⟩ := h
        refine x_iald C g37 g38 dX12_getsStamped_70 ?_
        refine x_topi (fun x39 e40 => ?_)
        have h := h x39 e40
        refine x_icmp_le (tgt := 95) C dX12_getsStamped_71 (by decide) (fun c41 => ?_) (fun c41 => ?_)
        · have h := h.1 c41
          exact x_vret C hr dX12_getsStamped_95 ⟨rfl, h⟩
        · have h := h.2 c41
          refine x_aload_n C dX12_getsStamped_74 rfl (lv_at hl 2 rfl) ?_
          refine x_iload_n C dX12_getsStamped_75 rfl (lv_at hl 3 rfl) ?_
          refine x_iload_n C dX12_getsStamped_76 rfl (lv_at hl 0 rfl) ?_
          refine x_callV (rm := rm_X12_heldAt) (rest := []) (As := [.int p1, .int x9]) C cy_RX12_337 g1 (by decide) (by decide) rfl rfl (Nat.le_of_ble_eq_true rfl) hl.1 dX12_getsStamped_77 (c_X12_heldAt l D cy a0 p1 x9 σ _ h) (ks_i (fun x43 σ42 h => ?_))
          refine x_iconst (v := -1) C dX12_getsStamped_80 (by decide) ?_
          refine x_icmp_ne (tgt := 95) C dX12_getsStamped_81 (by decide) (fun c44 => ?_) (fun c44 => ?_)
          · have h := h.1 c44
            exact x_vret C hr dX12_getsStamped_95 ⟨rfl, h⟩
          · have h := h.2 c44
            refine x_aload_n C dX12_getsStamped_84 rfl (lv_at hl 2 rfl) ?_
            obtain ⟨g45, h⟩ := h
            refine x_getP C fl_RX12_89 g45 dX12_getsStamped_85 ?_
            refine x_iload_n C dX12_getsStamped_88 rfl (lv_at hl 3 rfl) ?_
            obtain ⟨b46, g47, h⟩ := h
            refine x_nn1 g47 ?_
            obtain ⟨g48, h⟩ := h
            obtain ⟨g49, h⟩ := h
            refine x_iald C g48 g49 dX12_getsStamped_89 ?_
            refine x_topi (fun x50 e51 => ?_)
            have h := h x50 e51
            refine x_bipush (v := 8) C dX12_getsStamped_90 (by decide) ?_
            refine x_icmp_lt (tgt := 96) C dX12_getsStamped_92 (by decide) (fun c52 => ?_) (fun c52 => ?_)
            · have h := h.1 c52
              refine x_aload_n C dX12_getsStamped_96 rfl (lv_at hl 2 rfl) ?_
              refine x_iload_n C dX12_getsStamped_97 rfl (lv_at hl 3 rfl) ?_
              refine x_iload_n C dX12_getsStamped_98 rfl (lv_at hl 0 rfl) ?_
              refine x_iconst (v := 5) C dX12_getsStamped_99 (by decide) ?_
              refine x_callV (rm := rm_X12_hold) (rest := []) (As := [.int p1, .int x9, .int (5 : Int32)]) C cy_RX12_415 g45 (by decide) (by decide) rfl rfl (Nat.le_of_ble_eq_true rfl) hl.1 dX12_getsStamped_100 (c_X12_hold l D cy a0 p1 x9 (5 : Int32) σ42 _ h) (ks_v (fun σ53 h => ?_))
              refine x_aload_n C dX12_getsStamped_103 rfl (lv_at hl 2 rfl) ?_
              obtain ⟨g54, h⟩ := h
              refine x_getP C fl_RX12_50 g54 dX12_getsStamped_104 ?_
              refine x_iload_n C dX12_getsStamped_107 rfl (lv_at hl 3 rfl) ?_
              obtain ⟨b55, g56, h⟩ := h
              refine x_nn1 g56 ?_
              obtain ⟨g57, h⟩ := h
              obtain ⟨g58, h⟩ := h
              refine x_iald C g57 g58 dX12_getsStamped_108 ?_
              refine x_topi (fun x59 e60 => ?_)
              have h := h x59 e60
              refine x_if_ne (tgt := 117) C dX12_getsStamped_109 (by decide) (fun c61 => ?_) (fun c61 => ?_)
              · have h := h.1 c61
                exact x_vret C hr dX12_getsStamped_117 ⟨rfl, h⟩
              · have h := h.2 c61
                refine x_aload_n C dX12_getsStamped_112 rfl (lv_at hl 2 rfl) ?_
                refine x_iload_n C dX12_getsStamped_113 rfl (lv_at hl 3 rfl) ?_
                refine x_callV (rm := rm_X12_takes) (rest := []) (As := [.int p1]) C cy_RX12_418 g54 (by decide) (by decide) rfl rfl (Nat.le_of_ble_eq_true rfl) hl.1 dX12_getsStamped_114 (c_X12_takes l D cy a0 p1 σ53 _ h) (ks_v (fun σ62 h => ?_))
                exact x_vret C hr dX12_getsStamped_117 ⟨rfl, h⟩
            · have h := h.2 c52
              exact x_vret C hr dX12_getsStamped_95 ⟨rfl, h⟩
  · have h := h.2 c17
    refine x_aload_n C dX12_getsStamped_24 rfl (lv_at hl 2 rfl) ?_
    refine x_iload_n C dX12_getsStamped_25 rfl (lv_at hl 3 rfl) ?_
    refine x_aload_n C dX12_getsStamped_26 rfl (lv_at hl 2 rfl) ?_
    refine x_getP C fl_RX12_44 g1 dX12_getsStamped_27 ?_
    refine x_iload_n C dX12_getsStamped_30 rfl (lv_at hl 3 rfl) ?_
    obtain ⟨b63, g64, h⟩ := h
    refine x_nn1 g64 ?_
    obtain ⟨g65, h⟩ := h
    obtain ⟨g66, h⟩ := h
    refine x_iald C g65 g66 dX12_getsStamped_31 ?_
    refine x_topi (fun x67 e68 => ?_)
    have h := h x67 e68
    refine x_iload_n C dX12_getsStamped_32 rfl (lv_at hl 1 rfl) ?_
    refine x_callV (rm := rm_X12_turnsTo) (rest := []) (As := [.int p1, .int x67, .int x6]) C cy_RX12_365 g1 (by decide) (by decide) rfl rfl (Nat.le_of_ble_eq_true rfl) hl.1 dX12_getsStamped_33 (c_X12_turnsTo l D cy a0 p1 x67 x6 σ _ h) (ks_v (fun σ69 h => ?_))
    exact x_vret C hr dX12_getsStamped_36 ⟨rfl, h⟩
theorem dX12_isBehind_0 : decode cX12_isBehind 0 = .ok (.iload_n 0, 1) := by decide +kernel
theorem dX12_isBehind_1 : decode cX12_isBehind 1 = .ok (.iload_n 2, 1) := by decide +kernel
theorem dX12_isBehind_2 : decode cX12_isBehind 2 = .ok (.if_icmp .lt 8, 3) := by decide +kernel
theorem dX12_isBehind_5 : decode cX12_isBehind 5 = .ok (.iload_n 1, 1) := by decide +kernel
theorem dX12_isBehind_6 : decode cX12_isBehind 6 = .ok (.iload_n 3, 1) := by decide +kernel
theorem dX12_isBehind_7 : decode cX12_isBehind 7 = .ok (.if_icmp .ge 17, 3) := by decide +kernel
theorem dX12_isBehind_10 : decode cX12_isBehind 10 = .ok (.iload_n 0, 1) := by decide +kernel
theorem dX12_isBehind_11 : decode cX12_isBehind 11 = .ok (.iload_n 2, 1) := by decide +kernel
theorem dX12_isBehind_12 : decode cX12_isBehind 12 = .ok (.if_icmp .gt 12, 3) := by decide +kernel
theorem dX12_isBehind_15 : decode cX12_isBehind 15 = .ok (.iload_n 1, 1) := by decide +kernel
theorem dX12_isBehind_16 : decode cX12_isBehind 16 = .ok (.iload_n 3, 1) := by decide +kernel
theorem dX12_isBehind_17 : decode cX12_isBehind 17 = .ok (.if_icmp .gt 7, 3) := by decide +kernel
theorem dX12_isBehind_20 : decode cX12_isBehind 20 = .ok (.iconst 1, 1) := by decide +kernel
theorem dX12_isBehind_21 : decode cX12_isBehind 21 = .ok (.goto 4, 3) := by decide +kernel
theorem dX12_isBehind_24 : decode cX12_isBehind 24 = .ok (.iconst 0, 1) := by decide +kernel
theorem dX12_isBehind_25 : decode cX12_isBehind 25 = .ok (.ireturn, 1) := by decide +kernel
abbrev rm_X12_isBehind : Room := { frames := 0, cells := 0, slots := 0, locals := 0 }
def b_X12_isBehind_10  (Q : Int32 → Sto → Prop) (p0 : Int32) (p1 : Int32) (p2 : Int32) (p3 : Int32) (σ : Sto) : Prop := ((p2 < p0 → Q (0 : Int32) σ) ∧ (¬ p2 < p0 → ((p3 < p1 → Q (0 : Int32) σ) ∧ (¬ p3 < p1 → Q (1 : Int32) σ))))
set_option maxHeartbeats 4000000 in
set_option maxRecDepth 100000 in
theorem t_X12_isBehind_10 {p : Program} {l : Launch} {e : Env} {s : State} {m : MethodId} {args : Array Value} {below : List Frame} {meth : Method} {c : Code} {D : va_G} {cy : Nat → ClassId} {A : Nat → Prop}  {Q : Int32 → Sto → Prop} (C : Cx p s m args meth c D cy A cX12_isBehind 4 RX12) (hr : meth.sig.returnType = (some .boolean)) (hnm : meth.name = yX12_isBehind.name) (p0 : Int32) (p1 : Int32) (p2 : Int32) (p3 : Int32) (σ : Sto) (h : b_X12_isBehind_10  Q p0 p1 p2 p3 σ) (ls : Array Slot) (hl : lv_has ls 4 [(0, .int p0), (1, .int p1), (2, .int p2), (3, .int p3)]) : Xw p l e rm_X12_isBehind s m args below meth c D cy A σ 0 0 (MQ below (Qst D cy A (PsI Q)) args s rm_X12_isBehind.cells rm_X12_isBehind.slots A) (F0 m 10 ls []) := by
  unfold b_X12_isBehind_10 at h
  refine x_iload_n C dX12_isBehind_10 rfl (lv_at hl 0 rfl) ?_
  refine x_iload_n C dX12_isBehind_11 rfl (lv_at hl 2 rfl) ?_
  refine x_icmp_gt (tgt := 24) C dX12_isBehind_12 (by decide) (fun c1 => ?_) (fun c1 => ?_)
  · have h := h.1 c1
    refine x_iconst (v := 0) C dX12_isBehind_24 (by decide) ?_
    exact x_zret C hr dX12_isBehind_25 (by decide) ⟨_, rfl, h⟩
  · have h := h.2 c1
    refine x_iload_n C dX12_isBehind_15 rfl (lv_at hl 1 rfl) ?_
    refine x_iload_n C dX12_isBehind_16 rfl (lv_at hl 3 rfl) ?_
    refine x_icmp_gt (tgt := 24) C dX12_isBehind_17 (by decide) (fun c2 => ?_) (fun c2 => ?_)
    · have h := h.1 c2
      refine x_iconst (v := 0) C dX12_isBehind_24 (by decide) ?_
      exact x_zret C hr dX12_isBehind_25 (by decide) ⟨_, rfl, h⟩
    · have h := h.2 c2
      refine x_iconst (v := 1) C dX12_isBehind_20 (by decide) ?_
      refine x_goto (tgt := 25) C dX12_isBehind_21 (by decide) ?_
      exact x_zret C hr dX12_isBehind_25 (by decide) ⟨_, rfl, h⟩
def wp_X12_isBehind (p0 : Int32) (p1 : Int32) (p2 : Int32) (p3 : Int32) (σ : Sto) (Q : Int32 → Sto → Prop) : Prop := ((p0 < p2 → b_X12_isBehind_10  Q p0 p1 p2 p3 σ) ∧ (¬ p0 < p2 → ((p3 ≤ p1 → Q (0 : Int32) σ) ∧ (¬ p3 ≤ p1 → b_X12_isBehind_10  Q p0 p1 p2 p3 σ))))
set_option maxHeartbeats 4000000 in
set_option maxRecDepth 100000 in
theorem c_X12_isBehind (l : Launch) (D : va_G) (cy : Nat → ClassId) (p0 : Int32) (p1 : Int32) (p2 : Int32) (p3 : Int32) (σ : Sto) (Q : Int32 → Sto → Prop) (h : wp_X12_isBehind p0 p1 p2 p3 σ Q) : Mt l D cy yX12_isBehind cX12_isBehind 4 (some .boolean) rm_X12_isBehind [.int p0, .int p1, .int p2, .int p3] σ (PsI Q) := by
  unfold wp_X12_isBehind at h
  refine mt_of (by decide +kernel) (Nat.le_of_ble_eq_true rfl) ?_
  intro p e s m args below meth c A ls C hr hnm hl
  have C : Cx p s m args meth c D cy A cX12_isBehind 4 RX12 := C
  have hl : lv_has ls 4 [(0, .int p0), (1, .int p1), (2, .int p2), (3, .int p3)] := hl
  refine x_iload_n C dX12_isBehind_0 rfl (lv_at hl 0 rfl) ?_
  refine x_iload_n C dX12_isBehind_1 rfl (lv_at hl 2 rfl) ?_
  refine x_icmp_lt (tgt := 10) C dX12_isBehind_2 (by decide) (fun c1 => ?_) (fun c1 => ?_)
  · have h := h.1 c1
    exact t_X12_isBehind_10 C hr hnm  p0 p1 p2 p3 _ h ls (lv_sub hl [0, 1, 2, 3] rfl)
  · have h := h.2 c1
    refine x_iload_n C dX12_isBehind_5 rfl (lv_at hl 1 rfl) ?_
    refine x_iload_n C dX12_isBehind_6 rfl (lv_at hl 3 rfl) ?_
    refine x_icmp_ge (tgt := 24) C dX12_isBehind_7 (by decide) (fun c2 => ?_) (fun c2 => ?_)
    · have h := h.1 c2
      refine x_iconst (v := 0) C dX12_isBehind_24 (by decide) ?_
      exact x_zret C hr dX12_isBehind_25 (by decide) ⟨_, rfl, h⟩
    · have h := h.2 c2
      exact t_X12_isBehind_10 C hr hnm  p0 p1 p2 p3 _ h ls (lv_sub hl [0, 1, 2, 3] rfl)
theorem dX12_joins_0 : decode cX12_joins 0 = .ok (.iload_n 2, 1) := by decide +kernel
theorem dX12_joins_1 : decode cX12_joins 1 = .ok (.aload_n 0, 1) := by decide +kernel
theorem dX12_joins_2 : decode cX12_joins 2 = .ok (.getfield 44, 3) := by decide +kernel
theorem dX12_joins_5 : decode cX12_joins 5 = .ok (.iload_n 1, 1) := by decide +kernel
theorem dX12_joins_6 : decode cX12_joins 6 = .ok (.iaload, 1) := by decide +kernel
theorem dX12_joins_7 : decode cX12_joins 7 = .ok (.if_icmp .ne 17, 3) := by decide +kernel
theorem dX12_joins_10 : decode cX12_joins 10 = .ok (.iload_n 3, 1) := by decide +kernel
theorem dX12_joins_11 : decode cX12_joins 11 = .ok (.aload_n 0, 1) := by decide +kernel
theorem dX12_joins_12 : decode cX12_joins 12 = .ok (.getfield 47, 3) := by decide +kernel
theorem dX12_joins_15 : decode cX12_joins 15 = .ok (.iload_n 1, 1) := by decide +kernel
theorem dX12_joins_16 : decode cX12_joins 16 = .ok (.iaload, 1) := by decide +kernel
theorem dX12_joins_17 : decode cX12_joins 17 = .ok (.if_icmp .ne 7, 3) := by decide +kernel
theorem dX12_joins_20 : decode cX12_joins 20 = .ok (.iconst 1, 1) := by decide +kernel
theorem dX12_joins_21 : decode cX12_joins 21 = .ok (.goto 4, 3) := by decide +kernel
theorem dX12_joins_24 : decode cX12_joins 24 = .ok (.iconst 0, 1) := by decide +kernel
theorem dX12_joins_25 : decode cX12_joins 25 = .ok (.istore 4, 2) := by decide +kernel
theorem dX12_joins_27 : decode cX12_joins 27 = .ok (.iload 4, 2) := by decide +kernel
theorem dX12_joins_29 : decode cX12_joins 29 = .ok (.ifCond .ne 23, 3) := by decide +kernel
theorem dX12_joins_32 : decode cX12_joins 32 = .ok (.iload_n 2, 1) := by decide +kernel
theorem dX12_joins_33 : decode cX12_joins 33 = .ok (.iload_n 3, 1) := by decide +kernel
theorem dX12_joins_34 : decode cX12_joins 34 = .ok (.aload_n 0, 1) := by decide +kernel
theorem dX12_joins_35 : decode cX12_joins 35 = .ok (.getfield 44, 3) := by decide +kernel
theorem dX12_joins_38 : decode cX12_joins 38 = .ok (.iload_n 1, 1) := by decide +kernel
theorem dX12_joins_39 : decode cX12_joins 39 = .ok (.iaload, 1) := by decide +kernel
theorem dX12_joins_40 : decode cX12_joins 40 = .ok (.aload_n 0, 1) := by decide +kernel
theorem dX12_joins_41 : decode cX12_joins 41 = .ok (.getfield 47, 3) := by decide +kernel
theorem dX12_joins_44 : decode cX12_joins 44 = .ok (.iload_n 1, 1) := by decide +kernel
theorem dX12_joins_45 : decode cX12_joins 45 = .ok (.iaload, 1) := by decide +kernel
theorem dX12_joins_46 : decode cX12_joins 46 = .ok (.invokestatic 361, 3) := by decide +kernel
theorem dX12_joins_49 : decode cX12_joins 49 = .ok (.ifCond .eq 4, 3) := by decide +kernel
theorem dX12_joins_52 : decode cX12_joins 52 = .ok (.return_, 1) := by decide +kernel
theorem dX12_joins_53 : decode cX12_joins 53 = .ok (.aload_n 0, 1) := by decide +kernel
theorem dX12_joins_54 : decode cX12_joins 54 = .ok (.iload_n 1, 1) := by decide +kernel
theorem dX12_joins_55 : decode cX12_joins 55 = .ok (.iload_n 2, 1) := by decide +kernel
theorem dX12_joins_56 : decode cX12_joins 56 = .ok (.aload_n 0, 1) := by decide +kernel
theorem dX12_joins_57 : decode cX12_joins 57 = .ok (.getfield 44, 3) := by decide +kernel
theorem dX12_joins_60 : decode cX12_joins 60 = .ok (.iload_n 1, 1) := by decide +kernel
theorem dX12_joins_61 : decode cX12_joins 61 = .ok (.iaload, 1) := by decide +kernel
theorem dX12_joins_62 : decode cX12_joins 62 = .ok (.if_icmp .le 7, 3) := by decide +kernel
theorem dX12_joins_65 : decode cX12_joins 65 = .ok (.iload_n 2, 1) := by decide +kernel
theorem dX12_joins_66 : decode cX12_joins 66 = .ok (.goto 9, 3) := by decide +kernel
theorem dX12_joins_69 : decode cX12_joins 69 = .ok (.aload_n 0, 1) := by decide +kernel
theorem dX12_joins_70 : decode cX12_joins 70 = .ok (.getfield 44, 3) := by decide +kernel
theorem dX12_joins_73 : decode cX12_joins 73 = .ok (.iload_n 1, 1) := by decide +kernel
theorem dX12_joins_74 : decode cX12_joins 74 = .ok (.iaload, 1) := by decide +kernel
theorem dX12_joins_75 : decode cX12_joins 75 = .ok (.iload_n 3, 1) := by decide +kernel
theorem dX12_joins_76 : decode cX12_joins 76 = .ok (.aload_n 0, 1) := by decide +kernel
theorem dX12_joins_77 : decode cX12_joins 77 = .ok (.getfield 47, 3) := by decide +kernel
theorem dX12_joins_80 : decode cX12_joins 80 = .ok (.iload_n 1, 1) := by decide +kernel
theorem dX12_joins_81 : decode cX12_joins 81 = .ok (.iaload, 1) := by decide +kernel
theorem dX12_joins_82 : decode cX12_joins 82 = .ok (.if_icmp .le 7, 3) := by decide +kernel
theorem dX12_joins_85 : decode cX12_joins 85 = .ok (.iload_n 3, 1) := by decide +kernel
theorem dX12_joins_86 : decode cX12_joins 86 = .ok (.goto 9, 3) := by decide +kernel
theorem dX12_joins_89 : decode cX12_joins 89 = .ok (.aload_n 0, 1) := by decide +kernel
theorem dX12_joins_90 : decode cX12_joins 90 = .ok (.getfield 47, 3) := by decide +kernel
theorem dX12_joins_93 : decode cX12_joins 93 = .ok (.iload_n 1, 1) := by decide +kernel
theorem dX12_joins_94 : decode cX12_joins 94 = .ok (.iaload, 1) := by decide +kernel
theorem dX12_joins_95 : decode cX12_joins 95 = .ok (.invokevirtual 365, 3) := by decide +kernel
theorem dX12_joins_98 : decode cX12_joins 98 = .ok (.return_, 1) := by decide +kernel
abbrev rm_X12_joins : Room := { frames := 5, cells := 0, slots := 0, locals := 113 }
def b_X12_joins_95 (a0 : Nat)  (Q : Sto → Prop) (s0 : Int32) (s1 : Int32) (s2 : Int32) (s3 : Nat) (σ : Sto) : Prop := (sK σ s3 = 12 ∧ (wp_X12_turnsTo s3 s2 s1 s0 σ (fun (σ2 : Sto) => Q σ2)))
set_option maxHeartbeats 4000000 in
set_option maxRecDepth 100000 in
theorem t_X12_joins_95 {p : Program} {l : Launch} {e : Env} {s : State} {m : MethodId} {args : Array Value} {below : List Frame} {meth : Method} {c : Code} {D : va_G} {cy : Nat → ClassId} {A : Nat → Prop} {a0 : Nat} {Q : Sto → Prop} (C : Cx p s m args meth c D cy A cX12_joins 5 RX12) (hr : meth.sig.returnType = none) (hnm : meth.name = yX12_joins.name) (s0 : Int32) (s1 : Int32) (s2 : Int32) (s3 : Nat) (σ : Sto) (h : b_X12_joins_95 a0  Q s0 s1 s2 s3 σ) (ls : Array Slot) (hl : lv_has ls 5 []) : Xw p l e rm_X12_joins s m args below meth c D cy A σ 0 0 (MQ below (Qst D cy A (PsV Q)) args s rm_X12_joins.cells rm_X12_joins.slots A) (F0 m 95 ls [.int s0, .int s1, .int s2, .ref s3]) := by
  unfold b_X12_joins_95 at h
  obtain ⟨g1, h⟩ := h
  refine x_callV (rm := rm_X12_turnsTo) (rest := []) (As := [.int s2, .int s1, .int s0]) C cy_RX12_365 g1 (by decide) (by decide) rfl rfl (Nat.le_of_ble_eq_true rfl) hl.1 dX12_joins_95 (c_X12_turnsTo l D cy s3 s2 s1 s0 σ _ h) (ks_v (fun σ2 h => ?_))
  exact x_vret C hr dX12_joins_98 ⟨rfl, h⟩
def b_X12_joins_75 (a0 : Nat)  (Q : Sto → Prop) (p1 : Int32) (p3 : Int32) (s0 : Int32) (s1 : Int32) (s2 : Nat) (σ : Sto) : Prop := (sK σ a0 = 12 ∧ (∃ b2 : Nat, sP σ a0 22 = some b2 ∧ (sK σ b2 = 14 ∧ (vp_in p1 (sN σ b2) ∧ (∀ x6 : Int32, x6 = sI σ b2 p1.toNatClampNeg → ((p3 ≤ x6 → (vp_in p1 (sN σ b2) ∧ (∀ x10 : Int32, x10 = sI σ b2 p1.toNatClampNeg → b_X12_joins_95 a0  Q x10 s0 s1 s2 σ))) ∧ (¬ p3 ≤ x6 → b_X12_joins_95 a0  Q p3 s0 s1 s2 σ)))))))
set_option maxHeartbeats 4000000 in
set_option maxRecDepth 100000 in
theorem t_X12_joins_75 {p : Program} {l : Launch} {e : Env} {s : State} {m : MethodId} {args : Array Value} {below : List Frame} {meth : Method} {c : Code} {D : va_G} {cy : Nat → ClassId} {A : Nat → Prop} {a0 : Nat} {Q : Sto → Prop} (C : Cx p s m args meth c D cy A cX12_joins 5 RX12) (hr : meth.sig.returnType = none) (hnm : meth.name = yX12_joins.name) (p1 : Int32) (p3 : Int32) (s0 : Int32) (s1 : Int32) (s2 : Nat) (σ : Sto) (h : b_X12_joins_75 a0  Q p1 p3 s0 s1 s2 σ) (ls : Array Slot) (hl : lv_has ls 5 [(0, .ref a0), (1, .int p1), (3, .int p3)]) : Xw p l e rm_X12_joins s m args below meth c D cy A σ 0 0 (MQ below (Qst D cy A (PsV Q)) args s rm_X12_joins.cells rm_X12_joins.slots A) (F0 m 75 ls [.int s0, .int s1, .ref s2]) := by
  unfold b_X12_joins_75 at h
  refine x_iload_n C dX12_joins_75 rfl (lv_at hl 2 rfl) ?_
  refine x_aload_n C dX12_joins_76 rfl (lv_at hl 0 rfl) ?_
  obtain ⟨g1, h⟩ := h
  refine x_getP C fl_RX12_47 g1 dX12_joins_77 ?_
  refine x_iload_n C dX12_joins_80 rfl (lv_at hl 1 rfl) ?_
  obtain ⟨b2, g3, h⟩ := h
  refine x_nn1 g3 ?_
  obtain ⟨g4, h⟩ := h
  obtain ⟨g5, h⟩ := h
  refine x_iald C g4 g5 dX12_joins_81 ?_
  refine x_topi (fun x6 e7 => ?_)
  have h := h x6 e7
  refine x_icmp_le (tgt := 89) C dX12_joins_82 (by decide) (fun c8 => ?_) (fun c8 => ?_)
  · have h := h.1 c8
    refine x_aload_n C dX12_joins_89 rfl (lv_at hl 0 rfl) ?_
    refine x_getP C fl_RX12_47 g1 dX12_joins_90 ?_
    refine x_iload_n C dX12_joins_93 rfl (lv_at hl 1 rfl) ?_
    refine x_nn1 g3 ?_
    obtain ⟨g9, h⟩ := h
    refine x_iald C g4 g9 dX12_joins_94 ?_
    refine x_topi (fun x10 e11 => ?_)
    have h := h x10 e11
    exact t_X12_joins_95 C hr hnm  x10 s0 s1 s2 _ h ls (lv_sub hl [] rfl)
  · have h := h.2 c8
    refine x_iload_n C dX12_joins_85 rfl (lv_at hl 2 rfl) ?_
    refine x_goto (tgt := 95) C dX12_joins_86 (by decide) ?_
    exact t_X12_joins_95 C hr hnm  p3 s0 s1 s2 _ h ls (lv_sub hl [] rfl)
def b_X12_joins_25 (a0 : Nat)  (Q : Sto → Prop) (p1 : Int32) (p2 : Int32) (p3 : Int32) (s0 : Int32) (σ : Sto) : Prop := ((¬ s0 = 0 → Q σ) ∧ (s0 = 0 → (sK σ a0 = 12 ∧ (∃ b3 : Nat, sP σ a0 21 = some b3 ∧ (sK σ b3 = 14 ∧ (vp_in p1 (sN σ b3) ∧ (∀ x7 : Int32, x7 = sI σ b3 p1.toNatClampNeg → (∃ b9 : Nat, sP σ a0 22 = some b9 ∧ (sK σ b9 = 14 ∧ (vp_in p1 (sN σ b9) ∧ (∀ x13 : Int32, x13 = sI σ b9 p1.toNatClampNeg → (wp_X12_isBehind p2 p3 x7 x13 σ (fun (x16 : Int32) (σ15 : Sto) => ((x16 = 0 → (sK σ15 a0 = 12 ∧ (∃ b19 : Nat, sP σ15 a0 21 = some b19 ∧ (sK σ15 b19 = 14 ∧ (vp_in p1 (sN σ15 b19) ∧ (∀ x23 : Int32, x23 = sI σ15 b19 p1.toNatClampNeg → ((p2 ≤ x23 → (vp_in p1 (sN σ15 b19) ∧ (∀ x27 : Int32, x27 = sI σ15 b19 p1.toNatClampNeg → b_X12_joins_75 a0  Q p1 p3 x27 p1 a0 σ15))) ∧ (¬ p2 ≤ x23 → b_X12_joins_75 a0  Q p1 p3 p2 p1 a0 σ15)))))))) ∧ (¬ x16 = 0 → Q σ15)))))))))))))))
set_option maxHeartbeats 4000000 in
set_option maxRecDepth 100000 in
theorem t_X12_joins_25 {p : Program} {l : Launch} {e : Env} {s : State} {m : MethodId} {args : Array Value} {below : List Frame} {meth : Method} {c : Code} {D : va_G} {cy : Nat → ClassId} {A : Nat → Prop} {a0 : Nat} {Q : Sto → Prop} (C : Cx p s m args meth c D cy A cX12_joins 5 RX12) (hr : meth.sig.returnType = none) (hnm : meth.name = yX12_joins.name) (p1 : Int32) (p2 : Int32) (p3 : Int32) (s0 : Int32) (σ : Sto) (h : b_X12_joins_25 a0  Q p1 p2 p3 s0 σ) (ls : Array Slot) (hl : lv_has ls 5 [(0, .ref a0), (1, .int p1), (2, .int p2), (3, .int p3)]) : Xw p l e rm_X12_joins s m args below meth c D cy A σ 0 0 (MQ below (Qst D cy A (PsV Q)) args s rm_X12_joins.cells rm_X12_joins.slots A) (F0 m 25 ls [.int s0]) := by
  unfold b_X12_joins_25 at h
  refine x_istore (i := 4) (lv' := [(4, .int s0), (0, .ref a0), (1, .int p1), (2, .int p2), (3, .int p3)]) C dX12_joins_25 hl (by decide) (by first | rfl | simp [vrc, cat_i, cat_r, cat_l]) (fun ls hl => ?_)
  refine x_iload C dX12_joins_27 (lv_at hl 0 rfl) ?_
  refine x_if_ne (tgt := 52) C dX12_joins_29 (by decide) (fun c1 => ?_) (fun c1 => ?_)
  · have h := h.1 c1
    exact x_vret C hr dX12_joins_52 ⟨rfl, h⟩
  · have h := h.2 c1
    refine x_iload_n C dX12_joins_32 rfl (lv_at hl 3 rfl) ?_
    refine x_iload_n C dX12_joins_33 rfl (lv_at hl 4 rfl) ?_
    refine x_aload_n C dX12_joins_34 rfl (lv_at hl 1 rfl) ?_
    obtain ⟨g2, h⟩ := h
    refine x_getP C fl_RX12_44 g2 dX12_joins_35 ?_
    refine x_iload_n C dX12_joins_38 rfl (lv_at hl 2 rfl) ?_
    obtain ⟨b3, g4, h⟩ := h
    refine x_nn1 g4 ?_
    obtain ⟨g5, h⟩ := h
    obtain ⟨g6, h⟩ := h
    refine x_iald C g5 g6 dX12_joins_39 ?_
    refine x_topi (fun x7 e8 => ?_)
    have h := h x7 e8
    refine x_aload_n C dX12_joins_40 rfl (lv_at hl 1 rfl) ?_
    refine x_getP C fl_RX12_47 g2 dX12_joins_41 ?_
    refine x_iload_n C dX12_joins_44 rfl (lv_at hl 2 rfl) ?_
    obtain ⟨b9, g10, h⟩ := h
    refine x_nn1 g10 ?_
    obtain ⟨g11, h⟩ := h
    obtain ⟨g12, h⟩ := h
    refine x_iald C g11 g12 dX12_joins_45 ?_
    refine x_topi (fun x13 e14 => ?_)
    have h := h x13 e14
    refine x_callS (rm := rm_X12_isBehind) (rest := []) (As := [.int p2, .int p3, .int x7, .int x13]) C cs_RX12_361 (by decide) (by decide) rfl rfl (Nat.le_of_ble_eq_true rfl) hl.1 dX12_joins_46 (c_X12_isBehind l D cy p2 p3 x7 x13 σ _ h) (ks_i (fun x16 σ15 h => ?_))
    refine x_if_eq (tgt := 53) C dX12_joins_49 (by decide) (fun c17 => ?_) (fun c17 => ?_)
    · have h := h.1 c17
      refine x_aload_n C dX12_joins_53 rfl (lv_at hl 1 rfl) ?_
      refine x_iload_n C dX12_joins_54 rfl (lv_at hl 2 rfl) ?_
      refine x_iload_n C dX12_joins_55 rfl (lv_at hl 3 rfl) ?_
      refine x_aload_n C dX12_joins_56 rfl (lv_at hl 1 rfl) ?_
      obtain ⟨g18, h⟩ := h
      refine x_getP C fl_RX12_44 g18 dX12_joins_57 ?_
      refine x_iload_n C dX12_joins_60 rfl (lv_at hl 2 rfl) ?_
      obtain ⟨b19, g20, h⟩ := h
      refine x_nn1 g20 ?_
      obtain ⟨g21, h⟩ := h
      obtain ⟨g22, h⟩ := h
      refine x_iald C g21 g22 dX12_joins_61 ?_
      refine x_topi (fun x23 e24 => ?_)
      have h := h x23 e24
      refine x_icmp_le (tgt := 69) C dX12_joins_62 (by decide) (fun c25 => ?_) (fun c25 => ?_)
      · have h := h.1 c25
        refine x_aload_n C dX12_joins_69 rfl (lv_at hl 1 rfl) ?_
        refine x_getP C fl_RX12_44 g18 dX12_joins_70 ?_
        refine x_iload_n C dX12_joins_73 rfl (lv_at hl 2 rfl) ?_
        refine x_nn1 g20 ?_
        obtain ⟨g26, h⟩ := h
        refine x_iald C g21 g26 dX12_joins_74 ?_
        refine x_topi (fun x27 e28 => ?_)
        have h := h x27 e28
        exact t_X12_joins_75 C hr hnm  p1 p3 x27 p1 a0 _ h ls (lv_sub hl [1, 2, 4] rfl)
      · have h := h.2 c25
        refine x_iload_n C dX12_joins_65 rfl (lv_at hl 3 rfl) ?_
        refine x_goto (tgt := 75) C dX12_joins_66 (by decide) ?_
        exact t_X12_joins_75 C hr hnm  p1 p3 p2 p1 a0 _ h ls (lv_sub hl [1, 2, 4] rfl)
    · have h := h.2 c17
      exact x_vret C hr dX12_joins_52 ⟨rfl, h⟩
def b_X12_joins_24 (a0 : Nat)  (Q : Sto → Prop) (p1 : Int32) (p2 : Int32) (p3 : Int32) (σ : Sto) : Prop := b_X12_joins_25 a0  Q p1 p2 p3 (0 : Int32) σ
set_option maxHeartbeats 4000000 in
set_option maxRecDepth 100000 in
theorem t_X12_joins_24 {p : Program} {l : Launch} {e : Env} {s : State} {m : MethodId} {args : Array Value} {below : List Frame} {meth : Method} {c : Code} {D : va_G} {cy : Nat → ClassId} {A : Nat → Prop} {a0 : Nat} {Q : Sto → Prop} (C : Cx p s m args meth c D cy A cX12_joins 5 RX12) (hr : meth.sig.returnType = none) (hnm : meth.name = yX12_joins.name) (p1 : Int32) (p2 : Int32) (p3 : Int32) (σ : Sto) (h : b_X12_joins_24 a0  Q p1 p2 p3 σ) (ls : Array Slot) (hl : lv_has ls 5 [(0, .ref a0), (1, .int p1), (2, .int p2), (3, .int p3)]) : Xw p l e rm_X12_joins s m args below meth c D cy A σ 0 0 (MQ below (Qst D cy A (PsV Q)) args s rm_X12_joins.cells rm_X12_joins.slots A) (F0 m 24 ls []) := by
  unfold b_X12_joins_24 at h
  refine x_iconst (v := 0) C dX12_joins_24 (by decide) ?_
  exact t_X12_joins_25 C hr hnm  p1 p2 p3 (0 : Int32) _ h ls (lv_sub hl [0, 1, 2, 3] rfl)
def wp_X12_joins (a0 : Nat) (p1 : Int32) (p2 : Int32) (p3 : Int32) (σ : Sto) (Q : Sto → Prop) : Prop := (sK σ a0 = 12 ∧ (∃ b2 : Nat, sP σ a0 21 = some b2 ∧ (sK σ b2 = 14 ∧ (vp_in p1 (sN σ b2) ∧ (∀ x6 : Int32, x6 = sI σ b2 p1.toNatClampNeg → ((¬ p2 = x6 → b_X12_joins_24 a0  Q p1 p2 p3 σ) ∧ (p2 = x6 → (∃ b9 : Nat, sP σ a0 22 = some b9 ∧ (sK σ b9 = 14 ∧ (vp_in p1 (sN σ b9) ∧ (∀ x13 : Int32, x13 = sI σ b9 p1.toNatClampNeg → ((¬ p3 = x13 → b_X12_joins_24 a0  Q p1 p2 p3 σ) ∧ (p3 = x13 → b_X12_joins_25 a0  Q p1 p2 p3 (1 : Int32) σ)))))))))))))
set_option maxHeartbeats 4000000 in
set_option maxRecDepth 100000 in
theorem c_X12_joins (l : Launch) (D : va_G) (cy : Nat → ClassId) (a0 : Nat) (p1 : Int32) (p2 : Int32) (p3 : Int32) (σ : Sto) (Q : Sto → Prop) (h : wp_X12_joins a0 p1 p2 p3 σ Q) : Mt l D cy yX12_joins cX12_joins 5 none rm_X12_joins [.ref a0, .int p1, .int p2, .int p3] σ (PsV Q) := by
  unfold wp_X12_joins at h
  refine mt_of (by decide +kernel) (Nat.le_of_ble_eq_true rfl) ?_
  intro p e s m args below meth c A ls C hr hnm hl
  have C : Cx p s m args meth c D cy A cX12_joins 5 RX12 := C
  have hl : lv_has ls 5 [(0, .ref a0), (1, .int p1), (2, .int p2), (3, .int p3)] := hl
  refine x_iload_n C dX12_joins_0 rfl (lv_at hl 2 rfl) ?_
  refine x_aload_n C dX12_joins_1 rfl (lv_at hl 0 rfl) ?_
  obtain ⟨g1, h⟩ := h
  refine x_getP C fl_RX12_44 g1 dX12_joins_2 ?_
  refine x_iload_n C dX12_joins_5 rfl (lv_at hl 1 rfl) ?_
  obtain ⟨b2, g3, h⟩ := h
  refine x_nn1 g3 ?_
  obtain ⟨g4, h⟩ := h
  obtain ⟨g5, h⟩ := h
  refine x_iald C g4 g5 dX12_joins_6 ?_
  refine x_topi (fun x6 e7 => ?_)
  have h := h x6 e7
  refine x_icmp_ne (tgt := 24) C dX12_joins_7 (by decide) (fun c8 => ?_) (fun c8 => ?_)
  · have h := h.1 c8
    exact t_X12_joins_24 C hr hnm  p1 p2 p3 _ h ls (lv_sub hl [0, 1, 2, 3] rfl)
  · have h := h.2 c8
    refine x_iload_n C dX12_joins_10 rfl (lv_at hl 3 rfl) ?_
    refine x_aload_n C dX12_joins_11 rfl (lv_at hl 0 rfl) ?_
    refine x_getP C fl_RX12_47 g1 dX12_joins_12 ?_
    refine x_iload_n C dX12_joins_15 rfl (lv_at hl 1 rfl) ?_
    obtain ⟨b9, g10, h⟩ := h
    refine x_nn1 g10 ?_
    obtain ⟨g11, h⟩ := h
    obtain ⟨g12, h⟩ := h
    refine x_iald C g11 g12 dX12_joins_16 ?_
    refine x_topi (fun x13 e14 => ?_)
    have h := h x13 e14
    refine x_icmp_ne (tgt := 24) C dX12_joins_17 (by decide) (fun c15 => ?_) (fun c15 => ?_)
    · have h := h.1 c15
      exact t_X12_joins_24 C hr hnm  p1 p2 p3 _ h ls (lv_sub hl [0, 1, 2, 3] rfl)
    · have h := h.2 c15
      refine x_iconst (v := 1) C dX12_joins_20 (by decide) ?_
      refine x_goto (tgt := 25) C dX12_joins_21 (by decide) ?_
      exact t_X12_joins_25 C hr hnm  p1 p2 p3 (1 : Int32) _ h ls (lv_sub hl [0, 1, 2, 3] rfl)
theorem dX12_keepTurned_0 : decode cX12_keepTurned 0 = .ok (.bipush 7, 2) := by decide +kernel
theorem dX12_keepTurned_2 : decode cX12_keepTurned 2 = .ok (.iload_n 1, 1) := by decide +kernel
theorem dX12_keepTurned_3 : decode cX12_keepTurned 3 = .ok (.imul, 1) := by decide +kernel
theorem dX12_keepTurned_4 : decode cX12_keepTurned 4 = .ok (.iload_n 2, 1) := by decide +kernel
theorem dX12_keepTurned_5 : decode cX12_keepTurned 5 = .ok (.iadd, 1) := by decide +kernel
theorem dX12_keepTurned_6 : decode cX12_keepTurned 6 = .ok (.istore_n 3, 1) := by decide +kernel
theorem dX12_keepTurned_7 : decode cX12_keepTurned 7 = .ok (.aload_n 0, 1) := by decide +kernel
theorem dX12_keepTurned_8 : decode cX12_keepTurned 8 = .ok (.getfield 122, 3) := by decide +kernel
theorem dX12_keepTurned_11 : decode cX12_keepTurned 11 = .ok (.iload_n 3, 1) := by decide +kernel
theorem dX12_keepTurned_12 : decode cX12_keepTurned 12 = .ok (.aload_n 0, 1) := by decide +kernel
theorem dX12_keepTurned_13 : decode cX12_keepTurned 13 = .ok (.getfield 30, 3) := by decide +kernel
theorem dX12_keepTurned_16 : decode cX12_keepTurned 16 = .ok (.iconst 5, 1) := by decide +kernel
theorem dX12_keepTurned_17 : decode cX12_keepTurned 17 = .ok (.iaload, 1) := by decide +kernel
theorem dX12_keepTurned_18 : decode cX12_keepTurned 18 = .ok (.iastore, 1) := by decide +kernel
theorem dX12_keepTurned_19 : decode cX12_keepTurned 19 = .ok (.aload_n 0, 1) := by decide +kernel
theorem dX12_keepTurned_20 : decode cX12_keepTurned 20 = .ok (.getfield 125, 3) := by decide +kernel
theorem dX12_keepTurned_23 : decode cX12_keepTurned 23 = .ok (.iload_n 3, 1) := by decide +kernel
theorem dX12_keepTurned_24 : decode cX12_keepTurned 24 = .ok (.aload_n 0, 1) := by decide +kernel
theorem dX12_keepTurned_25 : decode cX12_keepTurned 25 = .ok (.getfield 30, 3) := by decide +kernel
theorem dX12_keepTurned_28 : decode cX12_keepTurned 28 = .ok (.bipush 6, 2) := by decide +kernel
theorem dX12_keepTurned_30 : decode cX12_keepTurned 30 = .ok (.iaload, 1) := by decide +kernel
theorem dX12_keepTurned_31 : decode cX12_keepTurned 31 = .ok (.iastore, 1) := by decide +kernel
theorem dX12_keepTurned_32 : decode cX12_keepTurned 32 = .ok (.aload_n 0, 1) := by decide +kernel
theorem dX12_keepTurned_33 : decode cX12_keepTurned 33 = .ok (.getfield 128, 3) := by decide +kernel
theorem dX12_keepTurned_36 : decode cX12_keepTurned 36 = .ok (.iload_n 3, 1) := by decide +kernel
theorem dX12_keepTurned_37 : decode cX12_keepTurned 37 = .ok (.aload_n 0, 1) := by decide +kernel
theorem dX12_keepTurned_38 : decode cX12_keepTurned 38 = .ok (.getfield 30, 3) := by decide +kernel
theorem dX12_keepTurned_41 : decode cX12_keepTurned 41 = .ok (.bipush 7, 2) := by decide +kernel
theorem dX12_keepTurned_43 : decode cX12_keepTurned 43 = .ok (.iaload, 1) := by decide +kernel
theorem dX12_keepTurned_44 : decode cX12_keepTurned 44 = .ok (.iastore, 1) := by decide +kernel
theorem dX12_keepTurned_45 : decode cX12_keepTurned 45 = .ok (.aload_n 0, 1) := by decide +kernel
theorem dX12_keepTurned_46 : decode cX12_keepTurned 46 = .ok (.getfield 131, 3) := by decide +kernel
theorem dX12_keepTurned_49 : decode cX12_keepTurned 49 = .ok (.iload_n 3, 1) := by decide +kernel
theorem dX12_keepTurned_50 : decode cX12_keepTurned 50 = .ok (.aload_n 0, 1) := by decide +kernel
theorem dX12_keepTurned_51 : decode cX12_keepTurned 51 = .ok (.getfield 30, 3) := by decide +kernel
theorem dX12_keepTurned_54 : decode cX12_keepTurned 54 = .ok (.bipush 8, 2) := by decide +kernel
theorem dX12_keepTurned_56 : decode cX12_keepTurned 56 = .ok (.iaload, 1) := by decide +kernel
theorem dX12_keepTurned_57 : decode cX12_keepTurned 57 = .ok (.iastore, 1) := by decide +kernel
theorem dX12_keepTurned_58 : decode cX12_keepTurned 58 = .ok (.bipush 9, 2) := by decide +kernel
theorem dX12_keepTurned_60 : decode cX12_keepTurned 60 = .ok (.istore 4, 2) := by decide +kernel
theorem dX12_keepTurned_62 : decode cX12_keepTurned 62 = .ok (.iconst 0, 1) := by decide +kernel
theorem dX12_keepTurned_63 : decode cX12_keepTurned 63 = .ok (.istore 5, 2) := by decide +kernel
theorem dX12_keepTurned_65 : decode cX12_keepTurned 65 = .ok (.iload 5, 2) := by decide +kernel
theorem dX12_keepTurned_67 : decode cX12_keepTurned 67 = .ok (.aload_n 0, 1) := by decide +kernel
theorem dX12_keepTurned_68 : decode cX12_keepTurned 68 = .ok (.getfield 30, 3) := by decide +kernel
theorem dX12_keepTurned_71 : decode cX12_keepTurned 71 = .ok (.bipush 8, 2) := by decide +kernel
theorem dX12_keepTurned_73 : decode cX12_keepTurned 73 = .ok (.iaload, 1) := by decide +kernel
theorem dX12_keepTurned_74 : decode cX12_keepTurned 74 = .ok (.if_icmp .ge 135, 3) := by decide +kernel
theorem dX12_keepTurned_77 : decode cX12_keepTurned 77 = .ok (.bipush 100, 2) := by decide +kernel
theorem dX12_keepTurned_79 : decode cX12_keepTurned 79 = .ok (.iload_n 3, 1) := by decide +kernel
theorem dX12_keepTurned_80 : decode cX12_keepTurned 80 = .ok (.imul, 1) := by decide +kernel
theorem dX12_keepTurned_81 : decode cX12_keepTurned 81 = .ok (.iload 5, 2) := by decide +kernel
theorem dX12_keepTurned_83 : decode cX12_keepTurned 83 = .ok (.iadd, 1) := by decide +kernel
theorem dX12_keepTurned_84 : decode cX12_keepTurned 84 = .ok (.istore 6, 2) := by decide +kernel
theorem dX12_keepTurned_86 : decode cX12_keepTurned 86 = .ok (.aload_n 0, 1) := by decide +kernel
theorem dX12_keepTurned_87 : decode cX12_keepTurned 87 = .ok (.getfield 134, 3) := by decide +kernel
theorem dX12_keepTurned_90 : decode cX12_keepTurned 90 = .ok (.iload 6, 2) := by decide +kernel
theorem dX12_keepTurned_92 : decode cX12_keepTurned 92 = .ok (.aload_n 0, 1) := by decide +kernel
theorem dX12_keepTurned_93 : decode cX12_keepTurned 93 = .ok (.getfield 30, 3) := by decide +kernel
theorem dX12_keepTurned_96 : decode cX12_keepTurned 96 = .ok (.iload 4, 2) := by decide +kernel
theorem dX12_keepTurned_98 : decode cX12_keepTurned 98 = .ok (.iaload, 1) := by decide +kernel
theorem dX12_keepTurned_99 : decode cX12_keepTurned 99 = .ok (.iconst 1, 1) := by decide +kernel
theorem dX12_keepTurned_100 : decode cX12_keepTurned 100 = .ok (.if_icmp .ne 7, 3) := by decide +kernel
theorem dX12_keepTurned_103 : decode cX12_keepTurned 103 = .ok (.iconst 1, 1) := by decide +kernel
theorem dX12_keepTurned_104 : decode cX12_keepTurned 104 = .ok (.goto 4, 3) := by decide +kernel
theorem dX12_keepTurned_107 : decode cX12_keepTurned 107 = .ok (.iconst 0, 1) := by decide +kernel
theorem dX12_keepTurned_108 : decode cX12_keepTurned 108 = .ok (.bastore, 1) := by decide +kernel
theorem dX12_keepTurned_109 : decode cX12_keepTurned 109 = .ok (.iinc 4 1, 3) := by decide +kernel
theorem dX12_keepTurned_112 : decode cX12_keepTurned 112 = .ok (.aload_n 0, 1) := by decide +kernel
theorem dX12_keepTurned_113 : decode cX12_keepTurned 113 = .ok (.getfield 134, 3) := by decide +kernel
theorem dX12_keepTurned_116 : decode cX12_keepTurned 116 = .ok (.iload 6, 2) := by decide +kernel
theorem dX12_keepTurned_118 : decode cX12_keepTurned 118 = .ok (.baload, 1) := by decide +kernel
theorem dX12_keepTurned_119 : decode cX12_keepTurned 119 = .ok (.ifCond .eq 84, 3) := by decide +kernel
theorem dX12_keepTurned_122 : decode cX12_keepTurned 122 = .ok (.aload_n 0, 1) := by decide +kernel
theorem dX12_keepTurned_123 : decode cX12_keepTurned 123 = .ok (.getfield 137, 3) := by decide +kernel
theorem dX12_keepTurned_126 : decode cX12_keepTurned 126 = .ok (.iload 6, 2) := by decide +kernel
theorem dX12_keepTurned_128 : decode cX12_keepTurned 128 = .ok (.aload_n 0, 1) := by decide +kernel
theorem dX12_keepTurned_129 : decode cX12_keepTurned 129 = .ok (.getfield 30, 3) := by decide +kernel
theorem dX12_keepTurned_132 : decode cX12_keepTurned 132 = .ok (.iload 4, 2) := by decide +kernel
theorem dX12_keepTurned_134 : decode cX12_keepTurned 134 = .ok (.iaload, 1) := by decide +kernel
theorem dX12_keepTurned_135 : decode cX12_keepTurned 135 = .ok (.iastore, 1) := by decide +kernel
theorem dX12_keepTurned_136 : decode cX12_keepTurned 136 = .ok (.aload_n 0, 1) := by decide +kernel
theorem dX12_keepTurned_137 : decode cX12_keepTurned 137 = .ok (.getfield 140, 3) := by decide +kernel
theorem dX12_keepTurned_140 : decode cX12_keepTurned 140 = .ok (.iload 6, 2) := by decide +kernel
theorem dX12_keepTurned_142 : decode cX12_keepTurned 142 = .ok (.aload_n 0, 1) := by decide +kernel
theorem dX12_keepTurned_143 : decode cX12_keepTurned 143 = .ok (.getfield 30, 3) := by decide +kernel
theorem dX12_keepTurned_146 : decode cX12_keepTurned 146 = .ok (.iload 4, 2) := by decide +kernel
theorem dX12_keepTurned_148 : decode cX12_keepTurned 148 = .ok (.iconst 1, 1) := by decide +kernel
theorem dX12_keepTurned_149 : decode cX12_keepTurned 149 = .ok (.iadd, 1) := by decide +kernel
theorem dX12_keepTurned_150 : decode cX12_keepTurned 150 = .ok (.iaload, 1) := by decide +kernel
theorem dX12_keepTurned_151 : decode cX12_keepTurned 151 = .ok (.iastore, 1) := by decide +kernel
theorem dX12_keepTurned_152 : decode cX12_keepTurned 152 = .ok (.aload_n 0, 1) := by decide +kernel
theorem dX12_keepTurned_153 : decode cX12_keepTurned 153 = .ok (.getfield 143, 3) := by decide +kernel
theorem dX12_keepTurned_156 : decode cX12_keepTurned 156 = .ok (.iload 6, 2) := by decide +kernel
theorem dX12_keepTurned_158 : decode cX12_keepTurned 158 = .ok (.aload_n 0, 1) := by decide +kernel
theorem dX12_keepTurned_159 : decode cX12_keepTurned 159 = .ok (.getfield 30, 3) := by decide +kernel
theorem dX12_keepTurned_162 : decode cX12_keepTurned 162 = .ok (.iload 4, 2) := by decide +kernel
theorem dX12_keepTurned_164 : decode cX12_keepTurned 164 = .ok (.iconst 2, 1) := by decide +kernel
theorem dX12_keepTurned_165 : decode cX12_keepTurned 165 = .ok (.iadd, 1) := by decide +kernel
theorem dX12_keepTurned_166 : decode cX12_keepTurned 166 = .ok (.iaload, 1) := by decide +kernel
theorem dX12_keepTurned_167 : decode cX12_keepTurned 167 = .ok (.iastore, 1) := by decide +kernel
theorem dX12_keepTurned_168 : decode cX12_keepTurned 168 = .ok (.aload_n 0, 1) := by decide +kernel
theorem dX12_keepTurned_169 : decode cX12_keepTurned 169 = .ok (.getfield 146, 3) := by decide +kernel
theorem dX12_keepTurned_172 : decode cX12_keepTurned 172 = .ok (.iload 6, 2) := by decide +kernel
theorem dX12_keepTurned_174 : decode cX12_keepTurned 174 = .ok (.aload_n 0, 1) := by decide +kernel
theorem dX12_keepTurned_175 : decode cX12_keepTurned 175 = .ok (.getfield 30, 3) := by decide +kernel
theorem dX12_keepTurned_178 : decode cX12_keepTurned 178 = .ok (.iload 4, 2) := by decide +kernel
theorem dX12_keepTurned_180 : decode cX12_keepTurned 180 = .ok (.iconst 3, 1) := by decide +kernel
theorem dX12_keepTurned_181 : decode cX12_keepTurned 181 = .ok (.iadd, 1) := by decide +kernel
theorem dX12_keepTurned_182 : decode cX12_keepTurned 182 = .ok (.iaload, 1) := by decide +kernel
theorem dX12_keepTurned_183 : decode cX12_keepTurned 183 = .ok (.iastore, 1) := by decide +kernel
theorem dX12_keepTurned_184 : decode cX12_keepTurned 184 = .ok (.aload_n 0, 1) := by decide +kernel
theorem dX12_keepTurned_185 : decode cX12_keepTurned 185 = .ok (.getfield 149, 3) := by decide +kernel
theorem dX12_keepTurned_188 : decode cX12_keepTurned 188 = .ok (.iload 6, 2) := by decide +kernel
theorem dX12_keepTurned_190 : decode cX12_keepTurned 190 = .ok (.aload_n 0, 1) := by decide +kernel
theorem dX12_keepTurned_191 : decode cX12_keepTurned 191 = .ok (.getfield 30, 3) := by decide +kernel
theorem dX12_keepTurned_194 : decode cX12_keepTurned 194 = .ok (.iload 4, 2) := by decide +kernel
theorem dX12_keepTurned_196 : decode cX12_keepTurned 196 = .ok (.iconst 4, 1) := by decide +kernel
theorem dX12_keepTurned_197 : decode cX12_keepTurned 197 = .ok (.iadd, 1) := by decide +kernel
theorem dX12_keepTurned_198 : decode cX12_keepTurned 198 = .ok (.iaload, 1) := by decide +kernel
theorem dX12_keepTurned_199 : decode cX12_keepTurned 199 = .ok (.iastore, 1) := by decide +kernel
theorem dX12_keepTurned_200 : decode cX12_keepTurned 200 = .ok (.iinc 4 5, 3) := by decide +kernel
theorem dX12_keepTurned_203 : decode cX12_keepTurned 203 = .ok (.iinc 5 1, 3) := by decide +kernel
theorem dX12_keepTurned_206 : decode cX12_keepTurned 206 = .ok (.goto (-141), 3) := by decide +kernel
theorem dX12_keepTurned_209 : decode cX12_keepTurned 209 = .ok (.aload_n 0, 1) := by decide +kernel
theorem dX12_keepTurned_210 : decode cX12_keepTurned 210 = .ok (.getfield 119, 3) := by decide +kernel
theorem dX12_keepTurned_213 : decode cX12_keepTurned 213 = .ok (.iload_n 1, 1) := by decide +kernel
theorem dX12_keepTurned_214 : decode cX12_keepTurned 214 = .ok (.dup2, 1) := by decide +kernel
theorem dX12_keepTurned_215 : decode cX12_keepTurned 215 = .ok (.iaload, 1) := by decide +kernel
theorem dX12_keepTurned_216 : decode cX12_keepTurned 216 = .ok (.iconst 1, 1) := by decide +kernel
theorem dX12_keepTurned_217 : decode cX12_keepTurned 217 = .ok (.iload_n 2, 1) := by decide +kernel
theorem dX12_keepTurned_218 : decode cX12_keepTurned 218 = .ok (.ishl, 1) := by decide +kernel
theorem dX12_keepTurned_219 : decode cX12_keepTurned 219 = .ok (.ior, 1) := by decide +kernel
theorem dX12_keepTurned_220 : decode cX12_keepTurned 220 = .ok (.iastore, 1) := by decide +kernel
theorem dX12_keepTurned_221 : decode cX12_keepTurned 221 = .ok (.return_, 1) := by decide +kernel
abbrev rm_X12_keepTurned : Room := { frames := 0, cells := 0, slots := 0, locals := 0 }
def b_X12_keepTurned_203 (a0 : Nat) (L65 : Int32 × Int32 × Int32 × Int32 × Int32 → Sto → Prop) (Q : Sto → Prop) (p1 : Int32) (p2 : Int32) (p3 : Int32) (p4 : Int32) (p5 : Int32) (σ : Sto) : Prop := (∀ x1 : Int32, x1 = p5 + (1 : Int32) → L65 (p1, p2, p3, p4, x1) σ)
set_option maxHeartbeats 4000000 in
set_option maxRecDepth 100000 in
theorem t_X12_keepTurned_203 {p : Program} {l : Launch} {e : Env} {s : State} {m : MethodId} {args : Array Value} {below : List Frame} {meth : Method} {c : Code} {D : va_G} {cy : Nat → ClassId} {A : Nat → Prop} {a0 : Nat} {L65 : Int32 × Int32 × Int32 × Int32 × Int32 → Sto → Prop} {Q : Sto → Prop} (C : Cx p s m args meth c D cy A cX12_keepTurned 7 RX12) (hr : meth.sig.returnType = none) (hnm : meth.name = yX12_keepTurned.name) (hL65 : ∀ (t : Int32 × Int32 × Int32 × Int32 × Int32) (σ : Sto), L65 t σ → ∀ ls : Array Slot, lv_has ls 7 [(0, .ref a0), (1, .int t.1), (2, .int t.2.1), (3, .int t.2.2.1), (4, .int t.2.2.2.1), (5, .int t.2.2.2.2)] → Xw p l e rm_X12_keepTurned s m args below meth c D cy A σ 0 0 (MQ below (Qst D cy A (PsV Q)) args s rm_X12_keepTurned.cells rm_X12_keepTurned.slots A) (F0 m 65 ls [])) (p1 : Int32) (p2 : Int32) (p3 : Int32) (p4 : Int32) (p5 : Int32) (σ : Sto) (h : b_X12_keepTurned_203 a0 L65 Q p1 p2 p3 p4 p5 σ) (ls : Array Slot) (hl : lv_has ls 7 [(0, .ref a0), (1, .int p1), (2, .int p2), (3, .int p3), (4, .int p4), (5, .int p5)]) : Xw p l e rm_X12_keepTurned s m args below meth c D cy A σ 0 0 (MQ below (Qst D cy A (PsV Q)) args s rm_X12_keepTurned.cells rm_X12_keepTurned.slots A) (F0 m 203 ls []) := by
  unfold b_X12_keepTurned_203 at h
  obtain ⟨x1, e2⟩ : ∃ z : Int32, z = p5 + (1 : Int32) := ⟨_, rfl⟩
  have h := h x1 e2
  refine x_iinc (v := x1) (lv' := [(5, .int x1), (0, .ref a0), (1, .int p1), (2, .int p2), (3, .int p3), (4, .int p4)]) C dX12_keepTurned_203 hl (q0 := 5) rfl (by rw [e2]; rfl) (by decide) (by first | rfl | simp [vrc, cat_i, cat_r, cat_l]) (fun ls hl => ?_)
  refine x_goto (tgt := 65) C dX12_keepTurned_206 (by decide) ?_
  exact hL65 (p1, p2, p3, p4, x1) _ h ls (lv_sub hl [1, 2, 3, 4, 5, 0] rfl)
def b_X12_keepTurned_108 (a0 : Nat) (L65 : Int32 × Int32 × Int32 × Int32 × Int32 → Sto → Prop) (Q : Sto → Prop) (p1 : Int32) (p2 : Int32) (p3 : Int32) (p4 : Int32) (p5 : Int32) (p6 : Int32) (s0 : Int32) (s1 : Int32) (s2 : Option Nat) (σ : Sto) : Prop := (∃ b1 : Nat, s2 = some b1 ∧ (sK σ b1 = 16 ∧ (vp_in s1 (sN σ b1) ∧ (∀ x5 : Int32, x5 = p4 + (1 : Int32) → (sK σ a0 = 12 ∧ (∃ b8 : Nat, sP σ a0 51 = some b8 ∧ (sK σ b8 = 16 ∧ (vp_in p6 (sN σ b8) ∧ (∀ x12 : Int32, x12 = sI (stI σ b1 s1.toNatClampNeg (vp_nar .boolean s0)) b8 p6.toNatClampNeg → ((x12 = 0 → b_X12_keepTurned_203 a0 L65 Q p1 p2 p3 x5 p5 (stI σ b1 s1.toNatClampNeg (vp_nar .boolean s0))) ∧ (¬ x12 = 0 → (∃ b15 : Nat, sP σ a0 15 = some b15 ∧ (sK σ b15 = 14 ∧ (vp_in x5 (sN σ b15) ∧ (∀ x19 : Int32, x19 = sI (stI σ b1 s1.toNatClampNeg (vp_nar .boolean s0)) b15 x5.toNatClampNeg → (∃ b21 : Nat, sP σ a0 52 = some b21 ∧ (sK σ b21 = 14 ∧ (vp_in p6 (sN σ b21) ∧ (∀ x25 : Int32, x25 = x5 + (1 : Int32) → (vp_in x25 (sN σ b15) ∧ (∀ x28 : Int32, x28 = sI (stI (stI σ b1 s1.toNatClampNeg (vp_nar .boolean s0)) b21 p6.toNatClampNeg x19) b15 x25.toNatClampNeg → (∃ b30 : Nat, sP σ a0 53 = some b30 ∧ (sK σ b30 = 14 ∧ (vp_in p6 (sN σ b30) ∧ (∀ x34 : Int32, x34 = x5 + (2 : Int32) → (vp_in x34 (sN σ b15) ∧ (∀ x37 : Int32, x37 = sI (stI (stI (stI σ b1 s1.toNatClampNeg (vp_nar .boolean s0)) b21 p6.toNatClampNeg x19) b30 p6.toNatClampNeg x28) b15 x34.toNatClampNeg → (∃ b39 : Nat, sP σ a0 54 = some b39 ∧ (sK σ b39 = 14 ∧ (vp_in p6 (sN σ b39) ∧ (∀ x43 : Int32, x43 = x5 + (3 : Int32) → (vp_in x43 (sN σ b15) ∧ (∀ x46 : Int32, x46 = sI (stI (stI (stI (stI σ b1 s1.toNatClampNeg (vp_nar .boolean s0)) b21 p6.toNatClampNeg x19) b30 p6.toNatClampNeg x28) b39 p6.toNatClampNeg x37) b15 x43.toNatClampNeg → (∃ b48 : Nat, sP σ a0 55 = some b48 ∧ (sK σ b48 = 14 ∧ (vp_in p6 (sN σ b48) ∧ (∀ x52 : Int32, x52 = x5 + (4 : Int32) → (vp_in x52 (sN σ b15) ∧ (∀ x55 : Int32, x55 = sI (stI (stI (stI (stI (stI σ b1 s1.toNatClampNeg (vp_nar .boolean s0)) b21 p6.toNatClampNeg x19) b30 p6.toNatClampNeg x28) b39 p6.toNatClampNeg x37) b48 p6.toNatClampNeg x46) b15 x52.toNatClampNeg → (∃ b57 : Nat, sP σ a0 56 = some b57 ∧ (sK σ b57 = 14 ∧ (vp_in p6 (sN σ b57) ∧ (∀ x61 : Int32, x61 = x5 + (5 : Int32) → b_X12_keepTurned_203 a0 L65 Q p1 p2 p3 x61 p5 (stI (stI (stI (stI (stI (stI σ b1 s1.toNatClampNeg (vp_nar .boolean s0)) b21 p6.toNatClampNeg x19) b30 p6.toNatClampNeg x28) b39 p6.toNatClampNeg x37) b48 p6.toNatClampNeg x46) b57 p6.toNatClampNeg x55))))))))))))))))))))))))))))))))))))))))))))
set_option maxHeartbeats 4000000 in
set_option maxRecDepth 100000 in
theorem t_X12_keepTurned_108 {p : Program} {l : Launch} {e : Env} {s : State} {m : MethodId} {args : Array Value} {below : List Frame} {meth : Method} {c : Code} {D : va_G} {cy : Nat → ClassId} {A : Nat → Prop} {a0 : Nat} {L65 : Int32 × Int32 × Int32 × Int32 × Int32 → Sto → Prop} {Q : Sto → Prop} (C : Cx p s m args meth c D cy A cX12_keepTurned 7 RX12) (hr : meth.sig.returnType = none) (hnm : meth.name = yX12_keepTurned.name) (hL65 : ∀ (t : Int32 × Int32 × Int32 × Int32 × Int32) (σ : Sto), L65 t σ → ∀ ls : Array Slot, lv_has ls 7 [(0, .ref a0), (1, .int t.1), (2, .int t.2.1), (3, .int t.2.2.1), (4, .int t.2.2.2.1), (5, .int t.2.2.2.2)] → Xw p l e rm_X12_keepTurned s m args below meth c D cy A σ 0 0 (MQ below (Qst D cy A (PsV Q)) args s rm_X12_keepTurned.cells rm_X12_keepTurned.slots A) (F0 m 65 ls [])) (p1 : Int32) (p2 : Int32) (p3 : Int32) (p4 : Int32) (p5 : Int32) (p6 : Int32) (s0 : Int32) (s1 : Int32) (s2 : Option Nat) (σ : Sto) (h : b_X12_keepTurned_108 a0 L65 Q p1 p2 p3 p4 p5 p6 s0 s1 s2 σ) (ls : Array Slot) (hl : lv_has ls 7 [(0, .ref a0), (1, .int p1), (2, .int p2), (3, .int p3), (4, .int p4), (5, .int p5), (6, .int p6)]) : Xw p l e rm_X12_keepTurned s m args below meth c D cy A σ 0 0 (MQ below (Qst D cy A (PsV Q)) args s rm_X12_keepTurned.cells rm_X12_keepTurned.slots A) (F0 m 108 ls [.int s0, .int s1, va_rf s2]) := by
  unfold b_X12_keepTurned_108 at h
  obtain ⟨b1, g2, h⟩ := h
  refine x_nn2 g2 ?_
  obtain ⟨g3, h⟩ := h
  obtain ⟨g4, h⟩ := h
  refine x_zast C g3 g4 dX12_keepTurned_108 ?_
  obtain ⟨x5, e6⟩ : ∃ z : Int32, z = p4 + (1 : Int32) := ⟨_, rfl⟩
  have h := h x5 e6
  refine x_iinc (v := x5) (lv' := [(4, .int x5), (0, .ref a0), (1, .int p1), (2, .int p2), (3, .int p3), (5, .int p5), (6, .int p6)]) C dX12_keepTurned_109 hl (q0 := 4) rfl (by rw [e6]; rfl) (by decide) (by first | rfl | simp [vrc, cat_i, cat_r, cat_l]) (fun ls hl => ?_)
  refine x_aload_n C dX12_keepTurned_112 rfl (lv_at hl 1 rfl) ?_
  obtain ⟨g7, h⟩ := h
  refine x_getP C fl_RX12_134 g7 dX12_keepTurned_113 ?_
  refine x_iload C dX12_keepTurned_116 (lv_at hl 6 rfl) ?_
  obtain ⟨b8, g9, h⟩ := h
  refine x_nn1 g9 ?_
  obtain ⟨g10, h⟩ := h
  obtain ⟨g11, h⟩ := h
  refine x_zald C g10 g11 dX12_keepTurned_118 ?_
  refine x_topi (fun x12 e13 => ?_)
  have h := h x12 e13
  refine x_if_eq (tgt := 203) C dX12_keepTurned_119 (by decide) (fun c14 => ?_) (fun c14 => ?_)
  · have h := h.1 c14
    exact t_X12_keepTurned_203 C hr hnm hL65 p1 p2 p3 x5 p5 _ h ls (lv_sub hl [1, 2, 3, 4, 0, 5] rfl)
  · have h := h.2 c14
    refine x_aload_n C dX12_keepTurned_122 rfl (lv_at hl 1 rfl) ?_
    refine x_getP C fl_RX12_137 g7 dX12_keepTurned_123 ?_
    refine x_iload C dX12_keepTurned_126 (lv_at hl 6 rfl) ?_
    refine x_aload_n C dX12_keepTurned_128 rfl (lv_at hl 1 rfl) ?_
    refine x_getP C fl_RX12_30 g7 dX12_keepTurned_129 ?_
    refine x_iload C dX12_keepTurned_132 (lv_at hl 0 rfl) ?_
    obtain ⟨b15, g16, h⟩ := h
    refine x_nn1 g16 ?_
    obtain ⟨g17, h⟩ := h
    obtain ⟨g18, h⟩ := h
    refine x_iald C g17 g18 dX12_keepTurned_134 ?_
    refine x_topi (fun x19 e20 => ?_)
    have h := h x19 e20
    obtain ⟨b21, g22, h⟩ := h
    refine x_nn2 g22 ?_
    obtain ⟨g23, h⟩ := h
    obtain ⟨g24, h⟩ := h
    refine x_iast C g23 g24 dX12_keepTurned_135 ?_
    refine x_aload_n C dX12_keepTurned_136 rfl (lv_at hl 1 rfl) ?_
    refine x_getP C fl_RX12_140 g7 dX12_keepTurned_137 ?_
    refine x_iload C dX12_keepTurned_140 (lv_at hl 6 rfl) ?_
    refine x_aload_n C dX12_keepTurned_142 rfl (lv_at hl 1 rfl) ?_
    refine x_getP C fl_RX12_30 g7 dX12_keepTurned_143 ?_
    refine x_iload C dX12_keepTurned_146 (lv_at hl 0 rfl) ?_
    refine x_iconst (v := 1) C dX12_keepTurned_148 (by decide) ?_
    refine x_iadd C dX12_keepTurned_149 ?_
    refine x_topi (fun x25 e26 => ?_)
    have h := h x25 e26
    refine x_nn1 g16 ?_
    obtain ⟨g27, h⟩ := h
    refine x_iald C g17 g27 dX12_keepTurned_150 ?_
    refine x_topi (fun x28 e29 => ?_)
    have h := h x28 e29
    obtain ⟨b30, g31, h⟩ := h
    refine x_nn2 g31 ?_
    obtain ⟨g32, h⟩ := h
    obtain ⟨g33, h⟩ := h
    refine x_iast C g32 g33 dX12_keepTurned_151 ?_
    refine x_aload_n C dX12_keepTurned_152 rfl (lv_at hl 1 rfl) ?_
    refine x_getP C fl_RX12_143 g7 dX12_keepTurned_153 ?_
    refine x_iload C dX12_keepTurned_156 (lv_at hl 6 rfl) ?_
    refine x_aload_n C dX12_keepTurned_158 rfl (lv_at hl 1 rfl) ?_
    refine x_getP C fl_RX12_30 g7 dX12_keepTurned_159 ?_
    refine x_iload C dX12_keepTurned_162 (lv_at hl 0 rfl) ?_
    refine x_iconst (v := 2) C dX12_keepTurned_164 (by decide) ?_
    refine x_iadd C dX12_keepTurned_165 ?_
    refine x_topi (fun x34 e35 => ?_)
    have h := h x34 e35
    refine x_nn1 g16 ?_
    obtain ⟨g36, h⟩ := h
    refine x_iald C g17 g36 dX12_keepTurned_166 ?_
    refine x_topi (fun x37 e38 => ?_)
    have h := h x37 e38
    obtain ⟨b39, g40, h⟩ := h
    refine x_nn2 g40 ?_
    obtain ⟨g41, h⟩ := h
    obtain ⟨g42, h⟩ := h
    refine x_iast C g41 g42 dX12_keepTurned_167 ?_
    refine x_aload_n C dX12_keepTurned_168 rfl (lv_at hl 1 rfl) ?_
    refine x_getP C fl_RX12_146 g7 dX12_keepTurned_169 ?_
    refine x_iload C dX12_keepTurned_172 (lv_at hl 6 rfl) ?_
    refine x_aload_n C dX12_keepTurned_174 rfl (lv_at hl 1 rfl) ?_
    refine x_getP C fl_RX12_30 g7 dX12_keepTurned_175 ?_
    refine x_iload C dX12_keepTurned_178 (lv_at hl 0 rfl) ?_
    refine x_iconst (v := 3) C dX12_keepTurned_180 (by decide) ?_
    refine x_iadd C dX12_keepTurned_181 ?_
    refine x_topi (fun x43 e44 => ?_)
    have h := h x43 e44
    refine x_nn1 g16 ?_
    obtain ⟨g45, h⟩ := h
    refine x_iald C g17 g45 dX12_keepTurned_182 ?_
    refine x_topi (fun x46 e47 => ?_)
    have h := h x46 e47
    obtain ⟨b48, g49, h⟩ := h
    refine x_nn2 g49 ?_
    obtain ⟨g50, h⟩ := h
    obtain ⟨g51, h⟩ := h
    refine x_iast C g50 g51 dX12_keepTurned_183 ?_
    refine x_aload_n C dX12_keepTurned_184 rfl (lv_at hl 1 rfl) ?_
    refine x_getP C fl_RX12_149 g7 dX12_keepTurned_185 ?_
    refine x_iload C dX12_keepTurned_188 (lv_at hl 6 rfl) ?_
    refine x_aload_n C dX12_keepTurned_190 rfl (lv_at hl 1 rfl) ?_
    refine x_getP C fl_RX12_30 g7 dX12_keepTurned_191 ?_
    refine x_iload C dX12_keepTurned_194 (lv_at hl 0 rfl) ?_
    refine x_iconst (v := 4) C dX12_keepTurned_196 (by decide) ?_
    refine x_iadd C dX12_keepTurned_197 ?_
    refine x_topi (fun x52 e53 => ?_)
    have h := h x52 e53
    refine x_nn1 g16 ?_
    obtain ⟨g54, h⟩ := h
    refine x_iald C g17 g54 dX12_keepTurned_198 ?_
    refine x_topi (fun x55 e56 => ?_)
    have h := h x55 e56
    obtain ⟨b57, g58, h⟩ := h
    refine x_nn2 g58 ?_
    obtain ⟨g59, h⟩ := h
    obtain ⟨g60, h⟩ := h
    refine x_iast C g59 g60 dX12_keepTurned_199 ?_
    obtain ⟨x61, e62⟩ : ∃ z : Int32, z = x5 + (5 : Int32) := ⟨_, rfl⟩
    have h := h x61 e62
    refine x_iinc (v := x61) (lv' := [(4, .int x61), (0, .ref a0), (1, .int p1), (2, .int p2), (3, .int p3), (5, .int p5), (6, .int p6)]) C dX12_keepTurned_200 hl (q0 := 0) rfl (by rw [e62]; rfl) (by decide) (by first | rfl | simp [vrc, cat_i, cat_r, cat_l]) (fun ls hl => ?_)
    exact t_X12_keepTurned_203 C hr hnm hL65 p1 p2 p3 x61 p5 _ h ls (lv_sub hl [1, 2, 3, 4, 0, 5] rfl)
def f_X12_keepTurned_65 (a0 : Nat)  (Q : Sto → Prop) (L65 : Int32 × Int32 × Int32 × Int32 × Int32 → Sto → Prop) (t : Int32 × Int32 × Int32 × Int32 × Int32) (σ : Sto) : Prop := (sK σ a0 = 12 ∧ (∃ b2 : Nat, sP σ a0 15 = some b2 ∧ (sK σ b2 = 14 ∧ (vp_in (8 : Int32) (sN σ b2) ∧ (∀ x6 : Int32, x6 = sI σ b2 (8 : Int32).toNatClampNeg → ((x6 ≤ t.2.2.2.2 → (∃ b9 : Nat, sP σ a0 46 = some b9 ∧ (sK σ b9 = 14 ∧ (vp_in t.1 (sN σ b9) ∧ (∀ x13 : Int32, x13 = sI σ b9 t.1.toNatClampNeg → (∀ x15 : Int32, x15 = x13 ||| ((1 : Int32) <<< (t.2.1 &&& 31)) → (vp_in t.1 (sN σ b9) ∧ Q (stI σ b9 t.1.toNatClampNeg x15)))))))) ∧ (¬ x6 ≤ t.2.2.2.2 → (∀ x18 : Int32, x18 = ((100 : Int32) * t.2.2.1) + t.2.2.2.2 → (vp_in t.2.2.2.1 (sN σ b2) ∧ (∀ x21 : Int32, x21 = sI σ b2 t.2.2.2.1.toNatClampNeg → ((¬ x21 = (1 : Int32) → b_X12_keepTurned_108 a0 L65 Q t.1 t.2.1 t.2.2.1 t.2.2.2.1 t.2.2.2.2 x18 (0 : Int32) x18 (sP σ a0 51) σ) ∧ (x21 = (1 : Int32) → b_X12_keepTurned_108 a0 L65 Q t.1 t.2.1 t.2.2.1 t.2.2.2.1 t.2.2.2.2 x18 (1 : Int32) x18 (sP σ a0 51) σ))))))))))))
set_option maxHeartbeats 4000000 in
set_option maxRecDepth 100000 in
theorem t_X12_keepTurned_65 {p : Program} {l : Launch} {e : Env} {s : State} {m : MethodId} {args : Array Value} {below : List Frame} {meth : Method} {c : Code} {D : va_G} {cy : Nat → ClassId} {A : Nat → Prop} {a0 : Nat} {Q : Sto → Prop} {L65 : Int32 × Int32 × Int32 × Int32 × Int32 → Sto → Prop} (C : Cx p s m args meth c D cy A cX12_keepTurned 7 RX12) (hr : meth.sig.returnType = none) (hnm : meth.name = yX12_keepTurned.name) (hL65 : ∀ (t : Int32 × Int32 × Int32 × Int32 × Int32) (σ : Sto), L65 t σ → ∀ ls : Array Slot, lv_has ls 7 [(0, .ref a0), (1, .int t.1), (2, .int t.2.1), (3, .int t.2.2.1), (4, .int t.2.2.2.1), (5, .int t.2.2.2.2)] → Xw p l e rm_X12_keepTurned s m args below meth c D cy A σ 0 0 (MQ below (Qst D cy A (PsV Q)) args s rm_X12_keepTurned.cells rm_X12_keepTurned.slots A) (F0 m 65 ls [])) : ∀ (t : Int32 × Int32 × Int32 × Int32 × Int32) (σ : Sto), f_X12_keepTurned_65 a0  Q L65 t σ → ∀ ls : Array Slot, lv_has ls 7 [(0, .ref a0), (1, .int t.1), (2, .int t.2.1), (3, .int t.2.2.1), (4, .int t.2.2.2.1), (5, .int t.2.2.2.2)] → Xw p l e rm_X12_keepTurned s m args below meth c D cy A σ 0 0 (MQ below (Qst D cy A (PsV Q)) args s rm_X12_keepTurned.cells rm_X12_keepTurned.slots A) (F0 m 65 ls []) := by
  intro t σ h ls hl
  unfold f_X12_keepTurned_65 at h
  refine x_iload C dX12_keepTurned_65 (lv_at hl 5 rfl) ?_
  refine x_aload_n C dX12_keepTurned_67 rfl (lv_at hl 0 rfl) ?_
  obtain ⟨g1, h⟩ := h
  refine x_getP C fl_RX12_30 g1 dX12_keepTurned_68 ?_
  refine x_bipush (v := 8) C dX12_keepTurned_71 (by decide) ?_
  obtain ⟨b2, g3, h⟩ := h
  refine x_nn1 g3 ?_
  obtain ⟨g4, h⟩ := h
  obtain ⟨g5, h⟩ := h
  refine x_iald C g4 g5 dX12_keepTurned_73 ?_
  refine x_topi (fun x6 e7 => ?_)
  have h := h x6 e7
  refine x_icmp_ge (tgt := 209) C dX12_keepTurned_74 (by decide) (fun c8 => ?_) (fun c8 => ?_)
  · have h := h.1 c8
    refine x_aload_n C dX12_keepTurned_209 rfl (lv_at hl 0 rfl) ?_
    refine x_getP C fl_RX12_119 g1 dX12_keepTurned_210 ?_
    refine x_iload_n C dX12_keepTurned_213 rfl (lv_at hl 1 rfl) ?_
    refine x_dup2 C dX12_keepTurned_214 (rfl) (vrc _) ?_
    obtain ⟨b9, g10, h⟩ := h
    refine x_nn1 g10 ?_
    obtain ⟨g11, h⟩ := h
    obtain ⟨g12, h⟩ := h
    refine x_iald C g11 g12 dX12_keepTurned_215 ?_
    refine x_topi (fun x13 e14 => ?_)
    have h := h x13 e14
    refine x_iconst (v := 1) C dX12_keepTurned_216 (by decide) ?_
    refine x_iload_n C dX12_keepTurned_217 rfl (lv_at hl 2 rfl) ?_
    refine x_ishl C dX12_keepTurned_218 ?_
    refine x_ior C dX12_keepTurned_219 ?_
    refine x_topi (fun x15 e16 => ?_)
    have h := h x15 e16
    refine x_nn2 g10 ?_
    obtain ⟨g17, h⟩ := h
    refine x_iast C g11 g17 dX12_keepTurned_220 ?_
    exact x_vret C hr dX12_keepTurned_221 ⟨rfl, h⟩
  · have h := h.2 c8
    refine x_bipush (v := 100) C dX12_keepTurned_77 (by decide) ?_
    refine x_iload_n C dX12_keepTurned_79 rfl (lv_at hl 3 rfl) ?_
    refine x_imul C dX12_keepTurned_80 ?_
    refine x_iload C dX12_keepTurned_81 (lv_at hl 5 rfl) ?_
    refine x_iadd C dX12_keepTurned_83 ?_
    refine x_topi (fun x18 e19 => ?_)
    have h := h x18 e19
    refine x_istore (i := 6) (lv' := [(6, .int x18), (0, .ref a0), (1, .int t.1), (2, .int t.2.1), (3, .int t.2.2.1), (4, .int t.2.2.2.1), (5, .int t.2.2.2.2)]) C dX12_keepTurned_84 hl (by decide) (by first | rfl | simp [vrc, cat_i, cat_r, cat_l]) (fun ls hl => ?_)
    refine x_aload_n C dX12_keepTurned_86 rfl (lv_at hl 1 rfl) ?_
    refine x_getP C fl_RX12_134 g1 dX12_keepTurned_87 ?_
    refine x_iload C dX12_keepTurned_90 (lv_at hl 0 rfl) ?_
    refine x_aload_n C dX12_keepTurned_92 rfl (lv_at hl 1 rfl) ?_
    refine x_getP C fl_RX12_30 g1 dX12_keepTurned_93 ?_
    refine x_iload C dX12_keepTurned_96 (lv_at hl 5 rfl) ?_
    refine x_nn1 g3 ?_
    obtain ⟨g20, h⟩ := h
    refine x_iald C g4 g20 dX12_keepTurned_98 ?_
    refine x_topi (fun x21 e22 => ?_)
    have h := h x21 e22
    refine x_iconst (v := 1) C dX12_keepTurned_99 (by decide) ?_
    refine x_icmp_ne (tgt := 107) C dX12_keepTurned_100 (by decide) (fun c23 => ?_) (fun c23 => ?_)
    · have h := h.1 c23
      refine x_iconst (v := 0) C dX12_keepTurned_107 (by decide) ?_
      exact t_X12_keepTurned_108 C hr hnm hL65 t.1 t.2.1 t.2.2.1 t.2.2.2.1 t.2.2.2.2 x18 (0 : Int32) x18 (sP σ a0 51) _ h ls (lv_sub hl [1, 2, 3, 4, 5, 6, 0] rfl)
    · have h := h.2 c23
      refine x_iconst (v := 1) C dX12_keepTurned_103 (by decide) ?_
      refine x_goto (tgt := 108) C dX12_keepTurned_104 (by decide) ?_
      exact t_X12_keepTurned_108 C hr hnm hL65 t.1 t.2.1 t.2.2.1 t.2.2.2.1 t.2.2.2.2 x18 (1 : Int32) x18 (sP σ a0 51) _ h ls (lv_sub hl [1, 2, 3, 4, 5, 6, 0] rfl)
def wp_X12_keepTurned (a0 : Nat) (p1 : Int32) (p2 : Int32) (σ : Sto) (Q : Sto → Prop) : Prop := (∀ x1 : Int32, x1 = ((7 : Int32) * p1) + p2 → (sK σ a0 = 12 ∧ (∃ b4 : Nat, sP σ a0 15 = some b4 ∧ (sK σ b4 = 14 ∧ (vp_in (5 : Int32) (sN σ b4) ∧ (∀ x8 : Int32, x8 = sI σ b4 (5 : Int32).toNatClampNeg → (∃ b10 : Nat, sP σ a0 47 = some b10 ∧ (sK σ b10 = 14 ∧ (vp_in x1 (sN σ b10) ∧ (vp_in (6 : Int32) (sN σ b4) ∧ (∀ x15 : Int32, x15 = sI (stI σ b10 x1.toNatClampNeg x8) b4 (6 : Int32).toNatClampNeg → (∃ b17 : Nat, sP σ a0 48 = some b17 ∧ (sK σ b17 = 14 ∧ (vp_in x1 (sN σ b17) ∧ (vp_in (7 : Int32) (sN σ b4) ∧ (∀ x22 : Int32, x22 = sI (stI (stI σ b10 x1.toNatClampNeg x8) b17 x1.toNatClampNeg x15) b4 (7 : Int32).toNatClampNeg → (∃ b24 : Nat, sP σ a0 49 = some b24 ∧ (sK σ b24 = 14 ∧ (vp_in x1 (sN σ b24) ∧ (vp_in (8 : Int32) (sN σ b4) ∧ (∀ x29 : Int32, x29 = sI (stI (stI (stI σ b10 x1.toNatClampNeg x8) b17 x1.toNatClampNeg x15) b24 x1.toNatClampNeg x22) b4 (8 : Int32).toNatClampNeg → (∃ b31 : Nat, sP σ a0 50 = some b31 ∧ (sK σ b31 = 14 ∧ (vp_in x1 (sN σ b31) ∧ LF (f_X12_keepTurned_65 a0  Q) (p1, p2, x1, (9 : Int32), (0 : Int32)) (stI (stI (stI (stI σ b10 x1.toNatClampNeg x8) b17 x1.toNatClampNeg x15) b24 x1.toNatClampNeg x22) b31 x1.toNatClampNeg x29)))))))))))))))))))))))))
set_option maxHeartbeats 4000000 in
set_option maxRecDepth 100000 in
theorem c_X12_keepTurned (l : Launch) (D : va_G) (cy : Nat → ClassId) (a0 : Nat) (p1 : Int32) (p2 : Int32) (σ : Sto) (Q : Sto → Prop) (h : wp_X12_keepTurned a0 p1 p2 σ Q) : Mt l D cy yX12_keepTurned cX12_keepTurned 7 none rm_X12_keepTurned [.ref a0, .int p1, .int p2] σ (PsV Q) := by
  unfold wp_X12_keepTurned at h
  refine mt_of (by decide +kernel) (Nat.le_of_ble_eq_true rfl) ?_
  intro p e s m args below meth c A ls C hr hnm hl
  have C : Cx p s m args meth c D cy A cX12_keepTurned 7 RX12 := C
  have hl : lv_has ls 7 [(0, .ref a0), (1, .int p1), (2, .int p2)] := hl
  refine x_bipush (v := 7) C dX12_keepTurned_0 (by decide) ?_
  refine x_iload_n C dX12_keepTurned_2 rfl (lv_at hl 1 rfl) ?_
  refine x_imul C dX12_keepTurned_3 ?_
  refine x_iload_n C dX12_keepTurned_4 rfl (lv_at hl 2 rfl) ?_
  refine x_iadd C dX12_keepTurned_5 ?_
  refine x_topi (fun x1 e2 => ?_)
  have h := h x1 e2
  refine x_istore_n (i := 3) (lv' := [(3, .int x1), (0, .ref a0), (1, .int p1), (2, .int p2)]) C dX12_keepTurned_6 rfl hl (by decide) (by first | rfl | simp [vrc, cat_i, cat_r, cat_l]) (fun ls hl => ?_)
  refine x_aload_n C dX12_keepTurned_7 rfl (lv_at hl 1 rfl) ?_
  obtain ⟨g3, h⟩ := h
  refine x_getP C fl_RX12_122 g3 dX12_keepTurned_8 ?_
  refine x_iload_n C dX12_keepTurned_11 rfl (lv_at hl 0 rfl) ?_
  refine x_aload_n C dX12_keepTurned_12 rfl (lv_at hl 1 rfl) ?_
  refine x_getP C fl_RX12_30 g3 dX12_keepTurned_13 ?_
  refine x_iconst (v := 5) C dX12_keepTurned_16 (by decide) ?_
  obtain ⟨b4, g5, h⟩ := h
  refine x_nn1 g5 ?_
  obtain ⟨g6, h⟩ := h
  obtain ⟨g7, h⟩ := h
  refine x_iald C g6 g7 dX12_keepTurned_17 ?_
  refine x_topi (fun x8 e9 => ?_)
  have h := h x8 e9
  obtain ⟨b10, g11, h⟩ := h
  refine x_nn2 g11 ?_
  obtain ⟨g12, h⟩ := h
  obtain ⟨g13, h⟩ := h
  refine x_iast C g12 g13 dX12_keepTurned_18 ?_
  refine x_aload_n C dX12_keepTurned_19 rfl (lv_at hl 1 rfl) ?_
  refine x_getP C fl_RX12_125 g3 dX12_keepTurned_20 ?_
  refine x_iload_n C dX12_keepTurned_23 rfl (lv_at hl 0 rfl) ?_
  refine x_aload_n C dX12_keepTurned_24 rfl (lv_at hl 1 rfl) ?_
  refine x_getP C fl_RX12_30 g3 dX12_keepTurned_25 ?_
  refine x_bipush (v := 6) C dX12_keepTurned_28 (by decide) ?_
  refine x_nn1 g5 ?_
  obtain ⟨g14, h⟩ := h
  refine x_iald C g6 g14 dX12_keepTurned_30 ?_
  refine x_topi (fun x15 e16 => ?_)
  have h := h x15 e16
  obtain ⟨b17, g18, h⟩ := h
  refine x_nn2 g18 ?_
  obtain ⟨g19, h⟩ := h
  obtain ⟨g20, h⟩ := h
  refine x_iast C g19 g20 dX12_keepTurned_31 ?_
  refine x_aload_n C dX12_keepTurned_32 rfl (lv_at hl 1 rfl) ?_
  refine x_getP C fl_RX12_128 g3 dX12_keepTurned_33 ?_
  refine x_iload_n C dX12_keepTurned_36 rfl (lv_at hl 0 rfl) ?_
  refine x_aload_n C dX12_keepTurned_37 rfl (lv_at hl 1 rfl) ?_
  refine x_getP C fl_RX12_30 g3 dX12_keepTurned_38 ?_
  refine x_bipush (v := 7) C dX12_keepTurned_41 (by decide) ?_
  refine x_nn1 g5 ?_
  obtain ⟨g21, h⟩ := h
  refine x_iald C g6 g21 dX12_keepTurned_43 ?_
  refine x_topi (fun x22 e23 => ?_)
  have h := h x22 e23
  obtain ⟨b24, g25, h⟩ := h
  refine x_nn2 g25 ?_
  obtain ⟨g26, h⟩ := h
  obtain ⟨g27, h⟩ := h
  refine x_iast C g26 g27 dX12_keepTurned_44 ?_
  refine x_aload_n C dX12_keepTurned_45 rfl (lv_at hl 1 rfl) ?_
  refine x_getP C fl_RX12_131 g3 dX12_keepTurned_46 ?_
  refine x_iload_n C dX12_keepTurned_49 rfl (lv_at hl 0 rfl) ?_
  refine x_aload_n C dX12_keepTurned_50 rfl (lv_at hl 1 rfl) ?_
  refine x_getP C fl_RX12_30 g3 dX12_keepTurned_51 ?_
  refine x_bipush (v := 8) C dX12_keepTurned_54 (by decide) ?_
  refine x_nn1 g5 ?_
  obtain ⟨g28, h⟩ := h
  refine x_iald C g6 g28 dX12_keepTurned_56 ?_
  refine x_topi (fun x29 e30 => ?_)
  have h := h x29 e30
  obtain ⟨b31, g32, h⟩ := h
  refine x_nn2 g32 ?_
  obtain ⟨g33, h⟩ := h
  obtain ⟨g34, h⟩ := h
  refine x_iast C g33 g34 dX12_keepTurned_57 ?_
  refine x_bipush (v := 9) C dX12_keepTurned_58 (by decide) ?_
  refine x_istore (i := 4) (lv' := [(4, .int (9 : Int32)), (3, .int x1), (0, .ref a0), (1, .int p1), (2, .int p2)]) C dX12_keepTurned_60 hl (by decide) (by first | rfl | simp [vrc, cat_i, cat_r, cat_l]) (fun ls hl => ?_)
  refine x_iconst (v := 0) C dX12_keepTurned_62 (by decide) ?_
  refine x_istore (i := 5) (lv' := [(5, .int (0 : Int32)), (4, .int (9 : Int32)), (3, .int x1), (0, .ref a0), (1, .int p1), (2, .int p2)]) C dX12_keepTurned_63 hl (by decide) (by first | rfl | simp [vrc, cat_i, cat_r, cat_l]) (fun ls hl => ?_)
  exact h (fun t σ => ∀ ls : Array Slot, lv_has ls 7 [(0, .ref a0), (1, .int t.1), (2, .int t.2.1), (3, .int t.2.2.1), (4, .int t.2.2.2.1), (5, .int t.2.2.2.2)] → Xw p l e rm_X12_keepTurned s m args below meth c D cy A σ 0 0 (MQ below (Qst D cy A (PsV Q)) args s rm_X12_keepTurned.cells rm_X12_keepTurned.slots A) (F0 m 65 ls [])) (t_X12_keepTurned_65 C hr hnm  (fun t σ h => h)) ls (lv_sub hl [3, 4, 5, 2, 1, 0] rfl)
