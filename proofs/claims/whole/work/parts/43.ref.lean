theorem dX12_drop_0 : decode cX12_drop 0 = .ok (.aload_n 0, 1) := by decide +kernel
theorem dX12_drop_1 : decode cX12_drop 1 = .ok (.getfield 89, 3) := by decide +kernel
theorem dX12_drop_4 : decode cX12_drop 4 = .ok (.iload_n 1, 1) := by decide +kernel
theorem dX12_drop_5 : decode cX12_drop 5 = .ok (.dup2, 1) := by decide +kernel
theorem dX12_drop_6 : decode cX12_drop 6 = .ok (.iaload, 1) := by decide +kernel
theorem dX12_drop_7 : decode cX12_drop 7 = .ok (.iconst 1, 1) := by decide +kernel
theorem dX12_drop_8 : decode cX12_drop 8 = .ok (.isub, 1) := by decide +kernel
theorem dX12_drop_9 : decode cX12_drop 9 = .ok (.iastore, 1) := by decide +kernel
theorem dX12_drop_10 : decode cX12_drop 10 = .ok (.bipush 16, 2) := by decide +kernel
theorem dX12_drop_12 : decode cX12_drop 12 = .ok (.iload_n 1, 1) := by decide +kernel
theorem dX12_drop_13 : decode cX12_drop 13 = .ok (.imul, 1) := by decide +kernel
theorem dX12_drop_14 : decode cX12_drop 14 = .ok (.aload_n 0, 1) := by decide +kernel
theorem dX12_drop_15 : decode cX12_drop 15 = .ok (.getfield 89, 3) := by decide +kernel
theorem dX12_drop_18 : decode cX12_drop 18 = .ok (.iload_n 1, 1) := by decide +kernel
theorem dX12_drop_19 : decode cX12_drop 19 = .ok (.iaload, 1) := by decide +kernel
theorem dX12_drop_20 : decode cX12_drop 20 = .ok (.iadd, 1) := by decide +kernel
theorem dX12_drop_21 : decode cX12_drop 21 = .ok (.istore_n 3, 1) := by decide +kernel
theorem dX12_drop_22 : decode cX12_drop 22 = .ok (.aload_n 0, 1) := by decide +kernel
theorem dX12_drop_23 : decode cX12_drop 23 = .ok (.getfield 92, 3) := by decide +kernel
theorem dX12_drop_26 : decode cX12_drop 26 = .ok (.iload_n 2, 1) := by decide +kernel
theorem dX12_drop_27 : decode cX12_drop 27 = .ok (.aload_n 0, 1) := by decide +kernel
theorem dX12_drop_28 : decode cX12_drop 28 = .ok (.getfield 92, 3) := by decide +kernel
theorem dX12_drop_31 : decode cX12_drop 31 = .ok (.iload_n 3, 1) := by decide +kernel
theorem dX12_drop_32 : decode cX12_drop 32 = .ok (.iaload, 1) := by decide +kernel
theorem dX12_drop_33 : decode cX12_drop 33 = .ok (.iastore, 1) := by decide +kernel
theorem dX12_drop_34 : decode cX12_drop 34 = .ok (.aload_n 0, 1) := by decide +kernel
theorem dX12_drop_35 : decode cX12_drop 35 = .ok (.getfield 95, 3) := by decide +kernel
theorem dX12_drop_38 : decode cX12_drop 38 = .ok (.iload_n 2, 1) := by decide +kernel
theorem dX12_drop_39 : decode cX12_drop 39 = .ok (.aload_n 0, 1) := by decide +kernel
theorem dX12_drop_40 : decode cX12_drop 40 = .ok (.getfield 95, 3) := by decide +kernel
theorem dX12_drop_43 : decode cX12_drop 43 = .ok (.iload_n 3, 1) := by decide +kernel
theorem dX12_drop_44 : decode cX12_drop 44 = .ok (.iaload, 1) := by decide +kernel
theorem dX12_drop_45 : decode cX12_drop 45 = .ok (.iastore, 1) := by decide +kernel
theorem dX12_drop_46 : decode cX12_drop 46 = .ok (.aload_n 0, 1) := by decide +kernel
theorem dX12_drop_47 : decode cX12_drop 47 = .ok (.getfield 98, 3) := by decide +kernel
theorem dX12_drop_50 : decode cX12_drop 50 = .ok (.iload_n 2, 1) := by decide +kernel
theorem dX12_drop_51 : decode cX12_drop 51 = .ok (.aload_n 0, 1) := by decide +kernel
theorem dX12_drop_52 : decode cX12_drop 52 = .ok (.getfield 98, 3) := by decide +kernel
theorem dX12_drop_55 : decode cX12_drop 55 = .ok (.iload_n 3, 1) := by decide +kernel
theorem dX12_drop_56 : decode cX12_drop 56 = .ok (.iaload, 1) := by decide +kernel
theorem dX12_drop_57 : decode cX12_drop 57 = .ok (.iastore, 1) := by decide +kernel
theorem dX12_drop_58 : decode cX12_drop 58 = .ok (.aload_n 0, 1) := by decide +kernel
theorem dX12_drop_59 : decode cX12_drop 59 = .ok (.getfield 101, 3) := by decide +kernel
theorem dX12_drop_62 : decode cX12_drop 62 = .ok (.iload_n 2, 1) := by decide +kernel
theorem dX12_drop_63 : decode cX12_drop 63 = .ok (.aload_n 0, 1) := by decide +kernel
theorem dX12_drop_64 : decode cX12_drop 64 = .ok (.getfield 101, 3) := by decide +kernel
theorem dX12_drop_67 : decode cX12_drop 67 = .ok (.iload_n 3, 1) := by decide +kernel
theorem dX12_drop_68 : decode cX12_drop 68 = .ok (.iaload, 1) := by decide +kernel
theorem dX12_drop_69 : decode cX12_drop 69 = .ok (.iastore, 1) := by decide +kernel
theorem dX12_drop_70 : decode cX12_drop 70 = .ok (.aload_n 0, 1) := by decide +kernel
theorem dX12_drop_71 : decode cX12_drop 71 = .ok (.getfield 104, 3) := by decide +kernel
theorem dX12_drop_74 : decode cX12_drop 74 = .ok (.iload_n 2, 1) := by decide +kernel
theorem dX12_drop_75 : decode cX12_drop 75 = .ok (.aload_n 0, 1) := by decide +kernel
theorem dX12_drop_76 : decode cX12_drop 76 = .ok (.getfield 104, 3) := by decide +kernel
theorem dX12_drop_79 : decode cX12_drop 79 = .ok (.iload_n 3, 1) := by decide +kernel
theorem dX12_drop_80 : decode cX12_drop 80 = .ok (.iaload, 1) := by decide +kernel
theorem dX12_drop_81 : decode cX12_drop 81 = .ok (.iastore, 1) := by decide +kernel
theorem dX12_drop_82 : decode cX12_drop 82 = .ok (.aload_n 0, 1) := by decide +kernel
theorem dX12_drop_83 : decode cX12_drop 83 = .ok (.getfield 107, 3) := by decide +kernel
theorem dX12_drop_86 : decode cX12_drop 86 = .ok (.iload_n 2, 1) := by decide +kernel
theorem dX12_drop_87 : decode cX12_drop 87 = .ok (.aload_n 0, 1) := by decide +kernel
theorem dX12_drop_88 : decode cX12_drop 88 = .ok (.getfield 107, 3) := by decide +kernel
theorem dX12_drop_91 : decode cX12_drop 91 = .ok (.iload_n 3, 1) := by decide +kernel
theorem dX12_drop_92 : decode cX12_drop 92 = .ok (.iaload, 1) := by decide +kernel
theorem dX12_drop_93 : decode cX12_drop 93 = .ok (.iastore, 1) := by decide +kernel
theorem dX12_drop_94 : decode cX12_drop 94 = .ok (.return_, 1) := by decide +kernel
abbrev rm_X12_drop : Room := { frames := 0, cells := 0, slots := 0, locals := 0 }
def wp_X12_drop (a0 : Nat) (p1 : Int32) (p2 : Int32) (σ : Sto) (Q : Sto → Prop) : Prop := (sK σ a0 = 12 ∧ (∃ b2 : Nat, sP σ a0 36 = some b2 ∧ (sK σ b2 = 14 ∧ (vp_in p1 (sN σ b2) ∧ (∀ x6 : Int32, x6 = sI σ b2 p1.toNatClampNeg → (∀ x8 : Int32, x8 = x6 - (1 : Int32) → (vp_in p1 (sN σ b2) ∧ (vp_in p1 (sN σ b2) ∧ (∀ x12 : Int32, x12 = sI (stI σ b2 p1.toNatClampNeg x8) b2 p1.toNatClampNeg → (∀ x14 : Int32, x14 = ((16 : Int32) * p1) + x12 → (∃ b16 : Nat, sP σ a0 37 = some b16 ∧ (sK σ b16 = 14 ∧ (vp_in x14 (sN σ b16) ∧ (∀ x20 : Int32, x20 = sI (stI σ b2 p1.toNatClampNeg x8) b16 x14.toNatClampNeg → (vp_in p2 (sN σ b16) ∧ (∃ b23 : Nat, sP σ a0 38 = some b23 ∧ (sK σ b23 = 14 ∧ (vp_in x14 (sN σ b23) ∧ (∀ x27 : Int32, x27 = sI (stI (stI σ b2 p1.toNatClampNeg x8) b16 p2.toNatClampNeg x20) b23 x14.toNatClampNeg → (vp_in p2 (sN σ b23) ∧ (∃ b30 : Nat, sP σ a0 39 = some b30 ∧ (sK σ b30 = 14 ∧ (vp_in x14 (sN σ b30) ∧ (∀ x34 : Int32, x34 = sI (stI (stI (stI σ b2 p1.toNatClampNeg x8) b16 p2.toNatClampNeg x20) b23 p2.toNatClampNeg x27) b30 x14.toNatClampNeg → (vp_in p2 (sN σ b30) ∧ (∃ b37 : Nat, sP σ a0 40 = some b37 ∧ (sK σ b37 = 14 ∧ (vp_in x14 (sN σ b37) ∧ (∀ x41 : Int32, x41 = sI (stI (stI (stI (stI σ b2 p1.toNatClampNeg x8) b16 p2.toNatClampNeg x20) b23 p2.toNatClampNeg x27) b30 p2.toNatClampNeg x34) b37 x14.toNatClampNeg → (vp_in p2 (sN σ b37) ∧ (∃ b44 : Nat, sP σ a0 41 = some b44 ∧ (sK σ b44 = 14 ∧ (vp_in x14 (sN σ b44) ∧ (∀ x48 : Int32, x48 = sI (stI (stI (stI (stI (stI σ b2 p1.toNatClampNeg x8) b16 p2.toNatClampNeg x20) b23 p2.toNatClampNeg x27) b30 p2.toNatClampNeg x34) b37 p2.toNatClampNeg x41) b44 x14.toNatClampNeg → (vp_in p2 (sN σ b44) ∧ (∃ b51 : Nat, sP σ a0 42 = some b51 ∧ (sK σ b51 = 14 ∧ (vp_in x14 (sN σ b51) ∧ (∀ x55 : Int32, x55 = sI (stI (stI (stI (stI (stI (stI σ b2 p1.toNatClampNeg x8) b16 p2.toNatClampNeg x20) b23 p2.toNatClampNeg x27) b30 p2.toNatClampNeg x34) b37 p2.toNatClampNeg x41) b44 p2.toNatClampNeg x48) b51 x14.toNatClampNeg → (vp_in p2 (sN σ b51) ∧ Q (stI (stI (stI (stI (stI (stI (stI σ b2 p1.toNatClampNeg x8) b16 p2.toNatClampNeg x20) b23 p2.toNatClampNeg x27) b30 p2.toNatClampNeg x34) b37 p2.toNatClampNeg x41) b44 p2.toNatClampNeg x48) b51 p2.toNatClampNeg x55)))))))))))))))))))))))))))))))))))))))))
set_option maxHeartbeats 4000000 in
set_option maxRecDepth 100000 in
theorem c_X12_drop (l : Launch) (D : va_G) (cy : Nat → ClassId) (a0 : Nat) (p1 : Int32) (p2 : Int32) (σ : Sto) (Q : Sto → Prop) (h : wp_X12_drop a0 p1 p2 σ Q) : Mt l D cy yX12_drop cX12_drop 4 none rm_X12_drop [.ref a0, .int p1, .int p2] σ (PsV Q) := by
  unfold wp_X12_drop at h
  refine mt_of (by decide +kernel) (Nat.le_of_ble_eq_true rfl) ?_
  intro p e s m args below meth c A ls C hr hnm hl
  have C : Cx p s m args meth c D cy A cX12_drop 4 RX12 := C
  have hl : lv_has ls 4 [(0, .ref a0), (1, .int p1), (2, .int p2)] := hl
  refine x_aload_n C dX12_drop_0 rfl (lv_at hl 0 rfl) ?_
  obtain ⟨g1, h⟩ := h
  refine x_getP C fl_RX12_89 g1 dX12_drop_1 ?_
  refine x_iload_n C dX12_drop_4 rfl (lv_at hl 1 rfl) ?_
  refine x_dup2 C dX12_drop_5 (rfl) (vrc _) ?_
  obtain ⟨b2, g3, h⟩ := h
  refine x_nn1 g3 ?_
  obtain ⟨g4, h⟩ := h
  obtain ⟨g5, h⟩ := h
  refine x_iald C g4 g5 dX12_drop_6 ?_
  refine x_topi (fun x6 e7 => ?_)
  have h := h x6 e7
  refine x_iconst (v := 1) C dX12_drop_7 (by decide) ?_
  refine x_isub C dX12_drop_8 ?_
  refine x_topi (fun x8 e9 => ?_)
  have h := h x8 e9
  refine x_nn2 g3 ?_
  obtain ⟨g10, h⟩ := h
  refine x_iast C g4 g10 dX12_drop_9 ?_
  refine x_bipush (v := 16) C dX12_drop_10 (by decide) ?_
  refine x_iload_n C dX12_drop_12 rfl (lv_at hl 1 rfl) ?_
  refine x_imul C dX12_drop_13 ?_
  refine x_aload_n C dX12_drop_14 rfl (lv_at hl 0 rfl) ?_
  refine x_getP C fl_RX12_89 g1 dX12_drop_15 ?_
  refine x_iload_n C dX12_drop_18 rfl (lv_at hl 1 rfl) ?_
  refine x_nn1 g3 ?_
  obtain ⟨g11, h⟩ := h
  refine x_iald C g4 g11 dX12_drop_19 ?_
  refine x_topi (fun x12 e13 => ?_)
  have h := h x12 e13
  refine x_iadd C dX12_drop_20 ?_
  refine x_topi (fun x14 e15 => ?_)
  have h := h x14 e15
  refine x_istore_n (i := 3) (lv' := [(3, .int x14), (0, .ref a0), (1, .int p1), (2, .int p2)]) C dX12_drop_21 rfl hl (by decide) (by first | rfl | simp [vrc, cat_i, cat_r, cat_l]) (fun ls hl => ?_)
  refine x_aload_n C dX12_drop_22 rfl (lv_at hl 1 rfl) ?_
  refine x_getP C fl_RX12_92 g1 dX12_drop_23 ?_
  refine x_iload_n C dX12_drop_26 rfl (lv_at hl 3 rfl) ?_
  refine x_aload_n C dX12_drop_27 rfl (lv_at hl 1 rfl) ?_
  refine x_getP C fl_RX12_92 g1 dX12_drop_28 ?_
  refine x_iload_n C dX12_drop_31 rfl (lv_at hl 0 rfl) ?_
  obtain ⟨b16, g17, h⟩ := h
  refine x_nn1 g17 ?_
  obtain ⟨g18, h⟩ := h
  obtain ⟨g19, h⟩ := h
  refine x_iald C g18 g19 dX12_drop_32 ?_
  refine x_topi (fun x20 e21 => ?_)
  have h := h x20 e21
  refine x_nn2 g17 ?_
  obtain ⟨g22, h⟩ := h
  refine x_iast C g18 g22 dX12_drop_33 ?_
  refine x_aload_n C dX12_drop_34 rfl (lv_at hl 1 rfl) ?_
  refine x_getP C fl_RX12_95 g1 dX12_drop_35 ?_
  refine x_iload_n C dX12_drop_38 rfl (lv_at hl 3 rfl) ?_
  refine x_aload_n C dX12_drop_39 rfl (lv_at hl 1 rfl) ?_
  refine x_getP C fl_RX12_95 g1 dX12_drop_40 ?_
  refine x_iload_n C dX12_drop_43 rfl (lv_at hl 0 rfl) ?_
  obtain ⟨b23, g24, h⟩ := h
  refine x_nn1 g24 ?_
  obtain ⟨g25, h⟩ := h
  obtain ⟨g26, h⟩ := h
  refine x_iald C g25 g26 dX12_drop_44 ?_
  refine x_topi (fun x27 e28 => ?_)
  have h := h x27 e28
  refine x_nn2 g24 ?_
  obtain ⟨g29, h⟩ := h
  refine x_iast C g25 g29 dX12_drop_45 ?_
  refine x_aload_n C dX12_drop_46 rfl (lv_at hl 1 rfl) ?_
  refine x_getP C fl_RX12_98 g1 dX12_drop_47 ?_
  refine x_iload_n C dX12_drop_50 rfl (lv_at hl 3 rfl) ?_
  refine x_aload_n C dX12_drop_51 rfl (lv_at hl 1 rfl) ?_
  refine x_getP C fl_RX12_98 g1 dX12_drop_52 ?_
  refine x_iload_n C dX12_drop_55 rfl (lv_at hl 0 rfl) ?_
  obtain ⟨b30, g31, h⟩ := h
  refine x_nn1 g31 ?_
  obtain ⟨g32, h⟩ := h
  obtain ⟨g33, h⟩ := h
  refine x_iald C g32 g33 dX12_drop_56 ?_
  refine x_topi (fun x34 e35 => ?_)
  have h := h x34 e35
  refine x_nn2 g31 ?_
  obtain ⟨g36, h⟩ := h
  refine x_iast C g32 g36 dX12_drop_57 ?_
  refine x_aload_n C dX12_drop_58 rfl (lv_at hl 1 rfl) ?_
  refine x_getP C fl_RX12_101 g1 dX12_drop_59 ?_
  refine x_iload_n C dX12_drop_62 rfl (lv_at hl 3 rfl) ?_
  refine x_aload_n C dX12_drop_63 rfl (lv_at hl 1 rfl) ?_
  refine x_getP C fl_RX12_101 g1 dX12_drop_64 ?_
  refine x_iload_n C dX12_drop_67 rfl (lv_at hl 0 rfl) ?_
  obtain ⟨b37, g38, h⟩ := h
  refine x_nn1 g38 ?_
  obtain ⟨g39, h⟩ := h
  obtain ⟨g40, h⟩ := h
  refine x_iald C g39 g40 dX12_drop_68 ?_
  refine x_topi (fun x41 e42 => ?_)
  have h := h x41 e42
  refine x_nn2 g38 ?_
  obtain ⟨g43, h⟩ := h
  refine x_iast C g39 g43 dX12_drop_69 ?_
  refine x_aload_n C dX12_drop_70 rfl (lv_at hl 1 rfl) ?_
  refine x_getP C fl_RX12_104 g1 dX12_drop_71 ?_
  refine x_iload_n C dX12_drop_74 rfl (lv_at hl 3 rfl) ?_
  refine x_aload_n C dX12_drop_75 rfl (lv_at hl 1 rfl) ?_
  refine x_getP C fl_RX12_104 g1 dX12_drop_76 ?_
  refine x_iload_n C dX12_drop_79 rfl (lv_at hl 0 rfl) ?_
  obtain ⟨b44, g45, h⟩ := h
  refine x_nn1 g45 ?_
  obtain ⟨g46, h⟩ := h
  obtain ⟨g47, h⟩ := h
  refine x_iald C g46 g47 dX12_drop_80 ?_
  refine x_topi (fun x48 e49 => ?_)
  have h := h x48 e49
  refine x_nn2 g45 ?_
  obtain ⟨g50, h⟩ := h
  refine x_iast C g46 g50 dX12_drop_81 ?_
  refine x_aload_n C dX12_drop_82 rfl (lv_at hl 1 rfl) ?_
  refine x_getP C fl_RX12_107 g1 dX12_drop_83 ?_
  refine x_iload_n C dX12_drop_86 rfl (lv_at hl 3 rfl) ?_
  refine x_aload_n C dX12_drop_87 rfl (lv_at hl 1 rfl) ?_
  refine x_getP C fl_RX12_107 g1 dX12_drop_88 ?_
  refine x_iload_n C dX12_drop_91 rfl (lv_at hl 0 rfl) ?_
  obtain ⟨b51, g52, h⟩ := h
  refine x_nn1 g52 ?_
  obtain ⟨g53, h⟩ := h
  obtain ⟨g54, h⟩ := h
  refine x_iald C g53 g54 dX12_drop_92 ?_
  refine x_topi (fun x55 e56 => ?_)
  have h := h x55 e56
  refine x_nn2 g52 ?_
  obtain ⟨g57, h⟩ := h
  refine x_iast C g53 g57 dX12_drop_93 ?_
  exact x_vret C hr dX12_drop_94 ⟨rfl, h⟩
theorem dX12_restart_0 : decode cX12_restart 0 = .ok (.iconst 0, 1) := by decide +kernel
theorem dX12_restart_1 : decode cX12_restart 1 = .ok (.istore_n 1, 1) := by decide +kernel
theorem dX12_restart_2 : decode cX12_restart 2 = .ok (.iload_n 1, 1) := by decide +kernel
theorem dX12_restart_3 : decode cX12_restart 3 = .ok (.bipush 8, 2) := by decide +kernel
theorem dX12_restart_5 : decode cX12_restart 5 = .ok (.if_icmp .ge 16, 3) := by decide +kernel
theorem dX12_restart_8 : decode cX12_restart 8 = .ok (.aload_n 0, 1) := by decide +kernel
theorem dX12_restart_9 : decode cX12_restart 9 = .ok (.getfield 167, 3) := by decide +kernel
theorem dX12_restart_12 : decode cX12_restart 12 = .ok (.iload_n 1, 1) := by decide +kernel
theorem dX12_restart_13 : decode cX12_restart 13 = .ok (.iconst 0, 1) := by decide +kernel
theorem dX12_restart_14 : decode cX12_restart 14 = .ok (.iastore, 1) := by decide +kernel
theorem dX12_restart_15 : decode cX12_restart 15 = .ok (.iinc 1 1, 3) := by decide +kernel
theorem dX12_restart_18 : decode cX12_restart 18 = .ok (.goto (-16), 3) := by decide +kernel
theorem dX12_restart_21 : decode cX12_restart 21 = .ok (.iconst 0, 1) := by decide +kernel
theorem dX12_restart_22 : decode cX12_restart 22 = .ok (.istore_n 1, 1) := by decide +kernel
theorem dX12_restart_23 : decode cX12_restart 23 = .ok (.iload_n 1, 1) := by decide +kernel
theorem dX12_restart_24 : decode cX12_restart 24 = .ok (.iconst 4, 1) := by decide +kernel
theorem dX12_restart_25 : decode cX12_restart 25 = .ok (.if_icmp .ge 23, 3) := by decide +kernel
theorem dX12_restart_28 : decode cX12_restart 28 = .ok (.aload_n 0, 1) := by decide +kernel
theorem dX12_restart_29 : decode cX12_restart 29 = .ok (.getfield 170, 3) := by decide +kernel
theorem dX12_restart_32 : decode cX12_restart 32 = .ok (.iload_n 1, 1) := by decide +kernel
theorem dX12_restart_33 : decode cX12_restart 33 = .ok (.iconst 0, 1) := by decide +kernel
theorem dX12_restart_34 : decode cX12_restart 34 = .ok (.iastore, 1) := by decide +kernel
theorem dX12_restart_35 : decode cX12_restart 35 = .ok (.aload_n 0, 1) := by decide +kernel
theorem dX12_restart_36 : decode cX12_restart 36 = .ok (.getfield 173, 3) := by decide +kernel
theorem dX12_restart_39 : decode cX12_restart 39 = .ok (.iload_n 1, 1) := by decide +kernel
theorem dX12_restart_40 : decode cX12_restart 40 = .ok (.iconst 0, 1) := by decide +kernel
theorem dX12_restart_41 : decode cX12_restart 41 = .ok (.iastore, 1) := by decide +kernel
theorem dX12_restart_42 : decode cX12_restart 42 = .ok (.iinc 1 1, 3) := by decide +kernel
theorem dX12_restart_45 : decode cX12_restart 45 = .ok (.goto (-22), 3) := by decide +kernel
theorem dX12_restart_48 : decode cX12_restart 48 = .ok (.return_, 1) := by decide +kernel
abbrev rm_X12_restart : Room := { frames := 0, cells := 0, slots := 0, locals := 0 }
def f_X12_restart_23 (a0 : Nat)  (Q : Sto → Prop) (L23 : Int32 → Sto → Prop) (t : Int32) (σ : Sto) : Prop := (((4 : Int32) ≤ t → Q σ) ∧ (¬ (4 : Int32) ≤ t → (sK σ a0 = 12 ∧ (∃ b3 : Nat, sP σ a0 63 = some b3 ∧ (sK σ b3 = 14 ∧ (vp_in t (sN σ b3) ∧ (∃ b7 : Nat, sP σ a0 64 = some b7 ∧ (sK σ b7 = 14 ∧ (vp_in t (sN σ b7) ∧ (∀ x11 : Int32, x11 = t + (1 : Int32) → L23 (x11) (stI (stI σ b3 t.toNatClampNeg (0 : Int32)) b7 t.toNatClampNeg (0 : Int32))))))))))))
set_option maxHeartbeats 4000000 in
set_option maxRecDepth 100000 in
theorem t_X12_restart_23 {p : Program} {l : Launch} {e : Env} {s : State} {m : MethodId} {args : Array Value} {below : List Frame} {meth : Method} {c : Code} {D : va_G} {cy : Nat → ClassId} {A : Nat → Prop} {a0 : Nat} {Q : Sto → Prop} {L23 : Int32 → Sto → Prop} (C : Cx p s m args meth c D cy A cX12_restart 2 RX12) (hr : meth.sig.returnType = none) (hnm : meth.name = yX12_restart.name) (hL23 : ∀ (t : Int32) (σ : Sto), L23 t σ → ∀ ls : Array Slot, lv_has ls 2 [(0, .ref a0), (1, .int t)] → Xw p l e rm_X12_restart s m args below meth c D cy A σ 0 0 (MQ below (Qst D cy A (PsV Q)) args s rm_X12_restart.cells rm_X12_restart.slots A) (F0 m 23 ls [])) : ∀ (t : Int32) (σ : Sto), f_X12_restart_23 a0  Q L23 t σ → ∀ ls : Array Slot, lv_has ls 2 [(0, .ref a0), (1, .int t)] → Xw p l e rm_X12_restart s m args below meth c D cy A σ 0 0 (MQ below (Qst D cy A (PsV Q)) args s rm_X12_restart.cells rm_X12_restart.slots A) (F0 m 23 ls []) := by
  intro t σ h ls hl
  unfold f_X12_restart_23 at h
  refine x_iload_n C dX12_restart_23 rfl (lv_at hl 1 rfl) ?_
  refine x_iconst (v := 4) C dX12_restart_24 (by decide) ?_
  refine x_icmp_ge (tgt := 48) C dX12_restart_25 (by decide) (fun c1 => ?_) (fun c1 => ?_)
  · have h := h.1 c1
    exact x_vret C hr dX12_restart_48 ⟨rfl, h⟩
  · have h := h.2 c1
    refine x_aload_n C dX12_restart_28 rfl (lv_at hl 0 rfl) ?_
    obtain ⟨g2, h⟩ := h
    refine x_getP C fl_RX12_170 g2 dX12_restart_29 ?_
    refine x_iload_n C dX12_restart_32 rfl (lv_at hl 1 rfl) ?_
    refine x_iconst (v := 0) C dX12_restart_33 (by decide) ?_
    obtain ⟨b3, g4, h⟩ := h
    refine x_nn2 g4 ?_
    obtain ⟨g5, h⟩ := h
    obtain ⟨g6, h⟩ := h
    refine x_iast C g5 g6 dX12_restart_34 ?_
    refine x_aload_n C dX12_restart_35 rfl (lv_at hl 0 rfl) ?_
    refine x_getP C fl_RX12_173 g2 dX12_restart_36 ?_
    refine x_iload_n C dX12_restart_39 rfl (lv_at hl 1 rfl) ?_
    refine x_iconst (v := 0) C dX12_restart_40 (by decide) ?_
    obtain ⟨b7, g8, h⟩ := h
    refine x_nn2 g8 ?_
    obtain ⟨g9, h⟩ := h
    obtain ⟨g10, h⟩ := h
    refine x_iast C g9 g10 dX12_restart_41 ?_
    obtain ⟨x11, e12⟩ : ∃ z : Int32, z = t + (1 : Int32) := ⟨_, rfl⟩
    have h := h x11 e12
    refine x_iinc (v := x11) (lv' := [(1, .int x11), (0, .ref a0)]) C dX12_restart_42 hl (q0 := 1) rfl (by rw [e12]; rfl) (by decide) (by first | rfl | simp [vrc, cat_i, cat_r, cat_l]) (fun ls hl => ?_)
    refine x_goto (tgt := 23) C dX12_restart_45 (by decide) ?_
    exact hL23 (x11) _ h ls (lv_sub hl [1, 0] rfl)
def f_X12_restart_2 (a0 : Nat)  (Q : Sto → Prop) (L2 : Int32 → Sto → Prop) (t : Int32) (σ : Sto) : Prop := (((8 : Int32) ≤ t → LF (f_X12_restart_23 a0  Q) ((0 : Int32)) σ) ∧ (¬ (8 : Int32) ≤ t → (sK σ a0 = 12 ∧ (∃ b3 : Nat, sP σ a0 62 = some b3 ∧ (sK σ b3 = 14 ∧ (vp_in t (sN σ b3) ∧ (∀ x7 : Int32, x7 = t + (1 : Int32) → L2 (x7) (stI σ b3 t.toNatClampNeg (0 : Int32)))))))))
set_option maxHeartbeats 4000000 in
set_option maxRecDepth 100000 in
theorem t_X12_restart_2 {p : Program} {l : Launch} {e : Env} {s : State} {m : MethodId} {args : Array Value} {below : List Frame} {meth : Method} {c : Code} {D : va_G} {cy : Nat → ClassId} {A : Nat → Prop} {a0 : Nat} {Q : Sto → Prop} {L2 : Int32 → Sto → Prop} (C : Cx p s m args meth c D cy A cX12_restart 2 RX12) (hr : meth.sig.returnType = none) (hnm : meth.name = yX12_restart.name) (hL2 : ∀ (t : Int32) (σ : Sto), L2 t σ → ∀ ls : Array Slot, lv_has ls 2 [(0, .ref a0), (1, .int t)] → Xw p l e rm_X12_restart s m args below meth c D cy A σ 0 0 (MQ below (Qst D cy A (PsV Q)) args s rm_X12_restart.cells rm_X12_restart.slots A) (F0 m 2 ls [])) : ∀ (t : Int32) (σ : Sto), f_X12_restart_2 a0  Q L2 t σ → ∀ ls : Array Slot, lv_has ls 2 [(0, .ref a0), (1, .int t)] → Xw p l e rm_X12_restart s m args below meth c D cy A σ 0 0 (MQ below (Qst D cy A (PsV Q)) args s rm_X12_restart.cells rm_X12_restart.slots A) (F0 m 2 ls []) := by
  intro t σ h ls hl
  unfold f_X12_restart_2 at h
  refine x_iload_n C dX12_restart_2 rfl (lv_at hl 1 rfl) ?_
  refine x_bipush (v := 8) C dX12_restart_3 (by decide) ?_
  refine x_icmp_ge (tgt := 21) C dX12_restart_5 (by decide) (fun c1 => ?_) (fun c1 => ?_)
  · have h := h.1 c1
    refine x_iconst (v := 0) C dX12_restart_21 (by decide) ?_
    refine x_istore_n (i := 1) (lv' := [(1, .int (0 : Int32)), (0, .ref a0)]) C dX12_restart_22 rfl hl (by decide) (by first | rfl | simp [vrc, cat_i, cat_r, cat_l]) (fun ls hl => ?_)
    exact h (fun t σ => ∀ ls : Array Slot, lv_has ls 2 [(0, .ref a0), (1, .int t)] → Xw p l e rm_X12_restart s m args below meth c D cy A σ 0 0 (MQ below (Qst D cy A (PsV Q)) args s rm_X12_restart.cells rm_X12_restart.slots A) (F0 m 23 ls [])) (t_X12_restart_23 C hr hnm  (fun t σ h => h)) ls (lv_sub hl [1, 0] rfl)
  · have h := h.2 c1
    refine x_aload_n C dX12_restart_8 rfl (lv_at hl 0 rfl) ?_
    obtain ⟨g2, h⟩ := h
    refine x_getP C fl_RX12_167 g2 dX12_restart_9 ?_
    refine x_iload_n C dX12_restart_12 rfl (lv_at hl 1 rfl) ?_
    refine x_iconst (v := 0) C dX12_restart_13 (by decide) ?_
    obtain ⟨b3, g4, h⟩ := h
    refine x_nn2 g4 ?_
    obtain ⟨g5, h⟩ := h
    obtain ⟨g6, h⟩ := h
    refine x_iast C g5 g6 dX12_restart_14 ?_
    obtain ⟨x7, e8⟩ : ∃ z : Int32, z = t + (1 : Int32) := ⟨_, rfl⟩
    have h := h x7 e8
    refine x_iinc (v := x7) (lv' := [(1, .int x7), (0, .ref a0)]) C dX12_restart_15 hl (q0 := 1) rfl (by rw [e8]; rfl) (by decide) (by first | rfl | simp [vrc, cat_i, cat_r, cat_l]) (fun ls hl => ?_)
    refine x_goto (tgt := 2) C dX12_restart_18 (by decide) ?_
    exact hL2 (x7) _ h ls (lv_sub hl [1, 0] rfl)
def wp_X12_restart (a0 : Nat)  (σ : Sto) (Q : Sto → Prop) : Prop := LF (f_X12_restart_2 a0  Q) ((0 : Int32)) σ
set_option maxHeartbeats 4000000 in
set_option maxRecDepth 100000 in
theorem c_X12_restart (l : Launch) (D : va_G) (cy : Nat → ClassId) (a0 : Nat)  (σ : Sto) (Q : Sto → Prop) (h : wp_X12_restart a0  σ Q) : Mt l D cy yX12_restart cX12_restart 2 none rm_X12_restart [.ref a0] σ (PsV Q) := by
  unfold wp_X12_restart at h
  refine mt_of (by decide +kernel) (Nat.le_of_ble_eq_true rfl) ?_
  intro p e s m args below meth c A ls C hr hnm hl
  have C : Cx p s m args meth c D cy A cX12_restart 2 RX12 := C
  have hl : lv_has ls 2 [(0, .ref a0)] := hl
  refine x_iconst (v := 0) C dX12_restart_0 (by decide) ?_
  refine x_istore_n (i := 1) (lv' := [(1, .int (0 : Int32)), (0, .ref a0)]) C dX12_restart_1 rfl hl (by decide) (by first | rfl | simp [vrc, cat_i, cat_r, cat_l]) (fun ls hl => ?_)
  exact h (fun t σ => ∀ ls : Array Slot, lv_has ls 2 [(0, .ref a0), (1, .int t)] → Xw p l e rm_X12_restart s m args below meth c D cy A σ 0 0 (MQ below (Qst D cy A (PsV Q)) args s rm_X12_restart.cells rm_X12_restart.slots A) (F0 m 2 ls [])) (t_X12_restart_2 C hr hnm  (fun t σ h => h)) ls (lv_sub hl [1, 0] rfl)
theorem dX12_doEntry_0 : decode cX12_doEntry 0 = .ok (.aload_n 0, 1) := by decide +kernel
theorem dX12_doEntry_1 : decode cX12_doEntry 1 = .ok (.getfield 71, 3) := by decide +kernel
theorem dX12_doEntry_4 : decode cX12_doEntry 4 = .ok (.iload_n 1, 1) := by decide +kernel
theorem dX12_doEntry_5 : decode cX12_doEntry 5 = .ok (.baload, 1) := by decide +kernel
theorem dX12_doEntry_6 : decode cX12_doEntry 6 = .ok (.ifCond .ne 5, 3) := by decide +kernel
theorem dX12_doEntry_9 : decode cX12_doEntry 9 = .ok (.iconst 0, 1) := by decide +kernel
theorem dX12_doEntry_10 : decode cX12_doEntry 10 = .ok (.ireturn, 1) := by decide +kernel
theorem dX12_doEntry_11 : decode cX12_doEntry 11 = .ok (.aload_n 0, 1) := by decide +kernel
theorem dX12_doEntry_12 : decode cX12_doEntry 12 = .ok (.getfield 74, 3) := by decide +kernel
theorem dX12_doEntry_15 : decode cX12_doEntry 15 = .ok (.iload_n 1, 1) := by decide +kernel
theorem dX12_doEntry_16 : decode cX12_doEntry 16 = .ok (.iaload, 1) := by decide +kernel
theorem dX12_doEntry_17 : decode cX12_doEntry 17 = .ok (.istore_n 2, 1) := by decide +kernel
theorem dX12_doEntry_18 : decode cX12_doEntry 18 = .ok (.aload_n 0, 1) := by decide +kernel
theorem dX12_doEntry_19 : decode cX12_doEntry 19 = .ok (.getfield 77, 3) := by decide +kernel
theorem dX12_doEntry_22 : decode cX12_doEntry 22 = .ok (.iload_n 1, 1) := by decide +kernel
theorem dX12_doEntry_23 : decode cX12_doEntry 23 = .ok (.iaload, 1) := by decide +kernel
theorem dX12_doEntry_24 : decode cX12_doEntry 24 = .ok (.aload_n 0, 1) := by decide +kernel
theorem dX12_doEntry_25 : decode cX12_doEntry 25 = .ok (.getfield 170, 3) := by decide +kernel
theorem dX12_doEntry_28 : decode cX12_doEntry 28 = .ok (.iload_n 2, 1) := by decide +kernel
theorem dX12_doEntry_29 : decode cX12_doEntry 29 = .ok (.iaload, 1) := by decide +kernel
theorem dX12_doEntry_30 : decode cX12_doEntry 30 = .ok (.if_icmp .gt 5, 3) := by decide +kernel
theorem dX12_doEntry_33 : decode cX12_doEntry 33 = .ok (.iconst 0, 1) := by decide +kernel
theorem dX12_doEntry_34 : decode cX12_doEntry 34 = .ok (.ireturn, 1) := by decide +kernel
theorem dX12_doEntry_35 : decode cX12_doEntry 35 = .ok (.aload_n 0, 1) := by decide +kernel
theorem dX12_doEntry_36 : decode cX12_doEntry 36 = .ok (.getfield 83, 3) := by decide +kernel
theorem dX12_doEntry_39 : decode cX12_doEntry 39 = .ok (.iload_n 1, 1) := by decide +kernel
theorem dX12_doEntry_40 : decode cX12_doEntry 40 = .ok (.iaload, 1) := by decide +kernel
theorem dX12_doEntry_41 : decode cX12_doEntry 41 = .ok (.istore_n 3, 1) := by decide +kernel
theorem dX12_doEntry_42 : decode cX12_doEntry 42 = .ok (.aload_n 0, 1) := by decide +kernel
theorem dX12_doEntry_43 : decode cX12_doEntry 43 = .ok (.getfield 170, 3) := by decide +kernel
theorem dX12_doEntry_46 : decode cX12_doEntry 46 = .ok (.iload_n 2, 1) := by decide +kernel
theorem dX12_doEntry_47 : decode cX12_doEntry 47 = .ok (.aload_n 0, 1) := by decide +kernel
theorem dX12_doEntry_48 : decode cX12_doEntry 48 = .ok (.getfield 77, 3) := by decide +kernel
theorem dX12_doEntry_51 : decode cX12_doEntry 51 = .ok (.iload_n 1, 1) := by decide +kernel
theorem dX12_doEntry_52 : decode cX12_doEntry 52 = .ok (.iaload, 1) := by decide +kernel
theorem dX12_doEntry_53 : decode cX12_doEntry 53 = .ok (.iastore, 1) := by decide +kernel
theorem dX12_doEntry_54 : decode cX12_doEntry 54 = .ok (.aload_n 0, 1) := by decide +kernel
theorem dX12_doEntry_55 : decode cX12_doEntry 55 = .ok (.getfield 173, 3) := by decide +kernel
theorem dX12_doEntry_58 : decode cX12_doEntry 58 = .ok (.iload_n 2, 1) := by decide +kernel
theorem dX12_doEntry_59 : decode cX12_doEntry 59 = .ok (.aload_n 0, 1) := by decide +kernel
theorem dX12_doEntry_60 : decode cX12_doEntry 60 = .ok (.getfield 167, 3) := by decide +kernel
theorem dX12_doEntry_63 : decode cX12_doEntry 63 = .ok (.iload_n 3, 1) := by decide +kernel
theorem dX12_doEntry_64 : decode cX12_doEntry 64 = .ok (.iaload, 1) := by decide +kernel
theorem dX12_doEntry_65 : decode cX12_doEntry 65 = .ok (.iastore, 1) := by decide +kernel
theorem dX12_doEntry_66 : decode cX12_doEntry 66 = .ok (.aload_n 0, 1) := by decide +kernel
theorem dX12_doEntry_67 : decode cX12_doEntry 67 = .ok (.getfield 80, 3) := by decide +kernel
theorem dX12_doEntry_70 : decode cX12_doEntry 70 = .ok (.iload_n 1, 1) := by decide +kernel
theorem dX12_doEntry_71 : decode cX12_doEntry 71 = .ok (.iaload, 1) := by decide +kernel
theorem dX12_doEntry_72 : decode cX12_doEntry 72 = .ok (.iconst 1, 1) := by decide +kernel
theorem dX12_doEntry_73 : decode cX12_doEntry 73 = .ok (.if_icmp .ne 15, 3) := by decide +kernel
theorem dX12_doEntry_76 : decode cX12_doEntry 76 = .ok (.aload_n 0, 1) := by decide +kernel
theorem dX12_doEntry_77 : decode cX12_doEntry 77 = .ok (.getfield 167, 3) := by decide +kernel
theorem dX12_doEntry_80 : decode cX12_doEntry 80 = .ok (.iload_n 3, 1) := by decide +kernel
theorem dX12_doEntry_81 : decode cX12_doEntry 81 = .ok (.aload_n 0, 1) := by decide +kernel
theorem dX12_doEntry_82 : decode cX12_doEntry 82 = .ok (.getfield 86, 3) := by decide +kernel
theorem dX12_doEntry_85 : decode cX12_doEntry 85 = .ok (.iload_n 1, 1) := by decide +kernel
theorem dX12_doEntry_86 : decode cX12_doEntry 86 = .ok (.iaload, 1) := by decide +kernel
theorem dX12_doEntry_87 : decode cX12_doEntry 87 = .ok (.iastore, 1) := by decide +kernel
theorem dX12_doEntry_88 : decode cX12_doEntry 88 = .ok (.aload_n 0, 1) := by decide +kernel
theorem dX12_doEntry_89 : decode cX12_doEntry 89 = .ok (.getfield 80, 3) := by decide +kernel
theorem dX12_doEntry_92 : decode cX12_doEntry 92 = .ok (.iload_n 1, 1) := by decide +kernel
theorem dX12_doEntry_93 : decode cX12_doEntry 93 = .ok (.iaload, 1) := by decide +kernel
theorem dX12_doEntry_94 : decode cX12_doEntry 94 = .ok (.iconst 2, 1) := by decide +kernel
theorem dX12_doEntry_95 : decode cX12_doEntry 95 = .ok (.if_icmp .ne 18, 3) := by decide +kernel
theorem dX12_doEntry_98 : decode cX12_doEntry 98 = .ok (.aload_n 0, 1) := by decide +kernel
theorem dX12_doEntry_99 : decode cX12_doEntry 99 = .ok (.getfield 167, 3) := by decide +kernel
theorem dX12_doEntry_102 : decode cX12_doEntry 102 = .ok (.iload_n 3, 1) := by decide +kernel
theorem dX12_doEntry_103 : decode cX12_doEntry 103 = .ok (.dup2, 1) := by decide +kernel
theorem dX12_doEntry_104 : decode cX12_doEntry 104 = .ok (.iaload, 1) := by decide +kernel
theorem dX12_doEntry_105 : decode cX12_doEntry 105 = .ok (.aload_n 0, 1) := by decide +kernel
theorem dX12_doEntry_106 : decode cX12_doEntry 106 = .ok (.getfield 86, 3) := by decide +kernel
theorem dX12_doEntry_109 : decode cX12_doEntry 109 = .ok (.iload_n 1, 1) := by decide +kernel
theorem dX12_doEntry_110 : decode cX12_doEntry 110 = .ok (.iaload, 1) := by decide +kernel
theorem dX12_doEntry_111 : decode cX12_doEntry 111 = .ok (.iadd, 1) := by decide +kernel
theorem dX12_doEntry_112 : decode cX12_doEntry 112 = .ok (.iastore, 1) := by decide +kernel
theorem dX12_doEntry_113 : decode cX12_doEntry 113 = .ok (.iconst 1, 1) := by decide +kernel
theorem dX12_doEntry_114 : decode cX12_doEntry 114 = .ok (.ireturn, 1) := by decide +kernel
abbrev rm_X12_doEntry : Room := { frames := 0, cells := 0, slots := 0, locals := 0 }
def b_X12_doEntry_88 (a0 : Nat)  (Q : Int32 → Sto → Prop) (p1 : Int32) (p3 : Int32) (σ : Sto) : Prop := (sK σ a0 = 12 ∧ (∃ b2 : Nat, sP σ a0 33 = some b2 ∧ (sK σ b2 = 14 ∧ (vp_in p1 (sN σ b2) ∧ (∀ x6 : Int32, x6 = sI σ b2 p1.toNatClampNeg → ((¬ x6 = (2 : Int32) → Q (1 : Int32) σ) ∧ (x6 = (2 : Int32) → (∃ b9 : Nat, sP σ a0 62 = some b9 ∧ (sK σ b9 = 14 ∧ (vp_in p3 (sN σ b9) ∧ (∀ x13 : Int32, x13 = sI σ b9 p3.toNatClampNeg → (∃ b15 : Nat, sP σ a0 35 = some b15 ∧ (sK σ b15 = 14 ∧ (vp_in p1 (sN σ b15) ∧ (∀ x19 : Int32, x19 = sI σ b15 p1.toNatClampNeg → (∀ x21 : Int32, x21 = x13 + x19 → (vp_in p3 (sN σ b9) ∧ Q (1 : Int32) (stI σ b9 p3.toNatClampNeg x21))))))))))))))))))
set_option maxHeartbeats 4000000 in
set_option maxRecDepth 100000 in
theorem t_X12_doEntry_88 {p : Program} {l : Launch} {e : Env} {s : State} {m : MethodId} {args : Array Value} {below : List Frame} {meth : Method} {c : Code} {D : va_G} {cy : Nat → ClassId} {A : Nat → Prop} {a0 : Nat} {Q : Int32 → Sto → Prop} (C : Cx p s m args meth c D cy A cX12_doEntry 4 RX12) (hr : meth.sig.returnType = (some .boolean)) (hnm : meth.name = yX12_doEntry.name) (p1 : Int32) (p3 : Int32) (σ : Sto) (h : b_X12_doEntry_88 a0  Q p1 p3 σ) (ls : Array Slot) (hl : lv_has ls 4 [(0, .ref a0), (1, .int p1), (3, .int p3)]) : Xw p l e rm_X12_doEntry s m args below meth c D cy A σ 0 0 (MQ below (Qst D cy A (PsI Q)) args s rm_X12_doEntry.cells rm_X12_doEntry.slots A) (F0 m 88 ls []) := by
  unfold b_X12_doEntry_88 at h
  refine x_aload_n C dX12_doEntry_88 rfl (lv_at hl 0 rfl) ?_
  obtain ⟨g1, h⟩ := h
  refine x_getP C fl_RX12_80 g1 dX12_doEntry_89 ?_
  refine x_iload_n C dX12_doEntry_92 rfl (lv_at hl 1 rfl) ?_
  obtain ⟨b2, g3, h⟩ := h
  refine x_nn1 g3 ?_
  obtain ⟨g4, h⟩ := h
  obtain ⟨g5, h⟩ := h
  refine x_iald C g4 g5 dX12_doEntry_93 ?_
  refine x_topi (fun x6 e7 => ?_)
  have h := h x6 e7
  refine x_iconst (v := 2) C dX12_doEntry_94 (by decide) ?_
  refine x_icmp_ne (tgt := 113) C dX12_doEntry_95 (by decide) (fun c8 => ?_) (fun c8 => ?_)
  · have h := h.1 c8
    refine x_iconst (v := 1) C dX12_doEntry_113 (by decide) ?_
    exact x_zret C hr dX12_doEntry_114 (by decide) ⟨_, rfl, h⟩
  · have h := h.2 c8
    refine x_aload_n C dX12_doEntry_98 rfl (lv_at hl 0 rfl) ?_
    refine x_getP C fl_RX12_167 g1 dX12_doEntry_99 ?_
    refine x_iload_n C dX12_doEntry_102 rfl (lv_at hl 2 rfl) ?_
    refine x_dup2 C dX12_doEntry_103 (rfl) (vrc _) ?_
    obtain ⟨b9, g10, h⟩ := h
    refine x_nn1 g10 ?_
    obtain ⟨g11, h⟩ := h
    obtain ⟨g12, h⟩ := h
    refine x_iald C g11 g12 dX12_doEntry_104 ?_
    refine x_topi (fun x13 e14 => ?_)
    have h := h x13 e14
    refine x_aload_n C dX12_doEntry_105 rfl (lv_at hl 0 rfl) ?_
    refine x_getP C fl_RX12_86 g1 dX12_doEntry_106 ?_
    refine x_iload_n C dX12_doEntry_109 rfl (lv_at hl 1 rfl) ?_
    obtain ⟨b15, g16, h⟩ := h
    refine x_nn1 g16 ?_
    obtain ⟨g17, h⟩ := h
    obtain ⟨g18, h⟩ := h
    refine x_iald C g17 g18 dX12_doEntry_110 ?_
    refine x_topi (fun x19 e20 => ?_)
    have h := h x19 e20
    refine x_iadd C dX12_doEntry_111 ?_
    refine x_topi (fun x21 e22 => ?_)
    have h := h x21 e22
    refine x_nn2 g10 ?_
    obtain ⟨g23, h⟩ := h
    refine x_iast C g11 g23 dX12_doEntry_112 ?_
    refine x_iconst (v := 1) C dX12_doEntry_113 (by decide) ?_
    exact x_zret C hr dX12_doEntry_114 (by decide) ⟨_, rfl, h⟩
def wp_X12_doEntry (a0 : Nat) (p1 : Int32) (σ : Sto) (Q : Int32 → Sto → Prop) : Prop := (sK σ a0 = 12 ∧ (∃ b2 : Nat, sP σ a0 30 = some b2 ∧ (sK σ b2 = 16 ∧ (vp_in p1 (sN σ b2) ∧ (∀ x6 : Int32, x6 = sI σ b2 p1.toNatClampNeg → ((¬ x6 = 0 → (∃ b9 : Nat, sP σ a0 31 = some b9 ∧ (sK σ b9 = 14 ∧ (vp_in p1 (sN σ b9) ∧ (∀ x13 : Int32, x13 = sI σ b9 p1.toNatClampNeg → (∃ b15 : Nat, sP σ a0 32 = some b15 ∧ (sK σ b15 = 14 ∧ (vp_in p1 (sN σ b15) ∧ (∀ x19 : Int32, x19 = sI σ b15 p1.toNatClampNeg → (∃ b21 : Nat, sP σ a0 63 = some b21 ∧ (sK σ b21 = 14 ∧ (vp_in x13 (sN σ b21) ∧ (∀ x25 : Int32, x25 = sI σ b21 x13.toNatClampNeg → ((x25 < x19 → (∃ b28 : Nat, sP σ a0 34 = some b28 ∧ (sK σ b28 = 14 ∧ (vp_in p1 (sN σ b28) ∧ (∀ x32 : Int32, x32 = sI σ b28 p1.toNatClampNeg → (vp_in p1 (sN σ b15) ∧ (∀ x35 : Int32, x35 = sI σ b15 p1.toNatClampNeg → (vp_in x13 (sN σ b21) ∧ (∃ b38 : Nat, sP σ a0 62 = some b38 ∧ (sK σ b38 = 14 ∧ (vp_in x32 (sN σ b38) ∧ (∀ x42 : Int32, x42 = sI (stI σ b21 x13.toNatClampNeg x35) b38 x32.toNatClampNeg → (∃ b44 : Nat, sP σ a0 64 = some b44 ∧ (sK σ b44 = 14 ∧ (vp_in x13 (sN σ b44) ∧ (∃ b48 : Nat, sP σ a0 33 = some b48 ∧ (sK σ b48 = 14 ∧ (vp_in p1 (sN σ b48) ∧ (∀ x52 : Int32, x52 = sI (stI (stI σ b21 x13.toNatClampNeg x35) b44 x13.toNatClampNeg x42) b48 p1.toNatClampNeg → ((¬ x52 = (1 : Int32) → b_X12_doEntry_88 a0  Q p1 x32 (stI (stI σ b21 x13.toNatClampNeg x35) b44 x13.toNatClampNeg x42)) ∧ (x52 = (1 : Int32) → (∃ b55 : Nat, sP σ a0 35 = some b55 ∧ (sK σ b55 = 14 ∧ (vp_in p1 (sN σ b55) ∧ (∀ x59 : Int32, x59 = sI (stI (stI σ b21 x13.toNatClampNeg x35) b44 x13.toNatClampNeg x42) b55 p1.toNatClampNeg → (vp_in x32 (sN σ b38) ∧ b_X12_doEntry_88 a0  Q p1 x32 (stI (stI (stI σ b21 x13.toNatClampNeg x35) b44 x13.toNatClampNeg x42) b38 x32.toNatClampNeg x59))))))))))))))))))))))))))) ∧ (¬ x25 < x19 → Q (0 : Int32) σ))))))))))))))) ∧ (x6 = 0 → Q (0 : Int32) σ)))))))
set_option maxHeartbeats 4000000 in
set_option maxRecDepth 100000 in
theorem c_X12_doEntry (l : Launch) (D : va_G) (cy : Nat → ClassId) (a0 : Nat) (p1 : Int32) (σ : Sto) (Q : Int32 → Sto → Prop) (h : wp_X12_doEntry a0 p1 σ Q) : Mt l D cy yX12_doEntry cX12_doEntry 4 (some .boolean) rm_X12_doEntry [.ref a0, .int p1] σ (PsI Q) := by
  unfold wp_X12_doEntry at h
  refine mt_of (by decide +kernel) (Nat.le_of_ble_eq_true rfl) ?_
  intro p e s m args below meth c A ls C hr hnm hl
  have C : Cx p s m args meth c D cy A cX12_doEntry 4 RX12 := C
  have hl : lv_has ls 4 [(0, .ref a0), (1, .int p1)] := hl
  refine x_aload_n C dX12_doEntry_0 rfl (lv_at hl 0 rfl) ?_
  obtain ⟨g1, h⟩ := h
  refine x_getP C fl_RX12_71 g1 dX12_doEntry_1 ?_
  refine x_iload_n C dX12_doEntry_4 rfl (lv_at hl 1 rfl) ?_
  obtain ⟨b2, g3, h⟩ := h
  refine x_nn1 g3 ?_
  obtain ⟨g4, h⟩ := h
  obtain ⟨g5, h⟩ := h
  refine x_zald C g4 g5 dX12_doEntry_5 ?_
  refine x_topi (fun x6 e7 => ?_)
  have h := h x6 e7
  refine x_if_ne (tgt := 11) C dX12_doEntry_6 (by decide) (fun c8 => ?_) (fun c8 => ?_)
  · have h := h.1 c8
    refine x_aload_n C dX12_doEntry_11 rfl (lv_at hl 0 rfl) ?_
    refine x_getP C fl_RX12_74 g1 dX12_doEntry_12 ?_
    refine x_iload_n C dX12_doEntry_15 rfl (lv_at hl 1 rfl) ?_
    obtain ⟨b9, g10, h⟩ := h
    refine x_nn1 g10 ?_
    obtain ⟨g11, h⟩ := h
    obtain ⟨g12, h⟩ := h
    refine x_iald C g11 g12 dX12_doEntry_16 ?_
    refine x_topi (fun x13 e14 => ?_)
    have h := h x13 e14
    refine x_istore_n (i := 2) (lv' := [(2, .int x13), (0, .ref a0), (1, .int p1)]) C dX12_doEntry_17 rfl hl (by decide) (by first | rfl | simp [vrc, cat_i, cat_r, cat_l]) (fun ls hl => ?_)
    refine x_aload_n C dX12_doEntry_18 rfl (lv_at hl 1 rfl) ?_
    refine x_getP C fl_RX12_77 g1 dX12_doEntry_19 ?_
    refine x_iload_n C dX12_doEntry_22 rfl (lv_at hl 2 rfl) ?_
    obtain ⟨b15, g16, h⟩ := h
    refine x_nn1 g16 ?_
    obtain ⟨g17, h⟩ := h
    obtain ⟨g18, h⟩ := h
    refine x_iald C g17 g18 dX12_doEntry_23 ?_
    refine x_topi (fun x19 e20 => ?_)
    have h := h x19 e20
    refine x_aload_n C dX12_doEntry_24 rfl (lv_at hl 1 rfl) ?_
    refine x_getP C fl_RX12_170 g1 dX12_doEntry_25 ?_
    refine x_iload_n C dX12_doEntry_28 rfl (lv_at hl 0 rfl) ?_
    obtain ⟨b21, g22, h⟩ := h
    refine x_nn1 g22 ?_
    obtain ⟨g23, h⟩ := h
    obtain ⟨g24, h⟩ := h
    refine x_iald C g23 g24 dX12_doEntry_29 ?_
    refine x_topi (fun x25 e26 => ?_)
    have h := h x25 e26
    refine x_icmp_gt (tgt := 35) C dX12_doEntry_30 (by decide) (fun c27 => ?_) (fun c27 => ?_)
    · have h := h.1 c27
      refine x_aload_n C dX12_doEntry_35 rfl (lv_at hl 1 rfl) ?_
      refine x_getP C fl_RX12_83 g1 dX12_doEntry_36 ?_
      refine x_iload_n C dX12_doEntry_39 rfl (lv_at hl 2 rfl) ?_
      obtain ⟨b28, g29, h⟩ := h
      refine x_nn1 g29 ?_
      obtain ⟨g30, h⟩ := h
      obtain ⟨g31, h⟩ := h
      refine x_iald C g30 g31 dX12_doEntry_40 ?_
      refine x_topi (fun x32 e33 => ?_)
      have h := h x32 e33
      refine x_istore_n (i := 3) (lv' := [(3, .int x32), (2, .int x13), (0, .ref a0), (1, .int p1)]) C dX12_doEntry_41 rfl hl (by decide) (by first | rfl | simp [vrc, cat_i, cat_r, cat_l]) (fun ls hl => ?_)
      refine x_aload_n C dX12_doEntry_42 rfl (lv_at hl 2 rfl) ?_
      refine x_getP C fl_RX12_170 g1 dX12_doEntry_43 ?_
      refine x_iload_n C dX12_doEntry_46 rfl (lv_at hl 1 rfl) ?_
      refine x_aload_n C dX12_doEntry_47 rfl (lv_at hl 2 rfl) ?_
      refine x_getP C fl_RX12_77 g1 dX12_doEntry_48 ?_
      refine x_iload_n C dX12_doEntry_51 rfl (lv_at hl 3 rfl) ?_
      refine x_nn1 g16 ?_
      obtain ⟨g34, h⟩ := h
      refine x_iald C g17 g34 dX12_doEntry_52 ?_
      refine x_topi (fun x35 e36 => ?_)
      have h := h x35 e36
      refine x_nn2 g22 ?_
      obtain ⟨g37, h⟩ := h
      refine x_iast C g23 g37 dX12_doEntry_53 ?_
      refine x_aload_n C dX12_doEntry_54 rfl (lv_at hl 2 rfl) ?_
      refine x_getP C fl_RX12_173 g1 dX12_doEntry_55 ?_
      refine x_iload_n C dX12_doEntry_58 rfl (lv_at hl 1 rfl) ?_
      refine x_aload_n C dX12_doEntry_59 rfl (lv_at hl 2 rfl) ?_
      refine x_getP C fl_RX12_167 g1 dX12_doEntry_60 ?_
      refine x_iload_n C dX12_doEntry_63 rfl (lv_at hl 0 rfl) ?_
      obtain ⟨b38, g39, h⟩ := h
      refine x_nn1 g39 ?_
      obtain ⟨g40, h⟩ := h
      obtain ⟨g41, h⟩ := h
      refine x_iald C g40 g41 dX12_doEntry_64 ?_
      refine x_topi (fun x42 e43 => ?_)
      have h := h x42 e43
      obtain ⟨b44, g45, h⟩ := h
      refine x_nn2 g45 ?_
      obtain ⟨g46, h⟩ := h
      obtain ⟨g47, h⟩ := h
      refine x_iast C g46 g47 dX12_doEntry_65 ?_
      refine x_aload_n C dX12_doEntry_66 rfl (lv_at hl 2 rfl) ?_
      refine x_getP C fl_RX12_80 g1 dX12_doEntry_67 ?_
      refine x_iload_n C dX12_doEntry_70 rfl (lv_at hl 3 rfl) ?_
      obtain ⟨b48, g49, h⟩ := h
      refine x_nn1 g49 ?_
      obtain ⟨g50, h⟩ := h
      obtain ⟨g51, h⟩ := h
      refine x_iald C g50 g51 dX12_doEntry_71 ?_
      refine x_topi (fun x52 e53 => ?_)
      have h := h x52 e53
      refine x_iconst (v := 1) C dX12_doEntry_72 (by decide) ?_
      refine x_icmp_ne (tgt := 88) C dX12_doEntry_73 (by decide) (fun c54 => ?_) (fun c54 => ?_)
      · have h := h.1 c54
        exact t_X12_doEntry_88 C hr hnm  p1 x32 _ h ls (lv_sub hl [2, 3, 0] rfl)
      · have h := h.2 c54
        refine x_aload_n C dX12_doEntry_76 rfl (lv_at hl 2 rfl) ?_
        refine x_getP C fl_RX12_167 g1 dX12_doEntry_77 ?_
        refine x_iload_n C dX12_doEntry_80 rfl (lv_at hl 0 rfl) ?_
        refine x_aload_n C dX12_doEntry_81 rfl (lv_at hl 2 rfl) ?_
        refine x_getP C fl_RX12_86 g1 dX12_doEntry_82 ?_
        refine x_iload_n C dX12_doEntry_85 rfl (lv_at hl 3 rfl) ?_
        obtain ⟨b55, g56, h⟩ := h
        refine x_nn1 g56 ?_
        obtain ⟨g57, h⟩ := h
        obtain ⟨g58, h⟩ := h
        refine x_iald C g57 g58 dX12_doEntry_86 ?_
        refine x_topi (fun x59 e60 => ?_)
        have h := h x59 e60
        refine x_nn2 g39 ?_
        obtain ⟨g61, h⟩ := h
        refine x_iast C g40 g61 dX12_doEntry_87 ?_
        exact t_X12_doEntry_88 C hr hnm  p1 x32 _ h ls (lv_sub hl [2, 3, 0] rfl)
    · have h := h.2 c27
      refine x_iconst (v := 0) C dX12_doEntry_33 (by decide) ?_
      exact x_zret C hr dX12_doEntry_34 (by decide) ⟨_, rfl, h⟩
  · have h := h.2 c8
    refine x_iconst (v := 0) C dX12_doEntry_9 (by decide) ?_
    exact x_zret C hr dX12_doEntry_10 (by decide) ⟨_, rfl, h⟩
theorem dX12_execute_0 : decode cX12_execute 0 = .ok (.aload_n 0, 1) := by decide +kernel
theorem dX12_execute_1 : decode cX12_execute 1 = .ok (.iload_n 1, 1) := by decide +kernel
theorem dX12_execute_2 : decode cX12_execute 2 = .ok (.invokevirtual 327, 3) := by decide +kernel
theorem dX12_execute_5 : decode cX12_execute 5 = .ok (.ifCond .eq 22, 3) := by decide +kernel
theorem dX12_execute_8 : decode cX12_execute 8 = .ok (.aload_n 0, 1) := by decide +kernel
theorem dX12_execute_9 : decode cX12_execute 9 = .ok (.getfield 50, 3) := by decide +kernel
theorem dX12_execute_12 : decode cX12_execute 12 = .ok (.iload_n 1, 1) := by decide +kernel
theorem dX12_execute_13 : decode cX12_execute 13 = .ok (.iaload, 1) := by decide +kernel
theorem dX12_execute_14 : decode cX12_execute 14 = .ok (.iconst 2, 1) := by decide +kernel
theorem dX12_execute_15 : decode cX12_execute 15 = .ok (.if_icmp .eq 12, 3) := by decide +kernel
theorem dX12_execute_18 : decode cX12_execute 18 = .ok (.aload_n 0, 1) := by decide +kernel
theorem dX12_execute_19 : decode cX12_execute 19 = .ok (.getfield 59, 3) := by decide +kernel
theorem dX12_execute_22 : decode cX12_execute 22 = .ok (.iload_n 1, 1) := by decide +kernel
theorem dX12_execute_23 : decode cX12_execute 23 = .ok (.iaload, 1) := by decide +kernel
theorem dX12_execute_24 : decode cX12_execute 24 = .ok (.goto 33, 3) := by decide +kernel
theorem dX12_execute_27 : decode cX12_execute 27 = .ok (.aload_n 0, 1) := by decide +kernel
theorem dX12_execute_28 : decode cX12_execute 28 = .ok (.getfield 65, 3) := by decide +kernel
theorem dX12_execute_31 : decode cX12_execute 31 = .ok (.iload_n 1, 1) := by decide +kernel
theorem dX12_execute_32 : decode cX12_execute 32 = .ok (.iaload, 1) := by decide +kernel
theorem dX12_execute_33 : decode cX12_execute 33 = .ok (.aload_n 0, 1) := by decide +kernel
theorem dX12_execute_34 : decode cX12_execute 34 = .ok (.getfield 59, 3) := by decide +kernel
theorem dX12_execute_37 : decode cX12_execute 37 = .ok (.iload_n 1, 1) := by decide +kernel
theorem dX12_execute_38 : decode cX12_execute 38 = .ok (.iaload, 1) := by decide +kernel
theorem dX12_execute_39 : decode cX12_execute 39 = .ok (.if_icmp .ge 12, 3) := by decide +kernel
theorem dX12_execute_42 : decode cX12_execute 42 = .ok (.aload_n 0, 1) := by decide +kernel
theorem dX12_execute_43 : decode cX12_execute 43 = .ok (.getfield 65, 3) := by decide +kernel
theorem dX12_execute_46 : decode cX12_execute 46 = .ok (.iload_n 1, 1) := by decide +kernel
theorem dX12_execute_47 : decode cX12_execute 47 = .ok (.iaload, 1) := by decide +kernel
theorem dX12_execute_48 : decode cX12_execute 48 = .ok (.goto 9, 3) := by decide +kernel
theorem dX12_execute_51 : decode cX12_execute 51 = .ok (.aload_n 0, 1) := by decide +kernel
theorem dX12_execute_52 : decode cX12_execute 52 = .ok (.getfield 59, 3) := by decide +kernel
theorem dX12_execute_55 : decode cX12_execute 55 = .ok (.iload_n 1, 1) := by decide +kernel
theorem dX12_execute_56 : decode cX12_execute 56 = .ok (.iaload, 1) := by decide +kernel
theorem dX12_execute_57 : decode cX12_execute 57 = .ok (.istore_n 2, 1) := by decide +kernel
theorem dX12_execute_58 : decode cX12_execute 58 = .ok (.aload_n 0, 1) := by decide +kernel
theorem dX12_execute_59 : decode cX12_execute 59 = .ok (.invokevirtual 331, 3) := by decide +kernel
theorem dX12_execute_62 : decode cX12_execute 62 = .ok (.iconst 0, 1) := by decide +kernel
theorem dX12_execute_63 : decode cX12_execute 63 = .ok (.istore_n 3, 1) := by decide +kernel
theorem dX12_execute_64 : decode cX12_execute 64 = .ok (.iload_n 3, 1) := by decide +kernel
theorem dX12_execute_65 : decode cX12_execute 65 = .ok (.iload_n 2, 1) := by decide +kernel
theorem dX12_execute_66 : decode cX12_execute 66 = .ok (.if_icmp .ge 21, 3) := by decide +kernel
theorem dX12_execute_69 : decode cX12_execute 69 = .ok (.aload_n 0, 1) := by decide +kernel
theorem dX12_execute_70 : decode cX12_execute 70 = .ok (.bipush 100, 2) := by decide +kernel
theorem dX12_execute_72 : decode cX12_execute 72 = .ok (.iload_n 1, 1) := by decide +kernel
theorem dX12_execute_73 : decode cX12_execute 73 = .ok (.imul, 1) := by decide +kernel
theorem dX12_execute_74 : decode cX12_execute 74 = .ok (.iload_n 3, 1) := by decide +kernel
theorem dX12_execute_75 : decode cX12_execute 75 = .ok (.iadd, 1) := by decide +kernel
theorem dX12_execute_76 : decode cX12_execute 76 = .ok (.invokevirtual 334, 3) := by decide +kernel
theorem dX12_execute_79 : decode cX12_execute 79 = .ok (.istore 4, 2) := by decide +kernel
theorem dX12_execute_81 : decode cX12_execute 81 = .ok (.iinc 3 1, 3) := by decide +kernel
theorem dX12_execute_84 : decode cX12_execute 84 = .ok (.goto (-20), 3) := by decide +kernel
theorem dX12_execute_87 : decode cX12_execute 87 = .ok (.return_, 1) := by decide +kernel
abbrev rm_X12_execute : Room := { frames := 2, cells := 0, slots := 0, locals := 42 }
def f_X12_execute_64 (a0 : Nat)  (Q : Sto → Prop) (L64 : Int32 × Int32 × Int32 → Sto → Prop) (t : Int32 × Int32 × Int32) (σ : Sto) : Prop := ((t.2.1 ≤ t.2.2 → Q σ) ∧ (¬ t.2.1 ≤ t.2.2 → (sK σ a0 = 12 ∧ (wp_X12_doEntry a0 (((100 : Int32) * t.1) + t.2.2) σ (fun (x4 : Int32) (σ3 : Sto) => (∀ x5 : Int32, x5 = t.2.2 + (1 : Int32) → L64 (t.1, t.2.1, x5) σ3))))))
set_option maxHeartbeats 4000000 in
set_option maxRecDepth 100000 in
theorem t_X12_execute_64 {p : Program} {l : Launch} {e : Env} {s : State} {m : MethodId} {args : Array Value} {below : List Frame} {meth : Method} {c : Code} {D : va_G} {cy : Nat → ClassId} {A : Nat → Prop} {a0 : Nat} {Q : Sto → Prop} {L64 : Int32 × Int32 × Int32 → Sto → Prop} (C : Cx p s m args meth c D cy A cX12_execute 5 RX12) (hr : meth.sig.returnType = none) (hnm : meth.name = yX12_execute.name) (hL64 : ∀ (t : Int32 × Int32 × Int32) (σ : Sto), L64 t σ → ∀ ls : Array Slot, lv_has ls 5 [(0, .ref a0), (1, .int t.1), (2, .int t.2.1), (3, .int t.2.2)] → Xw p l e rm_X12_execute s m args below meth c D cy A σ 0 0 (MQ below (Qst D cy A (PsV Q)) args s rm_X12_execute.cells rm_X12_execute.slots A) (F0 m 64 ls [])) : ∀ (t : Int32 × Int32 × Int32) (σ : Sto), f_X12_execute_64 a0  Q L64 t σ → ∀ ls : Array Slot, lv_has ls 5 [(0, .ref a0), (1, .int t.1), (2, .int t.2.1), (3, .int t.2.2)] → Xw p l e rm_X12_execute s m args below meth c D cy A σ 0 0 (MQ below (Qst D cy A (PsV Q)) args s rm_X12_execute.cells rm_X12_execute.slots A) (F0 m 64 ls []) := by
  intro t σ h ls hl
  unfold f_X12_execute_64 at h
  refine x_iload_n C dX12_execute_64 rfl (lv_at hl 3 rfl) ?_
  refine x_iload_n C dX12_execute_65 rfl (lv_at hl 2 rfl) ?_
  refine x_icmp_ge (tgt := 87) C dX12_execute_66 (by decide) (fun c1 => ?_) (fun c1 => ?_)
  · have h := h.1 c1
    exact x_vret C hr dX12_execute_87 ⟨rfl, h⟩
  · have h := h.2 c1
    refine x_aload_n C dX12_execute_69 rfl (lv_at hl 0 rfl) ?_
    refine x_bipush (v := 100) C dX12_execute_70 (by decide) ?_
    refine x_iload_n C dX12_execute_72 rfl (lv_at hl 1 rfl) ?_
    refine x_imul C dX12_execute_73 ?_
    refine x_iload_n C dX12_execute_74 rfl (lv_at hl 3 rfl) ?_
    refine x_iadd C dX12_execute_75 ?_
    obtain ⟨g2, h⟩ := h
    refine x_callV (rm := rm_X12_doEntry) (rest := []) (As := [.int (((100 : Int32) * t.1) + t.2.2)]) C cy_RX12_334 g2 (by decide) (by decide) rfl rfl (Nat.le_of_ble_eq_true rfl) hl.1 dX12_execute_76 (c_X12_doEntry l D cy a0 (((100 : Int32) * t.1) + t.2.2) σ _ h) (ks_i (fun x4 σ3 h => ?_))
    refine x_istore (i := 4) (lv' := [(4, .int x4), (0, .ref a0), (1, .int t.1), (2, .int t.2.1), (3, .int t.2.2)]) C dX12_execute_79 hl (by decide) (by first | rfl | simp [vrc, cat_i, cat_r, cat_l]) (fun ls hl => ?_)
    obtain ⟨x5, e6⟩ : ∃ z : Int32, z = t.2.2 + (1 : Int32) := ⟨_, rfl⟩
    have h := h x5 e6
    refine x_iinc (v := x5) (lv' := [(3, .int x5), (4, .int x4), (0, .ref a0), (1, .int t.1), (2, .int t.2.1)]) C dX12_execute_81 hl (q0 := 4) rfl (by rw [e6]; rfl) (by decide) (by first | rfl | simp [vrc, cat_i, cat_r, cat_l]) (fun ls hl => ?_)
    refine x_goto (tgt := 64) C dX12_execute_84 (by decide) ?_
    exact hL64 (t.1, t.2.1, x5) _ h ls (lv_sub hl [2, 3, 4, 0] rfl)
def b_X12_execute_57 (a0 : Nat)  (Q : Sto → Prop) (p1 : Int32) (s0 : Int32) (σ : Sto) : Prop := (sK σ a0 = 12 ∧ (wp_X12_restart a0  σ (fun (σ2 : Sto) => LF (f_X12_execute_64 a0  Q) (p1, s0, (0 : Int32)) σ2)))
set_option maxHeartbeats 4000000 in
set_option maxRecDepth 100000 in
theorem t_X12_execute_57 {p : Program} {l : Launch} {e : Env} {s : State} {m : MethodId} {args : Array Value} {below : List Frame} {meth : Method} {c : Code} {D : va_G} {cy : Nat → ClassId} {A : Nat → Prop} {a0 : Nat} {Q : Sto → Prop} (C : Cx p s m args meth c D cy A cX12_execute 5 RX12) (hr : meth.sig.returnType = none) (hnm : meth.name = yX12_execute.name) (p1 : Int32) (s0 : Int32) (σ : Sto) (h : b_X12_execute_57 a0  Q p1 s0 σ) (ls : Array Slot) (hl : lv_has ls 5 [(0, .ref a0), (1, .int p1)]) : Xw p l e rm_X12_execute s m args below meth c D cy A σ 0 0 (MQ below (Qst D cy A (PsV Q)) args s rm_X12_execute.cells rm_X12_execute.slots A) (F0 m 57 ls [.int s0]) := by
  unfold b_X12_execute_57 at h
  refine x_istore_n (i := 2) (lv' := [(2, .int s0), (0, .ref a0), (1, .int p1)]) C dX12_execute_57 rfl hl (by decide) (by first | rfl | simp [vrc, cat_i, cat_r, cat_l]) (fun ls hl => ?_)
  refine x_aload_n C dX12_execute_58 rfl (lv_at hl 1 rfl) ?_
  obtain ⟨g1, h⟩ := h
  refine x_callV (rm := rm_X12_restart) (rest := []) (As := []) C cy_RX12_331 g1 (by decide) (by decide) rfl rfl (Nat.le_of_ble_eq_true rfl) hl.1 dX12_execute_59 (c_X12_restart l D cy a0  σ _ h) (ks_v (fun σ2 h => ?_))
  refine x_iconst (v := 0) C dX12_execute_62 (by decide) ?_
  refine x_istore_n (i := 3) (lv' := [(3, .int (0 : Int32)), (2, .int s0), (0, .ref a0), (1, .int p1)]) C dX12_execute_63 rfl hl (by decide) (by first | rfl | simp [vrc, cat_i, cat_r, cat_l]) (fun ls hl => ?_)
  exact h (fun t σ => ∀ ls : Array Slot, lv_has ls 5 [(0, .ref a0), (1, .int t.1), (2, .int t.2.1), (3, .int t.2.2)] → Xw p l e rm_X12_execute s m args below meth c D cy A σ 0 0 (MQ below (Qst D cy A (PsV Q)) args s rm_X12_execute.cells rm_X12_execute.slots A) (F0 m 64 ls [])) (t_X12_execute_64 C hr hnm  (fun t σ h => h)) ls (lv_sub hl [2, 3, 1, 0] rfl)
def b_X12_execute_27 (a0 : Nat)  (Q : Sto → Prop) (p1 : Int32) (σ : Sto) : Prop := (sK σ a0 = 12 ∧ (∃ b2 : Nat, sP σ a0 28 = some b2 ∧ (sK σ b2 = 14 ∧ (vp_in p1 (sN σ b2) ∧ (∀ x6 : Int32, x6 = sI σ b2 p1.toNatClampNeg → (∃ b8 : Nat, sP σ a0 26 = some b8 ∧ (sK σ b8 = 14 ∧ (vp_in p1 (sN σ b8) ∧ (∀ x12 : Int32, x12 = sI σ b8 p1.toNatClampNeg → ((x12 ≤ x6 → (vp_in p1 (sN σ b8) ∧ (∀ x16 : Int32, x16 = sI σ b8 p1.toNatClampNeg → b_X12_execute_57 a0  Q p1 x16 σ))) ∧ (¬ x12 ≤ x6 → (vp_in p1 (sN σ b2) ∧ (∀ x19 : Int32, x19 = sI σ b2 p1.toNatClampNeg → b_X12_execute_57 a0  Q p1 x19 σ)))))))))))))
set_option maxHeartbeats 4000000 in
set_option maxRecDepth 100000 in
theorem t_X12_execute_27 {p : Program} {l : Launch} {e : Env} {s : State} {m : MethodId} {args : Array Value} {below : List Frame} {meth : Method} {c : Code} {D : va_G} {cy : Nat → ClassId} {A : Nat → Prop} {a0 : Nat} {Q : Sto → Prop} (C : Cx p s m args meth c D cy A cX12_execute 5 RX12) (hr : meth.sig.returnType = none) (hnm : meth.name = yX12_execute.name) (p1 : Int32) (σ : Sto) (h : b_X12_execute_27 a0  Q p1 σ) (ls : Array Slot) (hl : lv_has ls 5 [(0, .ref a0), (1, .int p1)]) : Xw p l e rm_X12_execute s m args below meth c D cy A σ 0 0 (MQ below (Qst D cy A (PsV Q)) args s rm_X12_execute.cells rm_X12_execute.slots A) (F0 m 27 ls []) := by
  unfold b_X12_execute_27 at h
  refine x_aload_n C dX12_execute_27 rfl (lv_at hl 0 rfl) ?_
  obtain ⟨g1, h⟩ := h
  refine x_getP C fl_RX12_65 g1 dX12_execute_28 ?_
  refine x_iload_n C dX12_execute_31 rfl (lv_at hl 1 rfl) ?_
  obtain ⟨b2, g3, h⟩ := h
  refine x_nn1 g3 ?_
  obtain ⟨g4, h⟩ := h
  obtain ⟨g5, h⟩ := h
  refine x_iald C g4 g5 dX12_execute_32 ?_
  refine x_topi (fun x6 e7 => ?_)
  have h := h x6 e7
  refine x_aload_n C dX12_execute_33 rfl (lv_at hl 0 rfl) ?_
  refine x_getP C fl_RX12_59 g1 dX12_execute_34 ?_
  refine x_iload_n C dX12_execute_37 rfl (lv_at hl 1 rfl) ?_
  obtain ⟨b8, g9, h⟩ := h
  refine x_nn1 g9 ?_
  obtain ⟨g10, h⟩ := h
  obtain ⟨g11, h⟩ := h
  refine x_iald C g10 g11 dX12_execute_38 ?_
  refine x_topi (fun x12 e13 => ?_)
  have h := h x12 e13
  refine x_icmp_ge (tgt := 51) C dX12_execute_39 (by decide) (fun c14 => ?_) (fun c14 => ?_)
  · have h := h.1 c14
    refine x_aload_n C dX12_execute_51 rfl (lv_at hl 0 rfl) ?_
    refine x_getP C fl_RX12_59 g1 dX12_execute_52 ?_
    refine x_iload_n C dX12_execute_55 rfl (lv_at hl 1 rfl) ?_
    refine x_nn1 g9 ?_
    obtain ⟨g15, h⟩ := h
    refine x_iald C g10 g15 dX12_execute_56 ?_
    refine x_topi (fun x16 e17 => ?_)
    have h := h x16 e17
    exact t_X12_execute_57 C hr hnm  p1 x16 _ h ls (lv_sub hl [0, 1] rfl)
  · have h := h.2 c14
    refine x_aload_n C dX12_execute_42 rfl (lv_at hl 0 rfl) ?_
    refine x_getP C fl_RX12_65 g1 dX12_execute_43 ?_
    refine x_iload_n C dX12_execute_46 rfl (lv_at hl 1 rfl) ?_
    refine x_nn1 g3 ?_
    obtain ⟨g18, h⟩ := h
    refine x_iald C g4 g18 dX12_execute_47 ?_
    refine x_topi (fun x19 e20 => ?_)
    have h := h x19 e20
    refine x_goto (tgt := 57) C dX12_execute_48 (by decide) ?_
    exact t_X12_execute_57 C hr hnm  p1 x19 _ h ls (lv_sub hl [0, 1] rfl)
def wp_X12_execute (a0 : Nat) (p1 : Int32) (σ : Sto) (Q : Sto → Prop) : Prop := (sK σ a0 = 12 ∧ (wp_X12_leads a0 p1 σ (fun (x3 : Int32) (σ2 : Sto) => ((x3 = 0 → b_X12_execute_27 a0  Q p1 σ2) ∧ (¬ x3 = 0 → (sK σ2 a0 = 12 ∧ (∃ b6 : Nat, sP σ2 a0 23 = some b6 ∧ (sK σ2 b6 = 14 ∧ (vp_in p1 (sN σ2 b6) ∧ (∀ x10 : Int32, x10 = sI σ2 b6 p1.toNatClampNeg → ((x10 = (2 : Int32) → b_X12_execute_27 a0  Q p1 σ2) ∧ (¬ x10 = (2 : Int32) → (∃ b13 : Nat, sP σ2 a0 26 = some b13 ∧ (sK σ2 b13 = 14 ∧ (vp_in p1 (sN σ2 b13) ∧ (∀ x17 : Int32, x17 = sI σ2 b13 p1.toNatClampNeg → b_X12_execute_57 a0  Q p1 x17 σ2))))))))))))))))
set_option maxHeartbeats 4000000 in
set_option maxRecDepth 100000 in
theorem c_X12_execute (l : Launch) (D : va_G) (cy : Nat → ClassId) (a0 : Nat) (p1 : Int32) (σ : Sto) (Q : Sto → Prop) (h : wp_X12_execute a0 p1 σ Q) : Mt l D cy yX12_execute cX12_execute 5 none rm_X12_execute [.ref a0, .int p1] σ (PsV Q) := by
  unfold wp_X12_execute at h
  refine mt_of (by decide +kernel) (Nat.le_of_ble_eq_true rfl) ?_
  intro p e s m args below meth c A ls C hr hnm hl
  have C : Cx p s m args meth c D cy A cX12_execute 5 RX12 := C
  have hl : lv_has ls 5 [(0, .ref a0), (1, .int p1)] := hl
  refine x_aload_n C dX12_execute_0 rfl (lv_at hl 0 rfl) ?_
  refine x_iload_n C dX12_execute_1 rfl (lv_at hl 1 rfl) ?_
  obtain ⟨g1, h⟩ := h
  refine x_callV (rm := rm_X12_leads) (rest := []) (As := [.int p1]) C cy_RX12_327 g1 (by decide) (by decide) rfl rfl (Nat.le_of_ble_eq_true rfl) hl.1 dX12_execute_2 (c_X12_leads l D cy a0 p1 σ _ h) (ks_i (fun x3 σ2 h => ?_))
  refine x_if_eq (tgt := 27) C dX12_execute_5 (by decide) (fun c4 => ?_) (fun c4 => ?_)
  · have h := h.1 c4
    exact t_X12_execute_27 C hr hnm  p1 _ h ls (lv_sub hl [0, 1] rfl)
  · have h := h.2 c4
    refine x_aload_n C dX12_execute_8 rfl (lv_at hl 0 rfl) ?_
    obtain ⟨g5, h⟩ := h
    refine x_getP C fl_RX12_50 g5 dX12_execute_9 ?_
    refine x_iload_n C dX12_execute_12 rfl (lv_at hl 1 rfl) ?_
    obtain ⟨b6, g7, h⟩ := h
    refine x_nn1 g7 ?_
    obtain ⟨g8, h⟩ := h
    obtain ⟨g9, h⟩ := h
    refine x_iald C g8 g9 dX12_execute_13 ?_
    refine x_topi (fun x10 e11 => ?_)
    have h := h x10 e11
    refine x_iconst (v := 2) C dX12_execute_14 (by decide) ?_
    refine x_icmp_eq (tgt := 27) C dX12_execute_15 (by decide) (fun c12 => ?_) (fun c12 => ?_)
    · have h := h.1 c12
      exact t_X12_execute_27 C hr hnm  p1 _ h ls (lv_sub hl [0, 1] rfl)
    · have h := h.2 c12
      refine x_aload_n C dX12_execute_18 rfl (lv_at hl 0 rfl) ?_
      refine x_getP C fl_RX12_59 g5 dX12_execute_19 ?_
      refine x_iload_n C dX12_execute_22 rfl (lv_at hl 1 rfl) ?_
      obtain ⟨b13, g14, h⟩ := h
      refine x_nn1 g14 ?_
      obtain ⟨g15, h⟩ := h
      obtain ⟨g16, h⟩ := h
      refine x_iald C g15 g16 dX12_execute_23 ?_
      refine x_topi (fun x17 e18 => ?_)
      have h := h x17 e18
      refine x_goto (tgt := 57) C dX12_execute_24 (by decide) ?_
      exact t_X12_execute_57 C hr hnm  p1 x17 _ h ls (lv_sub hl [0, 1] rfl)
theorem dX12_takeOne_0 : decode cX12_takeOne 0 = .ok (.bipush 100, 2) := by decide +kernel
theorem dX12_takeOne_2 : decode cX12_takeOne 2 = .ok (.iload_n 1, 1) := by decide +kernel
theorem dX12_takeOne_3 : decode cX12_takeOne 3 = .ok (.imul, 1) := by decide +kernel
theorem dX12_takeOne_4 : decode cX12_takeOne 4 = .ok (.aload_n 0, 1) := by decide +kernel
theorem dX12_takeOne_5 : decode cX12_takeOne 5 = .ok (.getfield 59, 3) := by decide +kernel
theorem dX12_takeOne_8 : decode cX12_takeOne 8 = .ok (.iload_n 1, 1) := by decide +kernel
theorem dX12_takeOne_9 : decode cX12_takeOne 9 = .ok (.iaload, 1) := by decide +kernel
theorem dX12_takeOne_10 : decode cX12_takeOne 10 = .ok (.iadd, 1) := by decide +kernel
theorem dX12_takeOne_11 : decode cX12_takeOne 11 = .ok (.istore_n 3, 1) := by decide +kernel
theorem dX12_takeOne_12 : decode cX12_takeOne 12 = .ok (.aload_n 0, 1) := by decide +kernel
theorem dX12_takeOne_13 : decode cX12_takeOne 13 = .ok (.getfield 71, 3) := by decide +kernel
theorem dX12_takeOne_16 : decode cX12_takeOne 16 = .ok (.iload_n 3, 1) := by decide +kernel
theorem dX12_takeOne_17 : decode cX12_takeOne 17 = .ok (.iconst 1, 1) := by decide +kernel
theorem dX12_takeOne_18 : decode cX12_takeOne 18 = .ok (.bastore, 1) := by decide +kernel
theorem dX12_takeOne_19 : decode cX12_takeOne 19 = .ok (.aload_n 0, 1) := by decide +kernel
theorem dX12_takeOne_20 : decode cX12_takeOne 20 = .ok (.getfield 74, 3) := by decide +kernel
theorem dX12_takeOne_23 : decode cX12_takeOne 23 = .ok (.iload_n 3, 1) := by decide +kernel
theorem dX12_takeOne_24 : decode cX12_takeOne 24 = .ok (.aload_n 0, 1) := by decide +kernel
theorem dX12_takeOne_25 : decode cX12_takeOne 25 = .ok (.getfield 95, 3) := by decide +kernel
theorem dX12_takeOne_28 : decode cX12_takeOne 28 = .ok (.iload_n 2, 1) := by decide +kernel
theorem dX12_takeOne_29 : decode cX12_takeOne 29 = .ok (.iaload, 1) := by decide +kernel
theorem dX12_takeOne_30 : decode cX12_takeOne 30 = .ok (.iastore, 1) := by decide +kernel
theorem dX12_takeOne_31 : decode cX12_takeOne 31 = .ok (.aload_n 0, 1) := by decide +kernel
theorem dX12_takeOne_32 : decode cX12_takeOne 32 = .ok (.getfield 77, 3) := by decide +kernel
theorem dX12_takeOne_35 : decode cX12_takeOne 35 = .ok (.iload_n 3, 1) := by decide +kernel
theorem dX12_takeOne_36 : decode cX12_takeOne 36 = .ok (.aload_n 0, 1) := by decide +kernel
theorem dX12_takeOne_37 : decode cX12_takeOne 37 = .ok (.getfield 98, 3) := by decide +kernel
theorem dX12_takeOne_40 : decode cX12_takeOne 40 = .ok (.iload_n 2, 1) := by decide +kernel
theorem dX12_takeOne_41 : decode cX12_takeOne 41 = .ok (.iaload, 1) := by decide +kernel
theorem dX12_takeOne_42 : decode cX12_takeOne 42 = .ok (.iastore, 1) := by decide +kernel
theorem dX12_takeOne_43 : decode cX12_takeOne 43 = .ok (.aload_n 0, 1) := by decide +kernel
theorem dX12_takeOne_44 : decode cX12_takeOne 44 = .ok (.getfield 80, 3) := by decide +kernel
theorem dX12_takeOne_47 : decode cX12_takeOne 47 = .ok (.iload_n 3, 1) := by decide +kernel
theorem dX12_takeOne_48 : decode cX12_takeOne 48 = .ok (.aload_n 0, 1) := by decide +kernel
theorem dX12_takeOne_49 : decode cX12_takeOne 49 = .ok (.getfield 101, 3) := by decide +kernel
theorem dX12_takeOne_52 : decode cX12_takeOne 52 = .ok (.iload_n 2, 1) := by decide +kernel
theorem dX12_takeOne_53 : decode cX12_takeOne 53 = .ok (.iaload, 1) := by decide +kernel
theorem dX12_takeOne_54 : decode cX12_takeOne 54 = .ok (.iastore, 1) := by decide +kernel
theorem dX12_takeOne_55 : decode cX12_takeOne 55 = .ok (.aload_n 0, 1) := by decide +kernel
theorem dX12_takeOne_56 : decode cX12_takeOne 56 = .ok (.getfield 83, 3) := by decide +kernel
theorem dX12_takeOne_59 : decode cX12_takeOne 59 = .ok (.iload_n 3, 1) := by decide +kernel
theorem dX12_takeOne_60 : decode cX12_takeOne 60 = .ok (.aload_n 0, 1) := by decide +kernel
theorem dX12_takeOne_61 : decode cX12_takeOne 61 = .ok (.getfield 104, 3) := by decide +kernel
theorem dX12_takeOne_64 : decode cX12_takeOne 64 = .ok (.iload_n 2, 1) := by decide +kernel
theorem dX12_takeOne_65 : decode cX12_takeOne 65 = .ok (.iaload, 1) := by decide +kernel
theorem dX12_takeOne_66 : decode cX12_takeOne 66 = .ok (.iastore, 1) := by decide +kernel
theorem dX12_takeOne_67 : decode cX12_takeOne 67 = .ok (.aload_n 0, 1) := by decide +kernel
theorem dX12_takeOne_68 : decode cX12_takeOne 68 = .ok (.getfield 86, 3) := by decide +kernel
theorem dX12_takeOne_71 : decode cX12_takeOne 71 = .ok (.iload_n 3, 1) := by decide +kernel
theorem dX12_takeOne_72 : decode cX12_takeOne 72 = .ok (.aload_n 0, 1) := by decide +kernel
theorem dX12_takeOne_73 : decode cX12_takeOne 73 = .ok (.getfield 107, 3) := by decide +kernel
theorem dX12_takeOne_76 : decode cX12_takeOne 76 = .ok (.iload_n 2, 1) := by decide +kernel
theorem dX12_takeOne_77 : decode cX12_takeOne 77 = .ok (.iaload, 1) := by decide +kernel
theorem dX12_takeOne_78 : decode cX12_takeOne 78 = .ok (.iastore, 1) := by decide +kernel
theorem dX12_takeOne_79 : decode cX12_takeOne 79 = .ok (.aload_n 0, 1) := by decide +kernel
theorem dX12_takeOne_80 : decode cX12_takeOne 80 = .ok (.getfield 59, 3) := by decide +kernel
theorem dX12_takeOne_83 : decode cX12_takeOne 83 = .ok (.iload_n 1, 1) := by decide +kernel
theorem dX12_takeOne_84 : decode cX12_takeOne 84 = .ok (.dup2, 1) := by decide +kernel
theorem dX12_takeOne_85 : decode cX12_takeOne 85 = .ok (.iaload, 1) := by decide +kernel
theorem dX12_takeOne_86 : decode cX12_takeOne 86 = .ok (.iconst 1, 1) := by decide +kernel
theorem dX12_takeOne_87 : decode cX12_takeOne 87 = .ok (.iadd, 1) := by decide +kernel
theorem dX12_takeOne_88 : decode cX12_takeOne 88 = .ok (.iastore, 1) := by decide +kernel
theorem dX12_takeOne_89 : decode cX12_takeOne 89 = .ok (.aload_n 0, 1) := by decide +kernel
theorem dX12_takeOne_90 : decode cX12_takeOne 90 = .ok (.iload_n 1, 1) := by decide +kernel
theorem dX12_takeOne_91 : decode cX12_takeOne 91 = .ok (.iload_n 2, 1) := by decide +kernel
theorem dX12_takeOne_92 : decode cX12_takeOne 92 = .ok (.invokevirtual 340, 3) := by decide +kernel
theorem dX12_takeOne_95 : decode cX12_takeOne 95 = .ok (.aload_n 0, 1) := by decide +kernel
theorem dX12_takeOne_96 : decode cX12_takeOne 96 = .ok (.getfield 74, 3) := by decide +kernel
theorem dX12_takeOne_99 : decode cX12_takeOne 99 = .ok (.iload_n 3, 1) := by decide +kernel
theorem dX12_takeOne_100 : decode cX12_takeOne 100 = .ok (.iaload, 1) := by decide +kernel
theorem dX12_takeOne_101 : decode cX12_takeOne 101 = .ok (.istore 4, 2) := by decide +kernel
theorem dX12_takeOne_103 : decode cX12_takeOne 103 = .ok (.aload_n 0, 1) := by decide +kernel
theorem dX12_takeOne_104 : decode cX12_takeOne 104 = .ok (.iload_n 1, 1) := by decide +kernel
theorem dX12_takeOne_105 : decode cX12_takeOne 105 = .ok (.invokevirtual 327, 3) := by decide +kernel
theorem dX12_takeOne_108 : decode cX12_takeOne 108 = .ok (.istore 5, 2) := by decide +kernel
theorem dX12_takeOne_110 : decode cX12_takeOne 110 = .ok (.iload 5, 2) := by decide +kernel
theorem dX12_takeOne_112 : decode cX12_takeOne 112 = .ok (.ifCond .eq 8, 3) := by decide +kernel
theorem dX12_takeOne_115 : decode cX12_takeOne 115 = .ok (.aload_n 0, 1) := by decide +kernel
theorem dX12_takeOne_116 : decode cX12_takeOne 116 = .ok (.iload_n 1, 1) := by decide +kernel
theorem dX12_takeOne_117 : decode cX12_takeOne 117 = .ok (.invokevirtual 343, 3) := by decide +kernel
theorem dX12_takeOne_120 : decode cX12_takeOne 120 = .ok (.iload 5, 2) := by decide +kernel
theorem dX12_takeOne_122 : decode cX12_takeOne 122 = .ok (.ifCond .eq 20, 3) := by decide +kernel
theorem dX12_takeOne_125 : decode cX12_takeOne 125 = .ok (.aload_n 0, 1) := by decide +kernel
theorem dX12_takeOne_126 : decode cX12_takeOne 126 = .ok (.getfield 170, 3) := by decide +kernel
theorem dX12_takeOne_129 : decode cX12_takeOne 129 = .ok (.iload 4, 2) := by decide +kernel
theorem dX12_takeOne_131 : decode cX12_takeOne 131 = .ok (.iaload, 1) := by decide +kernel
theorem dX12_takeOne_132 : decode cX12_takeOne 132 = .ok (.aload_n 0, 1) := by decide +kernel
theorem dX12_takeOne_133 : decode cX12_takeOne 133 = .ok (.getfield 77, 3) := by decide +kernel
theorem dX12_takeOne_136 : decode cX12_takeOne 136 = .ok (.iload_n 3, 1) := by decide +kernel
theorem dX12_takeOne_137 : decode cX12_takeOne 137 = .ok (.iaload, 1) := by decide +kernel
theorem dX12_takeOne_138 : decode cX12_takeOne 138 = .ok (.if_icmp .eq 4, 3) := by decide +kernel
theorem dX12_takeOne_141 : decode cX12_takeOne 141 = .ok (.return_, 1) := by decide +kernel
theorem dX12_takeOne_142 : decode cX12_takeOne 142 = .ok (.aload_n 0, 1) := by decide +kernel
theorem dX12_takeOne_143 : decode cX12_takeOne 143 = .ok (.bipush 11, 2) := by decide +kernel
theorem dX12_takeOne_145 : decode cX12_takeOne 145 = .ok (.iload_n 1, 1) := by decide +kernel
theorem dX12_takeOne_146 : decode cX12_takeOne 146 = .ok (.bipush 16, 2) := by decide +kernel
theorem dX12_takeOne_148 : decode cX12_takeOne 148 = .ok (.iload 4, 2) := by decide +kernel
theorem dX12_takeOne_150 : decode cX12_takeOne 150 = .ok (.iadd, 1) := by decide +kernel
theorem dX12_takeOne_151 : decode cX12_takeOne 151 = .ok (.invokevirtual 290, 3) := by decide +kernel
theorem dX12_takeOne_154 : decode cX12_takeOne 154 = .ok (.aload_n 0, 1) := by decide +kernel
theorem dX12_takeOne_155 : decode cX12_takeOne 155 = .ok (.iload_n 1, 1) := by decide +kernel
theorem dX12_takeOne_156 : decode cX12_takeOne 156 = .ok (.invokevirtual 294, 3) := by decide +kernel
theorem dX12_takeOne_159 : decode cX12_takeOne 159 = .ok (.aload_n 0, 1) := by decide +kernel
theorem dX12_takeOne_160 : decode cX12_takeOne 160 = .ok (.aload_n 0, 1) := by decide +kernel
theorem dX12_takeOne_161 : decode cX12_takeOne 161 = .ok (.getfield 59, 3) := by decide +kernel
theorem dX12_takeOne_164 : decode cX12_takeOne 164 = .ok (.iload_n 1, 1) := by decide +kernel
theorem dX12_takeOne_165 : decode cX12_takeOne 165 = .ok (.iaload, 1) := by decide +kernel
theorem dX12_takeOne_166 : decode cX12_takeOne 166 = .ok (.invokevirtual 277, 3) := by decide +kernel
theorem dX12_takeOne_169 : decode cX12_takeOne 169 = .ok (.aload_n 0, 1) := by decide +kernel
theorem dX12_takeOne_170 : decode cX12_takeOne 170 = .ok (.aload_n 0, 1) := by decide +kernel
theorem dX12_takeOne_171 : decode cX12_takeOne 171 = .ok (.getfield 77, 3) := by decide +kernel
theorem dX12_takeOne_174 : decode cX12_takeOne 174 = .ok (.iload_n 3, 1) := by decide +kernel
theorem dX12_takeOne_175 : decode cX12_takeOne 175 = .ok (.iaload, 1) := by decide +kernel
theorem dX12_takeOne_176 : decode cX12_takeOne 176 = .ok (.invokevirtual 277, 3) := by decide +kernel
theorem dX12_takeOne_179 : decode cX12_takeOne 179 = .ok (.aload_n 0, 1) := by decide +kernel
theorem dX12_takeOne_180 : decode cX12_takeOne 180 = .ok (.iload 5, 2) := by decide +kernel
theorem dX12_takeOne_182 : decode cX12_takeOne 182 = .ok (.ifCond .eq 7, 3) := by decide +kernel
theorem dX12_takeOne_185 : decode cX12_takeOne 185 = .ok (.iconst 1, 1) := by decide +kernel
theorem dX12_takeOne_186 : decode cX12_takeOne 186 = .ok (.goto 4, 3) := by decide +kernel
theorem dX12_takeOne_189 : decode cX12_takeOne 189 = .ok (.iconst 0, 1) := by decide +kernel
theorem dX12_takeOne_190 : decode cX12_takeOne 190 = .ok (.invokevirtual 277, 3) := by decide +kernel
theorem dX12_takeOne_193 : decode cX12_takeOne 193 = .ok (.iload 5, 2) := by decide +kernel
theorem dX12_takeOne_195 : decode cX12_takeOne 195 = .ok (.ifCond .eq 14, 3) := by decide +kernel
theorem dX12_takeOne_198 : decode cX12_takeOne 198 = .ok (.aload_n 0, 1) := by decide +kernel
theorem dX12_takeOne_199 : decode cX12_takeOne 199 = .ok (.aload_n 0, 1) := by decide +kernel
theorem dX12_takeOne_200 : decode cX12_takeOne 200 = .ok (.getfield 173, 3) := by decide +kernel
theorem dX12_takeOne_203 : decode cX12_takeOne 203 = .ok (.iload 4, 2) := by decide +kernel
theorem dX12_takeOne_205 : decode cX12_takeOne 205 = .ok (.iaload, 1) := by decide +kernel
theorem dX12_takeOne_206 : decode cX12_takeOne 206 = .ok (.invokevirtual 277, 3) := by decide +kernel
theorem dX12_takeOne_209 : decode cX12_takeOne 209 = .ok (.aload_n 0, 1) := by decide +kernel
theorem dX12_takeOne_210 : decode cX12_takeOne 210 = .ok (.invokevirtual 297, 3) := by decide +kernel
theorem dX12_takeOne_213 : decode cX12_takeOne 213 = .ok (.return_, 1) := by decide +kernel
abbrev rm_X12_takeOne : Room := { frames := 3, cells := 0, slots := 0, locals := 66 }
def b_X12_takeOne_209 (a0 : Nat)  (Q : Sto → Prop)  (σ : Sto) : Prop := (sK σ a0 = 12 ∧ (wp_X12_post a0  σ (fun (σ2 : Sto) => Q σ2)))
set_option maxHeartbeats 4000000 in
set_option maxRecDepth 100000 in
theorem t_X12_takeOne_209 {p : Program} {l : Launch} {e : Env} {s : State} {m : MethodId} {args : Array Value} {below : List Frame} {meth : Method} {c : Code} {D : va_G} {cy : Nat → ClassId} {A : Nat → Prop} {a0 : Nat} {Q : Sto → Prop} (C : Cx p s m args meth c D cy A cX12_takeOne 6 RX12) (hr : meth.sig.returnType = none) (hnm : meth.name = yX12_takeOne.name)  (σ : Sto) (h : b_X12_takeOne_209 a0  Q  σ) (ls : Array Slot) (hl : lv_has ls 6 [(0, .ref a0)]) : Xw p l e rm_X12_takeOne s m args below meth c D cy A σ 0 0 (MQ below (Qst D cy A (PsV Q)) args s rm_X12_takeOne.cells rm_X12_takeOne.slots A) (F0 m 209 ls []) := by
  unfold b_X12_takeOne_209 at h
  refine x_aload_n C dX12_takeOne_209 rfl (lv_at hl 0 rfl) ?_
  obtain ⟨g1, h⟩ := h
  refine x_callV (rm := rm_X12_post) (rest := []) (As := []) C cy_RX12_297 g1 (by decide) (by decide) rfl rfl (Nat.le_of_ble_eq_true rfl) hl.1 dX12_takeOne_210 (c_X12_post l D cy a0  σ _ h) (ks_v (fun σ2 h => ?_))
  exact x_vret C hr dX12_takeOne_213 ⟨rfl, h⟩
def b_X12_takeOne_190 (a0 : Nat)  (Q : Sto → Prop) (p4 : Int32) (p5 : Int32) (s0 : Int32) (s1 : Nat) (σ : Sto) : Prop := (sK σ s1 = 12 ∧ (wp_X12_add s1 s0 σ (fun (σ2 : Sto) => ((p5 = 0 → b_X12_takeOne_209 a0  Q  σ2) ∧ (¬ p5 = 0 → (sK σ2 a0 = 12 ∧ (∃ b5 : Nat, sP σ2 a0 64 = some b5 ∧ (sK σ2 b5 = 14 ∧ (vp_in p4 (sN σ2 b5) ∧ (∀ x9 : Int32, x9 = sI σ2 b5 p4.toNatClampNeg → (wp_X12_add a0 x9 σ2 (fun (σ11 : Sto) => b_X12_takeOne_209 a0  Q  σ11))))))))))))
set_option maxHeartbeats 4000000 in
set_option maxRecDepth 100000 in
theorem t_X12_takeOne_190 {p : Program} {l : Launch} {e : Env} {s : State} {m : MethodId} {args : Array Value} {below : List Frame} {meth : Method} {c : Code} {D : va_G} {cy : Nat → ClassId} {A : Nat → Prop} {a0 : Nat} {Q : Sto → Prop} (C : Cx p s m args meth c D cy A cX12_takeOne 6 RX12) (hr : meth.sig.returnType = none) (hnm : meth.name = yX12_takeOne.name) (p4 : Int32) (p5 : Int32) (s0 : Int32) (s1 : Nat) (σ : Sto) (h : b_X12_takeOne_190 a0  Q p4 p5 s0 s1 σ) (ls : Array Slot) (hl : lv_has ls 6 [(0, .ref a0), (4, .int p4), (5, .int p5)]) : Xw p l e rm_X12_takeOne s m args below meth c D cy A σ 0 0 (MQ below (Qst D cy A (PsV Q)) args s rm_X12_takeOne.cells rm_X12_takeOne.slots A) (F0 m 190 ls [.int s0, .ref s1]) := by
  unfold b_X12_takeOne_190 at h
  obtain ⟨g1, h⟩ := h
  refine x_callV (rm := rm_X12_add) (rest := []) (As := [.int s0]) C cy_RX12_277 g1 (by decide) (by decide) rfl rfl (Nat.le_of_ble_eq_true rfl) hl.1 dX12_takeOne_190 (c_X12_add l D cy s1 s0 σ _ h) (ks_v (fun σ2 h => ?_))
  refine x_iload C dX12_takeOne_193 (lv_at hl 2 rfl) ?_
  refine x_if_eq (tgt := 209) C dX12_takeOne_195 (by decide) (fun c3 => ?_) (fun c3 => ?_)
  · have h := h.1 c3
    exact t_X12_takeOne_209 C hr hnm   _ h ls (lv_sub hl [0] rfl)
  · have h := h.2 c3
    refine x_aload_n C dX12_takeOne_198 rfl (lv_at hl 0 rfl) ?_
    refine x_aload_n C dX12_takeOne_199 rfl (lv_at hl 0 rfl) ?_
    obtain ⟨g4, h⟩ := h
    refine x_getP C fl_RX12_173 g4 dX12_takeOne_200 ?_
    refine x_iload C dX12_takeOne_203 (lv_at hl 1 rfl) ?_
    obtain ⟨b5, g6, h⟩ := h
    refine x_nn1 g6 ?_
    obtain ⟨g7, h⟩ := h
    obtain ⟨g8, h⟩ := h
    refine x_iald C g7 g8 dX12_takeOne_205 ?_
    refine x_topi (fun x9 e10 => ?_)
    have h := h x9 e10
    refine x_callV (rm := rm_X12_add) (rest := []) (As := [.int x9]) C cy_RX12_277 g4 (by decide) (by decide) rfl rfl (Nat.le_of_ble_eq_true rfl) hl.1 dX12_takeOne_206 (c_X12_add l D cy a0 x9 σ2 _ h) (ks_v (fun σ11 h => ?_))
    exact t_X12_takeOne_209 C hr hnm   _ h ls (lv_sub hl [0] rfl)
def b_X12_takeOne_142 (a0 : Nat)  (Q : Sto → Prop) (p1 : Int32) (p3 : Int32) (p4 : Int32) (p5 : Int32) (σ : Sto) : Prop := (sK σ a0 = 12 ∧ (wp_X12_begin a0 (11 : Int32) p1 ((16 : Int32) + p4) σ (fun (σ2 : Sto) => (sK σ2 a0 = 12 ∧ (wp_X12_addView a0 p1 σ2 (fun (σ4 : Sto) => (sK σ4 a0 = 12 ∧ (∃ b6 : Nat, sP σ4 a0 26 = some b6 ∧ (sK σ4 b6 = 14 ∧ (vp_in p1 (sN σ4 b6) ∧ (∀ x10 : Int32, x10 = sI σ4 b6 p1.toNatClampNeg → (wp_X12_add a0 x10 σ4 (fun (σ12 : Sto) => (sK σ12 a0 = 12 ∧ (∃ b14 : Nat, sP σ12 a0 32 = some b14 ∧ (sK σ12 b14 = 14 ∧ (vp_in p3 (sN σ12 b14) ∧ (∀ x18 : Int32, x18 = sI σ12 b14 p3.toNatClampNeg → (wp_X12_add a0 x18 σ12 (fun (σ20 : Sto) => ((p5 = 0 → b_X12_takeOne_190 a0  Q p4 p5 (0 : Int32) a0 σ20) ∧ (¬ p5 = 0 → b_X12_takeOne_190 a0  Q p4 p5 (1 : Int32) a0 σ20))))))))))))))))))))))
set_option maxHeartbeats 4000000 in
set_option maxRecDepth 100000 in
theorem t_X12_takeOne_142 {p : Program} {l : Launch} {e : Env} {s : State} {m : MethodId} {args : Array Value} {below : List Frame} {meth : Method} {c : Code} {D : va_G} {cy : Nat → ClassId} {A : Nat → Prop} {a0 : Nat} {Q : Sto → Prop} (C : Cx p s m args meth c D cy A cX12_takeOne 6 RX12) (hr : meth.sig.returnType = none) (hnm : meth.name = yX12_takeOne.name) (p1 : Int32) (p3 : Int32) (p4 : Int32) (p5 : Int32) (σ : Sto) (h : b_X12_takeOne_142 a0  Q p1 p3 p4 p5 σ) (ls : Array Slot) (hl : lv_has ls 6 [(0, .ref a0), (1, .int p1), (3, .int p3), (4, .int p4), (5, .int p5)]) : Xw p l e rm_X12_takeOne s m args below meth c D cy A σ 0 0 (MQ below (Qst D cy A (PsV Q)) args s rm_X12_takeOne.cells rm_X12_takeOne.slots A) (F0 m 142 ls []) := by
  unfold b_X12_takeOne_142 at h
  refine x_aload_n C dX12_takeOne_142 rfl (lv_at hl 0 rfl) ?_
  refine x_bipush (v := 11) C dX12_takeOne_143 (by decide) ?_
  refine x_iload_n C dX12_takeOne_145 rfl (lv_at hl 1 rfl) ?_
  refine x_bipush (v := 16) C dX12_takeOne_146 (by decide) ?_
  refine x_iload C dX12_takeOne_148 (lv_at hl 3 rfl) ?_
  refine x_iadd C dX12_takeOne_150 ?_
  obtain ⟨g1, h⟩ := h
  refine x_callV (rm := rm_X12_begin) (rest := []) (As := [.int (11 : Int32), .int p1, .int ((16 : Int32) + p4)]) C cy_RX12_290 g1 (by decide) (by decide) rfl rfl (Nat.le_of_ble_eq_true rfl) hl.1 dX12_takeOne_151 (c_X12_begin l D cy a0 (11 : Int32) p1 ((16 : Int32) + p4) σ _ h) (ks_v (fun σ2 h => ?_))
  refine x_aload_n C dX12_takeOne_154 rfl (lv_at hl 0 rfl) ?_
  refine x_iload_n C dX12_takeOne_155 rfl (lv_at hl 1 rfl) ?_
  obtain ⟨g3, h⟩ := h
  refine x_callV (rm := rm_X12_addView) (rest := []) (As := [.int p1]) C cy_RX12_294 g3 (by decide) (by decide) rfl rfl (Nat.le_of_ble_eq_true rfl) hl.1 dX12_takeOne_156 (c_X12_addView l D cy a0 p1 σ2 _ h) (ks_v (fun σ4 h => ?_))
  refine x_aload_n C dX12_takeOne_159 rfl (lv_at hl 0 rfl) ?_
  refine x_aload_n C dX12_takeOne_160 rfl (lv_at hl 0 rfl) ?_
  obtain ⟨g5, h⟩ := h
  refine x_getP C fl_RX12_59 g5 dX12_takeOne_161 ?_
  refine x_iload_n C dX12_takeOne_164 rfl (lv_at hl 1 rfl) ?_
  obtain ⟨b6, g7, h⟩ := h
  refine x_nn1 g7 ?_
  obtain ⟨g8, h⟩ := h
  obtain ⟨g9, h⟩ := h
  refine x_iald C g8 g9 dX12_takeOne_165 ?_
  refine x_topi (fun x10 e11 => ?_)
  have h := h x10 e11
  refine x_callV (rm := rm_X12_add) (rest := []) (As := [.int x10]) C cy_RX12_277 g5 (by decide) (by decide) rfl rfl (Nat.le_of_ble_eq_true rfl) hl.1 dX12_takeOne_166 (c_X12_add l D cy a0 x10 σ4 _ h) (ks_v (fun σ12 h => ?_))
  refine x_aload_n C dX12_takeOne_169 rfl (lv_at hl 0 rfl) ?_
  refine x_aload_n C dX12_takeOne_170 rfl (lv_at hl 0 rfl) ?_
  obtain ⟨g13, h⟩ := h
  refine x_getP C fl_RX12_77 g13 dX12_takeOne_171 ?_
  refine x_iload_n C dX12_takeOne_174 rfl (lv_at hl 2 rfl) ?_
  obtain ⟨b14, g15, h⟩ := h
  refine x_nn1 g15 ?_
  obtain ⟨g16, h⟩ := h
  obtain ⟨g17, h⟩ := h
  refine x_iald C g16 g17 dX12_takeOne_175 ?_
  refine x_topi (fun x18 e19 => ?_)
  have h := h x18 e19
  refine x_callV (rm := rm_X12_add) (rest := []) (As := [.int x18]) C cy_RX12_277 g13 (by decide) (by decide) rfl rfl (Nat.le_of_ble_eq_true rfl) hl.1 dX12_takeOne_176 (c_X12_add l D cy a0 x18 σ12 _ h) (ks_v (fun σ20 h => ?_))
  refine x_aload_n C dX12_takeOne_179 rfl (lv_at hl 0 rfl) ?_
  refine x_iload C dX12_takeOne_180 (lv_at hl 4 rfl) ?_
  refine x_if_eq (tgt := 189) C dX12_takeOne_182 (by decide) (fun c21 => ?_) (fun c21 => ?_)
  · have h := h.1 c21
    refine x_iconst (v := 0) C dX12_takeOne_189 (by decide) ?_
    exact t_X12_takeOne_190 C hr hnm  p4 p5 (0 : Int32) a0 _ h ls (lv_sub hl [0, 3, 4] rfl)
  · have h := h.2 c21
    refine x_iconst (v := 1) C dX12_takeOne_185 (by decide) ?_
    refine x_goto (tgt := 190) C dX12_takeOne_186 (by decide) ?_
    exact t_X12_takeOne_190 C hr hnm  p4 p5 (1 : Int32) a0 _ h ls (lv_sub hl [0, 3, 4] rfl)
def b_X12_takeOne_120 (a0 : Nat)  (Q : Sto → Prop) (p1 : Int32) (p3 : Int32) (p4 : Int32) (p5 : Int32) (σ : Sto) : Prop := ((p5 = 0 → b_X12_takeOne_142 a0  Q p1 p3 p4 p5 σ) ∧ (¬ p5 = 0 → (sK σ a0 = 12 ∧ (∃ b3 : Nat, sP σ a0 63 = some b3 ∧ (sK σ b3 = 14 ∧ (vp_in p4 (sN σ b3) ∧ (∀ x7 : Int32, x7 = sI σ b3 p4.toNatClampNeg → (∃ b9 : Nat, sP σ a0 32 = some b9 ∧ (sK σ b9 = 14 ∧ (vp_in p3 (sN σ b9) ∧ (∀ x13 : Int32, x13 = sI σ b9 p3.toNatClampNeg → ((x7 = x13 → b_X12_takeOne_142 a0  Q p1 p3 p4 p5 σ) ∧ (¬ x7 = x13 → Q σ)))))))))))))
set_option maxHeartbeats 4000000 in
set_option maxRecDepth 100000 in
theorem t_X12_takeOne_120 {p : Program} {l : Launch} {e : Env} {s : State} {m : MethodId} {args : Array Value} {below : List Frame} {meth : Method} {c : Code} {D : va_G} {cy : Nat → ClassId} {A : Nat → Prop} {a0 : Nat} {Q : Sto → Prop} (C : Cx p s m args meth c D cy A cX12_takeOne 6 RX12) (hr : meth.sig.returnType = none) (hnm : meth.name = yX12_takeOne.name) (p1 : Int32) (p3 : Int32) (p4 : Int32) (p5 : Int32) (σ : Sto) (h : b_X12_takeOne_120 a0  Q p1 p3 p4 p5 σ) (ls : Array Slot) (hl : lv_has ls 6 [(0, .ref a0), (1, .int p1), (3, .int p3), (4, .int p4), (5, .int p5)]) : Xw p l e rm_X12_takeOne s m args below meth c D cy A σ 0 0 (MQ below (Qst D cy A (PsV Q)) args s rm_X12_takeOne.cells rm_X12_takeOne.slots A) (F0 m 120 ls []) := by
  unfold b_X12_takeOne_120 at h
  refine x_iload C dX12_takeOne_120 (lv_at hl 4 rfl) ?_
  refine x_if_eq (tgt := 142) C dX12_takeOne_122 (by decide) (fun c1 => ?_) (fun c1 => ?_)
  · have h := h.1 c1
    exact t_X12_takeOne_142 C hr hnm  p1 p3 p4 p5 _ h ls (lv_sub hl [0, 1, 2, 3, 4] rfl)
  · have h := h.2 c1
    refine x_aload_n C dX12_takeOne_125 rfl (lv_at hl 0 rfl) ?_
    obtain ⟨g2, h⟩ := h
    refine x_getP C fl_RX12_170 g2 dX12_takeOne_126 ?_
    refine x_iload C dX12_takeOne_129 (lv_at hl 3 rfl) ?_
    obtain ⟨b3, g4, h⟩ := h
    refine x_nn1 g4 ?_
    obtain ⟨g5, h⟩ := h
    obtain ⟨g6, h⟩ := h
    refine x_iald C g5 g6 dX12_takeOne_131 ?_
    refine x_topi (fun x7 e8 => ?_)
    have h := h x7 e8
    refine x_aload_n C dX12_takeOne_132 rfl (lv_at hl 0 rfl) ?_
    refine x_getP C fl_RX12_77 g2 dX12_takeOne_133 ?_
    refine x_iload_n C dX12_takeOne_136 rfl (lv_at hl 2 rfl) ?_
    obtain ⟨b9, g10, h⟩ := h
    refine x_nn1 g10 ?_
    obtain ⟨g11, h⟩ := h
    obtain ⟨g12, h⟩ := h
    refine x_iald C g11 g12 dX12_takeOne_137 ?_
    refine x_topi (fun x13 e14 => ?_)
    have h := h x13 e14
    refine x_icmp_eq (tgt := 142) C dX12_takeOne_138 (by decide) (fun c15 => ?_) (fun c15 => ?_)
    · have h := h.1 c15
      exact t_X12_takeOne_142 C hr hnm  p1 p3 p4 p5 _ h ls (lv_sub hl [0, 1, 2, 3, 4] rfl)
    · have h := h.2 c15
      exact x_vret C hr dX12_takeOne_141 ⟨rfl, h⟩
def wp_X12_takeOne (a0 : Nat) (p1 : Int32) (p2 : Int32) (σ : Sto) (Q : Sto → Prop) : Prop := (sK σ a0 = 12 ∧ (∃ b2 : Nat, sP σ a0 26 = some b2 ∧ (sK σ b2 = 14 ∧ (vp_in p1 (sN σ b2) ∧ (∀ x6 : Int32, x6 = sI σ b2 p1.toNatClampNeg → (∀ x8 : Int32, x8 = ((100 : Int32) * p1) + x6 → (∃ b10 : Nat, sP σ a0 30 = some b10 ∧ (sK σ b10 = 16 ∧ (vp_in x8 (sN σ b10) ∧ (∃ b14 : Nat, sP σ a0 38 = some b14 ∧ (sK σ b14 = 14 ∧ (vp_in p2 (sN σ b14) ∧ (∀ x18 : Int32, x18 = sI (stI σ b10 x8.toNatClampNeg (vp_nar .boolean (1 : Int32))) b14 p2.toNatClampNeg → (∃ b20 : Nat, sP σ a0 31 = some b20 ∧ (sK σ b20 = 14 ∧ (vp_in x8 (sN σ b20) ∧ (∃ b24 : Nat, sP σ a0 39 = some b24 ∧ (sK σ b24 = 14 ∧ (vp_in p2 (sN σ b24) ∧ (∀ x28 : Int32, x28 = sI (stI (stI σ b10 x8.toNatClampNeg (vp_nar .boolean (1 : Int32))) b20 x8.toNatClampNeg x18) b24 p2.toNatClampNeg → (∃ b30 : Nat, sP σ a0 32 = some b30 ∧ (sK σ b30 = 14 ∧ (vp_in x8 (sN σ b30) ∧ (∃ b34 : Nat, sP σ a0 40 = some b34 ∧ (sK σ b34 = 14 ∧ (vp_in p2 (sN σ b34) ∧ (∀ x38 : Int32, x38 = sI (stI (stI (stI σ b10 x8.toNatClampNeg (vp_nar .boolean (1 : Int32))) b20 x8.toNatClampNeg x18) b30 x8.toNatClampNeg x28) b34 p2.toNatClampNeg → (∃ b40 : Nat, sP σ a0 33 = some b40 ∧ (sK σ b40 = 14 ∧ (vp_in x8 (sN σ b40) ∧ (∃ b44 : Nat, sP σ a0 41 = some b44 ∧ (sK σ b44 = 14 ∧ (vp_in p2 (sN σ b44) ∧ (∀ x48 : Int32, x48 = sI (stI (stI (stI (stI σ b10 x8.toNatClampNeg (vp_nar .boolean (1 : Int32))) b20 x8.toNatClampNeg x18) b30 x8.toNatClampNeg x28) b40 x8.toNatClampNeg x38) b44 p2.toNatClampNeg → (∃ b50 : Nat, sP σ a0 34 = some b50 ∧ (sK σ b50 = 14 ∧ (vp_in x8 (sN σ b50) ∧ (∃ b54 : Nat, sP σ a0 42 = some b54 ∧ (sK σ b54 = 14 ∧ (vp_in p2 (sN σ b54) ∧ (∀ x58 : Int32, x58 = sI (stI (stI (stI (stI (stI σ b10 x8.toNatClampNeg (vp_nar .boolean (1 : Int32))) b20 x8.toNatClampNeg x18) b30 x8.toNatClampNeg x28) b40 x8.toNatClampNeg x38) b50 x8.toNatClampNeg x48) b54 p2.toNatClampNeg → (∃ b60 : Nat, sP σ a0 35 = some b60 ∧ (sK σ b60 = 14 ∧ (vp_in x8 (sN σ b60) ∧ (vp_in p1 (sN σ b2) ∧ (∀ x65 : Int32, x65 = sI (stI (stI (stI (stI (stI (stI σ b10 x8.toNatClampNeg (vp_nar .boolean (1 : Int32))) b20 x8.toNatClampNeg x18) b30 x8.toNatClampNeg x28) b40 x8.toNatClampNeg x38) b50 x8.toNatClampNeg x48) b60 x8.toNatClampNeg x58) b2 p1.toNatClampNeg → (∀ x67 : Int32, x67 = x65 + (1 : Int32) → (vp_in p1 (sN σ b2) ∧ (wp_X12_drop a0 p1 p2 (stI (stI (stI (stI (stI (stI (stI σ b10 x8.toNatClampNeg (vp_nar .boolean (1 : Int32))) b20 x8.toNatClampNeg x18) b30 x8.toNatClampNeg x28) b40 x8.toNatClampNeg x38) b50 x8.toNatClampNeg x48) b60 x8.toNatClampNeg x58) b2 p1.toNatClampNeg x67) (fun (σ70 : Sto) => (sK σ70 a0 = 12 ∧ (∃ b72 : Nat, sP σ70 a0 31 = some b72 ∧ (sK σ70 b72 = 14 ∧ (vp_in x8 (sN σ70 b72) ∧ (∀ x76 : Int32, x76 = sI σ70 b72 x8.toNatClampNeg → (wp_X12_leads a0 p1 σ70 (fun (x79 : Int32) (σ78 : Sto) => ((x79 = 0 → b_X12_takeOne_120 a0  Q p1 x8 x76 x79 σ78) ∧ (¬ x79 = 0 → (sK σ78 a0 = 12 ∧ (wp_X12_execute a0 p1 σ78 (fun (σ82 : Sto) => b_X12_takeOne_120 a0  Q p1 x8 x76 x79 σ82))))))))))))))))))))))))))))))))))))))))))))))))))))))))))))))
set_option maxHeartbeats 4000000 in
set_option maxRecDepth 100000 in
theorem c_X12_takeOne (l : Launch) (D : va_G) (cy : Nat → ClassId) (a0 : Nat) (p1 : Int32) (p2 : Int32) (σ : Sto) (Q : Sto → Prop) (h : wp_X12_takeOne a0 p1 p2 σ Q) : Mt l D cy yX12_takeOne cX12_takeOne 6 none rm_X12_takeOne [.ref a0, .int p1, .int p2] σ (PsV Q) := by
  unfold wp_X12_takeOne at h
  refine mt_of (by decide +kernel) (Nat.le_of_ble_eq_true rfl) ?_
  intro p e s m args below meth c A ls C hr hnm hl
  have C : Cx p s m args meth c D cy A cX12_takeOne 6 RX12 := C
  have hl : lv_has ls 6 [(0, .ref a0), (1, .int p1), (2, .int p2)] := hl
  refine x_bipush (v := 100) C dX12_takeOne_0 (by decide) ?_
  refine x_iload_n C dX12_takeOne_2 rfl (lv_at hl 1 rfl) ?_
  refine x_imul C dX12_takeOne_3 ?_
  refine x_aload_n C dX12_takeOne_4 rfl (lv_at hl 0 rfl) ?_
  obtain ⟨g1, h⟩ := h
  refine x_getP C fl_RX12_59 g1 dX12_takeOne_5 ?_
  refine x_iload_n C dX12_takeOne_8 rfl (lv_at hl 1 rfl) ?_
  obtain ⟨b2, g3, h⟩ := h
  refine x_nn1 g3 ?_
  obtain ⟨g4, h⟩ := h
  obtain ⟨g5, h⟩ := h
  refine x_iald C g4 g5 dX12_takeOne_9 ?_
  refine x_topi (fun x6 e7 => ?_)
  have h := h x6 e7
  refine x_iadd C dX12_takeOne_10 ?_
  refine x_topi (fun x8 e9 => ?_)
  have h := h x8 e9
  refine x_istore_n (i := 3) (lv' := [(3, .int x8), (0, .ref a0), (1, .int p1), (2, .int p2)]) C dX12_takeOne_11 rfl hl (by decide) (by first | rfl | simp [vrc, cat_i, cat_r, cat_l]) (fun ls hl => ?_)
  refine x_aload_n C dX12_takeOne_12 rfl (lv_at hl 1 rfl) ?_
  refine x_getP C fl_RX12_71 g1 dX12_takeOne_13 ?_
  refine x_iload_n C dX12_takeOne_16 rfl (lv_at hl 0 rfl) ?_
  refine x_iconst (v := 1) C dX12_takeOne_17 (by decide) ?_
  obtain ⟨b10, g11, h⟩ := h
  refine x_nn2 g11 ?_
  obtain ⟨g12, h⟩ := h
  obtain ⟨g13, h⟩ := h
  refine x_zast C g12 g13 dX12_takeOne_18 ?_
  refine x_aload_n C dX12_takeOne_19 rfl (lv_at hl 1 rfl) ?_
  refine x_getP C fl_RX12_74 g1 dX12_takeOne_20 ?_
  refine x_iload_n C dX12_takeOne_23 rfl (lv_at hl 0 rfl) ?_
  refine x_aload_n C dX12_takeOne_24 rfl (lv_at hl 1 rfl) ?_
  refine x_getP C fl_RX12_95 g1 dX12_takeOne_25 ?_
  refine x_iload_n C dX12_takeOne_28 rfl (lv_at hl 3 rfl) ?_
  obtain ⟨b14, g15, h⟩ := h
  refine x_nn1 g15 ?_
  obtain ⟨g16, h⟩ := h
  obtain ⟨g17, h⟩ := h
  refine x_iald C g16 g17 dX12_takeOne_29 ?_
  refine x_topi (fun x18 e19 => ?_)
  have h := h x18 e19
  obtain ⟨b20, g21, h⟩ := h
  refine x_nn2 g21 ?_
  obtain ⟨g22, h⟩ := h
  obtain ⟨g23, h⟩ := h
  refine x_iast C g22 g23 dX12_takeOne_30 ?_
  refine x_aload_n C dX12_takeOne_31 rfl (lv_at hl 1 rfl) ?_
  refine x_getP C fl_RX12_77 g1 dX12_takeOne_32 ?_
  refine x_iload_n C dX12_takeOne_35 rfl (lv_at hl 0 rfl) ?_
  refine x_aload_n C dX12_takeOne_36 rfl (lv_at hl 1 rfl) ?_
  refine x_getP C fl_RX12_98 g1 dX12_takeOne_37 ?_
  refine x_iload_n C dX12_takeOne_40 rfl (lv_at hl 3 rfl) ?_
  obtain ⟨b24, g25, h⟩ := h
  refine x_nn1 g25 ?_
  obtain ⟨g26, h⟩ := h
  obtain ⟨g27, h⟩ := h
  refine x_iald C g26 g27 dX12_takeOne_41 ?_
  refine x_topi (fun x28 e29 => ?_)
  have h := h x28 e29
  obtain ⟨b30, g31, h⟩ := h
  refine x_nn2 g31 ?_
  obtain ⟨g32, h⟩ := h
  obtain ⟨g33, h⟩ := h
  refine x_iast C g32 g33 dX12_takeOne_42 ?_
  refine x_aload_n C dX12_takeOne_43 rfl (lv_at hl 1 rfl) ?_
  refine x_getP C fl_RX12_80 g1 dX12_takeOne_44 ?_
  refine x_iload_n C dX12_takeOne_47 rfl (lv_at hl 0 rfl) ?_
  refine x_aload_n C dX12_takeOne_48 rfl (lv_at hl 1 rfl) ?_
  refine x_getP C fl_RX12_101 g1 dX12_takeOne_49 ?_
  refine x_iload_n C dX12_takeOne_52 rfl (lv_at hl 3 rfl) ?_
  obtain ⟨b34, g35, h⟩ := h
  refine x_nn1 g35 ?_
  obtain ⟨g36, h⟩ := h
  obtain ⟨g37, h⟩ := h
  refine x_iald C g36 g37 dX12_takeOne_53 ?_
  refine x_topi (fun x38 e39 => ?_)
  have h := h x38 e39
  obtain ⟨b40, g41, h⟩ := h
  refine x_nn2 g41 ?_
  obtain ⟨g42, h⟩ := h
  obtain ⟨g43, h⟩ := h
  refine x_iast C g42 g43 dX12_takeOne_54 ?_
  refine x_aload_n C dX12_takeOne_55 rfl (lv_at hl 1 rfl) ?_
  refine x_getP C fl_RX12_83 g1 dX12_takeOne_56 ?_
  refine x_iload_n C dX12_takeOne_59 rfl (lv_at hl 0 rfl) ?_
  refine x_aload_n C dX12_takeOne_60 rfl (lv_at hl 1 rfl) ?_
  refine x_getP C fl_RX12_104 g1 dX12_takeOne_61 ?_
  refine x_iload_n C dX12_takeOne_64 rfl (lv_at hl 3 rfl) ?_
  obtain ⟨b44, g45, h⟩ := h
  refine x_nn1 g45 ?_
  obtain ⟨g46, h⟩ := h
  obtain ⟨g47, h⟩ := h
  refine x_iald C g46 g47 dX12_takeOne_65 ?_
  refine x_topi (fun x48 e49 => ?_)
  have h := h x48 e49
  obtain ⟨b50, g51, h⟩ := h
  refine x_nn2 g51 ?_
  obtain ⟨g52, h⟩ := h
  obtain ⟨g53, h⟩ := h
  refine x_iast C g52 g53 dX12_takeOne_66 ?_
  refine x_aload_n C dX12_takeOne_67 rfl (lv_at hl 1 rfl) ?_
  refine x_getP C fl_RX12_86 g1 dX12_takeOne_68 ?_
  refine x_iload_n C dX12_takeOne_71 rfl (lv_at hl 0 rfl) ?_
  refine x_aload_n C dX12_takeOne_72 rfl (lv_at hl 1 rfl) ?_
  refine x_getP C fl_RX12_107 g1 dX12_takeOne_73 ?_
  refine x_iload_n C dX12_takeOne_76 rfl (lv_at hl 3 rfl) ?_
  obtain ⟨b54, g55, h⟩ := h
  refine x_nn1 g55 ?_
  obtain ⟨g56, h⟩ := h
  obtain ⟨g57, h⟩ := h
  refine x_iald C g56 g57 dX12_takeOne_77 ?_
  refine x_topi (fun x58 e59 => ?_)
  have h := h x58 e59
  obtain ⟨b60, g61, h⟩ := h
  refine x_nn2 g61 ?_
  obtain ⟨g62, h⟩ := h
  obtain ⟨g63, h⟩ := h
  refine x_iast C g62 g63 dX12_takeOne_78 ?_
  refine x_aload_n C dX12_takeOne_79 rfl (lv_at hl 1 rfl) ?_
  refine x_getP C fl_RX12_59 g1 dX12_takeOne_80 ?_
  refine x_iload_n C dX12_takeOne_83 rfl (lv_at hl 2 rfl) ?_
  refine x_dup2 C dX12_takeOne_84 (rfl) (vrc _) ?_
  refine x_nn1 g3 ?_
  obtain ⟨g64, h⟩ := h
  refine x_iald C g4 g64 dX12_takeOne_85 ?_
  refine x_topi (fun x65 e66 => ?_)
  have h := h x65 e66
  refine x_iconst (v := 1) C dX12_takeOne_86 (by decide) ?_
  refine x_iadd C dX12_takeOne_87 ?_
  refine x_topi (fun x67 e68 => ?_)
  have h := h x67 e68
  refine x_nn2 g3 ?_
  obtain ⟨g69, h⟩ := h
  refine x_iast C g4 g69 dX12_takeOne_88 ?_
  refine x_aload_n C dX12_takeOne_89 rfl (lv_at hl 1 rfl) ?_
  refine x_iload_n C dX12_takeOne_90 rfl (lv_at hl 2 rfl) ?_
  refine x_iload_n C dX12_takeOne_91 rfl (lv_at hl 3 rfl) ?_
  refine x_callV (rm := rm_X12_drop) (rest := []) (As := [.int p1, .int p2]) C cy_RX12_340 g1 (by decide) (by decide) rfl rfl (Nat.le_of_ble_eq_true rfl) hl.1 dX12_takeOne_92 (c_X12_drop l D cy a0 p1 p2 (stI (stI (stI (stI (stI (stI (stI σ b10 x8.toNatClampNeg (vp_nar .boolean (1 : Int32))) b20 x8.toNatClampNeg x18) b30 x8.toNatClampNeg x28) b40 x8.toNatClampNeg x38) b50 x8.toNatClampNeg x48) b60 x8.toNatClampNeg x58) b2 p1.toNatClampNeg x67) _ h) (ks_v (fun σ70 h => ?_))
  refine x_aload_n C dX12_takeOne_95 rfl (lv_at hl 1 rfl) ?_
  obtain ⟨g71, h⟩ := h
  refine x_getP C fl_RX12_74 g71 dX12_takeOne_96 ?_
  refine x_iload_n C dX12_takeOne_99 rfl (lv_at hl 0 rfl) ?_
  obtain ⟨b72, g73, h⟩ := h
  refine x_nn1 g73 ?_
  obtain ⟨g74, h⟩ := h
  obtain ⟨g75, h⟩ := h
  refine x_iald C g74 g75 dX12_takeOne_100 ?_
  refine x_topi (fun x76 e77 => ?_)
  have h := h x76 e77
  refine x_istore (i := 4) (lv' := [(4, .int x76), (3, .int x8), (0, .ref a0), (1, .int p1), (2, .int p2)]) C dX12_takeOne_101 hl (by decide) (by first | rfl | simp [vrc, cat_i, cat_r, cat_l]) (fun ls hl => ?_)
  refine x_aload_n C dX12_takeOne_103 rfl (lv_at hl 2 rfl) ?_
  refine x_iload_n C dX12_takeOne_104 rfl (lv_at hl 3 rfl) ?_
  refine x_callV (rm := rm_X12_leads) (rest := []) (As := [.int p1]) C cy_RX12_327 g71 (by decide) (by decide) rfl rfl (Nat.le_of_ble_eq_true rfl) hl.1 dX12_takeOne_105 (c_X12_leads l D cy a0 p1 σ70 _ h) (ks_i (fun x79 σ78 h => ?_))
  refine x_istore (i := 5) (lv' := [(5, .int x79), (4, .int x76), (3, .int x8), (0, .ref a0), (1, .int p1), (2, .int p2)]) C dX12_takeOne_108 hl (by decide) (by first | rfl | simp [vrc, cat_i, cat_r, cat_l]) (fun ls hl => ?_)
  refine x_iload C dX12_takeOne_110 (lv_at hl 0 rfl) ?_
  refine x_if_eq (tgt := 120) C dX12_takeOne_112 (by decide) (fun c80 => ?_) (fun c80 => ?_)
  · have h := h.1 c80
    exact t_X12_takeOne_120 C hr hnm  p1 x8 x76 x79 _ h ls (lv_sub hl [3, 4, 2, 1, 0] rfl)
  · have h := h.2 c80
    refine x_aload_n C dX12_takeOne_115 rfl (lv_at hl 3 rfl) ?_
    refine x_iload_n C dX12_takeOne_116 rfl (lv_at hl 4 rfl) ?_
    obtain ⟨g81, h⟩ := h
    refine x_callV (rm := rm_X12_execute) (rest := []) (As := [.int p1]) C cy_RX12_343 g81 (by decide) (by decide) rfl rfl (Nat.le_of_ble_eq_true rfl) hl.1 dX12_takeOne_117 (c_X12_execute l D cy a0 p1 σ78 _ h) (ks_v (fun σ82 h => ?_))
    exact t_X12_takeOne_120 C hr hnm  p1 x8 x76 x79 _ h ls (lv_sub hl [3, 4, 2, 1, 0] rfl)
theorem dX12_addNothing_0 : decode cX12_addNothing 0 = .ok (.aload_n 0, 1) := by decide +kernel
theorem dX12_addNothing_1 : decode cX12_addNothing 1 = .ok (.getfield 71, 3) := by decide +kernel
theorem dX12_addNothing_4 : decode cX12_addNothing 4 = .ok (.bipush 100, 2) := by decide +kernel
theorem dX12_addNothing_6 : decode cX12_addNothing 6 = .ok (.iload_n 1, 1) := by decide +kernel
theorem dX12_addNothing_7 : decode cX12_addNothing 7 = .ok (.imul, 1) := by decide +kernel
theorem dX12_addNothing_8 : decode cX12_addNothing 8 = .ok (.aload_n 0, 1) := by decide +kernel
theorem dX12_addNothing_9 : decode cX12_addNothing 9 = .ok (.getfield 59, 3) := by decide +kernel
theorem dX12_addNothing_12 : decode cX12_addNothing 12 = .ok (.iload_n 1, 1) := by decide +kernel
theorem dX12_addNothing_13 : decode cX12_addNothing 13 = .ok (.iaload, 1) := by decide +kernel
theorem dX12_addNothing_14 : decode cX12_addNothing 14 = .ok (.iadd, 1) := by decide +kernel
theorem dX12_addNothing_15 : decode cX12_addNothing 15 = .ok (.iconst 0, 1) := by decide +kernel
theorem dX12_addNothing_16 : decode cX12_addNothing 16 = .ok (.bastore, 1) := by decide +kernel
theorem dX12_addNothing_17 : decode cX12_addNothing 17 = .ok (.aload_n 0, 1) := by decide +kernel
theorem dX12_addNothing_18 : decode cX12_addNothing 18 = .ok (.getfield 59, 3) := by decide +kernel
theorem dX12_addNothing_21 : decode cX12_addNothing 21 = .ok (.iload_n 1, 1) := by decide +kernel
theorem dX12_addNothing_22 : decode cX12_addNothing 22 = .ok (.dup2, 1) := by decide +kernel
theorem dX12_addNothing_23 : decode cX12_addNothing 23 = .ok (.iaload, 1) := by decide +kernel
theorem dX12_addNothing_24 : decode cX12_addNothing 24 = .ok (.iconst 1, 1) := by decide +kernel
theorem dX12_addNothing_25 : decode cX12_addNothing 25 = .ok (.iadd, 1) := by decide +kernel
theorem dX12_addNothing_26 : decode cX12_addNothing 26 = .ok (.iastore, 1) := by decide +kernel
theorem dX12_addNothing_27 : decode cX12_addNothing 27 = .ok (.return_, 1) := by decide +kernel
abbrev rm_X12_addNothing : Room := { frames := 0, cells := 0, slots := 0, locals := 0 }
def wp_X12_addNothing (a0 : Nat) (p1 : Int32) (σ : Sto) (Q : Sto → Prop) : Prop := (sK σ a0 = 12 ∧ (∃ b2 : Nat, sP σ a0 26 = some b2 ∧ (sK σ b2 = 14 ∧ (vp_in p1 (sN σ b2) ∧ (∀ x6 : Int32, x6 = sI σ b2 p1.toNatClampNeg → (∃ b8 : Nat, sP σ a0 30 = some b8 ∧ (sK σ b8 = 16 ∧ (vp_in (((100 : Int32) * p1) + x6) (sN σ b8) ∧ (vp_in p1 (sN σ b2) ∧ (∀ x13 : Int32, x13 = sI (stI σ b8 (((100 : Int32) * p1) + x6).toNatClampNeg (vp_nar .boolean (0 : Int32))) b2 p1.toNatClampNeg → (∀ x15 : Int32, x15 = x13 + (1 : Int32) → (vp_in p1 (sN σ b2) ∧ Q (stI (stI σ b8 (((100 : Int32) * p1) + x6).toNatClampNeg (vp_nar .boolean (0 : Int32))) b2 p1.toNatClampNeg x15)))))))))))))
set_option maxHeartbeats 4000000 in
set_option maxRecDepth 100000 in
theorem c_X12_addNothing (l : Launch) (D : va_G) (cy : Nat → ClassId) (a0 : Nat) (p1 : Int32) (σ : Sto) (Q : Sto → Prop) (h : wp_X12_addNothing a0 p1 σ Q) : Mt l D cy yX12_addNothing cX12_addNothing 2 none rm_X12_addNothing [.ref a0, .int p1] σ (PsV Q) := by
  unfold wp_X12_addNothing at h
  refine mt_of (by decide +kernel) (Nat.le_of_ble_eq_true rfl) ?_
  intro p e s m args below meth c A ls C hr hnm hl
  have C : Cx p s m args meth c D cy A cX12_addNothing 2 RX12 := C
  have hl : lv_has ls 2 [(0, .ref a0), (1, .int p1)] := hl
  refine x_aload_n C dX12_addNothing_0 rfl (lv_at hl 0 rfl) ?_
  obtain ⟨g1, h⟩ := h
  refine x_getP C fl_RX12_71 g1 dX12_addNothing_1 ?_
  refine x_bipush (v := 100) C dX12_addNothing_4 (by decide) ?_
  refine x_iload_n C dX12_addNothing_6 rfl (lv_at hl 1 rfl) ?_
  refine x_imul C dX12_addNothing_7 ?_
  refine x_aload_n C dX12_addNothing_8 rfl (lv_at hl 0 rfl) ?_
  refine x_getP C fl_RX12_59 g1 dX12_addNothing_9 ?_
  refine x_iload_n C dX12_addNothing_12 rfl (lv_at hl 1 rfl) ?_
  obtain ⟨b2, g3, h⟩ := h
  refine x_nn1 g3 ?_
  obtain ⟨g4, h⟩ := h
  obtain ⟨g5, h⟩ := h
  refine x_iald C g4 g5 dX12_addNothing_13 ?_
  refine x_topi (fun x6 e7 => ?_)
  have h := h x6 e7
  refine x_iadd C dX12_addNothing_14 ?_
  refine x_iconst (v := 0) C dX12_addNothing_15 (by decide) ?_
  obtain ⟨b8, g9, h⟩ := h
  refine x_nn2 g9 ?_
  obtain ⟨g10, h⟩ := h
  obtain ⟨g11, h⟩ := h
  refine x_zast C g10 g11 dX12_addNothing_16 ?_
  refine x_aload_n C dX12_addNothing_17 rfl (lv_at hl 0 rfl) ?_
  refine x_getP C fl_RX12_59 g1 dX12_addNothing_18 ?_
  refine x_iload_n C dX12_addNothing_21 rfl (lv_at hl 1 rfl) ?_
  refine x_dup2 C dX12_addNothing_22 (rfl) (vrc _) ?_
  refine x_nn1 g3 ?_
  obtain ⟨g12, h⟩ := h
  refine x_iald C g4 g12 dX12_addNothing_23 ?_
  refine x_topi (fun x13 e14 => ?_)
  have h := h x13 e14
  refine x_iconst (v := 1) C dX12_addNothing_24 (by decide) ?_
  refine x_iadd C dX12_addNothing_25 ?_
  refine x_topi (fun x15 e16 => ?_)
  have h := h x15 e16
  refine x_nn2 g3 ?_
  obtain ⟨g17, h⟩ := h
  refine x_iast C g4 g17 dX12_addNothing_26 ?_
  exact x_vret C hr dX12_addNothing_27 ⟨rfl, h⟩
