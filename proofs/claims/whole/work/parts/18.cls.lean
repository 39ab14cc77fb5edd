theorem dX11_replica_0 : decode cX11_replica 0 = .ok (.aload_n 0, 1) := by decide +kernel
theorem dX11_replica_1 : decode cX11_replica 1 = .ok (.iload_n 1, 1) := by decide +kernel
theorem dX11_replica_2 : decode cX11_replica 2 = .ok (.invokevirtual 151, 3) := by decide +kernel
theorem dX11_replica_5 : decode cX11_replica 5 = .ok (.ifCond .ne 5, 3) := by decide +kernel
theorem dX11_replica_8 : decode cX11_replica 8 = .ok (.iconst (-1), 1) := by decide +kernel
theorem dX11_replica_9 : decode cX11_replica 9 = .ok (.ireturn, 1) := by decide +kernel
theorem dX11_replica_10 : decode cX11_replica 10 = .ok (.aload_n 0, 1) := by decide +kernel
theorem dX11_replica_11 : decode cX11_replica 11 = .ok (.getfield 40, 3) := by decide +kernel
theorem dX11_replica_14 : decode cX11_replica 14 = .ok (.iload_n 1, 1) := by decide +kernel
theorem dX11_replica_15 : decode cX11_replica 15 = .ok (.aaload, 1) := by decide +kernel
theorem dX11_replica_16 : decode cX11_replica 16 = .ok (.astore_n 3, 1) := by decide +kernel
theorem dX11_replica_17 : decode cX11_replica 17 = .ok (.iload_n 2, 1) := by decide +kernel
theorem dX11_replica_18 : decode cX11_replica 18 = .ok (.tableswitch 142 0 10 #[58, 71, 76, 84, 92, 100, 108, 113, 121, 129, 137], 58) := by decide +kernel
theorem dX11_replica_76 : decode cX11_replica 76 = .ok (.aload_n 3, 1) := by decide +kernel
theorem dX11_replica_77 : decode cX11_replica 77 = .ok (.getfield 156, 3) := by decide +kernel
theorem dX11_replica_80 : decode cX11_replica 80 = .ok (.ifCond .eq 7, 3) := by decide +kernel
theorem dX11_replica_83 : decode cX11_replica 83 = .ok (.iconst 1, 1) := by decide +kernel
theorem dX11_replica_84 : decode cX11_replica 84 = .ok (.goto 4, 3) := by decide +kernel
theorem dX11_replica_87 : decode cX11_replica 87 = .ok (.iconst 0, 1) := by decide +kernel
theorem dX11_replica_88 : decode cX11_replica 88 = .ok (.ireturn, 1) := by decide +kernel
theorem dX11_replica_89 : decode cX11_replica 89 = .ok (.aload_n 3, 1) := by decide +kernel
theorem dX11_replica_90 : decode cX11_replica 90 = .ok (.getfield 200, 3) := by decide +kernel
theorem dX11_replica_93 : decode cX11_replica 93 = .ok (.ireturn, 1) := by decide +kernel
theorem dX11_replica_94 : decode cX11_replica 94 = .ok (.aload_n 3, 1) := by decide +kernel
theorem dX11_replica_95 : decode cX11_replica 95 = .ok (.getfield 222, 3) := by decide +kernel
theorem dX11_replica_98 : decode cX11_replica 98 = .ok (.invokestatic 226, 3) := by decide +kernel
theorem dX11_replica_101 : decode cX11_replica 101 = .ok (.ireturn, 1) := by decide +kernel
theorem dX11_replica_102 : decode cX11_replica 102 = .ok (.aload_n 3, 1) := by decide +kernel
theorem dX11_replica_103 : decode cX11_replica 103 = .ok (.getfield 222, 3) := by decide +kernel
theorem dX11_replica_106 : decode cX11_replica 106 = .ok (.invokestatic 230, 3) := by decide +kernel
theorem dX11_replica_109 : decode cX11_replica 109 = .ok (.ireturn, 1) := by decide +kernel
theorem dX11_replica_110 : decode cX11_replica 110 = .ok (.aload_n 3, 1) := by decide +kernel
theorem dX11_replica_111 : decode cX11_replica 111 = .ok (.getfield 233, 3) := by decide +kernel
theorem dX11_replica_114 : decode cX11_replica 114 = .ok (.getfield 237, 3) := by decide +kernel
theorem dX11_replica_117 : decode cX11_replica 117 = .ok (.ireturn, 1) := by decide +kernel
theorem dX11_replica_118 : decode cX11_replica 118 = .ok (.aload_n 3, 1) := by decide +kernel
theorem dX11_replica_119 : decode cX11_replica 119 = .ok (.getfield 233, 3) := by decide +kernel
theorem dX11_replica_122 : decode cX11_replica 122 = .ok (.getfield 242, 3) := by decide +kernel
theorem dX11_replica_125 : decode cX11_replica 125 = .ok (.ireturn, 1) := by decide +kernel
theorem dX11_replica_126 : decode cX11_replica 126 = .ok (.aload_n 3, 1) := by decide +kernel
theorem dX11_replica_127 : decode cX11_replica 127 = .ok (.getfield 245, 3) := by decide +kernel
theorem dX11_replica_130 : decode cX11_replica 130 = .ok (.ireturn, 1) := by decide +kernel
theorem dX11_replica_131 : decode cX11_replica 131 = .ok (.aload_n 3, 1) := by decide +kernel
theorem dX11_replica_132 : decode cX11_replica 132 = .ok (.getfield 168, 3) := by decide +kernel
theorem dX11_replica_135 : decode cX11_replica 135 = .ok (.getfield 248, 3) := by decide +kernel
theorem dX11_replica_138 : decode cX11_replica 138 = .ok (.ireturn, 1) := by decide +kernel
theorem dX11_replica_139 : decode cX11_replica 139 = .ok (.aload_n 3, 1) := by decide +kernel
theorem dX11_replica_140 : decode cX11_replica 140 = .ok (.getfield 251, 3) := by decide +kernel
theorem dX11_replica_143 : decode cX11_replica 143 = .ok (.invokestatic 226, 3) := by decide +kernel
theorem dX11_replica_146 : decode cX11_replica 146 = .ok (.ireturn, 1) := by decide +kernel
theorem dX11_replica_147 : decode cX11_replica 147 = .ok (.aload_n 3, 1) := by decide +kernel
theorem dX11_replica_148 : decode cX11_replica 148 = .ok (.getfield 251, 3) := by decide +kernel
theorem dX11_replica_151 : decode cX11_replica 151 = .ok (.invokestatic 230, 3) := by decide +kernel
theorem dX11_replica_154 : decode cX11_replica 154 = .ok (.ireturn, 1) := by decide +kernel
theorem dX11_replica_155 : decode cX11_replica 155 = .ok (.aload_n 3, 1) := by decide +kernel
theorem dX11_replica_156 : decode cX11_replica 156 = .ok (.getfield 254, 3) := by decide +kernel
theorem dX11_replica_159 : decode cX11_replica 159 = .ok (.ireturn, 1) := by decide +kernel
theorem dX11_replica_160 : decode cX11_replica 160 = .ok (.iconst (-1), 1) := by decide +kernel
theorem dX11_replica_161 : decode cX11_replica 161 = .ok (.ireturn, 1) := by decide +kernel
abbrev rm_X11_replica : Room := { frames := 1, cells := 0, slots := 0, locals := 21 }
def wp_X11_replica (a0 : Nat) (p1 : Int32) (p2 : Int32) (σ : Sto) (Q : Int32 → Sto → Prop) : Prop := (sK σ a0 = 11 ∧ (wp_X11_isReplica a0 p1 σ (fun (x3 : Int32) (σ2 : Sto) => ((¬ x3 = 0 → (sK σ2 a0 = 11 ∧ (∃ b6 : Nat, sP σ2 a0 3 = some b6 ∧ (sK σ2 b6 = 21 ∧ (vp_in p1 (sN σ2 b6) ∧ (∀ r10 : Option Nat, r10 = sP σ2 b6 p1.toNatClampNeg → ((p2.toInt < 0 ∨ 10 < p2.toInt → Q (-1 : Int32) σ2) ∧ (p2 = (0 : Int32) → (∃ b14 : Nat, r10 = some b14 ∧ (sK σ2 b14 = 8 ∧ (∀ x17 : Int32, x17 = sI σ2 b14 3 → ((x17 = 0 → Q (0 : Int32) σ2) ∧ (¬ x17 = 0 → Q (1 : Int32) σ2)))))) ∧ (p2 = (1 : Int32) → (∃ b20 : Nat, r10 = some b20 ∧ (sK σ2 b20 = 8 ∧ (∀ x23 : Int32, x23 = sI σ2 b20 4 → Q x23 σ2)))) ∧ (p2 = (2 : Int32) → (∃ b25 : Nat, r10 = some b25 ∧ (sK σ2 b25 = 8 ∧ (∀ y28 : Int64, y28 = sJ σ2 b25 5 → (wp_X11_leadOf y28 σ2 (fun (x31 : Int32) (σ30 : Sto) => Q x31 σ30)))))) ∧ (p2 = (3 : Int32) → (∃ b32 : Nat, r10 = some b32 ∧ (sK σ2 b32 = 8 ∧ (∀ y35 : Int64, y35 = sJ σ2 b32 5 → (wp_X11_sessionOf y35 σ2 (fun (x38 : Int32) (σ37 : Sto) => Q x38 σ37)))))) ∧ (p2 = (4 : Int32) → (∃ b39 : Nat, r10 = some b39 ∧ (sK σ2 b39 = 8 ∧ (∃ b42 : Nat, sP σ2 b39 7 = some b42 ∧ (sK σ2 b42 = 2 ∧ (∀ x45 : Int32, x45 = sI σ2 b42 2 → Q x45 σ2)))))) ∧ (p2 = (5 : Int32) → (∃ b47 : Nat, r10 = some b47 ∧ (sK σ2 b47 = 8 ∧ (∃ b50 : Nat, sP σ2 b47 7 = some b50 ∧ (sK σ2 b50 = 2 ∧ (∀ x53 : Int32, x53 = sI σ2 b50 1 → Q x53 σ2)))))) ∧ (p2 = (6 : Int32) → (∃ b55 : Nat, r10 = some b55 ∧ (sK σ2 b55 = 8 ∧ (∀ x58 : Int32, x58 = sI σ2 b55 8 → Q x58 σ2)))) ∧ (p2 = (7 : Int32) → (∃ b60 : Nat, r10 = some b60 ∧ (sK σ2 b60 = 8 ∧ (∃ b63 : Nat, sP σ2 b60 10 = some b63 ∧ (sK σ2 b63 = 5 ∧ (∀ x66 : Int32, x66 = sI σ2 b63 2 → Q x66 σ2)))))) ∧ (p2 = (8 : Int32) → (∃ b68 : Nat, r10 = some b68 ∧ (sK σ2 b68 = 8 ∧ (∀ y71 : Int64, y71 = sJ σ2 b68 6 → (wp_X11_leadOf y71 σ2 (fun (x74 : Int32) (σ73 : Sto) => Q x74 σ73)))))) ∧ (p2 = (9 : Int32) → (∃ b75 : Nat, r10 = some b75 ∧ (sK σ2 b75 = 8 ∧ (∀ y78 : Int64, y78 = sJ σ2 b75 6 → (wp_X11_sessionOf y78 σ2 (fun (x81 : Int32) (σ80 : Sto) => Q x81 σ80)))))) ∧ (p2 = (10 : Int32) → (∃ b82 : Nat, r10 = some b82 ∧ (sK σ2 b82 = 8 ∧ (∀ x85 : Int32, x85 = sI σ2 b82 9 → Q x85 σ2))))))))))) ∧ (x3 = 0 → Q (-1 : Int32) σ2)))))
set_option maxHeartbeats 4000000 in
set_option maxRecDepth 100000 in
theorem c_X11_replica (l : Launch) (D : va_G) (cy : Nat → ClassId) (a0 : Nat) (p1 : Int32) (p2 : Int32) (σ : Sto) (Q : Int32 → Sto → Prop) (h : wp_X11_replica a0 p1 p2 σ Q) : Mt l D cy yX11_replica cX11_replica 4 (some .int) rm_X11_replica [.ref a0, .int p1, .int p2] σ (PsI Q) := by
  unfold wp_X11_replica at h
  refine mt_of (by decide +kernel) (Nat.le_of_ble_eq_true rfl) ?_
  intro p e s m args below meth c A ls C hr hnm hl
  have C : Cx p s m args meth c D cy A cX11_replica 4 RX11 := C
  have hl : lv_has ls 4 [(0, .ref a0), (1, .int p1), (2, .int p2)] := hl
  refine x_aload_n C dX11_replica_0 rfl (lv_at hl 0 rfl) ?_
  refine x_iload_n C dX11_replica_1 rfl (lv_at hl 1 rfl) ?_
  obtain ⟨g1, h⟩ := h
  refine x_callV (rm := rm_X11_isReplica) (rest := []) (As := [.int p1]) C cy_RX11_151 g1 (by decide) (by decide) rfl rfl (Nat.le_of_ble_eq_true rfl) hl.1 dX11_replica_2 (c_X11_isReplica l D cy a0 p1 σ _ h) (ks_i (fun x3 σ2 h => ?_))
  refine x_if_ne (tgt := 10) C dX11_replica_5 (by decide) (fun c4 => ?_) (fun c4 => ?_)
  · have h := h.1 c4
    refine x_aload_n C dX11_replica_10 rfl (lv_at hl 0 rfl) ?_
    obtain ⟨g5, h⟩ := h
    refine x_getP C fl_RX11_40 g5 dX11_replica_11 ?_
    refine x_iload_n C dX11_replica_14 rfl (lv_at hl 1 rfl) ?_
    obtain ⟨b6, g7, h⟩ := h
    refine x_nn1 g7 ?_
    obtain ⟨g8, h⟩ := h
    obtain ⟨g9, h⟩ := h
    refine x_aald C rak_21 g8 g9 dX11_replica_15 ?_
    refine x_topq (fun r10 e11 => ?_)
    have h := h r10 e11
    refine x_astore_nq (i := 3) (lv' := [(3, va_rf r10), (0, .ref a0), (1, .int p1), (2, .int p2)]) C dX11_replica_16 rfl hl (by decide) (by first | rfl | simp [vrc, cat_i, cat_r, cat_l]) (fun ls hl => ?_)
    refine x_iload_n C dX11_replica_17 rfl (lv_at hl 3 rfl) ?_
    by_cases c12 : p2.toInt < 0 ∨ 10 < p2.toInt
    · have h := h.1 c12
      refine x_tableOut (tgt := 160) C dX11_replica_18 c12 (by decide) ?_
      refine x_iconst (v := -1) C dX11_replica_160 (by decide) ?_
      exact x_iret C hr dX11_replica_161 ⟨_, rfl, h⟩
    · rcases (show p2.toInt = 0 ∨ p2.toInt = 1 ∨ p2.toInt = 2 ∨ p2.toInt = 3 ∨ p2.toInt = 4 ∨ p2.toInt = 5 ∨ p2.toInt = 6 ∨ p2.toInt = 7 ∨ p2.toInt = 8 ∨ p2.toInt = 9 ∨ p2.toInt = 10 by omega) with c13 | c13 | c13 | c13 | c13 | c13 | c13 | c13 | c13 | c13 | c13
      · have h := h.2.1 (sw_eq (k := 0) (c13.trans (by decide)))
        refine x_tableIn (tgt := 76) (off := 58) C dX11_replica_18 (by omega) (by omega) (by rw [c13]; rfl) (by decide) ?_
        refine x_aload_nq C dX11_replica_76 rfl (lv_at hl 0 rfl) ?_
        obtain ⟨b14, g15, h⟩ := h
        refine x_nn0 g15 ?_
        obtain ⟨g16, h⟩ := h
        refine x_getZ C fl_RX11_156 g16 dX11_replica_77 ?_
        refine x_topi (fun x17 e18 => ?_)
        have h := h x17 e18
        refine x_if_eq (tgt := 87) C dX11_replica_80 (by decide) (fun c19 => ?_) (fun c19 => ?_)
        · have h := h.1 c19
          refine x_iconst (v := 0) C dX11_replica_87 (by decide) ?_
          exact x_iret C hr dX11_replica_88 ⟨_, rfl, h⟩
        · have h := h.2 c19
          refine x_iconst (v := 1) C dX11_replica_83 (by decide) ?_
          refine x_goto (tgt := 88) C dX11_replica_84 (by decide) ?_
          exact x_iret C hr dX11_replica_88 ⟨_, rfl, h⟩
      · have h := h.2.2.1 (sw_eq (k := 1) (c13.trans (by decide)))
        refine x_tableIn (tgt := 89) (off := 71) C dX11_replica_18 (by omega) (by omega) (by rw [c13]; rfl) (by decide) ?_
        refine x_aload_nq C dX11_replica_89 rfl (lv_at hl 0 rfl) ?_
        obtain ⟨b20, g21, h⟩ := h
        refine x_nn0 g21 ?_
        obtain ⟨g22, h⟩ := h
        refine x_getI C fl_RX11_200 g22 dX11_replica_90 ?_
        refine x_topi (fun x23 e24 => ?_)
        have h := h x23 e24
        exact x_iret C hr dX11_replica_93 ⟨_, rfl, h⟩
      · have h := h.2.2.2.1 (sw_eq (k := 2) (c13.trans (by decide)))
        refine x_tableIn (tgt := 94) (off := 76) C dX11_replica_18 (by omega) (by omega) (by rw [c13]; rfl) (by decide) ?_
        refine x_aload_nq C dX11_replica_94 rfl (lv_at hl 0 rfl) ?_
        obtain ⟨b25, g26, h⟩ := h
        refine x_nn0 g26 ?_
        obtain ⟨g27, h⟩ := h
        refine x_getJ C fl_RX11_222 g27 dX11_replica_95 ?_
        refine x_topj (fun y28 e29 => ?_)
        have h := h y28 e29
        refine x_callS (rm := rm_X11_leadOf) (rest := []) (As := [.long y28]) C cs_RX11_226 (by decide) (by decide) rfl rfl (Nat.le_of_ble_eq_true rfl) hl.1 dX11_replica_98 (c_X11_leadOf l D cy y28 σ2 _ h) (ks_i (fun x31 σ30 h => ?_))
        exact x_iret C hr dX11_replica_101 ⟨_, rfl, h⟩
      · have h := h.2.2.2.2.1 (sw_eq (k := 3) (c13.trans (by decide)))
        refine x_tableIn (tgt := 102) (off := 84) C dX11_replica_18 (by omega) (by omega) (by rw [c13]; rfl) (by decide) ?_
        refine x_aload_nq C dX11_replica_102 rfl (lv_at hl 0 rfl) ?_
        obtain ⟨b32, g33, h⟩ := h
        refine x_nn0 g33 ?_
        obtain ⟨g34, h⟩ := h
        refine x_getJ C fl_RX11_222 g34 dX11_replica_103 ?_
        refine x_topj (fun y35 e36 => ?_)
        have h := h y35 e36
        refine x_callS (rm := rm_X11_sessionOf) (rest := []) (As := [.long y35]) C cs_RX11_230 (by decide) (by decide) rfl rfl (Nat.le_of_ble_eq_true rfl) hl.1 dX11_replica_106 (c_X11_sessionOf l D cy y35 σ2 _ h) (ks_i (fun x38 σ37 h => ?_))
        exact x_iret C hr dX11_replica_109 ⟨_, rfl, h⟩
      · have h := h.2.2.2.2.2.1 (sw_eq (k := 4) (c13.trans (by decide)))
        refine x_tableIn (tgt := 110) (off := 92) C dX11_replica_18 (by omega) (by omega) (by rw [c13]; rfl) (by decide) ?_
        refine x_aload_nq C dX11_replica_110 rfl (lv_at hl 0 rfl) ?_
        obtain ⟨b39, g40, h⟩ := h
        refine x_nn0 g40 ?_
        obtain ⟨g41, h⟩ := h
        refine x_getP C fl_RX11_233 g41 dX11_replica_111 ?_
        obtain ⟨b42, g43, h⟩ := h
        refine x_nn0 g43 ?_
        obtain ⟨g44, h⟩ := h
        refine x_getI C fl_RX11_237 g44 dX11_replica_114 ?_
        refine x_topi (fun x45 e46 => ?_)
        have h := h x45 e46
        exact x_iret C hr dX11_replica_117 ⟨_, rfl, h⟩
      · have h := h.2.2.2.2.2.2.1 (sw_eq (k := 5) (c13.trans (by decide)))
        refine x_tableIn (tgt := 118) (off := 100) C dX11_replica_18 (by omega) (by omega) (by rw [c13]; rfl) (by decide) ?_
        refine x_aload_nq C dX11_replica_118 rfl (lv_at hl 0 rfl) ?_
        obtain ⟨b47, g48, h⟩ := h
        refine x_nn0 g48 ?_
        obtain ⟨g49, h⟩ := h
        refine x_getP C fl_RX11_233 g49 dX11_replica_119 ?_
        obtain ⟨b50, g51, h⟩ := h
        refine x_nn0 g51 ?_
        obtain ⟨g52, h⟩ := h
        refine x_getI C fl_RX11_242 g52 dX11_replica_122 ?_
        refine x_topi (fun x53 e54 => ?_)
        have h := h x53 e54
        exact x_iret C hr dX11_replica_125 ⟨_, rfl, h⟩
      · have h := h.2.2.2.2.2.2.2.1 (sw_eq (k := 6) (c13.trans (by decide)))
        refine x_tableIn (tgt := 126) (off := 108) C dX11_replica_18 (by omega) (by omega) (by rw [c13]; rfl) (by decide) ?_
        refine x_aload_nq C dX11_replica_126 rfl (lv_at hl 0 rfl) ?_
        obtain ⟨b55, g56, h⟩ := h
        refine x_nn0 g56 ?_
        obtain ⟨g57, h⟩ := h
        refine x_getI C fl_RX11_245 g57 dX11_replica_127 ?_
        refine x_topi (fun x58 e59 => ?_)
        have h := h x58 e59
        exact x_iret C hr dX11_replica_130 ⟨_, rfl, h⟩
      · have h := h.2.2.2.2.2.2.2.2.1 (sw_eq (k := 7) (c13.trans (by decide)))
        refine x_tableIn (tgt := 131) (off := 113) C dX11_replica_18 (by omega) (by omega) (by rw [c13]; rfl) (by decide) ?_
        refine x_aload_nq C dX11_replica_131 rfl (lv_at hl 0 rfl) ?_
        obtain ⟨b60, g61, h⟩ := h
        refine x_nn0 g61 ?_
        obtain ⟨g62, h⟩ := h
        refine x_getP C fl_RX11_168 g62 dX11_replica_132 ?_
        obtain ⟨b63, g64, h⟩ := h
        refine x_nn0 g64 ?_
        obtain ⟨g65, h⟩ := h
        refine x_getI C fl_RX11_248 g65 dX11_replica_135 ?_
        refine x_topi (fun x66 e67 => ?_)
        have h := h x66 e67
        exact x_iret C hr dX11_replica_138 ⟨_, rfl, h⟩
      · have h := h.2.2.2.2.2.2.2.2.2.1 (sw_eq (k := 8) (c13.trans (by decide)))
        refine x_tableIn (tgt := 139) (off := 121) C dX11_replica_18 (by omega) (by omega) (by rw [c13]; rfl) (by decide) ?_
        refine x_aload_nq C dX11_replica_139 rfl (lv_at hl 0 rfl) ?_
        obtain ⟨b68, g69, h⟩ := h
        refine x_nn0 g69 ?_
        obtain ⟨g70, h⟩ := h
        refine x_getJ C fl_RX11_251 g70 dX11_replica_140 ?_
        refine x_topj (fun y71 e72 => ?_)
        have h := h y71 e72
        refine x_callS (rm := rm_X11_leadOf) (rest := []) (As := [.long y71]) C cs_RX11_226 (by decide) (by decide) rfl rfl (Nat.le_of_ble_eq_true rfl) hl.1 dX11_replica_143 (c_X11_leadOf l D cy y71 σ2 _ h) (ks_i (fun x74 σ73 h => ?_))
        exact x_iret C hr dX11_replica_146 ⟨_, rfl, h⟩
      · have h := h.2.2.2.2.2.2.2.2.2.2.1 (sw_eq (k := 9) (c13.trans (by decide)))
        refine x_tableIn (tgt := 147) (off := 129) C dX11_replica_18 (by omega) (by omega) (by rw [c13]; rfl) (by decide) ?_
        refine x_aload_nq C dX11_replica_147 rfl (lv_at hl 0 rfl) ?_
        obtain ⟨b75, g76, h⟩ := h
        refine x_nn0 g76 ?_
        obtain ⟨g77, h⟩ := h
        refine x_getJ C fl_RX11_251 g77 dX11_replica_148 ?_
        refine x_topj (fun y78 e79 => ?_)
        have h := h y78 e79
        refine x_callS (rm := rm_X11_sessionOf) (rest := []) (As := [.long y78]) C cs_RX11_230 (by decide) (by decide) rfl rfl (Nat.le_of_ble_eq_true rfl) hl.1 dX11_replica_151 (c_X11_sessionOf l D cy y78 σ2 _ h) (ks_i (fun x81 σ80 h => ?_))
        exact x_iret C hr dX11_replica_154 ⟨_, rfl, h⟩
      · have h := h.2.2.2.2.2.2.2.2.2.2.2 (sw_eq (k := 10) (c13.trans (by decide)))
        refine x_tableIn (tgt := 155) (off := 137) C dX11_replica_18 (by omega) (by omega) (by rw [c13]; rfl) (by decide) ?_
        refine x_aload_nq C dX11_replica_155 rfl (lv_at hl 0 rfl) ?_
        obtain ⟨b82, g83, h⟩ := h
        refine x_nn0 g83 ?_
        obtain ⟨g84, h⟩ := h
        refine x_getI C fl_RX11_254 g84 dX11_replica_156 ?_
        refine x_topi (fun x85 e86 => ?_)
        have h := h x85 e86
        exact x_iret C hr dX11_replica_159 ⟨_, rfl, h⟩
  · have h := h.2 c4
    refine x_iconst (v := -1) C dX11_replica_8 (by decide) ?_
    exact x_iret C hr dX11_replica_9 ⟨_, rfl, h⟩
theorem dX11_entry_0 : decode cX11_entry 0 = .ok (.aload_n 0, 1) := by decide +kernel
theorem dX11_entry_1 : decode cX11_entry 1 = .ok (.iload_n 1, 1) := by decide +kernel
theorem dX11_entry_2 : decode cX11_entry 2 = .ok (.invokevirtual 151, 3) := by decide +kernel
theorem dX11_entry_5 : decode cX11_entry 5 = .ok (.ifCond .eq 23, 3) := by decide +kernel
theorem dX11_entry_8 : decode cX11_entry 8 = .ok (.aload_n 0, 1) := by decide +kernel
theorem dX11_entry_9 : decode cX11_entry 9 = .ok (.getfield 40, 3) := by decide +kernel
theorem dX11_entry_12 : decode cX11_entry 12 = .ok (.iload_n 1, 1) := by decide +kernel
theorem dX11_entry_13 : decode cX11_entry 13 = .ok (.aaload, 1) := by decide +kernel
theorem dX11_entry_14 : decode cX11_entry 14 = .ok (.getfield 233, 3) := by decide +kernel
theorem dX11_entry_17 : decode cX11_entry 17 = .ok (.iload_n 2, 1) := by decide +kernel
theorem dX11_entry_18 : decode cX11_entry 18 = .ok (.invokevirtual 257, 3) := by decide +kernel
theorem dX11_entry_21 : decode cX11_entry 21 = .ok (.ifCond .eq 7, 3) := by decide +kernel
theorem dX11_entry_24 : decode cX11_entry 24 = .ok (.iconst 1, 1) := by decide +kernel
theorem dX11_entry_25 : decode cX11_entry 25 = .ok (.goto 4, 3) := by decide +kernel
theorem dX11_entry_28 : decode cX11_entry 28 = .ok (.iconst 0, 1) := by decide +kernel
theorem dX11_entry_29 : decode cX11_entry 29 = .ok (.istore 4, 2) := by decide +kernel
theorem dX11_entry_31 : decode cX11_entry 31 = .ok (.iload 4, 2) := by decide +kernel
theorem dX11_entry_33 : decode cX11_entry 33 = .ok (.ifCond .eq 19, 3) := by decide +kernel
theorem dX11_entry_36 : decode cX11_entry 36 = .ok (.aload_n 0, 1) := by decide +kernel
theorem dX11_entry_37 : decode cX11_entry 37 = .ok (.getfield 40, 3) := by decide +kernel
theorem dX11_entry_40 : decode cX11_entry 40 = .ok (.iload_n 1, 1) := by decide +kernel
theorem dX11_entry_41 : decode cX11_entry 41 = .ok (.aaload, 1) := by decide +kernel
theorem dX11_entry_42 : decode cX11_entry 42 = .ok (.getfield 233, 3) := by decide +kernel
theorem dX11_entry_45 : decode cX11_entry 45 = .ok (.iload_n 2, 1) := by decide +kernel
theorem dX11_entry_46 : decode cX11_entry 46 = .ok (.invokevirtual 260, 3) := by decide +kernel
theorem dX11_entry_49 : decode cX11_entry 49 = .ok (.goto 4, 3) := by decide +kernel
theorem dX11_entry_52 : decode cX11_entry 52 = .ok (.aconst_null, 1) := by decide +kernel
theorem dX11_entry_53 : decode cX11_entry 53 = .ok (.astore 5, 2) := by decide +kernel
theorem dX11_entry_55 : decode cX11_entry 55 = .ok (.iload_n 3, 1) := by decide +kernel
theorem dX11_entry_56 : decode cX11_entry 56 = .ok (.iconst 5, 1) := by decide +kernel
theorem dX11_entry_57 : decode cX11_entry 57 = .ok (.if_icmp .ne 18, 3) := by decide +kernel
theorem dX11_entry_60 : decode cX11_entry 60 = .ok (.aload 5, 2) := by decide +kernel
theorem dX11_entry_62 : decode cX11_entry 62 = .ok (.ifnonnull 7, 3) := by decide +kernel
theorem dX11_entry_65 : decode cX11_entry 65 = .ok (.iconst 0, 1) := by decide +kernel
theorem dX11_entry_66 : decode cX11_entry 66 = .ok (.goto 8, 3) := by decide +kernel
theorem dX11_entry_69 : decode cX11_entry 69 = .ok (.aload 5, 2) := by decide +kernel
theorem dX11_entry_71 : decode cX11_entry 71 = .ok (.getfield 264, 3) := by decide +kernel
theorem dX11_entry_74 : decode cX11_entry 74 = .ok (.ireturn, 1) := by decide +kernel
theorem dX11_entry_75 : decode cX11_entry 75 = .ok (.iload_n 3, 1) := by decide +kernel
theorem dX11_entry_76 : decode cX11_entry 76 = .ok (.ifCond .ne 19, 3) := by decide +kernel
theorem dX11_entry_79 : decode cX11_entry 79 = .ok (.iload 4, 2) := by decide +kernel
theorem dX11_entry_81 : decode cX11_entry 81 = .ok (.ifCond .eq 14, 3) := by decide +kernel
theorem dX11_entry_84 : decode cX11_entry 84 = .ok (.aload 5, 2) := by decide +kernel
theorem dX11_entry_86 : decode cX11_entry 86 = .ok (.ifnonnull 7, 3) := by decide +kernel
theorem dX11_entry_89 : decode cX11_entry 89 = .ok (.iconst 0, 1) := by decide +kernel
theorem dX11_entry_90 : decode cX11_entry 90 = .ok (.goto 4, 3) := by decide +kernel
theorem dX11_entry_93 : decode cX11_entry 93 = .ok (.iconst 1, 1) := by decide +kernel
theorem dX11_entry_94 : decode cX11_entry 94 = .ok (.ireturn, 1) := by decide +kernel
theorem dX11_entry_95 : decode cX11_entry 95 = .ok (.aload 5, 2) := by decide +kernel
theorem dX11_entry_97 : decode cX11_entry 97 = .ok (.ifnonnull 5, 3) := by decide +kernel
theorem dX11_entry_100 : decode cX11_entry 100 = .ok (.iconst (-1), 1) := by decide +kernel
theorem dX11_entry_101 : decode cX11_entry 101 = .ok (.ireturn, 1) := by decide +kernel
theorem dX11_entry_102 : decode cX11_entry 102 = .ok (.iload_n 3, 1) := by decide +kernel
theorem dX11_entry_103 : decode cX11_entry 103 = .ok (.tableswitch 53 1 4 #[29, 35, 41, 47], 29) := by decide +kernel
theorem dX11_entry_132 : decode cX11_entry 132 = .ok (.aload 5, 2) := by decide +kernel
theorem dX11_entry_134 : decode cX11_entry 134 = .ok (.getfield 267, 3) := by decide +kernel
theorem dX11_entry_137 : decode cX11_entry 137 = .ok (.ireturn, 1) := by decide +kernel
theorem dX11_entry_138 : decode cX11_entry 138 = .ok (.aload 5, 2) := by decide +kernel
theorem dX11_entry_140 : decode cX11_entry 140 = .ok (.getfield 270, 3) := by decide +kernel
theorem dX11_entry_143 : decode cX11_entry 143 = .ok (.ireturn, 1) := by decide +kernel
theorem dX11_entry_144 : decode cX11_entry 144 = .ok (.aload 5, 2) := by decide +kernel
theorem dX11_entry_146 : decode cX11_entry 146 = .ok (.getfield 273, 3) := by decide +kernel
theorem dX11_entry_149 : decode cX11_entry 149 = .ok (.ireturn, 1) := by decide +kernel
theorem dX11_entry_150 : decode cX11_entry 150 = .ok (.aload 5, 2) := by decide +kernel
theorem dX11_entry_152 : decode cX11_entry 152 = .ok (.getfield 276, 3) := by decide +kernel
theorem dX11_entry_155 : decode cX11_entry 155 = .ok (.ireturn, 1) := by decide +kernel
theorem dX11_entry_156 : decode cX11_entry 156 = .ok (.iconst (-1), 1) := by decide +kernel
theorem dX11_entry_157 : decode cX11_entry 157 = .ok (.ireturn, 1) := by decide +kernel
abbrev rm_X11_entry : Room := { frames := 2, cells := 0, slots := 0, locals := 42 }
def b_X11_entry_95 (a0 : Nat)  (Q : Int32 → Sto → Prop) (p3 : Int32) (p5 : Option Nat) (σ : Sto) : Prop := ((p5 = none → Q (-1 : Int32) σ) ∧ (∀ b2 : Nat, p5 = some b2 → ((p3.toInt < 1 ∨ 4 < p3.toInt → Q (-1 : Int32) σ) ∧ (p3 = (1 : Int32) → (sK σ b2 = 9 ∧ (∀ x7 : Int32, x7 = sI σ b2 0 → Q x7 σ))) ∧ (p3 = (2 : Int32) → (sK σ b2 = 9 ∧ (∀ x10 : Int32, x10 = sI σ b2 1 → Q x10 σ))) ∧ (p3 = (3 : Int32) → (sK σ b2 = 9 ∧ (∀ x13 : Int32, x13 = sI σ b2 2 → Q x13 σ))) ∧ (p3 = (4 : Int32) → (sK σ b2 = 9 ∧ (∀ x16 : Int32, x16 = sI σ b2 3 → Q x16 σ))))))
set_option maxHeartbeats 4000000 in
set_option maxRecDepth 100000 in
theorem t_X11_entry_95 {p : Program} {l : Launch} {e : Env} {s : State} {m : MethodId} {args : Array Value} {below : List Frame} {meth : Method} {c : Code} {D : va_G} {cy : Nat → ClassId} {A : Nat → Prop} {a0 : Nat} {Q : Int32 → Sto → Prop} (C : Cx p s m args meth c D cy A cX11_entry 6 RX11) (hr : meth.sig.returnType = (some .int)) (hnm : meth.name = yX11_entry.name) (p3 : Int32) (p5 : Option Nat) (σ : Sto) (h : b_X11_entry_95 a0  Q p3 p5 σ) (ls : Array Slot) (hl : lv_has ls 6 [(3, .int p3), (5, va_rf p5)]) : Xw p l e rm_X11_entry s m args below meth c D cy A σ 0 0 (MQ below (Qst D cy A (PsI Q)) args s rm_X11_entry.cells rm_X11_entry.slots A) (F0 m 95 ls []) := by
  unfold b_X11_entry_95 at h
  refine x_aloadq C dX11_entry_95 (lv_at hl 1 rfl) ?_
  refine x_ifnonnull (tgt := 102) C dX11_entry_97 (by decide) (fun c1 => ?_) (fun c1 => ?_)
  · obtain ⟨b2, g3⟩ := Option.ne_none_iff_exists'.mp c1
    have h := h.2 b2 g3
    refine x_iload_n C dX11_entry_102 rfl (lv_at hl 0 rfl) ?_
    by_cases c4 : p3.toInt < 1 ∨ 4 < p3.toInt
    · have h := h.1 c4
      refine x_tableOut (tgt := 156) C dX11_entry_103 c4 (by decide) ?_
      refine x_iconst (v := -1) C dX11_entry_156 (by decide) ?_
      exact x_iret C hr dX11_entry_157 ⟨_, rfl, h⟩
    · rcases (show p3.toInt = 1 ∨ p3.toInt = 2 ∨ p3.toInt = 3 ∨ p3.toInt = 4 by omega) with c5 | c5 | c5 | c5
      · have h := h.2.1 (sw_eq (k := 1) (c5.trans (by decide)))
        refine x_tableIn (tgt := 132) (off := 29) C dX11_entry_103 (by omega) (by omega) (by rw [c5]; rfl) (by decide) ?_
        refine x_aloadq C dX11_entry_132 (lv_at hl 1 rfl) ?_
        refine x_nn0 g3 ?_
        obtain ⟨g6, h⟩ := h
        refine x_getI C fl_RX11_267 g6 dX11_entry_134 ?_
        refine x_topi (fun x7 e8 => ?_)
        have h := h x7 e8
        exact x_iret C hr dX11_entry_137 ⟨_, rfl, h⟩
      · have h := h.2.2.1 (sw_eq (k := 2) (c5.trans (by decide)))
        refine x_tableIn (tgt := 138) (off := 35) C dX11_entry_103 (by omega) (by omega) (by rw [c5]; rfl) (by decide) ?_
        refine x_aloadq C dX11_entry_138 (lv_at hl 1 rfl) ?_
        refine x_nn0 g3 ?_
        obtain ⟨g9, h⟩ := h
        refine x_getI C fl_RX11_270 g9 dX11_entry_140 ?_
        refine x_topi (fun x10 e11 => ?_)
        have h := h x10 e11
        exact x_iret C hr dX11_entry_143 ⟨_, rfl, h⟩
      · have h := h.2.2.2.1 (sw_eq (k := 3) (c5.trans (by decide)))
        refine x_tableIn (tgt := 144) (off := 41) C dX11_entry_103 (by omega) (by omega) (by rw [c5]; rfl) (by decide) ?_
        refine x_aloadq C dX11_entry_144 (lv_at hl 1 rfl) ?_
        refine x_nn0 g3 ?_
        obtain ⟨g12, h⟩ := h
        refine x_getI C fl_RX11_273 g12 dX11_entry_146 ?_
        refine x_topi (fun x13 e14 => ?_)
        have h := h x13 e14
        exact x_iret C hr dX11_entry_149 ⟨_, rfl, h⟩
      · have h := h.2.2.2.2 (sw_eq (k := 4) (c5.trans (by decide)))
        refine x_tableIn (tgt := 150) (off := 47) C dX11_entry_103 (by omega) (by omega) (by rw [c5]; rfl) (by decide) ?_
        refine x_aloadq C dX11_entry_150 (lv_at hl 1 rfl) ?_
        refine x_nn0 g3 ?_
        obtain ⟨g15, h⟩ := h
        refine x_getI C fl_RX11_276 g15 dX11_entry_152 ?_
        refine x_topi (fun x16 e17 => ?_)
        have h := h x16 e17
        exact x_iret C hr dX11_entry_155 ⟨_, rfl, h⟩
  · have h := h.1 c1
    refine x_iconst (v := -1) C dX11_entry_100 (by decide) ?_
    exact x_iret C hr dX11_entry_101 ⟨_, rfl, h⟩
def b_X11_entry_53 (a0 : Nat)  (Q : Int32 → Sto → Prop) (p3 : Int32) (p4 : Int32) (s0 : Option Nat) (σ : Sto) : Prop := ((¬ p3 = (5 : Int32) → ((¬ p3 = 0 → b_X11_entry_95 a0  Q p3 s0 σ) ∧ (p3 = 0 → ((p4 = 0 → b_X11_entry_95 a0  Q p3 s0 σ) ∧ (¬ p4 = 0 → ((s0 = none → Q (0 : Int32) σ) ∧ (∀ b5 : Nat, s0 = some b5 → Q (1 : Int32) σ))))))) ∧ (p3 = (5 : Int32) → ((s0 = none → Q (0 : Int32) σ) ∧ (∀ b8 : Nat, s0 = some b8 → (sK σ b8 = 9 ∧ (∀ x11 : Int32, x11 = sI σ b8 4 → Q x11 σ))))))
set_option maxHeartbeats 4000000 in
set_option maxRecDepth 100000 in
theorem t_X11_entry_53 {p : Program} {l : Launch} {e : Env} {s : State} {m : MethodId} {args : Array Value} {below : List Frame} {meth : Method} {c : Code} {D : va_G} {cy : Nat → ClassId} {A : Nat → Prop} {a0 : Nat} {Q : Int32 → Sto → Prop} (C : Cx p s m args meth c D cy A cX11_entry 6 RX11) (hr : meth.sig.returnType = (some .int)) (hnm : meth.name = yX11_entry.name) (p3 : Int32) (p4 : Int32) (s0 : Option Nat) (σ : Sto) (h : b_X11_entry_53 a0  Q p3 p4 s0 σ) (ls : Array Slot) (hl : lv_has ls 6 [(3, .int p3), (4, .int p4)]) : Xw p l e rm_X11_entry s m args below meth c D cy A σ 0 0 (MQ below (Qst D cy A (PsI Q)) args s rm_X11_entry.cells rm_X11_entry.slots A) (F0 m 53 ls [va_rf s0]) := by
  unfold b_X11_entry_53 at h
  refine x_astoreq (i := 5) (lv' := [(5, va_rf s0), (3, .int p3), (4, .int p4)]) C dX11_entry_53 hl (by decide) (by first | rfl | simp [vrc, cat_i, cat_r, cat_l]) (fun ls hl => ?_)
  refine x_iload_n C dX11_entry_55 rfl (lv_at hl 1 rfl) ?_
  refine x_iconst (v := 5) C dX11_entry_56 (by decide) ?_
  refine x_icmp_ne (tgt := 75) C dX11_entry_57 (by decide) (fun c1 => ?_) (fun c1 => ?_)
  · have h := h.1 c1
    refine x_iload_n C dX11_entry_75 rfl (lv_at hl 1 rfl) ?_
    refine x_if_ne (tgt := 95) C dX11_entry_76 (by decide) (fun c2 => ?_) (fun c2 => ?_)
    · have h := h.1 c2
      exact t_X11_entry_95 C hr hnm  p3 s0 _ h ls (lv_sub hl [1, 0] rfl)
    · have h := h.2 c2
      refine x_iload C dX11_entry_79 (lv_at hl 2 rfl) ?_
      refine x_if_eq (tgt := 95) C dX11_entry_81 (by decide) (fun c3 => ?_) (fun c3 => ?_)
      · have h := h.1 c3
        exact t_X11_entry_95 C hr hnm  p3 s0 _ h ls (lv_sub hl [1, 0] rfl)
      · have h := h.2 c3
        refine x_aloadq C dX11_entry_84 (lv_at hl 0 rfl) ?_
        refine x_ifnonnull (tgt := 93) C dX11_entry_86 (by decide) (fun c4 => ?_) (fun c4 => ?_)
        · obtain ⟨b5, g6⟩ := Option.ne_none_iff_exists'.mp c4
          have h := h.2 b5 g6
          refine x_iconst (v := 1) C dX11_entry_93 (by decide) ?_
          exact x_iret C hr dX11_entry_94 ⟨_, rfl, h⟩
        · have h := h.1 c4
          refine x_iconst (v := 0) C dX11_entry_89 (by decide) ?_
          refine x_goto (tgt := 94) C dX11_entry_90 (by decide) ?_
          exact x_iret C hr dX11_entry_94 ⟨_, rfl, h⟩
  · have h := h.2 c1
    refine x_aloadq C dX11_entry_60 (lv_at hl 0 rfl) ?_
    refine x_ifnonnull (tgt := 69) C dX11_entry_62 (by decide) (fun c7 => ?_) (fun c7 => ?_)
    · obtain ⟨b8, g9⟩ := Option.ne_none_iff_exists'.mp c7
      have h := h.2 b8 g9
      refine x_aloadq C dX11_entry_69 (lv_at hl 0 rfl) ?_
      refine x_nn0 g9 ?_
      obtain ⟨g10, h⟩ := h
      refine x_getI C fl_RX11_264 g10 dX11_entry_71 ?_
      refine x_topi (fun x11 e12 => ?_)
      have h := h x11 e12
      exact x_iret C hr dX11_entry_74 ⟨_, rfl, h⟩
    · have h := h.1 c7
      refine x_iconst (v := 0) C dX11_entry_65 (by decide) ?_
      refine x_goto (tgt := 74) C dX11_entry_66 (by decide) ?_
      exact x_iret C hr dX11_entry_74 ⟨_, rfl, h⟩
def b_X11_entry_29 (a0 : Nat)  (Q : Int32 → Sto → Prop) (p1 : Int32) (p2 : Int32) (p3 : Int32) (s0 : Int32) (σ : Sto) : Prop := ((s0 = 0 → b_X11_entry_53 a0  Q p3 s0 none σ) ∧ (¬ s0 = 0 → (sK σ a0 = 11 ∧ (∃ b3 : Nat, sP σ a0 3 = some b3 ∧ (sK σ b3 = 21 ∧ (vp_in p1 (sN σ b3) ∧ (∀ r7 : Option Nat, r7 = sP σ b3 p1.toNatClampNeg → (∃ b9 : Nat, r7 = some b9 ∧ (sK σ b9 = 8 ∧ (∃ b12 : Nat, sP σ b9 7 = some b12 ∧ (sK σ b12 = 2 ∧ (wp_X2_at b12 p2 σ (fun (r16 : Option Nat) (σ15 : Sto) => b_X11_entry_53 a0  Q p3 s0 r16 σ15)))))))))))))
set_option maxHeartbeats 4000000 in
set_option maxRecDepth 100000 in
theorem t_X11_entry_29 {p : Program} {l : Launch} {e : Env} {s : State} {m : MethodId} {args : Array Value} {below : List Frame} {meth : Method} {c : Code} {D : va_G} {cy : Nat → ClassId} {A : Nat → Prop} {a0 : Nat} {Q : Int32 → Sto → Prop} (C : Cx p s m args meth c D cy A cX11_entry 6 RX11) (hr : meth.sig.returnType = (some .int)) (hnm : meth.name = yX11_entry.name) (p1 : Int32) (p2 : Int32) (p3 : Int32) (s0 : Int32) (σ : Sto) (h : b_X11_entry_29 a0  Q p1 p2 p3 s0 σ) (ls : Array Slot) (hl : lv_has ls 6 [(0, .ref a0), (1, .int p1), (2, .int p2), (3, .int p3)]) : Xw p l e rm_X11_entry s m args below meth c D cy A σ 0 0 (MQ below (Qst D cy A (PsI Q)) args s rm_X11_entry.cells rm_X11_entry.slots A) (F0 m 29 ls [.int s0]) := by
  unfold b_X11_entry_29 at h
  refine x_istore (i := 4) (lv' := [(4, .int s0), (0, .ref a0), (1, .int p1), (2, .int p2), (3, .int p3)]) C dX11_entry_29 hl (by decide) (by first | rfl | simp [vrc, cat_i, cat_r, cat_l]) (fun ls hl => ?_)
  refine x_iload C dX11_entry_31 (lv_at hl 0 rfl) ?_
  refine x_if_eq (tgt := 52) C dX11_entry_33 (by decide) (fun c1 => ?_) (fun c1 => ?_)
  · have h := h.1 c1
    refine x_null C dX11_entry_52 ?_
    exact t_X11_entry_53 C hr hnm  p3 s0 none _ h ls (lv_sub hl [4, 0] rfl)
  · have h := h.2 c1
    refine x_aload_n C dX11_entry_36 rfl (lv_at hl 1 rfl) ?_
    obtain ⟨g2, h⟩ := h
    refine x_getP C fl_RX11_40 g2 dX11_entry_37 ?_
    refine x_iload_n C dX11_entry_40 rfl (lv_at hl 2 rfl) ?_
    obtain ⟨b3, g4, h⟩ := h
    refine x_nn1 g4 ?_
    obtain ⟨g5, h⟩ := h
    obtain ⟨g6, h⟩ := h
    refine x_aald C rak_21 g5 g6 dX11_entry_41 ?_
    refine x_topq (fun r7 e8 => ?_)
    have h := h r7 e8
    obtain ⟨b9, g10, h⟩ := h
    refine x_nn0 g10 ?_
    obtain ⟨g11, h⟩ := h
    refine x_getP C fl_RX11_233 g11 dX11_entry_42 ?_
    refine x_iload_n C dX11_entry_45 rfl (lv_at hl 3 rfl) ?_
    obtain ⟨b12, g13, h⟩ := h
    refine x_nn1 g13 ?_
    obtain ⟨g14, h⟩ := h
    refine x_callV (rm := rm_X2_at) (rest := []) (As := [.int p2]) C cy_RX11_260 g14 (by decide) (by decide) rfl rfl (Nat.le_of_ble_eq_true rfl) hl.1 dX11_entry_46 (c_X2_at l D cy b12 p2 σ _ h) (ks_p (fun r16 σ15 h => ?_))
    refine x_goto (tgt := 53) C dX11_entry_49 (by decide) ?_
    exact t_X11_entry_53 C hr hnm  p3 s0 r16 _ h ls (lv_sub hl [4, 0] rfl)
def b_X11_entry_28 (a0 : Nat)  (Q : Int32 → Sto → Prop) (p1 : Int32) (p2 : Int32) (p3 : Int32) (σ : Sto) : Prop := b_X11_entry_29 a0  Q p1 p2 p3 (0 : Int32) σ
set_option maxHeartbeats 4000000 in
set_option maxRecDepth 100000 in
theorem t_X11_entry_28 {p : Program} {l : Launch} {e : Env} {s : State} {m : MethodId} {args : Array Value} {below : List Frame} {meth : Method} {c : Code} {D : va_G} {cy : Nat → ClassId} {A : Nat → Prop} {a0 : Nat} {Q : Int32 → Sto → Prop} (C : Cx p s m args meth c D cy A cX11_entry 6 RX11) (hr : meth.sig.returnType = (some .int)) (hnm : meth.name = yX11_entry.name) (p1 : Int32) (p2 : Int32) (p3 : Int32) (σ : Sto) (h : b_X11_entry_28 a0  Q p1 p2 p3 σ) (ls : Array Slot) (hl : lv_has ls 6 [(0, .ref a0), (1, .int p1), (2, .int p2), (3, .int p3)]) : Xw p l e rm_X11_entry s m args below meth c D cy A σ 0 0 (MQ below (Qst D cy A (PsI Q)) args s rm_X11_entry.cells rm_X11_entry.slots A) (F0 m 28 ls []) := by
  unfold b_X11_entry_28 at h
  refine x_iconst (v := 0) C dX11_entry_28 (by decide) ?_
  exact t_X11_entry_29 C hr hnm  p1 p2 p3 (0 : Int32) _ h ls (lv_sub hl [0, 1, 2, 3] rfl)
def wp_X11_entry (a0 : Nat) (p1 : Int32) (p2 : Int32) (p3 : Int32) (σ : Sto) (Q : Int32 → Sto → Prop) : Prop := (sK σ a0 = 11 ∧ (wp_X11_isReplica a0 p1 σ (fun (x3 : Int32) (σ2 : Sto) => ((x3 = 0 → b_X11_entry_28 a0  Q p1 p2 p3 σ2) ∧ (¬ x3 = 0 → (sK σ2 a0 = 11 ∧ (∃ b6 : Nat, sP σ2 a0 3 = some b6 ∧ (sK σ2 b6 = 21 ∧ (vp_in p1 (sN σ2 b6) ∧ (∀ r10 : Option Nat, r10 = sP σ2 b6 p1.toNatClampNeg → (∃ b12 : Nat, r10 = some b12 ∧ (sK σ2 b12 = 8 ∧ (∃ b15 : Nat, sP σ2 b12 7 = some b15 ∧ (sK σ2 b15 = 2 ∧ (wp_X2_has b15 p2 σ2 (fun (x19 : Int32) (σ18 : Sto) => ((x19 = 0 → b_X11_entry_28 a0  Q p1 p2 p3 σ18) ∧ (¬ x19 = 0 → b_X11_entry_29 a0  Q p1 p2 p3 (1 : Int32) σ18))))))))))))))))))
set_option maxHeartbeats 4000000 in
set_option maxRecDepth 100000 in
theorem c_X11_entry (l : Launch) (D : va_G) (cy : Nat → ClassId) (a0 : Nat) (p1 : Int32) (p2 : Int32) (p3 : Int32) (σ : Sto) (Q : Int32 → Sto → Prop) (h : wp_X11_entry a0 p1 p2 p3 σ Q) : Mt l D cy yX11_entry cX11_entry 6 (some .int) rm_X11_entry [.ref a0, .int p1, .int p2, .int p3] σ (PsI Q) := by
  unfold wp_X11_entry at h
  refine mt_of (by decide +kernel) (Nat.le_of_ble_eq_true rfl) ?_
  intro p e s m args below meth c A ls C hr hnm hl
  have C : Cx p s m args meth c D cy A cX11_entry 6 RX11 := C
  have hl : lv_has ls 6 [(0, .ref a0), (1, .int p1), (2, .int p2), (3, .int p3)] := hl
  refine x_aload_n C dX11_entry_0 rfl (lv_at hl 0 rfl) ?_
  refine x_iload_n C dX11_entry_1 rfl (lv_at hl 1 rfl) ?_
  obtain ⟨g1, h⟩ := h
  refine x_callV (rm := rm_X11_isReplica) (rest := []) (As := [.int p1]) C cy_RX11_151 g1 (by decide) (by decide) rfl rfl (Nat.le_of_ble_eq_true rfl) hl.1 dX11_entry_2 (c_X11_isReplica l D cy a0 p1 σ _ h) (ks_i (fun x3 σ2 h => ?_))
  refine x_if_eq (tgt := 28) C dX11_entry_5 (by decide) (fun c4 => ?_) (fun c4 => ?_)
  · have h := h.1 c4
    exact t_X11_entry_28 C hr hnm  p1 p2 p3 _ h ls (lv_sub hl [0, 1, 2, 3] rfl)
  · have h := h.2 c4
    refine x_aload_n C dX11_entry_8 rfl (lv_at hl 0 rfl) ?_
    obtain ⟨g5, h⟩ := h
    refine x_getP C fl_RX11_40 g5 dX11_entry_9 ?_
    refine x_iload_n C dX11_entry_12 rfl (lv_at hl 1 rfl) ?_
    obtain ⟨b6, g7, h⟩ := h
    refine x_nn1 g7 ?_
    obtain ⟨g8, h⟩ := h
    obtain ⟨g9, h⟩ := h
    refine x_aald C rak_21 g8 g9 dX11_entry_13 ?_
    refine x_topq (fun r10 e11 => ?_)
    have h := h r10 e11
    obtain ⟨b12, g13, h⟩ := h
    refine x_nn0 g13 ?_
    obtain ⟨g14, h⟩ := h
    refine x_getP C fl_RX11_233 g14 dX11_entry_14 ?_
    refine x_iload_n C dX11_entry_17 rfl (lv_at hl 2 rfl) ?_
    obtain ⟨b15, g16, h⟩ := h
    refine x_nn1 g16 ?_
    obtain ⟨g17, h⟩ := h
    refine x_callV (rm := rm_X2_has) (rest := []) (As := [.int p2]) C cy_RX11_257 g17 (by decide) (by decide) rfl rfl (Nat.le_of_ble_eq_true rfl) hl.1 dX11_entry_18 (c_X2_has l D cy b15 p2 σ2 _ h) (ks_i (fun x19 σ18 h => ?_))
    refine x_if_eq (tgt := 28) C dX11_entry_21 (by decide) (fun c20 => ?_) (fun c20 => ?_)
    · have h := h.1 c20
      exact t_X11_entry_28 C hr hnm  p1 p2 p3 _ h ls (lv_sub hl [0, 1, 2, 3] rfl)
    · have h := h.2 c20
      refine x_iconst (v := 1) C dX11_entry_24 (by decide) ?_
      refine x_goto (tgt := 29) C dX11_entry_25 (by decide) ?_
      exact t_X11_entry_29 C hr hnm  p1 p2 p3 (1 : Int32) _ h ls (lv_sub hl [0, 1, 2, 3] rfl)
theorem dX11_word_0 : decode cX11_word 0 = .ok (.aload_n 0, 1) := by decide +kernel
theorem dX11_word_1 : decode cX11_word 1 = .ok (.iload_n 1, 1) := by decide +kernel
theorem dX11_word_2 : decode cX11_word 2 = .ok (.invokevirtual 151, 3) := by decide +kernel
theorem dX11_word_5 : decode cX11_word 5 = .ok (.ifCond .eq 13, 3) := by decide +kernel
theorem dX11_word_8 : decode cX11_word 8 = .ok (.iload_n 2, 1) := by decide +kernel
theorem dX11_word_9 : decode cX11_word 9 = .ok (.ifCond .lt 9, 3) := by decide +kernel
theorem dX11_word_12 : decode cX11_word 12 = .ok (.iload_n 2, 1) := by decide +kernel
theorem dX11_word_13 : decode cX11_word 13 = .ok (.bipush 8, 2) := by decide +kernel
theorem dX11_word_15 : decode cX11_word 15 = .ok (.if_icmp .lt 5, 3) := by decide +kernel
theorem dX11_word_18 : decode cX11_word 18 = .ok (.iconst 0, 1) := by decide +kernel
theorem dX11_word_19 : decode cX11_word 19 = .ok (.ireturn, 1) := by decide +kernel
theorem dX11_word_20 : decode cX11_word 20 = .ok (.aload_n 0, 1) := by decide +kernel
theorem dX11_word_21 : decode cX11_word 21 = .ok (.getfield 31, 3) := by decide +kernel
theorem dX11_word_24 : decode cX11_word 24 = .ok (.aload_n 0, 1) := by decide +kernel
theorem dX11_word_25 : decode cX11_word 25 = .ok (.getfield 40, 3) := by decide +kernel
theorem dX11_word_28 : decode cX11_word 28 = .ok (.iload_n 1, 1) := by decide +kernel
theorem dX11_word_29 : decode cX11_word 29 = .ok (.aaload, 1) := by decide +kernel
theorem dX11_word_30 : decode cX11_word 30 = .ok (.getfield 233, 3) := by decide +kernel
theorem dX11_word_33 : decode cX11_word 33 = .ok (.aload_n 0, 1) := by decide +kernel
theorem dX11_word_34 : decode cX11_word 34 = .ok (.getfield 40, 3) := by decide +kernel
theorem dX11_word_37 : decode cX11_word 37 = .ok (.iload_n 1, 1) := by decide +kernel
theorem dX11_word_38 : decode cX11_word 38 = .ok (.aaload, 1) := by decide +kernel
theorem dX11_word_39 : decode cX11_word 39 = .ok (.invokevirtual 279, 3) := by decide +kernel
theorem dX11_word_42 : decode cX11_word 42 = .ok (.invokevirtual 282, 3) := by decide +kernel
theorem dX11_word_45 : decode cX11_word 45 = .ok (.aload_n 0, 1) := by decide +kernel
theorem dX11_word_46 : decode cX11_word 46 = .ok (.getfield 31, 3) := by decide +kernel
theorem dX11_word_49 : decode cX11_word 49 = .ok (.getfield 286, 3) := by decide +kernel
theorem dX11_word_52 : decode cX11_word 52 = .ok (.iload_n 2, 1) := by decide +kernel
theorem dX11_word_53 : decode cX11_word 53 = .ok (.iaload, 1) := by decide +kernel
theorem dX11_word_54 : decode cX11_word 54 = .ok (.ireturn, 1) := by decide +kernel
abbrev rm_X11_word : Room := { frames := 4, cells := 0, slots := 0, locals := 84 }
def wp_X11_word (a0 : Nat) (p1 : Int32) (p2 : Int32) (σ : Sto) (Q : Int32 → Sto → Prop) : Prop := (sK σ a0 = 11 ∧ (wp_X11_isReplica a0 p1 σ (fun (x3 : Int32) (σ2 : Sto) => ((x3 = 0 → Q (0 : Int32) σ2) ∧ (¬ x3 = 0 → ((p2 < 0 → Q (0 : Int32) σ2) ∧ (¬ p2 < 0 → ((p2 < (8 : Int32) → (sK σ2 a0 = 11 ∧ (∃ b8 : Nat, sP σ2 a0 3 = some b8 ∧ (sK σ2 b8 = 21 ∧ (vp_in p1 (sN σ2 b8) ∧ (∀ r12 : Option Nat, r12 = sP σ2 b8 p1.toNatClampNeg → (∃ b14 : Nat, r12 = some b14 ∧ (sK σ2 b14 = 8 ∧ (vp_in p1 (sN σ2 b8) ∧ (∀ r18 : Option Nat, r18 = sP σ2 b8 p1.toNatClampNeg → (∃ b20 : Nat, r18 = some b20 ∧ (sK σ2 b20 = 8 ∧ (wp_X8_executedEnd b20  σ2 (fun (x24 : Int32) (σ23 : Sto) => (∃ b25 : Nat, sP σ2 a0 2 = some b25 ∧ (sK σ23 b25 = 10 ∧ (wp_X10_replay b25 (sP σ2 b14 7) x24 σ23 (fun (σ28 : Sto) => (sK σ28 a0 = 11 ∧ (∃ b30 : Nat, sP σ28 a0 2 = some b30 ∧ (sK σ28 b30 = 10 ∧ (∃ b33 : Nat, sP σ28 b30 0 = some b33 ∧ (sK σ28 b33 = 14 ∧ (vp_in p2 (sN σ28 b33) ∧ (∀ x37 : Int32, x37 = sI σ28 b33 p2.toNatClampNeg → Q x37 σ28))))))))))))))))))))))))) ∧ (¬ p2 < (8 : Int32) → Q (0 : Int32) σ2)))))))))
set_option maxHeartbeats 4000000 in
set_option maxRecDepth 100000 in
theorem c_X11_word (l : Launch) (D : va_G) (cy : Nat → ClassId) (a0 : Nat) (p1 : Int32) (p2 : Int32) (σ : Sto) (Q : Int32 → Sto → Prop) (h : wp_X11_word a0 p1 p2 σ Q) : Mt l D cy yX11_word cX11_word 3 (some .int) rm_X11_word [.ref a0, .int p1, .int p2] σ (PsI Q) := by
  unfold wp_X11_word at h
  refine mt_of (by decide +kernel) (Nat.le_of_ble_eq_true rfl) ?_
  intro p e s m args below meth c A ls C hr hnm hl
  have C : Cx p s m args meth c D cy A cX11_word 3 RX11 := C
  have hl : lv_has ls 3 [(0, .ref a0), (1, .int p1), (2, .int p2)] := hl
  refine x_aload_n C dX11_word_0 rfl (lv_at hl 0 rfl) ?_
  refine x_iload_n C dX11_word_1 rfl (lv_at hl 1 rfl) ?_
  obtain ⟨g1, h⟩ := h
  refine x_callV (rm := rm_X11_isReplica) (rest := []) (As := [.int p1]) C cy_RX11_151 g1 (by decide) (by decide) rfl rfl (Nat.le_of_ble_eq_true rfl) hl.1 dX11_word_2 (c_X11_isReplica l D cy a0 p1 σ _ h) (ks_i (fun x3 σ2 h => ?_))
  refine x_if_eq (tgt := 18) C dX11_word_5 (by decide) (fun c4 => ?_) (fun c4 => ?_)
  · have h := h.1 c4
    refine x_iconst (v := 0) C dX11_word_18 (by decide) ?_
    exact x_iret C hr dX11_word_19 ⟨_, rfl, h⟩
  · have h := h.2 c4
    refine x_iload_n C dX11_word_8 rfl (lv_at hl 2 rfl) ?_
    refine x_if_lt (tgt := 18) C dX11_word_9 (by decide) (fun c5 => ?_) (fun c5 => ?_)
    · have h := h.1 c5
      refine x_iconst (v := 0) C dX11_word_18 (by decide) ?_
      exact x_iret C hr dX11_word_19 ⟨_, rfl, h⟩
    · have h := h.2 c5
      refine x_iload_n C dX11_word_12 rfl (lv_at hl 2 rfl) ?_
      refine x_bipush (v := 8) C dX11_word_13 (by decide) ?_
      refine x_icmp_lt (tgt := 20) C dX11_word_15 (by decide) (fun c6 => ?_) (fun c6 => ?_)
      · have h := h.1 c6
        refine x_aload_n C dX11_word_20 rfl (lv_at hl 0 rfl) ?_
        obtain ⟨g7, h⟩ := h
        refine x_getP C fl_RX11_31 g7 dX11_word_21 ?_
        refine x_aload_n C dX11_word_24 rfl (lv_at hl 0 rfl) ?_
        refine x_getP C fl_RX11_40 g7 dX11_word_25 ?_
        refine x_iload_n C dX11_word_28 rfl (lv_at hl 1 rfl) ?_
        obtain ⟨b8, g9, h⟩ := h
        refine x_nn1 g9 ?_
        obtain ⟨g10, h⟩ := h
        obtain ⟨g11, h⟩ := h
        refine x_aald C rak_21 g10 g11 dX11_word_29 ?_
        refine x_topq (fun r12 e13 => ?_)
        have h := h r12 e13
        obtain ⟨b14, g15, h⟩ := h
        refine x_nn0 g15 ?_
        obtain ⟨g16, h⟩ := h
        refine x_getP C fl_RX11_233 g16 dX11_word_30 ?_
        refine x_aload_n C dX11_word_33 rfl (lv_at hl 0 rfl) ?_
        refine x_getP C fl_RX11_40 g7 dX11_word_34 ?_
        refine x_iload_n C dX11_word_37 rfl (lv_at hl 1 rfl) ?_
        refine x_nn1 g9 ?_
        obtain ⟨g17, h⟩ := h
        refine x_aald C rak_21 g10 g17 dX11_word_38 ?_
        refine x_topq (fun r18 e19 => ?_)
        have h := h r18 e19
        obtain ⟨b20, g21, h⟩ := h
        refine x_nn0 g21 ?_
        obtain ⟨g22, h⟩ := h
        refine x_callV (rm := rm_X8_executedEnd) (rest := [va_rf (sP σ2 b14 7), va_rf (sP σ2 a0 2)]) (As := []) C cy_RX11_279 g22 (by decide) (by decide) rfl rfl (by simp [vrc, cat_i, cat_r, cat_l]) hl.1 dX11_word_39 (c_X8_executedEnd l D cy b20  σ2 _ h) (ks_i (fun x24 σ23 h => ?_))
        obtain ⟨b25, g26, h⟩ := h
        refine x_nn2 g26 ?_
        obtain ⟨g27, h⟩ := h
        refine x_callV (rm := rm_X10_replay) (rest := []) (As := [va_rf (sP σ2 b14 7), .int x24]) C cy_RX11_282 g27 (by decide) (by decide) rfl rfl (Nat.le_of_ble_eq_true rfl) hl.1 dX11_word_42 (c_X10_replay l D cy b25 (sP σ2 b14 7) x24 σ23 _ h) (ks_v (fun σ28 h => ?_))
        refine x_aload_n C dX11_word_45 rfl (lv_at hl 0 rfl) ?_
        obtain ⟨g29, h⟩ := h
        refine x_getP C fl_RX11_31 g29 dX11_word_46 ?_
        obtain ⟨b30, g31, h⟩ := h
        refine x_nn0 g31 ?_
        obtain ⟨g32, h⟩ := h
        refine x_getP C fl_RX11_286 g32 dX11_word_49 ?_
        refine x_iload_n C dX11_word_52 rfl (lv_at hl 2 rfl) ?_
        obtain ⟨b33, g34, h⟩ := h
        refine x_nn1 g34 ?_
        obtain ⟨g35, h⟩ := h
        obtain ⟨g36, h⟩ := h
        refine x_iald C g35 g36 dX11_word_53 ?_
        refine x_topi (fun x37 e38 => ?_)
        have h := h x37 e38
        exact x_iret C hr dX11_word_54 ⟨_, rfl, h⟩
      · have h := h.2 c6
        refine x_iconst (v := 0) C dX11_word_18 (by decide) ?_
        exact x_iret C hr dX11_word_19 ⟨_, rfl, h⟩
theorem dX11_isClient_0 : decode cX11_isClient 0 = .ok (.iload_n 1, 1) := by decide +kernel
theorem dX11_isClient_1 : decode cX11_isClient 1 = .ok (.ifCond .lt 16, 3) := by decide +kernel
theorem dX11_isClient_4 : decode cX11_isClient 4 = .ok (.iload_n 1, 1) := by decide +kernel
theorem dX11_isClient_5 : decode cX11_isClient 5 = .ok (.aload_n 0, 1) := by decide +kernel
theorem dX11_isClient_6 : decode cX11_isClient 6 = .ok (.getfield 48, 3) := by decide +kernel
theorem dX11_isClient_9 : decode cX11_isClient 9 = .ok (.arraylength, 1) := by decide +kernel
theorem dX11_isClient_10 : decode cX11_isClient 10 = .ok (.if_icmp .ge 7, 3) := by decide +kernel
theorem dX11_isClient_13 : decode cX11_isClient 13 = .ok (.iconst 1, 1) := by decide +kernel
theorem dX11_isClient_14 : decode cX11_isClient 14 = .ok (.goto 4, 3) := by decide +kernel
theorem dX11_isClient_17 : decode cX11_isClient 17 = .ok (.iconst 0, 1) := by decide +kernel
theorem dX11_isClient_18 : decode cX11_isClient 18 = .ok (.ireturn, 1) := by decide +kernel
abbrev rm_X11_isClient : Room := { frames := 0, cells := 0, slots := 0, locals := 0 }
def wp_X11_isClient (a0 : Nat) (p1 : Int32) (σ : Sto) (Q : Int32 → Sto → Prop) : Prop := ((p1 < 0 → Q (0 : Int32) σ) ∧ (¬ p1 < 0 → (sK σ a0 = 11 ∧ (∃ b3 : Nat, sP σ a0 4 = some b3 ∧ (sK σ b3 = 17 ∧ (((nI (sN σ b3)) ≤ p1 → Q (0 : Int32) σ) ∧ (¬ (nI (sN σ b3)) ≤ p1 → Q (1 : Int32) σ)))))))
set_option maxHeartbeats 4000000 in
set_option maxRecDepth 100000 in
theorem c_X11_isClient (l : Launch) (D : va_G) (cy : Nat → ClassId) (a0 : Nat) (p1 : Int32) (σ : Sto) (Q : Int32 → Sto → Prop) (h : wp_X11_isClient a0 p1 σ Q) : Mt l D cy yX11_isClient cX11_isClient 2 (some .boolean) rm_X11_isClient [.ref a0, .int p1] σ (PsI Q) := by
  unfold wp_X11_isClient at h
  refine mt_of (by decide +kernel) (Nat.le_of_ble_eq_true rfl) ?_
  intro p e s m args below meth c A ls C hr hnm hl
  have C : Cx p s m args meth c D cy A cX11_isClient 2 RX11 := C
  have hl : lv_has ls 2 [(0, .ref a0), (1, .int p1)] := hl
  refine x_iload_n C dX11_isClient_0 rfl (lv_at hl 1 rfl) ?_
  refine x_if_lt (tgt := 17) C dX11_isClient_1 (by decide) (fun c1 => ?_) (fun c1 => ?_)
  · have h := h.1 c1
    refine x_iconst (v := 0) C dX11_isClient_17 (by decide) ?_
    exact x_zret C hr dX11_isClient_18 (by decide) ⟨_, rfl, h⟩
  · have h := h.2 c1
    refine x_iload_n C dX11_isClient_4 rfl (lv_at hl 1 rfl) ?_
    refine x_aload_n C dX11_isClient_5 rfl (lv_at hl 0 rfl) ?_
    obtain ⟨g2, h⟩ := h
    refine x_getP C fl_RX11_48 g2 dX11_isClient_6 ?_
    obtain ⟨b3, g4, h⟩ := h
    refine x_nn0 g4 ?_
    obtain ⟨g5, h⟩ := h
    refine x_alen C g5 (by decide) (by decide) dX11_isClient_9 ?_
    refine x_icmp_ge (tgt := 17) C dX11_isClient_10 (by decide) (fun c6 => ?_) (fun c6 => ?_)
    · have h := h.1 c6
      refine x_iconst (v := 0) C dX11_isClient_17 (by decide) ?_
      exact x_zret C hr dX11_isClient_18 (by decide) ⟨_, rfl, h⟩
    · have h := h.2 c6
      refine x_iconst (v := 1) C dX11_isClient_13 (by decide) ?_
      refine x_goto (tgt := 18) C dX11_isClient_14 (by decide) ?_
      exact x_zret C hr dX11_isClient_18 (by decide) ⟨_, rfl, h⟩
theorem dX11_client_0 : decode cX11_client 0 = .ok (.aload_n 0, 1) := by decide +kernel
theorem dX11_client_1 : decode cX11_client 1 = .ok (.iload_n 1, 1) := by decide +kernel
theorem dX11_client_2 : decode cX11_client 2 = .ok (.invokevirtual 86, 3) := by decide +kernel
theorem dX11_client_5 : decode cX11_client 5 = .ok (.ifCond .ne 5, 3) := by decide +kernel
theorem dX11_client_8 : decode cX11_client 8 = .ok (.iconst (-1), 1) := by decide +kernel
theorem dX11_client_9 : decode cX11_client 9 = .ok (.ireturn, 1) := by decide +kernel
theorem dX11_client_10 : decode cX11_client 10 = .ok (.aload_n 0, 1) := by decide +kernel
theorem dX11_client_11 : decode cX11_client 11 = .ok (.getfield 48, 3) := by decide +kernel
theorem dX11_client_14 : decode cX11_client 14 = .ok (.iload_n 1, 1) := by decide +kernel
theorem dX11_client_15 : decode cX11_client 15 = .ok (.aaload, 1) := by decide +kernel
theorem dX11_client_16 : decode cX11_client 16 = .ok (.astore_n 3, 1) := by decide +kernel
theorem dX11_client_17 : decode cX11_client 17 = .ok (.iload_n 2, 1) := by decide +kernel
theorem dX11_client_18 : decode cX11_client 18 = .ok (.ifCond .ne 8, 3) := by decide +kernel
theorem dX11_client_21 : decode cX11_client 21 = .ok (.aload_n 3, 1) := by decide +kernel
theorem dX11_client_22 : decode cX11_client 22 = .ok (.getfield 112, 3) := by decide +kernel
theorem dX11_client_25 : decode cX11_client 25 = .ok (.ireturn, 1) := by decide +kernel
theorem dX11_client_26 : decode cX11_client 26 = .ok (.iload_n 2, 1) := by decide +kernel
theorem dX11_client_27 : decode cX11_client 27 = .ok (.iconst 1, 1) := by decide +kernel
theorem dX11_client_28 : decode cX11_client 28 = .ok (.if_icmp .ne 27, 3) := by decide +kernel
theorem dX11_client_31 : decode cX11_client 31 = .ok (.aload_n 3, 1) := by decide +kernel
theorem dX11_client_32 : decode cX11_client 32 = .ok (.getfield 102, 3) := by decide +kernel
theorem dX11_client_35 : decode cX11_client 35 = .ok (.ifCond .eq 7, 3) := by decide +kernel
theorem dX11_client_38 : decode cX11_client 38 = .ok (.iconst 1, 1) := by decide +kernel
theorem dX11_client_39 : decode cX11_client 39 = .ok (.goto 15, 3) := by decide +kernel
theorem dX11_client_42 : decode cX11_client 42 = .ok (.aload_n 3, 1) := by decide +kernel
theorem dX11_client_43 : decode cX11_client 43 = .ok (.getfield 112, 3) := by decide +kernel
theorem dX11_client_46 : decode cX11_client 46 = .ok (.ifCond .le 7, 3) := by decide +kernel
theorem dX11_client_49 : decode cX11_client 49 = .ok (.iconst 2, 1) := by decide +kernel
theorem dX11_client_50 : decode cX11_client 50 = .ok (.goto 4, 3) := by decide +kernel
theorem dX11_client_53 : decode cX11_client 53 = .ok (.iconst 0, 1) := by decide +kernel
theorem dX11_client_54 : decode cX11_client 54 = .ok (.ireturn, 1) := by decide +kernel
theorem dX11_client_55 : decode cX11_client 55 = .ok (.aload_n 3, 1) := by decide +kernel
theorem dX11_client_56 : decode cX11_client 56 = .ok (.getfield 102, 3) := by decide +kernel
theorem dX11_client_59 : decode cX11_client 59 = .ok (.ifCond .ne 10, 3) := by decide +kernel
theorem dX11_client_62 : decode cX11_client 62 = .ok (.aload_n 3, 1) := by decide +kernel
theorem dX11_client_63 : decode cX11_client 63 = .ok (.getfield 112, 3) := by decide +kernel
theorem dX11_client_66 : decode cX11_client 66 = .ok (.ifCond .ne 5, 3) := by decide +kernel
theorem dX11_client_69 : decode cX11_client 69 = .ok (.iconst (-1), 1) := by decide +kernel
theorem dX11_client_70 : decode cX11_client 70 = .ok (.ireturn, 1) := by decide +kernel
theorem dX11_client_71 : decode cX11_client 71 = .ok (.iload_n 2, 1) := by decide +kernel
theorem dX11_client_72 : decode cX11_client 72 = .ok (.tableswitch 58 2 4 #[28, 36, 47], 28) := by decide +kernel
theorem dX11_client_100 : decode cX11_client 100 = .ok (.aload_n 3, 1) := by decide +kernel
theorem dX11_client_101 : decode cX11_client 101 = .ok (.getfield 290, 3) := by decide +kernel
theorem dX11_client_104 : decode cX11_client 104 = .ok (.getfield 293, 3) := by decide +kernel
theorem dX11_client_107 : decode cX11_client 107 = .ok (.ireturn, 1) := by decide +kernel
theorem dX11_client_108 : decode cX11_client 108 = .ok (.aload_n 3, 1) := by decide +kernel
theorem dX11_client_109 : decode cX11_client 109 = .ok (.getfield 290, 3) := by decide +kernel
theorem dX11_client_112 : decode cX11_client 112 = .ok (.getfield 296, 3) := by decide +kernel
theorem dX11_client_115 : decode cX11_client 115 = .ok (.invokestatic 226, 3) := by decide +kernel
theorem dX11_client_118 : decode cX11_client 118 = .ok (.ireturn, 1) := by decide +kernel
theorem dX11_client_119 : decode cX11_client 119 = .ok (.aload_n 3, 1) := by decide +kernel
theorem dX11_client_120 : decode cX11_client 120 = .ok (.getfield 290, 3) := by decide +kernel
theorem dX11_client_123 : decode cX11_client 123 = .ok (.getfield 296, 3) := by decide +kernel
theorem dX11_client_126 : decode cX11_client 126 = .ok (.invokestatic 230, 3) := by decide +kernel
theorem dX11_client_129 : decode cX11_client 129 = .ok (.ireturn, 1) := by decide +kernel
theorem dX11_client_130 : decode cX11_client 130 = .ok (.iconst (-1), 1) := by decide +kernel
theorem dX11_client_131 : decode cX11_client 131 = .ok (.ireturn, 1) := by decide +kernel
abbrev rm_X11_client : Room := { frames := 1, cells := 0, slots := 0, locals := 21 }
def wp_X11_client (a0 : Nat) (p1 : Int32) (p2 : Int32) (σ : Sto) (Q : Int32 → Sto → Prop) : Prop := (sK σ a0 = 11 ∧ (wp_X11_isClient a0 p1 σ (fun (x3 : Int32) (σ2 : Sto) => ((¬ x3 = 0 → (sK σ2 a0 = 11 ∧ (∃ b6 : Nat, sP σ2 a0 4 = some b6 ∧ (sK σ2 b6 = 17 ∧ (vp_in p1 (sN σ2 b6) ∧ (∀ r10 : Option Nat, r10 = sP σ2 b6 p1.toNatClampNeg → ((¬ p2 = 0 → ((¬ p2 = (1 : Int32) → (∃ b14 : Nat, r10 = some b14 ∧ (sK σ2 b14 = 1 ∧ (∀ x17 : Int32, x17 = sI σ2 b14 2 → ((¬ x17 = 0 → Q (-1 : Int32) σ2) ∧ (x17 = 0 → (∀ x20 : Int32, x20 = sI σ2 b14 1 → ((¬ x20 = 0 → ((p2.toInt < 2 ∨ 4 < p2.toInt → Q (-1 : Int32) σ2) ∧ (p2 = (2 : Int32) → (∃ b25 : Nat, sP σ2 b14 4 = some b25 ∧ (sK σ2 b25 = 6 ∧ (∀ x28 : Int32, x28 = sI σ2 b25 2 → Q x28 σ2)))) ∧ (p2 = (3 : Int32) → (∃ b30 : Nat, sP σ2 b14 4 = some b30 ∧ (sK σ2 b30 = 6 ∧ (∀ y33 : Int64, y33 = sJ σ2 b30 1 → (wp_X11_leadOf y33 σ2 (fun (x36 : Int32) (σ35 : Sto) => Q x36 σ35)))))) ∧ (p2 = (4 : Int32) → (∃ b37 : Nat, sP σ2 b14 4 = some b37 ∧ (sK σ2 b37 = 6 ∧ (∀ y40 : Int64, y40 = sJ σ2 b37 1 → (wp_X11_sessionOf y40 σ2 (fun (x43 : Int32) (σ42 : Sto) => Q x43 σ42)))))))) ∧ (x20 = 0 → Q (-1 : Int32) σ2))))))))) ∧ (p2 = (1 : Int32) → (∃ b44 : Nat, r10 = some b44 ∧ (sK σ2 b44 = 1 ∧ (∀ x47 : Int32, x47 = sI σ2 b44 2 → ((x47 = 0 → (∀ x50 : Int32, x50 = sI σ2 b44 1 → ((x50 ≤ 0 → Q (0 : Int32) σ2) ∧ (¬ x50 ≤ 0 → Q (2 : Int32) σ2)))) ∧ (¬ x47 = 0 → Q (1 : Int32) σ2)))))))) ∧ (p2 = 0 → (∃ b53 : Nat, r10 = some b53 ∧ (sK σ2 b53 = 1 ∧ (∀ x56 : Int32, x56 = sI σ2 b53 1 → Q x56 σ2))))))))))) ∧ (x3 = 0 → Q (-1 : Int32) σ2)))))
set_option maxHeartbeats 4000000 in
set_option maxRecDepth 100000 in
theorem c_X11_client (l : Launch) (D : va_G) (cy : Nat → ClassId) (a0 : Nat) (p1 : Int32) (p2 : Int32) (σ : Sto) (Q : Int32 → Sto → Prop) (h : wp_X11_client a0 p1 p2 σ Q) : Mt l D cy yX11_client cX11_client 4 (some .int) rm_X11_client [.ref a0, .int p1, .int p2] σ (PsI Q) := by
  unfold wp_X11_client at h
  refine mt_of (by decide +kernel) (Nat.le_of_ble_eq_true rfl) ?_
  intro p e s m args below meth c A ls C hr hnm hl
  have C : Cx p s m args meth c D cy A cX11_client 4 RX11 := C
  have hl : lv_has ls 4 [(0, .ref a0), (1, .int p1), (2, .int p2)] := hl
  refine x_aload_n C dX11_client_0 rfl (lv_at hl 0 rfl) ?_
  refine x_iload_n C dX11_client_1 rfl (lv_at hl 1 rfl) ?_
  obtain ⟨g1, h⟩ := h
  refine x_callV (rm := rm_X11_isClient) (rest := []) (As := [.int p1]) C cy_RX11_86 g1 (by decide) (by decide) rfl rfl (Nat.le_of_ble_eq_true rfl) hl.1 dX11_client_2 (c_X11_isClient l D cy a0 p1 σ _ h) (ks_i (fun x3 σ2 h => ?_))
  refine x_if_ne (tgt := 10) C dX11_client_5 (by decide) (fun c4 => ?_) (fun c4 => ?_)
  · have h := h.1 c4
    refine x_aload_n C dX11_client_10 rfl (lv_at hl 0 rfl) ?_
    obtain ⟨g5, h⟩ := h
    refine x_getP C fl_RX11_48 g5 dX11_client_11 ?_
    refine x_iload_n C dX11_client_14 rfl (lv_at hl 1 rfl) ?_
    obtain ⟨b6, g7, h⟩ := h
    refine x_nn1 g7 ?_
    obtain ⟨g8, h⟩ := h
    obtain ⟨g9, h⟩ := h
    refine x_aald C rak_17 g8 g9 dX11_client_15 ?_
    refine x_topq (fun r10 e11 => ?_)
    have h := h r10 e11
    refine x_astore_nq (i := 3) (lv' := [(3, va_rf r10), (0, .ref a0), (1, .int p1), (2, .int p2)]) C dX11_client_16 rfl hl (by decide) (by first | rfl | simp [vrc, cat_i, cat_r, cat_l]) (fun ls hl => ?_)
    refine x_iload_n C dX11_client_17 rfl (lv_at hl 3 rfl) ?_
    refine x_if_ne (tgt := 26) C dX11_client_18 (by decide) (fun c12 => ?_) (fun c12 => ?_)
    · have h := h.1 c12
      refine x_iload_n C dX11_client_26 rfl (lv_at hl 3 rfl) ?_
      refine x_iconst (v := 1) C dX11_client_27 (by decide) ?_
      refine x_icmp_ne (tgt := 55) C dX11_client_28 (by decide) (fun c13 => ?_) (fun c13 => ?_)
      · have h := h.1 c13
        refine x_aload_nq C dX11_client_55 rfl (lv_at hl 0 rfl) ?_
        obtain ⟨b14, g15, h⟩ := h
        refine x_nn0 g15 ?_
        obtain ⟨g16, h⟩ := h
        refine x_getZ C fl_RX11_102 g16 dX11_client_56 ?_
        refine x_topi (fun x17 e18 => ?_)
        have h := h x17 e18
        refine x_if_ne (tgt := 69) C dX11_client_59 (by decide) (fun c19 => ?_) (fun c19 => ?_)
        · have h := h.1 c19
          refine x_iconst (v := -1) C dX11_client_69 (by decide) ?_
          exact x_iret C hr dX11_client_70 ⟨_, rfl, h⟩
        · have h := h.2 c19
          refine x_aload_nq C dX11_client_62 rfl (lv_at hl 0 rfl) ?_
          refine x_nn0 g15 ?_
          refine x_getI C fl_RX11_112 g16 dX11_client_63 ?_
          refine x_topi (fun x20 e21 => ?_)
          have h := h x20 e21
          refine x_if_ne (tgt := 71) C dX11_client_66 (by decide) (fun c22 => ?_) (fun c22 => ?_)
          · have h := h.1 c22
            refine x_iload_n C dX11_client_71 rfl (lv_at hl 3 rfl) ?_
            by_cases c23 : p2.toInt < 2 ∨ 4 < p2.toInt
            · have h := h.1 c23
              refine x_tableOut (tgt := 130) C dX11_client_72 c23 (by decide) ?_
              refine x_iconst (v := -1) C dX11_client_130 (by decide) ?_
              exact x_iret C hr dX11_client_131 ⟨_, rfl, h⟩
            · rcases (show p2.toInt = 2 ∨ p2.toInt = 3 ∨ p2.toInt = 4 by omega) with c24 | c24 | c24
              · have h := h.2.1 (sw_eq (k := 2) (c24.trans (by decide)))
                refine x_tableIn (tgt := 100) (off := 28) C dX11_client_72 (by omega) (by omega) (by rw [c24]; rfl) (by decide) ?_
                refine x_aload_nq C dX11_client_100 rfl (lv_at hl 0 rfl) ?_
                refine x_nn0 g15 ?_
                refine x_getP C fl_RX11_290 g16 dX11_client_101 ?_
                obtain ⟨b25, g26, h⟩ := h
                refine x_nn0 g26 ?_
                obtain ⟨g27, h⟩ := h
                refine x_getI C fl_RX11_293 g27 dX11_client_104 ?_
                refine x_topi (fun x28 e29 => ?_)
                have h := h x28 e29
                exact x_iret C hr dX11_client_107 ⟨_, rfl, h⟩
              · have h := h.2.2.1 (sw_eq (k := 3) (c24.trans (by decide)))
                refine x_tableIn (tgt := 108) (off := 36) C dX11_client_72 (by omega) (by omega) (by rw [c24]; rfl) (by decide) ?_
                refine x_aload_nq C dX11_client_108 rfl (lv_at hl 0 rfl) ?_
                refine x_nn0 g15 ?_
                refine x_getP C fl_RX11_290 g16 dX11_client_109 ?_
                obtain ⟨b30, g31, h⟩ := h
                refine x_nn0 g31 ?_
                obtain ⟨g32, h⟩ := h
                refine x_getJ C fl_RX11_296 g32 dX11_client_112 ?_
                refine x_topj (fun y33 e34 => ?_)
                have h := h y33 e34
                refine x_callS (rm := rm_X11_leadOf) (rest := []) (As := [.long y33]) C cs_RX11_226 (by decide) (by decide) rfl rfl (Nat.le_of_ble_eq_true rfl) hl.1 dX11_client_115 (c_X11_leadOf l D cy y33 σ2 _ h) (ks_i (fun x36 σ35 h => ?_))
                exact x_iret C hr dX11_client_118 ⟨_, rfl, h⟩
              · have h := h.2.2.2 (sw_eq (k := 4) (c24.trans (by decide)))
                refine x_tableIn (tgt := 119) (off := 47) C dX11_client_72 (by omega) (by omega) (by rw [c24]; rfl) (by decide) ?_
                refine x_aload_nq C dX11_client_119 rfl (lv_at hl 0 rfl) ?_
                refine x_nn0 g15 ?_
                refine x_getP C fl_RX11_290 g16 dX11_client_120 ?_
                obtain ⟨b37, g38, h⟩ := h
                refine x_nn0 g38 ?_
                obtain ⟨g39, h⟩ := h
                refine x_getJ C fl_RX11_296 g39 dX11_client_123 ?_
                refine x_topj (fun y40 e41 => ?_)
                have h := h y40 e41
                refine x_callS (rm := rm_X11_sessionOf) (rest := []) (As := [.long y40]) C cs_RX11_230 (by decide) (by decide) rfl rfl (Nat.le_of_ble_eq_true rfl) hl.1 dX11_client_126 (c_X11_sessionOf l D cy y40 σ2 _ h) (ks_i (fun x43 σ42 h => ?_))
                exact x_iret C hr dX11_client_129 ⟨_, rfl, h⟩
          · have h := h.2 c22
            refine x_iconst (v := -1) C dX11_client_69 (by decide) ?_
            exact x_iret C hr dX11_client_70 ⟨_, rfl, h⟩
      · have h := h.2 c13
        refine x_aload_nq C dX11_client_31 rfl (lv_at hl 0 rfl) ?_
        obtain ⟨b44, g45, h⟩ := h
        refine x_nn0 g45 ?_
        obtain ⟨g46, h⟩ := h
        refine x_getZ C fl_RX11_102 g46 dX11_client_32 ?_
        refine x_topi (fun x47 e48 => ?_)
        have h := h x47 e48
        refine x_if_eq (tgt := 42) C dX11_client_35 (by decide) (fun c49 => ?_) (fun c49 => ?_)
        · have h := h.1 c49
          refine x_aload_nq C dX11_client_42 rfl (lv_at hl 0 rfl) ?_
          refine x_nn0 g45 ?_
          refine x_getI C fl_RX11_112 g46 dX11_client_43 ?_
          refine x_topi (fun x50 e51 => ?_)
          have h := h x50 e51
          refine x_if_le (tgt := 53) C dX11_client_46 (by decide) (fun c52 => ?_) (fun c52 => ?_)
          · have h := h.1 c52
            refine x_iconst (v := 0) C dX11_client_53 (by decide) ?_
            exact x_iret C hr dX11_client_54 ⟨_, rfl, h⟩
          · have h := h.2 c52
            refine x_iconst (v := 2) C dX11_client_49 (by decide) ?_
            refine x_goto (tgt := 54) C dX11_client_50 (by decide) ?_
            exact x_iret C hr dX11_client_54 ⟨_, rfl, h⟩
        · have h := h.2 c49
          refine x_iconst (v := 1) C dX11_client_38 (by decide) ?_
          refine x_goto (tgt := 54) C dX11_client_39 (by decide) ?_
          exact x_iret C hr dX11_client_54 ⟨_, rfl, h⟩
    · have h := h.2 c12
      refine x_aload_nq C dX11_client_21 rfl (lv_at hl 0 rfl) ?_
      obtain ⟨b53, g54, h⟩ := h
      refine x_nn0 g54 ?_
      obtain ⟨g55, h⟩ := h
      refine x_getI C fl_RX11_112 g55 dX11_client_22 ?_
      refine x_topi (fun x56 e57 => ?_)
      have h := h x56 e57
      exact x_iret C hr dX11_client_25 ⟨_, rfl, h⟩
  · have h := h.2 c4
    refine x_iconst (v := -1) C dX11_client_8 (by decide) ?_
    exact x_iret C hr dX11_client_9 ⟨_, rfl, h⟩
theorem dX11_answer_0 : decode cX11_answer 0 = .ok (.aload_n 0, 1) := by decide +kernel
theorem dX11_answer_1 : decode cX11_answer 1 = .ok (.iload_n 1, 1) := by decide +kernel
theorem dX11_answer_2 : decode cX11_answer 2 = .ok (.invokevirtual 86, 3) := by decide +kernel
theorem dX11_answer_5 : decode cX11_answer 5 = .ok (.ifCond .eq 18, 3) := by decide +kernel
theorem dX11_answer_8 : decode cX11_answer 8 = .ok (.aload_n 0, 1) := by decide +kernel
theorem dX11_answer_9 : decode cX11_answer 9 = .ok (.getfield 48, 3) := by decide +kernel
theorem dX11_answer_12 : decode cX11_answer 12 = .ok (.iload_n 1, 1) := by decide +kernel
theorem dX11_answer_13 : decode cX11_answer 13 = .ok (.aaload, 1) := by decide +kernel
theorem dX11_answer_14 : decode cX11_answer 14 = .ok (.getfield 290, 3) := by decide +kernel
theorem dX11_answer_17 : decode cX11_answer 17 = .ok (.getfield 297, 3) := by decide +kernel
theorem dX11_answer_20 : decode cX11_answer 20 = .ok (.goto 4, 3) := by decide +kernel
theorem dX11_answer_23 : decode cX11_answer 23 = .ok (.iconst 0, 1) := by decide +kernel
theorem dX11_answer_24 : decode cX11_answer 24 = .ok (.ireturn, 1) := by decide +kernel
abbrev rm_X11_answer : Room := { frames := 1, cells := 0, slots := 0, locals := 21 }
def wp_X11_answer (a0 : Nat) (p1 : Int32) (σ : Sto) (Q : Int32 → Sto → Prop) : Prop := (sK σ a0 = 11 ∧ (wp_X11_isClient a0 p1 σ (fun (x3 : Int32) (σ2 : Sto) => ((x3 = 0 → Q (0 : Int32) σ2) ∧ (¬ x3 = 0 → (sK σ2 a0 = 11 ∧ (∃ b6 : Nat, sP σ2 a0 4 = some b6 ∧ (sK σ2 b6 = 17 ∧ (vp_in p1 (sN σ2 b6) ∧ (∀ r10 : Option Nat, r10 = sP σ2 b6 p1.toNatClampNeg → (∃ b12 : Nat, r10 = some b12 ∧ (sK σ2 b12 = 1 ∧ (∃ b15 : Nat, sP σ2 b12 4 = some b15 ∧ (sK σ2 b15 = 6 ∧ (∀ x18 : Int32, x18 = sI σ2 b15 4 → Q x18 σ2)))))))))))))))
set_option maxHeartbeats 4000000 in
set_option maxRecDepth 100000 in
theorem c_X11_answer (l : Launch) (D : va_G) (cy : Nat → ClassId) (a0 : Nat) (p1 : Int32) (σ : Sto) (Q : Int32 → Sto → Prop) (h : wp_X11_answer a0 p1 σ Q) : Mt l D cy yX11_answer cX11_answer 2 (some .int) rm_X11_answer [.ref a0, .int p1] σ (PsI Q) := by
  unfold wp_X11_answer at h
  refine mt_of (by decide +kernel) (Nat.le_of_ble_eq_true rfl) ?_
  intro p e s m args below meth c A ls C hr hnm hl
  have C : Cx p s m args meth c D cy A cX11_answer 2 RX11 := C
  have hl : lv_has ls 2 [(0, .ref a0), (1, .int p1)] := hl
  refine x_aload_n C dX11_answer_0 rfl (lv_at hl 0 rfl) ?_
  refine x_iload_n C dX11_answer_1 rfl (lv_at hl 1 rfl) ?_
  obtain ⟨g1, h⟩ := h
  refine x_callV (rm := rm_X11_isClient) (rest := []) (As := [.int p1]) C cy_RX11_86 g1 (by decide) (by decide) rfl rfl (Nat.le_of_ble_eq_true rfl) hl.1 dX11_answer_2 (c_X11_isClient l D cy a0 p1 σ _ h) (ks_i (fun x3 σ2 h => ?_))
  refine x_if_eq (tgt := 23) C dX11_answer_5 (by decide) (fun c4 => ?_) (fun c4 => ?_)
  · have h := h.1 c4
    refine x_iconst (v := 0) C dX11_answer_23 (by decide) ?_
    exact x_iret C hr dX11_answer_24 ⟨_, rfl, h⟩
  · have h := h.2 c4
    refine x_aload_n C dX11_answer_8 rfl (lv_at hl 0 rfl) ?_
    obtain ⟨g5, h⟩ := h
    refine x_getP C fl_RX11_48 g5 dX11_answer_9 ?_
    refine x_iload_n C dX11_answer_12 rfl (lv_at hl 1 rfl) ?_
    obtain ⟨b6, g7, h⟩ := h
    refine x_nn1 g7 ?_
    obtain ⟨g8, h⟩ := h
    obtain ⟨g9, h⟩ := h
    refine x_aald C rak_17 g8 g9 dX11_answer_13 ?_
    refine x_topq (fun r10 e11 => ?_)
    have h := h r10 e11
    obtain ⟨b12, g13, h⟩ := h
    refine x_nn0 g13 ?_
    obtain ⟨g14, h⟩ := h
    refine x_getP C fl_RX11_290 g14 dX11_answer_14 ?_
    obtain ⟨b15, g16, h⟩ := h
    refine x_nn0 g16 ?_
    obtain ⟨g17, h⟩ := h
    refine x_getI C fl_RX11_297 g17 dX11_answer_17 ?_
    refine x_topi (fun x18 e19 => ?_)
    have h := h x18 e19
    refine x_goto (tgt := 24) C dX11_answer_20 (by decide) ?_
    exact x_iret C hr dX11_answer_24 ⟨_, rfl, h⟩
theorem dX11_about_0 : decode cX11_about 0 = .ok (.iload_n 1, 1) := by decide +kernel
theorem dX11_about_1 : decode cX11_about 1 = .ok (.tableswitch 116 0 8 #[51, 59, 67, 75, 88, 93, 98, 103, 111], 51) := by decide +kernel
theorem dX11_about_52 : decode cX11_about 52 = .ok (.aload_n 0, 1) := by decide +kernel
theorem dX11_about_53 : decode cX11_about 53 = .ok (.getfield 24, 3) := by decide +kernel
theorem dX11_about_56 : decode cX11_about 56 = .ok (.getfield 148, 3) := by decide +kernel
theorem dX11_about_59 : decode cX11_about 59 = .ok (.ireturn, 1) := by decide +kernel
theorem dX11_about_60 : decode cX11_about 60 = .ok (.aload_n 0, 1) := by decide +kernel
theorem dX11_about_61 : decode cX11_about 61 = .ok (.getfield 24, 3) := by decide +kernel
theorem dX11_about_64 : decode cX11_about 64 = .ok (.getfield 190, 3) := by decide +kernel
theorem dX11_about_67 : decode cX11_about 67 = .ok (.ireturn, 1) := by decide +kernel
theorem dX11_about_68 : decode cX11_about 68 = .ok (.aload_n 0, 1) := by decide +kernel
theorem dX11_about_69 : decode cX11_about 69 = .ok (.getfield 24, 3) := by decide +kernel
theorem dX11_about_72 : decode cX11_about 72 = .ok (.getfield 143, 3) := by decide +kernel
theorem dX11_about_75 : decode cX11_about 75 = .ok (.ireturn, 1) := by decide +kernel
theorem dX11_about_76 : decode cX11_about 76 = .ok (.aload_n 0, 1) := by decide +kernel
theorem dX11_about_77 : decode cX11_about 77 = .ok (.getfield 53, 3) := by decide +kernel
theorem dX11_about_80 : decode cX11_about 80 = .ok (.ifCond .eq 7, 3) := by decide +kernel
theorem dX11_about_83 : decode cX11_about 83 = .ok (.iconst 1, 1) := by decide +kernel
theorem dX11_about_84 : decode cX11_about 84 = .ok (.goto 4, 3) := by decide +kernel
theorem dX11_about_87 : decode cX11_about 87 = .ok (.iconst 0, 1) := by decide +kernel
theorem dX11_about_88 : decode cX11_about 88 = .ok (.ireturn, 1) := by decide +kernel
theorem dX11_about_89 : decode cX11_about 89 = .ok (.aload_n 0, 1) := by decide +kernel
theorem dX11_about_90 : decode cX11_about 90 = .ok (.getfield 57, 3) := by decide +kernel
theorem dX11_about_93 : decode cX11_about 93 = .ok (.ireturn, 1) := by decide +kernel
theorem dX11_about_94 : decode cX11_about 94 = .ok (.aload_n 0, 1) := by decide +kernel
theorem dX11_about_95 : decode cX11_about 95 = .ok (.getfield 300, 3) := by decide +kernel
theorem dX11_about_98 : decode cX11_about 98 = .ok (.ireturn, 1) := by decide +kernel
theorem dX11_about_99 : decode cX11_about 99 = .ok (.aload_n 0, 1) := by decide +kernel
theorem dX11_about_100 : decode cX11_about 100 = .ok (.getfield 213, 3) := by decide +kernel
theorem dX11_about_103 : decode cX11_about 103 = .ok (.ireturn, 1) := by decide +kernel
theorem dX11_about_104 : decode cX11_about 104 = .ok (.aload_n 0, 1) := by decide +kernel
theorem dX11_about_105 : decode cX11_about 105 = .ok (.getfield 24, 3) := by decide +kernel
theorem dX11_about_108 : decode cX11_about 108 = .ok (.getfield 179, 3) := by decide +kernel
theorem dX11_about_111 : decode cX11_about 111 = .ok (.ireturn, 1) := by decide +kernel
theorem dX11_about_112 : decode cX11_about 112 = .ok (.aload_n 0, 1) := by decide +kernel
theorem dX11_about_113 : decode cX11_about 113 = .ok (.getfield 15, 3) := by decide +kernel
theorem dX11_about_116 : decode cX11_about 116 = .ok (.ireturn, 1) := by decide +kernel
theorem dX11_about_117 : decode cX11_about 117 = .ok (.iconst (-1), 1) := by decide +kernel
theorem dX11_about_118 : decode cX11_about 118 = .ok (.ireturn, 1) := by decide +kernel
abbrev rm_X11_about : Room := { frames := 0, cells := 0, slots := 0, locals := 0 }
def wp_X11_about (a0 : Nat) (p1 : Int32) (σ : Sto) (Q : Int32 → Sto → Prop) : Prop := ((p1.toInt < 0 ∨ 8 < p1.toInt → Q (-1 : Int32) σ) ∧ (p1 = (0 : Int32) → (sK σ a0 = 11 ∧ (∃ b4 : Nat, sP σ a0 1 = some b4 ∧ (sK σ b4 = 4 ∧ (∀ x7 : Int32, x7 = sI σ b4 5 → Q x7 σ))))) ∧ (p1 = (1 : Int32) → (sK σ a0 = 11 ∧ (∃ b10 : Nat, sP σ a0 1 = some b10 ∧ (sK σ b10 = 4 ∧ (∀ x13 : Int32, x13 = sI σ b10 6 → Q x13 σ))))) ∧ (p1 = (2 : Int32) → (sK σ a0 = 11 ∧ (∃ b16 : Nat, sP σ a0 1 = some b16 ∧ (sK σ b16 = 4 ∧ (∀ x19 : Int32, x19 = sI σ b16 7 → Q x19 σ))))) ∧ (p1 = (3 : Int32) → (sK σ a0 = 11 ∧ (∀ x22 : Int32, x22 = sI σ a0 5 → ((x22 = 0 → Q (0 : Int32) σ) ∧ (¬ x22 = 0 → Q (1 : Int32) σ))))) ∧ (p1 = (4 : Int32) → (sK σ a0 = 11 ∧ (∀ x26 : Int32, x26 = sI σ a0 6 → Q x26 σ))) ∧ (p1 = (5 : Int32) → (sK σ a0 = 11 ∧ (∀ x29 : Int32, x29 = sI σ a0 7 → Q x29 σ))) ∧ (p1 = (6 : Int32) → (sK σ a0 = 11 ∧ (∀ x32 : Int32, x32 = sI σ a0 10 → Q x32 σ))) ∧ (p1 = (7 : Int32) → (sK σ a0 = 11 ∧ (∃ b35 : Nat, sP σ a0 1 = some b35 ∧ (sK σ b35 = 4 ∧ (∀ x38 : Int32, x38 = sI σ b35 8 → Q x38 σ))))) ∧ (p1 = (8 : Int32) → (sK σ a0 = 11 ∧ (∀ x41 : Int32, x41 = sI σ a0 0 → Q x41 σ))))
set_option maxHeartbeats 4000000 in
set_option maxRecDepth 100000 in
theorem c_X11_about (l : Launch) (D : va_G) (cy : Nat → ClassId) (a0 : Nat) (p1 : Int32) (σ : Sto) (Q : Int32 → Sto → Prop) (h : wp_X11_about a0 p1 σ Q) : Mt l D cy yX11_about cX11_about 2 (some .int) rm_X11_about [.ref a0, .int p1] σ (PsI Q) := by
  unfold wp_X11_about at h
  refine mt_of (by decide +kernel) (Nat.le_of_ble_eq_true rfl) ?_
  intro p e s m args below meth c A ls C hr hnm hl
  have C : Cx p s m args meth c D cy A cX11_about 2 RX11 := C
  have hl : lv_has ls 2 [(0, .ref a0), (1, .int p1)] := hl
  refine x_iload_n C dX11_about_0 rfl (lv_at hl 1 rfl) ?_
  by_cases c1 : p1.toInt < 0 ∨ 8 < p1.toInt
  · have h := h.1 c1
    refine x_tableOut (tgt := 117) C dX11_about_1 c1 (by decide) ?_
    refine x_iconst (v := -1) C dX11_about_117 (by decide) ?_
    exact x_iret C hr dX11_about_118 ⟨_, rfl, h⟩
  · rcases (show p1.toInt = 0 ∨ p1.toInt = 1 ∨ p1.toInt = 2 ∨ p1.toInt = 3 ∨ p1.toInt = 4 ∨ p1.toInt = 5 ∨ p1.toInt = 6 ∨ p1.toInt = 7 ∨ p1.toInt = 8 by omega) with c2 | c2 | c2 | c2 | c2 | c2 | c2 | c2 | c2
    · have h := h.2.1 (sw_eq (k := 0) (c2.trans (by decide)))
      refine x_tableIn (tgt := 52) (off := 51) C dX11_about_1 (by omega) (by omega) (by rw [c2]; rfl) (by decide) ?_
      refine x_aload_n C dX11_about_52 rfl (lv_at hl 0 rfl) ?_
      obtain ⟨g3, h⟩ := h
      refine x_getP C fl_RX11_24 g3 dX11_about_53 ?_
      obtain ⟨b4, g5, h⟩ := h
      refine x_nn0 g5 ?_
      obtain ⟨g6, h⟩ := h
      refine x_getI C fl_RX11_148 g6 dX11_about_56 ?_
      refine x_topi (fun x7 e8 => ?_)
      have h := h x7 e8
      exact x_iret C hr dX11_about_59 ⟨_, rfl, h⟩
    · have h := h.2.2.1 (sw_eq (k := 1) (c2.trans (by decide)))
      refine x_tableIn (tgt := 60) (off := 59) C dX11_about_1 (by omega) (by omega) (by rw [c2]; rfl) (by decide) ?_
      refine x_aload_n C dX11_about_60 rfl (lv_at hl 0 rfl) ?_
      obtain ⟨g9, h⟩ := h
      refine x_getP C fl_RX11_24 g9 dX11_about_61 ?_
      obtain ⟨b10, g11, h⟩ := h
      refine x_nn0 g11 ?_
      obtain ⟨g12, h⟩ := h
      refine x_getI C fl_RX11_190 g12 dX11_about_64 ?_
      refine x_topi (fun x13 e14 => ?_)
      have h := h x13 e14
      exact x_iret C hr dX11_about_67 ⟨_, rfl, h⟩
    · have h := h.2.2.2.1 (sw_eq (k := 2) (c2.trans (by decide)))
      refine x_tableIn (tgt := 68) (off := 67) C dX11_about_1 (by omega) (by omega) (by rw [c2]; rfl) (by decide) ?_
      refine x_aload_n C dX11_about_68 rfl (lv_at hl 0 rfl) ?_
      obtain ⟨g15, h⟩ := h
      refine x_getP C fl_RX11_24 g15 dX11_about_69 ?_
      obtain ⟨b16, g17, h⟩ := h
      refine x_nn0 g17 ?_
      obtain ⟨g18, h⟩ := h
      refine x_getI C fl_RX11_143 g18 dX11_about_72 ?_
      refine x_topi (fun x19 e20 => ?_)
      have h := h x19 e20
      exact x_iret C hr dX11_about_75 ⟨_, rfl, h⟩
    · have h := h.2.2.2.2.1 (sw_eq (k := 3) (c2.trans (by decide)))
      refine x_tableIn (tgt := 76) (off := 75) C dX11_about_1 (by omega) (by omega) (by rw [c2]; rfl) (by decide) ?_
      refine x_aload_n C dX11_about_76 rfl (lv_at hl 0 rfl) ?_
      obtain ⟨g21, h⟩ := h
      refine x_getZ C fl_RX11_53 g21 dX11_about_77 ?_
      refine x_topi (fun x22 e23 => ?_)
      have h := h x22 e23
      refine x_if_eq (tgt := 87) C dX11_about_80 (by decide) (fun c24 => ?_) (fun c24 => ?_)
      · have h := h.1 c24
        refine x_iconst (v := 0) C dX11_about_87 (by decide) ?_
        exact x_iret C hr dX11_about_88 ⟨_, rfl, h⟩
      · have h := h.2 c24
        refine x_iconst (v := 1) C dX11_about_83 (by decide) ?_
        refine x_goto (tgt := 88) C dX11_about_84 (by decide) ?_
        exact x_iret C hr dX11_about_88 ⟨_, rfl, h⟩
    · have h := h.2.2.2.2.2.1 (sw_eq (k := 4) (c2.trans (by decide)))
      refine x_tableIn (tgt := 89) (off := 88) C dX11_about_1 (by omega) (by omega) (by rw [c2]; rfl) (by decide) ?_
      refine x_aload_n C dX11_about_89 rfl (lv_at hl 0 rfl) ?_
      obtain ⟨g25, h⟩ := h
      refine x_getI C fl_RX11_57 g25 dX11_about_90 ?_
      refine x_topi (fun x26 e27 => ?_)
      have h := h x26 e27
      exact x_iret C hr dX11_about_93 ⟨_, rfl, h⟩
    · have h := h.2.2.2.2.2.2.1 (sw_eq (k := 5) (c2.trans (by decide)))
      refine x_tableIn (tgt := 94) (off := 93) C dX11_about_1 (by omega) (by omega) (by rw [c2]; rfl) (by decide) ?_
      refine x_aload_n C dX11_about_94 rfl (lv_at hl 0 rfl) ?_
      obtain ⟨g28, h⟩ := h
      refine x_getI C fl_RX11_300 g28 dX11_about_95 ?_
      refine x_topi (fun x29 e30 => ?_)
      have h := h x29 e30
      exact x_iret C hr dX11_about_98 ⟨_, rfl, h⟩
    · have h := h.2.2.2.2.2.2.2.1 (sw_eq (k := 6) (c2.trans (by decide)))
      refine x_tableIn (tgt := 99) (off := 98) C dX11_about_1 (by omega) (by omega) (by rw [c2]; rfl) (by decide) ?_
      refine x_aload_n C dX11_about_99 rfl (lv_at hl 0 rfl) ?_
      obtain ⟨g31, h⟩ := h
      refine x_getI C fl_RX11_213 g31 dX11_about_100 ?_
      refine x_topi (fun x32 e33 => ?_)
      have h := h x32 e33
      exact x_iret C hr dX11_about_103 ⟨_, rfl, h⟩
    · have h := h.2.2.2.2.2.2.2.2.1 (sw_eq (k := 7) (c2.trans (by decide)))
      refine x_tableIn (tgt := 104) (off := 103) C dX11_about_1 (by omega) (by omega) (by rw [c2]; rfl) (by decide) ?_
      refine x_aload_n C dX11_about_104 rfl (lv_at hl 0 rfl) ?_
      obtain ⟨g34, h⟩ := h
      refine x_getP C fl_RX11_24 g34 dX11_about_105 ?_
      obtain ⟨b35, g36, h⟩ := h
      refine x_nn0 g36 ?_
      obtain ⟨g37, h⟩ := h
      refine x_getI C fl_RX11_179 g37 dX11_about_108 ?_
      refine x_topi (fun x38 e39 => ?_)
      have h := h x38 e39
      exact x_iret C hr dX11_about_111 ⟨_, rfl, h⟩
    · have h := h.2.2.2.2.2.2.2.2.2 (sw_eq (k := 8) (c2.trans (by decide)))
      refine x_tableIn (tgt := 112) (off := 111) C dX11_about_1 (by omega) (by omega) (by rw [c2]; rfl) (by decide) ?_
      refine x_aload_n C dX11_about_112 rfl (lv_at hl 0 rfl) ?_
      obtain ⟨g40, h⟩ := h
      refine x_getI C fl_RX11_15 g40 dX11_about_113 ?_
      refine x_topi (fun x41 e42 => ?_)
      have h := h x41 e42
      exact x_iret C hr dX11_about_116 ⟨_, rfl, h⟩
theorem dX11_message_0 : decode cX11_message 0 = .ok (.iload_n 1, 1) := by decide +kernel
theorem dX11_message_1 : decode cX11_message 1 = .ok (.ifCond .lt 14, 3) := by decide +kernel
theorem dX11_message_4 : decode cX11_message 4 = .ok (.iload_n 1, 1) := by decide +kernel
theorem dX11_message_5 : decode cX11_message 5 = .ok (.aload_n 0, 1) := by decide +kernel
theorem dX11_message_6 : decode cX11_message 6 = .ok (.getfield 24, 3) := by decide +kernel
theorem dX11_message_9 : decode cX11_message 9 = .ok (.getfield 148, 3) := by decide +kernel
theorem dX11_message_12 : decode cX11_message 12 = .ok (.if_icmp .lt 5, 3) := by decide +kernel
theorem dX11_message_15 : decode cX11_message 15 = .ok (.iconst (-1), 1) := by decide +kernel
theorem dX11_message_16 : decode cX11_message 16 = .ok (.ireturn, 1) := by decide +kernel
theorem dX11_message_17 : decode cX11_message 17 = .ok (.aload_n 0, 1) := by decide +kernel
theorem dX11_message_18 : decode cX11_message 18 = .ok (.getfield 24, 3) := by decide +kernel
theorem dX11_message_21 : decode cX11_message 21 = .ok (.iload_n 1, 1) := by decide +kernel
theorem dX11_message_22 : decode cX11_message 22 = .ok (.invokevirtual 303, 3) := by decide +kernel
theorem dX11_message_25 : decode cX11_message 25 = .ok (.astore_n 3, 1) := by decide +kernel
theorem dX11_message_26 : decode cX11_message 26 = .ok (.iload_n 2, 1) := by decide +kernel
theorem dX11_message_27 : decode cX11_message 27 = .ok (.tableswitch 49 0 3 #[29, 34, 39, 44], 29) := by decide +kernel
theorem dX11_message_56 : decode cX11_message 56 = .ok (.aload_n 3, 1) := by decide +kernel
theorem dX11_message_57 : decode cX11_message 57 = .ok (.getfield 305, 3) := by decide +kernel
theorem dX11_message_60 : decode cX11_message 60 = .ok (.ireturn, 1) := by decide +kernel
theorem dX11_message_61 : decode cX11_message 61 = .ok (.aload_n 3, 1) := by decide +kernel
theorem dX11_message_62 : decode cX11_message 62 = .ok (.getfield 308, 3) := by decide +kernel
theorem dX11_message_65 : decode cX11_message 65 = .ok (.ireturn, 1) := by decide +kernel
theorem dX11_message_66 : decode cX11_message 66 = .ok (.aload_n 3, 1) := by decide +kernel
theorem dX11_message_67 : decode cX11_message 67 = .ok (.getfield 309, 3) := by decide +kernel
theorem dX11_message_70 : decode cX11_message 70 = .ok (.ireturn, 1) := by decide +kernel
theorem dX11_message_71 : decode cX11_message 71 = .ok (.aload_n 3, 1) := by decide +kernel
theorem dX11_message_72 : decode cX11_message 72 = .ok (.getfield 312, 3) := by decide +kernel
theorem dX11_message_75 : decode cX11_message 75 = .ok (.ireturn, 1) := by decide +kernel
theorem dX11_message_76 : decode cX11_message 76 = .ok (.iconst (-1), 1) := by decide +kernel
theorem dX11_message_77 : decode cX11_message 77 = .ok (.ireturn, 1) := by decide +kernel
abbrev rm_X11_message : Room := { frames := 1, cells := 0, slots := 0, locals := 21 }
def wp_X11_message (a0 : Nat) (p1 : Int32) (p2 : Int32) (σ : Sto) (Q : Int32 → Sto → Prop) : Prop := ((p1 < 0 → Q (-1 : Int32) σ) ∧ (¬ p1 < 0 → (sK σ a0 = 11 ∧ (∃ b3 : Nat, sP σ a0 1 = some b3 ∧ (sK σ b3 = 4 ∧ (∀ x6 : Int32, x6 = sI σ b3 5 → ((p1 < x6 → (wp_X4_at b3 p1 σ (fun (r10 : Option Nat) (σ9 : Sto) => ((p2.toInt < 0 ∨ 3 < p2.toInt → Q (-1 : Int32) σ9) ∧ (p2 = (0 : Int32) → (∃ b13 : Nat, r10 = some b13 ∧ (sK σ9 b13 = 3 ∧ (∀ x16 : Int32, x16 = sI σ9 b13 0 → Q x16 σ9)))) ∧ (p2 = (1 : Int32) → (∃ b18 : Nat, r10 = some b18 ∧ (sK σ9 b18 = 3 ∧ (∀ x21 : Int32, x21 = sI σ9 b18 1 → Q x21 σ9)))) ∧ (p2 = (2 : Int32) → (∃ b23 : Nat, r10 = some b23 ∧ (sK σ9 b23 = 3 ∧ (∀ x26 : Int32, x26 = sI σ9 b23 2 → Q x26 σ9)))) ∧ (p2 = (3 : Int32) → (∃ b28 : Nat, r10 = some b28 ∧ (sK σ9 b28 = 3 ∧ (∀ x31 : Int32, x31 = sI σ9 b28 3 → Q x31 σ9)))))))) ∧ (¬ p1 < x6 → Q (-1 : Int32) σ))))))))
set_option maxHeartbeats 4000000 in
set_option maxRecDepth 100000 in
theorem c_X11_message (l : Launch) (D : va_G) (cy : Nat → ClassId) (a0 : Nat) (p1 : Int32) (p2 : Int32) (σ : Sto) (Q : Int32 → Sto → Prop) (h : wp_X11_message a0 p1 p2 σ Q) : Mt l D cy yX11_message cX11_message 4 (some .int) rm_X11_message [.ref a0, .int p1, .int p2] σ (PsI Q) := by
  unfold wp_X11_message at h
  refine mt_of (by decide +kernel) (Nat.le_of_ble_eq_true rfl) ?_
  intro p e s m args below meth c A ls C hr hnm hl
  have C : Cx p s m args meth c D cy A cX11_message 4 RX11 := C
  have hl : lv_has ls 4 [(0, .ref a0), (1, .int p1), (2, .int p2)] := hl
  refine x_iload_n C dX11_message_0 rfl (lv_at hl 1 rfl) ?_
  refine x_if_lt (tgt := 15) C dX11_message_1 (by decide) (fun c1 => ?_) (fun c1 => ?_)
  · have h := h.1 c1
    refine x_iconst (v := -1) C dX11_message_15 (by decide) ?_
    exact x_iret C hr dX11_message_16 ⟨_, rfl, h⟩
  · have h := h.2 c1
    refine x_iload_n C dX11_message_4 rfl (lv_at hl 1 rfl) ?_
    refine x_aload_n C dX11_message_5 rfl (lv_at hl 0 rfl) ?_
    obtain ⟨g2, h⟩ := h
    refine x_getP C fl_RX11_24 g2 dX11_message_6 ?_
    obtain ⟨b3, g4, h⟩ := h
    refine x_nn0 g4 ?_
    obtain ⟨g5, h⟩ := h
    refine x_getI C fl_RX11_148 g5 dX11_message_9 ?_
    refine x_topi (fun x6 e7 => ?_)
    have h := h x6 e7
    refine x_icmp_lt (tgt := 17) C dX11_message_12 (by decide) (fun c8 => ?_) (fun c8 => ?_)
    · have h := h.1 c8
      refine x_aload_n C dX11_message_17 rfl (lv_at hl 0 rfl) ?_
      refine x_getP C fl_RX11_24 g2 dX11_message_18 ?_
      refine x_iload_n C dX11_message_21 rfl (lv_at hl 1 rfl) ?_
      refine x_nn1 g4 ?_
      refine x_callV (rm := rm_X4_at) (rest := []) (As := [.int p1]) C cy_RX11_303 g5 (by decide) (by decide) rfl rfl (Nat.le_of_ble_eq_true rfl) hl.1 dX11_message_22 (c_X4_at l D cy b3 p1 σ _ h) (ks_p (fun r10 σ9 h => ?_))
      refine x_astore_nq (i := 3) (lv' := [(3, va_rf r10), (0, .ref a0), (1, .int p1), (2, .int p2)]) C dX11_message_25 rfl hl (by decide) (by first | rfl | simp [vrc, cat_i, cat_r, cat_l]) (fun ls hl => ?_)
      refine x_iload_n C dX11_message_26 rfl (lv_at hl 3 rfl) ?_
      by_cases c11 : p2.toInt < 0 ∨ 3 < p2.toInt
      · have h := h.1 c11
        refine x_tableOut (tgt := 76) C dX11_message_27 c11 (by decide) ?_
        refine x_iconst (v := -1) C dX11_message_76 (by decide) ?_
        exact x_iret C hr dX11_message_77 ⟨_, rfl, h⟩
      · rcases (show p2.toInt = 0 ∨ p2.toInt = 1 ∨ p2.toInt = 2 ∨ p2.toInt = 3 by omega) with c12 | c12 | c12 | c12
        · have h := h.2.1 (sw_eq (k := 0) (c12.trans (by decide)))
          refine x_tableIn (tgt := 56) (off := 29) C dX11_message_27 (by omega) (by omega) (by rw [c12]; rfl) (by decide) ?_
          refine x_aload_nq C dX11_message_56 rfl (lv_at hl 0 rfl) ?_
          obtain ⟨b13, g14, h⟩ := h
          refine x_nn0 g14 ?_
          obtain ⟨g15, h⟩ := h
          refine x_getI C fl_RX11_305 g15 dX11_message_57 ?_
          refine x_topi (fun x16 e17 => ?_)
          have h := h x16 e17
          exact x_iret C hr dX11_message_60 ⟨_, rfl, h⟩
        · have h := h.2.2.1 (sw_eq (k := 1) (c12.trans (by decide)))
          refine x_tableIn (tgt := 61) (off := 34) C dX11_message_27 (by omega) (by omega) (by rw [c12]; rfl) (by decide) ?_
          refine x_aload_nq C dX11_message_61 rfl (lv_at hl 0 rfl) ?_
          obtain ⟨b18, g19, h⟩ := h
          refine x_nn0 g19 ?_
          obtain ⟨g20, h⟩ := h
          refine x_getI C fl_RX11_308 g20 dX11_message_62 ?_
          refine x_topi (fun x21 e22 => ?_)
          have h := h x21 e22
          exact x_iret C hr dX11_message_65 ⟨_, rfl, h⟩
        · have h := h.2.2.2.1 (sw_eq (k := 2) (c12.trans (by decide)))
          refine x_tableIn (tgt := 66) (off := 39) C dX11_message_27 (by omega) (by omega) (by rw [c12]; rfl) (by decide) ?_
          refine x_aload_nq C dX11_message_66 rfl (lv_at hl 0 rfl) ?_
          obtain ⟨b23, g24, h⟩ := h
          refine x_nn0 g24 ?_
          obtain ⟨g25, h⟩ := h
          refine x_getI C fl_RX11_309 g25 dX11_message_67 ?_
          refine x_topi (fun x26 e27 => ?_)
          have h := h x26 e27
          exact x_iret C hr dX11_message_70 ⟨_, rfl, h⟩
        · have h := h.2.2.2.2 (sw_eq (k := 3) (c12.trans (by decide)))
          refine x_tableIn (tgt := 71) (off := 44) C dX11_message_27 (by omega) (by omega) (by rw [c12]; rfl) (by decide) ?_
          refine x_aload_nq C dX11_message_71 rfl (lv_at hl 0 rfl) ?_
          obtain ⟨b28, g29, h⟩ := h
          refine x_nn0 g29 ?_
          obtain ⟨g30, h⟩ := h
          refine x_getI C fl_RX11_312 g30 dX11_message_72 ?_
          refine x_topi (fun x31 e32 => ?_)
          have h := h x31 e32
          exact x_iret C hr dX11_message_75 ⟨_, rfl, h⟩
    · have h := h.2 c8
      refine x_iconst (v := -1) C dX11_message_15 (by decide) ?_
      exact x_iret C hr dX11_message_16 ⟨_, rfl, h⟩
theorem dX11_wire_0 : decode cX11_wire 0 = .ok (.iload_n 1, 1) := by decide +kernel
theorem dX11_wire_1 : decode cX11_wire 1 = .ok (.ifCond .lt 14, 3) := by decide +kernel
theorem dX11_wire_4 : decode cX11_wire 4 = .ok (.iload_n 1, 1) := by decide +kernel
theorem dX11_wire_5 : decode cX11_wire 5 = .ok (.aload_n 0, 1) := by decide +kernel
theorem dX11_wire_6 : decode cX11_wire 6 = .ok (.getfield 24, 3) := by decide +kernel
theorem dX11_wire_9 : decode cX11_wire 9 = .ok (.getfield 148, 3) := by decide +kernel
theorem dX11_wire_12 : decode cX11_wire 12 = .ok (.if_icmp .lt 5, 3) := by decide +kernel
theorem dX11_wire_15 : decode cX11_wire 15 = .ok (.iconst (-1), 1) := by decide +kernel
theorem dX11_wire_16 : decode cX11_wire 16 = .ok (.ireturn, 1) := by decide +kernel
theorem dX11_wire_17 : decode cX11_wire 17 = .ok (.aload_n 0, 1) := by decide +kernel
theorem dX11_wire_18 : decode cX11_wire 18 = .ok (.getfield 24, 3) := by decide +kernel
theorem dX11_wire_21 : decode cX11_wire 21 = .ok (.iload_n 1, 1) := by decide +kernel
theorem dX11_wire_22 : decode cX11_wire 22 = .ok (.invokevirtual 303, 3) := by decide +kernel
theorem dX11_wire_25 : decode cX11_wire 25 = .ok (.aload_n 0, 1) := by decide +kernel
theorem dX11_wire_26 : decode cX11_wire 26 = .ok (.getfield 70, 3) := by decide +kernel
theorem dX11_wire_29 : decode cX11_wire 29 = .ok (.invokevirtual 315, 3) := by decide +kernel
theorem dX11_wire_32 : decode cX11_wire 32 = .ok (.aload_n 0, 1) := by decide +kernel
theorem dX11_wire_33 : decode cX11_wire 33 = .ok (.getfield 70, 3) := by decide +kernel
theorem dX11_wire_36 : decode cX11_wire 36 = .ok (.getfield 318, 3) := by decide +kernel
theorem dX11_wire_39 : decode cX11_wire 39 = .ok (.ireturn, 1) := by decide +kernel
abbrev rm_X11_wire : Room := { frames := 6, cells := 0, slots := 0, locals := 130 }
def wp_X11_wire (a0 : Nat) (p1 : Int32) (σ : Sto) (Q : Int32 → Sto → Prop) : Prop := ((p1 < 0 → Q (-1 : Int32) σ) ∧ (¬ p1 < 0 → (sK σ a0 = 11 ∧ (∃ b3 : Nat, sP σ a0 1 = some b3 ∧ (sK σ b3 = 4 ∧ (∀ x6 : Int32, x6 = sI σ b3 5 → ((p1 < x6 → (wp_X4_at b3 p1 σ (fun (r10 : Option Nat) (σ9 : Sto) => (sK σ9 a0 = 11 ∧ (∃ b12 : Nat, r10 = some b12 ∧ (sK σ9 b12 = 3 ∧ (wp_X3_write b12 (sP σ9 a0 11) σ9 (fun (σ15 : Sto) => (sK σ15 a0 = 11 ∧ (∃ b17 : Nat, sP σ15 a0 11 = some b17 ∧ (sK σ15 b17 = 0 ∧ (∀ x20 : Int32, x20 = sI σ15 b17 1 → Q x20 σ15)))))))))))) ∧ (¬ p1 < x6 → Q (-1 : Int32) σ))))))))
set_option maxHeartbeats 4000000 in
set_option maxRecDepth 100000 in
theorem c_X11_wire (l : Launch) (D : va_G) (cy : Nat → ClassId) (a0 : Nat) (p1 : Int32) (σ : Sto) (Q : Int32 → Sto → Prop) (h : wp_X11_wire a0 p1 σ Q) : Mt l D cy yX11_wire cX11_wire 2 (some .int) rm_X11_wire [.ref a0, .int p1] σ (PsI Q) := by
  unfold wp_X11_wire at h
  refine mt_of (by decide +kernel) (Nat.le_of_ble_eq_true rfl) ?_
  intro p e s m args below meth c A ls C hr hnm hl
  have C : Cx p s m args meth c D cy A cX11_wire 2 RX11 := C
  have hl : lv_has ls 2 [(0, .ref a0), (1, .int p1)] := hl
  refine x_iload_n C dX11_wire_0 rfl (lv_at hl 1 rfl) ?_
  refine x_if_lt (tgt := 15) C dX11_wire_1 (by decide) (fun c1 => ?_) (fun c1 => ?_)
  · have h := h.1 c1
    refine x_iconst (v := -1) C dX11_wire_15 (by decide) ?_
    exact x_iret C hr dX11_wire_16 ⟨_, rfl, h⟩
  · have h := h.2 c1
    refine x_iload_n C dX11_wire_4 rfl (lv_at hl 1 rfl) ?_
    refine x_aload_n C dX11_wire_5 rfl (lv_at hl 0 rfl) ?_
    obtain ⟨g2, h⟩ := h
    refine x_getP C fl_RX11_24 g2 dX11_wire_6 ?_
    obtain ⟨b3, g4, h⟩ := h
    refine x_nn0 g4 ?_
    obtain ⟨g5, h⟩ := h
    refine x_getI C fl_RX11_148 g5 dX11_wire_9 ?_
    refine x_topi (fun x6 e7 => ?_)
    have h := h x6 e7
    refine x_icmp_lt (tgt := 17) C dX11_wire_12 (by decide) (fun c8 => ?_) (fun c8 => ?_)
    · have h := h.1 c8
      refine x_aload_n C dX11_wire_17 rfl (lv_at hl 0 rfl) ?_
      refine x_getP C fl_RX11_24 g2 dX11_wire_18 ?_
      refine x_iload_n C dX11_wire_21 rfl (lv_at hl 1 rfl) ?_
      refine x_nn1 g4 ?_
      refine x_callV (rm := rm_X4_at) (rest := []) (As := [.int p1]) C cy_RX11_303 g5 (by decide) (by decide) rfl rfl (Nat.le_of_ble_eq_true rfl) hl.1 dX11_wire_22 (c_X4_at l D cy b3 p1 σ _ h) (ks_p (fun r10 σ9 h => ?_))
      refine x_aload_n C dX11_wire_25 rfl (lv_at hl 0 rfl) ?_
      obtain ⟨g11, h⟩ := h
      refine x_getP C fl_RX11_70 g11 dX11_wire_26 ?_
      obtain ⟨b12, g13, h⟩ := h
      refine x_nn1 g13 ?_
      obtain ⟨g14, h⟩ := h
      refine x_callV (rm := rm_X3_write) (rest := []) (As := [va_rf (sP σ9 a0 11)]) C cy_RX11_315 g14 (by decide) (by decide) rfl rfl (Nat.le_of_ble_eq_true rfl) hl.1 dX11_wire_29 (c_X3_write l D cy b12 (sP σ9 a0 11) σ9 _ h) (ks_v (fun σ15 h => ?_))
      refine x_aload_n C dX11_wire_32 rfl (lv_at hl 0 rfl) ?_
      obtain ⟨g16, h⟩ := h
      refine x_getP C fl_RX11_70 g16 dX11_wire_33 ?_
      obtain ⟨b17, g18, h⟩ := h
      refine x_nn0 g18 ?_
      obtain ⟨g19, h⟩ := h
      refine x_getI C fl_RX11_318 g19 dX11_wire_36 ?_
      refine x_topi (fun x20 e21 => ?_)
      have h := h x20 e21
      exact x_iret C hr dX11_wire_39 ⟨_, rfl, h⟩
    · have h := h.2 c8
      refine x_iconst (v := -1) C dX11_wire_15 (by decide) ?_
      exact x_iret C hr dX11_wire_16 ⟨_, rfl, h⟩
theorem dX11_output_0 : decode cX11_output 0 = .ok (.aload_n 0, 1) := by decide +kernel
theorem dX11_output_1 : decode cX11_output 1 = .ok (.getfield 70, 3) := by decide +kernel
theorem dX11_output_4 : decode cX11_output 4 = .ok (.iload_n 1, 1) := by decide +kernel
theorem dX11_output_5 : decode cX11_output 5 = .ok (.invokevirtual 329, 3) := by decide +kernel
theorem dX11_output_8 : decode cX11_output 8 = .ok (.ireturn, 1) := by decide +kernel
abbrev rm_X11_output : Room := { frames := 1, cells := 0, slots := 0, locals := 21 }
def wp_X11_output (a0 : Nat) (p1 : Int32) (σ : Sto) (Q : Int32 → Sto → Prop) : Prop := (sK σ a0 = 11 ∧ (∃ b2 : Nat, sP σ a0 11 = some b2 ∧ (sK σ b2 = 0 ∧ (wp_X0_at b2 p1 σ (fun (x6 : Int32) (σ5 : Sto) => Q x6 σ5)))))
set_option maxHeartbeats 4000000 in
set_option maxRecDepth 100000 in
theorem c_X11_output (l : Launch) (D : va_G) (cy : Nat → ClassId) (a0 : Nat) (p1 : Int32) (σ : Sto) (Q : Int32 → Sto → Prop) (h : wp_X11_output a0 p1 σ Q) : Mt l D cy yX11_output cX11_output 2 (some .int) rm_X11_output [.ref a0, .int p1] σ (PsI Q) := by
  unfold wp_X11_output at h
  refine mt_of (by decide +kernel) (Nat.le_of_ble_eq_true rfl) ?_
  intro p e s m args below meth c A ls C hr hnm hl
  have C : Cx p s m args meth c D cy A cX11_output 2 RX11 := C
  have hl : lv_has ls 2 [(0, .ref a0), (1, .int p1)] := hl
  refine x_aload_n C dX11_output_0 rfl (lv_at hl 0 rfl) ?_
  obtain ⟨g1, h⟩ := h
  refine x_getP C fl_RX11_70 g1 dX11_output_1 ?_
  refine x_iload_n C dX11_output_4 rfl (lv_at hl 1 rfl) ?_
  obtain ⟨b2, g3, h⟩ := h
  refine x_nn1 g3 ?_
  obtain ⟨g4, h⟩ := h
  refine x_callV (rm := rm_X0_at) (rest := []) (As := [.int p1]) C cy_RX11_329 g4 (by decide) (by decide) rfl rfl (Nat.le_of_ble_eq_true rfl) hl.1 dX11_output_5 (c_X0_at l D cy b2 p1 σ _ h) (ks_i (fun x6 σ5 h => ?_))
  exact x_iret C hr dX11_output_8 ⟨_, rfl, h⟩
theorem dX11_put_0 : decode cX11_put 0 = .ok (.iload_n 3, 1) := by decide +kernel
theorem dX11_put_1 : decode cX11_put 1 = .ok (.ifCond .lt 24, 3) := by decide +kernel
theorem dX11_put_4 : decode cX11_put 4 = .ok (.iload_n 3, 1) := by decide +kernel
theorem dX11_put_5 : decode cX11_put 5 = .ok (.bipush 8, 2) := by decide +kernel
theorem dX11_put_7 : decode cX11_put 7 = .ok (.if_icmp .gt 18, 3) := by decide +kernel
theorem dX11_put_10 : decode cX11_put 10 = .ok (.aload_n 0, 1) := by decide +kernel
theorem dX11_put_11 : decode cX11_put 11 = .ok (.getfield 74, 3) := by decide +kernel
theorem dX11_put_14 : decode cX11_put 14 = .ok (.getfield 318, 3) := by decide +kernel
theorem dX11_put_17 : decode cX11_put 17 = .ok (.iload_n 3, 1) := by decide +kernel
theorem dX11_put_18 : decode cX11_put 18 = .ok (.iadd, 1) := by decide +kernel
theorem dX11_put_19 : decode cX11_put 19 = .ok (.sipush 1500, 3) := by decide +kernel
theorem dX11_put_22 : decode cX11_put 22 = .ok (.if_icmp .le 5, 3) := by decide +kernel
theorem dX11_put_25 : decode cX11_put 25 = .ok (.iconst 0, 1) := by decide +kernel
theorem dX11_put_26 : decode cX11_put 26 = .ok (.ireturn, 1) := by decide +kernel
theorem dX11_put_27 : decode cX11_put 27 = .ok (.bipush 8, 2) := by decide +kernel
theorem dX11_put_29 : decode cX11_put 29 = .ok (.iload_n 3, 1) := by decide +kernel
theorem dX11_put_30 : decode cX11_put 30 = .ok (.iconst 1, 1) := by decide +kernel
theorem dX11_put_31 : decode cX11_put 31 = .ok (.isub, 1) := by decide +kernel
theorem dX11_put_32 : decode cX11_put 32 = .ok (.imul, 1) := by decide +kernel
theorem dX11_put_33 : decode cX11_put 33 = .ok (.istore 4, 2) := by decide +kernel
theorem dX11_put_35 : decode cX11_put 35 = .ok (.iload 4, 2) := by decide +kernel
theorem dX11_put_37 : decode cX11_put 37 = .ok (.ifCond .lt 21, 3) := by decide +kernel
theorem dX11_put_40 : decode cX11_put 40 = .ok (.aload_n 0, 1) := by decide +kernel
theorem dX11_put_41 : decode cX11_put 41 = .ok (.getfield 74, 3) := by decide +kernel
theorem dX11_put_44 : decode cX11_put 44 = .ok (.lload_n 1, 1) := by decide +kernel
theorem dX11_put_45 : decode cX11_put 45 = .ok (.iload 4, 2) := by decide +kernel
theorem dX11_put_47 : decode cX11_put 47 = .ok (.lushr, 1) := by decide +kernel
theorem dX11_put_48 : decode cX11_put 48 = .ok (.l2i, 1) := by decide +kernel
theorem dX11_put_49 : decode cX11_put 49 = .ok (.invokevirtual 331, 3) := by decide +kernel
theorem dX11_put_52 : decode cX11_put 52 = .ok (.iinc 4 (-8), 3) := by decide +kernel
theorem dX11_put_55 : decode cX11_put 55 = .ok (.goto (-20), 3) := by decide +kernel
theorem dX11_put_58 : decode cX11_put 58 = .ok (.iconst 1, 1) := by decide +kernel
theorem dX11_put_59 : decode cX11_put 59 = .ok (.ireturn, 1) := by decide +kernel
abbrev rm_X11_put : Room := { frames := 1, cells := 0, slots := 0, locals := 21 }
def f_X11_put_35 (a0 : Nat)  (Q : Int32 → Sto → Prop) (L35 : Int64 × Int32 → Sto → Prop) (t : Int64 × Int32) (σ : Sto) : Prop := ((t.2 < 0 → Q (1 : Int32) σ) ∧ (¬ t.2 < 0 → (sK σ a0 = 11 ∧ (∃ b3 : Nat, sP σ a0 12 = some b3 ∧ (sK σ b3 = 0 ∧ (wp_X0_add b3 (((t.1.toUInt64 >>> (t.2.toInt64.toUInt64 &&& Int64.toUInt64 63)).toInt64).toInt32) σ (fun (σ6 : Sto) => (∀ x7 : Int32, x7 = t.2 + (-8 : Int32) → L35 (t.1, x7) σ6))))))))
set_option maxHeartbeats 4000000 in
set_option maxRecDepth 100000 in
theorem t_X11_put_35 {p : Program} {l : Launch} {e : Env} {s : State} {m : MethodId} {args : Array Value} {below : List Frame} {meth : Method} {c : Code} {D : va_G} {cy : Nat → ClassId} {A : Nat → Prop} {a0 : Nat} {Q : Int32 → Sto → Prop} {L35 : Int64 × Int32 → Sto → Prop} (C : Cx p s m args meth c D cy A cX11_put 5 RX11) (hr : meth.sig.returnType = (some .boolean)) (hnm : meth.name = yX11_put.name) (hL35 : ∀ (t : Int64 × Int32) (σ : Sto), L35 t σ → ∀ ls : Array Slot, lv_has ls 5 [(0, .ref a0), (1, .long t.1), (4, .int t.2)] → Xw p l e rm_X11_put s m args below meth c D cy A σ 0 0 (MQ below (Qst D cy A (PsI Q)) args s rm_X11_put.cells rm_X11_put.slots A) (F0 m 35 ls [])) : ∀ (t : Int64 × Int32) (σ : Sto), f_X11_put_35 a0  Q L35 t σ → ∀ ls : Array Slot, lv_has ls 5 [(0, .ref a0), (1, .long t.1), (4, .int t.2)] → Xw p l e rm_X11_put s m args below meth c D cy A σ 0 0 (MQ below (Qst D cy A (PsI Q)) args s rm_X11_put.cells rm_X11_put.slots A) (F0 m 35 ls []) := by
  intro t σ h ls hl
  unfold f_X11_put_35 at h
  refine x_iload C dX11_put_35 (lv_at hl 2 rfl) ?_
  refine x_if_lt (tgt := 58) C dX11_put_37 (by decide) (fun c1 => ?_) (fun c1 => ?_)
  · have h := h.1 c1
    refine x_iconst (v := 1) C dX11_put_58 (by decide) ?_
    exact x_zret C hr dX11_put_59 (by decide) ⟨_, rfl, h⟩
  · have h := h.2 c1
    refine x_aload_n C dX11_put_40 rfl (lv_at hl 0 rfl) ?_
    obtain ⟨g2, h⟩ := h
    refine x_getP C fl_RX11_74 g2 dX11_put_41 ?_
    refine x_lload_n C dX11_put_44 rfl (lv_at hl 1 rfl) ?_
    refine x_iload C dX11_put_45 (lv_at hl 2 rfl) ?_
    refine x_lushr C dX11_put_47 ?_
    refine x_l2i C dX11_put_48 ?_
    obtain ⟨b3, g4, h⟩ := h
    refine x_nn1 g4 ?_
    obtain ⟨g5, h⟩ := h
    refine x_callV (rm := rm_X0_add) (rest := []) (As := [.int (((t.1.toUInt64 >>> (t.2.toInt64.toUInt64 &&& Int64.toUInt64 63)).toInt64).toInt32)]) C cy_RX11_331 g5 (by decide) (by decide) rfl rfl (Nat.le_of_ble_eq_true rfl) hl.1 dX11_put_49 (c_X0_add l D cy b3 (((t.1.toUInt64 >>> (t.2.toInt64.toUInt64 &&& Int64.toUInt64 63)).toInt64).toInt32) σ _ h) (ks_v (fun σ6 h => ?_))
    obtain ⟨x7, e8⟩ : ∃ z : Int32, z = t.2 + (-8 : Int32) := ⟨_, rfl⟩
    have h := h x7 e8
    refine x_iinc (v := x7) (lv' := [(4, .int x7), (0, .ref a0), (1, .long t.1)]) C dX11_put_52 hl (q0 := 2) rfl (by rw [e8]; rfl) (by decide) (by first | rfl | simp [vrc, cat_i, cat_r, cat_l]) (fun ls hl => ?_)
    refine x_goto (tgt := 35) C dX11_put_55 (by decide) ?_
    exact hL35 (t.1, x7) _ h ls (lv_sub hl [1, 2, 0] rfl)
def wp_X11_put (a0 : Nat) (p1 : Int64) (p3 : Int32) (σ : Sto) (Q : Int32 → Sto → Prop) : Prop := ((p3 < 0 → Q (0 : Int32) σ) ∧ (¬ p3 < 0 → (((8 : Int32) < p3 → Q (0 : Int32) σ) ∧ (¬ (8 : Int32) < p3 → (sK σ a0 = 11 ∧ (∃ b4 : Nat, sP σ a0 12 = some b4 ∧ (sK σ b4 = 0 ∧ (∀ x7 : Int32, x7 = sI σ b4 1 → (((x7 + p3) ≤ (1500 : Int32) → (∀ x10 : Int32, x10 = (8 : Int32) * (p3 - (1 : Int32)) → LF (f_X11_put_35 a0  Q) (p1, x10) σ)) ∧ (¬ (x7 + p3) ≤ (1500 : Int32) → Q (0 : Int32) σ))))))))))
set_option maxHeartbeats 4000000 in
set_option maxRecDepth 100000 in
theorem c_X11_put (l : Launch) (D : va_G) (cy : Nat → ClassId) (a0 : Nat) (p1 : Int64) (p3 : Int32) (σ : Sto) (Q : Int32 → Sto → Prop) (h : wp_X11_put a0 p1 p3 σ Q) : Mt l D cy yX11_put cX11_put 5 (some .boolean) rm_X11_put [.ref a0, .long p1, .int p3] σ (PsI Q) := by
  unfold wp_X11_put at h
  refine mt_of (by decide +kernel) (Nat.le_of_ble_eq_true rfl) ?_
  intro p e s m args below meth c A ls C hr hnm hl
  have C : Cx p s m args meth c D cy A cX11_put 5 RX11 := C
  have hl : lv_has ls 5 [(0, .ref a0), (1, .long p1), (3, .int p3)] := hl
  refine x_iload_n C dX11_put_0 rfl (lv_at hl 2 rfl) ?_
  refine x_if_lt (tgt := 25) C dX11_put_1 (by decide) (fun c1 => ?_) (fun c1 => ?_)
  · have h := h.1 c1
    refine x_iconst (v := 0) C dX11_put_25 (by decide) ?_
    exact x_zret C hr dX11_put_26 (by decide) ⟨_, rfl, h⟩
  · have h := h.2 c1
    refine x_iload_n C dX11_put_4 rfl (lv_at hl 2 rfl) ?_
    refine x_bipush (v := 8) C dX11_put_5 (by decide) ?_
    refine x_icmp_gt (tgt := 25) C dX11_put_7 (by decide) (fun c2 => ?_) (fun c2 => ?_)
    · have h := h.1 c2
      refine x_iconst (v := 0) C dX11_put_25 (by decide) ?_
      exact x_zret C hr dX11_put_26 (by decide) ⟨_, rfl, h⟩
    · have h := h.2 c2
      refine x_aload_n C dX11_put_10 rfl (lv_at hl 0 rfl) ?_
      obtain ⟨g3, h⟩ := h
      refine x_getP C fl_RX11_74 g3 dX11_put_11 ?_
      obtain ⟨b4, g5, h⟩ := h
      refine x_nn0 g5 ?_
      obtain ⟨g6, h⟩ := h
      refine x_getI C fl_RX11_318 g6 dX11_put_14 ?_
      refine x_topi (fun x7 e8 => ?_)
      have h := h x7 e8
      refine x_iload_n C dX11_put_17 rfl (lv_at hl 2 rfl) ?_
      refine x_iadd C dX11_put_18 ?_
      refine x_sipush (v := 1500) C dX11_put_19 (by decide) ?_
      refine x_icmp_le (tgt := 27) C dX11_put_22 (by decide) (fun c9 => ?_) (fun c9 => ?_)
      · have h := h.1 c9
        refine x_bipush (v := 8) C dX11_put_27 (by decide) ?_
        refine x_iload_n C dX11_put_29 rfl (lv_at hl 2 rfl) ?_
        refine x_iconst (v := 1) C dX11_put_30 (by decide) ?_
        refine x_isub C dX11_put_31 ?_
        refine x_imul C dX11_put_32 ?_
        refine x_topi (fun x10 e11 => ?_)
        have h := h x10 e11
        refine x_istore (i := 4) (lv' := [(4, .int x10), (0, .ref a0), (1, .long p1), (3, .int p3)]) C dX11_put_33 hl (by decide) (by first | rfl | simp [vrc, cat_i, cat_r, cat_l]) (fun ls hl => ?_)
        exact h (fun t σ => ∀ ls : Array Slot, lv_has ls 5 [(0, .ref a0), (1, .long t.1), (4, .int t.2)] → Xw p l e rm_X11_put s m args below meth c D cy A σ 0 0 (MQ below (Qst D cy A (PsI Q)) args s rm_X11_put.cells rm_X11_put.slots A) (F0 m 35 ls [])) (t_X11_put_35 C hr hnm  (fun t σ h => h)) ls (lv_sub hl [1, 2, 0] rfl)
      · have h := h.2 c9
        refine x_iconst (v := 0) C dX11_put_25 (by decide) ?_
        exact x_zret C hr dX11_put_26 (by decide) ⟨_, rfl, h⟩
theorem dX11_take_0 : decode cX11_take 0 = .ok (.aload_n 0, 1) := by decide +kernel
theorem dX11_take_1 : decode cX11_take 1 = .ok (.getfield 74, 3) := by decide +kernel
theorem dX11_take_4 : decode cX11_take 4 = .ok (.aload_n 0, 1) := by decide +kernel
theorem dX11_take_5 : decode cX11_take 5 = .ok (.getfield 70, 3) := by decide +kernel
theorem dX11_take_8 : decode cX11_take 8 = .ok (.invokevirtual 334, 3) := by decide +kernel
theorem dX11_take_11 : decode cX11_take 11 = .ok (.iload_n 2, 1) := by decide +kernel
theorem dX11_take_12 : decode cX11_take 12 = .ok (.ifCond .lt 18, 3) := by decide +kernel
theorem dX11_take_15 : decode cX11_take 15 = .ok (.iload_n 2, 1) := by decide +kernel
theorem dX11_take_16 : decode cX11_take 16 = .ok (.bipush 7, 2) := by decide +kernel
theorem dX11_take_18 : decode cX11_take 18 = .ok (.if_icmp .gt 12, 3) := by decide +kernel
theorem dX11_take_21 : decode cX11_take 21 = .ok (.aload_n 0, 1) := by decide +kernel
theorem dX11_take_22 : decode cX11_take 22 = .ok (.getfield 74, 3) := by decide +kernel
theorem dX11_take_25 : decode cX11_take 25 = .ok (.iload_n 1, 1) := by decide +kernel
theorem dX11_take_26 : decode cX11_take 26 = .ok (.iload_n 2, 1) := by decide +kernel
theorem dX11_take_27 : decode cX11_take 27 = .ok (.invokevirtual 337, 3) := by decide +kernel
theorem dX11_take_30 : decode cX11_take 30 = .ok (.aload_n 0, 1) := by decide +kernel
theorem dX11_take_31 : decode cX11_take 31 = .ok (.getfield 74, 3) := by decide +kernel
theorem dX11_take_34 : decode cX11_take 34 = .ok (.getfield 318, 3) := by decide +kernel
theorem dX11_take_37 : decode cX11_take 37 = .ok (.ireturn, 1) := by decide +kernel
abbrev rm_X11_take : Room := { frames := 2, cells := 0, slots := 0, locals := 43 }
def wp_X11_take (a0 : Nat) (p1 : Int32) (p2 : Int32) (σ : Sto) (Q : Int32 → Sto → Prop) : Prop := (sK σ a0 = 11 ∧ (∃ b2 : Nat, sP σ a0 12 = some b2 ∧ (sK σ b2 = 0 ∧ (wp_X0_become b2 (sP σ a0 11) σ (fun (σ5 : Sto) => ((p2 < 0 → (sK σ5 a0 = 11 ∧ (∃ b8 : Nat, sP σ5 a0 12 = some b8 ∧ (sK σ5 b8 = 0 ∧ (∀ x11 : Int32, x11 = sI σ5 b8 1 → Q x11 σ5))))) ∧ (¬ p2 < 0 → (((7 : Int32) < p2 → (sK σ5 a0 = 11 ∧ (∃ b15 : Nat, sP σ5 a0 12 = some b15 ∧ (sK σ5 b15 = 0 ∧ (∀ x18 : Int32, x18 = sI σ5 b15 1 → Q x18 σ5))))) ∧ (¬ (7 : Int32) < p2 → (sK σ5 a0 = 11 ∧ (∃ b21 : Nat, sP σ5 a0 12 = some b21 ∧ (sK σ5 b21 = 0 ∧ (wp_X0_turnBit b21 p1 p2 σ5 (fun (σ24 : Sto) => (sK σ24 a0 = 11 ∧ (∃ b26 : Nat, sP σ24 a0 12 = some b26 ∧ (sK σ24 b26 = 0 ∧ (∀ x29 : Int32, x29 = sI σ24 b26 1 → Q x29 σ24))))))))))))))))))
set_option maxHeartbeats 4000000 in
set_option maxRecDepth 100000 in
theorem c_X11_take (l : Launch) (D : va_G) (cy : Nat → ClassId) (a0 : Nat) (p1 : Int32) (p2 : Int32) (σ : Sto) (Q : Int32 → Sto → Prop) (h : wp_X11_take a0 p1 p2 σ Q) : Mt l D cy yX11_take cX11_take 3 (some .int) rm_X11_take [.ref a0, .int p1, .int p2] σ (PsI Q) := by
  unfold wp_X11_take at h
  refine mt_of (by decide +kernel) (Nat.le_of_ble_eq_true rfl) ?_
  intro p e s m args below meth c A ls C hr hnm hl
  have C : Cx p s m args meth c D cy A cX11_take 3 RX11 := C
  have hl : lv_has ls 3 [(0, .ref a0), (1, .int p1), (2, .int p2)] := hl
  refine x_aload_n C dX11_take_0 rfl (lv_at hl 0 rfl) ?_
  obtain ⟨g1, h⟩ := h
  refine x_getP C fl_RX11_74 g1 dX11_take_1 ?_
  refine x_aload_n C dX11_take_4 rfl (lv_at hl 0 rfl) ?_
  refine x_getP C fl_RX11_70 g1 dX11_take_5 ?_
  obtain ⟨b2, g3, h⟩ := h
  refine x_nn1 g3 ?_
  obtain ⟨g4, h⟩ := h
  refine x_callV (rm := rm_X0_become) (rest := []) (As := [va_rf (sP σ a0 11)]) C cy_RX11_334 g4 (by decide) (by decide) rfl rfl (Nat.le_of_ble_eq_true rfl) hl.1 dX11_take_8 (c_X0_become l D cy b2 (sP σ a0 11) σ _ h) (ks_v (fun σ5 h => ?_))
  refine x_iload_n C dX11_take_11 rfl (lv_at hl 2 rfl) ?_
  refine x_if_lt (tgt := 30) C dX11_take_12 (by decide) (fun c6 => ?_) (fun c6 => ?_)
  · have h := h.1 c6
    refine x_aload_n C dX11_take_30 rfl (lv_at hl 0 rfl) ?_
    obtain ⟨g7, h⟩ := h
    refine x_getP C fl_RX11_74 g7 dX11_take_31 ?_
    obtain ⟨b8, g9, h⟩ := h
    refine x_nn0 g9 ?_
    obtain ⟨g10, h⟩ := h
    refine x_getI C fl_RX11_318 g10 dX11_take_34 ?_
    refine x_topi (fun x11 e12 => ?_)
    have h := h x11 e12
    exact x_iret C hr dX11_take_37 ⟨_, rfl, h⟩
  · have h := h.2 c6
    refine x_iload_n C dX11_take_15 rfl (lv_at hl 2 rfl) ?_
    refine x_bipush (v := 7) C dX11_take_16 (by decide) ?_
    refine x_icmp_gt (tgt := 30) C dX11_take_18 (by decide) (fun c13 => ?_) (fun c13 => ?_)
    · have h := h.1 c13
      refine x_aload_n C dX11_take_30 rfl (lv_at hl 0 rfl) ?_
      obtain ⟨g14, h⟩ := h
      refine x_getP C fl_RX11_74 g14 dX11_take_31 ?_
      obtain ⟨b15, g16, h⟩ := h
      refine x_nn0 g16 ?_
      obtain ⟨g17, h⟩ := h
      refine x_getI C fl_RX11_318 g17 dX11_take_34 ?_
      refine x_topi (fun x18 e19 => ?_)
      have h := h x18 e19
      exact x_iret C hr dX11_take_37 ⟨_, rfl, h⟩
    · have h := h.2 c13
      refine x_aload_n C dX11_take_21 rfl (lv_at hl 0 rfl) ?_
      obtain ⟨g20, h⟩ := h
      refine x_getP C fl_RX11_74 g20 dX11_take_22 ?_
      refine x_iload_n C dX11_take_25 rfl (lv_at hl 1 rfl) ?_
      refine x_iload_n C dX11_take_26 rfl (lv_at hl 2 rfl) ?_
      obtain ⟨b21, g22, h⟩ := h
      refine x_nn2 g22 ?_
      obtain ⟨g23, h⟩ := h
      refine x_callV (rm := rm_X0_turnBit) (rest := []) (As := [.int p1, .int p2]) C cy_RX11_337 g23 (by decide) (by decide) rfl rfl (Nat.le_of_ble_eq_true rfl) hl.1 dX11_take_27 (c_X0_turnBit l D cy b21 p1 p2 σ5 _ h) (ks_v (fun σ24 h => ?_))
      refine x_aload_n C dX11_take_30 rfl (lv_at hl 0 rfl) ?_
      obtain ⟨g25, h⟩ := h
      refine x_getP C fl_RX11_74 g25 dX11_take_31 ?_
      obtain ⟨b26, g27, h⟩ := h
      refine x_nn0 g27 ?_
      obtain ⟨g28, h⟩ := h
      refine x_getI C fl_RX11_318 g28 dX11_take_34 ?_
      refine x_topi (fun x29 e30 => ?_)
      have h := h x29 e30
      exact x_iret C hr dX11_take_37 ⟨_, rfl, h⟩
theorem dX11_fault_0 : decode cX11_fault 0 = .ok (.iload_n 1, 1) := by decide +kernel
theorem dX11_fault_1 : decode cX11_fault 1 = .ok (.lookupswitch 43 #[(0, 27), (1, 35)], 27) := by decide +kernel
theorem dX11_fault_28 : decode cX11_fault 28 = .ok (.aload_n 0, 1) := by decide +kernel
theorem dX11_fault_29 : decode cX11_fault 29 = .ok (.getfield 82, 3) := by decide +kernel
theorem dX11_fault_32 : decode cX11_fault 32 = .ok (.getfield 344, 3) := by decide +kernel
theorem dX11_fault_35 : decode cX11_fault 35 = .ok (.ireturn, 1) := by decide +kernel
theorem dX11_fault_36 : decode cX11_fault 36 = .ok (.aload_n 0, 1) := by decide +kernel
theorem dX11_fault_37 : decode cX11_fault 37 = .ok (.getfield 82, 3) := by decide +kernel
theorem dX11_fault_40 : decode cX11_fault 40 = .ok (.getfield 350, 3) := by decide +kernel
theorem dX11_fault_43 : decode cX11_fault 43 = .ok (.ireturn, 1) := by decide +kernel
theorem dX11_fault_44 : decode cX11_fault 44 = .ok (.iconst (-1), 1) := by decide +kernel
theorem dX11_fault_45 : decode cX11_fault 45 = .ok (.ireturn, 1) := by decide +kernel
abbrev rm_X11_fault : Room := { frames := 0, cells := 0, slots := 0, locals := 0 }
def wp_X11_fault (a0 : Nat) (p1 : Int32) (σ : Sto) (Q : Int32 → Sto → Prop) : Prop := ((p1 = (0 : Int32) → (sK σ a0 = 11 ∧ (∃ b3 : Nat, sP σ a0 13 = some b3 ∧ (sK σ b3 = 7 ∧ (∀ x6 : Int32, x6 = sI σ b3 3 → Q x6 σ))))) ∧ (p1 = (1 : Int32) → (sK σ a0 = 11 ∧ (∃ b10 : Nat, sP σ a0 13 = some b10 ∧ (sK σ b10 = 7 ∧ (∀ x13 : Int32, x13 = sI σ b10 4 → Q x13 σ))))) ∧ (¬ p1 = (0 : Int32) ∧ ¬ p1 = (1 : Int32) → Q (-1 : Int32) σ))
set_option maxHeartbeats 4000000 in
set_option maxRecDepth 100000 in
theorem c_X11_fault (l : Launch) (D : va_G) (cy : Nat → ClassId) (a0 : Nat) (p1 : Int32) (σ : Sto) (Q : Int32 → Sto → Prop) (h : wp_X11_fault a0 p1 σ Q) : Mt l D cy yX11_fault cX11_fault 2 (some .int) rm_X11_fault [.ref a0, .int p1] σ (PsI Q) := by
  unfold wp_X11_fault at h
  refine mt_of (by decide +kernel) (Nat.le_of_ble_eq_true rfl) ?_
  intro p e s m args below meth c A ls C hr hnm hl
  have C : Cx p s m args meth c D cy A cX11_fault 2 RX11 := C
  have hl : lv_has ls 2 [(0, .ref a0), (1, .int p1)] := hl
  refine x_iload_n C dX11_fault_0 rfl (lv_at hl 1 rfl) ?_
  by_cases c1 : p1 = (0 : Int32)
  · have h := h.1 c1
    refine x_lookup (tgt := 28) (off := 27) C dX11_fault_1 (by decide) (by rw [c1]; decide) (by decide) ?_
    refine x_aload_n C dX11_fault_28 rfl (lv_at hl 0 rfl) ?_
    obtain ⟨g2, h⟩ := h
    refine x_getP C fl_RX11_82 g2 dX11_fault_29 ?_
    obtain ⟨b3, g4, h⟩ := h
    refine x_nn0 g4 ?_
    obtain ⟨g5, h⟩ := h
    refine x_getI C fl_RX11_344 g5 dX11_fault_32 ?_
    refine x_topi (fun x6 e7 => ?_)
    have h := h x6 e7
    exact x_iret C hr dX11_fault_35 ⟨_, rfl, h⟩
  by_cases c8 : p1 = (1 : Int32)
  · have h := h.2.1 c8
    refine x_lookup (tgt := 36) (off := 35) C dX11_fault_1 (by decide) (by rw [c8]; decide) (by decide) ?_
    refine x_aload_n C dX11_fault_36 rfl (lv_at hl 0 rfl) ?_
    obtain ⟨g9, h⟩ := h
    refine x_getP C fl_RX11_82 g9 dX11_fault_37 ?_
    obtain ⟨b10, g11, h⟩ := h
    refine x_nn0 g11 ?_
    obtain ⟨g12, h⟩ := h
    refine x_getI C fl_RX11_350 g12 dX11_fault_40 ?_
    refine x_topi (fun x13 e14 => ?_)
    have h := h x13 e14
    exact x_iret C hr dX11_fault_43 ⟨_, rfl, h⟩
  have h := h.2.2 ⟨c1, c8⟩
  have lk := True.intro
  have c1 : p1.toInt ≠ (0 : Int) := lk_ne (k := 0) c1
  have c8 : p1.toInt ≠ (1 : Int) := lk_ne (k := 1) c8
  refine x_lookup (tgt := 44) (off := 43) C dX11_fault_1 (by decide) (by simp [Op.lookupswitch.offset, c1, Ne.symm c1, c8, Ne.symm c8]) (by decide) ?_
  refine x_iconst (v := -1) C dX11_fault_44 (by decide) ?_
  exact x_iret C hr dX11_fault_45 ⟨_, rfl, h⟩
theorem dX11_told_0 : decode cX11_told 0 = .ok (.aload_n 0, 1) := by decide +kernel
theorem dX11_told_1 : decode cX11_told 1 = .ok (.getfield 82, 3) := by decide +kernel
theorem dX11_told_4 : decode cX11_told 4 = .ok (.iload_n 1, 1) := by decide +kernel
theorem dX11_told_5 : decode cX11_told 5 = .ok (.invokevirtual 349, 3) := by decide +kernel
theorem dX11_told_8 : decode cX11_told 8 = .ok (.ireturn, 1) := by decide +kernel
abbrev rm_X11_told : Room := { frames := 1, cells := 0, slots := 0, locals := 21 }
def wp_X11_told (a0 : Nat) (p1 : Int32) (σ : Sto) (Q : Int32 → Sto → Prop) : Prop := (sK σ a0 = 11 ∧ (∃ b2 : Nat, sP σ a0 13 = some b2 ∧ (sK σ b2 = 7 ∧ (wp_X7_at b2 p1 σ (fun (x6 : Int32) (σ5 : Sto) => Q x6 σ5)))))
set_option maxHeartbeats 4000000 in
set_option maxRecDepth 100000 in
theorem c_X11_told (l : Launch) (D : va_G) (cy : Nat → ClassId) (a0 : Nat) (p1 : Int32) (σ : Sto) (Q : Int32 → Sto → Prop) (h : wp_X11_told a0 p1 σ Q) : Mt l D cy yX11_told cX11_told 2 (some .int) rm_X11_told [.ref a0, .int p1] σ (PsI Q) := by
  unfold wp_X11_told at h
  refine mt_of (by decide +kernel) (Nat.le_of_ble_eq_true rfl) ?_
  intro p e s m args below meth c A ls C hr hnm hl
  have C : Cx p s m args meth c D cy A cX11_told 2 RX11 := C
  have hl : lv_has ls 2 [(0, .ref a0), (1, .int p1)] := hl
  refine x_aload_n C dX11_told_0 rfl (lv_at hl 0 rfl) ?_
  obtain ⟨g1, h⟩ := h
  refine x_getP C fl_RX11_82 g1 dX11_told_1 ?_
  refine x_iload_n C dX11_told_4 rfl (lv_at hl 1 rfl) ?_
  obtain ⟨b2, g3, h⟩ := h
  refine x_nn1 g3 ?_
  obtain ⟨g4, h⟩ := h
  refine x_callV (rm := rm_X7_at) (rest := []) (As := [.int p1]) C cy_RX11_349 g4 (by decide) (by decide) rfl rfl (Nat.le_of_ble_eq_true rfl) hl.1 dX11_told_5 (c_X7_at l D cy b2 p1 σ _ h) (ks_i (fun x6 σ5 h => ?_))
  exact x_iret C hr dX11_told_8 ⟨_, rfl, h⟩
theorem dX11_tolds_0 : decode cX11_tolds 0 = .ok (.aload_n 0, 1) := by decide +kernel
theorem dX11_tolds_1 : decode cX11_tolds 1 = .ok (.getfield 82, 3) := by decide +kernel
theorem dX11_tolds_4 : decode cX11_tolds 4 = .ok (.getfield 353, 3) := by decide +kernel
theorem dX11_tolds_7 : decode cX11_tolds 7 = .ok (.ireturn, 1) := by decide +kernel
abbrev rm_X11_tolds : Room := { frames := 0, cells := 0, slots := 0, locals := 0 }
def wp_X11_tolds (a0 : Nat)  (σ : Sto) (Q : Int32 → Sto → Prop) : Prop := (sK σ a0 = 11 ∧ (∃ b2 : Nat, sP σ a0 13 = some b2 ∧ (sK σ b2 = 7 ∧ (∀ x5 : Int32, x5 = sI σ b2 2 → Q x5 σ))))
set_option maxHeartbeats 4000000 in
set_option maxRecDepth 100000 in
theorem c_X11_tolds (l : Launch) (D : va_G) (cy : Nat → ClassId) (a0 : Nat)  (σ : Sto) (Q : Int32 → Sto → Prop) (h : wp_X11_tolds a0  σ Q) : Mt l D cy yX11_tolds cX11_tolds 1 (some .int) rm_X11_tolds [.ref a0] σ (PsI Q) := by
  unfold wp_X11_tolds at h
  refine mt_of (by decide +kernel) (Nat.le_of_ble_eq_true rfl) ?_
  intro p e s m args below meth c A ls C hr hnm hl
  have C : Cx p s m args meth c D cy A cX11_tolds 1 RX11 := C
  have hl : lv_has ls 1 [(0, .ref a0)] := hl
  refine x_aload_n C dX11_tolds_0 rfl (lv_at hl 0 rfl) ?_
  obtain ⟨g1, h⟩ := h
  refine x_getP C fl_RX11_82 g1 dX11_tolds_1 ?_
  obtain ⟨b2, g3, h⟩ := h
  refine x_nn0 g3 ?_
  obtain ⟨g4, h⟩ := h
  refine x_getI C fl_RX11_353 g4 dX11_tolds_4 ?_
  refine x_topi (fun x5 e6 => ?_)
  have h := h x5 e6
  exact x_iret C hr dX11_tolds_7 ⟨_, rfl, h⟩
