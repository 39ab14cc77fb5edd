theorem dX6_become_0 : decode cX6_become 0 = .ok (.aload_n 0, 1) := by decide +kernel
theorem dX6_become_1 : decode cX6_become 1 = .ok (.aload_n 1, 1) := by decide +kernel
theorem dX6_become_2 : decode cX6_become 2 = .ok (.getfield 7, 3) := by decide +kernel
theorem dX6_become_5 : decode cX6_become 5 = .ok (.putfield 7, 3) := by decide +kernel
theorem dX6_become_8 : decode cX6_become 8 = .ok (.aload_n 0, 1) := by decide +kernel
theorem dX6_become_9 : decode cX6_become 9 = .ok (.aload_n 1, 1) := by decide +kernel
theorem dX6_become_10 : decode cX6_become 10 = .ok (.getfield 13, 3) := by decide +kernel
theorem dX6_become_13 : decode cX6_become 13 = .ok (.putfield 13, 3) := by decide +kernel
theorem dX6_become_16 : decode cX6_become 16 = .ok (.aload_n 0, 1) := by decide +kernel
theorem dX6_become_17 : decode cX6_become 17 = .ok (.aload_n 1, 1) := by decide +kernel
theorem dX6_become_18 : decode cX6_become 18 = .ok (.getfield 17, 3) := by decide +kernel
theorem dX6_become_21 : decode cX6_become 21 = .ok (.putfield 17, 3) := by decide +kernel
theorem dX6_become_24 : decode cX6_become 24 = .ok (.aload_n 0, 1) := by decide +kernel
theorem dX6_become_25 : decode cX6_become 25 = .ok (.aload_n 1, 1) := by decide +kernel
theorem dX6_become_26 : decode cX6_become 26 = .ok (.getfield 21, 3) := by decide +kernel
theorem dX6_become_29 : decode cX6_become 29 = .ok (.putfield 21, 3) := by decide +kernel
theorem dX6_become_32 : decode cX6_become 32 = .ok (.aload_n 0, 1) := by decide +kernel
theorem dX6_become_33 : decode cX6_become 33 = .ok (.aload_n 1, 1) := by decide +kernel
theorem dX6_become_34 : decode cX6_become 34 = .ok (.getfield 24, 3) := by decide +kernel
theorem dX6_become_37 : decode cX6_become 37 = .ok (.putfield 24, 3) := by decide +kernel
theorem dX6_become_40 : decode cX6_become 40 = .ok (.return_, 1) := by decide +kernel
abbrev rm_X6_become : Room := { frames := 0, cells := 0, slots := 0, locals := 0 }
def wp_X6_become (a0 : Nat) (p1 : Option Nat) (σ : Sto) (Q : Sto → Prop) : Prop := (∃ b1 : Nat, p1 = some b1 ∧ (sK σ b1 = 6 ∧ (∀ r4 : Option Nat, r4 = sP σ b1 0 → (sK σ a0 = 6 ∧ (∀ y7 : Int64, y7 = sJ σ b1 1 → (∀ x9 : Int32, x9 = sI σ b1 2 → (∀ x11 : Int32, x11 = sI (stI (stJ (stP σ a0 0 r4) a0 1 y7) a0 2 x9) b1 3 → (∀ x13 : Int32, x13 = sI (stI (stI (stJ (stP σ a0 0 r4) a0 1 y7) a0 2 x9) a0 3 x11) b1 4 → Q (stI (stI (stI (stJ (stP σ a0 0 r4) a0 1 y7) a0 2 x9) a0 3 x11) a0 4 x13)))))))))
set_option maxHeartbeats 4000000 in
set_option maxRecDepth 100000 in
theorem c_X6_become (l : Launch) (D : va_G) (cy : Nat → ClassId) (a0 : Nat) (p1 : Option Nat) (σ : Sto) (Q : Sto → Prop) (h : wp_X6_become a0 p1 σ Q) : Mt l D cy yX6_become cX6_become 2 none rm_X6_become [.ref a0, va_rf p1] σ (PsV Q) := by
  unfold wp_X6_become at h
  refine mt_of (by decide +kernel) (by simp [lg_sl, vrc, cat_i, cat_r, cat_l]) ?_
  intro p e s m args below meth c A ls C hr hnm hl
  have C : Cx p s m args meth c D cy A cX6_become 2 RX6 := C
  have hl : lv_has ls 2 [(0, .ref a0), (1, va_rf p1)] := by simpa [lv_args, vrc, cat_i, cat_r, cat_l] using hl
  refine x_aload_n C dX6_become_0 rfl (lv_at hl 0 rfl) ?_
  refine x_aload_nq C dX6_become_1 rfl (lv_at hl 1 rfl) ?_
  obtain ⟨b1, g2, h⟩ := h
  refine x_nn0 g2 ?_
  obtain ⟨g3, h⟩ := h
  refine x_getP C fl_RX6_7 g3 dX6_become_2 ?_
  refine x_topq (fun r4 e5 => ?_)
  have h := h r4 e5
  obtain ⟨g6, h⟩ := h
  refine x_putP C fl_RX6_7 (rty_o _) (Or.inl rfl) g6 dX6_become_5 ?_
  refine x_aload_n C dX6_become_8 rfl (lv_at hl 0 rfl) ?_
  refine x_aload_nq C dX6_become_9 rfl (lv_at hl 1 rfl) ?_
  refine x_nn0 g2 ?_
  refine x_getJ C fl_RX6_13 g3 dX6_become_10 ?_
  refine x_topj (fun y7 e8 => ?_)
  have h := h y7 e8
  refine x_putJ C fl_RX6_13 (Or.inl rfl) g6 dX6_become_13 ?_
  refine x_aload_n C dX6_become_16 rfl (lv_at hl 0 rfl) ?_
  refine x_aload_nq C dX6_become_17 rfl (lv_at hl 1 rfl) ?_
  refine x_nn0 g2 ?_
  refine x_getI C fl_RX6_17 g3 dX6_become_18 ?_
  refine x_topi (fun x9 e10 => ?_)
  have h := h x9 e10
  refine x_putI C fl_RX6_17 (Or.inl rfl) g6 dX6_become_21 ?_
  refine x_aload_n C dX6_become_24 rfl (lv_at hl 0 rfl) ?_
  refine x_aload_nq C dX6_become_25 rfl (lv_at hl 1 rfl) ?_
  refine x_nn0 g2 ?_
  refine x_getI C fl_RX6_21 g3 dX6_become_26 ?_
  refine x_topi (fun x11 e12 => ?_)
  have h := h x11 e12
  refine x_putI C fl_RX6_21 (Or.inl rfl) g6 dX6_become_29 ?_
  refine x_aload_n C dX6_become_32 rfl (lv_at hl 0 rfl) ?_
  refine x_aload_nq C dX6_become_33 rfl (lv_at hl 1 rfl) ?_
  refine x_nn0 g2 ?_
  refine x_getI C fl_RX6_24 g3 dX6_become_34 ?_
  refine x_topi (fun x13 e14 => ?_)
  have h := h x13 e14
  refine x_putI C fl_RX6_24 (Or.inl rfl) g6 dX6_become_37 ?_
  exact x_vret C hr dX6_become_40 ⟨rfl, h⟩
theorem dX1_hearReply_0 : decode cX1_hearReply 0 = .ok (.aload_n 0, 1) := by decide +kernel
theorem dX1_hearReply_1 : decode cX1_hearReply 1 = .ok (.getfield 35, 3) := by decide +kernel
theorem dX1_hearReply_4 : decode cX1_hearReply 4 = .ok (.ifCond .eq 14, 3) := by decide +kernel
theorem dX1_hearReply_7 : decode cX1_hearReply 7 = .ok (.aload_n 1, 1) := by decide +kernel
theorem dX1_hearReply_8 : decode cX1_hearReply 8 = .ok (.getfield 45, 3) := by decide +kernel
theorem dX1_hearReply_11 : decode cX1_hearReply 11 = .ok (.aload_n 0, 1) := by decide +kernel
theorem dX1_hearReply_12 : decode cX1_hearReply 12 = .ok (.getfield 32, 3) := by decide +kernel
theorem dX1_hearReply_15 : decode cX1_hearReply 15 = .ok (.if_icmp .eq 5, 3) := by decide +kernel
theorem dX1_hearReply_18 : decode cX1_hearReply 18 = .ok (.iconst 0, 1) := by decide +kernel
theorem dX1_hearReply_19 : decode cX1_hearReply 19 = .ok (.ireturn, 1) := by decide +kernel
theorem dX1_hearReply_20 : decode cX1_hearReply 20 = .ok (.aload_n 0, 1) := by decide +kernel
theorem dX1_hearReply_21 : decode cX1_hearReply 21 = .ok (.aload_n 1, 1) := by decide +kernel
theorem dX1_hearReply_22 : decode cX1_hearReply 22 = .ok (.getfield 50, 3) := by decide +kernel
theorem dX1_hearReply_25 : decode cX1_hearReply 25 = .ok (.aload_n 1, 1) := by decide +kernel
theorem dX1_hearReply_26 : decode cX1_hearReply 26 = .ok (.getfield 54, 3) := by decide +kernel
theorem dX1_hearReply_29 : decode cX1_hearReply 29 = .ok (.invokevirtual 57, 3) := by decide +kernel
theorem dX1_hearReply_32 : decode cX1_hearReply 32 = .ok (.astore 4, 2) := by decide +kernel
theorem dX1_hearReply_34 : decode cX1_hearReply 34 = .ok (.aload 4, 2) := by decide +kernel
theorem dX1_hearReply_36 : decode cX1_hearReply 36 = .ok (.dup, 1) := by decide +kernel
theorem dX1_hearReply_37 : decode cX1_hearReply 37 = .ok (.getfield 61, 3) := by decide +kernel
theorem dX1_hearReply_40 : decode cX1_hearReply 40 = .ok (.iconst 1, 1) := by decide +kernel
theorem dX1_hearReply_41 : decode cX1_hearReply 41 = .ok (.aload_n 1, 1) := by decide +kernel
theorem dX1_hearReply_42 : decode cX1_hearReply 42 = .ok (.getfield 64, 3) := by decide +kernel
theorem dX1_hearReply_45 : decode cX1_hearReply 45 = .ok (.ishl, 1) := by decide +kernel
theorem dX1_hearReply_46 : decode cX1_hearReply 46 = .ok (.ior, 1) := by decide +kernel
theorem dX1_hearReply_47 : decode cX1_hearReply 47 = .ok (.putfield 61, 3) := by decide +kernel
theorem dX1_hearReply_50 : decode cX1_hearReply 50 = .ok (.aload_n 1, 1) := by decide +kernel
theorem dX1_hearReply_51 : decode cX1_hearReply 51 = .ok (.getfield 67, 3) := by decide +kernel
theorem dX1_hearReply_54 : decode cX1_hearReply 54 = .ok (.ifCond .eq 12, 3) := by decide +kernel
theorem dX1_hearReply_57 : decode cX1_hearReply 57 = .ok (.aload 4, 2) := by decide +kernel
theorem dX1_hearReply_59 : decode cX1_hearReply 59 = .ok (.aload_n 1, 1) := by decide +kernel
theorem dX1_hearReply_60 : decode cX1_hearReply 60 = .ok (.getfield 70, 3) := by decide +kernel
theorem dX1_hearReply_63 : decode cX1_hearReply 63 = .ok (.putfield 73, 3) := by decide +kernel
theorem dX1_hearReply_66 : decode cX1_hearReply 66 = .ok (.aload 4, 2) := by decide +kernel
theorem dX1_hearReply_68 : decode cX1_hearReply 68 = .ok (.getfield 61, 3) := by decide +kernel
theorem dX1_hearReply_71 : decode cX1_hearReply 71 = .ok (.iload_n 2, 1) := by decide +kernel
theorem dX1_hearReply_72 : decode cX1_hearReply 72 = .ok (.ishr, 1) := by decide +kernel
theorem dX1_hearReply_73 : decode cX1_hearReply 73 = .ok (.iconst 1, 1) := by decide +kernel
theorem dX1_hearReply_74 : decode cX1_hearReply 74 = .ok (.iand, 1) := by decide +kernel
theorem dX1_hearReply_75 : decode cX1_hearReply 75 = .ok (.iconst 1, 1) := by decide +kernel
theorem dX1_hearReply_76 : decode cX1_hearReply 76 = .ok (.if_icmp .ne 7, 3) := by decide +kernel
theorem dX1_hearReply_79 : decode cX1_hearReply 79 = .ok (.iconst 1, 1) := by decide +kernel
theorem dX1_hearReply_80 : decode cX1_hearReply 80 = .ok (.goto 4, 3) := by decide +kernel
theorem dX1_hearReply_83 : decode cX1_hearReply 83 = .ok (.iconst 0, 1) := by decide +kernel
theorem dX1_hearReply_84 : decode cX1_hearReply 84 = .ok (.istore 5, 2) := by decide +kernel
theorem dX1_hearReply_86 : decode cX1_hearReply 86 = .ok (.iload 5, 2) := by decide +kernel
theorem dX1_hearReply_88 : decode cX1_hearReply 88 = .ok (.ifCond .eq 15, 3) := by decide +kernel
theorem dX1_hearReply_91 : decode cX1_hearReply 91 = .ok (.aload 4, 2) := by decide +kernel
theorem dX1_hearReply_93 : decode cX1_hearReply 93 = .ok (.getfield 61, 3) := by decide +kernel
theorem dX1_hearReply_96 : decode cX1_hearReply 96 = .ok (.invokestatic 74, 3) := by decide +kernel
theorem dX1_hearReply_99 : decode cX1_hearReply 99 = .ok (.iload_n 3, 1) := by decide +kernel
theorem dX1_hearReply_100 : decode cX1_hearReply 100 = .ok (.if_icmp .ge 5, 3) := by decide +kernel
theorem dX1_hearReply_103 : decode cX1_hearReply 103 = .ok (.iconst 0, 1) := by decide +kernel
theorem dX1_hearReply_104 : decode cX1_hearReply 104 = .ok (.ireturn, 1) := by decide +kernel
theorem dX1_hearReply_105 : decode cX1_hearReply 105 = .ok (.aload_n 0, 1) := by decide +kernel
theorem dX1_hearReply_106 : decode cX1_hearReply 106 = .ok (.iconst 0, 1) := by decide +kernel
theorem dX1_hearReply_107 : decode cX1_hearReply 107 = .ok (.putfield 35, 3) := by decide +kernel
theorem dX1_hearReply_110 : decode cX1_hearReply 110 = .ok (.aload_n 0, 1) := by decide +kernel
theorem dX1_hearReply_111 : decode cX1_hearReply 111 = .ok (.getfield 12, 3) := by decide +kernel
theorem dX1_hearReply_114 : decode cX1_hearReply 114 = .ok (.aload 4, 2) := by decide +kernel
theorem dX1_hearReply_116 : decode cX1_hearReply 116 = .ok (.invokevirtual 80, 3) := by decide +kernel
theorem dX1_hearReply_119 : decode cX1_hearReply 119 = .ok (.iconst 1, 1) := by decide +kernel
theorem dX1_hearReply_120 : decode cX1_hearReply 120 = .ok (.ireturn, 1) := by decide +kernel
abbrev rm_X1_hearReply : Room := { frames := 2, cells := 0, slots := 0, locals := 49 }
def b_X1_hearReply_84 (a0 : Nat)  (Q : Int32 → Sto → Prop) (p3 : Int32) (p4 : Option Nat) (s0 : Int32) (σ : Sto) : Prop := ((s0 = 0 → Q (0 : Int32) σ) ∧ (¬ s0 = 0 → (∃ b2 : Nat, p4 = some b2 ∧ (sK σ b2 = 6 ∧ (∀ x5 : Int32, x5 = sI σ b2 3 → (wp_J6_bitCount_0f7a4 x5 σ (fun (x8 : Int32) (σ7 : Sto) => ((p3 ≤ x8 → (sK σ7 a0 = 1 ∧ (∃ b11 : Nat, sP σ7 a0 4 = some b11 ∧ (sK σ7 b11 = 6 ∧ (wp_X6_become b11 p4 (stI σ7 a0 2 (0 : Int32)) (fun (σ14 : Sto) => Q (1 : Int32) σ14)))))) ∧ (¬ p3 ≤ x8 → Q (0 : Int32) σ7)))))))))
set_option maxHeartbeats 4000000 in
set_option maxRecDepth 100000 in
theorem t_X1_hearReply_84 {p : Program} {l : Launch} {e : Env} {s : State} {m : MethodId} {args : Array Value} {below : List Frame} {meth : Method} {c : Code} {D : va_G} {cy : Nat → ClassId} {A : Nat → Prop} {a0 : Nat} {Q : Int32 → Sto → Prop} (C : Cx p s m args meth c D cy A cX1_hearReply 6 RX1) (hr : meth.sig.returnType = (some .boolean)) (hnm : meth.name = yX1_hearReply.name) (p3 : Int32) (p4 : Option Nat) (s0 : Int32) (σ : Sto) (h : b_X1_hearReply_84 a0  Q p3 p4 s0 σ) (ls : Array Slot) (hl : lv_has ls 6 [(0, .ref a0), (3, .int p3), (4, va_rf p4)]) : Xw p l e rm_X1_hearReply s m args below meth c D cy A σ 0 0 (MQ below (Qst D cy A (PsI Q)) args s rm_X1_hearReply.cells rm_X1_hearReply.slots A) (F0 m 84 ls [.int s0]) := by
  unfold b_X1_hearReply_84 at h
  refine x_istore (i := 5) (lv' := [(5, .int s0), (0, .ref a0), (3, .int p3), (4, va_rf p4)]) C dX1_hearReply_84 hl (by decide) (by first | rfl | simp [vrc, cat_i, cat_r, cat_l]) (fun ls hl => ?_)
  refine x_iload C dX1_hearReply_86 (lv_at hl 0 rfl) ?_
  refine x_if_eq (tgt := 103) C dX1_hearReply_88 (by decide) (fun c1 => ?_) (fun c1 => ?_)
  · have h := h.1 c1
    refine x_iconst (v := 0) C dX1_hearReply_103 (by decide) ?_
    exact x_zret C hr dX1_hearReply_104 (by decide) ⟨_, rfl, h⟩
  · have h := h.2 c1
    refine x_aloadq C dX1_hearReply_91 (lv_at hl 3 rfl) ?_
    obtain ⟨b2, g3, h⟩ := h
    refine x_nn0 g3 ?_
    obtain ⟨g4, h⟩ := h
    refine x_getI C fl_RX1_61 g4 dX1_hearReply_93 ?_
    refine x_topi (fun x5 e6 => ?_)
    have h := h x5 e6
    refine x_callS (rm := rm_J6_bitCount_0f7a4) (rest := []) (As := [.int x5]) C cs_RX1_74 (by decide) (by decide) rfl rfl (Nat.le_of_ble_eq_true rfl) hl.1 dX1_hearReply_96 (c_J6_bitCount_0f7a4 l D cy x5 σ _ h) (ks_i (fun x8 σ7 h => ?_))
    refine x_iload_n C dX1_hearReply_99 rfl (lv_at hl 2 rfl) ?_
    refine x_icmp_ge (tgt := 105) C dX1_hearReply_100 (by decide) (fun c9 => ?_) (fun c9 => ?_)
    · have h := h.1 c9
      refine x_aload_n C dX1_hearReply_105 rfl (lv_at hl 1 rfl) ?_
      refine x_iconst (v := 0) C dX1_hearReply_106 (by decide) ?_
      obtain ⟨g10, h⟩ := h
      refine x_putZ C fl_RX1_35 (Or.inl rfl) (by decide) g10 dX1_hearReply_107 ?_
      refine x_aload_n C dX1_hearReply_110 rfl (lv_at hl 1 rfl) ?_
      refine x_getP C fl_RX1_12 g10 dX1_hearReply_111 ?_
      refine x_aloadq C dX1_hearReply_114 (lv_at hl 3 rfl) ?_
      obtain ⟨b11, g12, h⟩ := h
      refine x_nn1 g12 ?_
      obtain ⟨g13, h⟩ := h
      refine x_callV (rm := rm_X6_become) (rest := []) (As := [va_rf p4]) C cy_RX1_80 g13 (by decide) (by decide) rfl rfl (Nat.le_of_ble_eq_true rfl) hl.1 dX1_hearReply_116 (c_X6_become l D cy b11 p4 (stI σ7 a0 2 (0 : Int32)) _ h) (ks_v (fun σ14 h => ?_))
      refine x_iconst (v := 1) C dX1_hearReply_119 (by decide) ?_
      exact x_zret C hr dX1_hearReply_120 (by decide) ⟨_, rfl, h⟩
    · have h := h.2 c9
      refine x_iconst (v := 0) C dX1_hearReply_103 (by decide) ?_
      exact x_zret C hr dX1_hearReply_104 (by decide) ⟨_, rfl, h⟩
def b_X1_hearReply_66 (a0 : Nat)  (Q : Int32 → Sto → Prop) (p2 : Int32) (p3 : Int32) (p4 : Option Nat) (σ : Sto) : Prop := (∃ b1 : Nat, p4 = some b1 ∧ (sK σ b1 = 6 ∧ (∀ x4 : Int32, x4 = sI σ b1 3 → ((¬ ((x4 >>> (p2 &&& 31)) &&& (1 : Int32)) = (1 : Int32) → b_X1_hearReply_84 a0  Q p3 p4 (0 : Int32) σ) ∧ (((x4 >>> (p2 &&& 31)) &&& (1 : Int32)) = (1 : Int32) → b_X1_hearReply_84 a0  Q p3 p4 (1 : Int32) σ)))))
set_option maxHeartbeats 4000000 in
set_option maxRecDepth 100000 in
theorem t_X1_hearReply_66 {p : Program} {l : Launch} {e : Env} {s : State} {m : MethodId} {args : Array Value} {below : List Frame} {meth : Method} {c : Code} {D : va_G} {cy : Nat → ClassId} {A : Nat → Prop} {a0 : Nat} {Q : Int32 → Sto → Prop} (C : Cx p s m args meth c D cy A cX1_hearReply 6 RX1) (hr : meth.sig.returnType = (some .boolean)) (hnm : meth.name = yX1_hearReply.name) (p2 : Int32) (p3 : Int32) (p4 : Option Nat) (σ : Sto) (h : b_X1_hearReply_66 a0  Q p2 p3 p4 σ) (ls : Array Slot) (hl : lv_has ls 6 [(0, .ref a0), (2, .int p2), (3, .int p3), (4, va_rf p4)]) : Xw p l e rm_X1_hearReply s m args below meth c D cy A σ 0 0 (MQ below (Qst D cy A (PsI Q)) args s rm_X1_hearReply.cells rm_X1_hearReply.slots A) (F0 m 66 ls []) := by
  unfold b_X1_hearReply_66 at h
  refine x_aloadq C dX1_hearReply_66 (lv_at hl 3 rfl) ?_
  obtain ⟨b1, g2, h⟩ := h
  refine x_nn0 g2 ?_
  obtain ⟨g3, h⟩ := h
  refine x_getI C fl_RX1_61 g3 dX1_hearReply_68 ?_
  refine x_topi (fun x4 e5 => ?_)
  have h := h x4 e5
  refine x_iload_n C dX1_hearReply_71 rfl (lv_at hl 1 rfl) ?_
  refine x_ishr C dX1_hearReply_72 ?_
  refine x_iconst (v := 1) C dX1_hearReply_73 (by decide) ?_
  refine x_iand C dX1_hearReply_74 ?_
  refine x_iconst (v := 1) C dX1_hearReply_75 (by decide) ?_
  refine x_icmp_ne (tgt := 83) C dX1_hearReply_76 (by decide) (fun c6 => ?_) (fun c6 => ?_)
  · have h := h.1 c6
    refine x_iconst (v := 0) C dX1_hearReply_83 (by decide) ?_
    exact t_X1_hearReply_84 C hr hnm  p3 p4 (0 : Int32) _ h ls (lv_sub hl [0, 2, 3] rfl)
  · have h := h.2 c6
    refine x_iconst (v := 1) C dX1_hearReply_79 (by decide) ?_
    refine x_goto (tgt := 84) C dX1_hearReply_80 (by decide) ?_
    exact t_X1_hearReply_84 C hr hnm  p3 p4 (1 : Int32) _ h ls (lv_sub hl [0, 2, 3] rfl)
def wp_X1_hearReply (a0 : Nat) (p1 : Option Nat) (p2 : Int32) (p3 : Int32) (σ : Sto) (Q : Int32 → Sto → Prop) : Prop := (sK σ a0 = 1 ∧ (∀ x2 : Int32, x2 = sI σ a0 2 → ((x2 = 0 → Q (0 : Int32) σ) ∧ (¬ x2 = 0 → (∃ b5 : Nat, p1 = some b5 ∧ (sK σ b5 = 3 ∧ (∀ x8 : Int32, x8 = sI σ b5 8 → (∀ x10 : Int32, x10 = sI σ a0 1 → ((x8 = x10 → (∀ y13 : Int64, y13 = sJ σ b5 4 → (∀ x15 : Int32, x15 = sI σ b5 6 → (wp_X1_placeOf a0 y13 x15 σ (fun (r18 : Option Nat) (σ17 : Sto) => (∃ b19 : Nat, r18 = some b19 ∧ (sK σ17 b19 = 6 ∧ (∀ x22 : Int32, x22 = sI σ17 b19 3 → (sK σ17 b5 = 3 ∧ (∀ x25 : Int32, x25 = sI σ17 b5 2 → (∀ x27 : Int32, x27 = x22 ||| ((1 : Int32) <<< (x25 &&& 31)) → (∀ x29 : Int32, x29 = sI (stI σ17 b19 3 x27) b5 9 → ((x29 = 0 → b_X1_hearReply_66 a0  Q p2 p3 r18 (stI σ17 b19 3 x27)) ∧ (¬ x29 = 0 → (∀ x32 : Int32, x32 = sI (stI σ17 b19 3 x27) b5 10 → b_X1_hearReply_66 a0  Q p2 p3 r18 (stI (stI σ17 b19 3 x27) b19 4 x32)))))))))))))))) ∧ (¬ x8 = x10 → Q (0 : Int32) σ))))))))))
set_option maxHeartbeats 4000000 in
set_option maxRecDepth 100000 in
theorem c_X1_hearReply (l : Launch) (D : va_G) (cy : Nat → ClassId) (a0 : Nat) (p1 : Option Nat) (p2 : Int32) (p3 : Int32) (σ : Sto) (Q : Int32 → Sto → Prop) (h : wp_X1_hearReply a0 p1 p2 p3 σ Q) : Mt l D cy yX1_hearReply cX1_hearReply 6 (some .boolean) rm_X1_hearReply [.ref a0, va_rf p1, .int p2, .int p3] σ (PsI Q) := by
  unfold wp_X1_hearReply at h
  refine mt_of (by decide +kernel) (by simp [lg_sl, vrc, cat_i, cat_r, cat_l]) ?_
  intro p e s m args below meth c A ls C hr hnm hl
  have C : Cx p s m args meth c D cy A cX1_hearReply 6 RX1 := C
  have hl : lv_has ls 6 [(0, .ref a0), (1, va_rf p1), (2, .int p2), (3, .int p3)] := by simpa [lv_args, vrc, cat_i, cat_r, cat_l] using hl
  refine x_aload_n C dX1_hearReply_0 rfl (lv_at hl 0 rfl) ?_
  obtain ⟨g1, h⟩ := h
  refine x_getZ C fl_RX1_35 g1 dX1_hearReply_1 ?_
  refine x_topi (fun x2 e3 => ?_)
  have h := h x2 e3
  refine x_if_eq (tgt := 18) C dX1_hearReply_4 (by decide) (fun c4 => ?_) (fun c4 => ?_)
  · have h := h.1 c4
    refine x_iconst (v := 0) C dX1_hearReply_18 (by decide) ?_
    exact x_zret C hr dX1_hearReply_19 (by decide) ⟨_, rfl, h⟩
  · have h := h.2 c4
    refine x_aload_nq C dX1_hearReply_7 rfl (lv_at hl 1 rfl) ?_
    obtain ⟨b5, g6, h⟩ := h
    refine x_nn0 g6 ?_
    obtain ⟨g7, h⟩ := h
    refine x_getI C fl_RX1_45 g7 dX1_hearReply_8 ?_
    refine x_topi (fun x8 e9 => ?_)
    have h := h x8 e9
    refine x_aload_n C dX1_hearReply_11 rfl (lv_at hl 0 rfl) ?_
    refine x_getI C fl_RX1_32 g1 dX1_hearReply_12 ?_
    refine x_topi (fun x10 e11 => ?_)
    have h := h x10 e11
    refine x_icmp_eq (tgt := 20) C dX1_hearReply_15 (by decide) (fun c12 => ?_) (fun c12 => ?_)
    · have h := h.1 c12
      refine x_aload_n C dX1_hearReply_20 rfl (lv_at hl 0 rfl) ?_
      refine x_aload_nq C dX1_hearReply_21 rfl (lv_at hl 1 rfl) ?_
      refine x_nn0 g6 ?_
      refine x_getJ C fl_RX1_50 g7 dX1_hearReply_22 ?_
      refine x_topj (fun y13 e14 => ?_)
      have h := h y13 e14
      refine x_aload_nq C dX1_hearReply_25 rfl (lv_at hl 1 rfl) ?_
      refine x_nn0 g6 ?_
      refine x_getI C fl_RX1_54 g7 dX1_hearReply_26 ?_
      refine x_topi (fun x15 e16 => ?_)
      have h := h x15 e16
      refine x_callV (rm := rm_X1_placeOf) (rest := []) (As := [.long y13, .int x15]) C cy_RX1_57 g1 (by decide) (by decide) rfl rfl (Nat.le_of_ble_eq_true rfl) hl.1 dX1_hearReply_29 (c_X1_placeOf l D cy a0 y13 x15 σ _ h) (ks_p (fun r18 σ17 h => ?_))
      refine x_astoreq (i := 4) (lv' := [(4, va_rf r18), (0, .ref a0), (1, va_rf p1), (2, .int p2), (3, .int p3)]) C dX1_hearReply_32 hl (by decide) (by first | rfl | simp [vrc, cat_i, cat_r, cat_l]) (fun ls hl => ?_)
      refine x_aloadq C dX1_hearReply_34 (lv_at hl 0 rfl) ?_
      refine x_dup C dX1_hearReply_36 (vrc _) ?_
      obtain ⟨b19, g20, h⟩ := h
      refine x_nn0 g20 ?_
      obtain ⟨g21, h⟩ := h
      refine x_getI C fl_RX1_61 g21 dX1_hearReply_37 ?_
      refine x_topi (fun x22 e23 => ?_)
      have h := h x22 e23
      refine x_iconst (v := 1) C dX1_hearReply_40 (by decide) ?_
      refine x_aload_nq C dX1_hearReply_41 rfl (lv_at hl 2 rfl) ?_
      refine x_nn0 g6 ?_
      obtain ⟨g24, h⟩ := h
      refine x_getI C fl_RX1_64 g24 dX1_hearReply_42 ?_
      refine x_topi (fun x25 e26 => ?_)
      have h := h x25 e26
      refine x_ishl C dX1_hearReply_45 ?_
      refine x_ior C dX1_hearReply_46 ?_
      refine x_topi (fun x27 e28 => ?_)
      have h := h x27 e28
      refine x_nn1 g20 ?_
      refine x_putI C fl_RX1_61 (Or.inl rfl) g21 dX1_hearReply_47 ?_
      refine x_aload_nq C dX1_hearReply_50 rfl (lv_at hl 2 rfl) ?_
      refine x_nn0 g6 ?_
      refine x_getZ C fl_RX1_67 g24 dX1_hearReply_51 ?_
      refine x_topi (fun x29 e30 => ?_)
      have h := h x29 e30
      refine x_if_eq (tgt := 66) C dX1_hearReply_54 (by decide) (fun c31 => ?_) (fun c31 => ?_)
      · have h := h.1 c31
        exact t_X1_hearReply_66 C hr hnm  p2 p3 r18 _ h ls (lv_sub hl [1, 3, 4, 0] rfl)
      · have h := h.2 c31
        refine x_aloadq C dX1_hearReply_57 (lv_at hl 0 rfl) ?_
        refine x_aload_nq C dX1_hearReply_59 rfl (lv_at hl 2 rfl) ?_
        refine x_nn0 g6 ?_
        refine x_getI C fl_RX1_70 g24 dX1_hearReply_60 ?_
        refine x_topi (fun x32 e33 => ?_)
        have h := h x32 e33
        refine x_nn1 g20 ?_
        refine x_putI C fl_RX1_73 (Or.inl rfl) g21 dX1_hearReply_63 ?_
        exact t_X1_hearReply_66 C hr hnm  p2 p3 r18 _ h ls (lv_sub hl [1, 3, 4, 0] rfl)
    · have h := h.2 c12
      refine x_iconst (v := 0) C dX1_hearReply_18 (by decide) ?_
      exact x_zret C hr dX1_hearReply_19 (by decide) ⟨_, rfl, h⟩
theorem dX2_init_0 : decode cX2_init 0 = .ok (.aload_n 0, 1) := by decide +kernel
theorem dX2_init_1 : decode cX2_init 1 = .ok (.invokespecial 3, 3) := by decide +kernel
theorem dX2_init_4 : decode cX2_init 4 = .ok (.aload_n 0, 1) := by decide +kernel
theorem dX2_init_5 : decode cX2_init 5 = .ok (.bipush 100, 2) := by decide +kernel
theorem dX2_init_7 : decode cX2_init 7 = .ok (.anewarray 9, 3) := by decide +kernel
theorem dX2_init_10 : decode cX2_init 10 = .ok (.putfield 11, 3) := by decide +kernel
theorem dX2_init_13 : decode cX2_init 13 = .ok (.return_, 1) := by decide +kernel
abbrev rm_X2_init : Room := { frames := 1, cells := 1, slots := 100, locals := 20 }
def wp_X2_init (a0 : Nat)  (σ : Sto) (Q : Sto → Prop) : Prop := (0 + 1 ≤ 1 ∧ 0 + 100 ≤ 100 ∧ (∀ q3 : Nat, ¬ sK σ q3 < 23 → ∀ σ5 : Sto, σ5 = stN σ q3 22 100 → (sK σ5 a0 = 2 ∧ (((0 + 1) ≤ 1 ∧ (0 + 100) ≤ 100) ∧ Q (stP σ5 a0 0 (some q3))))))
set_option maxHeartbeats 4000000 in
set_option maxRecDepth 100000 in
theorem c_X2_init (l : Launch) (D : va_G) (cy : Nat → ClassId) (a0 : Nat)  (σ : Sto) (Q : Sto → Prop) (h : wp_X2_init a0  σ Q) : Mt l D cy yX2_init cX2_init 1 none rm_X2_init [.ref a0] σ (PsV Q) := by
  unfold wp_X2_init at h
  refine mt_of (by decide +kernel) (Nat.le_of_ble_eq_true rfl) ?_
  intro p e s m args below meth c A ls C hr hnm hl
  have C : Cx p s m args meth c D cy A cX2_init 1 RX2 := C
  have hl : lv_has ls 1 [(0, .ref a0)] := hl
  refine x_aload_n C dX2_init_0 rfl (lv_at hl 0 rfl) ?_
  refine x_objInit C oi_RX2_3 oi_w2 oi_w3 hl.1 (by decide) (Nat.le_of_ble_eq_true rfl) dX2_init_1 ?_
  refine x_aload_n C dX2_init_4 rfl (lv_at hl 0 rfl) ?_
  refine x_bipush (v := 100) C dX2_init_5 (by decide) ?_
  obtain ⟨g1, g2, h⟩ := h
  refine x_newq C rak_22 (fun _ => rfl) (by decide) cl_RX2_9 (by decide) (by decide) (by decide) g1 g2 dX2_init_7 (fun q3 g4 => ?_)
  refine x_nameS (fun σ5 e6 => ?_)
  have h := h q3 g4 σ5 e6
  obtain ⟨g7, h⟩ := h
  refine x_putR C fl_RX2_11 (rty_a _) (Or.inr ⟨hnm, _, _, _, rfl, rfl⟩) g7 dX2_init_10 ?_
  refine x_widen h.1.1 h.1.2 ?_
  exact x_vret C hr dX2_init_13 ⟨rfl, h.2⟩
theorem dX2_has_0 : decode cX2_has 0 = .ok (.iload_n 1, 1) := by decide +kernel
theorem dX2_has_1 : decode cX2_has 1 = .ok (.iconst 1, 1) := by decide +kernel
theorem dX2_has_2 : decode cX2_has 2 = .ok (.if_icmp .lt 24, 3) := by decide +kernel
theorem dX2_has_5 : decode cX2_has 5 = .ok (.iload_n 1, 1) := by decide +kernel
theorem dX2_has_6 : decode cX2_has 6 = .ok (.aload_n 0, 1) := by decide +kernel
theorem dX2_has_7 : decode cX2_has 7 = .ok (.getfield 17, 3) := by decide +kernel
theorem dX2_has_10 : decode cX2_has 10 = .ok (.if_icmp .gt 16, 3) := by decide +kernel
theorem dX2_has_13 : decode cX2_has 13 = .ok (.iload_n 1, 1) := by decide +kernel
theorem dX2_has_14 : decode cX2_has 14 = .ok (.aload_n 0, 1) := by decide +kernel
theorem dX2_has_15 : decode cX2_has 15 = .ok (.getfield 11, 3) := by decide +kernel
theorem dX2_has_18 : decode cX2_has 18 = .ok (.arraylength, 1) := by decide +kernel
theorem dX2_has_19 : decode cX2_has 19 = .ok (.if_icmp .gt 7, 3) := by decide +kernel
theorem dX2_has_22 : decode cX2_has 22 = .ok (.iconst 1, 1) := by decide +kernel
theorem dX2_has_23 : decode cX2_has 23 = .ok (.goto 4, 3) := by decide +kernel
theorem dX2_has_26 : decode cX2_has 26 = .ok (.iconst 0, 1) := by decide +kernel
theorem dX2_has_27 : decode cX2_has 27 = .ok (.ireturn, 1) := by decide +kernel
abbrev rm_X2_has : Room := { frames := 0, cells := 0, slots := 0, locals := 0 }
def wp_X2_has (a0 : Nat) (p1 : Int32) (σ : Sto) (Q : Int32 → Sto → Prop) : Prop := ((p1 < (1 : Int32) → Q (0 : Int32) σ) ∧ (¬ p1 < (1 : Int32) → (sK σ a0 = 2 ∧ (∀ x3 : Int32, x3 = sI σ a0 1 → ((x3 < p1 → Q (0 : Int32) σ) ∧ (¬ x3 < p1 → (∃ b6 : Nat, sP σ a0 0 = some b6 ∧ (sK σ b6 = 22 ∧ (((nI (sN σ b6)) < p1 → Q (0 : Int32) σ) ∧ (¬ (nI (sN σ b6)) < p1 → Q (1 : Int32) σ))))))))))
set_option maxHeartbeats 4000000 in
set_option maxRecDepth 100000 in
theorem c_X2_has (l : Launch) (D : va_G) (cy : Nat → ClassId) (a0 : Nat) (p1 : Int32) (σ : Sto) (Q : Int32 → Sto → Prop) (h : wp_X2_has a0 p1 σ Q) : Mt l D cy yX2_has cX2_has 2 (some .boolean) rm_X2_has [.ref a0, .int p1] σ (PsI Q) := by
  unfold wp_X2_has at h
  refine mt_of (by decide +kernel) (Nat.le_of_ble_eq_true rfl) ?_
  intro p e s m args below meth c A ls C hr hnm hl
  have C : Cx p s m args meth c D cy A cX2_has 2 RX2 := C
  have hl : lv_has ls 2 [(0, .ref a0), (1, .int p1)] := hl
  refine x_iload_n C dX2_has_0 rfl (lv_at hl 1 rfl) ?_
  refine x_iconst (v := 1) C dX2_has_1 (by decide) ?_
  refine x_icmp_lt (tgt := 26) C dX2_has_2 (by decide) (fun c1 => ?_) (fun c1 => ?_)
  · have h := h.1 c1
    refine x_iconst (v := 0) C dX2_has_26 (by decide) ?_
    exact x_zret C hr dX2_has_27 (by decide) ⟨_, rfl, h⟩
  · have h := h.2 c1
    refine x_iload_n C dX2_has_5 rfl (lv_at hl 1 rfl) ?_
    refine x_aload_n C dX2_has_6 rfl (lv_at hl 0 rfl) ?_
    obtain ⟨g2, h⟩ := h
    refine x_getI C fl_RX2_17 g2 dX2_has_7 ?_
    refine x_topi (fun x3 e4 => ?_)
    have h := h x3 e4
    refine x_icmp_gt (tgt := 26) C dX2_has_10 (by decide) (fun c5 => ?_) (fun c5 => ?_)
    · have h := h.1 c5
      refine x_iconst (v := 0) C dX2_has_26 (by decide) ?_
      exact x_zret C hr dX2_has_27 (by decide) ⟨_, rfl, h⟩
    · have h := h.2 c5
      refine x_iload_n C dX2_has_13 rfl (lv_at hl 1 rfl) ?_
      refine x_aload_n C dX2_has_14 rfl (lv_at hl 0 rfl) ?_
      refine x_getP C fl_RX2_11 g2 dX2_has_15 ?_
      obtain ⟨b6, g7, h⟩ := h
      refine x_nn0 g7 ?_
      obtain ⟨g8, h⟩ := h
      refine x_alen C g8 (by decide) (by decide) dX2_has_18 ?_
      refine x_icmp_gt (tgt := 26) C dX2_has_19 (by decide) (fun c9 => ?_) (fun c9 => ?_)
      · have h := h.1 c9
        refine x_iconst (v := 0) C dX2_has_26 (by decide) ?_
        exact x_zret C hr dX2_has_27 (by decide) ⟨_, rfl, h⟩
      · have h := h.2 c9
        refine x_iconst (v := 1) C dX2_has_22 (by decide) ?_
        refine x_goto (tgt := 27) C dX2_has_23 (by decide) ?_
        exact x_zret C hr dX2_has_27 (by decide) ⟨_, rfl, h⟩
theorem dX2_at_0 : decode cX2_at 0 = .ok (.aload_n 0, 1) := by decide +kernel
theorem dX2_at_1 : decode cX2_at 1 = .ok (.iload_n 1, 1) := by decide +kernel
theorem dX2_at_2 : decode cX2_at 2 = .ok (.invokevirtual 21, 3) := by decide +kernel
theorem dX2_at_5 : decode cX2_at 5 = .ok (.ifCond .eq 14, 3) := by decide +kernel
theorem dX2_at_8 : decode cX2_at 8 = .ok (.aload_n 0, 1) := by decide +kernel
theorem dX2_at_9 : decode cX2_at 9 = .ok (.getfield 11, 3) := by decide +kernel
theorem dX2_at_12 : decode cX2_at 12 = .ok (.iload_n 1, 1) := by decide +kernel
theorem dX2_at_13 : decode cX2_at 13 = .ok (.iconst 1, 1) := by decide +kernel
theorem dX2_at_14 : decode cX2_at 14 = .ok (.isub, 1) := by decide +kernel
theorem dX2_at_15 : decode cX2_at 15 = .ok (.aaload, 1) := by decide +kernel
theorem dX2_at_16 : decode cX2_at 16 = .ok (.goto 4, 3) := by decide +kernel
theorem dX2_at_19 : decode cX2_at 19 = .ok (.aconst_null, 1) := by decide +kernel
theorem dX2_at_20 : decode cX2_at 20 = .ok (.areturn, 1) := by decide +kernel
abbrev rm_X2_at : Room := { frames := 1, cells := 0, slots := 0, locals := 21 }
def wp_X2_at (a0 : Nat) (p1 : Int32) (σ : Sto) (Q : Option Nat → Sto → Prop) : Prop := (sK σ a0 = 2 ∧ (wp_X2_has a0 p1 σ (fun (x3 : Int32) (σ2 : Sto) => ((x3 = 0 → Q none σ2) ∧ (¬ x3 = 0 → (sK σ2 a0 = 2 ∧ (∀ x6 : Int32, x6 = p1 - (1 : Int32) → (∃ b8 : Nat, sP σ2 a0 0 = some b8 ∧ (sK σ2 b8 = 22 ∧ (vp_in x6 (sN σ2 b8) ∧ (∀ r12 : Option Nat, r12 = sP σ2 b8 x6.toNatClampNeg → Q r12 σ2)))))))))))
set_option maxHeartbeats 4000000 in
set_option maxRecDepth 100000 in
theorem c_X2_at (l : Launch) (D : va_G) (cy : Nat → ClassId) (a0 : Nat) (p1 : Int32) (σ : Sto) (Q : Option Nat → Sto → Prop) (h : wp_X2_at a0 p1 σ Q) : Mt l D cy yX2_at cX2_at 2 (some (.object "OrderedWorks$Request")) rm_X2_at [.ref a0, .int p1] σ (PsP Q) := by
  unfold wp_X2_at at h
  refine mt_of (by decide +kernel) (Nat.le_of_ble_eq_true rfl) ?_
  intro p e s m args below meth c A ls C hr hnm hl
  have C : Cx p s m args meth c D cy A cX2_at 2 RX2 := C
  have hl : lv_has ls 2 [(0, .ref a0), (1, .int p1)] := hl
  refine x_aload_n C dX2_at_0 rfl (lv_at hl 0 rfl) ?_
  refine x_iload_n C dX2_at_1 rfl (lv_at hl 1 rfl) ?_
  obtain ⟨g1, h⟩ := h
  refine x_callV (rm := rm_X2_has) (rest := []) (As := [.int p1]) C cy_RX2_21 g1 (by decide) (by decide) rfl rfl (Nat.le_of_ble_eq_true rfl) hl.1 dX2_at_2 (c_X2_has l D cy a0 p1 σ _ h) (ks_i (fun x3 σ2 h => ?_))
  refine x_if_eq (tgt := 19) C dX2_at_5 (by decide) (fun c4 => ?_) (fun c4 => ?_)
  · have h := h.1 c4
    refine x_null C dX2_at_19 ?_
    exact x_aret (v := none) C hr dX2_at_20 ⟨_, rfl, h⟩
  · have h := h.2 c4
    refine x_aload_n C dX2_at_8 rfl (lv_at hl 0 rfl) ?_
    obtain ⟨g5, h⟩ := h
    refine x_getP C fl_RX2_11 g5 dX2_at_9 ?_
    refine x_iload_n C dX2_at_12 rfl (lv_at hl 1 rfl) ?_
    refine x_iconst (v := 1) C dX2_at_13 (by decide) ?_
    refine x_isub C dX2_at_14 ?_
    refine x_topi (fun x6 e7 => ?_)
    have h := h x6 e7
    obtain ⟨b8, g9, h⟩ := h
    refine x_nn1 g9 ?_
    obtain ⟨g10, h⟩ := h
    obtain ⟨g11, h⟩ := h
    refine x_aald C rak_22 g10 g11 dX2_at_15 ?_
    refine x_topq (fun r12 e13 => ?_)
    have h := h r12 e13
    refine x_goto (tgt := 20) C dX2_at_16 (by decide) ?_
    exact x_aret (v := r12) C hr dX2_at_20 ⟨_, rfl, h⟩
theorem dX2_isFull_0 : decode cX2_isFull 0 = .ok (.aload_n 0, 1) := by decide +kernel
theorem dX2_isFull_1 : decode cX2_isFull 1 = .ok (.getfield 17, 3) := by decide +kernel
theorem dX2_isFull_4 : decode cX2_isFull 4 = .ok (.aload_n 0, 1) := by decide +kernel
theorem dX2_isFull_5 : decode cX2_isFull 5 = .ok (.getfield 11, 3) := by decide +kernel
theorem dX2_isFull_8 : decode cX2_isFull 8 = .ok (.arraylength, 1) := by decide +kernel
theorem dX2_isFull_9 : decode cX2_isFull 9 = .ok (.if_icmp .lt 7, 3) := by decide +kernel
theorem dX2_isFull_12 : decode cX2_isFull 12 = .ok (.iconst 1, 1) := by decide +kernel
theorem dX2_isFull_13 : decode cX2_isFull 13 = .ok (.goto 4, 3) := by decide +kernel
theorem dX2_isFull_16 : decode cX2_isFull 16 = .ok (.iconst 0, 1) := by decide +kernel
theorem dX2_isFull_17 : decode cX2_isFull 17 = .ok (.ireturn, 1) := by decide +kernel
abbrev rm_X2_isFull : Room := { frames := 0, cells := 0, slots := 0, locals := 0 }
def wp_X2_isFull (a0 : Nat)  (σ : Sto) (Q : Int32 → Sto → Prop) : Prop := (sK σ a0 = 2 ∧ (∀ x2 : Int32, x2 = sI σ a0 1 → (∃ b4 : Nat, sP σ a0 0 = some b4 ∧ (sK σ b4 = 22 ∧ ((x2 < (nI (sN σ b4)) → Q (0 : Int32) σ) ∧ (¬ x2 < (nI (sN σ b4)) → Q (1 : Int32) σ))))))
set_option maxHeartbeats 4000000 in
set_option maxRecDepth 100000 in
theorem c_X2_isFull (l : Launch) (D : va_G) (cy : Nat → ClassId) (a0 : Nat)  (σ : Sto) (Q : Int32 → Sto → Prop) (h : wp_X2_isFull a0  σ Q) : Mt l D cy yX2_isFull cX2_isFull 1 (some .boolean) rm_X2_isFull [.ref a0] σ (PsI Q) := by
  unfold wp_X2_isFull at h
  refine mt_of (by decide +kernel) (Nat.le_of_ble_eq_true rfl) ?_
  intro p e s m args below meth c A ls C hr hnm hl
  have C : Cx p s m args meth c D cy A cX2_isFull 1 RX2 := C
  have hl : lv_has ls 1 [(0, .ref a0)] := hl
  refine x_aload_n C dX2_isFull_0 rfl (lv_at hl 0 rfl) ?_
  obtain ⟨g1, h⟩ := h
  refine x_getI C fl_RX2_17 g1 dX2_isFull_1 ?_
  refine x_topi (fun x2 e3 => ?_)
  have h := h x2 e3
  refine x_aload_n C dX2_isFull_4 rfl (lv_at hl 0 rfl) ?_
  refine x_getP C fl_RX2_11 g1 dX2_isFull_5 ?_
  obtain ⟨b4, g5, h⟩ := h
  refine x_nn0 g5 ?_
  obtain ⟨g6, h⟩ := h
  refine x_alen C g6 (by decide) (by decide) dX2_isFull_8 ?_
  refine x_icmp_lt (tgt := 16) C dX2_isFull_9 (by decide) (fun c7 => ?_) (fun c7 => ?_)
  · have h := h.1 c7
    refine x_iconst (v := 0) C dX2_isFull_16 (by decide) ?_
    exact x_zret C hr dX2_isFull_17 (by decide) ⟨_, rfl, h⟩
  · have h := h.2 c7
    refine x_iconst (v := 1) C dX2_isFull_12 (by decide) ?_
    refine x_goto (tgt := 17) C dX2_isFull_13 (by decide) ?_
    exact x_zret C hr dX2_isFull_17 (by decide) ⟨_, rfl, h⟩
theorem dX2_add_0 : decode cX2_add 0 = .ok (.aload_n 0, 1) := by decide +kernel
theorem dX2_add_1 : decode cX2_add 1 = .ok (.getfield 17, 3) := by decide +kernel
theorem dX2_add_4 : decode cX2_add 4 = .ok (.ifCond .lt 35, 3) := by decide +kernel
theorem dX2_add_7 : decode cX2_add 7 = .ok (.aload_n 0, 1) := by decide +kernel
theorem dX2_add_8 : decode cX2_add 8 = .ok (.getfield 17, 3) := by decide +kernel
theorem dX2_add_11 : decode cX2_add 11 = .ok (.aload_n 0, 1) := by decide +kernel
theorem dX2_add_12 : decode cX2_add 12 = .ok (.getfield 11, 3) := by decide +kernel
theorem dX2_add_15 : decode cX2_add 15 = .ok (.arraylength, 1) := by decide +kernel
theorem dX2_add_16 : decode cX2_add 16 = .ok (.if_icmp .ge 23, 3) := by decide +kernel
theorem dX2_add_19 : decode cX2_add 19 = .ok (.aload_n 0, 1) := by decide +kernel
theorem dX2_add_20 : decode cX2_add 20 = .ok (.getfield 11, 3) := by decide +kernel
theorem dX2_add_23 : decode cX2_add 23 = .ok (.aload_n 0, 1) := by decide +kernel
theorem dX2_add_24 : decode cX2_add 24 = .ok (.getfield 17, 3) := by decide +kernel
theorem dX2_add_27 : decode cX2_add 27 = .ok (.aload_n 1, 1) := by decide +kernel
theorem dX2_add_28 : decode cX2_add 28 = .ok (.aastore, 1) := by decide +kernel
theorem dX2_add_29 : decode cX2_add 29 = .ok (.aload_n 0, 1) := by decide +kernel
theorem dX2_add_30 : decode cX2_add 30 = .ok (.dup, 1) := by decide +kernel
theorem dX2_add_31 : decode cX2_add 31 = .ok (.getfield 17, 3) := by decide +kernel
theorem dX2_add_34 : decode cX2_add 34 = .ok (.iconst 1, 1) := by decide +kernel
theorem dX2_add_35 : decode cX2_add 35 = .ok (.iadd, 1) := by decide +kernel
theorem dX2_add_36 : decode cX2_add 36 = .ok (.putfield 17, 3) := by decide +kernel
theorem dX2_add_39 : decode cX2_add 39 = .ok (.return_, 1) := by decide +kernel
abbrev rm_X2_add : Room := { frames := 0, cells := 0, slots := 0, locals := 0 }
def wp_X2_add (a0 : Nat) (p1 : Option Nat) (σ : Sto) (Q : Sto → Prop) : Prop := (sK σ a0 = 2 ∧ (∀ x2 : Int32, x2 = sI σ a0 1 → ((x2 < 0 → Q σ) ∧ (¬ x2 < 0 → (∀ x5 : Int32, x5 = sI σ a0 1 → (∃ b7 : Nat, sP σ a0 0 = some b7 ∧ (sK σ b7 = 22 ∧ (((nI (sN σ b7)) ≤ x5 → Q σ) ∧ (¬ (nI (sN σ b7)) ≤ x5 → (∀ x11 : Int32, x11 = sI σ a0 1 → (vp_in x11 (sN σ b7) ∧ ((∀ b, p1 = some b → sK σ b = 9) ∧ (∀ x15 : Int32, x15 = sI σ a0 1 → (∀ x17 : Int32, x17 = x15 + (1 : Int32) → Q (stI (stP σ b7 x11.toNatClampNeg p1) a0 1 x17)))))))))))))))
set_option maxHeartbeats 4000000 in
set_option maxRecDepth 100000 in
theorem c_X2_add (l : Launch) (D : va_G) (cy : Nat → ClassId) (a0 : Nat) (p1 : Option Nat) (σ : Sto) (Q : Sto → Prop) (h : wp_X2_add a0 p1 σ Q) : Mt l D cy yX2_add cX2_add 2 none rm_X2_add [.ref a0, va_rf p1] σ (PsV Q) := by
  unfold wp_X2_add at h
  refine mt_of (by decide +kernel) (by simp [lg_sl, vrc, cat_i, cat_r, cat_l]) ?_
  intro p e s m args below meth c A ls C hr hnm hl
  have C : Cx p s m args meth c D cy A cX2_add 2 RX2 := C
  have hl : lv_has ls 2 [(0, .ref a0), (1, va_rf p1)] := by simpa [lv_args, vrc, cat_i, cat_r, cat_l] using hl
  refine x_aload_n C dX2_add_0 rfl (lv_at hl 0 rfl) ?_
  obtain ⟨g1, h⟩ := h
  refine x_getI C fl_RX2_17 g1 dX2_add_1 ?_
  refine x_topi (fun x2 e3 => ?_)
  have h := h x2 e3
  refine x_if_lt (tgt := 39) C dX2_add_4 (by decide) (fun c4 => ?_) (fun c4 => ?_)
  · have h := h.1 c4
    exact x_vret C hr dX2_add_39 ⟨rfl, h⟩
  · have h := h.2 c4
    refine x_aload_n C dX2_add_7 rfl (lv_at hl 0 rfl) ?_
    refine x_getI C fl_RX2_17 g1 dX2_add_8 ?_
    refine x_topi (fun x5 e6 => ?_)
    have h := h x5 e6
    refine x_aload_n C dX2_add_11 rfl (lv_at hl 0 rfl) ?_
    refine x_getP C fl_RX2_11 g1 dX2_add_12 ?_
    obtain ⟨b7, g8, h⟩ := h
    refine x_nn0 g8 ?_
    obtain ⟨g9, h⟩ := h
    refine x_alen C g9 (by decide) (by decide) dX2_add_15 ?_
    refine x_icmp_ge (tgt := 39) C dX2_add_16 (by decide) (fun c10 => ?_) (fun c10 => ?_)
    · have h := h.1 c10
      exact x_vret C hr dX2_add_39 ⟨rfl, h⟩
    · have h := h.2 c10
      refine x_aload_n C dX2_add_19 rfl (lv_at hl 0 rfl) ?_
      refine x_getP C fl_RX2_11 g1 dX2_add_20 ?_
      refine x_aload_n C dX2_add_23 rfl (lv_at hl 0 rfl) ?_
      refine x_getI C fl_RX2_17 g1 dX2_add_24 ?_
      refine x_topi (fun x11 e12 => ?_)
      have h := h x11 e12
      refine x_aload_nq C dX2_add_27 rfl (lv_at hl 1 rfl) ?_
      refine x_nn2 g8 ?_
      obtain ⟨g13, h⟩ := h
      obtain ⟨g14, h⟩ := h
      refine x_aast C rak_22 g9 g14 g13 dX2_add_28 ?_
      refine x_aload_n C dX2_add_29 rfl (lv_at hl 0 rfl) ?_
      refine x_dup C dX2_add_30 (rfl) ?_
      refine x_getI C fl_RX2_17 g1 dX2_add_31 ?_
      refine x_topi (fun x15 e16 => ?_)
      have h := h x15 e16
      refine x_iconst (v := 1) C dX2_add_34 (by decide) ?_
      refine x_iadd C dX2_add_35 ?_
      refine x_topi (fun x17 e18 => ?_)
      have h := h x17 e18
      refine x_putI C fl_RX2_17 (Or.inl rfl) g1 dX2_add_36 ?_
      exact x_vret C hr dX2_add_39 ⟨rfl, h⟩
theorem dX2_replace_0 : decode cX2_replace 0 = .ok (.aload_n 0, 1) := by decide +kernel
theorem dX2_replace_1 : decode cX2_replace 1 = .ok (.iload_n 1, 1) := by decide +kernel
theorem dX2_replace_2 : decode cX2_replace 2 = .ok (.invokevirtual 21, 3) := by decide +kernel
theorem dX2_replace_5 : decode cX2_replace 5 = .ok (.ifCond .eq 12, 3) := by decide +kernel
theorem dX2_replace_8 : decode cX2_replace 8 = .ok (.aload_n 0, 1) := by decide +kernel
theorem dX2_replace_9 : decode cX2_replace 9 = .ok (.getfield 11, 3) := by decide +kernel
theorem dX2_replace_12 : decode cX2_replace 12 = .ok (.iload_n 1, 1) := by decide +kernel
theorem dX2_replace_13 : decode cX2_replace 13 = .ok (.iconst 1, 1) := by decide +kernel
theorem dX2_replace_14 : decode cX2_replace 14 = .ok (.isub, 1) := by decide +kernel
theorem dX2_replace_15 : decode cX2_replace 15 = .ok (.aload_n 2, 1) := by decide +kernel
theorem dX2_replace_16 : decode cX2_replace 16 = .ok (.aastore, 1) := by decide +kernel
theorem dX2_replace_17 : decode cX2_replace 17 = .ok (.return_, 1) := by decide +kernel
abbrev rm_X2_replace : Room := { frames := 1, cells := 0, slots := 0, locals := 21 }
def wp_X2_replace (a0 : Nat) (p1 : Int32) (p2 : Option Nat) (σ : Sto) (Q : Sto → Prop) : Prop := (sK σ a0 = 2 ∧ (wp_X2_has a0 p1 σ (fun (x3 : Int32) (σ2 : Sto) => ((x3 = 0 → Q σ2) ∧ (¬ x3 = 0 → (sK σ2 a0 = 2 ∧ (∃ b6 : Nat, sP σ2 a0 0 = some b6 ∧ (sK σ2 b6 = 22 ∧ (vp_in (p1 - (1 : Int32)) (sN σ2 b6) ∧ ((∀ b, p2 = some b → sK σ2 b = 9) ∧ Q (stP σ2 b6 (p1 - (1 : Int32)).toNatClampNeg p2)))))))))))
set_option maxHeartbeats 4000000 in
set_option maxRecDepth 100000 in
theorem c_X2_replace (l : Launch) (D : va_G) (cy : Nat → ClassId) (a0 : Nat) (p1 : Int32) (p2 : Option Nat) (σ : Sto) (Q : Sto → Prop) (h : wp_X2_replace a0 p1 p2 σ Q) : Mt l D cy yX2_replace cX2_replace 3 none rm_X2_replace [.ref a0, .int p1, va_rf p2] σ (PsV Q) := by
  unfold wp_X2_replace at h
  refine mt_of (by decide +kernel) (by simp [lg_sl, vrc, cat_i, cat_r, cat_l]) ?_
  intro p e s m args below meth c A ls C hr hnm hl
  have C : Cx p s m args meth c D cy A cX2_replace 3 RX2 := C
  have hl : lv_has ls 3 [(0, .ref a0), (1, .int p1), (2, va_rf p2)] := by simpa [lv_args, vrc, cat_i, cat_r, cat_l] using hl
  refine x_aload_n C dX2_replace_0 rfl (lv_at hl 0 rfl) ?_
  refine x_iload_n C dX2_replace_1 rfl (lv_at hl 1 rfl) ?_
  obtain ⟨g1, h⟩ := h
  refine x_callV (rm := rm_X2_has) (rest := []) (As := [.int p1]) C cy_RX2_21 g1 (by decide) (by decide) rfl rfl (Nat.le_of_ble_eq_true rfl) hl.1 dX2_replace_2 (c_X2_has l D cy a0 p1 σ _ h) (ks_i (fun x3 σ2 h => ?_))
  refine x_if_eq (tgt := 17) C dX2_replace_5 (by decide) (fun c4 => ?_) (fun c4 => ?_)
  · have h := h.1 c4
    exact x_vret C hr dX2_replace_17 ⟨rfl, h⟩
  · have h := h.2 c4
    refine x_aload_n C dX2_replace_8 rfl (lv_at hl 0 rfl) ?_
    obtain ⟨g5, h⟩ := h
    refine x_getP C fl_RX2_11 g5 dX2_replace_9 ?_
    refine x_iload_n C dX2_replace_12 rfl (lv_at hl 1 rfl) ?_
    refine x_iconst (v := 1) C dX2_replace_13 (by decide) ?_
    refine x_isub C dX2_replace_14 ?_
    refine x_aload_nq C dX2_replace_15 rfl (lv_at hl 2 rfl) ?_
    obtain ⟨b6, g7, h⟩ := h
    refine x_nn2 g7 ?_
    obtain ⟨g8, h⟩ := h
    obtain ⟨g9, h⟩ := h
    obtain ⟨g10, h⟩ := h
    refine x_aast C rak_22 g8 g10 g9 dX2_replace_16 ?_
    exact x_vret C hr dX2_replace_17 ⟨rfl, h⟩
theorem dX2_copyFirst_0 : decode cX2_copyFirst 0 = .ok (.iconst 0, 1) := by decide +kernel
theorem dX2_copyFirst_1 : decode cX2_copyFirst 1 = .ok (.istore_n 2, 1) := by decide +kernel
theorem dX2_copyFirst_2 : decode cX2_copyFirst 2 = .ok (.iload_n 2, 1) := by decide +kernel
theorem dX2_copyFirst_3 : decode cX2_copyFirst 3 = .ok (.aload_n 1, 1) := by decide +kernel
theorem dX2_copyFirst_4 : decode cX2_copyFirst 4 = .ok (.getfield 17, 3) := by decide +kernel
theorem dX2_copyFirst_7 : decode cX2_copyFirst 7 = .ok (.if_icmp .ge 30, 3) := by decide +kernel
theorem dX2_copyFirst_10 : decode cX2_copyFirst 10 = .ok (.iload_n 2, 1) := by decide +kernel
theorem dX2_copyFirst_11 : decode cX2_copyFirst 11 = .ok (.aload_n 0, 1) := by decide +kernel
theorem dX2_copyFirst_12 : decode cX2_copyFirst 12 = .ok (.getfield 11, 3) := by decide +kernel
theorem dX2_copyFirst_15 : decode cX2_copyFirst 15 = .ok (.arraylength, 1) := by decide +kernel
theorem dX2_copyFirst_16 : decode cX2_copyFirst 16 = .ok (.if_icmp .ge 21, 3) := by decide +kernel
theorem dX2_copyFirst_19 : decode cX2_copyFirst 19 = .ok (.aload_n 0, 1) := by decide +kernel
theorem dX2_copyFirst_20 : decode cX2_copyFirst 20 = .ok (.getfield 11, 3) := by decide +kernel
theorem dX2_copyFirst_23 : decode cX2_copyFirst 23 = .ok (.iload_n 2, 1) := by decide +kernel
theorem dX2_copyFirst_24 : decode cX2_copyFirst 24 = .ok (.aload_n 1, 1) := by decide +kernel
theorem dX2_copyFirst_25 : decode cX2_copyFirst 25 = .ok (.getfield 11, 3) := by decide +kernel
theorem dX2_copyFirst_28 : decode cX2_copyFirst 28 = .ok (.iload_n 2, 1) := by decide +kernel
theorem dX2_copyFirst_29 : decode cX2_copyFirst 29 = .ok (.aaload, 1) := by decide +kernel
theorem dX2_copyFirst_30 : decode cX2_copyFirst 30 = .ok (.aastore, 1) := by decide +kernel
theorem dX2_copyFirst_31 : decode cX2_copyFirst 31 = .ok (.iinc 2 1, 3) := by decide +kernel
theorem dX2_copyFirst_34 : decode cX2_copyFirst 34 = .ok (.goto (-32), 3) := by decide +kernel
theorem dX2_copyFirst_37 : decode cX2_copyFirst 37 = .ok (.return_, 1) := by decide +kernel
abbrev rm_X2_copyFirst : Room := { frames := 0, cells := 0, slots := 0, locals := 0 }
def f_X2_copyFirst_2 (a0 : Nat)  (Q : Sto → Prop) (L2 : Option Nat × Int32 → Sto → Prop) (t : Option Nat × Int32) (σ : Sto) : Prop := (∃ b1 : Nat, t.1 = some b1 ∧ (sK σ b1 = 2 ∧ (∀ x4 : Int32, x4 = sI σ b1 1 → ((x4 ≤ t.2 → Q σ) ∧ (¬ x4 ≤ t.2 → (sK σ a0 = 2 ∧ (∃ b8 : Nat, sP σ a0 0 = some b8 ∧ (sK σ b8 = 22 ∧ (((nI (sN σ b8)) ≤ t.2 → Q σ) ∧ (¬ (nI (sN σ b8)) ≤ t.2 → (∃ b12 : Nat, sP σ b1 0 = some b12 ∧ (sK σ b12 = 22 ∧ (vp_in t.2 (sN σ b12) ∧ (∀ r16 : Option Nat, r16 = sP σ b12 t.2.toNatClampNeg → (vp_in t.2 (sN σ b8) ∧ ((∀ b, r16 = some b → sK σ b = 9) ∧ (∀ x20 : Int32, x20 = t.2 + (1 : Int32) → L2 (t.1, x20) (stP σ b8 t.2.toNatClampNeg r16))))))))))))))))))
set_option maxHeartbeats 4000000 in
set_option maxRecDepth 100000 in
theorem t_X2_copyFirst_2 {p : Program} {l : Launch} {e : Env} {s : State} {m : MethodId} {args : Array Value} {below : List Frame} {meth : Method} {c : Code} {D : va_G} {cy : Nat → ClassId} {A : Nat → Prop} {a0 : Nat} {Q : Sto → Prop} {L2 : Option Nat × Int32 → Sto → Prop} (C : Cx p s m args meth c D cy A cX2_copyFirst 3 RX2) (hr : meth.sig.returnType = none) (hnm : meth.name = yX2_copyFirst.name) (hL2 : ∀ (t : Option Nat × Int32) (σ : Sto), L2 t σ → ∀ ls : Array Slot, lv_has ls 3 [(0, .ref a0), (1, va_rf t.1), (2, .int t.2)] → Xw p l e rm_X2_copyFirst s m args below meth c D cy A σ 0 0 (MQ below (Qst D cy A (PsV Q)) args s rm_X2_copyFirst.cells rm_X2_copyFirst.slots A) (F0 m 2 ls [])) : ∀ (t : Option Nat × Int32) (σ : Sto), f_X2_copyFirst_2 a0  Q L2 t σ → ∀ ls : Array Slot, lv_has ls 3 [(0, .ref a0), (1, va_rf t.1), (2, .int t.2)] → Xw p l e rm_X2_copyFirst s m args below meth c D cy A σ 0 0 (MQ below (Qst D cy A (PsV Q)) args s rm_X2_copyFirst.cells rm_X2_copyFirst.slots A) (F0 m 2 ls []) := by
  intro t σ h ls hl
  unfold f_X2_copyFirst_2 at h
  refine x_iload_n C dX2_copyFirst_2 rfl (lv_at hl 2 rfl) ?_
  refine x_aload_nq C dX2_copyFirst_3 rfl (lv_at hl 1 rfl) ?_
  obtain ⟨b1, g2, h⟩ := h
  refine x_nn0 g2 ?_
  obtain ⟨g3, h⟩ := h
  refine x_getI C fl_RX2_17 g3 dX2_copyFirst_4 ?_
  refine x_topi (fun x4 e5 => ?_)
  have h := h x4 e5
  refine x_icmp_ge (tgt := 37) C dX2_copyFirst_7 (by decide) (fun c6 => ?_) (fun c6 => ?_)
  · have h := h.1 c6
    exact x_vret C hr dX2_copyFirst_37 ⟨rfl, h⟩
  · have h := h.2 c6
    refine x_iload_n C dX2_copyFirst_10 rfl (lv_at hl 2 rfl) ?_
    refine x_aload_n C dX2_copyFirst_11 rfl (lv_at hl 0 rfl) ?_
    obtain ⟨g7, h⟩ := h
    refine x_getP C fl_RX2_11 g7 dX2_copyFirst_12 ?_
    obtain ⟨b8, g9, h⟩ := h
    refine x_nn0 g9 ?_
    obtain ⟨g10, h⟩ := h
    refine x_alen C g10 (by decide) (by decide) dX2_copyFirst_15 ?_
    refine x_icmp_ge (tgt := 37) C dX2_copyFirst_16 (by decide) (fun c11 => ?_) (fun c11 => ?_)
    · have h := h.1 c11
      exact x_vret C hr dX2_copyFirst_37 ⟨rfl, h⟩
    · have h := h.2 c11
      refine x_aload_n C dX2_copyFirst_19 rfl (lv_at hl 0 rfl) ?_
      refine x_getP C fl_RX2_11 g7 dX2_copyFirst_20 ?_
      refine x_iload_n C dX2_copyFirst_23 rfl (lv_at hl 2 rfl) ?_
      refine x_aload_nq C dX2_copyFirst_24 rfl (lv_at hl 1 rfl) ?_
      refine x_nn0 g2 ?_
      refine x_getP C fl_RX2_11 g3 dX2_copyFirst_25 ?_
      refine x_iload_n C dX2_copyFirst_28 rfl (lv_at hl 2 rfl) ?_
      obtain ⟨b12, g13, h⟩ := h
      refine x_nn1 g13 ?_
      obtain ⟨g14, h⟩ := h
      obtain ⟨g15, h⟩ := h
      refine x_aald C rak_22 g14 g15 dX2_copyFirst_29 ?_
      refine x_topq (fun r16 e17 => ?_)
      have h := h r16 e17
      refine x_nn2 g9 ?_
      obtain ⟨g18, h⟩ := h
      obtain ⟨g19, h⟩ := h
      refine x_aast C rak_22 g10 g19 g18 dX2_copyFirst_30 ?_
      obtain ⟨x20, e21⟩ : ∃ z : Int32, z = t.2 + (1 : Int32) := ⟨_, rfl⟩
      have h := h x20 e21
      refine x_iinc (v := x20) (lv' := [(2, .int x20), (0, .ref a0), (1, va_rf t.1)]) C dX2_copyFirst_31 hl (q0 := 2) rfl (by rw [e21]; rfl) (by decide) (by first | rfl | simp [vrc, cat_i, cat_r, cat_l]) (fun ls hl => ?_)
      refine x_goto (tgt := 2) C dX2_copyFirst_34 (by decide) ?_
      exact hL2 (t.1, x20) _ h ls (lv_sub hl [1, 2, 0] rfl)
def wp_X2_copyFirst (a0 : Nat) (p1 : Option Nat) (σ : Sto) (Q : Sto → Prop) : Prop := LF (f_X2_copyFirst_2 a0  Q) (p1, (0 : Int32)) σ
set_option maxHeartbeats 4000000 in
set_option maxRecDepth 100000 in
theorem c_X2_copyFirst (l : Launch) (D : va_G) (cy : Nat → ClassId) (a0 : Nat) (p1 : Option Nat) (σ : Sto) (Q : Sto → Prop) (h : wp_X2_copyFirst a0 p1 σ Q) : Mt l D cy yX2_copyFirst cX2_copyFirst 3 none rm_X2_copyFirst [.ref a0, va_rf p1] σ (PsV Q) := by
  unfold wp_X2_copyFirst at h
  refine mt_of (by decide +kernel) (by simp [lg_sl, vrc, cat_i, cat_r, cat_l]) ?_
  intro p e s m args below meth c A ls C hr hnm hl
  have C : Cx p s m args meth c D cy A cX2_copyFirst 3 RX2 := C
  have hl : lv_has ls 3 [(0, .ref a0), (1, va_rf p1)] := by simpa [lv_args, vrc, cat_i, cat_r, cat_l] using hl
  refine x_iconst (v := 0) C dX2_copyFirst_0 (by decide) ?_
  refine x_istore_n (i := 2) (lv' := [(2, .int (0 : Int32)), (0, .ref a0), (1, va_rf p1)]) C dX2_copyFirst_1 rfl hl (by decide) (by first | rfl | simp [vrc, cat_i, cat_r, cat_l]) (fun ls hl => ?_)
  exact h (fun t σ => ∀ ls : Array Slot, lv_has ls 3 [(0, .ref a0), (1, va_rf t.1), (2, .int t.2)] → Xw p l e rm_X2_copyFirst s m args below meth c D cy A σ 0 0 (MQ below (Qst D cy A (PsV Q)) args s rm_X2_copyFirst.cells rm_X2_copyFirst.slots A) (F0 m 2 ls [])) (t_X2_copyFirst_2 C hr hnm  (fun t σ h => h)) ls (lv_sub hl [1, 2, 0] rfl)
theorem dX2_become_0 : decode cX2_become 0 = .ok (.aload_n 0, 1) := by decide +kernel
theorem dX2_become_1 : decode cX2_become 1 = .ok (.aload_n 1, 1) := by decide +kernel
theorem dX2_become_2 : decode cX2_become 2 = .ok (.getfield 25, 3) := by decide +kernel
theorem dX2_become_5 : decode cX2_become 5 = .ok (.putfield 25, 3) := by decide +kernel
theorem dX2_become_8 : decode cX2_become 8 = .ok (.aload_n 0, 1) := by decide +kernel
theorem dX2_become_9 : decode cX2_become 9 = .ok (.aload_n 1, 1) := by decide +kernel
theorem dX2_become_10 : decode cX2_become 10 = .ok (.getfield 17, 3) := by decide +kernel
theorem dX2_become_13 : decode cX2_become 13 = .ok (.putfield 17, 3) := by decide +kernel
theorem dX2_become_16 : decode cX2_become 16 = .ok (.aload_n 0, 1) := by decide +kernel
theorem dX2_become_17 : decode cX2_become 17 = .ok (.aload_n 1, 1) := by decide +kernel
theorem dX2_become_18 : decode cX2_become 18 = .ok (.invokevirtual 28, 3) := by decide +kernel
theorem dX2_become_21 : decode cX2_become 21 = .ok (.return_, 1) := by decide +kernel
abbrev rm_X2_become : Room := { frames := 1, cells := 0, slots := 0, locals := 22 }
def wp_X2_become (a0 : Nat) (p1 : Option Nat) (σ : Sto) (Q : Sto → Prop) : Prop := (∃ b1 : Nat, p1 = some b1 ∧ (sK σ b1 = 2 ∧ (∀ x4 : Int32, x4 = sI σ b1 2 → (sK σ a0 = 2 ∧ (∀ x7 : Int32, x7 = sI (stI σ a0 2 x4) b1 1 → (wp_X2_copyFirst a0 p1 (stI (stI σ a0 2 x4) a0 1 x7) (fun (σ9 : Sto) => Q σ9)))))))
set_option maxHeartbeats 4000000 in
set_option maxRecDepth 100000 in
theorem c_X2_become (l : Launch) (D : va_G) (cy : Nat → ClassId) (a0 : Nat) (p1 : Option Nat) (σ : Sto) (Q : Sto → Prop) (h : wp_X2_become a0 p1 σ Q) : Mt l D cy yX2_become cX2_become 2 none rm_X2_become [.ref a0, va_rf p1] σ (PsV Q) := by
  unfold wp_X2_become at h
  refine mt_of (by decide +kernel) (by simp [lg_sl, vrc, cat_i, cat_r, cat_l]) ?_
  intro p e s m args below meth c A ls C hr hnm hl
  have C : Cx p s m args meth c D cy A cX2_become 2 RX2 := C
  have hl : lv_has ls 2 [(0, .ref a0), (1, va_rf p1)] := by simpa [lv_args, vrc, cat_i, cat_r, cat_l] using hl
  refine x_aload_n C dX2_become_0 rfl (lv_at hl 0 rfl) ?_
  refine x_aload_nq C dX2_become_1 rfl (lv_at hl 1 rfl) ?_
  obtain ⟨b1, g2, h⟩ := h
  refine x_nn0 g2 ?_
  obtain ⟨g3, h⟩ := h
  refine x_getI C fl_RX2_25 g3 dX2_become_2 ?_
  refine x_topi (fun x4 e5 => ?_)
  have h := h x4 e5
  obtain ⟨g6, h⟩ := h
  refine x_putI C fl_RX2_25 (Or.inl rfl) g6 dX2_become_5 ?_
  refine x_aload_n C dX2_become_8 rfl (lv_at hl 0 rfl) ?_
  refine x_aload_nq C dX2_become_9 rfl (lv_at hl 1 rfl) ?_
  refine x_nn0 g2 ?_
  refine x_getI C fl_RX2_17 g3 dX2_become_10 ?_
  refine x_topi (fun x7 e8 => ?_)
  have h := h x7 e8
  refine x_putI C fl_RX2_17 (Or.inl rfl) g6 dX2_become_13 ?_
  refine x_aload_n C dX2_become_16 rfl (lv_at hl 0 rfl) ?_
  refine x_aload_nq C dX2_become_17 rfl (lv_at hl 1 rfl) ?_
  refine x_callV (rm := rm_X2_copyFirst) (rest := []) (As := [va_rf p1]) C cy_RX2_28 g6 (by decide) (by decide) rfl rfl (Nat.le_of_ble_eq_true rfl) hl.1 dX2_become_18 (c_X2_copyFirst l D cy a0 p1 (stI (stI σ a0 2 x4) a0 1 x7) _ h) (ks_v (fun σ9 h => ?_))
  exact x_vret C hr dX2_become_21 ⟨rfl, h⟩
theorem dX9_write_0 : decode cX9_write 0 = .ok (.aload_n 1, 1) := by decide +kernel
theorem dX9_write_1 : decode cX9_write 1 = .ok (.aload_n 0, 1) := by decide +kernel
theorem dX9_write_2 : decode cX9_write 2 = .ok (.getfield 7, 3) := by decide +kernel
theorem dX9_write_5 : decode cX9_write 5 = .ok (.invokevirtual 25, 3) := by decide +kernel
theorem dX9_write_8 : decode cX9_write 8 = .ok (.aload_n 1, 1) := by decide +kernel
theorem dX9_write_9 : decode cX9_write 9 = .ok (.aload_n 0, 1) := by decide +kernel
theorem dX9_write_10 : decode cX9_write 10 = .ok (.getfield 13, 3) := by decide +kernel
theorem dX9_write_13 : decode cX9_write 13 = .ok (.invokevirtual 31, 3) := by decide +kernel
theorem dX9_write_16 : decode cX9_write 16 = .ok (.aload_n 1, 1) := by decide +kernel
theorem dX9_write_17 : decode cX9_write 17 = .ok (.aload_n 0, 1) := by decide +kernel
theorem dX9_write_18 : decode cX9_write 18 = .ok (.getfield 16, 3) := by decide +kernel
theorem dX9_write_21 : decode cX9_write 21 = .ok (.invokevirtual 25, 3) := by decide +kernel
theorem dX9_write_24 : decode cX9_write 24 = .ok (.aload_n 1, 1) := by decide +kernel
theorem dX9_write_25 : decode cX9_write 25 = .ok (.aload_n 0, 1) := by decide +kernel
theorem dX9_write_26 : decode cX9_write 26 = .ok (.getfield 19, 3) := by decide +kernel
theorem dX9_write_29 : decode cX9_write 29 = .ok (.invokevirtual 25, 3) := by decide +kernel
theorem dX9_write_32 : decode cX9_write 32 = .ok (.aload_n 1, 1) := by decide +kernel
theorem dX9_write_33 : decode cX9_write 33 = .ok (.aload_n 0, 1) := by decide +kernel
theorem dX9_write_34 : decode cX9_write 34 = .ok (.getfield 22, 3) := by decide +kernel
theorem dX9_write_37 : decode cX9_write 37 = .ok (.invokevirtual 34, 3) := by decide +kernel
theorem dX9_write_40 : decode cX9_write 40 = .ok (.return_, 1) := by decide +kernel
abbrev rm_X9_write : Room := { frames := 2, cells := 0, slots := 0, locals := 44 }
def wp_X9_write (a0 : Nat) (p1 : Option Nat) (σ : Sto) (Q : Sto → Prop) : Prop := (sK σ a0 = 9 ∧ (∀ x2 : Int32, x2 = sI σ a0 0 → (∃ b4 : Nat, p1 = some b4 ∧ (sK σ b4 = 0 ∧ (wp_X0_add b4 x2 σ (fun (σ7 : Sto) => (sK σ7 a0 = 9 ∧ (∀ x9 : Int32, x9 = sI σ7 a0 1 → (sK σ7 b4 = 0 ∧ (wp_X0_addNumber b4 x9 σ7 (fun (σ12 : Sto) => (sK σ12 a0 = 9 ∧ (∀ x14 : Int32, x14 = sI σ12 a0 2 → (sK σ12 b4 = 0 ∧ (wp_X0_add b4 x14 σ12 (fun (σ17 : Sto) => (sK σ17 a0 = 9 ∧ (∀ x19 : Int32, x19 = sI σ17 a0 3 → (sK σ17 b4 = 0 ∧ (wp_X0_add b4 x19 σ17 (fun (σ22 : Sto) => (sK σ22 a0 = 9 ∧ (∀ x24 : Int32, x24 = sI σ22 a0 4 → (sK σ22 b4 = 0 ∧ (wp_X0_addWord b4 x24 σ22 (fun (σ27 : Sto) => Q σ27))))))))))))))))))))))))))
set_option maxHeartbeats 4000000 in
set_option maxRecDepth 100000 in
theorem c_X9_write (l : Launch) (D : va_G) (cy : Nat → ClassId) (a0 : Nat) (p1 : Option Nat) (σ : Sto) (Q : Sto → Prop) (h : wp_X9_write a0 p1 σ Q) : Mt l D cy yX9_write cX9_write 2 none rm_X9_write [.ref a0, va_rf p1] σ (PsV Q) := by
  unfold wp_X9_write at h
  refine mt_of (by decide +kernel) (by simp [lg_sl, vrc, cat_i, cat_r, cat_l]) ?_
  intro p e s m args below meth c A ls C hr hnm hl
  have C : Cx p s m args meth c D cy A cX9_write 2 RX9 := C
  have hl : lv_has ls 2 [(0, .ref a0), (1, va_rf p1)] := by simpa [lv_args, vrc, cat_i, cat_r, cat_l] using hl
  refine x_aload_nq C dX9_write_0 rfl (lv_at hl 1 rfl) ?_
  refine x_aload_n C dX9_write_1 rfl (lv_at hl 0 rfl) ?_
  obtain ⟨g1, h⟩ := h
  refine x_getI C fl_RX9_7 g1 dX9_write_2 ?_
  refine x_topi (fun x2 e3 => ?_)
  have h := h x2 e3
  obtain ⟨b4, g5, h⟩ := h
  refine x_nn1 g5 ?_
  obtain ⟨g6, h⟩ := h
  refine x_callV (rm := rm_X0_add) (rest := []) (As := [.int x2]) C cy_RX9_25 g6 (by decide) (by decide) rfl rfl (Nat.le_of_ble_eq_true rfl) hl.1 dX9_write_5 (c_X0_add l D cy b4 x2 σ _ h) (ks_v (fun σ7 h => ?_))
  refine x_aload_nq C dX9_write_8 rfl (lv_at hl 1 rfl) ?_
  refine x_aload_n C dX9_write_9 rfl (lv_at hl 0 rfl) ?_
  obtain ⟨g8, h⟩ := h
  refine x_getI C fl_RX9_13 g8 dX9_write_10 ?_
  refine x_topi (fun x9 e10 => ?_)
  have h := h x9 e10
  refine x_nn1 g5 ?_
  obtain ⟨g11, h⟩ := h
  refine x_callV (rm := rm_X0_addNumber) (rest := []) (As := [.int x9]) C cy_RX9_31 g11 (by decide) (by decide) rfl rfl (Nat.le_of_ble_eq_true rfl) hl.1 dX9_write_13 (c_X0_addNumber l D cy b4 x9 σ7 _ h) (ks_v (fun σ12 h => ?_))
  refine x_aload_nq C dX9_write_16 rfl (lv_at hl 1 rfl) ?_
  refine x_aload_n C dX9_write_17 rfl (lv_at hl 0 rfl) ?_
  obtain ⟨g13, h⟩ := h
  refine x_getI C fl_RX9_16 g13 dX9_write_18 ?_
  refine x_topi (fun x14 e15 => ?_)
  have h := h x14 e15
  refine x_nn1 g5 ?_
  obtain ⟨g16, h⟩ := h
  refine x_callV (rm := rm_X0_add) (rest := []) (As := [.int x14]) C cy_RX9_25 g16 (by decide) (by decide) rfl rfl (Nat.le_of_ble_eq_true rfl) hl.1 dX9_write_21 (c_X0_add l D cy b4 x14 σ12 _ h) (ks_v (fun σ17 h => ?_))
  refine x_aload_nq C dX9_write_24 rfl (lv_at hl 1 rfl) ?_
  refine x_aload_n C dX9_write_25 rfl (lv_at hl 0 rfl) ?_
  obtain ⟨g18, h⟩ := h
  refine x_getI C fl_RX9_19 g18 dX9_write_26 ?_
  refine x_topi (fun x19 e20 => ?_)
  have h := h x19 e20
  refine x_nn1 g5 ?_
  obtain ⟨g21, h⟩ := h
  refine x_callV (rm := rm_X0_add) (rest := []) (As := [.int x19]) C cy_RX9_25 g21 (by decide) (by decide) rfl rfl (Nat.le_of_ble_eq_true rfl) hl.1 dX9_write_29 (c_X0_add l D cy b4 x19 σ17 _ h) (ks_v (fun σ22 h => ?_))
  refine x_aload_nq C dX9_write_32 rfl (lv_at hl 1 rfl) ?_
  refine x_aload_n C dX9_write_33 rfl (lv_at hl 0 rfl) ?_
  obtain ⟨g23, h⟩ := h
  refine x_getI C fl_RX9_22 g23 dX9_write_34 ?_
  refine x_topi (fun x24 e25 => ?_)
  have h := h x24 e25
  refine x_nn1 g5 ?_
  obtain ⟨g26, h⟩ := h
  refine x_callV (rm := rm_X0_addWord) (rest := []) (As := [.int x24]) C cy_RX9_34 g26 (by decide) (by decide) rfl rfl (Nat.le_of_ble_eq_true rfl) hl.1 dX9_write_37 (c_X0_addWord l D cy b4 x24 σ22 _ h) (ks_v (fun σ27 h => ?_))
  exact x_vret C hr dX9_write_40 ⟨rfl, h⟩
theorem dX2_write_0 : decode cX2_write 0 = .ok (.aload_n 1, 1) := by decide +kernel
theorem dX2_write_1 : decode cX2_write 1 = .ok (.aload_n 0, 1) := by decide +kernel
theorem dX2_write_2 : decode cX2_write 2 = .ok (.getfield 17, 3) := by decide +kernel
theorem dX2_write_5 : decode cX2_write 5 = .ok (.invokevirtual 32, 3) := by decide +kernel
theorem dX2_write_8 : decode cX2_write 8 = .ok (.iconst 1, 1) := by decide +kernel
theorem dX2_write_9 : decode cX2_write 9 = .ok (.istore_n 2, 1) := by decide +kernel
theorem dX2_write_10 : decode cX2_write 10 = .ok (.iload_n 2, 1) := by decide +kernel
theorem dX2_write_11 : decode cX2_write 11 = .ok (.aload_n 0, 1) := by decide +kernel
theorem dX2_write_12 : decode cX2_write 12 = .ok (.getfield 17, 3) := by decide +kernel
theorem dX2_write_15 : decode cX2_write 15 = .ok (.if_icmp .gt 37, 3) := by decide +kernel
theorem dX2_write_18 : decode cX2_write 18 = .ok (.aload_n 0, 1) := by decide +kernel
theorem dX2_write_19 : decode cX2_write 19 = .ok (.iload_n 2, 1) := by decide +kernel
theorem dX2_write_20 : decode cX2_write 20 = .ok (.invokevirtual 38, 3) := by decide +kernel
theorem dX2_write_23 : decode cX2_write 23 = .ok (.astore_n 3, 1) := by decide +kernel
theorem dX2_write_24 : decode cX2_write 24 = .ok (.aload_n 1, 1) := by decide +kernel
theorem dX2_write_25 : decode cX2_write 25 = .ok (.aload_n 3, 1) := by decide +kernel
theorem dX2_write_26 : decode cX2_write 26 = .ok (.ifnonnull 7, 3) := by decide +kernel
theorem dX2_write_29 : decode cX2_write 29 = .ok (.iconst 0, 1) := by decide +kernel
theorem dX2_write_30 : decode cX2_write 30 = .ok (.goto 4, 3) := by decide +kernel
theorem dX2_write_33 : decode cX2_write 33 = .ok (.iconst 1, 1) := by decide +kernel
theorem dX2_write_34 : decode cX2_write 34 = .ok (.invokevirtual 42, 3) := by decide +kernel
theorem dX2_write_37 : decode cX2_write 37 = .ok (.aload_n 3, 1) := by decide +kernel
theorem dX2_write_38 : decode cX2_write 38 = .ok (.ifnull 8, 3) := by decide +kernel
theorem dX2_write_41 : decode cX2_write 41 = .ok (.aload_n 3, 1) := by decide +kernel
theorem dX2_write_42 : decode cX2_write 42 = .ok (.aload_n 1, 1) := by decide +kernel
theorem dX2_write_43 : decode cX2_write 43 = .ok (.invokevirtual 45, 3) := by decide +kernel
theorem dX2_write_46 : decode cX2_write 46 = .ok (.iinc 2 1, 3) := by decide +kernel
theorem dX2_write_49 : decode cX2_write 49 = .ok (.goto (-39), 3) := by decide +kernel
theorem dX2_write_52 : decode cX2_write 52 = .ok (.return_, 1) := by decide +kernel
abbrev rm_X2_write : Room := { frames := 3, cells := 0, slots := 0, locals := 65 }
def b_X2_write_46 (a0 : Nat) (L10 : Option Nat × Int32 → Sto → Prop) (Q : Sto → Prop) (p1 : Option Nat) (p2 : Int32) (σ : Sto) : Prop := (∀ x1 : Int32, x1 = p2 + (1 : Int32) → L10 (p1, x1) σ)
set_option maxHeartbeats 4000000 in
set_option maxRecDepth 100000 in
theorem t_X2_write_46 {p : Program} {l : Launch} {e : Env} {s : State} {m : MethodId} {args : Array Value} {below : List Frame} {meth : Method} {c : Code} {D : va_G} {cy : Nat → ClassId} {A : Nat → Prop} {a0 : Nat} {L10 : Option Nat × Int32 → Sto → Prop} {Q : Sto → Prop} (C : Cx p s m args meth c D cy A cX2_write 4 RX2) (hr : meth.sig.returnType = none) (hnm : meth.name = yX2_write.name) (hL10 : ∀ (t : Option Nat × Int32) (σ : Sto), L10 t σ → ∀ ls : Array Slot, lv_has ls 4 [(0, .ref a0), (1, va_rf t.1), (2, .int t.2)] → Xw p l e rm_X2_write s m args below meth c D cy A σ 0 0 (MQ below (Qst D cy A (PsV Q)) args s rm_X2_write.cells rm_X2_write.slots A) (F0 m 10 ls [])) (p1 : Option Nat) (p2 : Int32) (σ : Sto) (h : b_X2_write_46 a0 L10 Q p1 p2 σ) (ls : Array Slot) (hl : lv_has ls 4 [(0, .ref a0), (1, va_rf p1), (2, .int p2)]) : Xw p l e rm_X2_write s m args below meth c D cy A σ 0 0 (MQ below (Qst D cy A (PsV Q)) args s rm_X2_write.cells rm_X2_write.slots A) (F0 m 46 ls []) := by
  unfold b_X2_write_46 at h
  obtain ⟨x1, e2⟩ : ∃ z : Int32, z = p2 + (1 : Int32) := ⟨_, rfl⟩
  have h := h x1 e2
  refine x_iinc (v := x1) (lv' := [(2, .int x1), (0, .ref a0), (1, va_rf p1)]) C dX2_write_46 hl (q0 := 2) rfl (by rw [e2]; rfl) (by decide) (by first | rfl | simp [vrc, cat_i, cat_r, cat_l]) (fun ls hl => ?_)
  refine x_goto (tgt := 10) C dX2_write_49 (by decide) ?_
  exact hL10 (p1, x1) _ h ls (lv_sub hl [1, 2, 0] rfl)
def b_X2_write_34 (a0 : Nat) (L10 : Option Nat × Int32 → Sto → Prop) (Q : Sto → Prop) (p1 : Option Nat) (p2 : Int32) (p3 : Option Nat) (s0 : Int32) (s1 : Option Nat) (σ : Sto) : Prop := (∃ b1 : Nat, s1 = some b1 ∧ (sK σ b1 = 0 ∧ (wp_X0_add b1 s0 σ (fun (σ4 : Sto) => ((p3 = none → b_X2_write_46 a0 L10 Q p1 p2 σ4) ∧ (∀ b6 : Nat, p3 = some b6 → (sK σ4 b6 = 9 ∧ (wp_X9_write b6 p1 σ4 (fun (σ9 : Sto) => b_X2_write_46 a0 L10 Q p1 p2 σ9)))))))))
set_option maxHeartbeats 4000000 in
set_option maxRecDepth 100000 in
theorem t_X2_write_34 {p : Program} {l : Launch} {e : Env} {s : State} {m : MethodId} {args : Array Value} {below : List Frame} {meth : Method} {c : Code} {D : va_G} {cy : Nat → ClassId} {A : Nat → Prop} {a0 : Nat} {L10 : Option Nat × Int32 → Sto → Prop} {Q : Sto → Prop} (C : Cx p s m args meth c D cy A cX2_write 4 RX2) (hr : meth.sig.returnType = none) (hnm : meth.name = yX2_write.name) (hL10 : ∀ (t : Option Nat × Int32) (σ : Sto), L10 t σ → ∀ ls : Array Slot, lv_has ls 4 [(0, .ref a0), (1, va_rf t.1), (2, .int t.2)] → Xw p l e rm_X2_write s m args below meth c D cy A σ 0 0 (MQ below (Qst D cy A (PsV Q)) args s rm_X2_write.cells rm_X2_write.slots A) (F0 m 10 ls [])) (p1 : Option Nat) (p2 : Int32) (p3 : Option Nat) (s0 : Int32) (s1 : Option Nat) (σ : Sto) (h : b_X2_write_34 a0 L10 Q p1 p2 p3 s0 s1 σ) (ls : Array Slot) (hl : lv_has ls 4 [(0, .ref a0), (1, va_rf p1), (2, .int p2), (3, va_rf p3)]) : Xw p l e rm_X2_write s m args below meth c D cy A σ 0 0 (MQ below (Qst D cy A (PsV Q)) args s rm_X2_write.cells rm_X2_write.slots A) (F0 m 34 ls [.int s0, va_rf s1]) := by
  unfold b_X2_write_34 at h
  obtain ⟨b1, g2, h⟩ := h
  refine x_nn1 g2 ?_
  obtain ⟨g3, h⟩ := h
  refine x_callV (rm := rm_X0_add) (rest := []) (As := [.int s0]) C cy_RX2_42 g3 (by decide) (by decide) rfl rfl (Nat.le_of_ble_eq_true rfl) hl.1 dX2_write_34 (c_X0_add l D cy b1 s0 σ _ h) (ks_v (fun σ4 h => ?_))
  refine x_aload_nq C dX2_write_37 rfl (lv_at hl 3 rfl) ?_
  refine x_ifnull (tgt := 46) C dX2_write_38 (by decide) (fun c5 => ?_) (fun c5 => ?_)
  · have h := h.1 c5
    exact t_X2_write_46 C hr hnm hL10 p1 p2 _ h ls (lv_sub hl [0, 1, 2] rfl)
  · obtain ⟨b6, g7⟩ := Option.ne_none_iff_exists'.mp c5
    have h := h.2 b6 g7
    refine x_aload_nq C dX2_write_41 rfl (lv_at hl 3 rfl) ?_
    refine x_aload_nq C dX2_write_42 rfl (lv_at hl 1 rfl) ?_
    refine x_nn1 g7 ?_
    obtain ⟨g8, h⟩ := h
    refine x_callV (rm := rm_X9_write) (rest := []) (As := [va_rf p1]) C cy_RX2_45 g8 (by decide) (by decide) rfl rfl (Nat.le_of_ble_eq_true rfl) hl.1 dX2_write_43 (c_X9_write l D cy b6 p1 σ4 _ h) (ks_v (fun σ9 h => ?_))
    exact t_X2_write_46 C hr hnm hL10 p1 p2 _ h ls (lv_sub hl [0, 1, 2] rfl)
def f_X2_write_10 (a0 : Nat)  (Q : Sto → Prop) (L10 : Option Nat × Int32 → Sto → Prop) (t : Option Nat × Int32) (σ : Sto) : Prop := (sK σ a0 = 2 ∧ (∀ x2 : Int32, x2 = sI σ a0 1 → ((x2 < t.2 → Q σ) ∧ (¬ x2 < t.2 → (wp_X2_at a0 t.2 σ (fun (r6 : Option Nat) (σ5 : Sto) => ((r6 = none → b_X2_write_34 a0 L10 Q t.1 t.2 r6 (0 : Int32) t.1 σ5) ∧ (∀ b8 : Nat, r6 = some b8 → b_X2_write_34 a0 L10 Q t.1 t.2 r6 (1 : Int32) t.1 σ5))))))))
set_option maxHeartbeats 4000000 in
set_option maxRecDepth 100000 in
theorem t_X2_write_10 {p : Program} {l : Launch} {e : Env} {s : State} {m : MethodId} {args : Array Value} {below : List Frame} {meth : Method} {c : Code} {D : va_G} {cy : Nat → ClassId} {A : Nat → Prop} {a0 : Nat} {Q : Sto → Prop} {L10 : Option Nat × Int32 → Sto → Prop} (C : Cx p s m args meth c D cy A cX2_write 4 RX2) (hr : meth.sig.returnType = none) (hnm : meth.name = yX2_write.name) (hL10 : ∀ (t : Option Nat × Int32) (σ : Sto), L10 t σ → ∀ ls : Array Slot, lv_has ls 4 [(0, .ref a0), (1, va_rf t.1), (2, .int t.2)] → Xw p l e rm_X2_write s m args below meth c D cy A σ 0 0 (MQ below (Qst D cy A (PsV Q)) args s rm_X2_write.cells rm_X2_write.slots A) (F0 m 10 ls [])) : ∀ (t : Option Nat × Int32) (σ : Sto), f_X2_write_10 a0  Q L10 t σ → ∀ ls : Array Slot, lv_has ls 4 [(0, .ref a0), (1, va_rf t.1), (2, .int t.2)] → Xw p l e rm_X2_write s m args below meth c D cy A σ 0 0 (MQ below (Qst D cy A (PsV Q)) args s rm_X2_write.cells rm_X2_write.slots A) (F0 m 10 ls []) := by
  intro t σ h ls hl
  unfold f_X2_write_10 at h
  refine x_iload_n C dX2_write_10 rfl (lv_at hl 2 rfl) ?_
  refine x_aload_n C dX2_write_11 rfl (lv_at hl 0 rfl) ?_
  obtain ⟨g1, h⟩ := h
  refine x_getI C fl_RX2_17 g1 dX2_write_12 ?_
  refine x_topi (fun x2 e3 => ?_)
  have h := h x2 e3
  refine x_icmp_gt (tgt := 52) C dX2_write_15 (by decide) (fun c4 => ?_) (fun c4 => ?_)
  · have h := h.1 c4
    exact x_vret C hr dX2_write_52 ⟨rfl, h⟩
  · have h := h.2 c4
    refine x_aload_n C dX2_write_18 rfl (lv_at hl 0 rfl) ?_
    refine x_iload_n C dX2_write_19 rfl (lv_at hl 2 rfl) ?_
    refine x_callV (rm := rm_X2_at) (rest := []) (As := [.int t.2]) C cy_RX2_38 g1 (by decide) (by decide) rfl rfl (Nat.le_of_ble_eq_true rfl) hl.1 dX2_write_20 (c_X2_at l D cy a0 t.2 σ _ h) (ks_p (fun r6 σ5 h => ?_))
    refine x_astore_nq (i := 3) (lv' := [(3, va_rf r6), (0, .ref a0), (1, va_rf t.1), (2, .int t.2)]) C dX2_write_23 rfl hl (by decide) (by first | rfl | simp [vrc, cat_i, cat_r, cat_l]) (fun ls hl => ?_)
    refine x_aload_nq C dX2_write_24 rfl (lv_at hl 2 rfl) ?_
    refine x_aload_nq C dX2_write_25 rfl (lv_at hl 0 rfl) ?_
    refine x_ifnonnull (tgt := 33) C dX2_write_26 (by decide) (fun c7 => ?_) (fun c7 => ?_)
    · obtain ⟨b8, g9⟩ := Option.ne_none_iff_exists'.mp c7
      have h := h.2 b8 g9
      refine x_iconst (v := 1) C dX2_write_33 (by decide) ?_
      exact t_X2_write_34 C hr hnm hL10 t.1 t.2 r6 (1 : Int32) t.1 _ h ls (lv_sub hl [1, 2, 3, 0] rfl)
    · have h := h.1 c7
      refine x_iconst (v := 0) C dX2_write_29 (by decide) ?_
      refine x_goto (tgt := 34) C dX2_write_30 (by decide) ?_
      exact t_X2_write_34 C hr hnm hL10 t.1 t.2 r6 (0 : Int32) t.1 _ h ls (lv_sub hl [1, 2, 3, 0] rfl)
def wp_X2_write (a0 : Nat) (p1 : Option Nat) (σ : Sto) (Q : Sto → Prop) : Prop := (sK σ a0 = 2 ∧ (∀ x2 : Int32, x2 = sI σ a0 1 → (∃ b4 : Nat, p1 = some b4 ∧ (sK σ b4 = 0 ∧ (wp_X0_addNumber b4 x2 σ (fun (σ7 : Sto) => LF (f_X2_write_10 a0  Q) (p1, (1 : Int32)) σ7))))))
set_option maxHeartbeats 4000000 in
set_option maxRecDepth 100000 in
theorem c_X2_write (l : Launch) (D : va_G) (cy : Nat → ClassId) (a0 : Nat) (p1 : Option Nat) (σ : Sto) (Q : Sto → Prop) (h : wp_X2_write a0 p1 σ Q) : Mt l D cy yX2_write cX2_write 4 none rm_X2_write [.ref a0, va_rf p1] σ (PsV Q) := by
  unfold wp_X2_write at h
  refine mt_of (by decide +kernel) (by simp [lg_sl, vrc, cat_i, cat_r, cat_l]) ?_
  intro p e s m args below meth c A ls C hr hnm hl
  have C : Cx p s m args meth c D cy A cX2_write 4 RX2 := C
  have hl : lv_has ls 4 [(0, .ref a0), (1, va_rf p1)] := by simpa [lv_args, vrc, cat_i, cat_r, cat_l] using hl
  refine x_aload_nq C dX2_write_0 rfl (lv_at hl 1 rfl) ?_
  refine x_aload_n C dX2_write_1 rfl (lv_at hl 0 rfl) ?_
  obtain ⟨g1, h⟩ := h
  refine x_getI C fl_RX2_17 g1 dX2_write_2 ?_
  refine x_topi (fun x2 e3 => ?_)
  have h := h x2 e3
  obtain ⟨b4, g5, h⟩ := h
  refine x_nn1 g5 ?_
  obtain ⟨g6, h⟩ := h
  refine x_callV (rm := rm_X0_addNumber) (rest := []) (As := [.int x2]) C cy_RX2_32 g6 (by decide) (by decide) rfl rfl (Nat.le_of_ble_eq_true rfl) hl.1 dX2_write_5 (c_X0_addNumber l D cy b4 x2 σ _ h) (ks_v (fun σ7 h => ?_))
  refine x_iconst (v := 1) C dX2_write_8 (by decide) ?_
  refine x_istore_n (i := 2) (lv' := [(2, .int (1 : Int32)), (0, .ref a0), (1, va_rf p1)]) C dX2_write_9 rfl hl (by decide) (by first | rfl | simp [vrc, cat_i, cat_r, cat_l]) (fun ls hl => ?_)
  exact h (fun t σ => ∀ ls : Array Slot, lv_has ls 4 [(0, .ref a0), (1, va_rf t.1), (2, .int t.2)] → Xw p l e rm_X2_write s m args below meth c D cy A σ 0 0 (MQ below (Qst D cy A (PsV Q)) args s rm_X2_write.cells rm_X2_write.slots A) (F0 m 10 ls [])) (t_X2_write_10 C hr hnm  (fun t σ h => h)) ls (lv_sub hl [1, 2, 0] rfl)
theorem dX2_writeEntries_0 : decode cX2_writeEntries 0 = .ok (.iload_n 2, 1) := by decide +kernel
theorem dX2_writeEntries_1 : decode cX2_writeEntries 1 = .ok (.iconst 1, 1) := by decide +kernel
theorem dX2_writeEntries_2 : decode cX2_writeEntries 2 = .ok (.iadd, 1) := by decide +kernel
theorem dX2_writeEntries_3 : decode cX2_writeEntries 3 = .ok (.istore_n 3, 1) := by decide +kernel
theorem dX2_writeEntries_4 : decode cX2_writeEntries 4 = .ok (.iload_n 3, 1) := by decide +kernel
theorem dX2_writeEntries_5 : decode cX2_writeEntries 5 = .ok (.iload_n 2, 1) := by decide +kernel
theorem dX2_writeEntries_6 : decode cX2_writeEntries 6 = .ok (.bipush 25, 2) := by decide +kernel
theorem dX2_writeEntries_8 : decode cX2_writeEntries 8 = .ok (.iadd, 1) := by decide +kernel
theorem dX2_writeEntries_9 : decode cX2_writeEntries 9 = .ok (.if_icmp .gt 85, 3) := by decide +kernel
theorem dX2_writeEntries_12 : decode cX2_writeEntries 12 = .ok (.aload_n 0, 1) := by decide +kernel
theorem dX2_writeEntries_13 : decode cX2_writeEntries 13 = .ok (.iload_n 3, 1) := by decide +kernel
theorem dX2_writeEntries_14 : decode cX2_writeEntries 14 = .ok (.invokevirtual 38, 3) := by decide +kernel
theorem dX2_writeEntries_17 : decode cX2_writeEntries 17 = .ok (.astore 4, 2) := by decide +kernel
theorem dX2_writeEntries_19 : decode cX2_writeEntries 19 = .ok (.aload 4, 2) := by decide +kernel
theorem dX2_writeEntries_21 : decode cX2_writeEntries 21 = .ok (.ifnonnull 12, 3) := by decide +kernel
theorem dX2_writeEntries_24 : decode cX2_writeEntries 24 = .ok (.aload_n 1, 1) := by decide +kernel
theorem dX2_writeEntries_25 : decode cX2_writeEntries 25 = .ok (.bipush 16, 2) := by decide +kernel
theorem dX2_writeEntries_27 : decode cX2_writeEntries 27 = .ok (.invokevirtual 49, 3) := by decide +kernel
theorem dX2_writeEntries_30 : decode cX2_writeEntries 30 = .ok (.goto 58, 3) := by decide +kernel
theorem dX2_writeEntries_33 : decode cX2_writeEntries 33 = .ok (.aload_n 1, 1) := by decide +kernel
theorem dX2_writeEntries_34 : decode cX2_writeEntries 34 = .ok (.iconst 1, 1) := by decide +kernel
theorem dX2_writeEntries_35 : decode cX2_writeEntries 35 = .ok (.invokevirtual 42, 3) := by decide +kernel
theorem dX2_writeEntries_38 : decode cX2_writeEntries 38 = .ok (.aload_n 1, 1) := by decide +kernel
theorem dX2_writeEntries_39 : decode cX2_writeEntries 39 = .ok (.aload 4, 2) := by decide +kernel
theorem dX2_writeEntries_41 : decode cX2_writeEntries 41 = .ok (.getfield 52, 3) := by decide +kernel
theorem dX2_writeEntries_44 : decode cX2_writeEntries 44 = .ok (.invokevirtual 42, 3) := by decide +kernel
theorem dX2_writeEntries_47 : decode cX2_writeEntries 47 = .ok (.aload_n 1, 1) := by decide +kernel
theorem dX2_writeEntries_48 : decode cX2_writeEntries 48 = .ok (.aload 4, 2) := by decide +kernel
theorem dX2_writeEntries_50 : decode cX2_writeEntries 50 = .ok (.getfield 55, 3) := by decide +kernel
theorem dX2_writeEntries_53 : decode cX2_writeEntries 53 = .ok (.invokevirtual 42, 3) := by decide +kernel
theorem dX2_writeEntries_56 : decode cX2_writeEntries 56 = .ok (.aload_n 1, 1) := by decide +kernel
theorem dX2_writeEntries_57 : decode cX2_writeEntries 57 = .ok (.aload 4, 2) := by decide +kernel
theorem dX2_writeEntries_59 : decode cX2_writeEntries 59 = .ok (.getfield 58, 3) := by decide +kernel
theorem dX2_writeEntries_62 : decode cX2_writeEntries 62 = .ok (.invokevirtual 42, 3) := by decide +kernel
theorem dX2_writeEntries_65 : decode cX2_writeEntries 65 = .ok (.aload_n 1, 1) := by decide +kernel
theorem dX2_writeEntries_66 : decode cX2_writeEntries 66 = .ok (.aload 4, 2) := by decide +kernel
theorem dX2_writeEntries_68 : decode cX2_writeEntries 68 = .ok (.getfield 61, 3) := by decide +kernel
theorem dX2_writeEntries_71 : decode cX2_writeEntries 71 = .ok (.invokevirtual 64, 3) := by decide +kernel
theorem dX2_writeEntries_74 : decode cX2_writeEntries 74 = .ok (.aload_n 1, 1) := by decide +kernel
theorem dX2_writeEntries_75 : decode cX2_writeEntries 75 = .ok (.aload 4, 2) := by decide +kernel
theorem dX2_writeEntries_77 : decode cX2_writeEntries 77 = .ok (.getfield 67, 3) := by decide +kernel
theorem dX2_writeEntries_80 : decode cX2_writeEntries 80 = .ok (.invokevirtual 64, 3) := by decide +kernel
theorem dX2_writeEntries_83 : decode cX2_writeEntries 83 = .ok (.aload_n 1, 1) := by decide +kernel
theorem dX2_writeEntries_84 : decode cX2_writeEntries 84 = .ok (.iconst 4, 1) := by decide +kernel
theorem dX2_writeEntries_85 : decode cX2_writeEntries 85 = .ok (.invokevirtual 49, 3) := by decide +kernel
theorem dX2_writeEntries_88 : decode cX2_writeEntries 88 = .ok (.iinc 3 1, 3) := by decide +kernel
theorem dX2_writeEntries_91 : decode cX2_writeEntries 91 = .ok (.goto (-87), 3) := by decide +kernel
theorem dX2_writeEntries_94 : decode cX2_writeEntries 94 = .ok (.return_, 1) := by decide +kernel
abbrev rm_X2_writeEntries : Room := { frames := 2, cells := 0, slots := 0, locals := 43 }
def b_X2_writeEntries_88 (a0 : Nat) (L4 : Option Nat × Int32 × Int32 → Sto → Prop) (Q : Sto → Prop) (p1 : Option Nat) (p2 : Int32) (p3 : Int32) (σ : Sto) : Prop := (∀ x1 : Int32, x1 = p3 + (1 : Int32) → L4 (p1, p2, x1) σ)
set_option maxHeartbeats 4000000 in
set_option maxRecDepth 100000 in
theorem t_X2_writeEntries_88 {p : Program} {l : Launch} {e : Env} {s : State} {m : MethodId} {args : Array Value} {below : List Frame} {meth : Method} {c : Code} {D : va_G} {cy : Nat → ClassId} {A : Nat → Prop} {a0 : Nat} {L4 : Option Nat × Int32 × Int32 → Sto → Prop} {Q : Sto → Prop} (C : Cx p s m args meth c D cy A cX2_writeEntries 5 RX2) (hr : meth.sig.returnType = none) (hnm : meth.name = yX2_writeEntries.name) (hL4 : ∀ (t : Option Nat × Int32 × Int32) (σ : Sto), L4 t σ → ∀ ls : Array Slot, lv_has ls 5 [(0, .ref a0), (1, va_rf t.1), (2, .int t.2.1), (3, .int t.2.2)] → Xw p l e rm_X2_writeEntries s m args below meth c D cy A σ 0 0 (MQ below (Qst D cy A (PsV Q)) args s rm_X2_writeEntries.cells rm_X2_writeEntries.slots A) (F0 m 4 ls [])) (p1 : Option Nat) (p2 : Int32) (p3 : Int32) (σ : Sto) (h : b_X2_writeEntries_88 a0 L4 Q p1 p2 p3 σ) (ls : Array Slot) (hl : lv_has ls 5 [(0, .ref a0), (1, va_rf p1), (2, .int p2), (3, .int p3)]) : Xw p l e rm_X2_writeEntries s m args below meth c D cy A σ 0 0 (MQ below (Qst D cy A (PsV Q)) args s rm_X2_writeEntries.cells rm_X2_writeEntries.slots A) (F0 m 88 ls []) := by
  unfold b_X2_writeEntries_88 at h
  obtain ⟨x1, e2⟩ : ∃ z : Int32, z = p3 + (1 : Int32) := ⟨_, rfl⟩
  have h := h x1 e2
  refine x_iinc (v := x1) (lv' := [(3, .int x1), (0, .ref a0), (1, va_rf p1), (2, .int p2)]) C dX2_writeEntries_88 hl (q0 := 3) rfl (by rw [e2]; rfl) (by decide) (by first | rfl | simp [vrc, cat_i, cat_r, cat_l]) (fun ls hl => ?_)
  refine x_goto (tgt := 4) C dX2_writeEntries_91 (by decide) ?_
  exact hL4 (p1, p2, x1) _ h ls (lv_sub hl [1, 2, 3, 0] rfl)
def f_X2_writeEntries_4 (a0 : Nat)  (Q : Sto → Prop) (L4 : Option Nat × Int32 × Int32 → Sto → Prop) (t : Option Nat × Int32 × Int32) (σ : Sto) : Prop := (((t.2.1 + (25 : Int32)) < t.2.2 → Q σ) ∧ (¬ (t.2.1 + (25 : Int32)) < t.2.2 → (sK σ a0 = 2 ∧ (wp_X2_at a0 t.2.2 σ (fun (r4 : Option Nat) (σ3 : Sto) => ((r4 = none → (∃ b39 : Nat, t.1 = some b39 ∧ (sK σ3 b39 = 0 ∧ (wp_X0_addZeros b39 (16 : Int32) σ3 (fun (σ42 : Sto) => b_X2_writeEntries_88 a0 L4 Q t.1 t.2.1 t.2.2 σ42))))) ∧ (∀ b6 : Nat, r4 = some b6 → (∃ b8 : Nat, t.1 = some b8 ∧ (sK σ3 b8 = 0 ∧ (wp_X0_add b8 (1 : Int32) σ3 (fun (σ11 : Sto) => (sK σ11 b6 = 9 ∧ (∀ x13 : Int32, x13 = sI σ11 b6 0 → (sK σ11 b8 = 0 ∧ (wp_X0_add b8 x13 σ11 (fun (σ16 : Sto) => (sK σ16 b6 = 9 ∧ (∀ x18 : Int32, x18 = sI σ16 b6 2 → (sK σ16 b8 = 0 ∧ (wp_X0_add b8 x18 σ16 (fun (σ21 : Sto) => (sK σ21 b6 = 9 ∧ (∀ x23 : Int32, x23 = sI σ21 b6 3 → (sK σ21 b8 = 0 ∧ (wp_X0_add b8 x23 σ21 (fun (σ26 : Sto) => (sK σ26 b6 = 9 ∧ (∀ x28 : Int32, x28 = sI σ26 b6 1 → (sK σ26 b8 = 0 ∧ (wp_X0_addWord b8 x28 σ26 (fun (σ31 : Sto) => (sK σ31 b6 = 9 ∧ (∀ x33 : Int32, x33 = sI σ31 b6 4 → (sK σ31 b8 = 0 ∧ (wp_X0_addWord b8 x33 σ31 (fun (σ36 : Sto) => (sK σ36 b8 = 0 ∧ (wp_X0_addZeros b8 (4 : Int32) σ36 (fun (σ38 : Sto) => b_X2_writeEntries_88 a0 L4 Q t.1 t.2.1 t.2.2 σ38)))))))))))))))))))))))))))))))))))))))
set_option maxHeartbeats 4000000 in
set_option maxRecDepth 100000 in
theorem t_X2_writeEntries_4 {p : Program} {l : Launch} {e : Env} {s : State} {m : MethodId} {args : Array Value} {below : List Frame} {meth : Method} {c : Code} {D : va_G} {cy : Nat → ClassId} {A : Nat → Prop} {a0 : Nat} {Q : Sto → Prop} {L4 : Option Nat × Int32 × Int32 → Sto → Prop} (C : Cx p s m args meth c D cy A cX2_writeEntries 5 RX2) (hr : meth.sig.returnType = none) (hnm : meth.name = yX2_writeEntries.name) (hL4 : ∀ (t : Option Nat × Int32 × Int32) (σ : Sto), L4 t σ → ∀ ls : Array Slot, lv_has ls 5 [(0, .ref a0), (1, va_rf t.1), (2, .int t.2.1), (3, .int t.2.2)] → Xw p l e rm_X2_writeEntries s m args below meth c D cy A σ 0 0 (MQ below (Qst D cy A (PsV Q)) args s rm_X2_writeEntries.cells rm_X2_writeEntries.slots A) (F0 m 4 ls [])) : ∀ (t : Option Nat × Int32 × Int32) (σ : Sto), f_X2_writeEntries_4 a0  Q L4 t σ → ∀ ls : Array Slot, lv_has ls 5 [(0, .ref a0), (1, va_rf t.1), (2, .int t.2.1), (3, .int t.2.2)] → Xw p l e rm_X2_writeEntries s m args below meth c D cy A σ 0 0 (MQ below (Qst D cy A (PsV Q)) args s rm_X2_writeEntries.cells rm_X2_writeEntries.slots A) (F0 m 4 ls []) := by
  intro t σ h ls hl
  unfold f_X2_writeEntries_4 at h
  refine x_iload_n C dX2_writeEntries_4 rfl (lv_at hl 3 rfl) ?_
  refine x_iload_n C dX2_writeEntries_5 rfl (lv_at hl 2 rfl) ?_
  refine x_bipush (v := 25) C dX2_writeEntries_6 (by decide) ?_
  refine x_iadd C dX2_writeEntries_8 ?_
  refine x_icmp_gt (tgt := 94) C dX2_writeEntries_9 (by decide) (fun c1 => ?_) (fun c1 => ?_)
  · have h := h.1 c1
    exact x_vret C hr dX2_writeEntries_94 ⟨rfl, h⟩
  · have h := h.2 c1
    refine x_aload_n C dX2_writeEntries_12 rfl (lv_at hl 0 rfl) ?_
    refine x_iload_n C dX2_writeEntries_13 rfl (lv_at hl 3 rfl) ?_
    obtain ⟨g2, h⟩ := h
    refine x_callV (rm := rm_X2_at) (rest := []) (As := [.int t.2.2]) C cy_RX2_38 g2 (by decide) (by decide) rfl rfl (Nat.le_of_ble_eq_true rfl) hl.1 dX2_writeEntries_14 (c_X2_at l D cy a0 t.2.2 σ _ h) (ks_p (fun r4 σ3 h => ?_))
    refine x_astoreq (i := 4) (lv' := [(4, va_rf r4), (0, .ref a0), (1, va_rf t.1), (2, .int t.2.1), (3, .int t.2.2)]) C dX2_writeEntries_17 hl (by decide) (by first | rfl | simp [vrc, cat_i, cat_r, cat_l]) (fun ls hl => ?_)
    refine x_aloadq C dX2_writeEntries_19 (lv_at hl 0 rfl) ?_
    refine x_ifnonnull (tgt := 33) C dX2_writeEntries_21 (by decide) (fun c5 => ?_) (fun c5 => ?_)
    · obtain ⟨b6, g7⟩ := Option.ne_none_iff_exists'.mp c5
      have h := h.2 b6 g7
      refine x_aload_nq C dX2_writeEntries_33 rfl (lv_at hl 2 rfl) ?_
      refine x_iconst (v := 1) C dX2_writeEntries_34 (by decide) ?_
      obtain ⟨b8, g9, h⟩ := h
      refine x_nn1 g9 ?_
      obtain ⟨g10, h⟩ := h
      refine x_callV (rm := rm_X0_add) (rest := []) (As := [.int (1 : Int32)]) C cy_RX2_42 g10 (by decide) (by decide) rfl rfl (Nat.le_of_ble_eq_true rfl) hl.1 dX2_writeEntries_35 (c_X0_add l D cy b8 (1 : Int32) σ3 _ h) (ks_v (fun σ11 h => ?_))
      refine x_aload_nq C dX2_writeEntries_38 rfl (lv_at hl 2 rfl) ?_
      refine x_aloadq C dX2_writeEntries_39 (lv_at hl 0 rfl) ?_
      refine x_nn0 g7 ?_
      obtain ⟨g12, h⟩ := h
      refine x_getI C fl_RX2_52 g12 dX2_writeEntries_41 ?_
      refine x_topi (fun x13 e14 => ?_)
      have h := h x13 e14
      refine x_nn1 g9 ?_
      obtain ⟨g15, h⟩ := h
      refine x_callV (rm := rm_X0_add) (rest := []) (As := [.int x13]) C cy_RX2_42 g15 (by decide) (by decide) rfl rfl (Nat.le_of_ble_eq_true rfl) hl.1 dX2_writeEntries_44 (c_X0_add l D cy b8 x13 σ11 _ h) (ks_v (fun σ16 h => ?_))
      refine x_aload_nq C dX2_writeEntries_47 rfl (lv_at hl 2 rfl) ?_
      refine x_aloadq C dX2_writeEntries_48 (lv_at hl 0 rfl) ?_
      refine x_nn0 g7 ?_
      obtain ⟨g17, h⟩ := h
      refine x_getI C fl_RX2_55 g17 dX2_writeEntries_50 ?_
      refine x_topi (fun x18 e19 => ?_)
      have h := h x18 e19
      refine x_nn1 g9 ?_
      obtain ⟨g20, h⟩ := h
      refine x_callV (rm := rm_X0_add) (rest := []) (As := [.int x18]) C cy_RX2_42 g20 (by decide) (by decide) rfl rfl (Nat.le_of_ble_eq_true rfl) hl.1 dX2_writeEntries_53 (c_X0_add l D cy b8 x18 σ16 _ h) (ks_v (fun σ21 h => ?_))
      refine x_aload_nq C dX2_writeEntries_56 rfl (lv_at hl 2 rfl) ?_
      refine x_aloadq C dX2_writeEntries_57 (lv_at hl 0 rfl) ?_
      refine x_nn0 g7 ?_
      obtain ⟨g22, h⟩ := h
      refine x_getI C fl_RX2_58 g22 dX2_writeEntries_59 ?_
      refine x_topi (fun x23 e24 => ?_)
      have h := h x23 e24
      refine x_nn1 g9 ?_
      obtain ⟨g25, h⟩ := h
      refine x_callV (rm := rm_X0_add) (rest := []) (As := [.int x23]) C cy_RX2_42 g25 (by decide) (by decide) rfl rfl (Nat.le_of_ble_eq_true rfl) hl.1 dX2_writeEntries_62 (c_X0_add l D cy b8 x23 σ21 _ h) (ks_v (fun σ26 h => ?_))
      refine x_aload_nq C dX2_writeEntries_65 rfl (lv_at hl 2 rfl) ?_
      refine x_aloadq C dX2_writeEntries_66 (lv_at hl 0 rfl) ?_
      refine x_nn0 g7 ?_
      obtain ⟨g27, h⟩ := h
      refine x_getI C fl_RX2_61 g27 dX2_writeEntries_68 ?_
      refine x_topi (fun x28 e29 => ?_)
      have h := h x28 e29
      refine x_nn1 g9 ?_
      obtain ⟨g30, h⟩ := h
      refine x_callV (rm := rm_X0_addWord) (rest := []) (As := [.int x28]) C cy_RX2_64 g30 (by decide) (by decide) rfl rfl (Nat.le_of_ble_eq_true rfl) hl.1 dX2_writeEntries_71 (c_X0_addWord l D cy b8 x28 σ26 _ h) (ks_v (fun σ31 h => ?_))
      refine x_aload_nq C dX2_writeEntries_74 rfl (lv_at hl 2 rfl) ?_
      refine x_aloadq C dX2_writeEntries_75 (lv_at hl 0 rfl) ?_
      refine x_nn0 g7 ?_
      obtain ⟨g32, h⟩ := h
      refine x_getI C fl_RX2_67 g32 dX2_writeEntries_77 ?_
      refine x_topi (fun x33 e34 => ?_)
      have h := h x33 e34
      refine x_nn1 g9 ?_
      obtain ⟨g35, h⟩ := h
      refine x_callV (rm := rm_X0_addWord) (rest := []) (As := [.int x33]) C cy_RX2_64 g35 (by decide) (by decide) rfl rfl (Nat.le_of_ble_eq_true rfl) hl.1 dX2_writeEntries_80 (c_X0_addWord l D cy b8 x33 σ31 _ h) (ks_v (fun σ36 h => ?_))
      refine x_aload_nq C dX2_writeEntries_83 rfl (lv_at hl 2 rfl) ?_
      refine x_iconst (v := 4) C dX2_writeEntries_84 (by decide) ?_
      refine x_nn1 g9 ?_
      obtain ⟨g37, h⟩ := h
      refine x_callV (rm := rm_X0_addZeros) (rest := []) (As := [.int (4 : Int32)]) C cy_RX2_49 g37 (by decide) (by decide) rfl rfl (Nat.le_of_ble_eq_true rfl) hl.1 dX2_writeEntries_85 (c_X0_addZeros l D cy b8 (4 : Int32) σ36 _ h) (ks_v (fun σ38 h => ?_))
      exact t_X2_writeEntries_88 C hr hnm hL4 t.1 t.2.1 t.2.2 _ h ls (lv_sub hl [1, 2, 3, 4] rfl)
    · have h := h.1 c5
      refine x_aload_nq C dX2_writeEntries_24 rfl (lv_at hl 2 rfl) ?_
      refine x_bipush (v := 16) C dX2_writeEntries_25 (by decide) ?_
      obtain ⟨b39, g40, h⟩ := h
      refine x_nn1 g40 ?_
      obtain ⟨g41, h⟩ := h
      refine x_callV (rm := rm_X0_addZeros) (rest := []) (As := [.int (16 : Int32)]) C cy_RX2_49 g41 (by decide) (by decide) rfl rfl (Nat.le_of_ble_eq_true rfl) hl.1 dX2_writeEntries_27 (c_X0_addZeros l D cy b39 (16 : Int32) σ3 _ h) (ks_v (fun σ42 h => ?_))
      refine x_goto (tgt := 88) C dX2_writeEntries_30 (by decide) ?_
      exact t_X2_writeEntries_88 C hr hnm hL4 t.1 t.2.1 t.2.2 _ h ls (lv_sub hl [1, 2, 3, 4] rfl)
def wp_X2_writeEntries (a0 : Nat) (p1 : Option Nat) (p2 : Int32) (σ : Sto) (Q : Sto → Prop) : Prop := (∀ x1 : Int32, x1 = p2 + (1 : Int32) → LF (f_X2_writeEntries_4 a0  Q) (p1, p2, x1) σ)
set_option maxHeartbeats 4000000 in
set_option maxRecDepth 100000 in
theorem c_X2_writeEntries (l : Launch) (D : va_G) (cy : Nat → ClassId) (a0 : Nat) (p1 : Option Nat) (p2 : Int32) (σ : Sto) (Q : Sto → Prop) (h : wp_X2_writeEntries a0 p1 p2 σ Q) : Mt l D cy yX2_writeEntries cX2_writeEntries 5 none rm_X2_writeEntries [.ref a0, va_rf p1, .int p2] σ (PsV Q) := by
  unfold wp_X2_writeEntries at h
  refine mt_of (by decide +kernel) (by simp [lg_sl, vrc, cat_i, cat_r, cat_l]) ?_
  intro p e s m args below meth c A ls C hr hnm hl
  have C : Cx p s m args meth c D cy A cX2_writeEntries 5 RX2 := C
  have hl : lv_has ls 5 [(0, .ref a0), (1, va_rf p1), (2, .int p2)] := by simpa [lv_args, vrc, cat_i, cat_r, cat_l] using hl
  refine x_iload_n C dX2_writeEntries_0 rfl (lv_at hl 2 rfl) ?_
  refine x_iconst (v := 1) C dX2_writeEntries_1 (by decide) ?_
  refine x_iadd C dX2_writeEntries_2 ?_
  refine x_topi (fun x1 e2 => ?_)
  have h := h x1 e2
  refine x_istore_n (i := 3) (lv' := [(3, .int x1), (0, .ref a0), (1, va_rf p1), (2, .int p2)]) C dX2_writeEntries_3 rfl hl (by decide) (by first | rfl | simp [vrc, cat_i, cat_r, cat_l]) (fun ls hl => ?_)
  exact h (fun t σ => ∀ ls : Array Slot, lv_has ls 5 [(0, .ref a0), (1, va_rf t.1), (2, .int t.2.1), (3, .int t.2.2)] → Xw p l e rm_X2_writeEntries s m args below meth c D cy A σ 0 0 (MQ below (Qst D cy A (PsV Q)) args s rm_X2_writeEntries.cells rm_X2_writeEntries.slots A) (F0 m 4 ls [])) (t_X2_writeEntries_4 C hr hnm  (fun t σ h => h)) ls (lv_sub hl [1, 2, 3, 0] rfl)
theorem dX3_init_0 : decode cX3_init 0 = .ok (.aload_n 0, 1) := by decide +kernel
theorem dX3_init_1 : decode cX3_init 1 = .ok (.invokespecial 3, 3) := by decide +kernel
theorem dX3_init_4 : decode cX3_init 4 = .ok (.aload_n 0, 1) := by decide +kernel
theorem dX3_init_5 : decode cX3_init 5 = .ok (.new 9, 3) := by decide +kernel
theorem dX3_init_8 : decode cX3_init 8 = .ok (.dup, 1) := by decide +kernel
theorem dX3_init_9 : decode cX3_init 9 = .ok (.invokespecial 11, 3) := by decide +kernel
theorem dX3_init_12 : decode cX3_init 12 = .ok (.putfield 12, 3) := by decide +kernel
theorem dX3_init_15 : decode cX3_init 15 = .ok (.return_, 1) := by decide +kernel
abbrev rm_X3_init : Room := { frames := 2, cells := 2, slots := 103, locals := 40 }
def wp_X3_init (a0 : Nat)  (σ : Sto) (Q : Sto → Prop) : Prop := (0 + 1 ≤ 2 ∧ 0 + 3 ≤ 103 ∧ (∀ q3 : Nat, ¬ sK σ q3 < 23 → ∀ σ5 : Sto, σ5 = stN σ q3 2 0 → (((0 + 1) + 1 ≤ 2 ∧ (0 + 3) + 100 ≤ 103) ∧ (wp_X2_init q3  σ5 (fun (σ8 : Sto) => (sK σ8 a0 = 3 ∧ ((((0 + 1) + 1) ≤ 2 ∧ ((0 + 3) + 100) ≤ 103) ∧ Q (stP σ8 a0 11 (some q3)))))))))
set_option maxHeartbeats 4000000 in
set_option maxRecDepth 100000 in
theorem c_X3_init (l : Launch) (D : va_G) (cy : Nat → ClassId) (a0 : Nat)  (σ : Sto) (Q : Sto → Prop) (h : wp_X3_init a0  σ Q) : Mt l D cy yX3_init cX3_init 1 none rm_X3_init [.ref a0] σ (PsV Q) := by
  unfold wp_X3_init at h
  refine mt_of (by decide +kernel) (Nat.le_of_ble_eq_true rfl) ?_
  intro p e s m args below meth c A ls C hr hnm hl
  have C : Cx p s m args meth c D cy A cX3_init 1 RX3 := C
  have hl : lv_has ls 1 [(0, .ref a0)] := hl
  refine x_aload_n C dX3_init_0 rfl (lv_at hl 0 rfl) ?_
  refine x_objInit C oi_RX3_3 oi_w2 oi_w3 hl.1 (by decide) (Nat.le_of_ble_eq_true rfl) dX3_init_1 ?_
  refine x_aload_n C dX3_init_4 rfl (lv_at hl 0 rfl) ?_
  obtain ⟨g1, g2, h⟩ := h
  refine x_new C cls_2 cl_RX3_9 ins_2 ini_2 g1 g2 dX3_init_5 (fun q3 g4 => ?_)
  refine x_nameS (fun σ5 e6 => ?_)
  have h := h q3 g4 σ5 e6
  refine x_dup C dX3_init_8 (rfl) ?_
  obtain ⟨g7, h⟩ := h
  refine x_callIN (rm := rm_X2_init) (rest := [.ref q3, .ref a0]) (As := []) C cn_RX3_11 (by decide) g7 rfl rfl (Nat.le_of_ble_eq_true rfl) hl.1 dX3_init_9 (c_X2_init l D cy q3  σ5 _ h) (ks_v (fun σ8 h => ?_))
  obtain ⟨g9, h⟩ := h
  refine x_putR C fl_RX3_12 (rty_o _) (Or.inr ⟨hnm, _, _, _, rfl, rfl⟩) g9 dX3_init_12 ?_
  refine x_widen h.1.1 h.1.2 ?_
  exact x_vret C hr dX3_init_15 ⟨rfl, h.2⟩
theorem dX3_writeRest_0 : decode cX3_writeRest 0 = .ok (.aload_n 0, 1) := by decide +kernel
theorem dX3_writeRest_1 : decode cX3_writeRest 1 = .ok (.getfield 24, 3) := by decide +kernel
theorem dX3_writeRest_4 : decode cX3_writeRest 4 = .ok (.tableswitch 164 5 12 #[51, 164, 164, 48, 62, 92, 114, 48], 48) := by decide +kernel
theorem dX3_writeRest_52 : decode cX3_writeRest 52 = .ok (.goto 154, 3) := by decide +kernel
theorem dX3_writeRest_55 : decode cX3_writeRest 55 = .ok (.aload_n 0, 1) := by decide +kernel
theorem dX3_writeRest_56 : decode cX3_writeRest 56 = .ok (.getfield 12, 3) := by decide +kernel
theorem dX3_writeRest_59 : decode cX3_writeRest 59 = .ok (.aload_n 1, 1) := by decide +kernel
theorem dX3_writeRest_60 : decode cX3_writeRest 60 = .ok (.invokevirtual 63, 3) := by decide +kernel
theorem dX3_writeRest_63 : decode cX3_writeRest 63 = .ok (.goto 143, 3) := by decide +kernel
theorem dX3_writeRest_66 : decode cX3_writeRest 66 = .ok (.aload_n 1, 1) := by decide +kernel
theorem dX3_writeRest_67 : decode cX3_writeRest 67 = .ok (.aload_n 0, 1) := by decide +kernel
theorem dX3_writeRest_68 : decode cX3_writeRest 68 = .ok (.getfield 66, 3) := by decide +kernel
theorem dX3_writeRest_71 : decode cX3_writeRest 71 = .ok (.invokevirtual 48, 3) := by decide +kernel
theorem dX3_writeRest_74 : decode cX3_writeRest 74 = .ok (.aload_n 1, 1) := by decide +kernel
theorem dX3_writeRest_75 : decode cX3_writeRest 75 = .ok (.aload_n 0, 1) := by decide +kernel
theorem dX3_writeRest_76 : decode cX3_writeRest 76 = .ok (.getfield 12, 3) := by decide +kernel
theorem dX3_writeRest_79 : decode cX3_writeRest 79 = .ok (.getfield 69, 3) := by decide +kernel
theorem dX3_writeRest_82 : decode cX3_writeRest 82 = .ok (.invokevirtual 45, 3) := by decide +kernel
theorem dX3_writeRest_85 : decode cX3_writeRest 85 = .ok (.aload_n 0, 1) := by decide +kernel
theorem dX3_writeRest_86 : decode cX3_writeRest 86 = .ok (.getfield 12, 3) := by decide +kernel
theorem dX3_writeRest_89 : decode cX3_writeRest 89 = .ok (.aload_n 1, 1) := by decide +kernel
theorem dX3_writeRest_90 : decode cX3_writeRest 90 = .ok (.invokevirtual 63, 3) := by decide +kernel
theorem dX3_writeRest_93 : decode cX3_writeRest 93 = .ok (.goto 113, 3) := by decide +kernel
theorem dX3_writeRest_96 : decode cX3_writeRest 96 = .ok (.aload_n 1, 1) := by decide +kernel
theorem dX3_writeRest_97 : decode cX3_writeRest 97 = .ok (.aload_n 0, 1) := by decide +kernel
theorem dX3_writeRest_98 : decode cX3_writeRest 98 = .ok (.getfield 12, 3) := by decide +kernel
theorem dX3_writeRest_101 : decode cX3_writeRest 101 = .ok (.getfield 69, 3) := by decide +kernel
theorem dX3_writeRest_104 : decode cX3_writeRest 104 = .ok (.invokevirtual 45, 3) := by decide +kernel
theorem dX3_writeRest_107 : decode cX3_writeRest 107 = .ok (.aload_n 0, 1) := by decide +kernel
theorem dX3_writeRest_108 : decode cX3_writeRest 108 = .ok (.getfield 12, 3) := by decide +kernel
theorem dX3_writeRest_111 : decode cX3_writeRest 111 = .ok (.aload_n 1, 1) := by decide +kernel
theorem dX3_writeRest_112 : decode cX3_writeRest 112 = .ok (.invokevirtual 63, 3) := by decide +kernel
theorem dX3_writeRest_115 : decode cX3_writeRest 115 = .ok (.goto 91, 3) := by decide +kernel
theorem dX3_writeRest_118 : decode cX3_writeRest 118 = .ok (.aload_n 1, 1) := by decide +kernel
theorem dX3_writeRest_119 : decode cX3_writeRest 119 = .ok (.aload_n 0, 1) := by decide +kernel
theorem dX3_writeRest_120 : decode cX3_writeRest 120 = .ok (.getfield 72, 3) := by decide +kernel
theorem dX3_writeRest_123 : decode cX3_writeRest 123 = .ok (.invokevirtual 45, 3) := by decide +kernel
theorem dX3_writeRest_126 : decode cX3_writeRest 126 = .ok (.aload_n 1, 1) := by decide +kernel
theorem dX3_writeRest_127 : decode cX3_writeRest 127 = .ok (.aload_n 0, 1) := by decide +kernel
theorem dX3_writeRest_128 : decode cX3_writeRest 128 = .ok (.getfield 75, 3) := by decide +kernel
theorem dX3_writeRest_131 : decode cX3_writeRest 131 = .ok (.invokevirtual 45, 3) := by decide +kernel
theorem dX3_writeRest_134 : decode cX3_writeRest 134 = .ok (.aload_n 1, 1) := by decide +kernel
theorem dX3_writeRest_135 : decode cX3_writeRest 135 = .ok (.aload_n 0, 1) := by decide +kernel
theorem dX3_writeRest_136 : decode cX3_writeRest 136 = .ok (.getfield 78, 3) := by decide +kernel
theorem dX3_writeRest_139 : decode cX3_writeRest 139 = .ok (.ifCond .eq 7, 3) := by decide +kernel
theorem dX3_writeRest_142 : decode cX3_writeRest 142 = .ok (.iconst 1, 1) := by decide +kernel
theorem dX3_writeRest_143 : decode cX3_writeRest 143 = .ok (.goto 4, 3) := by decide +kernel
theorem dX3_writeRest_146 : decode cX3_writeRest 146 = .ok (.iconst 0, 1) := by decide +kernel
theorem dX3_writeRest_147 : decode cX3_writeRest 147 = .ok (.invokevirtual 27, 3) := by decide +kernel
theorem dX3_writeRest_150 : decode cX3_writeRest 150 = .ok (.aload_n 0, 1) := by decide +kernel
theorem dX3_writeRest_151 : decode cX3_writeRest 151 = .ok (.getfield 78, 3) := by decide +kernel
theorem dX3_writeRest_154 : decode cX3_writeRest 154 = .ok (.ifCond .eq 52, 3) := by decide +kernel
theorem dX3_writeRest_157 : decode cX3_writeRest 157 = .ok (.aload_n 1, 1) := by decide +kernel
theorem dX3_writeRest_158 : decode cX3_writeRest 158 = .ok (.aload_n 0, 1) := by decide +kernel
theorem dX3_writeRest_159 : decode cX3_writeRest 159 = .ok (.getfield 82, 3) := by decide +kernel
theorem dX3_writeRest_162 : decode cX3_writeRest 162 = .ok (.invokevirtual 60, 3) := by decide +kernel
theorem dX3_writeRest_165 : decode cX3_writeRest 165 = .ok (.goto 41, 3) := by decide +kernel
theorem dX3_writeRest_168 : decode cX3_writeRest 168 = .ok (.aload_n 1, 1) := by decide +kernel
theorem dX3_writeRest_169 : decode cX3_writeRest 169 = .ok (.aload_n 0, 1) := by decide +kernel
theorem dX3_writeRest_170 : decode cX3_writeRest 170 = .ok (.getfield 72, 3) := by decide +kernel
theorem dX3_writeRest_173 : decode cX3_writeRest 173 = .ok (.invokevirtual 45, 3) := by decide +kernel
theorem dX3_writeRest_176 : decode cX3_writeRest 176 = .ok (.aload_n 0, 1) := by decide +kernel
theorem dX3_writeRest_177 : decode cX3_writeRest 177 = .ok (.getfield 24, 3) := by decide +kernel
theorem dX3_writeRest_180 : decode cX3_writeRest 180 = .ok (.ifCond .eq 11, 3) := by decide +kernel
theorem dX3_writeRest_183 : decode cX3_writeRest 183 = .ok (.aload_n 0, 1) := by decide +kernel
theorem dX3_writeRest_184 : decode cX3_writeRest 184 = .ok (.getfield 24, 3) := by decide +kernel
theorem dX3_writeRest_187 : decode cX3_writeRest 187 = .ok (.iconst 2, 1) := by decide +kernel
theorem dX3_writeRest_188 : decode cX3_writeRest 188 = .ok (.if_icmp .ne 18, 3) := by decide +kernel
theorem dX3_writeRest_191 : decode cX3_writeRest 191 = .ok (.aload_n 0, 1) := by decide +kernel
theorem dX3_writeRest_192 : decode cX3_writeRest 192 = .ok (.getfield 85, 3) := by decide +kernel
theorem dX3_writeRest_195 : decode cX3_writeRest 195 = .ok (.ifnull 11, 3) := by decide +kernel
theorem dX3_writeRest_198 : decode cX3_writeRest 198 = .ok (.aload_n 0, 1) := by decide +kernel
theorem dX3_writeRest_199 : decode cX3_writeRest 199 = .ok (.getfield 85, 3) := by decide +kernel
theorem dX3_writeRest_202 : decode cX3_writeRest 202 = .ok (.aload_n 1, 1) := by decide +kernel
theorem dX3_writeRest_203 : decode cX3_writeRest 203 = .ok (.invokevirtual 89, 3) := by decide +kernel
theorem dX3_writeRest_206 : decode cX3_writeRest 206 = .ok (.return_, 1) := by decide +kernel
abbrev rm_X3_writeRest : Room := { frames := 4, cells := 0, slots := 0, locals := 88 }
def b_X3_writeRest_191 (a0 : Nat)  (Q : Sto → Prop) (p1 : Option Nat) (σ : Sto) : Prop := (sK σ a0 = 3 ∧ (∀ r2 : Option Nat, r2 = sP σ a0 7 → ((r2 = none → Q σ) ∧ (∀ b5 : Nat, r2 = some b5 → (∃ b7 : Nat, sP σ a0 7 = some b7 ∧ (sK σ b7 = 9 ∧ (wp_X9_write b7 p1 σ (fun (σ10 : Sto) => Q σ10))))))))
set_option maxHeartbeats 4000000 in
set_option maxRecDepth 100000 in
theorem t_X3_writeRest_191 {p : Program} {l : Launch} {e : Env} {s : State} {m : MethodId} {args : Array Value} {below : List Frame} {meth : Method} {c : Code} {D : va_G} {cy : Nat → ClassId} {A : Nat → Prop} {a0 : Nat} {Q : Sto → Prop} (C : Cx p s m args meth c D cy A cX3_writeRest 2 RX3) (hr : meth.sig.returnType = none) (hnm : meth.name = yX3_writeRest.name) (p1 : Option Nat) (σ : Sto) (h : b_X3_writeRest_191 a0  Q p1 σ) (ls : Array Slot) (hl : lv_has ls 2 [(0, .ref a0), (1, va_rf p1)]) : Xw p l e rm_X3_writeRest s m args below meth c D cy A σ 0 0 (MQ below (Qst D cy A (PsV Q)) args s rm_X3_writeRest.cells rm_X3_writeRest.slots A) (F0 m 191 ls []) := by
  unfold b_X3_writeRest_191 at h
  refine x_aload_n C dX3_writeRest_191 rfl (lv_at hl 0 rfl) ?_
  obtain ⟨g1, h⟩ := h
  refine x_getP C fl_RX3_85 g1 dX3_writeRest_192 ?_
  refine x_topq (fun r2 e3 => ?_)
  have h := h r2 e3
  refine x_ifnull (tgt := 206) C dX3_writeRest_195 (by decide) (fun c4 => ?_) (fun c4 => ?_)
  · have h := h.1 c4
    exact x_vret C hr dX3_writeRest_206 ⟨rfl, h⟩
  · obtain ⟨b5, g6⟩ := Option.ne_none_iff_exists'.mp c4
    have h := h.2 b5 g6
    refine x_aload_n C dX3_writeRest_198 rfl (lv_at hl 0 rfl) ?_
    refine x_getP C fl_RX3_85 g1 dX3_writeRest_199 ?_
    refine x_aload_nq C dX3_writeRest_202 rfl (lv_at hl 1 rfl) ?_
    obtain ⟨b7, g8, h⟩ := h
    refine x_nn1 g8 ?_
    obtain ⟨g9, h⟩ := h
    refine x_callV (rm := rm_X9_write) (rest := []) (As := [va_rf p1]) C cy_RX3_89 g9 (by decide) (by decide) rfl rfl (Nat.le_of_ble_eq_true rfl) hl.1 dX3_writeRest_203 (c_X9_write l D cy b7 p1 σ _ h) (ks_v (fun σ10 h => ?_))
    exact x_vret C hr dX3_writeRest_206 ⟨rfl, h⟩
def b_X3_writeRest_168 (a0 : Nat)  (Q : Sto → Prop) (p1 : Option Nat) (σ : Sto) : Prop := (sK σ a0 = 3 ∧ (∀ x2 : Int32, x2 = sI σ a0 6 → (∃ b4 : Nat, p1 = some b4 ∧ (sK σ b4 = 0 ∧ (wp_X0_addNumber b4 x2 σ (fun (σ7 : Sto) => (sK σ7 a0 = 3 ∧ (∀ x9 : Int32, x9 = sI σ7 a0 1 → ((x9 = 0 → b_X3_writeRest_191 a0  Q p1 σ7) ∧ (¬ x9 = 0 → (∀ x12 : Int32, x12 = sI σ7 a0 1 → ((¬ x12 = (2 : Int32) → Q σ7) ∧ (x12 = (2 : Int32) → b_X3_writeRest_191 a0  Q p1 σ7)))))))))))))
set_option maxHeartbeats 4000000 in
set_option maxRecDepth 100000 in
theorem t_X3_writeRest_168 {p : Program} {l : Launch} {e : Env} {s : State} {m : MethodId} {args : Array Value} {below : List Frame} {meth : Method} {c : Code} {D : va_G} {cy : Nat → ClassId} {A : Nat → Prop} {a0 : Nat} {Q : Sto → Prop} (C : Cx p s m args meth c D cy A cX3_writeRest 2 RX3) (hr : meth.sig.returnType = none) (hnm : meth.name = yX3_writeRest.name) (p1 : Option Nat) (σ : Sto) (h : b_X3_writeRest_168 a0  Q p1 σ) (ls : Array Slot) (hl : lv_has ls 2 [(0, .ref a0), (1, va_rf p1)]) : Xw p l e rm_X3_writeRest s m args below meth c D cy A σ 0 0 (MQ below (Qst D cy A (PsV Q)) args s rm_X3_writeRest.cells rm_X3_writeRest.slots A) (F0 m 168 ls []) := by
  unfold b_X3_writeRest_168 at h
  refine x_aload_nq C dX3_writeRest_168 rfl (lv_at hl 1 rfl) ?_
  refine x_aload_n C dX3_writeRest_169 rfl (lv_at hl 0 rfl) ?_
  obtain ⟨g1, h⟩ := h
  refine x_getI C fl_RX3_72 g1 dX3_writeRest_170 ?_
  refine x_topi (fun x2 e3 => ?_)
  have h := h x2 e3
  obtain ⟨b4, g5, h⟩ := h
  refine x_nn1 g5 ?_
  obtain ⟨g6, h⟩ := h
  refine x_callV (rm := rm_X0_addNumber) (rest := []) (As := [.int x2]) C cy_RX3_45 g6 (by decide) (by decide) rfl rfl (Nat.le_of_ble_eq_true rfl) hl.1 dX3_writeRest_173 (c_X0_addNumber l D cy b4 x2 σ _ h) (ks_v (fun σ7 h => ?_))
  refine x_aload_n C dX3_writeRest_176 rfl (lv_at hl 0 rfl) ?_
  obtain ⟨g8, h⟩ := h
  refine x_getI C fl_RX3_24 g8 dX3_writeRest_177 ?_
  refine x_topi (fun x9 e10 => ?_)
  have h := h x9 e10
  refine x_if_eq (tgt := 191) C dX3_writeRest_180 (by decide) (fun c11 => ?_) (fun c11 => ?_)
  · have h := h.1 c11
    exact t_X3_writeRest_191 C hr hnm  p1 _ h ls (lv_sub hl [0, 1] rfl)
  · have h := h.2 c11
    refine x_aload_n C dX3_writeRest_183 rfl (lv_at hl 0 rfl) ?_
    refine x_getI C fl_RX3_24 g8 dX3_writeRest_184 ?_
    refine x_topi (fun x12 e13 => ?_)
    have h := h x12 e13
    refine x_iconst (v := 2) C dX3_writeRest_187 (by decide) ?_
    refine x_icmp_ne (tgt := 206) C dX3_writeRest_188 (by decide) (fun c14 => ?_) (fun c14 => ?_)
    · have h := h.1 c14
      exact x_vret C hr dX3_writeRest_206 ⟨rfl, h⟩
    · have h := h.2 c14
      exact t_X3_writeRest_191 C hr hnm  p1 _ h ls (lv_sub hl [0, 1] rfl)
def b_X3_writeRest_147 (a0 : Nat)  (Q : Sto → Prop) (p1 : Option Nat) (s0 : Int32) (s1 : Option Nat) (σ : Sto) : Prop := (∃ b1 : Nat, s1 = some b1 ∧ (sK σ b1 = 0 ∧ (wp_X0_add b1 s0 σ (fun (σ4 : Sto) => (sK σ4 a0 = 3 ∧ (∀ x6 : Int32, x6 = sI σ4 a0 9 → ((x6 = 0 → Q σ4) ∧ (¬ x6 = 0 → (∀ x9 : Int32, x9 = sI σ4 a0 10 → (∃ b11 : Nat, p1 = some b11 ∧ (sK σ4 b11 = 0 ∧ (wp_X0_addWord b11 x9 σ4 (fun (σ14 : Sto) => Q σ14)))))))))))))
set_option maxHeartbeats 4000000 in
set_option maxRecDepth 100000 in
theorem t_X3_writeRest_147 {p : Program} {l : Launch} {e : Env} {s : State} {m : MethodId} {args : Array Value} {below : List Frame} {meth : Method} {c : Code} {D : va_G} {cy : Nat → ClassId} {A : Nat → Prop} {a0 : Nat} {Q : Sto → Prop} (C : Cx p s m args meth c D cy A cX3_writeRest 2 RX3) (hr : meth.sig.returnType = none) (hnm : meth.name = yX3_writeRest.name) (p1 : Option Nat) (s0 : Int32) (s1 : Option Nat) (σ : Sto) (h : b_X3_writeRest_147 a0  Q p1 s0 s1 σ) (ls : Array Slot) (hl : lv_has ls 2 [(0, .ref a0), (1, va_rf p1)]) : Xw p l e rm_X3_writeRest s m args below meth c D cy A σ 0 0 (MQ below (Qst D cy A (PsV Q)) args s rm_X3_writeRest.cells rm_X3_writeRest.slots A) (F0 m 147 ls [.int s0, va_rf s1]) := by
  unfold b_X3_writeRest_147 at h
  obtain ⟨b1, g2, h⟩ := h
  refine x_nn1 g2 ?_
  obtain ⟨g3, h⟩ := h
  refine x_callV (rm := rm_X0_add) (rest := []) (As := [.int s0]) C cy_RX3_27 g3 (by decide) (by decide) rfl rfl (Nat.le_of_ble_eq_true rfl) hl.1 dX3_writeRest_147 (c_X0_add l D cy b1 s0 σ _ h) (ks_v (fun σ4 h => ?_))
  refine x_aload_n C dX3_writeRest_150 rfl (lv_at hl 0 rfl) ?_
  obtain ⟨g5, h⟩ := h
  refine x_getZ C fl_RX3_78 g5 dX3_writeRest_151 ?_
  refine x_topi (fun x6 e7 => ?_)
  have h := h x6 e7
  refine x_if_eq (tgt := 206) C dX3_writeRest_154 (by decide) (fun c8 => ?_) (fun c8 => ?_)
  · have h := h.1 c8
    exact x_vret C hr dX3_writeRest_206 ⟨rfl, h⟩
  · have h := h.2 c8
    refine x_aload_nq C dX3_writeRest_157 rfl (lv_at hl 1 rfl) ?_
    refine x_aload_n C dX3_writeRest_158 rfl (lv_at hl 0 rfl) ?_
    refine x_getI C fl_RX3_82 g5 dX3_writeRest_159 ?_
    refine x_topi (fun x9 e10 => ?_)
    have h := h x9 e10
    obtain ⟨b11, g12, h⟩ := h
    refine x_nn1 g12 ?_
    obtain ⟨g13, h⟩ := h
    refine x_callV (rm := rm_X0_addWord) (rest := []) (As := [.int x9]) C cy_RX3_60 g13 (by decide) (by decide) rfl rfl (Nat.le_of_ble_eq_true rfl) hl.1 dX3_writeRest_162 (c_X0_addWord l D cy b11 x9 σ4 _ h) (ks_v (fun σ14 h => ?_))
    refine x_goto (tgt := 206) C dX3_writeRest_165 (by decide) ?_
    exact x_vret C hr dX3_writeRest_206 ⟨rfl, h⟩
def b_X3_writeRest_52 (a0 : Nat)  (Q : Sto → Prop)  (σ : Sto) : Prop := Q σ
set_option maxHeartbeats 4000000 in
set_option maxRecDepth 100000 in
theorem t_X3_writeRest_52 {p : Program} {l : Launch} {e : Env} {s : State} {m : MethodId} {args : Array Value} {below : List Frame} {meth : Method} {c : Code} {D : va_G} {cy : Nat → ClassId} {A : Nat → Prop} {a0 : Nat} {Q : Sto → Prop} (C : Cx p s m args meth c D cy A cX3_writeRest 2 RX3) (hr : meth.sig.returnType = none) (hnm : meth.name = yX3_writeRest.name)  (σ : Sto) (h : b_X3_writeRest_52 a0  Q  σ) (ls : Array Slot) (hl : lv_has ls 2 []) : Xw p l e rm_X3_writeRest s m args below meth c D cy A σ 0 0 (MQ below (Qst D cy A (PsV Q)) args s rm_X3_writeRest.cells rm_X3_writeRest.slots A) (F0 m 52 ls []) := by
  unfold b_X3_writeRest_52 at h
  refine x_goto (tgt := 206) C dX3_writeRest_52 (by decide) ?_
  exact x_vret C hr dX3_writeRest_206 ⟨rfl, h⟩
def wp_X3_writeRest (a0 : Nat) (p1 : Option Nat) (σ : Sto) (Q : Sto → Prop) : Prop := (sK σ a0 = 3 ∧ (∀ x2 : Int32, x2 = sI σ a0 1 → ((x2.toInt < 5 ∨ 12 < x2.toInt → b_X3_writeRest_168 a0  Q p1 σ) ∧ (x2 = (5 : Int32) → (∃ b6 : Nat, sP σ a0 11 = some b6 ∧ (sK σ b6 = 2 ∧ (wp_X2_write b6 p1 σ (fun (σ9 : Sto) => Q σ9))))) ∧ (x2 = (6 : Int32) → b_X3_writeRest_168 a0  Q p1 σ) ∧ (x2 = (7 : Int32) → b_X3_writeRest_168 a0  Q p1 σ) ∧ (x2 = (8 : Int32) → b_X3_writeRest_52 a0  Q  σ) ∧ (x2 = (9 : Int32) → (∀ y10 : Int64, y10 = sJ σ a0 5 → (∃ b12 : Nat, p1 = some b12 ∧ (sK σ b12 = 0 ∧ (wp_X0_addView b12 y10 σ (fun (σ15 : Sto) => (sK σ15 a0 = 3 ∧ (∃ b17 : Nat, sP σ15 a0 11 = some b17 ∧ (sK σ15 b17 = 2 ∧ (∀ x20 : Int32, x20 = sI σ15 b17 2 → (sK σ15 b12 = 0 ∧ (wp_X0_addNumber b12 x20 σ15 (fun (σ23 : Sto) => (sK σ23 a0 = 3 ∧ (∃ b25 : Nat, sP σ23 a0 11 = some b25 ∧ (sK σ23 b25 = 2 ∧ (wp_X2_write b25 p1 σ23 (fun (σ28 : Sto) => Q σ28)))))))))))))))))) ∧ (x2 = (10 : Int32) → (∃ b29 : Nat, sP σ a0 11 = some b29 ∧ (sK σ b29 = 2 ∧ (∀ x32 : Int32, x32 = sI σ b29 2 → (∃ b34 : Nat, p1 = some b34 ∧ (sK σ b34 = 0 ∧ (wp_X0_addNumber b34 x32 σ (fun (σ37 : Sto) => (sK σ37 a0 = 3 ∧ (∃ b39 : Nat, sP σ37 a0 11 = some b39 ∧ (sK σ37 b39 = 2 ∧ (wp_X2_write b39 p1 σ37 (fun (σ42 : Sto) => Q σ42))))))))))))) ∧ (x2 = (11 : Int32) → (∀ x43 : Int32, x43 = sI σ a0 6 → (∃ b45 : Nat, p1 = some b45 ∧ (sK σ b45 = 0 ∧ (wp_X0_addNumber b45 x43 σ (fun (σ48 : Sto) => (sK σ48 a0 = 3 ∧ (∀ x50 : Int32, x50 = sI σ48 a0 8 → (sK σ48 b45 = 0 ∧ (wp_X0_addNumber b45 x50 σ48 (fun (σ53 : Sto) => (sK σ53 a0 = 3 ∧ (∀ x55 : Int32, x55 = sI σ53 a0 9 → ((x55 = 0 → b_X3_writeRest_147 a0  Q p1 (0 : Int32) p1 σ53) ∧ (¬ x55 = 0 → b_X3_writeRest_147 a0  Q p1 (1 : Int32) p1 σ53))))))))))))))) ∧ (x2 = (12 : Int32) → b_X3_writeRest_52 a0  Q  σ))))
set_option maxHeartbeats 4000000 in
set_option maxRecDepth 100000 in
theorem c_X3_writeRest (l : Launch) (D : va_G) (cy : Nat → ClassId) (a0 : Nat) (p1 : Option Nat) (σ : Sto) (Q : Sto → Prop) (h : wp_X3_writeRest a0 p1 σ Q) : Mt l D cy yX3_writeRest cX3_writeRest 2 none rm_X3_writeRest [.ref a0, va_rf p1] σ (PsV Q) := by
  unfold wp_X3_writeRest at h
  refine mt_of (by decide +kernel) (by simp [lg_sl, vrc, cat_i, cat_r, cat_l]) ?_
  intro p e s m args below meth c A ls C hr hnm hl
  have C : Cx p s m args meth c D cy A cX3_writeRest 2 RX3 := C
  have hl : lv_has ls 2 [(0, .ref a0), (1, va_rf p1)] := by simpa [lv_args, vrc, cat_i, cat_r, cat_l] using hl
  refine x_aload_n C dX3_writeRest_0 rfl (lv_at hl 0 rfl) ?_
  obtain ⟨g1, h⟩ := h
  refine x_getI C fl_RX3_24 g1 dX3_writeRest_1 ?_
  refine x_topi (fun x2 e3 => ?_)
  have h := h x2 e3
  by_cases c4 : x2.toInt < 5 ∨ 12 < x2.toInt
  · have h := h.1 c4
    refine x_tableOut (tgt := 168) C dX3_writeRest_4 c4 (by decide) ?_
    exact t_X3_writeRest_168 C hr hnm  p1 _ h ls (lv_sub hl [0, 1] rfl)
  · rcases (show x2.toInt = 5 ∨ x2.toInt = 6 ∨ x2.toInt = 7 ∨ x2.toInt = 8 ∨ x2.toInt = 9 ∨ x2.toInt = 10 ∨ x2.toInt = 11 ∨ x2.toInt = 12 by omega) with c5 | c5 | c5 | c5 | c5 | c5 | c5 | c5
    · have h := h.2.1 (sw_eq (k := 5) (c5.trans (by decide)))
      refine x_tableIn (tgt := 55) (off := 51) C dX3_writeRest_4 (by omega) (by omega) (by rw [c5]; rfl) (by decide) ?_
      refine x_aload_n C dX3_writeRest_55 rfl (lv_at hl 0 rfl) ?_
      refine x_getP C fl_RX3_12 g1 dX3_writeRest_56 ?_
      refine x_aload_nq C dX3_writeRest_59 rfl (lv_at hl 1 rfl) ?_
      obtain ⟨b6, g7, h⟩ := h
      refine x_nn1 g7 ?_
      obtain ⟨g8, h⟩ := h
      refine x_callV (rm := rm_X2_write) (rest := []) (As := [va_rf p1]) C cy_RX3_63 g8 (by decide) (by decide) rfl rfl (Nat.le_of_ble_eq_true rfl) hl.1 dX3_writeRest_60 (c_X2_write l D cy b6 p1 σ _ h) (ks_v (fun σ9 h => ?_))
      refine x_goto (tgt := 206) C dX3_writeRest_63 (by decide) ?_
      exact x_vret C hr dX3_writeRest_206 ⟨rfl, h⟩
    · have h := h.2.2.1 (sw_eq (k := 6) (c5.trans (by decide)))
      refine x_tableIn (tgt := 168) (off := 164) C dX3_writeRest_4 (by omega) (by omega) (by rw [c5]; rfl) (by decide) ?_
      exact t_X3_writeRest_168 C hr hnm  p1 _ h ls (lv_sub hl [0, 1] rfl)
    · have h := h.2.2.2.1 (sw_eq (k := 7) (c5.trans (by decide)))
      refine x_tableIn (tgt := 168) (off := 164) C dX3_writeRest_4 (by omega) (by omega) (by rw [c5]; rfl) (by decide) ?_
      exact t_X3_writeRest_168 C hr hnm  p1 _ h ls (lv_sub hl [0, 1] rfl)
    · have h := h.2.2.2.2.1 (sw_eq (k := 8) (c5.trans (by decide)))
      refine x_tableIn (tgt := 52) (off := 48) C dX3_writeRest_4 (by omega) (by omega) (by rw [c5]; rfl) (by decide) ?_
      exact t_X3_writeRest_52 C hr hnm   _ h ls (lv_sub hl [] rfl)
    · have h := h.2.2.2.2.2.1 (sw_eq (k := 9) (c5.trans (by decide)))
      refine x_tableIn (tgt := 66) (off := 62) C dX3_writeRest_4 (by omega) (by omega) (by rw [c5]; rfl) (by decide) ?_
      refine x_aload_nq C dX3_writeRest_66 rfl (lv_at hl 1 rfl) ?_
      refine x_aload_n C dX3_writeRest_67 rfl (lv_at hl 0 rfl) ?_
      refine x_getJ C fl_RX3_66 g1 dX3_writeRest_68 ?_
      refine x_topj (fun y10 e11 => ?_)
      have h := h y10 e11
      obtain ⟨b12, g13, h⟩ := h
      refine x_nn1 g13 ?_
      obtain ⟨g14, h⟩ := h
      refine x_callV (rm := rm_X0_addView) (rest := []) (As := [.long y10]) C cy_RX3_48 g14 (by decide) (by decide) rfl rfl (Nat.le_of_ble_eq_true rfl) hl.1 dX3_writeRest_71 (c_X0_addView l D cy b12 y10 σ _ h) (ks_v (fun σ15 h => ?_))
      refine x_aload_nq C dX3_writeRest_74 rfl (lv_at hl 1 rfl) ?_
      refine x_aload_n C dX3_writeRest_75 rfl (lv_at hl 0 rfl) ?_
      obtain ⟨g16, h⟩ := h
      refine x_getP C fl_RX3_12 g16 dX3_writeRest_76 ?_
      obtain ⟨b17, g18, h⟩ := h
      refine x_nn0 g18 ?_
      obtain ⟨g19, h⟩ := h
      refine x_getI C fl_RX3_69 g19 dX3_writeRest_79 ?_
      refine x_topi (fun x20 e21 => ?_)
      have h := h x20 e21
      refine x_nn1 g13 ?_
      obtain ⟨g22, h⟩ := h
      refine x_callV (rm := rm_X0_addNumber) (rest := []) (As := [.int x20]) C cy_RX3_45 g22 (by decide) (by decide) rfl rfl (Nat.le_of_ble_eq_true rfl) hl.1 dX3_writeRest_82 (c_X0_addNumber l D cy b12 x20 σ15 _ h) (ks_v (fun σ23 h => ?_))
      refine x_aload_n C dX3_writeRest_85 rfl (lv_at hl 0 rfl) ?_
      obtain ⟨g24, h⟩ := h
      refine x_getP C fl_RX3_12 g24 dX3_writeRest_86 ?_
      refine x_aload_nq C dX3_writeRest_89 rfl (lv_at hl 1 rfl) ?_
      obtain ⟨b25, g26, h⟩ := h
      refine x_nn1 g26 ?_
      obtain ⟨g27, h⟩ := h
      refine x_callV (rm := rm_X2_write) (rest := []) (As := [va_rf p1]) C cy_RX3_63 g27 (by decide) (by decide) rfl rfl (Nat.le_of_ble_eq_true rfl) hl.1 dX3_writeRest_90 (c_X2_write l D cy b25 p1 σ23 _ h) (ks_v (fun σ28 h => ?_))
      refine x_goto (tgt := 206) C dX3_writeRest_93 (by decide) ?_
      exact x_vret C hr dX3_writeRest_206 ⟨rfl, h⟩
    · have h := h.2.2.2.2.2.2.1 (sw_eq (k := 10) (c5.trans (by decide)))
      refine x_tableIn (tgt := 96) (off := 92) C dX3_writeRest_4 (by omega) (by omega) (by rw [c5]; rfl) (by decide) ?_
      refine x_aload_nq C dX3_writeRest_96 rfl (lv_at hl 1 rfl) ?_
      refine x_aload_n C dX3_writeRest_97 rfl (lv_at hl 0 rfl) ?_
      refine x_getP C fl_RX3_12 g1 dX3_writeRest_98 ?_
      obtain ⟨b29, g30, h⟩ := h
      refine x_nn0 g30 ?_
      obtain ⟨g31, h⟩ := h
      refine x_getI C fl_RX3_69 g31 dX3_writeRest_101 ?_
      refine x_topi (fun x32 e33 => ?_)
      have h := h x32 e33
      obtain ⟨b34, g35, h⟩ := h
      refine x_nn1 g35 ?_
      obtain ⟨g36, h⟩ := h
      refine x_callV (rm := rm_X0_addNumber) (rest := []) (As := [.int x32]) C cy_RX3_45 g36 (by decide) (by decide) rfl rfl (Nat.le_of_ble_eq_true rfl) hl.1 dX3_writeRest_104 (c_X0_addNumber l D cy b34 x32 σ _ h) (ks_v (fun σ37 h => ?_))
      refine x_aload_n C dX3_writeRest_107 rfl (lv_at hl 0 rfl) ?_
      obtain ⟨g38, h⟩ := h
      refine x_getP C fl_RX3_12 g38 dX3_writeRest_108 ?_
      refine x_aload_nq C dX3_writeRest_111 rfl (lv_at hl 1 rfl) ?_
      obtain ⟨b39, g40, h⟩ := h
      refine x_nn1 g40 ?_
      obtain ⟨g41, h⟩ := h
      refine x_callV (rm := rm_X2_write) (rest := []) (As := [va_rf p1]) C cy_RX3_63 g41 (by decide) (by decide) rfl rfl (Nat.le_of_ble_eq_true rfl) hl.1 dX3_writeRest_112 (c_X2_write l D cy b39 p1 σ37 _ h) (ks_v (fun σ42 h => ?_))
      refine x_goto (tgt := 206) C dX3_writeRest_115 (by decide) ?_
      exact x_vret C hr dX3_writeRest_206 ⟨rfl, h⟩
    · have h := h.2.2.2.2.2.2.2.1 (sw_eq (k := 11) (c5.trans (by decide)))
      refine x_tableIn (tgt := 118) (off := 114) C dX3_writeRest_4 (by omega) (by omega) (by rw [c5]; rfl) (by decide) ?_
      refine x_aload_nq C dX3_writeRest_118 rfl (lv_at hl 1 rfl) ?_
      refine x_aload_n C dX3_writeRest_119 rfl (lv_at hl 0 rfl) ?_
      refine x_getI C fl_RX3_72 g1 dX3_writeRest_120 ?_
      refine x_topi (fun x43 e44 => ?_)
      have h := h x43 e44
      obtain ⟨b45, g46, h⟩ := h
      refine x_nn1 g46 ?_
      obtain ⟨g47, h⟩ := h
      refine x_callV (rm := rm_X0_addNumber) (rest := []) (As := [.int x43]) C cy_RX3_45 g47 (by decide) (by decide) rfl rfl (Nat.le_of_ble_eq_true rfl) hl.1 dX3_writeRest_123 (c_X0_addNumber l D cy b45 x43 σ _ h) (ks_v (fun σ48 h => ?_))
      refine x_aload_nq C dX3_writeRest_126 rfl (lv_at hl 1 rfl) ?_
      refine x_aload_n C dX3_writeRest_127 rfl (lv_at hl 0 rfl) ?_
      obtain ⟨g49, h⟩ := h
      refine x_getI C fl_RX3_75 g49 dX3_writeRest_128 ?_
      refine x_topi (fun x50 e51 => ?_)
      have h := h x50 e51
      refine x_nn1 g46 ?_
      obtain ⟨g52, h⟩ := h
      refine x_callV (rm := rm_X0_addNumber) (rest := []) (As := [.int x50]) C cy_RX3_45 g52 (by decide) (by decide) rfl rfl (Nat.le_of_ble_eq_true rfl) hl.1 dX3_writeRest_131 (c_X0_addNumber l D cy b45 x50 σ48 _ h) (ks_v (fun σ53 h => ?_))
      refine x_aload_nq C dX3_writeRest_134 rfl (lv_at hl 1 rfl) ?_
      refine x_aload_n C dX3_writeRest_135 rfl (lv_at hl 0 rfl) ?_
      obtain ⟨g54, h⟩ := h
      refine x_getZ C fl_RX3_78 g54 dX3_writeRest_136 ?_
      refine x_topi (fun x55 e56 => ?_)
      have h := h x55 e56
      refine x_if_eq (tgt := 146) C dX3_writeRest_139 (by decide) (fun c57 => ?_) (fun c57 => ?_)
      · have h := h.1 c57
        refine x_iconst (v := 0) C dX3_writeRest_146 (by decide) ?_
        exact t_X3_writeRest_147 C hr hnm  p1 (0 : Int32) p1 _ h ls (lv_sub hl [0, 1] rfl)
      · have h := h.2 c57
        refine x_iconst (v := 1) C dX3_writeRest_142 (by decide) ?_
        refine x_goto (tgt := 147) C dX3_writeRest_143 (by decide) ?_
        exact t_X3_writeRest_147 C hr hnm  p1 (1 : Int32) p1 _ h ls (lv_sub hl [0, 1] rfl)
    · have h := h.2.2.2.2.2.2.2.2 (sw_eq (k := 12) (c5.trans (by decide)))
      refine x_tableIn (tgt := 52) (off := 48) C dX3_writeRest_4 (by omega) (by omega) (by rw [c5]; rfl) (by decide) ?_
      exact t_X3_writeRest_52 C hr hnm   _ h ls (lv_sub hl [] rfl)
theorem dX3_write_0 : decode cX3_write 0 = .ok (.aload_n 1, 1) := by decide +kernel
theorem dX3_write_1 : decode cX3_write 1 = .ok (.iconst 0, 1) := by decide +kernel
theorem dX3_write_2 : decode cX3_write 2 = .ok (.putfield 18, 3) := by decide +kernel
theorem dX3_write_5 : decode cX3_write 5 = .ok (.aload_n 1, 1) := by decide +kernel
theorem dX3_write_6 : decode cX3_write 6 = .ok (.aload_n 0, 1) := by decide +kernel
theorem dX3_write_7 : decode cX3_write 7 = .ok (.getfield 24, 3) := by decide +kernel
theorem dX3_write_10 : decode cX3_write 10 = .ok (.invokevirtual 27, 3) := by decide +kernel
theorem dX3_write_13 : decode cX3_write 13 = .ok (.aload_n 1, 1) := by decide +kernel
theorem dX3_write_14 : decode cX3_write 14 = .ok (.aload_n 0, 1) := by decide +kernel
theorem dX3_write_15 : decode cX3_write 15 = .ok (.getfield 31, 3) := by decide +kernel
theorem dX3_write_18 : decode cX3_write 18 = .ok (.iconst (-1), 1) := by decide +kernel
theorem dX3_write_19 : decode cX3_write 19 = .ok (.if_icmp .ne 9, 3) := by decide +kernel
theorem dX3_write_22 : decode cX3_write 22 = .ok (.sipush 255, 3) := by decide +kernel
theorem dX3_write_25 : decode cX3_write 25 = .ok (.goto 7, 3) := by decide +kernel
theorem dX3_write_28 : decode cX3_write 28 = .ok (.aload_n 0, 1) := by decide +kernel
theorem dX3_write_29 : decode cX3_write 29 = .ok (.getfield 31, 3) := by decide +kernel
theorem dX3_write_32 : decode cX3_write 32 = .ok (.invokevirtual 27, 3) := by decide +kernel
theorem dX3_write_35 : decode cX3_write 35 = .ok (.aload_n 1, 1) := by decide +kernel
theorem dX3_write_36 : decode cX3_write 36 = .ok (.aload_n 0, 1) := by decide +kernel
theorem dX3_write_37 : decode cX3_write 37 = .ok (.getfield 24, 3) := by decide +kernel
theorem dX3_write_40 : decode cX3_write 40 = .ok (.bipush 11, 2) := by decide +kernel
theorem dX3_write_42 : decode cX3_write 42 = .ok (.if_icmp .ne 13, 3) := by decide +kernel
theorem dX3_write_45 : decode cX3_write 45 = .ok (.bipush 16, 2) := by decide +kernel
theorem dX3_write_47 : decode cX3_write 47 = .ok (.aload_n 0, 1) := by decide +kernel
theorem dX3_write_48 : decode cX3_write 48 = .ok (.getfield 34, 3) := by decide +kernel
theorem dX3_write_51 : decode cX3_write 51 = .ok (.iadd, 1) := by decide +kernel
theorem dX3_write_52 : decode cX3_write 52 = .ok (.goto 7, 3) := by decide +kernel
theorem dX3_write_55 : decode cX3_write 55 = .ok (.aload_n 0, 1) := by decide +kernel
theorem dX3_write_56 : decode cX3_write 56 = .ok (.getfield 34, 3) := by decide +kernel
theorem dX3_write_59 : decode cX3_write 59 = .ok (.invokevirtual 27, 3) := by decide +kernel
theorem dX3_write_62 : decode cX3_write 62 = .ok (.aload_n 0, 1) := by decide +kernel
theorem dX3_write_63 : decode cX3_write 63 = .ok (.getfield 24, 3) := by decide +kernel
theorem dX3_write_66 : decode cX3_write 66 = .ok (.ifCond .ne 17, 3) := by decide +kernel
theorem dX3_write_69 : decode cX3_write 69 = .ok (.aload_n 1, 1) := by decide +kernel
theorem dX3_write_70 : decode cX3_write 70 = .ok (.aload_n 0, 1) := by decide +kernel
theorem dX3_write_71 : decode cX3_write 71 = .ok (.getfield 37, 3) := by decide +kernel
theorem dX3_write_74 : decode cX3_write 74 = .ok (.invokestatic 41, 3) := by decide +kernel
theorem dX3_write_77 : decode cX3_write 77 = .ok (.invokevirtual 45, 3) := by decide +kernel
theorem dX3_write_80 : decode cX3_write 80 = .ok (.goto 11, 3) := by decide +kernel
theorem dX3_write_83 : decode cX3_write 83 = .ok (.aload_n 1, 1) := by decide +kernel
theorem dX3_write_84 : decode cX3_write 84 = .ok (.aload_n 0, 1) := by decide +kernel
theorem dX3_write_85 : decode cX3_write 85 = .ok (.getfield 37, 3) := by decide +kernel
theorem dX3_write_88 : decode cX3_write 88 = .ok (.invokevirtual 48, 3) := by decide +kernel
theorem dX3_write_91 : decode cX3_write 91 = .ok (.aload_n 0, 1) := by decide +kernel
theorem dX3_write_92 : decode cX3_write 92 = .ok (.aload_n 1, 1) := by decide +kernel
theorem dX3_write_93 : decode cX3_write 93 = .ok (.invokevirtual 52, 3) := by decide +kernel
theorem dX3_write_96 : decode cX3_write 96 = .ok (.aload_n 1, 1) := by decide +kernel
theorem dX3_write_97 : decode cX3_write 97 = .ok (.aload_n 1, 1) := by decide +kernel
theorem dX3_write_98 : decode cX3_write 98 = .ok (.iconst 0, 1) := by decide +kernel
theorem dX3_write_99 : decode cX3_write 99 = .ok (.aload_n 1, 1) := by decide +kernel
theorem dX3_write_100 : decode cX3_write 100 = .ok (.getfield 18, 3) := by decide +kernel
theorem dX3_write_103 : decode cX3_write 103 = .ok (.invokevirtual 56, 3) := by decide +kernel
theorem dX3_write_106 : decode cX3_write 106 = .ok (.invokevirtual 60, 3) := by decide +kernel
theorem dX3_write_109 : decode cX3_write 109 = .ok (.return_, 1) := by decide +kernel
abbrev rm_X3_write : Room := { frames := 5, cells := 0, slots := 0, locals := 109 }
def b_X3_write_91 (a0 : Nat)  (Q : Sto → Prop) (p1 : Option Nat) (σ : Sto) : Prop := (sK σ a0 = 3 ∧ (wp_X3_writeRest a0 p1 σ (fun (σ2 : Sto) => (∃ b3 : Nat, p1 = some b3 ∧ (sK σ2 b3 = 0 ∧ (∀ x6 : Int32, x6 = sI σ2 b3 1 → (wp_X0_sumOf b3 (0 : Int32) x6 σ2 (fun (x9 : Int32) (σ8 : Sto) => (sK σ8 b3 = 0 ∧ (wp_X0_addWord b3 x9 σ8 (fun (σ11 : Sto) => Q σ11)))))))))))
set_option maxHeartbeats 4000000 in
set_option maxRecDepth 100000 in
theorem t_X3_write_91 {p : Program} {l : Launch} {e : Env} {s : State} {m : MethodId} {args : Array Value} {below : List Frame} {meth : Method} {c : Code} {D : va_G} {cy : Nat → ClassId} {A : Nat → Prop} {a0 : Nat} {Q : Sto → Prop} (C : Cx p s m args meth c D cy A cX3_write 2 RX3) (hr : meth.sig.returnType = none) (hnm : meth.name = yX3_write.name) (p1 : Option Nat) (σ : Sto) (h : b_X3_write_91 a0  Q p1 σ) (ls : Array Slot) (hl : lv_has ls 2 [(0, .ref a0), (1, va_rf p1)]) : Xw p l e rm_X3_write s m args below meth c D cy A σ 0 0 (MQ below (Qst D cy A (PsV Q)) args s rm_X3_write.cells rm_X3_write.slots A) (F0 m 91 ls []) := by
  unfold b_X3_write_91 at h
  refine x_aload_n C dX3_write_91 rfl (lv_at hl 0 rfl) ?_
  refine x_aload_nq C dX3_write_92 rfl (lv_at hl 1 rfl) ?_
  obtain ⟨g1, h⟩ := h
  refine x_callV (rm := rm_X3_writeRest) (rest := []) (As := [va_rf p1]) C cy_RX3_52 g1 (by decide) (by decide) rfl rfl (Nat.le_of_ble_eq_true rfl) hl.1 dX3_write_93 (c_X3_writeRest l D cy a0 p1 σ _ h) (ks_v (fun σ2 h => ?_))
  refine x_aload_nq C dX3_write_96 rfl (lv_at hl 1 rfl) ?_
  refine x_aload_nq C dX3_write_97 rfl (lv_at hl 1 rfl) ?_
  refine x_iconst (v := 0) C dX3_write_98 (by decide) ?_
  refine x_aload_nq C dX3_write_99 rfl (lv_at hl 1 rfl) ?_
  obtain ⟨b3, g4, h⟩ := h
  refine x_nn0 g4 ?_
  obtain ⟨g5, h⟩ := h
  refine x_getI C fl_RX3_18 g5 dX3_write_100 ?_
  refine x_topi (fun x6 e7 => ?_)
  have h := h x6 e7
  refine x_nn2 g4 ?_
  refine x_callV (rm := rm_X0_sumOf) (rest := [va_rf p1]) (As := [.int (0 : Int32), .int x6]) C cy_RX3_56 g5 (by decide) (by decide) rfl rfl (by simp [vrc, cat_i, cat_r, cat_l]) hl.1 dX3_write_103 (c_X0_sumOf l D cy b3 (0 : Int32) x6 σ2 _ h) (ks_i (fun x9 σ8 h => ?_))
  refine x_nn1 g4 ?_
  obtain ⟨g10, h⟩ := h
  refine x_callV (rm := rm_X0_addWord) (rest := []) (As := [.int x9]) C cy_RX3_60 g10 (by decide) (by decide) rfl rfl (Nat.le_of_ble_eq_true rfl) hl.1 dX3_write_106 (c_X0_addWord l D cy b3 x9 σ8 _ h) (ks_v (fun σ11 h => ?_))
  exact x_vret C hr dX3_write_109 ⟨rfl, h⟩
def b_X3_write_59 (a0 : Nat)  (Q : Sto → Prop) (p1 : Option Nat) (s0 : Int32) (s1 : Option Nat) (σ : Sto) : Prop := (∃ b1 : Nat, s1 = some b1 ∧ (sK σ b1 = 0 ∧ (wp_X0_add b1 s0 σ (fun (σ4 : Sto) => (sK σ4 a0 = 3 ∧ (∀ x6 : Int32, x6 = sI σ4 a0 1 → ((¬ x6 = 0 → (∀ y9 : Int64, y9 = sJ σ4 a0 4 → (∃ b11 : Nat, p1 = some b11 ∧ (sK σ4 b11 = 0 ∧ (wp_X0_addView b11 y9 σ4 (fun (σ14 : Sto) => b_X3_write_91 a0  Q p1 σ14)))))) ∧ (x6 = 0 → (∀ y15 : Int64, y15 = sJ σ4 a0 4 → (wp_X11_sessionOf y15 σ4 (fun (x18 : Int32) (σ17 : Sto) => (∃ b19 : Nat, p1 = some b19 ∧ (sK σ17 b19 = 0 ∧ (wp_X0_addNumber b19 x18 σ17 (fun (σ22 : Sto) => b_X3_write_91 a0  Q p1 σ22)))))))))))))))
set_option maxHeartbeats 4000000 in
set_option maxRecDepth 100000 in
theorem t_X3_write_59 {p : Program} {l : Launch} {e : Env} {s : State} {m : MethodId} {args : Array Value} {below : List Frame} {meth : Method} {c : Code} {D : va_G} {cy : Nat → ClassId} {A : Nat → Prop} {a0 : Nat} {Q : Sto → Prop} (C : Cx p s m args meth c D cy A cX3_write 2 RX3) (hr : meth.sig.returnType = none) (hnm : meth.name = yX3_write.name) (p1 : Option Nat) (s0 : Int32) (s1 : Option Nat) (σ : Sto) (h : b_X3_write_59 a0  Q p1 s0 s1 σ) (ls : Array Slot) (hl : lv_has ls 2 [(0, .ref a0), (1, va_rf p1)]) : Xw p l e rm_X3_write s m args below meth c D cy A σ 0 0 (MQ below (Qst D cy A (PsV Q)) args s rm_X3_write.cells rm_X3_write.slots A) (F0 m 59 ls [.int s0, va_rf s1]) := by
  unfold b_X3_write_59 at h
  obtain ⟨b1, g2, h⟩ := h
  refine x_nn1 g2 ?_
  obtain ⟨g3, h⟩ := h
  refine x_callV (rm := rm_X0_add) (rest := []) (As := [.int s0]) C cy_RX3_27 g3 (by decide) (by decide) rfl rfl (Nat.le_of_ble_eq_true rfl) hl.1 dX3_write_59 (c_X0_add l D cy b1 s0 σ _ h) (ks_v (fun σ4 h => ?_))
  refine x_aload_n C dX3_write_62 rfl (lv_at hl 0 rfl) ?_
  obtain ⟨g5, h⟩ := h
  refine x_getI C fl_RX3_24 g5 dX3_write_63 ?_
  refine x_topi (fun x6 e7 => ?_)
  have h := h x6 e7
  refine x_if_ne (tgt := 83) C dX3_write_66 (by decide) (fun c8 => ?_) (fun c8 => ?_)
  · have h := h.1 c8
    refine x_aload_nq C dX3_write_83 rfl (lv_at hl 1 rfl) ?_
    refine x_aload_n C dX3_write_84 rfl (lv_at hl 0 rfl) ?_
    refine x_getJ C fl_RX3_37 g5 dX3_write_85 ?_
    refine x_topj (fun y9 e10 => ?_)
    have h := h y9 e10
    obtain ⟨b11, g12, h⟩ := h
    refine x_nn1 g12 ?_
    obtain ⟨g13, h⟩ := h
    refine x_callV (rm := rm_X0_addView) (rest := []) (As := [.long y9]) C cy_RX3_48 g13 (by decide) (by decide) rfl rfl (Nat.le_of_ble_eq_true rfl) hl.1 dX3_write_88 (c_X0_addView l D cy b11 y9 σ4 _ h) (ks_v (fun σ14 h => ?_))
    exact t_X3_write_91 C hr hnm  p1 _ h ls (lv_sub hl [0, 1] rfl)
  · have h := h.2 c8
    refine x_aload_nq C dX3_write_69 rfl (lv_at hl 1 rfl) ?_
    refine x_aload_n C dX3_write_70 rfl (lv_at hl 0 rfl) ?_
    refine x_getJ C fl_RX3_37 g5 dX3_write_71 ?_
    refine x_topj (fun y15 e16 => ?_)
    have h := h y15 e16
    refine x_callSN (rm := rm_X11_sessionOf) (rest := [va_rf p1]) (As := [.long y15]) C csn_RX3_41 (by decide) (by decide) rfl rfl (by simp [vrc, cat_i, cat_r, cat_l]) hl.1 dX3_write_74 (c_X11_sessionOf l D cy y15 σ4 _ h) (ks_i (fun x18 σ17 h => ?_))
    obtain ⟨b19, g20, h⟩ := h
    refine x_nn1 g20 ?_
    obtain ⟨g21, h⟩ := h
    refine x_callV (rm := rm_X0_addNumber) (rest := []) (As := [.int x18]) C cy_RX3_45 g21 (by decide) (by decide) rfl rfl (Nat.le_of_ble_eq_true rfl) hl.1 dX3_write_77 (c_X0_addNumber l D cy b19 x18 σ17 _ h) (ks_v (fun σ22 h => ?_))
    refine x_goto (tgt := 91) C dX3_write_80 (by decide) ?_
    exact t_X3_write_91 C hr hnm  p1 _ h ls (lv_sub hl [0, 1] rfl)
def b_X3_write_32 (a0 : Nat)  (Q : Sto → Prop) (p1 : Option Nat) (s0 : Int32) (s1 : Option Nat) (σ : Sto) : Prop := (∃ b1 : Nat, s1 = some b1 ∧ (sK σ b1 = 0 ∧ (wp_X0_add b1 s0 σ (fun (σ4 : Sto) => (sK σ4 a0 = 3 ∧ (∀ x6 : Int32, x6 = sI σ4 a0 1 → ((¬ x6 = (11 : Int32) → (∀ x9 : Int32, x9 = sI σ4 a0 3 → b_X3_write_59 a0  Q p1 x9 p1 σ4)) ∧ (x6 = (11 : Int32) → (∀ x11 : Int32, x11 = sI σ4 a0 3 → b_X3_write_59 a0  Q p1 ((16 : Int32) + x11) p1 σ4)))))))))
set_option maxHeartbeats 4000000 in
set_option maxRecDepth 100000 in
theorem t_X3_write_32 {p : Program} {l : Launch} {e : Env} {s : State} {m : MethodId} {args : Array Value} {below : List Frame} {meth : Method} {c : Code} {D : va_G} {cy : Nat → ClassId} {A : Nat → Prop} {a0 : Nat} {Q : Sto → Prop} (C : Cx p s m args meth c D cy A cX3_write 2 RX3) (hr : meth.sig.returnType = none) (hnm : meth.name = yX3_write.name) (p1 : Option Nat) (s0 : Int32) (s1 : Option Nat) (σ : Sto) (h : b_X3_write_32 a0  Q p1 s0 s1 σ) (ls : Array Slot) (hl : lv_has ls 2 [(0, .ref a0), (1, va_rf p1)]) : Xw p l e rm_X3_write s m args below meth c D cy A σ 0 0 (MQ below (Qst D cy A (PsV Q)) args s rm_X3_write.cells rm_X3_write.slots A) (F0 m 32 ls [.int s0, va_rf s1]) := by
  unfold b_X3_write_32 at h
  obtain ⟨b1, g2, h⟩ := h
  refine x_nn1 g2 ?_
  obtain ⟨g3, h⟩ := h
  refine x_callV (rm := rm_X0_add) (rest := []) (As := [.int s0]) C cy_RX3_27 g3 (by decide) (by decide) rfl rfl (Nat.le_of_ble_eq_true rfl) hl.1 dX3_write_32 (c_X0_add l D cy b1 s0 σ _ h) (ks_v (fun σ4 h => ?_))
  refine x_aload_nq C dX3_write_35 rfl (lv_at hl 1 rfl) ?_
  refine x_aload_n C dX3_write_36 rfl (lv_at hl 0 rfl) ?_
  obtain ⟨g5, h⟩ := h
  refine x_getI C fl_RX3_24 g5 dX3_write_37 ?_
  refine x_topi (fun x6 e7 => ?_)
  have h := h x6 e7
  refine x_bipush (v := 11) C dX3_write_40 (by decide) ?_
  refine x_icmp_ne (tgt := 55) C dX3_write_42 (by decide) (fun c8 => ?_) (fun c8 => ?_)
  · have h := h.1 c8
    refine x_aload_n C dX3_write_55 rfl (lv_at hl 0 rfl) ?_
    refine x_getI C fl_RX3_34 g5 dX3_write_56 ?_
    refine x_topi (fun x9 e10 => ?_)
    have h := h x9 e10
    exact t_X3_write_59 C hr hnm  p1 x9 p1 _ h ls (lv_sub hl [0, 1] rfl)
  · have h := h.2 c8
    refine x_bipush (v := 16) C dX3_write_45 (by decide) ?_
    refine x_aload_n C dX3_write_47 rfl (lv_at hl 0 rfl) ?_
    refine x_getI C fl_RX3_34 g5 dX3_write_48 ?_
    refine x_topi (fun x11 e12 => ?_)
    have h := h x11 e12
    refine x_iadd C dX3_write_51 ?_
    refine x_goto (tgt := 59) C dX3_write_52 (by decide) ?_
    exact t_X3_write_59 C hr hnm  p1 ((16 : Int32) + x11) p1 _ h ls (lv_sub hl [0, 1] rfl)
def wp_X3_write (a0 : Nat) (p1 : Option Nat) (σ : Sto) (Q : Sto → Prop) : Prop := (∃ b1 : Nat, p1 = some b1 ∧ (sK σ b1 = 0 ∧ (sK σ a0 = 3 ∧ (∀ x5 : Int32, x5 = sI (stI σ b1 1 (0 : Int32)) a0 1 → (wp_X0_add b1 x5 (stI σ b1 1 (0 : Int32)) (fun (σ7 : Sto) => (sK σ7 a0 = 3 ∧ (∀ x9 : Int32, x9 = sI σ7 a0 2 → ((¬ x9 = (-1 : Int32) → (∀ x12 : Int32, x12 = sI σ7 a0 2 → b_X3_write_32 a0  Q p1 x12 p1 σ7)) ∧ (x9 = (-1 : Int32) → b_X3_write_32 a0  Q p1 (255 : Int32) p1 σ7))))))))))
set_option maxHeartbeats 4000000 in
set_option maxRecDepth 100000 in
theorem c_X3_write (l : Launch) (D : va_G) (cy : Nat → ClassId) (a0 : Nat) (p1 : Option Nat) (σ : Sto) (Q : Sto → Prop) (h : wp_X3_write a0 p1 σ Q) : Mt l D cy yX3_write cX3_write 2 none rm_X3_write [.ref a0, va_rf p1] σ (PsV Q) := by
  unfold wp_X3_write at h
  refine mt_of (by decide +kernel) (by simp [lg_sl, vrc, cat_i, cat_r, cat_l]) ?_
  intro p e s m args below meth c A ls C hr hnm hl
  have C : Cx p s m args meth c D cy A cX3_write 2 RX3 := C
  have hl : lv_has ls 2 [(0, .ref a0), (1, va_rf p1)] := by simpa [lv_args, vrc, cat_i, cat_r, cat_l] using hl
  refine x_aload_nq C dX3_write_0 rfl (lv_at hl 1 rfl) ?_
  refine x_iconst (v := 0) C dX3_write_1 (by decide) ?_
  obtain ⟨b1, g2, h⟩ := h
  refine x_nn1 g2 ?_
  obtain ⟨g3, h⟩ := h
  refine x_putI C fl_RX3_18 (Or.inl rfl) g3 dX3_write_2 ?_
  refine x_aload_nq C dX3_write_5 rfl (lv_at hl 1 rfl) ?_
  refine x_aload_n C dX3_write_6 rfl (lv_at hl 0 rfl) ?_
  obtain ⟨g4, h⟩ := h
  refine x_getI C fl_RX3_24 g4 dX3_write_7 ?_
  refine x_topi (fun x5 e6 => ?_)
  have h := h x5 e6
  refine x_nn1 g2 ?_
  refine x_callV (rm := rm_X0_add) (rest := []) (As := [.int x5]) C cy_RX3_27 g3 (by decide) (by decide) rfl rfl (Nat.le_of_ble_eq_true rfl) hl.1 dX3_write_10 (c_X0_add l D cy b1 x5 (stI σ b1 1 (0 : Int32)) _ h) (ks_v (fun σ7 h => ?_))
  refine x_aload_nq C dX3_write_13 rfl (lv_at hl 1 rfl) ?_
  refine x_aload_n C dX3_write_14 rfl (lv_at hl 0 rfl) ?_
  obtain ⟨g8, h⟩ := h
  refine x_getI C fl_RX3_31 g8 dX3_write_15 ?_
  refine x_topi (fun x9 e10 => ?_)
  have h := h x9 e10
  refine x_iconst (v := -1) C dX3_write_18 (by decide) ?_
  refine x_icmp_ne (tgt := 28) C dX3_write_19 (by decide) (fun c11 => ?_) (fun c11 => ?_)
  · have h := h.1 c11
    refine x_aload_n C dX3_write_28 rfl (lv_at hl 0 rfl) ?_
    refine x_getI C fl_RX3_31 g8 dX3_write_29 ?_
    refine x_topi (fun x12 e13 => ?_)
    have h := h x12 e13
    exact t_X3_write_32 C hr hnm  p1 x12 p1 _ h ls (lv_sub hl [0, 1] rfl)
  · have h := h.2 c11
    refine x_sipush (v := 255) C dX3_write_22 (by decide) ?_
    refine x_goto (tgt := 32) C dX3_write_25 (by decide) ?_
    exact t_X3_write_32 C hr hnm  p1 (255 : Int32) p1 _ h ls (lv_sub hl [0, 1] rfl)
