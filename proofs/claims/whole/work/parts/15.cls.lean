theorem dX8_hearStamped_0 : decode cX8_hearStamped 0 = .ok (.aload_n 1, 1) := by decide +kernel
theorem dX8_hearStamped_1 : decode cX8_hearStamped 1 = .ok (.getfield 83, 3) := by decide +kernel
theorem dX8_hearStamped_4 : decode cX8_hearStamped 4 = .ok (.invokestatic 133, 3) := by decide +kernel
theorem dX8_hearStamped_7 : decode cX8_hearStamped 7 = .ok (.istore_n 2, 1) := by decide +kernel
theorem dX8_hearStamped_8 : decode cX8_hearStamped 8 = .ok (.iload_n 2, 1) := by decide +kernel
theorem dX8_hearStamped_9 : decode cX8_hearStamped 9 = .ok (.aload_n 0, 1) := by decide +kernel
theorem dX8_hearStamped_10 : decode cX8_hearStamped 10 = .ok (.getfield 13, 3) := by decide +kernel
theorem dX8_hearStamped_13 : decode cX8_hearStamped 13 = .ok (.invokestatic 133, 3) := by decide +kernel
theorem dX8_hearStamped_16 : decode cX8_hearStamped 16 = .ok (.if_icmp .le 19, 3) := by decide +kernel
theorem dX8_hearStamped_19 : decode cX8_hearStamped 19 = .ok (.aload_n 0, 1) := by decide +kernel
theorem dX8_hearStamped_20 : decode cX8_hearStamped 20 = .ok (.aload_n 0, 1) := by decide +kernel
theorem dX8_hearStamped_21 : decode cX8_hearStamped 21 = .ok (.getfield 13, 3) := by decide +kernel
theorem dX8_hearStamped_24 : decode cX8_hearStamped 24 = .ok (.invokestatic 136, 3) := by decide +kernel
theorem dX8_hearStamped_27 : decode cX8_hearStamped 27 = .ok (.iload_n 2, 1) := by decide +kernel
theorem dX8_hearStamped_28 : decode cX8_hearStamped 28 = .ok (.invokestatic 9, 3) := by decide +kernel
theorem dX8_hearStamped_31 : decode cX8_hearStamped 31 = .ok (.invokevirtual 139, 3) := by decide +kernel
theorem dX8_hearStamped_34 : decode cX8_hearStamped 34 = .ok (.return_, 1) := by decide +kernel
theorem dX8_hearStamped_35 : decode cX8_hearStamped 35 = .ok (.iload_n 2, 1) := by decide +kernel
theorem dX8_hearStamped_36 : decode cX8_hearStamped 36 = .ok (.aload_n 0, 1) := by decide +kernel
theorem dX8_hearStamped_37 : decode cX8_hearStamped 37 = .ok (.getfield 13, 3) := by decide +kernel
theorem dX8_hearStamped_40 : decode cX8_hearStamped 40 = .ok (.invokestatic 133, 3) := by decide +kernel
theorem dX8_hearStamped_43 : decode cX8_hearStamped 43 = .ok (.if_icmp .ne 64, 3) := by decide +kernel
theorem dX8_hearStamped_46 : decode cX8_hearStamped 46 = .ok (.aload_n 0, 1) := by decide +kernel
theorem dX8_hearStamped_47 : decode cX8_hearStamped 47 = .ok (.getfield 63, 3) := by decide +kernel
theorem dX8_hearStamped_50 : decode cX8_hearStamped 50 = .ok (.iconst 2, 1) := by decide +kernel
theorem dX8_hearStamped_51 : decode cX8_hearStamped 51 = .ok (.if_icmp .eq 56, 3) := by decide +kernel
theorem dX8_hearStamped_54 : decode cX8_hearStamped 54 = .ok (.aload_n 0, 1) := by decide +kernel
theorem dX8_hearStamped_55 : decode cX8_hearStamped 55 = .ok (.getfield 25, 3) := by decide +kernel
theorem dX8_hearStamped_58 : decode cX8_hearStamped 58 = .ok (.getfield 142, 3) := by decide +kernel
theorem dX8_hearStamped_61 : decode cX8_hearStamped 61 = .ok (.aload_n 1, 1) := by decide +kernel
theorem dX8_hearStamped_62 : decode cX8_hearStamped 62 = .ok (.getfield 107, 3) := by decide +kernel
theorem dX8_hearStamped_65 : decode cX8_hearStamped 65 = .ok (.iadd, 1) := by decide +kernel
theorem dX8_hearStamped_66 : decode cX8_hearStamped 66 = .ok (.aload_n 0, 1) := by decide +kernel
theorem dX8_hearStamped_67 : decode cX8_hearStamped 67 = .ok (.getfield 25, 3) := by decide +kernel
theorem dX8_hearStamped_70 : decode cX8_hearStamped 70 = .ok (.getfield 66, 3) := by decide +kernel
theorem dX8_hearStamped_73 : decode cX8_hearStamped 73 = .ok (.if_icmp .le 34, 3) := by decide +kernel
theorem dX8_hearStamped_76 : decode cX8_hearStamped 76 = .ok (.aload_n 0, 1) := by decide +kernel
theorem dX8_hearStamped_77 : decode cX8_hearStamped 77 = .ok (.getfield 51, 3) := by decide +kernel
theorem dX8_hearStamped_80 : decode cX8_hearStamped 80 = .ok (.getfield 145, 3) := by decide +kernel
theorem dX8_hearStamped_83 : decode cX8_hearStamped 83 = .ok (.bipush 8, 2) := by decide +kernel
theorem dX8_hearStamped_85 : decode cX8_hearStamped 85 = .ok (.if_icmp .ge 22, 3) := by decide +kernel
theorem dX8_hearStamped_88 : decode cX8_hearStamped 88 = .ok (.aload_n 0, 1) := by decide +kernel
theorem dX8_hearStamped_89 : decode cX8_hearStamped 89 = .ok (.getfield 51, 3) := by decide +kernel
theorem dX8_hearStamped_92 : decode cX8_hearStamped 92 = .ok (.aload_n 1, 1) := by decide +kernel
theorem dX8_hearStamped_93 : decode cX8_hearStamped 93 = .ok (.getfield 107, 3) := by decide +kernel
theorem dX8_hearStamped_96 : decode cX8_hearStamped 96 = .ok (.invokevirtual 148, 3) := by decide +kernel
theorem dX8_hearStamped_99 : decode cX8_hearStamped 99 = .ok (.iconst (-1), 1) := by decide +kernel
theorem dX8_hearStamped_100 : decode cX8_hearStamped 100 = .ok (.if_icmp .ne 7, 3) := by decide +kernel
theorem dX8_hearStamped_103 : decode cX8_hearStamped 103 = .ok (.iconst 1, 1) := by decide +kernel
theorem dX8_hearStamped_104 : decode cX8_hearStamped 104 = .ok (.goto 4, 3) := by decide +kernel
theorem dX8_hearStamped_107 : decode cX8_hearStamped 107 = .ok (.iconst 0, 1) := by decide +kernel
theorem dX8_hearStamped_108 : decode cX8_hearStamped 108 = .ok (.istore_n 3, 1) := by decide +kernel
theorem dX8_hearStamped_109 : decode cX8_hearStamped 109 = .ok (.iload_n 3, 1) := by decide +kernel
theorem dX8_hearStamped_110 : decode cX8_hearStamped 110 = .ok (.ifCond .eq 29, 3) := by decide +kernel
theorem dX8_hearStamped_113 : decode cX8_hearStamped 113 = .ok (.aload_n 0, 1) := by decide +kernel
theorem dX8_hearStamped_114 : decode cX8_hearStamped 114 = .ok (.getfield 51, 3) := by decide +kernel
theorem dX8_hearStamped_117 : decode cX8_hearStamped 117 = .ok (.aload_n 1, 1) := by decide +kernel
theorem dX8_hearStamped_118 : decode cX8_hearStamped 118 = .ok (.getfield 107, 3) := by decide +kernel
theorem dX8_hearStamped_121 : decode cX8_hearStamped 121 = .ok (.aload_n 1, 1) := by decide +kernel
theorem dX8_hearStamped_122 : decode cX8_hearStamped 122 = .ok (.getfield 152, 3) := by decide +kernel
theorem dX8_hearStamped_125 : decode cX8_hearStamped 125 = .ok (.invokevirtual 156, 3) := by decide +kernel
theorem dX8_hearStamped_128 : decode cX8_hearStamped 128 = .ok (.aload_n 0, 1) := by decide +kernel
theorem dX8_hearStamped_129 : decode cX8_hearStamped 129 = .ok (.getfield 63, 3) := by decide +kernel
theorem dX8_hearStamped_132 : decode cX8_hearStamped 132 = .ok (.ifCond .ne 7, 3) := by decide +kernel
theorem dX8_hearStamped_135 : decode cX8_hearStamped 135 = .ok (.aload_n 0, 1) := by decide +kernel
theorem dX8_hearStamped_136 : decode cX8_hearStamped 136 = .ok (.invokevirtual 160, 3) := by decide +kernel
theorem dX8_hearStamped_139 : decode cX8_hearStamped 139 = .ok (.return_, 1) := by decide +kernel
abbrev rm_X8_hearStamped : Room := { frames := 4, cells := 0, slots := 0, locals := 88 }
def b_X8_hearStamped_108 (a0 : Nat)  (Q : Sto → Prop) (p1 : Option Nat) (s0 : Int32) (σ : Sto) : Prop := ((s0 = 0 → Q σ) ∧ (¬ s0 = 0 → (sK σ a0 = 8 ∧ (∃ b3 : Nat, p1 = some b3 ∧ (sK σ b3 = 3 ∧ (∀ x6 : Int32, x6 = sI σ b3 6 → (∃ b8 : Nat, sP σ a0 10 = some b8 ∧ (sK σ b8 = 5 ∧ (wp_X5_hold b8 x6 (sP σ b3 7) σ (fun (σ11 : Sto) => (sK σ11 a0 = 8 ∧ (∀ x13 : Int32, x13 = sI σ11 a0 4 → ((¬ x13 = 0 → Q σ11) ∧ (x13 = 0 → (wp_X8_takeHeld a0  σ11 (fun (σ16 : Sto) => Q σ16))))))))))))))))
set_option maxHeartbeats 4000000 in
set_option maxRecDepth 100000 in
theorem t_X8_hearStamped_108 {p : Program} {l : Launch} {e : Env} {s : State} {m : MethodId} {args : Array Value} {below : List Frame} {meth : Method} {c : Code} {D : va_G} {cy : Nat → ClassId} {A : Nat → Prop} {a0 : Nat} {Q : Sto → Prop} (C : Cx p s m args meth c D cy A cX8_hearStamped 4 RX8) (hr : meth.sig.returnType = none) (hnm : meth.name = yX8_hearStamped.name) (p1 : Option Nat) (s0 : Int32) (σ : Sto) (h : b_X8_hearStamped_108 a0  Q p1 s0 σ) (ls : Array Slot) (hl : lv_has ls 4 [(0, .ref a0), (1, va_rf p1)]) : Xw p l e rm_X8_hearStamped s m args below meth c D cy A σ 0 0 (MQ below (Qst D cy A (PsV Q)) args s rm_X8_hearStamped.cells rm_X8_hearStamped.slots A) (F0 m 108 ls [.int s0]) := by
  unfold b_X8_hearStamped_108 at h
  refine x_istore_n (i := 3) (lv' := [(3, .int s0), (0, .ref a0), (1, va_rf p1)]) C dX8_hearStamped_108 rfl hl (by decide) (by first | rfl | simp [vrc, cat_i, cat_r, cat_l]) (fun ls hl => ?_)
  refine x_iload_n C dX8_hearStamped_109 rfl (lv_at hl 0 rfl) ?_
  refine x_if_eq (tgt := 139) C dX8_hearStamped_110 (by decide) (fun c1 => ?_) (fun c1 => ?_)
  · have h := h.1 c1
    exact x_vret C hr dX8_hearStamped_139 ⟨rfl, h⟩
  · have h := h.2 c1
    refine x_aload_n C dX8_hearStamped_113 rfl (lv_at hl 1 rfl) ?_
    obtain ⟨g2, h⟩ := h
    refine x_getP C fl_RX8_51 g2 dX8_hearStamped_114 ?_
    refine x_aload_nq C dX8_hearStamped_117 rfl (lv_at hl 2 rfl) ?_
    obtain ⟨b3, g4, h⟩ := h
    refine x_nn0 g4 ?_
    obtain ⟨g5, h⟩ := h
    refine x_getI C fl_RX8_107 g5 dX8_hearStamped_118 ?_
    refine x_topi (fun x6 e7 => ?_)
    have h := h x6 e7
    refine x_aload_nq C dX8_hearStamped_121 rfl (lv_at hl 2 rfl) ?_
    refine x_nn0 g4 ?_
    refine x_getP C fl_RX8_152 g5 dX8_hearStamped_122 ?_
    obtain ⟨b8, g9, h⟩ := h
    refine x_nn2 g9 ?_
    obtain ⟨g10, h⟩ := h
    refine x_callV (rm := rm_X5_hold) (rest := []) (As := [.int x6, va_rf (sP σ b3 7)]) C cy_RX8_156 g10 (by decide) (by decide) rfl rfl (Nat.le_of_ble_eq_true rfl) hl.1 dX8_hearStamped_125 (c_X5_hold l D cy b8 x6 (sP σ b3 7) σ _ h) (ks_v (fun σ11 h => ?_))
    refine x_aload_n C dX8_hearStamped_128 rfl (lv_at hl 1 rfl) ?_
    obtain ⟨g12, h⟩ := h
    refine x_getI C fl_RX8_63 g12 dX8_hearStamped_129 ?_
    refine x_topi (fun x13 e14 => ?_)
    have h := h x13 e14
    refine x_if_ne (tgt := 139) C dX8_hearStamped_132 (by decide) (fun c15 => ?_) (fun c15 => ?_)
    · have h := h.1 c15
      exact x_vret C hr dX8_hearStamped_139 ⟨rfl, h⟩
    · have h := h.2 c15
      refine x_aload_n C dX8_hearStamped_135 rfl (lv_at hl 1 rfl) ?_
      refine x_callV (rm := rm_X8_takeHeld) (rest := []) (As := []) C cy_RX8_160 g12 (by decide) (by decide) rfl rfl (Nat.le_of_ble_eq_true rfl) hl.1 dX8_hearStamped_136 (c_X8_takeHeld l D cy a0  σ11 _ h) (ks_v (fun σ16 h => ?_))
      exact x_vret C hr dX8_hearStamped_139 ⟨rfl, h⟩
def b_X8_hearStamped_107 (a0 : Nat)  (Q : Sto → Prop) (p1 : Option Nat) (σ : Sto) : Prop := b_X8_hearStamped_108 a0  Q p1 (0 : Int32) σ
set_option maxHeartbeats 4000000 in
set_option maxRecDepth 100000 in
theorem t_X8_hearStamped_107 {p : Program} {l : Launch} {e : Env} {s : State} {m : MethodId} {args : Array Value} {below : List Frame} {meth : Method} {c : Code} {D : va_G} {cy : Nat → ClassId} {A : Nat → Prop} {a0 : Nat} {Q : Sto → Prop} (C : Cx p s m args meth c D cy A cX8_hearStamped 4 RX8) (hr : meth.sig.returnType = none) (hnm : meth.name = yX8_hearStamped.name) (p1 : Option Nat) (σ : Sto) (h : b_X8_hearStamped_107 a0  Q p1 σ) (ls : Array Slot) (hl : lv_has ls 4 [(0, .ref a0), (1, va_rf p1)]) : Xw p l e rm_X8_hearStamped s m args below meth c D cy A σ 0 0 (MQ below (Qst D cy A (PsV Q)) args s rm_X8_hearStamped.cells rm_X8_hearStamped.slots A) (F0 m 107 ls []) := by
  unfold b_X8_hearStamped_107 at h
  refine x_iconst (v := 0) C dX8_hearStamped_107 (by decide) ?_
  exact t_X8_hearStamped_108 C hr hnm  p1 (0 : Int32) _ h ls (lv_sub hl [0, 1] rfl)
def wp_X8_hearStamped (a0 : Nat) (p1 : Option Nat) (σ : Sto) (Q : Sto → Prop) : Prop := (∃ b1 : Nat, p1 = some b1 ∧ (sK σ b1 = 3 ∧ (∀ y4 : Int64, y4 = sJ σ b1 4 → (wp_X11_sessionOf y4 σ (fun (x7 : Int32) (σ6 : Sto) => (sK σ6 a0 = 8 ∧ (∀ y9 : Int64, y9 = sJ σ6 a0 5 → (wp_X11_sessionOf y9 σ6 (fun (x12 : Int32) (σ11 : Sto) => ((x7 ≤ x12 → (sK σ11 a0 = 8 ∧ (∀ y15 : Int64, y15 = sJ σ11 a0 5 → (wp_X11_sessionOf y15 σ11 (fun (x18 : Int32) (σ17 : Sto) => ((¬ x7 = x18 → b_X8_hearStamped_107 a0  Q p1 σ17) ∧ (x7 = x18 → (sK σ17 a0 = 8 ∧ (∀ x21 : Int32, x21 = sI σ17 a0 4 → ((x21 = (2 : Int32) → b_X8_hearStamped_107 a0  Q p1 σ17) ∧ (¬ x21 = (2 : Int32) → (∃ b24 : Nat, sP σ17 a0 7 = some b24 ∧ (sK σ17 b24 = 2 ∧ (∀ x27 : Int32, x27 = sI σ17 b24 2 → (sK σ17 b1 = 3 ∧ (∀ x30 : Int32, x30 = sI σ17 b1 6 → (∀ x32 : Int32, x32 = sI σ17 b24 1 → (((x27 + x30) ≤ x32 → b_X8_hearStamped_107 a0  Q p1 σ17) ∧ (¬ (x27 + x30) ≤ x32 → (∃ b35 : Nat, sP σ17 a0 10 = some b35 ∧ (sK σ17 b35 = 5 ∧ (∀ x38 : Int32, x38 = sI σ17 b35 2 → (((8 : Int32) ≤ x38 → b_X8_hearStamped_107 a0  Q p1 σ17) ∧ (¬ (8 : Int32) ≤ x38 → (∀ x41 : Int32, x41 = sI σ17 b1 6 → (wp_X5_find b35 x41 σ17 (fun (x44 : Int32) (σ43 : Sto) => ((¬ x44 = (-1 : Int32) → b_X8_hearStamped_107 a0  Q p1 σ43) ∧ (x44 = (-1 : Int32) → b_X8_hearStamped_108 a0  Q p1 (1 : Int32) σ43))))))))))))))))))))))))))))) ∧ (¬ x7 ≤ x12 → (sK σ11 a0 = 8 ∧ (∀ y47 : Int64, y47 = sJ σ11 a0 5 → (wp_X11_leadOf y47 σ11 (fun (x50 : Int32) (σ49 : Sto) => (wp_X11_viewOf x50 x7 σ49 (fun (y52 : Int64) (σ51 : Sto) => (sK σ51 a0 = 8 ∧ (wp_X8_turn a0 y52 σ51 (fun (σ54 : Sto) => Q σ54))))))))))))))))))))
set_option maxHeartbeats 4000000 in
set_option maxRecDepth 100000 in
theorem c_X8_hearStamped (l : Launch) (D : va_G) (cy : Nat → ClassId) (a0 : Nat) (p1 : Option Nat) (σ : Sto) (Q : Sto → Prop) (h : wp_X8_hearStamped a0 p1 σ Q) : Mt l D cy yX8_hearStamped cX8_hearStamped 4 none rm_X8_hearStamped [.ref a0, va_rf p1] σ (PsV Q) := by
  unfold wp_X8_hearStamped at h
  refine mt_of (by decide +kernel) (by simp [lg_sl, vrc, cat_i, cat_r, cat_l]) ?_
  intro p e s m args below meth c A ls C hr hnm hl
  have C : Cx p s m args meth c D cy A cX8_hearStamped 4 RX8 := C
  have hl : lv_has ls 4 [(0, .ref a0), (1, va_rf p1)] := by simpa [lv_args, vrc, cat_i, cat_r, cat_l] using hl
  refine x_aload_nq C dX8_hearStamped_0 rfl (lv_at hl 1 rfl) ?_
  obtain ⟨b1, g2, h⟩ := h
  refine x_nn0 g2 ?_
  obtain ⟨g3, h⟩ := h
  refine x_getJ C fl_RX8_83 g3 dX8_hearStamped_1 ?_
  refine x_topj (fun y4 e5 => ?_)
  have h := h y4 e5
  refine x_callSN (rm := rm_X11_sessionOf) (rest := []) (As := [.long y4]) C csn_RX8_133 (by decide) (by decide) rfl rfl (Nat.le_of_ble_eq_true rfl) hl.1 dX8_hearStamped_4 (c_X11_sessionOf l D cy y4 σ _ h) (ks_i (fun x7 σ6 h => ?_))
  refine x_istore_n (i := 2) (lv' := [(2, .int x7), (0, .ref a0), (1, va_rf p1)]) C dX8_hearStamped_7 rfl hl (by decide) (by first | rfl | simp [vrc, cat_i, cat_r, cat_l]) (fun ls hl => ?_)
  refine x_iload_n C dX8_hearStamped_8 rfl (lv_at hl 0 rfl) ?_
  refine x_aload_n C dX8_hearStamped_9 rfl (lv_at hl 1 rfl) ?_
  obtain ⟨g8, h⟩ := h
  refine x_getJ C fl_RX8_13 g8 dX8_hearStamped_10 ?_
  refine x_topj (fun y9 e10 => ?_)
  have h := h y9 e10
  refine x_callSN (rm := rm_X11_sessionOf) (rest := [.int x7]) (As := [.long y9]) C csn_RX8_133 (by decide) (by decide) rfl rfl (Nat.le_of_ble_eq_true rfl) hl.1 dX8_hearStamped_13 (c_X11_sessionOf l D cy y9 σ6 _ h) (ks_i (fun x12 σ11 h => ?_))
  refine x_icmp_le (tgt := 35) C dX8_hearStamped_16 (by decide) (fun c13 => ?_) (fun c13 => ?_)
  · have h := h.1 c13
    refine x_iload_n C dX8_hearStamped_35 rfl (lv_at hl 0 rfl) ?_
    refine x_aload_n C dX8_hearStamped_36 rfl (lv_at hl 1 rfl) ?_
    obtain ⟨g14, h⟩ := h
    refine x_getJ C fl_RX8_13 g14 dX8_hearStamped_37 ?_
    refine x_topj (fun y15 e16 => ?_)
    have h := h y15 e16
    refine x_callSN (rm := rm_X11_sessionOf) (rest := [.int x7]) (As := [.long y15]) C csn_RX8_133 (by decide) (by decide) rfl rfl (Nat.le_of_ble_eq_true rfl) hl.1 dX8_hearStamped_40 (c_X11_sessionOf l D cy y15 σ11 _ h) (ks_i (fun x18 σ17 h => ?_))
    refine x_icmp_ne (tgt := 107) C dX8_hearStamped_43 (by decide) (fun c19 => ?_) (fun c19 => ?_)
    · have h := h.1 c19
      exact t_X8_hearStamped_107 C hr hnm  p1 _ h ls (lv_sub hl [1, 2] rfl)
    · have h := h.2 c19
      refine x_aload_n C dX8_hearStamped_46 rfl (lv_at hl 1 rfl) ?_
      obtain ⟨g20, h⟩ := h
      refine x_getI C fl_RX8_63 g20 dX8_hearStamped_47 ?_
      refine x_topi (fun x21 e22 => ?_)
      have h := h x21 e22
      refine x_iconst (v := 2) C dX8_hearStamped_50 (by decide) ?_
      refine x_icmp_eq (tgt := 107) C dX8_hearStamped_51 (by decide) (fun c23 => ?_) (fun c23 => ?_)
      · have h := h.1 c23
        exact t_X8_hearStamped_107 C hr hnm  p1 _ h ls (lv_sub hl [1, 2] rfl)
      · have h := h.2 c23
        refine x_aload_n C dX8_hearStamped_54 rfl (lv_at hl 1 rfl) ?_
        refine x_getP C fl_RX8_25 g20 dX8_hearStamped_55 ?_
        obtain ⟨b24, g25, h⟩ := h
        refine x_nn0 g25 ?_
        obtain ⟨g26, h⟩ := h
        refine x_getI C fl_RX8_142 g26 dX8_hearStamped_58 ?_
        refine x_topi (fun x27 e28 => ?_)
        have h := h x27 e28
        refine x_aload_nq C dX8_hearStamped_61 rfl (lv_at hl 2 rfl) ?_
        refine x_nn0 g2 ?_
        obtain ⟨g29, h⟩ := h
        refine x_getI C fl_RX8_107 g29 dX8_hearStamped_62 ?_
        refine x_topi (fun x30 e31 => ?_)
        have h := h x30 e31
        refine x_iadd C dX8_hearStamped_65 ?_
        refine x_aload_n C dX8_hearStamped_66 rfl (lv_at hl 1 rfl) ?_
        refine x_getP C fl_RX8_25 g20 dX8_hearStamped_67 ?_
        refine x_nn0 g25 ?_
        refine x_getI C fl_RX8_66 g26 dX8_hearStamped_70 ?_
        refine x_topi (fun x32 e33 => ?_)
        have h := h x32 e33
        refine x_icmp_le (tgt := 107) C dX8_hearStamped_73 (by decide) (fun c34 => ?_) (fun c34 => ?_)
        · have h := h.1 c34
          exact t_X8_hearStamped_107 C hr hnm  p1 _ h ls (lv_sub hl [1, 2] rfl)
        · have h := h.2 c34
          refine x_aload_n C dX8_hearStamped_76 rfl (lv_at hl 1 rfl) ?_
          refine x_getP C fl_RX8_51 g20 dX8_hearStamped_77 ?_
          obtain ⟨b35, g36, h⟩ := h
          refine x_nn0 g36 ?_
          obtain ⟨g37, h⟩ := h
          refine x_getI C fl_RX8_145 g37 dX8_hearStamped_80 ?_
          refine x_topi (fun x38 e39 => ?_)
          have h := h x38 e39
          refine x_bipush (v := 8) C dX8_hearStamped_83 (by decide) ?_
          refine x_icmp_ge (tgt := 107) C dX8_hearStamped_85 (by decide) (fun c40 => ?_) (fun c40 => ?_)
          · have h := h.1 c40
            exact t_X8_hearStamped_107 C hr hnm  p1 _ h ls (lv_sub hl [1, 2] rfl)
          · have h := h.2 c40
            refine x_aload_n C dX8_hearStamped_88 rfl (lv_at hl 1 rfl) ?_
            refine x_getP C fl_RX8_51 g20 dX8_hearStamped_89 ?_
            refine x_aload_nq C dX8_hearStamped_92 rfl (lv_at hl 2 rfl) ?_
            refine x_nn0 g2 ?_
            refine x_getI C fl_RX8_107 g29 dX8_hearStamped_93 ?_
            refine x_topi (fun x41 e42 => ?_)
            have h := h x41 e42
            refine x_nn1 g36 ?_
            refine x_callV (rm := rm_X5_find) (rest := []) (As := [.int x41]) C cy_RX8_148 g37 (by decide) (by decide) rfl rfl (Nat.le_of_ble_eq_true rfl) hl.1 dX8_hearStamped_96 (c_X5_find l D cy b35 x41 σ17 _ h) (ks_i (fun x44 σ43 h => ?_))
            refine x_iconst (v := -1) C dX8_hearStamped_99 (by decide) ?_
            refine x_icmp_ne (tgt := 107) C dX8_hearStamped_100 (by decide) (fun c45 => ?_) (fun c45 => ?_)
            · have h := h.1 c45
              exact t_X8_hearStamped_107 C hr hnm  p1 _ h ls (lv_sub hl [1, 2] rfl)
            · have h := h.2 c45
              refine x_iconst (v := 1) C dX8_hearStamped_103 (by decide) ?_
              refine x_goto (tgt := 108) C dX8_hearStamped_104 (by decide) ?_
              exact t_X8_hearStamped_108 C hr hnm  p1 (1 : Int32) _ h ls (lv_sub hl [1, 2] rfl)
  · have h := h.2 c13
    refine x_aload_n C dX8_hearStamped_19 rfl (lv_at hl 1 rfl) ?_
    refine x_aload_n C dX8_hearStamped_20 rfl (lv_at hl 1 rfl) ?_
    obtain ⟨g46, h⟩ := h
    refine x_getJ C fl_RX8_13 g46 dX8_hearStamped_21 ?_
    refine x_topj (fun y47 e48 => ?_)
    have h := h y47 e48
    refine x_callSN (rm := rm_X11_leadOf) (rest := [.ref a0]) (As := [.long y47]) C csn_RX8_136 (by decide) (by decide) rfl rfl (Nat.le_of_ble_eq_true rfl) hl.1 dX8_hearStamped_24 (c_X11_leadOf l D cy y47 σ11 _ h) (ks_i (fun x50 σ49 h => ?_))
    refine x_iload_n C dX8_hearStamped_27 rfl (lv_at hl 0 rfl) ?_
    refine x_callSN (rm := rm_X11_viewOf) (rest := [.ref a0]) (As := [.int x50, .int x7]) C csn_RX8_9 (by decide) (by decide) rfl rfl (Nat.le_of_ble_eq_true rfl) hl.1 dX8_hearStamped_28 (c_X11_viewOf l D cy x50 x7 σ49 _ h) (ks_j (fun y52 σ51 h => ?_))
    obtain ⟨g53, h⟩ := h
    refine x_callV (rm := rm_X8_turn) (rest := []) (As := [.long y52]) C cy_RX8_139 g53 (by decide) (by decide) rfl rfl (Nat.le_of_ble_eq_true rfl) hl.1 dX8_hearStamped_31 (c_X8_turn l D cy a0 y52 σ51 _ h) (ks_v (fun σ54 h => ?_))
    exact x_vret C hr dX8_hearStamped_34 ⟨rfl, h⟩
theorem dX8_hearLookup_0 : decode cX8_hearLookup 0 = .ok (.aload_n 0, 1) := by decide +kernel
theorem dX8_hearLookup_1 : decode cX8_hearLookup 1 = .ok (.invokevirtual 59, 3) := by decide +kernel
theorem dX8_hearLookup_4 : decode cX8_hearLookup 4 = .ok (.ifCond .eq 25, 3) := by decide +kernel
theorem dX8_hearLookup_7 : decode cX8_hearLookup 7 = .ok (.aload_n 0, 1) := by decide +kernel
theorem dX8_hearLookup_8 : decode cX8_hearLookup 8 = .ok (.getfield 63, 3) := by decide +kernel
theorem dX8_hearLookup_11 : decode cX8_hearLookup 11 = .ok (.iconst 2, 1) := by decide +kernel
theorem dX8_hearLookup_12 : decode cX8_hearLookup 12 = .ok (.if_icmp .eq 17, 3) := by decide +kernel
theorem dX8_hearLookup_15 : decode cX8_hearLookup 15 = .ok (.aload_n 0, 1) := by decide +kernel
theorem dX8_hearLookup_16 : decode cX8_hearLookup 16 = .ok (.getfield 25, 3) := by decide +kernel
theorem dX8_hearLookup_19 : decode cX8_hearLookup 19 = .ok (.aload_n 1, 1) := by decide +kernel
theorem dX8_hearLookup_20 : decode cX8_hearLookup 20 = .ok (.getfield 107, 3) := by decide +kernel
theorem dX8_hearLookup_23 : decode cX8_hearLookup 23 = .ok (.invokevirtual 163, 3) := by decide +kernel
theorem dX8_hearLookup_26 : decode cX8_hearLookup 26 = .ok (.ifCond .ne 4, 3) := by decide +kernel
theorem dX8_hearLookup_29 : decode cX8_hearLookup 29 = .ok (.return_, 1) := by decide +kernel
theorem dX8_hearLookup_30 : decode cX8_hearLookup 30 = .ok (.aload_n 0, 1) := by decide +kernel
theorem dX8_hearLookup_31 : decode cX8_hearLookup 31 = .ok (.getfield 25, 3) := by decide +kernel
theorem dX8_hearLookup_34 : decode cX8_hearLookup 34 = .ok (.aload_n 1, 1) := by decide +kernel
theorem dX8_hearLookup_35 : decode cX8_hearLookup 35 = .ok (.getfield 107, 3) := by decide +kernel
theorem dX8_hearLookup_38 : decode cX8_hearLookup 38 = .ok (.invokevirtual 167, 3) := by decide +kernel
theorem dX8_hearLookup_41 : decode cX8_hearLookup 41 = .ok (.astore_n 2, 1) := by decide +kernel
theorem dX8_hearLookup_42 : decode cX8_hearLookup 42 = .ok (.aload_n 2, 1) := by decide +kernel
theorem dX8_hearLookup_43 : decode cX8_hearLookup 43 = .ok (.ifnonnull 7, 3) := by decide +kernel
theorem dX8_hearLookup_46 : decode cX8_hearLookup 46 = .ok (.iconst 3, 1) := by decide +kernel
theorem dX8_hearLookup_47 : decode cX8_hearLookup 47 = .ok (.goto 4, 3) := by decide +kernel
theorem dX8_hearLookup_50 : decode cX8_hearLookup 50 = .ok (.iconst 2, 1) := by decide +kernel
theorem dX8_hearLookup_51 : decode cX8_hearLookup 51 = .ok (.istore_n 3, 1) := by decide +kernel
theorem dX8_hearLookup_52 : decode cX8_hearLookup 52 = .ok (.aload_n 0, 1) := by decide +kernel
theorem dX8_hearLookup_53 : decode cX8_hearLookup 53 = .ok (.getfield 33, 3) := by decide +kernel
theorem dX8_hearLookup_56 : decode cX8_hearLookup 56 = .ok (.iload_n 3, 1) := by decide +kernel
theorem dX8_hearLookup_57 : decode cX8_hearLookup 57 = .ok (.aload_n 0, 1) := by decide +kernel
theorem dX8_hearLookup_58 : decode cX8_hearLookup 58 = .ok (.getfield 29, 3) := by decide +kernel
theorem dX8_hearLookup_61 : decode cX8_hearLookup 61 = .ok (.aload_n 1, 1) := by decide +kernel
theorem dX8_hearLookup_62 : decode cX8_hearLookup 62 = .ok (.getfield 84, 3) := by decide +kernel
theorem dX8_hearLookup_65 : decode cX8_hearLookup 65 = .ok (.aload_n 0, 1) := by decide +kernel
theorem dX8_hearLookup_66 : decode cX8_hearLookup 66 = .ok (.getfield 13, 3) := by decide +kernel
theorem dX8_hearLookup_69 : decode cX8_hearLookup 69 = .ok (.aload_n 1, 1) := by decide +kernel
theorem dX8_hearLookup_70 : decode cX8_hearLookup 70 = .ok (.getfield 107, 3) := by decide +kernel
theorem dX8_hearLookup_73 : decode cX8_hearLookup 73 = .ok (.invokevirtual 171, 3) := by decide +kernel
theorem dX8_hearLookup_76 : decode cX8_hearLookup 76 = .ok (.aload_n 2, 1) := by decide +kernel
theorem dX8_hearLookup_77 : decode cX8_hearLookup 77 = .ok (.putfield 152, 3) := by decide +kernel
theorem dX8_hearLookup_80 : decode cX8_hearLookup 80 = .ok (.return_, 1) := by decide +kernel
abbrev rm_X8_hearLookup : Room := { frames := 3, cells := 0, slots := 0, locals := 64 }
def b_X8_hearLookup_51 (a0 : Nat)  (Q : Sto → Prop) (p1 : Option Nat) (p2 : Option Nat) (s0 : Int32) (σ : Sto) : Prop := (sK σ a0 = 8 ∧ (∀ x2 : Int32, x2 = sI σ a0 0 → (∃ b4 : Nat, p1 = some b4 ∧ (sK σ b4 = 3 ∧ (∀ x7 : Int32, x7 = sI σ b4 2 → (∀ y9 : Int64, y9 = sJ σ a0 5 → (∀ x11 : Int32, x11 = sI σ b4 6 → (∃ b13 : Nat, sP σ a0 1 = some b13 ∧ (sK σ b13 = 4 ∧ (wp_X4_send b13 s0 x2 x7 y9 x11 σ (fun (r17 : Option Nat) (σ16 : Sto) => (∃ b18 : Nat, r17 = some b18 ∧ (sK σ16 b18 = 3 ∧ Q (stP σ16 b18 7 p2))))))))))))))
set_option maxHeartbeats 4000000 in
set_option maxRecDepth 100000 in
theorem t_X8_hearLookup_51 {p : Program} {l : Launch} {e : Env} {s : State} {m : MethodId} {args : Array Value} {below : List Frame} {meth : Method} {c : Code} {D : va_G} {cy : Nat → ClassId} {A : Nat → Prop} {a0 : Nat} {Q : Sto → Prop} (C : Cx p s m args meth c D cy A cX8_hearLookup 4 RX8) (hr : meth.sig.returnType = none) (hnm : meth.name = yX8_hearLookup.name) (p1 : Option Nat) (p2 : Option Nat) (s0 : Int32) (σ : Sto) (h : b_X8_hearLookup_51 a0  Q p1 p2 s0 σ) (ls : Array Slot) (hl : lv_has ls 4 [(0, .ref a0), (1, va_rf p1), (2, va_rf p2)]) : Xw p l e rm_X8_hearLookup s m args below meth c D cy A σ 0 0 (MQ below (Qst D cy A (PsV Q)) args s rm_X8_hearLookup.cells rm_X8_hearLookup.slots A) (F0 m 51 ls [.int s0]) := by
  unfold b_X8_hearLookup_51 at h
  refine x_istore_n (i := 3) (lv' := [(3, .int s0), (0, .ref a0), (1, va_rf p1), (2, va_rf p2)]) C dX8_hearLookup_51 rfl hl (by decide) (by first | rfl | simp [vrc, cat_i, cat_r, cat_l]) (fun ls hl => ?_)
  refine x_aload_n C dX8_hearLookup_52 rfl (lv_at hl 1 rfl) ?_
  obtain ⟨g1, h⟩ := h
  refine x_getP C fl_RX8_33 g1 dX8_hearLookup_53 ?_
  refine x_iload_n C dX8_hearLookup_56 rfl (lv_at hl 0 rfl) ?_
  refine x_aload_n C dX8_hearLookup_57 rfl (lv_at hl 1 rfl) ?_
  refine x_getI C fl_RX8_29 g1 dX8_hearLookup_58 ?_
  refine x_topi (fun x2 e3 => ?_)
  have h := h x2 e3
  refine x_aload_nq C dX8_hearLookup_61 rfl (lv_at hl 2 rfl) ?_
  obtain ⟨b4, g5, h⟩ := h
  refine x_nn0 g5 ?_
  obtain ⟨g6, h⟩ := h
  refine x_getI C fl_RX8_84 g6 dX8_hearLookup_62 ?_
  refine x_topi (fun x7 e8 => ?_)
  have h := h x7 e8
  refine x_aload_n C dX8_hearLookup_65 rfl (lv_at hl 1 rfl) ?_
  refine x_getJ C fl_RX8_13 g1 dX8_hearLookup_66 ?_
  refine x_topj (fun y9 e10 => ?_)
  have h := h y9 e10
  refine x_aload_nq C dX8_hearLookup_69 rfl (lv_at hl 2 rfl) ?_
  refine x_nn0 g5 ?_
  refine x_getI C fl_RX8_107 g6 dX8_hearLookup_70 ?_
  refine x_topi (fun x11 e12 => ?_)
  have h := h x11 e12
  obtain ⟨b13, g14, h⟩ := h
  refine x_nn5 g14 ?_
  obtain ⟨g15, h⟩ := h
  refine x_callV (rm := rm_X4_send) (rest := []) (As := [.int s0, .int x2, .int x7, .long y9, .int x11]) C cy_RX8_171 g15 (by decide) (by decide) rfl rfl (Nat.le_of_ble_eq_true rfl) hl.1 dX8_hearLookup_73 (c_X4_send l D cy b13 s0 x2 x7 y9 x11 σ _ h) (ks_p (fun r17 σ16 h => ?_))
  refine x_aload_nq C dX8_hearLookup_76 rfl (lv_at hl 3 rfl) ?_
  obtain ⟨b18, g19, h⟩ := h
  refine x_nn1 g19 ?_
  obtain ⟨g20, h⟩ := h
  refine x_putP C fl_RX8_152 (rty_o _) (Or.inl rfl) g20 dX8_hearLookup_77 ?_
  exact x_vret C hr dX8_hearLookup_80 ⟨rfl, h⟩
def wp_X8_hearLookup (a0 : Nat) (p1 : Option Nat) (σ : Sto) (Q : Sto → Prop) : Prop := (sK σ a0 = 8 ∧ (wp_X8_leads a0  σ (fun (x3 : Int32) (σ2 : Sto) => ((x3 = 0 → Q σ2) ∧ (¬ x3 = 0 → (sK σ2 a0 = 8 ∧ (∀ x6 : Int32, x6 = sI σ2 a0 4 → ((x6 = (2 : Int32) → Q σ2) ∧ (¬ x6 = (2 : Int32) → (∃ b9 : Nat, p1 = some b9 ∧ (sK σ2 b9 = 3 ∧ (∀ x12 : Int32, x12 = sI σ2 b9 6 → (∃ b14 : Nat, sP σ2 a0 7 = some b14 ∧ (sK σ2 b14 = 2 ∧ (wp_X2_has b14 x12 σ2 (fun (x18 : Int32) (σ17 : Sto) => ((¬ x18 = 0 → (sK σ17 a0 = 8 ∧ (sK σ17 b9 = 3 ∧ (∀ x22 : Int32, x22 = sI σ17 b9 6 → (∃ b24 : Nat, sP σ17 a0 7 = some b24 ∧ (sK σ17 b24 = 2 ∧ (wp_X2_at b24 x22 σ17 (fun (r28 : Option Nat) (σ27 : Sto) => ((r28 = none → b_X8_hearLookup_51 a0  Q p1 r28 (3 : Int32) σ27) ∧ (∀ b30 : Nat, r28 = some b30 → b_X8_hearLookup_51 a0  Q p1 r28 (2 : Int32) σ27)))))))))) ∧ (x18 = 0 → Q σ17))))))))))))))))))
set_option maxHeartbeats 4000000 in
set_option maxRecDepth 100000 in
theorem c_X8_hearLookup (l : Launch) (D : va_G) (cy : Nat → ClassId) (a0 : Nat) (p1 : Option Nat) (σ : Sto) (Q : Sto → Prop) (h : wp_X8_hearLookup a0 p1 σ Q) : Mt l D cy yX8_hearLookup cX8_hearLookup 4 none rm_X8_hearLookup [.ref a0, va_rf p1] σ (PsV Q) := by
  unfold wp_X8_hearLookup at h
  refine mt_of (by decide +kernel) (by simp [lg_sl, vrc, cat_i, cat_r, cat_l]) ?_
  intro p e s m args below meth c A ls C hr hnm hl
  have C : Cx p s m args meth c D cy A cX8_hearLookup 4 RX8 := C
  have hl : lv_has ls 4 [(0, .ref a0), (1, va_rf p1)] := by simpa [lv_args, vrc, cat_i, cat_r, cat_l] using hl
  refine x_aload_n C dX8_hearLookup_0 rfl (lv_at hl 0 rfl) ?_
  obtain ⟨g1, h⟩ := h
  refine x_callV (rm := rm_X8_leads) (rest := []) (As := []) C cy_RX8_59 g1 (by decide) (by decide) rfl rfl (Nat.le_of_ble_eq_true rfl) hl.1 dX8_hearLookup_1 (c_X8_leads l D cy a0  σ _ h) (ks_i (fun x3 σ2 h => ?_))
  refine x_if_eq (tgt := 29) C dX8_hearLookup_4 (by decide) (fun c4 => ?_) (fun c4 => ?_)
  · have h := h.1 c4
    exact x_vret C hr dX8_hearLookup_29 ⟨rfl, h⟩
  · have h := h.2 c4
    refine x_aload_n C dX8_hearLookup_7 rfl (lv_at hl 0 rfl) ?_
    obtain ⟨g5, h⟩ := h
    refine x_getI C fl_RX8_63 g5 dX8_hearLookup_8 ?_
    refine x_topi (fun x6 e7 => ?_)
    have h := h x6 e7
    refine x_iconst (v := 2) C dX8_hearLookup_11 (by decide) ?_
    refine x_icmp_eq (tgt := 29) C dX8_hearLookup_12 (by decide) (fun c8 => ?_) (fun c8 => ?_)
    · have h := h.1 c8
      exact x_vret C hr dX8_hearLookup_29 ⟨rfl, h⟩
    · have h := h.2 c8
      refine x_aload_n C dX8_hearLookup_15 rfl (lv_at hl 0 rfl) ?_
      refine x_getP C fl_RX8_25 g5 dX8_hearLookup_16 ?_
      refine x_aload_nq C dX8_hearLookup_19 rfl (lv_at hl 1 rfl) ?_
      obtain ⟨b9, g10, h⟩ := h
      refine x_nn0 g10 ?_
      obtain ⟨g11, h⟩ := h
      refine x_getI C fl_RX8_107 g11 dX8_hearLookup_20 ?_
      refine x_topi (fun x12 e13 => ?_)
      have h := h x12 e13
      obtain ⟨b14, g15, h⟩ := h
      refine x_nn1 g15 ?_
      obtain ⟨g16, h⟩ := h
      refine x_callV (rm := rm_X2_has) (rest := []) (As := [.int x12]) C cy_RX8_163 g16 (by decide) (by decide) rfl rfl (Nat.le_of_ble_eq_true rfl) hl.1 dX8_hearLookup_23 (c_X2_has l D cy b14 x12 σ2 _ h) (ks_i (fun x18 σ17 h => ?_))
      refine x_if_ne (tgt := 30) C dX8_hearLookup_26 (by decide) (fun c19 => ?_) (fun c19 => ?_)
      · have h := h.1 c19
        refine x_aload_n C dX8_hearLookup_30 rfl (lv_at hl 0 rfl) ?_
        obtain ⟨g20, h⟩ := h
        refine x_getP C fl_RX8_25 g20 dX8_hearLookup_31 ?_
        refine x_aload_nq C dX8_hearLookup_34 rfl (lv_at hl 1 rfl) ?_
        refine x_nn0 g10 ?_
        obtain ⟨g21, h⟩ := h
        refine x_getI C fl_RX8_107 g21 dX8_hearLookup_35 ?_
        refine x_topi (fun x22 e23 => ?_)
        have h := h x22 e23
        obtain ⟨b24, g25, h⟩ := h
        refine x_nn1 g25 ?_
        obtain ⟨g26, h⟩ := h
        refine x_callV (rm := rm_X2_at) (rest := []) (As := [.int x22]) C cy_RX8_167 g26 (by decide) (by decide) rfl rfl (Nat.le_of_ble_eq_true rfl) hl.1 dX8_hearLookup_38 (c_X2_at l D cy b24 x22 σ17 _ h) (ks_p (fun r28 σ27 h => ?_))
        refine x_astore_nq (i := 2) (lv' := [(2, va_rf r28), (0, .ref a0), (1, va_rf p1)]) C dX8_hearLookup_41 rfl hl (by decide) (by first | rfl | simp [vrc, cat_i, cat_r, cat_l]) (fun ls hl => ?_)
        refine x_aload_nq C dX8_hearLookup_42 rfl (lv_at hl 0 rfl) ?_
        refine x_ifnonnull (tgt := 50) C dX8_hearLookup_43 (by decide) (fun c29 => ?_) (fun c29 => ?_)
        · obtain ⟨b30, g31⟩ := Option.ne_none_iff_exists'.mp c29
          have h := h.2 b30 g31
          refine x_iconst (v := 2) C dX8_hearLookup_50 (by decide) ?_
          exact t_X8_hearLookup_51 C hr hnm  p1 r28 (2 : Int32) _ h ls (lv_sub hl [1, 2, 0] rfl)
        · have h := h.1 c29
          refine x_iconst (v := 3) C dX8_hearLookup_46 (by decide) ?_
          refine x_goto (tgt := 51) C dX8_hearLookup_47 (by decide) ?_
          exact t_X8_hearLookup_51 C hr hnm  p1 r28 (3 : Int32) _ h ls (lv_sub hl [1, 2, 0] rfl)
      · have h := h.2 c19
        exact x_vret C hr dX8_hearLookup_29 ⟨rfl, h⟩
theorem dX8_hearFound_0 : decode cX8_hearFound 0 = .ok (.aload_n 0, 1) := by decide +kernel
theorem dX8_hearFound_1 : decode cX8_hearFound 1 = .ok (.getfield 63, 3) := by decide +kernel
theorem dX8_hearFound_4 : decode cX8_hearFound 4 = .ok (.ifCond .ne 46, 3) := by decide +kernel
theorem dX8_hearFound_7 : decode cX8_hearFound 7 = .ok (.aload_n 1, 1) := by decide +kernel
theorem dX8_hearFound_8 : decode cX8_hearFound 8 = .ok (.getfield 107, 3) := by decide +kernel
theorem dX8_hearFound_11 : decode cX8_hearFound 11 = .ok (.aload_n 0, 1) := by decide +kernel
theorem dX8_hearFound_12 : decode cX8_hearFound 12 = .ok (.getfield 25, 3) := by decide +kernel
theorem dX8_hearFound_15 : decode cX8_hearFound 15 = .ok (.getfield 66, 3) := by decide +kernel
theorem dX8_hearFound_18 : decode cX8_hearFound 18 = .ok (.iconst 1, 1) := by decide +kernel
theorem dX8_hearFound_19 : decode cX8_hearFound 19 = .ok (.iadd, 1) := by decide +kernel
theorem dX8_hearFound_20 : decode cX8_hearFound 20 = .ok (.if_icmp .ne 30, 3) := by decide +kernel
theorem dX8_hearFound_23 : decode cX8_hearFound 23 = .ok (.aload_n 0, 1) := by decide +kernel
theorem dX8_hearFound_24 : decode cX8_hearFound 24 = .ok (.getfield 51, 3) := by decide +kernel
theorem dX8_hearFound_27 : decode cX8_hearFound 27 = .ok (.aload_n 1, 1) := by decide +kernel
theorem dX8_hearFound_28 : decode cX8_hearFound 28 = .ok (.getfield 107, 3) := by decide +kernel
theorem dX8_hearFound_31 : decode cX8_hearFound 31 = .ok (.aload_n 0, 1) := by decide +kernel
theorem dX8_hearFound_32 : decode cX8_hearFound 32 = .ok (.getfield 25, 3) := by decide +kernel
theorem dX8_hearFound_35 : decode cX8_hearFound 35 = .ok (.getfield 142, 3) := by decide +kernel
theorem dX8_hearFound_38 : decode cX8_hearFound 38 = .ok (.isub, 1) := by decide +kernel
theorem dX8_hearFound_39 : decode cX8_hearFound 39 = .ok (.aload_n 1, 1) := by decide +kernel
theorem dX8_hearFound_40 : decode cX8_hearFound 40 = .ok (.getfield 152, 3) := by decide +kernel
theorem dX8_hearFound_43 : decode cX8_hearFound 43 = .ok (.invokevirtual 156, 3) := by decide +kernel
theorem dX8_hearFound_46 : decode cX8_hearFound 46 = .ok (.aload_n 0, 1) := by decide +kernel
theorem dX8_hearFound_47 : decode cX8_hearFound 47 = .ok (.invokevirtual 160, 3) := by decide +kernel
theorem dX8_hearFound_50 : decode cX8_hearFound 50 = .ok (.return_, 1) := by decide +kernel
abbrev rm_X8_hearFound : Room := { frames := 4, cells := 0, slots := 0, locals := 87 }
def wp_X8_hearFound (a0 : Nat) (p1 : Option Nat) (σ : Sto) (Q : Sto → Prop) : Prop := (sK σ a0 = 8 ∧ (∀ x2 : Int32, x2 = sI σ a0 4 → ((¬ x2 = 0 → Q σ) ∧ (x2 = 0 → (∃ b5 : Nat, p1 = some b5 ∧ (sK σ b5 = 3 ∧ (∀ x8 : Int32, x8 = sI σ b5 6 → (∃ b10 : Nat, sP σ a0 7 = some b10 ∧ (sK σ b10 = 2 ∧ (∀ x13 : Int32, x13 = sI σ b10 1 → ((¬ x8 = (x13 + (1 : Int32)) → Q σ) ∧ (x8 = (x13 + (1 : Int32)) → (∀ x16 : Int32, x16 = sI σ b5 6 → (∀ x18 : Int32, x18 = sI σ b10 2 → (∃ b20 : Nat, sP σ a0 10 = some b20 ∧ (sK σ b20 = 5 ∧ (wp_X5_hold b20 (x16 - x18) (sP σ b5 7) σ (fun (σ23 : Sto) => (sK σ23 a0 = 8 ∧ (wp_X8_takeHeld a0  σ23 (fun (σ25 : Sto) => Q σ25)))))))))))))))))))))
set_option maxHeartbeats 4000000 in
set_option maxRecDepth 100000 in
theorem c_X8_hearFound (l : Launch) (D : va_G) (cy : Nat → ClassId) (a0 : Nat) (p1 : Option Nat) (σ : Sto) (Q : Sto → Prop) (h : wp_X8_hearFound a0 p1 σ Q) : Mt l D cy yX8_hearFound cX8_hearFound 2 none rm_X8_hearFound [.ref a0, va_rf p1] σ (PsV Q) := by
  unfold wp_X8_hearFound at h
  refine mt_of (by decide +kernel) (by simp [lg_sl, vrc, cat_i, cat_r, cat_l]) ?_
  intro p e s m args below meth c A ls C hr hnm hl
  have C : Cx p s m args meth c D cy A cX8_hearFound 2 RX8 := C
  have hl : lv_has ls 2 [(0, .ref a0), (1, va_rf p1)] := by simpa [lv_args, vrc, cat_i, cat_r, cat_l] using hl
  refine x_aload_n C dX8_hearFound_0 rfl (lv_at hl 0 rfl) ?_
  obtain ⟨g1, h⟩ := h
  refine x_getI C fl_RX8_63 g1 dX8_hearFound_1 ?_
  refine x_topi (fun x2 e3 => ?_)
  have h := h x2 e3
  refine x_if_ne (tgt := 50) C dX8_hearFound_4 (by decide) (fun c4 => ?_) (fun c4 => ?_)
  · have h := h.1 c4
    exact x_vret C hr dX8_hearFound_50 ⟨rfl, h⟩
  · have h := h.2 c4
    refine x_aload_nq C dX8_hearFound_7 rfl (lv_at hl 1 rfl) ?_
    obtain ⟨b5, g6, h⟩ := h
    refine x_nn0 g6 ?_
    obtain ⟨g7, h⟩ := h
    refine x_getI C fl_RX8_107 g7 dX8_hearFound_8 ?_
    refine x_topi (fun x8 e9 => ?_)
    have h := h x8 e9
    refine x_aload_n C dX8_hearFound_11 rfl (lv_at hl 0 rfl) ?_
    refine x_getP C fl_RX8_25 g1 dX8_hearFound_12 ?_
    obtain ⟨b10, g11, h⟩ := h
    refine x_nn0 g11 ?_
    obtain ⟨g12, h⟩ := h
    refine x_getI C fl_RX8_66 g12 dX8_hearFound_15 ?_
    refine x_topi (fun x13 e14 => ?_)
    have h := h x13 e14
    refine x_iconst (v := 1) C dX8_hearFound_18 (by decide) ?_
    refine x_iadd C dX8_hearFound_19 ?_
    refine x_icmp_ne (tgt := 50) C dX8_hearFound_20 (by decide) (fun c15 => ?_) (fun c15 => ?_)
    · have h := h.1 c15
      exact x_vret C hr dX8_hearFound_50 ⟨rfl, h⟩
    · have h := h.2 c15
      refine x_aload_n C dX8_hearFound_23 rfl (lv_at hl 0 rfl) ?_
      refine x_getP C fl_RX8_51 g1 dX8_hearFound_24 ?_
      refine x_aload_nq C dX8_hearFound_27 rfl (lv_at hl 1 rfl) ?_
      refine x_nn0 g6 ?_
      refine x_getI C fl_RX8_107 g7 dX8_hearFound_28 ?_
      refine x_topi (fun x16 e17 => ?_)
      have h := h x16 e17
      refine x_aload_n C dX8_hearFound_31 rfl (lv_at hl 0 rfl) ?_
      refine x_getP C fl_RX8_25 g1 dX8_hearFound_32 ?_
      refine x_nn0 g11 ?_
      refine x_getI C fl_RX8_142 g12 dX8_hearFound_35 ?_
      refine x_topi (fun x18 e19 => ?_)
      have h := h x18 e19
      refine x_isub C dX8_hearFound_38 ?_
      refine x_aload_nq C dX8_hearFound_39 rfl (lv_at hl 1 rfl) ?_
      refine x_nn0 g6 ?_
      refine x_getP C fl_RX8_152 g7 dX8_hearFound_40 ?_
      obtain ⟨b20, g21, h⟩ := h
      refine x_nn2 g21 ?_
      obtain ⟨g22, h⟩ := h
      refine x_callV (rm := rm_X5_hold) (rest := []) (As := [.int (x16 - x18), va_rf (sP σ b5 7)]) C cy_RX8_156 g22 (by decide) (by decide) rfl rfl (Nat.le_of_ble_eq_true rfl) hl.1 dX8_hearFound_43 (c_X5_hold l D cy b20 (x16 - x18) (sP σ b5 7) σ _ h) (ks_v (fun σ23 h => ?_))
      refine x_aload_n C dX8_hearFound_46 rfl (lv_at hl 0 rfl) ?_
      obtain ⟨g24, h⟩ := h
      refine x_callV (rm := rm_X8_takeHeld) (rest := []) (As := []) C cy_RX8_160 g24 (by decide) (by decide) rfl rfl (Nat.le_of_ble_eq_true rfl) hl.1 dX8_hearFound_47 (c_X8_takeHeld l D cy a0  σ23 _ h) (ks_v (fun σ25 h => ?_))
      exact x_vret C hr dX8_hearFound_50 ⟨rfl, h⟩
theorem dX8_hearGapCommit_0 : decode cX8_hearGapCommit 0 = .ok (.iload_n 1, 1) := by decide +kernel
theorem dX8_hearGapCommit_1 : decode cX8_hearGapCommit 1 = .ok (.aload_n 0, 1) := by decide +kernel
theorem dX8_hearGapCommit_2 : decode cX8_hearGapCommit 2 = .ok (.getfield 25, 3) := by decide +kernel
theorem dX8_hearGapCommit_5 : decode cX8_hearGapCommit 5 = .ok (.getfield 66, 3) := by decide +kernel
theorem dX8_hearGapCommit_8 : decode cX8_hearGapCommit 8 = .ok (.iconst 1, 1) := by decide +kernel
theorem dX8_hearGapCommit_9 : decode cX8_hearGapCommit 9 = .ok (.iadd, 1) := by decide +kernel
theorem dX8_hearGapCommit_10 : decode cX8_hearGapCommit 10 = .ok (.if_icmp .ne 17, 3) := by decide +kernel
theorem dX8_hearGapCommit_13 : decode cX8_hearGapCommit 13 = .ok (.aload_n 0, 1) := by decide +kernel
theorem dX8_hearGapCommit_14 : decode cX8_hearGapCommit 14 = .ok (.getfield 25, 3) := by decide +kernel
theorem dX8_hearGapCommit_17 : decode cX8_hearGapCommit 17 = .ok (.invokevirtual 175, 3) := by decide +kernel
theorem dX8_hearGapCommit_20 : decode cX8_hearGapCommit 20 = .ok (.ifCond .ne 7, 3) := by decide +kernel
theorem dX8_hearGapCommit_23 : decode cX8_hearGapCommit 23 = .ok (.iconst 1, 1) := by decide +kernel
theorem dX8_hearGapCommit_24 : decode cX8_hearGapCommit 24 = .ok (.goto 4, 3) := by decide +kernel
theorem dX8_hearGapCommit_27 : decode cX8_hearGapCommit 27 = .ok (.iconst 0, 1) := by decide +kernel
theorem dX8_hearGapCommit_28 : decode cX8_hearGapCommit 28 = .ok (.istore_n 2, 1) := by decide +kernel
theorem dX8_hearGapCommit_29 : decode cX8_hearGapCommit 29 = .ok (.aload_n 0, 1) := by decide +kernel
theorem dX8_hearGapCommit_30 : decode cX8_hearGapCommit 30 = .ok (.invokevirtual 59, 3) := by decide +kernel
theorem dX8_hearGapCommit_33 : decode cX8_hearGapCommit 33 = .ok (.ifCond .ne 25, 3) := by decide +kernel
theorem dX8_hearGapCommit_36 : decode cX8_hearGapCommit 36 = .ok (.aload_n 0, 1) := by decide +kernel
theorem dX8_hearGapCommit_37 : decode cX8_hearGapCommit 37 = .ok (.getfield 63, 3) := by decide +kernel
theorem dX8_hearGapCommit_40 : decode cX8_hearGapCommit 40 = .ok (.ifCond .ne 18, 3) := by decide +kernel
theorem dX8_hearGapCommit_43 : decode cX8_hearGapCommit 43 = .ok (.iload_n 2, 1) := by decide +kernel
theorem dX8_hearGapCommit_44 : decode cX8_hearGapCommit 44 = .ok (.ifCond .ne 15, 3) := by decide +kernel
theorem dX8_hearGapCommit_47 : decode cX8_hearGapCommit 47 = .ok (.aload_n 0, 1) := by decide +kernel
theorem dX8_hearGapCommit_48 : decode cX8_hearGapCommit 48 = .ok (.getfield 25, 3) := by decide +kernel
theorem dX8_hearGapCommit_51 : decode cX8_hearGapCommit 51 = .ok (.iload_n 1, 1) := by decide +kernel
theorem dX8_hearGapCommit_52 : decode cX8_hearGapCommit 52 = .ok (.invokevirtual 163, 3) := by decide +kernel
theorem dX8_hearGapCommit_55 : decode cX8_hearGapCommit 55 = .ok (.ifCond .ne 4, 3) := by decide +kernel
theorem dX8_hearGapCommit_58 : decode cX8_hearGapCommit 58 = .ok (.return_, 1) := by decide +kernel
theorem dX8_hearGapCommit_59 : decode cX8_hearGapCommit 59 = .ok (.iload_n 2, 1) := by decide +kernel
theorem dX8_hearGapCommit_60 : decode cX8_hearGapCommit 60 = .ok (.ifCond .eq 31, 3) := by decide +kernel
theorem dX8_hearGapCommit_63 : decode cX8_hearGapCommit 63 = .ok (.aload_n 0, 1) := by decide +kernel
theorem dX8_hearGapCommit_64 : decode cX8_hearGapCommit 64 = .ok (.getfield 51, 3) := by decide +kernel
theorem dX8_hearGapCommit_67 : decode cX8_hearGapCommit 67 = .ok (.iload_n 1, 1) := by decide +kernel
theorem dX8_hearGapCommit_68 : decode cX8_hearGapCommit 68 = .ok (.aload_n 0, 1) := by decide +kernel
theorem dX8_hearGapCommit_69 : decode cX8_hearGapCommit 69 = .ok (.getfield 25, 3) := by decide +kernel
theorem dX8_hearGapCommit_72 : decode cX8_hearGapCommit 72 = .ok (.getfield 142, 3) := by decide +kernel
theorem dX8_hearGapCommit_75 : decode cX8_hearGapCommit 75 = .ok (.isub, 1) := by decide +kernel
theorem dX8_hearGapCommit_76 : decode cX8_hearGapCommit 76 = .ok (.invokevirtual 178, 3) := by decide +kernel
theorem dX8_hearGapCommit_79 : decode cX8_hearGapCommit 79 = .ok (.pop, 1) := by decide +kernel
theorem dX8_hearGapCommit_80 : decode cX8_hearGapCommit 80 = .ok (.aload_n 0, 1) := by decide +kernel
theorem dX8_hearGapCommit_81 : decode cX8_hearGapCommit 81 = .ok (.getfield 25, 3) := by decide +kernel
theorem dX8_hearGapCommit_84 : decode cX8_hearGapCommit 84 = .ok (.aconst_null, 1) := by decide +kernel
theorem dX8_hearGapCommit_85 : decode cX8_hearGapCommit 85 = .ok (.invokevirtual 181, 3) := by decide +kernel
theorem dX8_hearGapCommit_88 : decode cX8_hearGapCommit 88 = .ok (.goto 12, 3) := by decide +kernel
theorem dX8_hearGapCommit_91 : decode cX8_hearGapCommit 91 = .ok (.aload_n 0, 1) := by decide +kernel
theorem dX8_hearGapCommit_92 : decode cX8_hearGapCommit 92 = .ok (.getfield 25, 3) := by decide +kernel
theorem dX8_hearGapCommit_95 : decode cX8_hearGapCommit 95 = .ok (.iload_n 1, 1) := by decide +kernel
theorem dX8_hearGapCommit_96 : decode cX8_hearGapCommit 96 = .ok (.aconst_null, 1) := by decide +kernel
theorem dX8_hearGapCommit_97 : decode cX8_hearGapCommit 97 = .ok (.invokevirtual 185, 3) := by decide +kernel
theorem dX8_hearGapCommit_100 : decode cX8_hearGapCommit 100 = .ok (.aload_n 0, 1) := by decide +kernel
theorem dX8_hearGapCommit_101 : decode cX8_hearGapCommit 101 = .ok (.getfield 33, 3) := by decide +kernel
theorem dX8_hearGapCommit_104 : decode cX8_hearGapCommit 104 = .ok (.iconst 4, 1) := by decide +kernel
theorem dX8_hearGapCommit_105 : decode cX8_hearGapCommit 105 = .ok (.aload_n 0, 1) := by decide +kernel
theorem dX8_hearGapCommit_106 : decode cX8_hearGapCommit 106 = .ok (.getfield 29, 3) := by decide +kernel
theorem dX8_hearGapCommit_109 : decode cX8_hearGapCommit 109 = .ok (.aload_n 0, 1) := by decide +kernel
theorem dX8_hearGapCommit_110 : decode cX8_hearGapCommit 110 = .ok (.getfield 33, 3) := by decide +kernel
theorem dX8_hearGapCommit_113 : decode cX8_hearGapCommit 113 = .ok (.aload_n 0, 1) := by decide +kernel
theorem dX8_hearGapCommit_114 : decode cX8_hearGapCommit 114 = .ok (.getfield 13, 3) := by decide +kernel
theorem dX8_hearGapCommit_117 : decode cX8_hearGapCommit 117 = .ok (.invokevirtual 55, 3) := by decide +kernel
theorem dX8_hearGapCommit_120 : decode cX8_hearGapCommit 120 = .ok (.aload_n 0, 1) := by decide +kernel
theorem dX8_hearGapCommit_121 : decode cX8_hearGapCommit 121 = .ok (.getfield 13, 3) := by decide +kernel
theorem dX8_hearGapCommit_124 : decode cX8_hearGapCommit 124 = .ok (.iload_n 1, 1) := by decide +kernel
theorem dX8_hearGapCommit_125 : decode cX8_hearGapCommit 125 = .ok (.invokevirtual 171, 3) := by decide +kernel
theorem dX8_hearGapCommit_128 : decode cX8_hearGapCommit 128 = .ok (.pop, 1) := by decide +kernel
theorem dX8_hearGapCommit_129 : decode cX8_hearGapCommit 129 = .ok (.iload_n 2, 1) := by decide +kernel
theorem dX8_hearGapCommit_130 : decode cX8_hearGapCommit 130 = .ok (.ifCond .eq 7, 3) := by decide +kernel
theorem dX8_hearGapCommit_133 : decode cX8_hearGapCommit 133 = .ok (.aload_n 0, 1) := by decide +kernel
theorem dX8_hearGapCommit_134 : decode cX8_hearGapCommit 134 = .ok (.invokevirtual 160, 3) := by decide +kernel
theorem dX8_hearGapCommit_137 : decode cX8_hearGapCommit 137 = .ok (.return_, 1) := by decide +kernel
abbrev rm_X8_hearGapCommit : Room := { frames := 4, cells := 0, slots := 0, locals := 87 }
def b_X8_hearGapCommit_100 (a0 : Nat)  (Q : Sto → Prop) (p1 : Int32) (p2 : Int32) (σ : Sto) : Prop := (sK σ a0 = 8 ∧ (∀ x2 : Int32, x2 = sI σ a0 0 → (∀ y4 : Int64, y4 = sJ σ a0 5 → (∃ b6 : Nat, sP σ a0 1 = some b6 ∧ (sK σ b6 = 4 ∧ (wp_X4_leaderOf b6 y4 σ (fun (x10 : Int32) (σ9 : Sto) => (sK σ9 a0 = 8 ∧ (∀ y12 : Int64, y12 = sJ σ9 a0 5 → (sK σ9 b6 = 4 ∧ (wp_X4_send b6 (4 : Int32) x2 x10 y12 p1 σ9 (fun (r16 : Option Nat) (σ15 : Sto) => ((p2 = 0 → Q σ15) ∧ (¬ p2 = 0 → (sK σ15 a0 = 8 ∧ (wp_X8_takeHeld a0  σ15 (fun (σ19 : Sto) => Q σ19)))))))))))))))))
set_option maxHeartbeats 4000000 in
set_option maxRecDepth 100000 in
theorem t_X8_hearGapCommit_100 {p : Program} {l : Launch} {e : Env} {s : State} {m : MethodId} {args : Array Value} {below : List Frame} {meth : Method} {c : Code} {D : va_G} {cy : Nat → ClassId} {A : Nat → Prop} {a0 : Nat} {Q : Sto → Prop} (C : Cx p s m args meth c D cy A cX8_hearGapCommit 3 RX8) (hr : meth.sig.returnType = none) (hnm : meth.name = yX8_hearGapCommit.name) (p1 : Int32) (p2 : Int32) (σ : Sto) (h : b_X8_hearGapCommit_100 a0  Q p1 p2 σ) (ls : Array Slot) (hl : lv_has ls 3 [(0, .ref a0), (1, .int p1), (2, .int p2)]) : Xw p l e rm_X8_hearGapCommit s m args below meth c D cy A σ 0 0 (MQ below (Qst D cy A (PsV Q)) args s rm_X8_hearGapCommit.cells rm_X8_hearGapCommit.slots A) (F0 m 100 ls []) := by
  unfold b_X8_hearGapCommit_100 at h
  refine x_aload_n C dX8_hearGapCommit_100 rfl (lv_at hl 0 rfl) ?_
  obtain ⟨g1, h⟩ := h
  refine x_getP C fl_RX8_33 g1 dX8_hearGapCommit_101 ?_
  refine x_iconst (v := 4) C dX8_hearGapCommit_104 (by decide) ?_
  refine x_aload_n C dX8_hearGapCommit_105 rfl (lv_at hl 0 rfl) ?_
  refine x_getI C fl_RX8_29 g1 dX8_hearGapCommit_106 ?_
  refine x_topi (fun x2 e3 => ?_)
  have h := h x2 e3
  refine x_aload_n C dX8_hearGapCommit_109 rfl (lv_at hl 0 rfl) ?_
  refine x_getP C fl_RX8_33 g1 dX8_hearGapCommit_110 ?_
  refine x_aload_n C dX8_hearGapCommit_113 rfl (lv_at hl 0 rfl) ?_
  refine x_getJ C fl_RX8_13 g1 dX8_hearGapCommit_114 ?_
  refine x_topj (fun y4 e5 => ?_)
  have h := h y4 e5
  obtain ⟨b6, g7, h⟩ := h
  refine x_nn1 g7 ?_
  obtain ⟨g8, h⟩ := h
  refine x_callV (rm := rm_X4_leaderOf) (rest := [.int x2, .int (4 : Int32), va_rf (sP σ a0 1)]) (As := [.long y4]) C cy_RX8_55 g8 (by decide) (by decide) rfl rfl (by simp [vrc, cat_i, cat_r, cat_l]) hl.1 dX8_hearGapCommit_117 (c_X4_leaderOf l D cy b6 y4 σ _ h) (ks_i (fun x10 σ9 h => ?_))
  refine x_aload_n C dX8_hearGapCommit_120 rfl (lv_at hl 0 rfl) ?_
  obtain ⟨g11, h⟩ := h
  refine x_getJ C fl_RX8_13 g11 dX8_hearGapCommit_121 ?_
  refine x_topj (fun y12 e13 => ?_)
  have h := h y12 e13
  refine x_iload_n C dX8_hearGapCommit_124 rfl (lv_at hl 1 rfl) ?_
  refine x_nn5 g7 ?_
  obtain ⟨g14, h⟩ := h
  refine x_callV (rm := rm_X4_send) (rest := []) (As := [.int (4 : Int32), .int x2, .int x10, .long y12, .int p1]) C cy_RX8_171 g14 (by decide) (by decide) rfl rfl (Nat.le_of_ble_eq_true rfl) hl.1 dX8_hearGapCommit_125 (c_X4_send l D cy b6 (4 : Int32) x2 x10 y12 p1 σ9 _ h) (ks_p (fun r16 σ15 h => ?_))
  refine x_pop C dX8_hearGapCommit_128 (vrc _) ?_
  refine x_iload_n C dX8_hearGapCommit_129 rfl (lv_at hl 2 rfl) ?_
  refine x_if_eq (tgt := 137) C dX8_hearGapCommit_130 (by decide) (fun c17 => ?_) (fun c17 => ?_)
  · have h := h.1 c17
    exact x_vret C hr dX8_hearGapCommit_137 ⟨rfl, h⟩
  · have h := h.2 c17
    refine x_aload_n C dX8_hearGapCommit_133 rfl (lv_at hl 0 rfl) ?_
    obtain ⟨g18, h⟩ := h
    refine x_callV (rm := rm_X8_takeHeld) (rest := []) (As := []) C cy_RX8_160 g18 (by decide) (by decide) rfl rfl (Nat.le_of_ble_eq_true rfl) hl.1 dX8_hearGapCommit_134 (c_X8_takeHeld l D cy a0  σ15 _ h) (ks_v (fun σ19 h => ?_))
    exact x_vret C hr dX8_hearGapCommit_137 ⟨rfl, h⟩
def b_X8_hearGapCommit_59 (a0 : Nat)  (Q : Sto → Prop) (p1 : Int32) (p2 : Int32) (σ : Sto) : Prop := ((p2 = 0 → (sK σ a0 = 8 ∧ (∃ b3 : Nat, sP σ a0 7 = some b3 ∧ (sK σ b3 = 2 ∧ (wp_X2_replace b3 p1 none σ (fun (σ6 : Sto) => b_X8_hearGapCommit_100 a0  Q p1 p2 σ6)))))) ∧ (¬ p2 = 0 → (sK σ a0 = 8 ∧ (∃ b8 : Nat, sP σ a0 7 = some b8 ∧ (sK σ b8 = 2 ∧ (∀ x11 : Int32, x11 = sI σ b8 2 → (∃ b13 : Nat, sP σ a0 10 = some b13 ∧ (sK σ b13 = 5 ∧ (wp_X5_release b13 (p1 - x11) σ (fun (r17 : Option Nat) (σ16 : Sto) => (sK σ16 a0 = 8 ∧ (∃ b19 : Nat, sP σ16 a0 7 = some b19 ∧ (sK σ16 b19 = 2 ∧ (wp_X2_add b19 none σ16 (fun (σ22 : Sto) => b_X8_hearGapCommit_100 a0  Q p1 p2 σ22)))))))))))))))
set_option maxHeartbeats 4000000 in
set_option maxRecDepth 100000 in
theorem t_X8_hearGapCommit_59 {p : Program} {l : Launch} {e : Env} {s : State} {m : MethodId} {args : Array Value} {below : List Frame} {meth : Method} {c : Code} {D : va_G} {cy : Nat → ClassId} {A : Nat → Prop} {a0 : Nat} {Q : Sto → Prop} (C : Cx p s m args meth c D cy A cX8_hearGapCommit 3 RX8) (hr : meth.sig.returnType = none) (hnm : meth.name = yX8_hearGapCommit.name) (p1 : Int32) (p2 : Int32) (σ : Sto) (h : b_X8_hearGapCommit_59 a0  Q p1 p2 σ) (ls : Array Slot) (hl : lv_has ls 3 [(0, .ref a0), (1, .int p1), (2, .int p2)]) : Xw p l e rm_X8_hearGapCommit s m args below meth c D cy A σ 0 0 (MQ below (Qst D cy A (PsV Q)) args s rm_X8_hearGapCommit.cells rm_X8_hearGapCommit.slots A) (F0 m 59 ls []) := by
  unfold b_X8_hearGapCommit_59 at h
  refine x_iload_n C dX8_hearGapCommit_59 rfl (lv_at hl 2 rfl) ?_
  refine x_if_eq (tgt := 91) C dX8_hearGapCommit_60 (by decide) (fun c1 => ?_) (fun c1 => ?_)
  · have h := h.1 c1
    refine x_aload_n C dX8_hearGapCommit_91 rfl (lv_at hl 0 rfl) ?_
    obtain ⟨g2, h⟩ := h
    refine x_getP C fl_RX8_25 g2 dX8_hearGapCommit_92 ?_
    refine x_iload_n C dX8_hearGapCommit_95 rfl (lv_at hl 1 rfl) ?_
    refine x_null C dX8_hearGapCommit_96 ?_
    obtain ⟨b3, g4, h⟩ := h
    refine x_nn2 g4 ?_
    obtain ⟨g5, h⟩ := h
    refine x_callV (rm := rm_X2_replace) (rest := []) (As := [.int p1, va_rf none]) C cy_RX8_185 g5 (by decide) (by decide) rfl rfl (Nat.le_of_ble_eq_true rfl) hl.1 dX8_hearGapCommit_97 (c_X2_replace l D cy b3 p1 none σ _ h) (ks_v (fun σ6 h => ?_))
    exact t_X8_hearGapCommit_100 C hr hnm  p1 p2 _ h ls (lv_sub hl [0, 1, 2] rfl)
  · have h := h.2 c1
    refine x_aload_n C dX8_hearGapCommit_63 rfl (lv_at hl 0 rfl) ?_
    obtain ⟨g7, h⟩ := h
    refine x_getP C fl_RX8_51 g7 dX8_hearGapCommit_64 ?_
    refine x_iload_n C dX8_hearGapCommit_67 rfl (lv_at hl 1 rfl) ?_
    refine x_aload_n C dX8_hearGapCommit_68 rfl (lv_at hl 0 rfl) ?_
    refine x_getP C fl_RX8_25 g7 dX8_hearGapCommit_69 ?_
    obtain ⟨b8, g9, h⟩ := h
    refine x_nn0 g9 ?_
    obtain ⟨g10, h⟩ := h
    refine x_getI C fl_RX8_142 g10 dX8_hearGapCommit_72 ?_
    refine x_topi (fun x11 e12 => ?_)
    have h := h x11 e12
    refine x_isub C dX8_hearGapCommit_75 ?_
    obtain ⟨b13, g14, h⟩ := h
    refine x_nn1 g14 ?_
    obtain ⟨g15, h⟩ := h
    refine x_callV (rm := rm_X5_release) (rest := []) (As := [.int (p1 - x11)]) C cy_RX8_178 g15 (by decide) (by decide) rfl rfl (Nat.le_of_ble_eq_true rfl) hl.1 dX8_hearGapCommit_76 (c_X5_release l D cy b13 (p1 - x11) σ _ h) (ks_p (fun r17 σ16 h => ?_))
    refine x_pop C dX8_hearGapCommit_79 (vrc _) ?_
    refine x_aload_n C dX8_hearGapCommit_80 rfl (lv_at hl 0 rfl) ?_
    obtain ⟨g18, h⟩ := h
    refine x_getP C fl_RX8_25 g18 dX8_hearGapCommit_81 ?_
    refine x_null C dX8_hearGapCommit_84 ?_
    obtain ⟨b19, g20, h⟩ := h
    refine x_nn1 g20 ?_
    obtain ⟨g21, h⟩ := h
    refine x_callV (rm := rm_X2_add) (rest := []) (As := [va_rf none]) C cy_RX8_181 g21 (by decide) (by decide) rfl rfl (Nat.le_of_ble_eq_true rfl) hl.1 dX8_hearGapCommit_85 (c_X2_add l D cy b19 none σ16 _ h) (ks_v (fun σ22 h => ?_))
    refine x_goto (tgt := 100) C dX8_hearGapCommit_88 (by decide) ?_
    exact t_X8_hearGapCommit_100 C hr hnm  p1 p2 _ h ls (lv_sub hl [0, 1, 2] rfl)
def b_X8_hearGapCommit_28 (a0 : Nat)  (Q : Sto → Prop) (p1 : Int32) (s0 : Int32) (σ : Sto) : Prop := (sK σ a0 = 8 ∧ (wp_X8_leads a0  σ (fun (x3 : Int32) (σ2 : Sto) => ((¬ x3 = 0 → Q σ2) ∧ (x3 = 0 → (sK σ2 a0 = 8 ∧ (∀ x6 : Int32, x6 = sI σ2 a0 4 → ((¬ x6 = 0 → Q σ2) ∧ (x6 = 0 → ((¬ s0 = 0 → b_X8_hearGapCommit_59 a0  Q p1 s0 σ2) ∧ (s0 = 0 → (∃ b10 : Nat, sP σ2 a0 7 = some b10 ∧ (sK σ2 b10 = 2 ∧ (wp_X2_has b10 p1 σ2 (fun (x14 : Int32) (σ13 : Sto) => ((¬ x14 = 0 → b_X8_hearGapCommit_59 a0  Q p1 s0 σ13) ∧ (x14 = 0 → Q σ13)))))))))))))))))
set_option maxHeartbeats 4000000 in
set_option maxRecDepth 100000 in
theorem t_X8_hearGapCommit_28 {p : Program} {l : Launch} {e : Env} {s : State} {m : MethodId} {args : Array Value} {below : List Frame} {meth : Method} {c : Code} {D : va_G} {cy : Nat → ClassId} {A : Nat → Prop} {a0 : Nat} {Q : Sto → Prop} (C : Cx p s m args meth c D cy A cX8_hearGapCommit 3 RX8) (hr : meth.sig.returnType = none) (hnm : meth.name = yX8_hearGapCommit.name) (p1 : Int32) (s0 : Int32) (σ : Sto) (h : b_X8_hearGapCommit_28 a0  Q p1 s0 σ) (ls : Array Slot) (hl : lv_has ls 3 [(0, .ref a0), (1, .int p1)]) : Xw p l e rm_X8_hearGapCommit s m args below meth c D cy A σ 0 0 (MQ below (Qst D cy A (PsV Q)) args s rm_X8_hearGapCommit.cells rm_X8_hearGapCommit.slots A) (F0 m 28 ls [.int s0]) := by
  unfold b_X8_hearGapCommit_28 at h
  refine x_istore_n (i := 2) (lv' := [(2, .int s0), (0, .ref a0), (1, .int p1)]) C dX8_hearGapCommit_28 rfl hl (by decide) (by first | rfl | simp [vrc, cat_i, cat_r, cat_l]) (fun ls hl => ?_)
  refine x_aload_n C dX8_hearGapCommit_29 rfl (lv_at hl 1 rfl) ?_
  obtain ⟨g1, h⟩ := h
  refine x_callV (rm := rm_X8_leads) (rest := []) (As := []) C cy_RX8_59 g1 (by decide) (by decide) rfl rfl (Nat.le_of_ble_eq_true rfl) hl.1 dX8_hearGapCommit_30 (c_X8_leads l D cy a0  σ _ h) (ks_i (fun x3 σ2 h => ?_))
  refine x_if_ne (tgt := 58) C dX8_hearGapCommit_33 (by decide) (fun c4 => ?_) (fun c4 => ?_)
  · have h := h.1 c4
    exact x_vret C hr dX8_hearGapCommit_58 ⟨rfl, h⟩
  · have h := h.2 c4
    refine x_aload_n C dX8_hearGapCommit_36 rfl (lv_at hl 1 rfl) ?_
    obtain ⟨g5, h⟩ := h
    refine x_getI C fl_RX8_63 g5 dX8_hearGapCommit_37 ?_
    refine x_topi (fun x6 e7 => ?_)
    have h := h x6 e7
    refine x_if_ne (tgt := 58) C dX8_hearGapCommit_40 (by decide) (fun c8 => ?_) (fun c8 => ?_)
    · have h := h.1 c8
      exact x_vret C hr dX8_hearGapCommit_58 ⟨rfl, h⟩
    · have h := h.2 c8
      refine x_iload_n C dX8_hearGapCommit_43 rfl (lv_at hl 0 rfl) ?_
      refine x_if_ne (tgt := 59) C dX8_hearGapCommit_44 (by decide) (fun c9 => ?_) (fun c9 => ?_)
      · have h := h.1 c9
        exact t_X8_hearGapCommit_59 C hr hnm  p1 s0 _ h ls (lv_sub hl [1, 2, 0] rfl)
      · have h := h.2 c9
        refine x_aload_n C dX8_hearGapCommit_47 rfl (lv_at hl 1 rfl) ?_
        refine x_getP C fl_RX8_25 g5 dX8_hearGapCommit_48 ?_
        refine x_iload_n C dX8_hearGapCommit_51 rfl (lv_at hl 2 rfl) ?_
        obtain ⟨b10, g11, h⟩ := h
        refine x_nn1 g11 ?_
        obtain ⟨g12, h⟩ := h
        refine x_callV (rm := rm_X2_has) (rest := []) (As := [.int p1]) C cy_RX8_163 g12 (by decide) (by decide) rfl rfl (Nat.le_of_ble_eq_true rfl) hl.1 dX8_hearGapCommit_52 (c_X2_has l D cy b10 p1 σ2 _ h) (ks_i (fun x14 σ13 h => ?_))
        refine x_if_ne (tgt := 59) C dX8_hearGapCommit_55 (by decide) (fun c15 => ?_) (fun c15 => ?_)
        · have h := h.1 c15
          exact t_X8_hearGapCommit_59 C hr hnm  p1 s0 _ h ls (lv_sub hl [1, 2, 0] rfl)
        · have h := h.2 c15
          exact x_vret C hr dX8_hearGapCommit_58 ⟨rfl, h⟩
def b_X8_hearGapCommit_27 (a0 : Nat)  (Q : Sto → Prop) (p1 : Int32) (σ : Sto) : Prop := b_X8_hearGapCommit_28 a0  Q p1 (0 : Int32) σ
set_option maxHeartbeats 4000000 in
set_option maxRecDepth 100000 in
theorem t_X8_hearGapCommit_27 {p : Program} {l : Launch} {e : Env} {s : State} {m : MethodId} {args : Array Value} {below : List Frame} {meth : Method} {c : Code} {D : va_G} {cy : Nat → ClassId} {A : Nat → Prop} {a0 : Nat} {Q : Sto → Prop} (C : Cx p s m args meth c D cy A cX8_hearGapCommit 3 RX8) (hr : meth.sig.returnType = none) (hnm : meth.name = yX8_hearGapCommit.name) (p1 : Int32) (σ : Sto) (h : b_X8_hearGapCommit_27 a0  Q p1 σ) (ls : Array Slot) (hl : lv_has ls 3 [(0, .ref a0), (1, .int p1)]) : Xw p l e rm_X8_hearGapCommit s m args below meth c D cy A σ 0 0 (MQ below (Qst D cy A (PsV Q)) args s rm_X8_hearGapCommit.cells rm_X8_hearGapCommit.slots A) (F0 m 27 ls []) := by
  unfold b_X8_hearGapCommit_27 at h
  refine x_iconst (v := 0) C dX8_hearGapCommit_27 (by decide) ?_
  exact t_X8_hearGapCommit_28 C hr hnm  p1 (0 : Int32) _ h ls (lv_sub hl [0, 1] rfl)
def wp_X8_hearGapCommit (a0 : Nat) (p1 : Int32) (σ : Sto) (Q : Sto → Prop) : Prop := (sK σ a0 = 8 ∧ (∃ b2 : Nat, sP σ a0 7 = some b2 ∧ (sK σ b2 = 2 ∧ (∀ x5 : Int32, x5 = sI σ b2 1 → ((¬ p1 = (x5 + (1 : Int32)) → b_X8_hearGapCommit_27 a0  Q p1 σ) ∧ (p1 = (x5 + (1 : Int32)) → (wp_X2_isFull b2  σ (fun (x9 : Int32) (σ8 : Sto) => ((¬ x9 = 0 → b_X8_hearGapCommit_27 a0  Q p1 σ8) ∧ (x9 = 0 → b_X8_hearGapCommit_28 a0  Q p1 (1 : Int32) σ8))))))))))
set_option maxHeartbeats 4000000 in
set_option maxRecDepth 100000 in
theorem c_X8_hearGapCommit (l : Launch) (D : va_G) (cy : Nat → ClassId) (a0 : Nat) (p1 : Int32) (σ : Sto) (Q : Sto → Prop) (h : wp_X8_hearGapCommit a0 p1 σ Q) : Mt l D cy yX8_hearGapCommit cX8_hearGapCommit 3 none rm_X8_hearGapCommit [.ref a0, .int p1] σ (PsV Q) := by
  unfold wp_X8_hearGapCommit at h
  refine mt_of (by decide +kernel) (Nat.le_of_ble_eq_true rfl) ?_
  intro p e s m args below meth c A ls C hr hnm hl
  have C : Cx p s m args meth c D cy A cX8_hearGapCommit 3 RX8 := C
  have hl : lv_has ls 3 [(0, .ref a0), (1, .int p1)] := hl
  refine x_iload_n C dX8_hearGapCommit_0 rfl (lv_at hl 1 rfl) ?_
  refine x_aload_n C dX8_hearGapCommit_1 rfl (lv_at hl 0 rfl) ?_
  obtain ⟨g1, h⟩ := h
  refine x_getP C fl_RX8_25 g1 dX8_hearGapCommit_2 ?_
  obtain ⟨b2, g3, h⟩ := h
  refine x_nn0 g3 ?_
  obtain ⟨g4, h⟩ := h
  refine x_getI C fl_RX8_66 g4 dX8_hearGapCommit_5 ?_
  refine x_topi (fun x5 e6 => ?_)
  have h := h x5 e6
  refine x_iconst (v := 1) C dX8_hearGapCommit_8 (by decide) ?_
  refine x_iadd C dX8_hearGapCommit_9 ?_
  refine x_icmp_ne (tgt := 27) C dX8_hearGapCommit_10 (by decide) (fun c7 => ?_) (fun c7 => ?_)
  · have h := h.1 c7
    exact t_X8_hearGapCommit_27 C hr hnm  p1 _ h ls (lv_sub hl [0, 1] rfl)
  · have h := h.2 c7
    refine x_aload_n C dX8_hearGapCommit_13 rfl (lv_at hl 0 rfl) ?_
    refine x_getP C fl_RX8_25 g1 dX8_hearGapCommit_14 ?_
    refine x_nn0 g3 ?_
    refine x_callV (rm := rm_X2_isFull) (rest := []) (As := []) C cy_RX8_175 g4 (by decide) (by decide) rfl rfl (Nat.le_of_ble_eq_true rfl) hl.1 dX8_hearGapCommit_17 (c_X2_isFull l D cy b2  σ _ h) (ks_i (fun x9 σ8 h => ?_))
    refine x_if_ne (tgt := 27) C dX8_hearGapCommit_20 (by decide) (fun c10 => ?_) (fun c10 => ?_)
    · have h := h.1 c10
      exact t_X8_hearGapCommit_27 C hr hnm  p1 _ h ls (lv_sub hl [0, 1] rfl)
    · have h := h.2 c10
      refine x_iconst (v := 1) C dX8_hearGapCommit_23 (by decide) ?_
      refine x_goto (tgt := 28) C dX8_hearGapCommit_24 (by decide) ?_
      exact t_X8_hearGapCommit_28 C hr hnm  p1 (1 : Int32) _ h ls (lv_sub hl [0, 1] rfl)
theorem dX8_hearGapReply_0 : decode cX8_hearGapReply 0 = .ok (.aload_n 0, 1) := by decide +kernel
theorem dX8_hearGapReply_1 : decode cX8_hearGapReply 1 = .ok (.invokevirtual 59, 3) := by decide +kernel
theorem dX8_hearGapReply_4 : decode cX8_hearGapReply 4 = .ok (.ifCond .eq 25, 3) := by decide +kernel
theorem dX8_hearGapReply_7 : decode cX8_hearGapReply 7 = .ok (.aload_n 0, 1) := by decide +kernel
theorem dX8_hearGapReply_8 : decode cX8_hearGapReply 8 = .ok (.getfield 63, 3) := by decide +kernel
theorem dX8_hearGapReply_11 : decode cX8_hearGapReply 11 = .ok (.iconst 1, 1) := by decide +kernel
theorem dX8_hearGapReply_12 : decode cX8_hearGapReply 12 = .ok (.if_icmp .ne 17, 3) := by decide +kernel
theorem dX8_hearGapReply_15 : decode cX8_hearGapReply 15 = .ok (.aload_n 1, 1) := by decide +kernel
theorem dX8_hearGapReply_16 : decode cX8_hearGapReply 16 = .ok (.getfield 107, 3) := by decide +kernel
theorem dX8_hearGapReply_19 : decode cX8_hearGapReply 19 = .ok (.aload_n 0, 1) := by decide +kernel
theorem dX8_hearGapReply_20 : decode cX8_hearGapReply 20 = .ok (.getfield 25, 3) := by decide +kernel
theorem dX8_hearGapReply_23 : decode cX8_hearGapReply 23 = .ok (.getfield 66, 3) := by decide +kernel
theorem dX8_hearGapReply_26 : decode cX8_hearGapReply 26 = .ok (.if_icmp .eq 4, 3) := by decide +kernel
theorem dX8_hearGapReply_29 : decode cX8_hearGapReply 29 = .ok (.return_, 1) := by decide +kernel
theorem dX8_hearGapReply_30 : decode cX8_hearGapReply 30 = .ok (.aload_n 0, 1) := by decide +kernel
theorem dX8_hearGapReply_31 : decode cX8_hearGapReply 31 = .ok (.getfield 51, 3) := by decide +kernel
theorem dX8_hearGapReply_34 : decode cX8_hearGapReply 34 = .ok (.dup, 1) := by decide +kernel
theorem dX8_hearGapReply_35 : decode cX8_hearGapReply 35 = .ok (.getfield 188, 3) := by decide +kernel
theorem dX8_hearGapReply_38 : decode cX8_hearGapReply 38 = .ok (.iconst 1, 1) := by decide +kernel
theorem dX8_hearGapReply_39 : decode cX8_hearGapReply 39 = .ok (.aload_n 1, 1) := by decide +kernel
theorem dX8_hearGapReply_40 : decode cX8_hearGapReply 40 = .ok (.getfield 84, 3) := by decide +kernel
theorem dX8_hearGapReply_43 : decode cX8_hearGapReply 43 = .ok (.ishl, 1) := by decide +kernel
theorem dX8_hearGapReply_44 : decode cX8_hearGapReply 44 = .ok (.ior, 1) := by decide +kernel
theorem dX8_hearGapReply_45 : decode cX8_hearGapReply 45 = .ok (.putfield 188, 3) := by decide +kernel
theorem dX8_hearGapReply_48 : decode cX8_hearGapReply 48 = .ok (.aload_n 0, 1) := by decide +kernel
theorem dX8_hearGapReply_49 : decode cX8_hearGapReply 49 = .ok (.getfield 51, 3) := by decide +kernel
theorem dX8_hearGapReply_52 : decode cX8_hearGapReply 52 = .ok (.getfield 188, 3) := by decide +kernel
theorem dX8_hearGapReply_55 : decode cX8_hearGapReply 55 = .ok (.invokestatic 191, 3) := by decide +kernel
theorem dX8_hearGapReply_58 : decode cX8_hearGapReply 58 = .ok (.aload_n 0, 1) := by decide +kernel
theorem dX8_hearGapReply_59 : decode cX8_hearGapReply 59 = .ok (.getfield 33, 3) := by decide +kernel
theorem dX8_hearGapReply_62 : decode cX8_hearGapReply 62 = .ok (.getfield 196, 3) := by decide +kernel
theorem dX8_hearGapReply_65 : decode cX8_hearGapReply 65 = .ok (.if_icmp .lt 12, 3) := by decide +kernel
theorem dX8_hearGapReply_68 : decode cX8_hearGapReply 68 = .ok (.aload_n 0, 1) := by decide +kernel
theorem dX8_hearGapReply_69 : decode cX8_hearGapReply 69 = .ok (.iconst 0, 1) := by decide +kernel
theorem dX8_hearGapReply_70 : decode cX8_hearGapReply 70 = .ok (.putfield 63, 3) := by decide +kernel
theorem dX8_hearGapReply_73 : decode cX8_hearGapReply 73 = .ok (.aload_n 0, 1) := by decide +kernel
theorem dX8_hearGapReply_74 : decode cX8_hearGapReply 74 = .ok (.invokevirtual 160, 3) := by decide +kernel
theorem dX8_hearGapReply_77 : decode cX8_hearGapReply 77 = .ok (.return_, 1) := by decide +kernel
abbrev rm_X8_hearGapReply : Room := { frames := 4, cells := 0, slots := 0, locals := 87 }
def wp_X8_hearGapReply (a0 : Nat) (p1 : Option Nat) (σ : Sto) (Q : Sto → Prop) : Prop := (sK σ a0 = 8 ∧ (wp_X8_leads a0  σ (fun (x3 : Int32) (σ2 : Sto) => ((x3 = 0 → Q σ2) ∧ (¬ x3 = 0 → (sK σ2 a0 = 8 ∧ (∀ x6 : Int32, x6 = sI σ2 a0 4 → ((¬ x6 = (1 : Int32) → Q σ2) ∧ (x6 = (1 : Int32) → (∃ b9 : Nat, p1 = some b9 ∧ (sK σ2 b9 = 3 ∧ (∀ x12 : Int32, x12 = sI σ2 b9 6 → (∃ b14 : Nat, sP σ2 a0 7 = some b14 ∧ (sK σ2 b14 = 2 ∧ (∀ x17 : Int32, x17 = sI σ2 b14 1 → ((x12 = x17 → (∀ r20 : Option Nat, r20 = sP σ2 a0 10 → (∃ b22 : Nat, r20 = some b22 ∧ (sK σ2 b22 = 5 ∧ (∀ x25 : Int32, x25 = sI σ2 b22 3 → (∀ x27 : Int32, x27 = sI σ2 b9 2 → (∀ x29 : Int32, x29 = x25 ||| ((1 : Int32) <<< (x27 &&& 31)) → (∃ b31 : Nat, sP σ2 a0 10 = some b31 ∧ (sK σ2 b31 = 5 ∧ (∀ x34 : Int32, x34 = sI (stI σ2 b22 3 x29) b31 3 → (wp_J6_bitCount_0f7a4 x34 (stI σ2 b22 3 x29) (fun (x37 : Int32) (σ36 : Sto) => (sK σ36 a0 = 8 ∧ (∃ b39 : Nat, sP σ36 a0 1 = some b39 ∧ (sK σ36 b39 = 4 ∧ (∀ x42 : Int32, x42 = sI σ36 b39 1 → ((x37 < x42 → Q σ36) ∧ (¬ x37 < x42 → (wp_X8_takeHeld a0  (stI σ36 a0 4 (0 : Int32)) (fun (σ45 : Sto) => Q σ45)))))))))))))))))))) ∧ (¬ x12 = x17 → Q σ2)))))))))))))))))
set_option maxHeartbeats 4000000 in
set_option maxRecDepth 100000 in
theorem c_X8_hearGapReply (l : Launch) (D : va_G) (cy : Nat → ClassId) (a0 : Nat) (p1 : Option Nat) (σ : Sto) (Q : Sto → Prop) (h : wp_X8_hearGapReply a0 p1 σ Q) : Mt l D cy yX8_hearGapReply cX8_hearGapReply 2 none rm_X8_hearGapReply [.ref a0, va_rf p1] σ (PsV Q) := by
  unfold wp_X8_hearGapReply at h
  refine mt_of (by decide +kernel) (by simp [lg_sl, vrc, cat_i, cat_r, cat_l]) ?_
  intro p e s m args below meth c A ls C hr hnm hl
  have C : Cx p s m args meth c D cy A cX8_hearGapReply 2 RX8 := C
  have hl : lv_has ls 2 [(0, .ref a0), (1, va_rf p1)] := by simpa [lv_args, vrc, cat_i, cat_r, cat_l] using hl
  refine x_aload_n C dX8_hearGapReply_0 rfl (lv_at hl 0 rfl) ?_
  obtain ⟨g1, h⟩ := h
  refine x_callV (rm := rm_X8_leads) (rest := []) (As := []) C cy_RX8_59 g1 (by decide) (by decide) rfl rfl (Nat.le_of_ble_eq_true rfl) hl.1 dX8_hearGapReply_1 (c_X8_leads l D cy a0  σ _ h) (ks_i (fun x3 σ2 h => ?_))
  refine x_if_eq (tgt := 29) C dX8_hearGapReply_4 (by decide) (fun c4 => ?_) (fun c4 => ?_)
  · have h := h.1 c4
    exact x_vret C hr dX8_hearGapReply_29 ⟨rfl, h⟩
  · have h := h.2 c4
    refine x_aload_n C dX8_hearGapReply_7 rfl (lv_at hl 0 rfl) ?_
    obtain ⟨g5, h⟩ := h
    refine x_getI C fl_RX8_63 g5 dX8_hearGapReply_8 ?_
    refine x_topi (fun x6 e7 => ?_)
    have h := h x6 e7
    refine x_iconst (v := 1) C dX8_hearGapReply_11 (by decide) ?_
    refine x_icmp_ne (tgt := 29) C dX8_hearGapReply_12 (by decide) (fun c8 => ?_) (fun c8 => ?_)
    · have h := h.1 c8
      exact x_vret C hr dX8_hearGapReply_29 ⟨rfl, h⟩
    · have h := h.2 c8
      refine x_aload_nq C dX8_hearGapReply_15 rfl (lv_at hl 1 rfl) ?_
      obtain ⟨b9, g10, h⟩ := h
      refine x_nn0 g10 ?_
      obtain ⟨g11, h⟩ := h
      refine x_getI C fl_RX8_107 g11 dX8_hearGapReply_16 ?_
      refine x_topi (fun x12 e13 => ?_)
      have h := h x12 e13
      refine x_aload_n C dX8_hearGapReply_19 rfl (lv_at hl 0 rfl) ?_
      refine x_getP C fl_RX8_25 g5 dX8_hearGapReply_20 ?_
      obtain ⟨b14, g15, h⟩ := h
      refine x_nn0 g15 ?_
      obtain ⟨g16, h⟩ := h
      refine x_getI C fl_RX8_66 g16 dX8_hearGapReply_23 ?_
      refine x_topi (fun x17 e18 => ?_)
      have h := h x17 e18
      refine x_icmp_eq (tgt := 30) C dX8_hearGapReply_26 (by decide) (fun c19 => ?_) (fun c19 => ?_)
      · have h := h.1 c19
        refine x_aload_n C dX8_hearGapReply_30 rfl (lv_at hl 0 rfl) ?_
        refine x_getP C fl_RX8_51 g5 dX8_hearGapReply_31 ?_
        refine x_topq (fun r20 e21 => ?_)
        have h := h r20 e21
        refine x_dup C dX8_hearGapReply_34 (vrc _) ?_
        obtain ⟨b22, g23, h⟩ := h
        refine x_nn0 g23 ?_
        obtain ⟨g24, h⟩ := h
        refine x_getI C fl_RX8_188 g24 dX8_hearGapReply_35 ?_
        refine x_topi (fun x25 e26 => ?_)
        have h := h x25 e26
        refine x_iconst (v := 1) C dX8_hearGapReply_38 (by decide) ?_
        refine x_aload_nq C dX8_hearGapReply_39 rfl (lv_at hl 1 rfl) ?_
        refine x_nn0 g10 ?_
        refine x_getI C fl_RX8_84 g11 dX8_hearGapReply_40 ?_
        refine x_topi (fun x27 e28 => ?_)
        have h := h x27 e28
        refine x_ishl C dX8_hearGapReply_43 ?_
        refine x_ior C dX8_hearGapReply_44 ?_
        refine x_topi (fun x29 e30 => ?_)
        have h := h x29 e30
        refine x_nn1 g23 ?_
        refine x_putI C fl_RX8_188 (Or.inl rfl) g24 dX8_hearGapReply_45 ?_
        refine x_aload_n C dX8_hearGapReply_48 rfl (lv_at hl 0 rfl) ?_
        refine x_getP C fl_RX8_51 g5 dX8_hearGapReply_49 ?_
        obtain ⟨b31, g32, h⟩ := h
        refine x_nn0 g32 ?_
        obtain ⟨g33, h⟩ := h
        refine x_getI C fl_RX8_188 g33 dX8_hearGapReply_52 ?_
        refine x_topi (fun x34 e35 => ?_)
        have h := h x34 e35
        refine x_callS (rm := rm_J6_bitCount_0f7a4) (rest := []) (As := [.int x34]) C cs_RX8_191 (by decide) (by decide) rfl rfl (Nat.le_of_ble_eq_true rfl) hl.1 dX8_hearGapReply_55 (c_J6_bitCount_0f7a4 l D cy x34 (stI σ2 b22 3 x29) _ h) (ks_i (fun x37 σ36 h => ?_))
        refine x_aload_n C dX8_hearGapReply_58 rfl (lv_at hl 0 rfl) ?_
        obtain ⟨g38, h⟩ := h
        refine x_getP C fl_RX8_33 g38 dX8_hearGapReply_59 ?_
        obtain ⟨b39, g40, h⟩ := h
        refine x_nn0 g40 ?_
        obtain ⟨g41, h⟩ := h
        refine x_getI C fl_RX8_196 g41 dX8_hearGapReply_62 ?_
        refine x_topi (fun x42 e43 => ?_)
        have h := h x42 e43
        refine x_icmp_lt (tgt := 77) C dX8_hearGapReply_65 (by decide) (fun c44 => ?_) (fun c44 => ?_)
        · have h := h.1 c44
          exact x_vret C hr dX8_hearGapReply_77 ⟨rfl, h⟩
        · have h := h.2 c44
          refine x_aload_n C dX8_hearGapReply_68 rfl (lv_at hl 0 rfl) ?_
          refine x_iconst (v := 0) C dX8_hearGapReply_69 (by decide) ?_
          refine x_putI C fl_RX8_63 (Or.inl rfl) g38 dX8_hearGapReply_70 ?_
          refine x_aload_n C dX8_hearGapReply_73 rfl (lv_at hl 0 rfl) ?_
          refine x_callV (rm := rm_X8_takeHeld) (rest := []) (As := []) C cy_RX8_160 g38 (by decide) (by decide) rfl rfl (Nat.le_of_ble_eq_true rfl) hl.1 dX8_hearGapReply_74 (c_X8_takeHeld l D cy a0  (stI σ36 a0 4 (0 : Int32)) _ h) (ks_v (fun σ45 h => ?_))
          exact x_vret C hr dX8_hearGapReply_77 ⟨rfl, h⟩
      · have h := h.2 c19
        exact x_vret C hr dX8_hearGapReply_29 ⟨rfl, h⟩
theorem dX8_hearSync_0 : decode cX8_hearSync 0 = .ok (.aload_n 0, 1) := by decide +kernel
theorem dX8_hearSync_1 : decode cX8_hearSync 1 = .ok (.invokevirtual 59, 3) := by decide +kernel
theorem dX8_hearSync_4 : decode cX8_hearSync 4 = .ok (.ifCond .ne 24, 3) := by decide +kernel
theorem dX8_hearSync_7 : decode cX8_hearSync 7 = .ok (.aload_n 0, 1) := by decide +kernel
theorem dX8_hearSync_8 : decode cX8_hearSync 8 = .ok (.getfield 63, 3) := by decide +kernel
theorem dX8_hearSync_11 : decode cX8_hearSync 11 = .ok (.ifCond .ne 17, 3) := by decide +kernel
theorem dX8_hearSync_14 : decode cX8_hearSync 14 = .ok (.aload_n 0, 1) := by decide +kernel
theorem dX8_hearSync_15 : decode cX8_hearSync 15 = .ok (.getfield 25, 3) := by decide +kernel
theorem dX8_hearSync_18 : decode cX8_hearSync 18 = .ok (.getfield 66, 3) := by decide +kernel
theorem dX8_hearSync_21 : decode cX8_hearSync 21 = .ok (.aload_n 1, 1) := by decide +kernel
theorem dX8_hearSync_22 : decode cX8_hearSync 22 = .ok (.getfield 66, 3) := by decide +kernel
theorem dX8_hearSync_25 : decode cX8_hearSync 25 = .ok (.if_icmp .ge 4, 3) := by decide +kernel
theorem dX8_hearSync_28 : decode cX8_hearSync 28 = .ok (.return_, 1) := by decide +kernel
theorem dX8_hearSync_29 : decode cX8_hearSync 29 = .ok (.aload_n 0, 1) := by decide +kernel
theorem dX8_hearSync_30 : decode cX8_hearSync 30 = .ok (.getfield 25, 3) := by decide +kernel
theorem dX8_hearSync_33 : decode cX8_hearSync 33 = .ok (.aload_n 1, 1) := by decide +kernel
theorem dX8_hearSync_34 : decode cX8_hearSync 34 = .ok (.invokevirtual 199, 3) := by decide +kernel
theorem dX8_hearSync_37 : decode cX8_hearSync 37 = .ok (.aload_n 0, 1) := by decide +kernel
theorem dX8_hearSync_38 : decode cX8_hearSync 38 = .ok (.aload_n 0, 1) := by decide +kernel
theorem dX8_hearSync_39 : decode cX8_hearSync 39 = .ok (.getfield 202, 3) := by decide +kernel
theorem dX8_hearSync_42 : decode cX8_hearSync 42 = .ok (.aload_n 1, 1) := by decide +kernel
theorem dX8_hearSync_43 : decode cX8_hearSync 43 = .ok (.getfield 66, 3) := by decide +kernel
theorem dX8_hearSync_46 : decode cX8_hearSync 46 = .ok (.invokestatic 205, 3) := by decide +kernel
theorem dX8_hearSync_49 : decode cX8_hearSync 49 = .ok (.putfield 202, 3) := by decide +kernel
theorem dX8_hearSync_52 : decode cX8_hearSync 52 = .ok (.aload_n 0, 1) := by decide +kernel
theorem dX8_hearSync_53 : decode cX8_hearSync 53 = .ok (.getfield 33, 3) := by decide +kernel
theorem dX8_hearSync_56 : decode cX8_hearSync 56 = .ok (.bipush 6, 2) := by decide +kernel
theorem dX8_hearSync_58 : decode cX8_hearSync 58 = .ok (.aload_n 0, 1) := by decide +kernel
theorem dX8_hearSync_59 : decode cX8_hearSync 59 = .ok (.getfield 29, 3) := by decide +kernel
theorem dX8_hearSync_62 : decode cX8_hearSync 62 = .ok (.aload_n 0, 1) := by decide +kernel
theorem dX8_hearSync_63 : decode cX8_hearSync 63 = .ok (.getfield 33, 3) := by decide +kernel
theorem dX8_hearSync_66 : decode cX8_hearSync 66 = .ok (.aload_n 0, 1) := by decide +kernel
theorem dX8_hearSync_67 : decode cX8_hearSync 67 = .ok (.getfield 13, 3) := by decide +kernel
theorem dX8_hearSync_70 : decode cX8_hearSync 70 = .ok (.invokevirtual 55, 3) := by decide +kernel
theorem dX8_hearSync_73 : decode cX8_hearSync 73 = .ok (.aload_n 0, 1) := by decide +kernel
theorem dX8_hearSync_74 : decode cX8_hearSync 74 = .ok (.getfield 13, 3) := by decide +kernel
theorem dX8_hearSync_77 : decode cX8_hearSync 77 = .ok (.aload_n 1, 1) := by decide +kernel
theorem dX8_hearSync_78 : decode cX8_hearSync 78 = .ok (.getfield 66, 3) := by decide +kernel
theorem dX8_hearSync_81 : decode cX8_hearSync 81 = .ok (.invokevirtual 171, 3) := by decide +kernel
theorem dX8_hearSync_84 : decode cX8_hearSync 84 = .ok (.pop, 1) := by decide +kernel
theorem dX8_hearSync_85 : decode cX8_hearSync 85 = .ok (.return_, 1) := by decide +kernel
abbrev rm_X8_hearSync : Room := { frames := 3, cells := 0, slots := 0, locals := 64 }
def wp_X8_hearSync (a0 : Nat) (p1 : Option Nat) (σ : Sto) (Q : Sto → Prop) : Prop := (sK σ a0 = 8 ∧ (wp_X8_leads a0  σ (fun (x3 : Int32) (σ2 : Sto) => ((¬ x3 = 0 → Q σ2) ∧ (x3 = 0 → (sK σ2 a0 = 8 ∧ (∀ x6 : Int32, x6 = sI σ2 a0 4 → ((¬ x6 = 0 → Q σ2) ∧ (x6 = 0 → (∃ b9 : Nat, sP σ2 a0 7 = some b9 ∧ (sK σ2 b9 = 2 ∧ (∀ x12 : Int32, x12 = sI σ2 b9 1 → (∃ b14 : Nat, p1 = some b14 ∧ (sK σ2 b14 = 2 ∧ (∀ x17 : Int32, x17 = sI σ2 b14 1 → ((x17 ≤ x12 → (wp_X2_copyFirst b9 p1 σ2 (fun (σ20 : Sto) => (sK σ20 a0 = 8 ∧ (∀ x22 : Int32, x22 = sI σ20 a0 9 → (sK σ20 b14 = 2 ∧ (∀ x25 : Int32, x25 = sI σ20 b14 1 → (wp_J9_max_7cf53 x22 x25 σ20 (fun (x28 : Int32) (σ27 : Sto) => (sK σ27 a0 = 8 ∧ (∀ x30 : Int32, x30 = sI (stI σ27 a0 9 x28) a0 0 → (∀ y32 : Int64, y32 = sJ σ27 a0 5 → (∃ b34 : Nat, sP σ27 a0 1 = some b34 ∧ (sK σ27 b34 = 4 ∧ (wp_X4_leaderOf b34 y32 (stI σ27 a0 9 x28) (fun (x38 : Int32) (σ37 : Sto) => (sK σ37 a0 = 8 ∧ (∀ y40 : Int64, y40 = sJ σ37 a0 5 → (sK σ37 b14 = 2 ∧ (∀ x43 : Int32, x43 = sI σ37 b14 1 → (sK σ37 b34 = 4 ∧ (wp_X4_send b34 (6 : Int32) x30 x38 y40 x43 σ37 (fun (r47 : Option Nat) (σ46 : Sto) => Q σ46))))))))))))))))))))))) ∧ (¬ x17 ≤ x12 → Q σ2)))))))))))))))))
set_option maxHeartbeats 4000000 in
set_option maxRecDepth 100000 in
theorem c_X8_hearSync (l : Launch) (D : va_G) (cy : Nat → ClassId) (a0 : Nat) (p1 : Option Nat) (σ : Sto) (Q : Sto → Prop) (h : wp_X8_hearSync a0 p1 σ Q) : Mt l D cy yX8_hearSync cX8_hearSync 2 none rm_X8_hearSync [.ref a0, va_rf p1] σ (PsV Q) := by
  unfold wp_X8_hearSync at h
  refine mt_of (by decide +kernel) (by simp [lg_sl, vrc, cat_i, cat_r, cat_l]) ?_
  intro p e s m args below meth c A ls C hr hnm hl
  have C : Cx p s m args meth c D cy A cX8_hearSync 2 RX8 := C
  have hl : lv_has ls 2 [(0, .ref a0), (1, va_rf p1)] := by simpa [lv_args, vrc, cat_i, cat_r, cat_l] using hl
  refine x_aload_n C dX8_hearSync_0 rfl (lv_at hl 0 rfl) ?_
  obtain ⟨g1, h⟩ := h
  refine x_callV (rm := rm_X8_leads) (rest := []) (As := []) C cy_RX8_59 g1 (by decide) (by decide) rfl rfl (Nat.le_of_ble_eq_true rfl) hl.1 dX8_hearSync_1 (c_X8_leads l D cy a0  σ _ h) (ks_i (fun x3 σ2 h => ?_))
  refine x_if_ne (tgt := 28) C dX8_hearSync_4 (by decide) (fun c4 => ?_) (fun c4 => ?_)
  · have h := h.1 c4
    exact x_vret C hr dX8_hearSync_28 ⟨rfl, h⟩
  · have h := h.2 c4
    refine x_aload_n C dX8_hearSync_7 rfl (lv_at hl 0 rfl) ?_
    obtain ⟨g5, h⟩ := h
    refine x_getI C fl_RX8_63 g5 dX8_hearSync_8 ?_
    refine x_topi (fun x6 e7 => ?_)
    have h := h x6 e7
    refine x_if_ne (tgt := 28) C dX8_hearSync_11 (by decide) (fun c8 => ?_) (fun c8 => ?_)
    · have h := h.1 c8
      exact x_vret C hr dX8_hearSync_28 ⟨rfl, h⟩
    · have h := h.2 c8
      refine x_aload_n C dX8_hearSync_14 rfl (lv_at hl 0 rfl) ?_
      refine x_getP C fl_RX8_25 g5 dX8_hearSync_15 ?_
      obtain ⟨b9, g10, h⟩ := h
      refine x_nn0 g10 ?_
      obtain ⟨g11, h⟩ := h
      refine x_getI C fl_RX8_66 g11 dX8_hearSync_18 ?_
      refine x_topi (fun x12 e13 => ?_)
      have h := h x12 e13
      refine x_aload_nq C dX8_hearSync_21 rfl (lv_at hl 1 rfl) ?_
      obtain ⟨b14, g15, h⟩ := h
      refine x_nn0 g15 ?_
      obtain ⟨g16, h⟩ := h
      refine x_getI C fl_RX8_66 g16 dX8_hearSync_22 ?_
      refine x_topi (fun x17 e18 => ?_)
      have h := h x17 e18
      refine x_icmp_ge (tgt := 29) C dX8_hearSync_25 (by decide) (fun c19 => ?_) (fun c19 => ?_)
      · have h := h.1 c19
        refine x_aload_n C dX8_hearSync_29 rfl (lv_at hl 0 rfl) ?_
        refine x_getP C fl_RX8_25 g5 dX8_hearSync_30 ?_
        refine x_aload_nq C dX8_hearSync_33 rfl (lv_at hl 1 rfl) ?_
        refine x_nn1 g10 ?_
        refine x_callV (rm := rm_X2_copyFirst) (rest := []) (As := [va_rf p1]) C cy_RX8_199 g11 (by decide) (by decide) rfl rfl (Nat.le_of_ble_eq_true rfl) hl.1 dX8_hearSync_34 (c_X2_copyFirst l D cy b9 p1 σ2 _ h) (ks_v (fun σ20 h => ?_))
        refine x_aload_n C dX8_hearSync_37 rfl (lv_at hl 0 rfl) ?_
        refine x_aload_n C dX8_hearSync_38 rfl (lv_at hl 0 rfl) ?_
        obtain ⟨g21, h⟩ := h
        refine x_getI C fl_RX8_202 g21 dX8_hearSync_39 ?_
        refine x_topi (fun x22 e23 => ?_)
        have h := h x22 e23
        refine x_aload_nq C dX8_hearSync_42 rfl (lv_at hl 1 rfl) ?_
        refine x_nn0 g15 ?_
        obtain ⟨g24, h⟩ := h
        refine x_getI C fl_RX8_66 g24 dX8_hearSync_43 ?_
        refine x_topi (fun x25 e26 => ?_)
        have h := h x25 e26
        refine x_callS (rm := rm_J9_max_7cf53) (rest := [.ref a0]) (As := [.int x22, .int x25]) C cs_RX8_205 (by decide) (by decide) rfl rfl (Nat.le_of_ble_eq_true rfl) hl.1 dX8_hearSync_46 (c_J9_max_7cf53 l D cy x22 x25 σ20 _ h) (ks_i (fun x28 σ27 h => ?_))
        obtain ⟨g29, h⟩ := h
        refine x_putI C fl_RX8_202 (Or.inl rfl) g29 dX8_hearSync_49 ?_
        refine x_aload_n C dX8_hearSync_52 rfl (lv_at hl 0 rfl) ?_
        refine x_getP C fl_RX8_33 g29 dX8_hearSync_53 ?_
        refine x_bipush (v := 6) C dX8_hearSync_56 (by decide) ?_
        refine x_aload_n C dX8_hearSync_58 rfl (lv_at hl 0 rfl) ?_
        refine x_getI C fl_RX8_29 g29 dX8_hearSync_59 ?_
        refine x_topi (fun x30 e31 => ?_)
        have h := h x30 e31
        refine x_aload_n C dX8_hearSync_62 rfl (lv_at hl 0 rfl) ?_
        refine x_getP C fl_RX8_33 g29 dX8_hearSync_63 ?_
        refine x_aload_n C dX8_hearSync_66 rfl (lv_at hl 0 rfl) ?_
        refine x_getJ C fl_RX8_13 g29 dX8_hearSync_67 ?_
        refine x_topj (fun y32 e33 => ?_)
        have h := h y32 e33
        obtain ⟨b34, g35, h⟩ := h
        refine x_nn1 g35 ?_
        obtain ⟨g36, h⟩ := h
        refine x_callV (rm := rm_X4_leaderOf) (rest := [.int x30, .int (6 : Int32), va_rf (sP σ27 a0 1)]) (As := [.long y32]) C cy_RX8_55 g36 (by decide) (by decide) rfl rfl (by simp [vrc, cat_i, cat_r, cat_l]) hl.1 dX8_hearSync_70 (c_X4_leaderOf l D cy b34 y32 (stI σ27 a0 9 x28) _ h) (ks_i (fun x38 σ37 h => ?_))
        refine x_aload_n C dX8_hearSync_73 rfl (lv_at hl 0 rfl) ?_
        obtain ⟨g39, h⟩ := h
        refine x_getJ C fl_RX8_13 g39 dX8_hearSync_74 ?_
        refine x_topj (fun y40 e41 => ?_)
        have h := h y40 e41
        refine x_aload_nq C dX8_hearSync_77 rfl (lv_at hl 1 rfl) ?_
        refine x_nn0 g15 ?_
        obtain ⟨g42, h⟩ := h
        refine x_getI C fl_RX8_66 g42 dX8_hearSync_78 ?_
        refine x_topi (fun x43 e44 => ?_)
        have h := h x43 e44
        refine x_nn5 g35 ?_
        obtain ⟨g45, h⟩ := h
        refine x_callV (rm := rm_X4_send) (rest := []) (As := [.int (6 : Int32), .int x30, .int x38, .long y40, .int x43]) C cy_RX8_171 g45 (by decide) (by decide) rfl rfl (Nat.le_of_ble_eq_true rfl) hl.1 dX8_hearSync_81 (c_X4_send l D cy b34 (6 : Int32) x30 x38 y40 x43 σ37 _ h) (ks_p (fun r47 σ46 h => ?_))
        refine x_pop C dX8_hearSync_84 (vrc _) ?_
        exact x_vret C hr dX8_hearSync_85 ⟨rfl, h⟩
      · have h := h.2 c19
        exact x_vret C hr dX8_hearSync_28 ⟨rfl, h⟩
theorem dX8_hearSyncReply_0 : decode cX8_hearSyncReply 0 = .ok (.aload_n 1, 1) := by decide +kernel
theorem dX8_hearSyncReply_1 : decode cX8_hearSyncReply 1 = .ok (.getfield 107, 3) := by decide +kernel
theorem dX8_hearSyncReply_4 : decode cX8_hearSyncReply 4 = .ok (.istore_n 2, 1) := by decide +kernel
theorem dX8_hearSyncReply_5 : decode cX8_hearSyncReply 5 = .ok (.aload_n 0, 1) := by decide +kernel
theorem dX8_hearSyncReply_6 : decode cX8_hearSyncReply 6 = .ok (.invokevirtual 59, 3) := by decide +kernel
theorem dX8_hearSyncReply_9 : decode cX8_hearSyncReply 9 = .ok (.ifCond .eq 19, 3) := by decide +kernel
theorem dX8_hearSyncReply_12 : decode cX8_hearSyncReply 12 = .ok (.aload_n 0, 1) := by decide +kernel
theorem dX8_hearSyncReply_13 : decode cX8_hearSyncReply 13 = .ok (.getfield 63, 3) := by decide +kernel
theorem dX8_hearSyncReply_16 : decode cX8_hearSyncReply 16 = .ok (.iconst 2, 1) := by decide +kernel
theorem dX8_hearSyncReply_17 : decode cX8_hearSyncReply 17 = .ok (.if_icmp .eq 11, 3) := by decide +kernel
theorem dX8_hearSyncReply_20 : decode cX8_hearSyncReply 20 = .ok (.iload_n 2, 1) := by decide +kernel
theorem dX8_hearSyncReply_21 : decode cX8_hearSyncReply 21 = .ok (.aload_n 0, 1) := by decide +kernel
theorem dX8_hearSyncReply_22 : decode cX8_hearSyncReply 22 = .ok (.getfield 69, 3) := by decide +kernel
theorem dX8_hearSyncReply_25 : decode cX8_hearSyncReply 25 = .ok (.if_icmp .gt 4, 3) := by decide +kernel
theorem dX8_hearSyncReply_28 : decode cX8_hearSyncReply 28 = .ok (.return_, 1) := by decide +kernel
theorem dX8_hearSyncReply_29 : decode cX8_hearSyncReply 29 = .ok (.iload_n 2, 1) := by decide +kernel
theorem dX8_hearSyncReply_30 : decode cX8_hearSyncReply 30 = .ok (.aload_n 0, 1) := by decide +kernel
theorem dX8_hearSyncReply_31 : decode cX8_hearSyncReply 31 = .ok (.getfield 51, 3) := by decide +kernel
theorem dX8_hearSyncReply_34 : decode cX8_hearSyncReply 34 = .ok (.getfield 208, 3) := by decide +kernel
theorem dX8_hearSyncReply_37 : decode cX8_hearSyncReply 37 = .ok (.if_icmp .eq 19, 3) := by decide +kernel
theorem dX8_hearSyncReply_40 : decode cX8_hearSyncReply 40 = .ok (.aload_n 0, 1) := by decide +kernel
theorem dX8_hearSyncReply_41 : decode cX8_hearSyncReply 41 = .ok (.getfield 51, 3) := by decide +kernel
theorem dX8_hearSyncReply_44 : decode cX8_hearSyncReply 44 = .ok (.iload_n 2, 1) := by decide +kernel
theorem dX8_hearSyncReply_45 : decode cX8_hearSyncReply 45 = .ok (.putfield 208, 3) := by decide +kernel
theorem dX8_hearSyncReply_48 : decode cX8_hearSyncReply 48 = .ok (.aload_n 0, 1) := by decide +kernel
theorem dX8_hearSyncReply_49 : decode cX8_hearSyncReply 49 = .ok (.getfield 51, 3) := by decide +kernel
theorem dX8_hearSyncReply_52 : decode cX8_hearSyncReply 52 = .ok (.iconst 0, 1) := by decide +kernel
theorem dX8_hearSyncReply_53 : decode cX8_hearSyncReply 53 = .ok (.putfield 211, 3) := by decide +kernel
theorem dX8_hearSyncReply_56 : decode cX8_hearSyncReply 56 = .ok (.aload_n 0, 1) := by decide +kernel
theorem dX8_hearSyncReply_57 : decode cX8_hearSyncReply 57 = .ok (.getfield 51, 3) := by decide +kernel
theorem dX8_hearSyncReply_60 : decode cX8_hearSyncReply 60 = .ok (.dup, 1) := by decide +kernel
theorem dX8_hearSyncReply_61 : decode cX8_hearSyncReply 61 = .ok (.getfield 211, 3) := by decide +kernel
theorem dX8_hearSyncReply_64 : decode cX8_hearSyncReply 64 = .ok (.iconst 1, 1) := by decide +kernel
theorem dX8_hearSyncReply_65 : decode cX8_hearSyncReply 65 = .ok (.aload_n 1, 1) := by decide +kernel
theorem dX8_hearSyncReply_66 : decode cX8_hearSyncReply 66 = .ok (.getfield 84, 3) := by decide +kernel
theorem dX8_hearSyncReply_69 : decode cX8_hearSyncReply 69 = .ok (.ishl, 1) := by decide +kernel
theorem dX8_hearSyncReply_70 : decode cX8_hearSyncReply 70 = .ok (.ior, 1) := by decide +kernel
theorem dX8_hearSyncReply_71 : decode cX8_hearSyncReply 71 = .ok (.putfield 211, 3) := by decide +kernel
theorem dX8_hearSyncReply_74 : decode cX8_hearSyncReply 74 = .ok (.aload_n 0, 1) := by decide +kernel
theorem dX8_hearSyncReply_75 : decode cX8_hearSyncReply 75 = .ok (.getfield 51, 3) := by decide +kernel
theorem dX8_hearSyncReply_78 : decode cX8_hearSyncReply 78 = .ok (.getfield 211, 3) := by decide +kernel
theorem dX8_hearSyncReply_81 : decode cX8_hearSyncReply 81 = .ok (.invokestatic 191, 3) := by decide +kernel
theorem dX8_hearSyncReply_84 : decode cX8_hearSyncReply 84 = .ok (.aload_n 0, 1) := by decide +kernel
theorem dX8_hearSyncReply_85 : decode cX8_hearSyncReply 85 = .ok (.getfield 33, 3) := by decide +kernel
theorem dX8_hearSyncReply_88 : decode cX8_hearSyncReply 88 = .ok (.getfield 196, 3) := by decide +kernel
theorem dX8_hearSyncReply_91 : decode cX8_hearSyncReply 91 = .ok (.if_icmp .lt 15, 3) := by decide +kernel
theorem dX8_hearSyncReply_94 : decode cX8_hearSyncReply 94 = .ok (.aload_n 0, 1) := by decide +kernel
theorem dX8_hearSyncReply_95 : decode cX8_hearSyncReply 95 = .ok (.iload_n 2, 1) := by decide +kernel
theorem dX8_hearSyncReply_96 : decode cX8_hearSyncReply 96 = .ok (.putfield 69, 3) := by decide +kernel
theorem dX8_hearSyncReply_99 : decode cX8_hearSyncReply 99 = .ok (.aload_n 0, 1) := by decide +kernel
theorem dX8_hearSyncReply_100 : decode cX8_hearSyncReply 100 = .ok (.bipush 7, 2) := by decide +kernel
theorem dX8_hearSyncReply_102 : decode cX8_hearSyncReply 102 = .ok (.iload_n 2, 1) := by decide +kernel
theorem dX8_hearSyncReply_103 : decode cX8_hearSyncReply 103 = .ok (.invokevirtual 214, 3) := by decide +kernel
theorem dX8_hearSyncReply_106 : decode cX8_hearSyncReply 106 = .ok (.return_, 1) := by decide +kernel
abbrev rm_X8_hearSyncReply : Room := { frames := 3, cells := 0, slots := 0, locals := 64 }
def b_X8_hearSyncReply_56 (a0 : Nat)  (Q : Sto → Prop) (p1 : Option Nat) (p2 : Int32) (σ : Sto) : Prop := (sK σ a0 = 8 ∧ (∀ r2 : Option Nat, r2 = sP σ a0 10 → (∃ b4 : Nat, r2 = some b4 ∧ (sK σ b4 = 5 ∧ (∀ x7 : Int32, x7 = sI σ b4 4 → (∃ b9 : Nat, p1 = some b9 ∧ (sK σ b9 = 3 ∧ (∀ x12 : Int32, x12 = sI σ b9 2 → (∀ x14 : Int32, x14 = x7 ||| ((1 : Int32) <<< (x12 &&& 31)) → (∃ b16 : Nat, sP σ a0 10 = some b16 ∧ (sK σ b16 = 5 ∧ (∀ x19 : Int32, x19 = sI (stI σ b4 4 x14) b16 4 → (wp_J6_bitCount_0f7a4 x19 (stI σ b4 4 x14) (fun (x22 : Int32) (σ21 : Sto) => (sK σ21 a0 = 8 ∧ (∃ b24 : Nat, sP σ21 a0 1 = some b24 ∧ (sK σ21 b24 = 4 ∧ (∀ x27 : Int32, x27 = sI σ21 b24 1 → ((x22 < x27 → Q σ21) ∧ (¬ x22 < x27 → (wp_X8_sendOthers a0 (7 : Int32) p2 (stI σ21 a0 8 p2) (fun (σ30 : Sto) => Q σ30))))))))))))))))))))))
set_option maxHeartbeats 4000000 in
set_option maxRecDepth 100000 in
theorem t_X8_hearSyncReply_56 {p : Program} {l : Launch} {e : Env} {s : State} {m : MethodId} {args : Array Value} {below : List Frame} {meth : Method} {c : Code} {D : va_G} {cy : Nat → ClassId} {A : Nat → Prop} {a0 : Nat} {Q : Sto → Prop} (C : Cx p s m args meth c D cy A cX8_hearSyncReply 3 RX8) (hr : meth.sig.returnType = none) (hnm : meth.name = yX8_hearSyncReply.name) (p1 : Option Nat) (p2 : Int32) (σ : Sto) (h : b_X8_hearSyncReply_56 a0  Q p1 p2 σ) (ls : Array Slot) (hl : lv_has ls 3 [(0, .ref a0), (1, va_rf p1), (2, .int p2)]) : Xw p l e rm_X8_hearSyncReply s m args below meth c D cy A σ 0 0 (MQ below (Qst D cy A (PsV Q)) args s rm_X8_hearSyncReply.cells rm_X8_hearSyncReply.slots A) (F0 m 56 ls []) := by
  unfold b_X8_hearSyncReply_56 at h
  refine x_aload_n C dX8_hearSyncReply_56 rfl (lv_at hl 0 rfl) ?_
  obtain ⟨g1, h⟩ := h
  refine x_getP C fl_RX8_51 g1 dX8_hearSyncReply_57 ?_
  refine x_topq (fun r2 e3 => ?_)
  have h := h r2 e3
  refine x_dup C dX8_hearSyncReply_60 (vrc _) ?_
  obtain ⟨b4, g5, h⟩ := h
  refine x_nn0 g5 ?_
  obtain ⟨g6, h⟩ := h
  refine x_getI C fl_RX8_211 g6 dX8_hearSyncReply_61 ?_
  refine x_topi (fun x7 e8 => ?_)
  have h := h x7 e8
  refine x_iconst (v := 1) C dX8_hearSyncReply_64 (by decide) ?_
  refine x_aload_nq C dX8_hearSyncReply_65 rfl (lv_at hl 1 rfl) ?_
  obtain ⟨b9, g10, h⟩ := h
  refine x_nn0 g10 ?_
  obtain ⟨g11, h⟩ := h
  refine x_getI C fl_RX8_84 g11 dX8_hearSyncReply_66 ?_
  refine x_topi (fun x12 e13 => ?_)
  have h := h x12 e13
  refine x_ishl C dX8_hearSyncReply_69 ?_
  refine x_ior C dX8_hearSyncReply_70 ?_
  refine x_topi (fun x14 e15 => ?_)
  have h := h x14 e15
  refine x_nn1 g5 ?_
  refine x_putI C fl_RX8_211 (Or.inl rfl) g6 dX8_hearSyncReply_71 ?_
  refine x_aload_n C dX8_hearSyncReply_74 rfl (lv_at hl 0 rfl) ?_
  refine x_getP C fl_RX8_51 g1 dX8_hearSyncReply_75 ?_
  obtain ⟨b16, g17, h⟩ := h
  refine x_nn0 g17 ?_
  obtain ⟨g18, h⟩ := h
  refine x_getI C fl_RX8_211 g18 dX8_hearSyncReply_78 ?_
  refine x_topi (fun x19 e20 => ?_)
  have h := h x19 e20
  refine x_callS (rm := rm_J6_bitCount_0f7a4) (rest := []) (As := [.int x19]) C cs_RX8_191 (by decide) (by decide) rfl rfl (Nat.le_of_ble_eq_true rfl) hl.1 dX8_hearSyncReply_81 (c_J6_bitCount_0f7a4 l D cy x19 (stI σ b4 4 x14) _ h) (ks_i (fun x22 σ21 h => ?_))
  refine x_aload_n C dX8_hearSyncReply_84 rfl (lv_at hl 0 rfl) ?_
  obtain ⟨g23, h⟩ := h
  refine x_getP C fl_RX8_33 g23 dX8_hearSyncReply_85 ?_
  obtain ⟨b24, g25, h⟩ := h
  refine x_nn0 g25 ?_
  obtain ⟨g26, h⟩ := h
  refine x_getI C fl_RX8_196 g26 dX8_hearSyncReply_88 ?_
  refine x_topi (fun x27 e28 => ?_)
  have h := h x27 e28
  refine x_icmp_lt (tgt := 106) C dX8_hearSyncReply_91 (by decide) (fun c29 => ?_) (fun c29 => ?_)
  · have h := h.1 c29
    exact x_vret C hr dX8_hearSyncReply_106 ⟨rfl, h⟩
  · have h := h.2 c29
    refine x_aload_n C dX8_hearSyncReply_94 rfl (lv_at hl 0 rfl) ?_
    refine x_iload_n C dX8_hearSyncReply_95 rfl (lv_at hl 2 rfl) ?_
    refine x_putI C fl_RX8_69 (Or.inl rfl) g23 dX8_hearSyncReply_96 ?_
    refine x_aload_n C dX8_hearSyncReply_99 rfl (lv_at hl 0 rfl) ?_
    refine x_bipush (v := 7) C dX8_hearSyncReply_100 (by decide) ?_
    refine x_iload_n C dX8_hearSyncReply_102 rfl (lv_at hl 2 rfl) ?_
    refine x_callV (rm := rm_X8_sendOthers) (rest := []) (As := [.int (7 : Int32), .int p2]) C cy_RX8_214 g23 (by decide) (by decide) rfl rfl (Nat.le_of_ble_eq_true rfl) hl.1 dX8_hearSyncReply_103 (c_X8_sendOthers l D cy a0 (7 : Int32) p2 (stI σ21 a0 8 p2) _ h) (ks_v (fun σ30 h => ?_))
    exact x_vret C hr dX8_hearSyncReply_106 ⟨rfl, h⟩
def wp_X8_hearSyncReply (a0 : Nat) (p1 : Option Nat) (σ : Sto) (Q : Sto → Prop) : Prop := (∃ b1 : Nat, p1 = some b1 ∧ (sK σ b1 = 3 ∧ (∀ x4 : Int32, x4 = sI σ b1 6 → (sK σ a0 = 8 ∧ (wp_X8_leads a0  σ (fun (x8 : Int32) (σ7 : Sto) => ((x8 = 0 → Q σ7) ∧ (¬ x8 = 0 → (sK σ7 a0 = 8 ∧ (∀ x11 : Int32, x11 = sI σ7 a0 4 → ((x11 = (2 : Int32) → Q σ7) ∧ (¬ x11 = (2 : Int32) → (∀ x14 : Int32, x14 = sI σ7 a0 8 → ((x14 < x4 → (∃ b17 : Nat, sP σ7 a0 10 = some b17 ∧ (sK σ7 b17 = 5 ∧ (∀ x20 : Int32, x20 = sI σ7 b17 5 → ((x4 = x20 → b_X8_hearSyncReply_56 a0  Q p1 x4 σ7) ∧ (¬ x4 = x20 → b_X8_hearSyncReply_56 a0  Q p1 x4 (stI (stI σ7 b17 5 x4) b17 4 (0 : Int32)))))))) ∧ (¬ x14 < x4 → Q σ7)))))))))))))))
set_option maxHeartbeats 4000000 in
set_option maxRecDepth 100000 in
theorem c_X8_hearSyncReply (l : Launch) (D : va_G) (cy : Nat → ClassId) (a0 : Nat) (p1 : Option Nat) (σ : Sto) (Q : Sto → Prop) (h : wp_X8_hearSyncReply a0 p1 σ Q) : Mt l D cy yX8_hearSyncReply cX8_hearSyncReply 3 none rm_X8_hearSyncReply [.ref a0, va_rf p1] σ (PsV Q) := by
  unfold wp_X8_hearSyncReply at h
  refine mt_of (by decide +kernel) (by simp [lg_sl, vrc, cat_i, cat_r, cat_l]) ?_
  intro p e s m args below meth c A ls C hr hnm hl
  have C : Cx p s m args meth c D cy A cX8_hearSyncReply 3 RX8 := C
  have hl : lv_has ls 3 [(0, .ref a0), (1, va_rf p1)] := by simpa [lv_args, vrc, cat_i, cat_r, cat_l] using hl
  refine x_aload_nq C dX8_hearSyncReply_0 rfl (lv_at hl 1 rfl) ?_
  obtain ⟨b1, g2, h⟩ := h
  refine x_nn0 g2 ?_
  obtain ⟨g3, h⟩ := h
  refine x_getI C fl_RX8_107 g3 dX8_hearSyncReply_1 ?_
  refine x_topi (fun x4 e5 => ?_)
  have h := h x4 e5
  refine x_istore_n (i := 2) (lv' := [(2, .int x4), (0, .ref a0), (1, va_rf p1)]) C dX8_hearSyncReply_4 rfl hl (by decide) (by first | rfl | simp [vrc, cat_i, cat_r, cat_l]) (fun ls hl => ?_)
  refine x_aload_n C dX8_hearSyncReply_5 rfl (lv_at hl 1 rfl) ?_
  obtain ⟨g6, h⟩ := h
  refine x_callV (rm := rm_X8_leads) (rest := []) (As := []) C cy_RX8_59 g6 (by decide) (by decide) rfl rfl (Nat.le_of_ble_eq_true rfl) hl.1 dX8_hearSyncReply_6 (c_X8_leads l D cy a0  σ _ h) (ks_i (fun x8 σ7 h => ?_))
  refine x_if_eq (tgt := 28) C dX8_hearSyncReply_9 (by decide) (fun c9 => ?_) (fun c9 => ?_)
  · have h := h.1 c9
    exact x_vret C hr dX8_hearSyncReply_28 ⟨rfl, h⟩
  · have h := h.2 c9
    refine x_aload_n C dX8_hearSyncReply_12 rfl (lv_at hl 1 rfl) ?_
    obtain ⟨g10, h⟩ := h
    refine x_getI C fl_RX8_63 g10 dX8_hearSyncReply_13 ?_
    refine x_topi (fun x11 e12 => ?_)
    have h := h x11 e12
    refine x_iconst (v := 2) C dX8_hearSyncReply_16 (by decide) ?_
    refine x_icmp_eq (tgt := 28) C dX8_hearSyncReply_17 (by decide) (fun c13 => ?_) (fun c13 => ?_)
    · have h := h.1 c13
      exact x_vret C hr dX8_hearSyncReply_28 ⟨rfl, h⟩
    · have h := h.2 c13
      refine x_iload_n C dX8_hearSyncReply_20 rfl (lv_at hl 0 rfl) ?_
      refine x_aload_n C dX8_hearSyncReply_21 rfl (lv_at hl 1 rfl) ?_
      refine x_getI C fl_RX8_69 g10 dX8_hearSyncReply_22 ?_
      refine x_topi (fun x14 e15 => ?_)
      have h := h x14 e15
      refine x_icmp_gt (tgt := 29) C dX8_hearSyncReply_25 (by decide) (fun c16 => ?_) (fun c16 => ?_)
      · have h := h.1 c16
        refine x_iload_n C dX8_hearSyncReply_29 rfl (lv_at hl 0 rfl) ?_
        refine x_aload_n C dX8_hearSyncReply_30 rfl (lv_at hl 1 rfl) ?_
        refine x_getP C fl_RX8_51 g10 dX8_hearSyncReply_31 ?_
        obtain ⟨b17, g18, h⟩ := h
        refine x_nn0 g18 ?_
        obtain ⟨g19, h⟩ := h
        refine x_getI C fl_RX8_208 g19 dX8_hearSyncReply_34 ?_
        refine x_topi (fun x20 e21 => ?_)
        have h := h x20 e21
        refine x_icmp_eq (tgt := 56) C dX8_hearSyncReply_37 (by decide) (fun c22 => ?_) (fun c22 => ?_)
        · have h := h.1 c22
          exact t_X8_hearSyncReply_56 C hr hnm  p1 x4 _ h ls (lv_sub hl [1, 2, 0] rfl)
        · have h := h.2 c22
          refine x_aload_n C dX8_hearSyncReply_40 rfl (lv_at hl 1 rfl) ?_
          refine x_getP C fl_RX8_51 g10 dX8_hearSyncReply_41 ?_
          refine x_iload_n C dX8_hearSyncReply_44 rfl (lv_at hl 0 rfl) ?_
          refine x_nn1 g18 ?_
          refine x_putI C fl_RX8_208 (Or.inl rfl) g19 dX8_hearSyncReply_45 ?_
          refine x_aload_n C dX8_hearSyncReply_48 rfl (lv_at hl 1 rfl) ?_
          refine x_getP C fl_RX8_51 g10 dX8_hearSyncReply_49 ?_
          refine x_iconst (v := 0) C dX8_hearSyncReply_52 (by decide) ?_
          refine x_nn1 g18 ?_
          refine x_putI C fl_RX8_211 (Or.inl rfl) g19 dX8_hearSyncReply_53 ?_
          exact t_X8_hearSyncReply_56 C hr hnm  p1 x4 _ h ls (lv_sub hl [1, 2, 0] rfl)
      · have h := h.2 c16
        exact x_vret C hr dX8_hearSyncReply_28 ⟨rfl, h⟩
theorem dX8_hearPoint_0 : decode cX8_hearPoint 0 = .ok (.aload_n 0, 1) := by decide +kernel
theorem dX8_hearPoint_1 : decode cX8_hearPoint 1 = .ok (.invokevirtual 59, 3) := by decide +kernel
theorem dX8_hearPoint_4 : decode cX8_hearPoint 4 = .ok (.ifCond .ne 32, 3) := by decide +kernel
theorem dX8_hearPoint_7 : decode cX8_hearPoint 7 = .ok (.aload_n 0, 1) := by decide +kernel
theorem dX8_hearPoint_8 : decode cX8_hearPoint 8 = .ok (.getfield 63, 3) := by decide +kernel
theorem dX8_hearPoint_11 : decode cX8_hearPoint 11 = .ok (.iconst 2, 1) := by decide +kernel
theorem dX8_hearPoint_12 : decode cX8_hearPoint 12 = .ok (.if_icmp .eq 24, 3) := by decide +kernel
theorem dX8_hearPoint_15 : decode cX8_hearPoint 15 = .ok (.iload_n 1, 1) := by decide +kernel
theorem dX8_hearPoint_16 : decode cX8_hearPoint 16 = .ok (.aload_n 0, 1) := by decide +kernel
theorem dX8_hearPoint_17 : decode cX8_hearPoint 17 = .ok (.getfield 69, 3) := by decide +kernel
theorem dX8_hearPoint_20 : decode cX8_hearPoint 20 = .ok (.if_icmp .le 16, 3) := by decide +kernel
theorem dX8_hearPoint_23 : decode cX8_hearPoint 23 = .ok (.aload_n 0, 1) := by decide +kernel
theorem dX8_hearPoint_24 : decode cX8_hearPoint 24 = .ok (.getfield 202, 3) := by decide +kernel
theorem dX8_hearPoint_27 : decode cX8_hearPoint 27 = .ok (.iload_n 1, 1) := by decide +kernel
theorem dX8_hearPoint_28 : decode cX8_hearPoint 28 = .ok (.if_icmp .lt 8, 3) := by decide +kernel
theorem dX8_hearPoint_31 : decode cX8_hearPoint 31 = .ok (.aload_n 0, 1) := by decide +kernel
theorem dX8_hearPoint_32 : decode cX8_hearPoint 32 = .ok (.iload_n 1, 1) := by decide +kernel
theorem dX8_hearPoint_33 : decode cX8_hearPoint 33 = .ok (.putfield 69, 3) := by decide +kernel
theorem dX8_hearPoint_36 : decode cX8_hearPoint 36 = .ok (.return_, 1) := by decide +kernel
abbrev rm_X8_hearPoint : Room := { frames := 3, cells := 0, slots := 0, locals := 64 }
def wp_X8_hearPoint (a0 : Nat) (p1 : Int32) (σ : Sto) (Q : Sto → Prop) : Prop := (sK σ a0 = 8 ∧ (wp_X8_leads a0  σ (fun (x3 : Int32) (σ2 : Sto) => ((¬ x3 = 0 → Q σ2) ∧ (x3 = 0 → (sK σ2 a0 = 8 ∧ (∀ x6 : Int32, x6 = sI σ2 a0 4 → ((x6 = (2 : Int32) → Q σ2) ∧ (¬ x6 = (2 : Int32) → (∀ x9 : Int32, x9 = sI σ2 a0 8 → ((p1 ≤ x9 → Q σ2) ∧ (¬ p1 ≤ x9 → (∀ x12 : Int32, x12 = sI σ2 a0 9 → ((x12 < p1 → Q σ2) ∧ (¬ x12 < p1 → Q (stI σ2 a0 8 p1))))))))))))))))
set_option maxHeartbeats 4000000 in
set_option maxRecDepth 100000 in
theorem c_X8_hearPoint (l : Launch) (D : va_G) (cy : Nat → ClassId) (a0 : Nat) (p1 : Int32) (σ : Sto) (Q : Sto → Prop) (h : wp_X8_hearPoint a0 p1 σ Q) : Mt l D cy yX8_hearPoint cX8_hearPoint 2 none rm_X8_hearPoint [.ref a0, .int p1] σ (PsV Q) := by
  unfold wp_X8_hearPoint at h
  refine mt_of (by decide +kernel) (Nat.le_of_ble_eq_true rfl) ?_
  intro p e s m args below meth c A ls C hr hnm hl
  have C : Cx p s m args meth c D cy A cX8_hearPoint 2 RX8 := C
  have hl : lv_has ls 2 [(0, .ref a0), (1, .int p1)] := hl
  refine x_aload_n C dX8_hearPoint_0 rfl (lv_at hl 0 rfl) ?_
  obtain ⟨g1, h⟩ := h
  refine x_callV (rm := rm_X8_leads) (rest := []) (As := []) C cy_RX8_59 g1 (by decide) (by decide) rfl rfl (Nat.le_of_ble_eq_true rfl) hl.1 dX8_hearPoint_1 (c_X8_leads l D cy a0  σ _ h) (ks_i (fun x3 σ2 h => ?_))
  refine x_if_ne (tgt := 36) C dX8_hearPoint_4 (by decide) (fun c4 => ?_) (fun c4 => ?_)
  · have h := h.1 c4
    exact x_vret C hr dX8_hearPoint_36 ⟨rfl, h⟩
  · have h := h.2 c4
    refine x_aload_n C dX8_hearPoint_7 rfl (lv_at hl 0 rfl) ?_
    obtain ⟨g5, h⟩ := h
    refine x_getI C fl_RX8_63 g5 dX8_hearPoint_8 ?_
    refine x_topi (fun x6 e7 => ?_)
    have h := h x6 e7
    refine x_iconst (v := 2) C dX8_hearPoint_11 (by decide) ?_
    refine x_icmp_eq (tgt := 36) C dX8_hearPoint_12 (by decide) (fun c8 => ?_) (fun c8 => ?_)
    · have h := h.1 c8
      exact x_vret C hr dX8_hearPoint_36 ⟨rfl, h⟩
    · have h := h.2 c8
      refine x_iload_n C dX8_hearPoint_15 rfl (lv_at hl 1 rfl) ?_
      refine x_aload_n C dX8_hearPoint_16 rfl (lv_at hl 0 rfl) ?_
      refine x_getI C fl_RX8_69 g5 dX8_hearPoint_17 ?_
      refine x_topi (fun x9 e10 => ?_)
      have h := h x9 e10
      refine x_icmp_le (tgt := 36) C dX8_hearPoint_20 (by decide) (fun c11 => ?_) (fun c11 => ?_)
      · have h := h.1 c11
        exact x_vret C hr dX8_hearPoint_36 ⟨rfl, h⟩
      · have h := h.2 c11
        refine x_aload_n C dX8_hearPoint_23 rfl (lv_at hl 0 rfl) ?_
        refine x_getI C fl_RX8_202 g5 dX8_hearPoint_24 ?_
        refine x_topi (fun x12 e13 => ?_)
        have h := h x12 e13
        refine x_iload_n C dX8_hearPoint_27 rfl (lv_at hl 1 rfl) ?_
        refine x_icmp_lt (tgt := 36) C dX8_hearPoint_28 (by decide) (fun c14 => ?_) (fun c14 => ?_)
        · have h := h.1 c14
          exact x_vret C hr dX8_hearPoint_36 ⟨rfl, h⟩
        · have h := h.2 c14
          refine x_aload_n C dX8_hearPoint_31 rfl (lv_at hl 0 rfl) ?_
          refine x_iload_n C dX8_hearPoint_32 rfl (lv_at hl 1 rfl) ?_
          refine x_putI C fl_RX8_69 (Or.inl rfl) g5 dX8_hearPoint_33 ?_
          exact x_vret C hr dX8_hearPoint_36 ⟨rfl, h⟩
theorem dJ9_max_f86c9_0 : decode cJ9_max_f86c9 0 = .ok (.lload_n 0, 1) := by decide +kernel
theorem dJ9_max_f86c9_1 : decode cJ9_max_f86c9 1 = .ok (.lload_n 2, 1) := by decide +kernel
theorem dJ9_max_f86c9_2 : decode cJ9_max_f86c9 2 = .ok (.lcmp, 1) := by decide +kernel
theorem dJ9_max_f86c9_3 : decode cJ9_max_f86c9 3 = .ok (.ifCond .lt 7, 3) := by decide +kernel
theorem dJ9_max_f86c9_6 : decode cJ9_max_f86c9 6 = .ok (.lload_n 0, 1) := by decide +kernel
theorem dJ9_max_f86c9_7 : decode cJ9_max_f86c9 7 = .ok (.goto 4, 3) := by decide +kernel
theorem dJ9_max_f86c9_10 : decode cJ9_max_f86c9 10 = .ok (.lload_n 2, 1) := by decide +kernel
theorem dJ9_max_f86c9_11 : decode cJ9_max_f86c9 11 = .ok (.lreturn, 1) := by decide +kernel
abbrev rm_J9_max_f86c9 : Room := { frames := 0, cells := 0, slots := 0, locals := 0 }
def wp_J9_max_f86c9 (p0 : Int64) (p2 : Int64) (σ : Sto) (Q : Int64 → Sto → Prop) : Prop := (((lg_cmp p0 p2) < 0 → Q p2 σ) ∧ (¬ (lg_cmp p0 p2) < 0 → Q p0 σ))
set_option maxHeartbeats 4000000 in
set_option maxRecDepth 100000 in
theorem c_J9_max_f86c9 (l : Launch) (D : va_G) (cy : Nat → ClassId) (p0 : Int64) (p2 : Int64) (σ : Sto) (Q : Int64 → Sto → Prop) (h : wp_J9_max_f86c9 p0 p2 σ Q) : Mt l D cy yJ9_max_f86c9 cJ9_max_f86c9 4 (some .long) rm_J9_max_f86c9 [.long p0, .long p2] σ (PsJ Q) := by
  unfold wp_J9_max_f86c9 at h
  refine mt_ofF (by decide +kernel) (Nat.le_of_ble_eq_true rfl) ?_
  intro p e s m args below meth c A ls C hr hnm hl
  have C : Cx p s m args meth c D cy A cJ9_max_f86c9 4 RJ9 := C
  have hl : lv_has ls 4 [(0, .long p0), (2, .long p2)] := hl
  refine x_lload_n C dJ9_max_f86c9_0 rfl (lv_at hl 0 rfl) ?_
  refine x_lload_n C dJ9_max_f86c9_1 rfl (lv_at hl 1 rfl) ?_
  refine x_lcmp C dJ9_max_f86c9_2 ?_
  refine x_if_lt (tgt := 10) C dJ9_max_f86c9_3 (by decide) (fun c1 => ?_) (fun c1 => ?_)
  · have h := h.1 c1
    refine x_lload_n C dJ9_max_f86c9_10 rfl (lv_at hl 1 rfl) ?_
    exact x_lret C hr dJ9_max_f86c9_11 ⟨_, rfl, h⟩
  · have h := h.2 c1
    refine x_lload_n C dJ9_max_f86c9_6 rfl (lv_at hl 0 rfl) ?_
    refine x_goto (tgt := 11) C dJ9_max_f86c9_7 (by decide) ?_
    exact x_lret C hr dJ9_max_f86c9_11 ⟨_, rfl, h⟩
theorem dX8_mergedEntry_0 : decode cX8_mergedEntry 0 = .ok (.aload_n 0, 1) := by decide +kernel
theorem dX8_mergedEntry_1 : decode cX8_mergedEntry 1 = .ok (.getfield 19, 3) := by decide +kernel
theorem dX8_mergedEntry_4 : decode cX8_mergedEntry 4 = .ok (.lload_n 2, 1) := by decide +kernel
theorem dX8_mergedEntry_5 : decode cX8_mergedEntry 5 = .ok (.lcmp, 1) := by decide +kernel
theorem dX8_mergedEntry_6 : decode cX8_mergedEntry 6 = .ok (.ifCond .ne 18, 3) := by decide +kernel
theorem dX8_mergedEntry_9 : decode cX8_mergedEntry 9 = .ok (.aload_n 0, 1) := by decide +kernel
theorem dX8_mergedEntry_10 : decode cX8_mergedEntry 10 = .ok (.getfield 25, 3) := by decide +kernel
theorem dX8_mergedEntry_13 : decode cX8_mergedEntry 13 = .ok (.iload_n 1, 1) := by decide +kernel
theorem dX8_mergedEntry_14 : decode cX8_mergedEntry 14 = .ok (.invokevirtual 163, 3) := by decide +kernel
theorem dX8_mergedEntry_17 : decode cX8_mergedEntry 17 = .ok (.ifCond .eq 7, 3) := by decide +kernel
theorem dX8_mergedEntry_20 : decode cX8_mergedEntry 20 = .ok (.iconst 1, 1) := by decide +kernel
theorem dX8_mergedEntry_21 : decode cX8_mergedEntry 21 = .ok (.goto 4, 3) := by decide +kernel
theorem dX8_mergedEntry_24 : decode cX8_mergedEntry 24 = .ok (.iconst 0, 1) := by decide +kernel
theorem dX8_mergedEntry_25 : decode cX8_mergedEntry 25 = .ok (.istore 4, 2) := by decide +kernel
theorem dX8_mergedEntry_27 : decode cX8_mergedEntry 27 = .ok (.iload 4, 2) := by decide +kernel
theorem dX8_mergedEntry_29 : decode cX8_mergedEntry 29 = .ok (.ifCond .eq 14, 3) := by decide +kernel
theorem dX8_mergedEntry_32 : decode cX8_mergedEntry 32 = .ok (.aload_n 0, 1) := by decide +kernel
theorem dX8_mergedEntry_33 : decode cX8_mergedEntry 33 = .ok (.getfield 25, 3) := by decide +kernel
theorem dX8_mergedEntry_36 : decode cX8_mergedEntry 36 = .ok (.iload_n 1, 1) := by decide +kernel
theorem dX8_mergedEntry_37 : decode cX8_mergedEntry 37 = .ok (.invokevirtual 167, 3) := by decide +kernel
theorem dX8_mergedEntry_40 : decode cX8_mergedEntry 40 = .ok (.goto 4, 3) := by decide +kernel
theorem dX8_mergedEntry_43 : decode cX8_mergedEntry 43 = .ok (.aconst_null, 1) := by decide +kernel
theorem dX8_mergedEntry_44 : decode cX8_mergedEntry 44 = .ok (.astore 5, 2) := by decide +kernel
theorem dX8_mergedEntry_46 : decode cX8_mergedEntry 46 = .ok (.iload 4, 2) := by decide +kernel
theorem dX8_mergedEntry_48 : decode cX8_mergedEntry 48 = .ok (.ifCond .eq 10, 3) := by decide +kernel
theorem dX8_mergedEntry_51 : decode cX8_mergedEntry 51 = .ok (.aload 5, 2) := by decide +kernel
theorem dX8_mergedEntry_53 : decode cX8_mergedEntry 53 = .ok (.ifnonnull 5, 3) := by decide +kernel
theorem dX8_mergedEntry_56 : decode cX8_mergedEntry 56 = .ok (.aconst_null, 1) := by decide +kernel
theorem dX8_mergedEntry_57 : decode cX8_mergedEntry 57 = .ok (.areturn, 1) := by decide +kernel
theorem dX8_mergedEntry_58 : decode cX8_mergedEntry 58 = .ok (.iconst 0, 1) := by decide +kernel
theorem dX8_mergedEntry_59 : decode cX8_mergedEntry 59 = .ok (.istore 6, 2) := by decide +kernel
theorem dX8_mergedEntry_61 : decode cX8_mergedEntry 61 = .ok (.iload 6, 2) := by decide +kernel
theorem dX8_mergedEntry_63 : decode cX8_mergedEntry 63 = .ok (.aload_n 0, 1) := by decide +kernel
theorem dX8_mergedEntry_64 : decode cX8_mergedEntry 64 = .ok (.getfield 33, 3) := by decide +kernel
theorem dX8_mergedEntry_67 : decode cX8_mergedEntry 67 = .ok (.getfield 43, 3) := by decide +kernel
theorem dX8_mergedEntry_70 : decode cX8_mergedEntry 70 = .ok (.if_icmp .ge 76, 3) := by decide +kernel
theorem dX8_mergedEntry_73 : decode cX8_mergedEntry 73 = .ok (.aload_n 0, 1) := by decide +kernel
theorem dX8_mergedEntry_74 : decode cX8_mergedEntry 74 = .ok (.getfield 51, 3) := by decide +kernel
theorem dX8_mergedEntry_77 : decode cX8_mergedEntry 77 = .ok (.iload 6, 2) := by decide +kernel
theorem dX8_mergedEntry_79 : decode cX8_mergedEntry 79 = .ok (.lload_n 2, 1) := by decide +kernel
theorem dX8_mergedEntry_80 : decode cX8_mergedEntry 80 = .ok (.invokevirtual 290, 3) := by decide +kernel
theorem dX8_mergedEntry_83 : decode cX8_mergedEntry 83 = .ok (.ifCond .eq 57, 3) := by decide +kernel
theorem dX8_mergedEntry_86 : decode cX8_mergedEntry 86 = .ok (.aload_n 0, 1) := by decide +kernel
theorem dX8_mergedEntry_87 : decode cX8_mergedEntry 87 = .ok (.getfield 51, 3) := by decide +kernel
theorem dX8_mergedEntry_90 : decode cX8_mergedEntry 90 = .ok (.getfield 294, 3) := by decide +kernel
theorem dX8_mergedEntry_93 : decode cX8_mergedEntry 93 = .ok (.iload 6, 2) := by decide +kernel
theorem dX8_mergedEntry_95 : decode cX8_mergedEntry 95 = .ok (.aaload, 1) := by decide +kernel
theorem dX8_mergedEntry_96 : decode cX8_mergedEntry 96 = .ok (.iload_n 1, 1) := by decide +kernel
theorem dX8_mergedEntry_97 : decode cX8_mergedEntry 97 = .ok (.invokevirtual 163, 3) := by decide +kernel
theorem dX8_mergedEntry_100 : decode cX8_mergedEntry 100 = .ok (.ifCond .eq 40, 3) := by decide +kernel
theorem dX8_mergedEntry_103 : decode cX8_mergedEntry 103 = .ok (.aload_n 0, 1) := by decide +kernel
theorem dX8_mergedEntry_104 : decode cX8_mergedEntry 104 = .ok (.getfield 51, 3) := by decide +kernel
theorem dX8_mergedEntry_107 : decode cX8_mergedEntry 107 = .ok (.getfield 294, 3) := by decide +kernel
theorem dX8_mergedEntry_110 : decode cX8_mergedEntry 110 = .ok (.iload 6, 2) := by decide +kernel
theorem dX8_mergedEntry_112 : decode cX8_mergedEntry 112 = .ok (.aaload, 1) := by decide +kernel
theorem dX8_mergedEntry_113 : decode cX8_mergedEntry 113 = .ok (.iload_n 1, 1) := by decide +kernel
theorem dX8_mergedEntry_114 : decode cX8_mergedEntry 114 = .ok (.invokevirtual 167, 3) := by decide +kernel
theorem dX8_mergedEntry_117 : decode cX8_mergedEntry 117 = .ok (.astore 7, 2) := by decide +kernel
theorem dX8_mergedEntry_119 : decode cX8_mergedEntry 119 = .ok (.aload 7, 2) := by decide +kernel
theorem dX8_mergedEntry_121 : decode cX8_mergedEntry 121 = .ok (.ifnonnull 5, 3) := by decide +kernel
theorem dX8_mergedEntry_124 : decode cX8_mergedEntry 124 = .ok (.aconst_null, 1) := by decide +kernel
theorem dX8_mergedEntry_125 : decode cX8_mergedEntry 125 = .ok (.areturn, 1) := by decide +kernel
theorem dX8_mergedEntry_126 : decode cX8_mergedEntry 126 = .ok (.aload 5, 2) := by decide +kernel
theorem dX8_mergedEntry_128 : decode cX8_mergedEntry 128 = .ok (.ifnonnull 8, 3) := by decide +kernel
theorem dX8_mergedEntry_131 : decode cX8_mergedEntry 131 = .ok (.aload 7, 2) := by decide +kernel
theorem dX8_mergedEntry_133 : decode cX8_mergedEntry 133 = .ok (.goto 5, 3) := by decide +kernel
theorem dX8_mergedEntry_136 : decode cX8_mergedEntry 136 = .ok (.aload 5, 2) := by decide +kernel
theorem dX8_mergedEntry_138 : decode cX8_mergedEntry 138 = .ok (.astore 5, 2) := by decide +kernel
theorem dX8_mergedEntry_140 : decode cX8_mergedEntry 140 = .ok (.iinc 6 1, 3) := by decide +kernel
theorem dX8_mergedEntry_143 : decode cX8_mergedEntry 143 = .ok (.goto (-82), 3) := by decide +kernel
theorem dX8_mergedEntry_146 : decode cX8_mergedEntry 146 = .ok (.aload 5, 2) := by decide +kernel
theorem dX8_mergedEntry_148 : decode cX8_mergedEntry 148 = .ok (.areturn, 1) := by decide +kernel
abbrev rm_X8_mergedEntry : Room := { frames := 2, cells := 0, slots := 0, locals := 42 }
def b_X8_mergedEntry_140 (a0 : Nat) (L61 : Int32 × Int64 × Option Nat × Int32 → Sto → Prop) (Q : Option Nat → Sto → Prop) (p1 : Int32) (p2 : Int64) (p5 : Option Nat) (p6 : Int32) (σ : Sto) : Prop := (∀ x1 : Int32, x1 = p6 + (1 : Int32) → L61 (p1, p2, p5, x1) σ)
set_option maxHeartbeats 4000000 in
set_option maxRecDepth 100000 in
theorem t_X8_mergedEntry_140 {p : Program} {l : Launch} {e : Env} {s : State} {m : MethodId} {args : Array Value} {below : List Frame} {meth : Method} {c : Code} {D : va_G} {cy : Nat → ClassId} {A : Nat → Prop} {a0 : Nat} {L61 : Int32 × Int64 × Option Nat × Int32 → Sto → Prop} {Q : Option Nat → Sto → Prop} (C : Cx p s m args meth c D cy A cX8_mergedEntry 8 RX8) (hr : meth.sig.returnType = (some (.object "OrderedWorks$Request"))) (hnm : meth.name = yX8_mergedEntry.name) (hL61 : ∀ (t : Int32 × Int64 × Option Nat × Int32) (σ : Sto), L61 t σ → ∀ ls : Array Slot, lv_has ls 8 [(0, .ref a0), (1, .int t.1), (2, .long t.2.1), (5, va_rf t.2.2.1), (6, .int t.2.2.2)] → Xw p l e rm_X8_mergedEntry s m args below meth c D cy A σ 0 0 (MQ below (Qst D cy A (PsP Q)) args s rm_X8_mergedEntry.cells rm_X8_mergedEntry.slots A) (F0 m 61 ls [])) (p1 : Int32) (p2 : Int64) (p5 : Option Nat) (p6 : Int32) (σ : Sto) (h : b_X8_mergedEntry_140 a0 L61 Q p1 p2 p5 p6 σ) (ls : Array Slot) (hl : lv_has ls 8 [(0, .ref a0), (1, .int p1), (2, .long p2), (5, va_rf p5), (6, .int p6)]) : Xw p l e rm_X8_mergedEntry s m args below meth c D cy A σ 0 0 (MQ below (Qst D cy A (PsP Q)) args s rm_X8_mergedEntry.cells rm_X8_mergedEntry.slots A) (F0 m 140 ls []) := by
  unfold b_X8_mergedEntry_140 at h
  obtain ⟨x1, e2⟩ : ∃ z : Int32, z = p6 + (1 : Int32) := ⟨_, rfl⟩
  have h := h x1 e2
  refine x_iinc (v := x1) (lv' := [(6, .int x1), (0, .ref a0), (1, .int p1), (2, .long p2), (5, va_rf p5)]) C dX8_mergedEntry_140 hl (q0 := 4) rfl (by rw [e2]; rfl) (by decide) (by first | rfl | simp [vrc, cat_i, cat_r, cat_l]) (fun ls hl => ?_)
  refine x_goto (tgt := 61) C dX8_mergedEntry_143 (by decide) ?_
  exact hL61 (p1, p2, p5, x1) _ h ls (lv_sub hl [1, 2, 3, 4, 0] rfl)
def b_X8_mergedEntry_138 (a0 : Nat) (L61 : Int32 × Int64 × Option Nat × Int32 → Sto → Prop) (Q : Option Nat → Sto → Prop) (p1 : Int32) (p2 : Int64) (p6 : Int32) (s0 : Option Nat) (σ : Sto) : Prop := b_X8_mergedEntry_140 a0 L61 Q p1 p2 s0 p6 σ
set_option maxHeartbeats 4000000 in
set_option maxRecDepth 100000 in
theorem t_X8_mergedEntry_138 {p : Program} {l : Launch} {e : Env} {s : State} {m : MethodId} {args : Array Value} {below : List Frame} {meth : Method} {c : Code} {D : va_G} {cy : Nat → ClassId} {A : Nat → Prop} {a0 : Nat} {L61 : Int32 × Int64 × Option Nat × Int32 → Sto → Prop} {Q : Option Nat → Sto → Prop} (C : Cx p s m args meth c D cy A cX8_mergedEntry 8 RX8) (hr : meth.sig.returnType = (some (.object "OrderedWorks$Request"))) (hnm : meth.name = yX8_mergedEntry.name) (hL61 : ∀ (t : Int32 × Int64 × Option Nat × Int32) (σ : Sto), L61 t σ → ∀ ls : Array Slot, lv_has ls 8 [(0, .ref a0), (1, .int t.1), (2, .long t.2.1), (5, va_rf t.2.2.1), (6, .int t.2.2.2)] → Xw p l e rm_X8_mergedEntry s m args below meth c D cy A σ 0 0 (MQ below (Qst D cy A (PsP Q)) args s rm_X8_mergedEntry.cells rm_X8_mergedEntry.slots A) (F0 m 61 ls [])) (p1 : Int32) (p2 : Int64) (p6 : Int32) (s0 : Option Nat) (σ : Sto) (h : b_X8_mergedEntry_138 a0 L61 Q p1 p2 p6 s0 σ) (ls : Array Slot) (hl : lv_has ls 8 [(0, .ref a0), (1, .int p1), (2, .long p2), (6, .int p6)]) : Xw p l e rm_X8_mergedEntry s m args below meth c D cy A σ 0 0 (MQ below (Qst D cy A (PsP Q)) args s rm_X8_mergedEntry.cells rm_X8_mergedEntry.slots A) (F0 m 138 ls [va_rf s0]) := by
  unfold b_X8_mergedEntry_138 at h
  refine x_astoreq (i := 5) (lv' := [(5, va_rf s0), (0, .ref a0), (1, .int p1), (2, .long p2), (6, .int p6)]) C dX8_mergedEntry_138 hl (by decide) (by first | rfl | simp [vrc, cat_i, cat_r, cat_l]) (fun ls hl => ?_)
  exact t_X8_mergedEntry_140 C hr hnm hL61 p1 p2 s0 p6 _ h ls (lv_sub hl [1, 2, 3, 0, 4] rfl)
def f_X8_mergedEntry_61 (a0 : Nat)  (Q : Option Nat → Sto → Prop) (L61 : Int32 × Int64 × Option Nat × Int32 → Sto → Prop) (t : Int32 × Int64 × Option Nat × Int32) (σ : Sto) : Prop := (sK σ a0 = 8 ∧ (∃ b2 : Nat, sP σ a0 1 = some b2 ∧ (sK σ b2 = 4 ∧ (∀ x5 : Int32, x5 = sI σ b2 0 → ((x5 ≤ t.2.2.2 → Q t.2.2.1 σ) ∧ (¬ x5 ≤ t.2.2.2 → (∃ b8 : Nat, sP σ a0 10 = some b8 ∧ (sK σ b8 = 5 ∧ (wp_X5_looksAt b8 t.2.2.2 t.2.1 σ (fun (x12 : Int32) (σ11 : Sto) => ((x12 = 0 → b_X8_mergedEntry_140 a0 L61 Q t.1 t.2.1 t.2.2.1 t.2.2.2 σ11) ∧ (¬ x12 = 0 → (sK σ11 a0 = 8 ∧ (∃ b15 : Nat, sP σ11 a0 10 = some b15 ∧ (sK σ11 b15 = 5 ∧ (∃ b18 : Nat, sP σ11 b15 8 = some b18 ∧ (sK σ11 b18 = 18 ∧ (vp_in t.2.2.2 (sN σ11 b18) ∧ (∀ r22 : Option Nat, r22 = sP σ11 b18 t.2.2.2.toNatClampNeg → (∃ b24 : Nat, r22 = some b24 ∧ (sK σ11 b24 = 2 ∧ (wp_X2_has b24 t.1 σ11 (fun (x28 : Int32) (σ27 : Sto) => ((x28 = 0 → b_X8_mergedEntry_140 a0 L61 Q t.1 t.2.1 t.2.2.1 t.2.2.2 σ27) ∧ (¬ x28 = 0 → (sK σ27 a0 = 8 ∧ (∃ b31 : Nat, sP σ27 a0 10 = some b31 ∧ (sK σ27 b31 = 5 ∧ (∃ b34 : Nat, sP σ27 b31 8 = some b34 ∧ (sK σ27 b34 = 18 ∧ (vp_in t.2.2.2 (sN σ27 b34) ∧ (∀ r38 : Option Nat, r38 = sP σ27 b34 t.2.2.2.toNatClampNeg → (∃ b40 : Nat, r38 = some b40 ∧ (sK σ27 b40 = 2 ∧ (wp_X2_at b40 t.1 σ27 (fun (r44 : Option Nat) (σ43 : Sto) => ((r44 = none → Q none σ43) ∧ (∀ b46 : Nat, r44 = some b46 → ((t.2.2.1 = none → b_X8_mergedEntry_138 a0 L61 Q t.1 t.2.1 t.2.2.2 r44 σ43) ∧ (∀ b49 : Nat, t.2.2.1 = some b49 → b_X8_mergedEntry_138 a0 L61 Q t.1 t.2.1 t.2.2.2 t.2.2.1 σ43))))))))))))))))))))))))))))))))))))))))
set_option maxHeartbeats 4000000 in
set_option maxRecDepth 100000 in
theorem t_X8_mergedEntry_61 {p : Program} {l : Launch} {e : Env} {s : State} {m : MethodId} {args : Array Value} {below : List Frame} {meth : Method} {c : Code} {D : va_G} {cy : Nat → ClassId} {A : Nat → Prop} {a0 : Nat} {Q : Option Nat → Sto → Prop} {L61 : Int32 × Int64 × Option Nat × Int32 → Sto → Prop} (C : Cx p s m args meth c D cy A cX8_mergedEntry 8 RX8) (hr : meth.sig.returnType = (some (.object "OrderedWorks$Request"))) (hnm : meth.name = yX8_mergedEntry.name) (hL61 : ∀ (t : Int32 × Int64 × Option Nat × Int32) (σ : Sto), L61 t σ → ∀ ls : Array Slot, lv_has ls 8 [(0, .ref a0), (1, .int t.1), (2, .long t.2.1), (5, va_rf t.2.2.1), (6, .int t.2.2.2)] → Xw p l e rm_X8_mergedEntry s m args below meth c D cy A σ 0 0 (MQ below (Qst D cy A (PsP Q)) args s rm_X8_mergedEntry.cells rm_X8_mergedEntry.slots A) (F0 m 61 ls [])) : ∀ (t : Int32 × Int64 × Option Nat × Int32) (σ : Sto), f_X8_mergedEntry_61 a0  Q L61 t σ → ∀ ls : Array Slot, lv_has ls 8 [(0, .ref a0), (1, .int t.1), (2, .long t.2.1), (5, va_rf t.2.2.1), (6, .int t.2.2.2)] → Xw p l e rm_X8_mergedEntry s m args below meth c D cy A σ 0 0 (MQ below (Qst D cy A (PsP Q)) args s rm_X8_mergedEntry.cells rm_X8_mergedEntry.slots A) (F0 m 61 ls []) := by
  intro t σ h ls hl
  unfold f_X8_mergedEntry_61 at h
  refine x_iload C dX8_mergedEntry_61 (lv_at hl 4 rfl) ?_
  refine x_aload_n C dX8_mergedEntry_63 rfl (lv_at hl 0 rfl) ?_
  obtain ⟨g1, h⟩ := h
  refine x_getP C fl_RX8_33 g1 dX8_mergedEntry_64 ?_
  obtain ⟨b2, g3, h⟩ := h
  refine x_nn0 g3 ?_
  obtain ⟨g4, h⟩ := h
  refine x_getI C fl_RX8_43 g4 dX8_mergedEntry_67 ?_
  refine x_topi (fun x5 e6 => ?_)
  have h := h x5 e6
  refine x_icmp_ge (tgt := 146) C dX8_mergedEntry_70 (by decide) (fun c7 => ?_) (fun c7 => ?_)
  · have h := h.1 c7
    refine x_aloadq C dX8_mergedEntry_146 (lv_at hl 3 rfl) ?_
    exact x_aret (v := t.2.2.1) C hr dX8_mergedEntry_148 ⟨_, rfl, h⟩
  · have h := h.2 c7
    refine x_aload_n C dX8_mergedEntry_73 rfl (lv_at hl 0 rfl) ?_
    refine x_getP C fl_RX8_51 g1 dX8_mergedEntry_74 ?_
    refine x_iload C dX8_mergedEntry_77 (lv_at hl 4 rfl) ?_
    refine x_lload_n C dX8_mergedEntry_79 rfl (lv_at hl 2 rfl) ?_
    obtain ⟨b8, g9, h⟩ := h
    refine x_nn2 g9 ?_
    obtain ⟨g10, h⟩ := h
    refine x_callV (rm := rm_X5_looksAt) (rest := []) (As := [.int t.2.2.2, .long t.2.1]) C cy_RX8_290 g10 (by decide) (by decide) rfl rfl (Nat.le_of_ble_eq_true rfl) hl.1 dX8_mergedEntry_80 (c_X5_looksAt l D cy b8 t.2.2.2 t.2.1 σ _ h) (ks_i (fun x12 σ11 h => ?_))
    refine x_if_eq (tgt := 140) C dX8_mergedEntry_83 (by decide) (fun c13 => ?_) (fun c13 => ?_)
    · have h := h.1 c13
      exact t_X8_mergedEntry_140 C hr hnm hL61 t.1 t.2.1 t.2.2.1 t.2.2.2 _ h ls (lv_sub hl [0, 1, 2, 3, 4] rfl)
    · have h := h.2 c13
      refine x_aload_n C dX8_mergedEntry_86 rfl (lv_at hl 0 rfl) ?_
      obtain ⟨g14, h⟩ := h
      refine x_getP C fl_RX8_51 g14 dX8_mergedEntry_87 ?_
      obtain ⟨b15, g16, h⟩ := h
      refine x_nn0 g16 ?_
      obtain ⟨g17, h⟩ := h
      refine x_getP C fl_RX8_294 g17 dX8_mergedEntry_90 ?_
      refine x_iload C dX8_mergedEntry_93 (lv_at hl 4 rfl) ?_
      obtain ⟨b18, g19, h⟩ := h
      refine x_nn1 g19 ?_
      obtain ⟨g20, h⟩ := h
      obtain ⟨g21, h⟩ := h
      refine x_aald C rak_18 g20 g21 dX8_mergedEntry_95 ?_
      refine x_topq (fun r22 e23 => ?_)
      have h := h r22 e23
      refine x_iload_n C dX8_mergedEntry_96 rfl (lv_at hl 1 rfl) ?_
      obtain ⟨b24, g25, h⟩ := h
      refine x_nn1 g25 ?_
      obtain ⟨g26, h⟩ := h
      refine x_callV (rm := rm_X2_has) (rest := []) (As := [.int t.1]) C cy_RX8_163 g26 (by decide) (by decide) rfl rfl (Nat.le_of_ble_eq_true rfl) hl.1 dX8_mergedEntry_97 (c_X2_has l D cy b24 t.1 σ11 _ h) (ks_i (fun x28 σ27 h => ?_))
      refine x_if_eq (tgt := 140) C dX8_mergedEntry_100 (by decide) (fun c29 => ?_) (fun c29 => ?_)
      · have h := h.1 c29
        exact t_X8_mergedEntry_140 C hr hnm hL61 t.1 t.2.1 t.2.2.1 t.2.2.2 _ h ls (lv_sub hl [0, 1, 2, 3, 4] rfl)
      · have h := h.2 c29
        refine x_aload_n C dX8_mergedEntry_103 rfl (lv_at hl 0 rfl) ?_
        obtain ⟨g30, h⟩ := h
        refine x_getP C fl_RX8_51 g30 dX8_mergedEntry_104 ?_
        obtain ⟨b31, g32, h⟩ := h
        refine x_nn0 g32 ?_
        obtain ⟨g33, h⟩ := h
        refine x_getP C fl_RX8_294 g33 dX8_mergedEntry_107 ?_
        refine x_iload C dX8_mergedEntry_110 (lv_at hl 4 rfl) ?_
        obtain ⟨b34, g35, h⟩ := h
        refine x_nn1 g35 ?_
        obtain ⟨g36, h⟩ := h
        obtain ⟨g37, h⟩ := h
        refine x_aald C rak_18 g36 g37 dX8_mergedEntry_112 ?_
        refine x_topq (fun r38 e39 => ?_)
        have h := h r38 e39
        refine x_iload_n C dX8_mergedEntry_113 rfl (lv_at hl 1 rfl) ?_
        obtain ⟨b40, g41, h⟩ := h
        refine x_nn1 g41 ?_
        obtain ⟨g42, h⟩ := h
        refine x_callV (rm := rm_X2_at) (rest := []) (As := [.int t.1]) C cy_RX8_167 g42 (by decide) (by decide) rfl rfl (Nat.le_of_ble_eq_true rfl) hl.1 dX8_mergedEntry_114 (c_X2_at l D cy b40 t.1 σ27 _ h) (ks_p (fun r44 σ43 h => ?_))
        refine x_astoreq (i := 7) (lv' := [(7, va_rf r44), (0, .ref a0), (1, .int t.1), (2, .long t.2.1), (5, va_rf t.2.2.1), (6, .int t.2.2.2)]) C dX8_mergedEntry_117 hl (by decide) (by first | rfl | simp [vrc, cat_i, cat_r, cat_l]) (fun ls hl => ?_)
        refine x_aloadq C dX8_mergedEntry_119 (lv_at hl 0 rfl) ?_
        refine x_ifnonnull (tgt := 126) C dX8_mergedEntry_121 (by decide) (fun c45 => ?_) (fun c45 => ?_)
        · obtain ⟨b46, g47⟩ := Option.ne_none_iff_exists'.mp c45
          have h := h.2 b46 g47
          refine x_aloadq C dX8_mergedEntry_126 (lv_at hl 4 rfl) ?_
          refine x_ifnonnull (tgt := 136) C dX8_mergedEntry_128 (by decide) (fun c48 => ?_) (fun c48 => ?_)
          · obtain ⟨b49, g50⟩ := Option.ne_none_iff_exists'.mp c48
            have h := h.2 b49 g50
            refine x_aloadq C dX8_mergedEntry_136 (lv_at hl 4 rfl) ?_
            exact t_X8_mergedEntry_138 C hr hnm hL61 t.1 t.2.1 t.2.2.2 t.2.2.1 _ h ls (lv_sub hl [1, 2, 3, 5] rfl)
          · have h := h.1 c48
            refine x_aloadq C dX8_mergedEntry_131 (lv_at hl 0 rfl) ?_
            refine x_goto (tgt := 138) C dX8_mergedEntry_133 (by decide) ?_
            exact t_X8_mergedEntry_138 C hr hnm hL61 t.1 t.2.1 t.2.2.2 r44 _ h ls (lv_sub hl [1, 2, 3, 5] rfl)
        · have h := h.1 c45
          refine x_null C dX8_mergedEntry_124 ?_
          exact x_aret (v := none) C hr dX8_mergedEntry_125 ⟨_, rfl, h⟩
def b_X8_mergedEntry_58 (a0 : Nat)  (Q : Option Nat → Sto → Prop) (p1 : Int32) (p2 : Int64) (p5 : Option Nat) (σ : Sto) : Prop := LF (f_X8_mergedEntry_61 a0  Q) (p1, p2, p5, (0 : Int32)) σ
set_option maxHeartbeats 4000000 in
set_option maxRecDepth 100000 in
theorem t_X8_mergedEntry_58 {p : Program} {l : Launch} {e : Env} {s : State} {m : MethodId} {args : Array Value} {below : List Frame} {meth : Method} {c : Code} {D : va_G} {cy : Nat → ClassId} {A : Nat → Prop} {a0 : Nat} {Q : Option Nat → Sto → Prop} (C : Cx p s m args meth c D cy A cX8_mergedEntry 8 RX8) (hr : meth.sig.returnType = (some (.object "OrderedWorks$Request"))) (hnm : meth.name = yX8_mergedEntry.name) (p1 : Int32) (p2 : Int64) (p5 : Option Nat) (σ : Sto) (h : b_X8_mergedEntry_58 a0  Q p1 p2 p5 σ) (ls : Array Slot) (hl : lv_has ls 8 [(0, .ref a0), (1, .int p1), (2, .long p2), (5, va_rf p5)]) : Xw p l e rm_X8_mergedEntry s m args below meth c D cy A σ 0 0 (MQ below (Qst D cy A (PsP Q)) args s rm_X8_mergedEntry.cells rm_X8_mergedEntry.slots A) (F0 m 58 ls []) := by
  unfold b_X8_mergedEntry_58 at h
  refine x_iconst (v := 0) C dX8_mergedEntry_58 (by decide) ?_
  refine x_istore (i := 6) (lv' := [(6, .int (0 : Int32)), (0, .ref a0), (1, .int p1), (2, .long p2), (5, va_rf p5)]) C dX8_mergedEntry_59 hl (by decide) (by first | rfl | simp [vrc, cat_i, cat_r, cat_l]) (fun ls hl => ?_)
  exact h (fun t σ => ∀ ls : Array Slot, lv_has ls 8 [(0, .ref a0), (1, .int t.1), (2, .long t.2.1), (5, va_rf t.2.2.1), (6, .int t.2.2.2)] → Xw p l e rm_X8_mergedEntry s m args below meth c D cy A σ 0 0 (MQ below (Qst D cy A (PsP Q)) args s rm_X8_mergedEntry.cells rm_X8_mergedEntry.slots A) (F0 m 61 ls [])) (t_X8_mergedEntry_61 C hr hnm  (fun t σ h => h)) ls (lv_sub hl [1, 2, 3, 4, 0] rfl)
def b_X8_mergedEntry_44 (a0 : Nat)  (Q : Option Nat → Sto → Prop) (p1 : Int32) (p2 : Int64) (p4 : Int32) (s0 : Option Nat) (σ : Sto) : Prop := ((p4 = 0 → b_X8_mergedEntry_58 a0  Q p1 p2 s0 σ) ∧ (¬ p4 = 0 → ((s0 = none → Q none σ) ∧ (∀ b3 : Nat, s0 = some b3 → b_X8_mergedEntry_58 a0  Q p1 p2 s0 σ))))
set_option maxHeartbeats 4000000 in
set_option maxRecDepth 100000 in
theorem t_X8_mergedEntry_44 {p : Program} {l : Launch} {e : Env} {s : State} {m : MethodId} {args : Array Value} {below : List Frame} {meth : Method} {c : Code} {D : va_G} {cy : Nat → ClassId} {A : Nat → Prop} {a0 : Nat} {Q : Option Nat → Sto → Prop} (C : Cx p s m args meth c D cy A cX8_mergedEntry 8 RX8) (hr : meth.sig.returnType = (some (.object "OrderedWorks$Request"))) (hnm : meth.name = yX8_mergedEntry.name) (p1 : Int32) (p2 : Int64) (p4 : Int32) (s0 : Option Nat) (σ : Sto) (h : b_X8_mergedEntry_44 a0  Q p1 p2 p4 s0 σ) (ls : Array Slot) (hl : lv_has ls 8 [(0, .ref a0), (1, .int p1), (2, .long p2), (4, .int p4)]) : Xw p l e rm_X8_mergedEntry s m args below meth c D cy A σ 0 0 (MQ below (Qst D cy A (PsP Q)) args s rm_X8_mergedEntry.cells rm_X8_mergedEntry.slots A) (F0 m 44 ls [va_rf s0]) := by
  unfold b_X8_mergedEntry_44 at h
  refine x_astoreq (i := 5) (lv' := [(5, va_rf s0), (0, .ref a0), (1, .int p1), (2, .long p2), (4, .int p4)]) C dX8_mergedEntry_44 hl (by decide) (by first | rfl | simp [vrc, cat_i, cat_r, cat_l]) (fun ls hl => ?_)
  refine x_iload C dX8_mergedEntry_46 (lv_at hl 4 rfl) ?_
  refine x_if_eq (tgt := 58) C dX8_mergedEntry_48 (by decide) (fun c1 => ?_) (fun c1 => ?_)
  · have h := h.1 c1
    exact t_X8_mergedEntry_58 C hr hnm  p1 p2 s0 _ h ls (lv_sub hl [1, 2, 3, 0] rfl)
  · have h := h.2 c1
    refine x_aloadq C dX8_mergedEntry_51 (lv_at hl 0 rfl) ?_
    refine x_ifnonnull (tgt := 58) C dX8_mergedEntry_53 (by decide) (fun c2 => ?_) (fun c2 => ?_)
    · obtain ⟨b3, g4⟩ := Option.ne_none_iff_exists'.mp c2
      have h := h.2 b3 g4
      exact t_X8_mergedEntry_58 C hr hnm  p1 p2 s0 _ h ls (lv_sub hl [1, 2, 3, 0] rfl)
    · have h := h.1 c2
      refine x_null C dX8_mergedEntry_56 ?_
      exact x_aret (v := none) C hr dX8_mergedEntry_57 ⟨_, rfl, h⟩
def b_X8_mergedEntry_25 (a0 : Nat)  (Q : Option Nat → Sto → Prop) (p1 : Int32) (p2 : Int64) (s0 : Int32) (σ : Sto) : Prop := ((s0 = 0 → b_X8_mergedEntry_44 a0  Q p1 p2 s0 none σ) ∧ (¬ s0 = 0 → (sK σ a0 = 8 ∧ (∃ b3 : Nat, sP σ a0 7 = some b3 ∧ (sK σ b3 = 2 ∧ (wp_X2_at b3 p1 σ (fun (r7 : Option Nat) (σ6 : Sto) => b_X8_mergedEntry_44 a0  Q p1 p2 s0 r7 σ6)))))))
set_option maxHeartbeats 4000000 in
set_option maxRecDepth 100000 in
theorem t_X8_mergedEntry_25 {p : Program} {l : Launch} {e : Env} {s : State} {m : MethodId} {args : Array Value} {below : List Frame} {meth : Method} {c : Code} {D : va_G} {cy : Nat → ClassId} {A : Nat → Prop} {a0 : Nat} {Q : Option Nat → Sto → Prop} (C : Cx p s m args meth c D cy A cX8_mergedEntry 8 RX8) (hr : meth.sig.returnType = (some (.object "OrderedWorks$Request"))) (hnm : meth.name = yX8_mergedEntry.name) (p1 : Int32) (p2 : Int64) (s0 : Int32) (σ : Sto) (h : b_X8_mergedEntry_25 a0  Q p1 p2 s0 σ) (ls : Array Slot) (hl : lv_has ls 8 [(0, .ref a0), (1, .int p1), (2, .long p2)]) : Xw p l e rm_X8_mergedEntry s m args below meth c D cy A σ 0 0 (MQ below (Qst D cy A (PsP Q)) args s rm_X8_mergedEntry.cells rm_X8_mergedEntry.slots A) (F0 m 25 ls [.int s0]) := by
  unfold b_X8_mergedEntry_25 at h
  refine x_istore (i := 4) (lv' := [(4, .int s0), (0, .ref a0), (1, .int p1), (2, .long p2)]) C dX8_mergedEntry_25 hl (by decide) (by first | rfl | simp [vrc, cat_i, cat_r, cat_l]) (fun ls hl => ?_)
  refine x_iload C dX8_mergedEntry_27 (lv_at hl 0 rfl) ?_
  refine x_if_eq (tgt := 43) C dX8_mergedEntry_29 (by decide) (fun c1 => ?_) (fun c1 => ?_)
  · have h := h.1 c1
    refine x_null C dX8_mergedEntry_43 ?_
    exact t_X8_mergedEntry_44 C hr hnm  p1 p2 s0 none _ h ls (lv_sub hl [1, 2, 3, 0] rfl)
  · have h := h.2 c1
    refine x_aload_n C dX8_mergedEntry_32 rfl (lv_at hl 1 rfl) ?_
    obtain ⟨g2, h⟩ := h
    refine x_getP C fl_RX8_25 g2 dX8_mergedEntry_33 ?_
    refine x_iload_n C dX8_mergedEntry_36 rfl (lv_at hl 2 rfl) ?_
    obtain ⟨b3, g4, h⟩ := h
    refine x_nn1 g4 ?_
    obtain ⟨g5, h⟩ := h
    refine x_callV (rm := rm_X2_at) (rest := []) (As := [.int p1]) C cy_RX8_167 g5 (by decide) (by decide) rfl rfl (Nat.le_of_ble_eq_true rfl) hl.1 dX8_mergedEntry_37 (c_X2_at l D cy b3 p1 σ _ h) (ks_p (fun r7 σ6 h => ?_))
    refine x_goto (tgt := 44) C dX8_mergedEntry_40 (by decide) ?_
    exact t_X8_mergedEntry_44 C hr hnm  p1 p2 s0 r7 _ h ls (lv_sub hl [1, 2, 3, 0] rfl)
def b_X8_mergedEntry_24 (a0 : Nat)  (Q : Option Nat → Sto → Prop) (p1 : Int32) (p2 : Int64) (σ : Sto) : Prop := b_X8_mergedEntry_25 a0  Q p1 p2 (0 : Int32) σ
set_option maxHeartbeats 4000000 in
set_option maxRecDepth 100000 in
theorem t_X8_mergedEntry_24 {p : Program} {l : Launch} {e : Env} {s : State} {m : MethodId} {args : Array Value} {below : List Frame} {meth : Method} {c : Code} {D : va_G} {cy : Nat → ClassId} {A : Nat → Prop} {a0 : Nat} {Q : Option Nat → Sto → Prop} (C : Cx p s m args meth c D cy A cX8_mergedEntry 8 RX8) (hr : meth.sig.returnType = (some (.object "OrderedWorks$Request"))) (hnm : meth.name = yX8_mergedEntry.name) (p1 : Int32) (p2 : Int64) (σ : Sto) (h : b_X8_mergedEntry_24 a0  Q p1 p2 σ) (ls : Array Slot) (hl : lv_has ls 8 [(0, .ref a0), (1, .int p1), (2, .long p2)]) : Xw p l e rm_X8_mergedEntry s m args below meth c D cy A σ 0 0 (MQ below (Qst D cy A (PsP Q)) args s rm_X8_mergedEntry.cells rm_X8_mergedEntry.slots A) (F0 m 24 ls []) := by
  unfold b_X8_mergedEntry_24 at h
  refine x_iconst (v := 0) C dX8_mergedEntry_24 (by decide) ?_
  exact t_X8_mergedEntry_25 C hr hnm  p1 p2 (0 : Int32) _ h ls (lv_sub hl [0, 1, 2] rfl)
def wp_X8_mergedEntry (a0 : Nat) (p1 : Int32) (p2 : Int64) (σ : Sto) (Q : Option Nat → Sto → Prop) : Prop := (sK σ a0 = 8 ∧ (∀ y2 : Int64, y2 = sJ σ a0 6 → ((¬ (lg_cmp y2 p2) = 0 → b_X8_mergedEntry_24 a0  Q p1 p2 σ) ∧ ((lg_cmp y2 p2) = 0 → (∃ b5 : Nat, sP σ a0 7 = some b5 ∧ (sK σ b5 = 2 ∧ (wp_X2_has b5 p1 σ (fun (x9 : Int32) (σ8 : Sto) => ((x9 = 0 → b_X8_mergedEntry_24 a0  Q p1 p2 σ8) ∧ (¬ x9 = 0 → b_X8_mergedEntry_25 a0  Q p1 p2 (1 : Int32) σ8))))))))))
set_option maxHeartbeats 4000000 in
set_option maxRecDepth 100000 in
theorem c_X8_mergedEntry (l : Launch) (D : va_G) (cy : Nat → ClassId) (a0 : Nat) (p1 : Int32) (p2 : Int64) (σ : Sto) (Q : Option Nat → Sto → Prop) (h : wp_X8_mergedEntry a0 p1 p2 σ Q) : Mt l D cy yX8_mergedEntry cX8_mergedEntry 8 (some (.object "OrderedWorks$Request")) rm_X8_mergedEntry [.ref a0, .int p1, .long p2] σ (PsP Q) := by
  unfold wp_X8_mergedEntry at h
  refine mt_of (by decide +kernel) (Nat.le_of_ble_eq_true rfl) ?_
  intro p e s m args below meth c A ls C hr hnm hl
  have C : Cx p s m args meth c D cy A cX8_mergedEntry 8 RX8 := C
  have hl : lv_has ls 8 [(0, .ref a0), (1, .int p1), (2, .long p2)] := hl
  refine x_aload_n C dX8_mergedEntry_0 rfl (lv_at hl 0 rfl) ?_
  obtain ⟨g1, h⟩ := h
  refine x_getJ C fl_RX8_19 g1 dX8_mergedEntry_1 ?_
  refine x_topj (fun y2 e3 => ?_)
  have h := h y2 e3
  refine x_lload_n C dX8_mergedEntry_4 rfl (lv_at hl 2 rfl) ?_
  refine x_lcmp C dX8_mergedEntry_5 ?_
  refine x_if_ne (tgt := 24) C dX8_mergedEntry_6 (by decide) (fun c4 => ?_) (fun c4 => ?_)
  · have h := h.1 c4
    exact t_X8_mergedEntry_24 C hr hnm  p1 p2 _ h ls (lv_sub hl [0, 1, 2] rfl)
  · have h := h.2 c4
    refine x_aload_n C dX8_mergedEntry_9 rfl (lv_at hl 0 rfl) ?_
    refine x_getP C fl_RX8_25 g1 dX8_mergedEntry_10 ?_
    refine x_iload_n C dX8_mergedEntry_13 rfl (lv_at hl 1 rfl) ?_
    obtain ⟨b5, g6, h⟩ := h
    refine x_nn1 g6 ?_
    obtain ⟨g7, h⟩ := h
    refine x_callV (rm := rm_X2_has) (rest := []) (As := [.int p1]) C cy_RX8_163 g7 (by decide) (by decide) rfl rfl (Nat.le_of_ble_eq_true rfl) hl.1 dX8_mergedEntry_14 (c_X2_has l D cy b5 p1 σ _ h) (ks_i (fun x9 σ8 h => ?_))
    refine x_if_eq (tgt := 24) C dX8_mergedEntry_17 (by decide) (fun c10 => ?_) (fun c10 => ?_)
    · have h := h.1 c10
      exact t_X8_mergedEntry_24 C hr hnm  p1 p2 _ h ls (lv_sub hl [0, 1, 2] rfl)
    · have h := h.2 c10
      refine x_iconst (v := 1) C dX8_mergedEntry_20 (by decide) ?_
      refine x_goto (tgt := 25) C dX8_mergedEntry_21 (by decide) ?_
      exact t_X8_mergedEntry_25 C hr hnm  p1 p2 (1 : Int32) _ h ls (lv_sub hl [0, 1, 2] rfl)
