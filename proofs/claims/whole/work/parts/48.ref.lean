theorem dX12_hand_0 : decode cX12_hand 0 = .ok (.aload_n 0, 1) := by decide +kernel
theorem dX12_hand_1 : decode cX12_hand 1 = .ok (.iload_n 1, 1) := by decide +kernel
theorem dX12_hand_2 : decode cX12_hand 2 = .ok (.invokevirtual 308, 3) := by decide +kernel
theorem dX12_hand_5 : decode cX12_hand 5 = .ok (.istore_n 2, 1) := by decide +kernel
theorem dX12_hand_6 : decode cX12_hand 6 = .ok (.iconst 0, 1) := by decide +kernel
theorem dX12_hand_7 : decode cX12_hand 7 = .ok (.istore_n 3, 1) := by decide +kernel
theorem dX12_hand_8 : decode cX12_hand 8 = .ok (.iload_n 3, 1) := by decide +kernel
theorem dX12_hand_9 : decode cX12_hand 9 = .ok (.aload_n 0, 1) := by decide +kernel
theorem dX12_hand_10 : decode cX12_hand 10 = .ok (.getfield 21, 3) := by decide +kernel
theorem dX12_hand_13 : decode cX12_hand 13 = .ok (.iload_n 2, 1) := by decide +kernel
theorem dX12_hand_14 : decode cX12_hand 14 = .ok (.iaload, 1) := by decide +kernel
theorem dX12_hand_15 : decode cX12_hand 15 = .ok (.if_icmp .ge 27, 3) := by decide +kernel
theorem dX12_hand_18 : decode cX12_hand 18 = .ok (.aload_n 0, 1) := by decide +kernel
theorem dX12_hand_19 : decode cX12_hand 19 = .ok (.getfield 30, 3) := by decide +kernel
theorem dX12_hand_22 : decode cX12_hand 22 = .ok (.iload_n 3, 1) := by decide +kernel
theorem dX12_hand_23 : decode cX12_hand 23 = .ok (.aload_n 0, 1) := by decide +kernel
theorem dX12_hand_24 : decode cX12_hand 24 = .ok (.getfield 18, 3) := by decide +kernel
theorem dX12_hand_27 : decode cX12_hand 27 = .ok (.sipush 640, 3) := by decide +kernel
theorem dX12_hand_30 : decode cX12_hand 30 = .ok (.iload_n 2, 1) := by decide +kernel
theorem dX12_hand_31 : decode cX12_hand 31 = .ok (.imul, 1) := by decide +kernel
theorem dX12_hand_32 : decode cX12_hand 32 = .ok (.iload_n 3, 1) := by decide +kernel
theorem dX12_hand_33 : decode cX12_hand 33 = .ok (.iadd, 1) := by decide +kernel
theorem dX12_hand_34 : decode cX12_hand 34 = .ok (.iaload, 1) := by decide +kernel
theorem dX12_hand_35 : decode cX12_hand 35 = .ok (.iastore, 1) := by decide +kernel
theorem dX12_hand_36 : decode cX12_hand 36 = .ok (.iinc 3 1, 3) := by decide +kernel
theorem dX12_hand_39 : decode cX12_hand 39 = .ok (.goto (-31), 3) := by decide +kernel
theorem dX12_hand_42 : decode cX12_hand 42 = .ok (.aload_n 0, 1) := by decide +kernel
theorem dX12_hand_43 : decode cX12_hand 43 = .ok (.getfield 30, 3) := by decide +kernel
theorem dX12_hand_46 : decode cX12_hand 46 = .ok (.iconst 2, 1) := by decide +kernel
theorem dX12_hand_47 : decode cX12_hand 47 = .ok (.iaload, 1) := by decide +kernel
theorem dX12_hand_48 : decode cX12_hand 48 = .ok (.bipush 16, 2) := by decide +kernel
theorem dX12_hand_50 : decode cX12_hand 50 = .ok (.if_icmp .lt 19, 3) := by decide +kernel
theorem dX12_hand_53 : decode cX12_hand 53 = .ok (.aload_n 0, 1) := by decide +kernel
theorem dX12_hand_54 : decode cX12_hand 54 = .ok (.aload_n 0, 1) := by decide +kernel
theorem dX12_hand_55 : decode cX12_hand 55 = .ok (.getfield 30, 3) := by decide +kernel
theorem dX12_hand_58 : decode cX12_hand 58 = .ok (.iconst 2, 1) := by decide +kernel
theorem dX12_hand_59 : decode cX12_hand 59 = .ok (.iaload, 1) := by decide +kernel
theorem dX12_hand_60 : decode cX12_hand 60 = .ok (.bipush 16, 2) := by decide +kernel
theorem dX12_hand_62 : decode cX12_hand 62 = .ok (.isub, 1) := by decide +kernel
theorem dX12_hand_63 : decode cX12_hand 63 = .ok (.invokevirtual 312, 3) := by decide +kernel
theorem dX12_hand_66 : decode cX12_hand 66 = .ok (.goto 40, 3) := by decide +kernel
theorem dX12_hand_69 : decode cX12_hand 69 = .ok (.aload_n 0, 1) := by decide +kernel
theorem dX12_hand_70 : decode cX12_hand 70 = .ok (.getfield 41, 3) := by decide +kernel
theorem dX12_hand_73 : decode cX12_hand 73 = .ok (.aload_n 0, 1) := by decide +kernel
theorem dX12_hand_74 : decode cX12_hand 74 = .ok (.getfield 30, 3) := by decide +kernel
theorem dX12_hand_77 : decode cX12_hand 77 = .ok (.iconst 2, 1) := by decide +kernel
theorem dX12_hand_78 : decode cX12_hand 78 = .ok (.iaload, 1) := by decide +kernel
theorem dX12_hand_79 : decode cX12_hand 79 = .ok (.baload, 1) := by decide +kernel
theorem dX12_hand_80 : decode cX12_hand 80 = .ok (.ifCond .eq 16, 3) := by decide +kernel
theorem dX12_hand_83 : decode cX12_hand 83 = .ok (.aload_n 0, 1) := by decide +kernel
theorem dX12_hand_84 : decode cX12_hand 84 = .ok (.dup, 1) := by decide +kernel
theorem dX12_hand_85 : decode cX12_hand 85 = .ok (.getfield 284, 3) := by decide +kernel
theorem dX12_hand_88 : decode cX12_hand 88 = .ok (.iconst 1, 1) := by decide +kernel
theorem dX12_hand_89 : decode cX12_hand 89 = .ok (.iadd, 1) := by decide +kernel
theorem dX12_hand_90 : decode cX12_hand 90 = .ok (.putfield 284, 3) := by decide +kernel
theorem dX12_hand_93 : decode cX12_hand 93 = .ok (.goto 13, 3) := by decide +kernel
theorem dX12_hand_96 : decode cX12_hand 96 = .ok (.aload_n 0, 1) := by decide +kernel
theorem dX12_hand_97 : decode cX12_hand 97 = .ok (.aload_n 0, 1) := by decide +kernel
theorem dX12_hand_98 : decode cX12_hand 98 = .ok (.getfield 30, 3) := by decide +kernel
theorem dX12_hand_101 : decode cX12_hand 101 = .ok (.iconst 2, 1) := by decide +kernel
theorem dX12_hand_102 : decode cX12_hand 102 = .ok (.iaload, 1) := by decide +kernel
theorem dX12_hand_103 : decode cX12_hand 103 = .ok (.invokevirtual 315, 3) := by decide +kernel
theorem dX12_hand_106 : decode cX12_hand 106 = .ok (.return_, 1) := by decide +kernel
abbrev rm_X12_hand : Room := { frames := 8, cells := 0, slots := 0, locals := 182 }
def f_X12_hand_8 (a0 : Nat)  (Q : Sto → Prop) (L8 : Int32 × Int32 → Sto → Prop) (t : Int32 × Int32) (σ : Sto) : Prop := (sK σ a0 = 12 ∧ (∃ b2 : Nat, sP σ a0 11 = some b2 ∧ (sK σ b2 = 14 ∧ (vp_in t.1 (sN σ b2) ∧ (∀ x6 : Int32, x6 = sI σ b2 t.1.toNatClampNeg → ((x6 ≤ t.2 → (∃ b9 : Nat, sP σ a0 15 = some b9 ∧ (sK σ b9 = 14 ∧ (vp_in (2 : Int32) (sN σ b9) ∧ (∀ x13 : Int32, x13 = sI σ b9 (2 : Int32).toNatClampNeg → ((x13 < (16 : Int32) → (vp_in (2 : Int32) (sN σ b9) ∧ (∀ x17 : Int32, x17 = sI σ b9 (2 : Int32).toNatClampNeg → (∃ b19 : Nat, sP σ a0 20 = some b19 ∧ (sK σ b19 = 16 ∧ (vp_in x17 (sN σ b19) ∧ (∀ x23 : Int32, x23 = sI σ b19 x17.toNatClampNeg → ((x23 = 0 → (vp_in (2 : Int32) (sN σ b9) ∧ (∀ x27 : Int32, x27 = sI σ b9 (2 : Int32).toNatClampNeg → (wp_X12_replicaGets a0 x27 σ (fun (σ29 : Sto) => Q σ29))))) ∧ (¬ x23 = 0 → (∀ x30 : Int32, x30 = sI σ a0 8 → (∀ x32 : Int32, x32 = x30 + (1 : Int32) → Q (stI σ a0 8 x32)))))))))))) ∧ (¬ x13 < (16 : Int32) → (vp_in (2 : Int32) (sN σ b9) ∧ (∀ x35 : Int32, x35 = sI σ b9 (2 : Int32).toNatClampNeg → (wp_X12_clientGets a0 (x35 - (16 : Int32)) σ (fun (σ37 : Sto) => Q σ37))))))))))) ∧ (¬ x6 ≤ t.2 → (∀ x38 : Int32, x38 = ((640 : Int32) * t.1) + t.2 → (∃ b40 : Nat, sP σ a0 10 = some b40 ∧ (sK σ b40 = 14 ∧ (vp_in x38 (sN σ b40) ∧ (∀ x44 : Int32, x44 = sI σ b40 x38.toNatClampNeg → (∃ b46 : Nat, sP σ a0 15 = some b46 ∧ (sK σ b46 = 14 ∧ (vp_in t.2 (sN σ b46) ∧ (∀ x50 : Int32, x50 = t.2 + (1 : Int32) → L8 (t.1, x50) (stI σ b46 t.2.toNatClampNeg x44)))))))))))))))))
set_option maxHeartbeats 4000000 in
set_option maxRecDepth 100000 in
theorem t_X12_hand_8 {p : Program} {l : Launch} {e : Env} {s : State} {m : MethodId} {args : Array Value} {below : List Frame} {meth : Method} {c : Code} {D : va_G} {cy : Nat → ClassId} {A : Nat → Prop} {a0 : Nat} {Q : Sto → Prop} {L8 : Int32 × Int32 → Sto → Prop} (C : Cx p s m args meth c D cy A cX12_hand 4 RX12) (hr : meth.sig.returnType = none) (hnm : meth.name = yX12_hand.name) (hL8 : ∀ (t : Int32 × Int32) (σ : Sto), L8 t σ → ∀ ls : Array Slot, lv_has ls 4 [(0, .ref a0), (2, .int t.1), (3, .int t.2)] → Xw p l e rm_X12_hand s m args below meth c D cy A σ 0 0 (MQ below (Qst D cy A (PsV Q)) args s rm_X12_hand.cells rm_X12_hand.slots A) (F0 m 8 ls [])) : ∀ (t : Int32 × Int32) (σ : Sto), f_X12_hand_8 a0  Q L8 t σ → ∀ ls : Array Slot, lv_has ls 4 [(0, .ref a0), (2, .int t.1), (3, .int t.2)] → Xw p l e rm_X12_hand s m args below meth c D cy A σ 0 0 (MQ below (Qst D cy A (PsV Q)) args s rm_X12_hand.cells rm_X12_hand.slots A) (F0 m 8 ls []) := by
  intro t σ h ls hl
  unfold f_X12_hand_8 at h
  refine x_iload_n C dX12_hand_8 rfl (lv_at hl 2 rfl) ?_
  refine x_aload_n C dX12_hand_9 rfl (lv_at hl 0 rfl) ?_
  obtain ⟨g1, h⟩ := h
  refine x_getP C fl_RX12_21 g1 dX12_hand_10 ?_
  refine x_iload_n C dX12_hand_13 rfl (lv_at hl 1 rfl) ?_
  obtain ⟨b2, g3, h⟩ := h
  refine x_nn1 g3 ?_
  obtain ⟨g4, h⟩ := h
  obtain ⟨g5, h⟩ := h
  refine x_iald C g4 g5 dX12_hand_14 ?_
  refine x_topi (fun x6 e7 => ?_)
  have h := h x6 e7
  refine x_icmp_ge (tgt := 42) C dX12_hand_15 (by decide) (fun c8 => ?_) (fun c8 => ?_)
  · have h := h.1 c8
    refine x_aload_n C dX12_hand_42 rfl (lv_at hl 0 rfl) ?_
    refine x_getP C fl_RX12_30 g1 dX12_hand_43 ?_
    refine x_iconst (v := 2) C dX12_hand_46 (by decide) ?_
    obtain ⟨b9, g10, h⟩ := h
    refine x_nn1 g10 ?_
    obtain ⟨g11, h⟩ := h
    obtain ⟨g12, h⟩ := h
    refine x_iald C g11 g12 dX12_hand_47 ?_
    refine x_topi (fun x13 e14 => ?_)
    have h := h x13 e14
    refine x_bipush (v := 16) C dX12_hand_48 (by decide) ?_
    refine x_icmp_lt (tgt := 69) C dX12_hand_50 (by decide) (fun c15 => ?_) (fun c15 => ?_)
    · have h := h.1 c15
      refine x_aload_n C dX12_hand_69 rfl (lv_at hl 0 rfl) ?_
      refine x_getP C fl_RX12_41 g1 dX12_hand_70 ?_
      refine x_aload_n C dX12_hand_73 rfl (lv_at hl 0 rfl) ?_
      refine x_getP C fl_RX12_30 g1 dX12_hand_74 ?_
      refine x_iconst (v := 2) C dX12_hand_77 (by decide) ?_
      refine x_nn1 g10 ?_
      obtain ⟨g16, h⟩ := h
      refine x_iald C g11 g16 dX12_hand_78 ?_
      refine x_topi (fun x17 e18 => ?_)
      have h := h x17 e18
      obtain ⟨b19, g20, h⟩ := h
      refine x_nn1 g20 ?_
      obtain ⟨g21, h⟩ := h
      obtain ⟨g22, h⟩ := h
      refine x_zald C g21 g22 dX12_hand_79 ?_
      refine x_topi (fun x23 e24 => ?_)
      have h := h x23 e24
      refine x_if_eq (tgt := 96) C dX12_hand_80 (by decide) (fun c25 => ?_) (fun c25 => ?_)
      · have h := h.1 c25
        refine x_aload_n C dX12_hand_96 rfl (lv_at hl 0 rfl) ?_
        refine x_aload_n C dX12_hand_97 rfl (lv_at hl 0 rfl) ?_
        refine x_getP C fl_RX12_30 g1 dX12_hand_98 ?_
        refine x_iconst (v := 2) C dX12_hand_101 (by decide) ?_
        refine x_nn1 g10 ?_
        obtain ⟨g26, h⟩ := h
        refine x_iald C g11 g26 dX12_hand_102 ?_
        refine x_topi (fun x27 e28 => ?_)
        have h := h x27 e28
        refine x_callV (rm := rm_X12_replicaGets) (rest := []) (As := [.int x27]) C cy_RX12_315 g1 (by decide) (by decide) rfl rfl (Nat.le_of_ble_eq_true rfl) hl.1 dX12_hand_103 (c_X12_replicaGets l D cy a0 x27 σ _ h) (ks_v (fun σ29 h => ?_))
        exact x_vret C hr dX12_hand_106 ⟨rfl, h⟩
      · have h := h.2 c25
        refine x_aload_n C dX12_hand_83 rfl (lv_at hl 0 rfl) ?_
        refine x_dup C dX12_hand_84 (rfl) ?_
        refine x_getI C fl_RX12_284 g1 dX12_hand_85 ?_
        refine x_topi (fun x30 e31 => ?_)
        have h := h x30 e31
        refine x_iconst (v := 1) C dX12_hand_88 (by decide) ?_
        refine x_iadd C dX12_hand_89 ?_
        refine x_topi (fun x32 e33 => ?_)
        have h := h x32 e33
        refine x_putI C fl_RX12_284 (Or.inl rfl) g1 dX12_hand_90 ?_
        refine x_goto (tgt := 106) C dX12_hand_93 (by decide) ?_
        exact x_vret C hr dX12_hand_106 ⟨rfl, h⟩
    · have h := h.2 c15
      refine x_aload_n C dX12_hand_53 rfl (lv_at hl 0 rfl) ?_
      refine x_aload_n C dX12_hand_54 rfl (lv_at hl 0 rfl) ?_
      refine x_getP C fl_RX12_30 g1 dX12_hand_55 ?_
      refine x_iconst (v := 2) C dX12_hand_58 (by decide) ?_
      refine x_nn1 g10 ?_
      obtain ⟨g34, h⟩ := h
      refine x_iald C g11 g34 dX12_hand_59 ?_
      refine x_topi (fun x35 e36 => ?_)
      have h := h x35 e36
      refine x_bipush (v := 16) C dX12_hand_60 (by decide) ?_
      refine x_isub C dX12_hand_62 ?_
      refine x_callV (rm := rm_X12_clientGets) (rest := []) (As := [.int (x35 - (16 : Int32))]) C cy_RX12_312 g1 (by decide) (by decide) rfl rfl (Nat.le_of_ble_eq_true rfl) hl.1 dX12_hand_63 (c_X12_clientGets l D cy a0 (x35 - (16 : Int32)) σ _ h) (ks_v (fun σ37 h => ?_))
      refine x_goto (tgt := 106) C dX12_hand_66 (by decide) ?_
      exact x_vret C hr dX12_hand_106 ⟨rfl, h⟩
  · have h := h.2 c8
    refine x_aload_n C dX12_hand_18 rfl (lv_at hl 0 rfl) ?_
    refine x_getP C fl_RX12_30 g1 dX12_hand_19 ?_
    refine x_iload_n C dX12_hand_22 rfl (lv_at hl 2 rfl) ?_
    refine x_aload_n C dX12_hand_23 rfl (lv_at hl 0 rfl) ?_
    refine x_getP C fl_RX12_18 g1 dX12_hand_24 ?_
    refine x_sipush (v := 640) C dX12_hand_27 (by decide) ?_
    refine x_iload_n C dX12_hand_30 rfl (lv_at hl 1 rfl) ?_
    refine x_imul C dX12_hand_31 ?_
    refine x_iload_n C dX12_hand_32 rfl (lv_at hl 2 rfl) ?_
    refine x_iadd C dX12_hand_33 ?_
    refine x_topi (fun x38 e39 => ?_)
    have h := h x38 e39
    obtain ⟨b40, g41, h⟩ := h
    refine x_nn1 g41 ?_
    obtain ⟨g42, h⟩ := h
    obtain ⟨g43, h⟩ := h
    refine x_iald C g42 g43 dX12_hand_34 ?_
    refine x_topi (fun x44 e45 => ?_)
    have h := h x44 e45
    obtain ⟨b46, g47, h⟩ := h
    refine x_nn2 g47 ?_
    obtain ⟨g48, h⟩ := h
    obtain ⟨g49, h⟩ := h
    refine x_iast C g48 g49 dX12_hand_35 ?_
    obtain ⟨x50, e51⟩ : ∃ z : Int32, z = t.2 + (1 : Int32) := ⟨_, rfl⟩
    have h := h x50 e51
    refine x_iinc (v := x50) (lv' := [(3, .int x50), (0, .ref a0), (2, .int t.1)]) C dX12_hand_36 hl (q0 := 2) rfl (by rw [e51]; rfl) (by decide) (by first | rfl | simp [vrc, cat_i, cat_r, cat_l]) (fun ls hl => ?_)
    refine x_goto (tgt := 8) C dX12_hand_39 (by decide) ?_
    exact hL8 (t.1, x50) _ h ls (lv_sub hl [1, 2, 0] rfl)
def wp_X12_hand (a0 : Nat) (p1 : Int32) (σ : Sto) (Q : Sto → Prop) : Prop := (sK σ a0 = 12 ∧ (wp_X12_remove a0 p1 σ (fun (x3 : Int32) (σ2 : Sto) => LF (f_X12_hand_8 a0  Q) (x3, (0 : Int32)) σ2)))
set_option maxHeartbeats 4000000 in
set_option maxRecDepth 100000 in
theorem c_X12_hand (l : Launch) (D : va_G) (cy : Nat → ClassId) (a0 : Nat) (p1 : Int32) (σ : Sto) (Q : Sto → Prop) (h : wp_X12_hand a0 p1 σ Q) : Mt l D cy yX12_hand cX12_hand 4 none rm_X12_hand [.ref a0, .int p1] σ (PsV Q) := by
  unfold wp_X12_hand at h
  refine mt_of (by decide +kernel) (Nat.le_of_ble_eq_true rfl) ?_
  intro p e s m args below meth c A ls C hr hnm hl
  have C : Cx p s m args meth c D cy A cX12_hand 4 RX12 := C
  have hl : lv_has ls 4 [(0, .ref a0), (1, .int p1)] := hl
  refine x_aload_n C dX12_hand_0 rfl (lv_at hl 0 rfl) ?_
  refine x_iload_n C dX12_hand_1 rfl (lv_at hl 1 rfl) ?_
  obtain ⟨g1, h⟩ := h
  refine x_callV (rm := rm_X12_remove) (rest := []) (As := [.int p1]) C cy_RX12_308 g1 (by decide) (by decide) rfl rfl (Nat.le_of_ble_eq_true rfl) hl.1 dX12_hand_2 (c_X12_remove l D cy a0 p1 σ _ h) (ks_i (fun x3 σ2 h => ?_))
  refine x_istore_n (i := 2) (lv' := [(2, .int x3), (0, .ref a0), (1, .int p1)]) C dX12_hand_5 rfl hl (by decide) (by first | rfl | simp [vrc, cat_i, cat_r, cat_l]) (fun ls hl => ?_)
  refine x_iconst (v := 0) C dX12_hand_6 (by decide) ?_
  refine x_istore_n (i := 3) (lv' := [(3, .int (0 : Int32)), (2, .int x3), (0, .ref a0), (1, .int p1)]) C dX12_hand_7 rfl hl (by decide) (by first | rfl | simp [vrc, cat_i, cat_r, cat_l]) (fun ls hl => ?_)
  exact h (fun t σ => ∀ ls : Array Slot, lv_has ls 4 [(0, .ref a0), (2, .int t.1), (3, .int t.2)] → Xw p l e rm_X12_hand s m args below meth c D cy A σ 0 0 (MQ below (Qst D cy A (PsV Q)) args s rm_X12_hand.cells rm_X12_hand.slots A) (F0 m 8 ls [])) (t_X12_hand_8 C hr hnm  (fun t σ h => h)) ls (lv_sub hl [2, 1, 0] rfl)
theorem dX12_find_0 : decode cX12_find 0 = .ok (.iconst 0, 1) := by decide +kernel
theorem dX12_find_1 : decode cX12_find 1 = .ok (.istore_n 2, 1) := by decide +kernel
theorem dX12_find_2 : decode cX12_find 2 = .ok (.iload_n 2, 1) := by decide +kernel
theorem dX12_find_3 : decode cX12_find 3 = .ok (.aload_n 0, 1) := by decide +kernel
theorem dX12_find_4 : decode cX12_find 4 = .ok (.getfield 281, 3) := by decide +kernel
theorem dX12_find_7 : decode cX12_find 7 = .ok (.if_icmp .ge 26, 3) := by decide +kernel
theorem dX12_find_10 : decode cX12_find 10 = .ok (.aload_n 0, 1) := by decide +kernel
theorem dX12_find_11 : decode cX12_find 11 = .ok (.getfield 24, 3) := by decide +kernel
theorem dX12_find_14 : decode cX12_find 14 = .ok (.aload_n 0, 1) := by decide +kernel
theorem dX12_find_15 : decode cX12_find 15 = .ok (.getfield 9, 3) := by decide +kernel
theorem dX12_find_18 : decode cX12_find 18 = .ok (.iload_n 2, 1) := by decide +kernel
theorem dX12_find_19 : decode cX12_find 19 = .ok (.iaload, 1) := by decide +kernel
theorem dX12_find_20 : decode cX12_find 20 = .ok (.iaload, 1) := by decide +kernel
theorem dX12_find_21 : decode cX12_find 21 = .ok (.iload_n 1, 1) := by decide +kernel
theorem dX12_find_22 : decode cX12_find 22 = .ok (.if_icmp .ne 5, 3) := by decide +kernel
theorem dX12_find_25 : decode cX12_find 25 = .ok (.iload_n 2, 1) := by decide +kernel
theorem dX12_find_26 : decode cX12_find 26 = .ok (.ireturn, 1) := by decide +kernel
theorem dX12_find_27 : decode cX12_find 27 = .ok (.iinc 2 1, 3) := by decide +kernel
theorem dX12_find_30 : decode cX12_find 30 = .ok (.goto (-28), 3) := by decide +kernel
theorem dX12_find_33 : decode cX12_find 33 = .ok (.iconst (-1), 1) := by decide +kernel
theorem dX12_find_34 : decode cX12_find 34 = .ok (.ireturn, 1) := by decide +kernel
abbrev rm_X12_find : Room := { frames := 0, cells := 0, slots := 0, locals := 0 }
def f_X12_find_2 (a0 : Nat)  (Q : Int32 → Sto → Prop) (L2 : Int32 × Int32 → Sto → Prop) (t : Int32 × Int32) (σ : Sto) : Prop := (sK σ a0 = 12 ∧ (∀ x2 : Int32, x2 = sI σ a0 6 → ((x2 ≤ t.2 → Q (-1 : Int32) σ) ∧ (¬ x2 ≤ t.2 → (∃ b5 : Nat, sP σ a0 5 = some b5 ∧ (sK σ b5 = 14 ∧ (vp_in t.2 (sN σ b5) ∧ (∀ x9 : Int32, x9 = sI σ b5 t.2.toNatClampNeg → (∃ b11 : Nat, sP σ a0 12 = some b11 ∧ (sK σ b11 = 14 ∧ (vp_in x9 (sN σ b11) ∧ (∀ x15 : Int32, x15 = sI σ b11 x9.toNatClampNeg → ((¬ x15 = t.1 → (∀ x18 : Int32, x18 = t.2 + (1 : Int32) → L2 (t.1, x18) σ)) ∧ (x15 = t.1 → Q t.2 σ))))))))))))))
set_option maxHeartbeats 4000000 in
set_option maxRecDepth 100000 in
theorem t_X12_find_2 {p : Program} {l : Launch} {e : Env} {s : State} {m : MethodId} {args : Array Value} {below : List Frame} {meth : Method} {c : Code} {D : va_G} {cy : Nat → ClassId} {A : Nat → Prop} {a0 : Nat} {Q : Int32 → Sto → Prop} {L2 : Int32 × Int32 → Sto → Prop} (C : Cx p s m args meth c D cy A cX12_find 3 RX12) (hr : meth.sig.returnType = (some .int)) (hnm : meth.name = yX12_find.name) (hL2 : ∀ (t : Int32 × Int32) (σ : Sto), L2 t σ → ∀ ls : Array Slot, lv_has ls 3 [(0, .ref a0), (1, .int t.1), (2, .int t.2)] → Xw p l e rm_X12_find s m args below meth c D cy A σ 0 0 (MQ below (Qst D cy A (PsI Q)) args s rm_X12_find.cells rm_X12_find.slots A) (F0 m 2 ls [])) : ∀ (t : Int32 × Int32) (σ : Sto), f_X12_find_2 a0  Q L2 t σ → ∀ ls : Array Slot, lv_has ls 3 [(0, .ref a0), (1, .int t.1), (2, .int t.2)] → Xw p l e rm_X12_find s m args below meth c D cy A σ 0 0 (MQ below (Qst D cy A (PsI Q)) args s rm_X12_find.cells rm_X12_find.slots A) (F0 m 2 ls []) := by
  intro t σ h ls hl
  unfold f_X12_find_2 at h
  refine x_iload_n C dX12_find_2 rfl (lv_at hl 2 rfl) ?_
  refine x_aload_n C dX12_find_3 rfl (lv_at hl 0 rfl) ?_
  obtain ⟨g1, h⟩ := h
  refine x_getI C fl_RX12_281 g1 dX12_find_4 ?_
  refine x_topi (fun x2 e3 => ?_)
  have h := h x2 e3
  refine x_icmp_ge (tgt := 33) C dX12_find_7 (by decide) (fun c4 => ?_) (fun c4 => ?_)
  · have h := h.1 c4
    refine x_iconst (v := -1) C dX12_find_33 (by decide) ?_
    exact x_iret C hr dX12_find_34 ⟨_, rfl, h⟩
  · have h := h.2 c4
    refine x_aload_n C dX12_find_10 rfl (lv_at hl 0 rfl) ?_
    refine x_getP C fl_RX12_24 g1 dX12_find_11 ?_
    refine x_aload_n C dX12_find_14 rfl (lv_at hl 0 rfl) ?_
    refine x_getP C fl_RX12_9 g1 dX12_find_15 ?_
    refine x_iload_n C dX12_find_18 rfl (lv_at hl 2 rfl) ?_
    obtain ⟨b5, g6, h⟩ := h
    refine x_nn1 g6 ?_
    obtain ⟨g7, h⟩ := h
    obtain ⟨g8, h⟩ := h
    refine x_iald C g7 g8 dX12_find_19 ?_
    refine x_topi (fun x9 e10 => ?_)
    have h := h x9 e10
    obtain ⟨b11, g12, h⟩ := h
    refine x_nn1 g12 ?_
    obtain ⟨g13, h⟩ := h
    obtain ⟨g14, h⟩ := h
    refine x_iald C g13 g14 dX12_find_20 ?_
    refine x_topi (fun x15 e16 => ?_)
    have h := h x15 e16
    refine x_iload_n C dX12_find_21 rfl (lv_at hl 1 rfl) ?_
    refine x_icmp_ne (tgt := 27) C dX12_find_22 (by decide) (fun c17 => ?_) (fun c17 => ?_)
    · have h := h.1 c17
      obtain ⟨x18, e19⟩ : ∃ z : Int32, z = t.2 + (1 : Int32) := ⟨_, rfl⟩
      have h := h x18 e19
      refine x_iinc (v := x18) (lv' := [(2, .int x18), (0, .ref a0), (1, .int t.1)]) C dX12_find_27 hl (q0 := 2) rfl (by rw [e19]; rfl) (by decide) (by first | rfl | simp [vrc, cat_i, cat_r, cat_l]) (fun ls hl => ?_)
      refine x_goto (tgt := 2) C dX12_find_30 (by decide) ?_
      exact hL2 (t.1, x18) _ h ls (lv_sub hl [1, 2, 0] rfl)
    · have h := h.2 c17
      refine x_iload_n C dX12_find_25 rfl (lv_at hl 2 rfl) ?_
      exact x_iret C hr dX12_find_26 ⟨_, rfl, h⟩
def wp_X12_find (a0 : Nat) (p1 : Int32) (σ : Sto) (Q : Int32 → Sto → Prop) : Prop := LF (f_X12_find_2 a0  Q) (p1, (0 : Int32)) σ
set_option maxHeartbeats 4000000 in
set_option maxRecDepth 100000 in
theorem c_X12_find (l : Launch) (D : va_G) (cy : Nat → ClassId) (a0 : Nat) (p1 : Int32) (σ : Sto) (Q : Int32 → Sto → Prop) (h : wp_X12_find a0 p1 σ Q) : Mt l D cy yX12_find cX12_find 3 (some .int) rm_X12_find [.ref a0, .int p1] σ (PsI Q) := by
  unfold wp_X12_find at h
  refine mt_of (by decide +kernel) (Nat.le_of_ble_eq_true rfl) ?_
  intro p e s m args below meth c A ls C hr hnm hl
  have C : Cx p s m args meth c D cy A cX12_find 3 RX12 := C
  have hl : lv_has ls 3 [(0, .ref a0), (1, .int p1)] := hl
  refine x_iconst (v := 0) C dX12_find_0 (by decide) ?_
  refine x_istore_n (i := 2) (lv' := [(2, .int (0 : Int32)), (0, .ref a0), (1, .int p1)]) C dX12_find_1 rfl hl (by decide) (by first | rfl | simp [vrc, cat_i, cat_r, cat_l]) (fun ls hl => ?_)
  exact h (fun t σ => ∀ ls : Array Slot, lv_has ls 3 [(0, .ref a0), (1, .int t.1), (2, .int t.2)] → Xw p l e rm_X12_find s m args below meth c D cy A σ 0 0 (MQ below (Qst D cy A (PsI Q)) args s rm_X12_find.cells rm_X12_find.slots A) (F0 m 2 ls [])) (t_X12_find_2 C hr hnm  (fun t σ h => h)) ls (lv_sub hl [1, 2, 0] rfl)
theorem dX12_stamp_0 : decode cX12_stamp 0 = .ok (.aload_n 0, 1) := by decide +kernel
theorem dX12_stamp_1 : decode cX12_stamp 1 = .ok (.getfield 191, 3) := by decide +kernel
theorem dX12_stamp_4 : decode cX12_stamp 4 = .ok (.iload_n 1, 1) := by decide +kernel
theorem dX12_stamp_5 : decode cX12_stamp 5 = .ok (.aload_n 0, 1) := by decide +kernel
theorem dX12_stamp_6 : decode cX12_stamp 6 = .ok (.getfield 318, 3) := by decide +kernel
theorem dX12_stamp_9 : decode cX12_stamp 9 = .ok (.iastore, 1) := by decide +kernel
theorem dX12_stamp_10 : decode cX12_stamp 10 = .ok (.aload_n 0, 1) := by decide +kernel
theorem dX12_stamp_11 : decode cX12_stamp 11 = .ok (.getfield 33, 3) := by decide +kernel
theorem dX12_stamp_14 : decode cX12_stamp 14 = .ok (.ifCond .ne 4, 3) := by decide +kernel
theorem dX12_stamp_17 : decode cX12_stamp 17 = .ok (.return_, 1) := by decide +kernel
theorem dX12_stamp_18 : decode cX12_stamp 18 = .ok (.aload_n 0, 1) := by decide +kernel
theorem dX12_stamp_19 : decode cX12_stamp 19 = .ok (.dup, 1) := by decide +kernel
theorem dX12_stamp_20 : decode cX12_stamp 20 = .ok (.getfield 321, 3) := by decide +kernel
theorem dX12_stamp_23 : decode cX12_stamp 23 = .ok (.iconst 1, 1) := by decide +kernel
theorem dX12_stamp_24 : decode cX12_stamp 24 = .ok (.iadd, 1) := by decide +kernel
theorem dX12_stamp_25 : decode cX12_stamp 25 = .ok (.putfield 321, 3) := by decide +kernel
theorem dX12_stamp_28 : decode cX12_stamp 28 = .ok (.iconst 0, 1) := by decide +kernel
theorem dX12_stamp_29 : decode cX12_stamp 29 = .ok (.istore_n 2, 1) := by decide +kernel
theorem dX12_stamp_30 : decode cX12_stamp 30 = .ok (.iload_n 2, 1) := by decide +kernel
theorem dX12_stamp_31 : decode cX12_stamp 31 = .ok (.aload_n 0, 1) := by decide +kernel
theorem dX12_stamp_32 : decode cX12_stamp 32 = .ok (.getfield 258, 3) := by decide +kernel
theorem dX12_stamp_35 : decode cX12_stamp 35 = .ok (.if_icmp .ge 83, 3) := by decide +kernel
theorem dX12_stamp_38 : decode cX12_stamp 38 = .ok (.aload_n 0, 1) := by decide +kernel
theorem dX12_stamp_39 : decode cX12_stamp 39 = .ok (.iconst 0, 1) := by decide +kernel
theorem dX12_stamp_40 : decode cX12_stamp 40 = .ok (.sipush 255, 3) := by decide +kernel
theorem dX12_stamp_43 : decode cX12_stamp 43 = .ok (.iload_n 2, 1) := by decide +kernel
theorem dX12_stamp_44 : decode cX12_stamp 44 = .ok (.invokevirtual 290, 3) := by decide +kernel
theorem dX12_stamp_47 : decode cX12_stamp 47 = .ok (.aload_n 0, 1) := by decide +kernel
theorem dX12_stamp_48 : decode cX12_stamp 48 = .ok (.aload_n 0, 1) := by decide +kernel
theorem dX12_stamp_49 : decode cX12_stamp 49 = .ok (.getfield 37, 3) := by decide +kernel
theorem dX12_stamp_52 : decode cX12_stamp 52 = .ok (.invokevirtual 277, 3) := by decide +kernel
theorem dX12_stamp_55 : decode cX12_stamp 55 = .ok (.aload_n 0, 1) := by decide +kernel
theorem dX12_stamp_56 : decode cX12_stamp 56 = .ok (.aload_n 0, 1) := by decide +kernel
theorem dX12_stamp_57 : decode cX12_stamp 57 = .ok (.getfield 321, 3) := by decide +kernel
theorem dX12_stamp_60 : decode cX12_stamp 60 = .ok (.invokevirtual 277, 3) := by decide +kernel
theorem dX12_stamp_63 : decode cX12_stamp 63 = .ok (.aload_n 0, 1) := by decide +kernel
theorem dX12_stamp_64 : decode cX12_stamp 64 = .ok (.iload_n 1, 1) := by decide +kernel
theorem dX12_stamp_65 : decode cX12_stamp 65 = .ok (.invokevirtual 277, 3) := by decide +kernel
theorem dX12_stamp_68 : decode cX12_stamp 68 = .ok (.aload_n 0, 1) := by decide +kernel
theorem dX12_stamp_69 : decode cX12_stamp 69 = .ok (.aload_n 0, 1) := by decide +kernel
theorem dX12_stamp_70 : decode cX12_stamp 70 = .ok (.getfield 176, 3) := by decide +kernel
theorem dX12_stamp_73 : decode cX12_stamp 73 = .ok (.iload_n 1, 1) := by decide +kernel
theorem dX12_stamp_74 : decode cX12_stamp 74 = .ok (.iaload, 1) := by decide +kernel
theorem dX12_stamp_75 : decode cX12_stamp 75 = .ok (.invokevirtual 277, 3) := by decide +kernel
theorem dX12_stamp_78 : decode cX12_stamp 78 = .ok (.aload_n 0, 1) := by decide +kernel
theorem dX12_stamp_79 : decode cX12_stamp 79 = .ok (.aload_n 0, 1) := by decide +kernel
theorem dX12_stamp_80 : decode cX12_stamp 80 = .ok (.getfield 182, 3) := by decide +kernel
theorem dX12_stamp_83 : decode cX12_stamp 83 = .ok (.iload_n 1, 1) := by decide +kernel
theorem dX12_stamp_84 : decode cX12_stamp 84 = .ok (.iaload, 1) := by decide +kernel
theorem dX12_stamp_85 : decode cX12_stamp 85 = .ok (.invokevirtual 277, 3) := by decide +kernel
theorem dX12_stamp_88 : decode cX12_stamp 88 = .ok (.aload_n 0, 1) := by decide +kernel
theorem dX12_stamp_89 : decode cX12_stamp 89 = .ok (.aload_n 0, 1) := by decide +kernel
theorem dX12_stamp_90 : decode cX12_stamp 90 = .ok (.getfield 185, 3) := by decide +kernel
theorem dX12_stamp_93 : decode cX12_stamp 93 = .ok (.iload_n 1, 1) := by decide +kernel
theorem dX12_stamp_94 : decode cX12_stamp 94 = .ok (.iaload, 1) := by decide +kernel
theorem dX12_stamp_95 : decode cX12_stamp 95 = .ok (.invokevirtual 277, 3) := by decide +kernel
theorem dX12_stamp_98 : decode cX12_stamp 98 = .ok (.aload_n 0, 1) := by decide +kernel
theorem dX12_stamp_99 : decode cX12_stamp 99 = .ok (.aload_n 0, 1) := by decide +kernel
theorem dX12_stamp_100 : decode cX12_stamp 100 = .ok (.getfield 188, 3) := by decide +kernel
theorem dX12_stamp_103 : decode cX12_stamp 103 = .ok (.iload_n 1, 1) := by decide +kernel
theorem dX12_stamp_104 : decode cX12_stamp 104 = .ok (.iaload, 1) := by decide +kernel
theorem dX12_stamp_105 : decode cX12_stamp 105 = .ok (.invokevirtual 277, 3) := by decide +kernel
theorem dX12_stamp_108 : decode cX12_stamp 108 = .ok (.aload_n 0, 1) := by decide +kernel
theorem dX12_stamp_109 : decode cX12_stamp 109 = .ok (.invokevirtual 297, 3) := by decide +kernel
theorem dX12_stamp_112 : decode cX12_stamp 112 = .ok (.iinc 2 1, 3) := by decide +kernel
theorem dX12_stamp_115 : decode cX12_stamp 115 = .ok (.goto (-85), 3) := by decide +kernel
theorem dX12_stamp_118 : decode cX12_stamp 118 = .ok (.return_, 1) := by decide +kernel
abbrev rm_X12_stamp : Room := { frames := 1, cells := 0, slots := 0, locals := 23 }
def f_X12_stamp_30 (a0 : Nat)  (Q : Sto → Prop) (L30 : Int32 × Int32 → Sto → Prop) (t : Int32 × Int32) (σ : Sto) : Prop := (sK σ a0 = 12 ∧ (∀ x2 : Int32, x2 = sI σ a0 1 → ((x2 ≤ t.2 → Q σ) ∧ (¬ x2 ≤ t.2 → (wp_X12_begin a0 (0 : Int32) (255 : Int32) t.2 σ (fun (σ5 : Sto) => (sK σ5 a0 = 12 ∧ (∀ x7 : Int32, x7 = sI σ5 a0 17 → (wp_X12_add a0 x7 σ5 (fun (σ9 : Sto) => (sK σ9 a0 = 12 ∧ (∀ x11 : Int32, x11 = sI σ9 a0 18 → (wp_X12_add a0 x11 σ9 (fun (σ13 : Sto) => (sK σ13 a0 = 12 ∧ (wp_X12_add a0 t.1 σ13 (fun (σ15 : Sto) => (sK σ15 a0 = 12 ∧ (∃ b17 : Nat, sP σ15 a0 65 = some b17 ∧ (sK σ15 b17 = 14 ∧ (vp_in t.1 (sN σ15 b17) ∧ (∀ x21 : Int32, x21 = sI σ15 b17 t.1.toNatClampNeg → (wp_X12_add a0 x21 σ15 (fun (σ23 : Sto) => (sK σ23 a0 = 12 ∧ (∃ b25 : Nat, sP σ23 a0 67 = some b25 ∧ (sK σ23 b25 = 14 ∧ (vp_in t.1 (sN σ23 b25) ∧ (∀ x29 : Int32, x29 = sI σ23 b25 t.1.toNatClampNeg → (wp_X12_add a0 x29 σ23 (fun (σ31 : Sto) => (sK σ31 a0 = 12 ∧ (∃ b33 : Nat, sP σ31 a0 68 = some b33 ∧ (sK σ31 b33 = 14 ∧ (vp_in t.1 (sN σ31 b33) ∧ (∀ x37 : Int32, x37 = sI σ31 b33 t.1.toNatClampNeg → (wp_X12_add a0 x37 σ31 (fun (σ39 : Sto) => (sK σ39 a0 = 12 ∧ (∃ b41 : Nat, sP σ39 a0 69 = some b41 ∧ (sK σ39 b41 = 14 ∧ (vp_in t.1 (sN σ39 b41) ∧ (∀ x45 : Int32, x45 = sI σ39 b41 t.1.toNatClampNeg → (wp_X12_add a0 x45 σ39 (fun (σ47 : Sto) => (sK σ47 a0 = 12 ∧ (wp_X12_post a0  σ47 (fun (σ49 : Sto) => (∀ x50 : Int32, x50 = t.2 + (1 : Int32) → L30 (t.1, x50) σ49)))))))))))))))))))))))))))))))))))))))))))))))))
set_option maxHeartbeats 4000000 in
set_option maxRecDepth 100000 in
theorem t_X12_stamp_30 {p : Program} {l : Launch} {e : Env} {s : State} {m : MethodId} {args : Array Value} {below : List Frame} {meth : Method} {c : Code} {D : va_G} {cy : Nat → ClassId} {A : Nat → Prop} {a0 : Nat} {Q : Sto → Prop} {L30 : Int32 × Int32 → Sto → Prop} (C : Cx p s m args meth c D cy A cX12_stamp 3 RX12) (hr : meth.sig.returnType = none) (hnm : meth.name = yX12_stamp.name) (hL30 : ∀ (t : Int32 × Int32) (σ : Sto), L30 t σ → ∀ ls : Array Slot, lv_has ls 3 [(0, .ref a0), (1, .int t.1), (2, .int t.2)] → Xw p l e rm_X12_stamp s m args below meth c D cy A σ 0 0 (MQ below (Qst D cy A (PsV Q)) args s rm_X12_stamp.cells rm_X12_stamp.slots A) (F0 m 30 ls [])) : ∀ (t : Int32 × Int32) (σ : Sto), f_X12_stamp_30 a0  Q L30 t σ → ∀ ls : Array Slot, lv_has ls 3 [(0, .ref a0), (1, .int t.1), (2, .int t.2)] → Xw p l e rm_X12_stamp s m args below meth c D cy A σ 0 0 (MQ below (Qst D cy A (PsV Q)) args s rm_X12_stamp.cells rm_X12_stamp.slots A) (F0 m 30 ls []) := by
  intro t σ h ls hl
  unfold f_X12_stamp_30 at h
  refine x_iload_n C dX12_stamp_30 rfl (lv_at hl 2 rfl) ?_
  refine x_aload_n C dX12_stamp_31 rfl (lv_at hl 0 rfl) ?_
  obtain ⟨g1, h⟩ := h
  refine x_getI C fl_RX12_258 g1 dX12_stamp_32 ?_
  refine x_topi (fun x2 e3 => ?_)
  have h := h x2 e3
  refine x_icmp_ge (tgt := 118) C dX12_stamp_35 (by decide) (fun c4 => ?_) (fun c4 => ?_)
  · have h := h.1 c4
    exact x_vret C hr dX12_stamp_118 ⟨rfl, h⟩
  · have h := h.2 c4
    refine x_aload_n C dX12_stamp_38 rfl (lv_at hl 0 rfl) ?_
    refine x_iconst (v := 0) C dX12_stamp_39 (by decide) ?_
    refine x_sipush (v := 255) C dX12_stamp_40 (by decide) ?_
    refine x_iload_n C dX12_stamp_43 rfl (lv_at hl 2 rfl) ?_
    refine x_callV (rm := rm_X12_begin) (rest := []) (As := [.int (0 : Int32), .int (255 : Int32), .int t.2]) C cy_RX12_290 g1 (by decide) (by decide) rfl rfl (Nat.le_of_ble_eq_true rfl) hl.1 dX12_stamp_44 (c_X12_begin l D cy a0 (0 : Int32) (255 : Int32) t.2 σ _ h) (ks_v (fun σ5 h => ?_))
    refine x_aload_n C dX12_stamp_47 rfl (lv_at hl 0 rfl) ?_
    refine x_aload_n C dX12_stamp_48 rfl (lv_at hl 0 rfl) ?_
    obtain ⟨g6, h⟩ := h
    refine x_getI C fl_RX12_37 g6 dX12_stamp_49 ?_
    refine x_topi (fun x7 e8 => ?_)
    have h := h x7 e8
    refine x_callV (rm := rm_X12_add) (rest := []) (As := [.int x7]) C cy_RX12_277 g6 (by decide) (by decide) rfl rfl (Nat.le_of_ble_eq_true rfl) hl.1 dX12_stamp_52 (c_X12_add l D cy a0 x7 σ5 _ h) (ks_v (fun σ9 h => ?_))
    refine x_aload_n C dX12_stamp_55 rfl (lv_at hl 0 rfl) ?_
    refine x_aload_n C dX12_stamp_56 rfl (lv_at hl 0 rfl) ?_
    obtain ⟨g10, h⟩ := h
    refine x_getI C fl_RX12_321 g10 dX12_stamp_57 ?_
    refine x_topi (fun x11 e12 => ?_)
    have h := h x11 e12
    refine x_callV (rm := rm_X12_add) (rest := []) (As := [.int x11]) C cy_RX12_277 g10 (by decide) (by decide) rfl rfl (Nat.le_of_ble_eq_true rfl) hl.1 dX12_stamp_60 (c_X12_add l D cy a0 x11 σ9 _ h) (ks_v (fun σ13 h => ?_))
    refine x_aload_n C dX12_stamp_63 rfl (lv_at hl 0 rfl) ?_
    refine x_iload_n C dX12_stamp_64 rfl (lv_at hl 1 rfl) ?_
    obtain ⟨g14, h⟩ := h
    refine x_callV (rm := rm_X12_add) (rest := []) (As := [.int t.1]) C cy_RX12_277 g14 (by decide) (by decide) rfl rfl (Nat.le_of_ble_eq_true rfl) hl.1 dX12_stamp_65 (c_X12_add l D cy a0 t.1 σ13 _ h) (ks_v (fun σ15 h => ?_))
    refine x_aload_n C dX12_stamp_68 rfl (lv_at hl 0 rfl) ?_
    refine x_aload_n C dX12_stamp_69 rfl (lv_at hl 0 rfl) ?_
    obtain ⟨g16, h⟩ := h
    refine x_getP C fl_RX12_176 g16 dX12_stamp_70 ?_
    refine x_iload_n C dX12_stamp_73 rfl (lv_at hl 1 rfl) ?_
    obtain ⟨b17, g18, h⟩ := h
    refine x_nn1 g18 ?_
    obtain ⟨g19, h⟩ := h
    obtain ⟨g20, h⟩ := h
    refine x_iald C g19 g20 dX12_stamp_74 ?_
    refine x_topi (fun x21 e22 => ?_)
    have h := h x21 e22
    refine x_callV (rm := rm_X12_add) (rest := []) (As := [.int x21]) C cy_RX12_277 g16 (by decide) (by decide) rfl rfl (Nat.le_of_ble_eq_true rfl) hl.1 dX12_stamp_75 (c_X12_add l D cy a0 x21 σ15 _ h) (ks_v (fun σ23 h => ?_))
    refine x_aload_n C dX12_stamp_78 rfl (lv_at hl 0 rfl) ?_
    refine x_aload_n C dX12_stamp_79 rfl (lv_at hl 0 rfl) ?_
    obtain ⟨g24, h⟩ := h
    refine x_getP C fl_RX12_182 g24 dX12_stamp_80 ?_
    refine x_iload_n C dX12_stamp_83 rfl (lv_at hl 1 rfl) ?_
    obtain ⟨b25, g26, h⟩ := h
    refine x_nn1 g26 ?_
    obtain ⟨g27, h⟩ := h
    obtain ⟨g28, h⟩ := h
    refine x_iald C g27 g28 dX12_stamp_84 ?_
    refine x_topi (fun x29 e30 => ?_)
    have h := h x29 e30
    refine x_callV (rm := rm_X12_add) (rest := []) (As := [.int x29]) C cy_RX12_277 g24 (by decide) (by decide) rfl rfl (Nat.le_of_ble_eq_true rfl) hl.1 dX12_stamp_85 (c_X12_add l D cy a0 x29 σ23 _ h) (ks_v (fun σ31 h => ?_))
    refine x_aload_n C dX12_stamp_88 rfl (lv_at hl 0 rfl) ?_
    refine x_aload_n C dX12_stamp_89 rfl (lv_at hl 0 rfl) ?_
    obtain ⟨g32, h⟩ := h
    refine x_getP C fl_RX12_185 g32 dX12_stamp_90 ?_
    refine x_iload_n C dX12_stamp_93 rfl (lv_at hl 1 rfl) ?_
    obtain ⟨b33, g34, h⟩ := h
    refine x_nn1 g34 ?_
    obtain ⟨g35, h⟩ := h
    obtain ⟨g36, h⟩ := h
    refine x_iald C g35 g36 dX12_stamp_94 ?_
    refine x_topi (fun x37 e38 => ?_)
    have h := h x37 e38
    refine x_callV (rm := rm_X12_add) (rest := []) (As := [.int x37]) C cy_RX12_277 g32 (by decide) (by decide) rfl rfl (Nat.le_of_ble_eq_true rfl) hl.1 dX12_stamp_95 (c_X12_add l D cy a0 x37 σ31 _ h) (ks_v (fun σ39 h => ?_))
    refine x_aload_n C dX12_stamp_98 rfl (lv_at hl 0 rfl) ?_
    refine x_aload_n C dX12_stamp_99 rfl (lv_at hl 0 rfl) ?_
    obtain ⟨g40, h⟩ := h
    refine x_getP C fl_RX12_188 g40 dX12_stamp_100 ?_
    refine x_iload_n C dX12_stamp_103 rfl (lv_at hl 1 rfl) ?_
    obtain ⟨b41, g42, h⟩ := h
    refine x_nn1 g42 ?_
    obtain ⟨g43, h⟩ := h
    obtain ⟨g44, h⟩ := h
    refine x_iald C g43 g44 dX12_stamp_104 ?_
    refine x_topi (fun x45 e46 => ?_)
    have h := h x45 e46
    refine x_callV (rm := rm_X12_add) (rest := []) (As := [.int x45]) C cy_RX12_277 g40 (by decide) (by decide) rfl rfl (Nat.le_of_ble_eq_true rfl) hl.1 dX12_stamp_105 (c_X12_add l D cy a0 x45 σ39 _ h) (ks_v (fun σ47 h => ?_))
    refine x_aload_n C dX12_stamp_108 rfl (lv_at hl 0 rfl) ?_
    obtain ⟨g48, h⟩ := h
    refine x_callV (rm := rm_X12_post) (rest := []) (As := []) C cy_RX12_297 g48 (by decide) (by decide) rfl rfl (Nat.le_of_ble_eq_true rfl) hl.1 dX12_stamp_109 (c_X12_post l D cy a0  σ47 _ h) (ks_v (fun σ49 h => ?_))
    obtain ⟨x50, e51⟩ : ∃ z : Int32, z = t.2 + (1 : Int32) := ⟨_, rfl⟩
    have h := h x50 e51
    refine x_iinc (v := x50) (lv' := [(2, .int x50), (0, .ref a0), (1, .int t.1)]) C dX12_stamp_112 hl (q0 := 2) rfl (by rw [e51]; rfl) (by decide) (by first | rfl | simp [vrc, cat_i, cat_r, cat_l]) (fun ls hl => ?_)
    refine x_goto (tgt := 30) C dX12_stamp_115 (by decide) ?_
    exact hL30 (t.1, x50) _ h ls (lv_sub hl [1, 2, 0] rfl)
def wp_X12_stamp (a0 : Nat) (p1 : Int32) (σ : Sto) (Q : Sto → Prop) : Prop := (sK σ a0 = 12 ∧ (∀ x2 : Int32, x2 = sI σ a0 4 → (∃ b4 : Nat, sP σ a0 70 = some b4 ∧ (sK σ b4 = 14 ∧ (vp_in p1 (sN σ b4) ∧ (∀ x8 : Int32, x8 = sI (stI σ b4 p1.toNatClampNeg x2) a0 16 → ((¬ x8 = 0 → (∀ x11 : Int32, x11 = sI (stI σ b4 p1.toNatClampNeg x2) a0 18 → (∀ x13 : Int32, x13 = x11 + (1 : Int32) → LF (f_X12_stamp_30 a0  Q) (p1, (0 : Int32)) (stI (stI σ b4 p1.toNatClampNeg x2) a0 18 x13)))) ∧ (x8 = 0 → Q (stI σ b4 p1.toNatClampNeg x2)))))))))
set_option maxHeartbeats 4000000 in
set_option maxRecDepth 100000 in
theorem c_X12_stamp (l : Launch) (D : va_G) (cy : Nat → ClassId) (a0 : Nat) (p1 : Int32) (σ : Sto) (Q : Sto → Prop) (h : wp_X12_stamp a0 p1 σ Q) : Mt l D cy yX12_stamp cX12_stamp 3 none rm_X12_stamp [.ref a0, .int p1] σ (PsV Q) := by
  unfold wp_X12_stamp at h
  refine mt_of (by decide +kernel) (Nat.le_of_ble_eq_true rfl) ?_
  intro p e s m args below meth c A ls C hr hnm hl
  have C : Cx p s m args meth c D cy A cX12_stamp 3 RX12 := C
  have hl : lv_has ls 3 [(0, .ref a0), (1, .int p1)] := hl
  refine x_aload_n C dX12_stamp_0 rfl (lv_at hl 0 rfl) ?_
  obtain ⟨g1, h⟩ := h
  refine x_getP C fl_RX12_191 g1 dX12_stamp_1 ?_
  refine x_iload_n C dX12_stamp_4 rfl (lv_at hl 1 rfl) ?_
  refine x_aload_n C dX12_stamp_5 rfl (lv_at hl 0 rfl) ?_
  refine x_getI C fl_RX12_318 g1 dX12_stamp_6 ?_
  refine x_topi (fun x2 e3 => ?_)
  have h := h x2 e3
  obtain ⟨b4, g5, h⟩ := h
  refine x_nn2 g5 ?_
  obtain ⟨g6, h⟩ := h
  obtain ⟨g7, h⟩ := h
  refine x_iast C g6 g7 dX12_stamp_9 ?_
  refine x_aload_n C dX12_stamp_10 rfl (lv_at hl 0 rfl) ?_
  refine x_getZ C fl_RX12_33 g1 dX12_stamp_11 ?_
  refine x_topi (fun x8 e9 => ?_)
  have h := h x8 e9
  refine x_if_ne (tgt := 18) C dX12_stamp_14 (by decide) (fun c10 => ?_) (fun c10 => ?_)
  · have h := h.1 c10
    refine x_aload_n C dX12_stamp_18 rfl (lv_at hl 0 rfl) ?_
    refine x_dup C dX12_stamp_19 (rfl) ?_
    refine x_getI C fl_RX12_321 g1 dX12_stamp_20 ?_
    refine x_topi (fun x11 e12 => ?_)
    have h := h x11 e12
    refine x_iconst (v := 1) C dX12_stamp_23 (by decide) ?_
    refine x_iadd C dX12_stamp_24 ?_
    refine x_topi (fun x13 e14 => ?_)
    have h := h x13 e14
    refine x_putI C fl_RX12_321 (Or.inl rfl) g1 dX12_stamp_25 ?_
    refine x_iconst (v := 0) C dX12_stamp_28 (by decide) ?_
    refine x_istore_n (i := 2) (lv' := [(2, .int (0 : Int32)), (0, .ref a0), (1, .int p1)]) C dX12_stamp_29 rfl hl (by decide) (by first | rfl | simp [vrc, cat_i, cat_r, cat_l]) (fun ls hl => ?_)
    exact h (fun t σ => ∀ ls : Array Slot, lv_has ls 3 [(0, .ref a0), (1, .int t.1), (2, .int t.2)] → Xw p l e rm_X12_stamp s m args below meth c D cy A σ 0 0 (MQ below (Qst D cy A (PsV Q)) args s rm_X12_stamp.cells rm_X12_stamp.slots A) (F0 m 30 ls [])) (t_X12_stamp_30 C hr hnm  (fun t σ h => h)) ls (lv_sub hl [1, 2, 0] rfl)
  · have h := h.2 c10
    exact x_vret C hr dX12_stamp_17 ⟨rfl, h⟩
theorem dX12_establish_0 : decode cX12_establish 0 = .ok (.aload_n 0, 1) := by decide +kernel
theorem dX12_establish_1 : decode cX12_establish 1 = .ok (.iconst 1, 1) := by decide +kernel
theorem dX12_establish_2 : decode cX12_establish 2 = .ok (.putfield 33, 3) := by decide +kernel
theorem dX12_establish_5 : decode cX12_establish 5 = .ok (.aload_n 0, 1) := by decide +kernel
theorem dX12_establish_6 : decode cX12_establish 6 = .ok (.dup, 1) := by decide +kernel
theorem dX12_establish_7 : decode cX12_establish 7 = .ok (.getfield 37, 3) := by decide +kernel
theorem dX12_establish_10 : decode cX12_establish 10 = .ok (.iconst 1, 1) := by decide +kernel
theorem dX12_establish_11 : decode cX12_establish 11 = .ok (.iadd, 1) := by decide +kernel
theorem dX12_establish_12 : decode cX12_establish 12 = .ok (.putfield 37, 3) := by decide +kernel
theorem dX12_establish_15 : decode cX12_establish 15 = .ok (.aload_n 0, 1) := by decide +kernel
theorem dX12_establish_16 : decode cX12_establish 16 = .ok (.iconst 0, 1) := by decide +kernel
theorem dX12_establish_17 : decode cX12_establish 17 = .ok (.putfield 321, 3) := by decide +kernel
theorem dX12_establish_20 : decode cX12_establish 20 = .ok (.aload_n 0, 1) := by decide +kernel
theorem dX12_establish_21 : decode cX12_establish 21 = .ok (.getfield 37, 3) := by decide +kernel
theorem dX12_establish_24 : decode cX12_establish 24 = .ok (.ireturn, 1) := by decide +kernel
abbrev rm_X12_establish : Room := { frames := 0, cells := 0, slots := 0, locals := 0 }
def wp_X12_establish (a0 : Nat)  (σ : Sto) (Q : Int32 → Sto → Prop) : Prop := (sK σ a0 = 12 ∧ (∀ x2 : Int32, x2 = sI (stI σ a0 16 (1 : Int32)) a0 17 → (∀ x4 : Int32, x4 = x2 + (1 : Int32) → (∀ x6 : Int32, x6 = sI (stI (stI (stI σ a0 16 (1 : Int32)) a0 17 x4) a0 18 (0 : Int32)) a0 17 → Q x6 (stI (stI (stI σ a0 16 (1 : Int32)) a0 17 x4) a0 18 (0 : Int32))))))
set_option maxHeartbeats 4000000 in
set_option maxRecDepth 100000 in
theorem c_X12_establish (l : Launch) (D : va_G) (cy : Nat → ClassId) (a0 : Nat)  (σ : Sto) (Q : Int32 → Sto → Prop) (h : wp_X12_establish a0  σ Q) : Mt l D cy yX12_establish cX12_establish 1 (some .int) rm_X12_establish [.ref a0] σ (PsI Q) := by
  unfold wp_X12_establish at h
  refine mt_of (by decide +kernel) (Nat.le_of_ble_eq_true rfl) ?_
  intro p e s m args below meth c A ls C hr hnm hl
  have C : Cx p s m args meth c D cy A cX12_establish 1 RX12 := C
  have hl : lv_has ls 1 [(0, .ref a0)] := hl
  refine x_aload_n C dX12_establish_0 rfl (lv_at hl 0 rfl) ?_
  refine x_iconst (v := 1) C dX12_establish_1 (by decide) ?_
  obtain ⟨g1, h⟩ := h
  refine x_putZ C fl_RX12_33 (Or.inl rfl) (by decide) g1 dX12_establish_2 ?_
  refine x_aload_n C dX12_establish_5 rfl (lv_at hl 0 rfl) ?_
  refine x_dup C dX12_establish_6 (rfl) ?_
  refine x_getI C fl_RX12_37 g1 dX12_establish_7 ?_
  refine x_topi (fun x2 e3 => ?_)
  have h := h x2 e3
  refine x_iconst (v := 1) C dX12_establish_10 (by decide) ?_
  refine x_iadd C dX12_establish_11 ?_
  refine x_topi (fun x4 e5 => ?_)
  have h := h x4 e5
  refine x_putI C fl_RX12_37 (Or.inl rfl) g1 dX12_establish_12 ?_
  refine x_aload_n C dX12_establish_15 rfl (lv_at hl 0 rfl) ?_
  refine x_iconst (v := 0) C dX12_establish_16 (by decide) ?_
  refine x_putI C fl_RX12_321 (Or.inl rfl) g1 dX12_establish_17 ?_
  refine x_aload_n C dX12_establish_20 rfl (lv_at hl 0 rfl) ?_
  refine x_getI C fl_RX12_37 g1 dX12_establish_21 ?_
  refine x_topi (fun x6 e7 => ?_)
  have h := h x6 e7
  exact x_iret C hr dX12_establish_24 ⟨_, rfl, h⟩
theorem dX12_asks_0 : decode cX12_asks 0 = .ok (.aload_n 0, 1) := by decide +kernel
theorem dX12_asks_1 : decode cX12_asks 1 = .ok (.getfield 50, 3) := by decide +kernel
theorem dX12_asks_4 : decode cX12_asks 4 = .ok (.iload_n 1, 1) := by decide +kernel
theorem dX12_asks_5 : decode cX12_asks 5 = .ok (.iaload, 1) := by decide +kernel
theorem dX12_asks_6 : decode cX12_asks 6 = .ok (.iconst 1, 1) := by decide +kernel
theorem dX12_asks_7 : decode cX12_asks 7 = .ok (.if_icmp .ne 28, 3) := by decide +kernel
theorem dX12_asks_10 : decode cX12_asks 10 = .ok (.aload_n 0, 1) := by decide +kernel
theorem dX12_asks_11 : decode cX12_asks 11 = .ok (.getfield 155, 3) := by decide +kernel
theorem dX12_asks_14 : decode cX12_asks 14 = .ok (.iload_n 1, 1) := by decide +kernel
theorem dX12_asks_15 : decode cX12_asks 15 = .ok (.aload_n 0, 1) := by decide +kernel
theorem dX12_asks_16 : decode cX12_asks 16 = .ok (.getfield 318, 3) := by decide +kernel
theorem dX12_asks_19 : decode cX12_asks 19 = .ok (.iastore, 1) := by decide +kernel
theorem dX12_asks_20 : decode cX12_asks 20 = .ok (.aload_n 0, 1) := by decide +kernel
theorem dX12_asks_21 : decode cX12_asks 21 = .ok (.iconst 3, 1) := by decide +kernel
theorem dX12_asks_22 : decode cX12_asks 22 = .ok (.iload_n 1, 1) := by decide +kernel
theorem dX12_asks_23 : decode cX12_asks 23 = .ok (.aload_n 0, 1) := by decide +kernel
theorem dX12_asks_24 : decode cX12_asks 24 = .ok (.getfield 59, 3) := by decide +kernel
theorem dX12_asks_27 : decode cX12_asks 27 = .ok (.iload_n 1, 1) := by decide +kernel
theorem dX12_asks_28 : decode cX12_asks 28 = .ok (.iaload, 1) := by decide +kernel
theorem dX12_asks_29 : decode cX12_asks 29 = .ok (.invokevirtual 352, 3) := by decide +kernel
theorem dX12_asks_32 : decode cX12_asks 32 = .ok (.goto 85, 3) := by decide +kernel
theorem dX12_asks_35 : decode cX12_asks 35 = .ok (.aload_n 0, 1) := by decide +kernel
theorem dX12_asks_36 : decode cX12_asks 36 = .ok (.getfield 50, 3) := by decide +kernel
theorem dX12_asks_39 : decode cX12_asks 39 = .ok (.iload_n 1, 1) := by decide +kernel
theorem dX12_asks_40 : decode cX12_asks 40 = .ok (.iaload, 1) := by decide +kernel
theorem dX12_asks_41 : decode cX12_asks 41 = .ok (.iconst 2, 1) := by decide +kernel
theorem dX12_asks_42 : decode cX12_asks 42 = .ok (.if_icmp .ne 29, 3) := by decide +kernel
theorem dX12_asks_45 : decode cX12_asks 45 = .ok (.aload_n 0, 1) := by decide +kernel
theorem dX12_asks_46 : decode cX12_asks 46 = .ok (.getfield 155, 3) := by decide +kernel
theorem dX12_asks_49 : decode cX12_asks 49 = .ok (.iload_n 1, 1) := by decide +kernel
theorem dX12_asks_50 : decode cX12_asks 50 = .ok (.aload_n 0, 1) := by decide +kernel
theorem dX12_asks_51 : decode cX12_asks 51 = .ok (.getfield 318, 3) := by decide +kernel
theorem dX12_asks_54 : decode cX12_asks 54 = .ok (.iastore, 1) := by decide +kernel
theorem dX12_asks_55 : decode cX12_asks 55 = .ok (.aload_n 0, 1) := by decide +kernel
theorem dX12_asks_56 : decode cX12_asks 56 = .ok (.bipush 8, 2) := by decide +kernel
theorem dX12_asks_58 : decode cX12_asks 58 = .ok (.iload_n 1, 1) := by decide +kernel
theorem dX12_asks_59 : decode cX12_asks 59 = .ok (.iconst (-1), 1) := by decide +kernel
theorem dX12_asks_60 : decode cX12_asks 60 = .ok (.invokevirtual 352, 3) := by decide +kernel
theorem dX12_asks_63 : decode cX12_asks 63 = .ok (.aload_n 0, 1) := by decide +kernel
theorem dX12_asks_64 : decode cX12_asks 64 = .ok (.iload_n 1, 1) := by decide +kernel
theorem dX12_asks_65 : decode cX12_asks 65 = .ok (.invokevirtual 358, 3) := by decide +kernel
theorem dX12_asks_68 : decode cX12_asks 68 = .ok (.goto 49, 3) := by decide +kernel
theorem dX12_asks_71 : decode cX12_asks 71 = .ok (.aload_n 0, 1) := by decide +kernel
theorem dX12_asks_72 : decode cX12_asks 72 = .ok (.iload_n 1, 1) := by decide +kernel
theorem dX12_asks_73 : decode cX12_asks 73 = .ok (.invokevirtual 327, 3) := by decide +kernel
theorem dX12_asks_76 : decode cX12_asks 76 = .ok (.ifCond .ne 41, 3) := by decide +kernel
theorem dX12_asks_79 : decode cX12_asks 79 = .ok (.aload_n 0, 1) := by decide +kernel
theorem dX12_asks_80 : decode cX12_asks 80 = .ok (.getfield 89, 3) := by decide +kernel
theorem dX12_asks_83 : decode cX12_asks 83 = .ok (.iload_n 1, 1) := by decide +kernel
theorem dX12_asks_84 : decode cX12_asks 84 = .ok (.iaload, 1) := by decide +kernel
theorem dX12_asks_85 : decode cX12_asks 85 = .ok (.ifCond .le 32, 3) := by decide +kernel
theorem dX12_asks_88 : decode cX12_asks 88 = .ok (.aload_n 0, 1) := by decide +kernel
theorem dX12_asks_89 : decode cX12_asks 89 = .ok (.getfield 155, 3) := by decide +kernel
theorem dX12_asks_92 : decode cX12_asks 92 = .ok (.iload_n 1, 1) := by decide +kernel
theorem dX12_asks_93 : decode cX12_asks 93 = .ok (.aload_n 0, 1) := by decide +kernel
theorem dX12_asks_94 : decode cX12_asks 94 = .ok (.getfield 318, 3) := by decide +kernel
theorem dX12_asks_97 : decode cX12_asks 97 = .ok (.iastore, 1) := by decide +kernel
theorem dX12_asks_98 : decode cX12_asks 98 = .ok (.aload_n 0, 1) := by decide +kernel
theorem dX12_asks_99 : decode cX12_asks 99 = .ok (.iconst 1, 1) := by decide +kernel
theorem dX12_asks_100 : decode cX12_asks 100 = .ok (.iload_n 1, 1) := by decide +kernel
theorem dX12_asks_101 : decode cX12_asks 101 = .ok (.aload_n 0, 1) := by decide +kernel
theorem dX12_asks_102 : decode cX12_asks 102 = .ok (.iload_n 1, 1) := by decide +kernel
theorem dX12_asks_103 : decode cX12_asks 103 = .ok (.invokevirtual 324, 3) := by decide +kernel
theorem dX12_asks_106 : decode cX12_asks 106 = .ok (.aload_n 0, 1) := by decide +kernel
theorem dX12_asks_107 : decode cX12_asks 107 = .ok (.getfield 59, 3) := by decide +kernel
theorem dX12_asks_110 : decode cX12_asks 110 = .ok (.iload_n 1, 1) := by decide +kernel
theorem dX12_asks_111 : decode cX12_asks 111 = .ok (.iaload, 1) := by decide +kernel
theorem dX12_asks_112 : decode cX12_asks 112 = .ok (.iconst 1, 1) := by decide +kernel
theorem dX12_asks_113 : decode cX12_asks 113 = .ok (.iadd, 1) := by decide +kernel
theorem dX12_asks_114 : decode cX12_asks 114 = .ok (.invokevirtual 300, 3) := by decide +kernel
theorem dX12_asks_117 : decode cX12_asks 117 = .ok (.return_, 1) := by decide +kernel
abbrev rm_X12_asks : Room := { frames := 4, cells := 0, slots := 0, locals := 90 }
def wp_X12_asks (a0 : Nat) (p1 : Int32) (σ : Sto) (Q : Sto → Prop) : Prop := (sK σ a0 = 12 ∧ (∃ b2 : Nat, sP σ a0 23 = some b2 ∧ (sK σ b2 = 14 ∧ (vp_in p1 (sN σ b2) ∧ (∀ x6 : Int32, x6 = sI σ b2 p1.toNatClampNeg → ((¬ x6 = (1 : Int32) → (vp_in p1 (sN σ b2) ∧ (∀ x10 : Int32, x10 = sI σ b2 p1.toNatClampNeg → ((¬ x10 = (2 : Int32) → (wp_X12_leads a0 p1 σ (fun (x14 : Int32) (σ13 : Sto) => ((¬ x14 = 0 → Q σ13) ∧ (x14 = 0 → (sK σ13 a0 = 12 ∧ (∃ b17 : Nat, sP σ13 a0 36 = some b17 ∧ (sK σ13 b17 = 14 ∧ (vp_in p1 (sN σ13 b17) ∧ (∀ x21 : Int32, x21 = sI σ13 b17 p1.toNatClampNeg → ((x21 ≤ 0 → Q σ13) ∧ (¬ x21 ≤ 0 → (∀ x24 : Int32, x24 = sI σ13 a0 4 → (∃ b26 : Nat, sP σ13 a0 58 = some b26 ∧ (sK σ13 b26 = 14 ∧ (vp_in p1 (sN σ13 b26) ∧ (wp_X12_leader a0 p1 (stI σ13 b26 p1.toNatClampNeg x24) (fun (x31 : Int32) (σ30 : Sto) => (sK σ30 a0 = 12 ∧ (∃ b33 : Nat, sP σ30 a0 26 = some b33 ∧ (sK σ30 b33 = 14 ∧ (vp_in p1 (sN σ30 b33) ∧ (∀ x37 : Int32, x37 = sI σ30 b33 p1.toNatClampNeg → (wp_X12_tell a0 (1 : Int32) p1 x31 (x37 + (1 : Int32)) σ30 (fun (σ39 : Sto) => Q σ39))))))))))))))))))))))))) ∧ (x10 = (2 : Int32) → (∀ x40 : Int32, x40 = sI σ a0 4 → (∃ b42 : Nat, sP σ a0 58 = some b42 ∧ (sK σ b42 = 14 ∧ (vp_in p1 (sN σ b42) ∧ (wp_X12_tellOthers a0 (8 : Int32) p1 (-1 : Int32) (stI σ b42 p1.toNatClampNeg x40) (fun (σ46 : Sto) => (sK σ46 a0 = 12 ∧ (wp_X12_sendTurned a0 p1 σ46 (fun (σ48 : Sto) => Q σ48)))))))))))))) ∧ (x6 = (1 : Int32) → (∀ x49 : Int32, x49 = sI σ a0 4 → (∃ b51 : Nat, sP σ a0 58 = some b51 ∧ (sK σ b51 = 14 ∧ (vp_in p1 (sN σ b51) ∧ (∃ b55 : Nat, sP σ a0 26 = some b55 ∧ (sK σ b55 = 14 ∧ (vp_in p1 (sN σ b55) ∧ (∀ x59 : Int32, x59 = sI (stI σ b51 p1.toNatClampNeg x49) b55 p1.toNatClampNeg → (wp_X12_tellOthers a0 (3 : Int32) p1 x59 (stI σ b51 p1.toNatClampNeg x49) (fun (σ61 : Sto) => Q σ61)))))))))))))))))
set_option maxHeartbeats 4000000 in
set_option maxRecDepth 100000 in
theorem c_X12_asks (l : Launch) (D : va_G) (cy : Nat → ClassId) (a0 : Nat) (p1 : Int32) (σ : Sto) (Q : Sto → Prop) (h : wp_X12_asks a0 p1 σ Q) : Mt l D cy yX12_asks cX12_asks 2 none rm_X12_asks [.ref a0, .int p1] σ (PsV Q) := by
  unfold wp_X12_asks at h
  refine mt_of (by decide +kernel) (Nat.le_of_ble_eq_true rfl) ?_
  intro p e s m args below meth c A ls C hr hnm hl
  have C : Cx p s m args meth c D cy A cX12_asks 2 RX12 := C
  have hl : lv_has ls 2 [(0, .ref a0), (1, .int p1)] := hl
  refine x_aload_n C dX12_asks_0 rfl (lv_at hl 0 rfl) ?_
  obtain ⟨g1, h⟩ := h
  refine x_getP C fl_RX12_50 g1 dX12_asks_1 ?_
  refine x_iload_n C dX12_asks_4 rfl (lv_at hl 1 rfl) ?_
  obtain ⟨b2, g3, h⟩ := h
  refine x_nn1 g3 ?_
  obtain ⟨g4, h⟩ := h
  obtain ⟨g5, h⟩ := h
  refine x_iald C g4 g5 dX12_asks_5 ?_
  refine x_topi (fun x6 e7 => ?_)
  have h := h x6 e7
  refine x_iconst (v := 1) C dX12_asks_6 (by decide) ?_
  refine x_icmp_ne (tgt := 35) C dX12_asks_7 (by decide) (fun c8 => ?_) (fun c8 => ?_)
  · have h := h.1 c8
    refine x_aload_n C dX12_asks_35 rfl (lv_at hl 0 rfl) ?_
    refine x_getP C fl_RX12_50 g1 dX12_asks_36 ?_
    refine x_iload_n C dX12_asks_39 rfl (lv_at hl 1 rfl) ?_
    refine x_nn1 g3 ?_
    obtain ⟨g9, h⟩ := h
    refine x_iald C g4 g9 dX12_asks_40 ?_
    refine x_topi (fun x10 e11 => ?_)
    have h := h x10 e11
    refine x_iconst (v := 2) C dX12_asks_41 (by decide) ?_
    refine x_icmp_ne (tgt := 71) C dX12_asks_42 (by decide) (fun c12 => ?_) (fun c12 => ?_)
    · have h := h.1 c12
      refine x_aload_n C dX12_asks_71 rfl (lv_at hl 0 rfl) ?_
      refine x_iload_n C dX12_asks_72 rfl (lv_at hl 1 rfl) ?_
      refine x_callV (rm := rm_X12_leads) (rest := []) (As := [.int p1]) C cy_RX12_327 g1 (by decide) (by decide) rfl rfl (Nat.le_of_ble_eq_true rfl) hl.1 dX12_asks_73 (c_X12_leads l D cy a0 p1 σ _ h) (ks_i (fun x14 σ13 h => ?_))
      refine x_if_ne (tgt := 117) C dX12_asks_76 (by decide) (fun c15 => ?_) (fun c15 => ?_)
      · have h := h.1 c15
        exact x_vret C hr dX12_asks_117 ⟨rfl, h⟩
      · have h := h.2 c15
        refine x_aload_n C dX12_asks_79 rfl (lv_at hl 0 rfl) ?_
        obtain ⟨g16, h⟩ := h
        refine x_getP C fl_RX12_89 g16 dX12_asks_80 ?_
        refine x_iload_n C dX12_asks_83 rfl (lv_at hl 1 rfl) ?_
        obtain ⟨b17, g18, h⟩ := h
        refine x_nn1 g18 ?_
        obtain ⟨g19, h⟩ := h
        obtain ⟨g20, h⟩ := h
        refine x_iald C g19 g20 dX12_asks_84 ?_
        refine x_topi (fun x21 e22 => ?_)
        have h := h x21 e22
        refine x_if_le (tgt := 117) C dX12_asks_85 (by decide) (fun c23 => ?_) (fun c23 => ?_)
        · have h := h.1 c23
          exact x_vret C hr dX12_asks_117 ⟨rfl, h⟩
        · have h := h.2 c23
          refine x_aload_n C dX12_asks_88 rfl (lv_at hl 0 rfl) ?_
          refine x_getP C fl_RX12_155 g16 dX12_asks_89 ?_
          refine x_iload_n C dX12_asks_92 rfl (lv_at hl 1 rfl) ?_
          refine x_aload_n C dX12_asks_93 rfl (lv_at hl 0 rfl) ?_
          refine x_getI C fl_RX12_318 g16 dX12_asks_94 ?_
          refine x_topi (fun x24 e25 => ?_)
          have h := h x24 e25
          obtain ⟨b26, g27, h⟩ := h
          refine x_nn2 g27 ?_
          obtain ⟨g28, h⟩ := h
          obtain ⟨g29, h⟩ := h
          refine x_iast C g28 g29 dX12_asks_97 ?_
          refine x_aload_n C dX12_asks_98 rfl (lv_at hl 0 rfl) ?_
          refine x_iconst (v := 1) C dX12_asks_99 (by decide) ?_
          refine x_iload_n C dX12_asks_100 rfl (lv_at hl 1 rfl) ?_
          refine x_aload_n C dX12_asks_101 rfl (lv_at hl 0 rfl) ?_
          refine x_iload_n C dX12_asks_102 rfl (lv_at hl 1 rfl) ?_
          refine x_callV (rm := rm_X12_leader) (rest := [.int p1, .int (1 : Int32), .ref a0]) (As := [.int p1]) C cy_RX12_324 g16 (by decide) (by decide) rfl rfl (Nat.le_of_ble_eq_true rfl) hl.1 dX12_asks_103 (c_X12_leader l D cy a0 p1 (stI σ13 b26 p1.toNatClampNeg x24) _ h) (ks_i (fun x31 σ30 h => ?_))
          refine x_aload_n C dX12_asks_106 rfl (lv_at hl 0 rfl) ?_
          obtain ⟨g32, h⟩ := h
          refine x_getP C fl_RX12_59 g32 dX12_asks_107 ?_
          refine x_iload_n C dX12_asks_110 rfl (lv_at hl 1 rfl) ?_
          obtain ⟨b33, g34, h⟩ := h
          refine x_nn1 g34 ?_
          obtain ⟨g35, h⟩ := h
          obtain ⟨g36, h⟩ := h
          refine x_iald C g35 g36 dX12_asks_111 ?_
          refine x_topi (fun x37 e38 => ?_)
          have h := h x37 e38
          refine x_iconst (v := 1) C dX12_asks_112 (by decide) ?_
          refine x_iadd C dX12_asks_113 ?_
          refine x_callV (rm := rm_X12_tell) (rest := []) (As := [.int (1 : Int32), .int p1, .int x31, .int (x37 + (1 : Int32))]) C cy_RX12_300 g32 (by decide) (by decide) rfl rfl (Nat.le_of_ble_eq_true rfl) hl.1 dX12_asks_114 (c_X12_tell l D cy a0 (1 : Int32) p1 x31 (x37 + (1 : Int32)) σ30 _ h) (ks_v (fun σ39 h => ?_))
          exact x_vret C hr dX12_asks_117 ⟨rfl, h⟩
    · have h := h.2 c12
      refine x_aload_n C dX12_asks_45 rfl (lv_at hl 0 rfl) ?_
      refine x_getP C fl_RX12_155 g1 dX12_asks_46 ?_
      refine x_iload_n C dX12_asks_49 rfl (lv_at hl 1 rfl) ?_
      refine x_aload_n C dX12_asks_50 rfl (lv_at hl 0 rfl) ?_
      refine x_getI C fl_RX12_318 g1 dX12_asks_51 ?_
      refine x_topi (fun x40 e41 => ?_)
      have h := h x40 e41
      obtain ⟨b42, g43, h⟩ := h
      refine x_nn2 g43 ?_
      obtain ⟨g44, h⟩ := h
      obtain ⟨g45, h⟩ := h
      refine x_iast C g44 g45 dX12_asks_54 ?_
      refine x_aload_n C dX12_asks_55 rfl (lv_at hl 0 rfl) ?_
      refine x_bipush (v := 8) C dX12_asks_56 (by decide) ?_
      refine x_iload_n C dX12_asks_58 rfl (lv_at hl 1 rfl) ?_
      refine x_iconst (v := -1) C dX12_asks_59 (by decide) ?_
      refine x_callV (rm := rm_X12_tellOthers) (rest := []) (As := [.int (8 : Int32), .int p1, .int (-1 : Int32)]) C cy_RX12_352 g1 (by decide) (by decide) rfl rfl (Nat.le_of_ble_eq_true rfl) hl.1 dX12_asks_60 (c_X12_tellOthers l D cy a0 (8 : Int32) p1 (-1 : Int32) (stI σ b42 p1.toNatClampNeg x40) _ h) (ks_v (fun σ46 h => ?_))
      refine x_aload_n C dX12_asks_63 rfl (lv_at hl 0 rfl) ?_
      refine x_iload_n C dX12_asks_64 rfl (lv_at hl 1 rfl) ?_
      obtain ⟨g47, h⟩ := h
      refine x_callV (rm := rm_X12_sendTurned) (rest := []) (As := [.int p1]) C cy_RX12_358 g47 (by decide) (by decide) rfl rfl (Nat.le_of_ble_eq_true rfl) hl.1 dX12_asks_65 (c_X12_sendTurned l D cy a0 p1 σ46 _ h) (ks_v (fun σ48 h => ?_))
      refine x_goto (tgt := 117) C dX12_asks_68 (by decide) ?_
      exact x_vret C hr dX12_asks_117 ⟨rfl, h⟩
  · have h := h.2 c8
    refine x_aload_n C dX12_asks_10 rfl (lv_at hl 0 rfl) ?_
    refine x_getP C fl_RX12_155 g1 dX12_asks_11 ?_
    refine x_iload_n C dX12_asks_14 rfl (lv_at hl 1 rfl) ?_
    refine x_aload_n C dX12_asks_15 rfl (lv_at hl 0 rfl) ?_
    refine x_getI C fl_RX12_318 g1 dX12_asks_16 ?_
    refine x_topi (fun x49 e50 => ?_)
    have h := h x49 e50
    obtain ⟨b51, g52, h⟩ := h
    refine x_nn2 g52 ?_
    obtain ⟨g53, h⟩ := h
    obtain ⟨g54, h⟩ := h
    refine x_iast C g53 g54 dX12_asks_19 ?_
    refine x_aload_n C dX12_asks_20 rfl (lv_at hl 0 rfl) ?_
    refine x_iconst (v := 3) C dX12_asks_21 (by decide) ?_
    refine x_iload_n C dX12_asks_22 rfl (lv_at hl 1 rfl) ?_
    refine x_aload_n C dX12_asks_23 rfl (lv_at hl 0 rfl) ?_
    refine x_getP C fl_RX12_59 g1 dX12_asks_24 ?_
    refine x_iload_n C dX12_asks_27 rfl (lv_at hl 1 rfl) ?_
    obtain ⟨b55, g56, h⟩ := h
    refine x_nn1 g56 ?_
    obtain ⟨g57, h⟩ := h
    obtain ⟨g58, h⟩ := h
    refine x_iald C g57 g58 dX12_asks_28 ?_
    refine x_topi (fun x59 e60 => ?_)
    have h := h x59 e60
    refine x_callV (rm := rm_X12_tellOthers) (rest := []) (As := [.int (3 : Int32), .int p1, .int x59]) C cy_RX12_352 g1 (by decide) (by decide) rfl rfl (Nat.le_of_ble_eq_true rfl) hl.1 dX12_asks_29 (c_X12_tellOthers l D cy a0 (3 : Int32) p1 x59 (stI σ b51 p1.toNatClampNeg x49) _ h) (ks_v (fun σ61 h => ?_))
    refine x_goto (tgt := 117) C dX12_asks_32 (by decide) ?_
    exact x_vret C hr dX12_asks_117 ⟨rfl, h⟩
theorem dX12_syncs_0 : decode cX12_syncs 0 = .ok (.aload_n 0, 1) := by decide +kernel
theorem dX12_syncs_1 : decode cX12_syncs 1 = .ok (.getfield 164, 3) := by decide +kernel
theorem dX12_syncs_4 : decode cX12_syncs 4 = .ok (.iload_n 1, 1) := by decide +kernel
theorem dX12_syncs_5 : decode cX12_syncs 5 = .ok (.aload_n 0, 1) := by decide +kernel
theorem dX12_syncs_6 : decode cX12_syncs 6 = .ok (.getfield 318, 3) := by decide +kernel
theorem dX12_syncs_9 : decode cX12_syncs 9 = .ok (.iastore, 1) := by decide +kernel
theorem dX12_syncs_10 : decode cX12_syncs 10 = .ok (.iconst 0, 1) := by decide +kernel
theorem dX12_syncs_11 : decode cX12_syncs 11 = .ok (.istore_n 2, 1) := by decide +kernel
theorem dX12_syncs_12 : decode cX12_syncs 12 = .ok (.iload_n 2, 1) := by decide +kernel
theorem dX12_syncs_13 : decode cX12_syncs 13 = .ok (.aload_n 0, 1) := by decide +kernel
theorem dX12_syncs_14 : decode cX12_syncs 14 = .ok (.getfield 258, 3) := by decide +kernel
theorem dX12_syncs_17 : decode cX12_syncs 17 = .ok (.if_icmp .ge 41, 3) := by decide +kernel
theorem dX12_syncs_20 : decode cX12_syncs 20 = .ok (.iload_n 2, 1) := by decide +kernel
theorem dX12_syncs_21 : decode cX12_syncs 21 = .ok (.iload_n 1, 1) := by decide +kernel
theorem dX12_syncs_22 : decode cX12_syncs 22 = .ok (.if_icmp .eq 30, 3) := by decide +kernel
theorem dX12_syncs_25 : decode cX12_syncs 25 = .ok (.aload_n 0, 1) := by decide +kernel
theorem dX12_syncs_26 : decode cX12_syncs 26 = .ok (.iconst 5, 1) := by decide +kernel
theorem dX12_syncs_27 : decode cX12_syncs 27 = .ok (.iload_n 1, 1) := by decide +kernel
theorem dX12_syncs_28 : decode cX12_syncs 28 = .ok (.iload_n 2, 1) := by decide +kernel
theorem dX12_syncs_29 : decode cX12_syncs 29 = .ok (.invokevirtual 290, 3) := by decide +kernel
theorem dX12_syncs_32 : decode cX12_syncs 32 = .ok (.aload_n 0, 1) := by decide +kernel
theorem dX12_syncs_33 : decode cX12_syncs 33 = .ok (.iload_n 1, 1) := by decide +kernel
theorem dX12_syncs_34 : decode cX12_syncs 34 = .ok (.invokevirtual 294, 3) := by decide +kernel
theorem dX12_syncs_37 : decode cX12_syncs 37 = .ok (.aload_n 0, 1) := by decide +kernel
theorem dX12_syncs_38 : decode cX12_syncs 38 = .ok (.iload_n 1, 1) := by decide +kernel
theorem dX12_syncs_39 : decode cX12_syncs 39 = .ok (.aload_n 0, 1) := by decide +kernel
theorem dX12_syncs_40 : decode cX12_syncs 40 = .ok (.getfield 59, 3) := by decide +kernel
theorem dX12_syncs_43 : decode cX12_syncs 43 = .ok (.iload_n 1, 1) := by decide +kernel
theorem dX12_syncs_44 : decode cX12_syncs 44 = .ok (.iaload, 1) := by decide +kernel
theorem dX12_syncs_45 : decode cX12_syncs 45 = .ok (.invokevirtual 304, 3) := by decide +kernel
theorem dX12_syncs_48 : decode cX12_syncs 48 = .ok (.aload_n 0, 1) := by decide +kernel
theorem dX12_syncs_49 : decode cX12_syncs 49 = .ok (.invokevirtual 297, 3) := by decide +kernel
theorem dX12_syncs_52 : decode cX12_syncs 52 = .ok (.iinc 2 1, 3) := by decide +kernel
theorem dX12_syncs_55 : decode cX12_syncs 55 = .ok (.goto (-43), 3) := by decide +kernel
theorem dX12_syncs_58 : decode cX12_syncs 58 = .ok (.return_, 1) := by decide +kernel
abbrev rm_X12_syncs : Room := { frames := 2, cells := 0, slots := 0, locals := 45 }
def b_X12_syncs_52 (a0 : Nat) (L12 : Int32 × Int32 → Sto → Prop) (Q : Sto → Prop) (p1 : Int32) (p2 : Int32) (σ : Sto) : Prop := (∀ x1 : Int32, x1 = p2 + (1 : Int32) → L12 (p1, x1) σ)
set_option maxHeartbeats 4000000 in
set_option maxRecDepth 100000 in
theorem t_X12_syncs_52 {p : Program} {l : Launch} {e : Env} {s : State} {m : MethodId} {args : Array Value} {below : List Frame} {meth : Method} {c : Code} {D : va_G} {cy : Nat → ClassId} {A : Nat → Prop} {a0 : Nat} {L12 : Int32 × Int32 → Sto → Prop} {Q : Sto → Prop} (C : Cx p s m args meth c D cy A cX12_syncs 3 RX12) (hr : meth.sig.returnType = none) (hnm : meth.name = yX12_syncs.name) (hL12 : ∀ (t : Int32 × Int32) (σ : Sto), L12 t σ → ∀ ls : Array Slot, lv_has ls 3 [(0, .ref a0), (1, .int t.1), (2, .int t.2)] → Xw p l e rm_X12_syncs s m args below meth c D cy A σ 0 0 (MQ below (Qst D cy A (PsV Q)) args s rm_X12_syncs.cells rm_X12_syncs.slots A) (F0 m 12 ls [])) (p1 : Int32) (p2 : Int32) (σ : Sto) (h : b_X12_syncs_52 a0 L12 Q p1 p2 σ) (ls : Array Slot) (hl : lv_has ls 3 [(0, .ref a0), (1, .int p1), (2, .int p2)]) : Xw p l e rm_X12_syncs s m args below meth c D cy A σ 0 0 (MQ below (Qst D cy A (PsV Q)) args s rm_X12_syncs.cells rm_X12_syncs.slots A) (F0 m 52 ls []) := by
  unfold b_X12_syncs_52 at h
  obtain ⟨x1, e2⟩ : ∃ z : Int32, z = p2 + (1 : Int32) := ⟨_, rfl⟩
  have h := h x1 e2
  refine x_iinc (v := x1) (lv' := [(2, .int x1), (0, .ref a0), (1, .int p1)]) C dX12_syncs_52 hl (q0 := 2) rfl (by rw [e2]; rfl) (by decide) (by first | rfl | simp [vrc, cat_i, cat_r, cat_l]) (fun ls hl => ?_)
  refine x_goto (tgt := 12) C dX12_syncs_55 (by decide) ?_
  exact hL12 (p1, x1) _ h ls (lv_sub hl [1, 2, 0] rfl)
def f_X12_syncs_12 (a0 : Nat)  (Q : Sto → Prop) (L12 : Int32 × Int32 → Sto → Prop) (t : Int32 × Int32) (σ : Sto) : Prop := (sK σ a0 = 12 ∧ (∀ x2 : Int32, x2 = sI σ a0 1 → ((x2 ≤ t.2 → Q σ) ∧ (¬ x2 ≤ t.2 → ((t.2 = t.1 → b_X12_syncs_52 a0 L12 Q t.1 t.2 σ) ∧ (¬ t.2 = t.1 → (wp_X12_begin a0 (5 : Int32) t.1 t.2 σ (fun (σ6 : Sto) => (sK σ6 a0 = 12 ∧ (wp_X12_addView a0 t.1 σ6 (fun (σ8 : Sto) => (sK σ8 a0 = 12 ∧ (∃ b10 : Nat, sP σ8 a0 26 = some b10 ∧ (sK σ8 b10 = 14 ∧ (vp_in t.1 (sN σ8 b10) ∧ (∀ x14 : Int32, x14 = sI σ8 b10 t.1.toNatClampNeg → (wp_X12_addLog a0 t.1 x14 σ8 (fun (σ16 : Sto) => (sK σ16 a0 = 12 ∧ (wp_X12_post a0  σ16 (fun (σ18 : Sto) => b_X12_syncs_52 a0 L12 Q t.1 t.2 σ18)))))))))))))))))))))
set_option maxHeartbeats 4000000 in
set_option maxRecDepth 100000 in
theorem t_X12_syncs_12 {p : Program} {l : Launch} {e : Env} {s : State} {m : MethodId} {args : Array Value} {below : List Frame} {meth : Method} {c : Code} {D : va_G} {cy : Nat → ClassId} {A : Nat → Prop} {a0 : Nat} {Q : Sto → Prop} {L12 : Int32 × Int32 → Sto → Prop} (C : Cx p s m args meth c D cy A cX12_syncs 3 RX12) (hr : meth.sig.returnType = none) (hnm : meth.name = yX12_syncs.name) (hL12 : ∀ (t : Int32 × Int32) (σ : Sto), L12 t σ → ∀ ls : Array Slot, lv_has ls 3 [(0, .ref a0), (1, .int t.1), (2, .int t.2)] → Xw p l e rm_X12_syncs s m args below meth c D cy A σ 0 0 (MQ below (Qst D cy A (PsV Q)) args s rm_X12_syncs.cells rm_X12_syncs.slots A) (F0 m 12 ls [])) : ∀ (t : Int32 × Int32) (σ : Sto), f_X12_syncs_12 a0  Q L12 t σ → ∀ ls : Array Slot, lv_has ls 3 [(0, .ref a0), (1, .int t.1), (2, .int t.2)] → Xw p l e rm_X12_syncs s m args below meth c D cy A σ 0 0 (MQ below (Qst D cy A (PsV Q)) args s rm_X12_syncs.cells rm_X12_syncs.slots A) (F0 m 12 ls []) := by
  intro t σ h ls hl
  unfold f_X12_syncs_12 at h
  refine x_iload_n C dX12_syncs_12 rfl (lv_at hl 2 rfl) ?_
  refine x_aload_n C dX12_syncs_13 rfl (lv_at hl 0 rfl) ?_
  obtain ⟨g1, h⟩ := h
  refine x_getI C fl_RX12_258 g1 dX12_syncs_14 ?_
  refine x_topi (fun x2 e3 => ?_)
  have h := h x2 e3
  refine x_icmp_ge (tgt := 58) C dX12_syncs_17 (by decide) (fun c4 => ?_) (fun c4 => ?_)
  · have h := h.1 c4
    exact x_vret C hr dX12_syncs_58 ⟨rfl, h⟩
  · have h := h.2 c4
    refine x_iload_n C dX12_syncs_20 rfl (lv_at hl 2 rfl) ?_
    refine x_iload_n C dX12_syncs_21 rfl (lv_at hl 1 rfl) ?_
    refine x_icmp_eq (tgt := 52) C dX12_syncs_22 (by decide) (fun c5 => ?_) (fun c5 => ?_)
    · have h := h.1 c5
      exact t_X12_syncs_52 C hr hnm hL12 t.1 t.2 _ h ls (lv_sub hl [0, 1, 2] rfl)
    · have h := h.2 c5
      refine x_aload_n C dX12_syncs_25 rfl (lv_at hl 0 rfl) ?_
      refine x_iconst (v := 5) C dX12_syncs_26 (by decide) ?_
      refine x_iload_n C dX12_syncs_27 rfl (lv_at hl 1 rfl) ?_
      refine x_iload_n C dX12_syncs_28 rfl (lv_at hl 2 rfl) ?_
      refine x_callV (rm := rm_X12_begin) (rest := []) (As := [.int (5 : Int32), .int t.1, .int t.2]) C cy_RX12_290 g1 (by decide) (by decide) rfl rfl (Nat.le_of_ble_eq_true rfl) hl.1 dX12_syncs_29 (c_X12_begin l D cy a0 (5 : Int32) t.1 t.2 σ _ h) (ks_v (fun σ6 h => ?_))
      refine x_aload_n C dX12_syncs_32 rfl (lv_at hl 0 rfl) ?_
      refine x_iload_n C dX12_syncs_33 rfl (lv_at hl 1 rfl) ?_
      obtain ⟨g7, h⟩ := h
      refine x_callV (rm := rm_X12_addView) (rest := []) (As := [.int t.1]) C cy_RX12_294 g7 (by decide) (by decide) rfl rfl (Nat.le_of_ble_eq_true rfl) hl.1 dX12_syncs_34 (c_X12_addView l D cy a0 t.1 σ6 _ h) (ks_v (fun σ8 h => ?_))
      refine x_aload_n C dX12_syncs_37 rfl (lv_at hl 0 rfl) ?_
      refine x_iload_n C dX12_syncs_38 rfl (lv_at hl 1 rfl) ?_
      refine x_aload_n C dX12_syncs_39 rfl (lv_at hl 0 rfl) ?_
      obtain ⟨g9, h⟩ := h
      refine x_getP C fl_RX12_59 g9 dX12_syncs_40 ?_
      refine x_iload_n C dX12_syncs_43 rfl (lv_at hl 1 rfl) ?_
      obtain ⟨b10, g11, h⟩ := h
      refine x_nn1 g11 ?_
      obtain ⟨g12, h⟩ := h
      obtain ⟨g13, h⟩ := h
      refine x_iald C g12 g13 dX12_syncs_44 ?_
      refine x_topi (fun x14 e15 => ?_)
      have h := h x14 e15
      refine x_callV (rm := rm_X12_addLog) (rest := []) (As := [.int t.1, .int x14]) C cy_RX12_304 g9 (by decide) (by decide) rfl rfl (Nat.le_of_ble_eq_true rfl) hl.1 dX12_syncs_45 (c_X12_addLog l D cy a0 t.1 x14 σ8 _ h) (ks_v (fun σ16 h => ?_))
      refine x_aload_n C dX12_syncs_48 rfl (lv_at hl 0 rfl) ?_
      obtain ⟨g17, h⟩ := h
      refine x_callV (rm := rm_X12_post) (rest := []) (As := []) C cy_RX12_297 g17 (by decide) (by decide) rfl rfl (Nat.le_of_ble_eq_true rfl) hl.1 dX12_syncs_49 (c_X12_post l D cy a0  σ16 _ h) (ks_v (fun σ18 h => ?_))
      exact t_X12_syncs_52 C hr hnm hL12 t.1 t.2 _ h ls (lv_sub hl [0, 1, 2] rfl)
def wp_X12_syncs (a0 : Nat) (p1 : Int32) (σ : Sto) (Q : Sto → Prop) : Prop := (sK σ a0 = 12 ∧ (∀ x2 : Int32, x2 = sI σ a0 4 → (∃ b4 : Nat, sP σ a0 61 = some b4 ∧ (sK σ b4 = 14 ∧ (vp_in p1 (sN σ b4) ∧ LF (f_X12_syncs_12 a0  Q) (p1, (0 : Int32)) (stI σ b4 p1.toNatClampNeg x2))))))
set_option maxHeartbeats 4000000 in
set_option maxRecDepth 100000 in
theorem c_X12_syncs (l : Launch) (D : va_G) (cy : Nat → ClassId) (a0 : Nat) (p1 : Int32) (σ : Sto) (Q : Sto → Prop) (h : wp_X12_syncs a0 p1 σ Q) : Mt l D cy yX12_syncs cX12_syncs 3 none rm_X12_syncs [.ref a0, .int p1] σ (PsV Q) := by
  unfold wp_X12_syncs at h
  refine mt_of (by decide +kernel) (Nat.le_of_ble_eq_true rfl) ?_
  intro p e s m args below meth c A ls C hr hnm hl
  have C : Cx p s m args meth c D cy A cX12_syncs 3 RX12 := C
  have hl : lv_has ls 3 [(0, .ref a0), (1, .int p1)] := hl
  refine x_aload_n C dX12_syncs_0 rfl (lv_at hl 0 rfl) ?_
  obtain ⟨g1, h⟩ := h
  refine x_getP C fl_RX12_164 g1 dX12_syncs_1 ?_
  refine x_iload_n C dX12_syncs_4 rfl (lv_at hl 1 rfl) ?_
  refine x_aload_n C dX12_syncs_5 rfl (lv_at hl 0 rfl) ?_
  refine x_getI C fl_RX12_318 g1 dX12_syncs_6 ?_
  refine x_topi (fun x2 e3 => ?_)
  have h := h x2 e3
  obtain ⟨b4, g5, h⟩ := h
  refine x_nn2 g5 ?_
  obtain ⟨g6, h⟩ := h
  obtain ⟨g7, h⟩ := h
  refine x_iast C g6 g7 dX12_syncs_9 ?_
  refine x_iconst (v := 0) C dX12_syncs_10 (by decide) ?_
  refine x_istore_n (i := 2) (lv' := [(2, .int (0 : Int32)), (0, .ref a0), (1, .int p1)]) C dX12_syncs_11 rfl hl (by decide) (by first | rfl | simp [vrc, cat_i, cat_r, cat_l]) (fun ls hl => ?_)
  exact h (fun t σ => ∀ ls : Array Slot, lv_has ls 3 [(0, .ref a0), (1, .int t.1), (2, .int t.2)] → Xw p l e rm_X12_syncs s m args below meth c D cy A σ 0 0 (MQ below (Qst D cy A (PsV Q)) args s rm_X12_syncs.cells rm_X12_syncs.slots A) (F0 m 12 ls [])) (t_X12_syncs_12 C hr hnm  (fun t σ h => h)) ls (lv_sub hl [1, 2, 0] rfl)
theorem dX12_acts_0 : decode cX12_acts 0 = .ok (.aload_n 0, 1) := by decide +kernel
theorem dX12_acts_1 : decode cX12_acts 1 = .ok (.iload_n 1, 1) := by decide +kernel
theorem dX12_acts_2 : decode cX12_acts 2 = .ok (.invokevirtual 327, 3) := by decide +kernel
theorem dX12_acts_5 : decode cX12_acts 5 = .ok (.istore_n 2, 1) := by decide +kernel
theorem dX12_acts_6 : decode cX12_acts 6 = .ok (.aload_n 0, 1) := by decide +kernel
theorem dX12_acts_7 : decode cX12_acts 7 = .ok (.getfield 50, 3) := by decide +kernel
theorem dX12_acts_10 : decode cX12_acts 10 = .ok (.iload_n 1, 1) := by decide +kernel
theorem dX12_acts_11 : decode cX12_acts 11 = .ok (.iaload, 1) := by decide +kernel
theorem dX12_acts_12 : decode cX12_acts 12 = .ok (.istore_n 3, 1) := by decide +kernel
theorem dX12_acts_13 : decode cX12_acts 13 = .ok (.iload_n 3, 1) := by decide +kernel
theorem dX12_acts_14 : decode cX12_acts 14 = .ok (.iconst 2, 1) := by decide +kernel
theorem dX12_acts_15 : decode cX12_acts 15 = .ok (.if_icmp .ne 45, 3) := by decide +kernel
theorem dX12_acts_18 : decode cX12_acts 18 = .ok (.aload_n 0, 1) := by decide +kernel
theorem dX12_acts_19 : decode cX12_acts 19 = .ok (.getfield 318, 3) := by decide +kernel
theorem dX12_acts_22 : decode cX12_acts 22 = .ok (.aload_n 0, 1) := by decide +kernel
theorem dX12_acts_23 : decode cX12_acts 23 = .ok (.getfield 158, 3) := by decide +kernel
theorem dX12_acts_26 : decode cX12_acts 26 = .ok (.iload_n 1, 1) := by decide +kernel
theorem dX12_acts_27 : decode cX12_acts 27 = .ok (.iaload, 1) := by decide +kernel
theorem dX12_acts_28 : decode cX12_acts 28 = .ok (.isub, 1) := by decide +kernel
theorem dX12_acts_29 : decode cX12_acts 29 = .ok (.iconst 4, 1) := by decide +kernel
theorem dX12_acts_30 : decode cX12_acts 30 = .ok (.aload_n 0, 1) := by decide +kernel
theorem dX12_acts_31 : decode cX12_acts 31 = .ok (.getfield 264, 3) := by decide +kernel
theorem dX12_acts_34 : decode cX12_acts 34 = .ok (.imul, 1) := by decide +kernel
theorem dX12_acts_35 : decode cX12_acts 35 = .ok (.if_icmp .lt 25, 3) := by decide +kernel
theorem dX12_acts_38 : decode cX12_acts 38 = .ok (.aload_n 0, 1) := by decide +kernel
theorem dX12_acts_39 : decode cX12_acts 39 = .ok (.iload_n 1, 1) := by decide +kernel
theorem dX12_acts_40 : decode cX12_acts 40 = .ok (.aload_n 0, 1) := by decide +kernel
theorem dX12_acts_41 : decode cX12_acts 41 = .ok (.getfield 44, 3) := by decide +kernel
theorem dX12_acts_44 : decode cX12_acts 44 = .ok (.iload_n 1, 1) := by decide +kernel
theorem dX12_acts_45 : decode cX12_acts 45 = .ok (.iaload, 1) := by decide +kernel
theorem dX12_acts_46 : decode cX12_acts 46 = .ok (.iconst 1, 1) := by decide +kernel
theorem dX12_acts_47 : decode cX12_acts 47 = .ok (.iadd, 1) := by decide +kernel
theorem dX12_acts_48 : decode cX12_acts 48 = .ok (.aload_n 0, 1) := by decide +kernel
theorem dX12_acts_49 : decode cX12_acts 49 = .ok (.getfield 47, 3) := by decide +kernel
theorem dX12_acts_52 : decode cX12_acts 52 = .ok (.iload_n 1, 1) := by decide +kernel
theorem dX12_acts_53 : decode cX12_acts 53 = .ok (.iaload, 1) := by decide +kernel
theorem dX12_acts_54 : decode cX12_acts 54 = .ok (.invokevirtual 365, 3) := by decide +kernel
theorem dX12_acts_57 : decode cX12_acts 57 = .ok (.goto 222, 3) := by decide +kernel
theorem dX12_acts_60 : decode cX12_acts 60 = .ok (.iload_n 3, 1) := by decide +kernel
theorem dX12_acts_61 : decode cX12_acts 61 = .ok (.ifCond .eq 29, 3) := by decide +kernel
theorem dX12_acts_64 : decode cX12_acts 64 = .ok (.aload_n 0, 1) := by decide +kernel
theorem dX12_acts_65 : decode cX12_acts 65 = .ok (.getfield 318, 3) := by decide +kernel
theorem dX12_acts_68 : decode cX12_acts 68 = .ok (.aload_n 0, 1) := by decide +kernel
theorem dX12_acts_69 : decode cX12_acts 69 = .ok (.getfield 155, 3) := by decide +kernel
theorem dX12_acts_72 : decode cX12_acts 72 = .ok (.iload_n 1, 1) := by decide +kernel
theorem dX12_acts_73 : decode cX12_acts 73 = .ok (.iaload, 1) := by decide +kernel
theorem dX12_acts_74 : decode cX12_acts 74 = .ok (.isub, 1) := by decide +kernel
theorem dX12_acts_75 : decode cX12_acts 75 = .ok (.aload_n 0, 1) := by decide +kernel
theorem dX12_acts_76 : decode cX12_acts 76 = .ok (.getfield 264, 3) := by decide +kernel
theorem dX12_acts_79 : decode cX12_acts 79 = .ok (.if_icmp .lt 11, 3) := by decide +kernel
theorem dX12_acts_82 : decode cX12_acts 82 = .ok (.aload_n 0, 1) := by decide +kernel
theorem dX12_acts_83 : decode cX12_acts 83 = .ok (.iload_n 1, 1) := by decide +kernel
theorem dX12_acts_84 : decode cX12_acts 84 = .ok (.invokevirtual 452, 3) := by decide +kernel
theorem dX12_acts_87 : decode cX12_acts 87 = .ok (.goto 192, 3) := by decide +kernel
theorem dX12_acts_90 : decode cX12_acts 90 = .ok (.iload_n 2, 1) := by decide +kernel
theorem dX12_acts_91 : decode cX12_acts 91 = .ok (.ifCond .eq 47, 3) := by decide +kernel
theorem dX12_acts_94 : decode cX12_acts 94 = .ok (.iload_n 3, 1) := by decide +kernel
theorem dX12_acts_95 : decode cX12_acts 95 = .ok (.iconst 2, 1) := by decide +kernel
theorem dX12_acts_96 : decode cX12_acts 96 = .ok (.if_icmp .eq 42, 3) := by decide +kernel
theorem dX12_acts_99 : decode cX12_acts 99 = .ok (.aload_n 0, 1) := by decide +kernel
theorem dX12_acts_100 : decode cX12_acts 100 = .ok (.getfield 318, 3) := by decide +kernel
theorem dX12_acts_103 : decode cX12_acts 103 = .ok (.aload_n 0, 1) := by decide +kernel
theorem dX12_acts_104 : decode cX12_acts 104 = .ok (.getfield 161, 3) := by decide +kernel
theorem dX12_acts_107 : decode cX12_acts 107 = .ok (.iload_n 1, 1) := by decide +kernel
theorem dX12_acts_108 : decode cX12_acts 108 = .ok (.iaload, 1) := by decide +kernel
theorem dX12_acts_109 : decode cX12_acts 109 = .ok (.isub, 1) := by decide +kernel
theorem dX12_acts_110 : decode cX12_acts 110 = .ok (.aload_n 0, 1) := by decide +kernel
theorem dX12_acts_111 : decode cX12_acts 111 = .ok (.getfield 264, 3) := by decide +kernel
theorem dX12_acts_114 : decode cX12_acts 114 = .ok (.if_icmp .lt 24, 3) := by decide +kernel
theorem dX12_acts_117 : decode cX12_acts 117 = .ok (.aload_n 0, 1) := by decide +kernel
theorem dX12_acts_118 : decode cX12_acts 118 = .ok (.getfield 161, 3) := by decide +kernel
theorem dX12_acts_121 : decode cX12_acts 121 = .ok (.iload_n 1, 1) := by decide +kernel
theorem dX12_acts_122 : decode cX12_acts 122 = .ok (.aload_n 0, 1) := by decide +kernel
theorem dX12_acts_123 : decode cX12_acts 123 = .ok (.getfield 318, 3) := by decide +kernel
theorem dX12_acts_126 : decode cX12_acts 126 = .ok (.iastore, 1) := by decide +kernel
theorem dX12_acts_127 : decode cX12_acts 127 = .ok (.aload_n 0, 1) := by decide +kernel
theorem dX12_acts_128 : decode cX12_acts 128 = .ok (.bipush 12, 2) := by decide +kernel
theorem dX12_acts_130 : decode cX12_acts 130 = .ok (.iload_n 1, 1) := by decide +kernel
theorem dX12_acts_131 : decode cX12_acts 131 = .ok (.iconst (-1), 1) := by decide +kernel
theorem dX12_acts_132 : decode cX12_acts 132 = .ok (.invokevirtual 352, 3) := by decide +kernel
theorem dX12_acts_135 : decode cX12_acts 135 = .ok (.goto 144, 3) := by decide +kernel
theorem dX12_acts_138 : decode cX12_acts 138 = .ok (.iload_n 2, 1) := by decide +kernel
theorem dX12_acts_139 : decode cX12_acts 139 = .ok (.ifCond .eq 50, 3) := by decide +kernel
theorem dX12_acts_142 : decode cX12_acts 142 = .ok (.iload_n 3, 1) := by decide +kernel
theorem dX12_acts_143 : decode cX12_acts 143 = .ok (.ifCond .ne 46, 3) := by decide +kernel
theorem dX12_acts_146 : decode cX12_acts 146 = .ok (.aload_n 0, 1) := by decide +kernel
theorem dX12_acts_147 : decode cX12_acts 147 = .ok (.getfield 59, 3) := by decide +kernel
theorem dX12_acts_150 : decode cX12_acts 150 = .ok (.iload_n 1, 1) := by decide +kernel
theorem dX12_acts_151 : decode cX12_acts 151 = .ok (.iaload, 1) := by decide +kernel
theorem dX12_acts_152 : decode cX12_acts 152 = .ok (.aload_n 0, 1) := by decide +kernel
theorem dX12_acts_153 : decode cX12_acts 153 = .ok (.getfield 65, 3) := by decide +kernel
theorem dX12_acts_156 : decode cX12_acts 156 = .ok (.iload_n 1, 1) := by decide +kernel
theorem dX12_acts_157 : decode cX12_acts 157 = .ok (.iaload, 1) := by decide +kernel
theorem dX12_acts_158 : decode cX12_acts 158 = .ok (.if_icmp .le 31, 3) := by decide +kernel
theorem dX12_acts_161 : decode cX12_acts 161 = .ok (.aload_n 0, 1) := by decide +kernel
theorem dX12_acts_162 : decode cX12_acts 162 = .ok (.getfield 318, 3) := by decide +kernel
theorem dX12_acts_165 : decode cX12_acts 165 = .ok (.aload_n 0, 1) := by decide +kernel
theorem dX12_acts_166 : decode cX12_acts 166 = .ok (.getfield 164, 3) := by decide +kernel
theorem dX12_acts_169 : decode cX12_acts 169 = .ok (.iload_n 1, 1) := by decide +kernel
theorem dX12_acts_170 : decode cX12_acts 170 = .ok (.iaload, 1) := by decide +kernel
theorem dX12_acts_171 : decode cX12_acts 171 = .ok (.isub, 1) := by decide +kernel
theorem dX12_acts_172 : decode cX12_acts 172 = .ok (.iconst 4, 1) := by decide +kernel
theorem dX12_acts_173 : decode cX12_acts 173 = .ok (.aload_n 0, 1) := by decide +kernel
theorem dX12_acts_174 : decode cX12_acts 174 = .ok (.getfield 264, 3) := by decide +kernel
theorem dX12_acts_177 : decode cX12_acts 177 = .ok (.imul, 1) := by decide +kernel
theorem dX12_acts_178 : decode cX12_acts 178 = .ok (.if_icmp .lt 11, 3) := by decide +kernel
theorem dX12_acts_181 : decode cX12_acts 181 = .ok (.aload_n 0, 1) := by decide +kernel
theorem dX12_acts_182 : decode cX12_acts 182 = .ok (.iload_n 1, 1) := by decide +kernel
theorem dX12_acts_183 : decode cX12_acts 183 = .ok (.invokevirtual 455, 3) := by decide +kernel
theorem dX12_acts_186 : decode cX12_acts 186 = .ok (.goto 93, 3) := by decide +kernel
theorem dX12_acts_189 : decode cX12_acts 189 = .ok (.iload_n 2, 1) := by decide +kernel
theorem dX12_acts_190 : decode cX12_acts 190 = .ok (.ifCond .ne 49, 3) := by decide +kernel
theorem dX12_acts_193 : decode cX12_acts 193 = .ok (.iload_n 3, 1) := by decide +kernel
theorem dX12_acts_194 : decode cX12_acts 194 = .ok (.ifCond .ne 45, 3) := by decide +kernel
theorem dX12_acts_197 : decode cX12_acts 197 = .ok (.aload_n 0, 1) := by decide +kernel
theorem dX12_acts_198 : decode cX12_acts 198 = .ok (.getfield 318, 3) := by decide +kernel
theorem dX12_acts_201 : decode cX12_acts 201 = .ok (.aload_n 0, 1) := by decide +kernel
theorem dX12_acts_202 : decode cX12_acts 202 = .ok (.getfield 152, 3) := by decide +kernel
theorem dX12_acts_205 : decode cX12_acts 205 = .ok (.iload_n 1, 1) := by decide +kernel
theorem dX12_acts_206 : decode cX12_acts 206 = .ok (.iaload, 1) := by decide +kernel
theorem dX12_acts_207 : decode cX12_acts 207 = .ok (.isub, 1) := by decide +kernel
theorem dX12_acts_208 : decode cX12_acts 208 = .ok (.iconst 3, 1) := by decide +kernel
theorem dX12_acts_209 : decode cX12_acts 209 = .ok (.aload_n 0, 1) := by decide +kernel
theorem dX12_acts_210 : decode cX12_acts 210 = .ok (.getfield 264, 3) := by decide +kernel
theorem dX12_acts_213 : decode cX12_acts 213 = .ok (.imul, 1) := by decide +kernel
theorem dX12_acts_214 : decode cX12_acts 214 = .ok (.if_icmp .lt 25, 3) := by decide +kernel
theorem dX12_acts_217 : decode cX12_acts 217 = .ok (.aload_n 0, 1) := by decide +kernel
theorem dX12_acts_218 : decode cX12_acts 218 = .ok (.iload_n 1, 1) := by decide +kernel
theorem dX12_acts_219 : decode cX12_acts 219 = .ok (.aload_n 0, 1) := by decide +kernel
theorem dX12_acts_220 : decode cX12_acts 220 = .ok (.getfield 44, 3) := by decide +kernel
theorem dX12_acts_223 : decode cX12_acts 223 = .ok (.iload_n 1, 1) := by decide +kernel
theorem dX12_acts_224 : decode cX12_acts 224 = .ok (.iaload, 1) := by decide +kernel
theorem dX12_acts_225 : decode cX12_acts 225 = .ok (.iconst 1, 1) := by decide +kernel
theorem dX12_acts_226 : decode cX12_acts 226 = .ok (.iadd, 1) := by decide +kernel
theorem dX12_acts_227 : decode cX12_acts 227 = .ok (.aload_n 0, 1) := by decide +kernel
theorem dX12_acts_228 : decode cX12_acts 228 = .ok (.getfield 47, 3) := by decide +kernel
theorem dX12_acts_231 : decode cX12_acts 231 = .ok (.iload_n 1, 1) := by decide +kernel
theorem dX12_acts_232 : decode cX12_acts 232 = .ok (.iaload, 1) := by decide +kernel
theorem dX12_acts_233 : decode cX12_acts 233 = .ok (.invokevirtual 365, 3) := by decide +kernel
theorem dX12_acts_236 : decode cX12_acts 236 = .ok (.goto 43, 3) := by decide +kernel
theorem dX12_acts_239 : decode cX12_acts 239 = .ok (.iload_n 2, 1) := by decide +kernel
theorem dX12_acts_240 : decode cX12_acts 240 = .ok (.ifCond .ne 39, 3) := by decide +kernel
theorem dX12_acts_243 : decode cX12_acts 243 = .ok (.iload_n 3, 1) := by decide +kernel
theorem dX12_acts_244 : decode cX12_acts 244 = .ok (.ifCond .ne 35, 3) := by decide +kernel
theorem dX12_acts_247 : decode cX12_acts 247 = .ok (.aload_n 0, 1) := by decide +kernel
theorem dX12_acts_248 : decode cX12_acts 248 = .ok (.getfield 89, 3) := by decide +kernel
theorem dX12_acts_251 : decode cX12_acts 251 = .ok (.iload_n 1, 1) := by decide +kernel
theorem dX12_acts_252 : decode cX12_acts 252 = .ok (.iaload, 1) := by decide +kernel
theorem dX12_acts_253 : decode cX12_acts 253 = .ok (.ifCond .le 26, 3) := by decide +kernel
theorem dX12_acts_256 : decode cX12_acts 256 = .ok (.aload_n 0, 1) := by decide +kernel
theorem dX12_acts_257 : decode cX12_acts 257 = .ok (.getfield 318, 3) := by decide +kernel
theorem dX12_acts_260 : decode cX12_acts 260 = .ok (.aload_n 0, 1) := by decide +kernel
theorem dX12_acts_261 : decode cX12_acts 261 = .ok (.getfield 155, 3) := by decide +kernel
theorem dX12_acts_264 : decode cX12_acts 264 = .ok (.iload_n 1, 1) := by decide +kernel
theorem dX12_acts_265 : decode cX12_acts 265 = .ok (.iaload, 1) := by decide +kernel
theorem dX12_acts_266 : decode cX12_acts 266 = .ok (.isub, 1) := by decide +kernel
theorem dX12_acts_267 : decode cX12_acts 267 = .ok (.aload_n 0, 1) := by decide +kernel
theorem dX12_acts_268 : decode cX12_acts 268 = .ok (.getfield 264, 3) := by decide +kernel
theorem dX12_acts_271 : decode cX12_acts 271 = .ok (.if_icmp .lt 8, 3) := by decide +kernel
theorem dX12_acts_274 : decode cX12_acts 274 = .ok (.aload_n 0, 1) := by decide +kernel
theorem dX12_acts_275 : decode cX12_acts 275 = .ok (.iload_n 1, 1) := by decide +kernel
theorem dX12_acts_276 : decode cX12_acts 276 = .ok (.invokevirtual 452, 3) := by decide +kernel
theorem dX12_acts_279 : decode cX12_acts 279 = .ok (.return_, 1) := by decide +kernel
abbrev rm_X12_acts : Room := { frames := 5, cells := 0, slots := 0, locals := 113 }
def b_X12_acts_239 (a0 : Nat)  (Q : Sto → Prop) (p1 : Int32) (p2 : Int32) (p3 : Int32) (σ : Sto) : Prop := ((¬ p2 = 0 → Q σ) ∧ (p2 = 0 → ((¬ p3 = 0 → Q σ) ∧ (p3 = 0 → (sK σ a0 = 12 ∧ (∃ b4 : Nat, sP σ a0 36 = some b4 ∧ (sK σ b4 = 14 ∧ (vp_in p1 (sN σ b4) ∧ (∀ x8 : Int32, x8 = sI σ b4 p1.toNatClampNeg → ((x8 ≤ 0 → Q σ) ∧ (¬ x8 ≤ 0 → (∀ x11 : Int32, x11 = sI σ a0 4 → (∃ b13 : Nat, sP σ a0 58 = some b13 ∧ (sK σ b13 = 14 ∧ (vp_in p1 (sN σ b13) ∧ (∀ x17 : Int32, x17 = sI σ b13 p1.toNatClampNeg → (∀ x19 : Int32, x19 = sI σ a0 3 → (((x11 - x17) < x19 → Q σ) ∧ (¬ (x11 - x17) < x19 → (wp_X12_asks a0 p1 σ (fun (σ22 : Sto) => Q σ22)))))))))))))))))))))
set_option maxHeartbeats 4000000 in
set_option maxRecDepth 100000 in
theorem t_X12_acts_239 {p : Program} {l : Launch} {e : Env} {s : State} {m : MethodId} {args : Array Value} {below : List Frame} {meth : Method} {c : Code} {D : va_G} {cy : Nat → ClassId} {A : Nat → Prop} {a0 : Nat} {Q : Sto → Prop} (C : Cx p s m args meth c D cy A cX12_acts 4 RX12) (hr : meth.sig.returnType = none) (hnm : meth.name = yX12_acts.name) (p1 : Int32) (p2 : Int32) (p3 : Int32) (σ : Sto) (h : b_X12_acts_239 a0  Q p1 p2 p3 σ) (ls : Array Slot) (hl : lv_has ls 4 [(0, .ref a0), (1, .int p1), (2, .int p2), (3, .int p3)]) : Xw p l e rm_X12_acts s m args below meth c D cy A σ 0 0 (MQ below (Qst D cy A (PsV Q)) args s rm_X12_acts.cells rm_X12_acts.slots A) (F0 m 239 ls []) := by
  unfold b_X12_acts_239 at h
  refine x_iload_n C dX12_acts_239 rfl (lv_at hl 2 rfl) ?_
  refine x_if_ne (tgt := 279) C dX12_acts_240 (by decide) (fun c1 => ?_) (fun c1 => ?_)
  · have h := h.1 c1
    exact x_vret C hr dX12_acts_279 ⟨rfl, h⟩
  · have h := h.2 c1
    refine x_iload_n C dX12_acts_243 rfl (lv_at hl 3 rfl) ?_
    refine x_if_ne (tgt := 279) C dX12_acts_244 (by decide) (fun c2 => ?_) (fun c2 => ?_)
    · have h := h.1 c2
      exact x_vret C hr dX12_acts_279 ⟨rfl, h⟩
    · have h := h.2 c2
      refine x_aload_n C dX12_acts_247 rfl (lv_at hl 0 rfl) ?_
      obtain ⟨g3, h⟩ := h
      refine x_getP C fl_RX12_89 g3 dX12_acts_248 ?_
      refine x_iload_n C dX12_acts_251 rfl (lv_at hl 1 rfl) ?_
      obtain ⟨b4, g5, h⟩ := h
      refine x_nn1 g5 ?_
      obtain ⟨g6, h⟩ := h
      obtain ⟨g7, h⟩ := h
      refine x_iald C g6 g7 dX12_acts_252 ?_
      refine x_topi (fun x8 e9 => ?_)
      have h := h x8 e9
      refine x_if_le (tgt := 279) C dX12_acts_253 (by decide) (fun c10 => ?_) (fun c10 => ?_)
      · have h := h.1 c10
        exact x_vret C hr dX12_acts_279 ⟨rfl, h⟩
      · have h := h.2 c10
        refine x_aload_n C dX12_acts_256 rfl (lv_at hl 0 rfl) ?_
        refine x_getI C fl_RX12_318 g3 dX12_acts_257 ?_
        refine x_topi (fun x11 e12 => ?_)
        have h := h x11 e12
        refine x_aload_n C dX12_acts_260 rfl (lv_at hl 0 rfl) ?_
        refine x_getP C fl_RX12_155 g3 dX12_acts_261 ?_
        refine x_iload_n C dX12_acts_264 rfl (lv_at hl 1 rfl) ?_
        obtain ⟨b13, g14, h⟩ := h
        refine x_nn1 g14 ?_
        obtain ⟨g15, h⟩ := h
        obtain ⟨g16, h⟩ := h
        refine x_iald C g15 g16 dX12_acts_265 ?_
        refine x_topi (fun x17 e18 => ?_)
        have h := h x17 e18
        refine x_isub C dX12_acts_266 ?_
        refine x_aload_n C dX12_acts_267 rfl (lv_at hl 0 rfl) ?_
        refine x_getI C fl_RX12_264 g3 dX12_acts_268 ?_
        refine x_topi (fun x19 e20 => ?_)
        have h := h x19 e20
        refine x_icmp_lt (tgt := 279) C dX12_acts_271 (by decide) (fun c21 => ?_) (fun c21 => ?_)
        · have h := h.1 c21
          exact x_vret C hr dX12_acts_279 ⟨rfl, h⟩
        · have h := h.2 c21
          refine x_aload_n C dX12_acts_274 rfl (lv_at hl 0 rfl) ?_
          refine x_iload_n C dX12_acts_275 rfl (lv_at hl 1 rfl) ?_
          refine x_callV (rm := rm_X12_asks) (rest := []) (As := [.int p1]) C cy_RX12_452 g3 (by decide) (by decide) rfl rfl (Nat.le_of_ble_eq_true rfl) hl.1 dX12_acts_276 (c_X12_asks l D cy a0 p1 σ _ h) (ks_v (fun σ22 h => ?_))
          exact x_vret C hr dX12_acts_279 ⟨rfl, h⟩
def b_X12_acts_189 (a0 : Nat)  (Q : Sto → Prop) (p1 : Int32) (p2 : Int32) (p3 : Int32) (σ : Sto) : Prop := ((¬ p2 = 0 → b_X12_acts_239 a0  Q p1 p2 p3 σ) ∧ (p2 = 0 → ((¬ p3 = 0 → b_X12_acts_239 a0  Q p1 p2 p3 σ) ∧ (p3 = 0 → (sK σ a0 = 12 ∧ (∀ x4 : Int32, x4 = sI σ a0 4 → (∃ b6 : Nat, sP σ a0 57 = some b6 ∧ (sK σ b6 = 14 ∧ (vp_in p1 (sN σ b6) ∧ (∀ x10 : Int32, x10 = sI σ b6 p1.toNatClampNeg → (∀ x12 : Int32, x12 = sI σ a0 3 → (((x4 - x10) < ((3 : Int32) * x12) → b_X12_acts_239 a0  Q p1 p2 p3 σ) ∧ (¬ (x4 - x10) < ((3 : Int32) * x12) → (∃ b15 : Nat, sP σ a0 21 = some b15 ∧ (sK σ b15 = 14 ∧ (vp_in p1 (sN σ b15) ∧ (∀ x19 : Int32, x19 = sI σ b15 p1.toNatClampNeg → (∃ b21 : Nat, sP σ a0 22 = some b21 ∧ (sK σ b21 = 14 ∧ (vp_in p1 (sN σ b21) ∧ (∀ x25 : Int32, x25 = sI σ b21 p1.toNatClampNeg → (wp_X12_turnsTo a0 p1 (x19 + (1 : Int32)) x25 σ (fun (σ27 : Sto) => Q σ27)))))))))))))))))))))))
set_option maxHeartbeats 4000000 in
set_option maxRecDepth 100000 in
theorem t_X12_acts_189 {p : Program} {l : Launch} {e : Env} {s : State} {m : MethodId} {args : Array Value} {below : List Frame} {meth : Method} {c : Code} {D : va_G} {cy : Nat → ClassId} {A : Nat → Prop} {a0 : Nat} {Q : Sto → Prop} (C : Cx p s m args meth c D cy A cX12_acts 4 RX12) (hr : meth.sig.returnType = none) (hnm : meth.name = yX12_acts.name) (p1 : Int32) (p2 : Int32) (p3 : Int32) (σ : Sto) (h : b_X12_acts_189 a0  Q p1 p2 p3 σ) (ls : Array Slot) (hl : lv_has ls 4 [(0, .ref a0), (1, .int p1), (2, .int p2), (3, .int p3)]) : Xw p l e rm_X12_acts s m args below meth c D cy A σ 0 0 (MQ below (Qst D cy A (PsV Q)) args s rm_X12_acts.cells rm_X12_acts.slots A) (F0 m 189 ls []) := by
  unfold b_X12_acts_189 at h
  refine x_iload_n C dX12_acts_189 rfl (lv_at hl 2 rfl) ?_
  refine x_if_ne (tgt := 239) C dX12_acts_190 (by decide) (fun c1 => ?_) (fun c1 => ?_)
  · have h := h.1 c1
    exact t_X12_acts_239 C hr hnm  p1 p2 p3 _ h ls (lv_sub hl [0, 1, 2, 3] rfl)
  · have h := h.2 c1
    refine x_iload_n C dX12_acts_193 rfl (lv_at hl 3 rfl) ?_
    refine x_if_ne (tgt := 239) C dX12_acts_194 (by decide) (fun c2 => ?_) (fun c2 => ?_)
    · have h := h.1 c2
      exact t_X12_acts_239 C hr hnm  p1 p2 p3 _ h ls (lv_sub hl [0, 1, 2, 3] rfl)
    · have h := h.2 c2
      refine x_aload_n C dX12_acts_197 rfl (lv_at hl 0 rfl) ?_
      obtain ⟨g3, h⟩ := h
      refine x_getI C fl_RX12_318 g3 dX12_acts_198 ?_
      refine x_topi (fun x4 e5 => ?_)
      have h := h x4 e5
      refine x_aload_n C dX12_acts_201 rfl (lv_at hl 0 rfl) ?_
      refine x_getP C fl_RX12_152 g3 dX12_acts_202 ?_
      refine x_iload_n C dX12_acts_205 rfl (lv_at hl 1 rfl) ?_
      obtain ⟨b6, g7, h⟩ := h
      refine x_nn1 g7 ?_
      obtain ⟨g8, h⟩ := h
      obtain ⟨g9, h⟩ := h
      refine x_iald C g8 g9 dX12_acts_206 ?_
      refine x_topi (fun x10 e11 => ?_)
      have h := h x10 e11
      refine x_isub C dX12_acts_207 ?_
      refine x_iconst (v := 3) C dX12_acts_208 (by decide) ?_
      refine x_aload_n C dX12_acts_209 rfl (lv_at hl 0 rfl) ?_
      refine x_getI C fl_RX12_264 g3 dX12_acts_210 ?_
      refine x_topi (fun x12 e13 => ?_)
      have h := h x12 e13
      refine x_imul C dX12_acts_213 ?_
      refine x_icmp_lt (tgt := 239) C dX12_acts_214 (by decide) (fun c14 => ?_) (fun c14 => ?_)
      · have h := h.1 c14
        exact t_X12_acts_239 C hr hnm  p1 p2 p3 _ h ls (lv_sub hl [0, 1, 2, 3] rfl)
      · have h := h.2 c14
        refine x_aload_n C dX12_acts_217 rfl (lv_at hl 0 rfl) ?_
        refine x_iload_n C dX12_acts_218 rfl (lv_at hl 1 rfl) ?_
        refine x_aload_n C dX12_acts_219 rfl (lv_at hl 0 rfl) ?_
        refine x_getP C fl_RX12_44 g3 dX12_acts_220 ?_
        refine x_iload_n C dX12_acts_223 rfl (lv_at hl 1 rfl) ?_
        obtain ⟨b15, g16, h⟩ := h
        refine x_nn1 g16 ?_
        obtain ⟨g17, h⟩ := h
        obtain ⟨g18, h⟩ := h
        refine x_iald C g17 g18 dX12_acts_224 ?_
        refine x_topi (fun x19 e20 => ?_)
        have h := h x19 e20
        refine x_iconst (v := 1) C dX12_acts_225 (by decide) ?_
        refine x_iadd C dX12_acts_226 ?_
        refine x_aload_n C dX12_acts_227 rfl (lv_at hl 0 rfl) ?_
        refine x_getP C fl_RX12_47 g3 dX12_acts_228 ?_
        refine x_iload_n C dX12_acts_231 rfl (lv_at hl 1 rfl) ?_
        obtain ⟨b21, g22, h⟩ := h
        refine x_nn1 g22 ?_
        obtain ⟨g23, h⟩ := h
        obtain ⟨g24, h⟩ := h
        refine x_iald C g23 g24 dX12_acts_232 ?_
        refine x_topi (fun x25 e26 => ?_)
        have h := h x25 e26
        refine x_callV (rm := rm_X12_turnsTo) (rest := []) (As := [.int p1, .int (x19 + (1 : Int32)), .int x25]) C cy_RX12_365 g3 (by decide) (by decide) rfl rfl (Nat.le_of_ble_eq_true rfl) hl.1 dX12_acts_233 (c_X12_turnsTo l D cy a0 p1 (x19 + (1 : Int32)) x25 σ _ h) (ks_v (fun σ27 h => ?_))
        refine x_goto (tgt := 279) C dX12_acts_236 (by decide) ?_
        exact x_vret C hr dX12_acts_279 ⟨rfl, h⟩
def b_X12_acts_138 (a0 : Nat)  (Q : Sto → Prop) (p1 : Int32) (p2 : Int32) (p3 : Int32) (σ : Sto) : Prop := ((p2 = 0 → b_X12_acts_189 a0  Q p1 p2 p3 σ) ∧ (¬ p2 = 0 → ((¬ p3 = 0 → b_X12_acts_189 a0  Q p1 p2 p3 σ) ∧ (p3 = 0 → (sK σ a0 = 12 ∧ (∃ b4 : Nat, sP σ a0 26 = some b4 ∧ (sK σ b4 = 14 ∧ (vp_in p1 (sN σ b4) ∧ (∀ x8 : Int32, x8 = sI σ b4 p1.toNatClampNeg → (∃ b10 : Nat, sP σ a0 28 = some b10 ∧ (sK σ b10 = 14 ∧ (vp_in p1 (sN σ b10) ∧ (∀ x14 : Int32, x14 = sI σ b10 p1.toNatClampNeg → ((x8 ≤ x14 → b_X12_acts_189 a0  Q p1 p2 p3 σ) ∧ (¬ x8 ≤ x14 → (∀ x17 : Int32, x17 = sI σ a0 4 → (∃ b19 : Nat, sP σ a0 61 = some b19 ∧ (sK σ b19 = 14 ∧ (vp_in p1 (sN σ b19) ∧ (∀ x23 : Int32, x23 = sI σ b19 p1.toNatClampNeg → (∀ x25 : Int32, x25 = sI σ a0 3 → (((x17 - x23) < ((4 : Int32) * x25) → b_X12_acts_189 a0  Q p1 p2 p3 σ) ∧ (¬ (x17 - x23) < ((4 : Int32) * x25) → (wp_X12_syncs a0 p1 σ (fun (σ28 : Sto) => Q σ28)))))))))))))))))))))))))
set_option maxHeartbeats 4000000 in
set_option maxRecDepth 100000 in
theorem t_X12_acts_138 {p : Program} {l : Launch} {e : Env} {s : State} {m : MethodId} {args : Array Value} {below : List Frame} {meth : Method} {c : Code} {D : va_G} {cy : Nat → ClassId} {A : Nat → Prop} {a0 : Nat} {Q : Sto → Prop} (C : Cx p s m args meth c D cy A cX12_acts 4 RX12) (hr : meth.sig.returnType = none) (hnm : meth.name = yX12_acts.name) (p1 : Int32) (p2 : Int32) (p3 : Int32) (σ : Sto) (h : b_X12_acts_138 a0  Q p1 p2 p3 σ) (ls : Array Slot) (hl : lv_has ls 4 [(0, .ref a0), (1, .int p1), (2, .int p2), (3, .int p3)]) : Xw p l e rm_X12_acts s m args below meth c D cy A σ 0 0 (MQ below (Qst D cy A (PsV Q)) args s rm_X12_acts.cells rm_X12_acts.slots A) (F0 m 138 ls []) := by
  unfold b_X12_acts_138 at h
  refine x_iload_n C dX12_acts_138 rfl (lv_at hl 2 rfl) ?_
  refine x_if_eq (tgt := 189) C dX12_acts_139 (by decide) (fun c1 => ?_) (fun c1 => ?_)
  · have h := h.1 c1
    exact t_X12_acts_189 C hr hnm  p1 p2 p3 _ h ls (lv_sub hl [0, 1, 2, 3] rfl)
  · have h := h.2 c1
    refine x_iload_n C dX12_acts_142 rfl (lv_at hl 3 rfl) ?_
    refine x_if_ne (tgt := 189) C dX12_acts_143 (by decide) (fun c2 => ?_) (fun c2 => ?_)
    · have h := h.1 c2
      exact t_X12_acts_189 C hr hnm  p1 p2 p3 _ h ls (lv_sub hl [0, 1, 2, 3] rfl)
    · have h := h.2 c2
      refine x_aload_n C dX12_acts_146 rfl (lv_at hl 0 rfl) ?_
      obtain ⟨g3, h⟩ := h
      refine x_getP C fl_RX12_59 g3 dX12_acts_147 ?_
      refine x_iload_n C dX12_acts_150 rfl (lv_at hl 1 rfl) ?_
      obtain ⟨b4, g5, h⟩ := h
      refine x_nn1 g5 ?_
      obtain ⟨g6, h⟩ := h
      obtain ⟨g7, h⟩ := h
      refine x_iald C g6 g7 dX12_acts_151 ?_
      refine x_topi (fun x8 e9 => ?_)
      have h := h x8 e9
      refine x_aload_n C dX12_acts_152 rfl (lv_at hl 0 rfl) ?_
      refine x_getP C fl_RX12_65 g3 dX12_acts_153 ?_
      refine x_iload_n C dX12_acts_156 rfl (lv_at hl 1 rfl) ?_
      obtain ⟨b10, g11, h⟩ := h
      refine x_nn1 g11 ?_
      obtain ⟨g12, h⟩ := h
      obtain ⟨g13, h⟩ := h
      refine x_iald C g12 g13 dX12_acts_157 ?_
      refine x_topi (fun x14 e15 => ?_)
      have h := h x14 e15
      refine x_icmp_le (tgt := 189) C dX12_acts_158 (by decide) (fun c16 => ?_) (fun c16 => ?_)
      · have h := h.1 c16
        exact t_X12_acts_189 C hr hnm  p1 p2 p3 _ h ls (lv_sub hl [0, 1, 2, 3] rfl)
      · have h := h.2 c16
        refine x_aload_n C dX12_acts_161 rfl (lv_at hl 0 rfl) ?_
        refine x_getI C fl_RX12_318 g3 dX12_acts_162 ?_
        refine x_topi (fun x17 e18 => ?_)
        have h := h x17 e18
        refine x_aload_n C dX12_acts_165 rfl (lv_at hl 0 rfl) ?_
        refine x_getP C fl_RX12_164 g3 dX12_acts_166 ?_
        refine x_iload_n C dX12_acts_169 rfl (lv_at hl 1 rfl) ?_
        obtain ⟨b19, g20, h⟩ := h
        refine x_nn1 g20 ?_
        obtain ⟨g21, h⟩ := h
        obtain ⟨g22, h⟩ := h
        refine x_iald C g21 g22 dX12_acts_170 ?_
        refine x_topi (fun x23 e24 => ?_)
        have h := h x23 e24
        refine x_isub C dX12_acts_171 ?_
        refine x_iconst (v := 4) C dX12_acts_172 (by decide) ?_
        refine x_aload_n C dX12_acts_173 rfl (lv_at hl 0 rfl) ?_
        refine x_getI C fl_RX12_264 g3 dX12_acts_174 ?_
        refine x_topi (fun x25 e26 => ?_)
        have h := h x25 e26
        refine x_imul C dX12_acts_177 ?_
        refine x_icmp_lt (tgt := 189) C dX12_acts_178 (by decide) (fun c27 => ?_) (fun c27 => ?_)
        · have h := h.1 c27
          exact t_X12_acts_189 C hr hnm  p1 p2 p3 _ h ls (lv_sub hl [0, 1, 2, 3] rfl)
        · have h := h.2 c27
          refine x_aload_n C dX12_acts_181 rfl (lv_at hl 0 rfl) ?_
          refine x_iload_n C dX12_acts_182 rfl (lv_at hl 1 rfl) ?_
          refine x_callV (rm := rm_X12_syncs) (rest := []) (As := [.int p1]) C cy_RX12_455 g3 (by decide) (by decide) rfl rfl (Nat.le_of_ble_eq_true rfl) hl.1 dX12_acts_183 (c_X12_syncs l D cy a0 p1 σ _ h) (ks_v (fun σ28 h => ?_))
          refine x_goto (tgt := 279) C dX12_acts_186 (by decide) ?_
          exact x_vret C hr dX12_acts_279 ⟨rfl, h⟩
def b_X12_acts_90 (a0 : Nat)  (Q : Sto → Prop) (p1 : Int32) (p2 : Int32) (p3 : Int32) (σ : Sto) : Prop := ((p2 = 0 → b_X12_acts_138 a0  Q p1 p2 p3 σ) ∧ (¬ p2 = 0 → ((p3 = (2 : Int32) → b_X12_acts_138 a0  Q p1 p2 p3 σ) ∧ (¬ p3 = (2 : Int32) → (sK σ a0 = 12 ∧ (∀ x4 : Int32, x4 = sI σ a0 4 → (∃ b6 : Nat, sP σ a0 60 = some b6 ∧ (sK σ b6 = 14 ∧ (vp_in p1 (sN σ b6) ∧ (∀ x10 : Int32, x10 = sI σ b6 p1.toNatClampNeg → (∀ x12 : Int32, x12 = sI σ a0 3 → (((x4 - x10) < x12 → b_X12_acts_138 a0  Q p1 p2 p3 σ) ∧ (¬ (x4 - x10) < x12 → (∀ x15 : Int32, x15 = sI σ a0 4 → (vp_in p1 (sN σ b6) ∧ (wp_X12_tellOthers a0 (12 : Int32) p1 (-1 : Int32) (stI σ b6 p1.toNatClampNeg x15) (fun (σ18 : Sto) => Q σ18)))))))))))))))))
set_option maxHeartbeats 4000000 in
set_option maxRecDepth 100000 in
theorem t_X12_acts_90 {p : Program} {l : Launch} {e : Env} {s : State} {m : MethodId} {args : Array Value} {below : List Frame} {meth : Method} {c : Code} {D : va_G} {cy : Nat → ClassId} {A : Nat → Prop} {a0 : Nat} {Q : Sto → Prop} (C : Cx p s m args meth c D cy A cX12_acts 4 RX12) (hr : meth.sig.returnType = none) (hnm : meth.name = yX12_acts.name) (p1 : Int32) (p2 : Int32) (p3 : Int32) (σ : Sto) (h : b_X12_acts_90 a0  Q p1 p2 p3 σ) (ls : Array Slot) (hl : lv_has ls 4 [(0, .ref a0), (1, .int p1), (2, .int p2), (3, .int p3)]) : Xw p l e rm_X12_acts s m args below meth c D cy A σ 0 0 (MQ below (Qst D cy A (PsV Q)) args s rm_X12_acts.cells rm_X12_acts.slots A) (F0 m 90 ls []) := by
  unfold b_X12_acts_90 at h
  refine x_iload_n C dX12_acts_90 rfl (lv_at hl 2 rfl) ?_
  refine x_if_eq (tgt := 138) C dX12_acts_91 (by decide) (fun c1 => ?_) (fun c1 => ?_)
  · have h := h.1 c1
    exact t_X12_acts_138 C hr hnm  p1 p2 p3 _ h ls (lv_sub hl [0, 1, 2, 3] rfl)
  · have h := h.2 c1
    refine x_iload_n C dX12_acts_94 rfl (lv_at hl 3 rfl) ?_
    refine x_iconst (v := 2) C dX12_acts_95 (by decide) ?_
    refine x_icmp_eq (tgt := 138) C dX12_acts_96 (by decide) (fun c2 => ?_) (fun c2 => ?_)
    · have h := h.1 c2
      exact t_X12_acts_138 C hr hnm  p1 p2 p3 _ h ls (lv_sub hl [0, 1, 2, 3] rfl)
    · have h := h.2 c2
      refine x_aload_n C dX12_acts_99 rfl (lv_at hl 0 rfl) ?_
      obtain ⟨g3, h⟩ := h
      refine x_getI C fl_RX12_318 g3 dX12_acts_100 ?_
      refine x_topi (fun x4 e5 => ?_)
      have h := h x4 e5
      refine x_aload_n C dX12_acts_103 rfl (lv_at hl 0 rfl) ?_
      refine x_getP C fl_RX12_161 g3 dX12_acts_104 ?_
      refine x_iload_n C dX12_acts_107 rfl (lv_at hl 1 rfl) ?_
      obtain ⟨b6, g7, h⟩ := h
      refine x_nn1 g7 ?_
      obtain ⟨g8, h⟩ := h
      obtain ⟨g9, h⟩ := h
      refine x_iald C g8 g9 dX12_acts_108 ?_
      refine x_topi (fun x10 e11 => ?_)
      have h := h x10 e11
      refine x_isub C dX12_acts_109 ?_
      refine x_aload_n C dX12_acts_110 rfl (lv_at hl 0 rfl) ?_
      refine x_getI C fl_RX12_264 g3 dX12_acts_111 ?_
      refine x_topi (fun x12 e13 => ?_)
      have h := h x12 e13
      refine x_icmp_lt (tgt := 138) C dX12_acts_114 (by decide) (fun c14 => ?_) (fun c14 => ?_)
      · have h := h.1 c14
        exact t_X12_acts_138 C hr hnm  p1 p2 p3 _ h ls (lv_sub hl [0, 1, 2, 3] rfl)
      · have h := h.2 c14
        refine x_aload_n C dX12_acts_117 rfl (lv_at hl 0 rfl) ?_
        refine x_getP C fl_RX12_161 g3 dX12_acts_118 ?_
        refine x_iload_n C dX12_acts_121 rfl (lv_at hl 1 rfl) ?_
        refine x_aload_n C dX12_acts_122 rfl (lv_at hl 0 rfl) ?_
        refine x_getI C fl_RX12_318 g3 dX12_acts_123 ?_
        refine x_topi (fun x15 e16 => ?_)
        have h := h x15 e16
        refine x_nn2 g7 ?_
        obtain ⟨g17, h⟩ := h
        refine x_iast C g8 g17 dX12_acts_126 ?_
        refine x_aload_n C dX12_acts_127 rfl (lv_at hl 0 rfl) ?_
        refine x_bipush (v := 12) C dX12_acts_128 (by decide) ?_
        refine x_iload_n C dX12_acts_130 rfl (lv_at hl 1 rfl) ?_
        refine x_iconst (v := -1) C dX12_acts_131 (by decide) ?_
        refine x_callV (rm := rm_X12_tellOthers) (rest := []) (As := [.int (12 : Int32), .int p1, .int (-1 : Int32)]) C cy_RX12_352 g3 (by decide) (by decide) rfl rfl (Nat.le_of_ble_eq_true rfl) hl.1 dX12_acts_132 (c_X12_tellOthers l D cy a0 (12 : Int32) p1 (-1 : Int32) (stI σ b6 p1.toNatClampNeg x15) _ h) (ks_v (fun σ18 h => ?_))
        refine x_goto (tgt := 279) C dX12_acts_135 (by decide) ?_
        exact x_vret C hr dX12_acts_279 ⟨rfl, h⟩
def b_X12_acts_60 (a0 : Nat)  (Q : Sto → Prop) (p1 : Int32) (p2 : Int32) (p3 : Int32) (σ : Sto) : Prop := ((p3 = 0 → b_X12_acts_90 a0  Q p1 p2 p3 σ) ∧ (¬ p3 = 0 → (sK σ a0 = 12 ∧ (∀ x3 : Int32, x3 = sI σ a0 4 → (∃ b5 : Nat, sP σ a0 58 = some b5 ∧ (sK σ b5 = 14 ∧ (vp_in p1 (sN σ b5) ∧ (∀ x9 : Int32, x9 = sI σ b5 p1.toNatClampNeg → (∀ x11 : Int32, x11 = sI σ a0 3 → (((x3 - x9) < x11 → b_X12_acts_90 a0  Q p1 p2 p3 σ) ∧ (¬ (x3 - x9) < x11 → (wp_X12_asks a0 p1 σ (fun (σ14 : Sto) => Q σ14)))))))))))))
set_option maxHeartbeats 4000000 in
set_option maxRecDepth 100000 in
theorem t_X12_acts_60 {p : Program} {l : Launch} {e : Env} {s : State} {m : MethodId} {args : Array Value} {below : List Frame} {meth : Method} {c : Code} {D : va_G} {cy : Nat → ClassId} {A : Nat → Prop} {a0 : Nat} {Q : Sto → Prop} (C : Cx p s m args meth c D cy A cX12_acts 4 RX12) (hr : meth.sig.returnType = none) (hnm : meth.name = yX12_acts.name) (p1 : Int32) (p2 : Int32) (p3 : Int32) (σ : Sto) (h : b_X12_acts_60 a0  Q p1 p2 p3 σ) (ls : Array Slot) (hl : lv_has ls 4 [(0, .ref a0), (1, .int p1), (2, .int p2), (3, .int p3)]) : Xw p l e rm_X12_acts s m args below meth c D cy A σ 0 0 (MQ below (Qst D cy A (PsV Q)) args s rm_X12_acts.cells rm_X12_acts.slots A) (F0 m 60 ls []) := by
  unfold b_X12_acts_60 at h
  refine x_iload_n C dX12_acts_60 rfl (lv_at hl 3 rfl) ?_
  refine x_if_eq (tgt := 90) C dX12_acts_61 (by decide) (fun c1 => ?_) (fun c1 => ?_)
  · have h := h.1 c1
    exact t_X12_acts_90 C hr hnm  p1 p2 p3 _ h ls (lv_sub hl [0, 1, 2, 3] rfl)
  · have h := h.2 c1
    refine x_aload_n C dX12_acts_64 rfl (lv_at hl 0 rfl) ?_
    obtain ⟨g2, h⟩ := h
    refine x_getI C fl_RX12_318 g2 dX12_acts_65 ?_
    refine x_topi (fun x3 e4 => ?_)
    have h := h x3 e4
    refine x_aload_n C dX12_acts_68 rfl (lv_at hl 0 rfl) ?_
    refine x_getP C fl_RX12_155 g2 dX12_acts_69 ?_
    refine x_iload_n C dX12_acts_72 rfl (lv_at hl 1 rfl) ?_
    obtain ⟨b5, g6, h⟩ := h
    refine x_nn1 g6 ?_
    obtain ⟨g7, h⟩ := h
    obtain ⟨g8, h⟩ := h
    refine x_iald C g7 g8 dX12_acts_73 ?_
    refine x_topi (fun x9 e10 => ?_)
    have h := h x9 e10
    refine x_isub C dX12_acts_74 ?_
    refine x_aload_n C dX12_acts_75 rfl (lv_at hl 0 rfl) ?_
    refine x_getI C fl_RX12_264 g2 dX12_acts_76 ?_
    refine x_topi (fun x11 e12 => ?_)
    have h := h x11 e12
    refine x_icmp_lt (tgt := 90) C dX12_acts_79 (by decide) (fun c13 => ?_) (fun c13 => ?_)
    · have h := h.1 c13
      exact t_X12_acts_90 C hr hnm  p1 p2 p3 _ h ls (lv_sub hl [0, 1, 2, 3] rfl)
    · have h := h.2 c13
      refine x_aload_n C dX12_acts_82 rfl (lv_at hl 0 rfl) ?_
      refine x_iload_n C dX12_acts_83 rfl (lv_at hl 1 rfl) ?_
      refine x_callV (rm := rm_X12_asks) (rest := []) (As := [.int p1]) C cy_RX12_452 g2 (by decide) (by decide) rfl rfl (Nat.le_of_ble_eq_true rfl) hl.1 dX12_acts_84 (c_X12_asks l D cy a0 p1 σ _ h) (ks_v (fun σ14 h => ?_))
      refine x_goto (tgt := 279) C dX12_acts_87 (by decide) ?_
      exact x_vret C hr dX12_acts_279 ⟨rfl, h⟩
def wp_X12_acts (a0 : Nat) (p1 : Int32) (σ : Sto) (Q : Sto → Prop) : Prop := (sK σ a0 = 12 ∧ (wp_X12_leads a0 p1 σ (fun (x3 : Int32) (σ2 : Sto) => (sK σ2 a0 = 12 ∧ (∃ b5 : Nat, sP σ2 a0 23 = some b5 ∧ (sK σ2 b5 = 14 ∧ (vp_in p1 (sN σ2 b5) ∧ (∀ x9 : Int32, x9 = sI σ2 b5 p1.toNatClampNeg → ((¬ x9 = (2 : Int32) → b_X12_acts_60 a0  Q p1 x3 x9 σ2) ∧ (x9 = (2 : Int32) → (∀ x12 : Int32, x12 = sI σ2 a0 4 → (∃ b14 : Nat, sP σ2 a0 59 = some b14 ∧ (sK σ2 b14 = 14 ∧ (vp_in p1 (sN σ2 b14) ∧ (∀ x18 : Int32, x18 = sI σ2 b14 p1.toNatClampNeg → (∀ x20 : Int32, x20 = sI σ2 a0 3 → (((x12 - x18) < ((4 : Int32) * x20) → b_X12_acts_60 a0  Q p1 x3 x9 σ2) ∧ (¬ (x12 - x18) < ((4 : Int32) * x20) → (∃ b23 : Nat, sP σ2 a0 21 = some b23 ∧ (sK σ2 b23 = 14 ∧ (vp_in p1 (sN σ2 b23) ∧ (∀ x27 : Int32, x27 = sI σ2 b23 p1.toNatClampNeg → (∃ b29 : Nat, sP σ2 a0 22 = some b29 ∧ (sK σ2 b29 = 14 ∧ (vp_in p1 (sN σ2 b29) ∧ (∀ x33 : Int32, x33 = sI σ2 b29 p1.toNatClampNeg → (wp_X12_turnsTo a0 p1 (x27 + (1 : Int32)) x33 σ2 (fun (σ35 : Sto) => Q σ35))))))))))))))))))))))))))))
set_option maxHeartbeats 4000000 in
set_option maxRecDepth 100000 in
theorem c_X12_acts (l : Launch) (D : va_G) (cy : Nat → ClassId) (a0 : Nat) (p1 : Int32) (σ : Sto) (Q : Sto → Prop) (h : wp_X12_acts a0 p1 σ Q) : Mt l D cy yX12_acts cX12_acts 4 none rm_X12_acts [.ref a0, .int p1] σ (PsV Q) := by
  unfold wp_X12_acts at h
  refine mt_of (by decide +kernel) (Nat.le_of_ble_eq_true rfl) ?_
  intro p e s m args below meth c A ls C hr hnm hl
  have C : Cx p s m args meth c D cy A cX12_acts 4 RX12 := C
  have hl : lv_has ls 4 [(0, .ref a0), (1, .int p1)] := hl
  refine x_aload_n C dX12_acts_0 rfl (lv_at hl 0 rfl) ?_
  refine x_iload_n C dX12_acts_1 rfl (lv_at hl 1 rfl) ?_
  obtain ⟨g1, h⟩ := h
  refine x_callV (rm := rm_X12_leads) (rest := []) (As := [.int p1]) C cy_RX12_327 g1 (by decide) (by decide) rfl rfl (Nat.le_of_ble_eq_true rfl) hl.1 dX12_acts_2 (c_X12_leads l D cy a0 p1 σ _ h) (ks_i (fun x3 σ2 h => ?_))
  refine x_istore_n (i := 2) (lv' := [(2, .int x3), (0, .ref a0), (1, .int p1)]) C dX12_acts_5 rfl hl (by decide) (by first | rfl | simp [vrc, cat_i, cat_r, cat_l]) (fun ls hl => ?_)
  refine x_aload_n C dX12_acts_6 rfl (lv_at hl 1 rfl) ?_
  obtain ⟨g4, h⟩ := h
  refine x_getP C fl_RX12_50 g4 dX12_acts_7 ?_
  refine x_iload_n C dX12_acts_10 rfl (lv_at hl 2 rfl) ?_
  obtain ⟨b5, g6, h⟩ := h
  refine x_nn1 g6 ?_
  obtain ⟨g7, h⟩ := h
  obtain ⟨g8, h⟩ := h
  refine x_iald C g7 g8 dX12_acts_11 ?_
  refine x_topi (fun x9 e10 => ?_)
  have h := h x9 e10
  refine x_istore_n (i := 3) (lv' := [(3, .int x9), (2, .int x3), (0, .ref a0), (1, .int p1)]) C dX12_acts_12 rfl hl (by decide) (by first | rfl | simp [vrc, cat_i, cat_r, cat_l]) (fun ls hl => ?_)
  refine x_iload_n C dX12_acts_13 rfl (lv_at hl 0 rfl) ?_
  refine x_iconst (v := 2) C dX12_acts_14 (by decide) ?_
  refine x_icmp_ne (tgt := 60) C dX12_acts_15 (by decide) (fun c11 => ?_) (fun c11 => ?_)
  · have h := h.1 c11
    exact t_X12_acts_60 C hr hnm  p1 x3 x9 _ h ls (lv_sub hl [2, 3, 1, 0] rfl)
  · have h := h.2 c11
    refine x_aload_n C dX12_acts_18 rfl (lv_at hl 2 rfl) ?_
    refine x_getI C fl_RX12_318 g4 dX12_acts_19 ?_
    refine x_topi (fun x12 e13 => ?_)
    have h := h x12 e13
    refine x_aload_n C dX12_acts_22 rfl (lv_at hl 2 rfl) ?_
    refine x_getP C fl_RX12_158 g4 dX12_acts_23 ?_
    refine x_iload_n C dX12_acts_26 rfl (lv_at hl 3 rfl) ?_
    obtain ⟨b14, g15, h⟩ := h
    refine x_nn1 g15 ?_
    obtain ⟨g16, h⟩ := h
    obtain ⟨g17, h⟩ := h
    refine x_iald C g16 g17 dX12_acts_27 ?_
    refine x_topi (fun x18 e19 => ?_)
    have h := h x18 e19
    refine x_isub C dX12_acts_28 ?_
    refine x_iconst (v := 4) C dX12_acts_29 (by decide) ?_
    refine x_aload_n C dX12_acts_30 rfl (lv_at hl 2 rfl) ?_
    refine x_getI C fl_RX12_264 g4 dX12_acts_31 ?_
    refine x_topi (fun x20 e21 => ?_)
    have h := h x20 e21
    refine x_imul C dX12_acts_34 ?_
    refine x_icmp_lt (tgt := 60) C dX12_acts_35 (by decide) (fun c22 => ?_) (fun c22 => ?_)
    · have h := h.1 c22
      exact t_X12_acts_60 C hr hnm  p1 x3 x9 _ h ls (lv_sub hl [2, 3, 1, 0] rfl)
    · have h := h.2 c22
      refine x_aload_n C dX12_acts_38 rfl (lv_at hl 2 rfl) ?_
      refine x_iload_n C dX12_acts_39 rfl (lv_at hl 3 rfl) ?_
      refine x_aload_n C dX12_acts_40 rfl (lv_at hl 2 rfl) ?_
      refine x_getP C fl_RX12_44 g4 dX12_acts_41 ?_
      refine x_iload_n C dX12_acts_44 rfl (lv_at hl 3 rfl) ?_
      obtain ⟨b23, g24, h⟩ := h
      refine x_nn1 g24 ?_
      obtain ⟨g25, h⟩ := h
      obtain ⟨g26, h⟩ := h
      refine x_iald C g25 g26 dX12_acts_45 ?_
      refine x_topi (fun x27 e28 => ?_)
      have h := h x27 e28
      refine x_iconst (v := 1) C dX12_acts_46 (by decide) ?_
      refine x_iadd C dX12_acts_47 ?_
      refine x_aload_n C dX12_acts_48 rfl (lv_at hl 2 rfl) ?_
      refine x_getP C fl_RX12_47 g4 dX12_acts_49 ?_
      refine x_iload_n C dX12_acts_52 rfl (lv_at hl 3 rfl) ?_
      obtain ⟨b29, g30, h⟩ := h
      refine x_nn1 g30 ?_
      obtain ⟨g31, h⟩ := h
      obtain ⟨g32, h⟩ := h
      refine x_iald C g31 g32 dX12_acts_53 ?_
      refine x_topi (fun x33 e34 => ?_)
      have h := h x33 e34
      refine x_callV (rm := rm_X12_turnsTo) (rest := []) (As := [.int p1, .int (x27 + (1 : Int32)), .int x33]) C cy_RX12_365 g4 (by decide) (by decide) rfl rfl (Nat.le_of_ble_eq_true rfl) hl.1 dX12_acts_54 (c_X12_turnsTo l D cy a0 p1 (x27 + (1 : Int32)) x33 σ2 _ h) (ks_v (fun σ35 h => ?_))
      refine x_goto (tgt := 279) C dX12_acts_57 (by decide) ?_
      exact x_vret C hr dX12_acts_279 ⟨rfl, h⟩
