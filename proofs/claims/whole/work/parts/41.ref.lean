theorem dX12_add_0 : decode cX12_add 0 = .ok (.aload_n 0, 1) := by decide +kernel
theorem dX12_add_1 : decode cX12_add 1 = .ok (.getfield 27, 3) := by decide +kernel
theorem dX12_add_4 : decode cX12_add 4 = .ok (.aload_n 0, 1) := by decide +kernel
theorem dX12_add_5 : decode cX12_add 5 = .ok (.getfield 274, 3) := by decide +kernel
theorem dX12_add_8 : decode cX12_add 8 = .ok (.iload_n 1, 1) := by decide +kernel
theorem dX12_add_9 : decode cX12_add 9 = .ok (.iastore, 1) := by decide +kernel
theorem dX12_add_10 : decode cX12_add 10 = .ok (.aload_n 0, 1) := by decide +kernel
theorem dX12_add_11 : decode cX12_add 11 = .ok (.dup, 1) := by decide +kernel
theorem dX12_add_12 : decode cX12_add 12 = .ok (.getfield 274, 3) := by decide +kernel
theorem dX12_add_15 : decode cX12_add 15 = .ok (.iconst 1, 1) := by decide +kernel
theorem dX12_add_16 : decode cX12_add 16 = .ok (.iadd, 1) := by decide +kernel
theorem dX12_add_17 : decode cX12_add 17 = .ok (.putfield 274, 3) := by decide +kernel
theorem dX12_add_20 : decode cX12_add 20 = .ok (.return_, 1) := by decide +kernel
abbrev rm_X12_add : Room := { frames := 0, cells := 0, slots := 0, locals := 0 }
def wp_X12_add (a0 : Nat) (p1 : Int32) (σ : Sto) (Q : Sto → Prop) : Prop := (sK σ a0 = 12 ∧ (∀ x2 : Int32, x2 = sI σ a0 14 → (∃ b4 : Nat, sP σ a0 13 = some b4 ∧ (sK σ b4 = 14 ∧ (vp_in x2 (sN σ b4) ∧ (∀ x8 : Int32, x8 = sI (stI σ b4 x2.toNatClampNeg p1) a0 14 → (∀ x10 : Int32, x10 = x8 + (1 : Int32) → Q (stI (stI σ b4 x2.toNatClampNeg p1) a0 14 x10))))))))
set_option maxHeartbeats 4000000 in
set_option maxRecDepth 100000 in
theorem c_X12_add (l : Launch) (D : va_G) (cy : Nat → ClassId) (a0 : Nat) (p1 : Int32) (σ : Sto) (Q : Sto → Prop) (h : wp_X12_add a0 p1 σ Q) : Mt l D cy yX12_add cX12_add 2 none rm_X12_add [.ref a0, .int p1] σ (PsV Q) := by
  unfold wp_X12_add at h
  refine mt_of (by decide +kernel) (Nat.le_of_ble_eq_true rfl) ?_
  intro p e s m args below meth c A ls C hr hnm hl
  have C : Cx p s m args meth c D cy A cX12_add 2 RX12 := C
  have hl : lv_has ls 2 [(0, .ref a0), (1, .int p1)] := hl
  refine x_aload_n C dX12_add_0 rfl (lv_at hl 0 rfl) ?_
  obtain ⟨g1, h⟩ := h
  refine x_getP C fl_RX12_27 g1 dX12_add_1 ?_
  refine x_aload_n C dX12_add_4 rfl (lv_at hl 0 rfl) ?_
  refine x_getI C fl_RX12_274 g1 dX12_add_5 ?_
  refine x_topi (fun x2 e3 => ?_)
  have h := h x2 e3
  refine x_iload_n C dX12_add_8 rfl (lv_at hl 1 rfl) ?_
  obtain ⟨b4, g5, h⟩ := h
  refine x_nn2 g5 ?_
  obtain ⟨g6, h⟩ := h
  obtain ⟨g7, h⟩ := h
  refine x_iast C g6 g7 dX12_add_9 ?_
  refine x_aload_n C dX12_add_10 rfl (lv_at hl 0 rfl) ?_
  refine x_dup C dX12_add_11 (rfl) ?_
  refine x_getI C fl_RX12_274 g1 dX12_add_12 ?_
  refine x_topi (fun x8 e9 => ?_)
  have h := h x8 e9
  refine x_iconst (v := 1) C dX12_add_15 (by decide) ?_
  refine x_iadd C dX12_add_16 ?_
  refine x_topi (fun x10 e11 => ?_)
  have h := h x10 e11
  refine x_putI C fl_RX12_274 (Or.inl rfl) g1 dX12_add_17 ?_
  exact x_vret C hr dX12_add_20 ⟨rfl, h⟩
theorem dX12_addView_0 : decode cX12_addView 0 = .ok (.aload_n 0, 1) := by decide +kernel
theorem dX12_addView_1 : decode cX12_addView 1 = .ok (.aload_n 0, 1) := by decide +kernel
theorem dX12_addView_2 : decode cX12_addView 2 = .ok (.getfield 44, 3) := by decide +kernel
theorem dX12_addView_5 : decode cX12_addView 5 = .ok (.iload_n 1, 1) := by decide +kernel
theorem dX12_addView_6 : decode cX12_addView 6 = .ok (.iaload, 1) := by decide +kernel
theorem dX12_addView_7 : decode cX12_addView 7 = .ok (.invokevirtual 277, 3) := by decide +kernel
theorem dX12_addView_10 : decode cX12_addView 10 = .ok (.aload_n 0, 1) := by decide +kernel
theorem dX12_addView_11 : decode cX12_addView 11 = .ok (.aload_n 0, 1) := by decide +kernel
theorem dX12_addView_12 : decode cX12_addView 12 = .ok (.getfield 47, 3) := by decide +kernel
theorem dX12_addView_15 : decode cX12_addView 15 = .ok (.iload_n 1, 1) := by decide +kernel
theorem dX12_addView_16 : decode cX12_addView 16 = .ok (.iaload, 1) := by decide +kernel
theorem dX12_addView_17 : decode cX12_addView 17 = .ok (.invokevirtual 277, 3) := by decide +kernel
theorem dX12_addView_20 : decode cX12_addView 20 = .ok (.return_, 1) := by decide +kernel
abbrev rm_X12_addView : Room := { frames := 1, cells := 0, slots := 0, locals := 21 }
def wp_X12_addView (a0 : Nat) (p1 : Int32) (σ : Sto) (Q : Sto → Prop) : Prop := (sK σ a0 = 12 ∧ (∃ b2 : Nat, sP σ a0 21 = some b2 ∧ (sK σ b2 = 14 ∧ (vp_in p1 (sN σ b2) ∧ (∀ x6 : Int32, x6 = sI σ b2 p1.toNatClampNeg → (wp_X12_add a0 x6 σ (fun (σ8 : Sto) => (sK σ8 a0 = 12 ∧ (∃ b10 : Nat, sP σ8 a0 22 = some b10 ∧ (sK σ8 b10 = 14 ∧ (vp_in p1 (sN σ8 b10) ∧ (∀ x14 : Int32, x14 = sI σ8 b10 p1.toNatClampNeg → (wp_X12_add a0 x14 σ8 (fun (σ16 : Sto) => Q σ16))))))))))))))
set_option maxHeartbeats 4000000 in
set_option maxRecDepth 100000 in
theorem c_X12_addView (l : Launch) (D : va_G) (cy : Nat → ClassId) (a0 : Nat) (p1 : Int32) (σ : Sto) (Q : Sto → Prop) (h : wp_X12_addView a0 p1 σ Q) : Mt l D cy yX12_addView cX12_addView 2 none rm_X12_addView [.ref a0, .int p1] σ (PsV Q) := by
  unfold wp_X12_addView at h
  refine mt_of (by decide +kernel) (Nat.le_of_ble_eq_true rfl) ?_
  intro p e s m args below meth c A ls C hr hnm hl
  have C : Cx p s m args meth c D cy A cX12_addView 2 RX12 := C
  have hl : lv_has ls 2 [(0, .ref a0), (1, .int p1)] := hl
  refine x_aload_n C dX12_addView_0 rfl (lv_at hl 0 rfl) ?_
  refine x_aload_n C dX12_addView_1 rfl (lv_at hl 0 rfl) ?_
  obtain ⟨g1, h⟩ := h
  refine x_getP C fl_RX12_44 g1 dX12_addView_2 ?_
  refine x_iload_n C dX12_addView_5 rfl (lv_at hl 1 rfl) ?_
  obtain ⟨b2, g3, h⟩ := h
  refine x_nn1 g3 ?_
  obtain ⟨g4, h⟩ := h
  obtain ⟨g5, h⟩ := h
  refine x_iald C g4 g5 dX12_addView_6 ?_
  refine x_topi (fun x6 e7 => ?_)
  have h := h x6 e7
  refine x_callV (rm := rm_X12_add) (rest := []) (As := [.int x6]) C cy_RX12_277 g1 (by decide) (by decide) rfl rfl (Nat.le_of_ble_eq_true rfl) hl.1 dX12_addView_7 (c_X12_add l D cy a0 x6 σ _ h) (ks_v (fun σ8 h => ?_))
  refine x_aload_n C dX12_addView_10 rfl (lv_at hl 0 rfl) ?_
  refine x_aload_n C dX12_addView_11 rfl (lv_at hl 0 rfl) ?_
  obtain ⟨g9, h⟩ := h
  refine x_getP C fl_RX12_47 g9 dX12_addView_12 ?_
  refine x_iload_n C dX12_addView_15 rfl (lv_at hl 1 rfl) ?_
  obtain ⟨b10, g11, h⟩ := h
  refine x_nn1 g11 ?_
  obtain ⟨g12, h⟩ := h
  obtain ⟨g13, h⟩ := h
  refine x_iald C g12 g13 dX12_addView_16 ?_
  refine x_topi (fun x14 e15 => ?_)
  have h := h x14 e15
  refine x_callV (rm := rm_X12_add) (rest := []) (As := [.int x14]) C cy_RX12_277 g9 (by decide) (by decide) rfl rfl (Nat.le_of_ble_eq_true rfl) hl.1 dX12_addView_17 (c_X12_add l D cy a0 x14 σ8 _ h) (ks_v (fun σ16 h => ?_))
  exact x_vret C hr dX12_addView_20 ⟨rfl, h⟩
theorem dX12_addLog_0 : decode cX12_addLog 0 = .ok (.aload_n 0, 1) := by decide +kernel
theorem dX12_addLog_1 : decode cX12_addLog 1 = .ok (.iload_n 2, 1) := by decide +kernel
theorem dX12_addLog_2 : decode cX12_addLog 2 = .ok (.invokevirtual 277, 3) := by decide +kernel
theorem dX12_addLog_5 : decode cX12_addLog 5 = .ok (.iconst 0, 1) := by decide +kernel
theorem dX12_addLog_6 : decode cX12_addLog 6 = .ok (.istore_n 3, 1) := by decide +kernel
theorem dX12_addLog_7 : decode cX12_addLog 7 = .ok (.iload_n 3, 1) := by decide +kernel
theorem dX12_addLog_8 : decode cX12_addLog 8 = .ok (.iload_n 2, 1) := by decide +kernel
theorem dX12_addLog_9 : decode cX12_addLog 9 = .ok (.if_icmp .ge 101, 3) := by decide +kernel
theorem dX12_addLog_12 : decode cX12_addLog 12 = .ok (.bipush 100, 2) := by decide +kernel
theorem dX12_addLog_14 : decode cX12_addLog 14 = .ok (.iload_n 1, 1) := by decide +kernel
theorem dX12_addLog_15 : decode cX12_addLog 15 = .ok (.imul, 1) := by decide +kernel
theorem dX12_addLog_16 : decode cX12_addLog 16 = .ok (.iload_n 3, 1) := by decide +kernel
theorem dX12_addLog_17 : decode cX12_addLog 17 = .ok (.iadd, 1) := by decide +kernel
theorem dX12_addLog_18 : decode cX12_addLog 18 = .ok (.istore 4, 2) := by decide +kernel
theorem dX12_addLog_20 : decode cX12_addLog 20 = .ok (.aload_n 0, 1) := by decide +kernel
theorem dX12_addLog_21 : decode cX12_addLog 21 = .ok (.aload_n 0, 1) := by decide +kernel
theorem dX12_addLog_22 : decode cX12_addLog 22 = .ok (.getfield 71, 3) := by decide +kernel
theorem dX12_addLog_25 : decode cX12_addLog 25 = .ok (.iload 4, 2) := by decide +kernel
theorem dX12_addLog_27 : decode cX12_addLog 27 = .ok (.baload, 1) := by decide +kernel
theorem dX12_addLog_28 : decode cX12_addLog 28 = .ok (.ifCond .eq 7, 3) := by decide +kernel
theorem dX12_addLog_31 : decode cX12_addLog 31 = .ok (.iconst 1, 1) := by decide +kernel
theorem dX12_addLog_32 : decode cX12_addLog 32 = .ok (.goto 4, 3) := by decide +kernel
theorem dX12_addLog_35 : decode cX12_addLog 35 = .ok (.iconst 0, 1) := by decide +kernel
theorem dX12_addLog_36 : decode cX12_addLog 36 = .ok (.invokevirtual 277, 3) := by decide +kernel
theorem dX12_addLog_39 : decode cX12_addLog 39 = .ok (.aload_n 0, 1) := by decide +kernel
theorem dX12_addLog_40 : decode cX12_addLog 40 = .ok (.getfield 71, 3) := by decide +kernel
theorem dX12_addLog_43 : decode cX12_addLog 43 = .ok (.iload 4, 2) := by decide +kernel
theorem dX12_addLog_45 : decode cX12_addLog 45 = .ok (.baload, 1) := by decide +kernel
theorem dX12_addLog_46 : decode cX12_addLog 46 = .ok (.ifCond .eq 58, 3) := by decide +kernel
theorem dX12_addLog_49 : decode cX12_addLog 49 = .ok (.aload_n 0, 1) := by decide +kernel
theorem dX12_addLog_50 : decode cX12_addLog 50 = .ok (.aload_n 0, 1) := by decide +kernel
theorem dX12_addLog_51 : decode cX12_addLog 51 = .ok (.getfield 74, 3) := by decide +kernel
theorem dX12_addLog_54 : decode cX12_addLog 54 = .ok (.iload 4, 2) := by decide +kernel
theorem dX12_addLog_56 : decode cX12_addLog 56 = .ok (.iaload, 1) := by decide +kernel
theorem dX12_addLog_57 : decode cX12_addLog 57 = .ok (.invokevirtual 277, 3) := by decide +kernel
theorem dX12_addLog_60 : decode cX12_addLog 60 = .ok (.aload_n 0, 1) := by decide +kernel
theorem dX12_addLog_61 : decode cX12_addLog 61 = .ok (.aload_n 0, 1) := by decide +kernel
theorem dX12_addLog_62 : decode cX12_addLog 62 = .ok (.getfield 77, 3) := by decide +kernel
theorem dX12_addLog_65 : decode cX12_addLog 65 = .ok (.iload 4, 2) := by decide +kernel
theorem dX12_addLog_67 : decode cX12_addLog 67 = .ok (.iaload, 1) := by decide +kernel
theorem dX12_addLog_68 : decode cX12_addLog 68 = .ok (.invokevirtual 277, 3) := by decide +kernel
theorem dX12_addLog_71 : decode cX12_addLog 71 = .ok (.aload_n 0, 1) := by decide +kernel
theorem dX12_addLog_72 : decode cX12_addLog 72 = .ok (.aload_n 0, 1) := by decide +kernel
theorem dX12_addLog_73 : decode cX12_addLog 73 = .ok (.getfield 80, 3) := by decide +kernel
theorem dX12_addLog_76 : decode cX12_addLog 76 = .ok (.iload 4, 2) := by decide +kernel
theorem dX12_addLog_78 : decode cX12_addLog 78 = .ok (.iaload, 1) := by decide +kernel
theorem dX12_addLog_79 : decode cX12_addLog 79 = .ok (.invokevirtual 277, 3) := by decide +kernel
theorem dX12_addLog_82 : decode cX12_addLog 82 = .ok (.aload_n 0, 1) := by decide +kernel
theorem dX12_addLog_83 : decode cX12_addLog 83 = .ok (.aload_n 0, 1) := by decide +kernel
theorem dX12_addLog_84 : decode cX12_addLog 84 = .ok (.getfield 83, 3) := by decide +kernel
theorem dX12_addLog_87 : decode cX12_addLog 87 = .ok (.iload 4, 2) := by decide +kernel
theorem dX12_addLog_89 : decode cX12_addLog 89 = .ok (.iaload, 1) := by decide +kernel
theorem dX12_addLog_90 : decode cX12_addLog 90 = .ok (.invokevirtual 277, 3) := by decide +kernel
theorem dX12_addLog_93 : decode cX12_addLog 93 = .ok (.aload_n 0, 1) := by decide +kernel
theorem dX12_addLog_94 : decode cX12_addLog 94 = .ok (.aload_n 0, 1) := by decide +kernel
theorem dX12_addLog_95 : decode cX12_addLog 95 = .ok (.getfield 86, 3) := by decide +kernel
theorem dX12_addLog_98 : decode cX12_addLog 98 = .ok (.iload 4, 2) := by decide +kernel
theorem dX12_addLog_100 : decode cX12_addLog 100 = .ok (.iaload, 1) := by decide +kernel
theorem dX12_addLog_101 : decode cX12_addLog 101 = .ok (.invokevirtual 277, 3) := by decide +kernel
theorem dX12_addLog_104 : decode cX12_addLog 104 = .ok (.iinc 3 1, 3) := by decide +kernel
theorem dX12_addLog_107 : decode cX12_addLog 107 = .ok (.goto (-100), 3) := by decide +kernel
theorem dX12_addLog_110 : decode cX12_addLog 110 = .ok (.return_, 1) := by decide +kernel
abbrev rm_X12_addLog : Room := { frames := 1, cells := 0, slots := 0, locals := 21 }
def b_X12_addLog_104 (a0 : Nat) (L7 : Int32 × Int32 × Int32 → Sto → Prop) (Q : Sto → Prop) (p1 : Int32) (p2 : Int32) (p3 : Int32) (σ : Sto) : Prop := (∀ x1 : Int32, x1 = p3 + (1 : Int32) → L7 (p1, p2, x1) σ)
set_option maxHeartbeats 4000000 in
set_option maxRecDepth 100000 in
theorem t_X12_addLog_104 {p : Program} {l : Launch} {e : Env} {s : State} {m : MethodId} {args : Array Value} {below : List Frame} {meth : Method} {c : Code} {D : va_G} {cy : Nat → ClassId} {A : Nat → Prop} {a0 : Nat} {L7 : Int32 × Int32 × Int32 → Sto → Prop} {Q : Sto → Prop} (C : Cx p s m args meth c D cy A cX12_addLog 5 RX12) (hr : meth.sig.returnType = none) (hnm : meth.name = yX12_addLog.name) (hL7 : ∀ (t : Int32 × Int32 × Int32) (σ : Sto), L7 t σ → ∀ ls : Array Slot, lv_has ls 5 [(0, .ref a0), (1, .int t.1), (2, .int t.2.1), (3, .int t.2.2)] → Xw p l e rm_X12_addLog s m args below meth c D cy A σ 0 0 (MQ below (Qst D cy A (PsV Q)) args s rm_X12_addLog.cells rm_X12_addLog.slots A) (F0 m 7 ls [])) (p1 : Int32) (p2 : Int32) (p3 : Int32) (σ : Sto) (h : b_X12_addLog_104 a0 L7 Q p1 p2 p3 σ) (ls : Array Slot) (hl : lv_has ls 5 [(0, .ref a0), (1, .int p1), (2, .int p2), (3, .int p3)]) : Xw p l e rm_X12_addLog s m args below meth c D cy A σ 0 0 (MQ below (Qst D cy A (PsV Q)) args s rm_X12_addLog.cells rm_X12_addLog.slots A) (F0 m 104 ls []) := by
  unfold b_X12_addLog_104 at h
  obtain ⟨x1, e2⟩ : ∃ z : Int32, z = p3 + (1 : Int32) := ⟨_, rfl⟩
  have h := h x1 e2
  refine x_iinc (v := x1) (lv' := [(3, .int x1), (0, .ref a0), (1, .int p1), (2, .int p2)]) C dX12_addLog_104 hl (q0 := 3) rfl (by rw [e2]; rfl) (by decide) (by first | rfl | simp [vrc, cat_i, cat_r, cat_l]) (fun ls hl => ?_)
  refine x_goto (tgt := 7) C dX12_addLog_107 (by decide) ?_
  exact hL7 (p1, p2, x1) _ h ls (lv_sub hl [1, 2, 3, 0] rfl)
def b_X12_addLog_36 (a0 : Nat) (L7 : Int32 × Int32 × Int32 → Sto → Prop) (Q : Sto → Prop) (p1 : Int32) (p2 : Int32) (p3 : Int32) (p4 : Int32) (s0 : Int32) (s1 : Nat) (σ : Sto) : Prop := (sK σ s1 = 12 ∧ (wp_X12_add s1 s0 σ (fun (σ2 : Sto) => (sK σ2 a0 = 12 ∧ (∃ b4 : Nat, sP σ2 a0 30 = some b4 ∧ (sK σ2 b4 = 16 ∧ (vp_in p4 (sN σ2 b4) ∧ (∀ x8 : Int32, x8 = sI σ2 b4 p4.toNatClampNeg → ((x8 = 0 → b_X12_addLog_104 a0 L7 Q p1 p2 p3 σ2) ∧ (¬ x8 = 0 → (∃ b11 : Nat, sP σ2 a0 31 = some b11 ∧ (sK σ2 b11 = 14 ∧ (vp_in p4 (sN σ2 b11) ∧ (∀ x15 : Int32, x15 = sI σ2 b11 p4.toNatClampNeg → (wp_X12_add a0 x15 σ2 (fun (σ17 : Sto) => (sK σ17 a0 = 12 ∧ (∃ b19 : Nat, sP σ17 a0 32 = some b19 ∧ (sK σ17 b19 = 14 ∧ (vp_in p4 (sN σ17 b19) ∧ (∀ x23 : Int32, x23 = sI σ17 b19 p4.toNatClampNeg → (wp_X12_add a0 x23 σ17 (fun (σ25 : Sto) => (sK σ25 a0 = 12 ∧ (∃ b27 : Nat, sP σ25 a0 33 = some b27 ∧ (sK σ25 b27 = 14 ∧ (vp_in p4 (sN σ25 b27) ∧ (∀ x31 : Int32, x31 = sI σ25 b27 p4.toNatClampNeg → (wp_X12_add a0 x31 σ25 (fun (σ33 : Sto) => (sK σ33 a0 = 12 ∧ (∃ b35 : Nat, sP σ33 a0 34 = some b35 ∧ (sK σ33 b35 = 14 ∧ (vp_in p4 (sN σ33 b35) ∧ (∀ x39 : Int32, x39 = sI σ33 b35 p4.toNatClampNeg → (wp_X12_add a0 x39 σ33 (fun (σ41 : Sto) => (sK σ41 a0 = 12 ∧ (∃ b43 : Nat, sP σ41 a0 35 = some b43 ∧ (sK σ41 b43 = 14 ∧ (vp_in p4 (sN σ41 b43) ∧ (∀ x47 : Int32, x47 = sI σ41 b43 p4.toNatClampNeg → (wp_X12_add a0 x47 σ41 (fun (σ49 : Sto) => b_X12_addLog_104 a0 L7 Q p1 p2 p3 σ49))))))))))))))))))))))))))))))))))))))))))))
set_option maxHeartbeats 4000000 in
set_option maxRecDepth 100000 in
theorem t_X12_addLog_36 {p : Program} {l : Launch} {e : Env} {s : State} {m : MethodId} {args : Array Value} {below : List Frame} {meth : Method} {c : Code} {D : va_G} {cy : Nat → ClassId} {A : Nat → Prop} {a0 : Nat} {L7 : Int32 × Int32 × Int32 → Sto → Prop} {Q : Sto → Prop} (C : Cx p s m args meth c D cy A cX12_addLog 5 RX12) (hr : meth.sig.returnType = none) (hnm : meth.name = yX12_addLog.name) (hL7 : ∀ (t : Int32 × Int32 × Int32) (σ : Sto), L7 t σ → ∀ ls : Array Slot, lv_has ls 5 [(0, .ref a0), (1, .int t.1), (2, .int t.2.1), (3, .int t.2.2)] → Xw p l e rm_X12_addLog s m args below meth c D cy A σ 0 0 (MQ below (Qst D cy A (PsV Q)) args s rm_X12_addLog.cells rm_X12_addLog.slots A) (F0 m 7 ls [])) (p1 : Int32) (p2 : Int32) (p3 : Int32) (p4 : Int32) (s0 : Int32) (s1 : Nat) (σ : Sto) (h : b_X12_addLog_36 a0 L7 Q p1 p2 p3 p4 s0 s1 σ) (ls : Array Slot) (hl : lv_has ls 5 [(0, .ref a0), (1, .int p1), (2, .int p2), (3, .int p3), (4, .int p4)]) : Xw p l e rm_X12_addLog s m args below meth c D cy A σ 0 0 (MQ below (Qst D cy A (PsV Q)) args s rm_X12_addLog.cells rm_X12_addLog.slots A) (F0 m 36 ls [.int s0, .ref s1]) := by
  unfold b_X12_addLog_36 at h
  obtain ⟨g1, h⟩ := h
  refine x_callV (rm := rm_X12_add) (rest := []) (As := [.int s0]) C cy_RX12_277 g1 (by decide) (by decide) rfl rfl (Nat.le_of_ble_eq_true rfl) hl.1 dX12_addLog_36 (c_X12_add l D cy s1 s0 σ _ h) (ks_v (fun σ2 h => ?_))
  refine x_aload_n C dX12_addLog_39 rfl (lv_at hl 0 rfl) ?_
  obtain ⟨g3, h⟩ := h
  refine x_getP C fl_RX12_71 g3 dX12_addLog_40 ?_
  refine x_iload C dX12_addLog_43 (lv_at hl 4 rfl) ?_
  obtain ⟨b4, g5, h⟩ := h
  refine x_nn1 g5 ?_
  obtain ⟨g6, h⟩ := h
  obtain ⟨g7, h⟩ := h
  refine x_zald C g6 g7 dX12_addLog_45 ?_
  refine x_topi (fun x8 e9 => ?_)
  have h := h x8 e9
  refine x_if_eq (tgt := 104) C dX12_addLog_46 (by decide) (fun c10 => ?_) (fun c10 => ?_)
  · have h := h.1 c10
    exact t_X12_addLog_104 C hr hnm hL7 p1 p2 p3 _ h ls (lv_sub hl [0, 1, 2, 3] rfl)
  · have h := h.2 c10
    refine x_aload_n C dX12_addLog_49 rfl (lv_at hl 0 rfl) ?_
    refine x_aload_n C dX12_addLog_50 rfl (lv_at hl 0 rfl) ?_
    refine x_getP C fl_RX12_74 g3 dX12_addLog_51 ?_
    refine x_iload C dX12_addLog_54 (lv_at hl 4 rfl) ?_
    obtain ⟨b11, g12, h⟩ := h
    refine x_nn1 g12 ?_
    obtain ⟨g13, h⟩ := h
    obtain ⟨g14, h⟩ := h
    refine x_iald C g13 g14 dX12_addLog_56 ?_
    refine x_topi (fun x15 e16 => ?_)
    have h := h x15 e16
    refine x_callV (rm := rm_X12_add) (rest := []) (As := [.int x15]) C cy_RX12_277 g3 (by decide) (by decide) rfl rfl (Nat.le_of_ble_eq_true rfl) hl.1 dX12_addLog_57 (c_X12_add l D cy a0 x15 σ2 _ h) (ks_v (fun σ17 h => ?_))
    refine x_aload_n C dX12_addLog_60 rfl (lv_at hl 0 rfl) ?_
    refine x_aload_n C dX12_addLog_61 rfl (lv_at hl 0 rfl) ?_
    obtain ⟨g18, h⟩ := h
    refine x_getP C fl_RX12_77 g18 dX12_addLog_62 ?_
    refine x_iload C dX12_addLog_65 (lv_at hl 4 rfl) ?_
    obtain ⟨b19, g20, h⟩ := h
    refine x_nn1 g20 ?_
    obtain ⟨g21, h⟩ := h
    obtain ⟨g22, h⟩ := h
    refine x_iald C g21 g22 dX12_addLog_67 ?_
    refine x_topi (fun x23 e24 => ?_)
    have h := h x23 e24
    refine x_callV (rm := rm_X12_add) (rest := []) (As := [.int x23]) C cy_RX12_277 g18 (by decide) (by decide) rfl rfl (Nat.le_of_ble_eq_true rfl) hl.1 dX12_addLog_68 (c_X12_add l D cy a0 x23 σ17 _ h) (ks_v (fun σ25 h => ?_))
    refine x_aload_n C dX12_addLog_71 rfl (lv_at hl 0 rfl) ?_
    refine x_aload_n C dX12_addLog_72 rfl (lv_at hl 0 rfl) ?_
    obtain ⟨g26, h⟩ := h
    refine x_getP C fl_RX12_80 g26 dX12_addLog_73 ?_
    refine x_iload C dX12_addLog_76 (lv_at hl 4 rfl) ?_
    obtain ⟨b27, g28, h⟩ := h
    refine x_nn1 g28 ?_
    obtain ⟨g29, h⟩ := h
    obtain ⟨g30, h⟩ := h
    refine x_iald C g29 g30 dX12_addLog_78 ?_
    refine x_topi (fun x31 e32 => ?_)
    have h := h x31 e32
    refine x_callV (rm := rm_X12_add) (rest := []) (As := [.int x31]) C cy_RX12_277 g26 (by decide) (by decide) rfl rfl (Nat.le_of_ble_eq_true rfl) hl.1 dX12_addLog_79 (c_X12_add l D cy a0 x31 σ25 _ h) (ks_v (fun σ33 h => ?_))
    refine x_aload_n C dX12_addLog_82 rfl (lv_at hl 0 rfl) ?_
    refine x_aload_n C dX12_addLog_83 rfl (lv_at hl 0 rfl) ?_
    obtain ⟨g34, h⟩ := h
    refine x_getP C fl_RX12_83 g34 dX12_addLog_84 ?_
    refine x_iload C dX12_addLog_87 (lv_at hl 4 rfl) ?_
    obtain ⟨b35, g36, h⟩ := h
    refine x_nn1 g36 ?_
    obtain ⟨g37, h⟩ := h
    obtain ⟨g38, h⟩ := h
    refine x_iald C g37 g38 dX12_addLog_89 ?_
    refine x_topi (fun x39 e40 => ?_)
    have h := h x39 e40
    refine x_callV (rm := rm_X12_add) (rest := []) (As := [.int x39]) C cy_RX12_277 g34 (by decide) (by decide) rfl rfl (Nat.le_of_ble_eq_true rfl) hl.1 dX12_addLog_90 (c_X12_add l D cy a0 x39 σ33 _ h) (ks_v (fun σ41 h => ?_))
    refine x_aload_n C dX12_addLog_93 rfl (lv_at hl 0 rfl) ?_
    refine x_aload_n C dX12_addLog_94 rfl (lv_at hl 0 rfl) ?_
    obtain ⟨g42, h⟩ := h
    refine x_getP C fl_RX12_86 g42 dX12_addLog_95 ?_
    refine x_iload C dX12_addLog_98 (lv_at hl 4 rfl) ?_
    obtain ⟨b43, g44, h⟩ := h
    refine x_nn1 g44 ?_
    obtain ⟨g45, h⟩ := h
    obtain ⟨g46, h⟩ := h
    refine x_iald C g45 g46 dX12_addLog_100 ?_
    refine x_topi (fun x47 e48 => ?_)
    have h := h x47 e48
    refine x_callV (rm := rm_X12_add) (rest := []) (As := [.int x47]) C cy_RX12_277 g42 (by decide) (by decide) rfl rfl (Nat.le_of_ble_eq_true rfl) hl.1 dX12_addLog_101 (c_X12_add l D cy a0 x47 σ41 _ h) (ks_v (fun σ49 h => ?_))
    exact t_X12_addLog_104 C hr hnm hL7 p1 p2 p3 _ h ls (lv_sub hl [0, 1, 2, 3] rfl)
def f_X12_addLog_7 (a0 : Nat)  (Q : Sto → Prop) (L7 : Int32 × Int32 × Int32 → Sto → Prop) (t : Int32 × Int32 × Int32) (σ : Sto) : Prop := ((t.2.1 ≤ t.2.2 → Q σ) ∧ (¬ t.2.1 ≤ t.2.2 → (∀ x2 : Int32, x2 = ((100 : Int32) * t.1) + t.2.2 → (sK σ a0 = 12 ∧ (∃ b5 : Nat, sP σ a0 30 = some b5 ∧ (sK σ b5 = 16 ∧ (vp_in x2 (sN σ b5) ∧ (∀ x9 : Int32, x9 = sI σ b5 x2.toNatClampNeg → ((x9 = 0 → b_X12_addLog_36 a0 L7 Q t.1 t.2.1 t.2.2 x2 (0 : Int32) a0 σ) ∧ (¬ x9 = 0 → b_X12_addLog_36 a0 L7 Q t.1 t.2.1 t.2.2 x2 (1 : Int32) a0 σ))))))))))
set_option maxHeartbeats 4000000 in
set_option maxRecDepth 100000 in
theorem t_X12_addLog_7 {p : Program} {l : Launch} {e : Env} {s : State} {m : MethodId} {args : Array Value} {below : List Frame} {meth : Method} {c : Code} {D : va_G} {cy : Nat → ClassId} {A : Nat → Prop} {a0 : Nat} {Q : Sto → Prop} {L7 : Int32 × Int32 × Int32 → Sto → Prop} (C : Cx p s m args meth c D cy A cX12_addLog 5 RX12) (hr : meth.sig.returnType = none) (hnm : meth.name = yX12_addLog.name) (hL7 : ∀ (t : Int32 × Int32 × Int32) (σ : Sto), L7 t σ → ∀ ls : Array Slot, lv_has ls 5 [(0, .ref a0), (1, .int t.1), (2, .int t.2.1), (3, .int t.2.2)] → Xw p l e rm_X12_addLog s m args below meth c D cy A σ 0 0 (MQ below (Qst D cy A (PsV Q)) args s rm_X12_addLog.cells rm_X12_addLog.slots A) (F0 m 7 ls [])) : ∀ (t : Int32 × Int32 × Int32) (σ : Sto), f_X12_addLog_7 a0  Q L7 t σ → ∀ ls : Array Slot, lv_has ls 5 [(0, .ref a0), (1, .int t.1), (2, .int t.2.1), (3, .int t.2.2)] → Xw p l e rm_X12_addLog s m args below meth c D cy A σ 0 0 (MQ below (Qst D cy A (PsV Q)) args s rm_X12_addLog.cells rm_X12_addLog.slots A) (F0 m 7 ls []) := by
  intro t σ h ls hl
  unfold f_X12_addLog_7 at h
  refine x_iload_n C dX12_addLog_7 rfl (lv_at hl 3 rfl) ?_
  refine x_iload_n C dX12_addLog_8 rfl (lv_at hl 2 rfl) ?_
  refine x_icmp_ge (tgt := 110) C dX12_addLog_9 (by decide) (fun c1 => ?_) (fun c1 => ?_)
  · have h := h.1 c1
    exact x_vret C hr dX12_addLog_110 ⟨rfl, h⟩
  · have h := h.2 c1
    refine x_bipush (v := 100) C dX12_addLog_12 (by decide) ?_
    refine x_iload_n C dX12_addLog_14 rfl (lv_at hl 1 rfl) ?_
    refine x_imul C dX12_addLog_15 ?_
    refine x_iload_n C dX12_addLog_16 rfl (lv_at hl 3 rfl) ?_
    refine x_iadd C dX12_addLog_17 ?_
    refine x_topi (fun x2 e3 => ?_)
    have h := h x2 e3
    refine x_istore (i := 4) (lv' := [(4, .int x2), (0, .ref a0), (1, .int t.1), (2, .int t.2.1), (3, .int t.2.2)]) C dX12_addLog_18 hl (by decide) (by first | rfl | simp [vrc, cat_i, cat_r, cat_l]) (fun ls hl => ?_)
    refine x_aload_n C dX12_addLog_20 rfl (lv_at hl 1 rfl) ?_
    refine x_aload_n C dX12_addLog_21 rfl (lv_at hl 1 rfl) ?_
    obtain ⟨g4, h⟩ := h
    refine x_getP C fl_RX12_71 g4 dX12_addLog_22 ?_
    refine x_iload C dX12_addLog_25 (lv_at hl 0 rfl) ?_
    obtain ⟨b5, g6, h⟩ := h
    refine x_nn1 g6 ?_
    obtain ⟨g7, h⟩ := h
    obtain ⟨g8, h⟩ := h
    refine x_zald C g7 g8 dX12_addLog_27 ?_
    refine x_topi (fun x9 e10 => ?_)
    have h := h x9 e10
    refine x_if_eq (tgt := 35) C dX12_addLog_28 (by decide) (fun c11 => ?_) (fun c11 => ?_)
    · have h := h.1 c11
      refine x_iconst (v := 0) C dX12_addLog_35 (by decide) ?_
      exact t_X12_addLog_36 C hr hnm hL7 t.1 t.2.1 t.2.2 x2 (0 : Int32) a0 _ h ls (lv_sub hl [1, 2, 3, 4, 0] rfl)
    · have h := h.2 c11
      refine x_iconst (v := 1) C dX12_addLog_31 (by decide) ?_
      refine x_goto (tgt := 36) C dX12_addLog_32 (by decide) ?_
      exact t_X12_addLog_36 C hr hnm hL7 t.1 t.2.1 t.2.2 x2 (1 : Int32) a0 _ h ls (lv_sub hl [1, 2, 3, 4, 0] rfl)
def wp_X12_addLog (a0 : Nat) (p1 : Int32) (p2 : Int32) (σ : Sto) (Q : Sto → Prop) : Prop := (sK σ a0 = 12 ∧ (wp_X12_add a0 p2 σ (fun (σ2 : Sto) => LF (f_X12_addLog_7 a0  Q) (p1, p2, (0 : Int32)) σ2)))
set_option maxHeartbeats 4000000 in
set_option maxRecDepth 100000 in
theorem c_X12_addLog (l : Launch) (D : va_G) (cy : Nat → ClassId) (a0 : Nat) (p1 : Int32) (p2 : Int32) (σ : Sto) (Q : Sto → Prop) (h : wp_X12_addLog a0 p1 p2 σ Q) : Mt l D cy yX12_addLog cX12_addLog 5 none rm_X12_addLog [.ref a0, .int p1, .int p2] σ (PsV Q) := by
  unfold wp_X12_addLog at h
  refine mt_of (by decide +kernel) (Nat.le_of_ble_eq_true rfl) ?_
  intro p e s m args below meth c A ls C hr hnm hl
  have C : Cx p s m args meth c D cy A cX12_addLog 5 RX12 := C
  have hl : lv_has ls 5 [(0, .ref a0), (1, .int p1), (2, .int p2)] := hl
  refine x_aload_n C dX12_addLog_0 rfl (lv_at hl 0 rfl) ?_
  refine x_iload_n C dX12_addLog_1 rfl (lv_at hl 2 rfl) ?_
  obtain ⟨g1, h⟩ := h
  refine x_callV (rm := rm_X12_add) (rest := []) (As := [.int p2]) C cy_RX12_277 g1 (by decide) (by decide) rfl rfl (Nat.le_of_ble_eq_true rfl) hl.1 dX12_addLog_2 (c_X12_add l D cy a0 p2 σ _ h) (ks_v (fun σ2 h => ?_))
  refine x_iconst (v := 0) C dX12_addLog_5 (by decide) ?_
  refine x_istore_n (i := 3) (lv' := [(3, .int (0 : Int32)), (0, .ref a0), (1, .int p1), (2, .int p2)]) C dX12_addLog_6 rfl hl (by decide) (by first | rfl | simp [vrc, cat_i, cat_r, cat_l]) (fun ls hl => ?_)
  exact h (fun t σ => ∀ ls : Array Slot, lv_has ls 5 [(0, .ref a0), (1, .int t.1), (2, .int t.2.1), (3, .int t.2.2)] → Xw p l e rm_X12_addLog s m args below meth c D cy A σ 0 0 (MQ below (Qst D cy A (PsV Q)) args s rm_X12_addLog.cells rm_X12_addLog.slots A) (F0 m 7 ls [])) (t_X12_addLog_7 C hr hnm  (fun t σ h => h)) ls (lv_sub hl [1, 2, 3, 0] rfl)
theorem dX12_post_0 : decode cX12_post 0 = .ok (.aload_n 0, 1) := by decide +kernel
theorem dX12_post_1 : decode cX12_post 1 = .ok (.getfield 281, 3) := by decide +kernel
theorem dX12_post_4 : decode cX12_post 4 = .ok (.sipush 200, 3) := by decide +kernel
theorem dX12_post_7 : decode cX12_post 7 = .ok (.if_icmp .ne 16, 3) := by decide +kernel
theorem dX12_post_10 : decode cX12_post 10 = .ok (.aload_n 0, 1) := by decide +kernel
theorem dX12_post_11 : decode cX12_post 11 = .ok (.dup, 1) := by decide +kernel
theorem dX12_post_12 : decode cX12_post 12 = .ok (.getfield 284, 3) := by decide +kernel
theorem dX12_post_15 : decode cX12_post 15 = .ok (.iconst 1, 1) := by decide +kernel
theorem dX12_post_16 : decode cX12_post 16 = .ok (.iadd, 1) := by decide +kernel
theorem dX12_post_17 : decode cX12_post 17 = .ok (.putfield 284, 3) := by decide +kernel
theorem dX12_post_20 : decode cX12_post 20 = .ok (.goto 101, 3) := by decide +kernel
theorem dX12_post_23 : decode cX12_post 23 = .ok (.iconst 0, 1) := by decide +kernel
theorem dX12_post_24 : decode cX12_post 24 = .ok (.istore_n 1, 1) := by decide +kernel
theorem dX12_post_25 : decode cX12_post 25 = .ok (.aload_n 0, 1) := by decide +kernel
theorem dX12_post_26 : decode cX12_post 26 = .ok (.getfield 13, 3) := by decide +kernel
theorem dX12_post_29 : decode cX12_post 29 = .ok (.iload_n 1, 1) := by decide +kernel
theorem dX12_post_30 : decode cX12_post 30 = .ok (.baload, 1) := by decide +kernel
theorem dX12_post_31 : decode cX12_post 31 = .ok (.ifCond .eq 9, 3) := by decide +kernel
theorem dX12_post_34 : decode cX12_post 34 = .ok (.iinc 1 1, 3) := by decide +kernel
theorem dX12_post_37 : decode cX12_post 37 = .ok (.goto (-12), 3) := by decide +kernel
theorem dX12_post_40 : decode cX12_post 40 = .ok (.aload_n 0, 1) := by decide +kernel
theorem dX12_post_41 : decode cX12_post 41 = .ok (.getfield 13, 3) := by decide +kernel
theorem dX12_post_44 : decode cX12_post 44 = .ok (.iload_n 1, 1) := by decide +kernel
theorem dX12_post_45 : decode cX12_post 45 = .ok (.iconst 1, 1) := by decide +kernel
theorem dX12_post_46 : decode cX12_post 46 = .ok (.bastore, 1) := by decide +kernel
theorem dX12_post_47 : decode cX12_post 47 = .ok (.aload_n 0, 1) := by decide +kernel
theorem dX12_post_48 : decode cX12_post 48 = .ok (.getfield 24, 3) := by decide +kernel
theorem dX12_post_51 : decode cX12_post 51 = .ok (.iload_n 1, 1) := by decide +kernel
theorem dX12_post_52 : decode cX12_post 52 = .ok (.aload_n 0, 1) := by decide +kernel
theorem dX12_post_53 : decode cX12_post 53 = .ok (.getfield 287, 3) := by decide +kernel
theorem dX12_post_56 : decode cX12_post 56 = .ok (.iastore, 1) := by decide +kernel
theorem dX12_post_57 : decode cX12_post 57 = .ok (.aload_n 0, 1) := by decide +kernel
theorem dX12_post_58 : decode cX12_post 58 = .ok (.getfield 21, 3) := by decide +kernel
theorem dX12_post_61 : decode cX12_post 61 = .ok (.iload_n 1, 1) := by decide +kernel
theorem dX12_post_62 : decode cX12_post 62 = .ok (.aload_n 0, 1) := by decide +kernel
theorem dX12_post_63 : decode cX12_post 63 = .ok (.getfield 274, 3) := by decide +kernel
theorem dX12_post_66 : decode cX12_post 66 = .ok (.iastore, 1) := by decide +kernel
theorem dX12_post_67 : decode cX12_post 67 = .ok (.iconst 0, 1) := by decide +kernel
theorem dX12_post_68 : decode cX12_post 68 = .ok (.istore_n 2, 1) := by decide +kernel
theorem dX12_post_69 : decode cX12_post 69 = .ok (.iload_n 2, 1) := by decide +kernel
theorem dX12_post_70 : decode cX12_post 70 = .ok (.aload_n 0, 1) := by decide +kernel
theorem dX12_post_71 : decode cX12_post 71 = .ok (.getfield 274, 3) := by decide +kernel
theorem dX12_post_74 : decode cX12_post 74 = .ok (.if_icmp .ge 27, 3) := by decide +kernel
theorem dX12_post_77 : decode cX12_post 77 = .ok (.aload_n 0, 1) := by decide +kernel
theorem dX12_post_78 : decode cX12_post 78 = .ok (.getfield 18, 3) := by decide +kernel
theorem dX12_post_81 : decode cX12_post 81 = .ok (.sipush 640, 3) := by decide +kernel
theorem dX12_post_84 : decode cX12_post 84 = .ok (.iload_n 1, 1) := by decide +kernel
theorem dX12_post_85 : decode cX12_post 85 = .ok (.imul, 1) := by decide +kernel
theorem dX12_post_86 : decode cX12_post 86 = .ok (.iload_n 2, 1) := by decide +kernel
theorem dX12_post_87 : decode cX12_post 87 = .ok (.iadd, 1) := by decide +kernel
theorem dX12_post_88 : decode cX12_post 88 = .ok (.aload_n 0, 1) := by decide +kernel
theorem dX12_post_89 : decode cX12_post 89 = .ok (.getfield 27, 3) := by decide +kernel
theorem dX12_post_92 : decode cX12_post 92 = .ok (.iload_n 2, 1) := by decide +kernel
theorem dX12_post_93 : decode cX12_post 93 = .ok (.iaload, 1) := by decide +kernel
theorem dX12_post_94 : decode cX12_post 94 = .ok (.iastore, 1) := by decide +kernel
theorem dX12_post_95 : decode cX12_post 95 = .ok (.iinc 2 1, 3) := by decide +kernel
theorem dX12_post_98 : decode cX12_post 98 = .ok (.goto (-29), 3) := by decide +kernel
theorem dX12_post_101 : decode cX12_post 101 = .ok (.aload_n 0, 1) := by decide +kernel
theorem dX12_post_102 : decode cX12_post 102 = .ok (.getfield 9, 3) := by decide +kernel
theorem dX12_post_105 : decode cX12_post 105 = .ok (.aload_n 0, 1) := by decide +kernel
theorem dX12_post_106 : decode cX12_post 106 = .ok (.getfield 281, 3) := by decide +kernel
theorem dX12_post_109 : decode cX12_post 109 = .ok (.iload_n 1, 1) := by decide +kernel
theorem dX12_post_110 : decode cX12_post 110 = .ok (.iastore, 1) := by decide +kernel
theorem dX12_post_111 : decode cX12_post 111 = .ok (.aload_n 0, 1) := by decide +kernel
theorem dX12_post_112 : decode cX12_post 112 = .ok (.dup, 1) := by decide +kernel
theorem dX12_post_113 : decode cX12_post 113 = .ok (.getfield 281, 3) := by decide +kernel
theorem dX12_post_116 : decode cX12_post 116 = .ok (.iconst 1, 1) := by decide +kernel
theorem dX12_post_117 : decode cX12_post 117 = .ok (.iadd, 1) := by decide +kernel
theorem dX12_post_118 : decode cX12_post 118 = .ok (.putfield 281, 3) := by decide +kernel
theorem dX12_post_121 : decode cX12_post 121 = .ok (.aload_n 0, 1) := by decide +kernel
theorem dX12_post_122 : decode cX12_post 122 = .ok (.dup, 1) := by decide +kernel
theorem dX12_post_123 : decode cX12_post 123 = .ok (.getfield 287, 3) := by decide +kernel
theorem dX12_post_126 : decode cX12_post 126 = .ok (.iconst 1, 1) := by decide +kernel
theorem dX12_post_127 : decode cX12_post 127 = .ok (.iadd, 1) := by decide +kernel
theorem dX12_post_128 : decode cX12_post 128 = .ok (.putfield 287, 3) := by decide +kernel
theorem dX12_post_131 : decode cX12_post 131 = .ok (.return_, 1) := by decide +kernel
abbrev rm_X12_post : Room := { frames := 0, cells := 0, slots := 0, locals := 0 }
def b_X12_post_121 (a0 : Nat)  (Q : Sto → Prop)  (σ : Sto) : Prop := (sK σ a0 = 12 ∧ (∀ x2 : Int32, x2 = sI σ a0 7 → (∀ x4 : Int32, x4 = x2 + (1 : Int32) → Q (stI σ a0 7 x4))))
set_option maxHeartbeats 4000000 in
set_option maxRecDepth 100000 in
theorem t_X12_post_121 {p : Program} {l : Launch} {e : Env} {s : State} {m : MethodId} {args : Array Value} {below : List Frame} {meth : Method} {c : Code} {D : va_G} {cy : Nat → ClassId} {A : Nat → Prop} {a0 : Nat} {Q : Sto → Prop} (C : Cx p s m args meth c D cy A cX12_post 3 RX12) (hr : meth.sig.returnType = none) (hnm : meth.name = yX12_post.name)  (σ : Sto) (h : b_X12_post_121 a0  Q  σ) (ls : Array Slot) (hl : lv_has ls 3 [(0, .ref a0)]) : Xw p l e rm_X12_post s m args below meth c D cy A σ 0 0 (MQ below (Qst D cy A (PsV Q)) args s rm_X12_post.cells rm_X12_post.slots A) (F0 m 121 ls []) := by
  unfold b_X12_post_121 at h
  refine x_aload_n C dX12_post_121 rfl (lv_at hl 0 rfl) ?_
  refine x_dup C dX12_post_122 (rfl) ?_
  obtain ⟨g1, h⟩ := h
  refine x_getI C fl_RX12_287 g1 dX12_post_123 ?_
  refine x_topi (fun x2 e3 => ?_)
  have h := h x2 e3
  refine x_iconst (v := 1) C dX12_post_126 (by decide) ?_
  refine x_iadd C dX12_post_127 ?_
  refine x_topi (fun x4 e5 => ?_)
  have h := h x4 e5
  refine x_putI C fl_RX12_287 (Or.inl rfl) g1 dX12_post_128 ?_
  exact x_vret C hr dX12_post_131 ⟨rfl, h⟩
def f_X12_post_69 (a0 : Nat)  (Q : Sto → Prop) (L69 : Int32 × Int32 → Sto → Prop) (t : Int32 × Int32) (σ : Sto) : Prop := (sK σ a0 = 12 ∧ (∀ x2 : Int32, x2 = sI σ a0 14 → ((x2 ≤ t.2 → (∀ x5 : Int32, x5 = sI σ a0 6 → (∃ b7 : Nat, sP σ a0 5 = some b7 ∧ (sK σ b7 = 14 ∧ (vp_in x5 (sN σ b7) ∧ (∀ x11 : Int32, x11 = sI (stI σ b7 x5.toNatClampNeg t.1) a0 6 → (∀ x13 : Int32, x13 = x11 + (1 : Int32) → b_X12_post_121 a0  Q  (stI (stI σ b7 x5.toNatClampNeg t.1) a0 6 x13)))))))) ∧ (¬ x2 ≤ t.2 → (∃ b15 : Nat, sP σ a0 13 = some b15 ∧ (sK σ b15 = 14 ∧ (vp_in t.2 (sN σ b15) ∧ (∀ x19 : Int32, x19 = sI σ b15 t.2.toNatClampNeg → (∃ b21 : Nat, sP σ a0 10 = some b21 ∧ (sK σ b21 = 14 ∧ (vp_in (((640 : Int32) * t.1) + t.2) (sN σ b21) ∧ (∀ x25 : Int32, x25 = t.2 + (1 : Int32) → L69 (t.1, x25) (stI σ b21 (((640 : Int32) * t.1) + t.2).toNatClampNeg x19)))))))))))))
set_option maxHeartbeats 4000000 in
set_option maxRecDepth 100000 in
theorem t_X12_post_69 {p : Program} {l : Launch} {e : Env} {s : State} {m : MethodId} {args : Array Value} {below : List Frame} {meth : Method} {c : Code} {D : va_G} {cy : Nat → ClassId} {A : Nat → Prop} {a0 : Nat} {Q : Sto → Prop} {L69 : Int32 × Int32 → Sto → Prop} (C : Cx p s m args meth c D cy A cX12_post 3 RX12) (hr : meth.sig.returnType = none) (hnm : meth.name = yX12_post.name) (hL69 : ∀ (t : Int32 × Int32) (σ : Sto), L69 t σ → ∀ ls : Array Slot, lv_has ls 3 [(0, .ref a0), (1, .int t.1), (2, .int t.2)] → Xw p l e rm_X12_post s m args below meth c D cy A σ 0 0 (MQ below (Qst D cy A (PsV Q)) args s rm_X12_post.cells rm_X12_post.slots A) (F0 m 69 ls [])) : ∀ (t : Int32 × Int32) (σ : Sto), f_X12_post_69 a0  Q L69 t σ → ∀ ls : Array Slot, lv_has ls 3 [(0, .ref a0), (1, .int t.1), (2, .int t.2)] → Xw p l e rm_X12_post s m args below meth c D cy A σ 0 0 (MQ below (Qst D cy A (PsV Q)) args s rm_X12_post.cells rm_X12_post.slots A) (F0 m 69 ls []) := by
  intro t σ h ls hl
  unfold f_X12_post_69 at h
  refine x_iload_n C dX12_post_69 rfl (lv_at hl 2 rfl) ?_
  refine x_aload_n C dX12_post_70 rfl (lv_at hl 0 rfl) ?_
  obtain ⟨g1, h⟩ := h
  refine x_getI C fl_RX12_274 g1 dX12_post_71 ?_
  refine x_topi (fun x2 e3 => ?_)
  have h := h x2 e3
  refine x_icmp_ge (tgt := 101) C dX12_post_74 (by decide) (fun c4 => ?_) (fun c4 => ?_)
  · have h := h.1 c4
    refine x_aload_n C dX12_post_101 rfl (lv_at hl 0 rfl) ?_
    refine x_getP C fl_RX12_9 g1 dX12_post_102 ?_
    refine x_aload_n C dX12_post_105 rfl (lv_at hl 0 rfl) ?_
    refine x_getI C fl_RX12_281 g1 dX12_post_106 ?_
    refine x_topi (fun x5 e6 => ?_)
    have h := h x5 e6
    refine x_iload_n C dX12_post_109 rfl (lv_at hl 1 rfl) ?_
    obtain ⟨b7, g8, h⟩ := h
    refine x_nn2 g8 ?_
    obtain ⟨g9, h⟩ := h
    obtain ⟨g10, h⟩ := h
    refine x_iast C g9 g10 dX12_post_110 ?_
    refine x_aload_n C dX12_post_111 rfl (lv_at hl 0 rfl) ?_
    refine x_dup C dX12_post_112 (rfl) ?_
    refine x_getI C fl_RX12_281 g1 dX12_post_113 ?_
    refine x_topi (fun x11 e12 => ?_)
    have h := h x11 e12
    refine x_iconst (v := 1) C dX12_post_116 (by decide) ?_
    refine x_iadd C dX12_post_117 ?_
    refine x_topi (fun x13 e14 => ?_)
    have h := h x13 e14
    refine x_putI C fl_RX12_281 (Or.inl rfl) g1 dX12_post_118 ?_
    exact t_X12_post_121 C hr hnm   _ h ls (lv_sub hl [0] rfl)
  · have h := h.2 c4
    refine x_aload_n C dX12_post_77 rfl (lv_at hl 0 rfl) ?_
    refine x_getP C fl_RX12_18 g1 dX12_post_78 ?_
    refine x_sipush (v := 640) C dX12_post_81 (by decide) ?_
    refine x_iload_n C dX12_post_84 rfl (lv_at hl 1 rfl) ?_
    refine x_imul C dX12_post_85 ?_
    refine x_iload_n C dX12_post_86 rfl (lv_at hl 2 rfl) ?_
    refine x_iadd C dX12_post_87 ?_
    refine x_aload_n C dX12_post_88 rfl (lv_at hl 0 rfl) ?_
    refine x_getP C fl_RX12_27 g1 dX12_post_89 ?_
    refine x_iload_n C dX12_post_92 rfl (lv_at hl 2 rfl) ?_
    obtain ⟨b15, g16, h⟩ := h
    refine x_nn1 g16 ?_
    obtain ⟨g17, h⟩ := h
    obtain ⟨g18, h⟩ := h
    refine x_iald C g17 g18 dX12_post_93 ?_
    refine x_topi (fun x19 e20 => ?_)
    have h := h x19 e20
    obtain ⟨b21, g22, h⟩ := h
    refine x_nn2 g22 ?_
    obtain ⟨g23, h⟩ := h
    obtain ⟨g24, h⟩ := h
    refine x_iast C g23 g24 dX12_post_94 ?_
    obtain ⟨x25, e26⟩ : ∃ z : Int32, z = t.2 + (1 : Int32) := ⟨_, rfl⟩
    have h := h x25 e26
    refine x_iinc (v := x25) (lv' := [(2, .int x25), (0, .ref a0), (1, .int t.1)]) C dX12_post_95 hl (q0 := 2) rfl (by rw [e26]; rfl) (by decide) (by first | rfl | simp [vrc, cat_i, cat_r, cat_l]) (fun ls hl => ?_)
    refine x_goto (tgt := 69) C dX12_post_98 (by decide) ?_
    exact hL69 (t.1, x25) _ h ls (lv_sub hl [1, 2, 0] rfl)
def f_X12_post_25 (a0 : Nat)  (Q : Sto → Prop) (L25 : Int32 → Sto → Prop) (t : Int32) (σ : Sto) : Prop := (sK σ a0 = 12 ∧ (∃ b2 : Nat, sP σ a0 9 = some b2 ∧ (sK σ b2 = 16 ∧ (vp_in t (sN σ b2) ∧ (∀ x6 : Int32, x6 = sI σ b2 t.toNatClampNeg → ((x6 = 0 → (vp_in t (sN σ b2) ∧ (∀ x10 : Int32, x10 = sI (stI σ b2 t.toNatClampNeg (vp_nar .boolean (1 : Int32))) a0 7 → (∃ b12 : Nat, sP σ a0 12 = some b12 ∧ (sK σ b12 = 14 ∧ (vp_in t (sN σ b12) ∧ (∀ x16 : Int32, x16 = sI (stI (stI σ b2 t.toNatClampNeg (vp_nar .boolean (1 : Int32))) b12 t.toNatClampNeg x10) a0 14 → (∃ b18 : Nat, sP σ a0 11 = some b18 ∧ (sK σ b18 = 14 ∧ (vp_in t (sN σ b18) ∧ LF (f_X12_post_69 a0  Q) (t, (0 : Int32)) (stI (stI (stI σ b2 t.toNatClampNeg (vp_nar .boolean (1 : Int32))) b12 t.toNatClampNeg x10) b18 t.toNatClampNeg x16))))))))))) ∧ (¬ x6 = 0 → (∀ x22 : Int32, x22 = t + (1 : Int32) → L25 (x22) σ))))))))
set_option maxHeartbeats 4000000 in
set_option maxRecDepth 100000 in
theorem t_X12_post_25 {p : Program} {l : Launch} {e : Env} {s : State} {m : MethodId} {args : Array Value} {below : List Frame} {meth : Method} {c : Code} {D : va_G} {cy : Nat → ClassId} {A : Nat → Prop} {a0 : Nat} {Q : Sto → Prop} {L25 : Int32 → Sto → Prop} (C : Cx p s m args meth c D cy A cX12_post 3 RX12) (hr : meth.sig.returnType = none) (hnm : meth.name = yX12_post.name) (hL25 : ∀ (t : Int32) (σ : Sto), L25 t σ → ∀ ls : Array Slot, lv_has ls 3 [(0, .ref a0), (1, .int t)] → Xw p l e rm_X12_post s m args below meth c D cy A σ 0 0 (MQ below (Qst D cy A (PsV Q)) args s rm_X12_post.cells rm_X12_post.slots A) (F0 m 25 ls [])) : ∀ (t : Int32) (σ : Sto), f_X12_post_25 a0  Q L25 t σ → ∀ ls : Array Slot, lv_has ls 3 [(0, .ref a0), (1, .int t)] → Xw p l e rm_X12_post s m args below meth c D cy A σ 0 0 (MQ below (Qst D cy A (PsV Q)) args s rm_X12_post.cells rm_X12_post.slots A) (F0 m 25 ls []) := by
  intro t σ h ls hl
  unfold f_X12_post_25 at h
  refine x_aload_n C dX12_post_25 rfl (lv_at hl 0 rfl) ?_
  obtain ⟨g1, h⟩ := h
  refine x_getP C fl_RX12_13 g1 dX12_post_26 ?_
  refine x_iload_n C dX12_post_29 rfl (lv_at hl 1 rfl) ?_
  obtain ⟨b2, g3, h⟩ := h
  refine x_nn1 g3 ?_
  obtain ⟨g4, h⟩ := h
  obtain ⟨g5, h⟩ := h
  refine x_zald C g4 g5 dX12_post_30 ?_
  refine x_topi (fun x6 e7 => ?_)
  have h := h x6 e7
  refine x_if_eq (tgt := 40) C dX12_post_31 (by decide) (fun c8 => ?_) (fun c8 => ?_)
  · have h := h.1 c8
    refine x_aload_n C dX12_post_40 rfl (lv_at hl 0 rfl) ?_
    refine x_getP C fl_RX12_13 g1 dX12_post_41 ?_
    refine x_iload_n C dX12_post_44 rfl (lv_at hl 1 rfl) ?_
    refine x_iconst (v := 1) C dX12_post_45 (by decide) ?_
    refine x_nn2 g3 ?_
    obtain ⟨g9, h⟩ := h
    refine x_zast C g4 g9 dX12_post_46 ?_
    refine x_aload_n C dX12_post_47 rfl (lv_at hl 0 rfl) ?_
    refine x_getP C fl_RX12_24 g1 dX12_post_48 ?_
    refine x_iload_n C dX12_post_51 rfl (lv_at hl 1 rfl) ?_
    refine x_aload_n C dX12_post_52 rfl (lv_at hl 0 rfl) ?_
    refine x_getI C fl_RX12_287 g1 dX12_post_53 ?_
    refine x_topi (fun x10 e11 => ?_)
    have h := h x10 e11
    obtain ⟨b12, g13, h⟩ := h
    refine x_nn2 g13 ?_
    obtain ⟨g14, h⟩ := h
    obtain ⟨g15, h⟩ := h
    refine x_iast C g14 g15 dX12_post_56 ?_
    refine x_aload_n C dX12_post_57 rfl (lv_at hl 0 rfl) ?_
    refine x_getP C fl_RX12_21 g1 dX12_post_58 ?_
    refine x_iload_n C dX12_post_61 rfl (lv_at hl 1 rfl) ?_
    refine x_aload_n C dX12_post_62 rfl (lv_at hl 0 rfl) ?_
    refine x_getI C fl_RX12_274 g1 dX12_post_63 ?_
    refine x_topi (fun x16 e17 => ?_)
    have h := h x16 e17
    obtain ⟨b18, g19, h⟩ := h
    refine x_nn2 g19 ?_
    obtain ⟨g20, h⟩ := h
    obtain ⟨g21, h⟩ := h
    refine x_iast C g20 g21 dX12_post_66 ?_
    refine x_iconst (v := 0) C dX12_post_67 (by decide) ?_
    refine x_istore_n (i := 2) (lv' := [(2, .int (0 : Int32)), (0, .ref a0), (1, .int t)]) C dX12_post_68 rfl hl (by decide) (by first | rfl | simp [vrc, cat_i, cat_r, cat_l]) (fun ls hl => ?_)
    exact h (fun t σ => ∀ ls : Array Slot, lv_has ls 3 [(0, .ref a0), (1, .int t.1), (2, .int t.2)] → Xw p l e rm_X12_post s m args below meth c D cy A σ 0 0 (MQ below (Qst D cy A (PsV Q)) args s rm_X12_post.cells rm_X12_post.slots A) (F0 m 69 ls [])) (t_X12_post_69 C hr hnm  (fun t σ h => h)) ls (lv_sub hl [1, 2, 0] rfl)
  · have h := h.2 c8
    obtain ⟨x22, e23⟩ : ∃ z : Int32, z = t + (1 : Int32) := ⟨_, rfl⟩
    have h := h x22 e23
    refine x_iinc (v := x22) (lv' := [(1, .int x22), (0, .ref a0)]) C dX12_post_34 hl (q0 := 1) rfl (by rw [e23]; rfl) (by decide) (by first | rfl | simp [vrc, cat_i, cat_r, cat_l]) (fun ls hl => ?_)
    refine x_goto (tgt := 25) C dX12_post_37 (by decide) ?_
    exact hL25 (x22) _ h ls (lv_sub hl [1, 0] rfl)
def wp_X12_post (a0 : Nat)  (σ : Sto) (Q : Sto → Prop) : Prop := (sK σ a0 = 12 ∧ (∀ x2 : Int32, x2 = sI σ a0 6 → ((¬ x2 = (200 : Int32) → LF (f_X12_post_25 a0  Q) ((0 : Int32)) σ) ∧ (x2 = (200 : Int32) → (∀ x5 : Int32, x5 = sI σ a0 8 → (∀ x7 : Int32, x7 = x5 + (1 : Int32) → b_X12_post_121 a0  Q  (stI σ a0 8 x7)))))))
set_option maxHeartbeats 4000000 in
set_option maxRecDepth 100000 in
theorem c_X12_post (l : Launch) (D : va_G) (cy : Nat → ClassId) (a0 : Nat)  (σ : Sto) (Q : Sto → Prop) (h : wp_X12_post a0  σ Q) : Mt l D cy yX12_post cX12_post 3 none rm_X12_post [.ref a0] σ (PsV Q) := by
  unfold wp_X12_post at h
  refine mt_of (by decide +kernel) (Nat.le_of_ble_eq_true rfl) ?_
  intro p e s m args below meth c A ls C hr hnm hl
  have C : Cx p s m args meth c D cy A cX12_post 3 RX12 := C
  have hl : lv_has ls 3 [(0, .ref a0)] := hl
  refine x_aload_n C dX12_post_0 rfl (lv_at hl 0 rfl) ?_
  obtain ⟨g1, h⟩ := h
  refine x_getI C fl_RX12_281 g1 dX12_post_1 ?_
  refine x_topi (fun x2 e3 => ?_)
  have h := h x2 e3
  refine x_sipush (v := 200) C dX12_post_4 (by decide) ?_
  refine x_icmp_ne (tgt := 23) C dX12_post_7 (by decide) (fun c4 => ?_) (fun c4 => ?_)
  · have h := h.1 c4
    refine x_iconst (v := 0) C dX12_post_23 (by decide) ?_
    refine x_istore_n (i := 1) (lv' := [(1, .int (0 : Int32)), (0, .ref a0)]) C dX12_post_24 rfl hl (by decide) (by first | rfl | simp [vrc, cat_i, cat_r, cat_l]) (fun ls hl => ?_)
    exact h (fun t σ => ∀ ls : Array Slot, lv_has ls 3 [(0, .ref a0), (1, .int t)] → Xw p l e rm_X12_post s m args below meth c D cy A σ 0 0 (MQ below (Qst D cy A (PsV Q)) args s rm_X12_post.cells rm_X12_post.slots A) (F0 m 25 ls [])) (t_X12_post_25 C hr hnm  (fun t σ h => h)) ls (lv_sub hl [1, 0] rfl)
  · have h := h.2 c4
    refine x_aload_n C dX12_post_10 rfl (lv_at hl 0 rfl) ?_
    refine x_dup C dX12_post_11 (rfl) ?_
    refine x_getI C fl_RX12_284 g1 dX12_post_12 ?_
    refine x_topi (fun x5 e6 => ?_)
    have h := h x5 e6
    refine x_iconst (v := 1) C dX12_post_15 (by decide) ?_
    refine x_iadd C dX12_post_16 ?_
    refine x_topi (fun x7 e8 => ?_)
    have h := h x7 e8
    refine x_putI C fl_RX12_284 (Or.inl rfl) g1 dX12_post_17 ?_
    refine x_goto (tgt := 121) C dX12_post_20 (by decide) ?_
    exact t_X12_post_121 C hr hnm   _ h ls (lv_sub hl [0] rfl)
theorem dX12_tell_0 : decode cX12_tell 0 = .ok (.aload_n 0, 1) := by decide +kernel
theorem dX12_tell_1 : decode cX12_tell 1 = .ok (.iload_n 1, 1) := by decide +kernel
theorem dX12_tell_2 : decode cX12_tell 2 = .ok (.iload_n 2, 1) := by decide +kernel
theorem dX12_tell_3 : decode cX12_tell 3 = .ok (.iload_n 3, 1) := by decide +kernel
theorem dX12_tell_4 : decode cX12_tell 4 = .ok (.invokevirtual 290, 3) := by decide +kernel
theorem dX12_tell_7 : decode cX12_tell 7 = .ok (.aload_n 0, 1) := by decide +kernel
theorem dX12_tell_8 : decode cX12_tell 8 = .ok (.iload_n 2, 1) := by decide +kernel
theorem dX12_tell_9 : decode cX12_tell 9 = .ok (.invokevirtual 294, 3) := by decide +kernel
theorem dX12_tell_12 : decode cX12_tell 12 = .ok (.iload 4, 2) := by decide +kernel
theorem dX12_tell_14 : decode cX12_tell 14 = .ok (.ifCond .lt 9, 3) := by decide +kernel
theorem dX12_tell_17 : decode cX12_tell 17 = .ok (.aload_n 0, 1) := by decide +kernel
theorem dX12_tell_18 : decode cX12_tell 18 = .ok (.iload 4, 2) := by decide +kernel
theorem dX12_tell_20 : decode cX12_tell 20 = .ok (.invokevirtual 277, 3) := by decide +kernel
theorem dX12_tell_23 : decode cX12_tell 23 = .ok (.aload_n 0, 1) := by decide +kernel
theorem dX12_tell_24 : decode cX12_tell 24 = .ok (.invokevirtual 297, 3) := by decide +kernel
theorem dX12_tell_27 : decode cX12_tell 27 = .ok (.return_, 1) := by decide +kernel
abbrev rm_X12_tell : Room := { frames := 2, cells := 0, slots := 0, locals := 42 }
def b_X12_tell_23 (a0 : Nat)  (Q : Sto → Prop)  (σ : Sto) : Prop := (sK σ a0 = 12 ∧ (wp_X12_post a0  σ (fun (σ2 : Sto) => Q σ2)))
set_option maxHeartbeats 4000000 in
set_option maxRecDepth 100000 in
theorem t_X12_tell_23 {p : Program} {l : Launch} {e : Env} {s : State} {m : MethodId} {args : Array Value} {below : List Frame} {meth : Method} {c : Code} {D : va_G} {cy : Nat → ClassId} {A : Nat → Prop} {a0 : Nat} {Q : Sto → Prop} (C : Cx p s m args meth c D cy A cX12_tell 5 RX12) (hr : meth.sig.returnType = none) (hnm : meth.name = yX12_tell.name)  (σ : Sto) (h : b_X12_tell_23 a0  Q  σ) (ls : Array Slot) (hl : lv_has ls 5 [(0, .ref a0)]) : Xw p l e rm_X12_tell s m args below meth c D cy A σ 0 0 (MQ below (Qst D cy A (PsV Q)) args s rm_X12_tell.cells rm_X12_tell.slots A) (F0 m 23 ls []) := by
  unfold b_X12_tell_23 at h
  refine x_aload_n C dX12_tell_23 rfl (lv_at hl 0 rfl) ?_
  obtain ⟨g1, h⟩ := h
  refine x_callV (rm := rm_X12_post) (rest := []) (As := []) C cy_RX12_297 g1 (by decide) (by decide) rfl rfl (Nat.le_of_ble_eq_true rfl) hl.1 dX12_tell_24 (c_X12_post l D cy a0  σ _ h) (ks_v (fun σ2 h => ?_))
  exact x_vret C hr dX12_tell_27 ⟨rfl, h⟩
def wp_X12_tell (a0 : Nat) (p1 : Int32) (p2 : Int32) (p3 : Int32) (p4 : Int32) (σ : Sto) (Q : Sto → Prop) : Prop := (sK σ a0 = 12 ∧ (wp_X12_begin a0 p1 p2 p3 σ (fun (σ2 : Sto) => (sK σ2 a0 = 12 ∧ (wp_X12_addView a0 p2 σ2 (fun (σ4 : Sto) => ((p4 < 0 → b_X12_tell_23 a0  Q  σ4) ∧ (¬ p4 < 0 → (sK σ4 a0 = 12 ∧ (wp_X12_add a0 p4 σ4 (fun (σ7 : Sto) => b_X12_tell_23 a0  Q  σ7)))))))))))
set_option maxHeartbeats 4000000 in
set_option maxRecDepth 100000 in
theorem c_X12_tell (l : Launch) (D : va_G) (cy : Nat → ClassId) (a0 : Nat) (p1 : Int32) (p2 : Int32) (p3 : Int32) (p4 : Int32) (σ : Sto) (Q : Sto → Prop) (h : wp_X12_tell a0 p1 p2 p3 p4 σ Q) : Mt l D cy yX12_tell cX12_tell 5 none rm_X12_tell [.ref a0, .int p1, .int p2, .int p3, .int p4] σ (PsV Q) := by
  unfold wp_X12_tell at h
  refine mt_of (by decide +kernel) (Nat.le_of_ble_eq_true rfl) ?_
  intro p e s m args below meth c A ls C hr hnm hl
  have C : Cx p s m args meth c D cy A cX12_tell 5 RX12 := C
  have hl : lv_has ls 5 [(0, .ref a0), (1, .int p1), (2, .int p2), (3, .int p3), (4, .int p4)] := hl
  refine x_aload_n C dX12_tell_0 rfl (lv_at hl 0 rfl) ?_
  refine x_iload_n C dX12_tell_1 rfl (lv_at hl 1 rfl) ?_
  refine x_iload_n C dX12_tell_2 rfl (lv_at hl 2 rfl) ?_
  refine x_iload_n C dX12_tell_3 rfl (lv_at hl 3 rfl) ?_
  obtain ⟨g1, h⟩ := h
  refine x_callV (rm := rm_X12_begin) (rest := []) (As := [.int p1, .int p2, .int p3]) C cy_RX12_290 g1 (by decide) (by decide) rfl rfl (Nat.le_of_ble_eq_true rfl) hl.1 dX12_tell_4 (c_X12_begin l D cy a0 p1 p2 p3 σ _ h) (ks_v (fun σ2 h => ?_))
  refine x_aload_n C dX12_tell_7 rfl (lv_at hl 0 rfl) ?_
  refine x_iload_n C dX12_tell_8 rfl (lv_at hl 2 rfl) ?_
  obtain ⟨g3, h⟩ := h
  refine x_callV (rm := rm_X12_addView) (rest := []) (As := [.int p2]) C cy_RX12_294 g3 (by decide) (by decide) rfl rfl (Nat.le_of_ble_eq_true rfl) hl.1 dX12_tell_9 (c_X12_addView l D cy a0 p2 σ2 _ h) (ks_v (fun σ4 h => ?_))
  refine x_iload C dX12_tell_12 (lv_at hl 4 rfl) ?_
  refine x_if_lt (tgt := 23) C dX12_tell_14 (by decide) (fun c5 => ?_) (fun c5 => ?_)
  · have h := h.1 c5
    exact t_X12_tell_23 C hr hnm   _ h ls (lv_sub hl [0] rfl)
  · have h := h.2 c5
    refine x_aload_n C dX12_tell_17 rfl (lv_at hl 0 rfl) ?_
    refine x_iload C dX12_tell_18 (lv_at hl 4 rfl) ?_
    obtain ⟨g6, h⟩ := h
    refine x_callV (rm := rm_X12_add) (rest := []) (As := [.int p4]) C cy_RX12_277 g6 (by decide) (by decide) rfl rfl (Nat.le_of_ble_eq_true rfl) hl.1 dX12_tell_20 (c_X12_add l D cy a0 p4 σ4 _ h) (ks_v (fun σ7 h => ?_))
    exact t_X12_tell_23 C hr hnm   _ h ls (lv_sub hl [0] rfl)
theorem dX12_tellOthers_0 : decode cX12_tellOthers 0 = .ok (.iconst 0, 1) := by decide +kernel
theorem dX12_tellOthers_1 : decode cX12_tellOthers 1 = .ok (.istore 4, 2) := by decide +kernel
theorem dX12_tellOthers_3 : decode cX12_tellOthers 3 = .ok (.iload 4, 2) := by decide +kernel
theorem dX12_tellOthers_5 : decode cX12_tellOthers 5 = .ok (.aload_n 0, 1) := by decide +kernel
theorem dX12_tellOthers_6 : decode cX12_tellOthers 6 = .ok (.getfield 258, 3) := by decide +kernel
theorem dX12_tellOthers_9 : decode cX12_tellOthers 9 = .ok (.if_icmp .ge 24, 3) := by decide +kernel
theorem dX12_tellOthers_12 : decode cX12_tellOthers 12 = .ok (.iload 4, 2) := by decide +kernel
theorem dX12_tellOthers_14 : decode cX12_tellOthers 14 = .ok (.iload_n 2, 1) := by decide +kernel
theorem dX12_tellOthers_15 : decode cX12_tellOthers 15 = .ok (.if_icmp .eq 12, 3) := by decide +kernel
theorem dX12_tellOthers_18 : decode cX12_tellOthers 18 = .ok (.aload_n 0, 1) := by decide +kernel
theorem dX12_tellOthers_19 : decode cX12_tellOthers 19 = .ok (.iload_n 1, 1) := by decide +kernel
theorem dX12_tellOthers_20 : decode cX12_tellOthers 20 = .ok (.iload_n 2, 1) := by decide +kernel
theorem dX12_tellOthers_21 : decode cX12_tellOthers 21 = .ok (.iload 4, 2) := by decide +kernel
theorem dX12_tellOthers_23 : decode cX12_tellOthers 23 = .ok (.iload_n 3, 1) := by decide +kernel
theorem dX12_tellOthers_24 : decode cX12_tellOthers 24 = .ok (.invokevirtual 300, 3) := by decide +kernel
theorem dX12_tellOthers_27 : decode cX12_tellOthers 27 = .ok (.iinc 4 1, 3) := by decide +kernel
theorem dX12_tellOthers_30 : decode cX12_tellOthers 30 = .ok (.goto (-27), 3) := by decide +kernel
theorem dX12_tellOthers_33 : decode cX12_tellOthers 33 = .ok (.return_, 1) := by decide +kernel
abbrev rm_X12_tellOthers : Room := { frames := 3, cells := 0, slots := 0, locals := 66 }
def b_X12_tellOthers_27 (a0 : Nat) (L3 : Int32 × Int32 × Int32 × Int32 → Sto → Prop) (Q : Sto → Prop) (p1 : Int32) (p2 : Int32) (p3 : Int32) (p4 : Int32) (σ : Sto) : Prop := (∀ x1 : Int32, x1 = p4 + (1 : Int32) → L3 (p1, p2, p3, x1) σ)
set_option maxHeartbeats 4000000 in
set_option maxRecDepth 100000 in
theorem t_X12_tellOthers_27 {p : Program} {l : Launch} {e : Env} {s : State} {m : MethodId} {args : Array Value} {below : List Frame} {meth : Method} {c : Code} {D : va_G} {cy : Nat → ClassId} {A : Nat → Prop} {a0 : Nat} {L3 : Int32 × Int32 × Int32 × Int32 → Sto → Prop} {Q : Sto → Prop} (C : Cx p s m args meth c D cy A cX12_tellOthers 5 RX12) (hr : meth.sig.returnType = none) (hnm : meth.name = yX12_tellOthers.name) (hL3 : ∀ (t : Int32 × Int32 × Int32 × Int32) (σ : Sto), L3 t σ → ∀ ls : Array Slot, lv_has ls 5 [(0, .ref a0), (1, .int t.1), (2, .int t.2.1), (3, .int t.2.2.1), (4, .int t.2.2.2)] → Xw p l e rm_X12_tellOthers s m args below meth c D cy A σ 0 0 (MQ below (Qst D cy A (PsV Q)) args s rm_X12_tellOthers.cells rm_X12_tellOthers.slots A) (F0 m 3 ls [])) (p1 : Int32) (p2 : Int32) (p3 : Int32) (p4 : Int32) (σ : Sto) (h : b_X12_tellOthers_27 a0 L3 Q p1 p2 p3 p4 σ) (ls : Array Slot) (hl : lv_has ls 5 [(0, .ref a0), (1, .int p1), (2, .int p2), (3, .int p3), (4, .int p4)]) : Xw p l e rm_X12_tellOthers s m args below meth c D cy A σ 0 0 (MQ below (Qst D cy A (PsV Q)) args s rm_X12_tellOthers.cells rm_X12_tellOthers.slots A) (F0 m 27 ls []) := by
  unfold b_X12_tellOthers_27 at h
  obtain ⟨x1, e2⟩ : ∃ z : Int32, z = p4 + (1 : Int32) := ⟨_, rfl⟩
  have h := h x1 e2
  refine x_iinc (v := x1) (lv' := [(4, .int x1), (0, .ref a0), (1, .int p1), (2, .int p2), (3, .int p3)]) C dX12_tellOthers_27 hl (q0 := 4) rfl (by rw [e2]; rfl) (by decide) (by first | rfl | simp [vrc, cat_i, cat_r, cat_l]) (fun ls hl => ?_)
  refine x_goto (tgt := 3) C dX12_tellOthers_30 (by decide) ?_
  exact hL3 (p1, p2, p3, x1) _ h ls (lv_sub hl [1, 2, 3, 4, 0] rfl)
def f_X12_tellOthers_3 (a0 : Nat)  (Q : Sto → Prop) (L3 : Int32 × Int32 × Int32 × Int32 → Sto → Prop) (t : Int32 × Int32 × Int32 × Int32) (σ : Sto) : Prop := (sK σ a0 = 12 ∧ (∀ x2 : Int32, x2 = sI σ a0 1 → ((x2 ≤ t.2.2.2 → Q σ) ∧ (¬ x2 ≤ t.2.2.2 → ((t.2.2.2 = t.2.1 → b_X12_tellOthers_27 a0 L3 Q t.1 t.2.1 t.2.2.1 t.2.2.2 σ) ∧ (¬ t.2.2.2 = t.2.1 → (wp_X12_tell a0 t.1 t.2.1 t.2.2.2 t.2.2.1 σ (fun (σ6 : Sto) => b_X12_tellOthers_27 a0 L3 Q t.1 t.2.1 t.2.2.1 t.2.2.2 σ6))))))))
set_option maxHeartbeats 4000000 in
set_option maxRecDepth 100000 in
theorem t_X12_tellOthers_3 {p : Program} {l : Launch} {e : Env} {s : State} {m : MethodId} {args : Array Value} {below : List Frame} {meth : Method} {c : Code} {D : va_G} {cy : Nat → ClassId} {A : Nat → Prop} {a0 : Nat} {Q : Sto → Prop} {L3 : Int32 × Int32 × Int32 × Int32 → Sto → Prop} (C : Cx p s m args meth c D cy A cX12_tellOthers 5 RX12) (hr : meth.sig.returnType = none) (hnm : meth.name = yX12_tellOthers.name) (hL3 : ∀ (t : Int32 × Int32 × Int32 × Int32) (σ : Sto), L3 t σ → ∀ ls : Array Slot, lv_has ls 5 [(0, .ref a0), (1, .int t.1), (2, .int t.2.1), (3, .int t.2.2.1), (4, .int t.2.2.2)] → Xw p l e rm_X12_tellOthers s m args below meth c D cy A σ 0 0 (MQ below (Qst D cy A (PsV Q)) args s rm_X12_tellOthers.cells rm_X12_tellOthers.slots A) (F0 m 3 ls [])) : ∀ (t : Int32 × Int32 × Int32 × Int32) (σ : Sto), f_X12_tellOthers_3 a0  Q L3 t σ → ∀ ls : Array Slot, lv_has ls 5 [(0, .ref a0), (1, .int t.1), (2, .int t.2.1), (3, .int t.2.2.1), (4, .int t.2.2.2)] → Xw p l e rm_X12_tellOthers s m args below meth c D cy A σ 0 0 (MQ below (Qst D cy A (PsV Q)) args s rm_X12_tellOthers.cells rm_X12_tellOthers.slots A) (F0 m 3 ls []) := by
  intro t σ h ls hl
  unfold f_X12_tellOthers_3 at h
  refine x_iload C dX12_tellOthers_3 (lv_at hl 4 rfl) ?_
  refine x_aload_n C dX12_tellOthers_5 rfl (lv_at hl 0 rfl) ?_
  obtain ⟨g1, h⟩ := h
  refine x_getI C fl_RX12_258 g1 dX12_tellOthers_6 ?_
  refine x_topi (fun x2 e3 => ?_)
  have h := h x2 e3
  refine x_icmp_ge (tgt := 33) C dX12_tellOthers_9 (by decide) (fun c4 => ?_) (fun c4 => ?_)
  · have h := h.1 c4
    exact x_vret C hr dX12_tellOthers_33 ⟨rfl, h⟩
  · have h := h.2 c4
    refine x_iload C dX12_tellOthers_12 (lv_at hl 4 rfl) ?_
    refine x_iload_n C dX12_tellOthers_14 rfl (lv_at hl 2 rfl) ?_
    refine x_icmp_eq (tgt := 27) C dX12_tellOthers_15 (by decide) (fun c5 => ?_) (fun c5 => ?_)
    · have h := h.1 c5
      exact t_X12_tellOthers_27 C hr hnm hL3 t.1 t.2.1 t.2.2.1 t.2.2.2 _ h ls (lv_sub hl [0, 1, 2, 3, 4] rfl)
    · have h := h.2 c5
      refine x_aload_n C dX12_tellOthers_18 rfl (lv_at hl 0 rfl) ?_
      refine x_iload_n C dX12_tellOthers_19 rfl (lv_at hl 1 rfl) ?_
      refine x_iload_n C dX12_tellOthers_20 rfl (lv_at hl 2 rfl) ?_
      refine x_iload C dX12_tellOthers_21 (lv_at hl 4 rfl) ?_
      refine x_iload_n C dX12_tellOthers_23 rfl (lv_at hl 3 rfl) ?_
      refine x_callV (rm := rm_X12_tell) (rest := []) (As := [.int t.1, .int t.2.1, .int t.2.2.2, .int t.2.2.1]) C cy_RX12_300 g1 (by decide) (by decide) rfl rfl (Nat.le_of_ble_eq_true rfl) hl.1 dX12_tellOthers_24 (c_X12_tell l D cy a0 t.1 t.2.1 t.2.2.2 t.2.2.1 σ _ h) (ks_v (fun σ6 h => ?_))
      exact t_X12_tellOthers_27 C hr hnm hL3 t.1 t.2.1 t.2.2.1 t.2.2.2 _ h ls (lv_sub hl [0, 1, 2, 3, 4] rfl)
def wp_X12_tellOthers (a0 : Nat) (p1 : Int32) (p2 : Int32) (p3 : Int32) (σ : Sto) (Q : Sto → Prop) : Prop := LF (f_X12_tellOthers_3 a0  Q) (p1, p2, p3, (0 : Int32)) σ
set_option maxHeartbeats 4000000 in
set_option maxRecDepth 100000 in
theorem c_X12_tellOthers (l : Launch) (D : va_G) (cy : Nat → ClassId) (a0 : Nat) (p1 : Int32) (p2 : Int32) (p3 : Int32) (σ : Sto) (Q : Sto → Prop) (h : wp_X12_tellOthers a0 p1 p2 p3 σ Q) : Mt l D cy yX12_tellOthers cX12_tellOthers 5 none rm_X12_tellOthers [.ref a0, .int p1, .int p2, .int p3] σ (PsV Q) := by
  unfold wp_X12_tellOthers at h
  refine mt_of (by decide +kernel) (Nat.le_of_ble_eq_true rfl) ?_
  intro p e s m args below meth c A ls C hr hnm hl
  have C : Cx p s m args meth c D cy A cX12_tellOthers 5 RX12 := C
  have hl : lv_has ls 5 [(0, .ref a0), (1, .int p1), (2, .int p2), (3, .int p3)] := hl
  refine x_iconst (v := 0) C dX12_tellOthers_0 (by decide) ?_
  refine x_istore (i := 4) (lv' := [(4, .int (0 : Int32)), (0, .ref a0), (1, .int p1), (2, .int p2), (3, .int p3)]) C dX12_tellOthers_1 hl (by decide) (by first | rfl | simp [vrc, cat_i, cat_r, cat_l]) (fun ls hl => ?_)
  exact h (fun t σ => ∀ ls : Array Slot, lv_has ls 5 [(0, .ref a0), (1, .int t.1), (2, .int t.2.1), (3, .int t.2.2.1), (4, .int t.2.2.2)] → Xw p l e rm_X12_tellOthers s m args below meth c D cy A σ 0 0 (MQ below (Qst D cy A (PsV Q)) args s rm_X12_tellOthers.cells rm_X12_tellOthers.slots A) (F0 m 3 ls [])) (t_X12_tellOthers_3 C hr hnm  (fun t σ h => h)) ls (lv_sub hl [1, 2, 3, 4, 0] rfl)
theorem dX12_sendStart_0 : decode cX12_sendStart 0 = .ok (.aload_n 0, 1) := by decide +kernel
theorem dX12_sendStart_1 : decode cX12_sendStart 1 = .ok (.bipush 10, 2) := by decide +kernel
theorem dX12_sendStart_3 : decode cX12_sendStart 3 = .ok (.iload_n 1, 1) := by decide +kernel
theorem dX12_sendStart_4 : decode cX12_sendStart 4 = .ok (.iload_n 2, 1) := by decide +kernel
theorem dX12_sendStart_5 : decode cX12_sendStart 5 = .ok (.invokevirtual 290, 3) := by decide +kernel
theorem dX12_sendStart_8 : decode cX12_sendStart 8 = .ok (.aload_n 0, 1) := by decide +kernel
theorem dX12_sendStart_9 : decode cX12_sendStart 9 = .ok (.iload_n 1, 1) := by decide +kernel
theorem dX12_sendStart_10 : decode cX12_sendStart 10 = .ok (.invokevirtual 294, 3) := by decide +kernel
theorem dX12_sendStart_13 : decode cX12_sendStart 13 = .ok (.aload_n 0, 1) := by decide +kernel
theorem dX12_sendStart_14 : decode cX12_sendStart 14 = .ok (.aload_n 0, 1) := by decide +kernel
theorem dX12_sendStart_15 : decode cX12_sendStart 15 = .ok (.getfield 62, 3) := by decide +kernel
theorem dX12_sendStart_18 : decode cX12_sendStart 18 = .ok (.iload_n 1, 1) := by decide +kernel
theorem dX12_sendStart_19 : decode cX12_sendStart 19 = .ok (.iaload, 1) := by decide +kernel
theorem dX12_sendStart_20 : decode cX12_sendStart 20 = .ok (.invokevirtual 277, 3) := by decide +kernel
theorem dX12_sendStart_23 : decode cX12_sendStart 23 = .ok (.aload_n 0, 1) := by decide +kernel
theorem dX12_sendStart_24 : decode cX12_sendStart 24 = .ok (.iload_n 1, 1) := by decide +kernel
theorem dX12_sendStart_25 : decode cX12_sendStart 25 = .ok (.aload_n 0, 1) := by decide +kernel
theorem dX12_sendStart_26 : decode cX12_sendStart 26 = .ok (.getfield 59, 3) := by decide +kernel
theorem dX12_sendStart_29 : decode cX12_sendStart 29 = .ok (.iload_n 1, 1) := by decide +kernel
theorem dX12_sendStart_30 : decode cX12_sendStart 30 = .ok (.iaload, 1) := by decide +kernel
theorem dX12_sendStart_31 : decode cX12_sendStart 31 = .ok (.invokevirtual 304, 3) := by decide +kernel
theorem dX12_sendStart_34 : decode cX12_sendStart 34 = .ok (.aload_n 0, 1) := by decide +kernel
theorem dX12_sendStart_35 : decode cX12_sendStart 35 = .ok (.invokevirtual 297, 3) := by decide +kernel
theorem dX12_sendStart_38 : decode cX12_sendStart 38 = .ok (.return_, 1) := by decide +kernel
abbrev rm_X12_sendStart : Room := { frames := 2, cells := 0, slots := 0, locals := 45 }
def wp_X12_sendStart (a0 : Nat) (p1 : Int32) (p2 : Int32) (σ : Sto) (Q : Sto → Prop) : Prop := (sK σ a0 = 12 ∧ (wp_X12_begin a0 (10 : Int32) p1 p2 σ (fun (σ2 : Sto) => (sK σ2 a0 = 12 ∧ (wp_X12_addView a0 p1 σ2 (fun (σ4 : Sto) => (sK σ4 a0 = 12 ∧ (∃ b6 : Nat, sP σ4 a0 27 = some b6 ∧ (sK σ4 b6 = 14 ∧ (vp_in p1 (sN σ4 b6) ∧ (∀ x10 : Int32, x10 = sI σ4 b6 p1.toNatClampNeg → (wp_X12_add a0 x10 σ4 (fun (σ12 : Sto) => (sK σ12 a0 = 12 ∧ (∃ b14 : Nat, sP σ12 a0 26 = some b14 ∧ (sK σ12 b14 = 14 ∧ (vp_in p1 (sN σ12 b14) ∧ (∀ x18 : Int32, x18 = sI σ12 b14 p1.toNatClampNeg → (wp_X12_addLog a0 p1 x18 σ12 (fun (σ20 : Sto) => (sK σ20 a0 = 12 ∧ (wp_X12_post a0  σ20 (fun (σ22 : Sto) => Q σ22)))))))))))))))))))))))
set_option maxHeartbeats 4000000 in
set_option maxRecDepth 100000 in
theorem c_X12_sendStart (l : Launch) (D : va_G) (cy : Nat → ClassId) (a0 : Nat) (p1 : Int32) (p2 : Int32) (σ : Sto) (Q : Sto → Prop) (h : wp_X12_sendStart a0 p1 p2 σ Q) : Mt l D cy yX12_sendStart cX12_sendStart 3 none rm_X12_sendStart [.ref a0, .int p1, .int p2] σ (PsV Q) := by
  unfold wp_X12_sendStart at h
  refine mt_of (by decide +kernel) (Nat.le_of_ble_eq_true rfl) ?_
  intro p e s m args below meth c A ls C hr hnm hl
  have C : Cx p s m args meth c D cy A cX12_sendStart 3 RX12 := C
  have hl : lv_has ls 3 [(0, .ref a0), (1, .int p1), (2, .int p2)] := hl
  refine x_aload_n C dX12_sendStart_0 rfl (lv_at hl 0 rfl) ?_
  refine x_bipush (v := 10) C dX12_sendStart_1 (by decide) ?_
  refine x_iload_n C dX12_sendStart_3 rfl (lv_at hl 1 rfl) ?_
  refine x_iload_n C dX12_sendStart_4 rfl (lv_at hl 2 rfl) ?_
  obtain ⟨g1, h⟩ := h
  refine x_callV (rm := rm_X12_begin) (rest := []) (As := [.int (10 : Int32), .int p1, .int p2]) C cy_RX12_290 g1 (by decide) (by decide) rfl rfl (Nat.le_of_ble_eq_true rfl) hl.1 dX12_sendStart_5 (c_X12_begin l D cy a0 (10 : Int32) p1 p2 σ _ h) (ks_v (fun σ2 h => ?_))
  refine x_aload_n C dX12_sendStart_8 rfl (lv_at hl 0 rfl) ?_
  refine x_iload_n C dX12_sendStart_9 rfl (lv_at hl 1 rfl) ?_
  obtain ⟨g3, h⟩ := h
  refine x_callV (rm := rm_X12_addView) (rest := []) (As := [.int p1]) C cy_RX12_294 g3 (by decide) (by decide) rfl rfl (Nat.le_of_ble_eq_true rfl) hl.1 dX12_sendStart_10 (c_X12_addView l D cy a0 p1 σ2 _ h) (ks_v (fun σ4 h => ?_))
  refine x_aload_n C dX12_sendStart_13 rfl (lv_at hl 0 rfl) ?_
  refine x_aload_n C dX12_sendStart_14 rfl (lv_at hl 0 rfl) ?_
  obtain ⟨g5, h⟩ := h
  refine x_getP C fl_RX12_62 g5 dX12_sendStart_15 ?_
  refine x_iload_n C dX12_sendStart_18 rfl (lv_at hl 1 rfl) ?_
  obtain ⟨b6, g7, h⟩ := h
  refine x_nn1 g7 ?_
  obtain ⟨g8, h⟩ := h
  obtain ⟨g9, h⟩ := h
  refine x_iald C g8 g9 dX12_sendStart_19 ?_
  refine x_topi (fun x10 e11 => ?_)
  have h := h x10 e11
  refine x_callV (rm := rm_X12_add) (rest := []) (As := [.int x10]) C cy_RX12_277 g5 (by decide) (by decide) rfl rfl (Nat.le_of_ble_eq_true rfl) hl.1 dX12_sendStart_20 (c_X12_add l D cy a0 x10 σ4 _ h) (ks_v (fun σ12 h => ?_))
  refine x_aload_n C dX12_sendStart_23 rfl (lv_at hl 0 rfl) ?_
  refine x_iload_n C dX12_sendStart_24 rfl (lv_at hl 1 rfl) ?_
  refine x_aload_n C dX12_sendStart_25 rfl (lv_at hl 0 rfl) ?_
  obtain ⟨g13, h⟩ := h
  refine x_getP C fl_RX12_59 g13 dX12_sendStart_26 ?_
  refine x_iload_n C dX12_sendStart_29 rfl (lv_at hl 1 rfl) ?_
  obtain ⟨b14, g15, h⟩ := h
  refine x_nn1 g15 ?_
  obtain ⟨g16, h⟩ := h
  obtain ⟨g17, h⟩ := h
  refine x_iald C g16 g17 dX12_sendStart_30 ?_
  refine x_topi (fun x18 e19 => ?_)
  have h := h x18 e19
  refine x_callV (rm := rm_X12_addLog) (rest := []) (As := [.int p1, .int x18]) C cy_RX12_304 g13 (by decide) (by decide) rfl rfl (Nat.le_of_ble_eq_true rfl) hl.1 dX12_sendStart_31 (c_X12_addLog l D cy a0 p1 x18 σ12 _ h) (ks_v (fun σ20 h => ?_))
  refine x_aload_n C dX12_sendStart_34 rfl (lv_at hl 0 rfl) ?_
  obtain ⟨g21, h⟩ := h
  refine x_callV (rm := rm_X12_post) (rest := []) (As := []) C cy_RX12_297 g21 (by decide) (by decide) rfl rfl (Nat.le_of_ble_eq_true rfl) hl.1 dX12_sendStart_35 (c_X12_post l D cy a0  σ20 _ h) (ks_v (fun σ22 h => ?_))
  exact x_vret C hr dX12_sendStart_38 ⟨rfl, h⟩
theorem dX12_remove_0 : decode cX12_remove 0 = .ok (.aload_n 0, 1) := by decide +kernel
theorem dX12_remove_1 : decode cX12_remove 1 = .ok (.getfield 9, 3) := by decide +kernel
theorem dX12_remove_4 : decode cX12_remove 4 = .ok (.iload_n 1, 1) := by decide +kernel
theorem dX12_remove_5 : decode cX12_remove 5 = .ok (.iaload, 1) := by decide +kernel
theorem dX12_remove_6 : decode cX12_remove 6 = .ok (.istore_n 2, 1) := by decide +kernel
theorem dX12_remove_7 : decode cX12_remove 7 = .ok (.iload_n 1, 1) := by decide +kernel
theorem dX12_remove_8 : decode cX12_remove 8 = .ok (.istore_n 3, 1) := by decide +kernel
theorem dX12_remove_9 : decode cX12_remove 9 = .ok (.iload_n 3, 1) := by decide +kernel
theorem dX12_remove_10 : decode cX12_remove 10 = .ok (.iconst 1, 1) := by decide +kernel
theorem dX12_remove_11 : decode cX12_remove 11 = .ok (.iadd, 1) := by decide +kernel
theorem dX12_remove_12 : decode cX12_remove 12 = .ok (.aload_n 0, 1) := by decide +kernel
theorem dX12_remove_13 : decode cX12_remove 13 = .ok (.getfield 281, 3) := by decide +kernel
theorem dX12_remove_16 : decode cX12_remove 16 = .ok (.if_icmp .ge 23, 3) := by decide +kernel
theorem dX12_remove_19 : decode cX12_remove 19 = .ok (.aload_n 0, 1) := by decide +kernel
theorem dX12_remove_20 : decode cX12_remove 20 = .ok (.getfield 9, 3) := by decide +kernel
theorem dX12_remove_23 : decode cX12_remove 23 = .ok (.iload_n 3, 1) := by decide +kernel
theorem dX12_remove_24 : decode cX12_remove 24 = .ok (.aload_n 0, 1) := by decide +kernel
theorem dX12_remove_25 : decode cX12_remove 25 = .ok (.getfield 9, 3) := by decide +kernel
theorem dX12_remove_28 : decode cX12_remove 28 = .ok (.iload_n 3, 1) := by decide +kernel
theorem dX12_remove_29 : decode cX12_remove 29 = .ok (.iconst 1, 1) := by decide +kernel
theorem dX12_remove_30 : decode cX12_remove 30 = .ok (.iadd, 1) := by decide +kernel
theorem dX12_remove_31 : decode cX12_remove 31 = .ok (.iaload, 1) := by decide +kernel
theorem dX12_remove_32 : decode cX12_remove 32 = .ok (.iastore, 1) := by decide +kernel
theorem dX12_remove_33 : decode cX12_remove 33 = .ok (.iinc 3 1, 3) := by decide +kernel
theorem dX12_remove_36 : decode cX12_remove 36 = .ok (.goto (-27), 3) := by decide +kernel
theorem dX12_remove_39 : decode cX12_remove 39 = .ok (.aload_n 0, 1) := by decide +kernel
theorem dX12_remove_40 : decode cX12_remove 40 = .ok (.dup, 1) := by decide +kernel
theorem dX12_remove_41 : decode cX12_remove 41 = .ok (.getfield 281, 3) := by decide +kernel
theorem dX12_remove_44 : decode cX12_remove 44 = .ok (.iconst 1, 1) := by decide +kernel
theorem dX12_remove_45 : decode cX12_remove 45 = .ok (.isub, 1) := by decide +kernel
theorem dX12_remove_46 : decode cX12_remove 46 = .ok (.putfield 281, 3) := by decide +kernel
theorem dX12_remove_49 : decode cX12_remove 49 = .ok (.aload_n 0, 1) := by decide +kernel
theorem dX12_remove_50 : decode cX12_remove 50 = .ok (.getfield 13, 3) := by decide +kernel
theorem dX12_remove_53 : decode cX12_remove 53 = .ok (.iload_n 2, 1) := by decide +kernel
theorem dX12_remove_54 : decode cX12_remove 54 = .ok (.iconst 0, 1) := by decide +kernel
theorem dX12_remove_55 : decode cX12_remove 55 = .ok (.bastore, 1) := by decide +kernel
theorem dX12_remove_56 : decode cX12_remove 56 = .ok (.iload_n 2, 1) := by decide +kernel
theorem dX12_remove_57 : decode cX12_remove 57 = .ok (.ireturn, 1) := by decide +kernel
abbrev rm_X12_remove : Room := { frames := 0, cells := 0, slots := 0, locals := 0 }
def f_X12_remove_9 (a0 : Nat)  (Q : Int32 → Sto → Prop) (L9 : Int32 × Int32 → Sto → Prop) (t : Int32 × Int32) (σ : Sto) : Prop := (sK σ a0 = 12 ∧ (∀ x2 : Int32, x2 = sI σ a0 6 → ((x2 ≤ (t.2 + (1 : Int32)) → (∀ x5 : Int32, x5 = sI σ a0 6 → (∀ x7 : Int32, x7 = x5 - (1 : Int32) → (∃ b9 : Nat, sP σ a0 9 = some b9 ∧ (sK σ b9 = 16 ∧ (vp_in t.1 (sN σ b9) ∧ Q t.1 (stI (stI σ a0 6 x7) b9 t.1.toNatClampNeg (vp_nar .boolean (0 : Int32))))))))) ∧ (¬ x2 ≤ (t.2 + (1 : Int32)) → (∀ x13 : Int32, x13 = t.2 + (1 : Int32) → (∃ b15 : Nat, sP σ a0 5 = some b15 ∧ (sK σ b15 = 14 ∧ (vp_in x13 (sN σ b15) ∧ (∀ x19 : Int32, x19 = sI σ b15 x13.toNatClampNeg → (vp_in t.2 (sN σ b15) ∧ (∀ x22 : Int32, x22 = t.2 + (1 : Int32) → L9 (t.1, x22) (stI σ b15 t.2.toNatClampNeg x19))))))))))))
set_option maxHeartbeats 4000000 in
set_option maxRecDepth 100000 in
theorem t_X12_remove_9 {p : Program} {l : Launch} {e : Env} {s : State} {m : MethodId} {args : Array Value} {below : List Frame} {meth : Method} {c : Code} {D : va_G} {cy : Nat → ClassId} {A : Nat → Prop} {a0 : Nat} {Q : Int32 → Sto → Prop} {L9 : Int32 × Int32 → Sto → Prop} (C : Cx p s m args meth c D cy A cX12_remove 4 RX12) (hr : meth.sig.returnType = (some .int)) (hnm : meth.name = yX12_remove.name) (hL9 : ∀ (t : Int32 × Int32) (σ : Sto), L9 t σ → ∀ ls : Array Slot, lv_has ls 4 [(0, .ref a0), (2, .int t.1), (3, .int t.2)] → Xw p l e rm_X12_remove s m args below meth c D cy A σ 0 0 (MQ below (Qst D cy A (PsI Q)) args s rm_X12_remove.cells rm_X12_remove.slots A) (F0 m 9 ls [])) : ∀ (t : Int32 × Int32) (σ : Sto), f_X12_remove_9 a0  Q L9 t σ → ∀ ls : Array Slot, lv_has ls 4 [(0, .ref a0), (2, .int t.1), (3, .int t.2)] → Xw p l e rm_X12_remove s m args below meth c D cy A σ 0 0 (MQ below (Qst D cy A (PsI Q)) args s rm_X12_remove.cells rm_X12_remove.slots A) (F0 m 9 ls []) := by
  intro t σ h ls hl
  unfold f_X12_remove_9 at h
  refine x_iload_n C dX12_remove_9 rfl (lv_at hl 2 rfl) ?_
  refine x_iconst (v := 1) C dX12_remove_10 (by decide) ?_
  refine x_iadd C dX12_remove_11 ?_
  refine x_aload_n C dX12_remove_12 rfl (lv_at hl 0 rfl) ?_
  obtain ⟨g1, h⟩ := h
  refine x_getI C fl_RX12_281 g1 dX12_remove_13 ?_
  refine x_topi (fun x2 e3 => ?_)
  have h := h x2 e3
  refine x_icmp_ge (tgt := 39) C dX12_remove_16 (by decide) (fun c4 => ?_) (fun c4 => ?_)
  · have h := h.1 c4
    refine x_aload_n C dX12_remove_39 rfl (lv_at hl 0 rfl) ?_
    refine x_dup C dX12_remove_40 (rfl) ?_
    refine x_getI C fl_RX12_281 g1 dX12_remove_41 ?_
    refine x_topi (fun x5 e6 => ?_)
    have h := h x5 e6
    refine x_iconst (v := 1) C dX12_remove_44 (by decide) ?_
    refine x_isub C dX12_remove_45 ?_
    refine x_topi (fun x7 e8 => ?_)
    have h := h x7 e8
    refine x_putI C fl_RX12_281 (Or.inl rfl) g1 dX12_remove_46 ?_
    refine x_aload_n C dX12_remove_49 rfl (lv_at hl 0 rfl) ?_
    refine x_getP C fl_RX12_13 g1 dX12_remove_50 ?_
    refine x_iload_n C dX12_remove_53 rfl (lv_at hl 1 rfl) ?_
    refine x_iconst (v := 0) C dX12_remove_54 (by decide) ?_
    obtain ⟨b9, g10, h⟩ := h
    refine x_nn2 g10 ?_
    obtain ⟨g11, h⟩ := h
    obtain ⟨g12, h⟩ := h
    refine x_zast C g11 g12 dX12_remove_55 ?_
    refine x_iload_n C dX12_remove_56 rfl (lv_at hl 1 rfl) ?_
    exact x_iret C hr dX12_remove_57 ⟨_, rfl, h⟩
  · have h := h.2 c4
    refine x_aload_n C dX12_remove_19 rfl (lv_at hl 0 rfl) ?_
    refine x_getP C fl_RX12_9 g1 dX12_remove_20 ?_
    refine x_iload_n C dX12_remove_23 rfl (lv_at hl 2 rfl) ?_
    refine x_aload_n C dX12_remove_24 rfl (lv_at hl 0 rfl) ?_
    refine x_getP C fl_RX12_9 g1 dX12_remove_25 ?_
    refine x_iload_n C dX12_remove_28 rfl (lv_at hl 2 rfl) ?_
    refine x_iconst (v := 1) C dX12_remove_29 (by decide) ?_
    refine x_iadd C dX12_remove_30 ?_
    refine x_topi (fun x13 e14 => ?_)
    have h := h x13 e14
    obtain ⟨b15, g16, h⟩ := h
    refine x_nn1 g16 ?_
    obtain ⟨g17, h⟩ := h
    obtain ⟨g18, h⟩ := h
    refine x_iald C g17 g18 dX12_remove_31 ?_
    refine x_topi (fun x19 e20 => ?_)
    have h := h x19 e20
    refine x_nn2 g16 ?_
    obtain ⟨g21, h⟩ := h
    refine x_iast C g17 g21 dX12_remove_32 ?_
    obtain ⟨x22, e23⟩ : ∃ z : Int32, z = t.2 + (1 : Int32) := ⟨_, rfl⟩
    have h := h x22 e23
    refine x_iinc (v := x22) (lv' := [(3, .int x22), (0, .ref a0), (2, .int t.1)]) C dX12_remove_33 hl (q0 := 2) rfl (by rw [e23]; rfl) (by decide) (by first | rfl | simp [vrc, cat_i, cat_r, cat_l]) (fun ls hl => ?_)
    refine x_goto (tgt := 9) C dX12_remove_36 (by decide) ?_
    exact hL9 (t.1, x22) _ h ls (lv_sub hl [1, 2, 0] rfl)
def wp_X12_remove (a0 : Nat) (p1 : Int32) (σ : Sto) (Q : Int32 → Sto → Prop) : Prop := (sK σ a0 = 12 ∧ (∃ b2 : Nat, sP σ a0 5 = some b2 ∧ (sK σ b2 = 14 ∧ (vp_in p1 (sN σ b2) ∧ (∀ x6 : Int32, x6 = sI σ b2 p1.toNatClampNeg → LF (f_X12_remove_9 a0  Q) (x6, p1) σ)))))
set_option maxHeartbeats 4000000 in
set_option maxRecDepth 100000 in
theorem c_X12_remove (l : Launch) (D : va_G) (cy : Nat → ClassId) (a0 : Nat) (p1 : Int32) (σ : Sto) (Q : Int32 → Sto → Prop) (h : wp_X12_remove a0 p1 σ Q) : Mt l D cy yX12_remove cX12_remove 4 (some .int) rm_X12_remove [.ref a0, .int p1] σ (PsI Q) := by
  unfold wp_X12_remove at h
  refine mt_of (by decide +kernel) (Nat.le_of_ble_eq_true rfl) ?_
  intro p e s m args below meth c A ls C hr hnm hl
  have C : Cx p s m args meth c D cy A cX12_remove 4 RX12 := C
  have hl : lv_has ls 4 [(0, .ref a0), (1, .int p1)] := hl
  refine x_aload_n C dX12_remove_0 rfl (lv_at hl 0 rfl) ?_
  obtain ⟨g1, h⟩ := h
  refine x_getP C fl_RX12_9 g1 dX12_remove_1 ?_
  refine x_iload_n C dX12_remove_4 rfl (lv_at hl 1 rfl) ?_
  obtain ⟨b2, g3, h⟩ := h
  refine x_nn1 g3 ?_
  obtain ⟨g4, h⟩ := h
  obtain ⟨g5, h⟩ := h
  refine x_iald C g4 g5 dX12_remove_5 ?_
  refine x_topi (fun x6 e7 => ?_)
  have h := h x6 e7
  refine x_istore_n (i := 2) (lv' := [(2, .int x6), (0, .ref a0), (1, .int p1)]) C dX12_remove_6 rfl hl (by decide) (by first | rfl | simp [vrc, cat_i, cat_r, cat_l]) (fun ls hl => ?_)
  refine x_iload_n C dX12_remove_7 rfl (lv_at hl 2 rfl) ?_
  refine x_istore_n (i := 3) (lv' := [(3, .int p1), (2, .int x6), (0, .ref a0), (1, .int p1)]) C dX12_remove_8 rfl hl (by decide) (by first | rfl | simp [vrc, cat_i, cat_r, cat_l]) (fun ls hl => ?_)
  exact h (fun t σ => ∀ ls : Array Slot, lv_has ls 4 [(0, .ref a0), (2, .int t.1), (3, .int t.2)] → Xw p l e rm_X12_remove s m args below meth c D cy A σ 0 0 (MQ below (Qst D cy A (PsI Q)) args s rm_X12_remove.cells rm_X12_remove.slots A) (F0 m 9 ls [])) (t_X12_remove_9 C hr hnm  (fun t σ h => h)) ls (lv_sub hl [2, 1, 0] rfl)
theorem dX12_placeOf_0 : decode cX12_placeOf 0 = .ok (.bipush 64, 2) := by decide +kernel
theorem dX12_placeOf_2 : decode cX12_placeOf 2 = .ok (.iload_n 1, 1) := by decide +kernel
theorem dX12_placeOf_3 : decode cX12_placeOf 3 = .ok (.imul, 1) := by decide +kernel
theorem dX12_placeOf_4 : decode cX12_placeOf 4 = .ok (.istore 5, 2) := by decide +kernel
theorem dX12_placeOf_6 : decode cX12_placeOf 6 = .ok (.iload 5, 2) := by decide +kernel
theorem dX12_placeOf_8 : decode cX12_placeOf 8 = .ok (.bipush 64, 2) := by decide +kernel
theorem dX12_placeOf_10 : decode cX12_placeOf 10 = .ok (.iload_n 1, 1) := by decide +kernel
theorem dX12_placeOf_11 : decode cX12_placeOf 11 = .ok (.imul, 1) := by decide +kernel
theorem dX12_placeOf_12 : decode cX12_placeOf 12 = .ok (.aload_n 0, 1) := by decide +kernel
theorem dX12_placeOf_13 : decode cX12_placeOf 13 = .ok (.getfield 206, 3) := by decide +kernel
theorem dX12_placeOf_16 : decode cX12_placeOf 16 = .ok (.iload_n 1, 1) := by decide +kernel
theorem dX12_placeOf_17 : decode cX12_placeOf 17 = .ok (.iaload, 1) := by decide +kernel
theorem dX12_placeOf_18 : decode cX12_placeOf 18 = .ok (.iadd, 1) := by decide +kernel
theorem dX12_placeOf_19 : decode cX12_placeOf 19 = .ok (.if_icmp .ge 46, 3) := by decide +kernel
theorem dX12_placeOf_22 : decode cX12_placeOf 22 = .ok (.aload_n 0, 1) := by decide +kernel
theorem dX12_placeOf_23 : decode cX12_placeOf 23 = .ok (.getfield 209, 3) := by decide +kernel
theorem dX12_placeOf_26 : decode cX12_placeOf 26 = .ok (.iload 5, 2) := by decide +kernel
theorem dX12_placeOf_28 : decode cX12_placeOf 28 = .ok (.iaload, 1) := by decide +kernel
theorem dX12_placeOf_29 : decode cX12_placeOf 29 = .ok (.iload_n 2, 1) := by decide +kernel
theorem dX12_placeOf_30 : decode cX12_placeOf 30 = .ok (.if_icmp .ne 29, 3) := by decide +kernel
theorem dX12_placeOf_33 : decode cX12_placeOf 33 = .ok (.aload_n 0, 1) := by decide +kernel
theorem dX12_placeOf_34 : decode cX12_placeOf 34 = .ok (.getfield 212, 3) := by decide +kernel
theorem dX12_placeOf_37 : decode cX12_placeOf 37 = .ok (.iload 5, 2) := by decide +kernel
theorem dX12_placeOf_39 : decode cX12_placeOf 39 = .ok (.iaload, 1) := by decide +kernel
theorem dX12_placeOf_40 : decode cX12_placeOf 40 = .ok (.iload_n 3, 1) := by decide +kernel
theorem dX12_placeOf_41 : decode cX12_placeOf 41 = .ok (.if_icmp .ne 18, 3) := by decide +kernel
theorem dX12_placeOf_44 : decode cX12_placeOf 44 = .ok (.aload_n 0, 1) := by decide +kernel
theorem dX12_placeOf_45 : decode cX12_placeOf 45 = .ok (.getfield 215, 3) := by decide +kernel
theorem dX12_placeOf_48 : decode cX12_placeOf 48 = .ok (.iload 5, 2) := by decide +kernel
theorem dX12_placeOf_50 : decode cX12_placeOf 50 = .ok (.iaload, 1) := by decide +kernel
theorem dX12_placeOf_51 : decode cX12_placeOf 51 = .ok (.iload 4, 2) := by decide +kernel
theorem dX12_placeOf_53 : decode cX12_placeOf 53 = .ok (.if_icmp .ne 6, 3) := by decide +kernel
theorem dX12_placeOf_56 : decode cX12_placeOf 56 = .ok (.iload 5, 2) := by decide +kernel
theorem dX12_placeOf_58 : decode cX12_placeOf 58 = .ok (.ireturn, 1) := by decide +kernel
theorem dX12_placeOf_59 : decode cX12_placeOf 59 = .ok (.iinc 5 1, 3) := by decide +kernel
theorem dX12_placeOf_62 : decode cX12_placeOf 62 = .ok (.goto (-56), 3) := by decide +kernel
theorem dX12_placeOf_65 : decode cX12_placeOf 65 = .ok (.aload_n 0, 1) := by decide +kernel
theorem dX12_placeOf_66 : decode cX12_placeOf 66 = .ok (.getfield 206, 3) := by decide +kernel
theorem dX12_placeOf_69 : decode cX12_placeOf 69 = .ok (.iload_n 1, 1) := by decide +kernel
theorem dX12_placeOf_70 : decode cX12_placeOf 70 = .ok (.iaload, 1) := by decide +kernel
theorem dX12_placeOf_71 : decode cX12_placeOf 71 = .ok (.bipush 64, 2) := by decide +kernel
theorem dX12_placeOf_73 : decode cX12_placeOf 73 = .ok (.if_icmp .ne 118, 3) := by decide +kernel
theorem dX12_placeOf_76 : decode cX12_placeOf 76 = .ok (.bipush 64, 2) := by decide +kernel
theorem dX12_placeOf_78 : decode cX12_placeOf 78 = .ok (.iload_n 1, 1) := by decide +kernel
theorem dX12_placeOf_79 : decode cX12_placeOf 79 = .ok (.imul, 1) := by decide +kernel
theorem dX12_placeOf_80 : decode cX12_placeOf 80 = .ok (.istore 5, 2) := by decide +kernel
theorem dX12_placeOf_82 : decode cX12_placeOf 82 = .ok (.iload 5, 2) := by decide +kernel
theorem dX12_placeOf_84 : decode cX12_placeOf 84 = .ok (.iconst 1, 1) := by decide +kernel
theorem dX12_placeOf_85 : decode cX12_placeOf 85 = .ok (.iadd, 1) := by decide +kernel
theorem dX12_placeOf_86 : decode cX12_placeOf 86 = .ok (.bipush 64, 2) := by decide +kernel
theorem dX12_placeOf_88 : decode cX12_placeOf 88 = .ok (.iload_n 1, 1) := by decide +kernel
theorem dX12_placeOf_89 : decode cX12_placeOf 89 = .ok (.iconst 1, 1) := by decide +kernel
theorem dX12_placeOf_90 : decode cX12_placeOf 90 = .ok (.iadd, 1) := by decide +kernel
theorem dX12_placeOf_91 : decode cX12_placeOf 91 = .ok (.imul, 1) := by decide +kernel
theorem dX12_placeOf_92 : decode cX12_placeOf 92 = .ok (.if_icmp .ge 89, 3) := by decide +kernel
theorem dX12_placeOf_95 : decode cX12_placeOf 95 = .ok (.aload_n 0, 1) := by decide +kernel
theorem dX12_placeOf_96 : decode cX12_placeOf 96 = .ok (.getfield 209, 3) := by decide +kernel
theorem dX12_placeOf_99 : decode cX12_placeOf 99 = .ok (.iload 5, 2) := by decide +kernel
theorem dX12_placeOf_101 : decode cX12_placeOf 101 = .ok (.aload_n 0, 1) := by decide +kernel
theorem dX12_placeOf_102 : decode cX12_placeOf 102 = .ok (.getfield 209, 3) := by decide +kernel
theorem dX12_placeOf_105 : decode cX12_placeOf 105 = .ok (.iload 5, 2) := by decide +kernel
theorem dX12_placeOf_107 : decode cX12_placeOf 107 = .ok (.iconst 1, 1) := by decide +kernel
theorem dX12_placeOf_108 : decode cX12_placeOf 108 = .ok (.iadd, 1) := by decide +kernel
theorem dX12_placeOf_109 : decode cX12_placeOf 109 = .ok (.iaload, 1) := by decide +kernel
theorem dX12_placeOf_110 : decode cX12_placeOf 110 = .ok (.iastore, 1) := by decide +kernel
theorem dX12_placeOf_111 : decode cX12_placeOf 111 = .ok (.aload_n 0, 1) := by decide +kernel
theorem dX12_placeOf_112 : decode cX12_placeOf 112 = .ok (.getfield 212, 3) := by decide +kernel
theorem dX12_placeOf_115 : decode cX12_placeOf 115 = .ok (.iload 5, 2) := by decide +kernel
theorem dX12_placeOf_117 : decode cX12_placeOf 117 = .ok (.aload_n 0, 1) := by decide +kernel
theorem dX12_placeOf_118 : decode cX12_placeOf 118 = .ok (.getfield 212, 3) := by decide +kernel
theorem dX12_placeOf_121 : decode cX12_placeOf 121 = .ok (.iload 5, 2) := by decide +kernel
theorem dX12_placeOf_123 : decode cX12_placeOf 123 = .ok (.iconst 1, 1) := by decide +kernel
theorem dX12_placeOf_124 : decode cX12_placeOf 124 = .ok (.iadd, 1) := by decide +kernel
theorem dX12_placeOf_125 : decode cX12_placeOf 125 = .ok (.iaload, 1) := by decide +kernel
theorem dX12_placeOf_126 : decode cX12_placeOf 126 = .ok (.iastore, 1) := by decide +kernel
theorem dX12_placeOf_127 : decode cX12_placeOf 127 = .ok (.aload_n 0, 1) := by decide +kernel
theorem dX12_placeOf_128 : decode cX12_placeOf 128 = .ok (.getfield 215, 3) := by decide +kernel
theorem dX12_placeOf_131 : decode cX12_placeOf 131 = .ok (.iload 5, 2) := by decide +kernel
theorem dX12_placeOf_133 : decode cX12_placeOf 133 = .ok (.aload_n 0, 1) := by decide +kernel
theorem dX12_placeOf_134 : decode cX12_placeOf 134 = .ok (.getfield 215, 3) := by decide +kernel
theorem dX12_placeOf_137 : decode cX12_placeOf 137 = .ok (.iload 5, 2) := by decide +kernel
theorem dX12_placeOf_139 : decode cX12_placeOf 139 = .ok (.iconst 1, 1) := by decide +kernel
theorem dX12_placeOf_140 : decode cX12_placeOf 140 = .ok (.iadd, 1) := by decide +kernel
theorem dX12_placeOf_141 : decode cX12_placeOf 141 = .ok (.iaload, 1) := by decide +kernel
theorem dX12_placeOf_142 : decode cX12_placeOf 142 = .ok (.iastore, 1) := by decide +kernel
theorem dX12_placeOf_143 : decode cX12_placeOf 143 = .ok (.aload_n 0, 1) := by decide +kernel
theorem dX12_placeOf_144 : decode cX12_placeOf 144 = .ok (.getfield 218, 3) := by decide +kernel
theorem dX12_placeOf_147 : decode cX12_placeOf 147 = .ok (.iload 5, 2) := by decide +kernel
theorem dX12_placeOf_149 : decode cX12_placeOf 149 = .ok (.aload_n 0, 1) := by decide +kernel
theorem dX12_placeOf_150 : decode cX12_placeOf 150 = .ok (.getfield 218, 3) := by decide +kernel
theorem dX12_placeOf_153 : decode cX12_placeOf 153 = .ok (.iload 5, 2) := by decide +kernel
theorem dX12_placeOf_155 : decode cX12_placeOf 155 = .ok (.iconst 1, 1) := by decide +kernel
theorem dX12_placeOf_156 : decode cX12_placeOf 156 = .ok (.iadd, 1) := by decide +kernel
theorem dX12_placeOf_157 : decode cX12_placeOf 157 = .ok (.iaload, 1) := by decide +kernel
theorem dX12_placeOf_158 : decode cX12_placeOf 158 = .ok (.iastore, 1) := by decide +kernel
theorem dX12_placeOf_159 : decode cX12_placeOf 159 = .ok (.aload_n 0, 1) := by decide +kernel
theorem dX12_placeOf_160 : decode cX12_placeOf 160 = .ok (.getfield 221, 3) := by decide +kernel
theorem dX12_placeOf_163 : decode cX12_placeOf 163 = .ok (.iload 5, 2) := by decide +kernel
theorem dX12_placeOf_165 : decode cX12_placeOf 165 = .ok (.aload_n 0, 1) := by decide +kernel
theorem dX12_placeOf_166 : decode cX12_placeOf 166 = .ok (.getfield 221, 3) := by decide +kernel
theorem dX12_placeOf_169 : decode cX12_placeOf 169 = .ok (.iload 5, 2) := by decide +kernel
theorem dX12_placeOf_171 : decode cX12_placeOf 171 = .ok (.iconst 1, 1) := by decide +kernel
theorem dX12_placeOf_172 : decode cX12_placeOf 172 = .ok (.iadd, 1) := by decide +kernel
theorem dX12_placeOf_173 : decode cX12_placeOf 173 = .ok (.iaload, 1) := by decide +kernel
theorem dX12_placeOf_174 : decode cX12_placeOf 174 = .ok (.iastore, 1) := by decide +kernel
theorem dX12_placeOf_175 : decode cX12_placeOf 175 = .ok (.iinc 5 1, 3) := by decide +kernel
theorem dX12_placeOf_178 : decode cX12_placeOf 178 = .ok (.goto (-96), 3) := by decide +kernel
theorem dX12_placeOf_181 : decode cX12_placeOf 181 = .ok (.aload_n 0, 1) := by decide +kernel
theorem dX12_placeOf_182 : decode cX12_placeOf 182 = .ok (.getfield 206, 3) := by decide +kernel
theorem dX12_placeOf_185 : decode cX12_placeOf 185 = .ok (.iload_n 1, 1) := by decide +kernel
theorem dX12_placeOf_186 : decode cX12_placeOf 186 = .ok (.dup2, 1) := by decide +kernel
theorem dX12_placeOf_187 : decode cX12_placeOf 187 = .ok (.iaload, 1) := by decide +kernel
theorem dX12_placeOf_188 : decode cX12_placeOf 188 = .ok (.iconst 1, 1) := by decide +kernel
theorem dX12_placeOf_189 : decode cX12_placeOf 189 = .ok (.isub, 1) := by decide +kernel
theorem dX12_placeOf_190 : decode cX12_placeOf 190 = .ok (.iastore, 1) := by decide +kernel
theorem dX12_placeOf_191 : decode cX12_placeOf 191 = .ok (.bipush 64, 2) := by decide +kernel
theorem dX12_placeOf_193 : decode cX12_placeOf 193 = .ok (.iload_n 1, 1) := by decide +kernel
theorem dX12_placeOf_194 : decode cX12_placeOf 194 = .ok (.imul, 1) := by decide +kernel
theorem dX12_placeOf_195 : decode cX12_placeOf 195 = .ok (.aload_n 0, 1) := by decide +kernel
theorem dX12_placeOf_196 : decode cX12_placeOf 196 = .ok (.getfield 206, 3) := by decide +kernel
theorem dX12_placeOf_199 : decode cX12_placeOf 199 = .ok (.iload_n 1, 1) := by decide +kernel
theorem dX12_placeOf_200 : decode cX12_placeOf 200 = .ok (.iaload, 1) := by decide +kernel
theorem dX12_placeOf_201 : decode cX12_placeOf 201 = .ok (.iadd, 1) := by decide +kernel
theorem dX12_placeOf_202 : decode cX12_placeOf 202 = .ok (.istore 5, 2) := by decide +kernel
theorem dX12_placeOf_204 : decode cX12_placeOf 204 = .ok (.aload_n 0, 1) := by decide +kernel
theorem dX12_placeOf_205 : decode cX12_placeOf 205 = .ok (.getfield 206, 3) := by decide +kernel
theorem dX12_placeOf_208 : decode cX12_placeOf 208 = .ok (.iload_n 1, 1) := by decide +kernel
theorem dX12_placeOf_209 : decode cX12_placeOf 209 = .ok (.dup2, 1) := by decide +kernel
theorem dX12_placeOf_210 : decode cX12_placeOf 210 = .ok (.iaload, 1) := by decide +kernel
theorem dX12_placeOf_211 : decode cX12_placeOf 211 = .ok (.iconst 1, 1) := by decide +kernel
theorem dX12_placeOf_212 : decode cX12_placeOf 212 = .ok (.iadd, 1) := by decide +kernel
theorem dX12_placeOf_213 : decode cX12_placeOf 213 = .ok (.iastore, 1) := by decide +kernel
theorem dX12_placeOf_214 : decode cX12_placeOf 214 = .ok (.aload_n 0, 1) := by decide +kernel
theorem dX12_placeOf_215 : decode cX12_placeOf 215 = .ok (.getfield 209, 3) := by decide +kernel
theorem dX12_placeOf_218 : decode cX12_placeOf 218 = .ok (.iload 5, 2) := by decide +kernel
theorem dX12_placeOf_220 : decode cX12_placeOf 220 = .ok (.iload_n 2, 1) := by decide +kernel
theorem dX12_placeOf_221 : decode cX12_placeOf 221 = .ok (.iastore, 1) := by decide +kernel
theorem dX12_placeOf_222 : decode cX12_placeOf 222 = .ok (.aload_n 0, 1) := by decide +kernel
theorem dX12_placeOf_223 : decode cX12_placeOf 223 = .ok (.getfield 212, 3) := by decide +kernel
theorem dX12_placeOf_226 : decode cX12_placeOf 226 = .ok (.iload 5, 2) := by decide +kernel
theorem dX12_placeOf_228 : decode cX12_placeOf 228 = .ok (.iload_n 3, 1) := by decide +kernel
theorem dX12_placeOf_229 : decode cX12_placeOf 229 = .ok (.iastore, 1) := by decide +kernel
theorem dX12_placeOf_230 : decode cX12_placeOf 230 = .ok (.aload_n 0, 1) := by decide +kernel
theorem dX12_placeOf_231 : decode cX12_placeOf 231 = .ok (.getfield 215, 3) := by decide +kernel
theorem dX12_placeOf_234 : decode cX12_placeOf 234 = .ok (.iload 5, 2) := by decide +kernel
theorem dX12_placeOf_236 : decode cX12_placeOf 236 = .ok (.iload 4, 2) := by decide +kernel
theorem dX12_placeOf_238 : decode cX12_placeOf 238 = .ok (.iastore, 1) := by decide +kernel
theorem dX12_placeOf_239 : decode cX12_placeOf 239 = .ok (.aload_n 0, 1) := by decide +kernel
theorem dX12_placeOf_240 : decode cX12_placeOf 240 = .ok (.getfield 218, 3) := by decide +kernel
theorem dX12_placeOf_243 : decode cX12_placeOf 243 = .ok (.iload 5, 2) := by decide +kernel
theorem dX12_placeOf_245 : decode cX12_placeOf 245 = .ok (.iconst 0, 1) := by decide +kernel
theorem dX12_placeOf_246 : decode cX12_placeOf 246 = .ok (.iastore, 1) := by decide +kernel
theorem dX12_placeOf_247 : decode cX12_placeOf 247 = .ok (.aload_n 0, 1) := by decide +kernel
theorem dX12_placeOf_248 : decode cX12_placeOf 248 = .ok (.getfield 221, 3) := by decide +kernel
theorem dX12_placeOf_251 : decode cX12_placeOf 251 = .ok (.iload 5, 2) := by decide +kernel
theorem dX12_placeOf_253 : decode cX12_placeOf 253 = .ok (.iconst 0, 1) := by decide +kernel
theorem dX12_placeOf_254 : decode cX12_placeOf 254 = .ok (.iastore, 1) := by decide +kernel
theorem dX12_placeOf_255 : decode cX12_placeOf 255 = .ok (.iload 5, 2) := by decide +kernel
theorem dX12_placeOf_257 : decode cX12_placeOf 257 = .ok (.ireturn, 1) := by decide +kernel
abbrev rm_X12_placeOf : Room := { frames := 0, cells := 0, slots := 0, locals := 0 }
def b_X12_placeOf_191 (a0 : Nat)  (Q : Int32 → Sto → Prop) (p1 : Int32) (p2 : Int32) (p3 : Int32) (p4 : Int32) (σ : Sto) : Prop := (sK σ a0 = 12 ∧ (∃ b2 : Nat, sP σ a0 75 = some b2 ∧ (sK σ b2 = 14 ∧ (vp_in p1 (sN σ b2) ∧ (∀ x6 : Int32, x6 = sI σ b2 p1.toNatClampNeg → (∀ x8 : Int32, x8 = ((64 : Int32) * p1) + x6 → (vp_in p1 (sN σ b2) ∧ (∀ x11 : Int32, x11 = sI σ b2 p1.toNatClampNeg → (∀ x13 : Int32, x13 = x11 + (1 : Int32) → (vp_in p1 (sN σ b2) ∧ (∃ b16 : Nat, sP σ a0 76 = some b16 ∧ (sK σ b16 = 14 ∧ (vp_in x8 (sN σ b16) ∧ (∃ b20 : Nat, sP σ a0 77 = some b20 ∧ (sK σ b20 = 14 ∧ (vp_in x8 (sN σ b20) ∧ (∃ b24 : Nat, sP σ a0 78 = some b24 ∧ (sK σ b24 = 14 ∧ (vp_in x8 (sN σ b24) ∧ (∃ b28 : Nat, sP σ a0 79 = some b28 ∧ (sK σ b28 = 14 ∧ (vp_in x8 (sN σ b28) ∧ (∃ b32 : Nat, sP σ a0 80 = some b32 ∧ (sK σ b32 = 14 ∧ (vp_in x8 (sN σ b32) ∧ Q x8 (stI (stI (stI (stI (stI (stI σ b2 p1.toNatClampNeg x13) b16 x8.toNatClampNeg p2) b20 x8.toNatClampNeg p3) b24 x8.toNatClampNeg p4) b28 x8.toNatClampNeg (0 : Int32)) b32 x8.toNatClampNeg (0 : Int32)))))))))))))))))))))))))))
set_option maxHeartbeats 4000000 in
set_option maxRecDepth 100000 in
theorem t_X12_placeOf_191 {p : Program} {l : Launch} {e : Env} {s : State} {m : MethodId} {args : Array Value} {below : List Frame} {meth : Method} {c : Code} {D : va_G} {cy : Nat → ClassId} {A : Nat → Prop} {a0 : Nat} {Q : Int32 → Sto → Prop} (C : Cx p s m args meth c D cy A cX12_placeOf 6 RX12) (hr : meth.sig.returnType = (some .int)) (hnm : meth.name = yX12_placeOf.name) (p1 : Int32) (p2 : Int32) (p3 : Int32) (p4 : Int32) (σ : Sto) (h : b_X12_placeOf_191 a0  Q p1 p2 p3 p4 σ) (ls : Array Slot) (hl : lv_has ls 6 [(0, .ref a0), (1, .int p1), (2, .int p2), (3, .int p3), (4, .int p4)]) : Xw p l e rm_X12_placeOf s m args below meth c D cy A σ 0 0 (MQ below (Qst D cy A (PsI Q)) args s rm_X12_placeOf.cells rm_X12_placeOf.slots A) (F0 m 191 ls []) := by
  unfold b_X12_placeOf_191 at h
  refine x_bipush (v := 64) C dX12_placeOf_191 (by decide) ?_
  refine x_iload_n C dX12_placeOf_193 rfl (lv_at hl 1 rfl) ?_
  refine x_imul C dX12_placeOf_194 ?_
  refine x_aload_n C dX12_placeOf_195 rfl (lv_at hl 0 rfl) ?_
  obtain ⟨g1, h⟩ := h
  refine x_getP C fl_RX12_206 g1 dX12_placeOf_196 ?_
  refine x_iload_n C dX12_placeOf_199 rfl (lv_at hl 1 rfl) ?_
  obtain ⟨b2, g3, h⟩ := h
  refine x_nn1 g3 ?_
  obtain ⟨g4, h⟩ := h
  obtain ⟨g5, h⟩ := h
  refine x_iald C g4 g5 dX12_placeOf_200 ?_
  refine x_topi (fun x6 e7 => ?_)
  have h := h x6 e7
  refine x_iadd C dX12_placeOf_201 ?_
  refine x_topi (fun x8 e9 => ?_)
  have h := h x8 e9
  refine x_istore (i := 5) (lv' := [(5, .int x8), (0, .ref a0), (1, .int p1), (2, .int p2), (3, .int p3), (4, .int p4)]) C dX12_placeOf_202 hl (by decide) (by first | rfl | simp [vrc, cat_i, cat_r, cat_l]) (fun ls hl => ?_)
  refine x_aload_n C dX12_placeOf_204 rfl (lv_at hl 1 rfl) ?_
  refine x_getP C fl_RX12_206 g1 dX12_placeOf_205 ?_
  refine x_iload_n C dX12_placeOf_208 rfl (lv_at hl 2 rfl) ?_
  refine x_dup2 C dX12_placeOf_209 (rfl) (vrc _) ?_
  refine x_nn1 g3 ?_
  obtain ⟨g10, h⟩ := h
  refine x_iald C g4 g10 dX12_placeOf_210 ?_
  refine x_topi (fun x11 e12 => ?_)
  have h := h x11 e12
  refine x_iconst (v := 1) C dX12_placeOf_211 (by decide) ?_
  refine x_iadd C dX12_placeOf_212 ?_
  refine x_topi (fun x13 e14 => ?_)
  have h := h x13 e14
  refine x_nn2 g3 ?_
  obtain ⟨g15, h⟩ := h
  refine x_iast C g4 g15 dX12_placeOf_213 ?_
  refine x_aload_n C dX12_placeOf_214 rfl (lv_at hl 1 rfl) ?_
  refine x_getP C fl_RX12_209 g1 dX12_placeOf_215 ?_
  refine x_iload C dX12_placeOf_218 (lv_at hl 0 rfl) ?_
  refine x_iload_n C dX12_placeOf_220 rfl (lv_at hl 3 rfl) ?_
  obtain ⟨b16, g17, h⟩ := h
  refine x_nn2 g17 ?_
  obtain ⟨g18, h⟩ := h
  obtain ⟨g19, h⟩ := h
  refine x_iast C g18 g19 dX12_placeOf_221 ?_
  refine x_aload_n C dX12_placeOf_222 rfl (lv_at hl 1 rfl) ?_
  refine x_getP C fl_RX12_212 g1 dX12_placeOf_223 ?_
  refine x_iload C dX12_placeOf_226 (lv_at hl 0 rfl) ?_
  refine x_iload_n C dX12_placeOf_228 rfl (lv_at hl 4 rfl) ?_
  obtain ⟨b20, g21, h⟩ := h
  refine x_nn2 g21 ?_
  obtain ⟨g22, h⟩ := h
  obtain ⟨g23, h⟩ := h
  refine x_iast C g22 g23 dX12_placeOf_229 ?_
  refine x_aload_n C dX12_placeOf_230 rfl (lv_at hl 1 rfl) ?_
  refine x_getP C fl_RX12_215 g1 dX12_placeOf_231 ?_
  refine x_iload C dX12_placeOf_234 (lv_at hl 0 rfl) ?_
  refine x_iload C dX12_placeOf_236 (lv_at hl 5 rfl) ?_
  obtain ⟨b24, g25, h⟩ := h
  refine x_nn2 g25 ?_
  obtain ⟨g26, h⟩ := h
  obtain ⟨g27, h⟩ := h
  refine x_iast C g26 g27 dX12_placeOf_238 ?_
  refine x_aload_n C dX12_placeOf_239 rfl (lv_at hl 1 rfl) ?_
  refine x_getP C fl_RX12_218 g1 dX12_placeOf_240 ?_
  refine x_iload C dX12_placeOf_243 (lv_at hl 0 rfl) ?_
  refine x_iconst (v := 0) C dX12_placeOf_245 (by decide) ?_
  obtain ⟨b28, g29, h⟩ := h
  refine x_nn2 g29 ?_
  obtain ⟨g30, h⟩ := h
  obtain ⟨g31, h⟩ := h
  refine x_iast C g30 g31 dX12_placeOf_246 ?_
  refine x_aload_n C dX12_placeOf_247 rfl (lv_at hl 1 rfl) ?_
  refine x_getP C fl_RX12_221 g1 dX12_placeOf_248 ?_
  refine x_iload C dX12_placeOf_251 (lv_at hl 0 rfl) ?_
  refine x_iconst (v := 0) C dX12_placeOf_253 (by decide) ?_
  obtain ⟨b32, g33, h⟩ := h
  refine x_nn2 g33 ?_
  obtain ⟨g34, h⟩ := h
  obtain ⟨g35, h⟩ := h
  refine x_iast C g34 g35 dX12_placeOf_254 ?_
  refine x_iload C dX12_placeOf_255 (lv_at hl 0 rfl) ?_
  exact x_iret C hr dX12_placeOf_257 ⟨_, rfl, h⟩
def f_X12_placeOf_82 (a0 : Nat)  (Q : Int32 → Sto → Prop) (L82 : Int32 × Int32 × Int32 × Int32 × Int32 → Sto → Prop) (t : Int32 × Int32 × Int32 × Int32 × Int32) (σ : Sto) : Prop := ((((64 : Int32) * (t.1 + (1 : Int32))) ≤ (t.2.2.2.2 + (1 : Int32)) → (sK σ a0 = 12 ∧ (∃ b3 : Nat, sP σ a0 75 = some b3 ∧ (sK σ b3 = 14 ∧ (vp_in t.1 (sN σ b3) ∧ (∀ x7 : Int32, x7 = sI σ b3 t.1.toNatClampNeg → (∀ x9 : Int32, x9 = x7 - (1 : Int32) → (vp_in t.1 (sN σ b3) ∧ b_X12_placeOf_191 a0  Q t.1 t.2.1 t.2.2.1 t.2.2.2.1 (stI σ b3 t.1.toNatClampNeg x9))))))))) ∧ (¬ ((64 : Int32) * (t.1 + (1 : Int32))) ≤ (t.2.2.2.2 + (1 : Int32)) → (sK σ a0 = 12 ∧ (∀ x13 : Int32, x13 = t.2.2.2.2 + (1 : Int32) → (∃ b15 : Nat, sP σ a0 76 = some b15 ∧ (sK σ b15 = 14 ∧ (vp_in x13 (sN σ b15) ∧ (∀ x19 : Int32, x19 = sI σ b15 x13.toNatClampNeg → (vp_in t.2.2.2.2 (sN σ b15) ∧ (∀ x22 : Int32, x22 = t.2.2.2.2 + (1 : Int32) → (∃ b24 : Nat, sP σ a0 77 = some b24 ∧ (sK σ b24 = 14 ∧ (vp_in x22 (sN σ b24) ∧ (∀ x28 : Int32, x28 = sI (stI σ b15 t.2.2.2.2.toNatClampNeg x19) b24 x22.toNatClampNeg → (vp_in t.2.2.2.2 (sN σ b24) ∧ (∀ x31 : Int32, x31 = t.2.2.2.2 + (1 : Int32) → (∃ b33 : Nat, sP σ a0 78 = some b33 ∧ (sK σ b33 = 14 ∧ (vp_in x31 (sN σ b33) ∧ (∀ x37 : Int32, x37 = sI (stI (stI σ b15 t.2.2.2.2.toNatClampNeg x19) b24 t.2.2.2.2.toNatClampNeg x28) b33 x31.toNatClampNeg → (vp_in t.2.2.2.2 (sN σ b33) ∧ (∀ x40 : Int32, x40 = t.2.2.2.2 + (1 : Int32) → (∃ b42 : Nat, sP σ a0 79 = some b42 ∧ (sK σ b42 = 14 ∧ (vp_in x40 (sN σ b42) ∧ (∀ x46 : Int32, x46 = sI (stI (stI (stI σ b15 t.2.2.2.2.toNatClampNeg x19) b24 t.2.2.2.2.toNatClampNeg x28) b33 t.2.2.2.2.toNatClampNeg x37) b42 x40.toNatClampNeg → (vp_in t.2.2.2.2 (sN σ b42) ∧ (∀ x49 : Int32, x49 = t.2.2.2.2 + (1 : Int32) → (∃ b51 : Nat, sP σ a0 80 = some b51 ∧ (sK σ b51 = 14 ∧ (vp_in x49 (sN σ b51) ∧ (∀ x55 : Int32, x55 = sI (stI (stI (stI (stI σ b15 t.2.2.2.2.toNatClampNeg x19) b24 t.2.2.2.2.toNatClampNeg x28) b33 t.2.2.2.2.toNatClampNeg x37) b42 t.2.2.2.2.toNatClampNeg x46) b51 x49.toNatClampNeg → (vp_in t.2.2.2.2 (sN σ b51) ∧ (∀ x58 : Int32, x58 = t.2.2.2.2 + (1 : Int32) → L82 (t.1, t.2.1, t.2.2.1, t.2.2.2.1, x58) (stI (stI (stI (stI (stI σ b15 t.2.2.2.2.toNatClampNeg x19) b24 t.2.2.2.2.toNatClampNeg x28) b33 t.2.2.2.2.toNatClampNeg x37) b42 t.2.2.2.2.toNatClampNeg x46) b51 t.2.2.2.2.toNatClampNeg x55)))))))))))))))))))))))))))))))))))
set_option maxHeartbeats 4000000 in
set_option maxRecDepth 100000 in
theorem t_X12_placeOf_82 {p : Program} {l : Launch} {e : Env} {s : State} {m : MethodId} {args : Array Value} {below : List Frame} {meth : Method} {c : Code} {D : va_G} {cy : Nat → ClassId} {A : Nat → Prop} {a0 : Nat} {Q : Int32 → Sto → Prop} {L82 : Int32 × Int32 × Int32 × Int32 × Int32 → Sto → Prop} (C : Cx p s m args meth c D cy A cX12_placeOf 6 RX12) (hr : meth.sig.returnType = (some .int)) (hnm : meth.name = yX12_placeOf.name) (hL82 : ∀ (t : Int32 × Int32 × Int32 × Int32 × Int32) (σ : Sto), L82 t σ → ∀ ls : Array Slot, lv_has ls 6 [(0, .ref a0), (1, .int t.1), (2, .int t.2.1), (3, .int t.2.2.1), (4, .int t.2.2.2.1), (5, .int t.2.2.2.2)] → Xw p l e rm_X12_placeOf s m args below meth c D cy A σ 0 0 (MQ below (Qst D cy A (PsI Q)) args s rm_X12_placeOf.cells rm_X12_placeOf.slots A) (F0 m 82 ls [])) : ∀ (t : Int32 × Int32 × Int32 × Int32 × Int32) (σ : Sto), f_X12_placeOf_82 a0  Q L82 t σ → ∀ ls : Array Slot, lv_has ls 6 [(0, .ref a0), (1, .int t.1), (2, .int t.2.1), (3, .int t.2.2.1), (4, .int t.2.2.2.1), (5, .int t.2.2.2.2)] → Xw p l e rm_X12_placeOf s m args below meth c D cy A σ 0 0 (MQ below (Qst D cy A (PsI Q)) args s rm_X12_placeOf.cells rm_X12_placeOf.slots A) (F0 m 82 ls []) := by
  intro t σ h ls hl
  unfold f_X12_placeOf_82 at h
  refine x_iload C dX12_placeOf_82 (lv_at hl 5 rfl) ?_
  refine x_iconst (v := 1) C dX12_placeOf_84 (by decide) ?_
  refine x_iadd C dX12_placeOf_85 ?_
  refine x_bipush (v := 64) C dX12_placeOf_86 (by decide) ?_
  refine x_iload_n C dX12_placeOf_88 rfl (lv_at hl 1 rfl) ?_
  refine x_iconst (v := 1) C dX12_placeOf_89 (by decide) ?_
  refine x_iadd C dX12_placeOf_90 ?_
  refine x_imul C dX12_placeOf_91 ?_
  refine x_icmp_ge (tgt := 181) C dX12_placeOf_92 (by decide) (fun c1 => ?_) (fun c1 => ?_)
  · have h := h.1 c1
    refine x_aload_n C dX12_placeOf_181 rfl (lv_at hl 0 rfl) ?_
    obtain ⟨g2, h⟩ := h
    refine x_getP C fl_RX12_206 g2 dX12_placeOf_182 ?_
    refine x_iload_n C dX12_placeOf_185 rfl (lv_at hl 1 rfl) ?_
    refine x_dup2 C dX12_placeOf_186 (rfl) (vrc _) ?_
    obtain ⟨b3, g4, h⟩ := h
    refine x_nn1 g4 ?_
    obtain ⟨g5, h⟩ := h
    obtain ⟨g6, h⟩ := h
    refine x_iald C g5 g6 dX12_placeOf_187 ?_
    refine x_topi (fun x7 e8 => ?_)
    have h := h x7 e8
    refine x_iconst (v := 1) C dX12_placeOf_188 (by decide) ?_
    refine x_isub C dX12_placeOf_189 ?_
    refine x_topi (fun x9 e10 => ?_)
    have h := h x9 e10
    refine x_nn2 g4 ?_
    obtain ⟨g11, h⟩ := h
    refine x_iast C g5 g11 dX12_placeOf_190 ?_
    exact t_X12_placeOf_191 C hr hnm  t.1 t.2.1 t.2.2.1 t.2.2.2.1 _ h ls (lv_sub hl [0, 1, 2, 3, 4] rfl)
  · have h := h.2 c1
    refine x_aload_n C dX12_placeOf_95 rfl (lv_at hl 0 rfl) ?_
    obtain ⟨g12, h⟩ := h
    refine x_getP C fl_RX12_209 g12 dX12_placeOf_96 ?_
    refine x_iload C dX12_placeOf_99 (lv_at hl 5 rfl) ?_
    refine x_aload_n C dX12_placeOf_101 rfl (lv_at hl 0 rfl) ?_
    refine x_getP C fl_RX12_209 g12 dX12_placeOf_102 ?_
    refine x_iload C dX12_placeOf_105 (lv_at hl 5 rfl) ?_
    refine x_iconst (v := 1) C dX12_placeOf_107 (by decide) ?_
    refine x_iadd C dX12_placeOf_108 ?_
    refine x_topi (fun x13 e14 => ?_)
    have h := h x13 e14
    obtain ⟨b15, g16, h⟩ := h
    refine x_nn1 g16 ?_
    obtain ⟨g17, h⟩ := h
    obtain ⟨g18, h⟩ := h
    refine x_iald C g17 g18 dX12_placeOf_109 ?_
    refine x_topi (fun x19 e20 => ?_)
    have h := h x19 e20
    refine x_nn2 g16 ?_
    obtain ⟨g21, h⟩ := h
    refine x_iast C g17 g21 dX12_placeOf_110 ?_
    refine x_aload_n C dX12_placeOf_111 rfl (lv_at hl 0 rfl) ?_
    refine x_getP C fl_RX12_212 g12 dX12_placeOf_112 ?_
    refine x_iload C dX12_placeOf_115 (lv_at hl 5 rfl) ?_
    refine x_aload_n C dX12_placeOf_117 rfl (lv_at hl 0 rfl) ?_
    refine x_getP C fl_RX12_212 g12 dX12_placeOf_118 ?_
    refine x_iload C dX12_placeOf_121 (lv_at hl 5 rfl) ?_
    refine x_iconst (v := 1) C dX12_placeOf_123 (by decide) ?_
    refine x_iadd C dX12_placeOf_124 ?_
    refine x_topi (fun x22 e23 => ?_)
    have h := h x22 e23
    obtain ⟨b24, g25, h⟩ := h
    refine x_nn1 g25 ?_
    obtain ⟨g26, h⟩ := h
    obtain ⟨g27, h⟩ := h
    refine x_iald C g26 g27 dX12_placeOf_125 ?_
    refine x_topi (fun x28 e29 => ?_)
    have h := h x28 e29
    refine x_nn2 g25 ?_
    obtain ⟨g30, h⟩ := h
    refine x_iast C g26 g30 dX12_placeOf_126 ?_
    refine x_aload_n C dX12_placeOf_127 rfl (lv_at hl 0 rfl) ?_
    refine x_getP C fl_RX12_215 g12 dX12_placeOf_128 ?_
    refine x_iload C dX12_placeOf_131 (lv_at hl 5 rfl) ?_
    refine x_aload_n C dX12_placeOf_133 rfl (lv_at hl 0 rfl) ?_
    refine x_getP C fl_RX12_215 g12 dX12_placeOf_134 ?_
    refine x_iload C dX12_placeOf_137 (lv_at hl 5 rfl) ?_
    refine x_iconst (v := 1) C dX12_placeOf_139 (by decide) ?_
    refine x_iadd C dX12_placeOf_140 ?_
    refine x_topi (fun x31 e32 => ?_)
    have h := h x31 e32
    obtain ⟨b33, g34, h⟩ := h
    refine x_nn1 g34 ?_
    obtain ⟨g35, h⟩ := h
    obtain ⟨g36, h⟩ := h
    refine x_iald C g35 g36 dX12_placeOf_141 ?_
    refine x_topi (fun x37 e38 => ?_)
    have h := h x37 e38
    refine x_nn2 g34 ?_
    obtain ⟨g39, h⟩ := h
    refine x_iast C g35 g39 dX12_placeOf_142 ?_
    refine x_aload_n C dX12_placeOf_143 rfl (lv_at hl 0 rfl) ?_
    refine x_getP C fl_RX12_218 g12 dX12_placeOf_144 ?_
    refine x_iload C dX12_placeOf_147 (lv_at hl 5 rfl) ?_
    refine x_aload_n C dX12_placeOf_149 rfl (lv_at hl 0 rfl) ?_
    refine x_getP C fl_RX12_218 g12 dX12_placeOf_150 ?_
    refine x_iload C dX12_placeOf_153 (lv_at hl 5 rfl) ?_
    refine x_iconst (v := 1) C dX12_placeOf_155 (by decide) ?_
    refine x_iadd C dX12_placeOf_156 ?_
    refine x_topi (fun x40 e41 => ?_)
    have h := h x40 e41
    obtain ⟨b42, g43, h⟩ := h
    refine x_nn1 g43 ?_
    obtain ⟨g44, h⟩ := h
    obtain ⟨g45, h⟩ := h
    refine x_iald C g44 g45 dX12_placeOf_157 ?_
    refine x_topi (fun x46 e47 => ?_)
    have h := h x46 e47
    refine x_nn2 g43 ?_
    obtain ⟨g48, h⟩ := h
    refine x_iast C g44 g48 dX12_placeOf_158 ?_
    refine x_aload_n C dX12_placeOf_159 rfl (lv_at hl 0 rfl) ?_
    refine x_getP C fl_RX12_221 g12 dX12_placeOf_160 ?_
    refine x_iload C dX12_placeOf_163 (lv_at hl 5 rfl) ?_
    refine x_aload_n C dX12_placeOf_165 rfl (lv_at hl 0 rfl) ?_
    refine x_getP C fl_RX12_221 g12 dX12_placeOf_166 ?_
    refine x_iload C dX12_placeOf_169 (lv_at hl 5 rfl) ?_
    refine x_iconst (v := 1) C dX12_placeOf_171 (by decide) ?_
    refine x_iadd C dX12_placeOf_172 ?_
    refine x_topi (fun x49 e50 => ?_)
    have h := h x49 e50
    obtain ⟨b51, g52, h⟩ := h
    refine x_nn1 g52 ?_
    obtain ⟨g53, h⟩ := h
    obtain ⟨g54, h⟩ := h
    refine x_iald C g53 g54 dX12_placeOf_173 ?_
    refine x_topi (fun x55 e56 => ?_)
    have h := h x55 e56
    refine x_nn2 g52 ?_
    obtain ⟨g57, h⟩ := h
    refine x_iast C g53 g57 dX12_placeOf_174 ?_
    obtain ⟨x58, e59⟩ : ∃ z : Int32, z = t.2.2.2.2 + (1 : Int32) := ⟨_, rfl⟩
    have h := h x58 e59
    refine x_iinc (v := x58) (lv' := [(5, .int x58), (0, .ref a0), (1, .int t.1), (2, .int t.2.1), (3, .int t.2.2.1), (4, .int t.2.2.2.1)]) C dX12_placeOf_175 hl (q0 := 5) rfl (by rw [e59]; rfl) (by decide) (by first | rfl | simp [vrc, cat_i, cat_r, cat_l]) (fun ls hl => ?_)
    refine x_goto (tgt := 82) C dX12_placeOf_178 (by decide) ?_
    exact hL82 (t.1, t.2.1, t.2.2.1, t.2.2.2.1, x58) _ h ls (lv_sub hl [1, 2, 3, 4, 5, 0] rfl)
def b_X12_placeOf_59 (a0 : Nat) (L6 : Int32 × Int32 × Int32 × Int32 × Int32 → Sto → Prop) (Q : Int32 → Sto → Prop) (p1 : Int32) (p2 : Int32) (p3 : Int32) (p4 : Int32) (p5 : Int32) (σ : Sto) : Prop := (∀ x1 : Int32, x1 = p5 + (1 : Int32) → L6 (p1, p2, p3, p4, x1) σ)
set_option maxHeartbeats 4000000 in
set_option maxRecDepth 100000 in
theorem t_X12_placeOf_59 {p : Program} {l : Launch} {e : Env} {s : State} {m : MethodId} {args : Array Value} {below : List Frame} {meth : Method} {c : Code} {D : va_G} {cy : Nat → ClassId} {A : Nat → Prop} {a0 : Nat} {L6 : Int32 × Int32 × Int32 × Int32 × Int32 → Sto → Prop} {Q : Int32 → Sto → Prop} (C : Cx p s m args meth c D cy A cX12_placeOf 6 RX12) (hr : meth.sig.returnType = (some .int)) (hnm : meth.name = yX12_placeOf.name) (hL6 : ∀ (t : Int32 × Int32 × Int32 × Int32 × Int32) (σ : Sto), L6 t σ → ∀ ls : Array Slot, lv_has ls 6 [(0, .ref a0), (1, .int t.1), (2, .int t.2.1), (3, .int t.2.2.1), (4, .int t.2.2.2.1), (5, .int t.2.2.2.2)] → Xw p l e rm_X12_placeOf s m args below meth c D cy A σ 0 0 (MQ below (Qst D cy A (PsI Q)) args s rm_X12_placeOf.cells rm_X12_placeOf.slots A) (F0 m 6 ls [])) (p1 : Int32) (p2 : Int32) (p3 : Int32) (p4 : Int32) (p5 : Int32) (σ : Sto) (h : b_X12_placeOf_59 a0 L6 Q p1 p2 p3 p4 p5 σ) (ls : Array Slot) (hl : lv_has ls 6 [(0, .ref a0), (1, .int p1), (2, .int p2), (3, .int p3), (4, .int p4), (5, .int p5)]) : Xw p l e rm_X12_placeOf s m args below meth c D cy A σ 0 0 (MQ below (Qst D cy A (PsI Q)) args s rm_X12_placeOf.cells rm_X12_placeOf.slots A) (F0 m 59 ls []) := by
  unfold b_X12_placeOf_59 at h
  obtain ⟨x1, e2⟩ : ∃ z : Int32, z = p5 + (1 : Int32) := ⟨_, rfl⟩
  have h := h x1 e2
  refine x_iinc (v := x1) (lv' := [(5, .int x1), (0, .ref a0), (1, .int p1), (2, .int p2), (3, .int p3), (4, .int p4)]) C dX12_placeOf_59 hl (q0 := 5) rfl (by rw [e2]; rfl) (by decide) (by first | rfl | simp [vrc, cat_i, cat_r, cat_l]) (fun ls hl => ?_)
  refine x_goto (tgt := 6) C dX12_placeOf_62 (by decide) ?_
  exact hL6 (p1, p2, p3, p4, x1) _ h ls (lv_sub hl [1, 2, 3, 4, 5, 0] rfl)
def f_X12_placeOf_6 (a0 : Nat)  (Q : Int32 → Sto → Prop) (L6 : Int32 × Int32 × Int32 × Int32 × Int32 → Sto → Prop) (t : Int32 × Int32 × Int32 × Int32 × Int32) (σ : Sto) : Prop := (sK σ a0 = 12 ∧ (∃ b2 : Nat, sP σ a0 75 = some b2 ∧ (sK σ b2 = 14 ∧ (vp_in t.1 (sN σ b2) ∧ (∀ x6 : Int32, x6 = sI σ b2 t.1.toNatClampNeg → (((((64 : Int32) * t.1) + x6) ≤ t.2.2.2.2 → (vp_in t.1 (sN σ b2) ∧ (∀ x10 : Int32, x10 = sI σ b2 t.1.toNatClampNeg → ((¬ x10 = (64 : Int32) → b_X12_placeOf_191 a0  Q t.1 t.2.1 t.2.2.1 t.2.2.2.1 σ) ∧ (x10 = (64 : Int32) → (∀ x13 : Int32, x13 = (64 : Int32) * t.1 → LF (f_X12_placeOf_82 a0  Q) (t.1, t.2.1, t.2.2.1, t.2.2.2.1, x13) σ)))))) ∧ (¬ (((64 : Int32) * t.1) + x6) ≤ t.2.2.2.2 → (∃ b15 : Nat, sP σ a0 76 = some b15 ∧ (sK σ b15 = 14 ∧ (vp_in t.2.2.2.2 (sN σ b15) ∧ (∀ x19 : Int32, x19 = sI σ b15 t.2.2.2.2.toNatClampNeg → ((¬ x19 = t.2.1 → b_X12_placeOf_59 a0 L6 Q t.1 t.2.1 t.2.2.1 t.2.2.2.1 t.2.2.2.2 σ) ∧ (x19 = t.2.1 → (∃ b22 : Nat, sP σ a0 77 = some b22 ∧ (sK σ b22 = 14 ∧ (vp_in t.2.2.2.2 (sN σ b22) ∧ (∀ x26 : Int32, x26 = sI σ b22 t.2.2.2.2.toNatClampNeg → ((¬ x26 = t.2.2.1 → b_X12_placeOf_59 a0 L6 Q t.1 t.2.1 t.2.2.1 t.2.2.2.1 t.2.2.2.2 σ) ∧ (x26 = t.2.2.1 → (∃ b29 : Nat, sP σ a0 78 = some b29 ∧ (sK σ b29 = 14 ∧ (vp_in t.2.2.2.2 (sN σ b29) ∧ (∀ x33 : Int32, x33 = sI σ b29 t.2.2.2.2.toNatClampNeg → ((¬ x33 = t.2.2.2.1 → b_X12_placeOf_59 a0 L6 Q t.1 t.2.1 t.2.2.1 t.2.2.2.1 t.2.2.2.2 σ) ∧ (x33 = t.2.2.2.1 → Q t.2.2.2.2 σ)))))))))))))))))))))))))
set_option maxHeartbeats 4000000 in
set_option maxRecDepth 100000 in
theorem t_X12_placeOf_6 {p : Program} {l : Launch} {e : Env} {s : State} {m : MethodId} {args : Array Value} {below : List Frame} {meth : Method} {c : Code} {D : va_G} {cy : Nat → ClassId} {A : Nat → Prop} {a0 : Nat} {Q : Int32 → Sto → Prop} {L6 : Int32 × Int32 × Int32 × Int32 × Int32 → Sto → Prop} (C : Cx p s m args meth c D cy A cX12_placeOf 6 RX12) (hr : meth.sig.returnType = (some .int)) (hnm : meth.name = yX12_placeOf.name) (hL6 : ∀ (t : Int32 × Int32 × Int32 × Int32 × Int32) (σ : Sto), L6 t σ → ∀ ls : Array Slot, lv_has ls 6 [(0, .ref a0), (1, .int t.1), (2, .int t.2.1), (3, .int t.2.2.1), (4, .int t.2.2.2.1), (5, .int t.2.2.2.2)] → Xw p l e rm_X12_placeOf s m args below meth c D cy A σ 0 0 (MQ below (Qst D cy A (PsI Q)) args s rm_X12_placeOf.cells rm_X12_placeOf.slots A) (F0 m 6 ls [])) : ∀ (t : Int32 × Int32 × Int32 × Int32 × Int32) (σ : Sto), f_X12_placeOf_6 a0  Q L6 t σ → ∀ ls : Array Slot, lv_has ls 6 [(0, .ref a0), (1, .int t.1), (2, .int t.2.1), (3, .int t.2.2.1), (4, .int t.2.2.2.1), (5, .int t.2.2.2.2)] → Xw p l e rm_X12_placeOf s m args below meth c D cy A σ 0 0 (MQ below (Qst D cy A (PsI Q)) args s rm_X12_placeOf.cells rm_X12_placeOf.slots A) (F0 m 6 ls []) := by
  intro t σ h ls hl
  unfold f_X12_placeOf_6 at h
  refine x_iload C dX12_placeOf_6 (lv_at hl 5 rfl) ?_
  refine x_bipush (v := 64) C dX12_placeOf_8 (by decide) ?_
  refine x_iload_n C dX12_placeOf_10 rfl (lv_at hl 1 rfl) ?_
  refine x_imul C dX12_placeOf_11 ?_
  refine x_aload_n C dX12_placeOf_12 rfl (lv_at hl 0 rfl) ?_
  obtain ⟨g1, h⟩ := h
  refine x_getP C fl_RX12_206 g1 dX12_placeOf_13 ?_
  refine x_iload_n C dX12_placeOf_16 rfl (lv_at hl 1 rfl) ?_
  obtain ⟨b2, g3, h⟩ := h
  refine x_nn1 g3 ?_
  obtain ⟨g4, h⟩ := h
  obtain ⟨g5, h⟩ := h
  refine x_iald C g4 g5 dX12_placeOf_17 ?_
  refine x_topi (fun x6 e7 => ?_)
  have h := h x6 e7
  refine x_iadd C dX12_placeOf_18 ?_
  refine x_icmp_ge (tgt := 65) C dX12_placeOf_19 (by decide) (fun c8 => ?_) (fun c8 => ?_)
  · have h := h.1 c8
    refine x_aload_n C dX12_placeOf_65 rfl (lv_at hl 0 rfl) ?_
    refine x_getP C fl_RX12_206 g1 dX12_placeOf_66 ?_
    refine x_iload_n C dX12_placeOf_69 rfl (lv_at hl 1 rfl) ?_
    refine x_nn1 g3 ?_
    obtain ⟨g9, h⟩ := h
    refine x_iald C g4 g9 dX12_placeOf_70 ?_
    refine x_topi (fun x10 e11 => ?_)
    have h := h x10 e11
    refine x_bipush (v := 64) C dX12_placeOf_71 (by decide) ?_
    refine x_icmp_ne (tgt := 191) C dX12_placeOf_73 (by decide) (fun c12 => ?_) (fun c12 => ?_)
    · have h := h.1 c12
      exact t_X12_placeOf_191 C hr hnm  t.1 t.2.1 t.2.2.1 t.2.2.2.1 _ h ls (lv_sub hl [0, 1, 2, 3, 4] rfl)
    · have h := h.2 c12
      refine x_bipush (v := 64) C dX12_placeOf_76 (by decide) ?_
      refine x_iload_n C dX12_placeOf_78 rfl (lv_at hl 1 rfl) ?_
      refine x_imul C dX12_placeOf_79 ?_
      refine x_topi (fun x13 e14 => ?_)
      have h := h x13 e14
      refine x_istore (i := 5) (lv' := [(5, .int x13), (0, .ref a0), (1, .int t.1), (2, .int t.2.1), (3, .int t.2.2.1), (4, .int t.2.2.2.1)]) C dX12_placeOf_80 hl (by decide) (by first | rfl | simp [vrc, cat_i, cat_r, cat_l]) (fun ls hl => ?_)
      exact h (fun t σ => ∀ ls : Array Slot, lv_has ls 6 [(0, .ref a0), (1, .int t.1), (2, .int t.2.1), (3, .int t.2.2.1), (4, .int t.2.2.2.1), (5, .int t.2.2.2.2)] → Xw p l e rm_X12_placeOf s m args below meth c D cy A σ 0 0 (MQ below (Qst D cy A (PsI Q)) args s rm_X12_placeOf.cells rm_X12_placeOf.slots A) (F0 m 82 ls [])) (t_X12_placeOf_82 C hr hnm  (fun t σ h => h)) ls (lv_sub hl [1, 2, 3, 4, 5, 0] rfl)
  · have h := h.2 c8
    refine x_aload_n C dX12_placeOf_22 rfl (lv_at hl 0 rfl) ?_
    refine x_getP C fl_RX12_209 g1 dX12_placeOf_23 ?_
    refine x_iload C dX12_placeOf_26 (lv_at hl 5 rfl) ?_
    obtain ⟨b15, g16, h⟩ := h
    refine x_nn1 g16 ?_
    obtain ⟨g17, h⟩ := h
    obtain ⟨g18, h⟩ := h
    refine x_iald C g17 g18 dX12_placeOf_28 ?_
    refine x_topi (fun x19 e20 => ?_)
    have h := h x19 e20
    refine x_iload_n C dX12_placeOf_29 rfl (lv_at hl 2 rfl) ?_
    refine x_icmp_ne (tgt := 59) C dX12_placeOf_30 (by decide) (fun c21 => ?_) (fun c21 => ?_)
    · have h := h.1 c21
      exact t_X12_placeOf_59 C hr hnm hL6 t.1 t.2.1 t.2.2.1 t.2.2.2.1 t.2.2.2.2 _ h ls (lv_sub hl [0, 1, 2, 3, 4, 5] rfl)
    · have h := h.2 c21
      refine x_aload_n C dX12_placeOf_33 rfl (lv_at hl 0 rfl) ?_
      refine x_getP C fl_RX12_212 g1 dX12_placeOf_34 ?_
      refine x_iload C dX12_placeOf_37 (lv_at hl 5 rfl) ?_
      obtain ⟨b22, g23, h⟩ := h
      refine x_nn1 g23 ?_
      obtain ⟨g24, h⟩ := h
      obtain ⟨g25, h⟩ := h
      refine x_iald C g24 g25 dX12_placeOf_39 ?_
      refine x_topi (fun x26 e27 => ?_)
      have h := h x26 e27
      refine x_iload_n C dX12_placeOf_40 rfl (lv_at hl 3 rfl) ?_
      refine x_icmp_ne (tgt := 59) C dX12_placeOf_41 (by decide) (fun c28 => ?_) (fun c28 => ?_)
      · have h := h.1 c28
        exact t_X12_placeOf_59 C hr hnm hL6 t.1 t.2.1 t.2.2.1 t.2.2.2.1 t.2.2.2.2 _ h ls (lv_sub hl [0, 1, 2, 3, 4, 5] rfl)
      · have h := h.2 c28
        refine x_aload_n C dX12_placeOf_44 rfl (lv_at hl 0 rfl) ?_
        refine x_getP C fl_RX12_215 g1 dX12_placeOf_45 ?_
        refine x_iload C dX12_placeOf_48 (lv_at hl 5 rfl) ?_
        obtain ⟨b29, g30, h⟩ := h
        refine x_nn1 g30 ?_
        obtain ⟨g31, h⟩ := h
        obtain ⟨g32, h⟩ := h
        refine x_iald C g31 g32 dX12_placeOf_50 ?_
        refine x_topi (fun x33 e34 => ?_)
        have h := h x33 e34
        refine x_iload C dX12_placeOf_51 (lv_at hl 4 rfl) ?_
        refine x_icmp_ne (tgt := 59) C dX12_placeOf_53 (by decide) (fun c35 => ?_) (fun c35 => ?_)
        · have h := h.1 c35
          exact t_X12_placeOf_59 C hr hnm hL6 t.1 t.2.1 t.2.2.1 t.2.2.2.1 t.2.2.2.2 _ h ls (lv_sub hl [0, 1, 2, 3, 4, 5] rfl)
        · have h := h.2 c35
          refine x_iload C dX12_placeOf_56 (lv_at hl 5 rfl) ?_
          exact x_iret C hr dX12_placeOf_58 ⟨_, rfl, h⟩
def wp_X12_placeOf (a0 : Nat) (p1 : Int32) (p2 : Int32) (p3 : Int32) (p4 : Int32) (σ : Sto) (Q : Int32 → Sto → Prop) : Prop := (∀ x1 : Int32, x1 = (64 : Int32) * p1 → LF (f_X12_placeOf_6 a0  Q) (p1, p2, p3, p4, x1) σ)
set_option maxHeartbeats 4000000 in
set_option maxRecDepth 100000 in
theorem c_X12_placeOf (l : Launch) (D : va_G) (cy : Nat → ClassId) (a0 : Nat) (p1 : Int32) (p2 : Int32) (p3 : Int32) (p4 : Int32) (σ : Sto) (Q : Int32 → Sto → Prop) (h : wp_X12_placeOf a0 p1 p2 p3 p4 σ Q) : Mt l D cy yX12_placeOf cX12_placeOf 6 (some .int) rm_X12_placeOf [.ref a0, .int p1, .int p2, .int p3, .int p4] σ (PsI Q) := by
  unfold wp_X12_placeOf at h
  refine mt_of (by decide +kernel) (Nat.le_of_ble_eq_true rfl) ?_
  intro p e s m args below meth c A ls C hr hnm hl
  have C : Cx p s m args meth c D cy A cX12_placeOf 6 RX12 := C
  have hl : lv_has ls 6 [(0, .ref a0), (1, .int p1), (2, .int p2), (3, .int p3), (4, .int p4)] := hl
  refine x_bipush (v := 64) C dX12_placeOf_0 (by decide) ?_
  refine x_iload_n C dX12_placeOf_2 rfl (lv_at hl 1 rfl) ?_
  refine x_imul C dX12_placeOf_3 ?_
  refine x_topi (fun x1 e2 => ?_)
  have h := h x1 e2
  refine x_istore (i := 5) (lv' := [(5, .int x1), (0, .ref a0), (1, .int p1), (2, .int p2), (3, .int p3), (4, .int p4)]) C dX12_placeOf_4 hl (by decide) (by first | rfl | simp [vrc, cat_i, cat_r, cat_l]) (fun ls hl => ?_)
  exact h (fun t σ => ∀ ls : Array Slot, lv_has ls 6 [(0, .ref a0), (1, .int t.1), (2, .int t.2.1), (3, .int t.2.2.1), (4, .int t.2.2.2.1), (5, .int t.2.2.2.2)] → Xw p l e rm_X12_placeOf s m args below meth c D cy A σ 0 0 (MQ below (Qst D cy A (PsI Q)) args s rm_X12_placeOf.cells rm_X12_placeOf.slots A) (F0 m 6 ls [])) (t_X12_placeOf_6 C hr hnm  (fun t σ h => h)) ls (lv_sub hl [1, 2, 3, 4, 5, 0] rfl)
