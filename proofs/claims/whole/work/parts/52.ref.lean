theorem dX12_writeEntry_0 : decode cX12_writeEntry 0 = .ok (.iload_n 2, 1) := by decide +kernel
theorem dX12_writeEntry_1 : decode cX12_writeEntry 1 = .ok (.ifCond .eq 16, 3) := by decide +kernel
theorem dX12_writeEntry_4 : decode cX12_writeEntry 4 = .ok (.aload_n 0, 1) := by decide +kernel
theorem dX12_writeEntry_5 : decode cX12_writeEntry 5 = .ok (.getfield 71, 3) := by decide +kernel
theorem dX12_writeEntry_8 : decode cX12_writeEntry 8 = .ok (.iload_n 1, 1) := by decide +kernel
theorem dX12_writeEntry_9 : decode cX12_writeEntry 9 = .ok (.baload, 1) := by decide +kernel
theorem dX12_writeEntry_10 : decode cX12_writeEntry 10 = .ok (.ifCond .eq 7, 3) := by decide +kernel
theorem dX12_writeEntry_13 : decode cX12_writeEntry 13 = .ok (.iconst 1, 1) := by decide +kernel
theorem dX12_writeEntry_14 : decode cX12_writeEntry 14 = .ok (.goto 4, 3) := by decide +kernel
theorem dX12_writeEntry_17 : decode cX12_writeEntry 17 = .ok (.iconst 0, 1) := by decide +kernel
theorem dX12_writeEntry_18 : decode cX12_writeEntry 18 = .ok (.istore_n 3, 1) := by decide +kernel
theorem dX12_writeEntry_19 : decode cX12_writeEntry 19 = .ok (.aload_n 0, 1) := by decide +kernel
theorem dX12_writeEntry_20 : decode cX12_writeEntry 20 = .ok (.iload_n 3, 1) := by decide +kernel
theorem dX12_writeEntry_21 : decode cX12_writeEntry 21 = .ok (.ifCond .eq 7, 3) := by decide +kernel
theorem dX12_writeEntry_24 : decode cX12_writeEntry 24 = .ok (.iconst 1, 1) := by decide +kernel
theorem dX12_writeEntry_25 : decode cX12_writeEntry 25 = .ok (.goto 4, 3) := by decide +kernel
theorem dX12_writeEntry_28 : decode cX12_writeEntry 28 = .ok (.iconst 0, 1) := by decide +kernel
theorem dX12_writeEntry_29 : decode cX12_writeEntry 29 = .ok (.invokevirtual 495, 3) := by decide +kernel
theorem dX12_writeEntry_32 : decode cX12_writeEntry 32 = .ok (.aload_n 0, 1) := by decide +kernel
theorem dX12_writeEntry_33 : decode cX12_writeEntry 33 = .ok (.iload_n 3, 1) := by decide +kernel
theorem dX12_writeEntry_34 : decode cX12_writeEntry 34 = .ok (.ifCond .eq 12, 3) := by decide +kernel
theorem dX12_writeEntry_37 : decode cX12_writeEntry 37 = .ok (.aload_n 0, 1) := by decide +kernel
theorem dX12_writeEntry_38 : decode cX12_writeEntry 38 = .ok (.getfield 74, 3) := by decide +kernel
theorem dX12_writeEntry_41 : decode cX12_writeEntry 41 = .ok (.iload_n 1, 1) := by decide +kernel
theorem dX12_writeEntry_42 : decode cX12_writeEntry 42 = .ok (.iaload, 1) := by decide +kernel
theorem dX12_writeEntry_43 : decode cX12_writeEntry 43 = .ok (.goto 4, 3) := by decide +kernel
theorem dX12_writeEntry_46 : decode cX12_writeEntry 46 = .ok (.iconst 0, 1) := by decide +kernel
theorem dX12_writeEntry_47 : decode cX12_writeEntry 47 = .ok (.invokevirtual 495, 3) := by decide +kernel
theorem dX12_writeEntry_50 : decode cX12_writeEntry 50 = .ok (.aload_n 0, 1) := by decide +kernel
theorem dX12_writeEntry_51 : decode cX12_writeEntry 51 = .ok (.iload_n 3, 1) := by decide +kernel
theorem dX12_writeEntry_52 : decode cX12_writeEntry 52 = .ok (.ifCond .eq 12, 3) := by decide +kernel
theorem dX12_writeEntry_55 : decode cX12_writeEntry 55 = .ok (.aload_n 0, 1) := by decide +kernel
theorem dX12_writeEntry_56 : decode cX12_writeEntry 56 = .ok (.getfield 80, 3) := by decide +kernel
theorem dX12_writeEntry_59 : decode cX12_writeEntry 59 = .ok (.iload_n 1, 1) := by decide +kernel
theorem dX12_writeEntry_60 : decode cX12_writeEntry 60 = .ok (.iaload, 1) := by decide +kernel
theorem dX12_writeEntry_61 : decode cX12_writeEntry 61 = .ok (.goto 4, 3) := by decide +kernel
theorem dX12_writeEntry_64 : decode cX12_writeEntry 64 = .ok (.iconst 0, 1) := by decide +kernel
theorem dX12_writeEntry_65 : decode cX12_writeEntry 65 = .ok (.invokevirtual 495, 3) := by decide +kernel
theorem dX12_writeEntry_68 : decode cX12_writeEntry 68 = .ok (.aload_n 0, 1) := by decide +kernel
theorem dX12_writeEntry_69 : decode cX12_writeEntry 69 = .ok (.iload_n 3, 1) := by decide +kernel
theorem dX12_writeEntry_70 : decode cX12_writeEntry 70 = .ok (.ifCond .eq 12, 3) := by decide +kernel
theorem dX12_writeEntry_73 : decode cX12_writeEntry 73 = .ok (.aload_n 0, 1) := by decide +kernel
theorem dX12_writeEntry_74 : decode cX12_writeEntry 74 = .ok (.getfield 83, 3) := by decide +kernel
theorem dX12_writeEntry_77 : decode cX12_writeEntry 77 = .ok (.iload_n 1, 1) := by decide +kernel
theorem dX12_writeEntry_78 : decode cX12_writeEntry 78 = .ok (.iaload, 1) := by decide +kernel
theorem dX12_writeEntry_79 : decode cX12_writeEntry 79 = .ok (.goto 4, 3) := by decide +kernel
theorem dX12_writeEntry_82 : decode cX12_writeEntry 82 = .ok (.iconst 0, 1) := by decide +kernel
theorem dX12_writeEntry_83 : decode cX12_writeEntry 83 = .ok (.invokevirtual 495, 3) := by decide +kernel
theorem dX12_writeEntry_86 : decode cX12_writeEntry 86 = .ok (.aload_n 0, 1) := by decide +kernel
theorem dX12_writeEntry_87 : decode cX12_writeEntry 87 = .ok (.iload_n 3, 1) := by decide +kernel
theorem dX12_writeEntry_88 : decode cX12_writeEntry 88 = .ok (.ifCond .eq 12, 3) := by decide +kernel
theorem dX12_writeEntry_91 : decode cX12_writeEntry 91 = .ok (.aload_n 0, 1) := by decide +kernel
theorem dX12_writeEntry_92 : decode cX12_writeEntry 92 = .ok (.getfield 77, 3) := by decide +kernel
theorem dX12_writeEntry_95 : decode cX12_writeEntry 95 = .ok (.iload_n 1, 1) := by decide +kernel
theorem dX12_writeEntry_96 : decode cX12_writeEntry 96 = .ok (.iaload, 1) := by decide +kernel
theorem dX12_writeEntry_97 : decode cX12_writeEntry 97 = .ok (.goto 4, 3) := by decide +kernel
theorem dX12_writeEntry_100 : decode cX12_writeEntry 100 = .ok (.iconst 0, 1) := by decide +kernel
theorem dX12_writeEntry_101 : decode cX12_writeEntry 101 = .ok (.invokevirtual 501, 3) := by decide +kernel
theorem dX12_writeEntry_104 : decode cX12_writeEntry 104 = .ok (.aload_n 0, 1) := by decide +kernel
theorem dX12_writeEntry_105 : decode cX12_writeEntry 105 = .ok (.iload_n 3, 1) := by decide +kernel
theorem dX12_writeEntry_106 : decode cX12_writeEntry 106 = .ok (.ifCond .eq 12, 3) := by decide +kernel
theorem dX12_writeEntry_109 : decode cX12_writeEntry 109 = .ok (.aload_n 0, 1) := by decide +kernel
theorem dX12_writeEntry_110 : decode cX12_writeEntry 110 = .ok (.getfield 86, 3) := by decide +kernel
theorem dX12_writeEntry_113 : decode cX12_writeEntry 113 = .ok (.iload_n 1, 1) := by decide +kernel
theorem dX12_writeEntry_114 : decode cX12_writeEntry 114 = .ok (.iaload, 1) := by decide +kernel
theorem dX12_writeEntry_115 : decode cX12_writeEntry 115 = .ok (.goto 4, 3) := by decide +kernel
theorem dX12_writeEntry_118 : decode cX12_writeEntry 118 = .ok (.iconst 0, 1) := by decide +kernel
theorem dX12_writeEntry_119 : decode cX12_writeEntry 119 = .ok (.invokevirtual 501, 3) := by decide +kernel
theorem dX12_writeEntry_122 : decode cX12_writeEntry 122 = .ok (.aload_n 0, 1) := by decide +kernel
theorem dX12_writeEntry_123 : decode cX12_writeEntry 123 = .ok (.iconst 0, 1) := by decide +kernel
theorem dX12_writeEntry_124 : decode cX12_writeEntry 124 = .ok (.invokevirtual 501, 3) := by decide +kernel
theorem dX12_writeEntry_127 : decode cX12_writeEntry 127 = .ok (.return_, 1) := by decide +kernel
abbrev rm_X12_writeEntry : Room := { frames := 2, cells := 0, slots := 0, locals := 43 }
def b_X12_writeEntry_119 (a0 : Nat)  (Q : Sto → Prop) (s0 : Int32) (s1 : Nat) (σ : Sto) : Prop := (sK σ s1 = 12 ∧ (wp_X12_writeWord s1 s0 σ (fun (σ2 : Sto) => (sK σ2 a0 = 12 ∧ (wp_X12_writeWord a0 (0 : Int32) σ2 (fun (σ4 : Sto) => Q σ4))))))
set_option maxHeartbeats 4000000 in
set_option maxRecDepth 100000 in
theorem t_X12_writeEntry_119 {p : Program} {l : Launch} {e : Env} {s : State} {m : MethodId} {args : Array Value} {below : List Frame} {meth : Method} {c : Code} {D : va_G} {cy : Nat → ClassId} {A : Nat → Prop} {a0 : Nat} {Q : Sto → Prop} (C : Cx p s m args meth c D cy A cX12_writeEntry 4 RX12) (hr : meth.sig.returnType = none) (hnm : meth.name = yX12_writeEntry.name) (s0 : Int32) (s1 : Nat) (σ : Sto) (h : b_X12_writeEntry_119 a0  Q s0 s1 σ) (ls : Array Slot) (hl : lv_has ls 4 [(0, .ref a0)]) : Xw p l e rm_X12_writeEntry s m args below meth c D cy A σ 0 0 (MQ below (Qst D cy A (PsV Q)) args s rm_X12_writeEntry.cells rm_X12_writeEntry.slots A) (F0 m 119 ls [.int s0, .ref s1]) := by
  unfold b_X12_writeEntry_119 at h
  obtain ⟨g1, h⟩ := h
  refine x_callV (rm := rm_X12_writeWord) (rest := []) (As := [.int s0]) C cy_RX12_501 g1 (by decide) (by decide) rfl rfl (Nat.le_of_ble_eq_true rfl) hl.1 dX12_writeEntry_119 (c_X12_writeWord l D cy s1 s0 σ _ h) (ks_v (fun σ2 h => ?_))
  refine x_aload_n C dX12_writeEntry_122 rfl (lv_at hl 0 rfl) ?_
  refine x_iconst (v := 0) C dX12_writeEntry_123 (by decide) ?_
  obtain ⟨g3, h⟩ := h
  refine x_callV (rm := rm_X12_writeWord) (rest := []) (As := [.int (0 : Int32)]) C cy_RX12_501 g3 (by decide) (by decide) rfl rfl (Nat.le_of_ble_eq_true rfl) hl.1 dX12_writeEntry_124 (c_X12_writeWord l D cy a0 (0 : Int32) σ2 _ h) (ks_v (fun σ4 h => ?_))
  exact x_vret C hr dX12_writeEntry_127 ⟨rfl, h⟩
def b_X12_writeEntry_101 (a0 : Nat)  (Q : Sto → Prop) (p1 : Int32) (p3 : Int32) (s0 : Int32) (s1 : Nat) (σ : Sto) : Prop := (sK σ s1 = 12 ∧ (wp_X12_writeWord s1 s0 σ (fun (σ2 : Sto) => ((p3 = 0 → b_X12_writeEntry_119 a0  Q (0 : Int32) a0 σ2) ∧ (¬ p3 = 0 → (sK σ2 a0 = 12 ∧ (∃ b5 : Nat, sP σ2 a0 35 = some b5 ∧ (sK σ2 b5 = 14 ∧ (vp_in p1 (sN σ2 b5) ∧ (∀ x9 : Int32, x9 = sI σ2 b5 p1.toNatClampNeg → b_X12_writeEntry_119 a0  Q x9 a0 σ2))))))))))
set_option maxHeartbeats 4000000 in
set_option maxRecDepth 100000 in
theorem t_X12_writeEntry_101 {p : Program} {l : Launch} {e : Env} {s : State} {m : MethodId} {args : Array Value} {below : List Frame} {meth : Method} {c : Code} {D : va_G} {cy : Nat → ClassId} {A : Nat → Prop} {a0 : Nat} {Q : Sto → Prop} (C : Cx p s m args meth c D cy A cX12_writeEntry 4 RX12) (hr : meth.sig.returnType = none) (hnm : meth.name = yX12_writeEntry.name) (p1 : Int32) (p3 : Int32) (s0 : Int32) (s1 : Nat) (σ : Sto) (h : b_X12_writeEntry_101 a0  Q p1 p3 s0 s1 σ) (ls : Array Slot) (hl : lv_has ls 4 [(0, .ref a0), (1, .int p1), (3, .int p3)]) : Xw p l e rm_X12_writeEntry s m args below meth c D cy A σ 0 0 (MQ below (Qst D cy A (PsV Q)) args s rm_X12_writeEntry.cells rm_X12_writeEntry.slots A) (F0 m 101 ls [.int s0, .ref s1]) := by
  unfold b_X12_writeEntry_101 at h
  obtain ⟨g1, h⟩ := h
  refine x_callV (rm := rm_X12_writeWord) (rest := []) (As := [.int s0]) C cy_RX12_501 g1 (by decide) (by decide) rfl rfl (Nat.le_of_ble_eq_true rfl) hl.1 dX12_writeEntry_101 (c_X12_writeWord l D cy s1 s0 σ _ h) (ks_v (fun σ2 h => ?_))
  refine x_aload_n C dX12_writeEntry_104 rfl (lv_at hl 0 rfl) ?_
  refine x_iload_n C dX12_writeEntry_105 rfl (lv_at hl 2 rfl) ?_
  refine x_if_eq (tgt := 118) C dX12_writeEntry_106 (by decide) (fun c3 => ?_) (fun c3 => ?_)
  · have h := h.1 c3
    refine x_iconst (v := 0) C dX12_writeEntry_118 (by decide) ?_
    exact t_X12_writeEntry_119 C hr hnm  (0 : Int32) a0 _ h ls (lv_sub hl [0] rfl)
  · have h := h.2 c3
    refine x_aload_n C dX12_writeEntry_109 rfl (lv_at hl 0 rfl) ?_
    obtain ⟨g4, h⟩ := h
    refine x_getP C fl_RX12_86 g4 dX12_writeEntry_110 ?_
    refine x_iload_n C dX12_writeEntry_113 rfl (lv_at hl 1 rfl) ?_
    obtain ⟨b5, g6, h⟩ := h
    refine x_nn1 g6 ?_
    obtain ⟨g7, h⟩ := h
    obtain ⟨g8, h⟩ := h
    refine x_iald C g7 g8 dX12_writeEntry_114 ?_
    refine x_topi (fun x9 e10 => ?_)
    have h := h x9 e10
    refine x_goto (tgt := 119) C dX12_writeEntry_115 (by decide) ?_
    exact t_X12_writeEntry_119 C hr hnm  x9 a0 _ h ls (lv_sub hl [0] rfl)
def b_X12_writeEntry_83 (a0 : Nat)  (Q : Sto → Prop) (p1 : Int32) (p3 : Int32) (s0 : Int32) (s1 : Nat) (σ : Sto) : Prop := (sK σ s1 = 12 ∧ (wp_X12_write s1 s0 σ (fun (σ2 : Sto) => ((p3 = 0 → b_X12_writeEntry_101 a0  Q p1 p3 (0 : Int32) a0 σ2) ∧ (¬ p3 = 0 → (sK σ2 a0 = 12 ∧ (∃ b5 : Nat, sP σ2 a0 32 = some b5 ∧ (sK σ2 b5 = 14 ∧ (vp_in p1 (sN σ2 b5) ∧ (∀ x9 : Int32, x9 = sI σ2 b5 p1.toNatClampNeg → b_X12_writeEntry_101 a0  Q p1 p3 x9 a0 σ2))))))))))
set_option maxHeartbeats 4000000 in
set_option maxRecDepth 100000 in
theorem t_X12_writeEntry_83 {p : Program} {l : Launch} {e : Env} {s : State} {m : MethodId} {args : Array Value} {below : List Frame} {meth : Method} {c : Code} {D : va_G} {cy : Nat → ClassId} {A : Nat → Prop} {a0 : Nat} {Q : Sto → Prop} (C : Cx p s m args meth c D cy A cX12_writeEntry 4 RX12) (hr : meth.sig.returnType = none) (hnm : meth.name = yX12_writeEntry.name) (p1 : Int32) (p3 : Int32) (s0 : Int32) (s1 : Nat) (σ : Sto) (h : b_X12_writeEntry_83 a0  Q p1 p3 s0 s1 σ) (ls : Array Slot) (hl : lv_has ls 4 [(0, .ref a0), (1, .int p1), (3, .int p3)]) : Xw p l e rm_X12_writeEntry s m args below meth c D cy A σ 0 0 (MQ below (Qst D cy A (PsV Q)) args s rm_X12_writeEntry.cells rm_X12_writeEntry.slots A) (F0 m 83 ls [.int s0, .ref s1]) := by
  unfold b_X12_writeEntry_83 at h
  obtain ⟨g1, h⟩ := h
  refine x_callV (rm := rm_X12_write) (rest := []) (As := [.int s0]) C cy_RX12_495 g1 (by decide) (by decide) rfl rfl (Nat.le_of_ble_eq_true rfl) hl.1 dX12_writeEntry_83 (c_X12_write l D cy s1 s0 σ _ h) (ks_v (fun σ2 h => ?_))
  refine x_aload_n C dX12_writeEntry_86 rfl (lv_at hl 0 rfl) ?_
  refine x_iload_n C dX12_writeEntry_87 rfl (lv_at hl 2 rfl) ?_
  refine x_if_eq (tgt := 100) C dX12_writeEntry_88 (by decide) (fun c3 => ?_) (fun c3 => ?_)
  · have h := h.1 c3
    refine x_iconst (v := 0) C dX12_writeEntry_100 (by decide) ?_
    exact t_X12_writeEntry_101 C hr hnm  p1 p3 (0 : Int32) a0 _ h ls (lv_sub hl [0, 1, 2] rfl)
  · have h := h.2 c3
    refine x_aload_n C dX12_writeEntry_91 rfl (lv_at hl 0 rfl) ?_
    obtain ⟨g4, h⟩ := h
    refine x_getP C fl_RX12_77 g4 dX12_writeEntry_92 ?_
    refine x_iload_n C dX12_writeEntry_95 rfl (lv_at hl 1 rfl) ?_
    obtain ⟨b5, g6, h⟩ := h
    refine x_nn1 g6 ?_
    obtain ⟨g7, h⟩ := h
    obtain ⟨g8, h⟩ := h
    refine x_iald C g7 g8 dX12_writeEntry_96 ?_
    refine x_topi (fun x9 e10 => ?_)
    have h := h x9 e10
    refine x_goto (tgt := 101) C dX12_writeEntry_97 (by decide) ?_
    exact t_X12_writeEntry_101 C hr hnm  p1 p3 x9 a0 _ h ls (lv_sub hl [0, 1, 2] rfl)
def b_X12_writeEntry_65 (a0 : Nat)  (Q : Sto → Prop) (p1 : Int32) (p3 : Int32) (s0 : Int32) (s1 : Nat) (σ : Sto) : Prop := (sK σ s1 = 12 ∧ (wp_X12_write s1 s0 σ (fun (σ2 : Sto) => ((p3 = 0 → b_X12_writeEntry_83 a0  Q p1 p3 (0 : Int32) a0 σ2) ∧ (¬ p3 = 0 → (sK σ2 a0 = 12 ∧ (∃ b5 : Nat, sP σ2 a0 34 = some b5 ∧ (sK σ2 b5 = 14 ∧ (vp_in p1 (sN σ2 b5) ∧ (∀ x9 : Int32, x9 = sI σ2 b5 p1.toNatClampNeg → b_X12_writeEntry_83 a0  Q p1 p3 x9 a0 σ2))))))))))
set_option maxHeartbeats 4000000 in
set_option maxRecDepth 100000 in
theorem t_X12_writeEntry_65 {p : Program} {l : Launch} {e : Env} {s : State} {m : MethodId} {args : Array Value} {below : List Frame} {meth : Method} {c : Code} {D : va_G} {cy : Nat → ClassId} {A : Nat → Prop} {a0 : Nat} {Q : Sto → Prop} (C : Cx p s m args meth c D cy A cX12_writeEntry 4 RX12) (hr : meth.sig.returnType = none) (hnm : meth.name = yX12_writeEntry.name) (p1 : Int32) (p3 : Int32) (s0 : Int32) (s1 : Nat) (σ : Sto) (h : b_X12_writeEntry_65 a0  Q p1 p3 s0 s1 σ) (ls : Array Slot) (hl : lv_has ls 4 [(0, .ref a0), (1, .int p1), (3, .int p3)]) : Xw p l e rm_X12_writeEntry s m args below meth c D cy A σ 0 0 (MQ below (Qst D cy A (PsV Q)) args s rm_X12_writeEntry.cells rm_X12_writeEntry.slots A) (F0 m 65 ls [.int s0, .ref s1]) := by
  unfold b_X12_writeEntry_65 at h
  obtain ⟨g1, h⟩ := h
  refine x_callV (rm := rm_X12_write) (rest := []) (As := [.int s0]) C cy_RX12_495 g1 (by decide) (by decide) rfl rfl (Nat.le_of_ble_eq_true rfl) hl.1 dX12_writeEntry_65 (c_X12_write l D cy s1 s0 σ _ h) (ks_v (fun σ2 h => ?_))
  refine x_aload_n C dX12_writeEntry_68 rfl (lv_at hl 0 rfl) ?_
  refine x_iload_n C dX12_writeEntry_69 rfl (lv_at hl 2 rfl) ?_
  refine x_if_eq (tgt := 82) C dX12_writeEntry_70 (by decide) (fun c3 => ?_) (fun c3 => ?_)
  · have h := h.1 c3
    refine x_iconst (v := 0) C dX12_writeEntry_82 (by decide) ?_
    exact t_X12_writeEntry_83 C hr hnm  p1 p3 (0 : Int32) a0 _ h ls (lv_sub hl [0, 1, 2] rfl)
  · have h := h.2 c3
    refine x_aload_n C dX12_writeEntry_73 rfl (lv_at hl 0 rfl) ?_
    obtain ⟨g4, h⟩ := h
    refine x_getP C fl_RX12_83 g4 dX12_writeEntry_74 ?_
    refine x_iload_n C dX12_writeEntry_77 rfl (lv_at hl 1 rfl) ?_
    obtain ⟨b5, g6, h⟩ := h
    refine x_nn1 g6 ?_
    obtain ⟨g7, h⟩ := h
    obtain ⟨g8, h⟩ := h
    refine x_iald C g7 g8 dX12_writeEntry_78 ?_
    refine x_topi (fun x9 e10 => ?_)
    have h := h x9 e10
    refine x_goto (tgt := 83) C dX12_writeEntry_79 (by decide) ?_
    exact t_X12_writeEntry_83 C hr hnm  p1 p3 x9 a0 _ h ls (lv_sub hl [0, 1, 2] rfl)
def b_X12_writeEntry_47 (a0 : Nat)  (Q : Sto → Prop) (p1 : Int32) (p3 : Int32) (s0 : Int32) (s1 : Nat) (σ : Sto) : Prop := (sK σ s1 = 12 ∧ (wp_X12_write s1 s0 σ (fun (σ2 : Sto) => ((p3 = 0 → b_X12_writeEntry_65 a0  Q p1 p3 (0 : Int32) a0 σ2) ∧ (¬ p3 = 0 → (sK σ2 a0 = 12 ∧ (∃ b5 : Nat, sP σ2 a0 33 = some b5 ∧ (sK σ2 b5 = 14 ∧ (vp_in p1 (sN σ2 b5) ∧ (∀ x9 : Int32, x9 = sI σ2 b5 p1.toNatClampNeg → b_X12_writeEntry_65 a0  Q p1 p3 x9 a0 σ2))))))))))
set_option maxHeartbeats 4000000 in
set_option maxRecDepth 100000 in
theorem t_X12_writeEntry_47 {p : Program} {l : Launch} {e : Env} {s : State} {m : MethodId} {args : Array Value} {below : List Frame} {meth : Method} {c : Code} {D : va_G} {cy : Nat → ClassId} {A : Nat → Prop} {a0 : Nat} {Q : Sto → Prop} (C : Cx p s m args meth c D cy A cX12_writeEntry 4 RX12) (hr : meth.sig.returnType = none) (hnm : meth.name = yX12_writeEntry.name) (p1 : Int32) (p3 : Int32) (s0 : Int32) (s1 : Nat) (σ : Sto) (h : b_X12_writeEntry_47 a0  Q p1 p3 s0 s1 σ) (ls : Array Slot) (hl : lv_has ls 4 [(0, .ref a0), (1, .int p1), (3, .int p3)]) : Xw p l e rm_X12_writeEntry s m args below meth c D cy A σ 0 0 (MQ below (Qst D cy A (PsV Q)) args s rm_X12_writeEntry.cells rm_X12_writeEntry.slots A) (F0 m 47 ls [.int s0, .ref s1]) := by
  unfold b_X12_writeEntry_47 at h
  obtain ⟨g1, h⟩ := h
  refine x_callV (rm := rm_X12_write) (rest := []) (As := [.int s0]) C cy_RX12_495 g1 (by decide) (by decide) rfl rfl (Nat.le_of_ble_eq_true rfl) hl.1 dX12_writeEntry_47 (c_X12_write l D cy s1 s0 σ _ h) (ks_v (fun σ2 h => ?_))
  refine x_aload_n C dX12_writeEntry_50 rfl (lv_at hl 0 rfl) ?_
  refine x_iload_n C dX12_writeEntry_51 rfl (lv_at hl 2 rfl) ?_
  refine x_if_eq (tgt := 64) C dX12_writeEntry_52 (by decide) (fun c3 => ?_) (fun c3 => ?_)
  · have h := h.1 c3
    refine x_iconst (v := 0) C dX12_writeEntry_64 (by decide) ?_
    exact t_X12_writeEntry_65 C hr hnm  p1 p3 (0 : Int32) a0 _ h ls (lv_sub hl [0, 1, 2] rfl)
  · have h := h.2 c3
    refine x_aload_n C dX12_writeEntry_55 rfl (lv_at hl 0 rfl) ?_
    obtain ⟨g4, h⟩ := h
    refine x_getP C fl_RX12_80 g4 dX12_writeEntry_56 ?_
    refine x_iload_n C dX12_writeEntry_59 rfl (lv_at hl 1 rfl) ?_
    obtain ⟨b5, g6, h⟩ := h
    refine x_nn1 g6 ?_
    obtain ⟨g7, h⟩ := h
    obtain ⟨g8, h⟩ := h
    refine x_iald C g7 g8 dX12_writeEntry_60 ?_
    refine x_topi (fun x9 e10 => ?_)
    have h := h x9 e10
    refine x_goto (tgt := 65) C dX12_writeEntry_61 (by decide) ?_
    exact t_X12_writeEntry_65 C hr hnm  p1 p3 x9 a0 _ h ls (lv_sub hl [0, 1, 2] rfl)
def b_X12_writeEntry_29 (a0 : Nat)  (Q : Sto → Prop) (p1 : Int32) (p3 : Int32) (s0 : Int32) (s1 : Nat) (σ : Sto) : Prop := (sK σ s1 = 12 ∧ (wp_X12_write s1 s0 σ (fun (σ2 : Sto) => ((p3 = 0 → b_X12_writeEntry_47 a0  Q p1 p3 (0 : Int32) a0 σ2) ∧ (¬ p3 = 0 → (sK σ2 a0 = 12 ∧ (∃ b5 : Nat, sP σ2 a0 31 = some b5 ∧ (sK σ2 b5 = 14 ∧ (vp_in p1 (sN σ2 b5) ∧ (∀ x9 : Int32, x9 = sI σ2 b5 p1.toNatClampNeg → b_X12_writeEntry_47 a0  Q p1 p3 x9 a0 σ2))))))))))
set_option maxHeartbeats 4000000 in
set_option maxRecDepth 100000 in
theorem t_X12_writeEntry_29 {p : Program} {l : Launch} {e : Env} {s : State} {m : MethodId} {args : Array Value} {below : List Frame} {meth : Method} {c : Code} {D : va_G} {cy : Nat → ClassId} {A : Nat → Prop} {a0 : Nat} {Q : Sto → Prop} (C : Cx p s m args meth c D cy A cX12_writeEntry 4 RX12) (hr : meth.sig.returnType = none) (hnm : meth.name = yX12_writeEntry.name) (p1 : Int32) (p3 : Int32) (s0 : Int32) (s1 : Nat) (σ : Sto) (h : b_X12_writeEntry_29 a0  Q p1 p3 s0 s1 σ) (ls : Array Slot) (hl : lv_has ls 4 [(0, .ref a0), (1, .int p1), (3, .int p3)]) : Xw p l e rm_X12_writeEntry s m args below meth c D cy A σ 0 0 (MQ below (Qst D cy A (PsV Q)) args s rm_X12_writeEntry.cells rm_X12_writeEntry.slots A) (F0 m 29 ls [.int s0, .ref s1]) := by
  unfold b_X12_writeEntry_29 at h
  obtain ⟨g1, h⟩ := h
  refine x_callV (rm := rm_X12_write) (rest := []) (As := [.int s0]) C cy_RX12_495 g1 (by decide) (by decide) rfl rfl (Nat.le_of_ble_eq_true rfl) hl.1 dX12_writeEntry_29 (c_X12_write l D cy s1 s0 σ _ h) (ks_v (fun σ2 h => ?_))
  refine x_aload_n C dX12_writeEntry_32 rfl (lv_at hl 0 rfl) ?_
  refine x_iload_n C dX12_writeEntry_33 rfl (lv_at hl 2 rfl) ?_
  refine x_if_eq (tgt := 46) C dX12_writeEntry_34 (by decide) (fun c3 => ?_) (fun c3 => ?_)
  · have h := h.1 c3
    refine x_iconst (v := 0) C dX12_writeEntry_46 (by decide) ?_
    exact t_X12_writeEntry_47 C hr hnm  p1 p3 (0 : Int32) a0 _ h ls (lv_sub hl [0, 1, 2] rfl)
  · have h := h.2 c3
    refine x_aload_n C dX12_writeEntry_37 rfl (lv_at hl 0 rfl) ?_
    obtain ⟨g4, h⟩ := h
    refine x_getP C fl_RX12_74 g4 dX12_writeEntry_38 ?_
    refine x_iload_n C dX12_writeEntry_41 rfl (lv_at hl 1 rfl) ?_
    obtain ⟨b5, g6, h⟩ := h
    refine x_nn1 g6 ?_
    obtain ⟨g7, h⟩ := h
    obtain ⟨g8, h⟩ := h
    refine x_iald C g7 g8 dX12_writeEntry_42 ?_
    refine x_topi (fun x9 e10 => ?_)
    have h := h x9 e10
    refine x_goto (tgt := 47) C dX12_writeEntry_43 (by decide) ?_
    exact t_X12_writeEntry_47 C hr hnm  p1 p3 x9 a0 _ h ls (lv_sub hl [0, 1, 2] rfl)
def b_X12_writeEntry_18 (a0 : Nat)  (Q : Sto → Prop) (p1 : Int32) (s0 : Int32) (σ : Sto) : Prop := ((s0 = 0 → b_X12_writeEntry_29 a0  Q p1 s0 (0 : Int32) a0 σ) ∧ (¬ s0 = 0 → b_X12_writeEntry_29 a0  Q p1 s0 (1 : Int32) a0 σ))
set_option maxHeartbeats 4000000 in
set_option maxRecDepth 100000 in
theorem t_X12_writeEntry_18 {p : Program} {l : Launch} {e : Env} {s : State} {m : MethodId} {args : Array Value} {below : List Frame} {meth : Method} {c : Code} {D : va_G} {cy : Nat → ClassId} {A : Nat → Prop} {a0 : Nat} {Q : Sto → Prop} (C : Cx p s m args meth c D cy A cX12_writeEntry 4 RX12) (hr : meth.sig.returnType = none) (hnm : meth.name = yX12_writeEntry.name) (p1 : Int32) (s0 : Int32) (σ : Sto) (h : b_X12_writeEntry_18 a0  Q p1 s0 σ) (ls : Array Slot) (hl : lv_has ls 4 [(0, .ref a0), (1, .int p1)]) : Xw p l e rm_X12_writeEntry s m args below meth c D cy A σ 0 0 (MQ below (Qst D cy A (PsV Q)) args s rm_X12_writeEntry.cells rm_X12_writeEntry.slots A) (F0 m 18 ls [.int s0]) := by
  unfold b_X12_writeEntry_18 at h
  refine x_istore_n (i := 3) (lv' := [(3, .int s0), (0, .ref a0), (1, .int p1)]) C dX12_writeEntry_18 rfl hl (by decide) (by first | rfl | simp [vrc, cat_i, cat_r, cat_l]) (fun ls hl => ?_)
  refine x_aload_n C dX12_writeEntry_19 rfl (lv_at hl 1 rfl) ?_
  refine x_iload_n C dX12_writeEntry_20 rfl (lv_at hl 0 rfl) ?_
  refine x_if_eq (tgt := 28) C dX12_writeEntry_21 (by decide) (fun c1 => ?_) (fun c1 => ?_)
  · have h := h.1 c1
    refine x_iconst (v := 0) C dX12_writeEntry_28 (by decide) ?_
    exact t_X12_writeEntry_29 C hr hnm  p1 s0 (0 : Int32) a0 _ h ls (lv_sub hl [1, 2, 0] rfl)
  · have h := h.2 c1
    refine x_iconst (v := 1) C dX12_writeEntry_24 (by decide) ?_
    refine x_goto (tgt := 29) C dX12_writeEntry_25 (by decide) ?_
    exact t_X12_writeEntry_29 C hr hnm  p1 s0 (1 : Int32) a0 _ h ls (lv_sub hl [1, 2, 0] rfl)
def b_X12_writeEntry_17 (a0 : Nat)  (Q : Sto → Prop) (p1 : Int32) (σ : Sto) : Prop := b_X12_writeEntry_18 a0  Q p1 (0 : Int32) σ
set_option maxHeartbeats 4000000 in
set_option maxRecDepth 100000 in
theorem t_X12_writeEntry_17 {p : Program} {l : Launch} {e : Env} {s : State} {m : MethodId} {args : Array Value} {below : List Frame} {meth : Method} {c : Code} {D : va_G} {cy : Nat → ClassId} {A : Nat → Prop} {a0 : Nat} {Q : Sto → Prop} (C : Cx p s m args meth c D cy A cX12_writeEntry 4 RX12) (hr : meth.sig.returnType = none) (hnm : meth.name = yX12_writeEntry.name) (p1 : Int32) (σ : Sto) (h : b_X12_writeEntry_17 a0  Q p1 σ) (ls : Array Slot) (hl : lv_has ls 4 [(0, .ref a0), (1, .int p1)]) : Xw p l e rm_X12_writeEntry s m args below meth c D cy A σ 0 0 (MQ below (Qst D cy A (PsV Q)) args s rm_X12_writeEntry.cells rm_X12_writeEntry.slots A) (F0 m 17 ls []) := by
  unfold b_X12_writeEntry_17 at h
  refine x_iconst (v := 0) C dX12_writeEntry_17 (by decide) ?_
  exact t_X12_writeEntry_18 C hr hnm  p1 (0 : Int32) _ h ls (lv_sub hl [0, 1] rfl)
def wp_X12_writeEntry (a0 : Nat) (p1 : Int32) (p2 : Int32) (σ : Sto) (Q : Sto → Prop) : Prop := ((p2 = 0 → b_X12_writeEntry_17 a0  Q p1 σ) ∧ (¬ p2 = 0 → (sK σ a0 = 12 ∧ (∃ b3 : Nat, sP σ a0 30 = some b3 ∧ (sK σ b3 = 16 ∧ (vp_in p1 (sN σ b3) ∧ (∀ x7 : Int32, x7 = sI σ b3 p1.toNatClampNeg → ((x7 = 0 → b_X12_writeEntry_17 a0  Q p1 σ) ∧ (¬ x7 = 0 → b_X12_writeEntry_18 a0  Q p1 (1 : Int32) σ)))))))))
set_option maxHeartbeats 4000000 in
set_option maxRecDepth 100000 in
theorem c_X12_writeEntry (l : Launch) (D : va_G) (cy : Nat → ClassId) (a0 : Nat) (p1 : Int32) (p2 : Int32) (σ : Sto) (Q : Sto → Prop) (h : wp_X12_writeEntry a0 p1 p2 σ Q) : Mt l D cy yX12_writeEntry cX12_writeEntry 4 none rm_X12_writeEntry [.ref a0, .int p1, .int p2] σ (PsV Q) := by
  unfold wp_X12_writeEntry at h
  refine mt_of (by decide +kernel) (Nat.le_of_ble_eq_true rfl) ?_
  intro p e s m args below meth c A ls C hr hnm hl
  have C : Cx p s m args meth c D cy A cX12_writeEntry 4 RX12 := C
  have hl : lv_has ls 4 [(0, .ref a0), (1, .int p1), (2, .int p2)] := hl
  refine x_iload_n C dX12_writeEntry_0 rfl (lv_at hl 2 rfl) ?_
  refine x_if_eq (tgt := 17) C dX12_writeEntry_1 (by decide) (fun c1 => ?_) (fun c1 => ?_)
  · have h := h.1 c1
    exact t_X12_writeEntry_17 C hr hnm  p1 _ h ls (lv_sub hl [0, 1] rfl)
  · have h := h.2 c1
    refine x_aload_n C dX12_writeEntry_4 rfl (lv_at hl 0 rfl) ?_
    obtain ⟨g2, h⟩ := h
    refine x_getP C fl_RX12_71 g2 dX12_writeEntry_5 ?_
    refine x_iload_n C dX12_writeEntry_8 rfl (lv_at hl 1 rfl) ?_
    obtain ⟨b3, g4, h⟩ := h
    refine x_nn1 g4 ?_
    obtain ⟨g5, h⟩ := h
    obtain ⟨g6, h⟩ := h
    refine x_zald C g5 g6 dX12_writeEntry_9 ?_
    refine x_topi (fun x7 e8 => ?_)
    have h := h x7 e8
    refine x_if_eq (tgt := 17) C dX12_writeEntry_10 (by decide) (fun c9 => ?_) (fun c9 => ?_)
    · have h := h.1 c9
      exact t_X12_writeEntry_17 C hr hnm  p1 _ h ls (lv_sub hl [0, 1] rfl)
    · have h := h.2 c9
      refine x_iconst (v := 1) C dX12_writeEntry_13 (by decide) ?_
      refine x_goto (tgt := 18) C dX12_writeEntry_14 (by decide) ?_
      exact t_X12_writeEntry_18 C hr hnm  p1 (1 : Int32) _ h ls (lv_sub hl [0, 1] rfl)
theorem dX12_image_0 : decode cX12_image 0 = .ok (.aload_n 0, 1) := by decide +kernel
theorem dX12_image_1 : decode cX12_image 1 = .ok (.aload_n 0, 1) := by decide +kernel
theorem dX12_image_2 : decode cX12_image 2 = .ok (.iload_n 1, 1) := by decide +kernel
theorem dX12_image_3 : decode cX12_image 3 = .ok (.invokevirtual 483, 3) := by decide +kernel
theorem dX12_image_6 : decode cX12_image 6 = .ok (.ifCond .eq 7, 3) := by decide +kernel
theorem dX12_image_9 : decode cX12_image 9 = .ok (.iconst 0, 1) := by decide +kernel
theorem dX12_image_10 : decode cX12_image 10 = .ok (.goto 4, 3) := by decide +kernel
theorem dX12_image_13 : decode cX12_image 13 = .ok (.iconst 1, 1) := by decide +kernel
theorem dX12_image_14 : decode cX12_image 14 = .ok (.putfield 267, 3) := by decide +kernel
theorem dX12_image_17 : decode cX12_image 17 = .ok (.aload_n 0, 1) := by decide +kernel
theorem dX12_image_18 : decode cX12_image 18 = .ok (.getfield 267, 3) := by decide +kernel
theorem dX12_image_21 : decode cX12_image 21 = .ok (.ifCond .le 5, 3) := by decide +kernel
theorem dX12_image_24 : decode cX12_image 24 = .ok (.iconst 0, 1) := by decide +kernel
theorem dX12_image_25 : decode cX12_image 25 = .ok (.ireturn, 1) := by decide +kernel
theorem dX12_image_26 : decode cX12_image 26 = .ok (.aload_n 0, 1) := by decide +kernel
theorem dX12_image_27 : decode cX12_image 27 = .ok (.iconst 0, 1) := by decide +kernel
theorem dX12_image_28 : decode cX12_image 28 = .ok (.putfield 492, 3) := by decide +kernel
theorem dX12_image_31 : decode cX12_image 31 = .ok (.aload_n 0, 1) := by decide +kernel
theorem dX12_image_32 : decode cX12_image 32 = .ok (.bipush 79, 2) := by decide +kernel
theorem dX12_image_34 : decode cX12_image 34 = .ok (.invokevirtual 495, 3) := by decide +kernel
theorem dX12_image_37 : decode cX12_image 37 = .ok (.aload_n 0, 1) := by decide +kernel
theorem dX12_image_38 : decode cX12_image 38 = .ok (.bipush 82, 2) := by decide +kernel
theorem dX12_image_40 : decode cX12_image 40 = .ok (.invokevirtual 495, 3) := by decide +kernel
theorem dX12_image_43 : decode cX12_image 43 = .ok (.aload_n 0, 1) := by decide +kernel
theorem dX12_image_44 : decode cX12_image 44 = .ok (.bipush 87, 2) := by decide +kernel
theorem dX12_image_46 : decode cX12_image 46 = .ok (.invokevirtual 495, 3) := by decide +kernel
theorem dX12_image_49 : decode cX12_image 49 = .ok (.aload_n 0, 1) := by decide +kernel
theorem dX12_image_50 : decode cX12_image 50 = .ok (.bipush 75, 2) := by decide +kernel
theorem dX12_image_52 : decode cX12_image 52 = .ok (.invokevirtual 495, 3) := by decide +kernel
theorem dX12_image_55 : decode cX12_image 55 = .ok (.aload_n 0, 1) := by decide +kernel
theorem dX12_image_56 : decode cX12_image 56 = .ok (.iload_n 1, 1) := by decide +kernel
theorem dX12_image_57 : decode cX12_image 57 = .ok (.invokevirtual 495, 3) := by decide +kernel
theorem dX12_image_60 : decode cX12_image 60 = .ok (.aload_n 0, 1) := by decide +kernel
theorem dX12_image_61 : decode cX12_image 61 = .ok (.aload_n 0, 1) := by decide +kernel
theorem dX12_image_62 : decode cX12_image 62 = .ok (.getfield 50, 3) := by decide +kernel
theorem dX12_image_65 : decode cX12_image 65 = .ok (.iload_n 1, 1) := by decide +kernel
theorem dX12_image_66 : decode cX12_image 66 = .ok (.iaload, 1) := by decide +kernel
theorem dX12_image_67 : decode cX12_image 67 = .ok (.invokevirtual 495, 3) := by decide +kernel
theorem dX12_image_70 : decode cX12_image 70 = .ok (.aload_n 0, 1) := by decide +kernel
theorem dX12_image_71 : decode cX12_image 71 = .ok (.iconst 0, 1) := by decide +kernel
theorem dX12_image_72 : decode cX12_image 72 = .ok (.invokevirtual 495, 3) := by decide +kernel
theorem dX12_image_75 : decode cX12_image 75 = .ok (.aload_n 0, 1) := by decide +kernel
theorem dX12_image_76 : decode cX12_image 76 = .ok (.iconst 0, 1) := by decide +kernel
theorem dX12_image_77 : decode cX12_image 77 = .ok (.invokevirtual 495, 3) := by decide +kernel
theorem dX12_image_80 : decode cX12_image 80 = .ok (.aload_n 0, 1) := by decide +kernel
theorem dX12_image_81 : decode cX12_image 81 = .ok (.aload_n 0, 1) := by decide +kernel
theorem dX12_image_82 : decode cX12_image 82 = .ok (.getfield 44, 3) := by decide +kernel
theorem dX12_image_85 : decode cX12_image 85 = .ok (.iload_n 1, 1) := by decide +kernel
theorem dX12_image_86 : decode cX12_image 86 = .ok (.iaload, 1) := by decide +kernel
theorem dX12_image_87 : decode cX12_image 87 = .ok (.invokevirtual 501, 3) := by decide +kernel
theorem dX12_image_90 : decode cX12_image 90 = .ok (.aload_n 0, 1) := by decide +kernel
theorem dX12_image_91 : decode cX12_image 91 = .ok (.aload_n 0, 1) := by decide +kernel
theorem dX12_image_92 : decode cX12_image 92 = .ok (.getfield 47, 3) := by decide +kernel
theorem dX12_image_95 : decode cX12_image 95 = .ok (.iload_n 1, 1) := by decide +kernel
theorem dX12_image_96 : decode cX12_image 96 = .ok (.iaload, 1) := by decide +kernel
theorem dX12_image_97 : decode cX12_image 97 = .ok (.invokevirtual 501, 3) := by decide +kernel
theorem dX12_image_100 : decode cX12_image 100 = .ok (.aload_n 0, 1) := by decide +kernel
theorem dX12_image_101 : decode cX12_image 101 = .ok (.aload_n 0, 1) := by decide +kernel
theorem dX12_image_102 : decode cX12_image 102 = .ok (.getfield 53, 3) := by decide +kernel
theorem dX12_image_105 : decode cX12_image 105 = .ok (.iload_n 1, 1) := by decide +kernel
theorem dX12_image_106 : decode cX12_image 106 = .ok (.iaload, 1) := by decide +kernel
theorem dX12_image_107 : decode cX12_image 107 = .ok (.invokevirtual 501, 3) := by decide +kernel
theorem dX12_image_110 : decode cX12_image 110 = .ok (.aload_n 0, 1) := by decide +kernel
theorem dX12_image_111 : decode cX12_image 111 = .ok (.aload_n 0, 1) := by decide +kernel
theorem dX12_image_112 : decode cX12_image 112 = .ok (.getfield 56, 3) := by decide +kernel
theorem dX12_image_115 : decode cX12_image 115 = .ok (.iload_n 1, 1) := by decide +kernel
theorem dX12_image_116 : decode cX12_image 116 = .ok (.iaload, 1) := by decide +kernel
theorem dX12_image_117 : decode cX12_image 117 = .ok (.invokevirtual 501, 3) := by decide +kernel
theorem dX12_image_120 : decode cX12_image 120 = .ok (.aload_n 0, 1) := by decide +kernel
theorem dX12_image_121 : decode cX12_image 121 = .ok (.aload_n 0, 1) := by decide +kernel
theorem dX12_image_122 : decode cX12_image 122 = .ok (.getfield 62, 3) := by decide +kernel
theorem dX12_image_125 : decode cX12_image 125 = .ok (.iload_n 1, 1) := by decide +kernel
theorem dX12_image_126 : decode cX12_image 126 = .ok (.iaload, 1) := by decide +kernel
theorem dX12_image_127 : decode cX12_image 127 = .ok (.invokevirtual 501, 3) := by decide +kernel
theorem dX12_image_130 : decode cX12_image 130 = .ok (.aload_n 0, 1) := by decide +kernel
theorem dX12_image_131 : decode cX12_image 131 = .ok (.aload_n 0, 1) := by decide +kernel
theorem dX12_image_132 : decode cX12_image 132 = .ok (.getfield 65, 3) := by decide +kernel
theorem dX12_image_135 : decode cX12_image 135 = .ok (.iload_n 1, 1) := by decide +kernel
theorem dX12_image_136 : decode cX12_image 136 = .ok (.iaload, 1) := by decide +kernel
theorem dX12_image_137 : decode cX12_image 137 = .ok (.invokevirtual 501, 3) := by decide +kernel
theorem dX12_image_140 : decode cX12_image 140 = .ok (.aload_n 0, 1) := by decide +kernel
theorem dX12_image_141 : decode cX12_image 141 = .ok (.aload_n 0, 1) := by decide +kernel
theorem dX12_image_142 : decode cX12_image 142 = .ok (.getfield 68, 3) := by decide +kernel
theorem dX12_image_145 : decode cX12_image 145 = .ok (.iload_n 1, 1) := by decide +kernel
theorem dX12_image_146 : decode cX12_image 146 = .ok (.iaload, 1) := by decide +kernel
theorem dX12_image_147 : decode cX12_image 147 = .ok (.invokevirtual 501, 3) := by decide +kernel
theorem dX12_image_150 : decode cX12_image 150 = .ok (.aload_n 0, 1) := by decide +kernel
theorem dX12_image_151 : decode cX12_image 151 = .ok (.aload_n 0, 1) := by decide +kernel
theorem dX12_image_152 : decode cX12_image 152 = .ok (.getfield 59, 3) := by decide +kernel
theorem dX12_image_155 : decode cX12_image 155 = .ok (.iload_n 1, 1) := by decide +kernel
theorem dX12_image_156 : decode cX12_image 156 = .ok (.iaload, 1) := by decide +kernel
theorem dX12_image_157 : decode cX12_image 157 = .ok (.invokevirtual 501, 3) := by decide +kernel
theorem dX12_image_160 : decode cX12_image 160 = .ok (.aload_n 0, 1) := by decide +kernel
theorem dX12_image_161 : decode cX12_image 161 = .ok (.iconst 0, 1) := by decide +kernel
theorem dX12_image_162 : decode cX12_image 162 = .ok (.invokevirtual 524, 3) := by decide +kernel
theorem dX12_image_165 : decode cX12_image 165 = .ok (.iconst 1, 1) := by decide +kernel
theorem dX12_image_166 : decode cX12_image 166 = .ok (.istore_n 2, 1) := by decide +kernel
theorem dX12_image_167 : decode cX12_image 167 = .ok (.iload_n 2, 1) := by decide +kernel
theorem dX12_image_168 : decode cX12_image 168 = .ok (.iconst 5, 1) := by decide +kernel
theorem dX12_image_169 : decode cX12_image 169 = .ok (.if_icmp .ge 60, 3) := by decide +kernel
theorem dX12_image_172 : decode cX12_image 172 = .ok (.bipush 25, 2) := by decide +kernel
theorem dX12_image_174 : decode cX12_image 174 = .ok (.iload_n 2, 1) := by decide +kernel
theorem dX12_image_175 : decode cX12_image 175 = .ok (.iconst 1, 1) := by decide +kernel
theorem dX12_image_176 : decode cX12_image 176 = .ok (.isub, 1) := by decide +kernel
theorem dX12_image_177 : decode cX12_image 177 = .ok (.imul, 1) := by decide +kernel
theorem dX12_image_178 : decode cX12_image 178 = .ok (.istore_n 3, 1) := by decide +kernel
theorem dX12_image_179 : decode cX12_image 179 = .ok (.iload_n 3, 1) := by decide +kernel
theorem dX12_image_180 : decode cX12_image 180 = .ok (.bipush 25, 2) := by decide +kernel
theorem dX12_image_182 : decode cX12_image 182 = .ok (.iload_n 2, 1) := by decide +kernel
theorem dX12_image_183 : decode cX12_image 183 = .ok (.imul, 1) := by decide +kernel
theorem dX12_image_184 : decode cX12_image 184 = .ok (.if_icmp .ge 34, 3) := by decide +kernel
theorem dX12_image_187 : decode cX12_image 187 = .ok (.aload_n 0, 1) := by decide +kernel
theorem dX12_image_188 : decode cX12_image 188 = .ok (.bipush 100, 2) := by decide +kernel
theorem dX12_image_190 : decode cX12_image 190 = .ok (.iload_n 1, 1) := by decide +kernel
theorem dX12_image_191 : decode cX12_image 191 = .ok (.imul, 1) := by decide +kernel
theorem dX12_image_192 : decode cX12_image 192 = .ok (.iload_n 3, 1) := by decide +kernel
theorem dX12_image_193 : decode cX12_image 193 = .ok (.iadd, 1) := by decide +kernel
theorem dX12_image_194 : decode cX12_image 194 = .ok (.iload_n 3, 1) := by decide +kernel
theorem dX12_image_195 : decode cX12_image 195 = .ok (.aload_n 0, 1) := by decide +kernel
theorem dX12_image_196 : decode cX12_image 196 = .ok (.getfield 59, 3) := by decide +kernel
theorem dX12_image_199 : decode cX12_image 199 = .ok (.iload_n 1, 1) := by decide +kernel
theorem dX12_image_200 : decode cX12_image 200 = .ok (.iaload, 1) := by decide +kernel
theorem dX12_image_201 : decode cX12_image 201 = .ok (.if_icmp .ge 7, 3) := by decide +kernel
theorem dX12_image_204 : decode cX12_image 204 = .ok (.iconst 1, 1) := by decide +kernel
theorem dX12_image_205 : decode cX12_image 205 = .ok (.goto 4, 3) := by decide +kernel
theorem dX12_image_208 : decode cX12_image 208 = .ok (.iconst 0, 1) := by decide +kernel
theorem dX12_image_209 : decode cX12_image 209 = .ok (.invokevirtual 527, 3) := by decide +kernel
theorem dX12_image_212 : decode cX12_image 212 = .ok (.iinc 3 1, 3) := by decide +kernel
theorem dX12_image_215 : decode cX12_image 215 = .ok (.goto (-36), 3) := by decide +kernel
theorem dX12_image_218 : decode cX12_image 218 = .ok (.aload_n 0, 1) := by decide +kernel
theorem dX12_image_219 : decode cX12_image 219 = .ok (.iload_n 2, 1) := by decide +kernel
theorem dX12_image_220 : decode cX12_image 220 = .ok (.invokevirtual 524, 3) := by decide +kernel
theorem dX12_image_223 : decode cX12_image 223 = .ok (.iinc 2 1, 3) := by decide +kernel
theorem dX12_image_226 : decode cX12_image 226 = .ok (.goto (-59), 3) := by decide +kernel
theorem dX12_image_229 : decode cX12_image 229 = .ok (.aload_n 0, 1) := by decide +kernel
theorem dX12_image_230 : decode cX12_image 230 = .ok (.getfield 492, 3) := by decide +kernel
theorem dX12_image_233 : decode cX12_image 233 = .ok (.ireturn, 1) := by decide +kernel
abbrev rm_X12_image : Room := { frames := 3, cells := 0, slots := 0, locals := 66 }
def b_X12_image_209 (a0 : Nat) (L167 : Int32 × Int32 → Sto → Prop) (L179 : Int32 × Int32 × Int32 → Sto → Prop) (Q : Int32 → Sto → Prop) (p1 : Int32) (p2 : Int32) (p3 : Int32) (s0 : Int32) (s1 : Int32) (s2 : Nat) (σ : Sto) : Prop := (sK σ s2 = 12 ∧ (wp_X12_writeEntry s2 s1 s0 σ (fun (σ2 : Sto) => (∀ x3 : Int32, x3 = p3 + (1 : Int32) → L179 (p1, p2, x3) σ2))))
set_option maxHeartbeats 4000000 in
set_option maxRecDepth 100000 in
theorem t_X12_image_209 {p : Program} {l : Launch} {e : Env} {s : State} {m : MethodId} {args : Array Value} {below : List Frame} {meth : Method} {c : Code} {D : va_G} {cy : Nat → ClassId} {A : Nat → Prop} {a0 : Nat} {L167 : Int32 × Int32 → Sto → Prop} {L179 : Int32 × Int32 × Int32 → Sto → Prop} {Q : Int32 → Sto → Prop} (C : Cx p s m args meth c D cy A cX12_image 4 RX12) (hr : meth.sig.returnType = (some .int)) (hnm : meth.name = yX12_image.name) (hL167 : ∀ (t : Int32 × Int32) (σ : Sto), L167 t σ → ∀ ls : Array Slot, lv_has ls 4 [(0, .ref a0), (1, .int t.1), (2, .int t.2)] → Xw p l e rm_X12_image s m args below meth c D cy A σ 0 0 (MQ below (Qst D cy A (PsI Q)) args s rm_X12_image.cells rm_X12_image.slots A) (F0 m 167 ls [])) (hL179 : ∀ (t : Int32 × Int32 × Int32) (σ : Sto), L179 t σ → ∀ ls : Array Slot, lv_has ls 4 [(0, .ref a0), (1, .int t.1), (2, .int t.2.1), (3, .int t.2.2)] → Xw p l e rm_X12_image s m args below meth c D cy A σ 0 0 (MQ below (Qst D cy A (PsI Q)) args s rm_X12_image.cells rm_X12_image.slots A) (F0 m 179 ls [])) (p1 : Int32) (p2 : Int32) (p3 : Int32) (s0 : Int32) (s1 : Int32) (s2 : Nat) (σ : Sto) (h : b_X12_image_209 a0 L167 L179 Q p1 p2 p3 s0 s1 s2 σ) (ls : Array Slot) (hl : lv_has ls 4 [(0, .ref a0), (1, .int p1), (2, .int p2), (3, .int p3)]) : Xw p l e rm_X12_image s m args below meth c D cy A σ 0 0 (MQ below (Qst D cy A (PsI Q)) args s rm_X12_image.cells rm_X12_image.slots A) (F0 m 209 ls [.int s0, .int s1, .ref s2]) := by
  unfold b_X12_image_209 at h
  obtain ⟨g1, h⟩ := h
  refine x_callV (rm := rm_X12_writeEntry) (rest := []) (As := [.int s1, .int s0]) C cy_RX12_527 g1 (by decide) (by decide) rfl rfl (Nat.le_of_ble_eq_true rfl) hl.1 dX12_image_209 (c_X12_writeEntry l D cy s2 s1 s0 σ _ h) (ks_v (fun σ2 h => ?_))
  obtain ⟨x3, e4⟩ : ∃ z : Int32, z = p3 + (1 : Int32) := ⟨_, rfl⟩
  have h := h x3 e4
  refine x_iinc (v := x3) (lv' := [(3, .int x3), (0, .ref a0), (1, .int p1), (2, .int p2)]) C dX12_image_212 hl (q0 := 3) rfl (by rw [e4]; rfl) (by decide) (by first | rfl | simp [vrc, cat_i, cat_r, cat_l]) (fun ls hl => ?_)
  refine x_goto (tgt := 179) C dX12_image_215 (by decide) ?_
  exact hL179 (p1, p2, x3) _ h ls (lv_sub hl [1, 2, 3, 0] rfl)
def f_X12_image_179 (a0 : Nat) (L167 : Int32 × Int32 → Sto → Prop) (Q : Int32 → Sto → Prop) (L179 : Int32 × Int32 × Int32 → Sto → Prop) (t : Int32 × Int32 × Int32) (σ : Sto) : Prop := ((((25 : Int32) * t.2.1) ≤ t.2.2 → (sK σ a0 = 12 ∧ (wp_X12_endBlock a0 t.2.1 σ (fun (σ3 : Sto) => (∀ x4 : Int32, x4 = t.2.1 + (1 : Int32) → L167 (t.1, x4) σ3))))) ∧ (¬ ((25 : Int32) * t.2.1) ≤ t.2.2 → (sK σ a0 = 12 ∧ (∃ b7 : Nat, sP σ a0 26 = some b7 ∧ (sK σ b7 = 14 ∧ (vp_in t.1 (sN σ b7) ∧ (∀ x11 : Int32, x11 = sI σ b7 t.1.toNatClampNeg → ((x11 ≤ t.2.2 → b_X12_image_209 a0 L167 L179 Q t.1 t.2.1 t.2.2 (0 : Int32) (((100 : Int32) * t.1) + t.2.2) a0 σ) ∧ (¬ x11 ≤ t.2.2 → b_X12_image_209 a0 L167 L179 Q t.1 t.2.1 t.2.2 (1 : Int32) (((100 : Int32) * t.1) + t.2.2) a0 σ)))))))))
set_option maxHeartbeats 4000000 in
set_option maxRecDepth 100000 in
theorem t_X12_image_179 {p : Program} {l : Launch} {e : Env} {s : State} {m : MethodId} {args : Array Value} {below : List Frame} {meth : Method} {c : Code} {D : va_G} {cy : Nat → ClassId} {A : Nat → Prop} {a0 : Nat} {L167 : Int32 × Int32 → Sto → Prop} {Q : Int32 → Sto → Prop} {L179 : Int32 × Int32 × Int32 → Sto → Prop} (C : Cx p s m args meth c D cy A cX12_image 4 RX12) (hr : meth.sig.returnType = (some .int)) (hnm : meth.name = yX12_image.name) (hL167 : ∀ (t : Int32 × Int32) (σ : Sto), L167 t σ → ∀ ls : Array Slot, lv_has ls 4 [(0, .ref a0), (1, .int t.1), (2, .int t.2)] → Xw p l e rm_X12_image s m args below meth c D cy A σ 0 0 (MQ below (Qst D cy A (PsI Q)) args s rm_X12_image.cells rm_X12_image.slots A) (F0 m 167 ls [])) (hL179 : ∀ (t : Int32 × Int32 × Int32) (σ : Sto), L179 t σ → ∀ ls : Array Slot, lv_has ls 4 [(0, .ref a0), (1, .int t.1), (2, .int t.2.1), (3, .int t.2.2)] → Xw p l e rm_X12_image s m args below meth c D cy A σ 0 0 (MQ below (Qst D cy A (PsI Q)) args s rm_X12_image.cells rm_X12_image.slots A) (F0 m 179 ls [])) : ∀ (t : Int32 × Int32 × Int32) (σ : Sto), f_X12_image_179 a0 L167 Q L179 t σ → ∀ ls : Array Slot, lv_has ls 4 [(0, .ref a0), (1, .int t.1), (2, .int t.2.1), (3, .int t.2.2)] → Xw p l e rm_X12_image s m args below meth c D cy A σ 0 0 (MQ below (Qst D cy A (PsI Q)) args s rm_X12_image.cells rm_X12_image.slots A) (F0 m 179 ls []) := by
  intro t σ h ls hl
  unfold f_X12_image_179 at h
  refine x_iload_n C dX12_image_179 rfl (lv_at hl 3 rfl) ?_
  refine x_bipush (v := 25) C dX12_image_180 (by decide) ?_
  refine x_iload_n C dX12_image_182 rfl (lv_at hl 2 rfl) ?_
  refine x_imul C dX12_image_183 ?_
  refine x_icmp_ge (tgt := 218) C dX12_image_184 (by decide) (fun c1 => ?_) (fun c1 => ?_)
  · have h := h.1 c1
    refine x_aload_n C dX12_image_218 rfl (lv_at hl 0 rfl) ?_
    refine x_iload_n C dX12_image_219 rfl (lv_at hl 2 rfl) ?_
    obtain ⟨g2, h⟩ := h
    refine x_callV (rm := rm_X12_endBlock) (rest := []) (As := [.int t.2.1]) C cy_RX12_524 g2 (by decide) (by decide) rfl rfl (Nat.le_of_ble_eq_true rfl) hl.1 dX12_image_220 (c_X12_endBlock l D cy a0 t.2.1 σ _ h) (ks_v (fun σ3 h => ?_))
    obtain ⟨x4, e5⟩ : ∃ z : Int32, z = t.2.1 + (1 : Int32) := ⟨_, rfl⟩
    have h := h x4 e5
    refine x_iinc (v := x4) (lv' := [(2, .int x4), (0, .ref a0), (1, .int t.1), (3, .int t.2.2)]) C dX12_image_223 hl (q0 := 2) rfl (by rw [e5]; rfl) (by decide) (by first | rfl | simp [vrc, cat_i, cat_r, cat_l]) (fun ls hl => ?_)
    refine x_goto (tgt := 167) C dX12_image_226 (by decide) ?_
    exact hL167 (t.1, x4) _ h ls (lv_sub hl [1, 2, 0] rfl)
  · have h := h.2 c1
    refine x_aload_n C dX12_image_187 rfl (lv_at hl 0 rfl) ?_
    refine x_bipush (v := 100) C dX12_image_188 (by decide) ?_
    refine x_iload_n C dX12_image_190 rfl (lv_at hl 1 rfl) ?_
    refine x_imul C dX12_image_191 ?_
    refine x_iload_n C dX12_image_192 rfl (lv_at hl 3 rfl) ?_
    refine x_iadd C dX12_image_193 ?_
    refine x_iload_n C dX12_image_194 rfl (lv_at hl 3 rfl) ?_
    refine x_aload_n C dX12_image_195 rfl (lv_at hl 0 rfl) ?_
    obtain ⟨g6, h⟩ := h
    refine x_getP C fl_RX12_59 g6 dX12_image_196 ?_
    refine x_iload_n C dX12_image_199 rfl (lv_at hl 1 rfl) ?_
    obtain ⟨b7, g8, h⟩ := h
    refine x_nn1 g8 ?_
    obtain ⟨g9, h⟩ := h
    obtain ⟨g10, h⟩ := h
    refine x_iald C g9 g10 dX12_image_200 ?_
    refine x_topi (fun x11 e12 => ?_)
    have h := h x11 e12
    refine x_icmp_ge (tgt := 208) C dX12_image_201 (by decide) (fun c13 => ?_) (fun c13 => ?_)
    · have h := h.1 c13
      refine x_iconst (v := 0) C dX12_image_208 (by decide) ?_
      exact t_X12_image_209 C hr hnm hL167 hL179 t.1 t.2.1 t.2.2 (0 : Int32) (((100 : Int32) * t.1) + t.2.2) a0 _ h ls (lv_sub hl [0, 1, 2, 3] rfl)
    · have h := h.2 c13
      refine x_iconst (v := 1) C dX12_image_204 (by decide) ?_
      refine x_goto (tgt := 209) C dX12_image_205 (by decide) ?_
      exact t_X12_image_209 C hr hnm hL167 hL179 t.1 t.2.1 t.2.2 (1 : Int32) (((100 : Int32) * t.1) + t.2.2) a0 _ h ls (lv_sub hl [0, 1, 2, 3] rfl)
def f_X12_image_167 (a0 : Nat)  (Q : Int32 → Sto → Prop) (L167 : Int32 × Int32 → Sto → Prop) (t : Int32 × Int32) (σ : Sto) : Prop := (((5 : Int32) ≤ t.2 → (sK σ a0 = 12 ∧ (∀ x3 : Int32, x3 = sI σ a0 89 → Q x3 σ))) ∧ (¬ (5 : Int32) ≤ t.2 → (∀ x5 : Int32, x5 = (25 : Int32) * (t.2 - (1 : Int32)) → LF (f_X12_image_179 a0 L167 Q) (t.1, t.2, x5) σ)))
set_option maxHeartbeats 4000000 in
set_option maxRecDepth 100000 in
theorem t_X12_image_167 {p : Program} {l : Launch} {e : Env} {s : State} {m : MethodId} {args : Array Value} {below : List Frame} {meth : Method} {c : Code} {D : va_G} {cy : Nat → ClassId} {A : Nat → Prop} {a0 : Nat} {Q : Int32 → Sto → Prop} {L167 : Int32 × Int32 → Sto → Prop} (C : Cx p s m args meth c D cy A cX12_image 4 RX12) (hr : meth.sig.returnType = (some .int)) (hnm : meth.name = yX12_image.name) (hL167 : ∀ (t : Int32 × Int32) (σ : Sto), L167 t σ → ∀ ls : Array Slot, lv_has ls 4 [(0, .ref a0), (1, .int t.1), (2, .int t.2)] → Xw p l e rm_X12_image s m args below meth c D cy A σ 0 0 (MQ below (Qst D cy A (PsI Q)) args s rm_X12_image.cells rm_X12_image.slots A) (F0 m 167 ls [])) : ∀ (t : Int32 × Int32) (σ : Sto), f_X12_image_167 a0  Q L167 t σ → ∀ ls : Array Slot, lv_has ls 4 [(0, .ref a0), (1, .int t.1), (2, .int t.2)] → Xw p l e rm_X12_image s m args below meth c D cy A σ 0 0 (MQ below (Qst D cy A (PsI Q)) args s rm_X12_image.cells rm_X12_image.slots A) (F0 m 167 ls []) := by
  intro t σ h ls hl
  unfold f_X12_image_167 at h
  refine x_iload_n C dX12_image_167 rfl (lv_at hl 2 rfl) ?_
  refine x_iconst (v := 5) C dX12_image_168 (by decide) ?_
  refine x_icmp_ge (tgt := 229) C dX12_image_169 (by decide) (fun c1 => ?_) (fun c1 => ?_)
  · have h := h.1 c1
    refine x_aload_n C dX12_image_229 rfl (lv_at hl 0 rfl) ?_
    obtain ⟨g2, h⟩ := h
    refine x_getI C fl_RX12_492 g2 dX12_image_230 ?_
    refine x_topi (fun x3 e4 => ?_)
    have h := h x3 e4
    exact x_iret C hr dX12_image_233 ⟨_, rfl, h⟩
  · have h := h.2 c1
    refine x_bipush (v := 25) C dX12_image_172 (by decide) ?_
    refine x_iload_n C dX12_image_174 rfl (lv_at hl 2 rfl) ?_
    refine x_iconst (v := 1) C dX12_image_175 (by decide) ?_
    refine x_isub C dX12_image_176 ?_
    refine x_imul C dX12_image_177 ?_
    refine x_topi (fun x5 e6 => ?_)
    have h := h x5 e6
    refine x_istore_n (i := 3) (lv' := [(3, .int x5), (0, .ref a0), (1, .int t.1), (2, .int t.2)]) C dX12_image_178 rfl hl (by decide) (by first | rfl | simp [vrc, cat_i, cat_r, cat_l]) (fun ls hl => ?_)
    exact h (fun t σ => ∀ ls : Array Slot, lv_has ls 4 [(0, .ref a0), (1, .int t.1), (2, .int t.2.1), (3, .int t.2.2)] → Xw p l e rm_X12_image s m args below meth c D cy A σ 0 0 (MQ below (Qst D cy A (PsI Q)) args s rm_X12_image.cells rm_X12_image.slots A) (F0 m 179 ls [])) (t_X12_image_179 C hr hnm hL167 (fun t σ h => h)) ls (lv_sub hl [1, 2, 3, 0] rfl)
def b_X12_image_14 (a0 : Nat)  (Q : Int32 → Sto → Prop) (p1 : Int32) (s0 : Int32) (s1 : Nat) (σ : Sto) : Prop := (sK σ s1 = 12 ∧ (sK σ a0 = 12 ∧ (∀ x3 : Int32, x3 = sI (stI σ s1 0 s0) a0 0 → ((x3 ≤ 0 → (wp_X12_write a0 (79 : Int32) (stI (stI σ s1 0 s0) a0 89 (0 : Int32)) (fun (σ6 : Sto) => (sK σ6 a0 = 12 ∧ (wp_X12_write a0 (82 : Int32) σ6 (fun (σ8 : Sto) => (sK σ8 a0 = 12 ∧ (wp_X12_write a0 (87 : Int32) σ8 (fun (σ10 : Sto) => (sK σ10 a0 = 12 ∧ (wp_X12_write a0 (75 : Int32) σ10 (fun (σ12 : Sto) => (sK σ12 a0 = 12 ∧ (wp_X12_write a0 p1 σ12 (fun (σ14 : Sto) => (sK σ14 a0 = 12 ∧ (∃ b16 : Nat, sP σ14 a0 23 = some b16 ∧ (sK σ14 b16 = 14 ∧ (vp_in p1 (sN σ14 b16) ∧ (∀ x20 : Int32, x20 = sI σ14 b16 p1.toNatClampNeg → (wp_X12_write a0 x20 σ14 (fun (σ22 : Sto) => (sK σ22 a0 = 12 ∧ (wp_X12_write a0 (0 : Int32) σ22 (fun (σ24 : Sto) => (sK σ24 a0 = 12 ∧ (wp_X12_write a0 (0 : Int32) σ24 (fun (σ26 : Sto) => (sK σ26 a0 = 12 ∧ (∃ b28 : Nat, sP σ26 a0 21 = some b28 ∧ (sK σ26 b28 = 14 ∧ (vp_in p1 (sN σ26 b28) ∧ (∀ x32 : Int32, x32 = sI σ26 b28 p1.toNatClampNeg → (wp_X12_writeWord a0 x32 σ26 (fun (σ34 : Sto) => (sK σ34 a0 = 12 ∧ (∃ b36 : Nat, sP σ34 a0 22 = some b36 ∧ (sK σ34 b36 = 14 ∧ (vp_in p1 (sN σ34 b36) ∧ (∀ x40 : Int32, x40 = sI σ34 b36 p1.toNatClampNeg → (wp_X12_writeWord a0 x40 σ34 (fun (σ42 : Sto) => (sK σ42 a0 = 12 ∧ (∃ b44 : Nat, sP σ42 a0 24 = some b44 ∧ (sK σ42 b44 = 14 ∧ (vp_in p1 (sN σ42 b44) ∧ (∀ x48 : Int32, x48 = sI σ42 b44 p1.toNatClampNeg → (wp_X12_writeWord a0 x48 σ42 (fun (σ50 : Sto) => (sK σ50 a0 = 12 ∧ (∃ b52 : Nat, sP σ50 a0 25 = some b52 ∧ (sK σ50 b52 = 14 ∧ (vp_in p1 (sN σ50 b52) ∧ (∀ x56 : Int32, x56 = sI σ50 b52 p1.toNatClampNeg → (wp_X12_writeWord a0 x56 σ50 (fun (σ58 : Sto) => (sK σ58 a0 = 12 ∧ (∃ b60 : Nat, sP σ58 a0 27 = some b60 ∧ (sK σ58 b60 = 14 ∧ (vp_in p1 (sN σ58 b60) ∧ (∀ x64 : Int32, x64 = sI σ58 b60 p1.toNatClampNeg → (wp_X12_writeWord a0 x64 σ58 (fun (σ66 : Sto) => (sK σ66 a0 = 12 ∧ (∃ b68 : Nat, sP σ66 a0 28 = some b68 ∧ (sK σ66 b68 = 14 ∧ (vp_in p1 (sN σ66 b68) ∧ (∀ x72 : Int32, x72 = sI σ66 b68 p1.toNatClampNeg → (wp_X12_writeWord a0 x72 σ66 (fun (σ74 : Sto) => (sK σ74 a0 = 12 ∧ (∃ b76 : Nat, sP σ74 a0 29 = some b76 ∧ (sK σ74 b76 = 14 ∧ (vp_in p1 (sN σ74 b76) ∧ (∀ x80 : Int32, x80 = sI σ74 b76 p1.toNatClampNeg → (wp_X12_writeWord a0 x80 σ74 (fun (σ82 : Sto) => (sK σ82 a0 = 12 ∧ (∃ b84 : Nat, sP σ82 a0 26 = some b84 ∧ (sK σ82 b84 = 14 ∧ (vp_in p1 (sN σ82 b84) ∧ (∀ x88 : Int32, x88 = sI σ82 b84 p1.toNatClampNeg → (wp_X12_writeWord a0 x88 σ82 (fun (σ90 : Sto) => (sK σ90 a0 = 12 ∧ (wp_X12_endBlock a0 (0 : Int32) σ90 (fun (σ92 : Sto) => LF (f_X12_image_167 a0  Q) (p1, (1 : Int32)) σ92))))))))))))))))))))))))))))))))))))))))))))))))))))))))))))))))))))))))))))))))))))))) ∧ (¬ x3 ≤ 0 → Q (0 : Int32) (stI σ s1 0 s0))))))
set_option maxHeartbeats 4000000 in
set_option maxRecDepth 100000 in
theorem t_X12_image_14 {p : Program} {l : Launch} {e : Env} {s : State} {m : MethodId} {args : Array Value} {below : List Frame} {meth : Method} {c : Code} {D : va_G} {cy : Nat → ClassId} {A : Nat → Prop} {a0 : Nat} {Q : Int32 → Sto → Prop} (C : Cx p s m args meth c D cy A cX12_image 4 RX12) (hr : meth.sig.returnType = (some .int)) (hnm : meth.name = yX12_image.name) (p1 : Int32) (s0 : Int32) (s1 : Nat) (σ : Sto) (h : b_X12_image_14 a0  Q p1 s0 s1 σ) (ls : Array Slot) (hl : lv_has ls 4 [(0, .ref a0), (1, .int p1)]) : Xw p l e rm_X12_image s m args below meth c D cy A σ 0 0 (MQ below (Qst D cy A (PsI Q)) args s rm_X12_image.cells rm_X12_image.slots A) (F0 m 14 ls [.int s0, .ref s1]) := by
  unfold b_X12_image_14 at h
  obtain ⟨g1, h⟩ := h
  refine x_putI C fl_RX12_267 (Or.inl rfl) g1 dX12_image_14 ?_
  refine x_aload_n C dX12_image_17 rfl (lv_at hl 0 rfl) ?_
  obtain ⟨g2, h⟩ := h
  refine x_getI C fl_RX12_267 g2 dX12_image_18 ?_
  refine x_topi (fun x3 e4 => ?_)
  have h := h x3 e4
  refine x_if_le (tgt := 26) C dX12_image_21 (by decide) (fun c5 => ?_) (fun c5 => ?_)
  · have h := h.1 c5
    refine x_aload_n C dX12_image_26 rfl (lv_at hl 0 rfl) ?_
    refine x_iconst (v := 0) C dX12_image_27 (by decide) ?_
    refine x_putI C fl_RX12_492 (Or.inl rfl) g2 dX12_image_28 ?_
    refine x_aload_n C dX12_image_31 rfl (lv_at hl 0 rfl) ?_
    refine x_bipush (v := 79) C dX12_image_32 (by decide) ?_
    refine x_callV (rm := rm_X12_write) (rest := []) (As := [.int (79 : Int32)]) C cy_RX12_495 g2 (by decide) (by decide) rfl rfl (Nat.le_of_ble_eq_true rfl) hl.1 dX12_image_34 (c_X12_write l D cy a0 (79 : Int32) (stI (stI σ s1 0 s0) a0 89 (0 : Int32)) _ h) (ks_v (fun σ6 h => ?_))
    refine x_aload_n C dX12_image_37 rfl (lv_at hl 0 rfl) ?_
    refine x_bipush (v := 82) C dX12_image_38 (by decide) ?_
    obtain ⟨g7, h⟩ := h
    refine x_callV (rm := rm_X12_write) (rest := []) (As := [.int (82 : Int32)]) C cy_RX12_495 g7 (by decide) (by decide) rfl rfl (Nat.le_of_ble_eq_true rfl) hl.1 dX12_image_40 (c_X12_write l D cy a0 (82 : Int32) σ6 _ h) (ks_v (fun σ8 h => ?_))
    refine x_aload_n C dX12_image_43 rfl (lv_at hl 0 rfl) ?_
    refine x_bipush (v := 87) C dX12_image_44 (by decide) ?_
    obtain ⟨g9, h⟩ := h
    refine x_callV (rm := rm_X12_write) (rest := []) (As := [.int (87 : Int32)]) C cy_RX12_495 g9 (by decide) (by decide) rfl rfl (Nat.le_of_ble_eq_true rfl) hl.1 dX12_image_46 (c_X12_write l D cy a0 (87 : Int32) σ8 _ h) (ks_v (fun σ10 h => ?_))
    refine x_aload_n C dX12_image_49 rfl (lv_at hl 0 rfl) ?_
    refine x_bipush (v := 75) C dX12_image_50 (by decide) ?_
    obtain ⟨g11, h⟩ := h
    refine x_callV (rm := rm_X12_write) (rest := []) (As := [.int (75 : Int32)]) C cy_RX12_495 g11 (by decide) (by decide) rfl rfl (Nat.le_of_ble_eq_true rfl) hl.1 dX12_image_52 (c_X12_write l D cy a0 (75 : Int32) σ10 _ h) (ks_v (fun σ12 h => ?_))
    refine x_aload_n C dX12_image_55 rfl (lv_at hl 0 rfl) ?_
    refine x_iload_n C dX12_image_56 rfl (lv_at hl 1 rfl) ?_
    obtain ⟨g13, h⟩ := h
    refine x_callV (rm := rm_X12_write) (rest := []) (As := [.int p1]) C cy_RX12_495 g13 (by decide) (by decide) rfl rfl (Nat.le_of_ble_eq_true rfl) hl.1 dX12_image_57 (c_X12_write l D cy a0 p1 σ12 _ h) (ks_v (fun σ14 h => ?_))
    refine x_aload_n C dX12_image_60 rfl (lv_at hl 0 rfl) ?_
    refine x_aload_n C dX12_image_61 rfl (lv_at hl 0 rfl) ?_
    obtain ⟨g15, h⟩ := h
    refine x_getP C fl_RX12_50 g15 dX12_image_62 ?_
    refine x_iload_n C dX12_image_65 rfl (lv_at hl 1 rfl) ?_
    obtain ⟨b16, g17, h⟩ := h
    refine x_nn1 g17 ?_
    obtain ⟨g18, h⟩ := h
    obtain ⟨g19, h⟩ := h
    refine x_iald C g18 g19 dX12_image_66 ?_
    refine x_topi (fun x20 e21 => ?_)
    have h := h x20 e21
    refine x_callV (rm := rm_X12_write) (rest := []) (As := [.int x20]) C cy_RX12_495 g15 (by decide) (by decide) rfl rfl (Nat.le_of_ble_eq_true rfl) hl.1 dX12_image_67 (c_X12_write l D cy a0 x20 σ14 _ h) (ks_v (fun σ22 h => ?_))
    refine x_aload_n C dX12_image_70 rfl (lv_at hl 0 rfl) ?_
    refine x_iconst (v := 0) C dX12_image_71 (by decide) ?_
    obtain ⟨g23, h⟩ := h
    refine x_callV (rm := rm_X12_write) (rest := []) (As := [.int (0 : Int32)]) C cy_RX12_495 g23 (by decide) (by decide) rfl rfl (Nat.le_of_ble_eq_true rfl) hl.1 dX12_image_72 (c_X12_write l D cy a0 (0 : Int32) σ22 _ h) (ks_v (fun σ24 h => ?_))
    refine x_aload_n C dX12_image_75 rfl (lv_at hl 0 rfl) ?_
    refine x_iconst (v := 0) C dX12_image_76 (by decide) ?_
    obtain ⟨g25, h⟩ := h
    refine x_callV (rm := rm_X12_write) (rest := []) (As := [.int (0 : Int32)]) C cy_RX12_495 g25 (by decide) (by decide) rfl rfl (Nat.le_of_ble_eq_true rfl) hl.1 dX12_image_77 (c_X12_write l D cy a0 (0 : Int32) σ24 _ h) (ks_v (fun σ26 h => ?_))
    refine x_aload_n C dX12_image_80 rfl (lv_at hl 0 rfl) ?_
    refine x_aload_n C dX12_image_81 rfl (lv_at hl 0 rfl) ?_
    obtain ⟨g27, h⟩ := h
    refine x_getP C fl_RX12_44 g27 dX12_image_82 ?_
    refine x_iload_n C dX12_image_85 rfl (lv_at hl 1 rfl) ?_
    obtain ⟨b28, g29, h⟩ := h
    refine x_nn1 g29 ?_
    obtain ⟨g30, h⟩ := h
    obtain ⟨g31, h⟩ := h
    refine x_iald C g30 g31 dX12_image_86 ?_
    refine x_topi (fun x32 e33 => ?_)
    have h := h x32 e33
    refine x_callV (rm := rm_X12_writeWord) (rest := []) (As := [.int x32]) C cy_RX12_501 g27 (by decide) (by decide) rfl rfl (Nat.le_of_ble_eq_true rfl) hl.1 dX12_image_87 (c_X12_writeWord l D cy a0 x32 σ26 _ h) (ks_v (fun σ34 h => ?_))
    refine x_aload_n C dX12_image_90 rfl (lv_at hl 0 rfl) ?_
    refine x_aload_n C dX12_image_91 rfl (lv_at hl 0 rfl) ?_
    obtain ⟨g35, h⟩ := h
    refine x_getP C fl_RX12_47 g35 dX12_image_92 ?_
    refine x_iload_n C dX12_image_95 rfl (lv_at hl 1 rfl) ?_
    obtain ⟨b36, g37, h⟩ := h
    refine x_nn1 g37 ?_
    obtain ⟨g38, h⟩ := h
    obtain ⟨g39, h⟩ := h
    refine x_iald C g38 g39 dX12_image_96 ?_
    refine x_topi (fun x40 e41 => ?_)
    have h := h x40 e41
    refine x_callV (rm := rm_X12_writeWord) (rest := []) (As := [.int x40]) C cy_RX12_501 g35 (by decide) (by decide) rfl rfl (Nat.le_of_ble_eq_true rfl) hl.1 dX12_image_97 (c_X12_writeWord l D cy a0 x40 σ34 _ h) (ks_v (fun σ42 h => ?_))
    refine x_aload_n C dX12_image_100 rfl (lv_at hl 0 rfl) ?_
    refine x_aload_n C dX12_image_101 rfl (lv_at hl 0 rfl) ?_
    obtain ⟨g43, h⟩ := h
    refine x_getP C fl_RX12_53 g43 dX12_image_102 ?_
    refine x_iload_n C dX12_image_105 rfl (lv_at hl 1 rfl) ?_
    obtain ⟨b44, g45, h⟩ := h
    refine x_nn1 g45 ?_
    obtain ⟨g46, h⟩ := h
    obtain ⟨g47, h⟩ := h
    refine x_iald C g46 g47 dX12_image_106 ?_
    refine x_topi (fun x48 e49 => ?_)
    have h := h x48 e49
    refine x_callV (rm := rm_X12_writeWord) (rest := []) (As := [.int x48]) C cy_RX12_501 g43 (by decide) (by decide) rfl rfl (Nat.le_of_ble_eq_true rfl) hl.1 dX12_image_107 (c_X12_writeWord l D cy a0 x48 σ42 _ h) (ks_v (fun σ50 h => ?_))
    refine x_aload_n C dX12_image_110 rfl (lv_at hl 0 rfl) ?_
    refine x_aload_n C dX12_image_111 rfl (lv_at hl 0 rfl) ?_
    obtain ⟨g51, h⟩ := h
    refine x_getP C fl_RX12_56 g51 dX12_image_112 ?_
    refine x_iload_n C dX12_image_115 rfl (lv_at hl 1 rfl) ?_
    obtain ⟨b52, g53, h⟩ := h
    refine x_nn1 g53 ?_
    obtain ⟨g54, h⟩ := h
    obtain ⟨g55, h⟩ := h
    refine x_iald C g54 g55 dX12_image_116 ?_
    refine x_topi (fun x56 e57 => ?_)
    have h := h x56 e57
    refine x_callV (rm := rm_X12_writeWord) (rest := []) (As := [.int x56]) C cy_RX12_501 g51 (by decide) (by decide) rfl rfl (Nat.le_of_ble_eq_true rfl) hl.1 dX12_image_117 (c_X12_writeWord l D cy a0 x56 σ50 _ h) (ks_v (fun σ58 h => ?_))
    refine x_aload_n C dX12_image_120 rfl (lv_at hl 0 rfl) ?_
    refine x_aload_n C dX12_image_121 rfl (lv_at hl 0 rfl) ?_
    obtain ⟨g59, h⟩ := h
    refine x_getP C fl_RX12_62 g59 dX12_image_122 ?_
    refine x_iload_n C dX12_image_125 rfl (lv_at hl 1 rfl) ?_
    obtain ⟨b60, g61, h⟩ := h
    refine x_nn1 g61 ?_
    obtain ⟨g62, h⟩ := h
    obtain ⟨g63, h⟩ := h
    refine x_iald C g62 g63 dX12_image_126 ?_
    refine x_topi (fun x64 e65 => ?_)
    have h := h x64 e65
    refine x_callV (rm := rm_X12_writeWord) (rest := []) (As := [.int x64]) C cy_RX12_501 g59 (by decide) (by decide) rfl rfl (Nat.le_of_ble_eq_true rfl) hl.1 dX12_image_127 (c_X12_writeWord l D cy a0 x64 σ58 _ h) (ks_v (fun σ66 h => ?_))
    refine x_aload_n C dX12_image_130 rfl (lv_at hl 0 rfl) ?_
    refine x_aload_n C dX12_image_131 rfl (lv_at hl 0 rfl) ?_
    obtain ⟨g67, h⟩ := h
    refine x_getP C fl_RX12_65 g67 dX12_image_132 ?_
    refine x_iload_n C dX12_image_135 rfl (lv_at hl 1 rfl) ?_
    obtain ⟨b68, g69, h⟩ := h
    refine x_nn1 g69 ?_
    obtain ⟨g70, h⟩ := h
    obtain ⟨g71, h⟩ := h
    refine x_iald C g70 g71 dX12_image_136 ?_
    refine x_topi (fun x72 e73 => ?_)
    have h := h x72 e73
    refine x_callV (rm := rm_X12_writeWord) (rest := []) (As := [.int x72]) C cy_RX12_501 g67 (by decide) (by decide) rfl rfl (Nat.le_of_ble_eq_true rfl) hl.1 dX12_image_137 (c_X12_writeWord l D cy a0 x72 σ66 _ h) (ks_v (fun σ74 h => ?_))
    refine x_aload_n C dX12_image_140 rfl (lv_at hl 0 rfl) ?_
    refine x_aload_n C dX12_image_141 rfl (lv_at hl 0 rfl) ?_
    obtain ⟨g75, h⟩ := h
    refine x_getP C fl_RX12_68 g75 dX12_image_142 ?_
    refine x_iload_n C dX12_image_145 rfl (lv_at hl 1 rfl) ?_
    obtain ⟨b76, g77, h⟩ := h
    refine x_nn1 g77 ?_
    obtain ⟨g78, h⟩ := h
    obtain ⟨g79, h⟩ := h
    refine x_iald C g78 g79 dX12_image_146 ?_
    refine x_topi (fun x80 e81 => ?_)
    have h := h x80 e81
    refine x_callV (rm := rm_X12_writeWord) (rest := []) (As := [.int x80]) C cy_RX12_501 g75 (by decide) (by decide) rfl rfl (Nat.le_of_ble_eq_true rfl) hl.1 dX12_image_147 (c_X12_writeWord l D cy a0 x80 σ74 _ h) (ks_v (fun σ82 h => ?_))
    refine x_aload_n C dX12_image_150 rfl (lv_at hl 0 rfl) ?_
    refine x_aload_n C dX12_image_151 rfl (lv_at hl 0 rfl) ?_
    obtain ⟨g83, h⟩ := h
    refine x_getP C fl_RX12_59 g83 dX12_image_152 ?_
    refine x_iload_n C dX12_image_155 rfl (lv_at hl 1 rfl) ?_
    obtain ⟨b84, g85, h⟩ := h
    refine x_nn1 g85 ?_
    obtain ⟨g86, h⟩ := h
    obtain ⟨g87, h⟩ := h
    refine x_iald C g86 g87 dX12_image_156 ?_
    refine x_topi (fun x88 e89 => ?_)
    have h := h x88 e89
    refine x_callV (rm := rm_X12_writeWord) (rest := []) (As := [.int x88]) C cy_RX12_501 g83 (by decide) (by decide) rfl rfl (Nat.le_of_ble_eq_true rfl) hl.1 dX12_image_157 (c_X12_writeWord l D cy a0 x88 σ82 _ h) (ks_v (fun σ90 h => ?_))
    refine x_aload_n C dX12_image_160 rfl (lv_at hl 0 rfl) ?_
    refine x_iconst (v := 0) C dX12_image_161 (by decide) ?_
    obtain ⟨g91, h⟩ := h
    refine x_callV (rm := rm_X12_endBlock) (rest := []) (As := [.int (0 : Int32)]) C cy_RX12_524 g91 (by decide) (by decide) rfl rfl (Nat.le_of_ble_eq_true rfl) hl.1 dX12_image_162 (c_X12_endBlock l D cy a0 (0 : Int32) σ90 _ h) (ks_v (fun σ92 h => ?_))
    refine x_iconst (v := 1) C dX12_image_165 (by decide) ?_
    refine x_istore_n (i := 2) (lv' := [(2, .int (1 : Int32)), (0, .ref a0), (1, .int p1)]) C dX12_image_166 rfl hl (by decide) (by first | rfl | simp [vrc, cat_i, cat_r, cat_l]) (fun ls hl => ?_)
    exact h (fun t σ => ∀ ls : Array Slot, lv_has ls 4 [(0, .ref a0), (1, .int t.1), (2, .int t.2)] → Xw p l e rm_X12_image s m args below meth c D cy A σ 0 0 (MQ below (Qst D cy A (PsI Q)) args s rm_X12_image.cells rm_X12_image.slots A) (F0 m 167 ls [])) (t_X12_image_167 C hr hnm  (fun t σ h => h)) ls (lv_sub hl [1, 2, 0] rfl)
  · have h := h.2 c5
    refine x_iconst (v := 0) C dX12_image_24 (by decide) ?_
    exact x_iret C hr dX12_image_25 ⟨_, rfl, h⟩
def wp_X12_image (a0 : Nat) (p1 : Int32) (σ : Sto) (Q : Int32 → Sto → Prop) : Prop := (sK σ a0 = 12 ∧ (wp_X12_isReplica a0 p1 σ (fun (x3 : Int32) (σ2 : Sto) => ((x3 = 0 → b_X12_image_14 a0  Q p1 (1 : Int32) a0 σ2) ∧ (¬ x3 = 0 → b_X12_image_14 a0  Q p1 (0 : Int32) a0 σ2)))))
set_option maxHeartbeats 4000000 in
set_option maxRecDepth 100000 in
theorem c_X12_image (l : Launch) (D : va_G) (cy : Nat → ClassId) (a0 : Nat) (p1 : Int32) (σ : Sto) (Q : Int32 → Sto → Prop) (h : wp_X12_image a0 p1 σ Q) : Mt l D cy yX12_image cX12_image 4 (some .int) rm_X12_image [.ref a0, .int p1] σ (PsI Q) := by
  unfold wp_X12_image at h
  refine mt_of (by decide +kernel) (Nat.le_of_ble_eq_true rfl) ?_
  intro p e s m args below meth c A ls C hr hnm hl
  have C : Cx p s m args meth c D cy A cX12_image 4 RX12 := C
  have hl : lv_has ls 4 [(0, .ref a0), (1, .int p1)] := hl
  refine x_aload_n C dX12_image_0 rfl (lv_at hl 0 rfl) ?_
  refine x_aload_n C dX12_image_1 rfl (lv_at hl 0 rfl) ?_
  refine x_iload_n C dX12_image_2 rfl (lv_at hl 1 rfl) ?_
  obtain ⟨g1, h⟩ := h
  refine x_callV (rm := rm_X12_isReplica) (rest := [.ref a0]) (As := [.int p1]) C cy_RX12_483 g1 (by decide) (by decide) rfl rfl (Nat.le_of_ble_eq_true rfl) hl.1 dX12_image_3 (c_X12_isReplica l D cy a0 p1 σ _ h) (ks_i (fun x3 σ2 h => ?_))
  refine x_if_eq (tgt := 13) C dX12_image_6 (by decide) (fun c4 => ?_) (fun c4 => ?_)
  · have h := h.1 c4
    refine x_iconst (v := 1) C dX12_image_13 (by decide) ?_
    exact t_X12_image_14 C hr hnm  p1 (1 : Int32) a0 _ h ls (lv_sub hl [0, 1] rfl)
  · have h := h.2 c4
    refine x_iconst (v := 0) C dX12_image_9 (by decide) ?_
    refine x_goto (tgt := 14) C dX12_image_10 (by decide) ?_
    exact t_X12_image_14 C hr hnm  p1 (0 : Int32) a0 _ h ls (lv_sub hl [0, 1] rfl)
theorem dX12_output_0 : decode cX12_output 0 = .ok (.aload_n 0, 1) := by decide +kernel
theorem dX12_output_1 : decode cX12_output 1 = .ok (.iconst 0, 1) := by decide +kernel
theorem dX12_output_2 : decode cX12_output 2 = .ok (.putfield 267, 3) := by decide +kernel
theorem dX12_output_5 : decode cX12_output 5 = .ok (.iload_n 1, 1) := by decide +kernel
theorem dX12_output_6 : decode cX12_output 6 = .ok (.iconst 0, 1) := by decide +kernel
theorem dX12_output_7 : decode cX12_output 7 = .ok (.aload_n 0, 1) := by decide +kernel
theorem dX12_output_8 : decode cX12_output 8 = .ok (.getfield 492, 3) := by decide +kernel
theorem dX12_output_11 : decode cX12_output 11 = .ok (.iconst 1, 1) := by decide +kernel
theorem dX12_output_12 : decode cX12_output 12 = .ok (.isub, 1) := by decide +kernel
theorem dX12_output_13 : decode cX12_output 13 = .ok (.invokestatic 270, 3) := by decide +kernel
theorem dX12_output_16 : decode cX12_output 16 = .ok (.ifCond .eq 12, 3) := by decide +kernel
theorem dX12_output_19 : decode cX12_output 19 = .ok (.aload_n 0, 1) := by decide +kernel
theorem dX12_output_20 : decode cX12_output 20 = .ok (.getfield 242, 3) := by decide +kernel
theorem dX12_output_23 : decode cX12_output 23 = .ok (.iload_n 1, 1) := by decide +kernel
theorem dX12_output_24 : decode cX12_output 24 = .ok (.iaload, 1) := by decide +kernel
theorem dX12_output_25 : decode cX12_output 25 = .ok (.goto 4, 3) := by decide +kernel
theorem dX12_output_28 : decode cX12_output 28 = .ok (.iconst (-1), 1) := by decide +kernel
theorem dX12_output_29 : decode cX12_output 29 = .ok (.ireturn, 1) := by decide +kernel
abbrev rm_X12_output : Room := { frames := 1, cells := 0, slots := 0, locals := 22 }
def wp_X12_output (a0 : Nat) (p1 : Int32) (σ : Sto) (Q : Int32 → Sto → Prop) : Prop := (sK σ a0 = 12 ∧ (∀ x2 : Int32, x2 = sI (stI σ a0 0 (0 : Int32)) a0 89 → (wp_X12_in p1 (0 : Int32) (x2 - (1 : Int32)) (stI σ a0 0 (0 : Int32)) (fun (x5 : Int32) (σ4 : Sto) => ((x5 = 0 → Q (-1 : Int32) σ4) ∧ (¬ x5 = 0 → (sK σ4 a0 = 12 ∧ (∃ b8 : Nat, sP σ4 a0 88 = some b8 ∧ (sK σ4 b8 = 14 ∧ (vp_in p1 (sN σ4 b8) ∧ (∀ x12 : Int32, x12 = sI σ4 b8 p1.toNatClampNeg → Q x12 σ4)))))))))))
set_option maxHeartbeats 4000000 in
set_option maxRecDepth 100000 in
theorem c_X12_output (l : Launch) (D : va_G) (cy : Nat → ClassId) (a0 : Nat) (p1 : Int32) (σ : Sto) (Q : Int32 → Sto → Prop) (h : wp_X12_output a0 p1 σ Q) : Mt l D cy yX12_output cX12_output 2 (some .int) rm_X12_output [.ref a0, .int p1] σ (PsI Q) := by
  unfold wp_X12_output at h
  refine mt_of (by decide +kernel) (Nat.le_of_ble_eq_true rfl) ?_
  intro p e s m args below meth c A ls C hr hnm hl
  have C : Cx p s m args meth c D cy A cX12_output 2 RX12 := C
  have hl : lv_has ls 2 [(0, .ref a0), (1, .int p1)] := hl
  refine x_aload_n C dX12_output_0 rfl (lv_at hl 0 rfl) ?_
  refine x_iconst (v := 0) C dX12_output_1 (by decide) ?_
  obtain ⟨g1, h⟩ := h
  refine x_putI C fl_RX12_267 (Or.inl rfl) g1 dX12_output_2 ?_
  refine x_iload_n C dX12_output_5 rfl (lv_at hl 1 rfl) ?_
  refine x_iconst (v := 0) C dX12_output_6 (by decide) ?_
  refine x_aload_n C dX12_output_7 rfl (lv_at hl 0 rfl) ?_
  refine x_getI C fl_RX12_492 g1 dX12_output_8 ?_
  refine x_topi (fun x2 e3 => ?_)
  have h := h x2 e3
  refine x_iconst (v := 1) C dX12_output_11 (by decide) ?_
  refine x_isub C dX12_output_12 ?_
  refine x_callS (rm := rm_X12_in) (rest := []) (As := [.int p1, .int (0 : Int32), .int (x2 - (1 : Int32))]) C cs_RX12_270 (by decide) (by decide) rfl rfl (Nat.le_of_ble_eq_true rfl) hl.1 dX12_output_13 (c_X12_in l D cy p1 (0 : Int32) (x2 - (1 : Int32)) (stI σ a0 0 (0 : Int32)) _ h) (ks_i (fun x5 σ4 h => ?_))
  refine x_if_eq (tgt := 28) C dX12_output_16 (by decide) (fun c6 => ?_) (fun c6 => ?_)
  · have h := h.1 c6
    refine x_iconst (v := -1) C dX12_output_28 (by decide) ?_
    exact x_iret C hr dX12_output_29 ⟨_, rfl, h⟩
  · have h := h.2 c6
    refine x_aload_n C dX12_output_19 rfl (lv_at hl 0 rfl) ?_
    obtain ⟨g7, h⟩ := h
    refine x_getP C fl_RX12_242 g7 dX12_output_20 ?_
    refine x_iload_n C dX12_output_23 rfl (lv_at hl 1 rfl) ?_
    obtain ⟨b8, g9, h⟩ := h
    refine x_nn1 g9 ?_
    obtain ⟨g10, h⟩ := h
    obtain ⟨g11, h⟩ := h
    refine x_iald C g10 g11 dX12_output_24 ?_
    refine x_topi (fun x12 e13 => ?_)
    have h := h x12 e13
    refine x_goto (tgt := 29) C dX12_output_25 (by decide) ?_
    exact x_iret C hr dX12_output_29 ⟨_, rfl, h⟩
theorem dX12_put_0 : decode cX12_put 0 = .ok (.aload_n 0, 1) := by decide +kernel
theorem dX12_put_1 : decode cX12_put 1 = .ok (.iconst 0, 1) := by decide +kernel
theorem dX12_put_2 : decode cX12_put 2 = .ok (.putfield 267, 3) := by decide +kernel
theorem dX12_put_5 : decode cX12_put 5 = .ok (.iload_n 3, 1) := by decide +kernel
theorem dX12_put_6 : decode cX12_put 6 = .ok (.iconst 0, 1) := by decide +kernel
theorem dX12_put_7 : decode cX12_put 7 = .ok (.bipush 8, 2) := by decide +kernel
theorem dX12_put_9 : decode cX12_put 9 = .ok (.invokestatic 270, 3) := by decide +kernel
theorem dX12_put_12 : decode cX12_put 12 = .ok (.ifCond .eq 15, 3) := by decide +kernel
theorem dX12_put_15 : decode cX12_put 15 = .ok (.aload_n 0, 1) := by decide +kernel
theorem dX12_put_16 : decode cX12_put 16 = .ok (.getfield 530, 3) := by decide +kernel
theorem dX12_put_19 : decode cX12_put 19 = .ok (.iload_n 3, 1) := by decide +kernel
theorem dX12_put_20 : decode cX12_put 20 = .ok (.iadd, 1) := by decide +kernel
theorem dX12_put_21 : decode cX12_put 21 = .ok (.sipush 1500, 3) := by decide +kernel
theorem dX12_put_24 : decode cX12_put 24 = .ok (.if_icmp .le 5, 3) := by decide +kernel
theorem dX12_put_27 : decode cX12_put 27 = .ok (.iconst 0, 1) := by decide +kernel
theorem dX12_put_28 : decode cX12_put 28 = .ok (.ireturn, 1) := by decide +kernel
theorem dX12_put_29 : decode cX12_put 29 = .ok (.iload_n 3, 1) := by decide +kernel
theorem dX12_put_30 : decode cX12_put 30 = .ok (.iconst 1, 1) := by decide +kernel
theorem dX12_put_31 : decode cX12_put 31 = .ok (.isub, 1) := by decide +kernel
theorem dX12_put_32 : decode cX12_put 32 = .ok (.istore 4, 2) := by decide +kernel
theorem dX12_put_34 : decode cX12_put 34 = .ok (.iload 4, 2) := by decide +kernel
theorem dX12_put_36 : decode cX12_put 36 = .ok (.ifCond .lt 40, 3) := by decide +kernel
theorem dX12_put_39 : decode cX12_put 39 = .ok (.aload_n 0, 1) := by decide +kernel
theorem dX12_put_40 : decode cX12_put 40 = .ok (.getfield 245, 3) := by decide +kernel
theorem dX12_put_43 : decode cX12_put 43 = .ok (.aload_n 0, 1) := by decide +kernel
theorem dX12_put_44 : decode cX12_put 44 = .ok (.getfield 530, 3) := by decide +kernel
theorem dX12_put_47 : decode cX12_put 47 = .ok (.lload_n 1, 1) := by decide +kernel
theorem dX12_put_48 : decode cX12_put 48 = .ok (.bipush 8, 2) := by decide +kernel
theorem dX12_put_50 : decode cX12_put 50 = .ok (.iload 4, 2) := by decide +kernel
theorem dX12_put_52 : decode cX12_put 52 = .ok (.imul, 1) := by decide +kernel
theorem dX12_put_53 : decode cX12_put 53 = .ok (.lshr, 1) := by decide +kernel
theorem dX12_put_54 : decode cX12_put 54 = .ok (.ldc2_w 533, 3) := by decide +kernel
theorem dX12_put_57 : decode cX12_put 57 = .ok (.land, 1) := by decide +kernel
theorem dX12_put_58 : decode cX12_put 58 = .ok (.l2i, 1) := by decide +kernel
theorem dX12_put_59 : decode cX12_put 59 = .ok (.iastore, 1) := by decide +kernel
theorem dX12_put_60 : decode cX12_put 60 = .ok (.aload_n 0, 1) := by decide +kernel
theorem dX12_put_61 : decode cX12_put 61 = .ok (.dup, 1) := by decide +kernel
theorem dX12_put_62 : decode cX12_put 62 = .ok (.getfield 530, 3) := by decide +kernel
theorem dX12_put_65 : decode cX12_put 65 = .ok (.iconst 1, 1) := by decide +kernel
theorem dX12_put_66 : decode cX12_put 66 = .ok (.iadd, 1) := by decide +kernel
theorem dX12_put_67 : decode cX12_put 67 = .ok (.putfield 530, 3) := by decide +kernel
theorem dX12_put_70 : decode cX12_put 70 = .ok (.iinc 4 (-1), 3) := by decide +kernel
theorem dX12_put_73 : decode cX12_put 73 = .ok (.goto (-39), 3) := by decide +kernel
theorem dX12_put_76 : decode cX12_put 76 = .ok (.iconst 1, 1) := by decide +kernel
theorem dX12_put_77 : decode cX12_put 77 = .ok (.ireturn, 1) := by decide +kernel
abbrev rm_X12_put : Room := { frames := 1, cells := 0, slots := 0, locals := 22 }
def f_X12_put_34 (a0 : Nat)  (Q : Int32 → Sto → Prop) (L34 : Int64 × Int32 → Sto → Prop) (t : Int64 × Int32) (σ : Sto) : Prop := ((t.2 < 0 → Q (1 : Int32) σ) ∧ (¬ t.2 < 0 → (sK σ a0 = 12 ∧ (∀ x3 : Int32, x3 = sI σ a0 91 → (∀ x5 : Int32, x5 = ((t.1 >>> (((8 : Int32) * t.2).toInt64 &&& 63)) &&& (255 : Int64)).toInt32 → (∃ b7 : Nat, sP σ a0 90 = some b7 ∧ (sK σ b7 = 14 ∧ (vp_in x3 (sN σ b7) ∧ (∀ x11 : Int32, x11 = sI (stI σ b7 x3.toNatClampNeg x5) a0 91 → (∀ x13 : Int32, x13 = x11 + (1 : Int32) → (∀ x15 : Int32, x15 = t.2 + (-1 : Int32) → L34 (t.1, x15) (stI (stI σ b7 x3.toNatClampNeg x5) a0 91 x13))))))))))))
set_option maxHeartbeats 4000000 in
set_option maxRecDepth 100000 in
theorem t_X12_put_34 {p : Program} {l : Launch} {e : Env} {s : State} {m : MethodId} {args : Array Value} {below : List Frame} {meth : Method} {c : Code} {D : va_G} {cy : Nat → ClassId} {A : Nat → Prop} {a0 : Nat} {Q : Int32 → Sto → Prop} {L34 : Int64 × Int32 → Sto → Prop} (C : Cx p s m args meth c D cy A cX12_put 5 RX12) (hr : meth.sig.returnType = (some .boolean)) (hnm : meth.name = yX12_put.name) (hL34 : ∀ (t : Int64 × Int32) (σ : Sto), L34 t σ → ∀ ls : Array Slot, lv_has ls 5 [(0, .ref a0), (1, .long t.1), (4, .int t.2)] → Xw p l e rm_X12_put s m args below meth c D cy A σ 0 0 (MQ below (Qst D cy A (PsI Q)) args s rm_X12_put.cells rm_X12_put.slots A) (F0 m 34 ls [])) : ∀ (t : Int64 × Int32) (σ : Sto), f_X12_put_34 a0  Q L34 t σ → ∀ ls : Array Slot, lv_has ls 5 [(0, .ref a0), (1, .long t.1), (4, .int t.2)] → Xw p l e rm_X12_put s m args below meth c D cy A σ 0 0 (MQ below (Qst D cy A (PsI Q)) args s rm_X12_put.cells rm_X12_put.slots A) (F0 m 34 ls []) := by
  intro t σ h ls hl
  unfold f_X12_put_34 at h
  refine x_iload C dX12_put_34 (lv_at hl 2 rfl) ?_
  refine x_if_lt (tgt := 76) C dX12_put_36 (by decide) (fun c1 => ?_) (fun c1 => ?_)
  · have h := h.1 c1
    refine x_iconst (v := 1) C dX12_put_76 (by decide) ?_
    exact x_zret C hr dX12_put_77 (by decide) ⟨_, rfl, h⟩
  · have h := h.2 c1
    refine x_aload_n C dX12_put_39 rfl (lv_at hl 0 rfl) ?_
    obtain ⟨g2, h⟩ := h
    refine x_getP C fl_RX12_245 g2 dX12_put_40 ?_
    refine x_aload_n C dX12_put_43 rfl (lv_at hl 0 rfl) ?_
    refine x_getI C fl_RX12_530 g2 dX12_put_44 ?_
    refine x_topi (fun x3 e4 => ?_)
    have h := h x3 e4
    refine x_lload_n C dX12_put_47 rfl (lv_at hl 1 rfl) ?_
    refine x_bipush (v := 8) C dX12_put_48 (by decide) ?_
    refine x_iload C dX12_put_50 (lv_at hl 2 rfl) ?_
    refine x_imul C dX12_put_52 ?_
    refine x_lshr C dX12_put_53 ?_
    refine x_ldc2 C kk_RX12_533 dX12_put_54 ?_
    refine x_land C dX12_put_57 ?_
    refine x_l2i C dX12_put_58 ?_
    refine x_topi (fun x5 e6 => ?_)
    have h := h x5 e6
    obtain ⟨b7, g8, h⟩ := h
    refine x_nn2 g8 ?_
    obtain ⟨g9, h⟩ := h
    obtain ⟨g10, h⟩ := h
    refine x_iast C g9 g10 dX12_put_59 ?_
    refine x_aload_n C dX12_put_60 rfl (lv_at hl 0 rfl) ?_
    refine x_dup C dX12_put_61 (rfl) ?_
    refine x_getI C fl_RX12_530 g2 dX12_put_62 ?_
    refine x_topi (fun x11 e12 => ?_)
    have h := h x11 e12
    refine x_iconst (v := 1) C dX12_put_65 (by decide) ?_
    refine x_iadd C dX12_put_66 ?_
    refine x_topi (fun x13 e14 => ?_)
    have h := h x13 e14
    refine x_putI C fl_RX12_530 (Or.inl rfl) g2 dX12_put_67 ?_
    obtain ⟨x15, e16⟩ : ∃ z : Int32, z = t.2 + (-1 : Int32) := ⟨_, rfl⟩
    have h := h x15 e16
    refine x_iinc (v := x15) (lv' := [(4, .int x15), (0, .ref a0), (1, .long t.1)]) C dX12_put_70 hl (q0 := 2) rfl (by rw [e16]; rfl) (by decide) (by first | rfl | simp [vrc, cat_i, cat_r, cat_l]) (fun ls hl => ?_)
    refine x_goto (tgt := 34) C dX12_put_73 (by decide) ?_
    exact hL34 (t.1, x15) _ h ls (lv_sub hl [1, 2, 0] rfl)
def wp_X12_put (a0 : Nat) (p1 : Int64) (p3 : Int32) (σ : Sto) (Q : Int32 → Sto → Prop) : Prop := (sK σ a0 = 12 ∧ (wp_X12_in p3 (0 : Int32) (8 : Int32) (stI σ a0 0 (0 : Int32)) (fun (x3 : Int32) (σ2 : Sto) => ((x3 = 0 → Q (0 : Int32) σ2) ∧ (¬ x3 = 0 → (sK σ2 a0 = 12 ∧ (∀ x6 : Int32, x6 = sI σ2 a0 91 → (((x6 + p3) ≤ (1500 : Int32) → (∀ x9 : Int32, x9 = p3 - (1 : Int32) → LF (f_X12_put_34 a0  Q) (p1, x9) σ2)) ∧ (¬ (x6 + p3) ≤ (1500 : Int32) → Q (0 : Int32) σ2)))))))))
set_option maxHeartbeats 4000000 in
set_option maxRecDepth 100000 in
theorem c_X12_put (l : Launch) (D : va_G) (cy : Nat → ClassId) (a0 : Nat) (p1 : Int64) (p3 : Int32) (σ : Sto) (Q : Int32 → Sto → Prop) (h : wp_X12_put a0 p1 p3 σ Q) : Mt l D cy yX12_put cX12_put 5 (some .boolean) rm_X12_put [.ref a0, .long p1, .int p3] σ (PsI Q) := by
  unfold wp_X12_put at h
  refine mt_of (by decide +kernel) (Nat.le_of_ble_eq_true rfl) ?_
  intro p e s m args below meth c A ls C hr hnm hl
  have C : Cx p s m args meth c D cy A cX12_put 5 RX12 := C
  have hl : lv_has ls 5 [(0, .ref a0), (1, .long p1), (3, .int p3)] := hl
  refine x_aload_n C dX12_put_0 rfl (lv_at hl 0 rfl) ?_
  refine x_iconst (v := 0) C dX12_put_1 (by decide) ?_
  obtain ⟨g1, h⟩ := h
  refine x_putI C fl_RX12_267 (Or.inl rfl) g1 dX12_put_2 ?_
  refine x_iload_n C dX12_put_5 rfl (lv_at hl 2 rfl) ?_
  refine x_iconst (v := 0) C dX12_put_6 (by decide) ?_
  refine x_bipush (v := 8) C dX12_put_7 (by decide) ?_
  refine x_callS (rm := rm_X12_in) (rest := []) (As := [.int p3, .int (0 : Int32), .int (8 : Int32)]) C cs_RX12_270 (by decide) (by decide) rfl rfl (Nat.le_of_ble_eq_true rfl) hl.1 dX12_put_9 (c_X12_in l D cy p3 (0 : Int32) (8 : Int32) (stI σ a0 0 (0 : Int32)) _ h) (ks_i (fun x3 σ2 h => ?_))
  refine x_if_eq (tgt := 27) C dX12_put_12 (by decide) (fun c4 => ?_) (fun c4 => ?_)
  · have h := h.1 c4
    refine x_iconst (v := 0) C dX12_put_27 (by decide) ?_
    exact x_zret C hr dX12_put_28 (by decide) ⟨_, rfl, h⟩
  · have h := h.2 c4
    refine x_aload_n C dX12_put_15 rfl (lv_at hl 0 rfl) ?_
    obtain ⟨g5, h⟩ := h
    refine x_getI C fl_RX12_530 g5 dX12_put_16 ?_
    refine x_topi (fun x6 e7 => ?_)
    have h := h x6 e7
    refine x_iload_n C dX12_put_19 rfl (lv_at hl 2 rfl) ?_
    refine x_iadd C dX12_put_20 ?_
    refine x_sipush (v := 1500) C dX12_put_21 (by decide) ?_
    refine x_icmp_le (tgt := 29) C dX12_put_24 (by decide) (fun c8 => ?_) (fun c8 => ?_)
    · have h := h.1 c8
      refine x_iload_n C dX12_put_29 rfl (lv_at hl 2 rfl) ?_
      refine x_iconst (v := 1) C dX12_put_30 (by decide) ?_
      refine x_isub C dX12_put_31 ?_
      refine x_topi (fun x9 e10 => ?_)
      have h := h x9 e10
      refine x_istore (i := 4) (lv' := [(4, .int x9), (0, .ref a0), (1, .long p1), (3, .int p3)]) C dX12_put_32 hl (by decide) (by first | rfl | simp [vrc, cat_i, cat_r, cat_l]) (fun ls hl => ?_)
      exact h (fun t σ => ∀ ls : Array Slot, lv_has ls 5 [(0, .ref a0), (1, .long t.1), (4, .int t.2)] → Xw p l e rm_X12_put s m args below meth c D cy A σ 0 0 (MQ below (Qst D cy A (PsI Q)) args s rm_X12_put.cells rm_X12_put.slots A) (F0 m 34 ls [])) (t_X12_put_34 C hr hnm  (fun t σ h => h)) ls (lv_sub hl [1, 2, 0] rfl)
    · have h := h.2 c8
      refine x_iconst (v := 0) C dX12_put_27 (by decide) ?_
      exact x_zret C hr dX12_put_28 (by decide) ⟨_, rfl, h⟩
theorem dX12_take_0 : decode cX12_take 0 = .ok (.aload_n 0, 1) := by decide +kernel
theorem dX12_take_1 : decode cX12_take 1 = .ok (.iconst 0, 1) := by decide +kernel
theorem dX12_take_2 : decode cX12_take 2 = .ok (.putfield 267, 3) := by decide +kernel
theorem dX12_take_5 : decode cX12_take 5 = .ok (.aload_n 0, 1) := by decide +kernel
theorem dX12_take_6 : decode cX12_take 6 = .ok (.aload_n 0, 1) := by decide +kernel
theorem dX12_take_7 : decode cX12_take 7 = .ok (.getfield 492, 3) := by decide +kernel
theorem dX12_take_10 : decode cX12_take 10 = .ok (.sipush 1500, 3) := by decide +kernel
theorem dX12_take_13 : decode cX12_take 13 = .ok (.if_icmp .ge 10, 3) := by decide +kernel
theorem dX12_take_16 : decode cX12_take 16 = .ok (.aload_n 0, 1) := by decide +kernel
theorem dX12_take_17 : decode cX12_take 17 = .ok (.getfield 492, 3) := by decide +kernel
theorem dX12_take_20 : decode cX12_take 20 = .ok (.goto 6, 3) := by decide +kernel
theorem dX12_take_23 : decode cX12_take 23 = .ok (.sipush 1500, 3) := by decide +kernel
theorem dX12_take_26 : decode cX12_take 26 = .ok (.putfield 530, 3) := by decide +kernel
theorem dX12_take_29 : decode cX12_take 29 = .ok (.iconst 0, 1) := by decide +kernel
theorem dX12_take_30 : decode cX12_take 30 = .ok (.istore_n 3, 1) := by decide +kernel
theorem dX12_take_31 : decode cX12_take 31 = .ok (.iload_n 3, 1) := by decide +kernel
theorem dX12_take_32 : decode cX12_take 32 = .ok (.aload_n 0, 1) := by decide +kernel
theorem dX12_take_33 : decode cX12_take 33 = .ok (.getfield 530, 3) := by decide +kernel
theorem dX12_take_36 : decode cX12_take 36 = .ok (.if_icmp .ge 21, 3) := by decide +kernel
theorem dX12_take_39 : decode cX12_take 39 = .ok (.aload_n 0, 1) := by decide +kernel
theorem dX12_take_40 : decode cX12_take 40 = .ok (.getfield 245, 3) := by decide +kernel
theorem dX12_take_43 : decode cX12_take 43 = .ok (.iload_n 3, 1) := by decide +kernel
theorem dX12_take_44 : decode cX12_take 44 = .ok (.aload_n 0, 1) := by decide +kernel
theorem dX12_take_45 : decode cX12_take 45 = .ok (.getfield 242, 3) := by decide +kernel
theorem dX12_take_48 : decode cX12_take 48 = .ok (.iload_n 3, 1) := by decide +kernel
theorem dX12_take_49 : decode cX12_take 49 = .ok (.iaload, 1) := by decide +kernel
theorem dX12_take_50 : decode cX12_take 50 = .ok (.iastore, 1) := by decide +kernel
theorem dX12_take_51 : decode cX12_take 51 = .ok (.iinc 3 1, 3) := by decide +kernel
theorem dX12_take_54 : decode cX12_take 54 = .ok (.goto (-23), 3) := by decide +kernel
theorem dX12_take_57 : decode cX12_take 57 = .ok (.iload_n 1, 1) := by decide +kernel
theorem dX12_take_58 : decode cX12_take 58 = .ok (.iconst 0, 1) := by decide +kernel
theorem dX12_take_59 : decode cX12_take 59 = .ok (.aload_n 0, 1) := by decide +kernel
theorem dX12_take_60 : decode cX12_take 60 = .ok (.getfield 530, 3) := by decide +kernel
theorem dX12_take_63 : decode cX12_take 63 = .ok (.iconst 1, 1) := by decide +kernel
theorem dX12_take_64 : decode cX12_take 64 = .ok (.isub, 1) := by decide +kernel
theorem dX12_take_65 : decode cX12_take 65 = .ok (.invokestatic 270, 3) := by decide +kernel
theorem dX12_take_68 : decode cX12_take 68 = .ok (.ifCond .eq 29, 3) := by decide +kernel
theorem dX12_take_71 : decode cX12_take 71 = .ok (.iload_n 2, 1) := by decide +kernel
theorem dX12_take_72 : decode cX12_take 72 = .ok (.iconst 0, 1) := by decide +kernel
theorem dX12_take_73 : decode cX12_take 73 = .ok (.bipush 7, 2) := by decide +kernel
theorem dX12_take_75 : decode cX12_take 75 = .ok (.invokestatic 270, 3) := by decide +kernel
theorem dX12_take_78 : decode cX12_take 78 = .ok (.ifCond .eq 19, 3) := by decide +kernel
theorem dX12_take_81 : decode cX12_take 81 = .ok (.aload_n 0, 1) := by decide +kernel
theorem dX12_take_82 : decode cX12_take 82 = .ok (.getfield 245, 3) := by decide +kernel
theorem dX12_take_85 : decode cX12_take 85 = .ok (.iload_n 1, 1) := by decide +kernel
theorem dX12_take_86 : decode cX12_take 86 = .ok (.aload_n 0, 1) := by decide +kernel
theorem dX12_take_87 : decode cX12_take 87 = .ok (.getfield 245, 3) := by decide +kernel
theorem dX12_take_90 : decode cX12_take 90 = .ok (.iload_n 1, 1) := by decide +kernel
theorem dX12_take_91 : decode cX12_take 91 = .ok (.iaload, 1) := by decide +kernel
theorem dX12_take_92 : decode cX12_take 92 = .ok (.iconst 1, 1) := by decide +kernel
theorem dX12_take_93 : decode cX12_take 93 = .ok (.iload_n 2, 1) := by decide +kernel
theorem dX12_take_94 : decode cX12_take 94 = .ok (.ishl, 1) := by decide +kernel
theorem dX12_take_95 : decode cX12_take 95 = .ok (.ixor, 1) := by decide +kernel
theorem dX12_take_96 : decode cX12_take 96 = .ok (.iastore, 1) := by decide +kernel
theorem dX12_take_97 : decode cX12_take 97 = .ok (.aload_n 0, 1) := by decide +kernel
theorem dX12_take_98 : decode cX12_take 98 = .ok (.getfield 530, 3) := by decide +kernel
theorem dX12_take_101 : decode cX12_take 101 = .ok (.ireturn, 1) := by decide +kernel
abbrev rm_X12_take : Room := { frames := 1, cells := 0, slots := 0, locals := 22 }
def f_X12_take_31 (a0 : Nat)  (Q : Int32 → Sto → Prop) (L31 : Int32 × Int32 × Int32 → Sto → Prop) (t : Int32 × Int32 × Int32) (σ : Sto) : Prop := (sK σ a0 = 12 ∧ (∀ x2 : Int32, x2 = sI σ a0 91 → ((x2 ≤ t.2.2 → (∀ x5 : Int32, x5 = sI σ a0 91 → (wp_X12_in t.1 (0 : Int32) (x5 - (1 : Int32)) σ (fun (x8 : Int32) (σ7 : Sto) => ((x8 = 0 → (sK σ7 a0 = 12 ∧ (∀ x11 : Int32, x11 = sI σ7 a0 91 → Q x11 σ7))) ∧ (¬ x8 = 0 → (wp_X12_in t.2.1 (0 : Int32) (7 : Int32) σ7 (fun (x14 : Int32) (σ13 : Sto) => ((x14 = 0 → (sK σ13 a0 = 12 ∧ (∀ x17 : Int32, x17 = sI σ13 a0 91 → Q x17 σ13))) ∧ (¬ x14 = 0 → (sK σ13 a0 = 12 ∧ (∃ b20 : Nat, sP σ13 a0 90 = some b20 ∧ (sK σ13 b20 = 14 ∧ (vp_in t.1 (sN σ13 b20) ∧ (∀ x24 : Int32, x24 = sI σ13 b20 t.1.toNatClampNeg → (∀ x26 : Int32, x26 = x24 ^^^ ((1 : Int32) <<< (t.2.1 &&& 31)) → (vp_in t.1 (sN σ13 b20) ∧ (∀ x29 : Int32, x29 = sI (stI σ13 b20 t.1.toNatClampNeg x26) a0 91 → Q x29 (stI σ13 b20 t.1.toNatClampNeg x26))))))))))))))))))) ∧ (¬ x2 ≤ t.2.2 → (∃ b31 : Nat, sP σ a0 88 = some b31 ∧ (sK σ b31 = 14 ∧ (vp_in t.2.2 (sN σ b31) ∧ (∀ x35 : Int32, x35 = sI σ b31 t.2.2.toNatClampNeg → (∃ b37 : Nat, sP σ a0 90 = some b37 ∧ (sK σ b37 = 14 ∧ (vp_in t.2.2 (sN σ b37) ∧ (∀ x41 : Int32, x41 = t.2.2 + (1 : Int32) → L31 (t.1, t.2.1, x41) (stI σ b37 t.2.2.toNatClampNeg x35)))))))))))))
set_option maxHeartbeats 4000000 in
set_option maxRecDepth 100000 in
theorem t_X12_take_31 {p : Program} {l : Launch} {e : Env} {s : State} {m : MethodId} {args : Array Value} {below : List Frame} {meth : Method} {c : Code} {D : va_G} {cy : Nat → ClassId} {A : Nat → Prop} {a0 : Nat} {Q : Int32 → Sto → Prop} {L31 : Int32 × Int32 × Int32 → Sto → Prop} (C : Cx p s m args meth c D cy A cX12_take 4 RX12) (hr : meth.sig.returnType = (some .int)) (hnm : meth.name = yX12_take.name) (hL31 : ∀ (t : Int32 × Int32 × Int32) (σ : Sto), L31 t σ → ∀ ls : Array Slot, lv_has ls 4 [(0, .ref a0), (1, .int t.1), (2, .int t.2.1), (3, .int t.2.2)] → Xw p l e rm_X12_take s m args below meth c D cy A σ 0 0 (MQ below (Qst D cy A (PsI Q)) args s rm_X12_take.cells rm_X12_take.slots A) (F0 m 31 ls [])) : ∀ (t : Int32 × Int32 × Int32) (σ : Sto), f_X12_take_31 a0  Q L31 t σ → ∀ ls : Array Slot, lv_has ls 4 [(0, .ref a0), (1, .int t.1), (2, .int t.2.1), (3, .int t.2.2)] → Xw p l e rm_X12_take s m args below meth c D cy A σ 0 0 (MQ below (Qst D cy A (PsI Q)) args s rm_X12_take.cells rm_X12_take.slots A) (F0 m 31 ls []) := by
  intro t σ h ls hl
  unfold f_X12_take_31 at h
  refine x_iload_n C dX12_take_31 rfl (lv_at hl 3 rfl) ?_
  refine x_aload_n C dX12_take_32 rfl (lv_at hl 0 rfl) ?_
  obtain ⟨g1, h⟩ := h
  refine x_getI C fl_RX12_530 g1 dX12_take_33 ?_
  refine x_topi (fun x2 e3 => ?_)
  have h := h x2 e3
  refine x_icmp_ge (tgt := 57) C dX12_take_36 (by decide) (fun c4 => ?_) (fun c4 => ?_)
  · have h := h.1 c4
    refine x_iload_n C dX12_take_57 rfl (lv_at hl 1 rfl) ?_
    refine x_iconst (v := 0) C dX12_take_58 (by decide) ?_
    refine x_aload_n C dX12_take_59 rfl (lv_at hl 0 rfl) ?_
    refine x_getI C fl_RX12_530 g1 dX12_take_60 ?_
    refine x_topi (fun x5 e6 => ?_)
    have h := h x5 e6
    refine x_iconst (v := 1) C dX12_take_63 (by decide) ?_
    refine x_isub C dX12_take_64 ?_
    refine x_callS (rm := rm_X12_in) (rest := []) (As := [.int t.1, .int (0 : Int32), .int (x5 - (1 : Int32))]) C cs_RX12_270 (by decide) (by decide) rfl rfl (Nat.le_of_ble_eq_true rfl) hl.1 dX12_take_65 (c_X12_in l D cy t.1 (0 : Int32) (x5 - (1 : Int32)) σ _ h) (ks_i (fun x8 σ7 h => ?_))
    refine x_if_eq (tgt := 97) C dX12_take_68 (by decide) (fun c9 => ?_) (fun c9 => ?_)
    · have h := h.1 c9
      refine x_aload_n C dX12_take_97 rfl (lv_at hl 0 rfl) ?_
      obtain ⟨g10, h⟩ := h
      refine x_getI C fl_RX12_530 g10 dX12_take_98 ?_
      refine x_topi (fun x11 e12 => ?_)
      have h := h x11 e12
      exact x_iret C hr dX12_take_101 ⟨_, rfl, h⟩
    · have h := h.2 c9
      refine x_iload_n C dX12_take_71 rfl (lv_at hl 2 rfl) ?_
      refine x_iconst (v := 0) C dX12_take_72 (by decide) ?_
      refine x_bipush (v := 7) C dX12_take_73 (by decide) ?_
      refine x_callS (rm := rm_X12_in) (rest := []) (As := [.int t.2.1, .int (0 : Int32), .int (7 : Int32)]) C cs_RX12_270 (by decide) (by decide) rfl rfl (Nat.le_of_ble_eq_true rfl) hl.1 dX12_take_75 (c_X12_in l D cy t.2.1 (0 : Int32) (7 : Int32) σ7 _ h) (ks_i (fun x14 σ13 h => ?_))
      refine x_if_eq (tgt := 97) C dX12_take_78 (by decide) (fun c15 => ?_) (fun c15 => ?_)
      · have h := h.1 c15
        refine x_aload_n C dX12_take_97 rfl (lv_at hl 0 rfl) ?_
        obtain ⟨g16, h⟩ := h
        refine x_getI C fl_RX12_530 g16 dX12_take_98 ?_
        refine x_topi (fun x17 e18 => ?_)
        have h := h x17 e18
        exact x_iret C hr dX12_take_101 ⟨_, rfl, h⟩
      · have h := h.2 c15
        refine x_aload_n C dX12_take_81 rfl (lv_at hl 0 rfl) ?_
        obtain ⟨g19, h⟩ := h
        refine x_getP C fl_RX12_245 g19 dX12_take_82 ?_
        refine x_iload_n C dX12_take_85 rfl (lv_at hl 1 rfl) ?_
        refine x_aload_n C dX12_take_86 rfl (lv_at hl 0 rfl) ?_
        refine x_getP C fl_RX12_245 g19 dX12_take_87 ?_
        refine x_iload_n C dX12_take_90 rfl (lv_at hl 1 rfl) ?_
        obtain ⟨b20, g21, h⟩ := h
        refine x_nn1 g21 ?_
        obtain ⟨g22, h⟩ := h
        obtain ⟨g23, h⟩ := h
        refine x_iald C g22 g23 dX12_take_91 ?_
        refine x_topi (fun x24 e25 => ?_)
        have h := h x24 e25
        refine x_iconst (v := 1) C dX12_take_92 (by decide) ?_
        refine x_iload_n C dX12_take_93 rfl (lv_at hl 2 rfl) ?_
        refine x_ishl C dX12_take_94 ?_
        refine x_ixor C dX12_take_95 ?_
        refine x_topi (fun x26 e27 => ?_)
        have h := h x26 e27
        refine x_nn2 g21 ?_
        obtain ⟨g28, h⟩ := h
        refine x_iast C g22 g28 dX12_take_96 ?_
        refine x_aload_n C dX12_take_97 rfl (lv_at hl 0 rfl) ?_
        refine x_getI C fl_RX12_530 g19 dX12_take_98 ?_
        refine x_topi (fun x29 e30 => ?_)
        have h := h x29 e30
        exact x_iret C hr dX12_take_101 ⟨_, rfl, h⟩
  · have h := h.2 c4
    refine x_aload_n C dX12_take_39 rfl (lv_at hl 0 rfl) ?_
    refine x_getP C fl_RX12_245 g1 dX12_take_40 ?_
    refine x_iload_n C dX12_take_43 rfl (lv_at hl 3 rfl) ?_
    refine x_aload_n C dX12_take_44 rfl (lv_at hl 0 rfl) ?_
    refine x_getP C fl_RX12_242 g1 dX12_take_45 ?_
    refine x_iload_n C dX12_take_48 rfl (lv_at hl 3 rfl) ?_
    obtain ⟨b31, g32, h⟩ := h
    refine x_nn1 g32 ?_
    obtain ⟨g33, h⟩ := h
    obtain ⟨g34, h⟩ := h
    refine x_iald C g33 g34 dX12_take_49 ?_
    refine x_topi (fun x35 e36 => ?_)
    have h := h x35 e36
    obtain ⟨b37, g38, h⟩ := h
    refine x_nn2 g38 ?_
    obtain ⟨g39, h⟩ := h
    obtain ⟨g40, h⟩ := h
    refine x_iast C g39 g40 dX12_take_50 ?_
    obtain ⟨x41, e42⟩ : ∃ z : Int32, z = t.2.2 + (1 : Int32) := ⟨_, rfl⟩
    have h := h x41 e42
    refine x_iinc (v := x41) (lv' := [(3, .int x41), (0, .ref a0), (1, .int t.1), (2, .int t.2.1)]) C dX12_take_51 hl (q0 := 3) rfl (by rw [e42]; rfl) (by decide) (by first | rfl | simp [vrc, cat_i, cat_r, cat_l]) (fun ls hl => ?_)
    refine x_goto (tgt := 31) C dX12_take_54 (by decide) ?_
    exact hL31 (t.1, t.2.1, x41) _ h ls (lv_sub hl [1, 2, 3, 0] rfl)
def b_X12_take_26 (a0 : Nat)  (Q : Int32 → Sto → Prop) (p1 : Int32) (p2 : Int32) (s0 : Int32) (s1 : Nat) (σ : Sto) : Prop := (sK σ s1 = 12 ∧ LF (f_X12_take_31 a0  Q) (p1, p2, (0 : Int32)) (stI σ s1 91 s0))
set_option maxHeartbeats 4000000 in
set_option maxRecDepth 100000 in
theorem t_X12_take_26 {p : Program} {l : Launch} {e : Env} {s : State} {m : MethodId} {args : Array Value} {below : List Frame} {meth : Method} {c : Code} {D : va_G} {cy : Nat → ClassId} {A : Nat → Prop} {a0 : Nat} {Q : Int32 → Sto → Prop} (C : Cx p s m args meth c D cy A cX12_take 4 RX12) (hr : meth.sig.returnType = (some .int)) (hnm : meth.name = yX12_take.name) (p1 : Int32) (p2 : Int32) (s0 : Int32) (s1 : Nat) (σ : Sto) (h : b_X12_take_26 a0  Q p1 p2 s0 s1 σ) (ls : Array Slot) (hl : lv_has ls 4 [(0, .ref a0), (1, .int p1), (2, .int p2)]) : Xw p l e rm_X12_take s m args below meth c D cy A σ 0 0 (MQ below (Qst D cy A (PsI Q)) args s rm_X12_take.cells rm_X12_take.slots A) (F0 m 26 ls [.int s0, .ref s1]) := by
  unfold b_X12_take_26 at h
  obtain ⟨g1, h⟩ := h
  refine x_putI C fl_RX12_530 (Or.inl rfl) g1 dX12_take_26 ?_
  refine x_iconst (v := 0) C dX12_take_29 (by decide) ?_
  refine x_istore_n (i := 3) (lv' := [(3, .int (0 : Int32)), (0, .ref a0), (1, .int p1), (2, .int p2)]) C dX12_take_30 rfl hl (by decide) (by first | rfl | simp [vrc, cat_i, cat_r, cat_l]) (fun ls hl => ?_)
  exact h (fun t σ => ∀ ls : Array Slot, lv_has ls 4 [(0, .ref a0), (1, .int t.1), (2, .int t.2.1), (3, .int t.2.2)] → Xw p l e rm_X12_take s m args below meth c D cy A σ 0 0 (MQ below (Qst D cy A (PsI Q)) args s rm_X12_take.cells rm_X12_take.slots A) (F0 m 31 ls [])) (t_X12_take_31 C hr hnm  (fun t σ h => h)) ls (lv_sub hl [1, 2, 3, 0] rfl)
def wp_X12_take (a0 : Nat) (p1 : Int32) (p2 : Int32) (σ : Sto) (Q : Int32 → Sto → Prop) : Prop := (sK σ a0 = 12 ∧ (∀ x2 : Int32, x2 = sI (stI σ a0 0 (0 : Int32)) a0 89 → (((1500 : Int32) ≤ x2 → b_X12_take_26 a0  Q p1 p2 (1500 : Int32) a0 (stI σ a0 0 (0 : Int32))) ∧ (¬ (1500 : Int32) ≤ x2 → (∀ x5 : Int32, x5 = sI (stI σ a0 0 (0 : Int32)) a0 89 → b_X12_take_26 a0  Q p1 p2 x5 a0 (stI σ a0 0 (0 : Int32)))))))
set_option maxHeartbeats 4000000 in
set_option maxRecDepth 100000 in
theorem c_X12_take (l : Launch) (D : va_G) (cy : Nat → ClassId) (a0 : Nat) (p1 : Int32) (p2 : Int32) (σ : Sto) (Q : Int32 → Sto → Prop) (h : wp_X12_take a0 p1 p2 σ Q) : Mt l D cy yX12_take cX12_take 4 (some .int) rm_X12_take [.ref a0, .int p1, .int p2] σ (PsI Q) := by
  unfold wp_X12_take at h
  refine mt_of (by decide +kernel) (Nat.le_of_ble_eq_true rfl) ?_
  intro p e s m args below meth c A ls C hr hnm hl
  have C : Cx p s m args meth c D cy A cX12_take 4 RX12 := C
  have hl : lv_has ls 4 [(0, .ref a0), (1, .int p1), (2, .int p2)] := hl
  refine x_aload_n C dX12_take_0 rfl (lv_at hl 0 rfl) ?_
  refine x_iconst (v := 0) C dX12_take_1 (by decide) ?_
  obtain ⟨g1, h⟩ := h
  refine x_putI C fl_RX12_267 (Or.inl rfl) g1 dX12_take_2 ?_
  refine x_aload_n C dX12_take_5 rfl (lv_at hl 0 rfl) ?_
  refine x_aload_n C dX12_take_6 rfl (lv_at hl 0 rfl) ?_
  refine x_getI C fl_RX12_492 g1 dX12_take_7 ?_
  refine x_topi (fun x2 e3 => ?_)
  have h := h x2 e3
  refine x_sipush (v := 1500) C dX12_take_10 (by decide) ?_
  refine x_icmp_ge (tgt := 23) C dX12_take_13 (by decide) (fun c4 => ?_) (fun c4 => ?_)
  · have h := h.1 c4
    refine x_sipush (v := 1500) C dX12_take_23 (by decide) ?_
    exact t_X12_take_26 C hr hnm  p1 p2 (1500 : Int32) a0 _ h ls (lv_sub hl [0, 1, 2] rfl)
  · have h := h.2 c4
    refine x_aload_n C dX12_take_16 rfl (lv_at hl 0 rfl) ?_
    refine x_getI C fl_RX12_492 g1 dX12_take_17 ?_
    refine x_topi (fun x5 e6 => ?_)
    have h := h x5 e6
    refine x_goto (tgt := 26) C dX12_take_20 (by decide) ?_
    exact t_X12_take_26 C hr hnm  p1 p2 x5 a0 _ h ls (lv_sub hl [0, 1, 2] rfl)
theorem dX12_wrongs_0 : decode cX12_wrongs 0 = .ok (.aload_n 0, 1) := by decide +kernel
theorem dX12_wrongs_1 : decode cX12_wrongs 1 = .ok (.getfield 535, 3) := by decide +kernel
theorem dX12_wrongs_4 : decode cX12_wrongs 4 = .ok (.ifCond .le 4, 3) := by decide +kernel
theorem dX12_wrongs_7 : decode cX12_wrongs 7 = .ok (.return_, 1) := by decide +kernel
theorem dX12_wrongs_8 : decode cX12_wrongs 8 = .ok (.aload_n 0, 1) := by decide +kernel
theorem dX12_wrongs_9 : decode cX12_wrongs 9 = .ok (.iload_n 1, 1) := by decide +kernel
theorem dX12_wrongs_10 : decode cX12_wrongs 10 = .ok (.putfield 535, 3) := by decide +kernel
theorem dX12_wrongs_13 : decode cX12_wrongs 13 = .ok (.aload_n 0, 1) := by decide +kernel
theorem dX12_wrongs_14 : decode cX12_wrongs 14 = .ok (.iload_n 2, 1) := by decide +kernel
theorem dX12_wrongs_15 : decode cX12_wrongs 15 = .ok (.putfield 251, 3) := by decide +kernel
theorem dX12_wrongs_18 : decode cX12_wrongs 18 = .ok (.return_, 1) := by decide +kernel
abbrev rm_X12_wrongs : Room := { frames := 0, cells := 0, slots := 0, locals := 0 }
def wp_X12_wrongs (a0 : Nat) (p1 : Int32) (p2 : Int32) (σ : Sto) (Q : Sto → Prop) : Prop := (sK σ a0 = 12 ∧ (∀ x2 : Int32, x2 = sI σ a0 95 → ((x2 ≤ 0 → Q (stI (stI σ a0 95 p1) a0 96 p2)) ∧ (¬ x2 ≤ 0 → Q σ))))
set_option maxHeartbeats 4000000 in
set_option maxRecDepth 100000 in
theorem c_X12_wrongs (l : Launch) (D : va_G) (cy : Nat → ClassId) (a0 : Nat) (p1 : Int32) (p2 : Int32) (σ : Sto) (Q : Sto → Prop) (h : wp_X12_wrongs a0 p1 p2 σ Q) : Mt l D cy yX12_wrongs cX12_wrongs 3 none rm_X12_wrongs [.ref a0, .int p1, .int p2] σ (PsV Q) := by
  unfold wp_X12_wrongs at h
  refine mt_of (by decide +kernel) (Nat.le_of_ble_eq_true rfl) ?_
  intro p e s m args below meth c A ls C hr hnm hl
  have C : Cx p s m args meth c D cy A cX12_wrongs 3 RX12 := C
  have hl : lv_has ls 3 [(0, .ref a0), (1, .int p1), (2, .int p2)] := hl
  refine x_aload_n C dX12_wrongs_0 rfl (lv_at hl 0 rfl) ?_
  obtain ⟨g1, h⟩ := h
  refine x_getI C fl_RX12_535 g1 dX12_wrongs_1 ?_
  refine x_topi (fun x2 e3 => ?_)
  have h := h x2 e3
  refine x_if_le (tgt := 8) C dX12_wrongs_4 (by decide) (fun c4 => ?_) (fun c4 => ?_)
  · have h := h.1 c4
    refine x_aload_n C dX12_wrongs_8 rfl (lv_at hl 0 rfl) ?_
    refine x_iload_n C dX12_wrongs_9 rfl (lv_at hl 1 rfl) ?_
    refine x_putI C fl_RX12_535 (Or.inl rfl) g1 dX12_wrongs_10 ?_
    refine x_aload_n C dX12_wrongs_13 rfl (lv_at hl 0 rfl) ?_
    refine x_iload_n C dX12_wrongs_14 rfl (lv_at hl 2 rfl) ?_
    refine x_putI C fl_RX12_251 (Or.inl rfl) g1 dX12_wrongs_15 ?_
    exact x_vret C hr dX12_wrongs_18 ⟨rfl, h⟩
  · have h := h.2 c4
    exact x_vret C hr dX12_wrongs_7 ⟨rfl, h⟩
theorem dX12_next_0 : decode cX12_next 0 = .ok (.aload_n 0, 1) := by decide +kernel
theorem dX12_next_1 : decode cX12_next 1 = .ok (.getfield 535, 3) := by decide +kernel
theorem dX12_next_4 : decode cX12_next 4 = .ok (.ifCond .le 5, 3) := by decide +kernel
theorem dX12_next_7 : decode cX12_next 7 = .ok (.iconst 0, 1) := by decide +kernel
theorem dX12_next_8 : decode cX12_next 8 = .ok (.ireturn, 1) := by decide +kernel
theorem dX12_next_9 : decode cX12_next 9 = .ok (.aload_n 0, 1) := by decide +kernel
theorem dX12_next_10 : decode cX12_next 10 = .ok (.getfield 538, 3) := by decide +kernel
theorem dX12_next_13 : decode cX12_next 13 = .ok (.aload_n 0, 1) := by decide +kernel
theorem dX12_next_14 : decode cX12_next 14 = .ok (.getfield 530, 3) := by decide +kernel
theorem dX12_next_17 : decode cX12_next 17 = .ok (.if_icmp .ne 14, 3) := by decide +kernel
theorem dX12_next_20 : decode cX12_next 20 = .ok (.aload_n 0, 1) := by decide +kernel
theorem dX12_next_21 : decode cX12_next 21 = .ok (.iconst 1, 1) := by decide +kernel
theorem dX12_next_22 : decode cX12_next 22 = .ok (.aload_n 0, 1) := by decide +kernel
theorem dX12_next_23 : decode cX12_next 23 = .ok (.getfield 530, 3) := by decide +kernel
theorem dX12_next_26 : decode cX12_next 26 = .ok (.invokevirtual 541, 3) := by decide +kernel
theorem dX12_next_29 : decode cX12_next 29 = .ok (.iconst 0, 1) := by decide +kernel
theorem dX12_next_30 : decode cX12_next 30 = .ok (.ireturn, 1) := by decide +kernel
theorem dX12_next_31 : decode cX12_next 31 = .ok (.aload_n 0, 1) := by decide +kernel
theorem dX12_next_32 : decode cX12_next 32 = .ok (.dup, 1) := by decide +kernel
theorem dX12_next_33 : decode cX12_next 33 = .ok (.getfield 538, 3) := by decide +kernel
theorem dX12_next_36 : decode cX12_next 36 = .ok (.iconst 1, 1) := by decide +kernel
theorem dX12_next_37 : decode cX12_next 37 = .ok (.iadd, 1) := by decide +kernel
theorem dX12_next_38 : decode cX12_next 38 = .ok (.putfield 538, 3) := by decide +kernel
theorem dX12_next_41 : decode cX12_next 41 = .ok (.aload_n 0, 1) := by decide +kernel
theorem dX12_next_42 : decode cX12_next 42 = .ok (.getfield 245, 3) := by decide +kernel
theorem dX12_next_45 : decode cX12_next 45 = .ok (.aload_n 0, 1) := by decide +kernel
theorem dX12_next_46 : decode cX12_next 46 = .ok (.getfield 538, 3) := by decide +kernel
theorem dX12_next_49 : decode cX12_next 49 = .ok (.iconst 1, 1) := by decide +kernel
theorem dX12_next_50 : decode cX12_next 50 = .ok (.isub, 1) := by decide +kernel
theorem dX12_next_51 : decode cX12_next 51 = .ok (.iaload, 1) := by decide +kernel
theorem dX12_next_52 : decode cX12_next 52 = .ok (.ireturn, 1) := by decide +kernel
abbrev rm_X12_next : Room := { frames := 1, cells := 0, slots := 0, locals := 22 }
def wp_X12_next (a0 : Nat)  (σ : Sto) (Q : Int32 → Sto → Prop) : Prop := (sK σ a0 = 12 ∧ (∀ x2 : Int32, x2 = sI σ a0 95 → ((x2 ≤ 0 → (∀ x5 : Int32, x5 = sI σ a0 94 → (∀ x7 : Int32, x7 = sI σ a0 91 → ((¬ x5 = x7 → (∀ x10 : Int32, x10 = sI σ a0 94 → (∀ x12 : Int32, x12 = x10 + (1 : Int32) → (∀ x14 : Int32, x14 = sI (stI σ a0 94 x12) a0 94 → (∀ x16 : Int32, x16 = x14 - (1 : Int32) → (∃ b18 : Nat, sP σ a0 90 = some b18 ∧ (sK σ b18 = 14 ∧ (vp_in x16 (sN σ b18) ∧ (∀ x22 : Int32, x22 = sI (stI σ a0 94 x12) b18 x16.toNatClampNeg → Q x22 (stI σ a0 94 x12)))))))))) ∧ (x5 = x7 → (∀ x24 : Int32, x24 = sI σ a0 91 → (wp_X12_wrongs a0 (1 : Int32) x24 σ (fun (σ26 : Sto) => Q (0 : Int32) σ26)))))))) ∧ (¬ x2 ≤ 0 → Q (0 : Int32) σ))))
set_option maxHeartbeats 4000000 in
set_option maxRecDepth 100000 in
theorem c_X12_next (l : Launch) (D : va_G) (cy : Nat → ClassId) (a0 : Nat)  (σ : Sto) (Q : Int32 → Sto → Prop) (h : wp_X12_next a0  σ Q) : Mt l D cy yX12_next cX12_next 1 (some .int) rm_X12_next [.ref a0] σ (PsI Q) := by
  unfold wp_X12_next at h
  refine mt_of (by decide +kernel) (Nat.le_of_ble_eq_true rfl) ?_
  intro p e s m args below meth c A ls C hr hnm hl
  have C : Cx p s m args meth c D cy A cX12_next 1 RX12 := C
  have hl : lv_has ls 1 [(0, .ref a0)] := hl
  refine x_aload_n C dX12_next_0 rfl (lv_at hl 0 rfl) ?_
  obtain ⟨g1, h⟩ := h
  refine x_getI C fl_RX12_535 g1 dX12_next_1 ?_
  refine x_topi (fun x2 e3 => ?_)
  have h := h x2 e3
  refine x_if_le (tgt := 9) C dX12_next_4 (by decide) (fun c4 => ?_) (fun c4 => ?_)
  · have h := h.1 c4
    refine x_aload_n C dX12_next_9 rfl (lv_at hl 0 rfl) ?_
    refine x_getI C fl_RX12_538 g1 dX12_next_10 ?_
    refine x_topi (fun x5 e6 => ?_)
    have h := h x5 e6
    refine x_aload_n C dX12_next_13 rfl (lv_at hl 0 rfl) ?_
    refine x_getI C fl_RX12_530 g1 dX12_next_14 ?_
    refine x_topi (fun x7 e8 => ?_)
    have h := h x7 e8
    refine x_icmp_ne (tgt := 31) C dX12_next_17 (by decide) (fun c9 => ?_) (fun c9 => ?_)
    · have h := h.1 c9
      refine x_aload_n C dX12_next_31 rfl (lv_at hl 0 rfl) ?_
      refine x_dup C dX12_next_32 (rfl) ?_
      refine x_getI C fl_RX12_538 g1 dX12_next_33 ?_
      refine x_topi (fun x10 e11 => ?_)
      have h := h x10 e11
      refine x_iconst (v := 1) C dX12_next_36 (by decide) ?_
      refine x_iadd C dX12_next_37 ?_
      refine x_topi (fun x12 e13 => ?_)
      have h := h x12 e13
      refine x_putI C fl_RX12_538 (Or.inl rfl) g1 dX12_next_38 ?_
      refine x_aload_n C dX12_next_41 rfl (lv_at hl 0 rfl) ?_
      refine x_getP C fl_RX12_245 g1 dX12_next_42 ?_
      refine x_aload_n C dX12_next_45 rfl (lv_at hl 0 rfl) ?_
      refine x_getI C fl_RX12_538 g1 dX12_next_46 ?_
      refine x_topi (fun x14 e15 => ?_)
      have h := h x14 e15
      refine x_iconst (v := 1) C dX12_next_49 (by decide) ?_
      refine x_isub C dX12_next_50 ?_
      refine x_topi (fun x16 e17 => ?_)
      have h := h x16 e17
      obtain ⟨b18, g19, h⟩ := h
      refine x_nn1 g19 ?_
      obtain ⟨g20, h⟩ := h
      obtain ⟨g21, h⟩ := h
      refine x_iald C g20 g21 dX12_next_51 ?_
      refine x_topi (fun x22 e23 => ?_)
      have h := h x22 e23
      exact x_iret C hr dX12_next_52 ⟨_, rfl, h⟩
    · have h := h.2 c9
      refine x_aload_n C dX12_next_20 rfl (lv_at hl 0 rfl) ?_
      refine x_iconst (v := 1) C dX12_next_21 (by decide) ?_
      refine x_aload_n C dX12_next_22 rfl (lv_at hl 0 rfl) ?_
      refine x_getI C fl_RX12_530 g1 dX12_next_23 ?_
      refine x_topi (fun x24 e25 => ?_)
      have h := h x24 e25
      refine x_callV (rm := rm_X12_wrongs) (rest := []) (As := [.int (1 : Int32), .int x24]) C cy_RX12_541 g1 (by decide) (by decide) rfl rfl (Nat.le_of_ble_eq_true rfl) hl.1 dX12_next_26 (c_X12_wrongs l D cy a0 (1 : Int32) x24 σ _ h) (ks_v (fun σ26 h => ?_))
      refine x_iconst (v := 0) C dX12_next_29 (by decide) ?_
      exact x_iret C hr dX12_next_30 ⟨_, rfl, h⟩
  · have h := h.2 c4
    refine x_iconst (v := 0) C dX12_next_7 (by decide) ?_
    exact x_iret C hr dX12_next_8 ⟨_, rfl, h⟩
theorem dX12_keep_0 : decode cX12_keep 0 = .ok (.aload_n 0, 1) := by decide +kernel
theorem dX12_keep_1 : decode cX12_keep 1 = .ok (.getfield 535, 3) := by decide +kernel
theorem dX12_keep_4 : decode cX12_keep 4 = .ok (.ifCond .le 4, 3) := by decide +kernel
theorem dX12_keep_7 : decode cX12_keep 7 = .ok (.return_, 1) := by decide +kernel
theorem dX12_keep_8 : decode cX12_keep 8 = .ok (.aload_n 0, 1) := by decide +kernel
theorem dX12_keep_9 : decode cX12_keep 9 = .ok (.getfield 248, 3) := by decide +kernel
theorem dX12_keep_12 : decode cX12_keep 12 = .ok (.aload_n 0, 1) := by decide +kernel
theorem dX12_keep_13 : decode cX12_keep 13 = .ok (.getfield 544, 3) := by decide +kernel
theorem dX12_keep_16 : decode cX12_keep 16 = .ok (.iload_n 1, 1) := by decide +kernel
theorem dX12_keep_17 : decode cX12_keep 17 = .ok (.iastore, 1) := by decide +kernel
theorem dX12_keep_18 : decode cX12_keep 18 = .ok (.aload_n 0, 1) := by decide +kernel
theorem dX12_keep_19 : decode cX12_keep 19 = .ok (.dup, 1) := by decide +kernel
theorem dX12_keep_20 : decode cX12_keep 20 = .ok (.getfield 544, 3) := by decide +kernel
theorem dX12_keep_23 : decode cX12_keep 23 = .ok (.iconst 1, 1) := by decide +kernel
theorem dX12_keep_24 : decode cX12_keep 24 = .ok (.iadd, 1) := by decide +kernel
theorem dX12_keep_25 : decode cX12_keep 25 = .ok (.putfield 544, 3) := by decide +kernel
theorem dX12_keep_28 : decode cX12_keep 28 = .ok (.return_, 1) := by decide +kernel
abbrev rm_X12_keep : Room := { frames := 0, cells := 0, slots := 0, locals := 0 }
def wp_X12_keep (a0 : Nat) (p1 : Int32) (σ : Sto) (Q : Sto → Prop) : Prop := (sK σ a0 = 12 ∧ (∀ x2 : Int32, x2 = sI σ a0 95 → ((x2 ≤ 0 → (∀ x5 : Int32, x5 = sI σ a0 93 → (∃ b7 : Nat, sP σ a0 92 = some b7 ∧ (sK σ b7 = 14 ∧ (vp_in x5 (sN σ b7) ∧ (∀ x11 : Int32, x11 = sI (stI σ b7 x5.toNatClampNeg p1) a0 93 → (∀ x13 : Int32, x13 = x11 + (1 : Int32) → Q (stI (stI σ b7 x5.toNatClampNeg p1) a0 93 x13)))))))) ∧ (¬ x2 ≤ 0 → Q σ))))
set_option maxHeartbeats 4000000 in
set_option maxRecDepth 100000 in
theorem c_X12_keep (l : Launch) (D : va_G) (cy : Nat → ClassId) (a0 : Nat) (p1 : Int32) (σ : Sto) (Q : Sto → Prop) (h : wp_X12_keep a0 p1 σ Q) : Mt l D cy yX12_keep cX12_keep 2 none rm_X12_keep [.ref a0, .int p1] σ (PsV Q) := by
  unfold wp_X12_keep at h
  refine mt_of (by decide +kernel) (Nat.le_of_ble_eq_true rfl) ?_
  intro p e s m args below meth c A ls C hr hnm hl
  have C : Cx p s m args meth c D cy A cX12_keep 2 RX12 := C
  have hl : lv_has ls 2 [(0, .ref a0), (1, .int p1)] := hl
  refine x_aload_n C dX12_keep_0 rfl (lv_at hl 0 rfl) ?_
  obtain ⟨g1, h⟩ := h
  refine x_getI C fl_RX12_535 g1 dX12_keep_1 ?_
  refine x_topi (fun x2 e3 => ?_)
  have h := h x2 e3
  refine x_if_le (tgt := 8) C dX12_keep_4 (by decide) (fun c4 => ?_) (fun c4 => ?_)
  · have h := h.1 c4
    refine x_aload_n C dX12_keep_8 rfl (lv_at hl 0 rfl) ?_
    refine x_getP C fl_RX12_248 g1 dX12_keep_9 ?_
    refine x_aload_n C dX12_keep_12 rfl (lv_at hl 0 rfl) ?_
    refine x_getI C fl_RX12_544 g1 dX12_keep_13 ?_
    refine x_topi (fun x5 e6 => ?_)
    have h := h x5 e6
    refine x_iload_n C dX12_keep_16 rfl (lv_at hl 1 rfl) ?_
    obtain ⟨b7, g8, h⟩ := h
    refine x_nn2 g8 ?_
    obtain ⟨g9, h⟩ := h
    obtain ⟨g10, h⟩ := h
    refine x_iast C g9 g10 dX12_keep_17 ?_
    refine x_aload_n C dX12_keep_18 rfl (lv_at hl 0 rfl) ?_
    refine x_dup C dX12_keep_19 (rfl) ?_
    refine x_getI C fl_RX12_544 g1 dX12_keep_20 ?_
    refine x_topi (fun x11 e12 => ?_)
    have h := h x11 e12
    refine x_iconst (v := 1) C dX12_keep_23 (by decide) ?_
    refine x_iadd C dX12_keep_24 ?_
    refine x_topi (fun x13 e14 => ?_)
    have h := h x13 e14
    refine x_putI C fl_RX12_544 (Or.inl rfl) g1 dX12_keep_25 ?_
    exact x_vret C hr dX12_keep_28 ⟨rfl, h⟩
  · have h := h.2 c4
    exact x_vret C hr dX12_keep_7 ⟨rfl, h⟩
theorem dX12_readByte_0 : decode cX12_readByte 0 = .ok (.aload_n 0, 1) := by decide +kernel
theorem dX12_readByte_1 : decode cX12_readByte 1 = .ok (.getfield 538, 3) := by decide +kernel
theorem dX12_readByte_4 : decode cX12_readByte 4 = .ok (.istore_n 2, 1) := by decide +kernel
theorem dX12_readByte_5 : decode cX12_readByte 5 = .ok (.aload_n 0, 1) := by decide +kernel
theorem dX12_readByte_6 : decode cX12_readByte 6 = .ok (.invokevirtual 547, 3) := by decide +kernel
theorem dX12_readByte_9 : decode cX12_readByte 9 = .ok (.istore_n 3, 1) := by decide +kernel
theorem dX12_readByte_10 : decode cX12_readByte 10 = .ok (.iload_n 3, 1) := by decide +kernel
theorem dX12_readByte_11 : decode cX12_readByte 11 = .ok (.iload_n 1, 1) := by decide +kernel
theorem dX12_readByte_12 : decode cX12_readByte 12 = .ok (.if_icmp .le 9, 3) := by decide +kernel
theorem dX12_readByte_15 : decode cX12_readByte 15 = .ok (.aload_n 0, 1) := by decide +kernel
theorem dX12_readByte_16 : decode cX12_readByte 16 = .ok (.iconst 2, 1) := by decide +kernel
theorem dX12_readByte_17 : decode cX12_readByte 17 = .ok (.iload_n 2, 1) := by decide +kernel
theorem dX12_readByte_18 : decode cX12_readByte 18 = .ok (.invokevirtual 541, 3) := by decide +kernel
theorem dX12_readByte_21 : decode cX12_readByte 21 = .ok (.aload_n 0, 1) := by decide +kernel
theorem dX12_readByte_22 : decode cX12_readByte 22 = .ok (.iload_n 3, 1) := by decide +kernel
theorem dX12_readByte_23 : decode cX12_readByte 23 = .ok (.invokevirtual 550, 3) := by decide +kernel
theorem dX12_readByte_26 : decode cX12_readByte 26 = .ok (.iload_n 3, 1) := by decide +kernel
theorem dX12_readByte_27 : decode cX12_readByte 27 = .ok (.ireturn, 1) := by decide +kernel
abbrev rm_X12_readByte : Room := { frames := 2, cells := 0, slots := 0, locals := 42 }
def b_X12_readByte_21 (a0 : Nat)  (Q : Int32 → Sto → Prop) (p3 : Int32) (σ : Sto) : Prop := (sK σ a0 = 12 ∧ (wp_X12_keep a0 p3 σ (fun (σ2 : Sto) => Q p3 σ2)))
set_option maxHeartbeats 4000000 in
set_option maxRecDepth 100000 in
theorem t_X12_readByte_21 {p : Program} {l : Launch} {e : Env} {s : State} {m : MethodId} {args : Array Value} {below : List Frame} {meth : Method} {c : Code} {D : va_G} {cy : Nat → ClassId} {A : Nat → Prop} {a0 : Nat} {Q : Int32 → Sto → Prop} (C : Cx p s m args meth c D cy A cX12_readByte 4 RX12) (hr : meth.sig.returnType = (some .int)) (hnm : meth.name = yX12_readByte.name) (p3 : Int32) (σ : Sto) (h : b_X12_readByte_21 a0  Q p3 σ) (ls : Array Slot) (hl : lv_has ls 4 [(0, .ref a0), (3, .int p3)]) : Xw p l e rm_X12_readByte s m args below meth c D cy A σ 0 0 (MQ below (Qst D cy A (PsI Q)) args s rm_X12_readByte.cells rm_X12_readByte.slots A) (F0 m 21 ls []) := by
  unfold b_X12_readByte_21 at h
  refine x_aload_n C dX12_readByte_21 rfl (lv_at hl 0 rfl) ?_
  refine x_iload_n C dX12_readByte_22 rfl (lv_at hl 1 rfl) ?_
  obtain ⟨g1, h⟩ := h
  refine x_callV (rm := rm_X12_keep) (rest := []) (As := [.int p3]) C cy_RX12_550 g1 (by decide) (by decide) rfl rfl (Nat.le_of_ble_eq_true rfl) hl.1 dX12_readByte_23 (c_X12_keep l D cy a0 p3 σ _ h) (ks_v (fun σ2 h => ?_))
  refine x_iload_n C dX12_readByte_26 rfl (lv_at hl 1 rfl) ?_
  exact x_iret C hr dX12_readByte_27 ⟨_, rfl, h⟩
def wp_X12_readByte (a0 : Nat) (p1 : Int32) (σ : Sto) (Q : Int32 → Sto → Prop) : Prop := (sK σ a0 = 12 ∧ (∀ x2 : Int32, x2 = sI σ a0 94 → (wp_X12_next a0  σ (fun (x5 : Int32) (σ4 : Sto) => ((x5 ≤ p1 → b_X12_readByte_21 a0  Q x5 σ4) ∧ (¬ x5 ≤ p1 → (sK σ4 a0 = 12 ∧ (wp_X12_wrongs a0 (2 : Int32) x2 σ4 (fun (σ8 : Sto) => b_X12_readByte_21 a0  Q x5 σ8)))))))))
set_option maxHeartbeats 4000000 in
set_option maxRecDepth 100000 in
theorem c_X12_readByte (l : Launch) (D : va_G) (cy : Nat → ClassId) (a0 : Nat) (p1 : Int32) (σ : Sto) (Q : Int32 → Sto → Prop) (h : wp_X12_readByte a0 p1 σ Q) : Mt l D cy yX12_readByte cX12_readByte 4 (some .int) rm_X12_readByte [.ref a0, .int p1] σ (PsI Q) := by
  unfold wp_X12_readByte at h
  refine mt_of (by decide +kernel) (Nat.le_of_ble_eq_true rfl) ?_
  intro p e s m args below meth c A ls C hr hnm hl
  have C : Cx p s m args meth c D cy A cX12_readByte 4 RX12 := C
  have hl : lv_has ls 4 [(0, .ref a0), (1, .int p1)] := hl
  refine x_aload_n C dX12_readByte_0 rfl (lv_at hl 0 rfl) ?_
  obtain ⟨g1, h⟩ := h
  refine x_getI C fl_RX12_538 g1 dX12_readByte_1 ?_
  refine x_topi (fun x2 e3 => ?_)
  have h := h x2 e3
  refine x_istore_n (i := 2) (lv' := [(2, .int x2), (0, .ref a0), (1, .int p1)]) C dX12_readByte_4 rfl hl (by decide) (by first | rfl | simp [vrc, cat_i, cat_r, cat_l]) (fun ls hl => ?_)
  refine x_aload_n C dX12_readByte_5 rfl (lv_at hl 1 rfl) ?_
  refine x_callV (rm := rm_X12_next) (rest := []) (As := []) C cy_RX12_547 g1 (by decide) (by decide) rfl rfl (Nat.le_of_ble_eq_true rfl) hl.1 dX12_readByte_6 (c_X12_next l D cy a0  σ _ h) (ks_i (fun x5 σ4 h => ?_))
  refine x_istore_n (i := 3) (lv' := [(3, .int x5), (2, .int x2), (0, .ref a0), (1, .int p1)]) C dX12_readByte_9 rfl hl (by decide) (by first | rfl | simp [vrc, cat_i, cat_r, cat_l]) (fun ls hl => ?_)
  refine x_iload_n C dX12_readByte_10 rfl (lv_at hl 0 rfl) ?_
  refine x_iload_n C dX12_readByte_11 rfl (lv_at hl 3 rfl) ?_
  refine x_icmp_le (tgt := 21) C dX12_readByte_12 (by decide) (fun c6 => ?_) (fun c6 => ?_)
  · have h := h.1 c6
    exact t_X12_readByte_21 C hr hnm  x5 _ h ls (lv_sub hl [2, 0] rfl)
  · have h := h.2 c6
    refine x_aload_n C dX12_readByte_15 rfl (lv_at hl 2 rfl) ?_
    refine x_iconst (v := 2) C dX12_readByte_16 (by decide) ?_
    refine x_iload_n C dX12_readByte_17 rfl (lv_at hl 1 rfl) ?_
    obtain ⟨g7, h⟩ := h
    refine x_callV (rm := rm_X12_wrongs) (rest := []) (As := [.int (2 : Int32), .int x2]) C cy_RX12_541 g7 (by decide) (by decide) rfl rfl (Nat.le_of_ble_eq_true rfl) hl.1 dX12_readByte_18 (c_X12_wrongs l D cy a0 (2 : Int32) x2 σ4 _ h) (ks_v (fun σ8 h => ?_))
    exact t_X12_readByte_21 C hr hnm  x5 _ h ls (lv_sub hl [2, 0] rfl)
