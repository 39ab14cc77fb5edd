theorem dX8_becomeNormal_0 : decode cX8_becomeNormal 0 = .ok (.aload_n 0, 1) := by decide +kernel
theorem dX8_becomeNormal_1 : decode cX8_becomeNormal 1 = .ok (.aload_n 0, 1) := by decide +kernel
theorem dX8_becomeNormal_2 : decode cX8_becomeNormal 2 = .ok (.getfield 13, 3) := by decide +kernel
theorem dX8_becomeNormal_5 : decode cX8_becomeNormal 5 = .ok (.putfield 19, 3) := by decide +kernel
theorem dX8_becomeNormal_8 : decode cX8_becomeNormal 8 = .ok (.aload_n 0, 1) := by decide +kernel
theorem dX8_becomeNormal_9 : decode cX8_becomeNormal 9 = .ok (.iconst 0, 1) := by decide +kernel
theorem dX8_becomeNormal_10 : decode cX8_becomeNormal 10 = .ok (.putfield 63, 3) := by decide +kernel
theorem dX8_becomeNormal_13 : decode cX8_becomeNormal 13 = .ok (.aload_n 0, 1) := by decide +kernel
theorem dX8_becomeNormal_14 : decode cX8_becomeNormal 14 = .ok (.getfield 51, 3) := by decide +kernel
theorem dX8_becomeNormal_17 : decode cX8_becomeNormal 17 = .ok (.invokevirtual 273, 3) := by decide +kernel
theorem dX8_becomeNormal_20 : decode cX8_becomeNormal 20 = .ok (.aload_n 0, 1) := by decide +kernel
theorem dX8_becomeNormal_21 : decode cX8_becomeNormal 21 = .ok (.iconst 0, 1) := by decide +kernel
theorem dX8_becomeNormal_22 : decode cX8_becomeNormal 22 = .ok (.putfield 202, 3) := by decide +kernel
theorem dX8_becomeNormal_25 : decode cX8_becomeNormal 25 = .ok (.aload_n 0, 1) := by decide +kernel
theorem dX8_becomeNormal_26 : decode cX8_becomeNormal 26 = .ok (.aload_n 0, 1) := by decide +kernel
theorem dX8_becomeNormal_27 : decode cX8_becomeNormal 27 = .ok (.getfield 33, 3) := by decide +kernel
theorem dX8_becomeNormal_30 : decode cX8_becomeNormal 30 = .ok (.getfield 87, 3) := by decide +kernel
theorem dX8_becomeNormal_33 : decode cX8_becomeNormal 33 = .ok (.putfield 90, 3) := by decide +kernel
theorem dX8_becomeNormal_36 : decode cX8_becomeNormal 36 = .ok (.return_, 1) := by decide +kernel
abbrev rm_X8_becomeNormal : Room := { frames := 1, cells := 0, slots := 0, locals := 20 }
def wp_X8_becomeNormal (a0 : Nat)  (σ : Sto) (Q : Sto → Prop) : Prop := (sK σ a0 = 8 ∧ (∀ y2 : Int64, y2 = sJ σ a0 5 → (∃ b4 : Nat, sP σ a0 10 = some b4 ∧ (sK σ b4 = 5 ∧ (wp_X5_clear b4  (stI (stJ σ a0 6 y2) a0 4 (0 : Int32)) (fun (σ7 : Sto) => (sK σ7 a0 = 8 ∧ (∃ b9 : Nat, sP σ7 a0 1 = some b9 ∧ (sK σ7 b9 = 4 ∧ (∀ x12 : Int32, x12 = sI (stI σ7 a0 9 (0 : Int32)) b9 8 → Q (stI (stI σ7 a0 9 (0 : Int32)) a0 11 x12)))))))))))
set_option maxHeartbeats 4000000 in
set_option maxRecDepth 100000 in
theorem c_X8_becomeNormal (l : Launch) (D : va_G) (cy : Nat → ClassId) (a0 : Nat)  (σ : Sto) (Q : Sto → Prop) (h : wp_X8_becomeNormal a0  σ Q) : Mt l D cy yX8_becomeNormal cX8_becomeNormal 1 none rm_X8_becomeNormal [.ref a0] σ (PsV Q) := by
  unfold wp_X8_becomeNormal at h
  refine mt_of (by decide +kernel) (Nat.le_of_ble_eq_true rfl) ?_
  intro p e s m args below meth c A ls C hr hnm hl
  have C : Cx p s m args meth c D cy A cX8_becomeNormal 1 RX8 := C
  have hl : lv_has ls 1 [(0, .ref a0)] := hl
  refine x_aload_n C dX8_becomeNormal_0 rfl (lv_at hl 0 rfl) ?_
  refine x_aload_n C dX8_becomeNormal_1 rfl (lv_at hl 0 rfl) ?_
  obtain ⟨g1, h⟩ := h
  refine x_getJ C fl_RX8_13 g1 dX8_becomeNormal_2 ?_
  refine x_topj (fun y2 e3 => ?_)
  have h := h y2 e3
  refine x_putJ C fl_RX8_19 (Or.inl rfl) g1 dX8_becomeNormal_5 ?_
  refine x_aload_n C dX8_becomeNormal_8 rfl (lv_at hl 0 rfl) ?_
  refine x_iconst (v := 0) C dX8_becomeNormal_9 (by decide) ?_
  refine x_putI C fl_RX8_63 (Or.inl rfl) g1 dX8_becomeNormal_10 ?_
  refine x_aload_n C dX8_becomeNormal_13 rfl (lv_at hl 0 rfl) ?_
  refine x_getP C fl_RX8_51 g1 dX8_becomeNormal_14 ?_
  obtain ⟨b4, g5, h⟩ := h
  refine x_nn0 g5 ?_
  obtain ⟨g6, h⟩ := h
  refine x_callV (rm := rm_X5_clear) (rest := []) (As := []) C cy_RX8_273 g6 (by decide) (by decide) rfl rfl (Nat.le_of_ble_eq_true rfl) hl.1 dX8_becomeNormal_17 (c_X5_clear l D cy b4  (stI (stJ σ a0 6 y2) a0 4 (0 : Int32)) _ h) (ks_v (fun σ7 h => ?_))
  refine x_aload_n C dX8_becomeNormal_20 rfl (lv_at hl 0 rfl) ?_
  refine x_iconst (v := 0) C dX8_becomeNormal_21 (by decide) ?_
  obtain ⟨g8, h⟩ := h
  refine x_putI C fl_RX8_202 (Or.inl rfl) g8 dX8_becomeNormal_22 ?_
  refine x_aload_n C dX8_becomeNormal_25 rfl (lv_at hl 0 rfl) ?_
  refine x_aload_n C dX8_becomeNormal_26 rfl (lv_at hl 0 rfl) ?_
  refine x_getP C fl_RX8_33 g8 dX8_becomeNormal_27 ?_
  obtain ⟨b9, g10, h⟩ := h
  refine x_nn0 g10 ?_
  obtain ⟨g11, h⟩ := h
  refine x_getI C fl_RX8_87 g11 dX8_becomeNormal_30 ?_
  refine x_topi (fun x12 e13 => ?_)
  have h := h x12 e13
  refine x_putI C fl_RX8_90 (Or.inl rfl) g8 dX8_becomeNormal_33 ?_
  exact x_vret C hr dX8_becomeNormal_36 ⟨rfl, h⟩
theorem dX8_sendLogToOthers_0 : decode cX8_sendLogToOthers 0 = .ok (.iconst 0, 1) := by decide +kernel
theorem dX8_sendLogToOthers_1 : decode cX8_sendLogToOthers 1 = .ok (.istore_n 2, 1) := by decide +kernel
theorem dX8_sendLogToOthers_2 : decode cX8_sendLogToOthers 2 = .ok (.iload_n 2, 1) := by decide +kernel
theorem dX8_sendLogToOthers_3 : decode cX8_sendLogToOthers 3 = .ok (.aload_n 0, 1) := by decide +kernel
theorem dX8_sendLogToOthers_4 : decode cX8_sendLogToOthers 4 = .ok (.getfield 33, 3) := by decide +kernel
theorem dX8_sendLogToOthers_7 : decode cX8_sendLogToOthers 7 = .ok (.getfield 43, 3) := by decide +kernel
theorem dX8_sendLogToOthers_10 : decode cX8_sendLogToOthers 10 = .ok (.if_icmp .ge 45, 3) := by decide +kernel
theorem dX8_sendLogToOthers_13 : decode cX8_sendLogToOthers 13 = .ok (.iload_n 2, 1) := by decide +kernel
theorem dX8_sendLogToOthers_14 : decode cX8_sendLogToOthers 14 = .ok (.aload_n 0, 1) := by decide +kernel
theorem dX8_sendLogToOthers_15 : decode cX8_sendLogToOthers 15 = .ok (.getfield 29, 3) := by decide +kernel
theorem dX8_sendLogToOthers_18 : decode cX8_sendLogToOthers 18 = .ok (.if_icmp .eq 31, 3) := by decide +kernel
theorem dX8_sendLogToOthers_21 : decode cX8_sendLogToOthers 21 = .ok (.aload_n 0, 1) := by decide +kernel
theorem dX8_sendLogToOthers_22 : decode cX8_sendLogToOthers 22 = .ok (.getfield 33, 3) := by decide +kernel
theorem dX8_sendLogToOthers_25 : decode cX8_sendLogToOthers 25 = .ok (.iload_n 1, 1) := by decide +kernel
theorem dX8_sendLogToOthers_26 : decode cX8_sendLogToOthers 26 = .ok (.aload_n 0, 1) := by decide +kernel
theorem dX8_sendLogToOthers_27 : decode cX8_sendLogToOthers 27 = .ok (.getfield 29, 3) := by decide +kernel
theorem dX8_sendLogToOthers_30 : decode cX8_sendLogToOthers 30 = .ok (.iload_n 2, 1) := by decide +kernel
theorem dX8_sendLogToOthers_31 : decode cX8_sendLogToOthers 31 = .ok (.aload_n 0, 1) := by decide +kernel
theorem dX8_sendLogToOthers_32 : decode cX8_sendLogToOthers 32 = .ok (.getfield 13, 3) := by decide +kernel
theorem dX8_sendLogToOthers_35 : decode cX8_sendLogToOthers 35 = .ok (.iconst 0, 1) := by decide +kernel
theorem dX8_sendLogToOthers_36 : decode cX8_sendLogToOthers 36 = .ok (.invokevirtual 171, 3) := by decide +kernel
theorem dX8_sendLogToOthers_39 : decode cX8_sendLogToOthers 39 = .ok (.getfield 116, 3) := by decide +kernel
theorem dX8_sendLogToOthers_42 : decode cX8_sendLogToOthers 42 = .ok (.aload_n 0, 1) := by decide +kernel
theorem dX8_sendLogToOthers_43 : decode cX8_sendLogToOthers 43 = .ok (.getfield 25, 3) := by decide +kernel
theorem dX8_sendLogToOthers_46 : decode cX8_sendLogToOthers 46 = .ok (.invokevirtual 218, 3) := by decide +kernel
theorem dX8_sendLogToOthers_49 : decode cX8_sendLogToOthers 49 = .ok (.iinc 2 1, 3) := by decide +kernel
theorem dX8_sendLogToOthers_52 : decode cX8_sendLogToOthers 52 = .ok (.goto (-50), 3) := by decide +kernel
theorem dX8_sendLogToOthers_55 : decode cX8_sendLogToOthers 55 = .ok (.return_, 1) := by decide +kernel
abbrev rm_X8_sendLogToOthers : Room := { frames := 2, cells := 0, slots := 0, locals := 43 }
def b_X8_sendLogToOthers_49 (a0 : Nat) (L2 : Int32 × Int32 → Sto → Prop) (Q : Sto → Prop) (p1 : Int32) (p2 : Int32) (σ : Sto) : Prop := (∀ x1 : Int32, x1 = p2 + (1 : Int32) → L2 (p1, x1) σ)
set_option maxHeartbeats 4000000 in
set_option maxRecDepth 100000 in
theorem t_X8_sendLogToOthers_49 {p : Program} {l : Launch} {e : Env} {s : State} {m : MethodId} {args : Array Value} {below : List Frame} {meth : Method} {c : Code} {D : va_G} {cy : Nat → ClassId} {A : Nat → Prop} {a0 : Nat} {L2 : Int32 × Int32 → Sto → Prop} {Q : Sto → Prop} (C : Cx p s m args meth c D cy A cX8_sendLogToOthers 3 RX8) (hr : meth.sig.returnType = none) (hnm : meth.name = yX8_sendLogToOthers.name) (hL2 : ∀ (t : Int32 × Int32) (σ : Sto), L2 t σ → ∀ ls : Array Slot, lv_has ls 3 [(0, .ref a0), (1, .int t.1), (2, .int t.2)] → Xw p l e rm_X8_sendLogToOthers s m args below meth c D cy A σ 0 0 (MQ below (Qst D cy A (PsV Q)) args s rm_X8_sendLogToOthers.cells rm_X8_sendLogToOthers.slots A) (F0 m 2 ls [])) (p1 : Int32) (p2 : Int32) (σ : Sto) (h : b_X8_sendLogToOthers_49 a0 L2 Q p1 p2 σ) (ls : Array Slot) (hl : lv_has ls 3 [(0, .ref a0), (1, .int p1), (2, .int p2)]) : Xw p l e rm_X8_sendLogToOthers s m args below meth c D cy A σ 0 0 (MQ below (Qst D cy A (PsV Q)) args s rm_X8_sendLogToOthers.cells rm_X8_sendLogToOthers.slots A) (F0 m 49 ls []) := by
  unfold b_X8_sendLogToOthers_49 at h
  obtain ⟨x1, e2⟩ : ∃ z : Int32, z = p2 + (1 : Int32) := ⟨_, rfl⟩
  have h := h x1 e2
  refine x_iinc (v := x1) (lv' := [(2, .int x1), (0, .ref a0), (1, .int p1)]) C dX8_sendLogToOthers_49 hl (q0 := 2) rfl (by rw [e2]; rfl) (by decide) (by first | rfl | simp [vrc, cat_i, cat_r, cat_l]) (fun ls hl => ?_)
  refine x_goto (tgt := 2) C dX8_sendLogToOthers_52 (by decide) ?_
  exact hL2 (p1, x1) _ h ls (lv_sub hl [1, 2, 0] rfl)
def f_X8_sendLogToOthers_2 (a0 : Nat)  (Q : Sto → Prop) (L2 : Int32 × Int32 → Sto → Prop) (t : Int32 × Int32) (σ : Sto) : Prop := (sK σ a0 = 8 ∧ (∃ b2 : Nat, sP σ a0 1 = some b2 ∧ (sK σ b2 = 4 ∧ (∀ x5 : Int32, x5 = sI σ b2 0 → ((x5 ≤ t.2 → Q σ) ∧ (¬ x5 ≤ t.2 → (∀ x8 : Int32, x8 = sI σ a0 0 → ((t.2 = x8 → b_X8_sendLogToOthers_49 a0 L2 Q t.1 t.2 σ) ∧ (¬ t.2 = x8 → (∀ x11 : Int32, x11 = sI σ a0 0 → (∀ y13 : Int64, y13 = sJ σ a0 5 → (wp_X4_send b2 t.1 x11 t.2 y13 (0 : Int32) σ (fun (r16 : Option Nat) (σ15 : Sto) => (∃ b17 : Nat, r16 = some b17 ∧ (sK σ15 b17 = 3 ∧ (sK σ15 a0 = 8 ∧ (∃ b21 : Nat, sP σ15 b17 11 = some b21 ∧ (sK σ15 b21 = 2 ∧ (wp_X2_become b21 (sP σ15 a0 7) σ15 (fun (σ24 : Sto) => b_X8_sendLogToOthers_49 a0 L2 Q t.1 t.2 σ24))))))))))))))))))))
set_option maxHeartbeats 4000000 in
set_option maxRecDepth 100000 in
theorem t_X8_sendLogToOthers_2 {p : Program} {l : Launch} {e : Env} {s : State} {m : MethodId} {args : Array Value} {below : List Frame} {meth : Method} {c : Code} {D : va_G} {cy : Nat → ClassId} {A : Nat → Prop} {a0 : Nat} {Q : Sto → Prop} {L2 : Int32 × Int32 → Sto → Prop} (C : Cx p s m args meth c D cy A cX8_sendLogToOthers 3 RX8) (hr : meth.sig.returnType = none) (hnm : meth.name = yX8_sendLogToOthers.name) (hL2 : ∀ (t : Int32 × Int32) (σ : Sto), L2 t σ → ∀ ls : Array Slot, lv_has ls 3 [(0, .ref a0), (1, .int t.1), (2, .int t.2)] → Xw p l e rm_X8_sendLogToOthers s m args below meth c D cy A σ 0 0 (MQ below (Qst D cy A (PsV Q)) args s rm_X8_sendLogToOthers.cells rm_X8_sendLogToOthers.slots A) (F0 m 2 ls [])) : ∀ (t : Int32 × Int32) (σ : Sto), f_X8_sendLogToOthers_2 a0  Q L2 t σ → ∀ ls : Array Slot, lv_has ls 3 [(0, .ref a0), (1, .int t.1), (2, .int t.2)] → Xw p l e rm_X8_sendLogToOthers s m args below meth c D cy A σ 0 0 (MQ below (Qst D cy A (PsV Q)) args s rm_X8_sendLogToOthers.cells rm_X8_sendLogToOthers.slots A) (F0 m 2 ls []) := by
  intro t σ h ls hl
  unfold f_X8_sendLogToOthers_2 at h
  refine x_iload_n C dX8_sendLogToOthers_2 rfl (lv_at hl 2 rfl) ?_
  refine x_aload_n C dX8_sendLogToOthers_3 rfl (lv_at hl 0 rfl) ?_
  obtain ⟨g1, h⟩ := h
  refine x_getP C fl_RX8_33 g1 dX8_sendLogToOthers_4 ?_
  obtain ⟨b2, g3, h⟩ := h
  refine x_nn0 g3 ?_
  obtain ⟨g4, h⟩ := h
  refine x_getI C fl_RX8_43 g4 dX8_sendLogToOthers_7 ?_
  refine x_topi (fun x5 e6 => ?_)
  have h := h x5 e6
  refine x_icmp_ge (tgt := 55) C dX8_sendLogToOthers_10 (by decide) (fun c7 => ?_) (fun c7 => ?_)
  · have h := h.1 c7
    exact x_vret C hr dX8_sendLogToOthers_55 ⟨rfl, h⟩
  · have h := h.2 c7
    refine x_iload_n C dX8_sendLogToOthers_13 rfl (lv_at hl 2 rfl) ?_
    refine x_aload_n C dX8_sendLogToOthers_14 rfl (lv_at hl 0 rfl) ?_
    refine x_getI C fl_RX8_29 g1 dX8_sendLogToOthers_15 ?_
    refine x_topi (fun x8 e9 => ?_)
    have h := h x8 e9
    refine x_icmp_eq (tgt := 49) C dX8_sendLogToOthers_18 (by decide) (fun c10 => ?_) (fun c10 => ?_)
    · have h := h.1 c10
      exact t_X8_sendLogToOthers_49 C hr hnm hL2 t.1 t.2 _ h ls (lv_sub hl [0, 1, 2] rfl)
    · have h := h.2 c10
      refine x_aload_n C dX8_sendLogToOthers_21 rfl (lv_at hl 0 rfl) ?_
      refine x_getP C fl_RX8_33 g1 dX8_sendLogToOthers_22 ?_
      refine x_iload_n C dX8_sendLogToOthers_25 rfl (lv_at hl 1 rfl) ?_
      refine x_aload_n C dX8_sendLogToOthers_26 rfl (lv_at hl 0 rfl) ?_
      refine x_getI C fl_RX8_29 g1 dX8_sendLogToOthers_27 ?_
      refine x_topi (fun x11 e12 => ?_)
      have h := h x11 e12
      refine x_iload_n C dX8_sendLogToOthers_30 rfl (lv_at hl 2 rfl) ?_
      refine x_aload_n C dX8_sendLogToOthers_31 rfl (lv_at hl 0 rfl) ?_
      refine x_getJ C fl_RX8_13 g1 dX8_sendLogToOthers_32 ?_
      refine x_topj (fun y13 e14 => ?_)
      have h := h y13 e14
      refine x_iconst (v := 0) C dX8_sendLogToOthers_35 (by decide) ?_
      refine x_nn5 g3 ?_
      refine x_callV (rm := rm_X4_send) (rest := []) (As := [.int t.1, .int x11, .int t.2, .long y13, .int (0 : Int32)]) C cy_RX8_171 g4 (by decide) (by decide) rfl rfl (Nat.le_of_ble_eq_true rfl) hl.1 dX8_sendLogToOthers_36 (c_X4_send l D cy b2 t.1 x11 t.2 y13 (0 : Int32) σ _ h) (ks_p (fun r16 σ15 h => ?_))
      obtain ⟨b17, g18, h⟩ := h
      refine x_nn0 g18 ?_
      obtain ⟨g19, h⟩ := h
      refine x_getP C fl_RX8_116 g19 dX8_sendLogToOthers_39 ?_
      refine x_aload_n C dX8_sendLogToOthers_42 rfl (lv_at hl 0 rfl) ?_
      obtain ⟨g20, h⟩ := h
      refine x_getP C fl_RX8_25 g20 dX8_sendLogToOthers_43 ?_
      obtain ⟨b21, g22, h⟩ := h
      refine x_nn1 g22 ?_
      obtain ⟨g23, h⟩ := h
      refine x_callV (rm := rm_X2_become) (rest := []) (As := [va_rf (sP σ15 a0 7)]) C cy_RX8_218 g23 (by decide) (by decide) rfl rfl (Nat.le_of_ble_eq_true rfl) hl.1 dX8_sendLogToOthers_46 (c_X2_become l D cy b21 (sP σ15 a0 7) σ15 _ h) (ks_v (fun σ24 h => ?_))
      exact t_X8_sendLogToOthers_49 C hr hnm hL2 t.1 t.2 _ h ls (lv_sub hl [0, 1, 2] rfl)
def wp_X8_sendLogToOthers (a0 : Nat) (p1 : Int32) (σ : Sto) (Q : Sto → Prop) : Prop := LF (f_X8_sendLogToOthers_2 a0  Q) (p1, (0 : Int32)) σ
set_option maxHeartbeats 4000000 in
set_option maxRecDepth 100000 in
theorem c_X8_sendLogToOthers (l : Launch) (D : va_G) (cy : Nat → ClassId) (a0 : Nat) (p1 : Int32) (σ : Sto) (Q : Sto → Prop) (h : wp_X8_sendLogToOthers a0 p1 σ Q) : Mt l D cy yX8_sendLogToOthers cX8_sendLogToOthers 3 none rm_X8_sendLogToOthers [.ref a0, .int p1] σ (PsV Q) := by
  unfold wp_X8_sendLogToOthers at h
  refine mt_of (by decide +kernel) (Nat.le_of_ble_eq_true rfl) ?_
  intro p e s m args below meth c A ls C hr hnm hl
  have C : Cx p s m args meth c D cy A cX8_sendLogToOthers 3 RX8 := C
  have hl : lv_has ls 3 [(0, .ref a0), (1, .int p1)] := hl
  refine x_iconst (v := 0) C dX8_sendLogToOthers_0 (by decide) ?_
  refine x_istore_n (i := 2) (lv' := [(2, .int (0 : Int32)), (0, .ref a0), (1, .int p1)]) C dX8_sendLogToOthers_1 rfl hl (by decide) (by first | rfl | simp [vrc, cat_i, cat_r, cat_l]) (fun ls hl => ?_)
  exact h (fun t σ => ∀ ls : Array Slot, lv_has ls 3 [(0, .ref a0), (1, .int t.1), (2, .int t.2)] → Xw p l e rm_X8_sendLogToOthers s m args below meth c D cy A σ 0 0 (MQ below (Qst D cy A (PsV Q)) args s rm_X8_sendLogToOthers.cells rm_X8_sendLogToOthers.slots A) (F0 m 2 ls [])) (t_X8_sendLogToOthers_2 C hr hnm  (fun t σ h => h)) ls (lv_sub hl [1, 2, 0] rfl)
theorem dX8_merge_0 : decode cX8_merge 0 = .ok (.aload_n 0, 1) := by decide +kernel
theorem dX8_merge_1 : decode cX8_merge 1 = .ok (.getfield 19, 3) := by decide +kernel
theorem dX8_merge_4 : decode cX8_merge 4 = .ok (.lstore_n 1, 1) := by decide +kernel
theorem dX8_merge_5 : decode cX8_merge 5 = .ok (.iconst 0, 1) := by decide +kernel
theorem dX8_merge_6 : decode cX8_merge 6 = .ok (.istore_n 3, 1) := by decide +kernel
theorem dX8_merge_7 : decode cX8_merge 7 = .ok (.iload_n 3, 1) := by decide +kernel
theorem dX8_merge_8 : decode cX8_merge 8 = .ok (.aload_n 0, 1) := by decide +kernel
theorem dX8_merge_9 : decode cX8_merge 9 = .ok (.getfield 33, 3) := by decide +kernel
theorem dX8_merge_12 : decode cX8_merge 12 = .ok (.getfield 43, 3) := by decide +kernel
theorem dX8_merge_15 : decode cX8_merge 15 = .ok (.if_icmp .ge 50, 3) := by decide +kernel
theorem dX8_merge_18 : decode cX8_merge 18 = .ok (.aload_n 0, 1) := by decide +kernel
theorem dX8_merge_19 : decode cX8_merge 19 = .ok (.getfield 51, 3) := by decide +kernel
theorem dX8_merge_22 : decode cX8_merge 22 = .ok (.getfield 224, 3) := by decide +kernel
theorem dX8_merge_25 : decode cX8_merge 25 = .ok (.iload_n 3, 1) := by decide +kernel
theorem dX8_merge_26 : decode cX8_merge 26 = .ok (.ishr, 1) := by decide +kernel
theorem dX8_merge_27 : decode cX8_merge 27 = .ok (.iconst 1, 1) := by decide +kernel
theorem dX8_merge_28 : decode cX8_merge 28 = .ok (.iand, 1) := by decide +kernel
theorem dX8_merge_29 : decode cX8_merge 29 = .ok (.iconst 1, 1) := by decide +kernel
theorem dX8_merge_30 : decode cX8_merge 30 = .ok (.if_icmp .ne 29, 3) := by decide +kernel
theorem dX8_merge_33 : decode cX8_merge 33 = .ok (.iload_n 3, 1) := by decide +kernel
theorem dX8_merge_34 : decode cX8_merge 34 = .ok (.aload_n 0, 1) := by decide +kernel
theorem dX8_merge_35 : decode cX8_merge 35 = .ok (.getfield 51, 3) := by decide +kernel
theorem dX8_merge_38 : decode cX8_merge 38 = .ok (.getfield 283, 3) := by decide +kernel
theorem dX8_merge_41 : decode cX8_merge 41 = .ok (.arraylength, 1) := by decide +kernel
theorem dX8_merge_42 : decode cX8_merge 42 = .ok (.if_icmp .ge 17, 3) := by decide +kernel
theorem dX8_merge_45 : decode cX8_merge 45 = .ok (.lload_n 1, 1) := by decide +kernel
theorem dX8_merge_46 : decode cX8_merge 46 = .ok (.aload_n 0, 1) := by decide +kernel
theorem dX8_merge_47 : decode cX8_merge 47 = .ok (.getfield 51, 3) := by decide +kernel
theorem dX8_merge_50 : decode cX8_merge 50 = .ok (.getfield 283, 3) := by decide +kernel
theorem dX8_merge_53 : decode cX8_merge 53 = .ok (.iload_n 3, 1) := by decide +kernel
theorem dX8_merge_54 : decode cX8_merge 54 = .ok (.laload, 1) := by decide +kernel
theorem dX8_merge_55 : decode cX8_merge 55 = .ok (.invokestatic 287, 3) := by decide +kernel
theorem dX8_merge_58 : decode cX8_merge 58 = .ok (.lstore_n 1, 1) := by decide +kernel
theorem dX8_merge_59 : decode cX8_merge 59 = .ok (.iinc 3 1, 3) := by decide +kernel
theorem dX8_merge_62 : decode cX8_merge 62 = .ok (.goto (-55), 3) := by decide +kernel
theorem dX8_merge_65 : decode cX8_merge 65 = .ok (.aload_n 0, 1) := by decide +kernel
theorem dX8_merge_66 : decode cX8_merge 66 = .ok (.getfield 19, 3) := by decide +kernel
theorem dX8_merge_69 : decode cX8_merge 69 = .ok (.lload_n 1, 1) := by decide +kernel
theorem dX8_merge_70 : decode cX8_merge 70 = .ok (.lcmp, 1) := by decide +kernel
theorem dX8_merge_71 : decode cX8_merge 71 = .ok (.ifCond .ne 7, 3) := by decide +kernel
theorem dX8_merge_74 : decode cX8_merge 74 = .ok (.iconst 1, 1) := by decide +kernel
theorem dX8_merge_75 : decode cX8_merge 75 = .ok (.goto 4, 3) := by decide +kernel
theorem dX8_merge_78 : decode cX8_merge 78 = .ok (.iconst 0, 1) := by decide +kernel
theorem dX8_merge_79 : decode cX8_merge 79 = .ok (.istore_n 3, 1) := by decide +kernel
theorem dX8_merge_80 : decode cX8_merge 80 = .ok (.iload_n 3, 1) := by decide +kernel
theorem dX8_merge_81 : decode cX8_merge 81 = .ok (.ifCond .eq 13, 3) := by decide +kernel
theorem dX8_merge_84 : decode cX8_merge 84 = .ok (.aload_n 0, 1) := by decide +kernel
theorem dX8_merge_85 : decode cX8_merge 85 = .ok (.getfield 25, 3) := by decide +kernel
theorem dX8_merge_88 : decode cX8_merge 88 = .ok (.getfield 66, 3) := by decide +kernel
theorem dX8_merge_91 : decode cX8_merge 91 = .ok (.goto 4, 3) := by decide +kernel
theorem dX8_merge_94 : decode cX8_merge 94 = .ok (.iconst 0, 1) := by decide +kernel
theorem dX8_merge_95 : decode cX8_merge 95 = .ok (.istore 4, 2) := by decide +kernel
theorem dX8_merge_97 : decode cX8_merge 97 = .ok (.iload_n 3, 1) := by decide +kernel
theorem dX8_merge_98 : decode cX8_merge 98 = .ok (.ifCond .eq 13, 3) := by decide +kernel
theorem dX8_merge_101 : decode cX8_merge 101 = .ok (.aload_n 0, 1) := by decide +kernel
theorem dX8_merge_102 : decode cX8_merge 102 = .ok (.getfield 25, 3) := by decide +kernel
theorem dX8_merge_105 : decode cX8_merge 105 = .ok (.getfield 142, 3) := by decide +kernel
theorem dX8_merge_108 : decode cX8_merge 108 = .ok (.goto 4, 3) := by decide +kernel
theorem dX8_merge_111 : decode cX8_merge 111 = .ok (.iconst (-1), 1) := by decide +kernel
theorem dX8_merge_112 : decode cX8_merge 112 = .ok (.istore 5, 2) := by decide +kernel
theorem dX8_merge_114 : decode cX8_merge 114 = .ok (.iconst 0, 1) := by decide +kernel
theorem dX8_merge_115 : decode cX8_merge 115 = .ok (.istore 6, 2) := by decide +kernel
theorem dX8_merge_117 : decode cX8_merge 117 = .ok (.iload 6, 2) := by decide +kernel
theorem dX8_merge_119 : decode cX8_merge 119 = .ok (.aload_n 0, 1) := by decide +kernel
theorem dX8_merge_120 : decode cX8_merge 120 = .ok (.getfield 33, 3) := by decide +kernel
theorem dX8_merge_123 : decode cX8_merge 123 = .ok (.getfield 43, 3) := by decide +kernel
theorem dX8_merge_126 : decode cX8_merge 126 = .ok (.if_icmp .ge 68, 3) := by decide +kernel
theorem dX8_merge_129 : decode cX8_merge 129 = .ok (.aload_n 0, 1) := by decide +kernel
theorem dX8_merge_130 : decode cX8_merge 130 = .ok (.getfield 51, 3) := by decide +kernel
theorem dX8_merge_133 : decode cX8_merge 133 = .ok (.iload 6, 2) := by decide +kernel
theorem dX8_merge_135 : decode cX8_merge 135 = .ok (.lload_n 1, 1) := by decide +kernel
theorem dX8_merge_136 : decode cX8_merge 136 = .ok (.invokevirtual 290, 3) := by decide +kernel
theorem dX8_merge_139 : decode cX8_merge 139 = .ok (.ifCond .eq 49, 3) := by decide +kernel
theorem dX8_merge_142 : decode cX8_merge 142 = .ok (.iload 4, 2) := by decide +kernel
theorem dX8_merge_144 : decode cX8_merge 144 = .ok (.aload_n 0, 1) := by decide +kernel
theorem dX8_merge_145 : decode cX8_merge 145 = .ok (.getfield 51, 3) := by decide +kernel
theorem dX8_merge_148 : decode cX8_merge 148 = .ok (.getfield 294, 3) := by decide +kernel
theorem dX8_merge_151 : decode cX8_merge 151 = .ok (.iload 6, 2) := by decide +kernel
theorem dX8_merge_153 : decode cX8_merge 153 = .ok (.aaload, 1) := by decide +kernel
theorem dX8_merge_154 : decode cX8_merge 154 = .ok (.getfield 66, 3) := by decide +kernel
theorem dX8_merge_157 : decode cX8_merge 157 = .ok (.invokestatic 205, 3) := by decide +kernel
theorem dX8_merge_160 : decode cX8_merge 160 = .ok (.istore 4, 2) := by decide +kernel
theorem dX8_merge_162 : decode cX8_merge 162 = .ok (.iload 5, 2) := by decide +kernel
theorem dX8_merge_164 : decode cX8_merge 164 = .ok (.iconst (-1), 1) := by decide +kernel
theorem dX8_merge_165 : decode cX8_merge 165 = .ok (.if_icmp .ne 19, 3) := by decide +kernel
theorem dX8_merge_168 : decode cX8_merge 168 = .ok (.aload_n 0, 1) := by decide +kernel
theorem dX8_merge_169 : decode cX8_merge 169 = .ok (.getfield 51, 3) := by decide +kernel
theorem dX8_merge_172 : decode cX8_merge 172 = .ok (.getfield 294, 3) := by decide +kernel
theorem dX8_merge_175 : decode cX8_merge 175 = .ok (.iload 6, 2) := by decide +kernel
theorem dX8_merge_177 : decode cX8_merge 177 = .ok (.aaload, 1) := by decide +kernel
theorem dX8_merge_178 : decode cX8_merge 178 = .ok (.getfield 142, 3) := by decide +kernel
theorem dX8_merge_181 : decode cX8_merge 181 = .ok (.goto 5, 3) := by decide +kernel
theorem dX8_merge_184 : decode cX8_merge 184 = .ok (.iload 5, 2) := by decide +kernel
theorem dX8_merge_186 : decode cX8_merge 186 = .ok (.istore 5, 2) := by decide +kernel
theorem dX8_merge_188 : decode cX8_merge 188 = .ok (.iinc 6 1, 3) := by decide +kernel
theorem dX8_merge_191 : decode cX8_merge 191 = .ok (.goto (-74), 3) := by decide +kernel
theorem dX8_merge_194 : decode cX8_merge 194 = .ok (.iconst 1, 1) := by decide +kernel
theorem dX8_merge_195 : decode cX8_merge 195 = .ok (.istore 6, 2) := by decide +kernel
theorem dX8_merge_197 : decode cX8_merge 197 = .ok (.iload 6, 2) := by decide +kernel
theorem dX8_merge_199 : decode cX8_merge 199 = .ok (.iload 4, 2) := by decide +kernel
theorem dX8_merge_201 : decode cX8_merge 201 = .ok (.if_icmp .gt 35, 3) := by decide +kernel
theorem dX8_merge_204 : decode cX8_merge 204 = .ok (.iload 6, 2) := by decide +kernel
theorem dX8_merge_206 : decode cX8_merge 206 = .ok (.bipush 100, 2) := by decide +kernel
theorem dX8_merge_208 : decode cX8_merge 208 = .ok (.if_icmp .gt 28, 3) := by decide +kernel
theorem dX8_merge_211 : decode cX8_merge 211 = .ok (.aload_n 0, 1) := by decide +kernel
theorem dX8_merge_212 : decode cX8_merge 212 = .ok (.getfield 25, 3) := by decide +kernel
theorem dX8_merge_215 : decode cX8_merge 215 = .ok (.getfield 298, 3) := by decide +kernel
theorem dX8_merge_218 : decode cX8_merge 218 = .ok (.iload 6, 2) := by decide +kernel
theorem dX8_merge_220 : decode cX8_merge 220 = .ok (.iconst 1, 1) := by decide +kernel
theorem dX8_merge_221 : decode cX8_merge 221 = .ok (.isub, 1) := by decide +kernel
theorem dX8_merge_222 : decode cX8_merge 222 = .ok (.aload_n 0, 1) := by decide +kernel
theorem dX8_merge_223 : decode cX8_merge 223 = .ok (.iload 6, 2) := by decide +kernel
theorem dX8_merge_225 : decode cX8_merge 225 = .ok (.lload_n 1, 1) := by decide +kernel
theorem dX8_merge_226 : decode cX8_merge 226 = .ok (.invokevirtual 302, 3) := by decide +kernel
theorem dX8_merge_229 : decode cX8_merge 229 = .ok (.aastore, 1) := by decide +kernel
theorem dX8_merge_230 : decode cX8_merge 230 = .ok (.iinc 6 1, 3) := by decide +kernel
theorem dX8_merge_233 : decode cX8_merge 233 = .ok (.goto (-36), 3) := by decide +kernel
theorem dX8_merge_236 : decode cX8_merge 236 = .ok (.aload_n 0, 1) := by decide +kernel
theorem dX8_merge_237 : decode cX8_merge 237 = .ok (.getfield 25, 3) := by decide +kernel
theorem dX8_merge_240 : decode cX8_merge 240 = .ok (.iload 4, 2) := by decide +kernel
theorem dX8_merge_242 : decode cX8_merge 242 = .ok (.bipush 100, 2) := by decide +kernel
theorem dX8_merge_244 : decode cX8_merge 244 = .ok (.invokestatic 72, 3) := by decide +kernel
theorem dX8_merge_247 : decode cX8_merge 247 = .ok (.putfield 66, 3) := by decide +kernel
theorem dX8_merge_250 : decode cX8_merge 250 = .ok (.aload_n 0, 1) := by decide +kernel
theorem dX8_merge_251 : decode cX8_merge 251 = .ok (.getfield 25, 3) := by decide +kernel
theorem dX8_merge_254 : decode cX8_merge 254 = .ok (.lload_n 1, 1) := by decide +kernel
theorem dX8_merge_255 : decode cX8_merge 255 = .ok (.invokestatic 133, 3) := by decide +kernel
theorem dX8_merge_258 : decode cX8_merge 258 = .ok (.aload_n 0, 1) := by decide +kernel
theorem dX8_merge_259 : decode cX8_merge 259 = .ok (.getfield 13, 3) := by decide +kernel
theorem dX8_merge_262 : decode cX8_merge 262 = .ok (.invokestatic 133, 3) := by decide +kernel
theorem dX8_merge_265 : decode cX8_merge 265 = .ok (.if_icmp .ne 8, 3) := by decide +kernel
theorem dX8_merge_268 : decode cX8_merge 268 = .ok (.iload 5, 2) := by decide +kernel
theorem dX8_merge_270 : decode cX8_merge 270 = .ok (.goto 10, 3) := by decide +kernel
theorem dX8_merge_273 : decode cX8_merge 273 = .ok (.aload_n 0, 1) := by decide +kernel
theorem dX8_merge_274 : decode cX8_merge 274 = .ok (.getfield 25, 3) := by decide +kernel
theorem dX8_merge_277 : decode cX8_merge 277 = .ok (.getfield 66, 3) := by decide +kernel
theorem dX8_merge_280 : decode cX8_merge 280 = .ok (.putfield 142, 3) := by decide +kernel
theorem dX8_merge_283 : decode cX8_merge 283 = .ok (.aload_n 0, 1) := by decide +kernel
theorem dX8_merge_284 : decode cX8_merge 284 = .ok (.invokevirtual 234, 3) := by decide +kernel
theorem dX8_merge_287 : decode cX8_merge 287 = .ok (.aload_n 0, 1) := by decide +kernel
theorem dX8_merge_288 : decode cX8_merge 288 = .ok (.bipush 10, 2) := by decide +kernel
theorem dX8_merge_290 : decode cX8_merge 290 = .ok (.invokevirtual 306, 3) := by decide +kernel
theorem dX8_merge_293 : decode cX8_merge 293 = .ok (.return_, 1) := by decide +kernel
abbrev rm_X8_merge : Room := { frames := 3, cells := 0, slots := 0, locals := 69 }
def b_X8_merge_280 (a0 : Nat)  (Q : Sto → Prop) (s0 : Int32) (s1 : Option Nat) (σ : Sto) : Prop := (∃ b1 : Nat, s1 = some b1 ∧ (sK σ b1 = 2 ∧ (sK σ a0 = 8 ∧ (wp_X8_becomeNormal a0  (stI σ b1 2 s0) (fun (σ5 : Sto) => (sK σ5 a0 = 8 ∧ (wp_X8_sendLogToOthers a0 (10 : Int32) σ5 (fun (σ7 : Sto) => Q σ7))))))))
set_option maxHeartbeats 4000000 in
set_option maxRecDepth 100000 in
theorem t_X8_merge_280 {p : Program} {l : Launch} {e : Env} {s : State} {m : MethodId} {args : Array Value} {below : List Frame} {meth : Method} {c : Code} {D : va_G} {cy : Nat → ClassId} {A : Nat → Prop} {a0 : Nat} {Q : Sto → Prop} (C : Cx p s m args meth c D cy A cX8_merge 7 RX8) (hr : meth.sig.returnType = none) (hnm : meth.name = yX8_merge.name) (s0 : Int32) (s1 : Option Nat) (σ : Sto) (h : b_X8_merge_280 a0  Q s0 s1 σ) (ls : Array Slot) (hl : lv_has ls 7 [(0, .ref a0)]) : Xw p l e rm_X8_merge s m args below meth c D cy A σ 0 0 (MQ below (Qst D cy A (PsV Q)) args s rm_X8_merge.cells rm_X8_merge.slots A) (F0 m 280 ls [.int s0, va_rf s1]) := by
  unfold b_X8_merge_280 at h
  obtain ⟨b1, g2, h⟩ := h
  refine x_nn1 g2 ?_
  obtain ⟨g3, h⟩ := h
  refine x_putI C fl_RX8_142 (Or.inl rfl) g3 dX8_merge_280 ?_
  refine x_aload_n C dX8_merge_283 rfl (lv_at hl 0 rfl) ?_
  obtain ⟨g4, h⟩ := h
  refine x_callV (rm := rm_X8_becomeNormal) (rest := []) (As := []) C cy_RX8_234 g4 (by decide) (by decide) rfl rfl (Nat.le_of_ble_eq_true rfl) hl.1 dX8_merge_284 (c_X8_becomeNormal l D cy a0  (stI σ b1 2 s0) _ h) (ks_v (fun σ5 h => ?_))
  refine x_aload_n C dX8_merge_287 rfl (lv_at hl 0 rfl) ?_
  refine x_bipush (v := 10) C dX8_merge_288 (by decide) ?_
  obtain ⟨g6, h⟩ := h
  refine x_callV (rm := rm_X8_sendLogToOthers) (rest := []) (As := [.int (10 : Int32)]) C cy_RX8_306 g6 (by decide) (by decide) rfl rfl (Nat.le_of_ble_eq_true rfl) hl.1 dX8_merge_290 (c_X8_sendLogToOthers l D cy a0 (10 : Int32) σ5 _ h) (ks_v (fun σ7 h => ?_))
  exact x_vret C hr dX8_merge_293 ⟨rfl, h⟩
def b_X8_merge_236 (a0 : Nat)  (Q : Sto → Prop) (p1 : Int64) (p4 : Int32) (p5 : Int32) (σ : Sto) : Prop := (sK σ a0 = 8 ∧ (wp_J9_min_7cf53 p4 (100 : Int32) σ (fun (x3 : Int32) (σ2 : Sto) => (∃ b4 : Nat, sP σ a0 7 = some b4 ∧ (sK σ2 b4 = 2 ∧ (sK σ2 a0 = 8 ∧ (wp_X11_sessionOf p1 (stI σ2 b4 1 x3) (fun (x9 : Int32) (σ8 : Sto) => (sK σ8 a0 = 8 ∧ (∀ y11 : Int64, y11 = sJ σ8 a0 5 → (wp_X11_sessionOf y11 σ8 (fun (x14 : Int32) (σ13 : Sto) => ((¬ x9 = x14 → (sK σ13 a0 = 8 ∧ (∃ b17 : Nat, sP σ13 a0 7 = some b17 ∧ (sK σ13 b17 = 2 ∧ (∀ x20 : Int32, x20 = sI σ13 b17 1 → b_X8_merge_280 a0  Q x20 (sP σ2 a0 7) σ13))))) ∧ (x9 = x14 → b_X8_merge_280 a0  Q p5 (sP σ2 a0 7) σ13))))))))))))))
set_option maxHeartbeats 4000000 in
set_option maxRecDepth 100000 in
theorem t_X8_merge_236 {p : Program} {l : Launch} {e : Env} {s : State} {m : MethodId} {args : Array Value} {below : List Frame} {meth : Method} {c : Code} {D : va_G} {cy : Nat → ClassId} {A : Nat → Prop} {a0 : Nat} {Q : Sto → Prop} (C : Cx p s m args meth c D cy A cX8_merge 7 RX8) (hr : meth.sig.returnType = none) (hnm : meth.name = yX8_merge.name) (p1 : Int64) (p4 : Int32) (p5 : Int32) (σ : Sto) (h : b_X8_merge_236 a0  Q p1 p4 p5 σ) (ls : Array Slot) (hl : lv_has ls 7 [(0, .ref a0), (1, .long p1), (4, .int p4), (5, .int p5)]) : Xw p l e rm_X8_merge s m args below meth c D cy A σ 0 0 (MQ below (Qst D cy A (PsV Q)) args s rm_X8_merge.cells rm_X8_merge.slots A) (F0 m 236 ls []) := by
  unfold b_X8_merge_236 at h
  refine x_aload_n C dX8_merge_236 rfl (lv_at hl 0 rfl) ?_
  obtain ⟨g1, h⟩ := h
  refine x_getP C fl_RX8_25 g1 dX8_merge_237 ?_
  refine x_iload C dX8_merge_240 (lv_at hl 2 rfl) ?_
  refine x_bipush (v := 100) C dX8_merge_242 (by decide) ?_
  refine x_callS (rm := rm_J9_min_7cf53) (rest := [va_rf (sP σ a0 7)]) (As := [.int p4, .int (100 : Int32)]) C cs_RX8_72 (by decide) (by decide) rfl rfl (by simp [vrc, cat_i, cat_r, cat_l]) hl.1 dX8_merge_244 (c_J9_min_7cf53 l D cy p4 (100 : Int32) σ _ h) (ks_i (fun x3 σ2 h => ?_))
  obtain ⟨b4, g5, h⟩ := h
  refine x_nn1 g5 ?_
  obtain ⟨g6, h⟩ := h
  refine x_putI C fl_RX8_66 (Or.inl rfl) g6 dX8_merge_247 ?_
  refine x_aload_n C dX8_merge_250 rfl (lv_at hl 0 rfl) ?_
  obtain ⟨g7, h⟩ := h
  refine x_getP C fl_RX8_25 g7 dX8_merge_251 ?_
  refine x_lload_n C dX8_merge_254 rfl (lv_at hl 1 rfl) ?_
  refine x_callSN (rm := rm_X11_sessionOf) (rest := [va_rf (sP σ2 a0 7)]) (As := [.long p1]) C csn_RX8_133 (by decide) (by decide) rfl rfl (by simp [vrc, cat_i, cat_r, cat_l]) hl.1 dX8_merge_255 (c_X11_sessionOf l D cy p1 (stI σ2 b4 1 x3) _ h) (ks_i (fun x9 σ8 h => ?_))
  refine x_aload_n C dX8_merge_258 rfl (lv_at hl 0 rfl) ?_
  obtain ⟨g10, h⟩ := h
  refine x_getJ C fl_RX8_13 g10 dX8_merge_259 ?_
  refine x_topj (fun y11 e12 => ?_)
  have h := h y11 e12
  refine x_callSN (rm := rm_X11_sessionOf) (rest := [.int x9, va_rf (sP σ2 a0 7)]) (As := [.long y11]) C csn_RX8_133 (by decide) (by decide) rfl rfl (by simp [vrc, cat_i, cat_r, cat_l]) hl.1 dX8_merge_262 (c_X11_sessionOf l D cy y11 σ8 _ h) (ks_i (fun x14 σ13 h => ?_))
  refine x_icmp_ne (tgt := 273) C dX8_merge_265 (by decide) (fun c15 => ?_) (fun c15 => ?_)
  · have h := h.1 c15
    refine x_aload_n C dX8_merge_273 rfl (lv_at hl 0 rfl) ?_
    obtain ⟨g16, h⟩ := h
    refine x_getP C fl_RX8_25 g16 dX8_merge_274 ?_
    obtain ⟨b17, g18, h⟩ := h
    refine x_nn0 g18 ?_
    obtain ⟨g19, h⟩ := h
    refine x_getI C fl_RX8_66 g19 dX8_merge_277 ?_
    refine x_topi (fun x20 e21 => ?_)
    have h := h x20 e21
    exact t_X8_merge_280 C hr hnm  x20 (sP σ2 a0 7) _ h ls (lv_sub hl [0] rfl)
  · have h := h.2 c15
    refine x_iload C dX8_merge_268 (lv_at hl 3 rfl) ?_
    refine x_goto (tgt := 280) C dX8_merge_270 (by decide) ?_
    exact t_X8_merge_280 C hr hnm  p5 (sP σ2 a0 7) _ h ls (lv_sub hl [0] rfl)
def f_X8_merge_197 (a0 : Nat)  (Q : Sto → Prop) (L197 : Int64 × Int32 × Int32 × Int32 → Sto → Prop) (t : Int64 × Int32 × Int32 × Int32) (σ : Sto) : Prop := ((t.2.1 < t.2.2.2 → b_X8_merge_236 a0  Q t.1 t.2.1 t.2.2.1 σ) ∧ (¬ t.2.1 < t.2.2.2 → (((100 : Int32) < t.2.2.2 → b_X8_merge_236 a0  Q t.1 t.2.1 t.2.2.1 σ) ∧ (¬ (100 : Int32) < t.2.2.2 → (sK σ a0 = 8 ∧ (∃ b4 : Nat, sP σ a0 7 = some b4 ∧ (sK σ b4 = 2 ∧ (wp_X8_mergedEntry a0 t.2.2.2 t.1 σ (fun (r8 : Option Nat) (σ7 : Sto) => (∃ b9 : Nat, sP σ b4 0 = some b9 ∧ (sK σ7 b9 = 22 ∧ (vp_in (t.2.2.2 - (1 : Int32)) (sN σ7 b9) ∧ ((∀ b, r8 = some b → sK σ7 b = 9) ∧ (∀ x14 : Int32, x14 = t.2.2.2 + (1 : Int32) → L197 (t.1, t.2.1, t.2.2.1, x14) (stP σ7 b9 (t.2.2.2 - (1 : Int32)).toNatClampNeg r8)))))))))))))))
set_option maxHeartbeats 4000000 in
set_option maxRecDepth 100000 in
theorem t_X8_merge_197 {p : Program} {l : Launch} {e : Env} {s : State} {m : MethodId} {args : Array Value} {below : List Frame} {meth : Method} {c : Code} {D : va_G} {cy : Nat → ClassId} {A : Nat → Prop} {a0 : Nat} {Q : Sto → Prop} {L197 : Int64 × Int32 × Int32 × Int32 → Sto → Prop} (C : Cx p s m args meth c D cy A cX8_merge 7 RX8) (hr : meth.sig.returnType = none) (hnm : meth.name = yX8_merge.name) (hL197 : ∀ (t : Int64 × Int32 × Int32 × Int32) (σ : Sto), L197 t σ → ∀ ls : Array Slot, lv_has ls 7 [(0, .ref a0), (1, .long t.1), (4, .int t.2.1), (5, .int t.2.2.1), (6, .int t.2.2.2)] → Xw p l e rm_X8_merge s m args below meth c D cy A σ 0 0 (MQ below (Qst D cy A (PsV Q)) args s rm_X8_merge.cells rm_X8_merge.slots A) (F0 m 197 ls [])) : ∀ (t : Int64 × Int32 × Int32 × Int32) (σ : Sto), f_X8_merge_197 a0  Q L197 t σ → ∀ ls : Array Slot, lv_has ls 7 [(0, .ref a0), (1, .long t.1), (4, .int t.2.1), (5, .int t.2.2.1), (6, .int t.2.2.2)] → Xw p l e rm_X8_merge s m args below meth c D cy A σ 0 0 (MQ below (Qst D cy A (PsV Q)) args s rm_X8_merge.cells rm_X8_merge.slots A) (F0 m 197 ls []) := by
  intro t σ h ls hl
  unfold f_X8_merge_197 at h
  refine x_iload C dX8_merge_197 (lv_at hl 4 rfl) ?_
  refine x_iload C dX8_merge_199 (lv_at hl 2 rfl) ?_
  refine x_icmp_gt (tgt := 236) C dX8_merge_201 (by decide) (fun c1 => ?_) (fun c1 => ?_)
  · have h := h.1 c1
    exact t_X8_merge_236 C hr hnm  t.1 t.2.1 t.2.2.1 _ h ls (lv_sub hl [0, 1, 2, 3] rfl)
  · have h := h.2 c1
    refine x_iload C dX8_merge_204 (lv_at hl 4 rfl) ?_
    refine x_bipush (v := 100) C dX8_merge_206 (by decide) ?_
    refine x_icmp_gt (tgt := 236) C dX8_merge_208 (by decide) (fun c2 => ?_) (fun c2 => ?_)
    · have h := h.1 c2
      exact t_X8_merge_236 C hr hnm  t.1 t.2.1 t.2.2.1 _ h ls (lv_sub hl [0, 1, 2, 3] rfl)
    · have h := h.2 c2
      refine x_aload_n C dX8_merge_211 rfl (lv_at hl 0 rfl) ?_
      obtain ⟨g3, h⟩ := h
      refine x_getP C fl_RX8_25 g3 dX8_merge_212 ?_
      obtain ⟨b4, g5, h⟩ := h
      refine x_nn0 g5 ?_
      obtain ⟨g6, h⟩ := h
      refine x_getP C fl_RX8_298 g6 dX8_merge_215 ?_
      refine x_iload C dX8_merge_218 (lv_at hl 4 rfl) ?_
      refine x_iconst (v := 1) C dX8_merge_220 (by decide) ?_
      refine x_isub C dX8_merge_221 ?_
      refine x_aload_n C dX8_merge_222 rfl (lv_at hl 0 rfl) ?_
      refine x_iload C dX8_merge_223 (lv_at hl 4 rfl) ?_
      refine x_lload_n C dX8_merge_225 rfl (lv_at hl 1 rfl) ?_
      refine x_callV (rm := rm_X8_mergedEntry) (rest := [.int (t.2.2.2 - (1 : Int32)), va_rf (sP σ b4 0)]) (As := [.int t.2.2.2, .long t.1]) C cy_RX8_302 g3 (by decide) (by decide) rfl rfl (by simp [vrc, cat_i, cat_r, cat_l]) hl.1 dX8_merge_226 (c_X8_mergedEntry l D cy a0 t.2.2.2 t.1 σ _ h) (ks_p (fun r8 σ7 h => ?_))
      obtain ⟨b9, g10, h⟩ := h
      refine x_nn2 g10 ?_
      obtain ⟨g11, h⟩ := h
      obtain ⟨g12, h⟩ := h
      obtain ⟨g13, h⟩ := h
      refine x_aast C rak_22 g11 g13 g12 dX8_merge_229 ?_
      obtain ⟨x14, e15⟩ : ∃ z : Int32, z = t.2.2.2 + (1 : Int32) := ⟨_, rfl⟩
      have h := h x14 e15
      refine x_iinc (v := x14) (lv' := [(6, .int x14), (0, .ref a0), (1, .long t.1), (4, .int t.2.1), (5, .int t.2.2.1)]) C dX8_merge_230 hl (q0 := 4) rfl (by rw [e15]; rfl) (by decide) (by first | rfl | simp [vrc, cat_i, cat_r, cat_l]) (fun ls hl => ?_)
      refine x_goto (tgt := 197) C dX8_merge_233 (by decide) ?_
      exact hL197 (t.1, t.2.1, t.2.2.1, x14) _ h ls (lv_sub hl [1, 2, 3, 4, 0] rfl)
def b_X8_merge_188 (a0 : Nat) (L117 : Int64 × Int32 × Int32 × Int32 → Sto → Prop) (Q : Sto → Prop) (p1 : Int64) (p4 : Int32) (p5 : Int32) (p6 : Int32) (σ : Sto) : Prop := (∀ x1 : Int32, x1 = p6 + (1 : Int32) → L117 (p1, p4, p5, x1) σ)
set_option maxHeartbeats 4000000 in
set_option maxRecDepth 100000 in
theorem t_X8_merge_188 {p : Program} {l : Launch} {e : Env} {s : State} {m : MethodId} {args : Array Value} {below : List Frame} {meth : Method} {c : Code} {D : va_G} {cy : Nat → ClassId} {A : Nat → Prop} {a0 : Nat} {L117 : Int64 × Int32 × Int32 × Int32 → Sto → Prop} {Q : Sto → Prop} (C : Cx p s m args meth c D cy A cX8_merge 7 RX8) (hr : meth.sig.returnType = none) (hnm : meth.name = yX8_merge.name) (hL117 : ∀ (t : Int64 × Int32 × Int32 × Int32) (σ : Sto), L117 t σ → ∀ ls : Array Slot, lv_has ls 7 [(0, .ref a0), (1, .long t.1), (4, .int t.2.1), (5, .int t.2.2.1), (6, .int t.2.2.2)] → Xw p l e rm_X8_merge s m args below meth c D cy A σ 0 0 (MQ below (Qst D cy A (PsV Q)) args s rm_X8_merge.cells rm_X8_merge.slots A) (F0 m 117 ls [])) (p1 : Int64) (p4 : Int32) (p5 : Int32) (p6 : Int32) (σ : Sto) (h : b_X8_merge_188 a0 L117 Q p1 p4 p5 p6 σ) (ls : Array Slot) (hl : lv_has ls 7 [(0, .ref a0), (1, .long p1), (4, .int p4), (5, .int p5), (6, .int p6)]) : Xw p l e rm_X8_merge s m args below meth c D cy A σ 0 0 (MQ below (Qst D cy A (PsV Q)) args s rm_X8_merge.cells rm_X8_merge.slots A) (F0 m 188 ls []) := by
  unfold b_X8_merge_188 at h
  obtain ⟨x1, e2⟩ : ∃ z : Int32, z = p6 + (1 : Int32) := ⟨_, rfl⟩
  have h := h x1 e2
  refine x_iinc (v := x1) (lv' := [(6, .int x1), (0, .ref a0), (1, .long p1), (4, .int p4), (5, .int p5)]) C dX8_merge_188 hl (q0 := 4) rfl (by rw [e2]; rfl) (by decide) (by first | rfl | simp [vrc, cat_i, cat_r, cat_l]) (fun ls hl => ?_)
  refine x_goto (tgt := 117) C dX8_merge_191 (by decide) ?_
  exact hL117 (p1, p4, p5, x1) _ h ls (lv_sub hl [1, 2, 3, 4, 0] rfl)
def b_X8_merge_186 (a0 : Nat) (L117 : Int64 × Int32 × Int32 × Int32 → Sto → Prop) (Q : Sto → Prop) (p1 : Int64) (p4 : Int32) (p6 : Int32) (s0 : Int32) (σ : Sto) : Prop := b_X8_merge_188 a0 L117 Q p1 p4 s0 p6 σ
set_option maxHeartbeats 4000000 in
set_option maxRecDepth 100000 in
theorem t_X8_merge_186 {p : Program} {l : Launch} {e : Env} {s : State} {m : MethodId} {args : Array Value} {below : List Frame} {meth : Method} {c : Code} {D : va_G} {cy : Nat → ClassId} {A : Nat → Prop} {a0 : Nat} {L117 : Int64 × Int32 × Int32 × Int32 → Sto → Prop} {Q : Sto → Prop} (C : Cx p s m args meth c D cy A cX8_merge 7 RX8) (hr : meth.sig.returnType = none) (hnm : meth.name = yX8_merge.name) (hL117 : ∀ (t : Int64 × Int32 × Int32 × Int32) (σ : Sto), L117 t σ → ∀ ls : Array Slot, lv_has ls 7 [(0, .ref a0), (1, .long t.1), (4, .int t.2.1), (5, .int t.2.2.1), (6, .int t.2.2.2)] → Xw p l e rm_X8_merge s m args below meth c D cy A σ 0 0 (MQ below (Qst D cy A (PsV Q)) args s rm_X8_merge.cells rm_X8_merge.slots A) (F0 m 117 ls [])) (p1 : Int64) (p4 : Int32) (p6 : Int32) (s0 : Int32) (σ : Sto) (h : b_X8_merge_186 a0 L117 Q p1 p4 p6 s0 σ) (ls : Array Slot) (hl : lv_has ls 7 [(0, .ref a0), (1, .long p1), (4, .int p4), (6, .int p6)]) : Xw p l e rm_X8_merge s m args below meth c D cy A σ 0 0 (MQ below (Qst D cy A (PsV Q)) args s rm_X8_merge.cells rm_X8_merge.slots A) (F0 m 186 ls [.int s0]) := by
  unfold b_X8_merge_186 at h
  refine x_istore (i := 5) (lv' := [(5, .int s0), (0, .ref a0), (1, .long p1), (4, .int p4), (6, .int p6)]) C dX8_merge_186 hl (by decide) (by first | rfl | simp [vrc, cat_i, cat_r, cat_l]) (fun ls hl => ?_)
  exact t_X8_merge_188 C hr hnm hL117 p1 p4 s0 p6 _ h ls (lv_sub hl [1, 2, 3, 0, 4] rfl)
def f_X8_merge_117 (a0 : Nat)  (Q : Sto → Prop) (L117 : Int64 × Int32 × Int32 × Int32 → Sto → Prop) (t : Int64 × Int32 × Int32 × Int32) (σ : Sto) : Prop := (sK σ a0 = 8 ∧ (∃ b2 : Nat, sP σ a0 1 = some b2 ∧ (sK σ b2 = 4 ∧ (∀ x5 : Int32, x5 = sI σ b2 0 → ((x5 ≤ t.2.2.2 → LF (f_X8_merge_197 a0  Q) (t.1, t.2.1, t.2.2.1, (1 : Int32)) σ) ∧ (¬ x5 ≤ t.2.2.2 → (∃ b8 : Nat, sP σ a0 10 = some b8 ∧ (sK σ b8 = 5 ∧ (wp_X5_looksAt b8 t.2.2.2 t.1 σ (fun (x12 : Int32) (σ11 : Sto) => ((x12 = 0 → b_X8_merge_188 a0 L117 Q t.1 t.2.1 t.2.2.1 t.2.2.2 σ11) ∧ (¬ x12 = 0 → (sK σ11 a0 = 8 ∧ (∃ b15 : Nat, sP σ11 a0 10 = some b15 ∧ (sK σ11 b15 = 5 ∧ (∃ b18 : Nat, sP σ11 b15 8 = some b18 ∧ (sK σ11 b18 = 18 ∧ (vp_in t.2.2.2 (sN σ11 b18) ∧ (∀ r22 : Option Nat, r22 = sP σ11 b18 t.2.2.2.toNatClampNeg → (∃ b24 : Nat, r22 = some b24 ∧ (sK σ11 b24 = 2 ∧ (∀ x27 : Int32, x27 = sI σ11 b24 1 → (wp_J9_max_7cf53 t.2.1 x27 σ11 (fun (x30 : Int32) (σ29 : Sto) => ((¬ t.2.2.1 = (-1 : Int32) → b_X8_merge_186 a0 L117 Q t.1 x30 t.2.2.2 t.2.2.1 σ29) ∧ (t.2.2.1 = (-1 : Int32) → (sK σ29 a0 = 8 ∧ (∃ b33 : Nat, sP σ29 a0 10 = some b33 ∧ (sK σ29 b33 = 5 ∧ (∃ b36 : Nat, sP σ29 b33 8 = some b36 ∧ (sK σ29 b36 = 18 ∧ (vp_in t.2.2.2 (sN σ29 b36) ∧ (∀ r40 : Option Nat, r40 = sP σ29 b36 t.2.2.2.toNatClampNeg → (∃ b42 : Nat, r40 = some b42 ∧ (sK σ29 b42 = 2 ∧ (∀ x45 : Int32, x45 = sI σ29 b42 2 → b_X8_merge_186 a0 L117 Q t.1 x30 t.2.2.2 x45 σ29))))))))))))))))))))))))))))))))))))
set_option maxHeartbeats 4000000 in
set_option maxRecDepth 100000 in
theorem t_X8_merge_117 {p : Program} {l : Launch} {e : Env} {s : State} {m : MethodId} {args : Array Value} {below : List Frame} {meth : Method} {c : Code} {D : va_G} {cy : Nat → ClassId} {A : Nat → Prop} {a0 : Nat} {Q : Sto → Prop} {L117 : Int64 × Int32 × Int32 × Int32 → Sto → Prop} (C : Cx p s m args meth c D cy A cX8_merge 7 RX8) (hr : meth.sig.returnType = none) (hnm : meth.name = yX8_merge.name) (hL117 : ∀ (t : Int64 × Int32 × Int32 × Int32) (σ : Sto), L117 t σ → ∀ ls : Array Slot, lv_has ls 7 [(0, .ref a0), (1, .long t.1), (4, .int t.2.1), (5, .int t.2.2.1), (6, .int t.2.2.2)] → Xw p l e rm_X8_merge s m args below meth c D cy A σ 0 0 (MQ below (Qst D cy A (PsV Q)) args s rm_X8_merge.cells rm_X8_merge.slots A) (F0 m 117 ls [])) : ∀ (t : Int64 × Int32 × Int32 × Int32) (σ : Sto), f_X8_merge_117 a0  Q L117 t σ → ∀ ls : Array Slot, lv_has ls 7 [(0, .ref a0), (1, .long t.1), (4, .int t.2.1), (5, .int t.2.2.1), (6, .int t.2.2.2)] → Xw p l e rm_X8_merge s m args below meth c D cy A σ 0 0 (MQ below (Qst D cy A (PsV Q)) args s rm_X8_merge.cells rm_X8_merge.slots A) (F0 m 117 ls []) := by
  intro t σ h ls hl
  unfold f_X8_merge_117 at h
  refine x_iload C dX8_merge_117 (lv_at hl 4 rfl) ?_
  refine x_aload_n C dX8_merge_119 rfl (lv_at hl 0 rfl) ?_
  obtain ⟨g1, h⟩ := h
  refine x_getP C fl_RX8_33 g1 dX8_merge_120 ?_
  obtain ⟨b2, g3, h⟩ := h
  refine x_nn0 g3 ?_
  obtain ⟨g4, h⟩ := h
  refine x_getI C fl_RX8_43 g4 dX8_merge_123 ?_
  refine x_topi (fun x5 e6 => ?_)
  have h := h x5 e6
  refine x_icmp_ge (tgt := 194) C dX8_merge_126 (by decide) (fun c7 => ?_) (fun c7 => ?_)
  · have h := h.1 c7
    refine x_iconst (v := 1) C dX8_merge_194 (by decide) ?_
    refine x_istore (i := 6) (lv' := [(6, .int (1 : Int32)), (0, .ref a0), (1, .long t.1), (4, .int t.2.1), (5, .int t.2.2.1)]) C dX8_merge_195 hl (by decide) (by first | rfl | simp [vrc, cat_i, cat_r, cat_l]) (fun ls hl => ?_)
    exact h (fun t σ => ∀ ls : Array Slot, lv_has ls 7 [(0, .ref a0), (1, .long t.1), (4, .int t.2.1), (5, .int t.2.2.1), (6, .int t.2.2.2)] → Xw p l e rm_X8_merge s m args below meth c D cy A σ 0 0 (MQ below (Qst D cy A (PsV Q)) args s rm_X8_merge.cells rm_X8_merge.slots A) (F0 m 197 ls [])) (t_X8_merge_197 C hr hnm  (fun t σ h => h)) ls (lv_sub hl [1, 2, 3, 4, 0] rfl)
  · have h := h.2 c7
    refine x_aload_n C dX8_merge_129 rfl (lv_at hl 0 rfl) ?_
    refine x_getP C fl_RX8_51 g1 dX8_merge_130 ?_
    refine x_iload C dX8_merge_133 (lv_at hl 4 rfl) ?_
    refine x_lload_n C dX8_merge_135 rfl (lv_at hl 1 rfl) ?_
    obtain ⟨b8, g9, h⟩ := h
    refine x_nn2 g9 ?_
    obtain ⟨g10, h⟩ := h
    refine x_callV (rm := rm_X5_looksAt) (rest := []) (As := [.int t.2.2.2, .long t.1]) C cy_RX8_290 g10 (by decide) (by decide) rfl rfl (Nat.le_of_ble_eq_true rfl) hl.1 dX8_merge_136 (c_X5_looksAt l D cy b8 t.2.2.2 t.1 σ _ h) (ks_i (fun x12 σ11 h => ?_))
    refine x_if_eq (tgt := 188) C dX8_merge_139 (by decide) (fun c13 => ?_) (fun c13 => ?_)
    · have h := h.1 c13
      exact t_X8_merge_188 C hr hnm hL117 t.1 t.2.1 t.2.2.1 t.2.2.2 _ h ls (lv_sub hl [0, 1, 2, 3, 4] rfl)
    · have h := h.2 c13
      refine x_iload C dX8_merge_142 (lv_at hl 2 rfl) ?_
      refine x_aload_n C dX8_merge_144 rfl (lv_at hl 0 rfl) ?_
      obtain ⟨g14, h⟩ := h
      refine x_getP C fl_RX8_51 g14 dX8_merge_145 ?_
      obtain ⟨b15, g16, h⟩ := h
      refine x_nn0 g16 ?_
      obtain ⟨g17, h⟩ := h
      refine x_getP C fl_RX8_294 g17 dX8_merge_148 ?_
      refine x_iload C dX8_merge_151 (lv_at hl 4 rfl) ?_
      obtain ⟨b18, g19, h⟩ := h
      refine x_nn1 g19 ?_
      obtain ⟨g20, h⟩ := h
      obtain ⟨g21, h⟩ := h
      refine x_aald C rak_18 g20 g21 dX8_merge_153 ?_
      refine x_topq (fun r22 e23 => ?_)
      have h := h r22 e23
      obtain ⟨b24, g25, h⟩ := h
      refine x_nn0 g25 ?_
      obtain ⟨g26, h⟩ := h
      refine x_getI C fl_RX8_66 g26 dX8_merge_154 ?_
      refine x_topi (fun x27 e28 => ?_)
      have h := h x27 e28
      refine x_callS (rm := rm_J9_max_7cf53) (rest := []) (As := [.int t.2.1, .int x27]) C cs_RX8_205 (by decide) (by decide) rfl rfl (Nat.le_of_ble_eq_true rfl) hl.1 dX8_merge_157 (c_J9_max_7cf53 l D cy t.2.1 x27 σ11 _ h) (ks_i (fun x30 σ29 h => ?_))
      refine x_istore (i := 4) (lv' := [(4, .int x30), (0, .ref a0), (1, .long t.1), (5, .int t.2.2.1), (6, .int t.2.2.2)]) C dX8_merge_160 hl (by decide) (by first | rfl | simp [vrc, cat_i, cat_r, cat_l]) (fun ls hl => ?_)
      refine x_iload C dX8_merge_162 (lv_at hl 3 rfl) ?_
      refine x_iconst (v := -1) C dX8_merge_164 (by decide) ?_
      refine x_icmp_ne (tgt := 184) C dX8_merge_165 (by decide) (fun c31 => ?_) (fun c31 => ?_)
      · have h := h.1 c31
        refine x_iload C dX8_merge_184 (lv_at hl 3 rfl) ?_
        exact t_X8_merge_186 C hr hnm hL117 t.1 x30 t.2.2.2 t.2.2.1 _ h ls (lv_sub hl [1, 2, 0, 4] rfl)
      · have h := h.2 c31
        refine x_aload_n C dX8_merge_168 rfl (lv_at hl 1 rfl) ?_
        obtain ⟨g32, h⟩ := h
        refine x_getP C fl_RX8_51 g32 dX8_merge_169 ?_
        obtain ⟨b33, g34, h⟩ := h
        refine x_nn0 g34 ?_
        obtain ⟨g35, h⟩ := h
        refine x_getP C fl_RX8_294 g35 dX8_merge_172 ?_
        refine x_iload C dX8_merge_175 (lv_at hl 4 rfl) ?_
        obtain ⟨b36, g37, h⟩ := h
        refine x_nn1 g37 ?_
        obtain ⟨g38, h⟩ := h
        obtain ⟨g39, h⟩ := h
        refine x_aald C rak_18 g38 g39 dX8_merge_177 ?_
        refine x_topq (fun r40 e41 => ?_)
        have h := h r40 e41
        obtain ⟨b42, g43, h⟩ := h
        refine x_nn0 g43 ?_
        obtain ⟨g44, h⟩ := h
        refine x_getI C fl_RX8_142 g44 dX8_merge_178 ?_
        refine x_topi (fun x45 e46 => ?_)
        have h := h x45 e46
        refine x_goto (tgt := 186) C dX8_merge_181 (by decide) ?_
        exact t_X8_merge_186 C hr hnm hL117 t.1 x30 t.2.2.2 x45 _ h ls (lv_sub hl [1, 2, 0, 4] rfl)
def b_X8_merge_112 (a0 : Nat)  (Q : Sto → Prop) (p1 : Int64) (p4 : Int32) (s0 : Int32) (σ : Sto) : Prop := LF (f_X8_merge_117 a0  Q) (p1, p4, s0, (0 : Int32)) σ
set_option maxHeartbeats 4000000 in
set_option maxRecDepth 100000 in
theorem t_X8_merge_112 {p : Program} {l : Launch} {e : Env} {s : State} {m : MethodId} {args : Array Value} {below : List Frame} {meth : Method} {c : Code} {D : va_G} {cy : Nat → ClassId} {A : Nat → Prop} {a0 : Nat} {Q : Sto → Prop} (C : Cx p s m args meth c D cy A cX8_merge 7 RX8) (hr : meth.sig.returnType = none) (hnm : meth.name = yX8_merge.name) (p1 : Int64) (p4 : Int32) (s0 : Int32) (σ : Sto) (h : b_X8_merge_112 a0  Q p1 p4 s0 σ) (ls : Array Slot) (hl : lv_has ls 7 [(0, .ref a0), (1, .long p1), (4, .int p4)]) : Xw p l e rm_X8_merge s m args below meth c D cy A σ 0 0 (MQ below (Qst D cy A (PsV Q)) args s rm_X8_merge.cells rm_X8_merge.slots A) (F0 m 112 ls [.int s0]) := by
  unfold b_X8_merge_112 at h
  refine x_istore (i := 5) (lv' := [(5, .int s0), (0, .ref a0), (1, .long p1), (4, .int p4)]) C dX8_merge_112 hl (by decide) (by first | rfl | simp [vrc, cat_i, cat_r, cat_l]) (fun ls hl => ?_)
  refine x_iconst (v := 0) C dX8_merge_114 (by decide) ?_
  refine x_istore (i := 6) (lv' := [(6, .int (0 : Int32)), (5, .int s0), (0, .ref a0), (1, .long p1), (4, .int p4)]) C dX8_merge_115 hl (by decide) (by first | rfl | simp [vrc, cat_i, cat_r, cat_l]) (fun ls hl => ?_)
  exact h (fun t σ => ∀ ls : Array Slot, lv_has ls 7 [(0, .ref a0), (1, .long t.1), (4, .int t.2.1), (5, .int t.2.2.1), (6, .int t.2.2.2)] → Xw p l e rm_X8_merge s m args below meth c D cy A σ 0 0 (MQ below (Qst D cy A (PsV Q)) args s rm_X8_merge.cells rm_X8_merge.slots A) (F0 m 117 ls [])) (t_X8_merge_117 C hr hnm  (fun t σ h => h)) ls (lv_sub hl [2, 3, 4, 1, 0] rfl)
def b_X8_merge_95 (a0 : Nat)  (Q : Sto → Prop) (p1 : Int64) (p3 : Int32) (s0 : Int32) (σ : Sto) : Prop := ((p3 = 0 → b_X8_merge_112 a0  Q p1 s0 (-1 : Int32) σ) ∧ (¬ p3 = 0 → (sK σ a0 = 8 ∧ (∃ b3 : Nat, sP σ a0 7 = some b3 ∧ (sK σ b3 = 2 ∧ (∀ x6 : Int32, x6 = sI σ b3 2 → b_X8_merge_112 a0  Q p1 s0 x6 σ))))))
set_option maxHeartbeats 4000000 in
set_option maxRecDepth 100000 in
theorem t_X8_merge_95 {p : Program} {l : Launch} {e : Env} {s : State} {m : MethodId} {args : Array Value} {below : List Frame} {meth : Method} {c : Code} {D : va_G} {cy : Nat → ClassId} {A : Nat → Prop} {a0 : Nat} {Q : Sto → Prop} (C : Cx p s m args meth c D cy A cX8_merge 7 RX8) (hr : meth.sig.returnType = none) (hnm : meth.name = yX8_merge.name) (p1 : Int64) (p3 : Int32) (s0 : Int32) (σ : Sto) (h : b_X8_merge_95 a0  Q p1 p3 s0 σ) (ls : Array Slot) (hl : lv_has ls 7 [(0, .ref a0), (1, .long p1), (3, .int p3)]) : Xw p l e rm_X8_merge s m args below meth c D cy A σ 0 0 (MQ below (Qst D cy A (PsV Q)) args s rm_X8_merge.cells rm_X8_merge.slots A) (F0 m 95 ls [.int s0]) := by
  unfold b_X8_merge_95 at h
  refine x_istore (i := 4) (lv' := [(4, .int s0), (0, .ref a0), (1, .long p1), (3, .int p3)]) C dX8_merge_95 hl (by decide) (by first | rfl | simp [vrc, cat_i, cat_r, cat_l]) (fun ls hl => ?_)
  refine x_iload_n C dX8_merge_97 rfl (lv_at hl 3 rfl) ?_
  refine x_if_eq (tgt := 111) C dX8_merge_98 (by decide) (fun c1 => ?_) (fun c1 => ?_)
  · have h := h.1 c1
    refine x_iconst (v := -1) C dX8_merge_111 (by decide) ?_
    exact t_X8_merge_112 C hr hnm  p1 s0 (-1 : Int32) _ h ls (lv_sub hl [1, 2, 0] rfl)
  · have h := h.2 c1
    refine x_aload_n C dX8_merge_101 rfl (lv_at hl 1 rfl) ?_
    obtain ⟨g2, h⟩ := h
    refine x_getP C fl_RX8_25 g2 dX8_merge_102 ?_
    obtain ⟨b3, g4, h⟩ := h
    refine x_nn0 g4 ?_
    obtain ⟨g5, h⟩ := h
    refine x_getI C fl_RX8_142 g5 dX8_merge_105 ?_
    refine x_topi (fun x6 e7 => ?_)
    have h := h x6 e7
    refine x_goto (tgt := 112) C dX8_merge_108 (by decide) ?_
    exact t_X8_merge_112 C hr hnm  p1 s0 x6 _ h ls (lv_sub hl [1, 2, 0] rfl)
def b_X8_merge_79 (a0 : Nat)  (Q : Sto → Prop) (p1 : Int64) (s0 : Int32) (σ : Sto) : Prop := ((s0 = 0 → b_X8_merge_95 a0  Q p1 s0 (0 : Int32) σ) ∧ (¬ s0 = 0 → (sK σ a0 = 8 ∧ (∃ b3 : Nat, sP σ a0 7 = some b3 ∧ (sK σ b3 = 2 ∧ (∀ x6 : Int32, x6 = sI σ b3 1 → b_X8_merge_95 a0  Q p1 s0 x6 σ))))))
set_option maxHeartbeats 4000000 in
set_option maxRecDepth 100000 in
theorem t_X8_merge_79 {p : Program} {l : Launch} {e : Env} {s : State} {m : MethodId} {args : Array Value} {below : List Frame} {meth : Method} {c : Code} {D : va_G} {cy : Nat → ClassId} {A : Nat → Prop} {a0 : Nat} {Q : Sto → Prop} (C : Cx p s m args meth c D cy A cX8_merge 7 RX8) (hr : meth.sig.returnType = none) (hnm : meth.name = yX8_merge.name) (p1 : Int64) (s0 : Int32) (σ : Sto) (h : b_X8_merge_79 a0  Q p1 s0 σ) (ls : Array Slot) (hl : lv_has ls 7 [(0, .ref a0), (1, .long p1)]) : Xw p l e rm_X8_merge s m args below meth c D cy A σ 0 0 (MQ below (Qst D cy A (PsV Q)) args s rm_X8_merge.cells rm_X8_merge.slots A) (F0 m 79 ls [.int s0]) := by
  unfold b_X8_merge_79 at h
  refine x_istore_n (i := 3) (lv' := [(3, .int s0), (0, .ref a0), (1, .long p1)]) C dX8_merge_79 rfl hl (by decide) (by first | rfl | simp [vrc, cat_i, cat_r, cat_l]) (fun ls hl => ?_)
  refine x_iload_n C dX8_merge_80 rfl (lv_at hl 0 rfl) ?_
  refine x_if_eq (tgt := 94) C dX8_merge_81 (by decide) (fun c1 => ?_) (fun c1 => ?_)
  · have h := h.1 c1
    refine x_iconst (v := 0) C dX8_merge_94 (by decide) ?_
    exact t_X8_merge_95 C hr hnm  p1 s0 (0 : Int32) _ h ls (lv_sub hl [1, 2, 0] rfl)
  · have h := h.2 c1
    refine x_aload_n C dX8_merge_84 rfl (lv_at hl 1 rfl) ?_
    obtain ⟨g2, h⟩ := h
    refine x_getP C fl_RX8_25 g2 dX8_merge_85 ?_
    obtain ⟨b3, g4, h⟩ := h
    refine x_nn0 g4 ?_
    obtain ⟨g5, h⟩ := h
    refine x_getI C fl_RX8_66 g5 dX8_merge_88 ?_
    refine x_topi (fun x6 e7 => ?_)
    have h := h x6 e7
    refine x_goto (tgt := 95) C dX8_merge_91 (by decide) ?_
    exact t_X8_merge_95 C hr hnm  p1 s0 x6 _ h ls (lv_sub hl [1, 2, 0] rfl)
def b_X8_merge_59 (a0 : Nat) (L7 : Int64 × Int32 → Sto → Prop) (Q : Sto → Prop) (p1 : Int64) (p3 : Int32) (σ : Sto) : Prop := (∀ x1 : Int32, x1 = p3 + (1 : Int32) → L7 (p1, x1) σ)
set_option maxHeartbeats 4000000 in
set_option maxRecDepth 100000 in
theorem t_X8_merge_59 {p : Program} {l : Launch} {e : Env} {s : State} {m : MethodId} {args : Array Value} {below : List Frame} {meth : Method} {c : Code} {D : va_G} {cy : Nat → ClassId} {A : Nat → Prop} {a0 : Nat} {L7 : Int64 × Int32 → Sto → Prop} {Q : Sto → Prop} (C : Cx p s m args meth c D cy A cX8_merge 7 RX8) (hr : meth.sig.returnType = none) (hnm : meth.name = yX8_merge.name) (hL7 : ∀ (t : Int64 × Int32) (σ : Sto), L7 t σ → ∀ ls : Array Slot, lv_has ls 7 [(0, .ref a0), (1, .long t.1), (3, .int t.2)] → Xw p l e rm_X8_merge s m args below meth c D cy A σ 0 0 (MQ below (Qst D cy A (PsV Q)) args s rm_X8_merge.cells rm_X8_merge.slots A) (F0 m 7 ls [])) (p1 : Int64) (p3 : Int32) (σ : Sto) (h : b_X8_merge_59 a0 L7 Q p1 p3 σ) (ls : Array Slot) (hl : lv_has ls 7 [(0, .ref a0), (1, .long p1), (3, .int p3)]) : Xw p l e rm_X8_merge s m args below meth c D cy A σ 0 0 (MQ below (Qst D cy A (PsV Q)) args s rm_X8_merge.cells rm_X8_merge.slots A) (F0 m 59 ls []) := by
  unfold b_X8_merge_59 at h
  obtain ⟨x1, e2⟩ : ∃ z : Int32, z = p3 + (1 : Int32) := ⟨_, rfl⟩
  have h := h x1 e2
  refine x_iinc (v := x1) (lv' := [(3, .int x1), (0, .ref a0), (1, .long p1)]) C dX8_merge_59 hl (q0 := 2) rfl (by rw [e2]; rfl) (by decide) (by first | rfl | simp [vrc, cat_i, cat_r, cat_l]) (fun ls hl => ?_)
  refine x_goto (tgt := 7) C dX8_merge_62 (by decide) ?_
  exact hL7 (p1, x1) _ h ls (lv_sub hl [1, 2, 0] rfl)
def f_X8_merge_7 (a0 : Nat)  (Q : Sto → Prop) (L7 : Int64 × Int32 → Sto → Prop) (t : Int64 × Int32) (σ : Sto) : Prop := (sK σ a0 = 8 ∧ (∃ b2 : Nat, sP σ a0 1 = some b2 ∧ (sK σ b2 = 4 ∧ (∀ x5 : Int32, x5 = sI σ b2 0 → ((x5 ≤ t.2 → (∀ y8 : Int64, y8 = sJ σ a0 6 → ((¬ (lg_cmp y8 t.1) = 0 → b_X8_merge_79 a0  Q t.1 (0 : Int32) σ) ∧ ((lg_cmp y8 t.1) = 0 → b_X8_merge_79 a0  Q t.1 (1 : Int32) σ)))) ∧ (¬ x5 ≤ t.2 → (∃ b11 : Nat, sP σ a0 10 = some b11 ∧ (sK σ b11 = 5 ∧ (∀ x14 : Int32, x14 = sI σ b11 6 → ((¬ ((x14 >>> (t.2 &&& 31)) &&& (1 : Int32)) = (1 : Int32) → b_X8_merge_59 a0 L7 Q t.1 t.2 σ) ∧ (((x14 >>> (t.2 &&& 31)) &&& (1 : Int32)) = (1 : Int32) → (∃ b17 : Nat, sP σ b11 7 = some b17 ∧ (sK σ b17 = 15 ∧ (((nI (sN σ b17)) ≤ t.2 → b_X8_merge_59 a0 L7 Q t.1 t.2 σ) ∧ (¬ (nI (sN σ b17)) ≤ t.2 → (vp_in t.2 (sN σ b17) ∧ (∀ y22 : Int64, y22 = sJ σ b17 t.2.toNatClampNeg → (wp_J9_max_f86c9 t.1 y22 σ (fun (y25 : Int64) (σ24 : Sto) => b_X8_merge_59 a0 L7 Q y25 t.2 σ24)))))))))))))))))))
set_option maxHeartbeats 4000000 in
set_option maxRecDepth 100000 in
theorem t_X8_merge_7 {p : Program} {l : Launch} {e : Env} {s : State} {m : MethodId} {args : Array Value} {below : List Frame} {meth : Method} {c : Code} {D : va_G} {cy : Nat → ClassId} {A : Nat → Prop} {a0 : Nat} {Q : Sto → Prop} {L7 : Int64 × Int32 → Sto → Prop} (C : Cx p s m args meth c D cy A cX8_merge 7 RX8) (hr : meth.sig.returnType = none) (hnm : meth.name = yX8_merge.name) (hL7 : ∀ (t : Int64 × Int32) (σ : Sto), L7 t σ → ∀ ls : Array Slot, lv_has ls 7 [(0, .ref a0), (1, .long t.1), (3, .int t.2)] → Xw p l e rm_X8_merge s m args below meth c D cy A σ 0 0 (MQ below (Qst D cy A (PsV Q)) args s rm_X8_merge.cells rm_X8_merge.slots A) (F0 m 7 ls [])) : ∀ (t : Int64 × Int32) (σ : Sto), f_X8_merge_7 a0  Q L7 t σ → ∀ ls : Array Slot, lv_has ls 7 [(0, .ref a0), (1, .long t.1), (3, .int t.2)] → Xw p l e rm_X8_merge s m args below meth c D cy A σ 0 0 (MQ below (Qst D cy A (PsV Q)) args s rm_X8_merge.cells rm_X8_merge.slots A) (F0 m 7 ls []) := by
  intro t σ h ls hl
  unfold f_X8_merge_7 at h
  refine x_iload_n C dX8_merge_7 rfl (lv_at hl 2 rfl) ?_
  refine x_aload_n C dX8_merge_8 rfl (lv_at hl 0 rfl) ?_
  obtain ⟨g1, h⟩ := h
  refine x_getP C fl_RX8_33 g1 dX8_merge_9 ?_
  obtain ⟨b2, g3, h⟩ := h
  refine x_nn0 g3 ?_
  obtain ⟨g4, h⟩ := h
  refine x_getI C fl_RX8_43 g4 dX8_merge_12 ?_
  refine x_topi (fun x5 e6 => ?_)
  have h := h x5 e6
  refine x_icmp_ge (tgt := 65) C dX8_merge_15 (by decide) (fun c7 => ?_) (fun c7 => ?_)
  · have h := h.1 c7
    refine x_aload_n C dX8_merge_65 rfl (lv_at hl 0 rfl) ?_
    refine x_getJ C fl_RX8_19 g1 dX8_merge_66 ?_
    refine x_topj (fun y8 e9 => ?_)
    have h := h y8 e9
    refine x_lload_n C dX8_merge_69 rfl (lv_at hl 1 rfl) ?_
    refine x_lcmp C dX8_merge_70 ?_
    refine x_if_ne (tgt := 78) C dX8_merge_71 (by decide) (fun c10 => ?_) (fun c10 => ?_)
    · have h := h.1 c10
      refine x_iconst (v := 0) C dX8_merge_78 (by decide) ?_
      exact t_X8_merge_79 C hr hnm  t.1 (0 : Int32) _ h ls (lv_sub hl [0, 1] rfl)
    · have h := h.2 c10
      refine x_iconst (v := 1) C dX8_merge_74 (by decide) ?_
      refine x_goto (tgt := 79) C dX8_merge_75 (by decide) ?_
      exact t_X8_merge_79 C hr hnm  t.1 (1 : Int32) _ h ls (lv_sub hl [0, 1] rfl)
  · have h := h.2 c7
    refine x_aload_n C dX8_merge_18 rfl (lv_at hl 0 rfl) ?_
    refine x_getP C fl_RX8_51 g1 dX8_merge_19 ?_
    obtain ⟨b11, g12, h⟩ := h
    refine x_nn0 g12 ?_
    obtain ⟨g13, h⟩ := h
    refine x_getI C fl_RX8_224 g13 dX8_merge_22 ?_
    refine x_topi (fun x14 e15 => ?_)
    have h := h x14 e15
    refine x_iload_n C dX8_merge_25 rfl (lv_at hl 2 rfl) ?_
    refine x_ishr C dX8_merge_26 ?_
    refine x_iconst (v := 1) C dX8_merge_27 (by decide) ?_
    refine x_iand C dX8_merge_28 ?_
    refine x_iconst (v := 1) C dX8_merge_29 (by decide) ?_
    refine x_icmp_ne (tgt := 59) C dX8_merge_30 (by decide) (fun c16 => ?_) (fun c16 => ?_)
    · have h := h.1 c16
      exact t_X8_merge_59 C hr hnm hL7 t.1 t.2 _ h ls (lv_sub hl [0, 1, 2] rfl)
    · have h := h.2 c16
      refine x_iload_n C dX8_merge_33 rfl (lv_at hl 2 rfl) ?_
      refine x_aload_n C dX8_merge_34 rfl (lv_at hl 0 rfl) ?_
      refine x_getP C fl_RX8_51 g1 dX8_merge_35 ?_
      refine x_nn0 g12 ?_
      refine x_getP C fl_RX8_283 g13 dX8_merge_38 ?_
      obtain ⟨b17, g18, h⟩ := h
      refine x_nn0 g18 ?_
      obtain ⟨g19, h⟩ := h
      refine x_alen C g19 (by decide) (by decide) dX8_merge_41 ?_
      refine x_icmp_ge (tgt := 59) C dX8_merge_42 (by decide) (fun c20 => ?_) (fun c20 => ?_)
      · have h := h.1 c20
        exact t_X8_merge_59 C hr hnm hL7 t.1 t.2 _ h ls (lv_sub hl [0, 1, 2] rfl)
      · have h := h.2 c20
        refine x_lload_n C dX8_merge_45 rfl (lv_at hl 1 rfl) ?_
        refine x_aload_n C dX8_merge_46 rfl (lv_at hl 0 rfl) ?_
        refine x_getP C fl_RX8_51 g1 dX8_merge_47 ?_
        refine x_nn0 g12 ?_
        refine x_getP C fl_RX8_283 g13 dX8_merge_50 ?_
        refine x_iload_n C dX8_merge_53 rfl (lv_at hl 2 rfl) ?_
        refine x_nn1 g18 ?_
        obtain ⟨g21, h⟩ := h
        refine x_lald C g19 g21 dX8_merge_54 ?_
        refine x_topj (fun y22 e23 => ?_)
        have h := h y22 e23
        refine x_callS (rm := rm_J9_max_f86c9) (rest := []) (As := [.long t.1, .long y22]) C cs_RX8_287 (by decide) (by decide) rfl rfl (Nat.le_of_ble_eq_true rfl) hl.1 dX8_merge_55 (c_J9_max_f86c9 l D cy t.1 y22 σ _ h) (ks_j (fun y25 σ24 h => ?_))
        refine x_lstore_n (i := 1) (lv' := [(1, .long y25), (0, .ref a0), (3, .int t.2)]) C dX8_merge_58 rfl hl (by decide) (by first | rfl | simp [vrc, cat_i, cat_r, cat_l]) (fun ls hl => ?_)
        exact t_X8_merge_59 C hr hnm hL7 y25 t.2 _ h ls (lv_sub hl [1, 0, 2] rfl)
def wp_X8_merge (a0 : Nat)  (σ : Sto) (Q : Sto → Prop) : Prop := (sK σ a0 = 8 ∧ (∀ y2 : Int64, y2 = sJ σ a0 6 → LF (f_X8_merge_7 a0  Q) (y2, (0 : Int32)) σ))
set_option maxHeartbeats 4000000 in
set_option maxRecDepth 100000 in
theorem c_X8_merge (l : Launch) (D : va_G) (cy : Nat → ClassId) (a0 : Nat)  (σ : Sto) (Q : Sto → Prop) (h : wp_X8_merge a0  σ Q) : Mt l D cy yX8_merge cX8_merge 7 none rm_X8_merge [.ref a0] σ (PsV Q) := by
  unfold wp_X8_merge at h
  refine mt_of (by decide +kernel) (Nat.le_of_ble_eq_true rfl) ?_
  intro p e s m args below meth c A ls C hr hnm hl
  have C : Cx p s m args meth c D cy A cX8_merge 7 RX8 := C
  have hl : lv_has ls 7 [(0, .ref a0)] := hl
  refine x_aload_n C dX8_merge_0 rfl (lv_at hl 0 rfl) ?_
  obtain ⟨g1, h⟩ := h
  refine x_getJ C fl_RX8_19 g1 dX8_merge_1 ?_
  refine x_topj (fun y2 e3 => ?_)
  have h := h y2 e3
  refine x_lstore_n (i := 1) (lv' := [(1, .long y2), (0, .ref a0)]) C dX8_merge_4 rfl hl (by decide) (by first | rfl | simp [vrc, cat_i, cat_r, cat_l]) (fun ls hl => ?_)
  refine x_iconst (v := 0) C dX8_merge_5 (by decide) ?_
  refine x_istore_n (i := 3) (lv' := [(3, .int (0 : Int32)), (1, .long y2), (0, .ref a0)]) C dX8_merge_6 rfl hl (by decide) (by first | rfl | simp [vrc, cat_i, cat_r, cat_l]) (fun ls hl => ?_)
  exact h (fun t σ => ∀ ls : Array Slot, lv_has ls 7 [(0, .ref a0), (1, .long t.1), (3, .int t.2)] → Xw p l e rm_X8_merge s m args below meth c D cy A σ 0 0 (MQ below (Qst D cy A (PsV Q)) args s rm_X8_merge.cells rm_X8_merge.slots A) (F0 m 7 ls [])) (t_X8_merge_7 C hr hnm  (fun t σ h => h)) ls (lv_sub hl [2, 1, 0] rfl)
theorem dX8_hearTurned_0 : decode cX8_hearTurned 0 = .ok (.aload_n 1, 1) := by decide +kernel
theorem dX8_hearTurned_1 : decode cX8_hearTurned 1 = .ok (.getfield 83, 3) := by decide +kernel
theorem dX8_hearTurned_4 : decode cX8_hearTurned 4 = .ok (.aload_n 0, 1) := by decide +kernel
theorem dX8_hearTurned_5 : decode cX8_hearTurned 5 = .ok (.getfield 13, 3) := by decide +kernel
theorem dX8_hearTurned_8 : decode cX8_hearTurned 8 = .ok (.lcmp, 1) := by decide +kernel
theorem dX8_hearTurned_9 : decode cX8_hearTurned 9 = .ok (.ifCond .ne 10, 3) := by decide +kernel
theorem dX8_hearTurned_12 : decode cX8_hearTurned 12 = .ok (.aload_n 0, 1) := by decide +kernel
theorem dX8_hearTurned_13 : decode cX8_hearTurned 13 = .ok (.invokevirtual 59, 3) := by decide +kernel
theorem dX8_hearTurned_16 : decode cX8_hearTurned 16 = .ok (.ifCond .ne 4, 3) := by decide +kernel
theorem dX8_hearTurned_19 : decode cX8_hearTurned 19 = .ok (.return_, 1) := by decide +kernel
theorem dX8_hearTurned_20 : decode cX8_hearTurned 20 = .ok (.aload_n 0, 1) := by decide +kernel
theorem dX8_hearTurned_21 : decode cX8_hearTurned 21 = .ok (.getfield 63, 3) := by decide +kernel
theorem dX8_hearTurned_24 : decode cX8_hearTurned 24 = .ok (.iconst 2, 1) := by decide +kernel
theorem dX8_hearTurned_25 : decode cX8_hearTurned 25 = .ok (.if_icmp .eq 36, 3) := by decide +kernel
theorem dX8_hearTurned_28 : decode cX8_hearTurned 28 = .ok (.aload_n 0, 1) := by decide +kernel
theorem dX8_hearTurned_29 : decode cX8_hearTurned 29 = .ok (.getfield 33, 3) := by decide +kernel
theorem dX8_hearTurned_32 : decode cX8_hearTurned 32 = .ok (.bipush 10, 2) := by decide +kernel
theorem dX8_hearTurned_34 : decode cX8_hearTurned 34 = .ok (.aload_n 0, 1) := by decide +kernel
theorem dX8_hearTurned_35 : decode cX8_hearTurned 35 = .ok (.getfield 29, 3) := by decide +kernel
theorem dX8_hearTurned_38 : decode cX8_hearTurned 38 = .ok (.aload_n 1, 1) := by decide +kernel
theorem dX8_hearTurned_39 : decode cX8_hearTurned 39 = .ok (.getfield 84, 3) := by decide +kernel
theorem dX8_hearTurned_42 : decode cX8_hearTurned 42 = .ok (.aload_n 0, 1) := by decide +kernel
theorem dX8_hearTurned_43 : decode cX8_hearTurned 43 = .ok (.getfield 13, 3) := by decide +kernel
theorem dX8_hearTurned_46 : decode cX8_hearTurned 46 = .ok (.iconst 0, 1) := by decide +kernel
theorem dX8_hearTurned_47 : decode cX8_hearTurned 47 = .ok (.invokevirtual 171, 3) := by decide +kernel
theorem dX8_hearTurned_50 : decode cX8_hearTurned 50 = .ok (.getfield 116, 3) := by decide +kernel
theorem dX8_hearTurned_53 : decode cX8_hearTurned 53 = .ok (.aload_n 0, 1) := by decide +kernel
theorem dX8_hearTurned_54 : decode cX8_hearTurned 54 = .ok (.getfield 25, 3) := by decide +kernel
theorem dX8_hearTurned_57 : decode cX8_hearTurned 57 = .ok (.invokevirtual 218, 3) := by decide +kernel
theorem dX8_hearTurned_60 : decode cX8_hearTurned 60 = .ok (.return_, 1) := by decide +kernel
theorem dX8_hearTurned_61 : decode cX8_hearTurned 61 = .ok (.aload_n 0, 1) := by decide +kernel
theorem dX8_hearTurned_62 : decode cX8_hearTurned 62 = .ok (.getfield 51, 3) := by decide +kernel
theorem dX8_hearTurned_65 : decode cX8_hearTurned 65 = .ok (.aload_n 1, 1) := by decide +kernel
theorem dX8_hearTurned_66 : decode cX8_hearTurned 66 = .ok (.invokevirtual 221, 3) := by decide +kernel
theorem dX8_hearTurned_69 : decode cX8_hearTurned 69 = .ok (.aload_n 0, 1) := by decide +kernel
theorem dX8_hearTurned_70 : decode cX8_hearTurned 70 = .ok (.getfield 51, 3) := by decide +kernel
theorem dX8_hearTurned_73 : decode cX8_hearTurned 73 = .ok (.getfield 224, 3) := by decide +kernel
theorem dX8_hearTurned_76 : decode cX8_hearTurned 76 = .ok (.invokestatic 191, 3) := by decide +kernel
theorem dX8_hearTurned_79 : decode cX8_hearTurned 79 = .ok (.aload_n 0, 1) := by decide +kernel
theorem dX8_hearTurned_80 : decode cX8_hearTurned 80 = .ok (.getfield 33, 3) := by decide +kernel
theorem dX8_hearTurned_83 : decode cX8_hearTurned 83 = .ok (.getfield 196, 3) := by decide +kernel
theorem dX8_hearTurned_86 : decode cX8_hearTurned 86 = .ok (.if_icmp .lt 7, 3) := by decide +kernel
theorem dX8_hearTurned_89 : decode cX8_hearTurned 89 = .ok (.aload_n 0, 1) := by decide +kernel
theorem dX8_hearTurned_90 : decode cX8_hearTurned 90 = .ok (.invokevirtual 227, 3) := by decide +kernel
theorem dX8_hearTurned_93 : decode cX8_hearTurned 93 = .ok (.return_, 1) := by decide +kernel
abbrev rm_X8_hearTurned : Room := { frames := 4, cells := 0, slots := 0, locals := 95 }
def wp_X8_hearTurned (a0 : Nat) (p1 : Option Nat) (σ : Sto) (Q : Sto → Prop) : Prop := (∃ b1 : Nat, p1 = some b1 ∧ (sK σ b1 = 3 ∧ (∀ y4 : Int64, y4 = sJ σ b1 4 → (sK σ a0 = 8 ∧ (∀ y7 : Int64, y7 = sJ σ a0 5 → ((¬ (lg_cmp y4 y7) = 0 → Q σ) ∧ ((lg_cmp y4 y7) = 0 → (wp_X8_leads a0  σ (fun (x11 : Int32) (σ10 : Sto) => ((¬ x11 = 0 → (sK σ10 a0 = 8 ∧ (∀ x14 : Int32, x14 = sI σ10 a0 4 → ((x14 = (2 : Int32) → (∃ b17 : Nat, sP σ10 a0 10 = some b17 ∧ (sK σ10 b17 = 5 ∧ (wp_X5_countTurned b17 p1 σ10 (fun (σ20 : Sto) => (sK σ20 a0 = 8 ∧ (∃ b22 : Nat, sP σ20 a0 10 = some b22 ∧ (sK σ20 b22 = 5 ∧ (∀ x25 : Int32, x25 = sI σ20 b22 6 → (wp_J6_bitCount_0f7a4 x25 σ20 (fun (x28 : Int32) (σ27 : Sto) => (sK σ27 a0 = 8 ∧ (∃ b30 : Nat, sP σ27 a0 1 = some b30 ∧ (sK σ27 b30 = 4 ∧ (∀ x33 : Int32, x33 = sI σ27 b30 1 → ((x28 < x33 → Q σ27) ∧ (¬ x28 < x33 → (wp_X8_merge a0  σ27 (fun (σ36 : Sto) => Q σ36))))))))))))))))))) ∧ (¬ x14 = (2 : Int32) → (∀ x37 : Int32, x37 = sI σ10 a0 0 → (sK σ10 b1 = 3 ∧ (∀ x40 : Int32, x40 = sI σ10 b1 2 → (∀ y42 : Int64, y42 = sJ σ10 a0 5 → (∃ b44 : Nat, sP σ10 a0 1 = some b44 ∧ (sK σ10 b44 = 4 ∧ (wp_X4_send b44 (10 : Int32) x37 x40 y42 (0 : Int32) σ10 (fun (r48 : Option Nat) (σ47 : Sto) => (∃ b49 : Nat, r48 = some b49 ∧ (sK σ47 b49 = 3 ∧ (sK σ47 a0 = 8 ∧ (∃ b53 : Nat, sP σ47 b49 11 = some b53 ∧ (sK σ47 b53 = 2 ∧ (wp_X2_become b53 (sP σ47 a0 7) σ47 (fun (σ56 : Sto) => Q σ56)))))))))))))))))))) ∧ (x11 = 0 → Q σ10)))))))))))
set_option maxHeartbeats 4000000 in
set_option maxRecDepth 100000 in
theorem c_X8_hearTurned (l : Launch) (D : va_G) (cy : Nat → ClassId) (a0 : Nat) (p1 : Option Nat) (σ : Sto) (Q : Sto → Prop) (h : wp_X8_hearTurned a0 p1 σ Q) : Mt l D cy yX8_hearTurned cX8_hearTurned 2 none rm_X8_hearTurned [.ref a0, va_rf p1] σ (PsV Q) := by
  unfold wp_X8_hearTurned at h
  refine mt_of (by decide +kernel) (by simp [lg_sl, vrc, cat_i, cat_r, cat_l]) ?_
  intro p e s m args below meth c A ls C hr hnm hl
  have C : Cx p s m args meth c D cy A cX8_hearTurned 2 RX8 := C
  have hl : lv_has ls 2 [(0, .ref a0), (1, va_rf p1)] := by simpa [lv_args, vrc, cat_i, cat_r, cat_l] using hl
  refine x_aload_nq C dX8_hearTurned_0 rfl (lv_at hl 1 rfl) ?_
  obtain ⟨b1, g2, h⟩ := h
  refine x_nn0 g2 ?_
  obtain ⟨g3, h⟩ := h
  refine x_getJ C fl_RX8_83 g3 dX8_hearTurned_1 ?_
  refine x_topj (fun y4 e5 => ?_)
  have h := h y4 e5
  refine x_aload_n C dX8_hearTurned_4 rfl (lv_at hl 0 rfl) ?_
  obtain ⟨g6, h⟩ := h
  refine x_getJ C fl_RX8_13 g6 dX8_hearTurned_5 ?_
  refine x_topj (fun y7 e8 => ?_)
  have h := h y7 e8
  refine x_lcmp C dX8_hearTurned_8 ?_
  refine x_if_ne (tgt := 19) C dX8_hearTurned_9 (by decide) (fun c9 => ?_) (fun c9 => ?_)
  · have h := h.1 c9
    exact x_vret C hr dX8_hearTurned_19 ⟨rfl, h⟩
  · have h := h.2 c9
    refine x_aload_n C dX8_hearTurned_12 rfl (lv_at hl 0 rfl) ?_
    refine x_callV (rm := rm_X8_leads) (rest := []) (As := []) C cy_RX8_59 g6 (by decide) (by decide) rfl rfl (Nat.le_of_ble_eq_true rfl) hl.1 dX8_hearTurned_13 (c_X8_leads l D cy a0  σ _ h) (ks_i (fun x11 σ10 h => ?_))
    refine x_if_ne (tgt := 20) C dX8_hearTurned_16 (by decide) (fun c12 => ?_) (fun c12 => ?_)
    · have h := h.1 c12
      refine x_aload_n C dX8_hearTurned_20 rfl (lv_at hl 0 rfl) ?_
      obtain ⟨g13, h⟩ := h
      refine x_getI C fl_RX8_63 g13 dX8_hearTurned_21 ?_
      refine x_topi (fun x14 e15 => ?_)
      have h := h x14 e15
      refine x_iconst (v := 2) C dX8_hearTurned_24 (by decide) ?_
      refine x_icmp_eq (tgt := 61) C dX8_hearTurned_25 (by decide) (fun c16 => ?_) (fun c16 => ?_)
      · have h := h.1 c16
        refine x_aload_n C dX8_hearTurned_61 rfl (lv_at hl 0 rfl) ?_
        refine x_getP C fl_RX8_51 g13 dX8_hearTurned_62 ?_
        refine x_aload_nq C dX8_hearTurned_65 rfl (lv_at hl 1 rfl) ?_
        obtain ⟨b17, g18, h⟩ := h
        refine x_nn1 g18 ?_
        obtain ⟨g19, h⟩ := h
        refine x_callV (rm := rm_X5_countTurned) (rest := []) (As := [va_rf p1]) C cy_RX8_221 g19 (by decide) (by decide) rfl rfl (Nat.le_of_ble_eq_true rfl) hl.1 dX8_hearTurned_66 (c_X5_countTurned l D cy b17 p1 σ10 _ h) (ks_v (fun σ20 h => ?_))
        refine x_aload_n C dX8_hearTurned_69 rfl (lv_at hl 0 rfl) ?_
        obtain ⟨g21, h⟩ := h
        refine x_getP C fl_RX8_51 g21 dX8_hearTurned_70 ?_
        obtain ⟨b22, g23, h⟩ := h
        refine x_nn0 g23 ?_
        obtain ⟨g24, h⟩ := h
        refine x_getI C fl_RX8_224 g24 dX8_hearTurned_73 ?_
        refine x_topi (fun x25 e26 => ?_)
        have h := h x25 e26
        refine x_callS (rm := rm_J6_bitCount_0f7a4) (rest := []) (As := [.int x25]) C cs_RX8_191 (by decide) (by decide) rfl rfl (Nat.le_of_ble_eq_true rfl) hl.1 dX8_hearTurned_76 (c_J6_bitCount_0f7a4 l D cy x25 σ20 _ h) (ks_i (fun x28 σ27 h => ?_))
        refine x_aload_n C dX8_hearTurned_79 rfl (lv_at hl 0 rfl) ?_
        obtain ⟨g29, h⟩ := h
        refine x_getP C fl_RX8_33 g29 dX8_hearTurned_80 ?_
        obtain ⟨b30, g31, h⟩ := h
        refine x_nn0 g31 ?_
        obtain ⟨g32, h⟩ := h
        refine x_getI C fl_RX8_196 g32 dX8_hearTurned_83 ?_
        refine x_topi (fun x33 e34 => ?_)
        have h := h x33 e34
        refine x_icmp_lt (tgt := 93) C dX8_hearTurned_86 (by decide) (fun c35 => ?_) (fun c35 => ?_)
        · have h := h.1 c35
          exact x_vret C hr dX8_hearTurned_93 ⟨rfl, h⟩
        · have h := h.2 c35
          refine x_aload_n C dX8_hearTurned_89 rfl (lv_at hl 0 rfl) ?_
          refine x_callV (rm := rm_X8_merge) (rest := []) (As := []) C cy_RX8_227 g29 (by decide) (by decide) rfl rfl (Nat.le_of_ble_eq_true rfl) hl.1 dX8_hearTurned_90 (c_X8_merge l D cy a0  σ27 _ h) (ks_v (fun σ36 h => ?_))
          exact x_vret C hr dX8_hearTurned_93 ⟨rfl, h⟩
      · have h := h.2 c16
        refine x_aload_n C dX8_hearTurned_28 rfl (lv_at hl 0 rfl) ?_
        refine x_getP C fl_RX8_33 g13 dX8_hearTurned_29 ?_
        refine x_bipush (v := 10) C dX8_hearTurned_32 (by decide) ?_
        refine x_aload_n C dX8_hearTurned_34 rfl (lv_at hl 0 rfl) ?_
        refine x_getI C fl_RX8_29 g13 dX8_hearTurned_35 ?_
        refine x_topi (fun x37 e38 => ?_)
        have h := h x37 e38
        refine x_aload_nq C dX8_hearTurned_38 rfl (lv_at hl 1 rfl) ?_
        refine x_nn0 g2 ?_
        obtain ⟨g39, h⟩ := h
        refine x_getI C fl_RX8_84 g39 dX8_hearTurned_39 ?_
        refine x_topi (fun x40 e41 => ?_)
        have h := h x40 e41
        refine x_aload_n C dX8_hearTurned_42 rfl (lv_at hl 0 rfl) ?_
        refine x_getJ C fl_RX8_13 g13 dX8_hearTurned_43 ?_
        refine x_topj (fun y42 e43 => ?_)
        have h := h y42 e43
        refine x_iconst (v := 0) C dX8_hearTurned_46 (by decide) ?_
        obtain ⟨b44, g45, h⟩ := h
        refine x_nn5 g45 ?_
        obtain ⟨g46, h⟩ := h
        refine x_callV (rm := rm_X4_send) (rest := []) (As := [.int (10 : Int32), .int x37, .int x40, .long y42, .int (0 : Int32)]) C cy_RX8_171 g46 (by decide) (by decide) rfl rfl (Nat.le_of_ble_eq_true rfl) hl.1 dX8_hearTurned_47 (c_X4_send l D cy b44 (10 : Int32) x37 x40 y42 (0 : Int32) σ10 _ h) (ks_p (fun r48 σ47 h => ?_))
        obtain ⟨b49, g50, h⟩ := h
        refine x_nn0 g50 ?_
        obtain ⟨g51, h⟩ := h
        refine x_getP C fl_RX8_116 g51 dX8_hearTurned_50 ?_
        refine x_aload_n C dX8_hearTurned_53 rfl (lv_at hl 0 rfl) ?_
        obtain ⟨g52, h⟩ := h
        refine x_getP C fl_RX8_25 g52 dX8_hearTurned_54 ?_
        obtain ⟨b53, g54, h⟩ := h
        refine x_nn1 g54 ?_
        obtain ⟨g55, h⟩ := h
        refine x_callV (rm := rm_X2_become) (rest := []) (As := [va_rf (sP σ47 a0 7)]) C cy_RX8_218 g55 (by decide) (by decide) rfl rfl (Nat.le_of_ble_eq_true rfl) hl.1 dX8_hearTurned_57 (c_X2_become l D cy b53 (sP σ47 a0 7) σ47 _ h) (ks_v (fun σ56 h => ?_))
        exact x_vret C hr dX8_hearTurned_60 ⟨rfl, h⟩
    · have h := h.2 c12
      exact x_vret C hr dX8_hearTurned_19 ⟨rfl, h⟩
theorem dX8_hearStart_0 : decode cX8_hearStart 0 = .ok (.aload_n 0, 1) := by decide +kernel
theorem dX8_hearStart_1 : decode cX8_hearStart 1 = .ok (.getfield 13, 3) := by decide +kernel
theorem dX8_hearStart_4 : decode cX8_hearStart 4 = .ok (.aload_n 1, 1) := by decide +kernel
theorem dX8_hearStart_5 : decode cX8_hearStart 5 = .ok (.getfield 83, 3) := by decide +kernel
theorem dX8_hearStart_8 : decode cX8_hearStart 8 = .ok (.invokestatic 230, 3) := by decide +kernel
theorem dX8_hearStart_11 : decode cX8_hearStart 11 = .ok (.ifCond .ne 23, 3) := by decide +kernel
theorem dX8_hearStart_14 : decode cX8_hearStart 14 = .ok (.aload_n 0, 1) := by decide +kernel
theorem dX8_hearStart_15 : decode cX8_hearStart 15 = .ok (.getfield 13, 3) := by decide +kernel
theorem dX8_hearStart_18 : decode cX8_hearStart 18 = .ok (.aload_n 1, 1) := by decide +kernel
theorem dX8_hearStart_19 : decode cX8_hearStart 19 = .ok (.getfield 83, 3) := by decide +kernel
theorem dX8_hearStart_22 : decode cX8_hearStart 22 = .ok (.lcmp, 1) := by decide +kernel
theorem dX8_hearStart_23 : decode cX8_hearStart 23 = .ok (.ifCond .ne 34, 3) := by decide +kernel
theorem dX8_hearStart_26 : decode cX8_hearStart 26 = .ok (.aload_n 0, 1) := by decide +kernel
theorem dX8_hearStart_27 : decode cX8_hearStart 27 = .ok (.getfield 63, 3) := by decide +kernel
theorem dX8_hearStart_30 : decode cX8_hearStart 30 = .ok (.iconst 2, 1) := by decide +kernel
theorem dX8_hearStart_31 : decode cX8_hearStart 31 = .ok (.if_icmp .ne 26, 3) := by decide +kernel
theorem dX8_hearStart_34 : decode cX8_hearStart 34 = .ok (.aload_n 0, 1) := by decide +kernel
theorem dX8_hearStart_35 : decode cX8_hearStart 35 = .ok (.aload_n 1, 1) := by decide +kernel
theorem dX8_hearStart_36 : decode cX8_hearStart 36 = .ok (.getfield 83, 3) := by decide +kernel
theorem dX8_hearStart_39 : decode cX8_hearStart 39 = .ok (.putfield 13, 3) := by decide +kernel
theorem dX8_hearStart_42 : decode cX8_hearStart 42 = .ok (.aload_n 0, 1) := by decide +kernel
theorem dX8_hearStart_43 : decode cX8_hearStart 43 = .ok (.getfield 25, 3) := by decide +kernel
theorem dX8_hearStart_46 : decode cX8_hearStart 46 = .ok (.aload_n 1, 1) := by decide +kernel
theorem dX8_hearStart_47 : decode cX8_hearStart 47 = .ok (.getfield 116, 3) := by decide +kernel
theorem dX8_hearStart_50 : decode cX8_hearStart 50 = .ok (.invokevirtual 218, 3) := by decide +kernel
theorem dX8_hearStart_53 : decode cX8_hearStart 53 = .ok (.aload_n 0, 1) := by decide +kernel
theorem dX8_hearStart_54 : decode cX8_hearStart 54 = .ok (.invokevirtual 234, 3) := by decide +kernel
theorem dX8_hearStart_57 : decode cX8_hearStart 57 = .ok (.return_, 1) := by decide +kernel
abbrev rm_X8_hearStart : Room := { frames := 2, cells := 0, slots := 0, locals := 44 }
def b_X8_hearStart_34 (a0 : Nat)  (Q : Sto → Prop) (p1 : Option Nat) (σ : Sto) : Prop := (∃ b1 : Nat, p1 = some b1 ∧ (sK σ b1 = 3 ∧ (∀ y4 : Int64, y4 = sJ σ b1 4 → (sK σ a0 = 8 ∧ (∃ b7 : Nat, sP σ a0 7 = some b7 ∧ (sK σ b7 = 2 ∧ (wp_X2_become b7 (sP σ b1 11) (stJ σ a0 5 y4) (fun (σ10 : Sto) => (sK σ10 a0 = 8 ∧ (wp_X8_becomeNormal a0  σ10 (fun (σ12 : Sto) => Q σ12)))))))))))
set_option maxHeartbeats 4000000 in
set_option maxRecDepth 100000 in
theorem t_X8_hearStart_34 {p : Program} {l : Launch} {e : Env} {s : State} {m : MethodId} {args : Array Value} {below : List Frame} {meth : Method} {c : Code} {D : va_G} {cy : Nat → ClassId} {A : Nat → Prop} {a0 : Nat} {Q : Sto → Prop} (C : Cx p s m args meth c D cy A cX8_hearStart 2 RX8) (hr : meth.sig.returnType = none) (hnm : meth.name = yX8_hearStart.name) (p1 : Option Nat) (σ : Sto) (h : b_X8_hearStart_34 a0  Q p1 σ) (ls : Array Slot) (hl : lv_has ls 2 [(0, .ref a0), (1, va_rf p1)]) : Xw p l e rm_X8_hearStart s m args below meth c D cy A σ 0 0 (MQ below (Qst D cy A (PsV Q)) args s rm_X8_hearStart.cells rm_X8_hearStart.slots A) (F0 m 34 ls []) := by
  unfold b_X8_hearStart_34 at h
  refine x_aload_n C dX8_hearStart_34 rfl (lv_at hl 0 rfl) ?_
  refine x_aload_nq C dX8_hearStart_35 rfl (lv_at hl 1 rfl) ?_
  obtain ⟨b1, g2, h⟩ := h
  refine x_nn0 g2 ?_
  obtain ⟨g3, h⟩ := h
  refine x_getJ C fl_RX8_83 g3 dX8_hearStart_36 ?_
  refine x_topj (fun y4 e5 => ?_)
  have h := h y4 e5
  obtain ⟨g6, h⟩ := h
  refine x_putJ C fl_RX8_13 (Or.inl rfl) g6 dX8_hearStart_39 ?_
  refine x_aload_n C dX8_hearStart_42 rfl (lv_at hl 0 rfl) ?_
  refine x_getP C fl_RX8_25 g6 dX8_hearStart_43 ?_
  refine x_aload_nq C dX8_hearStart_46 rfl (lv_at hl 1 rfl) ?_
  refine x_nn0 g2 ?_
  refine x_getP C fl_RX8_116 g3 dX8_hearStart_47 ?_
  obtain ⟨b7, g8, h⟩ := h
  refine x_nn1 g8 ?_
  obtain ⟨g9, h⟩ := h
  refine x_callV (rm := rm_X2_become) (rest := []) (As := [va_rf (sP σ b1 11)]) C cy_RX8_218 g9 (by decide) (by decide) rfl rfl (Nat.le_of_ble_eq_true rfl) hl.1 dX8_hearStart_50 (c_X2_become l D cy b7 (sP σ b1 11) (stJ σ a0 5 y4) _ h) (ks_v (fun σ10 h => ?_))
  refine x_aload_n C dX8_hearStart_53 rfl (lv_at hl 0 rfl) ?_
  obtain ⟨g11, h⟩ := h
  refine x_callV (rm := rm_X8_becomeNormal) (rest := []) (As := []) C cy_RX8_234 g11 (by decide) (by decide) rfl rfl (Nat.le_of_ble_eq_true rfl) hl.1 dX8_hearStart_54 (c_X8_becomeNormal l D cy a0  σ10 _ h) (ks_v (fun σ12 h => ?_))
  exact x_vret C hr dX8_hearStart_57 ⟨rfl, h⟩
def wp_X8_hearStart (a0 : Nat) (p1 : Option Nat) (σ : Sto) (Q : Sto → Prop) : Prop := (sK σ a0 = 8 ∧ (∀ y2 : Int64, y2 = sJ σ a0 5 → (∃ b4 : Nat, p1 = some b4 ∧ (sK σ b4 = 3 ∧ (∀ y7 : Int64, y7 = sJ σ b4 4 → (wp_X11_isBehind y2 y7 σ (fun (x10 : Int32) (σ9 : Sto) => ((¬ x10 = 0 → b_X8_hearStart_34 a0  Q p1 σ9) ∧ (x10 = 0 → (sK σ9 a0 = 8 ∧ (∀ y13 : Int64, y13 = sJ σ9 a0 5 → (sK σ9 b4 = 3 ∧ (∀ y16 : Int64, y16 = sJ σ9 b4 4 → ((¬ (lg_cmp y13 y16) = 0 → Q σ9) ∧ ((lg_cmp y13 y16) = 0 → (∀ x19 : Int32, x19 = sI σ9 a0 4 → ((¬ x19 = (2 : Int32) → Q σ9) ∧ (x19 = (2 : Int32) → b_X8_hearStart_34 a0  Q p1 σ9))))))))))))))))))
set_option maxHeartbeats 4000000 in
set_option maxRecDepth 100000 in
theorem c_X8_hearStart (l : Launch) (D : va_G) (cy : Nat → ClassId) (a0 : Nat) (p1 : Option Nat) (σ : Sto) (Q : Sto → Prop) (h : wp_X8_hearStart a0 p1 σ Q) : Mt l D cy yX8_hearStart cX8_hearStart 2 none rm_X8_hearStart [.ref a0, va_rf p1] σ (PsV Q) := by
  unfold wp_X8_hearStart at h
  refine mt_of (by decide +kernel) (by simp [lg_sl, vrc, cat_i, cat_r, cat_l]) ?_
  intro p e s m args below meth c A ls C hr hnm hl
  have C : Cx p s m args meth c D cy A cX8_hearStart 2 RX8 := C
  have hl : lv_has ls 2 [(0, .ref a0), (1, va_rf p1)] := by simpa [lv_args, vrc, cat_i, cat_r, cat_l] using hl
  refine x_aload_n C dX8_hearStart_0 rfl (lv_at hl 0 rfl) ?_
  obtain ⟨g1, h⟩ := h
  refine x_getJ C fl_RX8_13 g1 dX8_hearStart_1 ?_
  refine x_topj (fun y2 e3 => ?_)
  have h := h y2 e3
  refine x_aload_nq C dX8_hearStart_4 rfl (lv_at hl 1 rfl) ?_
  obtain ⟨b4, g5, h⟩ := h
  refine x_nn0 g5 ?_
  obtain ⟨g6, h⟩ := h
  refine x_getJ C fl_RX8_83 g6 dX8_hearStart_5 ?_
  refine x_topj (fun y7 e8 => ?_)
  have h := h y7 e8
  refine x_callSN (rm := rm_X11_isBehind) (rest := []) (As := [.long y2, .long y7]) C csn_RX8_230 (by decide) (by decide) rfl rfl (Nat.le_of_ble_eq_true rfl) hl.1 dX8_hearStart_8 (c_X11_isBehind l D cy y2 y7 σ _ h) (ks_i (fun x10 σ9 h => ?_))
  refine x_if_ne (tgt := 34) C dX8_hearStart_11 (by decide) (fun c11 => ?_) (fun c11 => ?_)
  · have h := h.1 c11
    exact t_X8_hearStart_34 C hr hnm  p1 _ h ls (lv_sub hl [0, 1] rfl)
  · have h := h.2 c11
    refine x_aload_n C dX8_hearStart_14 rfl (lv_at hl 0 rfl) ?_
    obtain ⟨g12, h⟩ := h
    refine x_getJ C fl_RX8_13 g12 dX8_hearStart_15 ?_
    refine x_topj (fun y13 e14 => ?_)
    have h := h y13 e14
    refine x_aload_nq C dX8_hearStart_18 rfl (lv_at hl 1 rfl) ?_
    refine x_nn0 g5 ?_
    obtain ⟨g15, h⟩ := h
    refine x_getJ C fl_RX8_83 g15 dX8_hearStart_19 ?_
    refine x_topj (fun y16 e17 => ?_)
    have h := h y16 e17
    refine x_lcmp C dX8_hearStart_22 ?_
    refine x_if_ne (tgt := 57) C dX8_hearStart_23 (by decide) (fun c18 => ?_) (fun c18 => ?_)
    · have h := h.1 c18
      exact x_vret C hr dX8_hearStart_57 ⟨rfl, h⟩
    · have h := h.2 c18
      refine x_aload_n C dX8_hearStart_26 rfl (lv_at hl 0 rfl) ?_
      refine x_getI C fl_RX8_63 g12 dX8_hearStart_27 ?_
      refine x_topi (fun x19 e20 => ?_)
      have h := h x19 e20
      refine x_iconst (v := 2) C dX8_hearStart_30 (by decide) ?_
      refine x_icmp_ne (tgt := 57) C dX8_hearStart_31 (by decide) (fun c21 => ?_) (fun c21 => ?_)
      · have h := h.1 c21
        exact x_vret C hr dX8_hearStart_57 ⟨rfl, h⟩
      · have h := h.2 c21
        exact t_X8_hearStart_34 C hr hnm  p1 _ h ls (lv_sub hl [0, 1] rfl)
theorem dX8_hear_0 : decode cX8_hear 0 = .ok (.aload_n 1, 1) := by decide +kernel
theorem dX8_hear_1 : decode cX8_hear 1 = .ok (.getfield 78, 3) := by decide +kernel
theorem dX8_hear_4 : decode cX8_hear 4 = .ok (.ifCond .eq 19, 3) := by decide +kernel
theorem dX8_hear_7 : decode cX8_hear 7 = .ok (.aload_n 1, 1) := by decide +kernel
theorem dX8_hear_8 : decode cX8_hear 8 = .ok (.getfield 83, 3) := by decide +kernel
theorem dX8_hear_11 : decode cX8_hear 11 = .ok (.aload_n 0, 1) := by decide +kernel
theorem dX8_hear_12 : decode cX8_hear 12 = .ok (.getfield 13, 3) := by decide +kernel
theorem dX8_hear_15 : decode cX8_hear 15 = .ok (.lcmp, 1) := by decide +kernel
theorem dX8_hear_16 : decode cX8_hear 16 = .ok (.ifCond .ne 7, 3) := by decide +kernel
theorem dX8_hear_19 : decode cX8_hear 19 = .ok (.iconst 1, 1) := by decide +kernel
theorem dX8_hear_20 : decode cX8_hear 20 = .ok (.goto 4, 3) := by decide +kernel
theorem dX8_hear_23 : decode cX8_hear 23 = .ok (.iconst 0, 1) := by decide +kernel
theorem dX8_hear_24 : decode cX8_hear 24 = .ok (.istore_n 2, 1) := by decide +kernel
theorem dX8_hear_25 : decode cX8_hear 25 = .ok (.iload_n 2, 1) := by decide +kernel
theorem dX8_hear_26 : decode cX8_hear 26 = .ok (.ifCond .eq 32, 3) := by decide +kernel
theorem dX8_hear_29 : decode cX8_hear 29 = .ok (.aload_n 1, 1) := by decide +kernel
theorem dX8_hear_30 : decode cX8_hear 30 = .ok (.getfield 84, 3) := by decide +kernel
theorem dX8_hear_33 : decode cX8_hear 33 = .ok (.aload_n 0, 1) := by decide +kernel
theorem dX8_hear_34 : decode cX8_hear 34 = .ok (.getfield 33, 3) := by decide +kernel
theorem dX8_hear_37 : decode cX8_hear 37 = .ok (.aload_n 0, 1) := by decide +kernel
theorem dX8_hear_38 : decode cX8_hear 38 = .ok (.getfield 13, 3) := by decide +kernel
theorem dX8_hear_41 : decode cX8_hear 41 = .ok (.invokevirtual 55, 3) := by decide +kernel
theorem dX8_hear_44 : decode cX8_hear 44 = .ok (.if_icmp .ne 14, 3) := by decide +kernel
theorem dX8_hear_47 : decode cX8_hear 47 = .ok (.aload_n 0, 1) := by decide +kernel
theorem dX8_hear_48 : decode cX8_hear 48 = .ok (.aload_n 0, 1) := by decide +kernel
theorem dX8_hear_49 : decode cX8_hear 49 = .ok (.getfield 33, 3) := by decide +kernel
theorem dX8_hear_52 : decode cX8_hear 52 = .ok (.getfield 87, 3) := by decide +kernel
theorem dX8_hear_55 : decode cX8_hear 55 = .ok (.putfield 90, 3) := by decide +kernel
theorem dX8_hear_58 : decode cX8_hear 58 = .ok (.aload_n 1, 1) := by decide +kernel
theorem dX8_hear_59 : decode cX8_hear 59 = .ok (.getfield 78, 3) := by decide +kernel
theorem dX8_hear_62 : decode cX8_hear 62 = .ok (.iconst 1, 1) := by decide +kernel
theorem dX8_hear_63 : decode cX8_hear 63 = .ok (.if_icmp .lt 17, 3) := by decide +kernel
theorem dX8_hear_66 : decode cX8_hear 66 = .ok (.aload_n 1, 1) := by decide +kernel
theorem dX8_hear_67 : decode cX8_hear 67 = .ok (.getfield 78, 3) := by decide +kernel
theorem dX8_hear_70 : decode cX8_hear 70 = .ok (.bipush 7, 2) := by decide +kernel
theorem dX8_hear_72 : decode cX8_hear 72 = .ok (.if_icmp .gt 8, 3) := by decide +kernel
theorem dX8_hear_75 : decode cX8_hear 75 = .ok (.iload_n 2, 1) := by decide +kernel
theorem dX8_hear_76 : decode cX8_hear 76 = .ok (.ifCond .ne 4, 3) := by decide +kernel
theorem dX8_hear_79 : decode cX8_hear 79 = .ok (.return_, 1) := by decide +kernel
theorem dX8_hear_80 : decode cX8_hear 80 = .ok (.aload_n 1, 1) := by decide +kernel
theorem dX8_hear_81 : decode cX8_hear 81 = .ok (.getfield 78, 3) := by decide +kernel
theorem dX8_hear_84 : decode cX8_hear 84 = .ok (.bipush 8, 2) := by decide +kernel
theorem dX8_hear_86 : decode cX8_hear 86 = .ok (.if_icmp .eq 21, 3) := by decide +kernel
theorem dX8_hear_89 : decode cX8_hear 89 = .ok (.aload_n 1, 1) := by decide +kernel
theorem dX8_hear_90 : decode cX8_hear 90 = .ok (.getfield 78, 3) := by decide +kernel
theorem dX8_hear_93 : decode cX8_hear 93 = .ok (.bipush 9, 2) := by decide +kernel
theorem dX8_hear_95 : decode cX8_hear 95 = .ok (.if_icmp .eq 12, 3) := by decide +kernel
theorem dX8_hear_98 : decode cX8_hear 98 = .ok (.aload_n 1, 1) := by decide +kernel
theorem dX8_hear_99 : decode cX8_hear 99 = .ok (.getfield 78, 3) := by decide +kernel
theorem dX8_hear_102 : decode cX8_hear 102 = .ok (.bipush 12, 2) := by decide +kernel
theorem dX8_hear_104 : decode cX8_hear 104 = .ok (.if_icmp .ne 11, 3) := by decide +kernel
theorem dX8_hear_107 : decode cX8_hear 107 = .ok (.aload_n 0, 1) := by decide +kernel
theorem dX8_hear_108 : decode cX8_hear 108 = .ok (.aload_n 1, 1) := by decide +kernel
theorem dX8_hear_109 : decode cX8_hear 109 = .ok (.getfield 83, 3) := by decide +kernel
theorem dX8_hear_112 : decode cX8_hear 112 = .ok (.invokevirtual 93, 3) := by decide +kernel
theorem dX8_hear_115 : decode cX8_hear 115 = .ok (.aload_n 1, 1) := by decide +kernel
theorem dX8_hear_116 : decode cX8_hear 116 = .ok (.getfield 78, 3) := by decide +kernel
theorem dX8_hear_119 : decode cX8_hear 119 = .ok (.tableswitch 146 0 10 #[57, 65, 73, 81, 92, 100, 111, 119, 146, 130, 138], 57) := by decide +kernel
theorem dX8_hear_176 : decode cX8_hear 176 = .ok (.aload_n 0, 1) := by decide +kernel
theorem dX8_hear_177 : decode cX8_hear 177 = .ok (.aload_n 1, 1) := by decide +kernel
theorem dX8_hear_178 : decode cX8_hear 178 = .ok (.invokevirtual 97, 3) := by decide +kernel
theorem dX8_hear_181 : decode cX8_hear 181 = .ok (.goto 84, 3) := by decide +kernel
theorem dX8_hear_184 : decode cX8_hear 184 = .ok (.aload_n 0, 1) := by decide +kernel
theorem dX8_hear_185 : decode cX8_hear 185 = .ok (.aload_n 1, 1) := by decide +kernel
theorem dX8_hear_186 : decode cX8_hear 186 = .ok (.invokevirtual 101, 3) := by decide +kernel
theorem dX8_hear_189 : decode cX8_hear 189 = .ok (.goto 76, 3) := by decide +kernel
theorem dX8_hear_192 : decode cX8_hear 192 = .ok (.aload_n 0, 1) := by decide +kernel
theorem dX8_hear_193 : decode cX8_hear 193 = .ok (.aload_n 1, 1) := by decide +kernel
theorem dX8_hear_194 : decode cX8_hear 194 = .ok (.invokevirtual 104, 3) := by decide +kernel
theorem dX8_hear_197 : decode cX8_hear 197 = .ok (.goto 68, 3) := by decide +kernel
theorem dX8_hear_200 : decode cX8_hear 200 = .ok (.aload_n 0, 1) := by decide +kernel
theorem dX8_hear_201 : decode cX8_hear 201 = .ok (.aload_n 1, 1) := by decide +kernel
theorem dX8_hear_202 : decode cX8_hear 202 = .ok (.getfield 107, 3) := by decide +kernel
theorem dX8_hear_205 : decode cX8_hear 205 = .ok (.invokevirtual 110, 3) := by decide +kernel
theorem dX8_hear_208 : decode cX8_hear 208 = .ok (.goto 57, 3) := by decide +kernel
theorem dX8_hear_211 : decode cX8_hear 211 = .ok (.aload_n 0, 1) := by decide +kernel
theorem dX8_hear_212 : decode cX8_hear 212 = .ok (.aload_n 1, 1) := by decide +kernel
theorem dX8_hear_213 : decode cX8_hear 213 = .ok (.invokevirtual 113, 3) := by decide +kernel
theorem dX8_hear_216 : decode cX8_hear 216 = .ok (.goto 49, 3) := by decide +kernel
theorem dX8_hear_219 : decode cX8_hear 219 = .ok (.aload_n 0, 1) := by decide +kernel
theorem dX8_hear_220 : decode cX8_hear 220 = .ok (.aload_n 1, 1) := by decide +kernel
theorem dX8_hear_221 : decode cX8_hear 221 = .ok (.getfield 116, 3) := by decide +kernel
theorem dX8_hear_224 : decode cX8_hear 224 = .ok (.invokevirtual 117, 3) := by decide +kernel
theorem dX8_hear_227 : decode cX8_hear 227 = .ok (.goto 38, 3) := by decide +kernel
theorem dX8_hear_230 : decode cX8_hear 230 = .ok (.aload_n 0, 1) := by decide +kernel
theorem dX8_hear_231 : decode cX8_hear 231 = .ok (.aload_n 1, 1) := by decide +kernel
theorem dX8_hear_232 : decode cX8_hear 232 = .ok (.invokevirtual 121, 3) := by decide +kernel
theorem dX8_hear_235 : decode cX8_hear 235 = .ok (.goto 30, 3) := by decide +kernel
theorem dX8_hear_238 : decode cX8_hear 238 = .ok (.aload_n 0, 1) := by decide +kernel
theorem dX8_hear_239 : decode cX8_hear 239 = .ok (.aload_n 1, 1) := by decide +kernel
theorem dX8_hear_240 : decode cX8_hear 240 = .ok (.getfield 107, 3) := by decide +kernel
theorem dX8_hear_243 : decode cX8_hear 243 = .ok (.invokevirtual 124, 3) := by decide +kernel
theorem dX8_hear_246 : decode cX8_hear 246 = .ok (.goto 19, 3) := by decide +kernel
theorem dX8_hear_249 : decode cX8_hear 249 = .ok (.aload_n 0, 1) := by decide +kernel
theorem dX8_hear_250 : decode cX8_hear 250 = .ok (.aload_n 1, 1) := by decide +kernel
theorem dX8_hear_251 : decode cX8_hear 251 = .ok (.invokevirtual 127, 3) := by decide +kernel
theorem dX8_hear_254 : decode cX8_hear 254 = .ok (.goto 11, 3) := by decide +kernel
theorem dX8_hear_257 : decode cX8_hear 257 = .ok (.aload_n 0, 1) := by decide +kernel
theorem dX8_hear_258 : decode cX8_hear 258 = .ok (.aload_n 1, 1) := by decide +kernel
theorem dX8_hear_259 : decode cX8_hear 259 = .ok (.invokevirtual 130, 3) := by decide +kernel
theorem dX8_hear_262 : decode cX8_hear 262 = .ok (.goto 3, 3) := by decide +kernel
theorem dX8_hear_265 : decode cX8_hear 265 = .ok (.return_, 1) := by decide +kernel
abbrev rm_X8_hear : Room := { frames := 5, cells := 0, slots := 0, locals := 116 }
def b_X8_hear_115 (a0 : Nat)  (Q : Sto → Prop) (p1 : Option Nat) (σ : Sto) : Prop := (∃ b1 : Nat, p1 = some b1 ∧ (sK σ b1 = 3 ∧ (∀ x4 : Int32, x4 = sI σ b1 1 → ((x4.toInt < 0 ∨ 10 < x4.toInt → Q σ) ∧ (x4 = (0 : Int32) → (sK σ a0 = 8 ∧ (wp_X8_hearStamped a0 p1 σ (fun (σ9 : Sto) => Q σ9)))) ∧ (x4 = (1 : Int32) → (sK σ a0 = 8 ∧ (wp_X8_hearLookup a0 p1 σ (fun (σ11 : Sto) => Q σ11)))) ∧ (x4 = (2 : Int32) → (sK σ a0 = 8 ∧ (wp_X8_hearFound a0 p1 σ (fun (σ13 : Sto) => Q σ13)))) ∧ (x4 = (3 : Int32) → (∀ x14 : Int32, x14 = sI σ b1 6 → (sK σ a0 = 8 ∧ (wp_X8_hearGapCommit a0 x14 σ (fun (σ17 : Sto) => Q σ17))))) ∧ (x4 = (4 : Int32) → (sK σ a0 = 8 ∧ (wp_X8_hearGapReply a0 p1 σ (fun (σ19 : Sto) => Q σ19)))) ∧ (x4 = (5 : Int32) → (sK σ a0 = 8 ∧ (wp_X8_hearSync a0 (sP σ b1 11) σ (fun (σ21 : Sto) => Q σ21)))) ∧ (x4 = (6 : Int32) → (sK σ a0 = 8 ∧ (wp_X8_hearSyncReply a0 p1 σ (fun (σ23 : Sto) => Q σ23)))) ∧ (x4 = (7 : Int32) → (∀ x24 : Int32, x24 = sI σ b1 6 → (sK σ a0 = 8 ∧ (wp_X8_hearPoint a0 x24 σ (fun (σ27 : Sto) => Q σ27))))) ∧ (x4 = (8 : Int32) → Q σ) ∧ (x4 = (9 : Int32) → (sK σ a0 = 8 ∧ (wp_X8_hearTurned a0 p1 σ (fun (σ29 : Sto) => Q σ29)))) ∧ (x4 = (10 : Int32) → (sK σ a0 = 8 ∧ (wp_X8_hearStart a0 p1 σ (fun (σ31 : Sto) => Q σ31))))))))
set_option maxHeartbeats 4000000 in
set_option maxRecDepth 100000 in
theorem t_X8_hear_115 {p : Program} {l : Launch} {e : Env} {s : State} {m : MethodId} {args : Array Value} {below : List Frame} {meth : Method} {c : Code} {D : va_G} {cy : Nat → ClassId} {A : Nat → Prop} {a0 : Nat} {Q : Sto → Prop} (C : Cx p s m args meth c D cy A cX8_hear 3 RX8) (hr : meth.sig.returnType = none) (hnm : meth.name = yX8_hear.name) (p1 : Option Nat) (σ : Sto) (h : b_X8_hear_115 a0  Q p1 σ) (ls : Array Slot) (hl : lv_has ls 3 [(0, .ref a0), (1, va_rf p1)]) : Xw p l e rm_X8_hear s m args below meth c D cy A σ 0 0 (MQ below (Qst D cy A (PsV Q)) args s rm_X8_hear.cells rm_X8_hear.slots A) (F0 m 115 ls []) := by
  unfold b_X8_hear_115 at h
  refine x_aload_nq C dX8_hear_115 rfl (lv_at hl 1 rfl) ?_
  obtain ⟨b1, g2, h⟩ := h
  refine x_nn0 g2 ?_
  obtain ⟨g3, h⟩ := h
  refine x_getI C fl_RX8_78 g3 dX8_hear_116 ?_
  refine x_topi (fun x4 e5 => ?_)
  have h := h x4 e5
  by_cases c6 : x4.toInt < 0 ∨ 10 < x4.toInt
  · have h := h.1 c6
    refine x_tableOut (tgt := 265) C dX8_hear_119 c6 (by decide) ?_
    exact x_vret C hr dX8_hear_265 ⟨rfl, h⟩
  · rcases (show x4.toInt = 0 ∨ x4.toInt = 1 ∨ x4.toInt = 2 ∨ x4.toInt = 3 ∨ x4.toInt = 4 ∨ x4.toInt = 5 ∨ x4.toInt = 6 ∨ x4.toInt = 7 ∨ x4.toInt = 8 ∨ x4.toInt = 9 ∨ x4.toInt = 10 by omega) with c7 | c7 | c7 | c7 | c7 | c7 | c7 | c7 | c7 | c7 | c7
    · have h := h.2.1 (sw_eq (k := 0) (c7.trans (by decide)))
      refine x_tableIn (tgt := 176) (off := 57) C dX8_hear_119 (by omega) (by omega) (by rw [c7]; rfl) (by decide) ?_
      refine x_aload_n C dX8_hear_176 rfl (lv_at hl 0 rfl) ?_
      refine x_aload_nq C dX8_hear_177 rfl (lv_at hl 1 rfl) ?_
      obtain ⟨g8, h⟩ := h
      refine x_callV (rm := rm_X8_hearStamped) (rest := []) (As := [va_rf p1]) C cy_RX8_97 g8 (by decide) (by decide) rfl rfl (Nat.le_of_ble_eq_true rfl) hl.1 dX8_hear_178 (c_X8_hearStamped l D cy a0 p1 σ _ h) (ks_v (fun σ9 h => ?_))
      refine x_goto (tgt := 265) C dX8_hear_181 (by decide) ?_
      exact x_vret C hr dX8_hear_265 ⟨rfl, h⟩
    · have h := h.2.2.1 (sw_eq (k := 1) (c7.trans (by decide)))
      refine x_tableIn (tgt := 184) (off := 65) C dX8_hear_119 (by omega) (by omega) (by rw [c7]; rfl) (by decide) ?_
      refine x_aload_n C dX8_hear_184 rfl (lv_at hl 0 rfl) ?_
      refine x_aload_nq C dX8_hear_185 rfl (lv_at hl 1 rfl) ?_
      obtain ⟨g10, h⟩ := h
      refine x_callV (rm := rm_X8_hearLookup) (rest := []) (As := [va_rf p1]) C cy_RX8_101 g10 (by decide) (by decide) rfl rfl (Nat.le_of_ble_eq_true rfl) hl.1 dX8_hear_186 (c_X8_hearLookup l D cy a0 p1 σ _ h) (ks_v (fun σ11 h => ?_))
      refine x_goto (tgt := 265) C dX8_hear_189 (by decide) ?_
      exact x_vret C hr dX8_hear_265 ⟨rfl, h⟩
    · have h := h.2.2.2.1 (sw_eq (k := 2) (c7.trans (by decide)))
      refine x_tableIn (tgt := 192) (off := 73) C dX8_hear_119 (by omega) (by omega) (by rw [c7]; rfl) (by decide) ?_
      refine x_aload_n C dX8_hear_192 rfl (lv_at hl 0 rfl) ?_
      refine x_aload_nq C dX8_hear_193 rfl (lv_at hl 1 rfl) ?_
      obtain ⟨g12, h⟩ := h
      refine x_callV (rm := rm_X8_hearFound) (rest := []) (As := [va_rf p1]) C cy_RX8_104 g12 (by decide) (by decide) rfl rfl (Nat.le_of_ble_eq_true rfl) hl.1 dX8_hear_194 (c_X8_hearFound l D cy a0 p1 σ _ h) (ks_v (fun σ13 h => ?_))
      refine x_goto (tgt := 265) C dX8_hear_197 (by decide) ?_
      exact x_vret C hr dX8_hear_265 ⟨rfl, h⟩
    · have h := h.2.2.2.2.1 (sw_eq (k := 3) (c7.trans (by decide)))
      refine x_tableIn (tgt := 200) (off := 81) C dX8_hear_119 (by omega) (by omega) (by rw [c7]; rfl) (by decide) ?_
      refine x_aload_n C dX8_hear_200 rfl (lv_at hl 0 rfl) ?_
      refine x_aload_nq C dX8_hear_201 rfl (lv_at hl 1 rfl) ?_
      refine x_nn0 g2 ?_
      refine x_getI C fl_RX8_107 g3 dX8_hear_202 ?_
      refine x_topi (fun x14 e15 => ?_)
      have h := h x14 e15
      obtain ⟨g16, h⟩ := h
      refine x_callV (rm := rm_X8_hearGapCommit) (rest := []) (As := [.int x14]) C cy_RX8_110 g16 (by decide) (by decide) rfl rfl (Nat.le_of_ble_eq_true rfl) hl.1 dX8_hear_205 (c_X8_hearGapCommit l D cy a0 x14 σ _ h) (ks_v (fun σ17 h => ?_))
      refine x_goto (tgt := 265) C dX8_hear_208 (by decide) ?_
      exact x_vret C hr dX8_hear_265 ⟨rfl, h⟩
    · have h := h.2.2.2.2.2.1 (sw_eq (k := 4) (c7.trans (by decide)))
      refine x_tableIn (tgt := 211) (off := 92) C dX8_hear_119 (by omega) (by omega) (by rw [c7]; rfl) (by decide) ?_
      refine x_aload_n C dX8_hear_211 rfl (lv_at hl 0 rfl) ?_
      refine x_aload_nq C dX8_hear_212 rfl (lv_at hl 1 rfl) ?_
      obtain ⟨g18, h⟩ := h
      refine x_callV (rm := rm_X8_hearGapReply) (rest := []) (As := [va_rf p1]) C cy_RX8_113 g18 (by decide) (by decide) rfl rfl (Nat.le_of_ble_eq_true rfl) hl.1 dX8_hear_213 (c_X8_hearGapReply l D cy a0 p1 σ _ h) (ks_v (fun σ19 h => ?_))
      refine x_goto (tgt := 265) C dX8_hear_216 (by decide) ?_
      exact x_vret C hr dX8_hear_265 ⟨rfl, h⟩
    · have h := h.2.2.2.2.2.2.1 (sw_eq (k := 5) (c7.trans (by decide)))
      refine x_tableIn (tgt := 219) (off := 100) C dX8_hear_119 (by omega) (by omega) (by rw [c7]; rfl) (by decide) ?_
      refine x_aload_n C dX8_hear_219 rfl (lv_at hl 0 rfl) ?_
      refine x_aload_nq C dX8_hear_220 rfl (lv_at hl 1 rfl) ?_
      refine x_nn0 g2 ?_
      refine x_getP C fl_RX8_116 g3 dX8_hear_221 ?_
      obtain ⟨g20, h⟩ := h
      refine x_callV (rm := rm_X8_hearSync) (rest := []) (As := [va_rf (sP σ b1 11)]) C cy_RX8_117 g20 (by decide) (by decide) rfl rfl (Nat.le_of_ble_eq_true rfl) hl.1 dX8_hear_224 (c_X8_hearSync l D cy a0 (sP σ b1 11) σ _ h) (ks_v (fun σ21 h => ?_))
      refine x_goto (tgt := 265) C dX8_hear_227 (by decide) ?_
      exact x_vret C hr dX8_hear_265 ⟨rfl, h⟩
    · have h := h.2.2.2.2.2.2.2.1 (sw_eq (k := 6) (c7.trans (by decide)))
      refine x_tableIn (tgt := 230) (off := 111) C dX8_hear_119 (by omega) (by omega) (by rw [c7]; rfl) (by decide) ?_
      refine x_aload_n C dX8_hear_230 rfl (lv_at hl 0 rfl) ?_
      refine x_aload_nq C dX8_hear_231 rfl (lv_at hl 1 rfl) ?_
      obtain ⟨g22, h⟩ := h
      refine x_callV (rm := rm_X8_hearSyncReply) (rest := []) (As := [va_rf p1]) C cy_RX8_121 g22 (by decide) (by decide) rfl rfl (Nat.le_of_ble_eq_true rfl) hl.1 dX8_hear_232 (c_X8_hearSyncReply l D cy a0 p1 σ _ h) (ks_v (fun σ23 h => ?_))
      refine x_goto (tgt := 265) C dX8_hear_235 (by decide) ?_
      exact x_vret C hr dX8_hear_265 ⟨rfl, h⟩
    · have h := h.2.2.2.2.2.2.2.2.1 (sw_eq (k := 7) (c7.trans (by decide)))
      refine x_tableIn (tgt := 238) (off := 119) C dX8_hear_119 (by omega) (by omega) (by rw [c7]; rfl) (by decide) ?_
      refine x_aload_n C dX8_hear_238 rfl (lv_at hl 0 rfl) ?_
      refine x_aload_nq C dX8_hear_239 rfl (lv_at hl 1 rfl) ?_
      refine x_nn0 g2 ?_
      refine x_getI C fl_RX8_107 g3 dX8_hear_240 ?_
      refine x_topi (fun x24 e25 => ?_)
      have h := h x24 e25
      obtain ⟨g26, h⟩ := h
      refine x_callV (rm := rm_X8_hearPoint) (rest := []) (As := [.int x24]) C cy_RX8_124 g26 (by decide) (by decide) rfl rfl (Nat.le_of_ble_eq_true rfl) hl.1 dX8_hear_243 (c_X8_hearPoint l D cy a0 x24 σ _ h) (ks_v (fun σ27 h => ?_))
      refine x_goto (tgt := 265) C dX8_hear_246 (by decide) ?_
      exact x_vret C hr dX8_hear_265 ⟨rfl, h⟩
    · have h := h.2.2.2.2.2.2.2.2.2.1 (sw_eq (k := 8) (c7.trans (by decide)))
      refine x_tableIn (tgt := 265) (off := 146) C dX8_hear_119 (by omega) (by omega) (by rw [c7]; rfl) (by decide) ?_
      exact x_vret C hr dX8_hear_265 ⟨rfl, h⟩
    · have h := h.2.2.2.2.2.2.2.2.2.2.1 (sw_eq (k := 9) (c7.trans (by decide)))
      refine x_tableIn (tgt := 249) (off := 130) C dX8_hear_119 (by omega) (by omega) (by rw [c7]; rfl) (by decide) ?_
      refine x_aload_n C dX8_hear_249 rfl (lv_at hl 0 rfl) ?_
      refine x_aload_nq C dX8_hear_250 rfl (lv_at hl 1 rfl) ?_
      obtain ⟨g28, h⟩ := h
      refine x_callV (rm := rm_X8_hearTurned) (rest := []) (As := [va_rf p1]) C cy_RX8_127 g28 (by decide) (by decide) rfl rfl (Nat.le_of_ble_eq_true rfl) hl.1 dX8_hear_251 (c_X8_hearTurned l D cy a0 p1 σ _ h) (ks_v (fun σ29 h => ?_))
      refine x_goto (tgt := 265) C dX8_hear_254 (by decide) ?_
      exact x_vret C hr dX8_hear_265 ⟨rfl, h⟩
    · have h := h.2.2.2.2.2.2.2.2.2.2.2 (sw_eq (k := 10) (c7.trans (by decide)))
      refine x_tableIn (tgt := 257) (off := 138) C dX8_hear_119 (by omega) (by omega) (by rw [c7]; rfl) (by decide) ?_
      refine x_aload_n C dX8_hear_257 rfl (lv_at hl 0 rfl) ?_
      refine x_aload_nq C dX8_hear_258 rfl (lv_at hl 1 rfl) ?_
      obtain ⟨g30, h⟩ := h
      refine x_callV (rm := rm_X8_hearStart) (rest := []) (As := [va_rf p1]) C cy_RX8_130 g30 (by decide) (by decide) rfl rfl (Nat.le_of_ble_eq_true rfl) hl.1 dX8_hear_259 (c_X8_hearStart l D cy a0 p1 σ _ h) (ks_v (fun σ31 h => ?_))
      refine x_goto (tgt := 265) C dX8_hear_262 (by decide) ?_
      exact x_vret C hr dX8_hear_265 ⟨rfl, h⟩
def b_X8_hear_107 (a0 : Nat)  (Q : Sto → Prop) (p1 : Option Nat) (σ : Sto) : Prop := (∃ b1 : Nat, p1 = some b1 ∧ (sK σ b1 = 3 ∧ (∀ y4 : Int64, y4 = sJ σ b1 4 → (sK σ a0 = 8 ∧ (wp_X8_follow a0 y4 σ (fun (σ7 : Sto) => b_X8_hear_115 a0  Q p1 σ7))))))
set_option maxHeartbeats 4000000 in
set_option maxRecDepth 100000 in
theorem t_X8_hear_107 {p : Program} {l : Launch} {e : Env} {s : State} {m : MethodId} {args : Array Value} {below : List Frame} {meth : Method} {c : Code} {D : va_G} {cy : Nat → ClassId} {A : Nat → Prop} {a0 : Nat} {Q : Sto → Prop} (C : Cx p s m args meth c D cy A cX8_hear 3 RX8) (hr : meth.sig.returnType = none) (hnm : meth.name = yX8_hear.name) (p1 : Option Nat) (σ : Sto) (h : b_X8_hear_107 a0  Q p1 σ) (ls : Array Slot) (hl : lv_has ls 3 [(0, .ref a0), (1, va_rf p1)]) : Xw p l e rm_X8_hear s m args below meth c D cy A σ 0 0 (MQ below (Qst D cy A (PsV Q)) args s rm_X8_hear.cells rm_X8_hear.slots A) (F0 m 107 ls []) := by
  unfold b_X8_hear_107 at h
  refine x_aload_n C dX8_hear_107 rfl (lv_at hl 0 rfl) ?_
  refine x_aload_nq C dX8_hear_108 rfl (lv_at hl 1 rfl) ?_
  obtain ⟨b1, g2, h⟩ := h
  refine x_nn0 g2 ?_
  obtain ⟨g3, h⟩ := h
  refine x_getJ C fl_RX8_83 g3 dX8_hear_109 ?_
  refine x_topj (fun y4 e5 => ?_)
  have h := h y4 e5
  obtain ⟨g6, h⟩ := h
  refine x_callV (rm := rm_X8_follow) (rest := []) (As := [.long y4]) C cy_RX8_93 g6 (by decide) (by decide) rfl rfl (Nat.le_of_ble_eq_true rfl) hl.1 dX8_hear_112 (c_X8_follow l D cy a0 y4 σ _ h) (ks_v (fun σ7 h => ?_))
  exact t_X8_hear_115 C hr hnm  p1 _ h ls (lv_sub hl [0, 1] rfl)
def b_X8_hear_80 (a0 : Nat)  (Q : Sto → Prop) (p1 : Option Nat) (σ : Sto) : Prop := (∃ b1 : Nat, p1 = some b1 ∧ (sK σ b1 = 3 ∧ (∀ x4 : Int32, x4 = sI σ b1 1 → ((x4 = (8 : Int32) → b_X8_hear_107 a0  Q p1 σ) ∧ (¬ x4 = (8 : Int32) → (∀ x7 : Int32, x7 = sI σ b1 1 → ((x7 = (9 : Int32) → b_X8_hear_107 a0  Q p1 σ) ∧ (¬ x7 = (9 : Int32) → (∀ x10 : Int32, x10 = sI σ b1 1 → ((¬ x10 = (12 : Int32) → b_X8_hear_115 a0  Q p1 σ) ∧ (x10 = (12 : Int32) → b_X8_hear_107 a0  Q p1 σ)))))))))))
set_option maxHeartbeats 4000000 in
set_option maxRecDepth 100000 in
theorem t_X8_hear_80 {p : Program} {l : Launch} {e : Env} {s : State} {m : MethodId} {args : Array Value} {below : List Frame} {meth : Method} {c : Code} {D : va_G} {cy : Nat → ClassId} {A : Nat → Prop} {a0 : Nat} {Q : Sto → Prop} (C : Cx p s m args meth c D cy A cX8_hear 3 RX8) (hr : meth.sig.returnType = none) (hnm : meth.name = yX8_hear.name) (p1 : Option Nat) (σ : Sto) (h : b_X8_hear_80 a0  Q p1 σ) (ls : Array Slot) (hl : lv_has ls 3 [(0, .ref a0), (1, va_rf p1)]) : Xw p l e rm_X8_hear s m args below meth c D cy A σ 0 0 (MQ below (Qst D cy A (PsV Q)) args s rm_X8_hear.cells rm_X8_hear.slots A) (F0 m 80 ls []) := by
  unfold b_X8_hear_80 at h
  refine x_aload_nq C dX8_hear_80 rfl (lv_at hl 1 rfl) ?_
  obtain ⟨b1, g2, h⟩ := h
  refine x_nn0 g2 ?_
  obtain ⟨g3, h⟩ := h
  refine x_getI C fl_RX8_78 g3 dX8_hear_81 ?_
  refine x_topi (fun x4 e5 => ?_)
  have h := h x4 e5
  refine x_bipush (v := 8) C dX8_hear_84 (by decide) ?_
  refine x_icmp_eq (tgt := 107) C dX8_hear_86 (by decide) (fun c6 => ?_) (fun c6 => ?_)
  · have h := h.1 c6
    exact t_X8_hear_107 C hr hnm  p1 _ h ls (lv_sub hl [0, 1] rfl)
  · have h := h.2 c6
    refine x_aload_nq C dX8_hear_89 rfl (lv_at hl 1 rfl) ?_
    refine x_nn0 g2 ?_
    refine x_getI C fl_RX8_78 g3 dX8_hear_90 ?_
    refine x_topi (fun x7 e8 => ?_)
    have h := h x7 e8
    refine x_bipush (v := 9) C dX8_hear_93 (by decide) ?_
    refine x_icmp_eq (tgt := 107) C dX8_hear_95 (by decide) (fun c9 => ?_) (fun c9 => ?_)
    · have h := h.1 c9
      exact t_X8_hear_107 C hr hnm  p1 _ h ls (lv_sub hl [0, 1] rfl)
    · have h := h.2 c9
      refine x_aload_nq C dX8_hear_98 rfl (lv_at hl 1 rfl) ?_
      refine x_nn0 g2 ?_
      refine x_getI C fl_RX8_78 g3 dX8_hear_99 ?_
      refine x_topi (fun x10 e11 => ?_)
      have h := h x10 e11
      refine x_bipush (v := 12) C dX8_hear_102 (by decide) ?_
      refine x_icmp_ne (tgt := 115) C dX8_hear_104 (by decide) (fun c12 => ?_) (fun c12 => ?_)
      · have h := h.1 c12
        exact t_X8_hear_115 C hr hnm  p1 _ h ls (lv_sub hl [0, 1] rfl)
      · have h := h.2 c12
        exact t_X8_hear_107 C hr hnm  p1 _ h ls (lv_sub hl [0, 1] rfl)
def b_X8_hear_58 (a0 : Nat)  (Q : Sto → Prop) (p1 : Option Nat) (p2 : Int32) (σ : Sto) : Prop := (∃ b1 : Nat, p1 = some b1 ∧ (sK σ b1 = 3 ∧ (∀ x4 : Int32, x4 = sI σ b1 1 → ((x4 < (1 : Int32) → b_X8_hear_80 a0  Q p1 σ) ∧ (¬ x4 < (1 : Int32) → (∀ x7 : Int32, x7 = sI σ b1 1 → (((7 : Int32) < x7 → b_X8_hear_80 a0  Q p1 σ) ∧ (¬ (7 : Int32) < x7 → ((¬ p2 = 0 → b_X8_hear_80 a0  Q p1 σ) ∧ (p2 = 0 → Q σ))))))))))
set_option maxHeartbeats 4000000 in
set_option maxRecDepth 100000 in
theorem t_X8_hear_58 {p : Program} {l : Launch} {e : Env} {s : State} {m : MethodId} {args : Array Value} {below : List Frame} {meth : Method} {c : Code} {D : va_G} {cy : Nat → ClassId} {A : Nat → Prop} {a0 : Nat} {Q : Sto → Prop} (C : Cx p s m args meth c D cy A cX8_hear 3 RX8) (hr : meth.sig.returnType = none) (hnm : meth.name = yX8_hear.name) (p1 : Option Nat) (p2 : Int32) (σ : Sto) (h : b_X8_hear_58 a0  Q p1 p2 σ) (ls : Array Slot) (hl : lv_has ls 3 [(0, .ref a0), (1, va_rf p1), (2, .int p2)]) : Xw p l e rm_X8_hear s m args below meth c D cy A σ 0 0 (MQ below (Qst D cy A (PsV Q)) args s rm_X8_hear.cells rm_X8_hear.slots A) (F0 m 58 ls []) := by
  unfold b_X8_hear_58 at h
  refine x_aload_nq C dX8_hear_58 rfl (lv_at hl 1 rfl) ?_
  obtain ⟨b1, g2, h⟩ := h
  refine x_nn0 g2 ?_
  obtain ⟨g3, h⟩ := h
  refine x_getI C fl_RX8_78 g3 dX8_hear_59 ?_
  refine x_topi (fun x4 e5 => ?_)
  have h := h x4 e5
  refine x_iconst (v := 1) C dX8_hear_62 (by decide) ?_
  refine x_icmp_lt (tgt := 80) C dX8_hear_63 (by decide) (fun c6 => ?_) (fun c6 => ?_)
  · have h := h.1 c6
    exact t_X8_hear_80 C hr hnm  p1 _ h ls (lv_sub hl [0, 1] rfl)
  · have h := h.2 c6
    refine x_aload_nq C dX8_hear_66 rfl (lv_at hl 1 rfl) ?_
    refine x_nn0 g2 ?_
    refine x_getI C fl_RX8_78 g3 dX8_hear_67 ?_
    refine x_topi (fun x7 e8 => ?_)
    have h := h x7 e8
    refine x_bipush (v := 7) C dX8_hear_70 (by decide) ?_
    refine x_icmp_gt (tgt := 80) C dX8_hear_72 (by decide) (fun c9 => ?_) (fun c9 => ?_)
    · have h := h.1 c9
      exact t_X8_hear_80 C hr hnm  p1 _ h ls (lv_sub hl [0, 1] rfl)
    · have h := h.2 c9
      refine x_iload_n C dX8_hear_75 rfl (lv_at hl 2 rfl) ?_
      refine x_if_ne (tgt := 80) C dX8_hear_76 (by decide) (fun c10 => ?_) (fun c10 => ?_)
      · have h := h.1 c10
        exact t_X8_hear_80 C hr hnm  p1 _ h ls (lv_sub hl [0, 1] rfl)
      · have h := h.2 c10
        exact x_vret C hr dX8_hear_79 ⟨rfl, h⟩
def b_X8_hear_24 (a0 : Nat)  (Q : Sto → Prop) (p1 : Option Nat) (s0 : Int32) (σ : Sto) : Prop := ((s0 = 0 → b_X8_hear_58 a0  Q p1 s0 σ) ∧ (¬ s0 = 0 → (∃ b2 : Nat, p1 = some b2 ∧ (sK σ b2 = 3 ∧ (∀ x5 : Int32, x5 = sI σ b2 2 → (sK σ a0 = 8 ∧ (∀ y8 : Int64, y8 = sJ σ a0 5 → (∃ b10 : Nat, sP σ a0 1 = some b10 ∧ (sK σ b10 = 4 ∧ (wp_X4_leaderOf b10 y8 σ (fun (x14 : Int32) (σ13 : Sto) => ((¬ x5 = x14 → b_X8_hear_58 a0  Q p1 s0 σ13) ∧ (x5 = x14 → (sK σ13 a0 = 8 ∧ (∃ b17 : Nat, sP σ13 a0 1 = some b17 ∧ (sK σ13 b17 = 4 ∧ (∀ x20 : Int32, x20 = sI σ13 b17 8 → b_X8_hear_58 a0  Q p1 s0 (stI σ13 a0 11 x20))))))))))))))))))
set_option maxHeartbeats 4000000 in
set_option maxRecDepth 100000 in
theorem t_X8_hear_24 {p : Program} {l : Launch} {e : Env} {s : State} {m : MethodId} {args : Array Value} {below : List Frame} {meth : Method} {c : Code} {D : va_G} {cy : Nat → ClassId} {A : Nat → Prop} {a0 : Nat} {Q : Sto → Prop} (C : Cx p s m args meth c D cy A cX8_hear 3 RX8) (hr : meth.sig.returnType = none) (hnm : meth.name = yX8_hear.name) (p1 : Option Nat) (s0 : Int32) (σ : Sto) (h : b_X8_hear_24 a0  Q p1 s0 σ) (ls : Array Slot) (hl : lv_has ls 3 [(0, .ref a0), (1, va_rf p1)]) : Xw p l e rm_X8_hear s m args below meth c D cy A σ 0 0 (MQ below (Qst D cy A (PsV Q)) args s rm_X8_hear.cells rm_X8_hear.slots A) (F0 m 24 ls [.int s0]) := by
  unfold b_X8_hear_24 at h
  refine x_istore_n (i := 2) (lv' := [(2, .int s0), (0, .ref a0), (1, va_rf p1)]) C dX8_hear_24 rfl hl (by decide) (by first | rfl | simp [vrc, cat_i, cat_r, cat_l]) (fun ls hl => ?_)
  refine x_iload_n C dX8_hear_25 rfl (lv_at hl 0 rfl) ?_
  refine x_if_eq (tgt := 58) C dX8_hear_26 (by decide) (fun c1 => ?_) (fun c1 => ?_)
  · have h := h.1 c1
    exact t_X8_hear_58 C hr hnm  p1 s0 _ h ls (lv_sub hl [1, 2, 0] rfl)
  · have h := h.2 c1
    refine x_aload_nq C dX8_hear_29 rfl (lv_at hl 2 rfl) ?_
    obtain ⟨b2, g3, h⟩ := h
    refine x_nn0 g3 ?_
    obtain ⟨g4, h⟩ := h
    refine x_getI C fl_RX8_84 g4 dX8_hear_30 ?_
    refine x_topi (fun x5 e6 => ?_)
    have h := h x5 e6
    refine x_aload_n C dX8_hear_33 rfl (lv_at hl 1 rfl) ?_
    obtain ⟨g7, h⟩ := h
    refine x_getP C fl_RX8_33 g7 dX8_hear_34 ?_
    refine x_aload_n C dX8_hear_37 rfl (lv_at hl 1 rfl) ?_
    refine x_getJ C fl_RX8_13 g7 dX8_hear_38 ?_
    refine x_topj (fun y8 e9 => ?_)
    have h := h y8 e9
    obtain ⟨b10, g11, h⟩ := h
    refine x_nn1 g11 ?_
    obtain ⟨g12, h⟩ := h
    refine x_callV (rm := rm_X4_leaderOf) (rest := [.int x5]) (As := [.long y8]) C cy_RX8_55 g12 (by decide) (by decide) rfl rfl (Nat.le_of_ble_eq_true rfl) hl.1 dX8_hear_41 (c_X4_leaderOf l D cy b10 y8 σ _ h) (ks_i (fun x14 σ13 h => ?_))
    refine x_icmp_ne (tgt := 58) C dX8_hear_44 (by decide) (fun c15 => ?_) (fun c15 => ?_)
    · have h := h.1 c15
      exact t_X8_hear_58 C hr hnm  p1 s0 _ h ls (lv_sub hl [1, 2, 0] rfl)
    · have h := h.2 c15
      refine x_aload_n C dX8_hear_47 rfl (lv_at hl 1 rfl) ?_
      refine x_aload_n C dX8_hear_48 rfl (lv_at hl 1 rfl) ?_
      obtain ⟨g16, h⟩ := h
      refine x_getP C fl_RX8_33 g16 dX8_hear_49 ?_
      obtain ⟨b17, g18, h⟩ := h
      refine x_nn0 g18 ?_
      obtain ⟨g19, h⟩ := h
      refine x_getI C fl_RX8_87 g19 dX8_hear_52 ?_
      refine x_topi (fun x20 e21 => ?_)
      have h := h x20 e21
      refine x_putI C fl_RX8_90 (Or.inl rfl) g16 dX8_hear_55 ?_
      exact t_X8_hear_58 C hr hnm  p1 s0 _ h ls (lv_sub hl [1, 2, 0] rfl)
def b_X8_hear_23 (a0 : Nat)  (Q : Sto → Prop) (p1 : Option Nat) (σ : Sto) : Prop := b_X8_hear_24 a0  Q p1 (0 : Int32) σ
set_option maxHeartbeats 4000000 in
set_option maxRecDepth 100000 in
theorem t_X8_hear_23 {p : Program} {l : Launch} {e : Env} {s : State} {m : MethodId} {args : Array Value} {below : List Frame} {meth : Method} {c : Code} {D : va_G} {cy : Nat → ClassId} {A : Nat → Prop} {a0 : Nat} {Q : Sto → Prop} (C : Cx p s m args meth c D cy A cX8_hear 3 RX8) (hr : meth.sig.returnType = none) (hnm : meth.name = yX8_hear.name) (p1 : Option Nat) (σ : Sto) (h : b_X8_hear_23 a0  Q p1 σ) (ls : Array Slot) (hl : lv_has ls 3 [(0, .ref a0), (1, va_rf p1)]) : Xw p l e rm_X8_hear s m args below meth c D cy A σ 0 0 (MQ below (Qst D cy A (PsV Q)) args s rm_X8_hear.cells rm_X8_hear.slots A) (F0 m 23 ls []) := by
  unfold b_X8_hear_23 at h
  refine x_iconst (v := 0) C dX8_hear_23 (by decide) ?_
  exact t_X8_hear_24 C hr hnm  p1 (0 : Int32) _ h ls (lv_sub hl [0, 1] rfl)
def wp_X8_hear (a0 : Nat) (p1 : Option Nat) (σ : Sto) (Q : Sto → Prop) : Prop := (∃ b1 : Nat, p1 = some b1 ∧ (sK σ b1 = 3 ∧ (∀ x4 : Int32, x4 = sI σ b1 1 → ((x4 = 0 → b_X8_hear_23 a0  Q p1 σ) ∧ (¬ x4 = 0 → (∀ y7 : Int64, y7 = sJ σ b1 4 → (sK σ a0 = 8 ∧ (∀ y10 : Int64, y10 = sJ σ a0 5 → ((¬ (lg_cmp y7 y10) = 0 → b_X8_hear_23 a0  Q p1 σ) ∧ ((lg_cmp y7 y10) = 0 → b_X8_hear_24 a0  Q p1 (1 : Int32) σ))))))))))
set_option maxHeartbeats 4000000 in
set_option maxRecDepth 100000 in
theorem c_X8_hear (l : Launch) (D : va_G) (cy : Nat → ClassId) (a0 : Nat) (p1 : Option Nat) (σ : Sto) (Q : Sto → Prop) (h : wp_X8_hear a0 p1 σ Q) : Mt l D cy yX8_hear cX8_hear 3 none rm_X8_hear [.ref a0, va_rf p1] σ (PsV Q) := by
  unfold wp_X8_hear at h
  refine mt_of (by decide +kernel) (by simp [lg_sl, vrc, cat_i, cat_r, cat_l]) ?_
  intro p e s m args below meth c A ls C hr hnm hl
  have C : Cx p s m args meth c D cy A cX8_hear 3 RX8 := C
  have hl : lv_has ls 3 [(0, .ref a0), (1, va_rf p1)] := by simpa [lv_args, vrc, cat_i, cat_r, cat_l] using hl
  refine x_aload_nq C dX8_hear_0 rfl (lv_at hl 1 rfl) ?_
  obtain ⟨b1, g2, h⟩ := h
  refine x_nn0 g2 ?_
  obtain ⟨g3, h⟩ := h
  refine x_getI C fl_RX8_78 g3 dX8_hear_1 ?_
  refine x_topi (fun x4 e5 => ?_)
  have h := h x4 e5
  refine x_if_eq (tgt := 23) C dX8_hear_4 (by decide) (fun c6 => ?_) (fun c6 => ?_)
  · have h := h.1 c6
    exact t_X8_hear_23 C hr hnm  p1 _ h ls (lv_sub hl [0, 1] rfl)
  · have h := h.2 c6
    refine x_aload_nq C dX8_hear_7 rfl (lv_at hl 1 rfl) ?_
    refine x_nn0 g2 ?_
    refine x_getJ C fl_RX8_83 g3 dX8_hear_8 ?_
    refine x_topj (fun y7 e8 => ?_)
    have h := h y7 e8
    refine x_aload_n C dX8_hear_11 rfl (lv_at hl 0 rfl) ?_
    obtain ⟨g9, h⟩ := h
    refine x_getJ C fl_RX8_13 g9 dX8_hear_12 ?_
    refine x_topj (fun y10 e11 => ?_)
    have h := h y10 e11
    refine x_lcmp C dX8_hear_15 ?_
    refine x_if_ne (tgt := 23) C dX8_hear_16 (by decide) (fun c12 => ?_) (fun c12 => ?_)
    · have h := h.1 c12
      exact t_X8_hear_23 C hr hnm  p1 _ h ls (lv_sub hl [0, 1] rfl)
    · have h := h.2 c12
      refine x_iconst (v := 1) C dX8_hear_19 (by decide) ?_
      refine x_goto (tgt := 24) C dX8_hear_20 (by decide) ?_
      exact t_X8_hear_24 C hr hnm  p1 (1 : Int32) _ h ls (lv_sub hl [0, 1] rfl)
theorem dX8_turnToNextLead_0 : decode cX8_turnToNextLead 0 = .ok (.aload_n 0, 1) := by decide +kernel
theorem dX8_turnToNextLead_1 : decode cX8_turnToNextLead 1 = .ok (.aload_n 0, 1) := by decide +kernel
theorem dX8_turnToNextLead_2 : decode cX8_turnToNextLead 2 = .ok (.getfield 13, 3) := by decide +kernel
theorem dX8_turnToNextLead_5 : decode cX8_turnToNextLead 5 = .ok (.invokestatic 136, 3) := by decide +kernel
theorem dX8_turnToNextLead_8 : decode cX8_turnToNextLead 8 = .ok (.iconst 1, 1) := by decide +kernel
theorem dX8_turnToNextLead_9 : decode cX8_turnToNextLead 9 = .ok (.iadd, 1) := by decide +kernel
theorem dX8_turnToNextLead_10 : decode cX8_turnToNextLead 10 = .ok (.aload_n 0, 1) := by decide +kernel
theorem dX8_turnToNextLead_11 : decode cX8_turnToNextLead 11 = .ok (.getfield 13, 3) := by decide +kernel
theorem dX8_turnToNextLead_14 : decode cX8_turnToNextLead 14 = .ok (.invokestatic 133, 3) := by decide +kernel
theorem dX8_turnToNextLead_17 : decode cX8_turnToNextLead 17 = .ok (.invokestatic 9, 3) := by decide +kernel
theorem dX8_turnToNextLead_20 : decode cX8_turnToNextLead 20 = .ok (.invokevirtual 139, 3) := by decide +kernel
theorem dX8_turnToNextLead_23 : decode cX8_turnToNextLead 23 = .ok (.return_, 1) := by decide +kernel
abbrev rm_X8_turnToNextLead : Room := { frames := 4, cells := 0, slots := 0, locals := 88 }
def wp_X8_turnToNextLead (a0 : Nat)  (σ : Sto) (Q : Sto → Prop) : Prop := (sK σ a0 = 8 ∧ (∀ y2 : Int64, y2 = sJ σ a0 5 → (wp_X11_leadOf y2 σ (fun (x5 : Int32) (σ4 : Sto) => (sK σ4 a0 = 8 ∧ (∀ y7 : Int64, y7 = sJ σ4 a0 5 → (wp_X11_sessionOf y7 σ4 (fun (x10 : Int32) (σ9 : Sto) => (wp_X11_viewOf (x5 + (1 : Int32)) x10 σ9 (fun (y12 : Int64) (σ11 : Sto) => (sK σ11 a0 = 8 ∧ (wp_X8_turn a0 y12 σ11 (fun (σ14 : Sto) => Q σ14)))))))))))))
set_option maxHeartbeats 4000000 in
set_option maxRecDepth 100000 in
theorem c_X8_turnToNextLead (l : Launch) (D : va_G) (cy : Nat → ClassId) (a0 : Nat)  (σ : Sto) (Q : Sto → Prop) (h : wp_X8_turnToNextLead a0  σ Q) : Mt l D cy yX8_turnToNextLead cX8_turnToNextLead 1 none rm_X8_turnToNextLead [.ref a0] σ (PsV Q) := by
  unfold wp_X8_turnToNextLead at h
  refine mt_of (by decide +kernel) (Nat.le_of_ble_eq_true rfl) ?_
  intro p e s m args below meth c A ls C hr hnm hl
  have C : Cx p s m args meth c D cy A cX8_turnToNextLead 1 RX8 := C
  have hl : lv_has ls 1 [(0, .ref a0)] := hl
  refine x_aload_n C dX8_turnToNextLead_0 rfl (lv_at hl 0 rfl) ?_
  refine x_aload_n C dX8_turnToNextLead_1 rfl (lv_at hl 0 rfl) ?_
  obtain ⟨g1, h⟩ := h
  refine x_getJ C fl_RX8_13 g1 dX8_turnToNextLead_2 ?_
  refine x_topj (fun y2 e3 => ?_)
  have h := h y2 e3
  refine x_callSN (rm := rm_X11_leadOf) (rest := [.ref a0]) (As := [.long y2]) C csn_RX8_136 (by decide) (by decide) rfl rfl (Nat.le_of_ble_eq_true rfl) hl.1 dX8_turnToNextLead_5 (c_X11_leadOf l D cy y2 σ _ h) (ks_i (fun x5 σ4 h => ?_))
  refine x_iconst (v := 1) C dX8_turnToNextLead_8 (by decide) ?_
  refine x_iadd C dX8_turnToNextLead_9 ?_
  refine x_aload_n C dX8_turnToNextLead_10 rfl (lv_at hl 0 rfl) ?_
  obtain ⟨g6, h⟩ := h
  refine x_getJ C fl_RX8_13 g6 dX8_turnToNextLead_11 ?_
  refine x_topj (fun y7 e8 => ?_)
  have h := h y7 e8
  refine x_callSN (rm := rm_X11_sessionOf) (rest := [.int (x5 + (1 : Int32)), .ref a0]) (As := [.long y7]) C csn_RX8_133 (by decide) (by decide) rfl rfl (Nat.le_of_ble_eq_true rfl) hl.1 dX8_turnToNextLead_14 (c_X11_sessionOf l D cy y7 σ4 _ h) (ks_i (fun x10 σ9 h => ?_))
  refine x_callSN (rm := rm_X11_viewOf) (rest := [.ref a0]) (As := [.int (x5 + (1 : Int32)), .int x10]) C csn_RX8_9 (by decide) (by decide) rfl rfl (Nat.le_of_ble_eq_true rfl) hl.1 dX8_turnToNextLead_17 (c_X11_viewOf l D cy (x5 + (1 : Int32)) x10 σ9 _ h) (ks_j (fun y12 σ11 h => ?_))
  obtain ⟨g13, h⟩ := h
  refine x_callV (rm := rm_X8_turn) (rest := []) (As := [.long y12]) C cy_RX8_139 g13 (by decide) (by decide) rfl rfl (Nat.le_of_ble_eq_true rfl) hl.1 dX8_turnToNextLead_20 (c_X8_turn l D cy a0 y12 σ11 _ h) (ks_v (fun σ14 h => ?_))
  exact x_vret C hr dX8_turnToNextLead_23 ⟨rfl, h⟩
theorem dX8_sendSync_0 : decode cX8_sendSync 0 = .ok (.aload_n 0, 1) := by decide +kernel
theorem dX8_sendSync_1 : decode cX8_sendSync 1 = .ok (.aload_n 0, 1) := by decide +kernel
theorem dX8_sendSync_2 : decode cX8_sendSync 2 = .ok (.getfield 33, 3) := by decide +kernel
theorem dX8_sendSync_5 : decode cX8_sendSync 5 = .ok (.getfield 87, 3) := by decide +kernel
theorem dX8_sendSync_8 : decode cX8_sendSync 8 = .ok (.putfield 309, 3) := by decide +kernel
theorem dX8_sendSync_11 : decode cX8_sendSync 11 = .ok (.aload_n 0, 1) := by decide +kernel
theorem dX8_sendSync_12 : decode cX8_sendSync 12 = .ok (.iconst 5, 1) := by decide +kernel
theorem dX8_sendSync_13 : decode cX8_sendSync 13 = .ok (.invokevirtual 306, 3) := by decide +kernel
theorem dX8_sendSync_16 : decode cX8_sendSync 16 = .ok (.return_, 1) := by decide +kernel
abbrev rm_X8_sendSync : Room := { frames := 3, cells := 0, slots := 0, locals := 65 }
def wp_X8_sendSync (a0 : Nat)  (σ : Sto) (Q : Sto → Prop) : Prop := (sK σ a0 = 8 ∧ (∃ b2 : Nat, sP σ a0 1 = some b2 ∧ (sK σ b2 = 4 ∧ (∀ x5 : Int32, x5 = sI σ b2 8 → (wp_X8_sendLogToOthers a0 (5 : Int32) (stI σ a0 15 x5) (fun (σ7 : Sto) => Q σ7))))))
set_option maxHeartbeats 4000000 in
set_option maxRecDepth 100000 in
theorem c_X8_sendSync (l : Launch) (D : va_G) (cy : Nat → ClassId) (a0 : Nat)  (σ : Sto) (Q : Sto → Prop) (h : wp_X8_sendSync a0  σ Q) : Mt l D cy yX8_sendSync cX8_sendSync 1 none rm_X8_sendSync [.ref a0] σ (PsV Q) := by
  unfold wp_X8_sendSync at h
  refine mt_of (by decide +kernel) (Nat.le_of_ble_eq_true rfl) ?_
  intro p e s m args below meth c A ls C hr hnm hl
  have C : Cx p s m args meth c D cy A cX8_sendSync 1 RX8 := C
  have hl : lv_has ls 1 [(0, .ref a0)] := hl
  refine x_aload_n C dX8_sendSync_0 rfl (lv_at hl 0 rfl) ?_
  refine x_aload_n C dX8_sendSync_1 rfl (lv_at hl 0 rfl) ?_
  obtain ⟨g1, h⟩ := h
  refine x_getP C fl_RX8_33 g1 dX8_sendSync_2 ?_
  obtain ⟨b2, g3, h⟩ := h
  refine x_nn0 g3 ?_
  obtain ⟨g4, h⟩ := h
  refine x_getI C fl_RX8_87 g4 dX8_sendSync_5 ?_
  refine x_topi (fun x5 e6 => ?_)
  have h := h x5 e6
  refine x_putI C fl_RX8_309 (Or.inl rfl) g1 dX8_sendSync_8 ?_
  refine x_aload_n C dX8_sendSync_11 rfl (lv_at hl 0 rfl) ?_
  refine x_iconst (v := 5) C dX8_sendSync_12 (by decide) ?_
  refine x_callV (rm := rm_X8_sendLogToOthers) (rest := []) (As := [.int (5 : Int32)]) C cy_RX8_306 g1 (by decide) (by decide) rfl rfl (Nat.le_of_ble_eq_true rfl) hl.1 dX8_sendSync_13 (c_X8_sendLogToOthers l D cy a0 (5 : Int32) (stI σ a0 15 x5) _ h) (ks_v (fun σ7 h => ?_))
  exact x_vret C hr dX8_sendSync_16 ⟨rfl, h⟩
theorem dX8_askAgain_0 : decode cX8_askAgain 0 = .ok (.aload_n 0, 1) := by decide +kernel
theorem dX8_askAgain_1 : decode cX8_askAgain 1 = .ok (.getfield 63, 3) := by decide +kernel
theorem dX8_askAgain_4 : decode cX8_askAgain 4 = .ok (.iconst 2, 1) := by decide +kernel
theorem dX8_askAgain_5 : decode cX8_askAgain 5 = .ok (.if_icmp .ne 10, 3) := by decide +kernel
theorem dX8_askAgain_8 : decode cX8_askAgain 8 = .ok (.aload_n 0, 1) := by decide +kernel
theorem dX8_askAgain_9 : decode cX8_askAgain 9 = .ok (.invokevirtual 279, 3) := by decide +kernel
theorem dX8_askAgain_12 : decode cX8_askAgain 12 = .ok (.goto 102, 3) := by decide +kernel
theorem dX8_askAgain_15 : decode cX8_askAgain 15 = .ok (.aload_n 0, 1) := by decide +kernel
theorem dX8_askAgain_16 : decode cX8_askAgain 16 = .ok (.getfield 63, 3) := by decide +kernel
theorem dX8_askAgain_19 : decode cX8_askAgain 19 = .ok (.iconst 1, 1) := by decide +kernel
theorem dX8_askAgain_20 : decode cX8_askAgain 20 = .ok (.if_icmp .ne 29, 3) := by decide +kernel
theorem dX8_askAgain_23 : decode cX8_askAgain 23 = .ok (.aload_n 0, 1) := by decide +kernel
theorem dX8_askAgain_24 : decode cX8_askAgain 24 = .ok (.aload_n 0, 1) := by decide +kernel
theorem dX8_askAgain_25 : decode cX8_askAgain 25 = .ok (.getfield 33, 3) := by decide +kernel
theorem dX8_askAgain_28 : decode cX8_askAgain 28 = .ok (.getfield 87, 3) := by decide +kernel
theorem dX8_askAgain_31 : decode cX8_askAgain 31 = .ok (.putfield 241, 3) := by decide +kernel
theorem dX8_askAgain_34 : decode cX8_askAgain 34 = .ok (.aload_n 0, 1) := by decide +kernel
theorem dX8_askAgain_35 : decode cX8_askAgain 35 = .ok (.iconst 3, 1) := by decide +kernel
theorem dX8_askAgain_36 : decode cX8_askAgain 36 = .ok (.aload_n 0, 1) := by decide +kernel
theorem dX8_askAgain_37 : decode cX8_askAgain 37 = .ok (.getfield 25, 3) := by decide +kernel
theorem dX8_askAgain_40 : decode cX8_askAgain 40 = .ok (.getfield 66, 3) := by decide +kernel
theorem dX8_askAgain_43 : decode cX8_askAgain 43 = .ok (.invokevirtual 214, 3) := by decide +kernel
theorem dX8_askAgain_46 : decode cX8_askAgain 46 = .ok (.goto 68, 3) := by decide +kernel
theorem dX8_askAgain_49 : decode cX8_askAgain 49 = .ok (.aload_n 0, 1) := by decide +kernel
theorem dX8_askAgain_50 : decode cX8_askAgain 50 = .ok (.invokevirtual 59, 3) := by decide +kernel
theorem dX8_askAgain_53 : decode cX8_askAgain 53 = .ok (.ifCond .ne 61, 3) := by decide +kernel
theorem dX8_askAgain_56 : decode cX8_askAgain 56 = .ok (.aload_n 0, 1) := by decide +kernel
theorem dX8_askAgain_57 : decode cX8_askAgain 57 = .ok (.getfield 51, 3) := by decide +kernel
theorem dX8_askAgain_60 : decode cX8_askAgain 60 = .ok (.getfield 145, 3) := by decide +kernel
theorem dX8_askAgain_63 : decode cX8_askAgain 63 = .ok (.ifCond .le 51, 3) := by decide +kernel
theorem dX8_askAgain_66 : decode cX8_askAgain 66 = .ok (.aload_n 0, 1) := by decide +kernel
theorem dX8_askAgain_67 : decode cX8_askAgain 67 = .ok (.aload_n 0, 1) := by decide +kernel
theorem dX8_askAgain_68 : decode cX8_askAgain 68 = .ok (.getfield 33, 3) := by decide +kernel
theorem dX8_askAgain_71 : decode cX8_askAgain 71 = .ok (.getfield 87, 3) := by decide +kernel
theorem dX8_askAgain_74 : decode cX8_askAgain 74 = .ok (.putfield 241, 3) := by decide +kernel
theorem dX8_askAgain_77 : decode cX8_askAgain 77 = .ok (.aload_n 0, 1) := by decide +kernel
theorem dX8_askAgain_78 : decode cX8_askAgain 78 = .ok (.getfield 33, 3) := by decide +kernel
theorem dX8_askAgain_81 : decode cX8_askAgain 81 = .ok (.iconst 1, 1) := by decide +kernel
theorem dX8_askAgain_82 : decode cX8_askAgain 82 = .ok (.aload_n 0, 1) := by decide +kernel
theorem dX8_askAgain_83 : decode cX8_askAgain 83 = .ok (.getfield 29, 3) := by decide +kernel
theorem dX8_askAgain_86 : decode cX8_askAgain 86 = .ok (.aload_n 0, 1) := by decide +kernel
theorem dX8_askAgain_87 : decode cX8_askAgain 87 = .ok (.getfield 33, 3) := by decide +kernel
theorem dX8_askAgain_90 : decode cX8_askAgain 90 = .ok (.aload_n 0, 1) := by decide +kernel
theorem dX8_askAgain_91 : decode cX8_askAgain 91 = .ok (.getfield 13, 3) := by decide +kernel
theorem dX8_askAgain_94 : decode cX8_askAgain 94 = .ok (.invokevirtual 55, 3) := by decide +kernel
theorem dX8_askAgain_97 : decode cX8_askAgain 97 = .ok (.aload_n 0, 1) := by decide +kernel
theorem dX8_askAgain_98 : decode cX8_askAgain 98 = .ok (.getfield 13, 3) := by decide +kernel
theorem dX8_askAgain_101 : decode cX8_askAgain 101 = .ok (.aload_n 0, 1) := by decide +kernel
theorem dX8_askAgain_102 : decode cX8_askAgain 102 = .ok (.getfield 25, 3) := by decide +kernel
theorem dX8_askAgain_105 : decode cX8_askAgain 105 = .ok (.getfield 66, 3) := by decide +kernel
theorem dX8_askAgain_108 : decode cX8_askAgain 108 = .ok (.iconst 1, 1) := by decide +kernel
theorem dX8_askAgain_109 : decode cX8_askAgain 109 = .ok (.iadd, 1) := by decide +kernel
theorem dX8_askAgain_110 : decode cX8_askAgain 110 = .ok (.invokevirtual 171, 3) := by decide +kernel
theorem dX8_askAgain_113 : decode cX8_askAgain 113 = .ok (.pop, 1) := by decide +kernel
theorem dX8_askAgain_114 : decode cX8_askAgain 114 = .ok (.return_, 1) := by decide +kernel
abbrev rm_X8_askAgain : Room := { frames := 3, cells := 0, slots := 0, locals := 66 }
def wp_X8_askAgain (a0 : Nat)  (σ : Sto) (Q : Sto → Prop) : Prop := (sK σ a0 = 8 ∧ (∀ x2 : Int32, x2 = sI σ a0 4 → ((¬ x2 = (2 : Int32) → (∀ x5 : Int32, x5 = sI σ a0 4 → ((¬ x5 = (1 : Int32) → (wp_X8_leads a0  σ (fun (x9 : Int32) (σ8 : Sto) => ((¬ x9 = 0 → Q σ8) ∧ (x9 = 0 → (sK σ8 a0 = 8 ∧ (∃ b12 : Nat, sP σ8 a0 10 = some b12 ∧ (sK σ8 b12 = 5 ∧ (∀ x15 : Int32, x15 = sI σ8 b12 2 → ((x15 ≤ 0 → Q σ8) ∧ (¬ x15 ≤ 0 → (∃ b18 : Nat, sP σ8 a0 1 = some b18 ∧ (sK σ8 b18 = 4 ∧ (∀ x21 : Int32, x21 = sI σ8 b18 8 → (∀ x23 : Int32, x23 = sI (stI σ8 a0 12 x21) a0 0 → (∀ y25 : Int64, y25 = sJ σ8 a0 5 → (wp_X4_leaderOf b18 y25 (stI σ8 a0 12 x21) (fun (x28 : Int32) (σ27 : Sto) => (sK σ27 a0 = 8 ∧ (∀ y30 : Int64, y30 = sJ σ27 a0 5 → (∃ b32 : Nat, sP σ27 a0 7 = some b32 ∧ (sK σ27 b32 = 2 ∧ (∀ x35 : Int32, x35 = sI σ27 b32 1 → (sK σ27 b18 = 4 ∧ (wp_X4_send b18 (1 : Int32) x23 x28 y30 (x35 + (1 : Int32)) σ27 (fun (r39 : Option Nat) (σ38 : Sto) => Q σ38)))))))))))))))))))))))))) ∧ (x5 = (1 : Int32) → (∃ b40 : Nat, sP σ a0 1 = some b40 ∧ (sK σ b40 = 4 ∧ (∀ x43 : Int32, x43 = sI σ b40 8 → (∃ b45 : Nat, sP σ a0 7 = some b45 ∧ (sK σ b45 = 2 ∧ (∀ x48 : Int32, x48 = sI (stI σ a0 12 x43) b45 1 → (wp_X8_sendOthers a0 (3 : Int32) x48 (stI σ a0 12 x43) (fun (σ50 : Sto) => Q σ50)))))))))))) ∧ (x2 = (2 : Int32) → (wp_X8_tellTurn a0  σ (fun (σ51 : Sto) => Q σ51))))))
set_option maxHeartbeats 4000000 in
set_option maxRecDepth 100000 in
theorem c_X8_askAgain (l : Launch) (D : va_G) (cy : Nat → ClassId) (a0 : Nat)  (σ : Sto) (Q : Sto → Prop) (h : wp_X8_askAgain a0  σ Q) : Mt l D cy yX8_askAgain cX8_askAgain 1 none rm_X8_askAgain [.ref a0] σ (PsV Q) := by
  unfold wp_X8_askAgain at h
  refine mt_of (by decide +kernel) (Nat.le_of_ble_eq_true rfl) ?_
  intro p e s m args below meth c A ls C hr hnm hl
  have C : Cx p s m args meth c D cy A cX8_askAgain 1 RX8 := C
  have hl : lv_has ls 1 [(0, .ref a0)] := hl
  refine x_aload_n C dX8_askAgain_0 rfl (lv_at hl 0 rfl) ?_
  obtain ⟨g1, h⟩ := h
  refine x_getI C fl_RX8_63 g1 dX8_askAgain_1 ?_
  refine x_topi (fun x2 e3 => ?_)
  have h := h x2 e3
  refine x_iconst (v := 2) C dX8_askAgain_4 (by decide) ?_
  refine x_icmp_ne (tgt := 15) C dX8_askAgain_5 (by decide) (fun c4 => ?_) (fun c4 => ?_)
  · have h := h.1 c4
    refine x_aload_n C dX8_askAgain_15 rfl (lv_at hl 0 rfl) ?_
    refine x_getI C fl_RX8_63 g1 dX8_askAgain_16 ?_
    refine x_topi (fun x5 e6 => ?_)
    have h := h x5 e6
    refine x_iconst (v := 1) C dX8_askAgain_19 (by decide) ?_
    refine x_icmp_ne (tgt := 49) C dX8_askAgain_20 (by decide) (fun c7 => ?_) (fun c7 => ?_)
    · have h := h.1 c7
      refine x_aload_n C dX8_askAgain_49 rfl (lv_at hl 0 rfl) ?_
      refine x_callV (rm := rm_X8_leads) (rest := []) (As := []) C cy_RX8_59 g1 (by decide) (by decide) rfl rfl (Nat.le_of_ble_eq_true rfl) hl.1 dX8_askAgain_50 (c_X8_leads l D cy a0  σ _ h) (ks_i (fun x9 σ8 h => ?_))
      refine x_if_ne (tgt := 114) C dX8_askAgain_53 (by decide) (fun c10 => ?_) (fun c10 => ?_)
      · have h := h.1 c10
        exact x_vret C hr dX8_askAgain_114 ⟨rfl, h⟩
      · have h := h.2 c10
        refine x_aload_n C dX8_askAgain_56 rfl (lv_at hl 0 rfl) ?_
        obtain ⟨g11, h⟩ := h
        refine x_getP C fl_RX8_51 g11 dX8_askAgain_57 ?_
        obtain ⟨b12, g13, h⟩ := h
        refine x_nn0 g13 ?_
        obtain ⟨g14, h⟩ := h
        refine x_getI C fl_RX8_145 g14 dX8_askAgain_60 ?_
        refine x_topi (fun x15 e16 => ?_)
        have h := h x15 e16
        refine x_if_le (tgt := 114) C dX8_askAgain_63 (by decide) (fun c17 => ?_) (fun c17 => ?_)
        · have h := h.1 c17
          exact x_vret C hr dX8_askAgain_114 ⟨rfl, h⟩
        · have h := h.2 c17
          refine x_aload_n C dX8_askAgain_66 rfl (lv_at hl 0 rfl) ?_
          refine x_aload_n C dX8_askAgain_67 rfl (lv_at hl 0 rfl) ?_
          refine x_getP C fl_RX8_33 g11 dX8_askAgain_68 ?_
          obtain ⟨b18, g19, h⟩ := h
          refine x_nn0 g19 ?_
          obtain ⟨g20, h⟩ := h
          refine x_getI C fl_RX8_87 g20 dX8_askAgain_71 ?_
          refine x_topi (fun x21 e22 => ?_)
          have h := h x21 e22
          refine x_putI C fl_RX8_241 (Or.inl rfl) g11 dX8_askAgain_74 ?_
          refine x_aload_n C dX8_askAgain_77 rfl (lv_at hl 0 rfl) ?_
          refine x_getP C fl_RX8_33 g11 dX8_askAgain_78 ?_
          refine x_iconst (v := 1) C dX8_askAgain_81 (by decide) ?_
          refine x_aload_n C dX8_askAgain_82 rfl (lv_at hl 0 rfl) ?_
          refine x_getI C fl_RX8_29 g11 dX8_askAgain_83 ?_
          refine x_topi (fun x23 e24 => ?_)
          have h := h x23 e24
          refine x_aload_n C dX8_askAgain_86 rfl (lv_at hl 0 rfl) ?_
          refine x_getP C fl_RX8_33 g11 dX8_askAgain_87 ?_
          refine x_aload_n C dX8_askAgain_90 rfl (lv_at hl 0 rfl) ?_
          refine x_getJ C fl_RX8_13 g11 dX8_askAgain_91 ?_
          refine x_topj (fun y25 e26 => ?_)
          have h := h y25 e26
          refine x_nn1 g19 ?_
          refine x_callV (rm := rm_X4_leaderOf) (rest := [.int x23, .int (1 : Int32), va_rf (sP σ8 a0 1)]) (As := [.long y25]) C cy_RX8_55 g20 (by decide) (by decide) rfl rfl (by simp [vrc, cat_i, cat_r, cat_l]) hl.1 dX8_askAgain_94 (c_X4_leaderOf l D cy b18 y25 (stI σ8 a0 12 x21) _ h) (ks_i (fun x28 σ27 h => ?_))
          refine x_aload_n C dX8_askAgain_97 rfl (lv_at hl 0 rfl) ?_
          obtain ⟨g29, h⟩ := h
          refine x_getJ C fl_RX8_13 g29 dX8_askAgain_98 ?_
          refine x_topj (fun y30 e31 => ?_)
          have h := h y30 e31
          refine x_aload_n C dX8_askAgain_101 rfl (lv_at hl 0 rfl) ?_
          refine x_getP C fl_RX8_25 g29 dX8_askAgain_102 ?_
          obtain ⟨b32, g33, h⟩ := h
          refine x_nn0 g33 ?_
          obtain ⟨g34, h⟩ := h
          refine x_getI C fl_RX8_66 g34 dX8_askAgain_105 ?_
          refine x_topi (fun x35 e36 => ?_)
          have h := h x35 e36
          refine x_iconst (v := 1) C dX8_askAgain_108 (by decide) ?_
          refine x_iadd C dX8_askAgain_109 ?_
          refine x_nn5 g19 ?_
          obtain ⟨g37, h⟩ := h
          refine x_callV (rm := rm_X4_send) (rest := []) (As := [.int (1 : Int32), .int x23, .int x28, .long y30, .int (x35 + (1 : Int32))]) C cy_RX8_171 g37 (by decide) (by decide) rfl rfl (Nat.le_of_ble_eq_true rfl) hl.1 dX8_askAgain_110 (c_X4_send l D cy b18 (1 : Int32) x23 x28 y30 (x35 + (1 : Int32)) σ27 _ h) (ks_p (fun r39 σ38 h => ?_))
          refine x_pop C dX8_askAgain_113 (vrc _) ?_
          exact x_vret C hr dX8_askAgain_114 ⟨rfl, h⟩
    · have h := h.2 c7
      refine x_aload_n C dX8_askAgain_23 rfl (lv_at hl 0 rfl) ?_
      refine x_aload_n C dX8_askAgain_24 rfl (lv_at hl 0 rfl) ?_
      refine x_getP C fl_RX8_33 g1 dX8_askAgain_25 ?_
      obtain ⟨b40, g41, h⟩ := h
      refine x_nn0 g41 ?_
      obtain ⟨g42, h⟩ := h
      refine x_getI C fl_RX8_87 g42 dX8_askAgain_28 ?_
      refine x_topi (fun x43 e44 => ?_)
      have h := h x43 e44
      refine x_putI C fl_RX8_241 (Or.inl rfl) g1 dX8_askAgain_31 ?_
      refine x_aload_n C dX8_askAgain_34 rfl (lv_at hl 0 rfl) ?_
      refine x_iconst (v := 3) C dX8_askAgain_35 (by decide) ?_
      refine x_aload_n C dX8_askAgain_36 rfl (lv_at hl 0 rfl) ?_
      refine x_getP C fl_RX8_25 g1 dX8_askAgain_37 ?_
      obtain ⟨b45, g46, h⟩ := h
      refine x_nn0 g46 ?_
      obtain ⟨g47, h⟩ := h
      refine x_getI C fl_RX8_66 g47 dX8_askAgain_40 ?_
      refine x_topi (fun x48 e49 => ?_)
      have h := h x48 e49
      refine x_callV (rm := rm_X8_sendOthers) (rest := []) (As := [.int (3 : Int32), .int x48]) C cy_RX8_214 g1 (by decide) (by decide) rfl rfl (Nat.le_of_ble_eq_true rfl) hl.1 dX8_askAgain_43 (c_X8_sendOthers l D cy a0 (3 : Int32) x48 (stI σ a0 12 x43) _ h) (ks_v (fun σ50 h => ?_))
      refine x_goto (tgt := 114) C dX8_askAgain_46 (by decide) ?_
      exact x_vret C hr dX8_askAgain_114 ⟨rfl, h⟩
  · have h := h.2 c4
    refine x_aload_n C dX8_askAgain_8 rfl (lv_at hl 0 rfl) ?_
    refine x_callV (rm := rm_X8_tellTurn) (rest := []) (As := []) C cy_RX8_279 g1 (by decide) (by decide) rfl rfl (Nat.le_of_ble_eq_true rfl) hl.1 dX8_askAgain_9 (c_X8_tellTurn l D cy a0  σ _ h) (ks_v (fun σ51 h => ?_))
    refine x_goto (tgt := 114) C dX8_askAgain_12 (by decide) ?_
    exact x_vret C hr dX8_askAgain_114 ⟨rfl, h⟩
