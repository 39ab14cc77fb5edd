theorem dX4_init_0 : decode cX4_init 0 = .ok (.aload_n 0, 1) := by decide +kernel
theorem dX4_init_1 : decode cX4_init 1 = .ok (.invokespecial 3, 3) := by decide +kernel
theorem dX4_init_4 : decode cX4_init 4 = .ok (.aload_n 0, 1) := by decide +kernel
theorem dX4_init_5 : decode cX4_init 5 = .ok (.sipush 256, 3) := by decide +kernel
theorem dX4_init_8 : decode cX4_init 8 = .ok (.anewarray 9, 3) := by decide +kernel
theorem dX4_init_11 : decode cX4_init 11 = .ok (.putfield 11, 3) := by decide +kernel
theorem dX4_init_14 : decode cX4_init 14 = .ok (.aload_n 0, 1) := by decide +kernel
theorem dX4_init_15 : decode cX4_init 15 = .ok (.new 9, 3) := by decide +kernel
theorem dX4_init_18 : decode cX4_init 18 = .ok (.dup, 1) := by decide +kernel
theorem dX4_init_19 : decode cX4_init 19 = .ok (.invokespecial 17, 3) := by decide +kernel
theorem dX4_init_22 : decode cX4_init 22 = .ok (.putfield 18, 3) := by decide +kernel
theorem dX4_init_25 : decode cX4_init 25 = .ok (.aload_n 0, 1) := by decide +kernel
theorem dX4_init_26 : decode cX4_init 26 = .ok (.iload_n 1, 1) := by decide +kernel
theorem dX4_init_27 : decode cX4_init 27 = .ok (.putfield 22, 3) := by decide +kernel
theorem dX4_init_30 : decode cX4_init 30 = .ok (.aload_n 0, 1) := by decide +kernel
theorem dX4_init_31 : decode cX4_init 31 = .ok (.iload_n 1, 1) := by decide +kernel
theorem dX4_init_32 : decode cX4_init 32 = .ok (.iconst 2, 1) := by decide +kernel
theorem dX4_init_33 : decode cX4_init 33 = .ok (.idiv, 1) := by decide +kernel
theorem dX4_init_34 : decode cX4_init 34 = .ok (.putfield 26, 3) := by decide +kernel
theorem dX4_init_37 : decode cX4_init 37 = .ok (.iconst 0, 1) := by decide +kernel
theorem dX4_init_38 : decode cX4_init 38 = .ok (.istore_n 2, 1) := by decide +kernel
theorem dX4_init_39 : decode cX4_init 39 = .ok (.iload_n 2, 1) := by decide +kernel
theorem dX4_init_40 : decode cX4_init 40 = .ok (.aload_n 0, 1) := by decide +kernel
theorem dX4_init_41 : decode cX4_init 41 = .ok (.getfield 11, 3) := by decide +kernel
theorem dX4_init_44 : decode cX4_init 44 = .ok (.arraylength, 1) := by decide +kernel
theorem dX4_init_45 : decode cX4_init 45 = .ok (.if_icmp .ge 22, 3) := by decide +kernel
theorem dX4_init_48 : decode cX4_init 48 = .ok (.aload_n 0, 1) := by decide +kernel
theorem dX4_init_49 : decode cX4_init 49 = .ok (.getfield 11, 3) := by decide +kernel
theorem dX4_init_52 : decode cX4_init 52 = .ok (.iload_n 2, 1) := by decide +kernel
theorem dX4_init_53 : decode cX4_init 53 = .ok (.new 9, 3) := by decide +kernel
theorem dX4_init_56 : decode cX4_init 56 = .ok (.dup, 1) := by decide +kernel
theorem dX4_init_57 : decode cX4_init 57 = .ok (.invokespecial 17, 3) := by decide +kernel
theorem dX4_init_60 : decode cX4_init 60 = .ok (.aastore, 1) := by decide +kernel
theorem dX4_init_61 : decode cX4_init 61 = .ok (.iinc 2 1, 3) := by decide +kernel
theorem dX4_init_64 : decode cX4_init 64 = .ok (.goto (-25), 3) := by decide +kernel
theorem dX4_init_67 : decode cX4_init 67 = .ok (.return_, 1) := by decide +kernel
abbrev rm_X4_init : Room := { frames := 3, cells := 772, slots := 29811, locals := 60 }
def f_X4_init_39 (a0 : Nat)  (Q : Sto → Prop) (L39 : Int32 × Nat × Nat → Sto → Prop) (t : Int32 × Nat × Nat) (σ : Sto) : Prop := (sK σ a0 = 4 ∧ (∃ b2 : Nat, sP σ a0 2 = some b2 ∧ (sK σ b2 = 19 ∧ (((nI (sN σ b2)) ≤ t.1 → ((t.2.1 ≤ 772 ∧ t.2.2 ≤ 29811) ∧ Q σ)) ∧ (¬ (nI (sN σ b2)) ≤ t.1 → (t.2.1 + 1 ≤ 772 ∧ t.2.2 + 12 ≤ 29811 ∧ (∀ q8 : Nat, ¬ sK σ q8 < 23 → ∀ σ10 : Sto, σ10 = stN σ q8 3 0 → (((t.2.1 + 1) + 2 ≤ 772 ∧ (t.2.2 + 12) + 103 ≤ 29811) ∧ (wp_X3_init q8  σ10 (fun (σ13 : Sto) => (sK σ13 b2 = 19 ∧ (vp_in t.1 (sN σ13 b2) ∧ (sK σ13 q8 = 3 ∧ (∀ x17 : Int32, x17 = t.1 + (1 : Int32) → L39 (x17, ((t.2.1 + 1) + 2), ((t.2.2 + 12) + 103)) (stP σ13 b2 t.1.toNatClampNeg (some q8))))))))))))))))
set_option maxHeartbeats 4000000 in
set_option maxRecDepth 100000 in
theorem t_X4_init_39 {p : Program} {l : Launch} {e : Env} {s : State} {m : MethodId} {args : Array Value} {below : List Frame} {meth : Method} {c : Code} {D : va_G} {cy : Nat → ClassId} {A : Nat → Prop} {a0 : Nat} {Q : Sto → Prop} {L39 : Int32 × Nat × Nat → Sto → Prop} (C : Cx p s m args meth c D cy A cX4_init 3 RX4) (hr : meth.sig.returnType = none) (hnm : meth.name = yX4_init.name) (hL39 : ∀ (t : Int32 × Nat × Nat) (σ : Sto), L39 t σ → ∀ ls : Array Slot, lv_has ls 3 [(0, .ref a0), (2, .int t.1)] → Xw p l e rm_X4_init s m args below meth c D cy A σ t.2.1 t.2.2 (MQ below (Qst D cy A (PsV Q)) args s rm_X4_init.cells rm_X4_init.slots A) (F0 m 39 ls [])) : ∀ (t : Int32 × Nat × Nat) (σ : Sto), f_X4_init_39 a0  Q L39 t σ → ∀ ls : Array Slot, lv_has ls 3 [(0, .ref a0), (2, .int t.1)] → Xw p l e rm_X4_init s m args below meth c D cy A σ t.2.1 t.2.2 (MQ below (Qst D cy A (PsV Q)) args s rm_X4_init.cells rm_X4_init.slots A) (F0 m 39 ls []) := by
  intro t σ h ls hl
  unfold f_X4_init_39 at h
  refine x_iload_n C dX4_init_39 rfl (lv_at hl 1 rfl) ?_
  refine x_aload_n C dX4_init_40 rfl (lv_at hl 0 rfl) ?_
  obtain ⟨g1, h⟩ := h
  refine x_getP C fl_RX4_11 g1 dX4_init_41 ?_
  obtain ⟨b2, g3, h⟩ := h
  refine x_nn0 g3 ?_
  obtain ⟨g4, h⟩ := h
  refine x_alen C g4 (by decide) (by decide) dX4_init_44 ?_
  refine x_icmp_ge (tgt := 67) C dX4_init_45 (by decide) (fun c5 => ?_) (fun c5 => ?_)
  · have h := h.1 c5
    refine x_widen h.1.1 h.1.2 ?_
    exact x_vret C hr dX4_init_67 ⟨rfl, h.2⟩
  · have h := h.2 c5
    refine x_aload_n C dX4_init_48 rfl (lv_at hl 0 rfl) ?_
    refine x_getP C fl_RX4_11 g1 dX4_init_49 ?_
    refine x_iload_n C dX4_init_52 rfl (lv_at hl 1 rfl) ?_
    obtain ⟨g6, g7, h⟩ := h
    refine x_new C cls_3 cl_RX4_9 ins_3 ini_3 g6 g7 dX4_init_53 (fun q8 g9 => ?_)
    refine x_nameS (fun σ10 e11 => ?_)
    have h := h q8 g9 σ10 e11
    refine x_dup C dX4_init_56 (rfl) ?_
    obtain ⟨g12, h⟩ := h
    refine x_callIN (rm := rm_X3_init) (rest := [.ref q8, .int t.1, va_rf (sP σ a0 2)]) (As := []) C cn_RX4_17 (by decide) g12 rfl rfl (by simp [vrc, cat_i, cat_r, cat_l]) hl.1 dX4_init_57 (c_X3_init l D cy q8  σ10 _ h) (ks_v (fun σ13 h => ?_))
    refine x_nn2 g3 ?_
    obtain ⟨g14, h⟩ := h
    obtain ⟨g15, h⟩ := h
    obtain ⟨g16, h⟩ := h
    refine x_aastR C rak_19 g14 g16 g15 dX4_init_60 ?_
    obtain ⟨x17, e18⟩ : ∃ z : Int32, z = t.1 + (1 : Int32) := ⟨_, rfl⟩
    have h := h x17 e18
    refine x_iinc (v := x17) (lv' := [(2, .int x17), (0, .ref a0)]) C dX4_init_61 hl (q0 := 1) rfl (by rw [e18]; rfl) (by decide) (by first | rfl | simp [vrc, cat_i, cat_r, cat_l]) (fun ls hl => ?_)
    refine x_goto (tgt := 39) C dX4_init_64 (by decide) ?_
    exact hL39 (x17, ((t.2.1 + 1) + 2), ((t.2.2 + 12) + 103)) _ h ls (lv_sub hl [1, 0] rfl)
def wp_X4_init (a0 : Nat) (p1 : Int32) (σ : Sto) (Q : Sto → Prop) : Prop := (0 + 1 ≤ 772 ∧ 0 + 256 ≤ 29811 ∧ (∀ q3 : Nat, ¬ sK σ q3 < 23 → ∀ σ5 : Sto, σ5 = stN σ q3 19 256 → (sK σ5 a0 = 4 ∧ ((0 + 1) + 1 ≤ 772 ∧ (0 + 256) + 12 ≤ 29811 ∧ (∀ q10 : Nat, ¬ sK σ5 q10 < 23 → ∀ σ12 : Sto, σ12 = stN (stP σ5 a0 2 (some q3)) q10 3 0 → ((((0 + 1) + 1) + 2 ≤ 772 ∧ ((0 + 256) + 12) + 103 ≤ 29811) ∧ (wp_X3_init q10  σ12 (fun (σ15 : Sto) => (sK σ15 a0 = 4 ∧ (∀ x18 : Int32, x18 = p1 / (2 : Int32) → LF (f_X4_init_39 a0  Q) ((0 : Int32), (((0 + 1) + 1) + 2), (((0 + 256) + 12) + 103)) (stI (stI (stP σ15 a0 3 (some q10)) a0 0 p1) a0 1 x18)))))))))))
set_option maxHeartbeats 4000000 in
set_option maxRecDepth 100000 in
theorem c_X4_init (l : Launch) (D : va_G) (cy : Nat → ClassId) (a0 : Nat) (p1 : Int32) (σ : Sto) (Q : Sto → Prop) (h : wp_X4_init a0 p1 σ Q) : Mt l D cy yX4_init cX4_init 3 none rm_X4_init [.ref a0, .int p1] σ (PsV Q) := by
  unfold wp_X4_init at h
  refine mt_of (by decide +kernel) (Nat.le_of_ble_eq_true rfl) ?_
  intro p e s m args below meth c A ls C hr hnm hl
  have C : Cx p s m args meth c D cy A cX4_init 3 RX4 := C
  have hl : lv_has ls 3 [(0, .ref a0), (1, .int p1)] := hl
  refine x_aload_n C dX4_init_0 rfl (lv_at hl 0 rfl) ?_
  refine x_objInit C oi_RX4_3 oi_w2 oi_w3 hl.1 (by decide) (Nat.le_of_ble_eq_true rfl) dX4_init_1 ?_
  refine x_aload_n C dX4_init_4 rfl (lv_at hl 0 rfl) ?_
  refine x_sipush (v := 256) C dX4_init_5 (by decide) ?_
  obtain ⟨g1, g2, h⟩ := h
  refine x_newq C rak_19 (fun _ => rfl) (by decide) cl_RX4_9 (by decide) (by decide) (by decide) g1 g2 dX4_init_8 (fun q3 g4 => ?_)
  refine x_nameS (fun σ5 e6 => ?_)
  have h := h q3 g4 σ5 e6
  obtain ⟨g7, h⟩ := h
  refine x_putR C fl_RX4_11 (rty_a _) (Or.inr ⟨hnm, _, _, _, rfl, rfl⟩) g7 dX4_init_11 ?_
  refine x_aload_n C dX4_init_14 rfl (lv_at hl 0 rfl) ?_
  obtain ⟨g8, g9, h⟩ := h
  refine x_new C cls_3 cl_RX4_9 ins_3 ini_3 g8 g9 dX4_init_15 (fun q10 g11 => ?_)
  refine x_nameS (fun σ12 e13 => ?_)
  have h := h q10 g11 σ12 e13
  refine x_dup C dX4_init_18 (rfl) ?_
  obtain ⟨g14, h⟩ := h
  refine x_callIN (rm := rm_X3_init) (rest := [.ref q10, .ref a0]) (As := []) C cn_RX4_17 (by decide) g14 rfl rfl (Nat.le_of_ble_eq_true rfl) hl.1 dX4_init_19 (c_X3_init l D cy q10  σ12 _ h) (ks_v (fun σ15 h => ?_))
  obtain ⟨g16, h⟩ := h
  refine x_putR C fl_RX4_18 (rty_o _) (Or.inr ⟨hnm, _, _, _, rfl, rfl⟩) g16 dX4_init_22 ?_
  refine x_aload_n C dX4_init_25 rfl (lv_at hl 0 rfl) ?_
  refine x_iload_n C dX4_init_26 rfl (lv_at hl 1 rfl) ?_
  refine x_putI C fl_RX4_22 (Or.inr ⟨hnm, _, _, _, rfl, rfl⟩) g16 dX4_init_27 ?_
  refine x_aload_n C dX4_init_30 rfl (lv_at hl 0 rfl) ?_
  refine x_iload_n C dX4_init_31 rfl (lv_at hl 1 rfl) ?_
  refine x_iconst (v := 2) C dX4_init_32 (by decide) ?_
  refine x_idiv C dX4_init_33 (by decide) ?_
  refine x_topi (fun x18 e19 => ?_)
  have h := h x18 e19
  refine x_putI C fl_RX4_26 (Or.inr ⟨hnm, _, _, _, rfl, rfl⟩) g16 dX4_init_34 ?_
  refine x_iconst (v := 0) C dX4_init_37 (by decide) ?_
  refine x_istore_n (i := 2) (lv' := [(2, .int (0 : Int32)), (0, .ref a0), (1, .int p1)]) C dX4_init_38 rfl hl (by decide) (by first | rfl | simp [vrc, cat_i, cat_r, cat_l]) (fun ls hl => ?_)
  exact h (fun t σ => ∀ ls : Array Slot, lv_has ls 3 [(0, .ref a0), (2, .int t.1)] → Xw p l e rm_X4_init s m args below meth c D cy A σ t.2.1 t.2.2 (MQ below (Qst D cy A (PsV Q)) args s rm_X4_init.cells rm_X4_init.slots A) (F0 m 39 ls [])) (t_X4_init_39 C hr hnm  (fun t σ h => h)) ls (lv_sub hl [1, 0] rfl)
theorem dX4_at_0 : decode cX4_at 0 = .ok (.aload_n 0, 1) := by decide +kernel
theorem dX4_at_1 : decode cX4_at 1 = .ok (.getfield 11, 3) := by decide +kernel
theorem dX4_at_4 : decode cX4_at 4 = .ok (.aload_n 0, 1) := by decide +kernel
theorem dX4_at_5 : decode cX4_at 5 = .ok (.getfield 29, 3) := by decide +kernel
theorem dX4_at_8 : decode cX4_at 8 = .ok (.iload_n 1, 1) := by decide +kernel
theorem dX4_at_9 : decode cX4_at 9 = .ok (.iadd, 1) := by decide +kernel
theorem dX4_at_10 : decode cX4_at 10 = .ok (.sipush 255, 3) := by decide +kernel
theorem dX4_at_13 : decode cX4_at 13 = .ok (.iand, 1) := by decide +kernel
theorem dX4_at_14 : decode cX4_at 14 = .ok (.aaload, 1) := by decide +kernel
theorem dX4_at_15 : decode cX4_at 15 = .ok (.areturn, 1) := by decide +kernel
abbrev rm_X4_at : Room := { frames := 0, cells := 0, slots := 0, locals := 0 }
def wp_X4_at (a0 : Nat) (p1 : Int32) (σ : Sto) (Q : Option Nat → Sto → Prop) : Prop := (sK σ a0 = 4 ∧ (∀ x2 : Int32, x2 = sI σ a0 4 → (∀ x4 : Int32, x4 = (x2 + p1) &&& (255 : Int32) → (∃ b6 : Nat, sP σ a0 2 = some b6 ∧ (sK σ b6 = 19 ∧ (vp_in x4 (sN σ b6) ∧ (∀ r10 : Option Nat, r10 = sP σ b6 x4.toNatClampNeg → Q r10 σ)))))))
set_option maxHeartbeats 4000000 in
set_option maxRecDepth 100000 in
theorem c_X4_at (l : Launch) (D : va_G) (cy : Nat → ClassId) (a0 : Nat) (p1 : Int32) (σ : Sto) (Q : Option Nat → Sto → Prop) (h : wp_X4_at a0 p1 σ Q) : Mt l D cy yX4_at cX4_at 2 (some (.object "OrderedWorks$Message")) rm_X4_at [.ref a0, .int p1] σ (PsP Q) := by
  unfold wp_X4_at at h
  refine mt_of (by decide +kernel) (Nat.le_of_ble_eq_true rfl) ?_
  intro p e s m args below meth c A ls C hr hnm hl
  have C : Cx p s m args meth c D cy A cX4_at 2 RX4 := C
  have hl : lv_has ls 2 [(0, .ref a0), (1, .int p1)] := hl
  refine x_aload_n C dX4_at_0 rfl (lv_at hl 0 rfl) ?_
  obtain ⟨g1, h⟩ := h
  refine x_getP C fl_RX4_11 g1 dX4_at_1 ?_
  refine x_aload_n C dX4_at_4 rfl (lv_at hl 0 rfl) ?_
  refine x_getI C fl_RX4_29 g1 dX4_at_5 ?_
  refine x_topi (fun x2 e3 => ?_)
  have h := h x2 e3
  refine x_iload_n C dX4_at_8 rfl (lv_at hl 1 rfl) ?_
  refine x_iadd C dX4_at_9 ?_
  refine x_sipush (v := 255) C dX4_at_10 (by decide) ?_
  refine x_iand C dX4_at_13 ?_
  refine x_topi (fun x4 e5 => ?_)
  have h := h x4 e5
  obtain ⟨b6, g7, h⟩ := h
  refine x_nn1 g7 ?_
  obtain ⟨g8, h⟩ := h
  obtain ⟨g9, h⟩ := h
  refine x_aald C rak_19 g8 g9 dX4_at_14 ?_
  refine x_topq (fun r10 e11 => ?_)
  have h := h r10 e11
  exact x_aret (v := r10) C hr dX4_at_15 ⟨_, rfl, h⟩
theorem dJ9_floorMod_7cf53_0 : decode cJ9_floorMod_7cf53 0 = .ok (.iload_n 0, 1) := by decide +kernel
theorem dJ9_floorMod_7cf53_1 : decode cJ9_floorMod_7cf53 1 = .ok (.iload_n 1, 1) := by decide +kernel
theorem dJ9_floorMod_7cf53_2 : decode cJ9_floorMod_7cf53 2 = .ok (.irem, 1) := by decide +kernel
theorem dJ9_floorMod_7cf53_3 : decode cJ9_floorMod_7cf53 3 = .ok (.istore_n 2, 1) := by decide +kernel
theorem dJ9_floorMod_7cf53_4 : decode cJ9_floorMod_7cf53 4 = .ok (.iload_n 0, 1) := by decide +kernel
theorem dJ9_floorMod_7cf53_5 : decode cJ9_floorMod_7cf53 5 = .ok (.iload_n 1, 1) := by decide +kernel
theorem dJ9_floorMod_7cf53_6 : decode cJ9_floorMod_7cf53 6 = .ok (.ixor, 1) := by decide +kernel
theorem dJ9_floorMod_7cf53_7 : decode cJ9_floorMod_7cf53 7 = .ok (.ifCond .ge 11, 3) := by decide +kernel
theorem dJ9_floorMod_7cf53_10 : decode cJ9_floorMod_7cf53 10 = .ok (.iload_n 2, 1) := by decide +kernel
theorem dJ9_floorMod_7cf53_11 : decode cJ9_floorMod_7cf53 11 = .ok (.ifCond .eq 7, 3) := by decide +kernel
theorem dJ9_floorMod_7cf53_14 : decode cJ9_floorMod_7cf53 14 = .ok (.iload_n 2, 1) := by decide +kernel
theorem dJ9_floorMod_7cf53_15 : decode cJ9_floorMod_7cf53 15 = .ok (.iload_n 1, 1) := by decide +kernel
theorem dJ9_floorMod_7cf53_16 : decode cJ9_floorMod_7cf53 16 = .ok (.iadd, 1) := by decide +kernel
theorem dJ9_floorMod_7cf53_17 : decode cJ9_floorMod_7cf53 17 = .ok (.ireturn, 1) := by decide +kernel
theorem dJ9_floorMod_7cf53_18 : decode cJ9_floorMod_7cf53 18 = .ok (.iload_n 2, 1) := by decide +kernel
theorem dJ9_floorMod_7cf53_19 : decode cJ9_floorMod_7cf53 19 = .ok (.ireturn, 1) := by decide +kernel
abbrev rm_J9_floorMod_7cf53 : Room := { frames := 0, cells := 0, slots := 0, locals := 0 }
def wp_J9_floorMod_7cf53 (p0 : Int32) (p1 : Int32) (σ : Sto) (Q : Int32 → Sto → Prop) : Prop := (¬ p1 = 0 ∧ (∀ x2 : Int32, x2 = p0 - p0 / p1 * p1 → ((0 ≤ (p0 ^^^ p1) → Q x2 σ) ∧ (¬ 0 ≤ (p0 ^^^ p1) → ((x2 = 0 → Q x2 σ) ∧ (¬ x2 = 0 → Q (x2 + p1) σ))))))
set_option maxHeartbeats 4000000 in
set_option maxRecDepth 100000 in
theorem c_J9_floorMod_7cf53 (l : Launch) (D : va_G) (cy : Nat → ClassId) (p0 : Int32) (p1 : Int32) (σ : Sto) (Q : Int32 → Sto → Prop) (h : wp_J9_floorMod_7cf53 p0 p1 σ Q) : Mt l D cy yJ9_floorMod_7cf53 cJ9_floorMod_7cf53 3 (some .int) rm_J9_floorMod_7cf53 [.int p0, .int p1] σ (PsI Q) := by
  unfold wp_J9_floorMod_7cf53 at h
  refine mt_ofF (by decide +kernel) (Nat.le_of_ble_eq_true rfl) ?_
  intro p e s m args below meth c A ls C hr hnm hl
  have C : Cx p s m args meth c D cy A cJ9_floorMod_7cf53 3 RJ9 := C
  have hl : lv_has ls 3 [(0, .int p0), (1, .int p1)] := hl
  refine x_iload_n C dJ9_floorMod_7cf53_0 rfl (lv_at hl 0 rfl) ?_
  refine x_iload_n C dJ9_floorMod_7cf53_1 rfl (lv_at hl 1 rfl) ?_
  obtain ⟨g1, h⟩ := h
  refine x_irem C dJ9_floorMod_7cf53_2 g1 ?_
  refine x_topi (fun x2 e3 => ?_)
  have h := h x2 e3
  refine x_istore_n (i := 2) (lv' := [(2, .int x2), (0, .int p0), (1, .int p1)]) C dJ9_floorMod_7cf53_3 rfl hl (by decide) (by first | rfl | simp [vrc, cat_i, cat_r, cat_l]) (fun ls hl => ?_)
  refine x_iload_n C dJ9_floorMod_7cf53_4 rfl (lv_at hl 1 rfl) ?_
  refine x_iload_n C dJ9_floorMod_7cf53_5 rfl (lv_at hl 2 rfl) ?_
  refine x_ixor C dJ9_floorMod_7cf53_6 ?_
  refine x_if_ge (tgt := 18) C dJ9_floorMod_7cf53_7 (by decide) (fun c4 => ?_) (fun c4 => ?_)
  · have h := h.1 c4
    refine x_iload_n C dJ9_floorMod_7cf53_18 rfl (lv_at hl 0 rfl) ?_
    exact x_iret C hr dJ9_floorMod_7cf53_19 ⟨_, rfl, h⟩
  · have h := h.2 c4
    refine x_iload_n C dJ9_floorMod_7cf53_10 rfl (lv_at hl 0 rfl) ?_
    refine x_if_eq (tgt := 18) C dJ9_floorMod_7cf53_11 (by decide) (fun c5 => ?_) (fun c5 => ?_)
    · have h := h.1 c5
      refine x_iload_n C dJ9_floorMod_7cf53_18 rfl (lv_at hl 0 rfl) ?_
      exact x_iret C hr dJ9_floorMod_7cf53_19 ⟨_, rfl, h⟩
    · have h := h.2 c5
      refine x_iload_n C dJ9_floorMod_7cf53_14 rfl (lv_at hl 0 rfl) ?_
      refine x_iload_n C dJ9_floorMod_7cf53_15 rfl (lv_at hl 2 rfl) ?_
      refine x_iadd C dJ9_floorMod_7cf53_16 ?_
      exact x_iret C hr dJ9_floorMod_7cf53_17 ⟨_, rfl, h⟩
theorem dX4_leaderOf_0 : decode cX4_leaderOf 0 = .ok (.aload_n 0, 1) := by decide +kernel
theorem dX4_leaderOf_1 : decode cX4_leaderOf 1 = .ok (.getfield 22, 3) := by decide +kernel
theorem dX4_leaderOf_4 : decode cX4_leaderOf 4 = .ok (.iconst 1, 1) := by decide +kernel
theorem dX4_leaderOf_5 : decode cX4_leaderOf 5 = .ok (.if_icmp .ge 7, 3) := by decide +kernel
theorem dX4_leaderOf_8 : decode cX4_leaderOf 8 = .ok (.iconst 0, 1) := by decide +kernel
theorem dX4_leaderOf_9 : decode cX4_leaderOf 9 = .ok (.goto 14, 3) := by decide +kernel
theorem dX4_leaderOf_12 : decode cX4_leaderOf 12 = .ok (.lload_n 1, 1) := by decide +kernel
theorem dX4_leaderOf_13 : decode cX4_leaderOf 13 = .ok (.invokestatic 32, 3) := by decide +kernel
theorem dX4_leaderOf_16 : decode cX4_leaderOf 16 = .ok (.aload_n 0, 1) := by decide +kernel
theorem dX4_leaderOf_17 : decode cX4_leaderOf 17 = .ok (.getfield 22, 3) := by decide +kernel
theorem dX4_leaderOf_20 : decode cX4_leaderOf 20 = .ok (.invokestatic 36, 3) := by decide +kernel
theorem dX4_leaderOf_23 : decode cX4_leaderOf 23 = .ok (.ireturn, 1) := by decide +kernel
abbrev rm_X4_leaderOf : Room := { frames := 1, cells := 0, slots := 0, locals := 22 }
def wp_X4_leaderOf (a0 : Nat) (p1 : Int64) (σ : Sto) (Q : Int32 → Sto → Prop) : Prop := (sK σ a0 = 4 ∧ (∀ x2 : Int32, x2 = sI σ a0 0 → (((1 : Int32) ≤ x2 → (wp_X11_leadOf p1 σ (fun (x6 : Int32) (σ5 : Sto) => (sK σ5 a0 = 4 ∧ (∀ x8 : Int32, x8 = sI σ5 a0 0 → (wp_J9_floorMod_7cf53 x6 x8 σ5 (fun (x11 : Int32) (σ10 : Sto) => Q x11 σ10))))))) ∧ (¬ (1 : Int32) ≤ x2 → Q (0 : Int32) σ))))
set_option maxHeartbeats 4000000 in
set_option maxRecDepth 100000 in
theorem c_X4_leaderOf (l : Launch) (D : va_G) (cy : Nat → ClassId) (a0 : Nat) (p1 : Int64) (σ : Sto) (Q : Int32 → Sto → Prop) (h : wp_X4_leaderOf a0 p1 σ Q) : Mt l D cy yX4_leaderOf cX4_leaderOf 3 (some .int) rm_X4_leaderOf [.ref a0, .long p1] σ (PsI Q) := by
  unfold wp_X4_leaderOf at h
  refine mt_of (by decide +kernel) (Nat.le_of_ble_eq_true rfl) ?_
  intro p e s m args below meth c A ls C hr hnm hl
  have C : Cx p s m args meth c D cy A cX4_leaderOf 3 RX4 := C
  have hl : lv_has ls 3 [(0, .ref a0), (1, .long p1)] := hl
  refine x_aload_n C dX4_leaderOf_0 rfl (lv_at hl 0 rfl) ?_
  obtain ⟨g1, h⟩ := h
  refine x_getI C fl_RX4_22 g1 dX4_leaderOf_1 ?_
  refine x_topi (fun x2 e3 => ?_)
  have h := h x2 e3
  refine x_iconst (v := 1) C dX4_leaderOf_4 (by decide) ?_
  refine x_icmp_ge (tgt := 12) C dX4_leaderOf_5 (by decide) (fun c4 => ?_) (fun c4 => ?_)
  · have h := h.1 c4
    refine x_lload_n C dX4_leaderOf_12 rfl (lv_at hl 1 rfl) ?_
    refine x_callSN (rm := rm_X11_leadOf) (rest := []) (As := [.long p1]) C csn_RX4_32 (by decide) (by decide) rfl rfl (Nat.le_of_ble_eq_true rfl) hl.1 dX4_leaderOf_13 (c_X11_leadOf l D cy p1 σ _ h) (ks_i (fun x6 σ5 h => ?_))
    refine x_aload_n C dX4_leaderOf_16 rfl (lv_at hl 0 rfl) ?_
    obtain ⟨g7, h⟩ := h
    refine x_getI C fl_RX4_22 g7 dX4_leaderOf_17 ?_
    refine x_topi (fun x8 e9 => ?_)
    have h := h x8 e9
    refine x_callS (rm := rm_J9_floorMod_7cf53) (rest := []) (As := [.int x6, .int x8]) C cs_RX4_36 (by decide) (by decide) rfl rfl (Nat.le_of_ble_eq_true rfl) hl.1 dX4_leaderOf_20 (c_J9_floorMod_7cf53 l D cy x6 x8 σ5 _ h) (ks_i (fun x11 σ10 h => ?_))
    exact x_iret C hr dX4_leaderOf_23 ⟨_, rfl, h⟩
  · have h := h.2 c4
    refine x_iconst (v := 0) C dX4_leaderOf_8 (by decide) ?_
    refine x_goto (tgt := 23) C dX4_leaderOf_9 (by decide) ?_
    exact x_iret C hr dX4_leaderOf_23 ⟨_, rfl, h⟩
theorem dX4_find_0 : decode cX4_find 0 = .ok (.iconst 0, 1) := by decide +kernel
theorem dX4_find_1 : decode cX4_find 1 = .ok (.istore_n 2, 1) := by decide +kernel
theorem dX4_find_2 : decode cX4_find 2 = .ok (.iload_n 2, 1) := by decide +kernel
theorem dX4_find_3 : decode cX4_find 3 = .ok (.aload_n 0, 1) := by decide +kernel
theorem dX4_find_4 : decode cX4_find 4 = .ok (.getfield 42, 3) := by decide +kernel
theorem dX4_find_7 : decode cX4_find 7 = .ok (.if_icmp .ge 23, 3) := by decide +kernel
theorem dX4_find_10 : decode cX4_find 10 = .ok (.aload_n 0, 1) := by decide +kernel
theorem dX4_find_11 : decode cX4_find 11 = .ok (.iload_n 2, 1) := by decide +kernel
theorem dX4_find_12 : decode cX4_find 12 = .ok (.invokevirtual 45, 3) := by decide +kernel
theorem dX4_find_15 : decode cX4_find 15 = .ok (.getfield 49, 3) := by decide +kernel
theorem dX4_find_18 : decode cX4_find 18 = .ok (.iload_n 1, 1) := by decide +kernel
theorem dX4_find_19 : decode cX4_find 19 = .ok (.if_icmp .ne 5, 3) := by decide +kernel
theorem dX4_find_22 : decode cX4_find 22 = .ok (.iload_n 2, 1) := by decide +kernel
theorem dX4_find_23 : decode cX4_find 23 = .ok (.ireturn, 1) := by decide +kernel
theorem dX4_find_24 : decode cX4_find 24 = .ok (.iinc 2 1, 3) := by decide +kernel
theorem dX4_find_27 : decode cX4_find 27 = .ok (.goto (-25), 3) := by decide +kernel
theorem dX4_find_30 : decode cX4_find 30 = .ok (.iconst (-1), 1) := by decide +kernel
theorem dX4_find_31 : decode cX4_find 31 = .ok (.ireturn, 1) := by decide +kernel
abbrev rm_X4_find : Room := { frames := 1, cells := 0, slots := 0, locals := 21 }
def f_X4_find_2 (a0 : Nat)  (Q : Int32 → Sto → Prop) (L2 : Int32 × Int32 → Sto → Prop) (t : Int32 × Int32) (σ : Sto) : Prop := (sK σ a0 = 4 ∧ (∀ x2 : Int32, x2 = sI σ a0 5 → ((x2 ≤ t.2 → Q (-1 : Int32) σ) ∧ (¬ x2 ≤ t.2 → (wp_X4_at a0 t.2 σ (fun (r6 : Option Nat) (σ5 : Sto) => (∃ b7 : Nat, r6 = some b7 ∧ (sK σ5 b7 = 3 ∧ (∀ x10 : Int32, x10 = sI σ5 b7 0 → ((¬ x10 = t.1 → (∀ x13 : Int32, x13 = t.2 + (1 : Int32) → L2 (t.1, x13) σ5)) ∧ (x10 = t.1 → Q t.2 σ5)))))))))))
set_option maxHeartbeats 4000000 in
set_option maxRecDepth 100000 in
theorem t_X4_find_2 {p : Program} {l : Launch} {e : Env} {s : State} {m : MethodId} {args : Array Value} {below : List Frame} {meth : Method} {c : Code} {D : va_G} {cy : Nat → ClassId} {A : Nat → Prop} {a0 : Nat} {Q : Int32 → Sto → Prop} {L2 : Int32 × Int32 → Sto → Prop} (C : Cx p s m args meth c D cy A cX4_find 3 RX4) (hr : meth.sig.returnType = (some .int)) (hnm : meth.name = yX4_find.name) (hL2 : ∀ (t : Int32 × Int32) (σ : Sto), L2 t σ → ∀ ls : Array Slot, lv_has ls 3 [(0, .ref a0), (1, .int t.1), (2, .int t.2)] → Xw p l e rm_X4_find s m args below meth c D cy A σ 0 0 (MQ below (Qst D cy A (PsI Q)) args s rm_X4_find.cells rm_X4_find.slots A) (F0 m 2 ls [])) : ∀ (t : Int32 × Int32) (σ : Sto), f_X4_find_2 a0  Q L2 t σ → ∀ ls : Array Slot, lv_has ls 3 [(0, .ref a0), (1, .int t.1), (2, .int t.2)] → Xw p l e rm_X4_find s m args below meth c D cy A σ 0 0 (MQ below (Qst D cy A (PsI Q)) args s rm_X4_find.cells rm_X4_find.slots A) (F0 m 2 ls []) := by
  intro t σ h ls hl
  unfold f_X4_find_2 at h
  refine x_iload_n C dX4_find_2 rfl (lv_at hl 2 rfl) ?_
  refine x_aload_n C dX4_find_3 rfl (lv_at hl 0 rfl) ?_
  obtain ⟨g1, h⟩ := h
  refine x_getI C fl_RX4_42 g1 dX4_find_4 ?_
  refine x_topi (fun x2 e3 => ?_)
  have h := h x2 e3
  refine x_icmp_ge (tgt := 30) C dX4_find_7 (by decide) (fun c4 => ?_) (fun c4 => ?_)
  · have h := h.1 c4
    refine x_iconst (v := -1) C dX4_find_30 (by decide) ?_
    exact x_iret C hr dX4_find_31 ⟨_, rfl, h⟩
  · have h := h.2 c4
    refine x_aload_n C dX4_find_10 rfl (lv_at hl 0 rfl) ?_
    refine x_iload_n C dX4_find_11 rfl (lv_at hl 2 rfl) ?_
    refine x_callV (rm := rm_X4_at) (rest := []) (As := [.int t.2]) C cy_RX4_45 g1 (by decide) (by decide) rfl rfl (Nat.le_of_ble_eq_true rfl) hl.1 dX4_find_12 (c_X4_at l D cy a0 t.2 σ _ h) (ks_p (fun r6 σ5 h => ?_))
    obtain ⟨b7, g8, h⟩ := h
    refine x_nn0 g8 ?_
    obtain ⟨g9, h⟩ := h
    refine x_getI C fl_RX4_49 g9 dX4_find_15 ?_
    refine x_topi (fun x10 e11 => ?_)
    have h := h x10 e11
    refine x_iload_n C dX4_find_18 rfl (lv_at hl 1 rfl) ?_
    refine x_icmp_ne (tgt := 24) C dX4_find_19 (by decide) (fun c12 => ?_) (fun c12 => ?_)
    · have h := h.1 c12
      obtain ⟨x13, e14⟩ : ∃ z : Int32, z = t.2 + (1 : Int32) := ⟨_, rfl⟩
      have h := h x13 e14
      refine x_iinc (v := x13) (lv' := [(2, .int x13), (0, .ref a0), (1, .int t.1)]) C dX4_find_24 hl (q0 := 2) rfl (by rw [e14]; rfl) (by decide) (by first | rfl | simp [vrc, cat_i, cat_r, cat_l]) (fun ls hl => ?_)
      refine x_goto (tgt := 2) C dX4_find_27 (by decide) ?_
      exact hL2 (t.1, x13) _ h ls (lv_sub hl [1, 2, 0] rfl)
    · have h := h.2 c12
      refine x_iload_n C dX4_find_22 rfl (lv_at hl 2 rfl) ?_
      exact x_iret C hr dX4_find_23 ⟨_, rfl, h⟩
def wp_X4_find (a0 : Nat) (p1 : Int32) (σ : Sto) (Q : Int32 → Sto → Prop) : Prop := LF (f_X4_find_2 a0  Q) (p1, (0 : Int32)) σ
set_option maxHeartbeats 4000000 in
set_option maxRecDepth 100000 in
theorem c_X4_find (l : Launch) (D : va_G) (cy : Nat → ClassId) (a0 : Nat) (p1 : Int32) (σ : Sto) (Q : Int32 → Sto → Prop) (h : wp_X4_find a0 p1 σ Q) : Mt l D cy yX4_find cX4_find 3 (some .int) rm_X4_find [.ref a0, .int p1] σ (PsI Q) := by
  unfold wp_X4_find at h
  refine mt_of (by decide +kernel) (Nat.le_of_ble_eq_true rfl) ?_
  intro p e s m args below meth c A ls C hr hnm hl
  have C : Cx p s m args meth c D cy A cX4_find 3 RX4 := C
  have hl : lv_has ls 3 [(0, .ref a0), (1, .int p1)] := hl
  refine x_iconst (v := 0) C dX4_find_0 (by decide) ?_
  refine x_istore_n (i := 2) (lv' := [(2, .int (0 : Int32)), (0, .ref a0), (1, .int p1)]) C dX4_find_1 rfl hl (by decide) (by first | rfl | simp [vrc, cat_i, cat_r, cat_l]) (fun ls hl => ?_)
  exact h (fun t σ => ∀ ls : Array Slot, lv_has ls 3 [(0, .ref a0), (1, .int t.1), (2, .int t.2)] → Xw p l e rm_X4_find s m args below meth c D cy A σ 0 0 (MQ below (Qst D cy A (PsI Q)) args s rm_X4_find.cells rm_X4_find.slots A) (F0 m 2 ls [])) (t_X4_find_2 C hr hnm  (fun t σ h => h)) ls (lv_sub hl [1, 2, 0] rfl)
theorem dX4_send_0 : decode cX4_send 0 = .ok (.aload_n 0, 1) := by decide +kernel
theorem dX4_send_1 : decode cX4_send 1 = .ok (.getfield 18, 3) := by decide +kernel
theorem dX4_send_4 : decode cX4_send 4 = .ok (.astore 7, 2) := by decide +kernel
theorem dX4_send_6 : decode cX4_send 6 = .ok (.aload_n 0, 1) := by decide +kernel
theorem dX4_send_7 : decode cX4_send 7 = .ok (.getfield 42, 3) := by decide +kernel
theorem dX4_send_10 : decode cX4_send 10 = .ok (.sipush 200, 3) := by decide +kernel
theorem dX4_send_13 : decode cX4_send 13 = .ok (.if_icmp .ge 36, 3) := by decide +kernel
theorem dX4_send_16 : decode cX4_send 16 = .ok (.aload_n 0, 1) := by decide +kernel
theorem dX4_send_17 : decode cX4_send 17 = .ok (.getfield 11, 3) := by decide +kernel
theorem dX4_send_20 : decode cX4_send 20 = .ok (.aload_n 0, 1) := by decide +kernel
theorem dX4_send_21 : decode cX4_send 21 = .ok (.getfield 29, 3) := by decide +kernel
theorem dX4_send_24 : decode cX4_send 24 = .ok (.aload_n 0, 1) := by decide +kernel
theorem dX4_send_25 : decode cX4_send 25 = .ok (.getfield 42, 3) := by decide +kernel
theorem dX4_send_28 : decode cX4_send 28 = .ok (.iadd, 1) := by decide +kernel
theorem dX4_send_29 : decode cX4_send 29 = .ok (.sipush 255, 3) := by decide +kernel
theorem dX4_send_32 : decode cX4_send 32 = .ok (.iand, 1) := by decide +kernel
theorem dX4_send_33 : decode cX4_send 33 = .ok (.aaload, 1) := by decide +kernel
theorem dX4_send_34 : decode cX4_send 34 = .ok (.astore 7, 2) := by decide +kernel
theorem dX4_send_36 : decode cX4_send 36 = .ok (.aload_n 0, 1) := by decide +kernel
theorem dX4_send_37 : decode cX4_send 37 = .ok (.dup, 1) := by decide +kernel
theorem dX4_send_38 : decode cX4_send 38 = .ok (.getfield 42, 3) := by decide +kernel
theorem dX4_send_41 : decode cX4_send 41 = .ok (.iconst 1, 1) := by decide +kernel
theorem dX4_send_42 : decode cX4_send 42 = .ok (.iadd, 1) := by decide +kernel
theorem dX4_send_43 : decode cX4_send 43 = .ok (.putfield 42, 3) := by decide +kernel
theorem dX4_send_46 : decode cX4_send 46 = .ok (.goto 13, 3) := by decide +kernel
theorem dX4_send_49 : decode cX4_send 49 = .ok (.aload_n 0, 1) := by decide +kernel
theorem dX4_send_50 : decode cX4_send 50 = .ok (.dup, 1) := by decide +kernel
theorem dX4_send_51 : decode cX4_send 51 = .ok (.getfield 52, 3) := by decide +kernel
theorem dX4_send_54 : decode cX4_send 54 = .ok (.iconst 1, 1) := by decide +kernel
theorem dX4_send_55 : decode cX4_send 55 = .ok (.iadd, 1) := by decide +kernel
theorem dX4_send_56 : decode cX4_send 56 = .ok (.putfield 52, 3) := by decide +kernel
theorem dX4_send_59 : decode cX4_send 59 = .ok (.aload 7, 2) := by decide +kernel
theorem dX4_send_61 : decode cX4_send 61 = .ok (.aload_n 0, 1) := by decide +kernel
theorem dX4_send_62 : decode cX4_send 62 = .ok (.getfield 55, 3) := by decide +kernel
theorem dX4_send_65 : decode cX4_send 65 = .ok (.putfield 49, 3) := by decide +kernel
theorem dX4_send_68 : decode cX4_send 68 = .ok (.aload 7, 2) := by decide +kernel
theorem dX4_send_70 : decode cX4_send 70 = .ok (.iload_n 1, 1) := by decide +kernel
theorem dX4_send_71 : decode cX4_send 71 = .ok (.putfield 58, 3) := by decide +kernel
theorem dX4_send_74 : decode cX4_send 74 = .ok (.aload 7, 2) := by decide +kernel
theorem dX4_send_76 : decode cX4_send 76 = .ok (.iload_n 2, 1) := by decide +kernel
theorem dX4_send_77 : decode cX4_send 77 = .ok (.putfield 61, 3) := by decide +kernel
theorem dX4_send_80 : decode cX4_send 80 = .ok (.aload 7, 2) := by decide +kernel
theorem dX4_send_82 : decode cX4_send 82 = .ok (.iload_n 3, 1) := by decide +kernel
theorem dX4_send_83 : decode cX4_send 83 = .ok (.putfield 64, 3) := by decide +kernel
theorem dX4_send_86 : decode cX4_send 86 = .ok (.aload 7, 2) := by decide +kernel
theorem dX4_send_88 : decode cX4_send 88 = .ok (.lload 4, 2) := by decide +kernel
theorem dX4_send_90 : decode cX4_send 90 = .ok (.putfield 67, 3) := by decide +kernel
theorem dX4_send_93 : decode cX4_send 93 = .ok (.aload 7, 2) := by decide +kernel
theorem dX4_send_95 : decode cX4_send 95 = .ok (.iload 6, 2) := by decide +kernel
theorem dX4_send_97 : decode cX4_send 97 = .ok (.putfield 71, 3) := by decide +kernel
theorem dX4_send_100 : decode cX4_send 100 = .ok (.aload 7, 2) := by decide +kernel
theorem dX4_send_102 : decode cX4_send 102 = .ok (.aconst_null, 1) := by decide +kernel
theorem dX4_send_103 : decode cX4_send 103 = .ok (.putfield 74, 3) := by decide +kernel
theorem dX4_send_106 : decode cX4_send 106 = .ok (.aload 7, 2) := by decide +kernel
theorem dX4_send_108 : decode cX4_send 108 = .ok (.iconst 0, 1) := by decide +kernel
theorem dX4_send_109 : decode cX4_send 109 = .ok (.putfield 78, 3) := by decide +kernel
theorem dX4_send_112 : decode cX4_send 112 = .ok (.aload_n 0, 1) := by decide +kernel
theorem dX4_send_113 : decode cX4_send 113 = .ok (.dup, 1) := by decide +kernel
theorem dX4_send_114 : decode cX4_send 114 = .ok (.getfield 55, 3) := by decide +kernel
theorem dX4_send_117 : decode cX4_send 117 = .ok (.iconst 1, 1) := by decide +kernel
theorem dX4_send_118 : decode cX4_send 118 = .ok (.iadd, 1) := by decide +kernel
theorem dX4_send_119 : decode cX4_send 119 = .ok (.putfield 55, 3) := by decide +kernel
theorem dX4_send_122 : decode cX4_send 122 = .ok (.aload 7, 2) := by decide +kernel
theorem dX4_send_124 : decode cX4_send 124 = .ok (.areturn, 1) := by decide +kernel
abbrev rm_X4_send : Room := { frames := 0, cells := 0, slots := 0, locals := 0 }
def b_X4_send_59 (a0 : Nat)  (Q : Option Nat → Sto → Prop) (p1 : Int32) (p2 : Int32) (p3 : Int32) (p4 : Int64) (p6 : Int32) (p7 : Option Nat) (σ : Sto) : Prop := (sK σ a0 = 4 ∧ (∀ x2 : Int32, x2 = sI σ a0 6 → (∃ b4 : Nat, p7 = some b4 ∧ (sK σ b4 = 3 ∧ (∀ x7 : Int32, x7 = sI (stI (stP (stI (stJ (stI (stI (stI (stI σ b4 0 x2) b4 1 p1) b4 2 p2) b4 3 p3) b4 4 p4) b4 6 p6) b4 7 none) b4 9 (0 : Int32)) a0 6 → (∀ x9 : Int32, x9 = x7 + (1 : Int32) → Q p7 (stI (stI (stP (stI (stJ (stI (stI (stI (stI σ b4 0 x2) b4 1 p1) b4 2 p2) b4 3 p3) b4 4 p4) b4 6 p6) b4 7 none) b4 9 (0 : Int32)) a0 6 x9)))))))
set_option maxHeartbeats 4000000 in
set_option maxRecDepth 100000 in
theorem t_X4_send_59 {p : Program} {l : Launch} {e : Env} {s : State} {m : MethodId} {args : Array Value} {below : List Frame} {meth : Method} {c : Code} {D : va_G} {cy : Nat → ClassId} {A : Nat → Prop} {a0 : Nat} {Q : Option Nat → Sto → Prop} (C : Cx p s m args meth c D cy A cX4_send 8 RX4) (hr : meth.sig.returnType = (some (.object "OrderedWorks$Message"))) (hnm : meth.name = yX4_send.name) (p1 : Int32) (p2 : Int32) (p3 : Int32) (p4 : Int64) (p6 : Int32) (p7 : Option Nat) (σ : Sto) (h : b_X4_send_59 a0  Q p1 p2 p3 p4 p6 p7 σ) (ls : Array Slot) (hl : lv_has ls 8 [(0, .ref a0), (1, .int p1), (2, .int p2), (3, .int p3), (4, .long p4), (6, .int p6), (7, va_rf p7)]) : Xw p l e rm_X4_send s m args below meth c D cy A σ 0 0 (MQ below (Qst D cy A (PsP Q)) args s rm_X4_send.cells rm_X4_send.slots A) (F0 m 59 ls []) := by
  unfold b_X4_send_59 at h
  refine x_aloadq C dX4_send_59 (lv_at hl 6 rfl) ?_
  refine x_aload_n C dX4_send_61 rfl (lv_at hl 0 rfl) ?_
  obtain ⟨g1, h⟩ := h
  refine x_getI C fl_RX4_55 g1 dX4_send_62 ?_
  refine x_topi (fun x2 e3 => ?_)
  have h := h x2 e3
  obtain ⟨b4, g5, h⟩ := h
  refine x_nn1 g5 ?_
  obtain ⟨g6, h⟩ := h
  refine x_putI C fl_RX4_49 (Or.inl rfl) g6 dX4_send_65 ?_
  refine x_aloadq C dX4_send_68 (lv_at hl 6 rfl) ?_
  refine x_iload_n C dX4_send_70 rfl (lv_at hl 1 rfl) ?_
  refine x_nn1 g5 ?_
  refine x_putI C fl_RX4_58 (Or.inl rfl) g6 dX4_send_71 ?_
  refine x_aloadq C dX4_send_74 (lv_at hl 6 rfl) ?_
  refine x_iload_n C dX4_send_76 rfl (lv_at hl 2 rfl) ?_
  refine x_nn1 g5 ?_
  refine x_putI C fl_RX4_61 (Or.inl rfl) g6 dX4_send_77 ?_
  refine x_aloadq C dX4_send_80 (lv_at hl 6 rfl) ?_
  refine x_iload_n C dX4_send_82 rfl (lv_at hl 3 rfl) ?_
  refine x_nn1 g5 ?_
  refine x_putI C fl_RX4_64 (Or.inl rfl) g6 dX4_send_83 ?_
  refine x_aloadq C dX4_send_86 (lv_at hl 6 rfl) ?_
  refine x_lload C dX4_send_88 (lv_at hl 4 rfl) ?_
  refine x_nn1 g5 ?_
  refine x_putJ C fl_RX4_67 (Or.inl rfl) g6 dX4_send_90 ?_
  refine x_aloadq C dX4_send_93 (lv_at hl 6 rfl) ?_
  refine x_iload C dX4_send_95 (lv_at hl 5 rfl) ?_
  refine x_nn1 g5 ?_
  refine x_putI C fl_RX4_71 (Or.inl rfl) g6 dX4_send_97 ?_
  refine x_aloadq C dX4_send_100 (lv_at hl 6 rfl) ?_
  refine x_null C dX4_send_102 ?_
  refine x_nn1 g5 ?_
  refine x_putP C fl_RX4_74 (rty_o _) (Or.inl rfl) g6 dX4_send_103 ?_
  refine x_aloadq C dX4_send_106 (lv_at hl 6 rfl) ?_
  refine x_iconst (v := 0) C dX4_send_108 (by decide) ?_
  refine x_nn1 g5 ?_
  refine x_putZ C fl_RX4_78 (Or.inl rfl) (by decide) g6 dX4_send_109 ?_
  refine x_aload_n C dX4_send_112 rfl (lv_at hl 0 rfl) ?_
  refine x_dup C dX4_send_113 (rfl) ?_
  refine x_getI C fl_RX4_55 g1 dX4_send_114 ?_
  refine x_topi (fun x7 e8 => ?_)
  have h := h x7 e8
  refine x_iconst (v := 1) C dX4_send_117 (by decide) ?_
  refine x_iadd C dX4_send_118 ?_
  refine x_topi (fun x9 e10 => ?_)
  have h := h x9 e10
  refine x_putI C fl_RX4_55 (Or.inl rfl) g1 dX4_send_119 ?_
  refine x_aloadq C dX4_send_122 (lv_at hl 6 rfl) ?_
  exact x_aret (v := p7) C hr dX4_send_124 ⟨_, rfl, h⟩
def wp_X4_send (a0 : Nat) (p1 : Int32) (p2 : Int32) (p3 : Int32) (p4 : Int64) (p6 : Int32) (σ : Sto) (Q : Option Nat → Sto → Prop) : Prop := (sK σ a0 = 4 ∧ (∀ r2 : Option Nat, r2 = sP σ a0 3 → (∀ x4 : Int32, x4 = sI σ a0 5 → (((200 : Int32) ≤ x4 → (∀ x7 : Int32, x7 = sI σ a0 7 → (∀ x9 : Int32, x9 = x7 + (1 : Int32) → b_X4_send_59 a0  Q p1 p2 p3 p4 p6 r2 (stI σ a0 7 x9)))) ∧ (¬ (200 : Int32) ≤ x4 → (∀ x11 : Int32, x11 = sI σ a0 4 → (∀ x13 : Int32, x13 = sI σ a0 5 → (∀ x15 : Int32, x15 = (x11 + x13) &&& (255 : Int32) → (∃ b17 : Nat, sP σ a0 2 = some b17 ∧ (sK σ b17 = 19 ∧ (vp_in x15 (sN σ b17) ∧ (∀ r21 : Option Nat, r21 = sP σ b17 x15.toNatClampNeg → (∀ x23 : Int32, x23 = sI σ a0 5 → (∀ x25 : Int32, x25 = x23 + (1 : Int32) → b_X4_send_59 a0  Q p1 p2 p3 p4 p6 r21 (stI σ a0 5 x25)))))))))))))))
set_option maxHeartbeats 4000000 in
set_option maxRecDepth 100000 in
theorem c_X4_send (l : Launch) (D : va_G) (cy : Nat → ClassId) (a0 : Nat) (p1 : Int32) (p2 : Int32) (p3 : Int32) (p4 : Int64) (p6 : Int32) (σ : Sto) (Q : Option Nat → Sto → Prop) (h : wp_X4_send a0 p1 p2 p3 p4 p6 σ Q) : Mt l D cy yX4_send cX4_send 8 (some (.object "OrderedWorks$Message")) rm_X4_send [.ref a0, .int p1, .int p2, .int p3, .long p4, .int p6] σ (PsP Q) := by
  unfold wp_X4_send at h
  refine mt_of (by decide +kernel) (Nat.le_of_ble_eq_true rfl) ?_
  intro p e s m args below meth c A ls C hr hnm hl
  have C : Cx p s m args meth c D cy A cX4_send 8 RX4 := C
  have hl : lv_has ls 8 [(0, .ref a0), (1, .int p1), (2, .int p2), (3, .int p3), (4, .long p4), (6, .int p6)] := hl
  refine x_aload_n C dX4_send_0 rfl (lv_at hl 0 rfl) ?_
  obtain ⟨g1, h⟩ := h
  refine x_getP C fl_RX4_18 g1 dX4_send_1 ?_
  refine x_topq (fun r2 e3 => ?_)
  have h := h r2 e3
  refine x_astoreq (i := 7) (lv' := [(7, va_rf r2), (0, .ref a0), (1, .int p1), (2, .int p2), (3, .int p3), (4, .long p4), (6, .int p6)]) C dX4_send_4 hl (by decide) (by first | rfl | simp [vrc, cat_i, cat_r, cat_l]) (fun ls hl => ?_)
  refine x_aload_n C dX4_send_6 rfl (lv_at hl 1 rfl) ?_
  refine x_getI C fl_RX4_42 g1 dX4_send_7 ?_
  refine x_topi (fun x4 e5 => ?_)
  have h := h x4 e5
  refine x_sipush (v := 200) C dX4_send_10 (by decide) ?_
  refine x_icmp_ge (tgt := 49) C dX4_send_13 (by decide) (fun c6 => ?_) (fun c6 => ?_)
  · have h := h.1 c6
    refine x_aload_n C dX4_send_49 rfl (lv_at hl 1 rfl) ?_
    refine x_dup C dX4_send_50 (rfl) ?_
    refine x_getI C fl_RX4_52 g1 dX4_send_51 ?_
    refine x_topi (fun x7 e8 => ?_)
    have h := h x7 e8
    refine x_iconst (v := 1) C dX4_send_54 (by decide) ?_
    refine x_iadd C dX4_send_55 ?_
    refine x_topi (fun x9 e10 => ?_)
    have h := h x9 e10
    refine x_putI C fl_RX4_52 (Or.inl rfl) g1 dX4_send_56 ?_
    exact t_X4_send_59 C hr hnm  p1 p2 p3 p4 p6 r2 _ h ls (lv_sub hl [1, 2, 3, 4, 5, 6, 0] rfl)
  · have h := h.2 c6
    refine x_aload_n C dX4_send_16 rfl (lv_at hl 1 rfl) ?_
    refine x_getP C fl_RX4_11 g1 dX4_send_17 ?_
    refine x_aload_n C dX4_send_20 rfl (lv_at hl 1 rfl) ?_
    refine x_getI C fl_RX4_29 g1 dX4_send_21 ?_
    refine x_topi (fun x11 e12 => ?_)
    have h := h x11 e12
    refine x_aload_n C dX4_send_24 rfl (lv_at hl 1 rfl) ?_
    refine x_getI C fl_RX4_42 g1 dX4_send_25 ?_
    refine x_topi (fun x13 e14 => ?_)
    have h := h x13 e14
    refine x_iadd C dX4_send_28 ?_
    refine x_sipush (v := 255) C dX4_send_29 (by decide) ?_
    refine x_iand C dX4_send_32 ?_
    refine x_topi (fun x15 e16 => ?_)
    have h := h x15 e16
    obtain ⟨b17, g18, h⟩ := h
    refine x_nn1 g18 ?_
    obtain ⟨g19, h⟩ := h
    obtain ⟨g20, h⟩ := h
    refine x_aald C rak_19 g19 g20 dX4_send_33 ?_
    refine x_topq (fun r21 e22 => ?_)
    have h := h r21 e22
    refine x_astoreq (i := 7) (lv' := [(7, va_rf r21), (0, .ref a0), (1, .int p1), (2, .int p2), (3, .int p3), (4, .long p4), (6, .int p6)]) C dX4_send_34 hl (by decide) (by first | rfl | simp [vrc, cat_i, cat_r, cat_l]) (fun ls hl => ?_)
    refine x_aload_n C dX4_send_36 rfl (lv_at hl 1 rfl) ?_
    refine x_dup C dX4_send_37 (rfl) ?_
    refine x_getI C fl_RX4_42 g1 dX4_send_38 ?_
    refine x_topi (fun x23 e24 => ?_)
    have h := h x23 e24
    refine x_iconst (v := 1) C dX4_send_41 (by decide) ?_
    refine x_iadd C dX4_send_42 ?_
    refine x_topi (fun x25 e26 => ?_)
    have h := h x25 e26
    refine x_putI C fl_RX4_42 (Or.inl rfl) g1 dX4_send_43 ?_
    refine x_goto (tgt := 59) C dX4_send_46 (by decide) ?_
    exact t_X4_send_59 C hr hnm  p1 p2 p3 p4 p6 r21 _ h ls (lv_sub hl [1, 2, 3, 4, 5, 6, 0] rfl)
theorem dX4_pull_0 : decode cX4_pull 0 = .ok (.aload_n 0, 1) := by decide +kernel
theorem dX4_pull_1 : decode cX4_pull 1 = .ok (.iload_n 1, 1) := by decide +kernel
theorem dX4_pull_2 : decode cX4_pull 2 = .ok (.invokevirtual 45, 3) := by decide +kernel
theorem dX4_pull_5 : decode cX4_pull 5 = .ok (.astore_n 2, 1) := by decide +kernel
theorem dX4_pull_6 : decode cX4_pull 6 = .ok (.iload_n 1, 1) := by decide +kernel
theorem dX4_pull_7 : decode cX4_pull 7 = .ok (.istore_n 3, 1) := by decide +kernel
theorem dX4_pull_8 : decode cX4_pull 8 = .ok (.iload_n 3, 1) := by decide +kernel
theorem dX4_pull_9 : decode cX4_pull 9 = .ok (.ifCond .le 41, 3) := by decide +kernel
theorem dX4_pull_12 : decode cX4_pull 12 = .ok (.aload_n 0, 1) := by decide +kernel
theorem dX4_pull_13 : decode cX4_pull 13 = .ok (.getfield 11, 3) := by decide +kernel
theorem dX4_pull_16 : decode cX4_pull 16 = .ok (.aload_n 0, 1) := by decide +kernel
theorem dX4_pull_17 : decode cX4_pull 17 = .ok (.getfield 29, 3) := by decide +kernel
theorem dX4_pull_20 : decode cX4_pull 20 = .ok (.iload_n 3, 1) := by decide +kernel
theorem dX4_pull_21 : decode cX4_pull 21 = .ok (.iadd, 1) := by decide +kernel
theorem dX4_pull_22 : decode cX4_pull 22 = .ok (.sipush 255, 3) := by decide +kernel
theorem dX4_pull_25 : decode cX4_pull 25 = .ok (.iand, 1) := by decide +kernel
theorem dX4_pull_26 : decode cX4_pull 26 = .ok (.aload_n 0, 1) := by decide +kernel
theorem dX4_pull_27 : decode cX4_pull 27 = .ok (.getfield 11, 3) := by decide +kernel
theorem dX4_pull_30 : decode cX4_pull 30 = .ok (.aload_n 0, 1) := by decide +kernel
theorem dX4_pull_31 : decode cX4_pull 31 = .ok (.getfield 29, 3) := by decide +kernel
theorem dX4_pull_34 : decode cX4_pull 34 = .ok (.iload_n 3, 1) := by decide +kernel
theorem dX4_pull_35 : decode cX4_pull 35 = .ok (.iadd, 1) := by decide +kernel
theorem dX4_pull_36 : decode cX4_pull 36 = .ok (.iconst 1, 1) := by decide +kernel
theorem dX4_pull_37 : decode cX4_pull 37 = .ok (.isub, 1) := by decide +kernel
theorem dX4_pull_38 : decode cX4_pull 38 = .ok (.sipush 255, 3) := by decide +kernel
theorem dX4_pull_41 : decode cX4_pull 41 = .ok (.iand, 1) := by decide +kernel
theorem dX4_pull_42 : decode cX4_pull 42 = .ok (.aaload, 1) := by decide +kernel
theorem dX4_pull_43 : decode cX4_pull 43 = .ok (.aastore, 1) := by decide +kernel
theorem dX4_pull_44 : decode cX4_pull 44 = .ok (.iinc 3 (-1), 3) := by decide +kernel
theorem dX4_pull_47 : decode cX4_pull 47 = .ok (.goto (-39), 3) := by decide +kernel
theorem dX4_pull_50 : decode cX4_pull 50 = .ok (.aload_n 0, 1) := by decide +kernel
theorem dX4_pull_51 : decode cX4_pull 51 = .ok (.getfield 11, 3) := by decide +kernel
theorem dX4_pull_54 : decode cX4_pull 54 = .ok (.aload_n 0, 1) := by decide +kernel
theorem dX4_pull_55 : decode cX4_pull 55 = .ok (.getfield 29, 3) := by decide +kernel
theorem dX4_pull_58 : decode cX4_pull 58 = .ok (.sipush 255, 3) := by decide +kernel
theorem dX4_pull_61 : decode cX4_pull 61 = .ok (.iand, 1) := by decide +kernel
theorem dX4_pull_62 : decode cX4_pull 62 = .ok (.aload_n 2, 1) := by decide +kernel
theorem dX4_pull_63 : decode cX4_pull 63 = .ok (.aastore, 1) := by decide +kernel
theorem dX4_pull_64 : decode cX4_pull 64 = .ok (.aload_n 0, 1) := by decide +kernel
theorem dX4_pull_65 : decode cX4_pull 65 = .ok (.aload_n 0, 1) := by decide +kernel
theorem dX4_pull_66 : decode cX4_pull 66 = .ok (.getfield 29, 3) := by decide +kernel
theorem dX4_pull_69 : decode cX4_pull 69 = .ok (.iconst 1, 1) := by decide +kernel
theorem dX4_pull_70 : decode cX4_pull 70 = .ok (.iadd, 1) := by decide +kernel
theorem dX4_pull_71 : decode cX4_pull 71 = .ok (.sipush 255, 3) := by decide +kernel
theorem dX4_pull_74 : decode cX4_pull 74 = .ok (.iand, 1) := by decide +kernel
theorem dX4_pull_75 : decode cX4_pull 75 = .ok (.putfield 29, 3) := by decide +kernel
theorem dX4_pull_78 : decode cX4_pull 78 = .ok (.aload_n 0, 1) := by decide +kernel
theorem dX4_pull_79 : decode cX4_pull 79 = .ok (.dup, 1) := by decide +kernel
theorem dX4_pull_80 : decode cX4_pull 80 = .ok (.getfield 42, 3) := by decide +kernel
theorem dX4_pull_83 : decode cX4_pull 83 = .ok (.iconst 1, 1) := by decide +kernel
theorem dX4_pull_84 : decode cX4_pull 84 = .ok (.isub, 1) := by decide +kernel
theorem dX4_pull_85 : decode cX4_pull 85 = .ok (.putfield 42, 3) := by decide +kernel
theorem dX4_pull_88 : decode cX4_pull 88 = .ok (.aload_n 2, 1) := by decide +kernel
theorem dX4_pull_89 : decode cX4_pull 89 = .ok (.areturn, 1) := by decide +kernel
abbrev rm_X4_pull : Room := { frames := 1, cells := 0, slots := 0, locals := 21 }
def f_X4_pull_8 (a0 : Nat)  (Q : Option Nat → Sto → Prop) (L8 : Option Nat × Int32 → Sto → Prop) (t : Option Nat × Int32) (σ : Sto) : Prop := ((t.2 ≤ 0 → (sK σ a0 = 4 ∧ (∀ x3 : Int32, x3 = sI σ a0 4 → (∃ b5 : Nat, sP σ a0 2 = some b5 ∧ (sK σ b5 = 19 ∧ (vp_in (x3 &&& (255 : Int32)) (sN σ b5) ∧ ((∀ b, t.1 = some b → sK σ b = 3) ∧ (∀ x10 : Int32, x10 = sI σ a0 4 → (∀ x12 : Int32, x12 = (x10 + (1 : Int32)) &&& (255 : Int32) → (∀ x14 : Int32, x14 = sI (stI (stP σ b5 (x3 &&& (255 : Int32)).toNatClampNeg t.1) a0 4 x12) a0 5 → (∀ x16 : Int32, x16 = x14 - (1 : Int32) → Q t.1 (stI (stI (stP σ b5 (x3 &&& (255 : Int32)).toNatClampNeg t.1) a0 4 x12) a0 5 x16)))))))))))) ∧ (¬ t.2 ≤ 0 → (sK σ a0 = 4 ∧ (∀ x19 : Int32, x19 = sI σ a0 4 → (∀ x21 : Int32, x21 = sI σ a0 4 → (∀ x23 : Int32, x23 = ((x21 + t.2) - (1 : Int32)) &&& (255 : Int32) → (∃ b25 : Nat, sP σ a0 2 = some b25 ∧ (sK σ b25 = 19 ∧ (vp_in x23 (sN σ b25) ∧ (∀ r29 : Option Nat, r29 = sP σ b25 x23.toNatClampNeg → (vp_in ((x19 + t.2) &&& (255 : Int32)) (sN σ b25) ∧ ((∀ b, r29 = some b → sK σ b = 3) ∧ (∀ x33 : Int32, x33 = t.2 + (-1 : Int32) → L8 (t.1, x33) (stP σ b25 ((x19 + t.2) &&& (255 : Int32)).toNatClampNeg r29))))))))))))))
set_option maxHeartbeats 4000000 in
set_option maxRecDepth 100000 in
theorem t_X4_pull_8 {p : Program} {l : Launch} {e : Env} {s : State} {m : MethodId} {args : Array Value} {below : List Frame} {meth : Method} {c : Code} {D : va_G} {cy : Nat → ClassId} {A : Nat → Prop} {a0 : Nat} {Q : Option Nat → Sto → Prop} {L8 : Option Nat × Int32 → Sto → Prop} (C : Cx p s m args meth c D cy A cX4_pull 4 RX4) (hr : meth.sig.returnType = (some (.object "OrderedWorks$Message"))) (hnm : meth.name = yX4_pull.name) (hL8 : ∀ (t : Option Nat × Int32) (σ : Sto), L8 t σ → ∀ ls : Array Slot, lv_has ls 4 [(0, .ref a0), (2, va_rf t.1), (3, .int t.2)] → Xw p l e rm_X4_pull s m args below meth c D cy A σ 0 0 (MQ below (Qst D cy A (PsP Q)) args s rm_X4_pull.cells rm_X4_pull.slots A) (F0 m 8 ls [])) : ∀ (t : Option Nat × Int32) (σ : Sto), f_X4_pull_8 a0  Q L8 t σ → ∀ ls : Array Slot, lv_has ls 4 [(0, .ref a0), (2, va_rf t.1), (3, .int t.2)] → Xw p l e rm_X4_pull s m args below meth c D cy A σ 0 0 (MQ below (Qst D cy A (PsP Q)) args s rm_X4_pull.cells rm_X4_pull.slots A) (F0 m 8 ls []) := by
  intro t σ h ls hl
  unfold f_X4_pull_8 at h
  refine x_iload_n C dX4_pull_8 rfl (lv_at hl 2 rfl) ?_
  refine x_if_le (tgt := 50) C dX4_pull_9 (by decide) (fun c1 => ?_) (fun c1 => ?_)
  · have h := h.1 c1
    refine x_aload_n C dX4_pull_50 rfl (lv_at hl 0 rfl) ?_
    obtain ⟨g2, h⟩ := h
    refine x_getP C fl_RX4_11 g2 dX4_pull_51 ?_
    refine x_aload_n C dX4_pull_54 rfl (lv_at hl 0 rfl) ?_
    refine x_getI C fl_RX4_29 g2 dX4_pull_55 ?_
    refine x_topi (fun x3 e4 => ?_)
    have h := h x3 e4
    refine x_sipush (v := 255) C dX4_pull_58 (by decide) ?_
    refine x_iand C dX4_pull_61 ?_
    refine x_aload_nq C dX4_pull_62 rfl (lv_at hl 1 rfl) ?_
    obtain ⟨b5, g6, h⟩ := h
    refine x_nn2 g6 ?_
    obtain ⟨g7, h⟩ := h
    obtain ⟨g8, h⟩ := h
    obtain ⟨g9, h⟩ := h
    refine x_aast C rak_19 g7 g9 g8 dX4_pull_63 ?_
    refine x_aload_n C dX4_pull_64 rfl (lv_at hl 0 rfl) ?_
    refine x_aload_n C dX4_pull_65 rfl (lv_at hl 0 rfl) ?_
    refine x_getI C fl_RX4_29 g2 dX4_pull_66 ?_
    refine x_topi (fun x10 e11 => ?_)
    have h := h x10 e11
    refine x_iconst (v := 1) C dX4_pull_69 (by decide) ?_
    refine x_iadd C dX4_pull_70 ?_
    refine x_sipush (v := 255) C dX4_pull_71 (by decide) ?_
    refine x_iand C dX4_pull_74 ?_
    refine x_topi (fun x12 e13 => ?_)
    have h := h x12 e13
    refine x_putI C fl_RX4_29 (Or.inl rfl) g2 dX4_pull_75 ?_
    refine x_aload_n C dX4_pull_78 rfl (lv_at hl 0 rfl) ?_
    refine x_dup C dX4_pull_79 (rfl) ?_
    refine x_getI C fl_RX4_42 g2 dX4_pull_80 ?_
    refine x_topi (fun x14 e15 => ?_)
    have h := h x14 e15
    refine x_iconst (v := 1) C dX4_pull_83 (by decide) ?_
    refine x_isub C dX4_pull_84 ?_
    refine x_topi (fun x16 e17 => ?_)
    have h := h x16 e17
    refine x_putI C fl_RX4_42 (Or.inl rfl) g2 dX4_pull_85 ?_
    refine x_aload_nq C dX4_pull_88 rfl (lv_at hl 1 rfl) ?_
    exact x_aret (v := t.1) C hr dX4_pull_89 ⟨_, rfl, h⟩
  · have h := h.2 c1
    refine x_aload_n C dX4_pull_12 rfl (lv_at hl 0 rfl) ?_
    obtain ⟨g18, h⟩ := h
    refine x_getP C fl_RX4_11 g18 dX4_pull_13 ?_
    refine x_aload_n C dX4_pull_16 rfl (lv_at hl 0 rfl) ?_
    refine x_getI C fl_RX4_29 g18 dX4_pull_17 ?_
    refine x_topi (fun x19 e20 => ?_)
    have h := h x19 e20
    refine x_iload_n C dX4_pull_20 rfl (lv_at hl 2 rfl) ?_
    refine x_iadd C dX4_pull_21 ?_
    refine x_sipush (v := 255) C dX4_pull_22 (by decide) ?_
    refine x_iand C dX4_pull_25 ?_
    refine x_aload_n C dX4_pull_26 rfl (lv_at hl 0 rfl) ?_
    refine x_getP C fl_RX4_11 g18 dX4_pull_27 ?_
    refine x_aload_n C dX4_pull_30 rfl (lv_at hl 0 rfl) ?_
    refine x_getI C fl_RX4_29 g18 dX4_pull_31 ?_
    refine x_topi (fun x21 e22 => ?_)
    have h := h x21 e22
    refine x_iload_n C dX4_pull_34 rfl (lv_at hl 2 rfl) ?_
    refine x_iadd C dX4_pull_35 ?_
    refine x_iconst (v := 1) C dX4_pull_36 (by decide) ?_
    refine x_isub C dX4_pull_37 ?_
    refine x_sipush (v := 255) C dX4_pull_38 (by decide) ?_
    refine x_iand C dX4_pull_41 ?_
    refine x_topi (fun x23 e24 => ?_)
    have h := h x23 e24
    obtain ⟨b25, g26, h⟩ := h
    refine x_nn1 g26 ?_
    obtain ⟨g27, h⟩ := h
    obtain ⟨g28, h⟩ := h
    refine x_aald C rak_19 g27 g28 dX4_pull_42 ?_
    refine x_topq (fun r29 e30 => ?_)
    have h := h r29 e30
    refine x_nn2 g26 ?_
    obtain ⟨g31, h⟩ := h
    obtain ⟨g32, h⟩ := h
    refine x_aast C rak_19 g27 g32 g31 dX4_pull_43 ?_
    obtain ⟨x33, e34⟩ : ∃ z : Int32, z = t.2 + (-1 : Int32) := ⟨_, rfl⟩
    have h := h x33 e34
    refine x_iinc (v := x33) (lv' := [(3, .int x33), (0, .ref a0), (2, va_rf t.1)]) C dX4_pull_44 hl (q0 := 2) rfl (by rw [e34]; rfl) (by decide) (by first | rfl | simp [vrc, cat_i, cat_r, cat_l]) (fun ls hl => ?_)
    refine x_goto (tgt := 8) C dX4_pull_47 (by decide) ?_
    exact hL8 (t.1, x33) _ h ls (lv_sub hl [1, 2, 0] rfl)
def wp_X4_pull (a0 : Nat) (p1 : Int32) (σ : Sto) (Q : Option Nat → Sto → Prop) : Prop := (sK σ a0 = 4 ∧ (wp_X4_at a0 p1 σ (fun (r3 : Option Nat) (σ2 : Sto) => LF (f_X4_pull_8 a0  Q) (r3, p1) σ2)))
set_option maxHeartbeats 4000000 in
set_option maxRecDepth 100000 in
theorem c_X4_pull (l : Launch) (D : va_G) (cy : Nat → ClassId) (a0 : Nat) (p1 : Int32) (σ : Sto) (Q : Option Nat → Sto → Prop) (h : wp_X4_pull a0 p1 σ Q) : Mt l D cy yX4_pull cX4_pull 4 (some (.object "OrderedWorks$Message")) rm_X4_pull [.ref a0, .int p1] σ (PsP Q) := by
  unfold wp_X4_pull at h
  refine mt_of (by decide +kernel) (Nat.le_of_ble_eq_true rfl) ?_
  intro p e s m args below meth c A ls C hr hnm hl
  have C : Cx p s m args meth c D cy A cX4_pull 4 RX4 := C
  have hl : lv_has ls 4 [(0, .ref a0), (1, .int p1)] := hl
  refine x_aload_n C dX4_pull_0 rfl (lv_at hl 0 rfl) ?_
  refine x_iload_n C dX4_pull_1 rfl (lv_at hl 1 rfl) ?_
  obtain ⟨g1, h⟩ := h
  refine x_callV (rm := rm_X4_at) (rest := []) (As := [.int p1]) C cy_RX4_45 g1 (by decide) (by decide) rfl rfl (Nat.le_of_ble_eq_true rfl) hl.1 dX4_pull_2 (c_X4_at l D cy a0 p1 σ _ h) (ks_p (fun r3 σ2 h => ?_))
  refine x_astore_nq (i := 2) (lv' := [(2, va_rf r3), (0, .ref a0), (1, .int p1)]) C dX4_pull_5 rfl hl (by decide) (by first | rfl | simp [vrc, cat_i, cat_r, cat_l]) (fun ls hl => ?_)
  refine x_iload_n C dX4_pull_6 rfl (lv_at hl 2 rfl) ?_
  refine x_istore_n (i := 3) (lv' := [(3, .int p1), (2, va_rf r3), (0, .ref a0), (1, .int p1)]) C dX4_pull_7 rfl hl (by decide) (by first | rfl | simp [vrc, cat_i, cat_r, cat_l]) (fun ls hl => ?_)
  exact h (fun t σ => ∀ ls : Array Slot, lv_has ls 4 [(0, .ref a0), (2, va_rf t.1), (3, .int t.2)] → Xw p l e rm_X4_pull s m args below meth c D cy A σ 0 0 (MQ below (Qst D cy A (PsP Q)) args s rm_X4_pull.cells rm_X4_pull.slots A) (F0 m 8 ls [])) (t_X4_pull_8 C hr hnm  (fun t σ h => h)) ls (lv_sub hl [2, 1, 0] rfl)
theorem dX5_init_0 : decode cX5_init 0 = .ok (.aload_n 0, 1) := by decide +kernel
theorem dX5_init_1 : decode cX5_init 1 = .ok (.invokespecial 3, 3) := by decide +kernel
theorem dX5_init_4 : decode cX5_init 4 = .ok (.aload_n 0, 1) := by decide +kernel
theorem dX5_init_5 : decode cX5_init 5 = .ok (.bipush 9, 2) := by decide +kernel
theorem dX5_init_7 : decode cX5_init 7 = .ok (.newarray .int, 2) := by decide +kernel
theorem dX5_init_9 : decode cX5_init 9 = .ok (.putfield 9, 3) := by decide +kernel
theorem dX5_init_12 : decode cX5_init 12 = .ok (.aload_n 0, 1) := by decide +kernel
theorem dX5_init_13 : decode cX5_init 13 = .ok (.bipush 9, 2) := by decide +kernel
theorem dX5_init_15 : decode cX5_init 15 = .ok (.anewarray 15, 3) := by decide +kernel
theorem dX5_init_18 : decode cX5_init 18 = .ok (.putfield 17, 3) := by decide +kernel
theorem dX5_init_21 : decode cX5_init 21 = .ok (.aload_n 0, 1) := by decide +kernel
theorem dX5_init_22 : decode cX5_init 22 = .ok (.iconst 0, 1) := by decide +kernel
theorem dX5_init_23 : decode cX5_init 23 = .ok (.iload_n 1, 1) := by decide +kernel
theorem dX5_init_24 : decode cX5_init 24 = .ok (.invokestatic 21, 3) := by decide +kernel
theorem dX5_init_27 : decode cX5_init 27 = .ok (.newarray .long, 2) := by decide +kernel
theorem dX5_init_29 : decode cX5_init 29 = .ok (.putfield 27, 3) := by decide +kernel
theorem dX5_init_32 : decode cX5_init 32 = .ok (.aload_n 0, 1) := by decide +kernel
theorem dX5_init_33 : decode cX5_init 33 = .ok (.iconst 0, 1) := by decide +kernel
theorem dX5_init_34 : decode cX5_init 34 = .ok (.iload_n 1, 1) := by decide +kernel
theorem dX5_init_35 : decode cX5_init 35 = .ok (.invokestatic 21, 3) := by decide +kernel
theorem dX5_init_38 : decode cX5_init 38 = .ok (.anewarray 31, 3) := by decide +kernel
theorem dX5_init_41 : decode cX5_init 41 = .ok (.putfield 33, 3) := by decide +kernel
theorem dX5_init_44 : decode cX5_init 44 = .ok (.iconst 0, 1) := by decide +kernel
theorem dX5_init_45 : decode cX5_init 45 = .ok (.istore_n 2, 1) := by decide +kernel
theorem dX5_init_46 : decode cX5_init 46 = .ok (.iload_n 2, 1) := by decide +kernel
theorem dX5_init_47 : decode cX5_init 47 = .ok (.aload_n 0, 1) := by decide +kernel
theorem dX5_init_48 : decode cX5_init 48 = .ok (.getfield 33, 3) := by decide +kernel
theorem dX5_init_51 : decode cX5_init 51 = .ok (.arraylength, 1) := by decide +kernel
theorem dX5_init_52 : decode cX5_init 52 = .ok (.if_icmp .ge 22, 3) := by decide +kernel
theorem dX5_init_55 : decode cX5_init 55 = .ok (.aload_n 0, 1) := by decide +kernel
theorem dX5_init_56 : decode cX5_init 56 = .ok (.getfield 33, 3) := by decide +kernel
theorem dX5_init_59 : decode cX5_init 59 = .ok (.iload_n 2, 1) := by decide +kernel
theorem dX5_init_60 : decode cX5_init 60 = .ok (.new 31, 3) := by decide +kernel
theorem dX5_init_63 : decode cX5_init 63 = .ok (.dup, 1) := by decide +kernel
theorem dX5_init_64 : decode cX5_init 64 = .ok (.invokespecial 37, 3) := by decide +kernel
theorem dX5_init_67 : decode cX5_init 67 = .ok (.aastore, 1) := by decide +kernel
theorem dX5_init_68 : decode cX5_init 68 = .ok (.iinc 2 1, 3) := by decide +kernel
theorem dX5_init_71 : decode cX5_init 71 = .ok (.goto (-25), 3) := by decide +kernel
theorem dX5_init_74 : decode cX5_init 74 = .ok (.return_, 1) := by decide +kernel
abbrev rm_X5_init : Room := { frames := 2, cells := 18, slots := 753, locals := 40 }
def f_X5_init_46 (a0 : Nat)  (Q : Sto → Prop) (L46 : Int32 × Nat × Nat → Sto → Prop) (t : Int32 × Nat × Nat) (σ : Sto) : Prop := (sK σ a0 = 5 ∧ (∃ b2 : Nat, sP σ a0 8 = some b2 ∧ (sK σ b2 = 18 ∧ (((nI (sN σ b2)) ≤ t.1 → ((t.2.1 ≤ 18 ∧ t.2.2 ≤ 753) ∧ Q σ)) ∧ (¬ (nI (sN σ b2)) ≤ t.1 → (t.2.1 + 1 ≤ 18 ∧ t.2.2 + 3 ≤ 753 ∧ (∀ q8 : Nat, ¬ sK σ q8 < 23 → ∀ σ10 : Sto, σ10 = stN σ q8 2 0 → (((t.2.1 + 1) + 1 ≤ 18 ∧ (t.2.2 + 3) + 100 ≤ 753) ∧ (wp_X2_init q8  σ10 (fun (σ13 : Sto) => (sK σ13 b2 = 18 ∧ (vp_in t.1 (sN σ13 b2) ∧ (sK σ13 q8 = 2 ∧ (∀ x17 : Int32, x17 = t.1 + (1 : Int32) → L46 (x17, ((t.2.1 + 1) + 1), ((t.2.2 + 3) + 100)) (stP σ13 b2 t.1.toNatClampNeg (some q8))))))))))))))))
set_option maxHeartbeats 4000000 in
set_option maxRecDepth 100000 in
theorem t_X5_init_46 {p : Program} {l : Launch} {e : Env} {s : State} {m : MethodId} {args : Array Value} {below : List Frame} {meth : Method} {c : Code} {D : va_G} {cy : Nat → ClassId} {A : Nat → Prop} {a0 : Nat} {Q : Sto → Prop} {L46 : Int32 × Nat × Nat → Sto → Prop} (C : Cx p s m args meth c D cy A cX5_init 3 RX5) (hr : meth.sig.returnType = none) (hnm : meth.name = yX5_init.name) (hL46 : ∀ (t : Int32 × Nat × Nat) (σ : Sto), L46 t σ → ∀ ls : Array Slot, lv_has ls 3 [(0, .ref a0), (2, .int t.1)] → Xw p l e rm_X5_init s m args below meth c D cy A σ t.2.1 t.2.2 (MQ below (Qst D cy A (PsV Q)) args s rm_X5_init.cells rm_X5_init.slots A) (F0 m 46 ls [])) : ∀ (t : Int32 × Nat × Nat) (σ : Sto), f_X5_init_46 a0  Q L46 t σ → ∀ ls : Array Slot, lv_has ls 3 [(0, .ref a0), (2, .int t.1)] → Xw p l e rm_X5_init s m args below meth c D cy A σ t.2.1 t.2.2 (MQ below (Qst D cy A (PsV Q)) args s rm_X5_init.cells rm_X5_init.slots A) (F0 m 46 ls []) := by
  intro t σ h ls hl
  unfold f_X5_init_46 at h
  refine x_iload_n C dX5_init_46 rfl (lv_at hl 1 rfl) ?_
  refine x_aload_n C dX5_init_47 rfl (lv_at hl 0 rfl) ?_
  obtain ⟨g1, h⟩ := h
  refine x_getP C fl_RX5_33 g1 dX5_init_48 ?_
  obtain ⟨b2, g3, h⟩ := h
  refine x_nn0 g3 ?_
  obtain ⟨g4, h⟩ := h
  refine x_alen C g4 (by decide) (by decide) dX5_init_51 ?_
  refine x_icmp_ge (tgt := 74) C dX5_init_52 (by decide) (fun c5 => ?_) (fun c5 => ?_)
  · have h := h.1 c5
    refine x_widen h.1.1 h.1.2 ?_
    exact x_vret C hr dX5_init_74 ⟨rfl, h.2⟩
  · have h := h.2 c5
    refine x_aload_n C dX5_init_55 rfl (lv_at hl 0 rfl) ?_
    refine x_getP C fl_RX5_33 g1 dX5_init_56 ?_
    refine x_iload_n C dX5_init_59 rfl (lv_at hl 1 rfl) ?_
    obtain ⟨g6, g7, h⟩ := h
    refine x_new C cls_2 cl_RX5_31 ins_2 ini_2 g6 g7 dX5_init_60 (fun q8 g9 => ?_)
    refine x_nameS (fun σ10 e11 => ?_)
    have h := h q8 g9 σ10 e11
    refine x_dup C dX5_init_63 (rfl) ?_
    obtain ⟨g12, h⟩ := h
    refine x_callIN (rm := rm_X2_init) (rest := [.ref q8, .int t.1, va_rf (sP σ a0 8)]) (As := []) C cn_RX5_37 (by decide) g12 rfl rfl (by simp [vrc, cat_i, cat_r, cat_l]) hl.1 dX5_init_64 (c_X2_init l D cy q8  σ10 _ h) (ks_v (fun σ13 h => ?_))
    refine x_nn2 g3 ?_
    obtain ⟨g14, h⟩ := h
    obtain ⟨g15, h⟩ := h
    obtain ⟨g16, h⟩ := h
    refine x_aastR C rak_18 g14 g16 g15 dX5_init_67 ?_
    obtain ⟨x17, e18⟩ : ∃ z : Int32, z = t.1 + (1 : Int32) := ⟨_, rfl⟩
    have h := h x17 e18
    refine x_iinc (v := x17) (lv' := [(2, .int x17), (0, .ref a0)]) C dX5_init_68 hl (q0 := 1) rfl (by rw [e18]; rfl) (by decide) (by first | rfl | simp [vrc, cat_i, cat_r, cat_l]) (fun ls hl => ?_)
    refine x_goto (tgt := 46) C dX5_init_71 (by decide) ?_
    exact hL46 (x17, ((t.2.1 + 1) + 1), ((t.2.2 + 3) + 100)) _ h ls (lv_sub hl [1, 0] rfl)
def wp_X5_init (a0 : Nat) (p1 : Int32) (σ : Sto) (Q : Sto → Prop) : Prop := (0 + 1 ≤ 18 ∧ 0 + 9 ≤ 753 ∧ (∀ q3 : Nat, ¬ sK σ q3 < 23 → ∀ σ5 : Sto, σ5 = stN σ q3 14 9 → (sK σ5 a0 = 5 ∧ ((0 + 1) + 1 ≤ 18 ∧ (0 + 9) + 9 ≤ 753 ∧ (∀ q10 : Nat, ¬ sK σ5 q10 < 23 → ∀ σ12 : Sto, σ12 = stN (stP σ5 a0 0 (some q3)) q10 22 9 → (sK σ12 a0 = 5 ∧ ((((0 + 1) + 1) ≤ 18 ∧ ((0 + 9) + 9) ≤ 753) ∧ (wp_J9_max_7cf53 (0 : Int32) p1 (stP σ12 a0 1 (some q10)) (fun (x17 : Int32) (σ16 : Sto) => (¬ x17 < 0 ∧ x17.toNatClampNeg ≤ 67108864 ∧ ((0 + 1) + 1) + 1 ≤ 18 ∧ ((0 + 9) + 9) + x17.toNatClampNeg ≤ 753 ∧ (∀ q22 : Nat, ¬ sK σ16 q22 < 23 → ∀ σ24 : Sto, σ24 = stN σ16 q22 15 x17.toNatClampNeg → (sK σ24 a0 = 5 ∧ (((((0 + 1) + 1) + 1) ≤ 18 ∧ (((0 + 9) + 9) + x17.toNatClampNeg) ≤ 753) ∧ (wp_J9_max_7cf53 (0 : Int32) p1 (stP σ24 a0 7 (some q22)) (fun (x29 : Int32) (σ28 : Sto) => (¬ x29 < 0 ∧ x29.toNatClampNeg ≤ 67108864 ∧ (((0 + 1) + 1) + 1) + 1 ≤ 18 ∧ (((0 + 9) + 9) + x17.toNatClampNeg) + x29.toNatClampNeg ≤ 753 ∧ (∀ q34 : Nat, ¬ sK σ28 q34 < 23 → ∀ σ36 : Sto, σ36 = stN σ28 q34 18 x29.toNatClampNeg → (sK σ36 a0 = 5 ∧ LF (f_X5_init_46 a0  Q) ((0 : Int32), ((((0 + 1) + 1) + 1) + 1), ((((0 + 9) + 9) + x17.toNatClampNeg) + x29.toNatClampNeg)) (stP σ36 a0 8 (some q34))))))))))))))))))))
set_option maxHeartbeats 4000000 in
set_option maxRecDepth 100000 in
theorem c_X5_init (l : Launch) (D : va_G) (cy : Nat → ClassId) (a0 : Nat) (p1 : Int32) (σ : Sto) (Q : Sto → Prop) (h : wp_X5_init a0 p1 σ Q) : Mt l D cy yX5_init cX5_init 3 none rm_X5_init [.ref a0, .int p1] σ (PsV Q) := by
  unfold wp_X5_init at h
  refine mt_of (by decide +kernel) (Nat.le_of_ble_eq_true rfl) ?_
  intro p e s m args below meth c A ls C hr hnm hl
  have C : Cx p s m args meth c D cy A cX5_init 3 RX5 := C
  have hl : lv_has ls 3 [(0, .ref a0), (1, .int p1)] := hl
  refine x_aload_n C dX5_init_0 rfl (lv_at hl 0 rfl) ?_
  refine x_objInit C oi_RX5_3 oi_w2 oi_w3 hl.1 (by decide) (Nat.le_of_ble_eq_true rfl) dX5_init_1 ?_
  refine x_aload_n C dX5_init_4 rfl (lv_at hl 0 rfl) ?_
  refine x_bipush (v := 9) C dX5_init_5 (by decide) ?_
  obtain ⟨g1, g2, h⟩ := h
  refine x_newa C nak_14 (by decide) (by decide) (by decide) g1 g2 dX5_init_7 (fun q3 g4 => ?_)
  refine x_nameS (fun σ5 e6 => ?_)
  have h := h q3 g4 σ5 e6
  obtain ⟨g7, h⟩ := h
  refine x_putR C fl_RX5_9 (rty_a _) (Or.inr ⟨hnm, _, _, _, rfl, rfl⟩) g7 dX5_init_9 ?_
  refine x_aload_n C dX5_init_12 rfl (lv_at hl 0 rfl) ?_
  refine x_bipush (v := 9) C dX5_init_13 (by decide) ?_
  obtain ⟨g8, g9, h⟩ := h
  refine x_newq C rak_22 (fun _ => rfl) (by decide) cl_RX5_15 (by decide) (by decide) (by decide) g8 g9 dX5_init_15 (fun q10 g11 => ?_)
  refine x_nameS (fun σ12 e13 => ?_)
  have h := h q10 g11 σ12 e13
  obtain ⟨g14, h⟩ := h
  refine x_putR C fl_RX5_17 (rty_a _) (Or.inr ⟨hnm, _, _, _, rfl, rfl⟩) g14 dX5_init_18 ?_
  refine x_aload_n C dX5_init_21 rfl (lv_at hl 0 rfl) ?_
  refine x_iconst (v := 0) C dX5_init_22 (by decide) ?_
  refine x_iload_n C dX5_init_23 rfl (lv_at hl 1 rfl) ?_
  obtain ⟨g15, h⟩ := h
  refine x_callS (rm := rm_J9_max_7cf53) (rest := [.ref a0]) (As := [.int (0 : Int32), .int p1]) C cs_RX5_21 (by decide) g15 rfl rfl (Nat.le_of_ble_eq_true rfl) hl.1 dX5_init_24 (c_J9_max_7cf53 l D cy (0 : Int32) p1 (stP σ12 a0 1 (some q10)) _ h) (ks_i (fun x17 σ16 h => ?_))
  obtain ⟨g20, g21, g18, g19, h⟩ := h
  refine x_newa C nak_15 g20 rfl g21 g18 g19 dX5_init_27 (fun q22 g23 => ?_)
  refine x_nameS (fun σ24 e25 => ?_)
  have h := h q22 g23 σ24 e25
  obtain ⟨g26, h⟩ := h
  refine x_putR C fl_RX5_27 (rty_a _) (Or.inr ⟨hnm, _, _, _, rfl, rfl⟩) g26 dX5_init_29 ?_
  refine x_aload_n C dX5_init_32 rfl (lv_at hl 0 rfl) ?_
  refine x_iconst (v := 0) C dX5_init_33 (by decide) ?_
  refine x_iload_n C dX5_init_34 rfl (lv_at hl 1 rfl) ?_
  obtain ⟨g27, h⟩ := h
  refine x_callS (rm := rm_J9_max_7cf53) (rest := [.ref a0]) (As := [.int (0 : Int32), .int p1]) C cs_RX5_21 (by decide) g27 rfl rfl (Nat.le_of_ble_eq_true rfl) hl.1 dX5_init_35 (c_J9_max_7cf53 l D cy (0 : Int32) p1 (stP σ24 a0 7 (some q22)) _ h) (ks_i (fun x29 σ28 h => ?_))
  obtain ⟨g32, g33, g30, g31, h⟩ := h
  refine x_newq C rak_18 (fun _ => rfl) (by decide) cl_RX5_31 g32 rfl g33 g30 g31 dX5_init_38 (fun q34 g35 => ?_)
  refine x_nameS (fun σ36 e37 => ?_)
  have h := h q34 g35 σ36 e37
  obtain ⟨g38, h⟩ := h
  refine x_putR C fl_RX5_33 (rty_a _) (Or.inr ⟨hnm, _, _, _, rfl, rfl⟩) g38 dX5_init_41 ?_
  refine x_iconst (v := 0) C dX5_init_44 (by decide) ?_
  refine x_istore_n (i := 2) (lv' := [(2, .int (0 : Int32)), (0, .ref a0), (1, .int p1)]) C dX5_init_45 rfl hl (by decide) (by first | rfl | simp [vrc, cat_i, cat_r, cat_l]) (fun ls hl => ?_)
  exact h (fun t σ => ∀ ls : Array Slot, lv_has ls 3 [(0, .ref a0), (2, .int t.1)] → Xw p l e rm_X5_init s m args below meth c D cy A σ t.2.1 t.2.2 (MQ below (Qst D cy A (PsV Q)) args s rm_X5_init.cells rm_X5_init.slots A) (F0 m 46 ls [])) (t_X5_init_46 C hr hnm  (fun t σ h => h)) ls (lv_sub hl [1, 0] rfl)
theorem dX5_clear_0 : decode cX5_clear 0 = .ok (.aload_n 0, 1) := by decide +kernel
theorem dX5_clear_1 : decode cX5_clear 1 = .ok (.iconst 0, 1) := by decide +kernel
theorem dX5_clear_2 : decode cX5_clear 2 = .ok (.putfield 38, 3) := by decide +kernel
theorem dX5_clear_5 : decode cX5_clear 5 = .ok (.aload_n 0, 1) := by decide +kernel
theorem dX5_clear_6 : decode cX5_clear 6 = .ok (.iconst 0, 1) := by decide +kernel
theorem dX5_clear_7 : decode cX5_clear 7 = .ok (.putfield 42, 3) := by decide +kernel
theorem dX5_clear_10 : decode cX5_clear 10 = .ok (.aload_n 0, 1) := by decide +kernel
theorem dX5_clear_11 : decode cX5_clear 11 = .ok (.iconst 0, 1) := by decide +kernel
theorem dX5_clear_12 : decode cX5_clear 12 = .ok (.putfield 45, 3) := by decide +kernel
theorem dX5_clear_15 : decode cX5_clear 15 = .ok (.aload_n 0, 1) := by decide +kernel
theorem dX5_clear_16 : decode cX5_clear 16 = .ok (.iconst 0, 1) := by decide +kernel
theorem dX5_clear_17 : decode cX5_clear 17 = .ok (.putfield 48, 3) := by decide +kernel
theorem dX5_clear_20 : decode cX5_clear 20 = .ok (.aload_n 0, 1) := by decide +kernel
theorem dX5_clear_21 : decode cX5_clear 21 = .ok (.iconst 0, 1) := by decide +kernel
theorem dX5_clear_22 : decode cX5_clear 22 = .ok (.putfield 51, 3) := by decide +kernel
theorem dX5_clear_25 : decode cX5_clear 25 = .ok (.return_, 1) := by decide +kernel
abbrev rm_X5_clear : Room := { frames := 0, cells := 0, slots := 0, locals := 0 }
def wp_X5_clear (a0 : Nat)  (σ : Sto) (Q : Sto → Prop) : Prop := (sK σ a0 = 5 ∧ Q (stI (stI (stI (stI (stI σ a0 2 (0 : Int32)) a0 3 (0 : Int32)) a0 4 (0 : Int32)) a0 5 (0 : Int32)) a0 6 (0 : Int32)))
set_option maxHeartbeats 4000000 in
set_option maxRecDepth 100000 in
theorem c_X5_clear (l : Launch) (D : va_G) (cy : Nat → ClassId) (a0 : Nat)  (σ : Sto) (Q : Sto → Prop) (h : wp_X5_clear a0  σ Q) : Mt l D cy yX5_clear cX5_clear 1 none rm_X5_clear [.ref a0] σ (PsV Q) := by
  unfold wp_X5_clear at h
  refine mt_of (by decide +kernel) (Nat.le_of_ble_eq_true rfl) ?_
  intro p e s m args below meth c A ls C hr hnm hl
  have C : Cx p s m args meth c D cy A cX5_clear 1 RX5 := C
  have hl : lv_has ls 1 [(0, .ref a0)] := hl
  refine x_aload_n C dX5_clear_0 rfl (lv_at hl 0 rfl) ?_
  refine x_iconst (v := 0) C dX5_clear_1 (by decide) ?_
  obtain ⟨g1, h⟩ := h
  refine x_putI C fl_RX5_38 (Or.inl rfl) g1 dX5_clear_2 ?_
  refine x_aload_n C dX5_clear_5 rfl (lv_at hl 0 rfl) ?_
  refine x_iconst (v := 0) C dX5_clear_6 (by decide) ?_
  refine x_putI C fl_RX5_42 (Or.inl rfl) g1 dX5_clear_7 ?_
  refine x_aload_n C dX5_clear_10 rfl (lv_at hl 0 rfl) ?_
  refine x_iconst (v := 0) C dX5_clear_11 (by decide) ?_
  refine x_putI C fl_RX5_45 (Or.inl rfl) g1 dX5_clear_12 ?_
  refine x_aload_n C dX5_clear_15 rfl (lv_at hl 0 rfl) ?_
  refine x_iconst (v := 0) C dX5_clear_16 (by decide) ?_
  refine x_putI C fl_RX5_48 (Or.inl rfl) g1 dX5_clear_17 ?_
  refine x_aload_n C dX5_clear_20 rfl (lv_at hl 0 rfl) ?_
  refine x_iconst (v := 0) C dX5_clear_21 (by decide) ?_
  refine x_putI C fl_RX5_51 (Or.inl rfl) g1 dX5_clear_22 ?_
  exact x_vret C hr dX5_clear_25 ⟨rfl, h⟩
theorem dX5_find_0 : decode cX5_find 0 = .ok (.iconst 0, 1) := by decide +kernel
theorem dX5_find_1 : decode cX5_find 1 = .ok (.istore_n 2, 1) := by decide +kernel
theorem dX5_find_2 : decode cX5_find 2 = .ok (.iload_n 2, 1) := by decide +kernel
theorem dX5_find_3 : decode cX5_find 3 = .ok (.aload_n 0, 1) := by decide +kernel
theorem dX5_find_4 : decode cX5_find 4 = .ok (.getfield 38, 3) := by decide +kernel
theorem dX5_find_7 : decode cX5_find 7 = .ok (.if_icmp .ge 27, 3) := by decide +kernel
theorem dX5_find_10 : decode cX5_find 10 = .ok (.iload_n 2, 1) := by decide +kernel
theorem dX5_find_11 : decode cX5_find 11 = .ok (.bipush 9, 2) := by decide +kernel
theorem dX5_find_13 : decode cX5_find 13 = .ok (.if_icmp .ge 21, 3) := by decide +kernel
theorem dX5_find_16 : decode cX5_find 16 = .ok (.aload_n 0, 1) := by decide +kernel
theorem dX5_find_17 : decode cX5_find 17 = .ok (.getfield 9, 3) := by decide +kernel
theorem dX5_find_20 : decode cX5_find 20 = .ok (.iload_n 2, 1) := by decide +kernel
theorem dX5_find_21 : decode cX5_find 21 = .ok (.iaload, 1) := by decide +kernel
theorem dX5_find_22 : decode cX5_find 22 = .ok (.iload_n 1, 1) := by decide +kernel
theorem dX5_find_23 : decode cX5_find 23 = .ok (.if_icmp .ne 5, 3) := by decide +kernel
theorem dX5_find_26 : decode cX5_find 26 = .ok (.iload_n 2, 1) := by decide +kernel
theorem dX5_find_27 : decode cX5_find 27 = .ok (.ireturn, 1) := by decide +kernel
theorem dX5_find_28 : decode cX5_find 28 = .ok (.iinc 2 1, 3) := by decide +kernel
theorem dX5_find_31 : decode cX5_find 31 = .ok (.goto (-29), 3) := by decide +kernel
theorem dX5_find_34 : decode cX5_find 34 = .ok (.iconst (-1), 1) := by decide +kernel
theorem dX5_find_35 : decode cX5_find 35 = .ok (.ireturn, 1) := by decide +kernel
abbrev rm_X5_find : Room := { frames := 0, cells := 0, slots := 0, locals := 0 }
def f_X5_find_2 (a0 : Nat)  (Q : Int32 → Sto → Prop) (L2 : Int32 × Int32 → Sto → Prop) (t : Int32 × Int32) (σ : Sto) : Prop := (sK σ a0 = 5 ∧ (∀ x2 : Int32, x2 = sI σ a0 2 → ((x2 ≤ t.2 → Q (-1 : Int32) σ) ∧ (¬ x2 ≤ t.2 → (((9 : Int32) ≤ t.2 → Q (-1 : Int32) σ) ∧ (¬ (9 : Int32) ≤ t.2 → (∃ b6 : Nat, sP σ a0 0 = some b6 ∧ (sK σ b6 = 14 ∧ (vp_in t.2 (sN σ b6) ∧ (∀ x10 : Int32, x10 = sI σ b6 t.2.toNatClampNeg → ((¬ x10 = t.1 → (∀ x13 : Int32, x13 = t.2 + (1 : Int32) → L2 (t.1, x13) σ)) ∧ (x10 = t.1 → Q t.2 σ))))))))))))
set_option maxHeartbeats 4000000 in
set_option maxRecDepth 100000 in
theorem t_X5_find_2 {p : Program} {l : Launch} {e : Env} {s : State} {m : MethodId} {args : Array Value} {below : List Frame} {meth : Method} {c : Code} {D : va_G} {cy : Nat → ClassId} {A : Nat → Prop} {a0 : Nat} {Q : Int32 → Sto → Prop} {L2 : Int32 × Int32 → Sto → Prop} (C : Cx p s m args meth c D cy A cX5_find 3 RX5) (hr : meth.sig.returnType = (some .int)) (hnm : meth.name = yX5_find.name) (hL2 : ∀ (t : Int32 × Int32) (σ : Sto), L2 t σ → ∀ ls : Array Slot, lv_has ls 3 [(0, .ref a0), (1, .int t.1), (2, .int t.2)] → Xw p l e rm_X5_find s m args below meth c D cy A σ 0 0 (MQ below (Qst D cy A (PsI Q)) args s rm_X5_find.cells rm_X5_find.slots A) (F0 m 2 ls [])) : ∀ (t : Int32 × Int32) (σ : Sto), f_X5_find_2 a0  Q L2 t σ → ∀ ls : Array Slot, lv_has ls 3 [(0, .ref a0), (1, .int t.1), (2, .int t.2)] → Xw p l e rm_X5_find s m args below meth c D cy A σ 0 0 (MQ below (Qst D cy A (PsI Q)) args s rm_X5_find.cells rm_X5_find.slots A) (F0 m 2 ls []) := by
  intro t σ h ls hl
  unfold f_X5_find_2 at h
  refine x_iload_n C dX5_find_2 rfl (lv_at hl 2 rfl) ?_
  refine x_aload_n C dX5_find_3 rfl (lv_at hl 0 rfl) ?_
  obtain ⟨g1, h⟩ := h
  refine x_getI C fl_RX5_38 g1 dX5_find_4 ?_
  refine x_topi (fun x2 e3 => ?_)
  have h := h x2 e3
  refine x_icmp_ge (tgt := 34) C dX5_find_7 (by decide) (fun c4 => ?_) (fun c4 => ?_)
  · have h := h.1 c4
    refine x_iconst (v := -1) C dX5_find_34 (by decide) ?_
    exact x_iret C hr dX5_find_35 ⟨_, rfl, h⟩
  · have h := h.2 c4
    refine x_iload_n C dX5_find_10 rfl (lv_at hl 2 rfl) ?_
    refine x_bipush (v := 9) C dX5_find_11 (by decide) ?_
    refine x_icmp_ge (tgt := 34) C dX5_find_13 (by decide) (fun c5 => ?_) (fun c5 => ?_)
    · have h := h.1 c5
      refine x_iconst (v := -1) C dX5_find_34 (by decide) ?_
      exact x_iret C hr dX5_find_35 ⟨_, rfl, h⟩
    · have h := h.2 c5
      refine x_aload_n C dX5_find_16 rfl (lv_at hl 0 rfl) ?_
      refine x_getP C fl_RX5_9 g1 dX5_find_17 ?_
      refine x_iload_n C dX5_find_20 rfl (lv_at hl 2 rfl) ?_
      obtain ⟨b6, g7, h⟩ := h
      refine x_nn1 g7 ?_
      obtain ⟨g8, h⟩ := h
      obtain ⟨g9, h⟩ := h
      refine x_iald C g8 g9 dX5_find_21 ?_
      refine x_topi (fun x10 e11 => ?_)
      have h := h x10 e11
      refine x_iload_n C dX5_find_22 rfl (lv_at hl 1 rfl) ?_
      refine x_icmp_ne (tgt := 28) C dX5_find_23 (by decide) (fun c12 => ?_) (fun c12 => ?_)
      · have h := h.1 c12
        obtain ⟨x13, e14⟩ : ∃ z : Int32, z = t.2 + (1 : Int32) := ⟨_, rfl⟩
        have h := h x13 e14
        refine x_iinc (v := x13) (lv' := [(2, .int x13), (0, .ref a0), (1, .int t.1)]) C dX5_find_28 hl (q0 := 2) rfl (by rw [e14]; rfl) (by decide) (by first | rfl | simp [vrc, cat_i, cat_r, cat_l]) (fun ls hl => ?_)
        refine x_goto (tgt := 2) C dX5_find_31 (by decide) ?_
        exact hL2 (t.1, x13) _ h ls (lv_sub hl [1, 2, 0] rfl)
      · have h := h.2 c12
        refine x_iload_n C dX5_find_26 rfl (lv_at hl 2 rfl) ?_
        exact x_iret C hr dX5_find_27 ⟨_, rfl, h⟩
def wp_X5_find (a0 : Nat) (p1 : Int32) (σ : Sto) (Q : Int32 → Sto → Prop) : Prop := LF (f_X5_find_2 a0  Q) (p1, (0 : Int32)) σ
set_option maxHeartbeats 4000000 in
set_option maxRecDepth 100000 in
theorem c_X5_find (l : Launch) (D : va_G) (cy : Nat → ClassId) (a0 : Nat) (p1 : Int32) (σ : Sto) (Q : Int32 → Sto → Prop) (h : wp_X5_find a0 p1 σ Q) : Mt l D cy yX5_find cX5_find 3 (some .int) rm_X5_find [.ref a0, .int p1] σ (PsI Q) := by
  unfold wp_X5_find at h
  refine mt_of (by decide +kernel) (Nat.le_of_ble_eq_true rfl) ?_
  intro p e s m args below meth c A ls C hr hnm hl
  have C : Cx p s m args meth c D cy A cX5_find 3 RX5 := C
  have hl : lv_has ls 3 [(0, .ref a0), (1, .int p1)] := hl
  refine x_iconst (v := 0) C dX5_find_0 (by decide) ?_
  refine x_istore_n (i := 2) (lv' := [(2, .int (0 : Int32)), (0, .ref a0), (1, .int p1)]) C dX5_find_1 rfl hl (by decide) (by first | rfl | simp [vrc, cat_i, cat_r, cat_l]) (fun ls hl => ?_)
  exact h (fun t σ => ∀ ls : Array Slot, lv_has ls 3 [(0, .ref a0), (1, .int t.1), (2, .int t.2)] → Xw p l e rm_X5_find s m args below meth c D cy A σ 0 0 (MQ below (Qst D cy A (PsI Q)) args s rm_X5_find.cells rm_X5_find.slots A) (F0 m 2 ls [])) (t_X5_find_2 C hr hnm  (fun t σ h => h)) ls (lv_sub hl [1, 2, 0] rfl)
theorem dX5_hold_0 : decode cX5_hold 0 = .ok (.aload_n 0, 1) := by decide +kernel
theorem dX5_hold_1 : decode cX5_hold 1 = .ok (.iload_n 1, 1) := by decide +kernel
theorem dX5_hold_2 : decode cX5_hold 2 = .ok (.invokevirtual 54, 3) := by decide +kernel
theorem dX5_hold_5 : decode cX5_hold 5 = .ok (.istore_n 3, 1) := by decide +kernel
theorem dX5_hold_6 : decode cX5_hold 6 = .ok (.iload_n 3, 1) := by decide +kernel
theorem dX5_hold_7 : decode cX5_hold 7 = .ok (.iconst (-1), 1) := by decide +kernel
theorem dX5_hold_8 : decode cX5_hold 8 = .ok (.if_icmp .ne 8, 3) := by decide +kernel
theorem dX5_hold_11 : decode cX5_hold 11 = .ok (.aload_n 0, 1) := by decide +kernel
theorem dX5_hold_12 : decode cX5_hold 12 = .ok (.getfield 38, 3) := by decide +kernel
theorem dX5_hold_15 : decode cX5_hold 15 = .ok (.istore_n 3, 1) := by decide +kernel
theorem dX5_hold_16 : decode cX5_hold 16 = .ok (.iload_n 3, 1) := by decide +kernel
theorem dX5_hold_17 : decode cX5_hold 17 = .ok (.ifCond .lt 9, 3) := by decide +kernel
theorem dX5_hold_20 : decode cX5_hold 20 = .ok (.iload_n 3, 1) := by decide +kernel
theorem dX5_hold_21 : decode cX5_hold 21 = .ok (.bipush 9, 2) := by decide +kernel
theorem dX5_hold_23 : decode cX5_hold 23 = .ok (.if_icmp .lt 4, 3) := by decide +kernel
theorem dX5_hold_26 : decode cX5_hold 26 = .ok (.return_, 1) := by decide +kernel
theorem dX5_hold_27 : decode cX5_hold 27 = .ok (.aload_n 0, 1) := by decide +kernel
theorem dX5_hold_28 : decode cX5_hold 28 = .ok (.getfield 9, 3) := by decide +kernel
theorem dX5_hold_31 : decode cX5_hold 31 = .ok (.iload_n 3, 1) := by decide +kernel
theorem dX5_hold_32 : decode cX5_hold 32 = .ok (.iload_n 1, 1) := by decide +kernel
theorem dX5_hold_33 : decode cX5_hold 33 = .ok (.iastore, 1) := by decide +kernel
theorem dX5_hold_34 : decode cX5_hold 34 = .ok (.aload_n 0, 1) := by decide +kernel
theorem dX5_hold_35 : decode cX5_hold 35 = .ok (.getfield 17, 3) := by decide +kernel
theorem dX5_hold_38 : decode cX5_hold 38 = .ok (.iload_n 3, 1) := by decide +kernel
theorem dX5_hold_39 : decode cX5_hold 39 = .ok (.aload_n 2, 1) := by decide +kernel
theorem dX5_hold_40 : decode cX5_hold 40 = .ok (.aastore, 1) := by decide +kernel
theorem dX5_hold_41 : decode cX5_hold 41 = .ok (.aload_n 0, 1) := by decide +kernel
theorem dX5_hold_42 : decode cX5_hold 42 = .ok (.aload_n 0, 1) := by decide +kernel
theorem dX5_hold_43 : decode cX5_hold 43 = .ok (.getfield 38, 3) := by decide +kernel
theorem dX5_hold_46 : decode cX5_hold 46 = .ok (.iload_n 3, 1) := by decide +kernel
theorem dX5_hold_47 : decode cX5_hold 47 = .ok (.iconst 1, 1) := by decide +kernel
theorem dX5_hold_48 : decode cX5_hold 48 = .ok (.iadd, 1) := by decide +kernel
theorem dX5_hold_49 : decode cX5_hold 49 = .ok (.invokestatic 21, 3) := by decide +kernel
theorem dX5_hold_52 : decode cX5_hold 52 = .ok (.putfield 38, 3) := by decide +kernel
theorem dX5_hold_55 : decode cX5_hold 55 = .ok (.return_, 1) := by decide +kernel
abbrev rm_X5_hold : Room := { frames := 1, cells := 0, slots := 0, locals := 22 }
def b_X5_hold_16 (a0 : Nat)  (Q : Sto → Prop) (p1 : Int32) (p2 : Option Nat) (p3 : Int32) (σ : Sto) : Prop := ((p3 < 0 → Q σ) ∧ (¬ p3 < 0 → ((p3 < (9 : Int32) → (sK σ a0 = 5 ∧ (∃ b4 : Nat, sP σ a0 0 = some b4 ∧ (sK σ b4 = 14 ∧ (vp_in p3 (sN σ b4) ∧ (∃ b8 : Nat, sP σ a0 1 = some b8 ∧ (sK σ b8 = 22 ∧ (vp_in p3 (sN σ b8) ∧ ((∀ b, p2 = some b → sK σ b = 9) ∧ (∀ x13 : Int32, x13 = sI (stI σ b4 p3.toNatClampNeg p1) a0 2 → (wp_J9_max_7cf53 x13 (p3 + (1 : Int32)) (stP (stI σ b4 p3.toNatClampNeg p1) b8 p3.toNatClampNeg p2) (fun (x16 : Int32) (σ15 : Sto) => (sK σ15 a0 = 5 ∧ Q (stI σ15 a0 2 x16)))))))))))))) ∧ (¬ p3 < (9 : Int32) → Q σ))))
set_option maxHeartbeats 4000000 in
set_option maxRecDepth 100000 in
theorem t_X5_hold_16 {p : Program} {l : Launch} {e : Env} {s : State} {m : MethodId} {args : Array Value} {below : List Frame} {meth : Method} {c : Code} {D : va_G} {cy : Nat → ClassId} {A : Nat → Prop} {a0 : Nat} {Q : Sto → Prop} (C : Cx p s m args meth c D cy A cX5_hold 4 RX5) (hr : meth.sig.returnType = none) (hnm : meth.name = yX5_hold.name) (p1 : Int32) (p2 : Option Nat) (p3 : Int32) (σ : Sto) (h : b_X5_hold_16 a0  Q p1 p2 p3 σ) (ls : Array Slot) (hl : lv_has ls 4 [(0, .ref a0), (1, .int p1), (2, va_rf p2), (3, .int p3)]) : Xw p l e rm_X5_hold s m args below meth c D cy A σ 0 0 (MQ below (Qst D cy A (PsV Q)) args s rm_X5_hold.cells rm_X5_hold.slots A) (F0 m 16 ls []) := by
  unfold b_X5_hold_16 at h
  refine x_iload_n C dX5_hold_16 rfl (lv_at hl 3 rfl) ?_
  refine x_if_lt (tgt := 26) C dX5_hold_17 (by decide) (fun c1 => ?_) (fun c1 => ?_)
  · have h := h.1 c1
    exact x_vret C hr dX5_hold_26 ⟨rfl, h⟩
  · have h := h.2 c1
    refine x_iload_n C dX5_hold_20 rfl (lv_at hl 3 rfl) ?_
    refine x_bipush (v := 9) C dX5_hold_21 (by decide) ?_
    refine x_icmp_lt (tgt := 27) C dX5_hold_23 (by decide) (fun c2 => ?_) (fun c2 => ?_)
    · have h := h.1 c2
      refine x_aload_n C dX5_hold_27 rfl (lv_at hl 0 rfl) ?_
      obtain ⟨g3, h⟩ := h
      refine x_getP C fl_RX5_9 g3 dX5_hold_28 ?_
      refine x_iload_n C dX5_hold_31 rfl (lv_at hl 3 rfl) ?_
      refine x_iload_n C dX5_hold_32 rfl (lv_at hl 1 rfl) ?_
      obtain ⟨b4, g5, h⟩ := h
      refine x_nn2 g5 ?_
      obtain ⟨g6, h⟩ := h
      obtain ⟨g7, h⟩ := h
      refine x_iast C g6 g7 dX5_hold_33 ?_
      refine x_aload_n C dX5_hold_34 rfl (lv_at hl 0 rfl) ?_
      refine x_getP C fl_RX5_17 g3 dX5_hold_35 ?_
      refine x_iload_n C dX5_hold_38 rfl (lv_at hl 3 rfl) ?_
      refine x_aload_nq C dX5_hold_39 rfl (lv_at hl 2 rfl) ?_
      obtain ⟨b8, g9, h⟩ := h
      refine x_nn2 g9 ?_
      obtain ⟨g10, h⟩ := h
      obtain ⟨g11, h⟩ := h
      obtain ⟨g12, h⟩ := h
      refine x_aast C rak_22 g10 g12 g11 dX5_hold_40 ?_
      refine x_aload_n C dX5_hold_41 rfl (lv_at hl 0 rfl) ?_
      refine x_aload_n C dX5_hold_42 rfl (lv_at hl 0 rfl) ?_
      refine x_getI C fl_RX5_38 g3 dX5_hold_43 ?_
      refine x_topi (fun x13 e14 => ?_)
      have h := h x13 e14
      refine x_iload_n C dX5_hold_46 rfl (lv_at hl 3 rfl) ?_
      refine x_iconst (v := 1) C dX5_hold_47 (by decide) ?_
      refine x_iadd C dX5_hold_48 ?_
      refine x_callS (rm := rm_J9_max_7cf53) (rest := [.ref a0]) (As := [.int x13, .int (p3 + (1 : Int32))]) C cs_RX5_21 (by decide) (by decide) rfl rfl (Nat.le_of_ble_eq_true rfl) hl.1 dX5_hold_49 (c_J9_max_7cf53 l D cy x13 (p3 + (1 : Int32)) (stP (stI σ b4 p3.toNatClampNeg p1) b8 p3.toNatClampNeg p2) _ h) (ks_i (fun x16 σ15 h => ?_))
      obtain ⟨g17, h⟩ := h
      refine x_putI C fl_RX5_38 (Or.inl rfl) g17 dX5_hold_52 ?_
      exact x_vret C hr dX5_hold_55 ⟨rfl, h⟩
    · have h := h.2 c2
      exact x_vret C hr dX5_hold_26 ⟨rfl, h⟩
def wp_X5_hold (a0 : Nat) (p1 : Int32) (p2 : Option Nat) (σ : Sto) (Q : Sto → Prop) : Prop := (sK σ a0 = 5 ∧ (wp_X5_find a0 p1 σ (fun (x3 : Int32) (σ2 : Sto) => ((¬ x3 = (-1 : Int32) → b_X5_hold_16 a0  Q p1 p2 x3 σ2) ∧ (x3 = (-1 : Int32) → (sK σ2 a0 = 5 ∧ (∀ x6 : Int32, x6 = sI σ2 a0 2 → b_X5_hold_16 a0  Q p1 p2 x6 σ2)))))))
set_option maxHeartbeats 4000000 in
set_option maxRecDepth 100000 in
theorem c_X5_hold (l : Launch) (D : va_G) (cy : Nat → ClassId) (a0 : Nat) (p1 : Int32) (p2 : Option Nat) (σ : Sto) (Q : Sto → Prop) (h : wp_X5_hold a0 p1 p2 σ Q) : Mt l D cy yX5_hold cX5_hold 4 none rm_X5_hold [.ref a0, .int p1, va_rf p2] σ (PsV Q) := by
  unfold wp_X5_hold at h
  refine mt_of (by decide +kernel) (by simp [lg_sl, vrc, cat_i, cat_r, cat_l]) ?_
  intro p e s m args below meth c A ls C hr hnm hl
  have C : Cx p s m args meth c D cy A cX5_hold 4 RX5 := C
  have hl : lv_has ls 4 [(0, .ref a0), (1, .int p1), (2, va_rf p2)] := by simpa [lv_args, vrc, cat_i, cat_r, cat_l] using hl
  refine x_aload_n C dX5_hold_0 rfl (lv_at hl 0 rfl) ?_
  refine x_iload_n C dX5_hold_1 rfl (lv_at hl 1 rfl) ?_
  obtain ⟨g1, h⟩ := h
  refine x_callV (rm := rm_X5_find) (rest := []) (As := [.int p1]) C cy_RX5_54 g1 (by decide) (by decide) rfl rfl (Nat.le_of_ble_eq_true rfl) hl.1 dX5_hold_2 (c_X5_find l D cy a0 p1 σ _ h) (ks_i (fun x3 σ2 h => ?_))
  refine x_istore_n (i := 3) (lv' := [(3, .int x3), (0, .ref a0), (1, .int p1), (2, va_rf p2)]) C dX5_hold_5 rfl hl (by decide) (by first | rfl | simp [vrc, cat_i, cat_r, cat_l]) (fun ls hl => ?_)
  refine x_iload_n C dX5_hold_6 rfl (lv_at hl 0 rfl) ?_
  refine x_iconst (v := -1) C dX5_hold_7 (by decide) ?_
  refine x_icmp_ne (tgt := 16) C dX5_hold_8 (by decide) (fun c4 => ?_) (fun c4 => ?_)
  · have h := h.1 c4
    exact t_X5_hold_16 C hr hnm  p1 p2 x3 _ h ls (lv_sub hl [1, 2, 3, 0] rfl)
  · have h := h.2 c4
    refine x_aload_n C dX5_hold_11 rfl (lv_at hl 1 rfl) ?_
    obtain ⟨g5, h⟩ := h
    refine x_getI C fl_RX5_38 g5 dX5_hold_12 ?_
    refine x_topi (fun x6 e7 => ?_)
    have h := h x6 e7
    refine x_istore_n (i := 3) (lv' := [(3, .int x6), (0, .ref a0), (1, .int p1), (2, va_rf p2)]) C dX5_hold_15 rfl hl (by decide) (by first | rfl | simp [vrc, cat_i, cat_r, cat_l]) (fun ls hl => ?_)
    exact t_X5_hold_16 C hr hnm  p1 p2 x6 _ h ls (lv_sub hl [1, 2, 3, 0] rfl)
theorem dX5_release_0 : decode cX5_release 0 = .ok (.aload_n 0, 1) := by decide +kernel
theorem dX5_release_1 : decode cX5_release 1 = .ok (.iload_n 1, 1) := by decide +kernel
theorem dX5_release_2 : decode cX5_release 2 = .ok (.invokevirtual 54, 3) := by decide +kernel
theorem dX5_release_5 : decode cX5_release 5 = .ok (.istore_n 2, 1) := by decide +kernel
theorem dX5_release_6 : decode cX5_release 6 = .ok (.iload_n 2, 1) := by decide +kernel
theorem dX5_release_7 : decode cX5_release 7 = .ok (.ifCond .lt 26, 3) := by decide +kernel
theorem dX5_release_10 : decode cX5_release 10 = .ok (.iload_n 2, 1) := by decide +kernel
theorem dX5_release_11 : decode cX5_release 11 = .ok (.bipush 9, 2) := by decide +kernel
theorem dX5_release_13 : decode cX5_release 13 = .ok (.if_icmp .ge 20, 3) := by decide +kernel
theorem dX5_release_16 : decode cX5_release 16 = .ok (.aload_n 0, 1) := by decide +kernel
theorem dX5_release_17 : decode cX5_release 17 = .ok (.getfield 38, 3) := by decide +kernel
theorem dX5_release_20 : decode cX5_release 20 = .ok (.iconst 1, 1) := by decide +kernel
theorem dX5_release_21 : decode cX5_release 21 = .ok (.if_icmp .lt 12, 3) := by decide +kernel
theorem dX5_release_24 : decode cX5_release 24 = .ok (.aload_n 0, 1) := by decide +kernel
theorem dX5_release_25 : decode cX5_release 25 = .ok (.getfield 38, 3) := by decide +kernel
theorem dX5_release_28 : decode cX5_release 28 = .ok (.bipush 9, 2) := by decide +kernel
theorem dX5_release_30 : decode cX5_release 30 = .ok (.if_icmp .le 5, 3) := by decide +kernel
theorem dX5_release_33 : decode cX5_release 33 = .ok (.aconst_null, 1) := by decide +kernel
theorem dX5_release_34 : decode cX5_release 34 = .ok (.areturn, 1) := by decide +kernel
theorem dX5_release_35 : decode cX5_release 35 = .ok (.aload_n 0, 1) := by decide +kernel
theorem dX5_release_36 : decode cX5_release 36 = .ok (.getfield 17, 3) := by decide +kernel
theorem dX5_release_39 : decode cX5_release 39 = .ok (.iload_n 2, 1) := by decide +kernel
theorem dX5_release_40 : decode cX5_release 40 = .ok (.aaload, 1) := by decide +kernel
theorem dX5_release_41 : decode cX5_release 41 = .ok (.astore_n 3, 1) := by decide +kernel
theorem dX5_release_42 : decode cX5_release 42 = .ok (.aload_n 0, 1) := by decide +kernel
theorem dX5_release_43 : decode cX5_release 43 = .ok (.dup, 1) := by decide +kernel
theorem dX5_release_44 : decode cX5_release 44 = .ok (.getfield 38, 3) := by decide +kernel
theorem dX5_release_47 : decode cX5_release 47 = .ok (.iconst 1, 1) := by decide +kernel
theorem dX5_release_48 : decode cX5_release 48 = .ok (.isub, 1) := by decide +kernel
theorem dX5_release_49 : decode cX5_release 49 = .ok (.putfield 38, 3) := by decide +kernel
theorem dX5_release_52 : decode cX5_release 52 = .ok (.aload_n 0, 1) := by decide +kernel
theorem dX5_release_53 : decode cX5_release 53 = .ok (.getfield 9, 3) := by decide +kernel
theorem dX5_release_56 : decode cX5_release 56 = .ok (.iload_n 2, 1) := by decide +kernel
theorem dX5_release_57 : decode cX5_release 57 = .ok (.aload_n 0, 1) := by decide +kernel
theorem dX5_release_58 : decode cX5_release 58 = .ok (.getfield 9, 3) := by decide +kernel
theorem dX5_release_61 : decode cX5_release 61 = .ok (.aload_n 0, 1) := by decide +kernel
theorem dX5_release_62 : decode cX5_release 62 = .ok (.getfield 38, 3) := by decide +kernel
theorem dX5_release_65 : decode cX5_release 65 = .ok (.iaload, 1) := by decide +kernel
theorem dX5_release_66 : decode cX5_release 66 = .ok (.iastore, 1) := by decide +kernel
theorem dX5_release_67 : decode cX5_release 67 = .ok (.aload_n 0, 1) := by decide +kernel
theorem dX5_release_68 : decode cX5_release 68 = .ok (.getfield 17, 3) := by decide +kernel
theorem dX5_release_71 : decode cX5_release 71 = .ok (.iload_n 2, 1) := by decide +kernel
theorem dX5_release_72 : decode cX5_release 72 = .ok (.aload_n 0, 1) := by decide +kernel
theorem dX5_release_73 : decode cX5_release 73 = .ok (.getfield 17, 3) := by decide +kernel
theorem dX5_release_76 : decode cX5_release 76 = .ok (.aload_n 0, 1) := by decide +kernel
theorem dX5_release_77 : decode cX5_release 77 = .ok (.getfield 38, 3) := by decide +kernel
theorem dX5_release_80 : decode cX5_release 80 = .ok (.aaload, 1) := by decide +kernel
theorem dX5_release_81 : decode cX5_release 81 = .ok (.aastore, 1) := by decide +kernel
theorem dX5_release_82 : decode cX5_release 82 = .ok (.aload_n 3, 1) := by decide +kernel
theorem dX5_release_83 : decode cX5_release 83 = .ok (.areturn, 1) := by decide +kernel
abbrev rm_X5_release : Room := { frames := 1, cells := 0, slots := 0, locals := 22 }
def wp_X5_release (a0 : Nat) (p1 : Int32) (σ : Sto) (Q : Option Nat → Sto → Prop) : Prop := (sK σ a0 = 5 ∧ (wp_X5_find a0 p1 σ (fun (x3 : Int32) (σ2 : Sto) => ((x3 < 0 → Q none σ2) ∧ (¬ x3 < 0 → (((9 : Int32) ≤ x3 → Q none σ2) ∧ (¬ (9 : Int32) ≤ x3 → (sK σ2 a0 = 5 ∧ (∀ x7 : Int32, x7 = sI σ2 a0 2 → ((x7 < (1 : Int32) → Q none σ2) ∧ (¬ x7 < (1 : Int32) → (∀ x10 : Int32, x10 = sI σ2 a0 2 → ((x10 ≤ (9 : Int32) → (∃ b13 : Nat, sP σ2 a0 1 = some b13 ∧ (sK σ2 b13 = 22 ∧ (vp_in x3 (sN σ2 b13) ∧ (∀ r17 : Option Nat, r17 = sP σ2 b13 x3.toNatClampNeg → (∀ x19 : Int32, x19 = sI σ2 a0 2 → (∀ x21 : Int32, x21 = x19 - (1 : Int32) → (∀ x23 : Int32, x23 = sI (stI σ2 a0 2 x21) a0 2 → (∃ b25 : Nat, sP σ2 a0 0 = some b25 ∧ (sK σ2 b25 = 14 ∧ (vp_in x23 (sN σ2 b25) ∧ (∀ x29 : Int32, x29 = sI (stI σ2 a0 2 x21) b25 x23.toNatClampNeg → (vp_in x3 (sN σ2 b25) ∧ (∀ x32 : Int32, x32 = sI (stI (stI σ2 a0 2 x21) b25 x3.toNatClampNeg x29) a0 2 → (vp_in x32 (sN σ2 b13) ∧ (∀ r35 : Option Nat, r35 = sP σ2 b13 x32.toNatClampNeg → (vp_in x3 (sN σ2 b13) ∧ ((∀ b, r35 = some b → sK σ2 b = 9) ∧ Q r17 (stP (stI (stI σ2 a0 2 x21) b25 x3.toNatClampNeg x29) b13 x3.toNatClampNeg r35))))))))))))))))))) ∧ (¬ x10 ≤ (9 : Int32) → Q none σ2))))))))))))))
set_option maxHeartbeats 4000000 in
set_option maxRecDepth 100000 in
theorem c_X5_release (l : Launch) (D : va_G) (cy : Nat → ClassId) (a0 : Nat) (p1 : Int32) (σ : Sto) (Q : Option Nat → Sto → Prop) (h : wp_X5_release a0 p1 σ Q) : Mt l D cy yX5_release cX5_release 4 (some (.object "OrderedWorks$Request")) rm_X5_release [.ref a0, .int p1] σ (PsP Q) := by
  unfold wp_X5_release at h
  refine mt_of (by decide +kernel) (Nat.le_of_ble_eq_true rfl) ?_
  intro p e s m args below meth c A ls C hr hnm hl
  have C : Cx p s m args meth c D cy A cX5_release 4 RX5 := C
  have hl : lv_has ls 4 [(0, .ref a0), (1, .int p1)] := hl
  refine x_aload_n C dX5_release_0 rfl (lv_at hl 0 rfl) ?_
  refine x_iload_n C dX5_release_1 rfl (lv_at hl 1 rfl) ?_
  obtain ⟨g1, h⟩ := h
  refine x_callV (rm := rm_X5_find) (rest := []) (As := [.int p1]) C cy_RX5_54 g1 (by decide) (by decide) rfl rfl (Nat.le_of_ble_eq_true rfl) hl.1 dX5_release_2 (c_X5_find l D cy a0 p1 σ _ h) (ks_i (fun x3 σ2 h => ?_))
  refine x_istore_n (i := 2) (lv' := [(2, .int x3), (0, .ref a0), (1, .int p1)]) C dX5_release_5 rfl hl (by decide) (by first | rfl | simp [vrc, cat_i, cat_r, cat_l]) (fun ls hl => ?_)
  refine x_iload_n C dX5_release_6 rfl (lv_at hl 0 rfl) ?_
  refine x_if_lt (tgt := 33) C dX5_release_7 (by decide) (fun c4 => ?_) (fun c4 => ?_)
  · have h := h.1 c4
    refine x_null C dX5_release_33 ?_
    exact x_aret (v := none) C hr dX5_release_34 ⟨_, rfl, h⟩
  · have h := h.2 c4
    refine x_iload_n C dX5_release_10 rfl (lv_at hl 0 rfl) ?_
    refine x_bipush (v := 9) C dX5_release_11 (by decide) ?_
    refine x_icmp_ge (tgt := 33) C dX5_release_13 (by decide) (fun c5 => ?_) (fun c5 => ?_)
    · have h := h.1 c5
      refine x_null C dX5_release_33 ?_
      exact x_aret (v := none) C hr dX5_release_34 ⟨_, rfl, h⟩
    · have h := h.2 c5
      refine x_aload_n C dX5_release_16 rfl (lv_at hl 1 rfl) ?_
      obtain ⟨g6, h⟩ := h
      refine x_getI C fl_RX5_38 g6 dX5_release_17 ?_
      refine x_topi (fun x7 e8 => ?_)
      have h := h x7 e8
      refine x_iconst (v := 1) C dX5_release_20 (by decide) ?_
      refine x_icmp_lt (tgt := 33) C dX5_release_21 (by decide) (fun c9 => ?_) (fun c9 => ?_)
      · have h := h.1 c9
        refine x_null C dX5_release_33 ?_
        exact x_aret (v := none) C hr dX5_release_34 ⟨_, rfl, h⟩
      · have h := h.2 c9
        refine x_aload_n C dX5_release_24 rfl (lv_at hl 1 rfl) ?_
        refine x_getI C fl_RX5_38 g6 dX5_release_25 ?_
        refine x_topi (fun x10 e11 => ?_)
        have h := h x10 e11
        refine x_bipush (v := 9) C dX5_release_28 (by decide) ?_
        refine x_icmp_le (tgt := 35) C dX5_release_30 (by decide) (fun c12 => ?_) (fun c12 => ?_)
        · have h := h.1 c12
          refine x_aload_n C dX5_release_35 rfl (lv_at hl 1 rfl) ?_
          refine x_getP C fl_RX5_17 g6 dX5_release_36 ?_
          refine x_iload_n C dX5_release_39 rfl (lv_at hl 0 rfl) ?_
          obtain ⟨b13, g14, h⟩ := h
          refine x_nn1 g14 ?_
          obtain ⟨g15, h⟩ := h
          obtain ⟨g16, h⟩ := h
          refine x_aald C rak_22 g15 g16 dX5_release_40 ?_
          refine x_topq (fun r17 e18 => ?_)
          have h := h r17 e18
          refine x_astore_nq (i := 3) (lv' := [(3, va_rf r17), (2, .int x3), (0, .ref a0), (1, .int p1)]) C dX5_release_41 rfl hl (by decide) (by first | rfl | simp [vrc, cat_i, cat_r, cat_l]) (fun ls hl => ?_)
          refine x_aload_n C dX5_release_42 rfl (lv_at hl 2 rfl) ?_
          refine x_dup C dX5_release_43 (rfl) ?_
          refine x_getI C fl_RX5_38 g6 dX5_release_44 ?_
          refine x_topi (fun x19 e20 => ?_)
          have h := h x19 e20
          refine x_iconst (v := 1) C dX5_release_47 (by decide) ?_
          refine x_isub C dX5_release_48 ?_
          refine x_topi (fun x21 e22 => ?_)
          have h := h x21 e22
          refine x_putI C fl_RX5_38 (Or.inl rfl) g6 dX5_release_49 ?_
          refine x_aload_n C dX5_release_52 rfl (lv_at hl 2 rfl) ?_
          refine x_getP C fl_RX5_9 g6 dX5_release_53 ?_
          refine x_iload_n C dX5_release_56 rfl (lv_at hl 1 rfl) ?_
          refine x_aload_n C dX5_release_57 rfl (lv_at hl 2 rfl) ?_
          refine x_getP C fl_RX5_9 g6 dX5_release_58 ?_
          refine x_aload_n C dX5_release_61 rfl (lv_at hl 2 rfl) ?_
          refine x_getI C fl_RX5_38 g6 dX5_release_62 ?_
          refine x_topi (fun x23 e24 => ?_)
          have h := h x23 e24
          obtain ⟨b25, g26, h⟩ := h
          refine x_nn1 g26 ?_
          obtain ⟨g27, h⟩ := h
          obtain ⟨g28, h⟩ := h
          refine x_iald C g27 g28 dX5_release_65 ?_
          refine x_topi (fun x29 e30 => ?_)
          have h := h x29 e30
          refine x_nn2 g26 ?_
          obtain ⟨g31, h⟩ := h
          refine x_iast C g27 g31 dX5_release_66 ?_
          refine x_aload_n C dX5_release_67 rfl (lv_at hl 2 rfl) ?_
          refine x_getP C fl_RX5_17 g6 dX5_release_68 ?_
          refine x_iload_n C dX5_release_71 rfl (lv_at hl 1 rfl) ?_
          refine x_aload_n C dX5_release_72 rfl (lv_at hl 2 rfl) ?_
          refine x_getP C fl_RX5_17 g6 dX5_release_73 ?_
          refine x_aload_n C dX5_release_76 rfl (lv_at hl 2 rfl) ?_
          refine x_getI C fl_RX5_38 g6 dX5_release_77 ?_
          refine x_topi (fun x32 e33 => ?_)
          have h := h x32 e33
          refine x_nn1 g14 ?_
          obtain ⟨g34, h⟩ := h
          refine x_aald C rak_22 g15 g34 dX5_release_80 ?_
          refine x_topq (fun r35 e36 => ?_)
          have h := h r35 e36
          refine x_nn2 g14 ?_
          obtain ⟨g37, h⟩ := h
          obtain ⟨g38, h⟩ := h
          refine x_aast C rak_22 g15 g38 g37 dX5_release_81 ?_
          refine x_aload_nq C dX5_release_82 rfl (lv_at hl 0 rfl) ?_
          exact x_aret (v := r17) C hr dX5_release_83 ⟨_, rfl, h⟩
        · have h := h.2 c12
          refine x_null C dX5_release_33 ?_
          exact x_aret (v := none) C hr dX5_release_34 ⟨_, rfl, h⟩
theorem dX5_countTurned_0 : decode cX5_countTurned 0 = .ok (.aload_n 1, 1) := by decide +kernel
theorem dX5_countTurned_1 : decode cX5_countTurned 1 = .ok (.getfield 58, 3) := by decide +kernel
theorem dX5_countTurned_4 : decode cX5_countTurned 4 = .ok (.istore_n 2, 1) := by decide +kernel
theorem dX5_countTurned_5 : decode cX5_countTurned 5 = .ok (.iload_n 2, 1) := by decide +kernel
theorem dX5_countTurned_6 : decode cX5_countTurned 6 = .ok (.ifCond .lt 47, 3) := by decide +kernel
theorem dX5_countTurned_9 : decode cX5_countTurned 9 = .ok (.iload_n 2, 1) := by decide +kernel
theorem dX5_countTurned_10 : decode cX5_countTurned 10 = .ok (.aload_n 0, 1) := by decide +kernel
theorem dX5_countTurned_11 : decode cX5_countTurned 11 = .ok (.getfield 33, 3) := by decide +kernel
theorem dX5_countTurned_14 : decode cX5_countTurned 14 = .ok (.arraylength, 1) := by decide +kernel
theorem dX5_countTurned_15 : decode cX5_countTurned 15 = .ok (.if_icmp .ge 38, 3) := by decide +kernel
theorem dX5_countTurned_18 : decode cX5_countTurned 18 = .ok (.aload_n 0, 1) := by decide +kernel
theorem dX5_countTurned_19 : decode cX5_countTurned 19 = .ok (.dup, 1) := by decide +kernel
theorem dX5_countTurned_20 : decode cX5_countTurned 20 = .ok (.getfield 51, 3) := by decide +kernel
theorem dX5_countTurned_23 : decode cX5_countTurned 23 = .ok (.iconst 1, 1) := by decide +kernel
theorem dX5_countTurned_24 : decode cX5_countTurned 24 = .ok (.iload_n 2, 1) := by decide +kernel
theorem dX5_countTurned_25 : decode cX5_countTurned 25 = .ok (.ishl, 1) := by decide +kernel
theorem dX5_countTurned_26 : decode cX5_countTurned 26 = .ok (.ior, 1) := by decide +kernel
theorem dX5_countTurned_27 : decode cX5_countTurned 27 = .ok (.putfield 51, 3) := by decide +kernel
theorem dX5_countTurned_30 : decode cX5_countTurned 30 = .ok (.aload_n 0, 1) := by decide +kernel
theorem dX5_countTurned_31 : decode cX5_countTurned 31 = .ok (.getfield 27, 3) := by decide +kernel
theorem dX5_countTurned_34 : decode cX5_countTurned 34 = .ok (.iload_n 2, 1) := by decide +kernel
theorem dX5_countTurned_35 : decode cX5_countTurned 35 = .ok (.aload_n 1, 1) := by decide +kernel
theorem dX5_countTurned_36 : decode cX5_countTurned 36 = .ok (.getfield 63, 3) := by decide +kernel
theorem dX5_countTurned_39 : decode cX5_countTurned 39 = .ok (.lastore, 1) := by decide +kernel
theorem dX5_countTurned_40 : decode cX5_countTurned 40 = .ok (.aload_n 0, 1) := by decide +kernel
theorem dX5_countTurned_41 : decode cX5_countTurned 41 = .ok (.getfield 33, 3) := by decide +kernel
theorem dX5_countTurned_44 : decode cX5_countTurned 44 = .ok (.iload_n 2, 1) := by decide +kernel
theorem dX5_countTurned_45 : decode cX5_countTurned 45 = .ok (.aaload, 1) := by decide +kernel
theorem dX5_countTurned_46 : decode cX5_countTurned 46 = .ok (.aload_n 1, 1) := by decide +kernel
theorem dX5_countTurned_47 : decode cX5_countTurned 47 = .ok (.getfield 67, 3) := by decide +kernel
theorem dX5_countTurned_50 : decode cX5_countTurned 50 = .ok (.invokevirtual 71, 3) := by decide +kernel
theorem dX5_countTurned_53 : decode cX5_countTurned 53 = .ok (.return_, 1) := by decide +kernel
abbrev rm_X5_countTurned : Room := { frames := 2, cells := 0, slots := 0, locals := 43 }
def wp_X5_countTurned (a0 : Nat) (p1 : Option Nat) (σ : Sto) (Q : Sto → Prop) : Prop := (∃ b1 : Nat, p1 = some b1 ∧ (sK σ b1 = 3 ∧ (∀ x4 : Int32, x4 = sI σ b1 2 → ((x4 < 0 → Q σ) ∧ (¬ x4 < 0 → (sK σ a0 = 5 ∧ (∃ b8 : Nat, sP σ a0 8 = some b8 ∧ (sK σ b8 = 18 ∧ (((nI (sN σ b8)) ≤ x4 → Q σ) ∧ (¬ (nI (sN σ b8)) ≤ x4 → (∀ x12 : Int32, x12 = sI σ a0 6 → (∀ x14 : Int32, x14 = x12 ||| ((1 : Int32) <<< (x4 &&& 31)) → (∀ y16 : Int64, y16 = sJ σ b1 5 → (∃ b18 : Nat, sP σ a0 7 = some b18 ∧ (sK σ b18 = 15 ∧ (vp_in x4 (sN σ b18) ∧ (vp_in x4 (sN σ b8) ∧ (∀ r23 : Option Nat, r23 = sP σ b8 x4.toNatClampNeg → (∃ b25 : Nat, r23 = some b25 ∧ (sK σ b25 = 2 ∧ (wp_X2_become b25 (sP σ b1 11) (stJ (stI σ a0 6 x14) b18 x4.toNatClampNeg y16) (fun (σ28 : Sto) => Q σ28))))))))))))))))))))))
set_option maxHeartbeats 4000000 in
set_option maxRecDepth 100000 in
theorem c_X5_countTurned (l : Launch) (D : va_G) (cy : Nat → ClassId) (a0 : Nat) (p1 : Option Nat) (σ : Sto) (Q : Sto → Prop) (h : wp_X5_countTurned a0 p1 σ Q) : Mt l D cy yX5_countTurned cX5_countTurned 3 none rm_X5_countTurned [.ref a0, va_rf p1] σ (PsV Q) := by
  unfold wp_X5_countTurned at h
  refine mt_of (by decide +kernel) (by simp [lg_sl, vrc, cat_i, cat_r, cat_l]) ?_
  intro p e s m args below meth c A ls C hr hnm hl
  have C : Cx p s m args meth c D cy A cX5_countTurned 3 RX5 := C
  have hl : lv_has ls 3 [(0, .ref a0), (1, va_rf p1)] := by simpa [lv_args, vrc, cat_i, cat_r, cat_l] using hl
  refine x_aload_nq C dX5_countTurned_0 rfl (lv_at hl 1 rfl) ?_
  obtain ⟨b1, g2, h⟩ := h
  refine x_nn0 g2 ?_
  obtain ⟨g3, h⟩ := h
  refine x_getI C fl_RX5_58 g3 dX5_countTurned_1 ?_
  refine x_topi (fun x4 e5 => ?_)
  have h := h x4 e5
  refine x_istore_n (i := 2) (lv' := [(2, .int x4), (0, .ref a0), (1, va_rf p1)]) C dX5_countTurned_4 rfl hl (by decide) (by first | rfl | simp [vrc, cat_i, cat_r, cat_l]) (fun ls hl => ?_)
  refine x_iload_n C dX5_countTurned_5 rfl (lv_at hl 0 rfl) ?_
  refine x_if_lt (tgt := 53) C dX5_countTurned_6 (by decide) (fun c6 => ?_) (fun c6 => ?_)
  · have h := h.1 c6
    exact x_vret C hr dX5_countTurned_53 ⟨rfl, h⟩
  · have h := h.2 c6
    refine x_iload_n C dX5_countTurned_9 rfl (lv_at hl 0 rfl) ?_
    refine x_aload_n C dX5_countTurned_10 rfl (lv_at hl 1 rfl) ?_
    obtain ⟨g7, h⟩ := h
    refine x_getP C fl_RX5_33 g7 dX5_countTurned_11 ?_
    obtain ⟨b8, g9, h⟩ := h
    refine x_nn0 g9 ?_
    obtain ⟨g10, h⟩ := h
    refine x_alen C g10 (by decide) (by decide) dX5_countTurned_14 ?_
    refine x_icmp_ge (tgt := 53) C dX5_countTurned_15 (by decide) (fun c11 => ?_) (fun c11 => ?_)
    · have h := h.1 c11
      exact x_vret C hr dX5_countTurned_53 ⟨rfl, h⟩
    · have h := h.2 c11
      refine x_aload_n C dX5_countTurned_18 rfl (lv_at hl 1 rfl) ?_
      refine x_dup C dX5_countTurned_19 (rfl) ?_
      refine x_getI C fl_RX5_51 g7 dX5_countTurned_20 ?_
      refine x_topi (fun x12 e13 => ?_)
      have h := h x12 e13
      refine x_iconst (v := 1) C dX5_countTurned_23 (by decide) ?_
      refine x_iload_n C dX5_countTurned_24 rfl (lv_at hl 0 rfl) ?_
      refine x_ishl C dX5_countTurned_25 ?_
      refine x_ior C dX5_countTurned_26 ?_
      refine x_topi (fun x14 e15 => ?_)
      have h := h x14 e15
      refine x_putI C fl_RX5_51 (Or.inl rfl) g7 dX5_countTurned_27 ?_
      refine x_aload_n C dX5_countTurned_30 rfl (lv_at hl 1 rfl) ?_
      refine x_getP C fl_RX5_27 g7 dX5_countTurned_31 ?_
      refine x_iload_n C dX5_countTurned_34 rfl (lv_at hl 0 rfl) ?_
      refine x_aload_nq C dX5_countTurned_35 rfl (lv_at hl 2 rfl) ?_
      refine x_nn0 g2 ?_
      refine x_getJ C fl_RX5_63 g3 dX5_countTurned_36 ?_
      refine x_topj (fun y16 e17 => ?_)
      have h := h y16 e17
      obtain ⟨b18, g19, h⟩ := h
      refine x_nn2 g19 ?_
      obtain ⟨g20, h⟩ := h
      obtain ⟨g21, h⟩ := h
      refine x_last C g20 g21 dX5_countTurned_39 ?_
      refine x_aload_n C dX5_countTurned_40 rfl (lv_at hl 1 rfl) ?_
      refine x_getP C fl_RX5_33 g7 dX5_countTurned_41 ?_
      refine x_iload_n C dX5_countTurned_44 rfl (lv_at hl 0 rfl) ?_
      refine x_nn1 g9 ?_
      obtain ⟨g22, h⟩ := h
      refine x_aald C rak_18 g10 g22 dX5_countTurned_45 ?_
      refine x_topq (fun r23 e24 => ?_)
      have h := h r23 e24
      refine x_aload_nq C dX5_countTurned_46 rfl (lv_at hl 2 rfl) ?_
      refine x_nn0 g2 ?_
      refine x_getP C fl_RX5_67 g3 dX5_countTurned_47 ?_
      obtain ⟨b25, g26, h⟩ := h
      refine x_nn1 g26 ?_
      obtain ⟨g27, h⟩ := h
      refine x_callV (rm := rm_X2_become) (rest := []) (As := [va_rf (sP σ b1 11)]) C cy_RX5_71 g27 (by decide) (by decide) rfl rfl (Nat.le_of_ble_eq_true rfl) hl.1 dX5_countTurned_50 (c_X2_become l D cy b25 (sP σ b1 11) (stJ (stI σ a0 6 x14) b18 x4.toNatClampNeg y16) _ h) (ks_v (fun σ28 h => ?_))
      exact x_vret C hr dX5_countTurned_53 ⟨rfl, h⟩
theorem dX5_looksAt_0 : decode cX5_looksAt 0 = .ok (.iload_n 1, 1) := by decide +kernel
theorem dX5_looksAt_1 : decode cX5_looksAt 1 = .ok (.ifCond .lt 39, 3) := by decide +kernel
theorem dX5_looksAt_4 : decode cX5_looksAt 4 = .ok (.iload_n 1, 1) := by decide +kernel
theorem dX5_looksAt_5 : decode cX5_looksAt 5 = .ok (.aload_n 0, 1) := by decide +kernel
theorem dX5_looksAt_6 : decode cX5_looksAt 6 = .ok (.getfield 27, 3) := by decide +kernel
theorem dX5_looksAt_9 : decode cX5_looksAt 9 = .ok (.arraylength, 1) := by decide +kernel
theorem dX5_looksAt_10 : decode cX5_looksAt 10 = .ok (.if_icmp .ge 30, 3) := by decide +kernel
theorem dX5_looksAt_13 : decode cX5_looksAt 13 = .ok (.aload_n 0, 1) := by decide +kernel
theorem dX5_looksAt_14 : decode cX5_looksAt 14 = .ok (.getfield 51, 3) := by decide +kernel
theorem dX5_looksAt_17 : decode cX5_looksAt 17 = .ok (.iload_n 1, 1) := by decide +kernel
theorem dX5_looksAt_18 : decode cX5_looksAt 18 = .ok (.ishr, 1) := by decide +kernel
theorem dX5_looksAt_19 : decode cX5_looksAt 19 = .ok (.iconst 1, 1) := by decide +kernel
theorem dX5_looksAt_20 : decode cX5_looksAt 20 = .ok (.iand, 1) := by decide +kernel
theorem dX5_looksAt_21 : decode cX5_looksAt 21 = .ok (.iconst 1, 1) := by decide +kernel
theorem dX5_looksAt_22 : decode cX5_looksAt 22 = .ok (.if_icmp .ne 18, 3) := by decide +kernel
theorem dX5_looksAt_25 : decode cX5_looksAt 25 = .ok (.aload_n 0, 1) := by decide +kernel
theorem dX5_looksAt_26 : decode cX5_looksAt 26 = .ok (.getfield 27, 3) := by decide +kernel
theorem dX5_looksAt_29 : decode cX5_looksAt 29 = .ok (.iload_n 1, 1) := by decide +kernel
theorem dX5_looksAt_30 : decode cX5_looksAt 30 = .ok (.laload, 1) := by decide +kernel
theorem dX5_looksAt_31 : decode cX5_looksAt 31 = .ok (.lload_n 2, 1) := by decide +kernel
theorem dX5_looksAt_32 : decode cX5_looksAt 32 = .ok (.lcmp, 1) := by decide +kernel
theorem dX5_looksAt_33 : decode cX5_looksAt 33 = .ok (.ifCond .ne 7, 3) := by decide +kernel
theorem dX5_looksAt_36 : decode cX5_looksAt 36 = .ok (.iconst 1, 1) := by decide +kernel
theorem dX5_looksAt_37 : decode cX5_looksAt 37 = .ok (.goto 4, 3) := by decide +kernel
theorem dX5_looksAt_40 : decode cX5_looksAt 40 = .ok (.iconst 0, 1) := by decide +kernel
theorem dX5_looksAt_41 : decode cX5_looksAt 41 = .ok (.ireturn, 1) := by decide +kernel
abbrev rm_X5_looksAt : Room := { frames := 0, cells := 0, slots := 0, locals := 0 }
def wp_X5_looksAt (a0 : Nat) (p1 : Int32) (p2 : Int64) (σ : Sto) (Q : Int32 → Sto → Prop) : Prop := ((p1 < 0 → Q (0 : Int32) σ) ∧ (¬ p1 < 0 → (sK σ a0 = 5 ∧ (∃ b3 : Nat, sP σ a0 7 = some b3 ∧ (sK σ b3 = 15 ∧ (((nI (sN σ b3)) ≤ p1 → Q (0 : Int32) σ) ∧ (¬ (nI (sN σ b3)) ≤ p1 → (∀ x7 : Int32, x7 = sI σ a0 6 → ((¬ ((x7 >>> (p1 &&& 31)) &&& (1 : Int32)) = (1 : Int32) → Q (0 : Int32) σ) ∧ (((x7 >>> (p1 &&& 31)) &&& (1 : Int32)) = (1 : Int32) → (vp_in p1 (sN σ b3) ∧ (∀ y11 : Int64, y11 = sJ σ b3 p1.toNatClampNeg → ((¬ (lg_cmp y11 p2) = 0 → Q (0 : Int32) σ) ∧ ((lg_cmp y11 p2) = 0 → Q (1 : Int32) σ))))))))))))))
set_option maxHeartbeats 4000000 in
set_option maxRecDepth 100000 in
theorem c_X5_looksAt (l : Launch) (D : va_G) (cy : Nat → ClassId) (a0 : Nat) (p1 : Int32) (p2 : Int64) (σ : Sto) (Q : Int32 → Sto → Prop) (h : wp_X5_looksAt a0 p1 p2 σ Q) : Mt l D cy yX5_looksAt cX5_looksAt 4 (some .boolean) rm_X5_looksAt [.ref a0, .int p1, .long p2] σ (PsI Q) := by
  unfold wp_X5_looksAt at h
  refine mt_of (by decide +kernel) (Nat.le_of_ble_eq_true rfl) ?_
  intro p e s m args below meth c A ls C hr hnm hl
  have C : Cx p s m args meth c D cy A cX5_looksAt 4 RX5 := C
  have hl : lv_has ls 4 [(0, .ref a0), (1, .int p1), (2, .long p2)] := hl
  refine x_iload_n C dX5_looksAt_0 rfl (lv_at hl 1 rfl) ?_
  refine x_if_lt (tgt := 40) C dX5_looksAt_1 (by decide) (fun c1 => ?_) (fun c1 => ?_)
  · have h := h.1 c1
    refine x_iconst (v := 0) C dX5_looksAt_40 (by decide) ?_
    exact x_zret C hr dX5_looksAt_41 (by decide) ⟨_, rfl, h⟩
  · have h := h.2 c1
    refine x_iload_n C dX5_looksAt_4 rfl (lv_at hl 1 rfl) ?_
    refine x_aload_n C dX5_looksAt_5 rfl (lv_at hl 0 rfl) ?_
    obtain ⟨g2, h⟩ := h
    refine x_getP C fl_RX5_27 g2 dX5_looksAt_6 ?_
    obtain ⟨b3, g4, h⟩ := h
    refine x_nn0 g4 ?_
    obtain ⟨g5, h⟩ := h
    refine x_alen C g5 (by decide) (by decide) dX5_looksAt_9 ?_
    refine x_icmp_ge (tgt := 40) C dX5_looksAt_10 (by decide) (fun c6 => ?_) (fun c6 => ?_)
    · have h := h.1 c6
      refine x_iconst (v := 0) C dX5_looksAt_40 (by decide) ?_
      exact x_zret C hr dX5_looksAt_41 (by decide) ⟨_, rfl, h⟩
    · have h := h.2 c6
      refine x_aload_n C dX5_looksAt_13 rfl (lv_at hl 0 rfl) ?_
      refine x_getI C fl_RX5_51 g2 dX5_looksAt_14 ?_
      refine x_topi (fun x7 e8 => ?_)
      have h := h x7 e8
      refine x_iload_n C dX5_looksAt_17 rfl (lv_at hl 1 rfl) ?_
      refine x_ishr C dX5_looksAt_18 ?_
      refine x_iconst (v := 1) C dX5_looksAt_19 (by decide) ?_
      refine x_iand C dX5_looksAt_20 ?_
      refine x_iconst (v := 1) C dX5_looksAt_21 (by decide) ?_
      refine x_icmp_ne (tgt := 40) C dX5_looksAt_22 (by decide) (fun c9 => ?_) (fun c9 => ?_)
      · have h := h.1 c9
        refine x_iconst (v := 0) C dX5_looksAt_40 (by decide) ?_
        exact x_zret C hr dX5_looksAt_41 (by decide) ⟨_, rfl, h⟩
      · have h := h.2 c9
        refine x_aload_n C dX5_looksAt_25 rfl (lv_at hl 0 rfl) ?_
        refine x_getP C fl_RX5_27 g2 dX5_looksAt_26 ?_
        refine x_iload_n C dX5_looksAt_29 rfl (lv_at hl 1 rfl) ?_
        refine x_nn1 g4 ?_
        obtain ⟨g10, h⟩ := h
        refine x_lald C g5 g10 dX5_looksAt_30 ?_
        refine x_topj (fun y11 e12 => ?_)
        have h := h y11 e12
        refine x_lload_n C dX5_looksAt_31 rfl (lv_at hl 2 rfl) ?_
        refine x_lcmp C dX5_looksAt_32 ?_
        refine x_if_ne (tgt := 40) C dX5_looksAt_33 (by decide) (fun c13 => ?_) (fun c13 => ?_)
        · have h := h.1 c13
          refine x_iconst (v := 0) C dX5_looksAt_40 (by decide) ?_
          exact x_zret C hr dX5_looksAt_41 (by decide) ⟨_, rfl, h⟩
        · have h := h.2 c13
          refine x_iconst (v := 1) C dX5_looksAt_36 (by decide) ?_
          refine x_goto (tgt := 41) C dX5_looksAt_37 (by decide) ?_
          exact x_zret C hr dX5_looksAt_41 (by decide) ⟨_, rfl, h⟩
theorem dX7_init_0 : decode cX7_init 0 = .ok (.aload_n 0, 1) := by decide +kernel
theorem dX7_init_1 : decode cX7_init 1 = .ok (.invokespecial 3, 3) := by decide +kernel
theorem dX7_init_4 : decode cX7_init 4 = .ok (.aload_n 0, 1) := by decide +kernel
theorem dX7_init_5 : decode cX7_init 5 = .ok (.sipush 609, 3) := by decide +kernel
theorem dX7_init_8 : decode cX7_init 8 = .ok (.newarray .int, 2) := by decide +kernel
theorem dX7_init_10 : decode cX7_init 10 = .ok (.putfield 9, 3) := by decide +kernel
theorem dX7_init_13 : decode cX7_init 13 = .ok (.aload_n 0, 1) := by decide +kernel
theorem dX7_init_14 : decode cX7_init 14 = .ok (.iconst (-1), 1) := by decide +kernel
theorem dX7_init_15 : decode cX7_init 15 = .ok (.putfield 15, 3) := by decide +kernel
theorem dX7_init_18 : decode cX7_init 18 = .ok (.aload_n 0, 1) := by decide +kernel
theorem dX7_init_19 : decode cX7_init 19 = .ok (.aload_n 1, 1) := by decide +kernel
theorem dX7_init_20 : decode cX7_init 20 = .ok (.putfield 19, 3) := by decide +kernel
theorem dX7_init_23 : decode cX7_init 23 = .ok (.return_, 1) := by decide +kernel
abbrev rm_X7_init : Room := { frames := 1, cells := 1, slots := 609, locals := 20 }
def wp_X7_init (a0 : Nat) (p1 : Option Nat) (σ : Sto) (Q : Sto → Prop) : Prop := (0 + 1 ≤ 1 ∧ 0 + 609 ≤ 609 ∧ (∀ q3 : Nat, ¬ sK σ q3 < 23 → ∀ σ5 : Sto, σ5 = stN σ q3 14 609 → (sK σ5 a0 = 7 ∧ (((0 + 1) ≤ 1 ∧ (0 + 609) ≤ 609) ∧ Q (stP (stI (stP σ5 a0 1 (some q3)) a0 4 (-1 : Int32)) a0 0 p1)))))
set_option maxHeartbeats 4000000 in
set_option maxRecDepth 100000 in
theorem c_X7_init (l : Launch) (D : va_G) (cy : Nat → ClassId) (a0 : Nat) (p1 : Option Nat) (σ : Sto) (Q : Sto → Prop) (h : wp_X7_init a0 p1 σ Q) : Mt l D cy yX7_init cX7_init 2 none rm_X7_init [.ref a0, va_rf p1] σ (PsV Q) := by
  unfold wp_X7_init at h
  refine mt_of (by decide +kernel) (by simp [lg_sl, vrc, cat_i, cat_r, cat_l]) ?_
  intro p e s m args below meth c A ls C hr hnm hl
  have C : Cx p s m args meth c D cy A cX7_init 2 RX7 := C
  have hl : lv_has ls 2 [(0, .ref a0), (1, va_rf p1)] := by simpa [lv_args, vrc, cat_i, cat_r, cat_l] using hl
  refine x_aload_n C dX7_init_0 rfl (lv_at hl 0 rfl) ?_
  refine x_objInit C oi_RX7_3 oi_w2 oi_w3 hl.1 (by decide) (Nat.le_of_ble_eq_true rfl) dX7_init_1 ?_
  refine x_aload_n C dX7_init_4 rfl (lv_at hl 0 rfl) ?_
  refine x_sipush (v := 609) C dX7_init_5 (by decide) ?_
  obtain ⟨g1, g2, h⟩ := h
  refine x_newa C nak_14 (by decide) (by decide) (by decide) g1 g2 dX7_init_8 (fun q3 g4 => ?_)
  refine x_nameS (fun σ5 e6 => ?_)
  have h := h q3 g4 σ5 e6
  obtain ⟨g7, h⟩ := h
  refine x_putR C fl_RX7_9 (rty_a _) (Or.inr ⟨hnm, _, _, _, rfl, rfl⟩) g7 dX7_init_10 ?_
  refine x_aload_n C dX7_init_13 rfl (lv_at hl 0 rfl) ?_
  refine x_iconst (v := -1) C dX7_init_14 (by decide) ?_
  refine x_putI C fl_RX7_15 (Or.inl rfl) g7 dX7_init_15 ?_
  refine x_aload_n C dX7_init_18 rfl (lv_at hl 0 rfl) ?_
  refine x_aload_nq C dX7_init_19 rfl (lv_at hl 1 rfl) ?_
  refine x_putP C fl_RX7_19 (rty_o _) (Or.inr ⟨hnm, _, _, _, rfl, rfl⟩) g7 dX7_init_20 ?_
  refine x_widen h.1.1 h.1.2 ?_
  exact x_vret C hr dX7_init_23 ⟨rfl, h.2⟩
