theorem dX11_request_0 : decode cX11_request 0 = .ok (.aload_n 0, 1) := by decide +kernel
theorem dX11_request_1 : decode cX11_request 1 = .ok (.iload_n 1, 1) := by decide +kernel
theorem dX11_request_2 : decode cX11_request 2 = .ok (.invokevirtual 86, 3) := by decide +kernel
theorem dX11_request_5 : decode cX11_request 5 = .ok (.ifCond .eq 13, 3) := by decide +kernel
theorem dX11_request_8 : decode cX11_request 8 = .ok (.iload_n 3, 1) := by decide +kernel
theorem dX11_request_9 : decode cX11_request 9 = .ok (.ifCond .lt 9, 3) := by decide +kernel
theorem dX11_request_12 : decode cX11_request 12 = .ok (.iload_n 3, 1) := by decide +kernel
theorem dX11_request_13 : decode cX11_request 13 = .ok (.bipush 8, 2) := by decide +kernel
theorem dX11_request_15 : decode cX11_request 15 = .ok (.if_icmp .lt 13, 3) := by decide +kernel
theorem dX11_request_18 : decode cX11_request 18 = .ok (.new 90, 3) := by decide +kernel
theorem dX11_request_21 : decode cX11_request 21 = .ok (.dup, 1) := by decide +kernel
theorem dX11_request_22 : decode cX11_request 22 = .ok (.ldc 92, 2) := by decide +kernel
theorem dX11_request_24 : decode cX11_request 24 = .ok (.invokespecial 94, 3) := by decide +kernel
theorem dX11_request_27 : decode cX11_request 27 = .ok (.athrow, 1) := by decide +kernel
theorem dX11_request_28 : decode cX11_request 28 = .ok (.iload_n 2, 1) := by decide +kernel
theorem dX11_request_29 : decode cX11_request 29 = .ok (.ifCond .lt 8, 3) := by decide +kernel
theorem dX11_request_32 : decode cX11_request 32 = .ok (.iload_n 2, 1) := by decide +kernel
theorem dX11_request_33 : decode cX11_request 33 = .ok (.iconst 2, 1) := by decide +kernel
theorem dX11_request_34 : decode cX11_request 34 = .ok (.if_icmp .le 13, 3) := by decide +kernel
theorem dX11_request_37 : decode cX11_request 37 = .ok (.new 97, 3) := by decide +kernel
theorem dX11_request_40 : decode cX11_request 40 = .ok (.dup, 1) := by decide +kernel
theorem dX11_request_41 : decode cX11_request 41 = .ok (.ldc 99, 2) := by decide +kernel
theorem dX11_request_43 : decode cX11_request 43 = .ok (.invokespecial 101, 3) := by decide +kernel
theorem dX11_request_46 : decode cX11_request 46 = .ok (.athrow, 1) := by decide +kernel
theorem dX11_request_47 : decode cX11_request 47 = .ok (.aload_n 0, 1) := by decide +kernel
theorem dX11_request_48 : decode cX11_request 48 = .ok (.getfield 48, 3) := by decide +kernel
theorem dX11_request_51 : decode cX11_request 51 = .ok (.iload_n 1, 1) := by decide +kernel
theorem dX11_request_52 : decode cX11_request 52 = .ok (.aaload, 1) := by decide +kernel
theorem dX11_request_53 : decode cX11_request 53 = .ok (.astore 5, 2) := by decide +kernel
theorem dX11_request_55 : decode cX11_request 55 = .ok (.aload 5, 2) := by decide +kernel
theorem dX11_request_57 : decode cX11_request 57 = .ok (.getfield 102, 3) := by decide +kernel
theorem dX11_request_60 : decode cX11_request 60 = .ok (.ifCond .eq 13, 3) := by decide +kernel
theorem dX11_request_63 : decode cX11_request 63 = .ok (.new 105, 3) := by decide +kernel
theorem dX11_request_66 : decode cX11_request 66 = .ok (.dup, 1) := by decide +kernel
theorem dX11_request_67 : decode cX11_request 67 = .ok (.ldc 107, 2) := by decide +kernel
theorem dX11_request_69 : decode cX11_request 69 = .ok (.invokespecial 109, 3) := by decide +kernel
theorem dX11_request_72 : decode cX11_request 72 = .ok (.athrow, 1) := by decide +kernel
theorem dX11_request_73 : decode cX11_request 73 = .ok (.aload 5, 2) := by decide +kernel
theorem dX11_request_75 : decode cX11_request 75 = .ok (.new 110, 3) := by decide +kernel
theorem dX11_request_78 : decode cX11_request 78 = .ok (.dup, 1) := by decide +kernel
theorem dX11_request_79 : decode cX11_request 79 = .ok (.iload_n 1, 1) := by decide +kernel
theorem dX11_request_80 : decode cX11_request 80 = .ok (.aload 5, 2) := by decide +kernel
theorem dX11_request_82 : decode cX11_request 82 = .ok (.getfield 112, 3) := by decide +kernel
theorem dX11_request_85 : decode cX11_request 85 = .ok (.iconst 1, 1) := by decide +kernel
theorem dX11_request_86 : decode cX11_request 86 = .ok (.iadd, 1) := by decide +kernel
theorem dX11_request_87 : decode cX11_request 87 = .ok (.iload_n 2, 1) := by decide +kernel
theorem dX11_request_88 : decode cX11_request 88 = .ok (.iload_n 3, 1) := by decide +kernel
theorem dX11_request_89 : decode cX11_request 89 = .ok (.iload 4, 2) := by decide +kernel
theorem dX11_request_91 : decode cX11_request 91 = .ok (.invokespecial 115, 3) := by decide +kernel
theorem dX11_request_94 : decode cX11_request 94 = .ok (.invokevirtual 118, 3) := by decide +kernel
theorem dX11_request_97 : decode cX11_request 97 = .ok (.aload_n 0, 1) := by decide +kernel
theorem dX11_request_98 : decode cX11_request 98 = .ok (.aload 5, 2) := by decide +kernel
theorem dX11_request_100 : decode cX11_request 100 = .ok (.invokevirtual 122, 3) := by decide +kernel
theorem dX11_request_103 : decode cX11_request 103 = .ok (.aload 5, 2) := by decide +kernel
theorem dX11_request_105 : decode cX11_request 105 = .ok (.getfield 112, 3) := by decide +kernel
theorem dX11_request_108 : decode cX11_request 108 = .ok (.ireturn, 1) := by decide +kernel
abbrev rm_X11_request : Room := { frames := 6, cells := 1, slots := 6, locals := 90 }
def wp_X11_request (a0 : Nat) (p1 : Int32) (p2 : Int32) (p3 : Int32) (p4 : Int32) (σ : Sto) (Q : Int32 → Sto → Prop) (X : Nat → Sto → Prop) : Prop := (sK σ a0 = 11 ∧ (wp_X11_isClient a0 p1 σ (fun (x3 : Int32) (σ2 : Sto) => ((x3 = 0 → X 0 σ2) ∧ (¬ x3 = 0 → ((p3 < 0 → X 0 σ2) ∧ (¬ p3 < 0 → ((p3 < (8 : Int32) → ((p2 < 0 → X 1 σ2) ∧ (¬ p2 < 0 → ((p2 ≤ (2 : Int32) → (sK σ2 a0 = 11 ∧ (∃ b10 : Nat, sP σ2 a0 4 = some b10 ∧ (sK σ2 b10 = 17 ∧ (vp_in p1 (sN σ2 b10) ∧ (∀ r14 : Option Nat, r14 = sP σ2 b10 p1.toNatClampNeg → (∃ b16 : Nat, r14 = some b16 ∧ (sK σ2 b16 = 1 ∧ (∀ x19 : Int32, x19 = sI σ2 b16 2 → ((x19 = 0 → (0 + 1 ≤ 1 ∧ 0 + 5 ≤ 6 ∧ (∀ q24 : Nat, ¬ sK σ2 q24 < 23 → ∀ σ26 : Sto, σ26 = stN σ2 q24 9 0 → (sK σ26 b16 = 1 ∧ (∀ x29 : Int32, x29 = sI σ26 b16 1 → (wp_X9_init q24 p1 (x29 + (1 : Int32)) p2 p3 p4 σ26 (fun (σ31 : Sto) => (sK σ31 b16 = 1 ∧ (wp_X1_begin b16 (some q24) σ31 (fun (σ33 : Sto) => (sK σ33 a0 = 11 ∧ (wp_X11_stamp a0 r14 σ33 (fun (σ35 : Sto) => (sK σ35 b16 = 1 ∧ (∀ x37 : Int32, x37 = sI σ35 b16 1 → Q x37 σ35))))))))))))))) ∧ (¬ x19 = 0 → X 2 σ2))))))))))) ∧ (¬ p2 ≤ (2 : Int32) → X 1 σ2))))) ∧ (¬ p3 < (8 : Int32) → X 0 σ2)))))))))
set_option maxHeartbeats 4000000 in
set_option maxRecDepth 100000 in
theorem c_X11_request (l : Launch) (hlt : l.stackTraces = false) (D : va_G) (cy : Nat → ClassId) (a0 : Nat) (p1 : Int32) (p2 : Int32) (p3 : Int32) (p4 : Int32) (σ : Sto) (Q : Int32 → Sto → Prop) (X : Nat → Sto → Prop) (h : wp_X11_request a0 p1 p2 p3 p4 σ Q X) : MtX l D cy yX11_request cX11_request 6 (some .int) rm_X11_request [.ref a0, .int p1, .int p2, .int p3, .int p4] σ (PsI Q) X := by
  unfold wp_X11_request at h
  refine mx_of (by decide +kernel) (Nat.le_of_ble_eq_true rfl) ?_
  intro p e s m args below meth c A ls C hr hnm htab Z Z2 hl
  have C : Cx p s m args meth c D cy A cX11_request 6 RX11 := C
  have hl : lv_has ls 6 [(0, .ref a0), (1, .int p1), (2, .int p2), (3, .int p3), (4, .int p4)] := hl
  refine x_aload_n C dX11_request_0 rfl (lv_at hl 0 rfl) ?_
  refine x_iload_n C dX11_request_1 rfl (lv_at hl 1 rfl) ?_
  obtain ⟨g1, h⟩ := h
  refine x_callV (rm := rm_X11_isClient) (rest := []) (As := [.int p1]) C cy_RX11_86 g1 (by decide) (by decide) rfl rfl (Nat.le_of_ble_eq_true rfl) hl.1 dX11_request_2 (c_X11_isClient l D cy a0 p1 σ _ h) (ks_i (fun x3 σ2 h => ?_))
  refine x_if_eq (tgt := 18) C dX11_request_5 (by decide) (fun c4 => ?_) (fun c4 => ?_)
  · have h := h.1 c4
    exact x_throw C hlt Z Z2 (tw_0 (is := 92) (tx := "no such client or key") (by decide)) htab hl.1 dX11_request_18 dX11_request_21 dX11_request_22 dX11_request_24 dX11_request_27 (by decide) (Nat.le_of_ble_eq_true rfl) (by decide) (by decide) h
  · have h := h.2 c4
    refine x_iload_n C dX11_request_8 rfl (lv_at hl 3 rfl) ?_
    refine x_if_lt (tgt := 18) C dX11_request_9 (by decide) (fun c5 => ?_) (fun c5 => ?_)
    · have h := h.1 c5
      exact x_throw C hlt Z Z2 (tw_0 (is := 92) (tx := "no such client or key") (by decide)) htab hl.1 dX11_request_18 dX11_request_21 dX11_request_22 dX11_request_24 dX11_request_27 (by decide) (Nat.le_of_ble_eq_true rfl) (by decide) (by decide) h
    · have h := h.2 c5
      refine x_iload_n C dX11_request_12 rfl (lv_at hl 3 rfl) ?_
      refine x_bipush (v := 8) C dX11_request_13 (by decide) ?_
      refine x_icmp_lt (tgt := 28) C dX11_request_15 (by decide) (fun c6 => ?_) (fun c6 => ?_)
      · have h := h.1 c6
        refine x_iload_n C dX11_request_28 rfl (lv_at hl 2 rfl) ?_
        refine x_if_lt (tgt := 37) C dX11_request_29 (by decide) (fun c7 => ?_) (fun c7 => ?_)
        · have h := h.1 c7
          exact x_throw C hlt Z Z2 (tw_1 (is := 99) (tx := "no such kind") (by decide)) htab hl.1 dX11_request_37 dX11_request_40 dX11_request_41 dX11_request_43 dX11_request_46 (by decide) (Nat.le_of_ble_eq_true rfl) (by decide) (by decide) h
        · have h := h.2 c7
          refine x_iload_n C dX11_request_32 rfl (lv_at hl 2 rfl) ?_
          refine x_iconst (v := 2) C dX11_request_33 (by decide) ?_
          refine x_icmp_le (tgt := 47) C dX11_request_34 (by decide) (fun c8 => ?_) (fun c8 => ?_)
          · have h := h.1 c8
            refine x_aload_n C dX11_request_47 rfl (lv_at hl 0 rfl) ?_
            obtain ⟨g9, h⟩ := h
            refine x_getP C fl_RX11_48 g9 dX11_request_48 ?_
            refine x_iload_n C dX11_request_51 rfl (lv_at hl 1 rfl) ?_
            obtain ⟨b10, g11, h⟩ := h
            refine x_nn1 g11 ?_
            obtain ⟨g12, h⟩ := h
            obtain ⟨g13, h⟩ := h
            refine x_aald C rak_17 g12 g13 dX11_request_52 ?_
            refine x_topq (fun r14 e15 => ?_)
            have h := h r14 e15
            refine x_astoreq (i := 5) (lv' := [(5, va_rf r14), (0, .ref a0), (1, .int p1), (2, .int p2), (3, .int p3), (4, .int p4)]) C dX11_request_53 hl (by decide) (by first | rfl | simp [vrc, cat_i, cat_r, cat_l]) (fun ls hl => ?_)
            refine x_aloadq C dX11_request_55 (lv_at hl 0 rfl) ?_
            obtain ⟨b16, g17, h⟩ := h
            refine x_nn0 g17 ?_
            obtain ⟨g18, h⟩ := h
            refine x_getZ C fl_RX11_102 g18 dX11_request_57 ?_
            refine x_topi (fun x19 e20 => ?_)
            have h := h x19 e20
            refine x_if_eq (tgt := 73) C dX11_request_60 (by decide) (fun c21 => ?_) (fun c21 => ?_)
            · have h := h.1 c21
              refine x_aloadq C dX11_request_73 (lv_at hl 0 rfl) ?_
              obtain ⟨g22, g23, h⟩ := h
              refine x_new C cls_9 cl_RX11_110 ins_9 ini_9 g22 g23 dX11_request_75 (fun q24 g25 => ?_)
              refine x_nameS (fun σ26 e27 => ?_)
              have h := h q24 g25 σ26 e27
              refine x_dup C dX11_request_78 (rfl) ?_
              refine x_iload_n C dX11_request_79 rfl (lv_at hl 2 rfl) ?_
              refine x_aloadq C dX11_request_80 (lv_at hl 0 rfl) ?_
              refine x_nn0 g17 ?_
              obtain ⟨g28, h⟩ := h
              refine x_getI C fl_RX11_112 g28 dX11_request_82 ?_
              refine x_topi (fun x29 e30 => ?_)
              have h := h x29 e30
              refine x_iconst (v := 1) C dX11_request_85 (by decide) ?_
              refine x_iadd C dX11_request_86 ?_
              refine x_iload_n C dX11_request_87 rfl (lv_at hl 3 rfl) ?_
              refine x_iload_n C dX11_request_88 rfl (lv_at hl 4 rfl) ?_
              refine x_iload C dX11_request_89 (lv_at hl 5 rfl) ?_
              refine x_callI (rm := rm_X9_init) (rest := [.ref q24, va_rf r14]) (As := [.int p1, .int (x29 + (1 : Int32)), .int p2, .int p3, .int p4]) C ci_RX11_115 (by decide) (by decide) rfl rfl (by simp [vrc, cat_i, cat_r, cat_l]) hl.1 dX11_request_91 (c_X9_init l D cy q24 p1 (x29 + (1 : Int32)) p2 p3 p4 σ26 _ h) (ks_v (fun σ31 h => ?_))
              refine x_nn1 g17 ?_
              obtain ⟨g32, h⟩ := h
              refine x_callV (rm := rm_X1_begin) (rest := []) (As := [.ref q24]) C cy_RX11_118 g32 (by decide) (by decide) rfl rfl (Nat.le_of_ble_eq_true rfl) hl.1 dX11_request_94 (c_X1_begin l D cy b16 (some q24) σ31 _ h) (ks_v (fun σ33 h => ?_))
              refine x_aload_n C dX11_request_97 rfl (lv_at hl 1 rfl) ?_
              refine x_aloadq C dX11_request_98 (lv_at hl 0 rfl) ?_
              obtain ⟨g34, h⟩ := h
              refine x_callV (rm := rm_X11_stamp) (rest := []) (As := [va_rf r14]) C cy_RX11_122 g34 (by decide) (by decide) rfl rfl (Nat.le_of_ble_eq_true rfl) hl.1 dX11_request_100 (c_X11_stamp l D cy a0 r14 σ33 _ h) (ks_v (fun σ35 h => ?_))
              refine x_aloadq C dX11_request_103 (lv_at hl 0 rfl) ?_
              refine x_nn0 g17 ?_
              obtain ⟨g36, h⟩ := h
              refine x_getI C fl_RX11_112 g36 dX11_request_105 ?_
              refine x_topi (fun x37 e38 => ?_)
              have h := h x37 e38
              refine x_xret (x_widen (mc := rm_X11_request.cells) (ms := rm_X11_request.slots) (by decide) (by decide) ?_)
              exact x_iret C hr dX11_request_108 ⟨_, rfl, h⟩
            · have h := h.2 c21
              exact x_throw C hlt Z Z2 (tw_2 (is := 107) (tx := "its latest request is open") (by decide)) htab hl.1 dX11_request_63 dX11_request_66 dX11_request_67 dX11_request_69 dX11_request_72 (by decide) (Nat.le_of_ble_eq_true rfl) (by decide) (by decide) h
          · have h := h.2 c8
            exact x_throw C hlt Z Z2 (tw_1 (is := 99) (tx := "no such kind") (by decide)) htab hl.1 dX11_request_37 dX11_request_40 dX11_request_41 dX11_request_43 dX11_request_46 (by decide) (Nat.le_of_ble_eq_true rfl) (by decide) (by decide) h
      · have h := h.2 c6
        exact x_throw C hlt Z Z2 (tw_0 (is := 92) (tx := "no such client or key") (by decide)) htab hl.1 dX11_request_18 dX11_request_21 dX11_request_22 dX11_request_24 dX11_request_27 (by decide) (Nat.le_of_ble_eq_true rfl) (by decide) (by decide) h
theorem dX11_again_0 : decode cX11_again 0 = .ok (.aload_n 0, 1) := by decide +kernel
theorem dX11_again_1 : decode cX11_again 1 = .ok (.iload_n 1, 1) := by decide +kernel
theorem dX11_again_2 : decode cX11_again 2 = .ok (.invokevirtual 86, 3) := by decide +kernel
theorem dX11_again_5 : decode cX11_again 5 = .ok (.ifCond .ne 13, 3) := by decide +kernel
theorem dX11_again_8 : decode cX11_again 8 = .ok (.new 90, 3) := by decide +kernel
theorem dX11_again_11 : decode cX11_again 11 = .ok (.dup, 1) := by decide +kernel
theorem dX11_again_12 : decode cX11_again 12 = .ok (.ldc 126, 2) := by decide +kernel
theorem dX11_again_14 : decode cX11_again 14 = .ok (.invokespecial 94, 3) := by decide +kernel
theorem dX11_again_17 : decode cX11_again 17 = .ok (.athrow, 1) := by decide +kernel
theorem dX11_again_18 : decode cX11_again 18 = .ok (.aload_n 0, 1) := by decide +kernel
theorem dX11_again_19 : decode cX11_again 19 = .ok (.getfield 48, 3) := by decide +kernel
theorem dX11_again_22 : decode cX11_again 22 = .ok (.iload_n 1, 1) := by decide +kernel
theorem dX11_again_23 : decode cX11_again 23 = .ok (.aaload, 1) := by decide +kernel
theorem dX11_again_24 : decode cX11_again 24 = .ok (.astore_n 2, 1) := by decide +kernel
theorem dX11_again_25 : decode cX11_again 25 = .ok (.aload_n 2, 1) := by decide +kernel
theorem dX11_again_26 : decode cX11_again 26 = .ok (.getfield 102, 3) := by decide +kernel
theorem dX11_again_29 : decode cX11_again 29 = .ok (.ifCond .ne 13, 3) := by decide +kernel
theorem dX11_again_32 : decode cX11_again 32 = .ok (.new 105, 3) := by decide +kernel
theorem dX11_again_35 : decode cX11_again 35 = .ok (.dup, 1) := by decide +kernel
theorem dX11_again_36 : decode cX11_again 36 = .ok (.ldc 128, 2) := by decide +kernel
theorem dX11_again_38 : decode cX11_again 38 = .ok (.invokespecial 109, 3) := by decide +kernel
theorem dX11_again_41 : decode cX11_again 41 = .ok (.athrow, 1) := by decide +kernel
theorem dX11_again_42 : decode cX11_again 42 = .ok (.aload_n 0, 1) := by decide +kernel
theorem dX11_again_43 : decode cX11_again 43 = .ok (.aload_n 2, 1) := by decide +kernel
theorem dX11_again_44 : decode cX11_again 44 = .ok (.invokevirtual 122, 3) := by decide +kernel
theorem dX11_again_47 : decode cX11_again 47 = .ok (.return_, 1) := by decide +kernel
abbrev rm_X11_again : Room := { frames := 6, cells := 1, slots := 6, locals := 90 }
def wp_X11_again (a0 : Nat) (p1 : Int32) (σ : Sto) (Q : Sto → Prop) (X : Nat → Sto → Prop) : Prop := (sK σ a0 = 11 ∧ (wp_X11_isClient a0 p1 σ (fun (x3 : Int32) (σ2 : Sto) => ((¬ x3 = 0 → (sK σ2 a0 = 11 ∧ (∃ b6 : Nat, sP σ2 a0 4 = some b6 ∧ (sK σ2 b6 = 17 ∧ (vp_in p1 (sN σ2 b6) ∧ (∀ r10 : Option Nat, r10 = sP σ2 b6 p1.toNatClampNeg → (∃ b12 : Nat, r10 = some b12 ∧ (sK σ2 b12 = 1 ∧ (∀ x15 : Int32, x15 = sI σ2 b12 2 → ((¬ x15 = 0 → (wp_X11_stamp a0 r10 σ2 (fun (σ18 : Sto) => Q σ18))) ∧ (x15 = 0 → X 2 σ2))))))))))) ∧ (x3 = 0 → X 0 σ2)))))
set_option maxHeartbeats 4000000 in
set_option maxRecDepth 100000 in
theorem c_X11_again (l : Launch) (hlt : l.stackTraces = false) (D : va_G) (cy : Nat → ClassId) (a0 : Nat) (p1 : Int32) (σ : Sto) (Q : Sto → Prop) (X : Nat → Sto → Prop) (h : wp_X11_again a0 p1 σ Q X) : MtX l D cy yX11_again cX11_again 3 none rm_X11_again [.ref a0, .int p1] σ (PsV Q) X := by
  unfold wp_X11_again at h
  refine mx_of (by decide +kernel) (Nat.le_of_ble_eq_true rfl) ?_
  intro p e s m args below meth c A ls C hr hnm htab Z Z2 hl
  have C : Cx p s m args meth c D cy A cX11_again 3 RX11 := C
  have hl : lv_has ls 3 [(0, .ref a0), (1, .int p1)] := hl
  refine x_aload_n C dX11_again_0 rfl (lv_at hl 0 rfl) ?_
  refine x_iload_n C dX11_again_1 rfl (lv_at hl 1 rfl) ?_
  obtain ⟨g1, h⟩ := h
  refine x_callV (rm := rm_X11_isClient) (rest := []) (As := [.int p1]) C cy_RX11_86 g1 (by decide) (by decide) rfl rfl (Nat.le_of_ble_eq_true rfl) hl.1 dX11_again_2 (c_X11_isClient l D cy a0 p1 σ _ h) (ks_i (fun x3 σ2 h => ?_))
  refine x_if_ne (tgt := 18) C dX11_again_5 (by decide) (fun c4 => ?_) (fun c4 => ?_)
  · have h := h.1 c4
    refine x_aload_n C dX11_again_18 rfl (lv_at hl 0 rfl) ?_
    obtain ⟨g5, h⟩ := h
    refine x_getP C fl_RX11_48 g5 dX11_again_19 ?_
    refine x_iload_n C dX11_again_22 rfl (lv_at hl 1 rfl) ?_
    obtain ⟨b6, g7, h⟩ := h
    refine x_nn1 g7 ?_
    obtain ⟨g8, h⟩ := h
    obtain ⟨g9, h⟩ := h
    refine x_aald C rak_17 g8 g9 dX11_again_23 ?_
    refine x_topq (fun r10 e11 => ?_)
    have h := h r10 e11
    refine x_astore_nq (i := 2) (lv' := [(2, va_rf r10), (0, .ref a0), (1, .int p1)]) C dX11_again_24 rfl hl (by decide) (by first | rfl | simp [vrc, cat_i, cat_r, cat_l]) (fun ls hl => ?_)
    refine x_aload_nq C dX11_again_25 rfl (lv_at hl 0 rfl) ?_
    obtain ⟨b12, g13, h⟩ := h
    refine x_nn0 g13 ?_
    obtain ⟨g14, h⟩ := h
    refine x_getZ C fl_RX11_102 g14 dX11_again_26 ?_
    refine x_topi (fun x15 e16 => ?_)
    have h := h x15 e16
    refine x_if_ne (tgt := 42) C dX11_again_29 (by decide) (fun c17 => ?_) (fun c17 => ?_)
    · have h := h.1 c17
      refine x_aload_n C dX11_again_42 rfl (lv_at hl 1 rfl) ?_
      refine x_aload_nq C dX11_again_43 rfl (lv_at hl 0 rfl) ?_
      refine x_callV (rm := rm_X11_stamp) (rest := []) (As := [va_rf r10]) C cy_RX11_122 g5 (by decide) (by decide) rfl rfl (Nat.le_of_ble_eq_true rfl) hl.1 dX11_again_44 (c_X11_stamp l D cy a0 r10 σ2 _ h) (ks_v (fun σ18 h => ?_))
      refine x_xret (x_widen (mc := rm_X11_again.cells) (ms := rm_X11_again.slots) (by decide) (by decide) ?_)
      exact x_vret C hr dX11_again_47 ⟨rfl, h⟩
    · have h := h.2 c17
      exact x_throw C hlt Z Z2 (tw_2 (is := 128) (tx := "it has no open request") (by decide)) htab hl.1 dX11_again_32 dX11_again_35 dX11_again_36 dX11_again_38 dX11_again_41 (by decide) (Nat.le_of_ble_eq_true rfl) (by decide) (by decide) h
  · have h := h.2 c4
    exact x_throw C hlt Z Z2 (tw_0 (is := 126) (tx := "no such client") (by decide)) htab hl.1 dX11_again_8 dX11_again_11 dX11_again_12 dX11_again_14 dX11_again_17 (by decide) (Nat.le_of_ble_eq_true rfl) (by decide) (by decide) h
theorem dX11_deliver_0 : decode cX11_deliver 0 = .ok (.aload_n 0, 1) := by decide +kernel
theorem dX11_deliver_1 : decode cX11_deliver 1 = .ok (.getfield 24, 3) := by decide +kernel
theorem dX11_deliver_4 : decode cX11_deliver 4 = .ok (.iload_n 1, 1) := by decide +kernel
theorem dX11_deliver_5 : decode cX11_deliver 5 = .ok (.invokevirtual 130, 3) := by decide +kernel
theorem dX11_deliver_8 : decode cX11_deliver 8 = .ok (.istore_n 2, 1) := by decide +kernel
theorem dX11_deliver_9 : decode cX11_deliver 9 = .ok (.iload_n 2, 1) := by decide +kernel
theorem dX11_deliver_10 : decode cX11_deliver 10 = .ok (.iconst (-1), 1) := by decide +kernel
theorem dX11_deliver_11 : decode cX11_deliver 11 = .ok (.if_icmp .ne 13, 3) := by decide +kernel
theorem dX11_deliver_14 : decode cX11_deliver 14 = .ok (.new 97, 3) := by decide +kernel
theorem dX11_deliver_17 : decode cX11_deliver 17 = .ok (.dup, 1) := by decide +kernel
theorem dX11_deliver_18 : decode cX11_deliver 18 = .ok (.ldc 134, 2) := by decide +kernel
theorem dX11_deliver_20 : decode cX11_deliver 20 = .ok (.invokespecial 101, 3) := by decide +kernel
theorem dX11_deliver_23 : decode cX11_deliver 23 = .ok (.athrow, 1) := by decide +kernel
theorem dX11_deliver_24 : decode cX11_deliver 24 = .ok (.aload_n 0, 1) := by decide +kernel
theorem dX11_deliver_25 : decode cX11_deliver 25 = .ok (.iload_n 2, 1) := by decide +kernel
theorem dX11_deliver_26 : decode cX11_deliver 26 = .ok (.invokevirtual 136, 3) := by decide +kernel
theorem dX11_deliver_29 : decode cX11_deliver 29 = .ok (.return_, 1) := by decide +kernel
abbrev rm_X11_deliver : Room := { frames := 7, cells := 1, slots := 6, locals := 161 }
def wp_X11_deliver (a0 : Nat) (p1 : Int32) (σ : Sto) (Q : Sto → Prop) (X : Nat → Sto → Prop) : Prop := (sK σ a0 = 11 ∧ (∃ b2 : Nat, sP σ a0 1 = some b2 ∧ (sK σ b2 = 4 ∧ (wp_X4_find b2 p1 σ (fun (x6 : Int32) (σ5 : Sto) => ((¬ x6 = (-1 : Int32) → (sK σ5 a0 = 11 ∧ (wp_X11_handOver a0 x6 σ5 (fun (σ9 : Sto) => Q σ9)))) ∧ (x6 = (-1 : Int32) → X 1 σ5)))))))
set_option maxHeartbeats 4000000 in
set_option maxRecDepth 100000 in
theorem c_X11_deliver (l : Launch) (hlt : l.stackTraces = false) (D : va_G) (cy : Nat → ClassId) (a0 : Nat) (p1 : Int32) (σ : Sto) (Q : Sto → Prop) (X : Nat → Sto → Prop) (h : wp_X11_deliver a0 p1 σ Q X) : MtX l D cy yX11_deliver cX11_deliver 3 none rm_X11_deliver [.ref a0, .int p1] σ (PsV Q) X := by
  unfold wp_X11_deliver at h
  refine mx_of (by decide +kernel) (Nat.le_of_ble_eq_true rfl) ?_
  intro p e s m args below meth c A ls C hr hnm htab Z Z2 hl
  have C : Cx p s m args meth c D cy A cX11_deliver 3 RX11 := C
  have hl : lv_has ls 3 [(0, .ref a0), (1, .int p1)] := hl
  refine x_aload_n C dX11_deliver_0 rfl (lv_at hl 0 rfl) ?_
  obtain ⟨g1, h⟩ := h
  refine x_getP C fl_RX11_24 g1 dX11_deliver_1 ?_
  refine x_iload_n C dX11_deliver_4 rfl (lv_at hl 1 rfl) ?_
  obtain ⟨b2, g3, h⟩ := h
  refine x_nn1 g3 ?_
  obtain ⟨g4, h⟩ := h
  refine x_callV (rm := rm_X4_find) (rest := []) (As := [.int p1]) C cy_RX11_130 g4 (by decide) (by decide) rfl rfl (Nat.le_of_ble_eq_true rfl) hl.1 dX11_deliver_5 (c_X4_find l D cy b2 p1 σ _ h) (ks_i (fun x6 σ5 h => ?_))
  refine x_istore_n (i := 2) (lv' := [(2, .int x6), (0, .ref a0), (1, .int p1)]) C dX11_deliver_8 rfl hl (by decide) (by first | rfl | simp [vrc, cat_i, cat_r, cat_l]) (fun ls hl => ?_)
  refine x_iload_n C dX11_deliver_9 rfl (lv_at hl 0 rfl) ?_
  refine x_iconst (v := -1) C dX11_deliver_10 (by decide) ?_
  refine x_icmp_ne (tgt := 24) C dX11_deliver_11 (by decide) (fun c7 => ?_) (fun c7 => ?_)
  · have h := h.1 c7
    refine x_aload_n C dX11_deliver_24 rfl (lv_at hl 1 rfl) ?_
    refine x_iload_n C dX11_deliver_25 rfl (lv_at hl 0 rfl) ?_
    obtain ⟨g8, h⟩ := h
    refine x_callV (rm := rm_X11_handOver) (rest := []) (As := [.int x6]) C cy_RX11_136 g8 (by decide) (by decide) rfl rfl (Nat.le_of_ble_eq_true rfl) hl.1 dX11_deliver_26 (c_X11_handOver l D cy a0 x6 σ5 _ h) (ks_v (fun σ9 h => ?_))
    refine x_xret (x_widen (mc := rm_X11_deliver.cells) (ms := rm_X11_deliver.slots) (by decide) (by decide) ?_)
    exact x_vret C hr dX11_deliver_29 ⟨rfl, h⟩
  · have h := h.2 c7
    exact x_throw C hlt Z Z2 (tw_1 (is := 134) (tx := "it is not in the air") (by decide)) htab hl.1 dX11_deliver_14 dX11_deliver_17 dX11_deliver_18 dX11_deliver_20 dX11_deliver_23 (by decide) (Nat.le_of_ble_eq_true rfl) (by decide) (by decide) h
theorem dX11_lose_0 : decode cX11_lose 0 = .ok (.aload_n 0, 1) := by decide +kernel
theorem dX11_lose_1 : decode cX11_lose 1 = .ok (.getfield 24, 3) := by decide +kernel
theorem dX11_lose_4 : decode cX11_lose 4 = .ok (.iload_n 1, 1) := by decide +kernel
theorem dX11_lose_5 : decode cX11_lose 5 = .ok (.invokevirtual 130, 3) := by decide +kernel
theorem dX11_lose_8 : decode cX11_lose 8 = .ok (.istore_n 2, 1) := by decide +kernel
theorem dX11_lose_9 : decode cX11_lose 9 = .ok (.iload_n 2, 1) := by decide +kernel
theorem dX11_lose_10 : decode cX11_lose 10 = .ok (.iconst (-1), 1) := by decide +kernel
theorem dX11_lose_11 : decode cX11_lose 11 = .ok (.if_icmp .ne 13, 3) := by decide +kernel
theorem dX11_lose_14 : decode cX11_lose 14 = .ok (.new 97, 3) := by decide +kernel
theorem dX11_lose_17 : decode cX11_lose 17 = .ok (.dup, 1) := by decide +kernel
theorem dX11_lose_18 : decode cX11_lose 18 = .ok (.ldc 134, 2) := by decide +kernel
theorem dX11_lose_20 : decode cX11_lose 20 = .ok (.invokespecial 101, 3) := by decide +kernel
theorem dX11_lose_23 : decode cX11_lose 23 = .ok (.athrow, 1) := by decide +kernel
theorem dX11_lose_24 : decode cX11_lose 24 = .ok (.aload_n 0, 1) := by decide +kernel
theorem dX11_lose_25 : decode cX11_lose 25 = .ok (.getfield 24, 3) := by decide +kernel
theorem dX11_lose_28 : decode cX11_lose 28 = .ok (.iload_n 2, 1) := by decide +kernel
theorem dX11_lose_29 : decode cX11_lose 29 = .ok (.invokevirtual 139, 3) := by decide +kernel
theorem dX11_lose_32 : decode cX11_lose 32 = .ok (.pop, 1) := by decide +kernel
theorem dX11_lose_33 : decode cX11_lose 33 = .ok (.aload_n 0, 1) := by decide +kernel
theorem dX11_lose_34 : decode cX11_lose 34 = .ok (.getfield 24, 3) := by decide +kernel
theorem dX11_lose_37 : decode cX11_lose 37 = .ok (.dup, 1) := by decide +kernel
theorem dX11_lose_38 : decode cX11_lose 38 = .ok (.getfield 143, 3) := by decide +kernel
theorem dX11_lose_41 : decode cX11_lose 41 = .ok (.iconst 1, 1) := by decide +kernel
theorem dX11_lose_42 : decode cX11_lose 42 = .ok (.iadd, 1) := by decide +kernel
theorem dX11_lose_43 : decode cX11_lose 43 = .ok (.putfield 143, 3) := by decide +kernel
theorem dX11_lose_46 : decode cX11_lose 46 = .ok (.return_, 1) := by decide +kernel
abbrev rm_X11_lose : Room := { frames := 6, cells := 1, slots := 6, locals := 90 }
def wp_X11_lose (a0 : Nat) (p1 : Int32) (σ : Sto) (Q : Sto → Prop) (X : Nat → Sto → Prop) : Prop := (sK σ a0 = 11 ∧ (∃ b2 : Nat, sP σ a0 1 = some b2 ∧ (sK σ b2 = 4 ∧ (wp_X4_find b2 p1 σ (fun (x6 : Int32) (σ5 : Sto) => ((¬ x6 = (-1 : Int32) → (sK σ5 a0 = 11 ∧ (∃ b9 : Nat, sP σ5 a0 1 = some b9 ∧ (sK σ5 b9 = 4 ∧ (wp_X4_pull b9 x6 σ5 (fun (r13 : Option Nat) (σ12 : Sto) => (sK σ12 a0 = 11 ∧ (∀ r15 : Option Nat, r15 = sP σ12 a0 1 → (∃ b17 : Nat, r15 = some b17 ∧ (sK σ12 b17 = 4 ∧ (∀ x20 : Int32, x20 = sI σ12 b17 7 → (∀ x22 : Int32, x22 = x20 + (1 : Int32) → Q (stI σ12 b17 7 x22))))))))))))) ∧ (x6 = (-1 : Int32) → X 1 σ5)))))))
set_option maxHeartbeats 4000000 in
set_option maxRecDepth 100000 in
theorem c_X11_lose (l : Launch) (hlt : l.stackTraces = false) (D : va_G) (cy : Nat → ClassId) (a0 : Nat) (p1 : Int32) (σ : Sto) (Q : Sto → Prop) (X : Nat → Sto → Prop) (h : wp_X11_lose a0 p1 σ Q X) : MtX l D cy yX11_lose cX11_lose 3 none rm_X11_lose [.ref a0, .int p1] σ (PsV Q) X := by
  unfold wp_X11_lose at h
  refine mx_of (by decide +kernel) (Nat.le_of_ble_eq_true rfl) ?_
  intro p e s m args below meth c A ls C hr hnm htab Z Z2 hl
  have C : Cx p s m args meth c D cy A cX11_lose 3 RX11 := C
  have hl : lv_has ls 3 [(0, .ref a0), (1, .int p1)] := hl
  refine x_aload_n C dX11_lose_0 rfl (lv_at hl 0 rfl) ?_
  obtain ⟨g1, h⟩ := h
  refine x_getP C fl_RX11_24 g1 dX11_lose_1 ?_
  refine x_iload_n C dX11_lose_4 rfl (lv_at hl 1 rfl) ?_
  obtain ⟨b2, g3, h⟩ := h
  refine x_nn1 g3 ?_
  obtain ⟨g4, h⟩ := h
  refine x_callV (rm := rm_X4_find) (rest := []) (As := [.int p1]) C cy_RX11_130 g4 (by decide) (by decide) rfl rfl (Nat.le_of_ble_eq_true rfl) hl.1 dX11_lose_5 (c_X4_find l D cy b2 p1 σ _ h) (ks_i (fun x6 σ5 h => ?_))
  refine x_istore_n (i := 2) (lv' := [(2, .int x6), (0, .ref a0), (1, .int p1)]) C dX11_lose_8 rfl hl (by decide) (by first | rfl | simp [vrc, cat_i, cat_r, cat_l]) (fun ls hl => ?_)
  refine x_iload_n C dX11_lose_9 rfl (lv_at hl 0 rfl) ?_
  refine x_iconst (v := -1) C dX11_lose_10 (by decide) ?_
  refine x_icmp_ne (tgt := 24) C dX11_lose_11 (by decide) (fun c7 => ?_) (fun c7 => ?_)
  · have h := h.1 c7
    refine x_aload_n C dX11_lose_24 rfl (lv_at hl 1 rfl) ?_
    obtain ⟨g8, h⟩ := h
    refine x_getP C fl_RX11_24 g8 dX11_lose_25 ?_
    refine x_iload_n C dX11_lose_28 rfl (lv_at hl 0 rfl) ?_
    obtain ⟨b9, g10, h⟩ := h
    refine x_nn1 g10 ?_
    obtain ⟨g11, h⟩ := h
    refine x_callV (rm := rm_X4_pull) (rest := []) (As := [.int x6]) C cy_RX11_139 g11 (by decide) (by decide) rfl rfl (Nat.le_of_ble_eq_true rfl) hl.1 dX11_lose_29 (c_X4_pull l D cy b9 x6 σ5 _ h) (ks_p (fun r13 σ12 h => ?_))
    refine x_pop C dX11_lose_32 (vrc _) ?_
    refine x_aload_n C dX11_lose_33 rfl (lv_at hl 1 rfl) ?_
    obtain ⟨g14, h⟩ := h
    refine x_getP C fl_RX11_24 g14 dX11_lose_34 ?_
    refine x_topq (fun r15 e16 => ?_)
    have h := h r15 e16
    refine x_dup C dX11_lose_37 (vrc _) ?_
    obtain ⟨b17, g18, h⟩ := h
    refine x_nn0 g18 ?_
    obtain ⟨g19, h⟩ := h
    refine x_getI C fl_RX11_143 g19 dX11_lose_38 ?_
    refine x_topi (fun x20 e21 => ?_)
    have h := h x20 e21
    refine x_iconst (v := 1) C dX11_lose_41 (by decide) ?_
    refine x_iadd C dX11_lose_42 ?_
    refine x_topi (fun x22 e23 => ?_)
    have h := h x22 e23
    refine x_nn1 g18 ?_
    refine x_putI C fl_RX11_143 (Or.inl rfl) g19 dX11_lose_43 ?_
    refine x_xret (x_widen (mc := rm_X11_lose.cells) (ms := rm_X11_lose.slots) (by decide) (by decide) ?_)
    exact x_vret C hr dX11_lose_46 ⟨rfl, h⟩
  · have h := h.2 c7
    exact x_throw C hlt Z Z2 (tw_1 (is := 134) (tx := "it is not in the air") (by decide)) htab hl.1 dX11_lose_14 dX11_lose_17 dX11_lose_18 dX11_lose_20 dX11_lose_23 (by decide) (Nat.le_of_ble_eq_true rfl) (by decide) (by decide) h
theorem dX11_flow_0 : decode cX11_flow 0 = .ok (.iload_n 1, 1) := by decide +kernel
theorem dX11_flow_1 : decode cX11_flow 1 = .ok (.ifCond .lt 9, 3) := by decide +kernel
theorem dX11_flow_4 : decode cX11_flow 4 = .ok (.iload_n 1, 1) := by decide +kernel
theorem dX11_flow_5 : decode cX11_flow 5 = .ok (.bipush 40, 2) := by decide +kernel
theorem dX11_flow_7 : decode cX11_flow 7 = .ok (.if_icmp .le 13, 3) := by decide +kernel
theorem dX11_flow_10 : decode cX11_flow 10 = .ok (.new 97, 3) := by decide +kernel
theorem dX11_flow_13 : decode cX11_flow 13 = .ok (.dup, 1) := by decide +kernel
theorem dX11_flow_14 : decode cX11_flow 14 = .ok (.ldc 146, 2) := by decide +kernel
theorem dX11_flow_16 : decode cX11_flow 16 = .ok (.invokespecial 101, 3) := by decide +kernel
theorem dX11_flow_19 : decode cX11_flow 19 = .ok (.athrow, 1) := by decide +kernel
theorem dX11_flow_20 : decode cX11_flow 20 = .ok (.iconst 0, 1) := by decide +kernel
theorem dX11_flow_21 : decode cX11_flow 21 = .ok (.istore_n 2, 1) := by decide +kernel
theorem dX11_flow_22 : decode cX11_flow 22 = .ok (.iload_n 2, 1) := by decide +kernel
theorem dX11_flow_23 : decode cX11_flow 23 = .ok (.iload_n 1, 1) := by decide +kernel
theorem dX11_flow_24 : decode cX11_flow 24 = .ok (.if_icmp .ge 24, 3) := by decide +kernel
theorem dX11_flow_27 : decode cX11_flow 27 = .ok (.aload_n 0, 1) := by decide +kernel
theorem dX11_flow_28 : decode cX11_flow 28 = .ok (.getfield 24, 3) := by decide +kernel
theorem dX11_flow_31 : decode cX11_flow 31 = .ok (.getfield 148, 3) := by decide +kernel
theorem dX11_flow_34 : decode cX11_flow 34 = .ok (.ifCond .le 14, 3) := by decide +kernel
theorem dX11_flow_37 : decode cX11_flow 37 = .ok (.aload_n 0, 1) := by decide +kernel
theorem dX11_flow_38 : decode cX11_flow 38 = .ok (.iconst 0, 1) := by decide +kernel
theorem dX11_flow_39 : decode cX11_flow 39 = .ok (.invokevirtual 136, 3) := by decide +kernel
theorem dX11_flow_42 : decode cX11_flow 42 = .ok (.iinc 2 1, 3) := by decide +kernel
theorem dX11_flow_45 : decode cX11_flow 45 = .ok (.goto (-23), 3) := by decide +kernel
theorem dX11_flow_48 : decode cX11_flow 48 = .ok (.iload_n 2, 1) := by decide +kernel
theorem dX11_flow_49 : decode cX11_flow 49 = .ok (.ireturn, 1) := by decide +kernel
abbrev rm_X11_flow : Room := { frames := 7, cells := 1, slots := 6, locals := 161 }
def f_X11_flow_22 (a0 : Nat)  (Q : Int32 → Sto → Prop) (X : Nat → Sto → Prop) (L22 : Int32 × Int32 → Sto → Prop) (t : Int32 × Int32) (σ : Sto) : Prop := ((t.1 ≤ t.2 → Q t.2 σ) ∧ (¬ t.1 ≤ t.2 → (sK σ a0 = 11 ∧ (∃ b3 : Nat, sP σ a0 1 = some b3 ∧ (sK σ b3 = 4 ∧ (∀ x6 : Int32, x6 = sI σ b3 5 → ((x6 ≤ 0 → Q t.2 σ) ∧ (¬ x6 ≤ 0 → (wp_X11_handOver a0 (0 : Int32) σ (fun (σ9 : Sto) => (∀ x10 : Int32, x10 = t.2 + (1 : Int32) → L22 (t.1, x10) σ9)))))))))))
set_option maxHeartbeats 4000000 in
set_option maxRecDepth 100000 in
theorem t_X11_flow_22 {p : Program} {l : Launch} {e : Env} {s : State} {m : MethodId} {args : Array Value} {below : List Frame} {meth : Method} {c : Code} {D : va_G} {cy : Nat → ClassId} {A : Nat → Prop} {a0 : Nat} {Q : Int32 → Sto → Prop} {X : Nat → Sto → Prop} {L22 : Int32 × Int32 → Sto → Prop} (C : Cx p s m args meth c D cy A cX11_flow 3 RX11) (hr : meth.sig.returnType = (some .int)) (hnm : meth.name = yX11_flow.name) (hlt : l.stackTraces = false) (Z : ZW s) (Z2 : ZH A s s.heap) (htab : ∀ x ∈ c.exceptionTable.toList, False) (hL22 : ∀ (t : Int32 × Int32) (σ : Sto), L22 t σ → ∀ ls : Array Slot, lv_has ls 3 [(0, .ref a0), (1, .int t.1), (2, .int t.2)] → Xw p l e rm_X11_flow s m args below meth c D cy A σ 0 0 (vx_MQ below (Qst D cy A (PsI Q)) (Xst D cy A X) args s rm_X11_flow.cells rm_X11_flow.slots A) (F0 m 22 ls [])) : ∀ (t : Int32 × Int32) (σ : Sto), f_X11_flow_22 a0  Q X L22 t σ → ∀ ls : Array Slot, lv_has ls 3 [(0, .ref a0), (1, .int t.1), (2, .int t.2)] → Xw p l e rm_X11_flow s m args below meth c D cy A σ 0 0 (vx_MQ below (Qst D cy A (PsI Q)) (Xst D cy A X) args s rm_X11_flow.cells rm_X11_flow.slots A) (F0 m 22 ls []) := by
  intro t σ h ls hl
  unfold f_X11_flow_22 at h
  refine x_iload_n C dX11_flow_22 rfl (lv_at hl 2 rfl) ?_
  refine x_iload_n C dX11_flow_23 rfl (lv_at hl 1 rfl) ?_
  refine x_icmp_ge (tgt := 48) C dX11_flow_24 (by decide) (fun c1 => ?_) (fun c1 => ?_)
  · have h := h.1 c1
    refine x_iload_n C dX11_flow_48 rfl (lv_at hl 2 rfl) ?_
    refine x_xret (x_widen (mc := rm_X11_flow.cells) (ms := rm_X11_flow.slots) (by decide) (by decide) ?_)
    exact x_iret C hr dX11_flow_49 ⟨_, rfl, h⟩
  · have h := h.2 c1
    refine x_aload_n C dX11_flow_27 rfl (lv_at hl 0 rfl) ?_
    obtain ⟨g2, h⟩ := h
    refine x_getP C fl_RX11_24 g2 dX11_flow_28 ?_
    obtain ⟨b3, g4, h⟩ := h
    refine x_nn0 g4 ?_
    obtain ⟨g5, h⟩ := h
    refine x_getI C fl_RX11_148 g5 dX11_flow_31 ?_
    refine x_topi (fun x6 e7 => ?_)
    have h := h x6 e7
    refine x_if_le (tgt := 48) C dX11_flow_34 (by decide) (fun c8 => ?_) (fun c8 => ?_)
    · have h := h.1 c8
      refine x_iload_n C dX11_flow_48 rfl (lv_at hl 2 rfl) ?_
      refine x_xret (x_widen (mc := rm_X11_flow.cells) (ms := rm_X11_flow.slots) (by decide) (by decide) ?_)
      exact x_iret C hr dX11_flow_49 ⟨_, rfl, h⟩
    · have h := h.2 c8
      refine x_aload_n C dX11_flow_37 rfl (lv_at hl 0 rfl) ?_
      refine x_iconst (v := 0) C dX11_flow_38 (by decide) ?_
      refine x_callV (rm := rm_X11_handOver) (rest := []) (As := [.int (0 : Int32)]) C cy_RX11_136 g2 (by decide) (by decide) rfl rfl (Nat.le_of_ble_eq_true rfl) hl.1 dX11_flow_39 (c_X11_handOver l D cy a0 (0 : Int32) σ _ h) (ks_v (fun σ9 h => ?_))
      obtain ⟨x10, e11⟩ : ∃ z : Int32, z = t.2 + (1 : Int32) := ⟨_, rfl⟩
      have h := h x10 e11
      refine x_iinc (v := x10) (lv' := [(2, .int x10), (0, .ref a0), (1, .int t.1)]) C dX11_flow_42 hl (q0 := 2) rfl (by rw [e11]; rfl) (by decide) (by first | rfl | simp [vrc, cat_i, cat_r, cat_l]) (fun ls hl => ?_)
      refine x_goto (tgt := 22) C dX11_flow_45 (by decide) ?_
      exact hL22 (t.1, x10) _ h ls (lv_sub hl [1, 2, 0] rfl)
def wp_X11_flow (a0 : Nat) (p1 : Int32) (σ : Sto) (Q : Int32 → Sto → Prop) (X : Nat → Sto → Prop) : Prop := ((p1 < 0 → X 1 σ) ∧ (¬ p1 < 0 → ((p1 ≤ (40 : Int32) → LF (f_X11_flow_22 a0  Q X) (p1, (0 : Int32)) σ) ∧ (¬ p1 ≤ (40 : Int32) → X 1 σ))))
set_option maxHeartbeats 4000000 in
set_option maxRecDepth 100000 in
theorem c_X11_flow (l : Launch) (hlt : l.stackTraces = false) (D : va_G) (cy : Nat → ClassId) (a0 : Nat) (p1 : Int32) (σ : Sto) (Q : Int32 → Sto → Prop) (X : Nat → Sto → Prop) (h : wp_X11_flow a0 p1 σ Q X) : MtX l D cy yX11_flow cX11_flow 3 (some .int) rm_X11_flow [.ref a0, .int p1] σ (PsI Q) X := by
  unfold wp_X11_flow at h
  refine mx_of (by decide +kernel) (Nat.le_of_ble_eq_true rfl) ?_
  intro p e s m args below meth c A ls C hr hnm htab Z Z2 hl
  have C : Cx p s m args meth c D cy A cX11_flow 3 RX11 := C
  have hl : lv_has ls 3 [(0, .ref a0), (1, .int p1)] := hl
  refine x_iload_n C dX11_flow_0 rfl (lv_at hl 1 rfl) ?_
  refine x_if_lt (tgt := 10) C dX11_flow_1 (by decide) (fun c1 => ?_) (fun c1 => ?_)
  · have h := h.1 c1
    exact x_throw C hlt Z Z2 (tw_1 (is := 146) (tx := "n is not 0 .. 40") (by decide)) htab hl.1 dX11_flow_10 dX11_flow_13 dX11_flow_14 dX11_flow_16 dX11_flow_19 (by decide) (Nat.le_of_ble_eq_true rfl) (by decide) (by decide) h
  · have h := h.2 c1
    refine x_iload_n C dX11_flow_4 rfl (lv_at hl 1 rfl) ?_
    refine x_bipush (v := 40) C dX11_flow_5 (by decide) ?_
    refine x_icmp_le (tgt := 20) C dX11_flow_7 (by decide) (fun c2 => ?_) (fun c2 => ?_)
    · have h := h.1 c2
      refine x_iconst (v := 0) C dX11_flow_20 (by decide) ?_
      refine x_istore_n (i := 2) (lv' := [(2, .int (0 : Int32)), (0, .ref a0), (1, .int p1)]) C dX11_flow_21 rfl hl (by decide) (by first | rfl | simp [vrc, cat_i, cat_r, cat_l]) (fun ls hl => ?_)
      exact h (fun t σ => ∀ ls : Array Slot, lv_has ls 3 [(0, .ref a0), (1, .int t.1), (2, .int t.2)] → Xw p l e rm_X11_flow s m args below meth c D cy A σ 0 0 (vx_MQ below (Qst D cy A (PsI Q)) (Xst D cy A X) args s rm_X11_flow.cells rm_X11_flow.slots A) (F0 m 22 ls [])) (t_X11_flow_22 C hr hnm hlt Z Z2 htab  (fun t σ h => h)) ls (lv_sub hl [1, 2, 0] rfl)
    · have h := h.2 c2
      exact x_throw C hlt Z Z2 (tw_1 (is := 146) (tx := "n is not 0 .. 40") (by decide)) htab hl.1 dX11_flow_10 dX11_flow_13 dX11_flow_14 dX11_flow_16 dX11_flow_19 (by decide) (Nat.le_of_ble_eq_true rfl) (by decide) (by decide) h
theorem dX11_down_0 : decode cX11_down 0 = .ok (.aload_n 0, 1) := by decide +kernel
theorem dX11_down_1 : decode cX11_down 1 = .ok (.iload_n 1, 1) := by decide +kernel
theorem dX11_down_2 : decode cX11_down 2 = .ok (.invokevirtual 151, 3) := by decide +kernel
theorem dX11_down_5 : decode cX11_down 5 = .ok (.ifCond .ne 13, 3) := by decide +kernel
theorem dX11_down_8 : decode cX11_down 8 = .ok (.new 90, 3) := by decide +kernel
theorem dX11_down_11 : decode cX11_down 11 = .ok (.dup, 1) := by decide +kernel
theorem dX11_down_12 : decode cX11_down 12 = .ok (.ldc 154, 2) := by decide +kernel
theorem dX11_down_14 : decode cX11_down 14 = .ok (.invokespecial 94, 3) := by decide +kernel
theorem dX11_down_17 : decode cX11_down 17 = .ok (.athrow, 1) := by decide +kernel
theorem dX11_down_18 : decode cX11_down 18 = .ok (.aload_n 0, 1) := by decide +kernel
theorem dX11_down_19 : decode cX11_down 19 = .ok (.getfield 40, 3) := by decide +kernel
theorem dX11_down_22 : decode cX11_down 22 = .ok (.iload_n 1, 1) := by decide +kernel
theorem dX11_down_23 : decode cX11_down 23 = .ok (.aaload, 1) := by decide +kernel
theorem dX11_down_24 : decode cX11_down 24 = .ok (.getfield 156, 3) := by decide +kernel
theorem dX11_down_27 : decode cX11_down 27 = .ok (.ifCond .ne 17, 3) := by decide +kernel
theorem dX11_down_30 : decode cX11_down 30 = .ok (.aload_n 0, 1) := by decide +kernel
theorem dX11_down_31 : decode cX11_down 31 = .ok (.invokevirtual 159, 3) := by decide +kernel
theorem dX11_down_34 : decode cX11_down 34 = .ok (.aload_n 0, 1) := by decide +kernel
theorem dX11_down_35 : decode cX11_down 35 = .ok (.getfield 24, 3) := by decide +kernel
theorem dX11_down_38 : decode cX11_down 38 = .ok (.getfield 163, 3) := by decide +kernel
theorem dX11_down_41 : decode cX11_down 41 = .ok (.if_icmp .lt 13, 3) := by decide +kernel
theorem dX11_down_44 : decode cX11_down 44 = .ok (.new 105, 3) := by decide +kernel
theorem dX11_down_47 : decode cX11_down 47 = .ok (.dup, 1) := by decide +kernel
theorem dX11_down_48 : decode cX11_down 48 = .ok (.ldc 166, 2) := by decide +kernel
theorem dX11_down_50 : decode cX11_down 50 = .ok (.invokespecial 109, 3) := by decide +kernel
theorem dX11_down_53 : decode cX11_down 53 = .ok (.athrow, 1) := by decide +kernel
theorem dX11_down_54 : decode cX11_down 54 = .ok (.aload_n 0, 1) := by decide +kernel
theorem dX11_down_55 : decode cX11_down 55 = .ok (.getfield 40, 3) := by decide +kernel
theorem dX11_down_58 : decode cX11_down 58 = .ok (.iload_n 1, 1) := by decide +kernel
theorem dX11_down_59 : decode cX11_down 59 = .ok (.aaload, 1) := by decide +kernel
theorem dX11_down_60 : decode cX11_down 60 = .ok (.iconst 1, 1) := by decide +kernel
theorem dX11_down_61 : decode cX11_down 61 = .ok (.putfield 156, 3) := by decide +kernel
theorem dX11_down_64 : decode cX11_down 64 = .ok (.aload_n 0, 1) := by decide +kernel
theorem dX11_down_65 : decode cX11_down 65 = .ok (.getfield 40, 3) := by decide +kernel
theorem dX11_down_68 : decode cX11_down 68 = .ok (.iload_n 1, 1) := by decide +kernel
theorem dX11_down_69 : decode cX11_down 69 = .ok (.aaload, 1) := by decide +kernel
theorem dX11_down_70 : decode cX11_down 70 = .ok (.getfield 168, 3) := by decide +kernel
theorem dX11_down_73 : decode cX11_down 73 = .ok (.invokevirtual 172, 3) := by decide +kernel
theorem dX11_down_76 : decode cX11_down 76 = .ok (.return_, 1) := by decide +kernel
abbrev rm_X11_down : Room := { frames := 6, cells := 1, slots := 6, locals := 90 }
def wp_X11_down (a0 : Nat) (p1 : Int32) (σ : Sto) (Q : Sto → Prop) (X : Nat → Sto → Prop) : Prop := (sK σ a0 = 11 ∧ (wp_X11_isReplica a0 p1 σ (fun (x3 : Int32) (σ2 : Sto) => ((¬ x3 = 0 → (sK σ2 a0 = 11 ∧ (∃ b6 : Nat, sP σ2 a0 3 = some b6 ∧ (sK σ2 b6 = 21 ∧ (vp_in p1 (sN σ2 b6) ∧ (∀ r10 : Option Nat, r10 = sP σ2 b6 p1.toNatClampNeg → (∃ b12 : Nat, r10 = some b12 ∧ (sK σ2 b12 = 8 ∧ (∀ x15 : Int32, x15 = sI σ2 b12 3 → ((¬ x15 = 0 → X 2 σ2) ∧ (x15 = 0 → (wp_X11_downs a0  σ2 (fun (x19 : Int32) (σ18 : Sto) => (sK σ18 a0 = 11 ∧ (∃ b21 : Nat, sP σ18 a0 1 = some b21 ∧ (sK σ18 b21 = 4 ∧ (∀ x24 : Int32, x24 = sI σ18 b21 1 → ((x19 < x24 → (∃ b27 : Nat, sP σ18 a0 3 = some b27 ∧ (sK σ18 b27 = 21 ∧ (vp_in p1 (sN σ18 b27) ∧ (∀ r31 : Option Nat, r31 = sP σ18 b27 p1.toNatClampNeg → (∃ b33 : Nat, r31 = some b33 ∧ (sK σ18 b33 = 8 ∧ (vp_in p1 (sN σ18 b27) ∧ (∀ r37 : Option Nat, r37 = sP σ18 b27 p1.toNatClampNeg → (∃ b39 : Nat, r37 = some b39 ∧ (sK σ18 b39 = 8 ∧ (∃ b42 : Nat, sP σ18 b39 10 = some b42 ∧ (sK σ18 b42 = 5 ∧ (wp_X5_clear b42  (stI σ18 b33 3 (1 : Int32)) (fun (σ45 : Sto) => Q σ45))))))))))))))) ∧ (¬ x19 < x24 → X 2 σ18))))))))))))))))))) ∧ (x3 = 0 → X 0 σ2)))))
set_option maxHeartbeats 4000000 in
set_option maxRecDepth 100000 in
theorem c_X11_down (l : Launch) (hlt : l.stackTraces = false) (D : va_G) (cy : Nat → ClassId) (a0 : Nat) (p1 : Int32) (σ : Sto) (Q : Sto → Prop) (X : Nat → Sto → Prop) (h : wp_X11_down a0 p1 σ Q X) : MtX l D cy yX11_down cX11_down 2 none rm_X11_down [.ref a0, .int p1] σ (PsV Q) X := by
  unfold wp_X11_down at h
  refine mx_of (by decide +kernel) (Nat.le_of_ble_eq_true rfl) ?_
  intro p e s m args below meth c A ls C hr hnm htab Z Z2 hl
  have C : Cx p s m args meth c D cy A cX11_down 2 RX11 := C
  have hl : lv_has ls 2 [(0, .ref a0), (1, .int p1)] := hl
  refine x_aload_n C dX11_down_0 rfl (lv_at hl 0 rfl) ?_
  refine x_iload_n C dX11_down_1 rfl (lv_at hl 1 rfl) ?_
  obtain ⟨g1, h⟩ := h
  refine x_callV (rm := rm_X11_isReplica) (rest := []) (As := [.int p1]) C cy_RX11_151 g1 (by decide) (by decide) rfl rfl (Nat.le_of_ble_eq_true rfl) hl.1 dX11_down_2 (c_X11_isReplica l D cy a0 p1 σ _ h) (ks_i (fun x3 σ2 h => ?_))
  refine x_if_ne (tgt := 18) C dX11_down_5 (by decide) (fun c4 => ?_) (fun c4 => ?_)
  · have h := h.1 c4
    refine x_aload_n C dX11_down_18 rfl (lv_at hl 0 rfl) ?_
    obtain ⟨g5, h⟩ := h
    refine x_getP C fl_RX11_40 g5 dX11_down_19 ?_
    refine x_iload_n C dX11_down_22 rfl (lv_at hl 1 rfl) ?_
    obtain ⟨b6, g7, h⟩ := h
    refine x_nn1 g7 ?_
    obtain ⟨g8, h⟩ := h
    obtain ⟨g9, h⟩ := h
    refine x_aald C rak_21 g8 g9 dX11_down_23 ?_
    refine x_topq (fun r10 e11 => ?_)
    have h := h r10 e11
    obtain ⟨b12, g13, h⟩ := h
    refine x_nn0 g13 ?_
    obtain ⟨g14, h⟩ := h
    refine x_getZ C fl_RX11_156 g14 dX11_down_24 ?_
    refine x_topi (fun x15 e16 => ?_)
    have h := h x15 e16
    refine x_if_ne (tgt := 44) C dX11_down_27 (by decide) (fun c17 => ?_) (fun c17 => ?_)
    · have h := h.1 c17
      exact x_throw C hlt Z Z2 (tw_2 (is := 166) (tx := "it is down, or as many as may be are") (by decide)) htab hl.1 dX11_down_44 dX11_down_47 dX11_down_48 dX11_down_50 dX11_down_53 (by decide) (Nat.le_of_ble_eq_true rfl) (by decide) (by decide) h
    · have h := h.2 c17
      refine x_aload_n C dX11_down_30 rfl (lv_at hl 0 rfl) ?_
      refine x_callV (rm := rm_X11_downs) (rest := []) (As := []) C cy_RX11_159 g5 (by decide) (by decide) rfl rfl (Nat.le_of_ble_eq_true rfl) hl.1 dX11_down_31 (c_X11_downs l D cy a0  σ2 _ h) (ks_i (fun x19 σ18 h => ?_))
      refine x_aload_n C dX11_down_34 rfl (lv_at hl 0 rfl) ?_
      obtain ⟨g20, h⟩ := h
      refine x_getP C fl_RX11_24 g20 dX11_down_35 ?_
      obtain ⟨b21, g22, h⟩ := h
      refine x_nn0 g22 ?_
      obtain ⟨g23, h⟩ := h
      refine x_getI C fl_RX11_163 g23 dX11_down_38 ?_
      refine x_topi (fun x24 e25 => ?_)
      have h := h x24 e25
      refine x_icmp_lt (tgt := 54) C dX11_down_41 (by decide) (fun c26 => ?_) (fun c26 => ?_)
      · have h := h.1 c26
        refine x_aload_n C dX11_down_54 rfl (lv_at hl 0 rfl) ?_
        refine x_getP C fl_RX11_40 g20 dX11_down_55 ?_
        refine x_iload_n C dX11_down_58 rfl (lv_at hl 1 rfl) ?_
        obtain ⟨b27, g28, h⟩ := h
        refine x_nn1 g28 ?_
        obtain ⟨g29, h⟩ := h
        obtain ⟨g30, h⟩ := h
        refine x_aald C rak_21 g29 g30 dX11_down_59 ?_
        refine x_topq (fun r31 e32 => ?_)
        have h := h r31 e32
        refine x_iconst (v := 1) C dX11_down_60 (by decide) ?_
        obtain ⟨b33, g34, h⟩ := h
        refine x_nn1 g34 ?_
        obtain ⟨g35, h⟩ := h
        refine x_putZ C fl_RX11_156 (Or.inl rfl) (by decide) g35 dX11_down_61 ?_
        refine x_aload_n C dX11_down_64 rfl (lv_at hl 0 rfl) ?_
        refine x_getP C fl_RX11_40 g20 dX11_down_65 ?_
        refine x_iload_n C dX11_down_68 rfl (lv_at hl 1 rfl) ?_
        refine x_nn1 g28 ?_
        obtain ⟨g36, h⟩ := h
        refine x_aald C rak_21 g29 g36 dX11_down_69 ?_
        refine x_topq (fun r37 e38 => ?_)
        have h := h r37 e38
        obtain ⟨b39, g40, h⟩ := h
        refine x_nn0 g40 ?_
        obtain ⟨g41, h⟩ := h
        refine x_getP C fl_RX11_168 g41 dX11_down_70 ?_
        obtain ⟨b42, g43, h⟩ := h
        refine x_nn0 g43 ?_
        obtain ⟨g44, h⟩ := h
        refine x_callV (rm := rm_X5_clear) (rest := []) (As := []) C cy_RX11_172 g44 (by decide) (by decide) rfl rfl (Nat.le_of_ble_eq_true rfl) hl.1 dX11_down_73 (c_X5_clear l D cy b42  (stI σ18 b33 3 (1 : Int32)) _ h) (ks_v (fun σ45 h => ?_))
        refine x_xret (x_widen (mc := rm_X11_down.cells) (ms := rm_X11_down.slots) (by decide) (by decide) ?_)
        exact x_vret C hr dX11_down_76 ⟨rfl, h⟩
      · have h := h.2 c26
        exact x_throw C hlt Z Z2 (tw_2 (is := 166) (tx := "it is down, or as many as may be are") (by decide)) htab hl.1 dX11_down_44 dX11_down_47 dX11_down_48 dX11_down_50 dX11_down_53 (by decide) (Nat.le_of_ble_eq_true rfl) (by decide) (by decide) h
  · have h := h.2 c4
    exact x_throw C hlt Z Z2 (tw_0 (is := 154) (tx := "no such replica") (by decide)) htab hl.1 dX11_down_8 dX11_down_11 dX11_down_12 dX11_down_14 dX11_down_17 (by decide) (Nat.le_of_ble_eq_true rfl) (by decide) (by decide) h
theorem dX11_up_0 : decode cX11_up 0 = .ok (.aload_n 0, 1) := by decide +kernel
theorem dX11_up_1 : decode cX11_up 1 = .ok (.iload_n 1, 1) := by decide +kernel
theorem dX11_up_2 : decode cX11_up 2 = .ok (.invokevirtual 151, 3) := by decide +kernel
theorem dX11_up_5 : decode cX11_up 5 = .ok (.ifCond .ne 13, 3) := by decide +kernel
theorem dX11_up_8 : decode cX11_up 8 = .ok (.new 90, 3) := by decide +kernel
theorem dX11_up_11 : decode cX11_up 11 = .ok (.dup, 1) := by decide +kernel
theorem dX11_up_12 : decode cX11_up 12 = .ok (.ldc 154, 2) := by decide +kernel
theorem dX11_up_14 : decode cX11_up 14 = .ok (.invokespecial 94, 3) := by decide +kernel
theorem dX11_up_17 : decode cX11_up 17 = .ok (.athrow, 1) := by decide +kernel
theorem dX11_up_18 : decode cX11_up 18 = .ok (.aload_n 0, 1) := by decide +kernel
theorem dX11_up_19 : decode cX11_up 19 = .ok (.getfield 40, 3) := by decide +kernel
theorem dX11_up_22 : decode cX11_up 22 = .ok (.iload_n 1, 1) := by decide +kernel
theorem dX11_up_23 : decode cX11_up 23 = .ok (.aaload, 1) := by decide +kernel
theorem dX11_up_24 : decode cX11_up 24 = .ok (.getfield 156, 3) := by decide +kernel
theorem dX11_up_27 : decode cX11_up 27 = .ok (.ifCond .ne 13, 3) := by decide +kernel
theorem dX11_up_30 : decode cX11_up 30 = .ok (.new 105, 3) := by decide +kernel
theorem dX11_up_33 : decode cX11_up 33 = .ok (.dup, 1) := by decide +kernel
theorem dX11_up_34 : decode cX11_up 34 = .ok (.ldc 177, 2) := by decide +kernel
theorem dX11_up_36 : decode cX11_up 36 = .ok (.invokespecial 109, 3) := by decide +kernel
theorem dX11_up_39 : decode cX11_up 39 = .ok (.athrow, 1) := by decide +kernel
theorem dX11_up_40 : decode cX11_up 40 = .ok (.aload_n 0, 1) := by decide +kernel
theorem dX11_up_41 : decode cX11_up 41 = .ok (.getfield 40, 3) := by decide +kernel
theorem dX11_up_44 : decode cX11_up 44 = .ok (.iload_n 1, 1) := by decide +kernel
theorem dX11_up_45 : decode cX11_up 45 = .ok (.aaload, 1) := by decide +kernel
theorem dX11_up_46 : decode cX11_up 46 = .ok (.iconst 0, 1) := by decide +kernel
theorem dX11_up_47 : decode cX11_up 47 = .ok (.putfield 156, 3) := by decide +kernel
theorem dX11_up_50 : decode cX11_up 50 = .ok (.aload_n 0, 1) := by decide +kernel
theorem dX11_up_51 : decode cX11_up 51 = .ok (.getfield 40, 3) := by decide +kernel
theorem dX11_up_54 : decode cX11_up 54 = .ok (.iload_n 1, 1) := by decide +kernel
theorem dX11_up_55 : decode cX11_up 55 = .ok (.aaload, 1) := by decide +kernel
theorem dX11_up_56 : decode cX11_up 56 = .ok (.aload_n 0, 1) := by decide +kernel
theorem dX11_up_57 : decode cX11_up 57 = .ok (.getfield 24, 3) := by decide +kernel
theorem dX11_up_60 : decode cX11_up 60 = .ok (.getfield 179, 3) := by decide +kernel
theorem dX11_up_63 : decode cX11_up 63 = .ok (.putfield 182, 3) := by decide +kernel
theorem dX11_up_66 : decode cX11_up 66 = .ok (.return_, 1) := by decide +kernel
abbrev rm_X11_up : Room := { frames := 6, cells := 1, slots := 6, locals := 90 }
def wp_X11_up (a0 : Nat) (p1 : Int32) (σ : Sto) (Q : Sto → Prop) (X : Nat → Sto → Prop) : Prop := (sK σ a0 = 11 ∧ (wp_X11_isReplica a0 p1 σ (fun (x3 : Int32) (σ2 : Sto) => ((¬ x3 = 0 → (sK σ2 a0 = 11 ∧ (∃ b6 : Nat, sP σ2 a0 3 = some b6 ∧ (sK σ2 b6 = 21 ∧ (vp_in p1 (sN σ2 b6) ∧ (∀ r10 : Option Nat, r10 = sP σ2 b6 p1.toNatClampNeg → (∃ b12 : Nat, r10 = some b12 ∧ (sK σ2 b12 = 8 ∧ (∀ x15 : Int32, x15 = sI σ2 b12 3 → ((¬ x15 = 0 → (vp_in p1 (sN σ2 b6) ∧ (∀ r19 : Option Nat, r19 = sP σ2 b6 p1.toNatClampNeg → (∃ b21 : Nat, r19 = some b21 ∧ (sK σ2 b21 = 8 ∧ (vp_in p1 (sN σ2 b6) ∧ (∀ r25 : Option Nat, r25 = sP σ2 b6 p1.toNatClampNeg → (∃ b27 : Nat, sP σ2 a0 1 = some b27 ∧ (sK σ2 b27 = 4 ∧ (∀ x30 : Int32, x30 = sI (stI σ2 b21 3 (0 : Int32)) b27 8 → (∃ b32 : Nat, r25 = some b32 ∧ (sK σ2 b32 = 8 ∧ Q (stI (stI σ2 b21 3 (0 : Int32)) b32 11 x30))))))))))))) ∧ (x15 = 0 → X 2 σ2))))))))))) ∧ (x3 = 0 → X 0 σ2)))))
set_option maxHeartbeats 4000000 in
set_option maxRecDepth 100000 in
theorem c_X11_up (l : Launch) (hlt : l.stackTraces = false) (D : va_G) (cy : Nat → ClassId) (a0 : Nat) (p1 : Int32) (σ : Sto) (Q : Sto → Prop) (X : Nat → Sto → Prop) (h : wp_X11_up a0 p1 σ Q X) : MtX l D cy yX11_up cX11_up 2 none rm_X11_up [.ref a0, .int p1] σ (PsV Q) X := by
  unfold wp_X11_up at h
  refine mx_of (by decide +kernel) (Nat.le_of_ble_eq_true rfl) ?_
  intro p e s m args below meth c A ls C hr hnm htab Z Z2 hl
  have C : Cx p s m args meth c D cy A cX11_up 2 RX11 := C
  have hl : lv_has ls 2 [(0, .ref a0), (1, .int p1)] := hl
  refine x_aload_n C dX11_up_0 rfl (lv_at hl 0 rfl) ?_
  refine x_iload_n C dX11_up_1 rfl (lv_at hl 1 rfl) ?_
  obtain ⟨g1, h⟩ := h
  refine x_callV (rm := rm_X11_isReplica) (rest := []) (As := [.int p1]) C cy_RX11_151 g1 (by decide) (by decide) rfl rfl (Nat.le_of_ble_eq_true rfl) hl.1 dX11_up_2 (c_X11_isReplica l D cy a0 p1 σ _ h) (ks_i (fun x3 σ2 h => ?_))
  refine x_if_ne (tgt := 18) C dX11_up_5 (by decide) (fun c4 => ?_) (fun c4 => ?_)
  · have h := h.1 c4
    refine x_aload_n C dX11_up_18 rfl (lv_at hl 0 rfl) ?_
    obtain ⟨g5, h⟩ := h
    refine x_getP C fl_RX11_40 g5 dX11_up_19 ?_
    refine x_iload_n C dX11_up_22 rfl (lv_at hl 1 rfl) ?_
    obtain ⟨b6, g7, h⟩ := h
    refine x_nn1 g7 ?_
    obtain ⟨g8, h⟩ := h
    obtain ⟨g9, h⟩ := h
    refine x_aald C rak_21 g8 g9 dX11_up_23 ?_
    refine x_topq (fun r10 e11 => ?_)
    have h := h r10 e11
    obtain ⟨b12, g13, h⟩ := h
    refine x_nn0 g13 ?_
    obtain ⟨g14, h⟩ := h
    refine x_getZ C fl_RX11_156 g14 dX11_up_24 ?_
    refine x_topi (fun x15 e16 => ?_)
    have h := h x15 e16
    refine x_if_ne (tgt := 40) C dX11_up_27 (by decide) (fun c17 => ?_) (fun c17 => ?_)
    · have h := h.1 c17
      refine x_aload_n C dX11_up_40 rfl (lv_at hl 0 rfl) ?_
      refine x_getP C fl_RX11_40 g5 dX11_up_41 ?_
      refine x_iload_n C dX11_up_44 rfl (lv_at hl 1 rfl) ?_
      refine x_nn1 g7 ?_
      obtain ⟨g18, h⟩ := h
      refine x_aald C rak_21 g8 g18 dX11_up_45 ?_
      refine x_topq (fun r19 e20 => ?_)
      have h := h r19 e20
      refine x_iconst (v := 0) C dX11_up_46 (by decide) ?_
      obtain ⟨b21, g22, h⟩ := h
      refine x_nn1 g22 ?_
      obtain ⟨g23, h⟩ := h
      refine x_putZ C fl_RX11_156 (Or.inl rfl) (by decide) g23 dX11_up_47 ?_
      refine x_aload_n C dX11_up_50 rfl (lv_at hl 0 rfl) ?_
      refine x_getP C fl_RX11_40 g5 dX11_up_51 ?_
      refine x_iload_n C dX11_up_54 rfl (lv_at hl 1 rfl) ?_
      refine x_nn1 g7 ?_
      obtain ⟨g24, h⟩ := h
      refine x_aald C rak_21 g8 g24 dX11_up_55 ?_
      refine x_topq (fun r25 e26 => ?_)
      have h := h r25 e26
      refine x_aload_n C dX11_up_56 rfl (lv_at hl 0 rfl) ?_
      refine x_getP C fl_RX11_24 g5 dX11_up_57 ?_
      obtain ⟨b27, g28, h⟩ := h
      refine x_nn0 g28 ?_
      obtain ⟨g29, h⟩ := h
      refine x_getI C fl_RX11_179 g29 dX11_up_60 ?_
      refine x_topi (fun x30 e31 => ?_)
      have h := h x30 e31
      obtain ⟨b32, g33, h⟩ := h
      refine x_nn1 g33 ?_
      obtain ⟨g34, h⟩ := h
      refine x_putI C fl_RX11_182 (Or.inl rfl) g34 dX11_up_63 ?_
      refine x_xret (x_widen (mc := rm_X11_up.cells) (ms := rm_X11_up.slots) (by decide) (by decide) ?_)
      exact x_vret C hr dX11_up_66 ⟨rfl, h⟩
    · have h := h.2 c17
      exact x_throw C hlt Z Z2 (tw_2 (is := 177) (tx := "it is not down") (by decide)) htab hl.1 dX11_up_30 dX11_up_33 dX11_up_34 dX11_up_36 dX11_up_39 (by decide) (Nat.le_of_ble_eq_true rfl) (by decide) (by decide) h
  · have h := h.2 c4
    exact x_throw C hlt Z Z2 (tw_0 (is := 154) (tx := "no such replica") (by decide)) htab hl.1 dX11_up_8 dX11_up_11 dX11_up_12 dX11_up_14 dX11_up_17 (by decide) (Nat.le_of_ble_eq_true rfl) (by decide) (by decide) h
theorem dX11_suspect_0 : decode cX11_suspect 0 = .ok (.aload_n 0, 1) := by decide +kernel
theorem dX11_suspect_1 : decode cX11_suspect 1 = .ok (.iload_n 1, 1) := by decide +kernel
theorem dX11_suspect_2 : decode cX11_suspect 2 = .ok (.invokevirtual 151, 3) := by decide +kernel
theorem dX11_suspect_5 : decode cX11_suspect 5 = .ok (.ifCond .ne 13, 3) := by decide +kernel
theorem dX11_suspect_8 : decode cX11_suspect 8 = .ok (.new 90, 3) := by decide +kernel
theorem dX11_suspect_11 : decode cX11_suspect 11 = .ok (.dup, 1) := by decide +kernel
theorem dX11_suspect_12 : decode cX11_suspect 12 = .ok (.ldc 154, 2) := by decide +kernel
theorem dX11_suspect_14 : decode cX11_suspect 14 = .ok (.invokespecial 94, 3) := by decide +kernel
theorem dX11_suspect_17 : decode cX11_suspect 17 = .ok (.athrow, 1) := by decide +kernel
theorem dX11_suspect_18 : decode cX11_suspect 18 = .ok (.aload_n 0, 1) := by decide +kernel
theorem dX11_suspect_19 : decode cX11_suspect 19 = .ok (.getfield 40, 3) := by decide +kernel
theorem dX11_suspect_22 : decode cX11_suspect 22 = .ok (.iload_n 1, 1) := by decide +kernel
theorem dX11_suspect_23 : decode cX11_suspect 23 = .ok (.aaload, 1) := by decide +kernel
theorem dX11_suspect_24 : decode cX11_suspect 24 = .ok (.getfield 156, 3) := by decide +kernel
theorem dX11_suspect_27 : decode cX11_suspect 27 = .ok (.ifCond .eq 13, 3) := by decide +kernel
theorem dX11_suspect_30 : decode cX11_suspect 30 = .ok (.new 105, 3) := by decide +kernel
theorem dX11_suspect_33 : decode cX11_suspect 33 = .ok (.dup, 1) := by decide +kernel
theorem dX11_suspect_34 : decode cX11_suspect 34 = .ok (.ldc 185, 2) := by decide +kernel
theorem dX11_suspect_36 : decode cX11_suspect 36 = .ok (.invokespecial 109, 3) := by decide +kernel
theorem dX11_suspect_39 : decode cX11_suspect 39 = .ok (.athrow, 1) := by decide +kernel
theorem dX11_suspect_40 : decode cX11_suspect 40 = .ok (.aload_n 0, 1) := by decide +kernel
theorem dX11_suspect_41 : decode cX11_suspect 41 = .ok (.getfield 40, 3) := by decide +kernel
theorem dX11_suspect_44 : decode cX11_suspect 44 = .ok (.iload_n 1, 1) := by decide +kernel
theorem dX11_suspect_45 : decode cX11_suspect 45 = .ok (.aaload, 1) := by decide +kernel
theorem dX11_suspect_46 : decode cX11_suspect 46 = .ok (.invokevirtual 187, 3) := by decide +kernel
theorem dX11_suspect_49 : decode cX11_suspect 49 = .ok (.return_, 1) := by decide +kernel
abbrev rm_X11_suspect : Room := { frames := 6, cells := 1, slots := 6, locals := 108 }
def wp_X11_suspect (a0 : Nat) (p1 : Int32) (σ : Sto) (Q : Sto → Prop) (X : Nat → Sto → Prop) : Prop := (sK σ a0 = 11 ∧ (wp_X11_isReplica a0 p1 σ (fun (x3 : Int32) (σ2 : Sto) => ((¬ x3 = 0 → (sK σ2 a0 = 11 ∧ (∃ b6 : Nat, sP σ2 a0 3 = some b6 ∧ (sK σ2 b6 = 21 ∧ (vp_in p1 (sN σ2 b6) ∧ (∀ r10 : Option Nat, r10 = sP σ2 b6 p1.toNatClampNeg → (∃ b12 : Nat, r10 = some b12 ∧ (sK σ2 b12 = 8 ∧ (∀ x15 : Int32, x15 = sI σ2 b12 3 → ((x15 = 0 → (vp_in p1 (sN σ2 b6) ∧ (∀ r19 : Option Nat, r19 = sP σ2 b6 p1.toNatClampNeg → (∃ b21 : Nat, r19 = some b21 ∧ (sK σ2 b21 = 8 ∧ (wp_X8_turnToNextLead b21  σ2 (fun (σ24 : Sto) => Q σ24))))))) ∧ (¬ x15 = 0 → X 2 σ2))))))))))) ∧ (x3 = 0 → X 0 σ2)))))
set_option maxHeartbeats 4000000 in
set_option maxRecDepth 100000 in
theorem c_X11_suspect (l : Launch) (hlt : l.stackTraces = false) (D : va_G) (cy : Nat → ClassId) (a0 : Nat) (p1 : Int32) (σ : Sto) (Q : Sto → Prop) (X : Nat → Sto → Prop) (h : wp_X11_suspect a0 p1 σ Q X) : MtX l D cy yX11_suspect cX11_suspect 2 none rm_X11_suspect [.ref a0, .int p1] σ (PsV Q) X := by
  unfold wp_X11_suspect at h
  refine mx_of (by decide +kernel) (Nat.le_of_ble_eq_true rfl) ?_
  intro p e s m args below meth c A ls C hr hnm htab Z Z2 hl
  have C : Cx p s m args meth c D cy A cX11_suspect 2 RX11 := C
  have hl : lv_has ls 2 [(0, .ref a0), (1, .int p1)] := hl
  refine x_aload_n C dX11_suspect_0 rfl (lv_at hl 0 rfl) ?_
  refine x_iload_n C dX11_suspect_1 rfl (lv_at hl 1 rfl) ?_
  obtain ⟨g1, h⟩ := h
  refine x_callV (rm := rm_X11_isReplica) (rest := []) (As := [.int p1]) C cy_RX11_151 g1 (by decide) (by decide) rfl rfl (Nat.le_of_ble_eq_true rfl) hl.1 dX11_suspect_2 (c_X11_isReplica l D cy a0 p1 σ _ h) (ks_i (fun x3 σ2 h => ?_))
  refine x_if_ne (tgt := 18) C dX11_suspect_5 (by decide) (fun c4 => ?_) (fun c4 => ?_)
  · have h := h.1 c4
    refine x_aload_n C dX11_suspect_18 rfl (lv_at hl 0 rfl) ?_
    obtain ⟨g5, h⟩ := h
    refine x_getP C fl_RX11_40 g5 dX11_suspect_19 ?_
    refine x_iload_n C dX11_suspect_22 rfl (lv_at hl 1 rfl) ?_
    obtain ⟨b6, g7, h⟩ := h
    refine x_nn1 g7 ?_
    obtain ⟨g8, h⟩ := h
    obtain ⟨g9, h⟩ := h
    refine x_aald C rak_21 g8 g9 dX11_suspect_23 ?_
    refine x_topq (fun r10 e11 => ?_)
    have h := h r10 e11
    obtain ⟨b12, g13, h⟩ := h
    refine x_nn0 g13 ?_
    obtain ⟨g14, h⟩ := h
    refine x_getZ C fl_RX11_156 g14 dX11_suspect_24 ?_
    refine x_topi (fun x15 e16 => ?_)
    have h := h x15 e16
    refine x_if_eq (tgt := 40) C dX11_suspect_27 (by decide) (fun c17 => ?_) (fun c17 => ?_)
    · have h := h.1 c17
      refine x_aload_n C dX11_suspect_40 rfl (lv_at hl 0 rfl) ?_
      refine x_getP C fl_RX11_40 g5 dX11_suspect_41 ?_
      refine x_iload_n C dX11_suspect_44 rfl (lv_at hl 1 rfl) ?_
      refine x_nn1 g7 ?_
      obtain ⟨g18, h⟩ := h
      refine x_aald C rak_21 g8 g18 dX11_suspect_45 ?_
      refine x_topq (fun r19 e20 => ?_)
      have h := h r19 e20
      obtain ⟨b21, g22, h⟩ := h
      refine x_nn0 g22 ?_
      obtain ⟨g23, h⟩ := h
      refine x_callV (rm := rm_X8_turnToNextLead) (rest := []) (As := []) C cy_RX11_187 g23 (by decide) (by decide) rfl rfl (Nat.le_of_ble_eq_true rfl) hl.1 dX11_suspect_46 (c_X8_turnToNextLead l D cy b21  σ2 _ h) (ks_v (fun σ24 h => ?_))
      refine x_xret (x_widen (mc := rm_X11_suspect.cells) (ms := rm_X11_suspect.slots) (by decide) (by decide) ?_)
      exact x_vret C hr dX11_suspect_49 ⟨rfl, h⟩
    · have h := h.2 c17
      exact x_throw C hlt Z Z2 (tw_2 (is := 185) (tx := "it is down") (by decide)) htab hl.1 dX11_suspect_30 dX11_suspect_33 dX11_suspect_34 dX11_suspect_36 dX11_suspect_39 (by decide) (Nat.le_of_ble_eq_true rfl) (by decide) (by decide) h
  · have h := h.2 c4
    exact x_throw C hlt Z Z2 (tw_0 (is := 154) (tx := "no such replica") (by decide)) htab hl.1 dX11_suspect_8 dX11_suspect_11 dX11_suspect_12 dX11_suspect_14 dX11_suspect_17 (by decide) (Nat.le_of_ble_eq_true rfl) (by decide) (by decide) h
theorem dX11_nudge_0 : decode cX11_nudge 0 = .ok (.aload_n 0, 1) := by decide +kernel
theorem dX11_nudge_1 : decode cX11_nudge 1 = .ok (.iload_n 1, 1) := by decide +kernel
theorem dX11_nudge_2 : decode cX11_nudge 2 = .ok (.invokevirtual 151, 3) := by decide +kernel
theorem dX11_nudge_5 : decode cX11_nudge 5 = .ok (.ifCond .ne 13, 3) := by decide +kernel
theorem dX11_nudge_8 : decode cX11_nudge 8 = .ok (.new 90, 3) := by decide +kernel
theorem dX11_nudge_11 : decode cX11_nudge 11 = .ok (.dup, 1) := by decide +kernel
theorem dX11_nudge_12 : decode cX11_nudge 12 = .ok (.ldc 154, 2) := by decide +kernel
theorem dX11_nudge_14 : decode cX11_nudge 14 = .ok (.invokespecial 94, 3) := by decide +kernel
theorem dX11_nudge_17 : decode cX11_nudge 17 = .ok (.athrow, 1) := by decide +kernel
theorem dX11_nudge_18 : decode cX11_nudge 18 = .ok (.aload_n 0, 1) := by decide +kernel
theorem dX11_nudge_19 : decode cX11_nudge 19 = .ok (.getfield 40, 3) := by decide +kernel
theorem dX11_nudge_22 : decode cX11_nudge 22 = .ok (.iload_n 1, 1) := by decide +kernel
theorem dX11_nudge_23 : decode cX11_nudge 23 = .ok (.aaload, 1) := by decide +kernel
theorem dX11_nudge_24 : decode cX11_nudge 24 = .ok (.getfield 156, 3) := by decide +kernel
theorem dX11_nudge_27 : decode cX11_nudge 27 = .ok (.ifCond .eq 13, 3) := by decide +kernel
theorem dX11_nudge_30 : decode cX11_nudge 30 = .ok (.new 105, 3) := by decide +kernel
theorem dX11_nudge_33 : decode cX11_nudge 33 = .ok (.dup, 1) := by decide +kernel
theorem dX11_nudge_34 : decode cX11_nudge 34 = .ok (.ldc 185, 2) := by decide +kernel
theorem dX11_nudge_36 : decode cX11_nudge 36 = .ok (.invokespecial 109, 3) := by decide +kernel
theorem dX11_nudge_39 : decode cX11_nudge 39 = .ok (.athrow, 1) := by decide +kernel
theorem dX11_nudge_40 : decode cX11_nudge 40 = .ok (.aload_n 0, 1) := by decide +kernel
theorem dX11_nudge_41 : decode cX11_nudge 41 = .ok (.getfield 24, 3) := by decide +kernel
theorem dX11_nudge_44 : decode cX11_nudge 44 = .ok (.getfield 190, 3) := by decide +kernel
theorem dX11_nudge_47 : decode cX11_nudge 47 = .ok (.istore_n 2, 1) := by decide +kernel
theorem dX11_nudge_48 : decode cX11_nudge 48 = .ok (.aload_n 0, 1) := by decide +kernel
theorem dX11_nudge_49 : decode cX11_nudge 49 = .ok (.getfield 40, 3) := by decide +kernel
theorem dX11_nudge_52 : decode cX11_nudge 52 = .ok (.iload_n 1, 1) := by decide +kernel
theorem dX11_nudge_53 : decode cX11_nudge 53 = .ok (.aaload, 1) := by decide +kernel
theorem dX11_nudge_54 : decode cX11_nudge 54 = .ok (.invokevirtual 193, 3) := by decide +kernel
theorem dX11_nudge_57 : decode cX11_nudge 57 = .ok (.aload_n 0, 1) := by decide +kernel
theorem dX11_nudge_58 : decode cX11_nudge 58 = .ok (.getfield 24, 3) := by decide +kernel
theorem dX11_nudge_61 : decode cX11_nudge 61 = .ok (.getfield 190, 3) := by decide +kernel
theorem dX11_nudge_64 : decode cX11_nudge 64 = .ok (.iload_n 2, 1) := by decide +kernel
theorem dX11_nudge_65 : decode cX11_nudge 65 = .ok (.isub, 1) := by decide +kernel
theorem dX11_nudge_66 : decode cX11_nudge 66 = .ok (.ireturn, 1) := by decide +kernel
abbrev rm_X11_nudge : Room := { frames := 6, cells := 1, slots := 6, locals := 90 }
def wp_X11_nudge (a0 : Nat) (p1 : Int32) (σ : Sto) (Q : Int32 → Sto → Prop) (X : Nat → Sto → Prop) : Prop := (sK σ a0 = 11 ∧ (wp_X11_isReplica a0 p1 σ (fun (x3 : Int32) (σ2 : Sto) => ((¬ x3 = 0 → (sK σ2 a0 = 11 ∧ (∃ b6 : Nat, sP σ2 a0 3 = some b6 ∧ (sK σ2 b6 = 21 ∧ (vp_in p1 (sN σ2 b6) ∧ (∀ r10 : Option Nat, r10 = sP σ2 b6 p1.toNatClampNeg → (∃ b12 : Nat, r10 = some b12 ∧ (sK σ2 b12 = 8 ∧ (∀ x15 : Int32, x15 = sI σ2 b12 3 → ((x15 = 0 → (∃ b18 : Nat, sP σ2 a0 1 = some b18 ∧ (sK σ2 b18 = 4 ∧ (∀ x21 : Int32, x21 = sI σ2 b18 6 → (vp_in p1 (sN σ2 b6) ∧ (∀ r24 : Option Nat, r24 = sP σ2 b6 p1.toNatClampNeg → (∃ b26 : Nat, r24 = some b26 ∧ (sK σ2 b26 = 8 ∧ (wp_X8_askAgain b26  σ2 (fun (σ29 : Sto) => (sK σ29 a0 = 11 ∧ (∃ b31 : Nat, sP σ29 a0 1 = some b31 ∧ (sK σ29 b31 = 4 ∧ (∀ x34 : Int32, x34 = sI σ29 b31 6 → Q (x34 - x21) σ29)))))))))))))) ∧ (¬ x15 = 0 → X 2 σ2))))))))))) ∧ (x3 = 0 → X 0 σ2)))))
set_option maxHeartbeats 4000000 in
set_option maxRecDepth 100000 in
theorem c_X11_nudge (l : Launch) (hlt : l.stackTraces = false) (D : va_G) (cy : Nat → ClassId) (a0 : Nat) (p1 : Int32) (σ : Sto) (Q : Int32 → Sto → Prop) (X : Nat → Sto → Prop) (h : wp_X11_nudge a0 p1 σ Q X) : MtX l D cy yX11_nudge cX11_nudge 3 (some .int) rm_X11_nudge [.ref a0, .int p1] σ (PsI Q) X := by
  unfold wp_X11_nudge at h
  refine mx_of (by decide +kernel) (Nat.le_of_ble_eq_true rfl) ?_
  intro p e s m args below meth c A ls C hr hnm htab Z Z2 hl
  have C : Cx p s m args meth c D cy A cX11_nudge 3 RX11 := C
  have hl : lv_has ls 3 [(0, .ref a0), (1, .int p1)] := hl
  refine x_aload_n C dX11_nudge_0 rfl (lv_at hl 0 rfl) ?_
  refine x_iload_n C dX11_nudge_1 rfl (lv_at hl 1 rfl) ?_
  obtain ⟨g1, h⟩ := h
  refine x_callV (rm := rm_X11_isReplica) (rest := []) (As := [.int p1]) C cy_RX11_151 g1 (by decide) (by decide) rfl rfl (Nat.le_of_ble_eq_true rfl) hl.1 dX11_nudge_2 (c_X11_isReplica l D cy a0 p1 σ _ h) (ks_i (fun x3 σ2 h => ?_))
  refine x_if_ne (tgt := 18) C dX11_nudge_5 (by decide) (fun c4 => ?_) (fun c4 => ?_)
  · have h := h.1 c4
    refine x_aload_n C dX11_nudge_18 rfl (lv_at hl 0 rfl) ?_
    obtain ⟨g5, h⟩ := h
    refine x_getP C fl_RX11_40 g5 dX11_nudge_19 ?_
    refine x_iload_n C dX11_nudge_22 rfl (lv_at hl 1 rfl) ?_
    obtain ⟨b6, g7, h⟩ := h
    refine x_nn1 g7 ?_
    obtain ⟨g8, h⟩ := h
    obtain ⟨g9, h⟩ := h
    refine x_aald C rak_21 g8 g9 dX11_nudge_23 ?_
    refine x_topq (fun r10 e11 => ?_)
    have h := h r10 e11
    obtain ⟨b12, g13, h⟩ := h
    refine x_nn0 g13 ?_
    obtain ⟨g14, h⟩ := h
    refine x_getZ C fl_RX11_156 g14 dX11_nudge_24 ?_
    refine x_topi (fun x15 e16 => ?_)
    have h := h x15 e16
    refine x_if_eq (tgt := 40) C dX11_nudge_27 (by decide) (fun c17 => ?_) (fun c17 => ?_)
    · have h := h.1 c17
      refine x_aload_n C dX11_nudge_40 rfl (lv_at hl 0 rfl) ?_
      refine x_getP C fl_RX11_24 g5 dX11_nudge_41 ?_
      obtain ⟨b18, g19, h⟩ := h
      refine x_nn0 g19 ?_
      obtain ⟨g20, h⟩ := h
      refine x_getI C fl_RX11_190 g20 dX11_nudge_44 ?_
      refine x_topi (fun x21 e22 => ?_)
      have h := h x21 e22
      refine x_istore_n (i := 2) (lv' := [(2, .int x21), (0, .ref a0), (1, .int p1)]) C dX11_nudge_47 rfl hl (by decide) (by first | rfl | simp [vrc, cat_i, cat_r, cat_l]) (fun ls hl => ?_)
      refine x_aload_n C dX11_nudge_48 rfl (lv_at hl 1 rfl) ?_
      refine x_getP C fl_RX11_40 g5 dX11_nudge_49 ?_
      refine x_iload_n C dX11_nudge_52 rfl (lv_at hl 2 rfl) ?_
      refine x_nn1 g7 ?_
      obtain ⟨g23, h⟩ := h
      refine x_aald C rak_21 g8 g23 dX11_nudge_53 ?_
      refine x_topq (fun r24 e25 => ?_)
      have h := h r24 e25
      obtain ⟨b26, g27, h⟩ := h
      refine x_nn0 g27 ?_
      obtain ⟨g28, h⟩ := h
      refine x_callV (rm := rm_X8_askAgain) (rest := []) (As := []) C cy_RX11_193 g28 (by decide) (by decide) rfl rfl (Nat.le_of_ble_eq_true rfl) hl.1 dX11_nudge_54 (c_X8_askAgain l D cy b26  σ2 _ h) (ks_v (fun σ29 h => ?_))
      refine x_aload_n C dX11_nudge_57 rfl (lv_at hl 1 rfl) ?_
      obtain ⟨g30, h⟩ := h
      refine x_getP C fl_RX11_24 g30 dX11_nudge_58 ?_
      obtain ⟨b31, g32, h⟩ := h
      refine x_nn0 g32 ?_
      obtain ⟨g33, h⟩ := h
      refine x_getI C fl_RX11_190 g33 dX11_nudge_61 ?_
      refine x_topi (fun x34 e35 => ?_)
      have h := h x34 e35
      refine x_iload_n C dX11_nudge_64 rfl (lv_at hl 0 rfl) ?_
      refine x_isub C dX11_nudge_65 ?_
      refine x_xret (x_widen (mc := rm_X11_nudge.cells) (ms := rm_X11_nudge.slots) (by decide) (by decide) ?_)
      exact x_iret C hr dX11_nudge_66 ⟨_, rfl, h⟩
    · have h := h.2 c17
      exact x_throw C hlt Z Z2 (tw_2 (is := 185) (tx := "it is down") (by decide)) htab hl.1 dX11_nudge_30 dX11_nudge_33 dX11_nudge_34 dX11_nudge_36 dX11_nudge_39 (by decide) (Nat.le_of_ble_eq_true rfl) (by decide) (by decide) h
  · have h := h.2 c4
    exact x_throw C hlt Z Z2 (tw_0 (is := 154) (tx := "no such replica") (by decide)) htab hl.1 dX11_nudge_8 dX11_nudge_11 dX11_nudge_12 dX11_nudge_14 dX11_nudge_17 (by decide) (Nat.le_of_ble_eq_true rfl) (by decide) (by decide) h
theorem dX11_sync_0 : decode cX11_sync 0 = .ok (.aload_n 0, 1) := by decide +kernel
theorem dX11_sync_1 : decode cX11_sync 1 = .ok (.iload_n 1, 1) := by decide +kernel
theorem dX11_sync_2 : decode cX11_sync 2 = .ok (.invokevirtual 151, 3) := by decide +kernel
theorem dX11_sync_5 : decode cX11_sync 5 = .ok (.ifCond .ne 13, 3) := by decide +kernel
theorem dX11_sync_8 : decode cX11_sync 8 = .ok (.new 90, 3) := by decide +kernel
theorem dX11_sync_11 : decode cX11_sync 11 = .ok (.dup, 1) := by decide +kernel
theorem dX11_sync_12 : decode cX11_sync 12 = .ok (.ldc 154, 2) := by decide +kernel
theorem dX11_sync_14 : decode cX11_sync 14 = .ok (.invokespecial 94, 3) := by decide +kernel
theorem dX11_sync_17 : decode cX11_sync 17 = .ok (.athrow, 1) := by decide +kernel
theorem dX11_sync_18 : decode cX11_sync 18 = .ok (.aload_n 0, 1) := by decide +kernel
theorem dX11_sync_19 : decode cX11_sync 19 = .ok (.getfield 40, 3) := by decide +kernel
theorem dX11_sync_22 : decode cX11_sync 22 = .ok (.iload_n 1, 1) := by decide +kernel
theorem dX11_sync_23 : decode cX11_sync 23 = .ok (.aaload, 1) := by decide +kernel
theorem dX11_sync_24 : decode cX11_sync 24 = .ok (.astore_n 2, 1) := by decide +kernel
theorem dX11_sync_25 : decode cX11_sync 25 = .ok (.aload_n 2, 1) := by decide +kernel
theorem dX11_sync_26 : decode cX11_sync 26 = .ok (.getfield 156, 3) := by decide +kernel
theorem dX11_sync_29 : decode cX11_sync 29 = .ok (.ifCond .ne 17, 3) := by decide +kernel
theorem dX11_sync_32 : decode cX11_sync 32 = .ok (.aload_n 2, 1) := by decide +kernel
theorem dX11_sync_33 : decode cX11_sync 33 = .ok (.invokevirtual 196, 3) := by decide +kernel
theorem dX11_sync_36 : decode cX11_sync 36 = .ok (.ifCond .eq 10, 3) := by decide +kernel
theorem dX11_sync_39 : decode cX11_sync 39 = .ok (.aload_n 2, 1) := by decide +kernel
theorem dX11_sync_40 : decode cX11_sync 40 = .ok (.getfield 200, 3) := by decide +kernel
theorem dX11_sync_43 : decode cX11_sync 43 = .ok (.ifCond .eq 13, 3) := by decide +kernel
theorem dX11_sync_46 : decode cX11_sync 46 = .ok (.new 105, 3) := by decide +kernel
theorem dX11_sync_49 : decode cX11_sync 49 = .ok (.dup, 1) := by decide +kernel
theorem dX11_sync_50 : decode cX11_sync 50 = .ok (.ldc 203, 2) := by decide +kernel
theorem dX11_sync_52 : decode cX11_sync 52 = .ok (.invokespecial 109, 3) := by decide +kernel
theorem dX11_sync_55 : decode cX11_sync 55 = .ok (.athrow, 1) := by decide +kernel
theorem dX11_sync_56 : decode cX11_sync 56 = .ok (.aload_n 2, 1) := by decide +kernel
theorem dX11_sync_57 : decode cX11_sync 57 = .ok (.invokevirtual 205, 3) := by decide +kernel
theorem dX11_sync_60 : decode cX11_sync 60 = .ok (.return_, 1) := by decide +kernel
abbrev rm_X11_sync : Room := { frames := 6, cells := 1, slots := 6, locals := 90 }
def wp_X11_sync (a0 : Nat) (p1 : Int32) (σ : Sto) (Q : Sto → Prop) (X : Nat → Sto → Prop) : Prop := (sK σ a0 = 11 ∧ (wp_X11_isReplica a0 p1 σ (fun (x3 : Int32) (σ2 : Sto) => ((¬ x3 = 0 → (sK σ2 a0 = 11 ∧ (∃ b6 : Nat, sP σ2 a0 3 = some b6 ∧ (sK σ2 b6 = 21 ∧ (vp_in p1 (sN σ2 b6) ∧ (∀ r10 : Option Nat, r10 = sP σ2 b6 p1.toNatClampNeg → (∃ b12 : Nat, r10 = some b12 ∧ (sK σ2 b12 = 8 ∧ (∀ x15 : Int32, x15 = sI σ2 b12 3 → ((¬ x15 = 0 → X 2 σ2) ∧ (x15 = 0 → (wp_X8_leads b12  σ2 (fun (x19 : Int32) (σ18 : Sto) => ((x19 = 0 → X 2 σ18) ∧ (¬ x19 = 0 → (sK σ18 b12 = 8 ∧ (∀ x22 : Int32, x22 = sI σ18 b12 4 → ((x22 = 0 → (wp_X8_sendSync b12  σ18 (fun (σ25 : Sto) => Q σ25))) ∧ (¬ x22 = 0 → X 2 σ18))))))))))))))))))) ∧ (x3 = 0 → X 0 σ2)))))
set_option maxHeartbeats 4000000 in
set_option maxRecDepth 100000 in
theorem c_X11_sync (l : Launch) (hlt : l.stackTraces = false) (D : va_G) (cy : Nat → ClassId) (a0 : Nat) (p1 : Int32) (σ : Sto) (Q : Sto → Prop) (X : Nat → Sto → Prop) (h : wp_X11_sync a0 p1 σ Q X) : MtX l D cy yX11_sync cX11_sync 3 none rm_X11_sync [.ref a0, .int p1] σ (PsV Q) X := by
  unfold wp_X11_sync at h
  refine mx_of (by decide +kernel) (Nat.le_of_ble_eq_true rfl) ?_
  intro p e s m args below meth c A ls C hr hnm htab Z Z2 hl
  have C : Cx p s m args meth c D cy A cX11_sync 3 RX11 := C
  have hl : lv_has ls 3 [(0, .ref a0), (1, .int p1)] := hl
  refine x_aload_n C dX11_sync_0 rfl (lv_at hl 0 rfl) ?_
  refine x_iload_n C dX11_sync_1 rfl (lv_at hl 1 rfl) ?_
  obtain ⟨g1, h⟩ := h
  refine x_callV (rm := rm_X11_isReplica) (rest := []) (As := [.int p1]) C cy_RX11_151 g1 (by decide) (by decide) rfl rfl (Nat.le_of_ble_eq_true rfl) hl.1 dX11_sync_2 (c_X11_isReplica l D cy a0 p1 σ _ h) (ks_i (fun x3 σ2 h => ?_))
  refine x_if_ne (tgt := 18) C dX11_sync_5 (by decide) (fun c4 => ?_) (fun c4 => ?_)
  · have h := h.1 c4
    refine x_aload_n C dX11_sync_18 rfl (lv_at hl 0 rfl) ?_
    obtain ⟨g5, h⟩ := h
    refine x_getP C fl_RX11_40 g5 dX11_sync_19 ?_
    refine x_iload_n C dX11_sync_22 rfl (lv_at hl 1 rfl) ?_
    obtain ⟨b6, g7, h⟩ := h
    refine x_nn1 g7 ?_
    obtain ⟨g8, h⟩ := h
    obtain ⟨g9, h⟩ := h
    refine x_aald C rak_21 g8 g9 dX11_sync_23 ?_
    refine x_topq (fun r10 e11 => ?_)
    have h := h r10 e11
    refine x_astore_nq (i := 2) (lv' := [(2, va_rf r10), (0, .ref a0), (1, .int p1)]) C dX11_sync_24 rfl hl (by decide) (by first | rfl | simp [vrc, cat_i, cat_r, cat_l]) (fun ls hl => ?_)
    refine x_aload_nq C dX11_sync_25 rfl (lv_at hl 0 rfl) ?_
    obtain ⟨b12, g13, h⟩ := h
    refine x_nn0 g13 ?_
    obtain ⟨g14, h⟩ := h
    refine x_getZ C fl_RX11_156 g14 dX11_sync_26 ?_
    refine x_topi (fun x15 e16 => ?_)
    have h := h x15 e16
    refine x_if_ne (tgt := 46) C dX11_sync_29 (by decide) (fun c17 => ?_) (fun c17 => ?_)
    · have h := h.1 c17
      exact x_throw C hlt Z Z2 (tw_2 (is := 203) (tx := "it is down, does not lead, or is not normal") (by decide)) htab hl.1 dX11_sync_46 dX11_sync_49 dX11_sync_50 dX11_sync_52 dX11_sync_55 (by decide) (Nat.le_of_ble_eq_true rfl) (by decide) (by decide) h
    · have h := h.2 c17
      refine x_aload_nq C dX11_sync_32 rfl (lv_at hl 0 rfl) ?_
      refine x_nn0 g13 ?_
      refine x_callV (rm := rm_X8_leads) (rest := []) (As := []) C cy_RX11_196 g14 (by decide) (by decide) rfl rfl (Nat.le_of_ble_eq_true rfl) hl.1 dX11_sync_33 (c_X8_leads l D cy b12  σ2 _ h) (ks_i (fun x19 σ18 h => ?_))
      refine x_if_eq (tgt := 46) C dX11_sync_36 (by decide) (fun c20 => ?_) (fun c20 => ?_)
      · have h := h.1 c20
        exact x_throw C hlt Z Z2 (tw_2 (is := 203) (tx := "it is down, does not lead, or is not normal") (by decide)) htab hl.1 dX11_sync_46 dX11_sync_49 dX11_sync_50 dX11_sync_52 dX11_sync_55 (by decide) (Nat.le_of_ble_eq_true rfl) (by decide) (by decide) h
      · have h := h.2 c20
        refine x_aload_nq C dX11_sync_39 rfl (lv_at hl 0 rfl) ?_
        refine x_nn0 g13 ?_
        obtain ⟨g21, h⟩ := h
        refine x_getI C fl_RX11_200 g21 dX11_sync_40 ?_
        refine x_topi (fun x22 e23 => ?_)
        have h := h x22 e23
        refine x_if_eq (tgt := 56) C dX11_sync_43 (by decide) (fun c24 => ?_) (fun c24 => ?_)
        · have h := h.1 c24
          refine x_aload_nq C dX11_sync_56 rfl (lv_at hl 0 rfl) ?_
          refine x_nn0 g13 ?_
          refine x_callV (rm := rm_X8_sendSync) (rest := []) (As := []) C cy_RX11_205 g21 (by decide) (by decide) rfl rfl (Nat.le_of_ble_eq_true rfl) hl.1 dX11_sync_57 (c_X8_sendSync l D cy b12  σ18 _ h) (ks_v (fun σ25 h => ?_))
          refine x_xret (x_widen (mc := rm_X11_sync.cells) (ms := rm_X11_sync.slots) (by decide) (by decide) ?_)
          exact x_vret C hr dX11_sync_60 ⟨rfl, h⟩
        · have h := h.2 c24
          exact x_throw C hlt Z Z2 (tw_2 (is := 203) (tx := "it is down, does not lead, or is not normal") (by decide)) htab hl.1 dX11_sync_46 dX11_sync_49 dX11_sync_50 dX11_sync_52 dX11_sync_55 (by decide) (Nat.le_of_ble_eq_true rfl) (by decide) (by decide) h
  · have h := h.2 c4
    exact x_throw C hlt Z Z2 (tw_0 (is := 154) (tx := "no such replica") (by decide)) htab hl.1 dX11_sync_8 dX11_sync_11 dX11_sync_12 dX11_sync_14 dX11_sync_17 (by decide) (Nat.le_of_ble_eq_true rfl) (by decide) (by decide) h
theorem dX11_tick_0 : decode cX11_tick 0 = .ok (.iload_n 1, 1) := by decide +kernel
theorem dX11_tick_1 : decode cX11_tick 1 = .ok (.ifCond .lt 9, 3) := by decide +kernel
theorem dX11_tick_4 : decode cX11_tick 4 = .ok (.iload_n 1, 1) := by decide +kernel
theorem dX11_tick_5 : decode cX11_tick 5 = .ok (.bipush 40, 2) := by decide +kernel
theorem dX11_tick_7 : decode cX11_tick 7 = .ok (.if_icmp .le 13, 3) := by decide +kernel
theorem dX11_tick_10 : decode cX11_tick 10 = .ok (.new 97, 3) := by decide +kernel
theorem dX11_tick_13 : decode cX11_tick 13 = .ok (.dup, 1) := by decide +kernel
theorem dX11_tick_14 : decode cX11_tick 14 = .ok (.ldc 146, 2) := by decide +kernel
theorem dX11_tick_16 : decode cX11_tick 16 = .ok (.invokespecial 101, 3) := by decide +kernel
theorem dX11_tick_19 : decode cX11_tick 19 = .ok (.athrow, 1) := by decide +kernel
theorem dX11_tick_20 : decode cX11_tick 20 = .ok (.aload_n 0, 1) := by decide +kernel
theorem dX11_tick_21 : decode cX11_tick 21 = .ok (.getfield 24, 3) := by decide +kernel
theorem dX11_tick_24 : decode cX11_tick 24 = .ok (.getfield 190, 3) := by decide +kernel
theorem dX11_tick_27 : decode cX11_tick 27 = .ok (.istore_n 2, 1) := by decide +kernel
theorem dX11_tick_28 : decode cX11_tick 28 = .ok (.iconst 0, 1) := by decide +kernel
theorem dX11_tick_29 : decode cX11_tick 29 = .ok (.istore_n 3, 1) := by decide +kernel
theorem dX11_tick_30 : decode cX11_tick 30 = .ok (.iload_n 3, 1) := by decide +kernel
theorem dX11_tick_31 : decode cX11_tick 31 = .ok (.iload_n 1, 1) := by decide +kernel
theorem dX11_tick_32 : decode cX11_tick 32 = .ok (.if_icmp .ge 13, 3) := by decide +kernel
theorem dX11_tick_35 : decode cX11_tick 35 = .ok (.aload_n 0, 1) := by decide +kernel
theorem dX11_tick_36 : decode cX11_tick 36 = .ok (.invokevirtual 208, 3) := by decide +kernel
theorem dX11_tick_39 : decode cX11_tick 39 = .ok (.iinc 3 1, 3) := by decide +kernel
theorem dX11_tick_42 : decode cX11_tick 42 = .ok (.goto (-12), 3) := by decide +kernel
theorem dX11_tick_45 : decode cX11_tick 45 = .ok (.aload_n 0, 1) := by decide +kernel
theorem dX11_tick_46 : decode cX11_tick 46 = .ok (.getfield 24, 3) := by decide +kernel
theorem dX11_tick_49 : decode cX11_tick 49 = .ok (.getfield 190, 3) := by decide +kernel
theorem dX11_tick_52 : decode cX11_tick 52 = .ok (.iload_n 2, 1) := by decide +kernel
theorem dX11_tick_53 : decode cX11_tick 53 = .ok (.isub, 1) := by decide +kernel
theorem dX11_tick_54 : decode cX11_tick 54 = .ok (.ireturn, 1) := by decide +kernel
abbrev rm_X11_tick : Room := { frames := 7, cells := 1, slots := 6, locals := 157 }
def f_X11_tick_30 (a0 : Nat)  (Q : Int32 → Sto → Prop) (X : Nat → Sto → Prop) (L30 : Int32 × Int32 × Int32 → Sto → Prop) (t : Int32 × Int32 × Int32) (σ : Sto) : Prop := ((t.1 ≤ t.2.2 → (sK σ a0 = 11 ∧ (∃ b3 : Nat, sP σ a0 1 = some b3 ∧ (sK σ b3 = 4 ∧ (∀ x6 : Int32, x6 = sI σ b3 6 → Q (x6 - t.2.1) σ))))) ∧ (¬ t.1 ≤ t.2.2 → (sK σ a0 = 11 ∧ (wp_X11_passTick a0  σ (fun (σ9 : Sto) => (∀ x10 : Int32, x10 = t.2.2 + (1 : Int32) → L30 (t.1, t.2.1, x10) σ9))))))
set_option maxHeartbeats 4000000 in
set_option maxRecDepth 100000 in
theorem t_X11_tick_30 {p : Program} {l : Launch} {e : Env} {s : State} {m : MethodId} {args : Array Value} {below : List Frame} {meth : Method} {c : Code} {D : va_G} {cy : Nat → ClassId} {A : Nat → Prop} {a0 : Nat} {Q : Int32 → Sto → Prop} {X : Nat → Sto → Prop} {L30 : Int32 × Int32 × Int32 → Sto → Prop} (C : Cx p s m args meth c D cy A cX11_tick 4 RX11) (hr : meth.sig.returnType = (some .int)) (hnm : meth.name = yX11_tick.name) (hlt : l.stackTraces = false) (Z : ZW s) (Z2 : ZH A s s.heap) (htab : ∀ x ∈ c.exceptionTable.toList, False) (hL30 : ∀ (t : Int32 × Int32 × Int32) (σ : Sto), L30 t σ → ∀ ls : Array Slot, lv_has ls 4 [(0, .ref a0), (1, .int t.1), (2, .int t.2.1), (3, .int t.2.2)] → Xw p l e rm_X11_tick s m args below meth c D cy A σ 0 0 (vx_MQ below (Qst D cy A (PsI Q)) (Xst D cy A X) args s rm_X11_tick.cells rm_X11_tick.slots A) (F0 m 30 ls [])) : ∀ (t : Int32 × Int32 × Int32) (σ : Sto), f_X11_tick_30 a0  Q X L30 t σ → ∀ ls : Array Slot, lv_has ls 4 [(0, .ref a0), (1, .int t.1), (2, .int t.2.1), (3, .int t.2.2)] → Xw p l e rm_X11_tick s m args below meth c D cy A σ 0 0 (vx_MQ below (Qst D cy A (PsI Q)) (Xst D cy A X) args s rm_X11_tick.cells rm_X11_tick.slots A) (F0 m 30 ls []) := by
  intro t σ h ls hl
  unfold f_X11_tick_30 at h
  refine x_iload_n C dX11_tick_30 rfl (lv_at hl 3 rfl) ?_
  refine x_iload_n C dX11_tick_31 rfl (lv_at hl 1 rfl) ?_
  refine x_icmp_ge (tgt := 45) C dX11_tick_32 (by decide) (fun c1 => ?_) (fun c1 => ?_)
  · have h := h.1 c1
    refine x_aload_n C dX11_tick_45 rfl (lv_at hl 0 rfl) ?_
    obtain ⟨g2, h⟩ := h
    refine x_getP C fl_RX11_24 g2 dX11_tick_46 ?_
    obtain ⟨b3, g4, h⟩ := h
    refine x_nn0 g4 ?_
    obtain ⟨g5, h⟩ := h
    refine x_getI C fl_RX11_190 g5 dX11_tick_49 ?_
    refine x_topi (fun x6 e7 => ?_)
    have h := h x6 e7
    refine x_iload_n C dX11_tick_52 rfl (lv_at hl 2 rfl) ?_
    refine x_isub C dX11_tick_53 ?_
    refine x_xret (x_widen (mc := rm_X11_tick.cells) (ms := rm_X11_tick.slots) (by decide) (by decide) ?_)
    exact x_iret C hr dX11_tick_54 ⟨_, rfl, h⟩
  · have h := h.2 c1
    refine x_aload_n C dX11_tick_35 rfl (lv_at hl 0 rfl) ?_
    obtain ⟨g8, h⟩ := h
    refine x_callV (rm := rm_X11_passTick) (rest := []) (As := []) C cy_RX11_208 g8 (by decide) (by decide) rfl rfl (Nat.le_of_ble_eq_true rfl) hl.1 dX11_tick_36 (c_X11_passTick l D cy a0  σ _ h) (ks_v (fun σ9 h => ?_))
    obtain ⟨x10, e11⟩ : ∃ z : Int32, z = t.2.2 + (1 : Int32) := ⟨_, rfl⟩
    have h := h x10 e11
    refine x_iinc (v := x10) (lv' := [(3, .int x10), (0, .ref a0), (1, .int t.1), (2, .int t.2.1)]) C dX11_tick_39 hl (q0 := 3) rfl (by rw [e11]; rfl) (by decide) (by first | rfl | simp [vrc, cat_i, cat_r, cat_l]) (fun ls hl => ?_)
    refine x_goto (tgt := 30) C dX11_tick_42 (by decide) ?_
    exact hL30 (t.1, t.2.1, x10) _ h ls (lv_sub hl [1, 2, 3, 0] rfl)
def wp_X11_tick (a0 : Nat) (p1 : Int32) (σ : Sto) (Q : Int32 → Sto → Prop) (X : Nat → Sto → Prop) : Prop := ((p1 < 0 → X 1 σ) ∧ (¬ p1 < 0 → ((p1 ≤ (40 : Int32) → (sK σ a0 = 11 ∧ (∃ b4 : Nat, sP σ a0 1 = some b4 ∧ (sK σ b4 = 4 ∧ (∀ x7 : Int32, x7 = sI σ b4 6 → LF (f_X11_tick_30 a0  Q X) (p1, x7, (0 : Int32)) σ))))) ∧ (¬ p1 ≤ (40 : Int32) → X 1 σ))))
set_option maxHeartbeats 4000000 in
set_option maxRecDepth 100000 in
theorem c_X11_tick (l : Launch) (hlt : l.stackTraces = false) (D : va_G) (cy : Nat → ClassId) (a0 : Nat) (p1 : Int32) (σ : Sto) (Q : Int32 → Sto → Prop) (X : Nat → Sto → Prop) (h : wp_X11_tick a0 p1 σ Q X) : MtX l D cy yX11_tick cX11_tick 4 (some .int) rm_X11_tick [.ref a0, .int p1] σ (PsI Q) X := by
  unfold wp_X11_tick at h
  refine mx_of (by decide +kernel) (Nat.le_of_ble_eq_true rfl) ?_
  intro p e s m args below meth c A ls C hr hnm htab Z Z2 hl
  have C : Cx p s m args meth c D cy A cX11_tick 4 RX11 := C
  have hl : lv_has ls 4 [(0, .ref a0), (1, .int p1)] := hl
  refine x_iload_n C dX11_tick_0 rfl (lv_at hl 1 rfl) ?_
  refine x_if_lt (tgt := 10) C dX11_tick_1 (by decide) (fun c1 => ?_) (fun c1 => ?_)
  · have h := h.1 c1
    exact x_throw C hlt Z Z2 (tw_1 (is := 146) (tx := "n is not 0 .. 40") (by decide)) htab hl.1 dX11_tick_10 dX11_tick_13 dX11_tick_14 dX11_tick_16 dX11_tick_19 (by decide) (Nat.le_of_ble_eq_true rfl) (by decide) (by decide) h
  · have h := h.2 c1
    refine x_iload_n C dX11_tick_4 rfl (lv_at hl 1 rfl) ?_
    refine x_bipush (v := 40) C dX11_tick_5 (by decide) ?_
    refine x_icmp_le (tgt := 20) C dX11_tick_7 (by decide) (fun c2 => ?_) (fun c2 => ?_)
    · have h := h.1 c2
      refine x_aload_n C dX11_tick_20 rfl (lv_at hl 0 rfl) ?_
      obtain ⟨g3, h⟩ := h
      refine x_getP C fl_RX11_24 g3 dX11_tick_21 ?_
      obtain ⟨b4, g5, h⟩ := h
      refine x_nn0 g5 ?_
      obtain ⟨g6, h⟩ := h
      refine x_getI C fl_RX11_190 g6 dX11_tick_24 ?_
      refine x_topi (fun x7 e8 => ?_)
      have h := h x7 e8
      refine x_istore_n (i := 2) (lv' := [(2, .int x7), (0, .ref a0), (1, .int p1)]) C dX11_tick_27 rfl hl (by decide) (by first | rfl | simp [vrc, cat_i, cat_r, cat_l]) (fun ls hl => ?_)
      refine x_iconst (v := 0) C dX11_tick_28 (by decide) ?_
      refine x_istore_n (i := 3) (lv' := [(3, .int (0 : Int32)), (2, .int x7), (0, .ref a0), (1, .int p1)]) C dX11_tick_29 rfl hl (by decide) (by first | rfl | simp [vrc, cat_i, cat_r, cat_l]) (fun ls hl => ?_)
      exact h (fun t σ => ∀ ls : Array Slot, lv_has ls 4 [(0, .ref a0), (1, .int t.1), (2, .int t.2.1), (3, .int t.2.2)] → Xw p l e rm_X11_tick s m args below meth c D cy A σ 0 0 (vx_MQ below (Qst D cy A (PsI Q)) (Xst D cy A X) args s rm_X11_tick.cells rm_X11_tick.slots A) (F0 m 30 ls [])) (t_X11_tick_30 C hr hnm hlt Z Z2 htab  (fun t σ h => h)) ls (lv_sub hl [2, 3, 1, 0] rfl)
    · have h := h.2 c2
      exact x_throw C hlt Z Z2 (tw_1 (is := 146) (tx := "n is not 0 .. 40") (by decide)) htab hl.1 dX11_tick_10 dX11_tick_13 dX11_tick_14 dX11_tick_16 dX11_tick_19 (by decide) (Nat.le_of_ble_eq_true rfl) (by decide) (by decide) h
theorem dX11_calm_0 : decode cX11_calm 0 = .ok (.iload_n 1, 1) := by decide +kernel
theorem dX11_calm_1 : decode cX11_calm 1 = .ok (.ifCond .lt 9, 3) := by decide +kernel
theorem dX11_calm_4 : decode cX11_calm 4 = .ok (.iload_n 1, 1) := by decide +kernel
theorem dX11_calm_5 : decode cX11_calm 5 = .ok (.bipush 20, 2) := by decide +kernel
theorem dX11_calm_7 : decode cX11_calm 7 = .ok (.if_icmp .le 13, 3) := by decide +kernel
theorem dX11_calm_10 : decode cX11_calm 10 = .ok (.new 97, 3) := by decide +kernel
theorem dX11_calm_13 : decode cX11_calm 13 = .ok (.dup, 1) := by decide +kernel
theorem dX11_calm_14 : decode cX11_calm 14 = .ok (.ldc 211, 2) := by decide +kernel
theorem dX11_calm_16 : decode cX11_calm 16 = .ok (.invokespecial 101, 3) := by decide +kernel
theorem dX11_calm_19 : decode cX11_calm 19 = .ok (.athrow, 1) := by decide +kernel
theorem dX11_calm_20 : decode cX11_calm 20 = .ok (.aload_n 0, 1) := by decide +kernel
theorem dX11_calm_21 : decode cX11_calm 21 = .ok (.getfield 213, 3) := by decide +kernel
theorem dX11_calm_24 : decode cX11_calm 24 = .ok (.istore_n 2, 1) := by decide +kernel
theorem dX11_calm_25 : decode cX11_calm 25 = .ok (.iconst 0, 1) := by decide +kernel
theorem dX11_calm_26 : decode cX11_calm 26 = .ok (.istore_n 3, 1) := by decide +kernel
theorem dX11_calm_27 : decode cX11_calm 27 = .ok (.iload_n 3, 1) := by decide +kernel
theorem dX11_calm_28 : decode cX11_calm 28 = .ok (.iload_n 1, 1) := by decide +kernel
theorem dX11_calm_29 : decode cX11_calm 29 = .ok (.if_icmp .ge 43, 3) := by decide +kernel
theorem dX11_calm_32 : decode cX11_calm 32 = .ok (.aload_n 0, 1) := by decide +kernel
theorem dX11_calm_33 : decode cX11_calm 33 = .ok (.invokevirtual 208, 3) := by decide +kernel
theorem dX11_calm_36 : decode cX11_calm 36 = .ok (.aload_n 0, 1) := by decide +kernel
theorem dX11_calm_37 : decode cX11_calm 37 = .ok (.getfield 24, 3) := by decide +kernel
theorem dX11_calm_40 : decode cX11_calm 40 = .ok (.getfield 148, 3) := by decide +kernel
theorem dX11_calm_43 : decode cX11_calm 43 = .ok (.istore 4, 2) := by decide +kernel
theorem dX11_calm_45 : decode cX11_calm 45 = .ok (.iconst 0, 1) := by decide +kernel
theorem dX11_calm_46 : decode cX11_calm 46 = .ok (.istore 5, 2) := by decide +kernel
theorem dX11_calm_48 : decode cX11_calm 48 = .ok (.iload 5, 2) := by decide +kernel
theorem dX11_calm_50 : decode cX11_calm 50 = .ok (.iload 4, 2) := by decide +kernel
theorem dX11_calm_52 : decode cX11_calm 52 = .ok (.if_icmp .ge 14, 3) := by decide +kernel
theorem dX11_calm_55 : decode cX11_calm 55 = .ok (.aload_n 0, 1) := by decide +kernel
theorem dX11_calm_56 : decode cX11_calm 56 = .ok (.iconst 0, 1) := by decide +kernel
theorem dX11_calm_57 : decode cX11_calm 57 = .ok (.invokevirtual 136, 3) := by decide +kernel
theorem dX11_calm_60 : decode cX11_calm 60 = .ok (.iinc 5 1, 3) := by decide +kernel
theorem dX11_calm_63 : decode cX11_calm 63 = .ok (.goto (-15), 3) := by decide +kernel
theorem dX11_calm_66 : decode cX11_calm 66 = .ok (.iinc 3 1, 3) := by decide +kernel
theorem dX11_calm_69 : decode cX11_calm 69 = .ok (.goto (-42), 3) := by decide +kernel
theorem dX11_calm_72 : decode cX11_calm 72 = .ok (.aload_n 0, 1) := by decide +kernel
theorem dX11_calm_73 : decode cX11_calm 73 = .ok (.getfield 213, 3) := by decide +kernel
theorem dX11_calm_76 : decode cX11_calm 76 = .ok (.iload_n 2, 1) := by decide +kernel
theorem dX11_calm_77 : decode cX11_calm 77 = .ok (.isub, 1) := by decide +kernel
theorem dX11_calm_78 : decode cX11_calm 78 = .ok (.ireturn, 1) := by decide +kernel
abbrev rm_X11_calm : Room := { frames := 7, cells := 1, slots := 6, locals := 161 }
def f_X11_calm_48 (a0 : Nat) (L27 : Int32 × Int32 × Int32 → Sto → Prop) (Q : Int32 → Sto → Prop) (X : Nat → Sto → Prop) (L48 : Int32 × Int32 × Int32 × Int32 × Int32 → Sto → Prop) (t : Int32 × Int32 × Int32 × Int32 × Int32) (σ : Sto) : Prop := ((t.2.2.2.1 ≤ t.2.2.2.2 → (∀ x2 : Int32, x2 = t.2.2.1 + (1 : Int32) → L27 (t.1, t.2.1, x2) σ)) ∧ (¬ t.2.2.2.1 ≤ t.2.2.2.2 → (sK σ a0 = 11 ∧ (wp_X11_handOver a0 (0 : Int32) σ (fun (σ5 : Sto) => (∀ x6 : Int32, x6 = t.2.2.2.2 + (1 : Int32) → L48 (t.1, t.2.1, t.2.2.1, t.2.2.2.1, x6) σ5))))))
set_option maxHeartbeats 4000000 in
set_option maxRecDepth 100000 in
theorem t_X11_calm_48 {p : Program} {l : Launch} {e : Env} {s : State} {m : MethodId} {args : Array Value} {below : List Frame} {meth : Method} {c : Code} {D : va_G} {cy : Nat → ClassId} {A : Nat → Prop} {a0 : Nat} {L27 : Int32 × Int32 × Int32 → Sto → Prop} {Q : Int32 → Sto → Prop} {X : Nat → Sto → Prop} {L48 : Int32 × Int32 × Int32 × Int32 × Int32 → Sto → Prop} (C : Cx p s m args meth c D cy A cX11_calm 6 RX11) (hr : meth.sig.returnType = (some .int)) (hnm : meth.name = yX11_calm.name) (hlt : l.stackTraces = false) (Z : ZW s) (Z2 : ZH A s s.heap) (htab : ∀ x ∈ c.exceptionTable.toList, False) (hL27 : ∀ (t : Int32 × Int32 × Int32) (σ : Sto), L27 t σ → ∀ ls : Array Slot, lv_has ls 6 [(0, .ref a0), (1, .int t.1), (2, .int t.2.1), (3, .int t.2.2)] → Xw p l e rm_X11_calm s m args below meth c D cy A σ 0 0 (vx_MQ below (Qst D cy A (PsI Q)) (Xst D cy A X) args s rm_X11_calm.cells rm_X11_calm.slots A) (F0 m 27 ls [])) (hL48 : ∀ (t : Int32 × Int32 × Int32 × Int32 × Int32) (σ : Sto), L48 t σ → ∀ ls : Array Slot, lv_has ls 6 [(0, .ref a0), (1, .int t.1), (2, .int t.2.1), (3, .int t.2.2.1), (4, .int t.2.2.2.1), (5, .int t.2.2.2.2)] → Xw p l e rm_X11_calm s m args below meth c D cy A σ 0 0 (vx_MQ below (Qst D cy A (PsI Q)) (Xst D cy A X) args s rm_X11_calm.cells rm_X11_calm.slots A) (F0 m 48 ls [])) : ∀ (t : Int32 × Int32 × Int32 × Int32 × Int32) (σ : Sto), f_X11_calm_48 a0 L27 Q X L48 t σ → ∀ ls : Array Slot, lv_has ls 6 [(0, .ref a0), (1, .int t.1), (2, .int t.2.1), (3, .int t.2.2.1), (4, .int t.2.2.2.1), (5, .int t.2.2.2.2)] → Xw p l e rm_X11_calm s m args below meth c D cy A σ 0 0 (vx_MQ below (Qst D cy A (PsI Q)) (Xst D cy A X) args s rm_X11_calm.cells rm_X11_calm.slots A) (F0 m 48 ls []) := by
  intro t σ h ls hl
  unfold f_X11_calm_48 at h
  refine x_iload C dX11_calm_48 (lv_at hl 5 rfl) ?_
  refine x_iload C dX11_calm_50 (lv_at hl 4 rfl) ?_
  refine x_icmp_ge (tgt := 66) C dX11_calm_52 (by decide) (fun c1 => ?_) (fun c1 => ?_)
  · have h := h.1 c1
    obtain ⟨x2, e3⟩ : ∃ z : Int32, z = t.2.2.1 + (1 : Int32) := ⟨_, rfl⟩
    have h := h x2 e3
    refine x_iinc (v := x2) (lv' := [(3, .int x2), (0, .ref a0), (1, .int t.1), (2, .int t.2.1), (4, .int t.2.2.2.1), (5, .int t.2.2.2.2)]) C dX11_calm_66 hl (q0 := 3) rfl (by rw [e3]; rfl) (by decide) (by first | rfl | simp [vrc, cat_i, cat_r, cat_l]) (fun ls hl => ?_)
    refine x_goto (tgt := 27) C dX11_calm_69 (by decide) ?_
    exact hL27 (t.1, t.2.1, x2) _ h ls (lv_sub hl [1, 2, 3, 0] rfl)
  · have h := h.2 c1
    refine x_aload_n C dX11_calm_55 rfl (lv_at hl 0 rfl) ?_
    refine x_iconst (v := 0) C dX11_calm_56 (by decide) ?_
    obtain ⟨g4, h⟩ := h
    refine x_callV (rm := rm_X11_handOver) (rest := []) (As := [.int (0 : Int32)]) C cy_RX11_136 g4 (by decide) (by decide) rfl rfl (Nat.le_of_ble_eq_true rfl) hl.1 dX11_calm_57 (c_X11_handOver l D cy a0 (0 : Int32) σ _ h) (ks_v (fun σ5 h => ?_))
    obtain ⟨x6, e7⟩ : ∃ z : Int32, z = t.2.2.2.2 + (1 : Int32) := ⟨_, rfl⟩
    have h := h x6 e7
    refine x_iinc (v := x6) (lv' := [(5, .int x6), (0, .ref a0), (1, .int t.1), (2, .int t.2.1), (3, .int t.2.2.1), (4, .int t.2.2.2.1)]) C dX11_calm_60 hl (q0 := 5) rfl (by rw [e7]; rfl) (by decide) (by first | rfl | simp [vrc, cat_i, cat_r, cat_l]) (fun ls hl => ?_)
    refine x_goto (tgt := 48) C dX11_calm_63 (by decide) ?_
    exact hL48 (t.1, t.2.1, t.2.2.1, t.2.2.2.1, x6) _ h ls (lv_sub hl [1, 2, 3, 4, 5, 0] rfl)
def f_X11_calm_27 (a0 : Nat)  (Q : Int32 → Sto → Prop) (X : Nat → Sto → Prop) (L27 : Int32 × Int32 × Int32 → Sto → Prop) (t : Int32 × Int32 × Int32) (σ : Sto) : Prop := ((t.1 ≤ t.2.2 → (sK σ a0 = 11 ∧ (∀ x3 : Int32, x3 = sI σ a0 10 → Q (x3 - t.2.1) σ))) ∧ (¬ t.1 ≤ t.2.2 → (sK σ a0 = 11 ∧ (wp_X11_passTick a0  σ (fun (σ6 : Sto) => (sK σ6 a0 = 11 ∧ (∃ b8 : Nat, sP σ6 a0 1 = some b8 ∧ (sK σ6 b8 = 4 ∧ (∀ x11 : Int32, x11 = sI σ6 b8 5 → LF (f_X11_calm_48 a0 L27 Q X) (t.1, t.2.1, t.2.2, x11, (0 : Int32)) σ6)))))))))
set_option maxHeartbeats 4000000 in
set_option maxRecDepth 100000 in
theorem t_X11_calm_27 {p : Program} {l : Launch} {e : Env} {s : State} {m : MethodId} {args : Array Value} {below : List Frame} {meth : Method} {c : Code} {D : va_G} {cy : Nat → ClassId} {A : Nat → Prop} {a0 : Nat} {Q : Int32 → Sto → Prop} {X : Nat → Sto → Prop} {L27 : Int32 × Int32 × Int32 → Sto → Prop} (C : Cx p s m args meth c D cy A cX11_calm 6 RX11) (hr : meth.sig.returnType = (some .int)) (hnm : meth.name = yX11_calm.name) (hlt : l.stackTraces = false) (Z : ZW s) (Z2 : ZH A s s.heap) (htab : ∀ x ∈ c.exceptionTable.toList, False) (hL27 : ∀ (t : Int32 × Int32 × Int32) (σ : Sto), L27 t σ → ∀ ls : Array Slot, lv_has ls 6 [(0, .ref a0), (1, .int t.1), (2, .int t.2.1), (3, .int t.2.2)] → Xw p l e rm_X11_calm s m args below meth c D cy A σ 0 0 (vx_MQ below (Qst D cy A (PsI Q)) (Xst D cy A X) args s rm_X11_calm.cells rm_X11_calm.slots A) (F0 m 27 ls [])) : ∀ (t : Int32 × Int32 × Int32) (σ : Sto), f_X11_calm_27 a0  Q X L27 t σ → ∀ ls : Array Slot, lv_has ls 6 [(0, .ref a0), (1, .int t.1), (2, .int t.2.1), (3, .int t.2.2)] → Xw p l e rm_X11_calm s m args below meth c D cy A σ 0 0 (vx_MQ below (Qst D cy A (PsI Q)) (Xst D cy A X) args s rm_X11_calm.cells rm_X11_calm.slots A) (F0 m 27 ls []) := by
  intro t σ h ls hl
  unfold f_X11_calm_27 at h
  refine x_iload_n C dX11_calm_27 rfl (lv_at hl 3 rfl) ?_
  refine x_iload_n C dX11_calm_28 rfl (lv_at hl 1 rfl) ?_
  refine x_icmp_ge (tgt := 72) C dX11_calm_29 (by decide) (fun c1 => ?_) (fun c1 => ?_)
  · have h := h.1 c1
    refine x_aload_n C dX11_calm_72 rfl (lv_at hl 0 rfl) ?_
    obtain ⟨g2, h⟩ := h
    refine x_getI C fl_RX11_213 g2 dX11_calm_73 ?_
    refine x_topi (fun x3 e4 => ?_)
    have h := h x3 e4
    refine x_iload_n C dX11_calm_76 rfl (lv_at hl 2 rfl) ?_
    refine x_isub C dX11_calm_77 ?_
    refine x_xret (x_widen (mc := rm_X11_calm.cells) (ms := rm_X11_calm.slots) (by decide) (by decide) ?_)
    exact x_iret C hr dX11_calm_78 ⟨_, rfl, h⟩
  · have h := h.2 c1
    refine x_aload_n C dX11_calm_32 rfl (lv_at hl 0 rfl) ?_
    obtain ⟨g5, h⟩ := h
    refine x_callV (rm := rm_X11_passTick) (rest := []) (As := []) C cy_RX11_208 g5 (by decide) (by decide) rfl rfl (Nat.le_of_ble_eq_true rfl) hl.1 dX11_calm_33 (c_X11_passTick l D cy a0  σ _ h) (ks_v (fun σ6 h => ?_))
    refine x_aload_n C dX11_calm_36 rfl (lv_at hl 0 rfl) ?_
    obtain ⟨g7, h⟩ := h
    refine x_getP C fl_RX11_24 g7 dX11_calm_37 ?_
    obtain ⟨b8, g9, h⟩ := h
    refine x_nn0 g9 ?_
    obtain ⟨g10, h⟩ := h
    refine x_getI C fl_RX11_148 g10 dX11_calm_40 ?_
    refine x_topi (fun x11 e12 => ?_)
    have h := h x11 e12
    refine x_istore (i := 4) (lv' := [(4, .int x11), (0, .ref a0), (1, .int t.1), (2, .int t.2.1), (3, .int t.2.2)]) C dX11_calm_43 hl (by decide) (by first | rfl | simp [vrc, cat_i, cat_r, cat_l]) (fun ls hl => ?_)
    refine x_iconst (v := 0) C dX11_calm_45 (by decide) ?_
    refine x_istore (i := 5) (lv' := [(5, .int (0 : Int32)), (4, .int x11), (0, .ref a0), (1, .int t.1), (2, .int t.2.1), (3, .int t.2.2)]) C dX11_calm_46 hl (by decide) (by first | rfl | simp [vrc, cat_i, cat_r, cat_l]) (fun ls hl => ?_)
    exact h (fun t σ => ∀ ls : Array Slot, lv_has ls 6 [(0, .ref a0), (1, .int t.1), (2, .int t.2.1), (3, .int t.2.2.1), (4, .int t.2.2.2.1), (5, .int t.2.2.2.2)] → Xw p l e rm_X11_calm s m args below meth c D cy A σ 0 0 (vx_MQ below (Qst D cy A (PsI Q)) (Xst D cy A X) args s rm_X11_calm.cells rm_X11_calm.slots A) (F0 m 48 ls [])) (t_X11_calm_48 C hr hnm hlt Z Z2 htab hL27 (fun t σ h => h)) ls (lv_sub hl [2, 3, 4, 5, 1, 0] rfl)
def wp_X11_calm (a0 : Nat) (p1 : Int32) (σ : Sto) (Q : Int32 → Sto → Prop) (X : Nat → Sto → Prop) : Prop := ((p1 < 0 → X 1 σ) ∧ (¬ p1 < 0 → ((p1 ≤ (20 : Int32) → (sK σ a0 = 11 ∧ (∀ x4 : Int32, x4 = sI σ a0 10 → LF (f_X11_calm_27 a0  Q X) (p1, x4, (0 : Int32)) σ))) ∧ (¬ p1 ≤ (20 : Int32) → X 1 σ))))
set_option maxHeartbeats 4000000 in
set_option maxRecDepth 100000 in
theorem c_X11_calm (l : Launch) (hlt : l.stackTraces = false) (D : va_G) (cy : Nat → ClassId) (a0 : Nat) (p1 : Int32) (σ : Sto) (Q : Int32 → Sto → Prop) (X : Nat → Sto → Prop) (h : wp_X11_calm a0 p1 σ Q X) : MtX l D cy yX11_calm cX11_calm 6 (some .int) rm_X11_calm [.ref a0, .int p1] σ (PsI Q) X := by
  unfold wp_X11_calm at h
  refine mx_of (by decide +kernel) (Nat.le_of_ble_eq_true rfl) ?_
  intro p e s m args below meth c A ls C hr hnm htab Z Z2 hl
  have C : Cx p s m args meth c D cy A cX11_calm 6 RX11 := C
  have hl : lv_has ls 6 [(0, .ref a0), (1, .int p1)] := hl
  refine x_iload_n C dX11_calm_0 rfl (lv_at hl 1 rfl) ?_
  refine x_if_lt (tgt := 10) C dX11_calm_1 (by decide) (fun c1 => ?_) (fun c1 => ?_)
  · have h := h.1 c1
    exact x_throw C hlt Z Z2 (tw_1 (is := 211) (tx := "n is not 0 .. 20") (by decide)) htab hl.1 dX11_calm_10 dX11_calm_13 dX11_calm_14 dX11_calm_16 dX11_calm_19 (by decide) (Nat.le_of_ble_eq_true rfl) (by decide) (by decide) h
  · have h := h.2 c1
    refine x_iload_n C dX11_calm_4 rfl (lv_at hl 1 rfl) ?_
    refine x_bipush (v := 20) C dX11_calm_5 (by decide) ?_
    refine x_icmp_le (tgt := 20) C dX11_calm_7 (by decide) (fun c2 => ?_) (fun c2 => ?_)
    · have h := h.1 c2
      refine x_aload_n C dX11_calm_20 rfl (lv_at hl 0 rfl) ?_
      obtain ⟨g3, h⟩ := h
      refine x_getI C fl_RX11_213 g3 dX11_calm_21 ?_
      refine x_topi (fun x4 e5 => ?_)
      have h := h x4 e5
      refine x_istore_n (i := 2) (lv' := [(2, .int x4), (0, .ref a0), (1, .int p1)]) C dX11_calm_24 rfl hl (by decide) (by first | rfl | simp [vrc, cat_i, cat_r, cat_l]) (fun ls hl => ?_)
      refine x_iconst (v := 0) C dX11_calm_25 (by decide) ?_
      refine x_istore_n (i := 3) (lv' := [(3, .int (0 : Int32)), (2, .int x4), (0, .ref a0), (1, .int p1)]) C dX11_calm_26 rfl hl (by decide) (by first | rfl | simp [vrc, cat_i, cat_r, cat_l]) (fun ls hl => ?_)
      exact h (fun t σ => ∀ ls : Array Slot, lv_has ls 6 [(0, .ref a0), (1, .int t.1), (2, .int t.2.1), (3, .int t.2.2)] → Xw p l e rm_X11_calm s m args below meth c D cy A σ 0 0 (vx_MQ below (Qst D cy A (PsI Q)) (Xst D cy A X) args s rm_X11_calm.cells rm_X11_calm.slots A) (F0 m 27 ls [])) (t_X11_calm_27 C hr hnm hlt Z Z2 htab  (fun t σ h => h)) ls (lv_sub hl [2, 3, 1, 0] rfl)
    · have h := h.2 c2
      exact x_throw C hlt Z Z2 (tw_1 (is := 211) (tx := "n is not 0 .. 20") (by decide)) htab hl.1 dX11_calm_10 dX11_calm_13 dX11_calm_14 dX11_calm_16 dX11_calm_19 (by decide) (Nat.le_of_ble_eq_true rfl) (by decide) (by decide) h
theorem dX11_image_0 : decode cX11_image 0 = .ok (.aload_n 0, 1) := by decide +kernel
theorem dX11_image_1 : decode cX11_image 1 = .ok (.iload_n 1, 1) := by decide +kernel
theorem dX11_image_2 : decode cX11_image 2 = .ok (.invokevirtual 151, 3) := by decide +kernel
theorem dX11_image_5 : decode cX11_image 5 = .ok (.ifCond .ne 13, 3) := by decide +kernel
theorem dX11_image_8 : decode cX11_image 8 = .ok (.new 90, 3) := by decide +kernel
theorem dX11_image_11 : decode cX11_image 11 = .ok (.dup, 1) := by decide +kernel
theorem dX11_image_12 : decode cX11_image 12 = .ok (.ldc 154, 2) := by decide +kernel
theorem dX11_image_14 : decode cX11_image 14 = .ok (.invokespecial 94, 3) := by decide +kernel
theorem dX11_image_17 : decode cX11_image 17 = .ok (.athrow, 1) := by decide +kernel
theorem dX11_image_18 : decode cX11_image 18 = .ok (.aload_n 0, 1) := by decide +kernel
theorem dX11_image_19 : decode cX11_image 19 = .ok (.getfield 70, 3) := by decide +kernel
theorem dX11_image_22 : decode cX11_image 22 = .ok (.iconst 0, 1) := by decide +kernel
theorem dX11_image_23 : decode cX11_image 23 = .ok (.putfield 318, 3) := by decide +kernel
theorem dX11_image_26 : decode cX11_image 26 = .ok (.aload_n 0, 1) := by decide +kernel
theorem dX11_image_27 : decode cX11_image 27 = .ok (.getfield 40, 3) := by decide +kernel
theorem dX11_image_30 : decode cX11_image 30 = .ok (.iload_n 1, 1) := by decide +kernel
theorem dX11_image_31 : decode cX11_image 31 = .ok (.aaload, 1) := by decide +kernel
theorem dX11_image_32 : decode cX11_image 32 = .ok (.aload_n 0, 1) := by decide +kernel
theorem dX11_image_33 : decode cX11_image 33 = .ok (.getfield 70, 3) := by decide +kernel
theorem dX11_image_36 : decode cX11_image 36 = .ok (.invokevirtual 319, 3) := by decide +kernel
theorem dX11_image_39 : decode cX11_image 39 = .ok (.aload_n 0, 1) := by decide +kernel
theorem dX11_image_40 : decode cX11_image 40 = .ok (.getfield 70, 3) := by decide +kernel
theorem dX11_image_43 : decode cX11_image 43 = .ok (.sipush 512, 3) := by decide +kernel
theorem dX11_image_46 : decode cX11_image 46 = .ok (.invokevirtual 322, 3) := by decide +kernel
theorem dX11_image_49 : decode cX11_image 49 = .ok (.iconst 1, 1) := by decide +kernel
theorem dX11_image_50 : decode cX11_image 50 = .ok (.istore_n 2, 1) := by decide +kernel
theorem dX11_image_51 : decode cX11_image 51 = .ok (.iload_n 2, 1) := by decide +kernel
theorem dX11_image_52 : decode cX11_image 52 = .ok (.sipush 512, 3) := by decide +kernel
theorem dX11_image_55 : decode cX11_image 55 = .ok (.imul, 1) := by decide +kernel
theorem dX11_image_56 : decode cX11_image 56 = .ok (.sipush 2560, 3) := by decide +kernel
theorem dX11_image_59 : decode cX11_image 59 = .ok (.if_icmp .ge 45, 3) := by decide +kernel
theorem dX11_image_62 : decode cX11_image 62 = .ok (.aload_n 0, 1) := by decide +kernel
theorem dX11_image_63 : decode cX11_image 63 = .ok (.getfield 40, 3) := by decide +kernel
theorem dX11_image_66 : decode cX11_image 66 = .ok (.iload_n 1, 1) := by decide +kernel
theorem dX11_image_67 : decode cX11_image 67 = .ok (.aaload, 1) := by decide +kernel
theorem dX11_image_68 : decode cX11_image 68 = .ok (.getfield 233, 3) := by decide +kernel
theorem dX11_image_71 : decode cX11_image 71 = .ok (.aload_n 0, 1) := by decide +kernel
theorem dX11_image_72 : decode cX11_image 72 = .ok (.getfield 70, 3) := by decide +kernel
theorem dX11_image_75 : decode cX11_image 75 = .ok (.iload_n 2, 1) := by decide +kernel
theorem dX11_image_76 : decode cX11_image 76 = .ok (.iconst 1, 1) := by decide +kernel
theorem dX11_image_77 : decode cX11_image 77 = .ok (.isub, 1) := by decide +kernel
theorem dX11_image_78 : decode cX11_image 78 = .ok (.bipush 25, 2) := by decide +kernel
theorem dX11_image_80 : decode cX11_image 80 = .ok (.imul, 1) := by decide +kernel
theorem dX11_image_81 : decode cX11_image 81 = .ok (.invokevirtual 325, 3) := by decide +kernel
theorem dX11_image_84 : decode cX11_image 84 = .ok (.aload_n 0, 1) := by decide +kernel
theorem dX11_image_85 : decode cX11_image 85 = .ok (.getfield 70, 3) := by decide +kernel
theorem dX11_image_88 : decode cX11_image 88 = .ok (.iload_n 2, 1) := by decide +kernel
theorem dX11_image_89 : decode cX11_image 89 = .ok (.iconst 1, 1) := by decide +kernel
theorem dX11_image_90 : decode cX11_image 90 = .ok (.iadd, 1) := by decide +kernel
theorem dX11_image_91 : decode cX11_image 91 = .ok (.sipush 512, 3) := by decide +kernel
theorem dX11_image_94 : decode cX11_image 94 = .ok (.imul, 1) := by decide +kernel
theorem dX11_image_95 : decode cX11_image 95 = .ok (.invokevirtual 322, 3) := by decide +kernel
theorem dX11_image_98 : decode cX11_image 98 = .ok (.iinc 2 1, 3) := by decide +kernel
theorem dX11_image_101 : decode cX11_image 101 = .ok (.goto (-50), 3) := by decide +kernel
theorem dX11_image_104 : decode cX11_image 104 = .ok (.aload_n 0, 1) := by decide +kernel
theorem dX11_image_105 : decode cX11_image 105 = .ok (.getfield 70, 3) := by decide +kernel
theorem dX11_image_108 : decode cX11_image 108 = .ok (.getfield 318, 3) := by decide +kernel
theorem dX11_image_111 : decode cX11_image 111 = .ok (.ireturn, 1) := by decide +kernel
abbrev rm_X11_image : Room := { frames := 6, cells := 1, slots := 6, locals := 90 }
def f_X11_image_51 (a0 : Nat)  (Q : Int32 → Sto → Prop) (X : Nat → Sto → Prop) (L51 : Int32 × Int32 → Sto → Prop) (t : Int32 × Int32) (σ : Sto) : Prop := (((2560 : Int32) ≤ (t.2 * (512 : Int32)) → (sK σ a0 = 11 ∧ (∃ b3 : Nat, sP σ a0 11 = some b3 ∧ (sK σ b3 = 0 ∧ (∀ x6 : Int32, x6 = sI σ b3 1 → Q x6 σ))))) ∧ (¬ (2560 : Int32) ≤ (t.2 * (512 : Int32)) → (sK σ a0 = 11 ∧ (∃ b9 : Nat, sP σ a0 3 = some b9 ∧ (sK σ b9 = 21 ∧ (vp_in t.1 (sN σ b9) ∧ (∀ r13 : Option Nat, r13 = sP σ b9 t.1.toNatClampNeg → (∃ b15 : Nat, r13 = some b15 ∧ (sK σ b15 = 8 ∧ (∃ b18 : Nat, sP σ b15 7 = some b18 ∧ (sK σ b18 = 2 ∧ (wp_X2_writeEntries b18 (sP σ a0 11) ((t.2 - (1 : Int32)) * (25 : Int32)) σ (fun (σ21 : Sto) => (sK σ21 a0 = 11 ∧ (∃ b23 : Nat, sP σ21 a0 11 = some b23 ∧ (sK σ21 b23 = 0 ∧ (wp_X0_endBlock b23 ((t.2 + (1 : Int32)) * (512 : Int32)) σ21 (fun (σ26 : Sto) => (∀ x27 : Int32, x27 = t.2 + (1 : Int32) → L51 (t.1, x27) σ26)))))))))))))))))))
set_option maxHeartbeats 4000000 in
set_option maxRecDepth 100000 in
theorem t_X11_image_51 {p : Program} {l : Launch} {e : Env} {s : State} {m : MethodId} {args : Array Value} {below : List Frame} {meth : Method} {c : Code} {D : va_G} {cy : Nat → ClassId} {A : Nat → Prop} {a0 : Nat} {Q : Int32 → Sto → Prop} {X : Nat → Sto → Prop} {L51 : Int32 × Int32 → Sto → Prop} (C : Cx p s m args meth c D cy A cX11_image 3 RX11) (hr : meth.sig.returnType = (some .int)) (hnm : meth.name = yX11_image.name) (hlt : l.stackTraces = false) (Z : ZW s) (Z2 : ZH A s s.heap) (htab : ∀ x ∈ c.exceptionTable.toList, False) (hL51 : ∀ (t : Int32 × Int32) (σ : Sto), L51 t σ → ∀ ls : Array Slot, lv_has ls 3 [(0, .ref a0), (1, .int t.1), (2, .int t.2)] → Xw p l e rm_X11_image s m args below meth c D cy A σ 0 0 (vx_MQ below (Qst D cy A (PsI Q)) (Xst D cy A X) args s rm_X11_image.cells rm_X11_image.slots A) (F0 m 51 ls [])) : ∀ (t : Int32 × Int32) (σ : Sto), f_X11_image_51 a0  Q X L51 t σ → ∀ ls : Array Slot, lv_has ls 3 [(0, .ref a0), (1, .int t.1), (2, .int t.2)] → Xw p l e rm_X11_image s m args below meth c D cy A σ 0 0 (vx_MQ below (Qst D cy A (PsI Q)) (Xst D cy A X) args s rm_X11_image.cells rm_X11_image.slots A) (F0 m 51 ls []) := by
  intro t σ h ls hl
  unfold f_X11_image_51 at h
  refine x_iload_n C dX11_image_51 rfl (lv_at hl 2 rfl) ?_
  refine x_sipush (v := 512) C dX11_image_52 (by decide) ?_
  refine x_imul C dX11_image_55 ?_
  refine x_sipush (v := 2560) C dX11_image_56 (by decide) ?_
  refine x_icmp_ge (tgt := 104) C dX11_image_59 (by decide) (fun c1 => ?_) (fun c1 => ?_)
  · have h := h.1 c1
    refine x_aload_n C dX11_image_104 rfl (lv_at hl 0 rfl) ?_
    obtain ⟨g2, h⟩ := h
    refine x_getP C fl_RX11_70 g2 dX11_image_105 ?_
    obtain ⟨b3, g4, h⟩ := h
    refine x_nn0 g4 ?_
    obtain ⟨g5, h⟩ := h
    refine x_getI C fl_RX11_318 g5 dX11_image_108 ?_
    refine x_topi (fun x6 e7 => ?_)
    have h := h x6 e7
    refine x_xret (x_widen (mc := rm_X11_image.cells) (ms := rm_X11_image.slots) (by decide) (by decide) ?_)
    exact x_iret C hr dX11_image_111 ⟨_, rfl, h⟩
  · have h := h.2 c1
    refine x_aload_n C dX11_image_62 rfl (lv_at hl 0 rfl) ?_
    obtain ⟨g8, h⟩ := h
    refine x_getP C fl_RX11_40 g8 dX11_image_63 ?_
    refine x_iload_n C dX11_image_66 rfl (lv_at hl 1 rfl) ?_
    obtain ⟨b9, g10, h⟩ := h
    refine x_nn1 g10 ?_
    obtain ⟨g11, h⟩ := h
    obtain ⟨g12, h⟩ := h
    refine x_aald C rak_21 g11 g12 dX11_image_67 ?_
    refine x_topq (fun r13 e14 => ?_)
    have h := h r13 e14
    obtain ⟨b15, g16, h⟩ := h
    refine x_nn0 g16 ?_
    obtain ⟨g17, h⟩ := h
    refine x_getP C fl_RX11_233 g17 dX11_image_68 ?_
    refine x_aload_n C dX11_image_71 rfl (lv_at hl 0 rfl) ?_
    refine x_getP C fl_RX11_70 g8 dX11_image_72 ?_
    refine x_iload_n C dX11_image_75 rfl (lv_at hl 2 rfl) ?_
    refine x_iconst (v := 1) C dX11_image_76 (by decide) ?_
    refine x_isub C dX11_image_77 ?_
    refine x_bipush (v := 25) C dX11_image_78 (by decide) ?_
    refine x_imul C dX11_image_80 ?_
    obtain ⟨b18, g19, h⟩ := h
    refine x_nn2 g19 ?_
    obtain ⟨g20, h⟩ := h
    refine x_callV (rm := rm_X2_writeEntries) (rest := []) (As := [va_rf (sP σ a0 11), .int ((t.2 - (1 : Int32)) * (25 : Int32))]) C cy_RX11_325 g20 (by decide) (by decide) rfl rfl (Nat.le_of_ble_eq_true rfl) hl.1 dX11_image_81 (c_X2_writeEntries l D cy b18 (sP σ a0 11) ((t.2 - (1 : Int32)) * (25 : Int32)) σ _ h) (ks_v (fun σ21 h => ?_))
    refine x_aload_n C dX11_image_84 rfl (lv_at hl 0 rfl) ?_
    obtain ⟨g22, h⟩ := h
    refine x_getP C fl_RX11_70 g22 dX11_image_85 ?_
    refine x_iload_n C dX11_image_88 rfl (lv_at hl 2 rfl) ?_
    refine x_iconst (v := 1) C dX11_image_89 (by decide) ?_
    refine x_iadd C dX11_image_90 ?_
    refine x_sipush (v := 512) C dX11_image_91 (by decide) ?_
    refine x_imul C dX11_image_94 ?_
    obtain ⟨b23, g24, h⟩ := h
    refine x_nn1 g24 ?_
    obtain ⟨g25, h⟩ := h
    refine x_callV (rm := rm_X0_endBlock) (rest := []) (As := [.int ((t.2 + (1 : Int32)) * (512 : Int32))]) C cy_RX11_322 g25 (by decide) (by decide) rfl rfl (Nat.le_of_ble_eq_true rfl) hl.1 dX11_image_95 (c_X0_endBlock l D cy b23 ((t.2 + (1 : Int32)) * (512 : Int32)) σ21 _ h) (ks_v (fun σ26 h => ?_))
    obtain ⟨x27, e28⟩ : ∃ z : Int32, z = t.2 + (1 : Int32) := ⟨_, rfl⟩
    have h := h x27 e28
    refine x_iinc (v := x27) (lv' := [(2, .int x27), (0, .ref a0), (1, .int t.1)]) C dX11_image_98 hl (q0 := 2) rfl (by rw [e28]; rfl) (by decide) (by first | rfl | simp [vrc, cat_i, cat_r, cat_l]) (fun ls hl => ?_)
    refine x_goto (tgt := 51) C dX11_image_101 (by decide) ?_
    exact hL51 (t.1, x27) _ h ls (lv_sub hl [1, 2, 0] rfl)
def wp_X11_image (a0 : Nat) (p1 : Int32) (σ : Sto) (Q : Int32 → Sto → Prop) (X : Nat → Sto → Prop) : Prop := (sK σ a0 = 11 ∧ (wp_X11_isReplica a0 p1 σ (fun (x3 : Int32) (σ2 : Sto) => ((¬ x3 = 0 → (sK σ2 a0 = 11 ∧ (∃ b6 : Nat, sP σ2 a0 11 = some b6 ∧ (sK σ2 b6 = 0 ∧ (∃ b9 : Nat, sP σ2 a0 3 = some b9 ∧ (sK σ2 b9 = 21 ∧ (vp_in p1 (sN σ2 b9) ∧ (∀ r13 : Option Nat, r13 = sP σ2 b9 p1.toNatClampNeg → (∃ b15 : Nat, r13 = some b15 ∧ (sK σ2 b15 = 8 ∧ (wp_X8_writeHead b15 (sP σ2 a0 11) (stI σ2 b6 1 (0 : Int32)) (fun (σ18 : Sto) => (sK σ18 a0 = 11 ∧ (∃ b20 : Nat, sP σ18 a0 11 = some b20 ∧ (sK σ18 b20 = 0 ∧ (wp_X0_endBlock b20 (512 : Int32) σ18 (fun (σ23 : Sto) => LF (f_X11_image_51 a0  Q X) (p1, (1 : Int32)) σ23))))))))))))))))) ∧ (x3 = 0 → X 0 σ2)))))
set_option maxHeartbeats 4000000 in
set_option maxRecDepth 100000 in
theorem c_X11_image (l : Launch) (hlt : l.stackTraces = false) (D : va_G) (cy : Nat → ClassId) (a0 : Nat) (p1 : Int32) (σ : Sto) (Q : Int32 → Sto → Prop) (X : Nat → Sto → Prop) (h : wp_X11_image a0 p1 σ Q X) : MtX l D cy yX11_image cX11_image 3 (some .int) rm_X11_image [.ref a0, .int p1] σ (PsI Q) X := by
  unfold wp_X11_image at h
  refine mx_of (by decide +kernel) (Nat.le_of_ble_eq_true rfl) ?_
  intro p e s m args below meth c A ls C hr hnm htab Z Z2 hl
  have C : Cx p s m args meth c D cy A cX11_image 3 RX11 := C
  have hl : lv_has ls 3 [(0, .ref a0), (1, .int p1)] := hl
  refine x_aload_n C dX11_image_0 rfl (lv_at hl 0 rfl) ?_
  refine x_iload_n C dX11_image_1 rfl (lv_at hl 1 rfl) ?_
  obtain ⟨g1, h⟩ := h
  refine x_callV (rm := rm_X11_isReplica) (rest := []) (As := [.int p1]) C cy_RX11_151 g1 (by decide) (by decide) rfl rfl (Nat.le_of_ble_eq_true rfl) hl.1 dX11_image_2 (c_X11_isReplica l D cy a0 p1 σ _ h) (ks_i (fun x3 σ2 h => ?_))
  refine x_if_ne (tgt := 18) C dX11_image_5 (by decide) (fun c4 => ?_) (fun c4 => ?_)
  · have h := h.1 c4
    refine x_aload_n C dX11_image_18 rfl (lv_at hl 0 rfl) ?_
    obtain ⟨g5, h⟩ := h
    refine x_getP C fl_RX11_70 g5 dX11_image_19 ?_
    refine x_iconst (v := 0) C dX11_image_22 (by decide) ?_
    obtain ⟨b6, g7, h⟩ := h
    refine x_nn1 g7 ?_
    obtain ⟨g8, h⟩ := h
    refine x_putI C fl_RX11_318 (Or.inl rfl) g8 dX11_image_23 ?_
    refine x_aload_n C dX11_image_26 rfl (lv_at hl 0 rfl) ?_
    refine x_getP C fl_RX11_40 g5 dX11_image_27 ?_
    refine x_iload_n C dX11_image_30 rfl (lv_at hl 1 rfl) ?_
    obtain ⟨b9, g10, h⟩ := h
    refine x_nn1 g10 ?_
    obtain ⟨g11, h⟩ := h
    obtain ⟨g12, h⟩ := h
    refine x_aald C rak_21 g11 g12 dX11_image_31 ?_
    refine x_topq (fun r13 e14 => ?_)
    have h := h r13 e14
    refine x_aload_n C dX11_image_32 rfl (lv_at hl 0 rfl) ?_
    refine x_getP C fl_RX11_70 g5 dX11_image_33 ?_
    obtain ⟨b15, g16, h⟩ := h
    refine x_nn1 g16 ?_
    obtain ⟨g17, h⟩ := h
    refine x_callV (rm := rm_X8_writeHead) (rest := []) (As := [va_rf (sP σ2 a0 11)]) C cy_RX11_319 g17 (by decide) (by decide) rfl rfl (Nat.le_of_ble_eq_true rfl) hl.1 dX11_image_36 (c_X8_writeHead l D cy b15 (sP σ2 a0 11) (stI σ2 b6 1 (0 : Int32)) _ h) (ks_v (fun σ18 h => ?_))
    refine x_aload_n C dX11_image_39 rfl (lv_at hl 0 rfl) ?_
    obtain ⟨g19, h⟩ := h
    refine x_getP C fl_RX11_70 g19 dX11_image_40 ?_
    refine x_sipush (v := 512) C dX11_image_43 (by decide) ?_
    obtain ⟨b20, g21, h⟩ := h
    refine x_nn1 g21 ?_
    obtain ⟨g22, h⟩ := h
    refine x_callV (rm := rm_X0_endBlock) (rest := []) (As := [.int (512 : Int32)]) C cy_RX11_322 g22 (by decide) (by decide) rfl rfl (Nat.le_of_ble_eq_true rfl) hl.1 dX11_image_46 (c_X0_endBlock l D cy b20 (512 : Int32) σ18 _ h) (ks_v (fun σ23 h => ?_))
    refine x_iconst (v := 1) C dX11_image_49 (by decide) ?_
    refine x_istore_n (i := 2) (lv' := [(2, .int (1 : Int32)), (0, .ref a0), (1, .int p1)]) C dX11_image_50 rfl hl (by decide) (by first | rfl | simp [vrc, cat_i, cat_r, cat_l]) (fun ls hl => ?_)
    exact h (fun t σ => ∀ ls : Array Slot, lv_has ls 3 [(0, .ref a0), (1, .int t.1), (2, .int t.2)] → Xw p l e rm_X11_image s m args below meth c D cy A σ 0 0 (vx_MQ below (Qst D cy A (PsI Q)) (Xst D cy A X) args s rm_X11_image.cells rm_X11_image.slots A) (F0 m 51 ls [])) (t_X11_image_51 C hr hnm hlt Z Z2 htab  (fun t σ h => h)) ls (lv_sub hl [1, 2, 0] rfl)
  · have h := h.2 c4
    exact x_throw C hlt Z Z2 (tw_0 (is := 154) (tx := "no such replica") (by decide)) htab hl.1 dX11_image_8 dX11_image_11 dX11_image_12 dX11_image_14 dX11_image_17 (by decide) (Nat.le_of_ble_eq_true rfl) (by decide) (by decide) h
theorem dX11_untake_0 : decode cX11_untake 0 = .ok (.aload_n 0, 1) := by decide +kernel
theorem dX11_untake_1 : decode cX11_untake 1 = .ok (.getfield 82, 3) := by decide +kernel
theorem dX11_untake_4 : decode cX11_untake 4 = .ok (.invokevirtual 341, 3) := by decide +kernel
theorem dX11_untake_7 : decode cX11_untake 7 = .ok (.aload_n 0, 1) := by decide +kernel
theorem dX11_untake_8 : decode cX11_untake 8 = .ok (.getfield 82, 3) := by decide +kernel
theorem dX11_untake_11 : decode cX11_untake 11 = .ok (.getfield 344, 3) := by decide +kernel
theorem dX11_untake_14 : decode cX11_untake 14 = .ok (.ifCond .eq 14, 3) := by decide +kernel
theorem dX11_untake_17 : decode cX11_untake 17 = .ok (.new 97, 3) := by decide +kernel
theorem dX11_untake_20 : decode cX11_untake 20 = .ok (.dup, 1) := by decide +kernel
theorem dX11_untake_21 : decode cX11_untake 21 = .ok (.ldc_w 347, 3) := by decide +kernel
theorem dX11_untake_24 : decode cX11_untake 24 = .ok (.invokespecial 101, 3) := by decide +kernel
theorem dX11_untake_27 : decode cX11_untake 27 = .ok (.athrow, 1) := by decide +kernel
theorem dX11_untake_28 : decode cX11_untake 28 = .ok (.aload_n 0, 1) := by decide +kernel
theorem dX11_untake_29 : decode cX11_untake 29 = .ok (.getfield 82, 3) := by decide +kernel
theorem dX11_untake_32 : decode cX11_untake 32 = .ok (.iconst 0, 1) := by decide +kernel
theorem dX11_untake_33 : decode cX11_untake 33 = .ok (.invokevirtual 349, 3) := by decide +kernel
theorem dX11_untake_36 : decode cX11_untake 36 = .ok (.ireturn, 1) := by decide +kernel
abbrev rm_X11_untake : Room := { frames := 7, cells := 1, slots := 6, locals := 153 }
def wp_X11_untake (a0 : Nat)  (σ : Sto) (Q : Int32 → Sto → Prop) (X : Nat → Sto → Prop) : Prop := (sK σ a0 = 11 ∧ (∃ b2 : Nat, sP σ a0 13 = some b2 ∧ (sK σ b2 = 7 ∧ (wp_X7_read b2  σ (fun (σ5 : Sto) => (sK σ5 a0 = 11 ∧ (∃ b7 : Nat, sP σ5 a0 13 = some b7 ∧ (sK σ5 b7 = 7 ∧ (∀ x10 : Int32, x10 = sI σ5 b7 3 → ((x10 = 0 → (wp_X7_at b7 (0 : Int32) σ5 (fun (x14 : Int32) (σ13 : Sto) => Q x14 σ13))) ∧ (¬ x10 = 0 → X 1 σ5)))))))))))
set_option maxHeartbeats 4000000 in
set_option maxRecDepth 100000 in
theorem c_X11_untake (l : Launch) (hlt : l.stackTraces = false) (D : va_G) (cy : Nat → ClassId) (a0 : Nat)  (σ : Sto) (Q : Int32 → Sto → Prop) (X : Nat → Sto → Prop) (h : wp_X11_untake a0  σ Q X) : MtX l D cy yX11_untake cX11_untake 1 (some .int) rm_X11_untake [.ref a0] σ (PsI Q) X := by
  unfold wp_X11_untake at h
  refine mx_of (by decide +kernel) (Nat.le_of_ble_eq_true rfl) ?_
  intro p e s m args below meth c A ls C hr hnm htab Z Z2 hl
  have C : Cx p s m args meth c D cy A cX11_untake 1 RX11 := C
  have hl : lv_has ls 1 [(0, .ref a0)] := hl
  refine x_aload_n C dX11_untake_0 rfl (lv_at hl 0 rfl) ?_
  obtain ⟨g1, h⟩ := h
  refine x_getP C fl_RX11_82 g1 dX11_untake_1 ?_
  obtain ⟨b2, g3, h⟩ := h
  refine x_nn0 g3 ?_
  obtain ⟨g4, h⟩ := h
  refine x_callV (rm := rm_X7_read) (rest := []) (As := []) C cy_RX11_341 g4 (by decide) (by decide) rfl rfl (Nat.le_of_ble_eq_true rfl) hl.1 dX11_untake_4 (c_X7_read l D cy b2  σ _ h) (ks_v (fun σ5 h => ?_))
  refine x_aload_n C dX11_untake_7 rfl (lv_at hl 0 rfl) ?_
  obtain ⟨g6, h⟩ := h
  refine x_getP C fl_RX11_82 g6 dX11_untake_8 ?_
  obtain ⟨b7, g8, h⟩ := h
  refine x_nn0 g8 ?_
  obtain ⟨g9, h⟩ := h
  refine x_getI C fl_RX11_344 g9 dX11_untake_11 ?_
  refine x_topi (fun x10 e11 => ?_)
  have h := h x10 e11
  refine x_if_eq (tgt := 28) C dX11_untake_14 (by decide) (fun c12 => ?_) (fun c12 => ?_)
  · have h := h.1 c12
    refine x_aload_n C dX11_untake_28 rfl (lv_at hl 0 rfl) ?_
    refine x_getP C fl_RX11_82 g6 dX11_untake_29 ?_
    refine x_iconst (v := 0) C dX11_untake_32 (by decide) ?_
    refine x_nn1 g8 ?_
    refine x_callV (rm := rm_X7_at) (rest := []) (As := [.int (0 : Int32)]) C cy_RX11_349 g9 (by decide) (by decide) rfl rfl (Nat.le_of_ble_eq_true rfl) hl.1 dX11_untake_33 (c_X7_at l D cy b7 (0 : Int32) σ5 _ h) (ks_i (fun x14 σ13 h => ?_))
    refine x_xret (x_widen (mc := rm_X11_untake.cells) (ms := rm_X11_untake.slots) (by decide) (by decide) ?_)
    exact x_iret C hr dX11_untake_36 ⟨_, rfl, h⟩
  · have h := h.2 c12
    exact x_throwW C hlt Z Z2 (tw_1 (is := 347) (tx := "the tape has a fault") (by decide)) htab hl.1 dX11_untake_17 dX11_untake_20 dX11_untake_21 dX11_untake_24 dX11_untake_27 (by decide) (Nat.le_of_ble_eq_true rfl) (by decide) (by decide) h
