theorem dX12_commitGap_0 : decode cX12_commitGap 0 = .ok (.iload_n 2, 1) := by decide +kernel
theorem dX12_commitGap_1 : decode cX12_commitGap 1 = .ok (.iconst 1, 1) := by decide +kernel
theorem dX12_commitGap_2 : decode cX12_commitGap 2 = .ok (.aload_n 0, 1) := by decide +kernel
theorem dX12_commitGap_3 : decode cX12_commitGap 3 = .ok (.getfield 59, 3) := by decide +kernel
theorem dX12_commitGap_6 : decode cX12_commitGap 6 = .ok (.iload_n 1, 1) := by decide +kernel
theorem dX12_commitGap_7 : decode cX12_commitGap 7 = .ok (.iaload, 1) := by decide +kernel
theorem dX12_commitGap_8 : decode cX12_commitGap 8 = .ok (.invokestatic 270, 3) := by decide +kernel
theorem dX12_commitGap_11 : decode cX12_commitGap 11 = .ok (.ifCond .eq 32, 3) := by decide +kernel
theorem dX12_commitGap_14 : decode cX12_commitGap 14 = .ok (.aload_n 0, 1) := by decide +kernel
theorem dX12_commitGap_15 : decode cX12_commitGap 15 = .ok (.getfield 71, 3) := by decide +kernel
theorem dX12_commitGap_18 : decode cX12_commitGap 18 = .ok (.bipush 100, 2) := by decide +kernel
theorem dX12_commitGap_20 : decode cX12_commitGap 20 = .ok (.iload_n 1, 1) := by decide +kernel
theorem dX12_commitGap_21 : decode cX12_commitGap 21 = .ok (.imul, 1) := by decide +kernel
theorem dX12_commitGap_22 : decode cX12_commitGap 22 = .ok (.iload_n 2, 1) := by decide +kernel
theorem dX12_commitGap_23 : decode cX12_commitGap 23 = .ok (.iadd, 1) := by decide +kernel
theorem dX12_commitGap_24 : decode cX12_commitGap 24 = .ok (.iconst 1, 1) := by decide +kernel
theorem dX12_commitGap_25 : decode cX12_commitGap 25 = .ok (.isub, 1) := by decide +kernel
theorem dX12_commitGap_26 : decode cX12_commitGap 26 = .ok (.iconst 0, 1) := by decide +kernel
theorem dX12_commitGap_27 : decode cX12_commitGap 27 = .ok (.bastore, 1) := by decide +kernel
theorem dX12_commitGap_28 : decode cX12_commitGap 28 = .ok (.aload_n 0, 1) := by decide +kernel
theorem dX12_commitGap_29 : decode cX12_commitGap 29 = .ok (.iconst 4, 1) := by decide +kernel
theorem dX12_commitGap_30 : decode cX12_commitGap 30 = .ok (.iload_n 1, 1) := by decide +kernel
theorem dX12_commitGap_31 : decode cX12_commitGap 31 = .ok (.aload_n 0, 1) := by decide +kernel
theorem dX12_commitGap_32 : decode cX12_commitGap 32 = .ok (.iload_n 1, 1) := by decide +kernel
theorem dX12_commitGap_33 : decode cX12_commitGap 33 = .ok (.invokevirtual 324, 3) := by decide +kernel
theorem dX12_commitGap_36 : decode cX12_commitGap 36 = .ok (.iload_n 2, 1) := by decide +kernel
theorem dX12_commitGap_37 : decode cX12_commitGap 37 = .ok (.invokevirtual 300, 3) := by decide +kernel
theorem dX12_commitGap_40 : decode cX12_commitGap 40 = .ok (.goto 73, 3) := by decide +kernel
theorem dX12_commitGap_43 : decode cX12_commitGap 43 = .ok (.iload_n 2, 1) := by decide +kernel
theorem dX12_commitGap_44 : decode cX12_commitGap 44 = .ok (.aload_n 0, 1) := by decide +kernel
theorem dX12_commitGap_45 : decode cX12_commitGap 45 = .ok (.getfield 59, 3) := by decide +kernel
theorem dX12_commitGap_48 : decode cX12_commitGap 48 = .ok (.iload_n 1, 1) := by decide +kernel
theorem dX12_commitGap_49 : decode cX12_commitGap 49 = .ok (.iaload, 1) := by decide +kernel
theorem dX12_commitGap_50 : decode cX12_commitGap 50 = .ok (.iconst 1, 1) := by decide +kernel
theorem dX12_commitGap_51 : decode cX12_commitGap 51 = .ok (.iadd, 1) := by decide +kernel
theorem dX12_commitGap_52 : decode cX12_commitGap 52 = .ok (.if_icmp .ne 61, 3) := by decide +kernel
theorem dX12_commitGap_55 : decode cX12_commitGap 55 = .ok (.aload_n 0, 1) := by decide +kernel
theorem dX12_commitGap_56 : decode cX12_commitGap 56 = .ok (.getfield 59, 3) := by decide +kernel
theorem dX12_commitGap_59 : decode cX12_commitGap 59 = .ok (.iload_n 1, 1) := by decide +kernel
theorem dX12_commitGap_60 : decode cX12_commitGap 60 = .ok (.iaload, 1) := by decide +kernel
theorem dX12_commitGap_61 : decode cX12_commitGap 61 = .ok (.bipush 100, 2) := by decide +kernel
theorem dX12_commitGap_63 : decode cX12_commitGap 63 = .ok (.if_icmp .ge 50, 3) := by decide +kernel
theorem dX12_commitGap_66 : decode cX12_commitGap 66 = .ok (.aload_n 0, 1) := by decide +kernel
theorem dX12_commitGap_67 : decode cX12_commitGap 67 = .ok (.iload_n 1, 1) := by decide +kernel
theorem dX12_commitGap_68 : decode cX12_commitGap 68 = .ok (.iload_n 2, 1) := by decide +kernel
theorem dX12_commitGap_69 : decode cX12_commitGap 69 = .ok (.aload_n 0, 1) := by decide +kernel
theorem dX12_commitGap_70 : decode cX12_commitGap 70 = .ok (.getfield 62, 3) := by decide +kernel
theorem dX12_commitGap_73 : decode cX12_commitGap 73 = .ok (.iload_n 1, 1) := by decide +kernel
theorem dX12_commitGap_74 : decode cX12_commitGap 74 = .ok (.iaload, 1) := by decide +kernel
theorem dX12_commitGap_75 : decode cX12_commitGap 75 = .ok (.isub, 1) := by decide +kernel
theorem dX12_commitGap_76 : decode cX12_commitGap 76 = .ok (.invokevirtual 337, 3) := by decide +kernel
theorem dX12_commitGap_79 : decode cX12_commitGap 79 = .ok (.istore_n 3, 1) := by decide +kernel
theorem dX12_commitGap_80 : decode cX12_commitGap 80 = .ok (.iload_n 3, 1) := by decide +kernel
theorem dX12_commitGap_81 : decode cX12_commitGap 81 = .ok (.iconst (-1), 1) := by decide +kernel
theorem dX12_commitGap_82 : decode cX12_commitGap 82 = .ok (.if_icmp .eq 9, 3) := by decide +kernel
theorem dX12_commitGap_85 : decode cX12_commitGap 85 = .ok (.aload_n 0, 1) := by decide +kernel
theorem dX12_commitGap_86 : decode cX12_commitGap 86 = .ok (.iload_n 1, 1) := by decide +kernel
theorem dX12_commitGap_87 : decode cX12_commitGap 87 = .ok (.iload_n 3, 1) := by decide +kernel
theorem dX12_commitGap_88 : decode cX12_commitGap 88 = .ok (.invokevirtual 340, 3) := by decide +kernel
theorem dX12_commitGap_91 : decode cX12_commitGap 91 = .ok (.aload_n 0, 1) := by decide +kernel
theorem dX12_commitGap_92 : decode cX12_commitGap 92 = .ok (.iload_n 1, 1) := by decide +kernel
theorem dX12_commitGap_93 : decode cX12_commitGap 93 = .ok (.invokevirtual 349, 3) := by decide +kernel
theorem dX12_commitGap_96 : decode cX12_commitGap 96 = .ok (.aload_n 0, 1) := by decide +kernel
theorem dX12_commitGap_97 : decode cX12_commitGap 97 = .ok (.iconst 4, 1) := by decide +kernel
theorem dX12_commitGap_98 : decode cX12_commitGap 98 = .ok (.iload_n 1, 1) := by decide +kernel
theorem dX12_commitGap_99 : decode cX12_commitGap 99 = .ok (.aload_n 0, 1) := by decide +kernel
theorem dX12_commitGap_100 : decode cX12_commitGap 100 = .ok (.iload_n 1, 1) := by decide +kernel
theorem dX12_commitGap_101 : decode cX12_commitGap 101 = .ok (.invokevirtual 324, 3) := by decide +kernel
theorem dX12_commitGap_104 : decode cX12_commitGap 104 = .ok (.iload_n 2, 1) := by decide +kernel
theorem dX12_commitGap_105 : decode cX12_commitGap 105 = .ok (.invokevirtual 300, 3) := by decide +kernel
theorem dX12_commitGap_108 : decode cX12_commitGap 108 = .ok (.aload_n 0, 1) := by decide +kernel
theorem dX12_commitGap_109 : decode cX12_commitGap 109 = .ok (.iload_n 1, 1) := by decide +kernel
theorem dX12_commitGap_110 : decode cX12_commitGap 110 = .ok (.invokevirtual 418, 3) := by decide +kernel
theorem dX12_commitGap_113 : decode cX12_commitGap 113 = .ok (.return_, 1) := by decide +kernel
abbrev rm_X12_commitGap : Room := { frames := 5, cells := 0, slots := 0, locals := 113 }
def b_X12_commitGap_91 (a0 : Nat)  (Q : Sto → Prop) (p1 : Int32) (p2 : Int32) (σ : Sto) : Prop := (sK σ a0 = 12 ∧ (wp_X12_addNothing a0 p1 σ (fun (σ2 : Sto) => (sK σ2 a0 = 12 ∧ (wp_X12_leader a0 p1 σ2 (fun (x5 : Int32) (σ4 : Sto) => (sK σ4 a0 = 12 ∧ (wp_X12_tell a0 (4 : Int32) p1 x5 p2 σ4 (fun (σ7 : Sto) => (sK σ7 a0 = 12 ∧ (wp_X12_takes a0 p1 σ7 (fun (σ9 : Sto) => Q σ9))))))))))))
set_option maxHeartbeats 4000000 in
set_option maxRecDepth 100000 in
theorem t_X12_commitGap_91 {p : Program} {l : Launch} {e : Env} {s : State} {m : MethodId} {args : Array Value} {below : List Frame} {meth : Method} {c : Code} {D : va_G} {cy : Nat → ClassId} {A : Nat → Prop} {a0 : Nat} {Q : Sto → Prop} (C : Cx p s m args meth c D cy A cX12_commitGap 4 RX12) (hr : meth.sig.returnType = none) (hnm : meth.name = yX12_commitGap.name) (p1 : Int32) (p2 : Int32) (σ : Sto) (h : b_X12_commitGap_91 a0  Q p1 p2 σ) (ls : Array Slot) (hl : lv_has ls 4 [(0, .ref a0), (1, .int p1), (2, .int p2)]) : Xw p l e rm_X12_commitGap s m args below meth c D cy A σ 0 0 (MQ below (Qst D cy A (PsV Q)) args s rm_X12_commitGap.cells rm_X12_commitGap.slots A) (F0 m 91 ls []) := by
  unfold b_X12_commitGap_91 at h
  refine x_aload_n C dX12_commitGap_91 rfl (lv_at hl 0 rfl) ?_
  refine x_iload_n C dX12_commitGap_92 rfl (lv_at hl 1 rfl) ?_
  obtain ⟨g1, h⟩ := h
  refine x_callV (rm := rm_X12_addNothing) (rest := []) (As := [.int p1]) C cy_RX12_349 g1 (by decide) (by decide) rfl rfl (Nat.le_of_ble_eq_true rfl) hl.1 dX12_commitGap_93 (c_X12_addNothing l D cy a0 p1 σ _ h) (ks_v (fun σ2 h => ?_))
  refine x_aload_n C dX12_commitGap_96 rfl (lv_at hl 0 rfl) ?_
  refine x_iconst (v := 4) C dX12_commitGap_97 (by decide) ?_
  refine x_iload_n C dX12_commitGap_98 rfl (lv_at hl 1 rfl) ?_
  refine x_aload_n C dX12_commitGap_99 rfl (lv_at hl 0 rfl) ?_
  refine x_iload_n C dX12_commitGap_100 rfl (lv_at hl 1 rfl) ?_
  obtain ⟨g3, h⟩ := h
  refine x_callV (rm := rm_X12_leader) (rest := [.int p1, .int (4 : Int32), .ref a0]) (As := [.int p1]) C cy_RX12_324 g3 (by decide) (by decide) rfl rfl (Nat.le_of_ble_eq_true rfl) hl.1 dX12_commitGap_101 (c_X12_leader l D cy a0 p1 σ2 _ h) (ks_i (fun x5 σ4 h => ?_))
  refine x_iload_n C dX12_commitGap_104 rfl (lv_at hl 2 rfl) ?_
  obtain ⟨g6, h⟩ := h
  refine x_callV (rm := rm_X12_tell) (rest := []) (As := [.int (4 : Int32), .int p1, .int x5, .int p2]) C cy_RX12_300 g6 (by decide) (by decide) rfl rfl (Nat.le_of_ble_eq_true rfl) hl.1 dX12_commitGap_105 (c_X12_tell l D cy a0 (4 : Int32) p1 x5 p2 σ4 _ h) (ks_v (fun σ7 h => ?_))
  refine x_aload_n C dX12_commitGap_108 rfl (lv_at hl 0 rfl) ?_
  refine x_iload_n C dX12_commitGap_109 rfl (lv_at hl 1 rfl) ?_
  obtain ⟨g8, h⟩ := h
  refine x_callV (rm := rm_X12_takes) (rest := []) (As := [.int p1]) C cy_RX12_418 g8 (by decide) (by decide) rfl rfl (Nat.le_of_ble_eq_true rfl) hl.1 dX12_commitGap_110 (c_X12_takes l D cy a0 p1 σ7 _ h) (ks_v (fun σ9 h => ?_))
  exact x_vret C hr dX12_commitGap_113 ⟨rfl, h⟩
def wp_X12_commitGap (a0 : Nat) (p1 : Int32) (p2 : Int32) (σ : Sto) (Q : Sto → Prop) : Prop := (sK σ a0 = 12 ∧ (∃ b2 : Nat, sP σ a0 26 = some b2 ∧ (sK σ b2 = 14 ∧ (vp_in p1 (sN σ b2) ∧ (∀ x6 : Int32, x6 = sI σ b2 p1.toNatClampNeg → (wp_X12_in p2 (1 : Int32) x6 σ (fun (x9 : Int32) (σ8 : Sto) => ((x9 = 0 → (sK σ8 a0 = 12 ∧ (∃ b12 : Nat, sP σ8 a0 26 = some b12 ∧ (sK σ8 b12 = 14 ∧ (vp_in p1 (sN σ8 b12) ∧ (∀ x16 : Int32, x16 = sI σ8 b12 p1.toNatClampNeg → ((¬ p2 = (x16 + (1 : Int32)) → Q σ8) ∧ (p2 = (x16 + (1 : Int32)) → (vp_in p1 (sN σ8 b12) ∧ (∀ x20 : Int32, x20 = sI σ8 b12 p1.toNatClampNeg → (((100 : Int32) ≤ x20 → Q σ8) ∧ (¬ (100 : Int32) ≤ x20 → (∃ b23 : Nat, sP σ8 a0 27 = some b23 ∧ (sK σ8 b23 = 14 ∧ (vp_in p1 (sN σ8 b23) ∧ (∀ x27 : Int32, x27 = sI σ8 b23 p1.toNatClampNeg → (wp_X12_heldAt a0 p1 (p2 - x27) σ8 (fun (x30 : Int32) (σ29 : Sto) => ((x30 = (-1 : Int32) → b_X12_commitGap_91 a0  Q p1 p2 σ29) ∧ (¬ x30 = (-1 : Int32) → (sK σ29 a0 = 12 ∧ (wp_X12_drop a0 p1 x30 σ29 (fun (σ33 : Sto) => b_X12_commitGap_91 a0  Q p1 p2 σ33))))))))))))))))))))))) ∧ (¬ x9 = 0 → (sK σ8 a0 = 12 ∧ (∃ b35 : Nat, sP σ8 a0 30 = some b35 ∧ (sK σ8 b35 = 16 ∧ (vp_in ((((100 : Int32) * p1) + p2) - (1 : Int32)) (sN σ8 b35) ∧ (wp_X12_leader a0 p1 (stI σ8 b35 ((((100 : Int32) * p1) + p2) - (1 : Int32)).toNatClampNeg (vp_nar .boolean (0 : Int32))) (fun (x40 : Int32) (σ39 : Sto) => (sK σ39 a0 = 12 ∧ (wp_X12_tell a0 (4 : Int32) p1 x40 p2 σ39 (fun (σ42 : Sto) => Q σ42))))))))))))))))))
set_option maxHeartbeats 4000000 in
set_option maxRecDepth 100000 in
theorem c_X12_commitGap (l : Launch) (D : va_G) (cy : Nat → ClassId) (a0 : Nat) (p1 : Int32) (p2 : Int32) (σ : Sto) (Q : Sto → Prop) (h : wp_X12_commitGap a0 p1 p2 σ Q) : Mt l D cy yX12_commitGap cX12_commitGap 4 none rm_X12_commitGap [.ref a0, .int p1, .int p2] σ (PsV Q) := by
  unfold wp_X12_commitGap at h
  refine mt_of (by decide +kernel) (Nat.le_of_ble_eq_true rfl) ?_
  intro p e s m args below meth c A ls C hr hnm hl
  have C : Cx p s m args meth c D cy A cX12_commitGap 4 RX12 := C
  have hl : lv_has ls 4 [(0, .ref a0), (1, .int p1), (2, .int p2)] := hl
  refine x_iload_n C dX12_commitGap_0 rfl (lv_at hl 2 rfl) ?_
  refine x_iconst (v := 1) C dX12_commitGap_1 (by decide) ?_
  refine x_aload_n C dX12_commitGap_2 rfl (lv_at hl 0 rfl) ?_
  obtain ⟨g1, h⟩ := h
  refine x_getP C fl_RX12_59 g1 dX12_commitGap_3 ?_
  refine x_iload_n C dX12_commitGap_6 rfl (lv_at hl 1 rfl) ?_
  obtain ⟨b2, g3, h⟩ := h
  refine x_nn1 g3 ?_
  obtain ⟨g4, h⟩ := h
  obtain ⟨g5, h⟩ := h
  refine x_iald C g4 g5 dX12_commitGap_7 ?_
  refine x_topi (fun x6 e7 => ?_)
  have h := h x6 e7
  refine x_callS (rm := rm_X12_in) (rest := []) (As := [.int p2, .int (1 : Int32), .int x6]) C cs_RX12_270 (by decide) (by decide) rfl rfl (Nat.le_of_ble_eq_true rfl) hl.1 dX12_commitGap_8 (c_X12_in l D cy p2 (1 : Int32) x6 σ _ h) (ks_i (fun x9 σ8 h => ?_))
  refine x_if_eq (tgt := 43) C dX12_commitGap_11 (by decide) (fun c10 => ?_) (fun c10 => ?_)
  · have h := h.1 c10
    refine x_iload_n C dX12_commitGap_43 rfl (lv_at hl 2 rfl) ?_
    refine x_aload_n C dX12_commitGap_44 rfl (lv_at hl 0 rfl) ?_
    obtain ⟨g11, h⟩ := h
    refine x_getP C fl_RX12_59 g11 dX12_commitGap_45 ?_
    refine x_iload_n C dX12_commitGap_48 rfl (lv_at hl 1 rfl) ?_
    obtain ⟨b12, g13, h⟩ := h
    refine x_nn1 g13 ?_
    obtain ⟨g14, h⟩ := h
    obtain ⟨g15, h⟩ := h
    refine x_iald C g14 g15 dX12_commitGap_49 ?_
    refine x_topi (fun x16 e17 => ?_)
    have h := h x16 e17
    refine x_iconst (v := 1) C dX12_commitGap_50 (by decide) ?_
    refine x_iadd C dX12_commitGap_51 ?_
    refine x_icmp_ne (tgt := 113) C dX12_commitGap_52 (by decide) (fun c18 => ?_) (fun c18 => ?_)
    · have h := h.1 c18
      exact x_vret C hr dX12_commitGap_113 ⟨rfl, h⟩
    · have h := h.2 c18
      refine x_aload_n C dX12_commitGap_55 rfl (lv_at hl 0 rfl) ?_
      refine x_getP C fl_RX12_59 g11 dX12_commitGap_56 ?_
      refine x_iload_n C dX12_commitGap_59 rfl (lv_at hl 1 rfl) ?_
      refine x_nn1 g13 ?_
      obtain ⟨g19, h⟩ := h
      refine x_iald C g14 g19 dX12_commitGap_60 ?_
      refine x_topi (fun x20 e21 => ?_)
      have h := h x20 e21
      refine x_bipush (v := 100) C dX12_commitGap_61 (by decide) ?_
      refine x_icmp_ge (tgt := 113) C dX12_commitGap_63 (by decide) (fun c22 => ?_) (fun c22 => ?_)
      · have h := h.1 c22
        exact x_vret C hr dX12_commitGap_113 ⟨rfl, h⟩
      · have h := h.2 c22
        refine x_aload_n C dX12_commitGap_66 rfl (lv_at hl 0 rfl) ?_
        refine x_iload_n C dX12_commitGap_67 rfl (lv_at hl 1 rfl) ?_
        refine x_iload_n C dX12_commitGap_68 rfl (lv_at hl 2 rfl) ?_
        refine x_aload_n C dX12_commitGap_69 rfl (lv_at hl 0 rfl) ?_
        refine x_getP C fl_RX12_62 g11 dX12_commitGap_70 ?_
        refine x_iload_n C dX12_commitGap_73 rfl (lv_at hl 1 rfl) ?_
        obtain ⟨b23, g24, h⟩ := h
        refine x_nn1 g24 ?_
        obtain ⟨g25, h⟩ := h
        obtain ⟨g26, h⟩ := h
        refine x_iald C g25 g26 dX12_commitGap_74 ?_
        refine x_topi (fun x27 e28 => ?_)
        have h := h x27 e28
        refine x_isub C dX12_commitGap_75 ?_
        refine x_callV (rm := rm_X12_heldAt) (rest := []) (As := [.int p1, .int (p2 - x27)]) C cy_RX12_337 g11 (by decide) (by decide) rfl rfl (Nat.le_of_ble_eq_true rfl) hl.1 dX12_commitGap_76 (c_X12_heldAt l D cy a0 p1 (p2 - x27) σ8 _ h) (ks_i (fun x30 σ29 h => ?_))
        refine x_istore_n (i := 3) (lv' := [(3, .int x30), (0, .ref a0), (1, .int p1), (2, .int p2)]) C dX12_commitGap_79 rfl hl (by decide) (by first | rfl | simp [vrc, cat_i, cat_r, cat_l]) (fun ls hl => ?_)
        refine x_iload_n C dX12_commitGap_80 rfl (lv_at hl 0 rfl) ?_
        refine x_iconst (v := -1) C dX12_commitGap_81 (by decide) ?_
        refine x_icmp_eq (tgt := 91) C dX12_commitGap_82 (by decide) (fun c31 => ?_) (fun c31 => ?_)
        · have h := h.1 c31
          exact t_X12_commitGap_91 C hr hnm  p1 p2 _ h ls (lv_sub hl [1, 2, 3] rfl)
        · have h := h.2 c31
          refine x_aload_n C dX12_commitGap_85 rfl (lv_at hl 1 rfl) ?_
          refine x_iload_n C dX12_commitGap_86 rfl (lv_at hl 2 rfl) ?_
          refine x_iload_n C dX12_commitGap_87 rfl (lv_at hl 0 rfl) ?_
          obtain ⟨g32, h⟩ := h
          refine x_callV (rm := rm_X12_drop) (rest := []) (As := [.int p1, .int x30]) C cy_RX12_340 g32 (by decide) (by decide) rfl rfl (Nat.le_of_ble_eq_true rfl) hl.1 dX12_commitGap_88 (c_X12_drop l D cy a0 p1 x30 σ29 _ h) (ks_v (fun σ33 h => ?_))
          exact t_X12_commitGap_91 C hr hnm  p1 p2 _ h ls (lv_sub hl [1, 2, 3] rfl)
  · have h := h.2 c10
    refine x_aload_n C dX12_commitGap_14 rfl (lv_at hl 0 rfl) ?_
    obtain ⟨g34, h⟩ := h
    refine x_getP C fl_RX12_71 g34 dX12_commitGap_15 ?_
    refine x_bipush (v := 100) C dX12_commitGap_18 (by decide) ?_
    refine x_iload_n C dX12_commitGap_20 rfl (lv_at hl 1 rfl) ?_
    refine x_imul C dX12_commitGap_21 ?_
    refine x_iload_n C dX12_commitGap_22 rfl (lv_at hl 2 rfl) ?_
    refine x_iadd C dX12_commitGap_23 ?_
    refine x_iconst (v := 1) C dX12_commitGap_24 (by decide) ?_
    refine x_isub C dX12_commitGap_25 ?_
    refine x_iconst (v := 0) C dX12_commitGap_26 (by decide) ?_
    obtain ⟨b35, g36, h⟩ := h
    refine x_nn2 g36 ?_
    obtain ⟨g37, h⟩ := h
    obtain ⟨g38, h⟩ := h
    refine x_zast C g37 g38 dX12_commitGap_27 ?_
    refine x_aload_n C dX12_commitGap_28 rfl (lv_at hl 0 rfl) ?_
    refine x_iconst (v := 4) C dX12_commitGap_29 (by decide) ?_
    refine x_iload_n C dX12_commitGap_30 rfl (lv_at hl 1 rfl) ?_
    refine x_aload_n C dX12_commitGap_31 rfl (lv_at hl 0 rfl) ?_
    refine x_iload_n C dX12_commitGap_32 rfl (lv_at hl 1 rfl) ?_
    refine x_callV (rm := rm_X12_leader) (rest := [.int p1, .int (4 : Int32), .ref a0]) (As := [.int p1]) C cy_RX12_324 g34 (by decide) (by decide) rfl rfl (Nat.le_of_ble_eq_true rfl) hl.1 dX12_commitGap_33 (c_X12_leader l D cy a0 p1 (stI σ8 b35 ((((100 : Int32) * p1) + p2) - (1 : Int32)).toNatClampNeg (vp_nar .boolean (0 : Int32))) _ h) (ks_i (fun x40 σ39 h => ?_))
    refine x_iload_n C dX12_commitGap_36 rfl (lv_at hl 2 rfl) ?_
    obtain ⟨g41, h⟩ := h
    refine x_callV (rm := rm_X12_tell) (rest := []) (As := [.int (4 : Int32), .int p1, .int x40, .int p2]) C cy_RX12_300 g41 (by decide) (by decide) rfl rfl (Nat.le_of_ble_eq_true rfl) hl.1 dX12_commitGap_37 (c_X12_tell l D cy a0 (4 : Int32) p1 x40 p2 σ39 _ h) (ks_v (fun σ42 h => ?_))
    refine x_goto (tgt := 113) C dX12_commitGap_40 (by decide) ?_
    exact x_vret C hr dX12_commitGap_113 ⟨rfl, h⟩
theorem dX12_replyGap_0 : decode cX12_replyGap 0 = .ok (.aload_n 0, 1) := by decide +kernel
theorem dX12_replyGap_1 : decode cX12_replyGap 1 = .ok (.getfield 110, 3) := by decide +kernel
theorem dX12_replyGap_4 : decode cX12_replyGap 4 = .ok (.iload_n 1, 1) := by decide +kernel
theorem dX12_replyGap_5 : decode cX12_replyGap 5 = .ok (.dup2, 1) := by decide +kernel
theorem dX12_replyGap_6 : decode cX12_replyGap 6 = .ok (.iaload, 1) := by decide +kernel
theorem dX12_replyGap_7 : decode cX12_replyGap 7 = .ok (.iconst 1, 1) := by decide +kernel
theorem dX12_replyGap_8 : decode cX12_replyGap 8 = .ok (.aload_n 0, 1) := by decide +kernel
theorem dX12_replyGap_9 : decode cX12_replyGap 9 = .ok (.getfield 30, 3) := by decide +kernel
theorem dX12_replyGap_12 : decode cX12_replyGap 12 = .ok (.iconst 1, 1) := by decide +kernel
theorem dX12_replyGap_13 : decode cX12_replyGap 13 = .ok (.iaload, 1) := by decide +kernel
theorem dX12_replyGap_14 : decode cX12_replyGap 14 = .ok (.ishl, 1) := by decide +kernel
theorem dX12_replyGap_15 : decode cX12_replyGap 15 = .ok (.ior, 1) := by decide +kernel
theorem dX12_replyGap_16 : decode cX12_replyGap 16 = .ok (.iastore, 1) := by decide +kernel
theorem dX12_replyGap_17 : decode cX12_replyGap 17 = .ok (.aload_n 0, 1) := by decide +kernel
theorem dX12_replyGap_18 : decode cX12_replyGap 18 = .ok (.getfield 110, 3) := by decide +kernel
theorem dX12_replyGap_21 : decode cX12_replyGap 21 = .ok (.iload_n 1, 1) := by decide +kernel
theorem dX12_replyGap_22 : decode cX12_replyGap 22 = .ok (.iaload, 1) := by decide +kernel
theorem dX12_replyGap_23 : decode cX12_replyGap 23 = .ok (.invokestatic 381, 3) := by decide +kernel
theorem dX12_replyGap_26 : decode cX12_replyGap 26 = .ok (.aload_n 0, 1) := by decide +kernel
theorem dX12_replyGap_27 : decode cX12_replyGap 27 = .ok (.getfield 261, 3) := by decide +kernel
theorem dX12_replyGap_30 : decode cX12_replyGap 30 = .ok (.if_icmp .ge 4, 3) := by decide +kernel
theorem dX12_replyGap_33 : decode cX12_replyGap 33 = .ok (.return_, 1) := by decide +kernel
theorem dX12_replyGap_34 : decode cX12_replyGap 34 = .ok (.aload_n 0, 1) := by decide +kernel
theorem dX12_replyGap_35 : decode cX12_replyGap 35 = .ok (.getfield 50, 3) := by decide +kernel
theorem dX12_replyGap_38 : decode cX12_replyGap 38 = .ok (.iload_n 1, 1) := by decide +kernel
theorem dX12_replyGap_39 : decode cX12_replyGap 39 = .ok (.iconst 0, 1) := by decide +kernel
theorem dX12_replyGap_40 : decode cX12_replyGap 40 = .ok (.iastore, 1) := by decide +kernel
theorem dX12_replyGap_41 : decode cX12_replyGap 41 = .ok (.aload_n 0, 1) := by decide +kernel
theorem dX12_replyGap_42 : decode cX12_replyGap 42 = .ok (.iload_n 1, 1) := by decide +kernel
theorem dX12_replyGap_43 : decode cX12_replyGap 43 = .ok (.invokevirtual 418, 3) := by decide +kernel
theorem dX12_replyGap_46 : decode cX12_replyGap 46 = .ok (.return_, 1) := by decide +kernel
abbrev rm_X12_replyGap : Room := { frames := 5, cells := 0, slots := 0, locals := 113 }
def wp_X12_replyGap (a0 : Nat) (p1 : Int32) (σ : Sto) (Q : Sto → Prop) : Prop := (sK σ a0 = 12 ∧ (∃ b2 : Nat, sP σ a0 43 = some b2 ∧ (sK σ b2 = 14 ∧ (vp_in p1 (sN σ b2) ∧ (∀ x6 : Int32, x6 = sI σ b2 p1.toNatClampNeg → (∃ b8 : Nat, sP σ a0 15 = some b8 ∧ (sK σ b8 = 14 ∧ (vp_in (1 : Int32) (sN σ b8) ∧ (∀ x12 : Int32, x12 = sI σ b8 (1 : Int32).toNatClampNeg → (∀ x14 : Int32, x14 = x6 ||| ((1 : Int32) <<< (x12 &&& 31)) → (vp_in p1 (sN σ b2) ∧ (vp_in p1 (sN σ b2) ∧ (∀ x18 : Int32, x18 = sI (stI σ b2 p1.toNatClampNeg x14) b2 p1.toNatClampNeg → (wp_X12_bits x18 (stI σ b2 p1.toNatClampNeg x14) (fun (x21 : Int32) (σ20 : Sto) => (sK σ20 a0 = 12 ∧ (∀ x23 : Int32, x23 = sI σ20 a0 2 → ((x23 ≤ x21 → (∃ b26 : Nat, sP σ20 a0 23 = some b26 ∧ (sK σ20 b26 = 14 ∧ (vp_in p1 (sN σ20 b26) ∧ (wp_X12_takes a0 p1 (stI σ20 b26 p1.toNatClampNeg (0 : Int32)) (fun (σ30 : Sto) => Q σ30)))))) ∧ (¬ x23 ≤ x21 → Q σ20)))))))))))))))))))
set_option maxHeartbeats 4000000 in
set_option maxRecDepth 100000 in
theorem c_X12_replyGap (l : Launch) (D : va_G) (cy : Nat → ClassId) (a0 : Nat) (p1 : Int32) (σ : Sto) (Q : Sto → Prop) (h : wp_X12_replyGap a0 p1 σ Q) : Mt l D cy yX12_replyGap cX12_replyGap 2 none rm_X12_replyGap [.ref a0, .int p1] σ (PsV Q) := by
  unfold wp_X12_replyGap at h
  refine mt_of (by decide +kernel) (Nat.le_of_ble_eq_true rfl) ?_
  intro p e s m args below meth c A ls C hr hnm hl
  have C : Cx p s m args meth c D cy A cX12_replyGap 2 RX12 := C
  have hl : lv_has ls 2 [(0, .ref a0), (1, .int p1)] := hl
  refine x_aload_n C dX12_replyGap_0 rfl (lv_at hl 0 rfl) ?_
  obtain ⟨g1, h⟩ := h
  refine x_getP C fl_RX12_110 g1 dX12_replyGap_1 ?_
  refine x_iload_n C dX12_replyGap_4 rfl (lv_at hl 1 rfl) ?_
  refine x_dup2 C dX12_replyGap_5 (rfl) (vrc _) ?_
  obtain ⟨b2, g3, h⟩ := h
  refine x_nn1 g3 ?_
  obtain ⟨g4, h⟩ := h
  obtain ⟨g5, h⟩ := h
  refine x_iald C g4 g5 dX12_replyGap_6 ?_
  refine x_topi (fun x6 e7 => ?_)
  have h := h x6 e7
  refine x_iconst (v := 1) C dX12_replyGap_7 (by decide) ?_
  refine x_aload_n C dX12_replyGap_8 rfl (lv_at hl 0 rfl) ?_
  refine x_getP C fl_RX12_30 g1 dX12_replyGap_9 ?_
  refine x_iconst (v := 1) C dX12_replyGap_12 (by decide) ?_
  obtain ⟨b8, g9, h⟩ := h
  refine x_nn1 g9 ?_
  obtain ⟨g10, h⟩ := h
  obtain ⟨g11, h⟩ := h
  refine x_iald C g10 g11 dX12_replyGap_13 ?_
  refine x_topi (fun x12 e13 => ?_)
  have h := h x12 e13
  refine x_ishl C dX12_replyGap_14 ?_
  refine x_ior C dX12_replyGap_15 ?_
  refine x_topi (fun x14 e15 => ?_)
  have h := h x14 e15
  refine x_nn2 g3 ?_
  obtain ⟨g16, h⟩ := h
  refine x_iast C g4 g16 dX12_replyGap_16 ?_
  refine x_aload_n C dX12_replyGap_17 rfl (lv_at hl 0 rfl) ?_
  refine x_getP C fl_RX12_110 g1 dX12_replyGap_18 ?_
  refine x_iload_n C dX12_replyGap_21 rfl (lv_at hl 1 rfl) ?_
  refine x_nn1 g3 ?_
  obtain ⟨g17, h⟩ := h
  refine x_iald C g4 g17 dX12_replyGap_22 ?_
  refine x_topi (fun x18 e19 => ?_)
  have h := h x18 e19
  refine x_callS (rm := rm_X12_bits) (rest := []) (As := [.int x18]) C cs_RX12_381 (by decide) (by decide) rfl rfl (Nat.le_of_ble_eq_true rfl) hl.1 dX12_replyGap_23 (c_X12_bits l D cy x18 (stI σ b2 p1.toNatClampNeg x14) _ h) (ks_i (fun x21 σ20 h => ?_))
  refine x_aload_n C dX12_replyGap_26 rfl (lv_at hl 0 rfl) ?_
  obtain ⟨g22, h⟩ := h
  refine x_getI C fl_RX12_261 g22 dX12_replyGap_27 ?_
  refine x_topi (fun x23 e24 => ?_)
  have h := h x23 e24
  refine x_icmp_ge (tgt := 34) C dX12_replyGap_30 (by decide) (fun c25 => ?_) (fun c25 => ?_)
  · have h := h.1 c25
    refine x_aload_n C dX12_replyGap_34 rfl (lv_at hl 0 rfl) ?_
    refine x_getP C fl_RX12_50 g22 dX12_replyGap_35 ?_
    refine x_iload_n C dX12_replyGap_38 rfl (lv_at hl 1 rfl) ?_
    refine x_iconst (v := 0) C dX12_replyGap_39 (by decide) ?_
    obtain ⟨b26, g27, h⟩ := h
    refine x_nn2 g27 ?_
    obtain ⟨g28, h⟩ := h
    obtain ⟨g29, h⟩ := h
    refine x_iast C g28 g29 dX12_replyGap_40 ?_
    refine x_aload_n C dX12_replyGap_41 rfl (lv_at hl 0 rfl) ?_
    refine x_iload_n C dX12_replyGap_42 rfl (lv_at hl 1 rfl) ?_
    refine x_callV (rm := rm_X12_takes) (rest := []) (As := [.int p1]) C cy_RX12_418 g22 (by decide) (by decide) rfl rfl (Nat.le_of_ble_eq_true rfl) hl.1 dX12_replyGap_43 (c_X12_takes l D cy a0 p1 (stI σ20 b26 p1.toNatClampNeg (0 : Int32)) _ h) (ks_v (fun σ30 h => ?_))
    exact x_vret C hr dX12_replyGap_46 ⟨rfl, h⟩
  · have h := h.2 c25
    exact x_vret C hr dX12_replyGap_33 ⟨rfl, h⟩
theorem dX12_replySync_0 : decode cX12_replySync 0 = .ok (.aload_n 0, 1) := by decide +kernel
theorem dX12_replySync_1 : decode cX12_replySync 1 = .ok (.getfield 113, 3) := by decide +kernel
theorem dX12_replySync_4 : decode cX12_replySync 4 = .ok (.iload_n 1, 1) := by decide +kernel
theorem dX12_replySync_5 : decode cX12_replySync 5 = .ok (.iaload, 1) := by decide +kernel
theorem dX12_replySync_6 : decode cX12_replySync 6 = .ok (.iload_n 2, 1) := by decide +kernel
theorem dX12_replySync_7 : decode cX12_replySync 7 = .ok (.if_icmp .eq 10, 3) := by decide +kernel
theorem dX12_replySync_10 : decode cX12_replySync 10 = .ok (.aload_n 0, 1) := by decide +kernel
theorem dX12_replySync_11 : decode cX12_replySync 11 = .ok (.getfield 116, 3) := by decide +kernel
theorem dX12_replySync_14 : decode cX12_replySync 14 = .ok (.iload_n 1, 1) := by decide +kernel
theorem dX12_replySync_15 : decode cX12_replySync 15 = .ok (.iconst 0, 1) := by decide +kernel
theorem dX12_replySync_16 : decode cX12_replySync 16 = .ok (.iastore, 1) := by decide +kernel
theorem dX12_replySync_17 : decode cX12_replySync 17 = .ok (.aload_n 0, 1) := by decide +kernel
theorem dX12_replySync_18 : decode cX12_replySync 18 = .ok (.getfield 113, 3) := by decide +kernel
theorem dX12_replySync_21 : decode cX12_replySync 21 = .ok (.iload_n 1, 1) := by decide +kernel
theorem dX12_replySync_22 : decode cX12_replySync 22 = .ok (.iload_n 2, 1) := by decide +kernel
theorem dX12_replySync_23 : decode cX12_replySync 23 = .ok (.iastore, 1) := by decide +kernel
theorem dX12_replySync_24 : decode cX12_replySync 24 = .ok (.aload_n 0, 1) := by decide +kernel
theorem dX12_replySync_25 : decode cX12_replySync 25 = .ok (.getfield 116, 3) := by decide +kernel
theorem dX12_replySync_28 : decode cX12_replySync 28 = .ok (.iload_n 1, 1) := by decide +kernel
theorem dX12_replySync_29 : decode cX12_replySync 29 = .ok (.dup2, 1) := by decide +kernel
theorem dX12_replySync_30 : decode cX12_replySync 30 = .ok (.iaload, 1) := by decide +kernel
theorem dX12_replySync_31 : decode cX12_replySync 31 = .ok (.iconst 1, 1) := by decide +kernel
theorem dX12_replySync_32 : decode cX12_replySync 32 = .ok (.aload_n 0, 1) := by decide +kernel
theorem dX12_replySync_33 : decode cX12_replySync 33 = .ok (.getfield 30, 3) := by decide +kernel
theorem dX12_replySync_36 : decode cX12_replySync 36 = .ok (.iconst 1, 1) := by decide +kernel
theorem dX12_replySync_37 : decode cX12_replySync 37 = .ok (.iaload, 1) := by decide +kernel
theorem dX12_replySync_38 : decode cX12_replySync 38 = .ok (.ishl, 1) := by decide +kernel
theorem dX12_replySync_39 : decode cX12_replySync 39 = .ok (.ior, 1) := by decide +kernel
theorem dX12_replySync_40 : decode cX12_replySync 40 = .ok (.iastore, 1) := by decide +kernel
theorem dX12_replySync_41 : decode cX12_replySync 41 = .ok (.aload_n 0, 1) := by decide +kernel
theorem dX12_replySync_42 : decode cX12_replySync 42 = .ok (.getfield 116, 3) := by decide +kernel
theorem dX12_replySync_45 : decode cX12_replySync 45 = .ok (.iload_n 1, 1) := by decide +kernel
theorem dX12_replySync_46 : decode cX12_replySync 46 = .ok (.iaload, 1) := by decide +kernel
theorem dX12_replySync_47 : decode cX12_replySync 47 = .ok (.invokestatic 381, 3) := by decide +kernel
theorem dX12_replySync_50 : decode cX12_replySync 50 = .ok (.aload_n 0, 1) := by decide +kernel
theorem dX12_replySync_51 : decode cX12_replySync 51 = .ok (.getfield 261, 3) := by decide +kernel
theorem dX12_replySync_54 : decode cX12_replySync 54 = .ok (.if_icmp .ge 4, 3) := by decide +kernel
theorem dX12_replySync_57 : decode cX12_replySync 57 = .ok (.return_, 1) := by decide +kernel
theorem dX12_replySync_58 : decode cX12_replySync 58 = .ok (.aload_n 0, 1) := by decide +kernel
theorem dX12_replySync_59 : decode cX12_replySync 59 = .ok (.getfield 65, 3) := by decide +kernel
theorem dX12_replySync_62 : decode cX12_replySync 62 = .ok (.iload_n 1, 1) := by decide +kernel
theorem dX12_replySync_63 : decode cX12_replySync 63 = .ok (.iload_n 2, 1) := by decide +kernel
theorem dX12_replySync_64 : decode cX12_replySync 64 = .ok (.iastore, 1) := by decide +kernel
theorem dX12_replySync_65 : decode cX12_replySync 65 = .ok (.aload_n 0, 1) := by decide +kernel
theorem dX12_replySync_66 : decode cX12_replySync 66 = .ok (.bipush 7, 2) := by decide +kernel
theorem dX12_replySync_68 : decode cX12_replySync 68 = .ok (.iload_n 1, 1) := by decide +kernel
theorem dX12_replySync_69 : decode cX12_replySync 69 = .ok (.iload_n 2, 1) := by decide +kernel
theorem dX12_replySync_70 : decode cX12_replySync 70 = .ok (.invokevirtual 352, 3) := by decide +kernel
theorem dX12_replySync_73 : decode cX12_replySync 73 = .ok (.return_, 1) := by decide +kernel
abbrev rm_X12_replySync : Room := { frames := 4, cells := 0, slots := 0, locals := 90 }
def b_X12_replySync_17 (a0 : Nat)  (Q : Sto → Prop) (p1 : Int32) (p2 : Int32) (σ : Sto) : Prop := (sK σ a0 = 12 ∧ (∃ b2 : Nat, sP σ a0 44 = some b2 ∧ (sK σ b2 = 14 ∧ (vp_in p1 (sN σ b2) ∧ (∃ b6 : Nat, sP σ a0 45 = some b6 ∧ (sK σ b6 = 14 ∧ (vp_in p1 (sN σ b6) ∧ (∀ x10 : Int32, x10 = sI (stI σ b2 p1.toNatClampNeg p2) b6 p1.toNatClampNeg → (∃ b12 : Nat, sP σ a0 15 = some b12 ∧ (sK σ b12 = 14 ∧ (vp_in (1 : Int32) (sN σ b12) ∧ (∀ x16 : Int32, x16 = sI (stI σ b2 p1.toNatClampNeg p2) b12 (1 : Int32).toNatClampNeg → (∀ x18 : Int32, x18 = x10 ||| ((1 : Int32) <<< (x16 &&& 31)) → (vp_in p1 (sN σ b6) ∧ (vp_in p1 (sN σ b6) ∧ (∀ x22 : Int32, x22 = sI (stI (stI σ b2 p1.toNatClampNeg p2) b6 p1.toNatClampNeg x18) b6 p1.toNatClampNeg → (wp_X12_bits x22 (stI (stI σ b2 p1.toNatClampNeg p2) b6 p1.toNatClampNeg x18) (fun (x25 : Int32) (σ24 : Sto) => (sK σ24 a0 = 12 ∧ (∀ x27 : Int32, x27 = sI σ24 a0 2 → ((x27 ≤ x25 → (∃ b30 : Nat, sP σ24 a0 28 = some b30 ∧ (sK σ24 b30 = 14 ∧ (vp_in p1 (sN σ24 b30) ∧ (wp_X12_tellOthers a0 (7 : Int32) p1 p2 (stI σ24 b30 p1.toNatClampNeg p2) (fun (σ34 : Sto) => Q σ34)))))) ∧ (¬ x27 ≤ x25 → Q σ24))))))))))))))))))))))
set_option maxHeartbeats 4000000 in
set_option maxRecDepth 100000 in
theorem t_X12_replySync_17 {p : Program} {l : Launch} {e : Env} {s : State} {m : MethodId} {args : Array Value} {below : List Frame} {meth : Method} {c : Code} {D : va_G} {cy : Nat → ClassId} {A : Nat → Prop} {a0 : Nat} {Q : Sto → Prop} (C : Cx p s m args meth c D cy A cX12_replySync 3 RX12) (hr : meth.sig.returnType = none) (hnm : meth.name = yX12_replySync.name) (p1 : Int32) (p2 : Int32) (σ : Sto) (h : b_X12_replySync_17 a0  Q p1 p2 σ) (ls : Array Slot) (hl : lv_has ls 3 [(0, .ref a0), (1, .int p1), (2, .int p2)]) : Xw p l e rm_X12_replySync s m args below meth c D cy A σ 0 0 (MQ below (Qst D cy A (PsV Q)) args s rm_X12_replySync.cells rm_X12_replySync.slots A) (F0 m 17 ls []) := by
  unfold b_X12_replySync_17 at h
  refine x_aload_n C dX12_replySync_17 rfl (lv_at hl 0 rfl) ?_
  obtain ⟨g1, h⟩ := h
  refine x_getP C fl_RX12_113 g1 dX12_replySync_18 ?_
  refine x_iload_n C dX12_replySync_21 rfl (lv_at hl 1 rfl) ?_
  refine x_iload_n C dX12_replySync_22 rfl (lv_at hl 2 rfl) ?_
  obtain ⟨b2, g3, h⟩ := h
  refine x_nn2 g3 ?_
  obtain ⟨g4, h⟩ := h
  obtain ⟨g5, h⟩ := h
  refine x_iast C g4 g5 dX12_replySync_23 ?_
  refine x_aload_n C dX12_replySync_24 rfl (lv_at hl 0 rfl) ?_
  refine x_getP C fl_RX12_116 g1 dX12_replySync_25 ?_
  refine x_iload_n C dX12_replySync_28 rfl (lv_at hl 1 rfl) ?_
  refine x_dup2 C dX12_replySync_29 (rfl) (vrc _) ?_
  obtain ⟨b6, g7, h⟩ := h
  refine x_nn1 g7 ?_
  obtain ⟨g8, h⟩ := h
  obtain ⟨g9, h⟩ := h
  refine x_iald C g8 g9 dX12_replySync_30 ?_
  refine x_topi (fun x10 e11 => ?_)
  have h := h x10 e11
  refine x_iconst (v := 1) C dX12_replySync_31 (by decide) ?_
  refine x_aload_n C dX12_replySync_32 rfl (lv_at hl 0 rfl) ?_
  refine x_getP C fl_RX12_30 g1 dX12_replySync_33 ?_
  refine x_iconst (v := 1) C dX12_replySync_36 (by decide) ?_
  obtain ⟨b12, g13, h⟩ := h
  refine x_nn1 g13 ?_
  obtain ⟨g14, h⟩ := h
  obtain ⟨g15, h⟩ := h
  refine x_iald C g14 g15 dX12_replySync_37 ?_
  refine x_topi (fun x16 e17 => ?_)
  have h := h x16 e17
  refine x_ishl C dX12_replySync_38 ?_
  refine x_ior C dX12_replySync_39 ?_
  refine x_topi (fun x18 e19 => ?_)
  have h := h x18 e19
  refine x_nn2 g7 ?_
  obtain ⟨g20, h⟩ := h
  refine x_iast C g8 g20 dX12_replySync_40 ?_
  refine x_aload_n C dX12_replySync_41 rfl (lv_at hl 0 rfl) ?_
  refine x_getP C fl_RX12_116 g1 dX12_replySync_42 ?_
  refine x_iload_n C dX12_replySync_45 rfl (lv_at hl 1 rfl) ?_
  refine x_nn1 g7 ?_
  obtain ⟨g21, h⟩ := h
  refine x_iald C g8 g21 dX12_replySync_46 ?_
  refine x_topi (fun x22 e23 => ?_)
  have h := h x22 e23
  refine x_callS (rm := rm_X12_bits) (rest := []) (As := [.int x22]) C cs_RX12_381 (by decide) (by decide) rfl rfl (Nat.le_of_ble_eq_true rfl) hl.1 dX12_replySync_47 (c_X12_bits l D cy x22 (stI (stI σ b2 p1.toNatClampNeg p2) b6 p1.toNatClampNeg x18) _ h) (ks_i (fun x25 σ24 h => ?_))
  refine x_aload_n C dX12_replySync_50 rfl (lv_at hl 0 rfl) ?_
  obtain ⟨g26, h⟩ := h
  refine x_getI C fl_RX12_261 g26 dX12_replySync_51 ?_
  refine x_topi (fun x27 e28 => ?_)
  have h := h x27 e28
  refine x_icmp_ge (tgt := 58) C dX12_replySync_54 (by decide) (fun c29 => ?_) (fun c29 => ?_)
  · have h := h.1 c29
    refine x_aload_n C dX12_replySync_58 rfl (lv_at hl 0 rfl) ?_
    refine x_getP C fl_RX12_65 g26 dX12_replySync_59 ?_
    refine x_iload_n C dX12_replySync_62 rfl (lv_at hl 1 rfl) ?_
    refine x_iload_n C dX12_replySync_63 rfl (lv_at hl 2 rfl) ?_
    obtain ⟨b30, g31, h⟩ := h
    refine x_nn2 g31 ?_
    obtain ⟨g32, h⟩ := h
    obtain ⟨g33, h⟩ := h
    refine x_iast C g32 g33 dX12_replySync_64 ?_
    refine x_aload_n C dX12_replySync_65 rfl (lv_at hl 0 rfl) ?_
    refine x_bipush (v := 7) C dX12_replySync_66 (by decide) ?_
    refine x_iload_n C dX12_replySync_68 rfl (lv_at hl 1 rfl) ?_
    refine x_iload_n C dX12_replySync_69 rfl (lv_at hl 2 rfl) ?_
    refine x_callV (rm := rm_X12_tellOthers) (rest := []) (As := [.int (7 : Int32), .int p1, .int p2]) C cy_RX12_352 g26 (by decide) (by decide) rfl rfl (Nat.le_of_ble_eq_true rfl) hl.1 dX12_replySync_70 (c_X12_tellOthers l D cy a0 (7 : Int32) p1 p2 (stI σ24 b30 p1.toNatClampNeg p2) _ h) (ks_v (fun σ34 h => ?_))
    exact x_vret C hr dX12_replySync_73 ⟨rfl, h⟩
  · have h := h.2 c29
    exact x_vret C hr dX12_replySync_57 ⟨rfl, h⟩
def wp_X12_replySync (a0 : Nat) (p1 : Int32) (p2 : Int32) (σ : Sto) (Q : Sto → Prop) : Prop := (sK σ a0 = 12 ∧ (∃ b2 : Nat, sP σ a0 44 = some b2 ∧ (sK σ b2 = 14 ∧ (vp_in p1 (sN σ b2) ∧ (∀ x6 : Int32, x6 = sI σ b2 p1.toNatClampNeg → ((x6 = p2 → b_X12_replySync_17 a0  Q p1 p2 σ) ∧ (¬ x6 = p2 → (∃ b9 : Nat, sP σ a0 45 = some b9 ∧ (sK σ b9 = 14 ∧ (vp_in p1 (sN σ b9) ∧ b_X12_replySync_17 a0  Q p1 p2 (stI σ b9 p1.toNatClampNeg (0 : Int32))))))))))))
set_option maxHeartbeats 4000000 in
set_option maxRecDepth 100000 in
theorem c_X12_replySync (l : Launch) (D : va_G) (cy : Nat → ClassId) (a0 : Nat) (p1 : Int32) (p2 : Int32) (σ : Sto) (Q : Sto → Prop) (h : wp_X12_replySync a0 p1 p2 σ Q) : Mt l D cy yX12_replySync cX12_replySync 3 none rm_X12_replySync [.ref a0, .int p1, .int p2] σ (PsV Q) := by
  unfold wp_X12_replySync at h
  refine mt_of (by decide +kernel) (Nat.le_of_ble_eq_true rfl) ?_
  intro p e s m args below meth c A ls C hr hnm hl
  have C : Cx p s m args meth c D cy A cX12_replySync 3 RX12 := C
  have hl : lv_has ls 3 [(0, .ref a0), (1, .int p1), (2, .int p2)] := hl
  refine x_aload_n C dX12_replySync_0 rfl (lv_at hl 0 rfl) ?_
  obtain ⟨g1, h⟩ := h
  refine x_getP C fl_RX12_113 g1 dX12_replySync_1 ?_
  refine x_iload_n C dX12_replySync_4 rfl (lv_at hl 1 rfl) ?_
  obtain ⟨b2, g3, h⟩ := h
  refine x_nn1 g3 ?_
  obtain ⟨g4, h⟩ := h
  obtain ⟨g5, h⟩ := h
  refine x_iald C g4 g5 dX12_replySync_5 ?_
  refine x_topi (fun x6 e7 => ?_)
  have h := h x6 e7
  refine x_iload_n C dX12_replySync_6 rfl (lv_at hl 2 rfl) ?_
  refine x_icmp_eq (tgt := 17) C dX12_replySync_7 (by decide) (fun c8 => ?_) (fun c8 => ?_)
  · have h := h.1 c8
    exact t_X12_replySync_17 C hr hnm  p1 p2 _ h ls (lv_sub hl [0, 1, 2] rfl)
  · have h := h.2 c8
    refine x_aload_n C dX12_replySync_10 rfl (lv_at hl 0 rfl) ?_
    refine x_getP C fl_RX12_116 g1 dX12_replySync_11 ?_
    refine x_iload_n C dX12_replySync_14 rfl (lv_at hl 1 rfl) ?_
    refine x_iconst (v := 0) C dX12_replySync_15 (by decide) ?_
    obtain ⟨b9, g10, h⟩ := h
    refine x_nn2 g10 ?_
    obtain ⟨g11, h⟩ := h
    obtain ⟨g12, h⟩ := h
    refine x_iast C g11 g12 dX12_replySync_16 ?_
    exact t_X12_replySync_17 C hr hnm  p1 p2 _ h ls (lv_sub hl [0, 1, 2] rfl)
theorem dX12_getsInView_0 : decode cX12_getsInView 0 = .ok (.aload_n 0, 1) := by decide +kernel
theorem dX12_getsInView_1 : decode cX12_getsInView 1 = .ok (.getfield 30, 3) := by decide +kernel
theorem dX12_getsInView_4 : decode cX12_getsInView 4 = .ok (.iconst 5, 1) := by decide +kernel
theorem dX12_getsInView_5 : decode cX12_getsInView 5 = .ok (.iaload, 1) := by decide +kernel
theorem dX12_getsInView_6 : decode cX12_getsInView 6 = .ok (.istore_n 3, 1) := by decide +kernel
theorem dX12_getsInView_7 : decode cX12_getsInView 7 = .ok (.iload_n 2, 1) := by decide +kernel
theorem dX12_getsInView_8 : decode cX12_getsInView 8 = .ok (.tableswitch 287 1 6 #[40, 67, 111, 137, 173, 250], 40) := by decide +kernel
theorem dX12_getsInView_48 : decode cX12_getsInView 48 = .ok (.aload_n 0, 1) := by decide +kernel
theorem dX12_getsInView_49 : decode cX12_getsInView 49 = .ok (.iload_n 1, 1) := by decide +kernel
theorem dX12_getsInView_50 : decode cX12_getsInView 50 = .ok (.invokevirtual 327, 3) := by decide +kernel
theorem dX12_getsInView_53 : decode cX12_getsInView 53 = .ok (.ifCond .eq 287, 3) := by decide +kernel
theorem dX12_getsInView_56 : decode cX12_getsInView 56 = .ok (.aload_n 0, 1) := by decide +kernel
theorem dX12_getsInView_57 : decode cX12_getsInView 57 = .ok (.getfield 50, 3) := by decide +kernel
theorem dX12_getsInView_60 : decode cX12_getsInView 60 = .ok (.iload_n 1, 1) := by decide +kernel
theorem dX12_getsInView_61 : decode cX12_getsInView 61 = .ok (.iaload, 1) := by decide +kernel
theorem dX12_getsInView_62 : decode cX12_getsInView 62 = .ok (.iconst 2, 1) := by decide +kernel
theorem dX12_getsInView_63 : decode cX12_getsInView 63 = .ok (.if_icmp .eq 277, 3) := by decide +kernel
theorem dX12_getsInView_66 : decode cX12_getsInView 66 = .ok (.aload_n 0, 1) := by decide +kernel
theorem dX12_getsInView_67 : decode cX12_getsInView 67 = .ok (.iload_n 1, 1) := by decide +kernel
theorem dX12_getsInView_68 : decode cX12_getsInView 68 = .ok (.iload_n 3, 1) := by decide +kernel
theorem dX12_getsInView_69 : decode cX12_getsInView 69 = .ok (.invokevirtual 430, 3) := by decide +kernel
theorem dX12_getsInView_72 : decode cX12_getsInView 72 = .ok (.goto 268, 3) := by decide +kernel
theorem dX12_getsInView_75 : decode cX12_getsInView 75 = .ok (.aload_n 0, 1) := by decide +kernel
theorem dX12_getsInView_76 : decode cX12_getsInView 76 = .ok (.getfield 50, 3) := by decide +kernel
theorem dX12_getsInView_79 : decode cX12_getsInView 79 = .ok (.iload_n 1, 1) := by decide +kernel
theorem dX12_getsInView_80 : decode cX12_getsInView 80 = .ok (.iaload, 1) := by decide +kernel
theorem dX12_getsInView_81 : decode cX12_getsInView 81 = .ok (.ifCond .ne 259, 3) := by decide +kernel
theorem dX12_getsInView_84 : decode cX12_getsInView 84 = .ok (.iload_n 3, 1) := by decide +kernel
theorem dX12_getsInView_85 : decode cX12_getsInView 85 = .ok (.aload_n 0, 1) := by decide +kernel
theorem dX12_getsInView_86 : decode cX12_getsInView 86 = .ok (.getfield 59, 3) := by decide +kernel
theorem dX12_getsInView_89 : decode cX12_getsInView 89 = .ok (.iload_n 1, 1) := by decide +kernel
theorem dX12_getsInView_90 : decode cX12_getsInView 90 = .ok (.iaload, 1) := by decide +kernel
theorem dX12_getsInView_91 : decode cX12_getsInView 91 = .ok (.iconst 1, 1) := by decide +kernel
theorem dX12_getsInView_92 : decode cX12_getsInView 92 = .ok (.iadd, 1) := by decide +kernel
theorem dX12_getsInView_93 : decode cX12_getsInView 93 = .ok (.if_icmp .ne 247, 3) := by decide +kernel
theorem dX12_getsInView_96 : decode cX12_getsInView 96 = .ok (.aload_n 0, 1) := by decide +kernel
theorem dX12_getsInView_97 : decode cX12_getsInView 97 = .ok (.iload_n 1, 1) := by decide +kernel
theorem dX12_getsInView_98 : decode cX12_getsInView 98 = .ok (.iload_n 3, 1) := by decide +kernel
theorem dX12_getsInView_99 : decode cX12_getsInView 99 = .ok (.aload_n 0, 1) := by decide +kernel
theorem dX12_getsInView_100 : decode cX12_getsInView 100 = .ok (.getfield 62, 3) := by decide +kernel
theorem dX12_getsInView_103 : decode cX12_getsInView 103 = .ok (.iload_n 1, 1) := by decide +kernel
theorem dX12_getsInView_104 : decode cX12_getsInView 104 = .ok (.iaload, 1) := by decide +kernel
theorem dX12_getsInView_105 : decode cX12_getsInView 105 = .ok (.isub, 1) := by decide +kernel
theorem dX12_getsInView_106 : decode cX12_getsInView 106 = .ok (.bipush 6, 2) := by decide +kernel
theorem dX12_getsInView_108 : decode cX12_getsInView 108 = .ok (.invokevirtual 415, 3) := by decide +kernel
theorem dX12_getsInView_111 : decode cX12_getsInView 111 = .ok (.aload_n 0, 1) := by decide +kernel
theorem dX12_getsInView_112 : decode cX12_getsInView 112 = .ok (.iload_n 1, 1) := by decide +kernel
theorem dX12_getsInView_113 : decode cX12_getsInView 113 = .ok (.invokevirtual 418, 3) := by decide +kernel
theorem dX12_getsInView_116 : decode cX12_getsInView 116 = .ok (.goto 224, 3) := by decide +kernel
theorem dX12_getsInView_119 : decode cX12_getsInView 119 = .ok (.aload_n 0, 1) := by decide +kernel
theorem dX12_getsInView_120 : decode cX12_getsInView 120 = .ok (.iload_n 1, 1) := by decide +kernel
theorem dX12_getsInView_121 : decode cX12_getsInView 121 = .ok (.invokevirtual 327, 3) := by decide +kernel
theorem dX12_getsInView_124 : decode cX12_getsInView 124 = .ok (.ifCond .ne 216, 3) := by decide +kernel
theorem dX12_getsInView_127 : decode cX12_getsInView 127 = .ok (.aload_n 0, 1) := by decide +kernel
theorem dX12_getsInView_128 : decode cX12_getsInView 128 = .ok (.getfield 50, 3) := by decide +kernel
theorem dX12_getsInView_131 : decode cX12_getsInView 131 = .ok (.iload_n 1, 1) := by decide +kernel
theorem dX12_getsInView_132 : decode cX12_getsInView 132 = .ok (.iaload, 1) := by decide +kernel
theorem dX12_getsInView_133 : decode cX12_getsInView 133 = .ok (.ifCond .ne 207, 3) := by decide +kernel
theorem dX12_getsInView_136 : decode cX12_getsInView 136 = .ok (.aload_n 0, 1) := by decide +kernel
theorem dX12_getsInView_137 : decode cX12_getsInView 137 = .ok (.iload_n 1, 1) := by decide +kernel
theorem dX12_getsInView_138 : decode cX12_getsInView 138 = .ok (.iload_n 3, 1) := by decide +kernel
theorem dX12_getsInView_139 : decode cX12_getsInView 139 = .ok (.invokevirtual 433, 3) := by decide +kernel
theorem dX12_getsInView_142 : decode cX12_getsInView 142 = .ok (.goto 198, 3) := by decide +kernel
theorem dX12_getsInView_145 : decode cX12_getsInView 145 = .ok (.aload_n 0, 1) := by decide +kernel
theorem dX12_getsInView_146 : decode cX12_getsInView 146 = .ok (.iload_n 1, 1) := by decide +kernel
theorem dX12_getsInView_147 : decode cX12_getsInView 147 = .ok (.invokevirtual 327, 3) := by decide +kernel
theorem dX12_getsInView_150 : decode cX12_getsInView 150 = .ok (.ifCond .eq 190, 3) := by decide +kernel
theorem dX12_getsInView_153 : decode cX12_getsInView 153 = .ok (.aload_n 0, 1) := by decide +kernel
theorem dX12_getsInView_154 : decode cX12_getsInView 154 = .ok (.getfield 50, 3) := by decide +kernel
theorem dX12_getsInView_157 : decode cX12_getsInView 157 = .ok (.iload_n 1, 1) := by decide +kernel
theorem dX12_getsInView_158 : decode cX12_getsInView 158 = .ok (.iaload, 1) := by decide +kernel
theorem dX12_getsInView_159 : decode cX12_getsInView 159 = .ok (.iconst 1, 1) := by decide +kernel
theorem dX12_getsInView_160 : decode cX12_getsInView 160 = .ok (.if_icmp .ne 180, 3) := by decide +kernel
theorem dX12_getsInView_163 : decode cX12_getsInView 163 = .ok (.iload_n 3, 1) := by decide +kernel
theorem dX12_getsInView_164 : decode cX12_getsInView 164 = .ok (.aload_n 0, 1) := by decide +kernel
theorem dX12_getsInView_165 : decode cX12_getsInView 165 = .ok (.getfield 59, 3) := by decide +kernel
theorem dX12_getsInView_168 : decode cX12_getsInView 168 = .ok (.iload_n 1, 1) := by decide +kernel
theorem dX12_getsInView_169 : decode cX12_getsInView 169 = .ok (.iaload, 1) := by decide +kernel
theorem dX12_getsInView_170 : decode cX12_getsInView 170 = .ok (.if_icmp .ne 170, 3) := by decide +kernel
theorem dX12_getsInView_173 : decode cX12_getsInView 173 = .ok (.aload_n 0, 1) := by decide +kernel
theorem dX12_getsInView_174 : decode cX12_getsInView 174 = .ok (.iload_n 1, 1) := by decide +kernel
theorem dX12_getsInView_175 : decode cX12_getsInView 175 = .ok (.invokevirtual 436, 3) := by decide +kernel
theorem dX12_getsInView_178 : decode cX12_getsInView 178 = .ok (.goto 162, 3) := by decide +kernel
theorem dX12_getsInView_181 : decode cX12_getsInView 181 = .ok (.aload_n 0, 1) := by decide +kernel
theorem dX12_getsInView_182 : decode cX12_getsInView 182 = .ok (.iload_n 1, 1) := by decide +kernel
theorem dX12_getsInView_183 : decode cX12_getsInView 183 = .ok (.invokevirtual 327, 3) := by decide +kernel
theorem dX12_getsInView_186 : decode cX12_getsInView 186 = .ok (.ifCond .ne 154, 3) := by decide +kernel
theorem dX12_getsInView_189 : decode cX12_getsInView 189 = .ok (.aload_n 0, 1) := by decide +kernel
theorem dX12_getsInView_190 : decode cX12_getsInView 190 = .ok (.getfield 50, 3) := by decide +kernel
theorem dX12_getsInView_193 : decode cX12_getsInView 193 = .ok (.iload_n 1, 1) := by decide +kernel
theorem dX12_getsInView_194 : decode cX12_getsInView 194 = .ok (.iaload, 1) := by decide +kernel
theorem dX12_getsInView_195 : decode cX12_getsInView 195 = .ok (.ifCond .ne 145, 3) := by decide +kernel
theorem dX12_getsInView_198 : decode cX12_getsInView 198 = .ok (.aload_n 0, 1) := by decide +kernel
theorem dX12_getsInView_199 : decode cX12_getsInView 199 = .ok (.getfield 59, 3) := by decide +kernel
theorem dX12_getsInView_202 : decode cX12_getsInView 202 = .ok (.iload_n 1, 1) := by decide +kernel
theorem dX12_getsInView_203 : decode cX12_getsInView 203 = .ok (.iaload, 1) := by decide +kernel
theorem dX12_getsInView_204 : decode cX12_getsInView 204 = .ok (.iload_n 3, 1) := by decide +kernel
theorem dX12_getsInView_205 : decode cX12_getsInView 205 = .ok (.if_icmp .lt 135, 3) := by decide +kernel
theorem dX12_getsInView_208 : decode cX12_getsInView 208 = .ok (.aload_n 0, 1) := by decide +kernel
theorem dX12_getsInView_209 : decode cX12_getsInView 209 = .ok (.iload_n 1, 1) := by decide +kernel
theorem dX12_getsInView_210 : decode cX12_getsInView 210 = .ok (.iload_n 3, 1) := by decide +kernel
theorem dX12_getsInView_211 : decode cX12_getsInView 211 = .ok (.bipush 6, 2) := by decide +kernel
theorem dX12_getsInView_213 : decode cX12_getsInView 213 = .ok (.invokevirtual 427, 3) := by decide +kernel
theorem dX12_getsInView_216 : decode cX12_getsInView 216 = .ok (.aload_n 0, 1) := by decide +kernel
theorem dX12_getsInView_217 : decode cX12_getsInView 217 = .ok (.getfield 68, 3) := by decide +kernel
theorem dX12_getsInView_220 : decode cX12_getsInView 220 = .ok (.iload_n 1, 1) := by decide +kernel
theorem dX12_getsInView_221 : decode cX12_getsInView 221 = .ok (.iload_n 3, 1) := by decide +kernel
theorem dX12_getsInView_222 : decode cX12_getsInView 222 = .ok (.aload_n 0, 1) := by decide +kernel
theorem dX12_getsInView_223 : decode cX12_getsInView 223 = .ok (.getfield 68, 3) := by decide +kernel
theorem dX12_getsInView_226 : decode cX12_getsInView 226 = .ok (.iload_n 1, 1) := by decide +kernel
theorem dX12_getsInView_227 : decode cX12_getsInView 227 = .ok (.iaload, 1) := by decide +kernel
theorem dX12_getsInView_228 : decode cX12_getsInView 228 = .ok (.if_icmp .le 7, 3) := by decide +kernel
theorem dX12_getsInView_231 : decode cX12_getsInView 231 = .ok (.iload_n 3, 1) := by decide +kernel
theorem dX12_getsInView_232 : decode cX12_getsInView 232 = .ok (.goto 9, 3) := by decide +kernel
theorem dX12_getsInView_235 : decode cX12_getsInView 235 = .ok (.aload_n 0, 1) := by decide +kernel
theorem dX12_getsInView_236 : decode cX12_getsInView 236 = .ok (.getfield 68, 3) := by decide +kernel
theorem dX12_getsInView_239 : decode cX12_getsInView 239 = .ok (.iload_n 1, 1) := by decide +kernel
theorem dX12_getsInView_240 : decode cX12_getsInView 240 = .ok (.iaload, 1) := by decide +kernel
theorem dX12_getsInView_241 : decode cX12_getsInView 241 = .ok (.iastore, 1) := by decide +kernel
theorem dX12_getsInView_242 : decode cX12_getsInView 242 = .ok (.aload_n 0, 1) := by decide +kernel
theorem dX12_getsInView_243 : decode cX12_getsInView 243 = .ok (.bipush 6, 2) := by decide +kernel
theorem dX12_getsInView_245 : decode cX12_getsInView 245 = .ok (.iload_n 1, 1) := by decide +kernel
theorem dX12_getsInView_246 : decode cX12_getsInView 246 = .ok (.aload_n 0, 1) := by decide +kernel
theorem dX12_getsInView_247 : decode cX12_getsInView 247 = .ok (.iload_n 1, 1) := by decide +kernel
theorem dX12_getsInView_248 : decode cX12_getsInView 248 = .ok (.invokevirtual 324, 3) := by decide +kernel
theorem dX12_getsInView_251 : decode cX12_getsInView 251 = .ok (.iload_n 3, 1) := by decide +kernel
theorem dX12_getsInView_252 : decode cX12_getsInView 252 = .ok (.invokevirtual 300, 3) := by decide +kernel
theorem dX12_getsInView_255 : decode cX12_getsInView 255 = .ok (.goto 85, 3) := by decide +kernel
theorem dX12_getsInView_258 : decode cX12_getsInView 258 = .ok (.aload_n 0, 1) := by decide +kernel
theorem dX12_getsInView_259 : decode cX12_getsInView 259 = .ok (.iload_n 1, 1) := by decide +kernel
theorem dX12_getsInView_260 : decode cX12_getsInView 260 = .ok (.invokevirtual 327, 3) := by decide +kernel
theorem dX12_getsInView_263 : decode cX12_getsInView 263 = .ok (.ifCond .eq 77, 3) := by decide +kernel
theorem dX12_getsInView_266 : decode cX12_getsInView 266 = .ok (.aload_n 0, 1) := by decide +kernel
theorem dX12_getsInView_267 : decode cX12_getsInView 267 = .ok (.getfield 50, 3) := by decide +kernel
theorem dX12_getsInView_270 : decode cX12_getsInView 270 = .ok (.iload_n 1, 1) := by decide +kernel
theorem dX12_getsInView_271 : decode cX12_getsInView 271 = .ok (.iaload, 1) := by decide +kernel
theorem dX12_getsInView_272 : decode cX12_getsInView 272 = .ok (.iconst 2, 1) := by decide +kernel
theorem dX12_getsInView_273 : decode cX12_getsInView 273 = .ok (.if_icmp .eq 67, 3) := by decide +kernel
theorem dX12_getsInView_276 : decode cX12_getsInView 276 = .ok (.iload_n 3, 1) := by decide +kernel
theorem dX12_getsInView_277 : decode cX12_getsInView 277 = .ok (.aload_n 0, 1) := by decide +kernel
theorem dX12_getsInView_278 : decode cX12_getsInView 278 = .ok (.getfield 65, 3) := by decide +kernel
theorem dX12_getsInView_281 : decode cX12_getsInView 281 = .ok (.iload_n 1, 1) := by decide +kernel
theorem dX12_getsInView_282 : decode cX12_getsInView 282 = .ok (.iaload, 1) := by decide +kernel
theorem dX12_getsInView_283 : decode cX12_getsInView 283 = .ok (.if_icmp .le 57, 3) := by decide +kernel
theorem dX12_getsInView_286 : decode cX12_getsInView 286 = .ok (.aload_n 0, 1) := by decide +kernel
theorem dX12_getsInView_287 : decode cX12_getsInView 287 = .ok (.iload_n 1, 1) := by decide +kernel
theorem dX12_getsInView_288 : decode cX12_getsInView 288 = .ok (.iload_n 3, 1) := by decide +kernel
theorem dX12_getsInView_289 : decode cX12_getsInView 289 = .ok (.invokevirtual 439, 3) := by decide +kernel
theorem dX12_getsInView_292 : decode cX12_getsInView 292 = .ok (.goto 48, 3) := by decide +kernel
theorem dX12_getsInView_295 : decode cX12_getsInView 295 = .ok (.aload_n 0, 1) := by decide +kernel
theorem dX12_getsInView_296 : decode cX12_getsInView 296 = .ok (.iload_n 1, 1) := by decide +kernel
theorem dX12_getsInView_297 : decode cX12_getsInView 297 = .ok (.invokevirtual 327, 3) := by decide +kernel
theorem dX12_getsInView_300 : decode cX12_getsInView 300 = .ok (.ifCond .ne 40, 3) := by decide +kernel
theorem dX12_getsInView_303 : decode cX12_getsInView 303 = .ok (.aload_n 0, 1) := by decide +kernel
theorem dX12_getsInView_304 : decode cX12_getsInView 304 = .ok (.getfield 50, 3) := by decide +kernel
theorem dX12_getsInView_307 : decode cX12_getsInView 307 = .ok (.iload_n 1, 1) := by decide +kernel
theorem dX12_getsInView_308 : decode cX12_getsInView 308 = .ok (.iaload, 1) := by decide +kernel
theorem dX12_getsInView_309 : decode cX12_getsInView 309 = .ok (.iconst 2, 1) := by decide +kernel
theorem dX12_getsInView_310 : decode cX12_getsInView 310 = .ok (.if_icmp .eq 30, 3) := by decide +kernel
theorem dX12_getsInView_313 : decode cX12_getsInView 313 = .ok (.iload_n 3, 1) := by decide +kernel
theorem dX12_getsInView_314 : decode cX12_getsInView 314 = .ok (.aload_n 0, 1) := by decide +kernel
theorem dX12_getsInView_315 : decode cX12_getsInView 315 = .ok (.getfield 65, 3) := by decide +kernel
theorem dX12_getsInView_318 : decode cX12_getsInView 318 = .ok (.iload_n 1, 1) := by decide +kernel
theorem dX12_getsInView_319 : decode cX12_getsInView 319 = .ok (.iaload, 1) := by decide +kernel
theorem dX12_getsInView_320 : decode cX12_getsInView 320 = .ok (.if_icmp .le 20, 3) := by decide +kernel
theorem dX12_getsInView_323 : decode cX12_getsInView 323 = .ok (.aload_n 0, 1) := by decide +kernel
theorem dX12_getsInView_324 : decode cX12_getsInView 324 = .ok (.getfield 68, 3) := by decide +kernel
theorem dX12_getsInView_327 : decode cX12_getsInView 327 = .ok (.iload_n 1, 1) := by decide +kernel
theorem dX12_getsInView_328 : decode cX12_getsInView 328 = .ok (.iaload, 1) := by decide +kernel
theorem dX12_getsInView_329 : decode cX12_getsInView 329 = .ok (.iload_n 3, 1) := by decide +kernel
theorem dX12_getsInView_330 : decode cX12_getsInView 330 = .ok (.if_icmp .lt 10, 3) := by decide +kernel
theorem dX12_getsInView_333 : decode cX12_getsInView 333 = .ok (.aload_n 0, 1) := by decide +kernel
theorem dX12_getsInView_334 : decode cX12_getsInView 334 = .ok (.getfield 65, 3) := by decide +kernel
theorem dX12_getsInView_337 : decode cX12_getsInView 337 = .ok (.iload_n 1, 1) := by decide +kernel
theorem dX12_getsInView_338 : decode cX12_getsInView 338 = .ok (.iload_n 3, 1) := by decide +kernel
theorem dX12_getsInView_339 : decode cX12_getsInView 339 = .ok (.iastore, 1) := by decide +kernel
theorem dX12_getsInView_340 : decode cX12_getsInView 340 = .ok (.return_, 1) := by decide +kernel
abbrev rm_X12_getsInView : Room := { frames := 6, cells := 0, slots := 0, locals := 136 }
def b_X12_getsInView_241 (a0 : Nat)  (Q : Sto → Prop) (p1 : Int32) (p3 : Int32) (s0 : Int32) (s1 : Int32) (s2 : Option Nat) (σ : Sto) : Prop := (∃ b1 : Nat, s2 = some b1 ∧ (sK σ b1 = 14 ∧ (vp_in s1 (sN σ b1) ∧ (sK σ a0 = 12 ∧ (wp_X12_leader a0 p1 (stI σ b1 s1.toNatClampNeg s0) (fun (x7 : Int32) (σ6 : Sto) => (sK σ6 a0 = 12 ∧ (wp_X12_tell a0 (6 : Int32) p1 x7 p3 σ6 (fun (σ9 : Sto) => Q σ9)))))))))
set_option maxHeartbeats 4000000 in
set_option maxRecDepth 100000 in
theorem t_X12_getsInView_241 {p : Program} {l : Launch} {e : Env} {s : State} {m : MethodId} {args : Array Value} {below : List Frame} {meth : Method} {c : Code} {D : va_G} {cy : Nat → ClassId} {A : Nat → Prop} {a0 : Nat} {Q : Sto → Prop} (C : Cx p s m args meth c D cy A cX12_getsInView 4 RX12) (hr : meth.sig.returnType = none) (hnm : meth.name = yX12_getsInView.name) (p1 : Int32) (p3 : Int32) (s0 : Int32) (s1 : Int32) (s2 : Option Nat) (σ : Sto) (h : b_X12_getsInView_241 a0  Q p1 p3 s0 s1 s2 σ) (ls : Array Slot) (hl : lv_has ls 4 [(0, .ref a0), (1, .int p1), (3, .int p3)]) : Xw p l e rm_X12_getsInView s m args below meth c D cy A σ 0 0 (MQ below (Qst D cy A (PsV Q)) args s rm_X12_getsInView.cells rm_X12_getsInView.slots A) (F0 m 241 ls [.int s0, .int s1, va_rf s2]) := by
  unfold b_X12_getsInView_241 at h
  obtain ⟨b1, g2, h⟩ := h
  refine x_nn2 g2 ?_
  obtain ⟨g3, h⟩ := h
  obtain ⟨g4, h⟩ := h
  refine x_iast C g3 g4 dX12_getsInView_241 ?_
  refine x_aload_n C dX12_getsInView_242 rfl (lv_at hl 0 rfl) ?_
  refine x_bipush (v := 6) C dX12_getsInView_243 (by decide) ?_
  refine x_iload_n C dX12_getsInView_245 rfl (lv_at hl 1 rfl) ?_
  refine x_aload_n C dX12_getsInView_246 rfl (lv_at hl 0 rfl) ?_
  refine x_iload_n C dX12_getsInView_247 rfl (lv_at hl 1 rfl) ?_
  obtain ⟨g5, h⟩ := h
  refine x_callV (rm := rm_X12_leader) (rest := [.int p1, .int (6 : Int32), .ref a0]) (As := [.int p1]) C cy_RX12_324 g5 (by decide) (by decide) rfl rfl (Nat.le_of_ble_eq_true rfl) hl.1 dX12_getsInView_248 (c_X12_leader l D cy a0 p1 (stI σ b1 s1.toNatClampNeg s0) _ h) (ks_i (fun x7 σ6 h => ?_))
  refine x_iload_n C dX12_getsInView_251 rfl (lv_at hl 2 rfl) ?_
  obtain ⟨g8, h⟩ := h
  refine x_callV (rm := rm_X12_tell) (rest := []) (As := [.int (6 : Int32), .int p1, .int x7, .int p3]) C cy_RX12_300 g8 (by decide) (by decide) rfl rfl (Nat.le_of_ble_eq_true rfl) hl.1 dX12_getsInView_252 (c_X12_tell l D cy a0 (6 : Int32) p1 x7 p3 σ6 _ h) (ks_v (fun σ9 h => ?_))
  refine x_goto (tgt := 340) C dX12_getsInView_255 (by decide) ?_
  exact x_vret C hr dX12_getsInView_340 ⟨rfl, h⟩
set_option maxRecDepth 100000 in
def wp_X12_getsInView (a0 : Nat) (p1 : Int32) (p2 : Int32) (σ : Sto) (Q : Sto → Prop) : Prop := (sK σ a0 = 12 ∧ (∃ b2 : Nat, sP σ a0 15 = some b2 ∧ (sK σ b2 = 14 ∧ (vp_in (5 : Int32) (sN σ b2) ∧ (∀ x6 : Int32, x6 = sI σ b2 (5 : Int32).toNatClampNeg → ((p2.toInt < 1 ∨ 6 < p2.toInt → (wp_X12_leads a0 p1 σ (fun (x10 : Int32) (σ9 : Sto) => ((¬ x10 = 0 → Q σ9) ∧ (x10 = 0 → (sK σ9 a0 = 12 ∧ (∃ b13 : Nat, sP σ9 a0 23 = some b13 ∧ (sK σ9 b13 = 14 ∧ (vp_in p1 (sN σ9 b13) ∧ (∀ x17 : Int32, x17 = sI σ9 b13 p1.toNatClampNeg → ((x17 = (2 : Int32) → Q σ9) ∧ (¬ x17 = (2 : Int32) → (∃ b20 : Nat, sP σ9 a0 28 = some b20 ∧ (sK σ9 b20 = 14 ∧ (vp_in p1 (sN σ9 b20) ∧ (∀ x24 : Int32, x24 = sI σ9 b20 p1.toNatClampNeg → ((x6 ≤ x24 → Q σ9) ∧ (¬ x6 ≤ x24 → (∃ b27 : Nat, sP σ9 a0 29 = some b27 ∧ (sK σ9 b27 = 14 ∧ (vp_in p1 (sN σ9 b27) ∧ (∀ x31 : Int32, x31 = sI σ9 b27 p1.toNatClampNeg → ((x31 < x6 → Q σ9) ∧ (¬ x31 < x6 → (vp_in p1 (sN σ9 b20) ∧ Q (stI σ9 b20 p1.toNatClampNeg x6)))))))))))))))))))))))))) ∧ (p2 = (1 : Int32) → (wp_X12_leads a0 p1 σ (fun (x37 : Int32) (σ36 : Sto) => ((x37 = 0 → Q σ36) ∧ (¬ x37 = 0 → (sK σ36 a0 = 12 ∧ (∃ b40 : Nat, sP σ36 a0 23 = some b40 ∧ (sK σ36 b40 = 14 ∧ (vp_in p1 (sN σ36 b40) ∧ (∀ x44 : Int32, x44 = sI σ36 b40 p1.toNatClampNeg → ((x44 = (2 : Int32) → Q σ36) ∧ (¬ x44 = (2 : Int32) → (wp_X12_lookUp a0 p1 x6 σ36 (fun (σ47 : Sto) => Q σ47)))))))))))))) ∧ (p2 = (2 : Int32) → (∃ b48 : Nat, sP σ a0 23 = some b48 ∧ (sK σ b48 = 14 ∧ (vp_in p1 (sN σ b48) ∧ (∀ x52 : Int32, x52 = sI σ b48 p1.toNatClampNeg → ((¬ x52 = 0 → Q σ) ∧ (x52 = 0 → (∃ b55 : Nat, sP σ a0 26 = some b55 ∧ (sK σ b55 = 14 ∧ (vp_in p1 (sN σ b55) ∧ (∀ x59 : Int32, x59 = sI σ b55 p1.toNatClampNeg → ((¬ x6 = (x59 + (1 : Int32)) → Q σ) ∧ (x6 = (x59 + (1 : Int32)) → (∃ b62 : Nat, sP σ a0 27 = some b62 ∧ (sK σ b62 = 14 ∧ (vp_in p1 (sN σ b62) ∧ (∀ x66 : Int32, x66 = sI σ b62 p1.toNatClampNeg → (wp_X12_hold a0 p1 (x6 - x66) (6 : Int32) σ (fun (σ68 : Sto) => (sK σ68 a0 = 12 ∧ (wp_X12_takes a0 p1 σ68 (fun (σ70 : Sto) => Q σ70)))))))))))))))))))))) ∧ (p2 = (3 : Int32) → (wp_X12_leads a0 p1 σ (fun (x72 : Int32) (σ71 : Sto) => ((¬ x72 = 0 → Q σ71) ∧ (x72 = 0 → (sK σ71 a0 = 12 ∧ (∃ b75 : Nat, sP σ71 a0 23 = some b75 ∧ (sK σ71 b75 = 14 ∧ (vp_in p1 (sN σ71 b75) ∧ (∀ x79 : Int32, x79 = sI σ71 b75 p1.toNatClampNeg → ((¬ x79 = 0 → Q σ71) ∧ (x79 = 0 → (wp_X12_commitGap a0 p1 x6 σ71 (fun (σ82 : Sto) => Q σ82)))))))))))))) ∧ (p2 = (4 : Int32) → (wp_X12_leads a0 p1 σ (fun (x84 : Int32) (σ83 : Sto) => ((x84 = 0 → Q σ83) ∧ (¬ x84 = 0 → (sK σ83 a0 = 12 ∧ (∃ b87 : Nat, sP σ83 a0 23 = some b87 ∧ (sK σ83 b87 = 14 ∧ (vp_in p1 (sN σ83 b87) ∧ (∀ x91 : Int32, x91 = sI σ83 b87 p1.toNatClampNeg → ((¬ x91 = (1 : Int32) → Q σ83) ∧ (x91 = (1 : Int32) → (∃ b94 : Nat, sP σ83 a0 26 = some b94 ∧ (sK σ83 b94 = 14 ∧ (vp_in p1 (sN σ83 b94) ∧ (∀ x98 : Int32, x98 = sI σ83 b94 p1.toNatClampNeg → ((¬ x6 = x98 → Q σ83) ∧ (x6 = x98 → (wp_X12_replyGap a0 p1 σ83 (fun (σ101 : Sto) => Q σ101)))))))))))))))))))) ∧ (p2 = (5 : Int32) → (wp_X12_leads a0 p1 σ (fun (x103 : Int32) (σ102 : Sto) => ((¬ x103 = 0 → Q σ102) ∧ (x103 = 0 → (sK σ102 a0 = 12 ∧ (∃ b106 : Nat, sP σ102 a0 23 = some b106 ∧ (sK σ102 b106 = 14 ∧ (vp_in p1 (sN σ102 b106) ∧ (∀ x110 : Int32, x110 = sI σ102 b106 p1.toNatClampNeg → ((¬ x110 = 0 → Q σ102) ∧ (x110 = 0 → (∃ b113 : Nat, sP σ102 a0 26 = some b113 ∧ (sK σ102 b113 = 14 ∧ (vp_in p1 (sN σ102 b113) ∧ (∀ x117 : Int32, x117 = sI σ102 b113 p1.toNatClampNeg → ((x117 < x6 → Q σ102) ∧ (¬ x117 < x6 → (wp_X12_readEntries a0 p1 x6 (6 : Int32) σ102 (fun (σ120 : Sto) => (sK σ120 a0 = 12 ∧ (∃ b122 : Nat, sP σ120 a0 29 = some b122 ∧ (sK σ120 b122 = 14 ∧ (vp_in p1 (sN σ120 b122) ∧ (∀ x126 : Int32, x126 = sI σ120 b122 p1.toNatClampNeg → ((x6 ≤ x126 → (vp_in p1 (sN σ120 b122) ∧ (∀ x130 : Int32, x130 = sI σ120 b122 p1.toNatClampNeg → b_X12_getsInView_241 a0  Q p1 x6 x130 p1 (sP σ120 a0 29) σ120))) ∧ (¬ x6 ≤ x126 → b_X12_getsInView_241 a0  Q p1 x6 x6 p1 (sP σ120 a0 29) σ120))))))))))))))))))))))))))) ∧ (p2 = (6 : Int32) → (wp_X12_leads a0 p1 σ (fun (x133 : Int32) (σ132 : Sto) => ((x133 = 0 → Q σ132) ∧ (¬ x133 = 0 → (sK σ132 a0 = 12 ∧ (∃ b136 : Nat, sP σ132 a0 23 = some b136 ∧ (sK σ132 b136 = 14 ∧ (vp_in p1 (sN σ132 b136) ∧ (∀ x140 : Int32, x140 = sI σ132 b136 p1.toNatClampNeg → ((x140 = (2 : Int32) → Q σ132) ∧ (¬ x140 = (2 : Int32) → (∃ b143 : Nat, sP σ132 a0 28 = some b143 ∧ (sK σ132 b143 = 14 ∧ (vp_in p1 (sN σ132 b143) ∧ (∀ x147 : Int32, x147 = sI σ132 b143 p1.toNatClampNeg → ((x6 ≤ x147 → Q σ132) ∧ (¬ x6 ≤ x147 → (wp_X12_replySync a0 p1 x6 σ132 (fun (σ150 : Sto) => Q σ150))))))))))))))))))))))))))
set_option maxHeartbeats 4000000 in
set_option maxRecDepth 100000 in
theorem c_X12_getsInView (l : Launch) (D : va_G) (cy : Nat → ClassId) (a0 : Nat) (p1 : Int32) (p2 : Int32) (σ : Sto) (Q : Sto → Prop) (h : wp_X12_getsInView a0 p1 p2 σ Q) : Mt l D cy yX12_getsInView cX12_getsInView 4 none rm_X12_getsInView [.ref a0, .int p1, .int p2] σ (PsV Q) := by
  unfold wp_X12_getsInView at h
  refine mt_of (by decide +kernel) (Nat.le_of_ble_eq_true rfl) ?_
  intro p e s m args below meth c A ls C hr hnm hl
  have C : Cx p s m args meth c D cy A cX12_getsInView 4 RX12 := C
  have hl : lv_has ls 4 [(0, .ref a0), (1, .int p1), (2, .int p2)] := hl
  refine x_aload_n C dX12_getsInView_0 rfl (lv_at hl 0 rfl) ?_
  obtain ⟨g1, h⟩ := h
  refine x_getP C fl_RX12_30 g1 dX12_getsInView_1 ?_
  refine x_iconst (v := 5) C dX12_getsInView_4 (by decide) ?_
  obtain ⟨b2, g3, h⟩ := h
  refine x_nn1 g3 ?_
  obtain ⟨g4, h⟩ := h
  obtain ⟨g5, h⟩ := h
  refine x_iald C g4 g5 dX12_getsInView_5 ?_
  refine x_topi (fun x6 e7 => ?_)
  have h := h x6 e7
  refine x_istore_n (i := 3) (lv' := [(3, .int x6), (0, .ref a0), (1, .int p1), (2, .int p2)]) C dX12_getsInView_6 rfl hl (by decide) (by first | rfl | simp [vrc, cat_i, cat_r, cat_l]) (fun ls hl => ?_)
  refine x_iload_n C dX12_getsInView_7 rfl (lv_at hl 3 rfl) ?_
  by_cases c8 : p2.toInt < 1 ∨ 6 < p2.toInt
  · have h := h.1 c8
    refine x_tableOut (tgt := 295) C dX12_getsInView_8 c8 (by decide) ?_
    refine x_aload_n C dX12_getsInView_295 rfl (lv_at hl 1 rfl) ?_
    refine x_iload_n C dX12_getsInView_296 rfl (lv_at hl 2 rfl) ?_
    refine x_callV (rm := rm_X12_leads) (rest := []) (As := [.int p1]) C cy_RX12_327 g1 (by decide) (by decide) rfl rfl (Nat.le_of_ble_eq_true rfl) hl.1 dX12_getsInView_297 (c_X12_leads l D cy a0 p1 σ _ h) (ks_i (fun x10 σ9 h => ?_))
    refine x_if_ne (tgt := 340) C dX12_getsInView_300 (by decide) (fun c11 => ?_) (fun c11 => ?_)
    · have h := h.1 c11
      exact x_vret C hr dX12_getsInView_340 ⟨rfl, h⟩
    · have h := h.2 c11
      refine x_aload_n C dX12_getsInView_303 rfl (lv_at hl 1 rfl) ?_
      obtain ⟨g12, h⟩ := h
      refine x_getP C fl_RX12_50 g12 dX12_getsInView_304 ?_
      refine x_iload_n C dX12_getsInView_307 rfl (lv_at hl 2 rfl) ?_
      obtain ⟨b13, g14, h⟩ := h
      refine x_nn1 g14 ?_
      obtain ⟨g15, h⟩ := h
      obtain ⟨g16, h⟩ := h
      refine x_iald C g15 g16 dX12_getsInView_308 ?_
      refine x_topi (fun x17 e18 => ?_)
      have h := h x17 e18
      refine x_iconst (v := 2) C dX12_getsInView_309 (by decide) ?_
      refine x_icmp_eq (tgt := 340) C dX12_getsInView_310 (by decide) (fun c19 => ?_) (fun c19 => ?_)
      · have h := h.1 c19
        exact x_vret C hr dX12_getsInView_340 ⟨rfl, h⟩
      · have h := h.2 c19
        refine x_iload_n C dX12_getsInView_313 rfl (lv_at hl 0 rfl) ?_
        refine x_aload_n C dX12_getsInView_314 rfl (lv_at hl 1 rfl) ?_
        refine x_getP C fl_RX12_65 g12 dX12_getsInView_315 ?_
        refine x_iload_n C dX12_getsInView_318 rfl (lv_at hl 2 rfl) ?_
        obtain ⟨b20, g21, h⟩ := h
        refine x_nn1 g21 ?_
        obtain ⟨g22, h⟩ := h
        obtain ⟨g23, h⟩ := h
        refine x_iald C g22 g23 dX12_getsInView_319 ?_
        refine x_topi (fun x24 e25 => ?_)
        have h := h x24 e25
        refine x_icmp_le (tgt := 340) C dX12_getsInView_320 (by decide) (fun c26 => ?_) (fun c26 => ?_)
        · have h := h.1 c26
          exact x_vret C hr dX12_getsInView_340 ⟨rfl, h⟩
        · have h := h.2 c26
          refine x_aload_n C dX12_getsInView_323 rfl (lv_at hl 1 rfl) ?_
          refine x_getP C fl_RX12_68 g12 dX12_getsInView_324 ?_
          refine x_iload_n C dX12_getsInView_327 rfl (lv_at hl 2 rfl) ?_
          obtain ⟨b27, g28, h⟩ := h
          refine x_nn1 g28 ?_
          obtain ⟨g29, h⟩ := h
          obtain ⟨g30, h⟩ := h
          refine x_iald C g29 g30 dX12_getsInView_328 ?_
          refine x_topi (fun x31 e32 => ?_)
          have h := h x31 e32
          refine x_iload_n C dX12_getsInView_329 rfl (lv_at hl 0 rfl) ?_
          refine x_icmp_lt (tgt := 340) C dX12_getsInView_330 (by decide) (fun c33 => ?_) (fun c33 => ?_)
          · have h := h.1 c33
            exact x_vret C hr dX12_getsInView_340 ⟨rfl, h⟩
          · have h := h.2 c33
            refine x_aload_n C dX12_getsInView_333 rfl (lv_at hl 1 rfl) ?_
            refine x_getP C fl_RX12_65 g12 dX12_getsInView_334 ?_
            refine x_iload_n C dX12_getsInView_337 rfl (lv_at hl 2 rfl) ?_
            refine x_iload_n C dX12_getsInView_338 rfl (lv_at hl 0 rfl) ?_
            refine x_nn2 g21 ?_
            obtain ⟨g34, h⟩ := h
            refine x_iast C g22 g34 dX12_getsInView_339 ?_
            exact x_vret C hr dX12_getsInView_340 ⟨rfl, h⟩
  · rcases (show p2.toInt = 1 ∨ p2.toInt = 2 ∨ p2.toInt = 3 ∨ p2.toInt = 4 ∨ p2.toInt = 5 ∨ p2.toInt = 6 by omega) with c35 | c35 | c35 | c35 | c35 | c35
    · have h := h.2.1 (sw_eq (k := 1) (c35.trans (by decide)))
      refine x_tableIn (tgt := 48) (off := 40) C dX12_getsInView_8 (by omega) (by omega) (by rw [c35]; rfl) (by decide) ?_
      refine x_aload_n C dX12_getsInView_48 rfl (lv_at hl 1 rfl) ?_
      refine x_iload_n C dX12_getsInView_49 rfl (lv_at hl 2 rfl) ?_
      refine x_callV (rm := rm_X12_leads) (rest := []) (As := [.int p1]) C cy_RX12_327 g1 (by decide) (by decide) rfl rfl (Nat.le_of_ble_eq_true rfl) hl.1 dX12_getsInView_50 (c_X12_leads l D cy a0 p1 σ _ h) (ks_i (fun x37 σ36 h => ?_))
      refine x_if_eq (tgt := 340) C dX12_getsInView_53 (by decide) (fun c38 => ?_) (fun c38 => ?_)
      · have h := h.1 c38
        exact x_vret C hr dX12_getsInView_340 ⟨rfl, h⟩
      · have h := h.2 c38
        refine x_aload_n C dX12_getsInView_56 rfl (lv_at hl 1 rfl) ?_
        obtain ⟨g39, h⟩ := h
        refine x_getP C fl_RX12_50 g39 dX12_getsInView_57 ?_
        refine x_iload_n C dX12_getsInView_60 rfl (lv_at hl 2 rfl) ?_
        obtain ⟨b40, g41, h⟩ := h
        refine x_nn1 g41 ?_
        obtain ⟨g42, h⟩ := h
        obtain ⟨g43, h⟩ := h
        refine x_iald C g42 g43 dX12_getsInView_61 ?_
        refine x_topi (fun x44 e45 => ?_)
        have h := h x44 e45
        refine x_iconst (v := 2) C dX12_getsInView_62 (by decide) ?_
        refine x_icmp_eq (tgt := 340) C dX12_getsInView_63 (by decide) (fun c46 => ?_) (fun c46 => ?_)
        · have h := h.1 c46
          exact x_vret C hr dX12_getsInView_340 ⟨rfl, h⟩
        · have h := h.2 c46
          refine x_aload_n C dX12_getsInView_66 rfl (lv_at hl 1 rfl) ?_
          refine x_iload_n C dX12_getsInView_67 rfl (lv_at hl 2 rfl) ?_
          refine x_iload_n C dX12_getsInView_68 rfl (lv_at hl 0 rfl) ?_
          refine x_callV (rm := rm_X12_lookUp) (rest := []) (As := [.int p1, .int x6]) C cy_RX12_430 g39 (by decide) (by decide) rfl rfl (Nat.le_of_ble_eq_true rfl) hl.1 dX12_getsInView_69 (c_X12_lookUp l D cy a0 p1 x6 σ36 _ h) (ks_v (fun σ47 h => ?_))
          refine x_goto (tgt := 340) C dX12_getsInView_72 (by decide) ?_
          exact x_vret C hr dX12_getsInView_340 ⟨rfl, h⟩
    · have h := h.2.2.1 (sw_eq (k := 2) (c35.trans (by decide)))
      refine x_tableIn (tgt := 75) (off := 67) C dX12_getsInView_8 (by omega) (by omega) (by rw [c35]; rfl) (by decide) ?_
      refine x_aload_n C dX12_getsInView_75 rfl (lv_at hl 1 rfl) ?_
      refine x_getP C fl_RX12_50 g1 dX12_getsInView_76 ?_
      refine x_iload_n C dX12_getsInView_79 rfl (lv_at hl 2 rfl) ?_
      obtain ⟨b48, g49, h⟩ := h
      refine x_nn1 g49 ?_
      obtain ⟨g50, h⟩ := h
      obtain ⟨g51, h⟩ := h
      refine x_iald C g50 g51 dX12_getsInView_80 ?_
      refine x_topi (fun x52 e53 => ?_)
      have h := h x52 e53
      refine x_if_ne (tgt := 340) C dX12_getsInView_81 (by decide) (fun c54 => ?_) (fun c54 => ?_)
      · have h := h.1 c54
        exact x_vret C hr dX12_getsInView_340 ⟨rfl, h⟩
      · have h := h.2 c54
        refine x_iload_n C dX12_getsInView_84 rfl (lv_at hl 0 rfl) ?_
        refine x_aload_n C dX12_getsInView_85 rfl (lv_at hl 1 rfl) ?_
        refine x_getP C fl_RX12_59 g1 dX12_getsInView_86 ?_
        refine x_iload_n C dX12_getsInView_89 rfl (lv_at hl 2 rfl) ?_
        obtain ⟨b55, g56, h⟩ := h
        refine x_nn1 g56 ?_
        obtain ⟨g57, h⟩ := h
        obtain ⟨g58, h⟩ := h
        refine x_iald C g57 g58 dX12_getsInView_90 ?_
        refine x_topi (fun x59 e60 => ?_)
        have h := h x59 e60
        refine x_iconst (v := 1) C dX12_getsInView_91 (by decide) ?_
        refine x_iadd C dX12_getsInView_92 ?_
        refine x_icmp_ne (tgt := 340) C dX12_getsInView_93 (by decide) (fun c61 => ?_) (fun c61 => ?_)
        · have h := h.1 c61
          exact x_vret C hr dX12_getsInView_340 ⟨rfl, h⟩
        · have h := h.2 c61
          refine x_aload_n C dX12_getsInView_96 rfl (lv_at hl 1 rfl) ?_
          refine x_iload_n C dX12_getsInView_97 rfl (lv_at hl 2 rfl) ?_
          refine x_iload_n C dX12_getsInView_98 rfl (lv_at hl 0 rfl) ?_
          refine x_aload_n C dX12_getsInView_99 rfl (lv_at hl 1 rfl) ?_
          refine x_getP C fl_RX12_62 g1 dX12_getsInView_100 ?_
          refine x_iload_n C dX12_getsInView_103 rfl (lv_at hl 2 rfl) ?_
          obtain ⟨b62, g63, h⟩ := h
          refine x_nn1 g63 ?_
          obtain ⟨g64, h⟩ := h
          obtain ⟨g65, h⟩ := h
          refine x_iald C g64 g65 dX12_getsInView_104 ?_
          refine x_topi (fun x66 e67 => ?_)
          have h := h x66 e67
          refine x_isub C dX12_getsInView_105 ?_
          refine x_bipush (v := 6) C dX12_getsInView_106 (by decide) ?_
          refine x_callV (rm := rm_X12_hold) (rest := []) (As := [.int p1, .int (x6 - x66), .int (6 : Int32)]) C cy_RX12_415 g1 (by decide) (by decide) rfl rfl (Nat.le_of_ble_eq_true rfl) hl.1 dX12_getsInView_108 (c_X12_hold l D cy a0 p1 (x6 - x66) (6 : Int32) σ _ h) (ks_v (fun σ68 h => ?_))
          refine x_aload_n C dX12_getsInView_111 rfl (lv_at hl 1 rfl) ?_
          refine x_iload_n C dX12_getsInView_112 rfl (lv_at hl 2 rfl) ?_
          obtain ⟨g69, h⟩ := h
          refine x_callV (rm := rm_X12_takes) (rest := []) (As := [.int p1]) C cy_RX12_418 g69 (by decide) (by decide) rfl rfl (Nat.le_of_ble_eq_true rfl) hl.1 dX12_getsInView_113 (c_X12_takes l D cy a0 p1 σ68 _ h) (ks_v (fun σ70 h => ?_))
          refine x_goto (tgt := 340) C dX12_getsInView_116 (by decide) ?_
          exact x_vret C hr dX12_getsInView_340 ⟨rfl, h⟩
    · have h := h.2.2.2.1 (sw_eq (k := 3) (c35.trans (by decide)))
      refine x_tableIn (tgt := 119) (off := 111) C dX12_getsInView_8 (by omega) (by omega) (by rw [c35]; rfl) (by decide) ?_
      refine x_aload_n C dX12_getsInView_119 rfl (lv_at hl 1 rfl) ?_
      refine x_iload_n C dX12_getsInView_120 rfl (lv_at hl 2 rfl) ?_
      refine x_callV (rm := rm_X12_leads) (rest := []) (As := [.int p1]) C cy_RX12_327 g1 (by decide) (by decide) rfl rfl (Nat.le_of_ble_eq_true rfl) hl.1 dX12_getsInView_121 (c_X12_leads l D cy a0 p1 σ _ h) (ks_i (fun x72 σ71 h => ?_))
      refine x_if_ne (tgt := 340) C dX12_getsInView_124 (by decide) (fun c73 => ?_) (fun c73 => ?_)
      · have h := h.1 c73
        exact x_vret C hr dX12_getsInView_340 ⟨rfl, h⟩
      · have h := h.2 c73
        refine x_aload_n C dX12_getsInView_127 rfl (lv_at hl 1 rfl) ?_
        obtain ⟨g74, h⟩ := h
        refine x_getP C fl_RX12_50 g74 dX12_getsInView_128 ?_
        refine x_iload_n C dX12_getsInView_131 rfl (lv_at hl 2 rfl) ?_
        obtain ⟨b75, g76, h⟩ := h
        refine x_nn1 g76 ?_
        obtain ⟨g77, h⟩ := h
        obtain ⟨g78, h⟩ := h
        refine x_iald C g77 g78 dX12_getsInView_132 ?_
        refine x_topi (fun x79 e80 => ?_)
        have h := h x79 e80
        refine x_if_ne (tgt := 340) C dX12_getsInView_133 (by decide) (fun c81 => ?_) (fun c81 => ?_)
        · have h := h.1 c81
          exact x_vret C hr dX12_getsInView_340 ⟨rfl, h⟩
        · have h := h.2 c81
          refine x_aload_n C dX12_getsInView_136 rfl (lv_at hl 1 rfl) ?_
          refine x_iload_n C dX12_getsInView_137 rfl (lv_at hl 2 rfl) ?_
          refine x_iload_n C dX12_getsInView_138 rfl (lv_at hl 0 rfl) ?_
          refine x_callV (rm := rm_X12_commitGap) (rest := []) (As := [.int p1, .int x6]) C cy_RX12_433 g74 (by decide) (by decide) rfl rfl (Nat.le_of_ble_eq_true rfl) hl.1 dX12_getsInView_139 (c_X12_commitGap l D cy a0 p1 x6 σ71 _ h) (ks_v (fun σ82 h => ?_))
          refine x_goto (tgt := 340) C dX12_getsInView_142 (by decide) ?_
          exact x_vret C hr dX12_getsInView_340 ⟨rfl, h⟩
    · have h := h.2.2.2.2.1 (sw_eq (k := 4) (c35.trans (by decide)))
      refine x_tableIn (tgt := 145) (off := 137) C dX12_getsInView_8 (by omega) (by omega) (by rw [c35]; rfl) (by decide) ?_
      refine x_aload_n C dX12_getsInView_145 rfl (lv_at hl 1 rfl) ?_
      refine x_iload_n C dX12_getsInView_146 rfl (lv_at hl 2 rfl) ?_
      refine x_callV (rm := rm_X12_leads) (rest := []) (As := [.int p1]) C cy_RX12_327 g1 (by decide) (by decide) rfl rfl (Nat.le_of_ble_eq_true rfl) hl.1 dX12_getsInView_147 (c_X12_leads l D cy a0 p1 σ _ h) (ks_i (fun x84 σ83 h => ?_))
      refine x_if_eq (tgt := 340) C dX12_getsInView_150 (by decide) (fun c85 => ?_) (fun c85 => ?_)
      · have h := h.1 c85
        exact x_vret C hr dX12_getsInView_340 ⟨rfl, h⟩
      · have h := h.2 c85
        refine x_aload_n C dX12_getsInView_153 rfl (lv_at hl 1 rfl) ?_
        obtain ⟨g86, h⟩ := h
        refine x_getP C fl_RX12_50 g86 dX12_getsInView_154 ?_
        refine x_iload_n C dX12_getsInView_157 rfl (lv_at hl 2 rfl) ?_
        obtain ⟨b87, g88, h⟩ := h
        refine x_nn1 g88 ?_
        obtain ⟨g89, h⟩ := h
        obtain ⟨g90, h⟩ := h
        refine x_iald C g89 g90 dX12_getsInView_158 ?_
        refine x_topi (fun x91 e92 => ?_)
        have h := h x91 e92
        refine x_iconst (v := 1) C dX12_getsInView_159 (by decide) ?_
        refine x_icmp_ne (tgt := 340) C dX12_getsInView_160 (by decide) (fun c93 => ?_) (fun c93 => ?_)
        · have h := h.1 c93
          exact x_vret C hr dX12_getsInView_340 ⟨rfl, h⟩
        · have h := h.2 c93
          refine x_iload_n C dX12_getsInView_163 rfl (lv_at hl 0 rfl) ?_
          refine x_aload_n C dX12_getsInView_164 rfl (lv_at hl 1 rfl) ?_
          refine x_getP C fl_RX12_59 g86 dX12_getsInView_165 ?_
          refine x_iload_n C dX12_getsInView_168 rfl (lv_at hl 2 rfl) ?_
          obtain ⟨b94, g95, h⟩ := h
          refine x_nn1 g95 ?_
          obtain ⟨g96, h⟩ := h
          obtain ⟨g97, h⟩ := h
          refine x_iald C g96 g97 dX12_getsInView_169 ?_
          refine x_topi (fun x98 e99 => ?_)
          have h := h x98 e99
          refine x_icmp_ne (tgt := 340) C dX12_getsInView_170 (by decide) (fun c100 => ?_) (fun c100 => ?_)
          · have h := h.1 c100
            exact x_vret C hr dX12_getsInView_340 ⟨rfl, h⟩
          · have h := h.2 c100
            refine x_aload_n C dX12_getsInView_173 rfl (lv_at hl 1 rfl) ?_
            refine x_iload_n C dX12_getsInView_174 rfl (lv_at hl 2 rfl) ?_
            refine x_callV (rm := rm_X12_replyGap) (rest := []) (As := [.int p1]) C cy_RX12_436 g86 (by decide) (by decide) rfl rfl (Nat.le_of_ble_eq_true rfl) hl.1 dX12_getsInView_175 (c_X12_replyGap l D cy a0 p1 σ83 _ h) (ks_v (fun σ101 h => ?_))
            refine x_goto (tgt := 340) C dX12_getsInView_178 (by decide) ?_
            exact x_vret C hr dX12_getsInView_340 ⟨rfl, h⟩
    · have h := h.2.2.2.2.2.1 (sw_eq (k := 5) (c35.trans (by decide)))
      refine x_tableIn (tgt := 181) (off := 173) C dX12_getsInView_8 (by omega) (by omega) (by rw [c35]; rfl) (by decide) ?_
      refine x_aload_n C dX12_getsInView_181 rfl (lv_at hl 1 rfl) ?_
      refine x_iload_n C dX12_getsInView_182 rfl (lv_at hl 2 rfl) ?_
      refine x_callV (rm := rm_X12_leads) (rest := []) (As := [.int p1]) C cy_RX12_327 g1 (by decide) (by decide) rfl rfl (Nat.le_of_ble_eq_true rfl) hl.1 dX12_getsInView_183 (c_X12_leads l D cy a0 p1 σ _ h) (ks_i (fun x103 σ102 h => ?_))
      refine x_if_ne (tgt := 340) C dX12_getsInView_186 (by decide) (fun c104 => ?_) (fun c104 => ?_)
      · have h := h.1 c104
        exact x_vret C hr dX12_getsInView_340 ⟨rfl, h⟩
      · have h := h.2 c104
        refine x_aload_n C dX12_getsInView_189 rfl (lv_at hl 1 rfl) ?_
        obtain ⟨g105, h⟩ := h
        refine x_getP C fl_RX12_50 g105 dX12_getsInView_190 ?_
        refine x_iload_n C dX12_getsInView_193 rfl (lv_at hl 2 rfl) ?_
        obtain ⟨b106, g107, h⟩ := h
        refine x_nn1 g107 ?_
        obtain ⟨g108, h⟩ := h
        obtain ⟨g109, h⟩ := h
        refine x_iald C g108 g109 dX12_getsInView_194 ?_
        refine x_topi (fun x110 e111 => ?_)
        have h := h x110 e111
        refine x_if_ne (tgt := 340) C dX12_getsInView_195 (by decide) (fun c112 => ?_) (fun c112 => ?_)
        · have h := h.1 c112
          exact x_vret C hr dX12_getsInView_340 ⟨rfl, h⟩
        · have h := h.2 c112
          refine x_aload_n C dX12_getsInView_198 rfl (lv_at hl 1 rfl) ?_
          refine x_getP C fl_RX12_59 g105 dX12_getsInView_199 ?_
          refine x_iload_n C dX12_getsInView_202 rfl (lv_at hl 2 rfl) ?_
          obtain ⟨b113, g114, h⟩ := h
          refine x_nn1 g114 ?_
          obtain ⟨g115, h⟩ := h
          obtain ⟨g116, h⟩ := h
          refine x_iald C g115 g116 dX12_getsInView_203 ?_
          refine x_topi (fun x117 e118 => ?_)
          have h := h x117 e118
          refine x_iload_n C dX12_getsInView_204 rfl (lv_at hl 0 rfl) ?_
          refine x_icmp_lt (tgt := 340) C dX12_getsInView_205 (by decide) (fun c119 => ?_) (fun c119 => ?_)
          · have h := h.1 c119
            exact x_vret C hr dX12_getsInView_340 ⟨rfl, h⟩
          · have h := h.2 c119
            refine x_aload_n C dX12_getsInView_208 rfl (lv_at hl 1 rfl) ?_
            refine x_iload_n C dX12_getsInView_209 rfl (lv_at hl 2 rfl) ?_
            refine x_iload_n C dX12_getsInView_210 rfl (lv_at hl 0 rfl) ?_
            refine x_bipush (v := 6) C dX12_getsInView_211 (by decide) ?_
            refine x_callV (rm := rm_X12_readEntries) (rest := []) (As := [.int p1, .int x6, .int (6 : Int32)]) C cy_RX12_427 g105 (by decide) (by decide) rfl rfl (Nat.le_of_ble_eq_true rfl) hl.1 dX12_getsInView_213 (c_X12_readEntries l D cy a0 p1 x6 (6 : Int32) σ102 _ h) (ks_v (fun σ120 h => ?_))
            refine x_aload_n C dX12_getsInView_216 rfl (lv_at hl 1 rfl) ?_
            obtain ⟨g121, h⟩ := h
            refine x_getP C fl_RX12_68 g121 dX12_getsInView_217 ?_
            refine x_iload_n C dX12_getsInView_220 rfl (lv_at hl 2 rfl) ?_
            refine x_iload_n C dX12_getsInView_221 rfl (lv_at hl 0 rfl) ?_
            refine x_aload_n C dX12_getsInView_222 rfl (lv_at hl 1 rfl) ?_
            refine x_getP C fl_RX12_68 g121 dX12_getsInView_223 ?_
            refine x_iload_n C dX12_getsInView_226 rfl (lv_at hl 2 rfl) ?_
            obtain ⟨b122, g123, h⟩ := h
            refine x_nn1 g123 ?_
            obtain ⟨g124, h⟩ := h
            obtain ⟨g125, h⟩ := h
            refine x_iald C g124 g125 dX12_getsInView_227 ?_
            refine x_topi (fun x126 e127 => ?_)
            have h := h x126 e127
            refine x_icmp_le (tgt := 235) C dX12_getsInView_228 (by decide) (fun c128 => ?_) (fun c128 => ?_)
            · have h := h.1 c128
              refine x_aload_n C dX12_getsInView_235 rfl (lv_at hl 1 rfl) ?_
              refine x_getP C fl_RX12_68 g121 dX12_getsInView_236 ?_
              refine x_iload_n C dX12_getsInView_239 rfl (lv_at hl 2 rfl) ?_
              refine x_nn1 g123 ?_
              obtain ⟨g129, h⟩ := h
              refine x_iald C g124 g129 dX12_getsInView_240 ?_
              refine x_topi (fun x130 e131 => ?_)
              have h := h x130 e131
              exact t_X12_getsInView_241 C hr hnm  p1 x6 x130 p1 (sP σ120 a0 29) _ h ls (lv_sub hl [1, 2, 0] rfl)
            · have h := h.2 c128
              refine x_iload_n C dX12_getsInView_231 rfl (lv_at hl 0 rfl) ?_
              refine x_goto (tgt := 241) C dX12_getsInView_232 (by decide) ?_
              exact t_X12_getsInView_241 C hr hnm  p1 x6 x6 p1 (sP σ120 a0 29) _ h ls (lv_sub hl [1, 2, 0] rfl)
    · have h := h.2.2.2.2.2.2 (sw_eq (k := 6) (c35.trans (by decide)))
      refine x_tableIn (tgt := 258) (off := 250) C dX12_getsInView_8 (by omega) (by omega) (by rw [c35]; rfl) (by decide) ?_
      refine x_aload_n C dX12_getsInView_258 rfl (lv_at hl 1 rfl) ?_
      refine x_iload_n C dX12_getsInView_259 rfl (lv_at hl 2 rfl) ?_
      refine x_callV (rm := rm_X12_leads) (rest := []) (As := [.int p1]) C cy_RX12_327 g1 (by decide) (by decide) rfl rfl (Nat.le_of_ble_eq_true rfl) hl.1 dX12_getsInView_260 (c_X12_leads l D cy a0 p1 σ _ h) (ks_i (fun x133 σ132 h => ?_))
      refine x_if_eq (tgt := 340) C dX12_getsInView_263 (by decide) (fun c134 => ?_) (fun c134 => ?_)
      · have h := h.1 c134
        exact x_vret C hr dX12_getsInView_340 ⟨rfl, h⟩
      · have h := h.2 c134
        refine x_aload_n C dX12_getsInView_266 rfl (lv_at hl 1 rfl) ?_
        obtain ⟨g135, h⟩ := h
        refine x_getP C fl_RX12_50 g135 dX12_getsInView_267 ?_
        refine x_iload_n C dX12_getsInView_270 rfl (lv_at hl 2 rfl) ?_
        obtain ⟨b136, g137, h⟩ := h
        refine x_nn1 g137 ?_
        obtain ⟨g138, h⟩ := h
        obtain ⟨g139, h⟩ := h
        refine x_iald C g138 g139 dX12_getsInView_271 ?_
        refine x_topi (fun x140 e141 => ?_)
        have h := h x140 e141
        refine x_iconst (v := 2) C dX12_getsInView_272 (by decide) ?_
        refine x_icmp_eq (tgt := 340) C dX12_getsInView_273 (by decide) (fun c142 => ?_) (fun c142 => ?_)
        · have h := h.1 c142
          exact x_vret C hr dX12_getsInView_340 ⟨rfl, h⟩
        · have h := h.2 c142
          refine x_iload_n C dX12_getsInView_276 rfl (lv_at hl 0 rfl) ?_
          refine x_aload_n C dX12_getsInView_277 rfl (lv_at hl 1 rfl) ?_
          refine x_getP C fl_RX12_65 g135 dX12_getsInView_278 ?_
          refine x_iload_n C dX12_getsInView_281 rfl (lv_at hl 2 rfl) ?_
          obtain ⟨b143, g144, h⟩ := h
          refine x_nn1 g144 ?_
          obtain ⟨g145, h⟩ := h
          obtain ⟨g146, h⟩ := h
          refine x_iald C g145 g146 dX12_getsInView_282 ?_
          refine x_topi (fun x147 e148 => ?_)
          have h := h x147 e148
          refine x_icmp_le (tgt := 340) C dX12_getsInView_283 (by decide) (fun c149 => ?_) (fun c149 => ?_)
          · have h := h.1 c149
            exact x_vret C hr dX12_getsInView_340 ⟨rfl, h⟩
          · have h := h.2 c149
            refine x_aload_n C dX12_getsInView_286 rfl (lv_at hl 1 rfl) ?_
            refine x_iload_n C dX12_getsInView_287 rfl (lv_at hl 2 rfl) ?_
            refine x_iload_n C dX12_getsInView_288 rfl (lv_at hl 0 rfl) ?_
            refine x_callV (rm := rm_X12_replySync) (rest := []) (As := [.int p1, .int x6]) C cy_RX12_439 g135 (by decide) (by decide) rfl rfl (Nat.le_of_ble_eq_true rfl) hl.1 dX12_getsInView_289 (c_X12_replySync l D cy a0 p1 x6 σ132 _ h) (ks_v (fun σ150 h => ?_))
            refine x_goto (tgt := 340) C dX12_getsInView_292 (by decide) ?_
            exact x_vret C hr dX12_getsInView_340 ⟨rfl, h⟩
theorem dX12_replicaGets_0 : decode cX12_replicaGets 0 = .ok (.aload_n 0, 1) := by decide +kernel
theorem dX12_replicaGets_1 : decode cX12_replicaGets 1 = .ok (.getfield 30, 3) := by decide +kernel
theorem dX12_replicaGets_4 : decode cX12_replicaGets 4 = .ok (.iconst 0, 1) := by decide +kernel
theorem dX12_replicaGets_5 : decode cX12_replicaGets 5 = .ok (.iaload, 1) := by decide +kernel
theorem dX12_replicaGets_6 : decode cX12_replicaGets 6 = .ok (.istore_n 2, 1) := by decide +kernel
theorem dX12_replicaGets_7 : decode cX12_replicaGets 7 = .ok (.iload_n 2, 1) := by decide +kernel
theorem dX12_replicaGets_8 : decode cX12_replicaGets 8 = .ok (.ifCond .ne 9, 3) := by decide +kernel
theorem dX12_replicaGets_11 : decode cX12_replicaGets 11 = .ok (.aload_n 0, 1) := by decide +kernel
theorem dX12_replicaGets_12 : decode cX12_replicaGets 12 = .ok (.iload_n 1, 1) := by decide +kernel
theorem dX12_replicaGets_13 : decode cX12_replicaGets 13 = .ok (.invokevirtual 399, 3) := by decide +kernel
theorem dX12_replicaGets_16 : decode cX12_replicaGets 16 = .ok (.return_, 1) := by decide +kernel
theorem dX12_replicaGets_17 : decode cX12_replicaGets 17 = .ok (.aload_n 0, 1) := by decide +kernel
theorem dX12_replicaGets_18 : decode cX12_replicaGets 18 = .ok (.getfield 30, 3) := by decide +kernel
theorem dX12_replicaGets_21 : decode cX12_replicaGets 21 = .ok (.iconst 3, 1) := by decide +kernel
theorem dX12_replicaGets_22 : decode cX12_replicaGets 22 = .ok (.iaload, 1) := by decide +kernel
theorem dX12_replicaGets_23 : decode cX12_replicaGets 23 = .ok (.aload_n 0, 1) := by decide +kernel
theorem dX12_replicaGets_24 : decode cX12_replicaGets 24 = .ok (.getfield 44, 3) := by decide +kernel
theorem dX12_replicaGets_27 : decode cX12_replicaGets 27 = .ok (.iload_n 1, 1) := by decide +kernel
theorem dX12_replicaGets_28 : decode cX12_replicaGets 28 = .ok (.iaload, 1) := by decide +kernel
theorem dX12_replicaGets_29 : decode cX12_replicaGets 29 = .ok (.if_icmp .ne 22, 3) := by decide +kernel
theorem dX12_replicaGets_32 : decode cX12_replicaGets 32 = .ok (.aload_n 0, 1) := by decide +kernel
theorem dX12_replicaGets_33 : decode cX12_replicaGets 33 = .ok (.getfield 30, 3) := by decide +kernel
theorem dX12_replicaGets_36 : decode cX12_replicaGets 36 = .ok (.iconst 4, 1) := by decide +kernel
theorem dX12_replicaGets_37 : decode cX12_replicaGets 37 = .ok (.iaload, 1) := by decide +kernel
theorem dX12_replicaGets_38 : decode cX12_replicaGets 38 = .ok (.aload_n 0, 1) := by decide +kernel
theorem dX12_replicaGets_39 : decode cX12_replicaGets 39 = .ok (.getfield 47, 3) := by decide +kernel
theorem dX12_replicaGets_42 : decode cX12_replicaGets 42 = .ok (.iload_n 1, 1) := by decide +kernel
theorem dX12_replicaGets_43 : decode cX12_replicaGets 43 = .ok (.iaload, 1) := by decide +kernel
theorem dX12_replicaGets_44 : decode cX12_replicaGets 44 = .ok (.if_icmp .ne 7, 3) := by decide +kernel
theorem dX12_replicaGets_47 : decode cX12_replicaGets 47 = .ok (.iconst 1, 1) := by decide +kernel
theorem dX12_replicaGets_48 : decode cX12_replicaGets 48 = .ok (.goto 4, 3) := by decide +kernel
theorem dX12_replicaGets_51 : decode cX12_replicaGets 51 = .ok (.iconst 0, 1) := by decide +kernel
theorem dX12_replicaGets_52 : decode cX12_replicaGets 52 = .ok (.istore_n 3, 1) := by decide +kernel
theorem dX12_replicaGets_53 : decode cX12_replicaGets 53 = .ok (.iload_n 3, 1) := by decide +kernel
theorem dX12_replicaGets_54 : decode cX12_replicaGets 54 = .ok (.ifCond .eq 27, 3) := by decide +kernel
theorem dX12_replicaGets_57 : decode cX12_replicaGets 57 = .ok (.aload_n 0, 1) := by decide +kernel
theorem dX12_replicaGets_58 : decode cX12_replicaGets 58 = .ok (.getfield 30, 3) := by decide +kernel
theorem dX12_replicaGets_61 : decode cX12_replicaGets 61 = .ok (.iconst 1, 1) := by decide +kernel
theorem dX12_replicaGets_62 : decode cX12_replicaGets 62 = .ok (.iaload, 1) := by decide +kernel
theorem dX12_replicaGets_63 : decode cX12_replicaGets 63 = .ok (.aload_n 0, 1) := by decide +kernel
theorem dX12_replicaGets_64 : decode cX12_replicaGets 64 = .ok (.iload_n 1, 1) := by decide +kernel
theorem dX12_replicaGets_65 : decode cX12_replicaGets 65 = .ok (.invokevirtual 324, 3) := by decide +kernel
theorem dX12_replicaGets_68 : decode cX12_replicaGets 68 = .ok (.if_icmp .ne 13, 3) := by decide +kernel
theorem dX12_replicaGets_71 : decode cX12_replicaGets 71 = .ok (.aload_n 0, 1) := by decide +kernel
theorem dX12_replicaGets_72 : decode cX12_replicaGets 72 = .ok (.getfield 152, 3) := by decide +kernel
theorem dX12_replicaGets_75 : decode cX12_replicaGets 75 = .ok (.iload_n 1, 1) := by decide +kernel
theorem dX12_replicaGets_76 : decode cX12_replicaGets 76 = .ok (.aload_n 0, 1) := by decide +kernel
theorem dX12_replicaGets_77 : decode cX12_replicaGets 77 = .ok (.getfield 318, 3) := by decide +kernel
theorem dX12_replicaGets_80 : decode cX12_replicaGets 80 = .ok (.iastore, 1) := by decide +kernel
theorem dX12_replicaGets_81 : decode cX12_replicaGets 81 = .ok (.iload_n 2, 1) := by decide +kernel
theorem dX12_replicaGets_82 : decode cX12_replicaGets 82 = .ok (.bipush 8, 2) := by decide +kernel
theorem dX12_replicaGets_84 : decode cX12_replicaGets 84 = .ok (.if_icmp .eq 9, 3) := by decide +kernel
theorem dX12_replicaGets_87 : decode cX12_replicaGets 87 = .ok (.iload_n 2, 1) := by decide +kernel
theorem dX12_replicaGets_88 : decode cX12_replicaGets 88 = .ok (.bipush 12, 2) := by decide +kernel
theorem dX12_replicaGets_90 : decode cX12_replicaGets 90 = .ok (.if_icmp .ne 23, 3) := by decide +kernel
theorem dX12_replicaGets_93 : decode cX12_replicaGets 93 = .ok (.aload_n 0, 1) := by decide +kernel
theorem dX12_replicaGets_94 : decode cX12_replicaGets 94 = .ok (.iload_n 1, 1) := by decide +kernel
theorem dX12_replicaGets_95 : decode cX12_replicaGets 95 = .ok (.aload_n 0, 1) := by decide +kernel
theorem dX12_replicaGets_96 : decode cX12_replicaGets 96 = .ok (.getfield 30, 3) := by decide +kernel
theorem dX12_replicaGets_99 : decode cX12_replicaGets 99 = .ok (.iconst 3, 1) := by decide +kernel
theorem dX12_replicaGets_100 : decode cX12_replicaGets 100 = .ok (.iaload, 1) := by decide +kernel
theorem dX12_replicaGets_101 : decode cX12_replicaGets 101 = .ok (.aload_n 0, 1) := by decide +kernel
theorem dX12_replicaGets_102 : decode cX12_replicaGets 102 = .ok (.getfield 30, 3) := by decide +kernel
theorem dX12_replicaGets_105 : decode cX12_replicaGets 105 = .ok (.iconst 4, 1) := by decide +kernel
theorem dX12_replicaGets_106 : decode cX12_replicaGets 106 = .ok (.iaload, 1) := by decide +kernel
theorem dX12_replicaGets_107 : decode cX12_replicaGets 107 = .ok (.invokevirtual 402, 3) := by decide +kernel
theorem dX12_replicaGets_110 : decode cX12_replicaGets 110 = .ok (.goto 42, 3) := by decide +kernel
theorem dX12_replicaGets_113 : decode cX12_replicaGets 113 = .ok (.iload_n 2, 1) := by decide +kernel
theorem dX12_replicaGets_114 : decode cX12_replicaGets 114 = .ok (.bipush 9, 2) := by decide +kernel
theorem dX12_replicaGets_116 : decode cX12_replicaGets 116 = .ok (.if_icmp .ne 11, 3) := by decide +kernel
theorem dX12_replicaGets_119 : decode cX12_replicaGets 119 = .ok (.aload_n 0, 1) := by decide +kernel
theorem dX12_replicaGets_120 : decode cX12_replicaGets 120 = .ok (.iload_n 1, 1) := by decide +kernel
theorem dX12_replicaGets_121 : decode cX12_replicaGets 121 = .ok (.invokevirtual 405, 3) := by decide +kernel
theorem dX12_replicaGets_124 : decode cX12_replicaGets 124 = .ok (.goto 28, 3) := by decide +kernel
theorem dX12_replicaGets_127 : decode cX12_replicaGets 127 = .ok (.iload_n 2, 1) := by decide +kernel
theorem dX12_replicaGets_128 : decode cX12_replicaGets 128 = .ok (.bipush 10, 2) := by decide +kernel
theorem dX12_replicaGets_130 : decode cX12_replicaGets 130 = .ok (.if_icmp .ne 12, 3) := by decide +kernel
theorem dX12_replicaGets_133 : decode cX12_replicaGets 133 = .ok (.aload_n 0, 1) := by decide +kernel
theorem dX12_replicaGets_134 : decode cX12_replicaGets 134 = .ok (.iload_n 1, 1) := by decide +kernel
theorem dX12_replicaGets_135 : decode cX12_replicaGets 135 = .ok (.iload_n 3, 1) := by decide +kernel
theorem dX12_replicaGets_136 : decode cX12_replicaGets 136 = .ok (.invokevirtual 408, 3) := by decide +kernel
theorem dX12_replicaGets_139 : decode cX12_replicaGets 139 = .ok (.goto 13, 3) := by decide +kernel
theorem dX12_replicaGets_142 : decode cX12_replicaGets 142 = .ok (.iload_n 3, 1) := by decide +kernel
theorem dX12_replicaGets_143 : decode cX12_replicaGets 143 = .ok (.ifCond .eq 9, 3) := by decide +kernel
theorem dX12_replicaGets_146 : decode cX12_replicaGets 146 = .ok (.aload_n 0, 1) := by decide +kernel
theorem dX12_replicaGets_147 : decode cX12_replicaGets 147 = .ok (.iload_n 1, 1) := by decide +kernel
theorem dX12_replicaGets_148 : decode cX12_replicaGets 148 = .ok (.iload_n 2, 1) := by decide +kernel
theorem dX12_replicaGets_149 : decode cX12_replicaGets 149 = .ok (.invokevirtual 412, 3) := by decide +kernel
theorem dX12_replicaGets_152 : decode cX12_replicaGets 152 = .ok (.return_, 1) := by decide +kernel
abbrev rm_X12_replicaGets : Room := { frames := 7, cells := 0, slots := 0, locals := 159 }
def b_X12_replicaGets_93 (a0 : Nat)  (Q : Sto → Prop) (p1 : Int32) (σ : Sto) : Prop := (sK σ a0 = 12 ∧ (∃ b2 : Nat, sP σ a0 15 = some b2 ∧ (sK σ b2 = 14 ∧ (vp_in (3 : Int32) (sN σ b2) ∧ (∀ x6 : Int32, x6 = sI σ b2 (3 : Int32).toNatClampNeg → (vp_in (4 : Int32) (sN σ b2) ∧ (∀ x9 : Int32, x9 = sI σ b2 (4 : Int32).toNatClampNeg → (wp_X12_joins a0 p1 x6 x9 σ (fun (σ11 : Sto) => Q σ11)))))))))
set_option maxHeartbeats 4000000 in
set_option maxRecDepth 100000 in
theorem t_X12_replicaGets_93 {p : Program} {l : Launch} {e : Env} {s : State} {m : MethodId} {args : Array Value} {below : List Frame} {meth : Method} {c : Code} {D : va_G} {cy : Nat → ClassId} {A : Nat → Prop} {a0 : Nat} {Q : Sto → Prop} (C : Cx p s m args meth c D cy A cX12_replicaGets 4 RX12) (hr : meth.sig.returnType = none) (hnm : meth.name = yX12_replicaGets.name) (p1 : Int32) (σ : Sto) (h : b_X12_replicaGets_93 a0  Q p1 σ) (ls : Array Slot) (hl : lv_has ls 4 [(0, .ref a0), (1, .int p1)]) : Xw p l e rm_X12_replicaGets s m args below meth c D cy A σ 0 0 (MQ below (Qst D cy A (PsV Q)) args s rm_X12_replicaGets.cells rm_X12_replicaGets.slots A) (F0 m 93 ls []) := by
  unfold b_X12_replicaGets_93 at h
  refine x_aload_n C dX12_replicaGets_93 rfl (lv_at hl 0 rfl) ?_
  refine x_iload_n C dX12_replicaGets_94 rfl (lv_at hl 1 rfl) ?_
  refine x_aload_n C dX12_replicaGets_95 rfl (lv_at hl 0 rfl) ?_
  obtain ⟨g1, h⟩ := h
  refine x_getP C fl_RX12_30 g1 dX12_replicaGets_96 ?_
  refine x_iconst (v := 3) C dX12_replicaGets_99 (by decide) ?_
  obtain ⟨b2, g3, h⟩ := h
  refine x_nn1 g3 ?_
  obtain ⟨g4, h⟩ := h
  obtain ⟨g5, h⟩ := h
  refine x_iald C g4 g5 dX12_replicaGets_100 ?_
  refine x_topi (fun x6 e7 => ?_)
  have h := h x6 e7
  refine x_aload_n C dX12_replicaGets_101 rfl (lv_at hl 0 rfl) ?_
  refine x_getP C fl_RX12_30 g1 dX12_replicaGets_102 ?_
  refine x_iconst (v := 4) C dX12_replicaGets_105 (by decide) ?_
  refine x_nn1 g3 ?_
  obtain ⟨g8, h⟩ := h
  refine x_iald C g4 g8 dX12_replicaGets_106 ?_
  refine x_topi (fun x9 e10 => ?_)
  have h := h x9 e10
  refine x_callV (rm := rm_X12_joins) (rest := []) (As := [.int p1, .int x6, .int x9]) C cy_RX12_402 g1 (by decide) (by decide) rfl rfl (Nat.le_of_ble_eq_true rfl) hl.1 dX12_replicaGets_107 (c_X12_joins l D cy a0 p1 x6 x9 σ _ h) (ks_v (fun σ11 h => ?_))
  refine x_goto (tgt := 152) C dX12_replicaGets_110 (by decide) ?_
  exact x_vret C hr dX12_replicaGets_152 ⟨rfl, h⟩
def b_X12_replicaGets_81 (a0 : Nat)  (Q : Sto → Prop) (p1 : Int32) (p2 : Int32) (p3 : Int32) (σ : Sto) : Prop := ((p2 = (8 : Int32) → b_X12_replicaGets_93 a0  Q p1 σ) ∧ (¬ p2 = (8 : Int32) → ((¬ p2 = (12 : Int32) → ((¬ p2 = (9 : Int32) → ((¬ p2 = (10 : Int32) → ((p3 = 0 → Q σ) ∧ (¬ p3 = 0 → (sK σ a0 = 12 ∧ (wp_X12_getsInView a0 p1 p2 σ (fun (σ7 : Sto) => Q σ7)))))) ∧ (p2 = (10 : Int32) → (sK σ a0 = 12 ∧ (wp_X12_getsStart a0 p1 p3 σ (fun (σ9 : Sto) => Q σ9)))))) ∧ (p2 = (9 : Int32) → (sK σ a0 = 12 ∧ (wp_X12_getsTurned a0 p1 σ (fun (σ11 : Sto) => Q σ11)))))) ∧ (p2 = (12 : Int32) → b_X12_replicaGets_93 a0  Q p1 σ))))
set_option maxHeartbeats 4000000 in
set_option maxRecDepth 100000 in
theorem t_X12_replicaGets_81 {p : Program} {l : Launch} {e : Env} {s : State} {m : MethodId} {args : Array Value} {below : List Frame} {meth : Method} {c : Code} {D : va_G} {cy : Nat → ClassId} {A : Nat → Prop} {a0 : Nat} {Q : Sto → Prop} (C : Cx p s m args meth c D cy A cX12_replicaGets 4 RX12) (hr : meth.sig.returnType = none) (hnm : meth.name = yX12_replicaGets.name) (p1 : Int32) (p2 : Int32) (p3 : Int32) (σ : Sto) (h : b_X12_replicaGets_81 a0  Q p1 p2 p3 σ) (ls : Array Slot) (hl : lv_has ls 4 [(0, .ref a0), (1, .int p1), (2, .int p2), (3, .int p3)]) : Xw p l e rm_X12_replicaGets s m args below meth c D cy A σ 0 0 (MQ below (Qst D cy A (PsV Q)) args s rm_X12_replicaGets.cells rm_X12_replicaGets.slots A) (F0 m 81 ls []) := by
  unfold b_X12_replicaGets_81 at h
  refine x_iload_n C dX12_replicaGets_81 rfl (lv_at hl 2 rfl) ?_
  refine x_bipush (v := 8) C dX12_replicaGets_82 (by decide) ?_
  refine x_icmp_eq (tgt := 93) C dX12_replicaGets_84 (by decide) (fun c1 => ?_) (fun c1 => ?_)
  · have h := h.1 c1
    exact t_X12_replicaGets_93 C hr hnm  p1 _ h ls (lv_sub hl [0, 1] rfl)
  · have h := h.2 c1
    refine x_iload_n C dX12_replicaGets_87 rfl (lv_at hl 2 rfl) ?_
    refine x_bipush (v := 12) C dX12_replicaGets_88 (by decide) ?_
    refine x_icmp_ne (tgt := 113) C dX12_replicaGets_90 (by decide) (fun c2 => ?_) (fun c2 => ?_)
    · have h := h.1 c2
      refine x_iload_n C dX12_replicaGets_113 rfl (lv_at hl 2 rfl) ?_
      refine x_bipush (v := 9) C dX12_replicaGets_114 (by decide) ?_
      refine x_icmp_ne (tgt := 127) C dX12_replicaGets_116 (by decide) (fun c3 => ?_) (fun c3 => ?_)
      · have h := h.1 c3
        refine x_iload_n C dX12_replicaGets_127 rfl (lv_at hl 2 rfl) ?_
        refine x_bipush (v := 10) C dX12_replicaGets_128 (by decide) ?_
        refine x_icmp_ne (tgt := 142) C dX12_replicaGets_130 (by decide) (fun c4 => ?_) (fun c4 => ?_)
        · have h := h.1 c4
          refine x_iload_n C dX12_replicaGets_142 rfl (lv_at hl 3 rfl) ?_
          refine x_if_eq (tgt := 152) C dX12_replicaGets_143 (by decide) (fun c5 => ?_) (fun c5 => ?_)
          · have h := h.1 c5
            exact x_vret C hr dX12_replicaGets_152 ⟨rfl, h⟩
          · have h := h.2 c5
            refine x_aload_n C dX12_replicaGets_146 rfl (lv_at hl 0 rfl) ?_
            refine x_iload_n C dX12_replicaGets_147 rfl (lv_at hl 1 rfl) ?_
            refine x_iload_n C dX12_replicaGets_148 rfl (lv_at hl 2 rfl) ?_
            obtain ⟨g6, h⟩ := h
            refine x_callV (rm := rm_X12_getsInView) (rest := []) (As := [.int p1, .int p2]) C cy_RX12_412 g6 (by decide) (by decide) rfl rfl (Nat.le_of_ble_eq_true rfl) hl.1 dX12_replicaGets_149 (c_X12_getsInView l D cy a0 p1 p2 σ _ h) (ks_v (fun σ7 h => ?_))
            exact x_vret C hr dX12_replicaGets_152 ⟨rfl, h⟩
        · have h := h.2 c4
          refine x_aload_n C dX12_replicaGets_133 rfl (lv_at hl 0 rfl) ?_
          refine x_iload_n C dX12_replicaGets_134 rfl (lv_at hl 1 rfl) ?_
          refine x_iload_n C dX12_replicaGets_135 rfl (lv_at hl 3 rfl) ?_
          obtain ⟨g8, h⟩ := h
          refine x_callV (rm := rm_X12_getsStart) (rest := []) (As := [.int p1, .int p3]) C cy_RX12_408 g8 (by decide) (by decide) rfl rfl (Nat.le_of_ble_eq_true rfl) hl.1 dX12_replicaGets_136 (c_X12_getsStart l D cy a0 p1 p3 σ _ h) (ks_v (fun σ9 h => ?_))
          refine x_goto (tgt := 152) C dX12_replicaGets_139 (by decide) ?_
          exact x_vret C hr dX12_replicaGets_152 ⟨rfl, h⟩
      · have h := h.2 c3
        refine x_aload_n C dX12_replicaGets_119 rfl (lv_at hl 0 rfl) ?_
        refine x_iload_n C dX12_replicaGets_120 rfl (lv_at hl 1 rfl) ?_
        obtain ⟨g10, h⟩ := h
        refine x_callV (rm := rm_X12_getsTurned) (rest := []) (As := [.int p1]) C cy_RX12_405 g10 (by decide) (by decide) rfl rfl (Nat.le_of_ble_eq_true rfl) hl.1 dX12_replicaGets_121 (c_X12_getsTurned l D cy a0 p1 σ _ h) (ks_v (fun σ11 h => ?_))
        refine x_goto (tgt := 152) C dX12_replicaGets_124 (by decide) ?_
        exact x_vret C hr dX12_replicaGets_152 ⟨rfl, h⟩
    · have h := h.2 c2
      exact t_X12_replicaGets_93 C hr hnm  p1 _ h ls (lv_sub hl [0, 1] rfl)
def b_X12_replicaGets_52 (a0 : Nat)  (Q : Sto → Prop) (p1 : Int32) (p2 : Int32) (s0 : Int32) (σ : Sto) : Prop := ((s0 = 0 → b_X12_replicaGets_81 a0  Q p1 p2 s0 σ) ∧ (¬ s0 = 0 → (sK σ a0 = 12 ∧ (∃ b3 : Nat, sP σ a0 15 = some b3 ∧ (sK σ b3 = 14 ∧ (vp_in (1 : Int32) (sN σ b3) ∧ (∀ x7 : Int32, x7 = sI σ b3 (1 : Int32).toNatClampNeg → (wp_X12_leader a0 p1 σ (fun (x10 : Int32) (σ9 : Sto) => ((¬ x7 = x10 → b_X12_replicaGets_81 a0  Q p1 p2 s0 σ9) ∧ (x7 = x10 → (sK σ9 a0 = 12 ∧ (∀ x13 : Int32, x13 = sI σ9 a0 4 → (∃ b15 : Nat, sP σ9 a0 57 = some b15 ∧ (sK σ9 b15 = 14 ∧ (vp_in p1 (sN σ9 b15) ∧ b_X12_replicaGets_81 a0  Q p1 p2 s0 (stI σ9 b15 p1.toNatClampNeg x13)))))))))))))))))
set_option maxHeartbeats 4000000 in
set_option maxRecDepth 100000 in
theorem t_X12_replicaGets_52 {p : Program} {l : Launch} {e : Env} {s : State} {m : MethodId} {args : Array Value} {below : List Frame} {meth : Method} {c : Code} {D : va_G} {cy : Nat → ClassId} {A : Nat → Prop} {a0 : Nat} {Q : Sto → Prop} (C : Cx p s m args meth c D cy A cX12_replicaGets 4 RX12) (hr : meth.sig.returnType = none) (hnm : meth.name = yX12_replicaGets.name) (p1 : Int32) (p2 : Int32) (s0 : Int32) (σ : Sto) (h : b_X12_replicaGets_52 a0  Q p1 p2 s0 σ) (ls : Array Slot) (hl : lv_has ls 4 [(0, .ref a0), (1, .int p1), (2, .int p2)]) : Xw p l e rm_X12_replicaGets s m args below meth c D cy A σ 0 0 (MQ below (Qst D cy A (PsV Q)) args s rm_X12_replicaGets.cells rm_X12_replicaGets.slots A) (F0 m 52 ls [.int s0]) := by
  unfold b_X12_replicaGets_52 at h
  refine x_istore_n (i := 3) (lv' := [(3, .int s0), (0, .ref a0), (1, .int p1), (2, .int p2)]) C dX12_replicaGets_52 rfl hl (by decide) (by first | rfl | simp [vrc, cat_i, cat_r, cat_l]) (fun ls hl => ?_)
  refine x_iload_n C dX12_replicaGets_53 rfl (lv_at hl 0 rfl) ?_
  refine x_if_eq (tgt := 81) C dX12_replicaGets_54 (by decide) (fun c1 => ?_) (fun c1 => ?_)
  · have h := h.1 c1
    exact t_X12_replicaGets_81 C hr hnm  p1 p2 s0 _ h ls (lv_sub hl [1, 2, 3, 0] rfl)
  · have h := h.2 c1
    refine x_aload_n C dX12_replicaGets_57 rfl (lv_at hl 1 rfl) ?_
    obtain ⟨g2, h⟩ := h
    refine x_getP C fl_RX12_30 g2 dX12_replicaGets_58 ?_
    refine x_iconst (v := 1) C dX12_replicaGets_61 (by decide) ?_
    obtain ⟨b3, g4, h⟩ := h
    refine x_nn1 g4 ?_
    obtain ⟨g5, h⟩ := h
    obtain ⟨g6, h⟩ := h
    refine x_iald C g5 g6 dX12_replicaGets_62 ?_
    refine x_topi (fun x7 e8 => ?_)
    have h := h x7 e8
    refine x_aload_n C dX12_replicaGets_63 rfl (lv_at hl 1 rfl) ?_
    refine x_iload_n C dX12_replicaGets_64 rfl (lv_at hl 2 rfl) ?_
    refine x_callV (rm := rm_X12_leader) (rest := [.int x7]) (As := [.int p1]) C cy_RX12_324 g2 (by decide) (by decide) rfl rfl (Nat.le_of_ble_eq_true rfl) hl.1 dX12_replicaGets_65 (c_X12_leader l D cy a0 p1 σ _ h) (ks_i (fun x10 σ9 h => ?_))
    refine x_icmp_ne (tgt := 81) C dX12_replicaGets_68 (by decide) (fun c11 => ?_) (fun c11 => ?_)
    · have h := h.1 c11
      exact t_X12_replicaGets_81 C hr hnm  p1 p2 s0 _ h ls (lv_sub hl [1, 2, 3, 0] rfl)
    · have h := h.2 c11
      refine x_aload_n C dX12_replicaGets_71 rfl (lv_at hl 1 rfl) ?_
      obtain ⟨g12, h⟩ := h
      refine x_getP C fl_RX12_152 g12 dX12_replicaGets_72 ?_
      refine x_iload_n C dX12_replicaGets_75 rfl (lv_at hl 2 rfl) ?_
      refine x_aload_n C dX12_replicaGets_76 rfl (lv_at hl 1 rfl) ?_
      refine x_getI C fl_RX12_318 g12 dX12_replicaGets_77 ?_
      refine x_topi (fun x13 e14 => ?_)
      have h := h x13 e14
      obtain ⟨b15, g16, h⟩ := h
      refine x_nn2 g16 ?_
      obtain ⟨g17, h⟩ := h
      obtain ⟨g18, h⟩ := h
      refine x_iast C g17 g18 dX12_replicaGets_80 ?_
      exact t_X12_replicaGets_81 C hr hnm  p1 p2 s0 _ h ls (lv_sub hl [1, 2, 3, 0] rfl)
def b_X12_replicaGets_51 (a0 : Nat)  (Q : Sto → Prop) (p1 : Int32) (p2 : Int32) (σ : Sto) : Prop := b_X12_replicaGets_52 a0  Q p1 p2 (0 : Int32) σ
set_option maxHeartbeats 4000000 in
set_option maxRecDepth 100000 in
theorem t_X12_replicaGets_51 {p : Program} {l : Launch} {e : Env} {s : State} {m : MethodId} {args : Array Value} {below : List Frame} {meth : Method} {c : Code} {D : va_G} {cy : Nat → ClassId} {A : Nat → Prop} {a0 : Nat} {Q : Sto → Prop} (C : Cx p s m args meth c D cy A cX12_replicaGets 4 RX12) (hr : meth.sig.returnType = none) (hnm : meth.name = yX12_replicaGets.name) (p1 : Int32) (p2 : Int32) (σ : Sto) (h : b_X12_replicaGets_51 a0  Q p1 p2 σ) (ls : Array Slot) (hl : lv_has ls 4 [(0, .ref a0), (1, .int p1), (2, .int p2)]) : Xw p l e rm_X12_replicaGets s m args below meth c D cy A σ 0 0 (MQ below (Qst D cy A (PsV Q)) args s rm_X12_replicaGets.cells rm_X12_replicaGets.slots A) (F0 m 51 ls []) := by
  unfold b_X12_replicaGets_51 at h
  refine x_iconst (v := 0) C dX12_replicaGets_51 (by decide) ?_
  exact t_X12_replicaGets_52 C hr hnm  p1 p2 (0 : Int32) _ h ls (lv_sub hl [0, 1, 2] rfl)
def wp_X12_replicaGets (a0 : Nat) (p1 : Int32) (σ : Sto) (Q : Sto → Prop) : Prop := (sK σ a0 = 12 ∧ (∃ b2 : Nat, sP σ a0 15 = some b2 ∧ (sK σ b2 = 14 ∧ (vp_in (0 : Int32) (sN σ b2) ∧ (∀ x6 : Int32, x6 = sI σ b2 (0 : Int32).toNatClampNeg → ((¬ x6 = 0 → (vp_in (3 : Int32) (sN σ b2) ∧ (∀ x10 : Int32, x10 = sI σ b2 (3 : Int32).toNatClampNeg → (∃ b12 : Nat, sP σ a0 21 = some b12 ∧ (sK σ b12 = 14 ∧ (vp_in p1 (sN σ b12) ∧ (∀ x16 : Int32, x16 = sI σ b12 p1.toNatClampNeg → ((¬ x10 = x16 → b_X12_replicaGets_51 a0  Q p1 x6 σ) ∧ (x10 = x16 → (vp_in (4 : Int32) (sN σ b2) ∧ (∀ x20 : Int32, x20 = sI σ b2 (4 : Int32).toNatClampNeg → (∃ b22 : Nat, sP σ a0 22 = some b22 ∧ (sK σ b22 = 14 ∧ (vp_in p1 (sN σ b22) ∧ (∀ x26 : Int32, x26 = sI σ b22 p1.toNatClampNeg → ((¬ x20 = x26 → b_X12_replicaGets_51 a0  Q p1 x6 σ) ∧ (x20 = x26 → b_X12_replicaGets_52 a0  Q p1 x6 (1 : Int32) σ))))))))))))))))) ∧ (x6 = 0 → (wp_X12_getsStamped a0 p1 σ (fun (σ29 : Sto) => Q σ29)))))))))
set_option maxHeartbeats 4000000 in
set_option maxRecDepth 100000 in
theorem c_X12_replicaGets (l : Launch) (D : va_G) (cy : Nat → ClassId) (a0 : Nat) (p1 : Int32) (σ : Sto) (Q : Sto → Prop) (h : wp_X12_replicaGets a0 p1 σ Q) : Mt l D cy yX12_replicaGets cX12_replicaGets 4 none rm_X12_replicaGets [.ref a0, .int p1] σ (PsV Q) := by
  unfold wp_X12_replicaGets at h
  refine mt_of (by decide +kernel) (Nat.le_of_ble_eq_true rfl) ?_
  intro p e s m args below meth c A ls C hr hnm hl
  have C : Cx p s m args meth c D cy A cX12_replicaGets 4 RX12 := C
  have hl : lv_has ls 4 [(0, .ref a0), (1, .int p1)] := hl
  refine x_aload_n C dX12_replicaGets_0 rfl (lv_at hl 0 rfl) ?_
  obtain ⟨g1, h⟩ := h
  refine x_getP C fl_RX12_30 g1 dX12_replicaGets_1 ?_
  refine x_iconst (v := 0) C dX12_replicaGets_4 (by decide) ?_
  obtain ⟨b2, g3, h⟩ := h
  refine x_nn1 g3 ?_
  obtain ⟨g4, h⟩ := h
  obtain ⟨g5, h⟩ := h
  refine x_iald C g4 g5 dX12_replicaGets_5 ?_
  refine x_topi (fun x6 e7 => ?_)
  have h := h x6 e7
  refine x_istore_n (i := 2) (lv' := [(2, .int x6), (0, .ref a0), (1, .int p1)]) C dX12_replicaGets_6 rfl hl (by decide) (by first | rfl | simp [vrc, cat_i, cat_r, cat_l]) (fun ls hl => ?_)
  refine x_iload_n C dX12_replicaGets_7 rfl (lv_at hl 0 rfl) ?_
  refine x_if_ne (tgt := 17) C dX12_replicaGets_8 (by decide) (fun c8 => ?_) (fun c8 => ?_)
  · have h := h.1 c8
    refine x_aload_n C dX12_replicaGets_17 rfl (lv_at hl 1 rfl) ?_
    refine x_getP C fl_RX12_30 g1 dX12_replicaGets_18 ?_
    refine x_iconst (v := 3) C dX12_replicaGets_21 (by decide) ?_
    refine x_nn1 g3 ?_
    obtain ⟨g9, h⟩ := h
    refine x_iald C g4 g9 dX12_replicaGets_22 ?_
    refine x_topi (fun x10 e11 => ?_)
    have h := h x10 e11
    refine x_aload_n C dX12_replicaGets_23 rfl (lv_at hl 1 rfl) ?_
    refine x_getP C fl_RX12_44 g1 dX12_replicaGets_24 ?_
    refine x_iload_n C dX12_replicaGets_27 rfl (lv_at hl 2 rfl) ?_
    obtain ⟨b12, g13, h⟩ := h
    refine x_nn1 g13 ?_
    obtain ⟨g14, h⟩ := h
    obtain ⟨g15, h⟩ := h
    refine x_iald C g14 g15 dX12_replicaGets_28 ?_
    refine x_topi (fun x16 e17 => ?_)
    have h := h x16 e17
    refine x_icmp_ne (tgt := 51) C dX12_replicaGets_29 (by decide) (fun c18 => ?_) (fun c18 => ?_)
    · have h := h.1 c18
      exact t_X12_replicaGets_51 C hr hnm  p1 x6 _ h ls (lv_sub hl [1, 2, 0] rfl)
    · have h := h.2 c18
      refine x_aload_n C dX12_replicaGets_32 rfl (lv_at hl 1 rfl) ?_
      refine x_getP C fl_RX12_30 g1 dX12_replicaGets_33 ?_
      refine x_iconst (v := 4) C dX12_replicaGets_36 (by decide) ?_
      refine x_nn1 g3 ?_
      obtain ⟨g19, h⟩ := h
      refine x_iald C g4 g19 dX12_replicaGets_37 ?_
      refine x_topi (fun x20 e21 => ?_)
      have h := h x20 e21
      refine x_aload_n C dX12_replicaGets_38 rfl (lv_at hl 1 rfl) ?_
      refine x_getP C fl_RX12_47 g1 dX12_replicaGets_39 ?_
      refine x_iload_n C dX12_replicaGets_42 rfl (lv_at hl 2 rfl) ?_
      obtain ⟨b22, g23, h⟩ := h
      refine x_nn1 g23 ?_
      obtain ⟨g24, h⟩ := h
      obtain ⟨g25, h⟩ := h
      refine x_iald C g24 g25 dX12_replicaGets_43 ?_
      refine x_topi (fun x26 e27 => ?_)
      have h := h x26 e27
      refine x_icmp_ne (tgt := 51) C dX12_replicaGets_44 (by decide) (fun c28 => ?_) (fun c28 => ?_)
      · have h := h.1 c28
        exact t_X12_replicaGets_51 C hr hnm  p1 x6 _ h ls (lv_sub hl [1, 2, 0] rfl)
      · have h := h.2 c28
        refine x_iconst (v := 1) C dX12_replicaGets_47 (by decide) ?_
        refine x_goto (tgt := 52) C dX12_replicaGets_48 (by decide) ?_
        exact t_X12_replicaGets_52 C hr hnm  p1 x6 (1 : Int32) _ h ls (lv_sub hl [1, 2, 0] rfl)
  · have h := h.2 c8
    refine x_aload_n C dX12_replicaGets_11 rfl (lv_at hl 1 rfl) ?_
    refine x_iload_n C dX12_replicaGets_12 rfl (lv_at hl 2 rfl) ?_
    refine x_callV (rm := rm_X12_getsStamped) (rest := []) (As := [.int p1]) C cy_RX12_399 g1 (by decide) (by decide) rfl rfl (Nat.le_of_ble_eq_true rfl) hl.1 dX12_replicaGets_13 (c_X12_getsStamped l D cy a0 p1 σ _ h) (ks_v (fun σ29 h => ?_))
    exact x_vret C hr dX12_replicaGets_16 ⟨rfl, h⟩
