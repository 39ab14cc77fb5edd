theorem dX8_leads_0 : decode cX8_leads 0 = .ok (.aload_n 0, 1) := by decide +kernel
theorem dX8_leads_1 : decode cX8_leads 1 = .ok (.getfield 33, 3) := by decide +kernel
theorem dX8_leads_4 : decode cX8_leads 4 = .ok (.aload_n 0, 1) := by decide +kernel
theorem dX8_leads_5 : decode cX8_leads 5 = .ok (.getfield 13, 3) := by decide +kernel
theorem dX8_leads_8 : decode cX8_leads 8 = .ok (.invokevirtual 55, 3) := by decide +kernel
theorem dX8_leads_11 : decode cX8_leads 11 = .ok (.aload_n 0, 1) := by decide +kernel
theorem dX8_leads_12 : decode cX8_leads 12 = .ok (.getfield 29, 3) := by decide +kernel
theorem dX8_leads_15 : decode cX8_leads 15 = .ok (.if_icmp .ne 7, 3) := by decide +kernel
theorem dX8_leads_18 : decode cX8_leads 18 = .ok (.iconst 1, 1) := by decide +kernel
theorem dX8_leads_19 : decode cX8_leads 19 = .ok (.goto 4, 3) := by decide +kernel
theorem dX8_leads_22 : decode cX8_leads 22 = .ok (.iconst 0, 1) := by decide +kernel
theorem dX8_leads_23 : decode cX8_leads 23 = .ok (.ireturn, 1) := by decide +kernel
abbrev rm_X8_leads : Room := { frames := 2, cells := 0, slots := 0, locals := 44 }
def wp_X8_leads (a0 : Nat)  (σ : Sto) (Q : Int32 → Sto → Prop) : Prop := (sK σ a0 = 8 ∧ (∀ y2 : Int64, y2 = sJ σ a0 5 → (∃ b4 : Nat, sP σ a0 1 = some b4 ∧ (sK σ b4 = 4 ∧ (wp_X4_leaderOf b4 y2 σ (fun (x8 : Int32) (σ7 : Sto) => (sK σ7 a0 = 8 ∧ (∀ x10 : Int32, x10 = sI σ7 a0 0 → ((¬ x8 = x10 → Q (0 : Int32) σ7) ∧ (x8 = x10 → Q (1 : Int32) σ7))))))))))
set_option maxHeartbeats 4000000 in
set_option maxRecDepth 100000 in
theorem c_X8_leads (l : Launch) (D : va_G) (cy : Nat → ClassId) (a0 : Nat)  (σ : Sto) (Q : Int32 → Sto → Prop) (h : wp_X8_leads a0  σ Q) : Mt l D cy yX8_leads cX8_leads 1 (some .boolean) rm_X8_leads [.ref a0] σ (PsI Q) := by
  unfold wp_X8_leads at h
  refine mt_of (by decide +kernel) (Nat.le_of_ble_eq_true rfl) ?_
  intro p e s m args below meth c A ls C hr hnm hl
  have C : Cx p s m args meth c D cy A cX8_leads 1 RX8 := C
  have hl : lv_has ls 1 [(0, .ref a0)] := hl
  refine x_aload_n C dX8_leads_0 rfl (lv_at hl 0 rfl) ?_
  obtain ⟨g1, h⟩ := h
  refine x_getP C fl_RX8_33 g1 dX8_leads_1 ?_
  refine x_aload_n C dX8_leads_4 rfl (lv_at hl 0 rfl) ?_
  refine x_getJ C fl_RX8_13 g1 dX8_leads_5 ?_
  refine x_topj (fun y2 e3 => ?_)
  have h := h y2 e3
  obtain ⟨b4, g5, h⟩ := h
  refine x_nn1 g5 ?_
  obtain ⟨g6, h⟩ := h
  refine x_callV (rm := rm_X4_leaderOf) (rest := []) (As := [.long y2]) C cy_RX8_55 g6 (by decide) (by decide) rfl rfl (Nat.le_of_ble_eq_true rfl) hl.1 dX8_leads_8 (c_X4_leaderOf l D cy b4 y2 σ _ h) (ks_i (fun x8 σ7 h => ?_))
  refine x_aload_n C dX8_leads_11 rfl (lv_at hl 0 rfl) ?_
  obtain ⟨g9, h⟩ := h
  refine x_getI C fl_RX8_29 g9 dX8_leads_12 ?_
  refine x_topi (fun x10 e11 => ?_)
  have h := h x10 e11
  refine x_icmp_ne (tgt := 22) C dX8_leads_15 (by decide) (fun c12 => ?_) (fun c12 => ?_)
  · have h := h.1 c12
    refine x_iconst (v := 0) C dX8_leads_22 (by decide) ?_
    exact x_zret C hr dX8_leads_23 (by decide) ⟨_, rfl, h⟩
  · have h := h.2 c12
    refine x_iconst (v := 1) C dX8_leads_18 (by decide) ?_
    refine x_goto (tgt := 23) C dX8_leads_19 (by decide) ?_
    exact x_zret C hr dX8_leads_23 (by decide) ⟨_, rfl, h⟩
theorem dX8_executedEnd_0 : decode cX8_executedEnd 0 = .ok (.aload_n 0, 1) := by decide +kernel
theorem dX8_executedEnd_1 : decode cX8_executedEnd 1 = .ok (.invokevirtual 59, 3) := by decide +kernel
theorem dX8_executedEnd_4 : decode cX8_executedEnd 4 = .ok (.ifCond .eq 21, 3) := by decide +kernel
theorem dX8_executedEnd_7 : decode cX8_executedEnd 7 = .ok (.aload_n 0, 1) := by decide +kernel
theorem dX8_executedEnd_8 : decode cX8_executedEnd 8 = .ok (.getfield 63, 3) := by decide +kernel
theorem dX8_executedEnd_11 : decode cX8_executedEnd 11 = .ok (.iconst 2, 1) := by decide +kernel
theorem dX8_executedEnd_12 : decode cX8_executedEnd 12 = .ok (.if_icmp .eq 13, 3) := by decide +kernel
theorem dX8_executedEnd_15 : decode cX8_executedEnd 15 = .ok (.aload_n 0, 1) := by decide +kernel
theorem dX8_executedEnd_16 : decode cX8_executedEnd 16 = .ok (.getfield 25, 3) := by decide +kernel
theorem dX8_executedEnd_19 : decode cX8_executedEnd 19 = .ok (.getfield 66, 3) := by decide +kernel
theorem dX8_executedEnd_22 : decode cX8_executedEnd 22 = .ok (.goto 17, 3) := by decide +kernel
theorem dX8_executedEnd_25 : decode cX8_executedEnd 25 = .ok (.aload_n 0, 1) := by decide +kernel
theorem dX8_executedEnd_26 : decode cX8_executedEnd 26 = .ok (.getfield 69, 3) := by decide +kernel
theorem dX8_executedEnd_29 : decode cX8_executedEnd 29 = .ok (.aload_n 0, 1) := by decide +kernel
theorem dX8_executedEnd_30 : decode cX8_executedEnd 30 = .ok (.getfield 25, 3) := by decide +kernel
theorem dX8_executedEnd_33 : decode cX8_executedEnd 33 = .ok (.getfield 66, 3) := by decide +kernel
theorem dX8_executedEnd_36 : decode cX8_executedEnd 36 = .ok (.invokestatic 72, 3) := by decide +kernel
theorem dX8_executedEnd_39 : decode cX8_executedEnd 39 = .ok (.ireturn, 1) := by decide +kernel
abbrev rm_X8_executedEnd : Room := { frames := 3, cells := 0, slots := 0, locals := 64 }
def b_X8_executedEnd_25 (a0 : Nat)  (Q : Int32 → Sto → Prop)  (σ : Sto) : Prop := (sK σ a0 = 8 ∧ (∀ x2 : Int32, x2 = sI σ a0 8 → (∃ b4 : Nat, sP σ a0 7 = some b4 ∧ (sK σ b4 = 2 ∧ (∀ x7 : Int32, x7 = sI σ b4 1 → (wp_J9_min_7cf53 x2 x7 σ (fun (x10 : Int32) (σ9 : Sto) => Q x10 σ9)))))))
set_option maxHeartbeats 4000000 in
set_option maxRecDepth 100000 in
theorem t_X8_executedEnd_25 {p : Program} {l : Launch} {e : Env} {s : State} {m : MethodId} {args : Array Value} {below : List Frame} {meth : Method} {c : Code} {D : va_G} {cy : Nat → ClassId} {A : Nat → Prop} {a0 : Nat} {Q : Int32 → Sto → Prop} (C : Cx p s m args meth c D cy A cX8_executedEnd 1 RX8) (hr : meth.sig.returnType = (some .int)) (hnm : meth.name = yX8_executedEnd.name)  (σ : Sto) (h : b_X8_executedEnd_25 a0  Q  σ) (ls : Array Slot) (hl : lv_has ls 1 [(0, .ref a0)]) : Xw p l e rm_X8_executedEnd s m args below meth c D cy A σ 0 0 (MQ below (Qst D cy A (PsI Q)) args s rm_X8_executedEnd.cells rm_X8_executedEnd.slots A) (F0 m 25 ls []) := by
  unfold b_X8_executedEnd_25 at h
  refine x_aload_n C dX8_executedEnd_25 rfl (lv_at hl 0 rfl) ?_
  obtain ⟨g1, h⟩ := h
  refine x_getI C fl_RX8_69 g1 dX8_executedEnd_26 ?_
  refine x_topi (fun x2 e3 => ?_)
  have h := h x2 e3
  refine x_aload_n C dX8_executedEnd_29 rfl (lv_at hl 0 rfl) ?_
  refine x_getP C fl_RX8_25 g1 dX8_executedEnd_30 ?_
  obtain ⟨b4, g5, h⟩ := h
  refine x_nn0 g5 ?_
  obtain ⟨g6, h⟩ := h
  refine x_getI C fl_RX8_66 g6 dX8_executedEnd_33 ?_
  refine x_topi (fun x7 e8 => ?_)
  have h := h x7 e8
  refine x_callS (rm := rm_J9_min_7cf53) (rest := []) (As := [.int x2, .int x7]) C cs_RX8_72 (by decide) (by decide) rfl rfl (Nat.le_of_ble_eq_true rfl) hl.1 dX8_executedEnd_36 (c_J9_min_7cf53 l D cy x2 x7 σ _ h) (ks_i (fun x10 σ9 h => ?_))
  exact x_iret C hr dX8_executedEnd_39 ⟨_, rfl, h⟩
def wp_X8_executedEnd (a0 : Nat)  (σ : Sto) (Q : Int32 → Sto → Prop) : Prop := (sK σ a0 = 8 ∧ (wp_X8_leads a0  σ (fun (x3 : Int32) (σ2 : Sto) => ((x3 = 0 → b_X8_executedEnd_25 a0  Q  σ2) ∧ (¬ x3 = 0 → (sK σ2 a0 = 8 ∧ (∀ x6 : Int32, x6 = sI σ2 a0 4 → ((x6 = (2 : Int32) → b_X8_executedEnd_25 a0  Q  σ2) ∧ (¬ x6 = (2 : Int32) → (∃ b9 : Nat, sP σ2 a0 7 = some b9 ∧ (sK σ2 b9 = 2 ∧ (∀ x12 : Int32, x12 = sI σ2 b9 1 → Q x12 σ2))))))))))))
set_option maxHeartbeats 4000000 in
set_option maxRecDepth 100000 in
theorem c_X8_executedEnd (l : Launch) (D : va_G) (cy : Nat → ClassId) (a0 : Nat)  (σ : Sto) (Q : Int32 → Sto → Prop) (h : wp_X8_executedEnd a0  σ Q) : Mt l D cy yX8_executedEnd cX8_executedEnd 1 (some .int) rm_X8_executedEnd [.ref a0] σ (PsI Q) := by
  unfold wp_X8_executedEnd at h
  refine mt_of (by decide +kernel) (Nat.le_of_ble_eq_true rfl) ?_
  intro p e s m args below meth c A ls C hr hnm hl
  have C : Cx p s m args meth c D cy A cX8_executedEnd 1 RX8 := C
  have hl : lv_has ls 1 [(0, .ref a0)] := hl
  refine x_aload_n C dX8_executedEnd_0 rfl (lv_at hl 0 rfl) ?_
  obtain ⟨g1, h⟩ := h
  refine x_callV (rm := rm_X8_leads) (rest := []) (As := []) C cy_RX8_59 g1 (by decide) (by decide) rfl rfl (Nat.le_of_ble_eq_true rfl) hl.1 dX8_executedEnd_1 (c_X8_leads l D cy a0  σ _ h) (ks_i (fun x3 σ2 h => ?_))
  refine x_if_eq (tgt := 25) C dX8_executedEnd_4 (by decide) (fun c4 => ?_) (fun c4 => ?_)
  · have h := h.1 c4
    exact t_X8_executedEnd_25 C hr hnm   _ h ls (lv_sub hl [0] rfl)
  · have h := h.2 c4
    refine x_aload_n C dX8_executedEnd_7 rfl (lv_at hl 0 rfl) ?_
    obtain ⟨g5, h⟩ := h
    refine x_getI C fl_RX8_63 g5 dX8_executedEnd_8 ?_
    refine x_topi (fun x6 e7 => ?_)
    have h := h x6 e7
    refine x_iconst (v := 2) C dX8_executedEnd_11 (by decide) ?_
    refine x_icmp_eq (tgt := 25) C dX8_executedEnd_12 (by decide) (fun c8 => ?_) (fun c8 => ?_)
    · have h := h.1 c8
      exact t_X8_executedEnd_25 C hr hnm   _ h ls (lv_sub hl [0] rfl)
    · have h := h.2 c8
      refine x_aload_n C dX8_executedEnd_15 rfl (lv_at hl 0 rfl) ?_
      refine x_getP C fl_RX8_25 g5 dX8_executedEnd_16 ?_
      obtain ⟨b9, g10, h⟩ := h
      refine x_nn0 g10 ?_
      obtain ⟨g11, h⟩ := h
      refine x_getI C fl_RX8_66 g11 dX8_executedEnd_19 ?_
      refine x_topi (fun x12 e13 => ?_)
      have h := h x12 e13
      refine x_goto (tgt := 39) C dX8_executedEnd_22 (by decide) ?_
      exact x_iret C hr dX8_executedEnd_39 ⟨_, rfl, h⟩
theorem dX11_isBehind_0 : decode cX11_isBehind 0 = .ok (.lload_n 0, 1) := by decide +kernel
theorem dX11_isBehind_1 : decode cX11_isBehind 1 = .ok (.lload_n 2, 1) := by decide +kernel
theorem dX11_isBehind_2 : decode cX11_isBehind 2 = .ok (.lcmp, 1) := by decide +kernel
theorem dX11_isBehind_3 : decode cX11_isBehind 3 = .ok (.ifCond .eq 29, 3) := by decide +kernel
theorem dX11_isBehind_6 : decode cX11_isBehind 6 = .ok (.lload_n 0, 1) := by decide +kernel
theorem dX11_isBehind_7 : decode cX11_isBehind 7 = .ok (.invokestatic 226, 3) := by decide +kernel
theorem dX11_isBehind_10 : decode cX11_isBehind 10 = .ok (.lload_n 2, 1) := by decide +kernel
theorem dX11_isBehind_11 : decode cX11_isBehind 11 = .ok (.invokestatic 226, 3) := by decide +kernel
theorem dX11_isBehind_14 : decode cX11_isBehind 14 = .ok (.if_icmp .gt 18, 3) := by decide +kernel
theorem dX11_isBehind_17 : decode cX11_isBehind 17 = .ok (.lload_n 0, 1) := by decide +kernel
theorem dX11_isBehind_18 : decode cX11_isBehind 18 = .ok (.invokestatic 230, 3) := by decide +kernel
theorem dX11_isBehind_21 : decode cX11_isBehind 21 = .ok (.lload_n 2, 1) := by decide +kernel
theorem dX11_isBehind_22 : decode cX11_isBehind 22 = .ok (.invokestatic 230, 3) := by decide +kernel
theorem dX11_isBehind_25 : decode cX11_isBehind 25 = .ok (.if_icmp .gt 7, 3) := by decide +kernel
theorem dX11_isBehind_28 : decode cX11_isBehind 28 = .ok (.iconst 1, 1) := by decide +kernel
theorem dX11_isBehind_29 : decode cX11_isBehind 29 = .ok (.goto 4, 3) := by decide +kernel
theorem dX11_isBehind_32 : decode cX11_isBehind 32 = .ok (.iconst 0, 1) := by decide +kernel
theorem dX11_isBehind_33 : decode cX11_isBehind 33 = .ok (.ireturn, 1) := by decide +kernel
abbrev rm_X11_isBehind : Room := { frames := 1, cells := 0, slots := 0, locals := 21 }
def wp_X11_isBehind (p0 : Int64) (p2 : Int64) (σ : Sto) (Q : Int32 → Sto → Prop) : Prop := (((lg_cmp p0 p2) = 0 → Q (0 : Int32) σ) ∧ (¬ (lg_cmp p0 p2) = 0 → (wp_X11_leadOf p0 σ (fun (x3 : Int32) (σ2 : Sto) => (wp_X11_leadOf p2 σ2 (fun (x5 : Int32) (σ4 : Sto) => ((x5 < x3 → Q (0 : Int32) σ4) ∧ (¬ x5 < x3 → (wp_X11_sessionOf p0 σ4 (fun (x8 : Int32) (σ7 : Sto) => (wp_X11_sessionOf p2 σ7 (fun (x10 : Int32) (σ9 : Sto) => ((x10 < x8 → Q (0 : Int32) σ9) ∧ (¬ x10 < x8 → Q (1 : Int32) σ9))))))))))))))
set_option maxHeartbeats 4000000 in
set_option maxRecDepth 100000 in
theorem c_X11_isBehind (l : Launch) (D : va_G) (cy : Nat → ClassId) (p0 : Int64) (p2 : Int64) (σ : Sto) (Q : Int32 → Sto → Prop) (h : wp_X11_isBehind p0 p2 σ Q) : Mt l D cy yX11_isBehind cX11_isBehind 4 (some .boolean) rm_X11_isBehind [.long p0, .long p2] σ (PsI Q) := by
  unfold wp_X11_isBehind at h
  refine mt_of (by decide +kernel) (Nat.le_of_ble_eq_true rfl) ?_
  intro p e s m args below meth c A ls C hr hnm hl
  have C : Cx p s m args meth c D cy A cX11_isBehind 4 RX11 := C
  have hl : lv_has ls 4 [(0, .long p0), (2, .long p2)] := hl
  refine x_lload_n C dX11_isBehind_0 rfl (lv_at hl 0 rfl) ?_
  refine x_lload_n C dX11_isBehind_1 rfl (lv_at hl 1 rfl) ?_
  refine x_lcmp C dX11_isBehind_2 ?_
  refine x_if_eq (tgt := 32) C dX11_isBehind_3 (by decide) (fun c1 => ?_) (fun c1 => ?_)
  · have h := h.1 c1
    refine x_iconst (v := 0) C dX11_isBehind_32 (by decide) ?_
    exact x_zret C hr dX11_isBehind_33 (by decide) ⟨_, rfl, h⟩
  · have h := h.2 c1
    refine x_lload_n C dX11_isBehind_6 rfl (lv_at hl 0 rfl) ?_
    refine x_callS (rm := rm_X11_leadOf) (rest := []) (As := [.long p0]) C cs_RX11_226 (by decide) (by decide) rfl rfl (Nat.le_of_ble_eq_true rfl) hl.1 dX11_isBehind_7 (c_X11_leadOf l D cy p0 σ _ h) (ks_i (fun x3 σ2 h => ?_))
    refine x_lload_n C dX11_isBehind_10 rfl (lv_at hl 1 rfl) ?_
    refine x_callS (rm := rm_X11_leadOf) (rest := [.int x3]) (As := [.long p2]) C cs_RX11_226 (by decide) (by decide) rfl rfl (Nat.le_of_ble_eq_true rfl) hl.1 dX11_isBehind_11 (c_X11_leadOf l D cy p2 σ2 _ h) (ks_i (fun x5 σ4 h => ?_))
    refine x_icmp_gt (tgt := 32) C dX11_isBehind_14 (by decide) (fun c6 => ?_) (fun c6 => ?_)
    · have h := h.1 c6
      refine x_iconst (v := 0) C dX11_isBehind_32 (by decide) ?_
      exact x_zret C hr dX11_isBehind_33 (by decide) ⟨_, rfl, h⟩
    · have h := h.2 c6
      refine x_lload_n C dX11_isBehind_17 rfl (lv_at hl 0 rfl) ?_
      refine x_callS (rm := rm_X11_sessionOf) (rest := []) (As := [.long p0]) C cs_RX11_230 (by decide) (by decide) rfl rfl (Nat.le_of_ble_eq_true rfl) hl.1 dX11_isBehind_18 (c_X11_sessionOf l D cy p0 σ4 _ h) (ks_i (fun x8 σ7 h => ?_))
      refine x_lload_n C dX11_isBehind_21 rfl (lv_at hl 1 rfl) ?_
      refine x_callS (rm := rm_X11_sessionOf) (rest := [.int x8]) (As := [.long p2]) C cs_RX11_230 (by decide) (by decide) rfl rfl (Nat.le_of_ble_eq_true rfl) hl.1 dX11_isBehind_22 (c_X11_sessionOf l D cy p2 σ7 _ h) (ks_i (fun x10 σ9 h => ?_))
      refine x_icmp_gt (tgt := 32) C dX11_isBehind_25 (by decide) (fun c11 => ?_) (fun c11 => ?_)
      · have h := h.1 c11
        refine x_iconst (v := 0) C dX11_isBehind_32 (by decide) ?_
        exact x_zret C hr dX11_isBehind_33 (by decide) ⟨_, rfl, h⟩
      · have h := h.2 c11
        refine x_iconst (v := 1) C dX11_isBehind_28 (by decide) ?_
        refine x_goto (tgt := 33) C dX11_isBehind_29 (by decide) ?_
        exact x_zret C hr dX11_isBehind_33 (by decide) ⟨_, rfl, h⟩
theorem dX8_tellTurn_0 : decode cX8_tellTurn 0 = .ok (.aload_n 0, 1) := by decide +kernel
theorem dX8_tellTurn_1 : decode cX8_tellTurn 1 = .ok (.aload_n 0, 1) := by decide +kernel
theorem dX8_tellTurn_2 : decode cX8_tellTurn 2 = .ok (.getfield 33, 3) := by decide +kernel
theorem dX8_tellTurn_5 : decode cX8_tellTurn 5 = .ok (.getfield 87, 3) := by decide +kernel
theorem dX8_tellTurn_8 : decode cX8_tellTurn 8 = .ok (.putfield 241, 3) := by decide +kernel
theorem dX8_tellTurn_11 : decode cX8_tellTurn 11 = .ok (.iconst 0, 1) := by decide +kernel
theorem dX8_tellTurn_12 : decode cX8_tellTurn 12 = .ok (.istore_n 1, 1) := by decide +kernel
theorem dX8_tellTurn_13 : decode cX8_tellTurn 13 = .ok (.iload_n 1, 1) := by decide +kernel
theorem dX8_tellTurn_14 : decode cX8_tellTurn 14 = .ok (.aload_n 0, 1) := by decide +kernel
theorem dX8_tellTurn_15 : decode cX8_tellTurn 15 = .ok (.getfield 33, 3) := by decide +kernel
theorem dX8_tellTurn_18 : decode cX8_tellTurn 18 = .ok (.getfield 43, 3) := by decide +kernel
theorem dX8_tellTurn_21 : decode cX8_tellTurn 21 = .ok (.if_icmp .ge 37, 3) := by decide +kernel
theorem dX8_tellTurn_24 : decode cX8_tellTurn 24 = .ok (.iload_n 1, 1) := by decide +kernel
theorem dX8_tellTurn_25 : decode cX8_tellTurn 25 = .ok (.aload_n 0, 1) := by decide +kernel
theorem dX8_tellTurn_26 : decode cX8_tellTurn 26 = .ok (.getfield 29, 3) := by decide +kernel
theorem dX8_tellTurn_29 : decode cX8_tellTurn 29 = .ok (.if_icmp .eq 23, 3) := by decide +kernel
theorem dX8_tellTurn_32 : decode cX8_tellTurn 32 = .ok (.aload_n 0, 1) := by decide +kernel
theorem dX8_tellTurn_33 : decode cX8_tellTurn 33 = .ok (.getfield 33, 3) := by decide +kernel
theorem dX8_tellTurn_36 : decode cX8_tellTurn 36 = .ok (.bipush 8, 2) := by decide +kernel
theorem dX8_tellTurn_38 : decode cX8_tellTurn 38 = .ok (.aload_n 0, 1) := by decide +kernel
theorem dX8_tellTurn_39 : decode cX8_tellTurn 39 = .ok (.getfield 29, 3) := by decide +kernel
theorem dX8_tellTurn_42 : decode cX8_tellTurn 42 = .ok (.iload_n 1, 1) := by decide +kernel
theorem dX8_tellTurn_43 : decode cX8_tellTurn 43 = .ok (.aload_n 0, 1) := by decide +kernel
theorem dX8_tellTurn_44 : decode cX8_tellTurn 44 = .ok (.getfield 13, 3) := by decide +kernel
theorem dX8_tellTurn_47 : decode cX8_tellTurn 47 = .ok (.iconst 0, 1) := by decide +kernel
theorem dX8_tellTurn_48 : decode cX8_tellTurn 48 = .ok (.invokevirtual 171, 3) := by decide +kernel
theorem dX8_tellTurn_51 : decode cX8_tellTurn 51 = .ok (.pop, 1) := by decide +kernel
theorem dX8_tellTurn_52 : decode cX8_tellTurn 52 = .ok (.iinc 1 1, 3) := by decide +kernel
theorem dX8_tellTurn_55 : decode cX8_tellTurn 55 = .ok (.goto (-42), 3) := by decide +kernel
theorem dX8_tellTurn_58 : decode cX8_tellTurn 58 = .ok (.aload_n 0, 1) := by decide +kernel
theorem dX8_tellTurn_59 : decode cX8_tellTurn 59 = .ok (.getfield 33, 3) := by decide +kernel
theorem dX8_tellTurn_62 : decode cX8_tellTurn 62 = .ok (.aload_n 0, 1) := by decide +kernel
theorem dX8_tellTurn_63 : decode cX8_tellTurn 63 = .ok (.getfield 13, 3) := by decide +kernel
theorem dX8_tellTurn_66 : decode cX8_tellTurn 66 = .ok (.invokevirtual 55, 3) := by decide +kernel
theorem dX8_tellTurn_69 : decode cX8_tellTurn 69 = .ok (.istore_n 1, 1) := by decide +kernel
theorem dX8_tellTurn_70 : decode cX8_tellTurn 70 = .ok (.iload_n 1, 1) := by decide +kernel
theorem dX8_tellTurn_71 : decode cX8_tellTurn 71 = .ok (.aload_n 0, 1) := by decide +kernel
theorem dX8_tellTurn_72 : decode cX8_tellTurn 72 = .ok (.getfield 29, 3) := by decide +kernel
theorem dX8_tellTurn_75 : decode cX8_tellTurn 75 = .ok (.if_icmp .eq 42, 3) := by decide +kernel
theorem dX8_tellTurn_78 : decode cX8_tellTurn 78 = .ok (.aload_n 0, 1) := by decide +kernel
theorem dX8_tellTurn_79 : decode cX8_tellTurn 79 = .ok (.getfield 33, 3) := by decide +kernel
theorem dX8_tellTurn_82 : decode cX8_tellTurn 82 = .ok (.bipush 9, 2) := by decide +kernel
theorem dX8_tellTurn_84 : decode cX8_tellTurn 84 = .ok (.aload_n 0, 1) := by decide +kernel
theorem dX8_tellTurn_85 : decode cX8_tellTurn 85 = .ok (.getfield 29, 3) := by decide +kernel
theorem dX8_tellTurn_88 : decode cX8_tellTurn 88 = .ok (.iload_n 1, 1) := by decide +kernel
theorem dX8_tellTurn_89 : decode cX8_tellTurn 89 = .ok (.aload_n 0, 1) := by decide +kernel
theorem dX8_tellTurn_90 : decode cX8_tellTurn 90 = .ok (.getfield 13, 3) := by decide +kernel
theorem dX8_tellTurn_93 : decode cX8_tellTurn 93 = .ok (.iconst 0, 1) := by decide +kernel
theorem dX8_tellTurn_94 : decode cX8_tellTurn 94 = .ok (.invokevirtual 171, 3) := by decide +kernel
theorem dX8_tellTurn_97 : decode cX8_tellTurn 97 = .ok (.astore_n 2, 1) := by decide +kernel
theorem dX8_tellTurn_98 : decode cX8_tellTurn 98 = .ok (.aload_n 2, 1) := by decide +kernel
theorem dX8_tellTurn_99 : decode cX8_tellTurn 99 = .ok (.aload_n 0, 1) := by decide +kernel
theorem dX8_tellTurn_100 : decode cX8_tellTurn 100 = .ok (.getfield 19, 3) := by decide +kernel
theorem dX8_tellTurn_103 : decode cX8_tellTurn 103 = .ok (.putfield 282, 3) := by decide +kernel
theorem dX8_tellTurn_106 : decode cX8_tellTurn 106 = .ok (.aload_n 2, 1) := by decide +kernel
theorem dX8_tellTurn_107 : decode cX8_tellTurn 107 = .ok (.getfield 116, 3) := by decide +kernel
theorem dX8_tellTurn_110 : decode cX8_tellTurn 110 = .ok (.aload_n 0, 1) := by decide +kernel
theorem dX8_tellTurn_111 : decode cX8_tellTurn 111 = .ok (.getfield 25, 3) := by decide +kernel
theorem dX8_tellTurn_114 : decode cX8_tellTurn 114 = .ok (.invokevirtual 218, 3) := by decide +kernel
theorem dX8_tellTurn_117 : decode cX8_tellTurn 117 = .ok (.return_, 1) := by decide +kernel
abbrev rm_X8_tellTurn : Room := { frames := 2, cells := 0, slots := 0, locals := 44 }
def b_X8_tellTurn_52 (a0 : Nat) (L13 : Int32 → Sto → Prop) (Q : Sto → Prop) (p1 : Int32) (σ : Sto) : Prop := (∀ x1 : Int32, x1 = p1 + (1 : Int32) → L13 (x1) σ)
set_option maxHeartbeats 4000000 in
set_option maxRecDepth 100000 in
theorem t_X8_tellTurn_52 {p : Program} {l : Launch} {e : Env} {s : State} {m : MethodId} {args : Array Value} {below : List Frame} {meth : Method} {c : Code} {D : va_G} {cy : Nat → ClassId} {A : Nat → Prop} {a0 : Nat} {L13 : Int32 → Sto → Prop} {Q : Sto → Prop} (C : Cx p s m args meth c D cy A cX8_tellTurn 3 RX8) (hr : meth.sig.returnType = none) (hnm : meth.name = yX8_tellTurn.name) (hL13 : ∀ (t : Int32) (σ : Sto), L13 t σ → ∀ ls : Array Slot, lv_has ls 3 [(0, .ref a0), (1, .int t)] → Xw p l e rm_X8_tellTurn s m args below meth c D cy A σ 0 0 (MQ below (Qst D cy A (PsV Q)) args s rm_X8_tellTurn.cells rm_X8_tellTurn.slots A) (F0 m 13 ls [])) (p1 : Int32) (σ : Sto) (h : b_X8_tellTurn_52 a0 L13 Q p1 σ) (ls : Array Slot) (hl : lv_has ls 3 [(0, .ref a0), (1, .int p1)]) : Xw p l e rm_X8_tellTurn s m args below meth c D cy A σ 0 0 (MQ below (Qst D cy A (PsV Q)) args s rm_X8_tellTurn.cells rm_X8_tellTurn.slots A) (F0 m 52 ls []) := by
  unfold b_X8_tellTurn_52 at h
  obtain ⟨x1, e2⟩ : ∃ z : Int32, z = p1 + (1 : Int32) := ⟨_, rfl⟩
  have h := h x1 e2
  refine x_iinc (v := x1) (lv' := [(1, .int x1), (0, .ref a0)]) C dX8_tellTurn_52 hl (q0 := 1) rfl (by rw [e2]; rfl) (by decide) (by first | rfl | simp [vrc, cat_i, cat_r, cat_l]) (fun ls hl => ?_)
  refine x_goto (tgt := 13) C dX8_tellTurn_55 (by decide) ?_
  exact hL13 (x1) _ h ls (lv_sub hl [1, 0] rfl)
def f_X8_tellTurn_13 (a0 : Nat)  (Q : Sto → Prop) (L13 : Int32 → Sto → Prop) (t : Int32) (σ : Sto) : Prop := (sK σ a0 = 8 ∧ (∃ b2 : Nat, sP σ a0 1 = some b2 ∧ (sK σ b2 = 4 ∧ (∀ x5 : Int32, x5 = sI σ b2 0 → ((x5 ≤ t → (∀ y8 : Int64, y8 = sJ σ a0 5 → (wp_X4_leaderOf b2 y8 σ (fun (x11 : Int32) (σ10 : Sto) => (sK σ10 a0 = 8 ∧ (∀ x13 : Int32, x13 = sI σ10 a0 0 → ((x11 = x13 → Q σ10) ∧ (¬ x11 = x13 → (∀ x16 : Int32, x16 = sI σ10 a0 0 → (∀ y18 : Int64, y18 = sJ σ10 a0 5 → (∃ b20 : Nat, sP σ10 a0 1 = some b20 ∧ (sK σ10 b20 = 4 ∧ (wp_X4_send b20 (9 : Int32) x16 x11 y18 (0 : Int32) σ10 (fun (r24 : Option Nat) (σ23 : Sto) => (sK σ23 a0 = 8 ∧ (∀ y26 : Int64, y26 = sJ σ23 a0 6 → (∃ b28 : Nat, r24 = some b28 ∧ (sK σ23 b28 = 3 ∧ (∃ b31 : Nat, sP σ23 b28 11 = some b31 ∧ (sK σ23 b31 = 2 ∧ (wp_X2_become b31 (sP σ23 a0 7) (stJ σ23 b28 5 y26) (fun (σ34 : Sto) => Q σ34)))))))))))))))))))))) ∧ (¬ x5 ≤ t → (∀ x35 : Int32, x35 = sI σ a0 0 → ((t = x35 → b_X8_tellTurn_52 a0 L13 Q t σ) ∧ (¬ t = x35 → (∀ x38 : Int32, x38 = sI σ a0 0 → (∀ y40 : Int64, y40 = sJ σ a0 5 → (wp_X4_send b2 (8 : Int32) x38 t y40 (0 : Int32) σ (fun (r43 : Option Nat) (σ42 : Sto) => b_X8_tellTurn_52 a0 L13 Q t σ42)))))))))))))
set_option maxHeartbeats 4000000 in
set_option maxRecDepth 100000 in
theorem t_X8_tellTurn_13 {p : Program} {l : Launch} {e : Env} {s : State} {m : MethodId} {args : Array Value} {below : List Frame} {meth : Method} {c : Code} {D : va_G} {cy : Nat → ClassId} {A : Nat → Prop} {a0 : Nat} {Q : Sto → Prop} {L13 : Int32 → Sto → Prop} (C : Cx p s m args meth c D cy A cX8_tellTurn 3 RX8) (hr : meth.sig.returnType = none) (hnm : meth.name = yX8_tellTurn.name) (hL13 : ∀ (t : Int32) (σ : Sto), L13 t σ → ∀ ls : Array Slot, lv_has ls 3 [(0, .ref a0), (1, .int t)] → Xw p l e rm_X8_tellTurn s m args below meth c D cy A σ 0 0 (MQ below (Qst D cy A (PsV Q)) args s rm_X8_tellTurn.cells rm_X8_tellTurn.slots A) (F0 m 13 ls [])) : ∀ (t : Int32) (σ : Sto), f_X8_tellTurn_13 a0  Q L13 t σ → ∀ ls : Array Slot, lv_has ls 3 [(0, .ref a0), (1, .int t)] → Xw p l e rm_X8_tellTurn s m args below meth c D cy A σ 0 0 (MQ below (Qst D cy A (PsV Q)) args s rm_X8_tellTurn.cells rm_X8_tellTurn.slots A) (F0 m 13 ls []) := by
  intro t σ h ls hl
  unfold f_X8_tellTurn_13 at h
  refine x_iload_n C dX8_tellTurn_13 rfl (lv_at hl 1 rfl) ?_
  refine x_aload_n C dX8_tellTurn_14 rfl (lv_at hl 0 rfl) ?_
  obtain ⟨g1, h⟩ := h
  refine x_getP C fl_RX8_33 g1 dX8_tellTurn_15 ?_
  obtain ⟨b2, g3, h⟩ := h
  refine x_nn0 g3 ?_
  obtain ⟨g4, h⟩ := h
  refine x_getI C fl_RX8_43 g4 dX8_tellTurn_18 ?_
  refine x_topi (fun x5 e6 => ?_)
  have h := h x5 e6
  refine x_icmp_ge (tgt := 58) C dX8_tellTurn_21 (by decide) (fun c7 => ?_) (fun c7 => ?_)
  · have h := h.1 c7
    refine x_aload_n C dX8_tellTurn_58 rfl (lv_at hl 0 rfl) ?_
    refine x_getP C fl_RX8_33 g1 dX8_tellTurn_59 ?_
    refine x_aload_n C dX8_tellTurn_62 rfl (lv_at hl 0 rfl) ?_
    refine x_getJ C fl_RX8_13 g1 dX8_tellTurn_63 ?_
    refine x_topj (fun y8 e9 => ?_)
    have h := h y8 e9
    refine x_nn1 g3 ?_
    refine x_callV (rm := rm_X4_leaderOf) (rest := []) (As := [.long y8]) C cy_RX8_55 g4 (by decide) (by decide) rfl rfl (Nat.le_of_ble_eq_true rfl) hl.1 dX8_tellTurn_66 (c_X4_leaderOf l D cy b2 y8 σ _ h) (ks_i (fun x11 σ10 h => ?_))
    refine x_istore_n (i := 1) (lv' := [(1, .int x11), (0, .ref a0)]) C dX8_tellTurn_69 rfl hl (by decide) (by first | rfl | simp [vrc, cat_i, cat_r, cat_l]) (fun ls hl => ?_)
    refine x_iload_n C dX8_tellTurn_70 rfl (lv_at hl 0 rfl) ?_
    refine x_aload_n C dX8_tellTurn_71 rfl (lv_at hl 1 rfl) ?_
    obtain ⟨g12, h⟩ := h
    refine x_getI C fl_RX8_29 g12 dX8_tellTurn_72 ?_
    refine x_topi (fun x13 e14 => ?_)
    have h := h x13 e14
    refine x_icmp_eq (tgt := 117) C dX8_tellTurn_75 (by decide) (fun c15 => ?_) (fun c15 => ?_)
    · have h := h.1 c15
      exact x_vret C hr dX8_tellTurn_117 ⟨rfl, h⟩
    · have h := h.2 c15
      refine x_aload_n C dX8_tellTurn_78 rfl (lv_at hl 1 rfl) ?_
      refine x_getP C fl_RX8_33 g12 dX8_tellTurn_79 ?_
      refine x_bipush (v := 9) C dX8_tellTurn_82 (by decide) ?_
      refine x_aload_n C dX8_tellTurn_84 rfl (lv_at hl 1 rfl) ?_
      refine x_getI C fl_RX8_29 g12 dX8_tellTurn_85 ?_
      refine x_topi (fun x16 e17 => ?_)
      have h := h x16 e17
      refine x_iload_n C dX8_tellTurn_88 rfl (lv_at hl 0 rfl) ?_
      refine x_aload_n C dX8_tellTurn_89 rfl (lv_at hl 1 rfl) ?_
      refine x_getJ C fl_RX8_13 g12 dX8_tellTurn_90 ?_
      refine x_topj (fun y18 e19 => ?_)
      have h := h y18 e19
      refine x_iconst (v := 0) C dX8_tellTurn_93 (by decide) ?_
      obtain ⟨b20, g21, h⟩ := h
      refine x_nn5 g21 ?_
      obtain ⟨g22, h⟩ := h
      refine x_callV (rm := rm_X4_send) (rest := []) (As := [.int (9 : Int32), .int x16, .int x11, .long y18, .int (0 : Int32)]) C cy_RX8_171 g22 (by decide) (by decide) rfl rfl (Nat.le_of_ble_eq_true rfl) hl.1 dX8_tellTurn_94 (c_X4_send l D cy b20 (9 : Int32) x16 x11 y18 (0 : Int32) σ10 _ h) (ks_p (fun r24 σ23 h => ?_))
      refine x_astore_nq (i := 2) (lv' := [(2, va_rf r24), (1, .int x11), (0, .ref a0)]) C dX8_tellTurn_97 rfl hl (by decide) (by first | rfl | simp [vrc, cat_i, cat_r, cat_l]) (fun ls hl => ?_)
      refine x_aload_nq C dX8_tellTurn_98 rfl (lv_at hl 0 rfl) ?_
      refine x_aload_n C dX8_tellTurn_99 rfl (lv_at hl 2 rfl) ?_
      obtain ⟨g25, h⟩ := h
      refine x_getJ C fl_RX8_19 g25 dX8_tellTurn_100 ?_
      refine x_topj (fun y26 e27 => ?_)
      have h := h y26 e27
      obtain ⟨b28, g29, h⟩ := h
      refine x_nn1 g29 ?_
      obtain ⟨g30, h⟩ := h
      refine x_putJ C fl_RX8_282 (Or.inl rfl) g30 dX8_tellTurn_103 ?_
      refine x_aload_nq C dX8_tellTurn_106 rfl (lv_at hl 0 rfl) ?_
      refine x_nn0 g29 ?_
      refine x_getP C fl_RX8_116 g30 dX8_tellTurn_107 ?_
      refine x_aload_n C dX8_tellTurn_110 rfl (lv_at hl 2 rfl) ?_
      refine x_getP C fl_RX8_25 g25 dX8_tellTurn_111 ?_
      obtain ⟨b31, g32, h⟩ := h
      refine x_nn1 g32 ?_
      obtain ⟨g33, h⟩ := h
      refine x_callV (rm := rm_X2_become) (rest := []) (As := [va_rf (sP σ23 a0 7)]) C cy_RX8_218 g33 (by decide) (by decide) rfl rfl (Nat.le_of_ble_eq_true rfl) hl.1 dX8_tellTurn_114 (c_X2_become l D cy b31 (sP σ23 a0 7) (stJ σ23 b28 5 y26) _ h) (ks_v (fun σ34 h => ?_))
      exact x_vret C hr dX8_tellTurn_117 ⟨rfl, h⟩
  · have h := h.2 c7
    refine x_iload_n C dX8_tellTurn_24 rfl (lv_at hl 1 rfl) ?_
    refine x_aload_n C dX8_tellTurn_25 rfl (lv_at hl 0 rfl) ?_
    refine x_getI C fl_RX8_29 g1 dX8_tellTurn_26 ?_
    refine x_topi (fun x35 e36 => ?_)
    have h := h x35 e36
    refine x_icmp_eq (tgt := 52) C dX8_tellTurn_29 (by decide) (fun c37 => ?_) (fun c37 => ?_)
    · have h := h.1 c37
      exact t_X8_tellTurn_52 C hr hnm hL13 t _ h ls (lv_sub hl [0, 1] rfl)
    · have h := h.2 c37
      refine x_aload_n C dX8_tellTurn_32 rfl (lv_at hl 0 rfl) ?_
      refine x_getP C fl_RX8_33 g1 dX8_tellTurn_33 ?_
      refine x_bipush (v := 8) C dX8_tellTurn_36 (by decide) ?_
      refine x_aload_n C dX8_tellTurn_38 rfl (lv_at hl 0 rfl) ?_
      refine x_getI C fl_RX8_29 g1 dX8_tellTurn_39 ?_
      refine x_topi (fun x38 e39 => ?_)
      have h := h x38 e39
      refine x_iload_n C dX8_tellTurn_42 rfl (lv_at hl 1 rfl) ?_
      refine x_aload_n C dX8_tellTurn_43 rfl (lv_at hl 0 rfl) ?_
      refine x_getJ C fl_RX8_13 g1 dX8_tellTurn_44 ?_
      refine x_topj (fun y40 e41 => ?_)
      have h := h y40 e41
      refine x_iconst (v := 0) C dX8_tellTurn_47 (by decide) ?_
      refine x_nn5 g3 ?_
      refine x_callV (rm := rm_X4_send) (rest := []) (As := [.int (8 : Int32), .int x38, .int t, .long y40, .int (0 : Int32)]) C cy_RX8_171 g4 (by decide) (by decide) rfl rfl (Nat.le_of_ble_eq_true rfl) hl.1 dX8_tellTurn_48 (c_X4_send l D cy b2 (8 : Int32) x38 t y40 (0 : Int32) σ _ h) (ks_p (fun r43 σ42 h => ?_))
      refine x_pop C dX8_tellTurn_51 (vrc _) ?_
      exact t_X8_tellTurn_52 C hr hnm hL13 t _ h ls (lv_sub hl [0, 1] rfl)
def wp_X8_tellTurn (a0 : Nat)  (σ : Sto) (Q : Sto → Prop) : Prop := (sK σ a0 = 8 ∧ (∃ b2 : Nat, sP σ a0 1 = some b2 ∧ (sK σ b2 = 4 ∧ (∀ x5 : Int32, x5 = sI σ b2 8 → LF (f_X8_tellTurn_13 a0  Q) ((0 : Int32)) (stI σ a0 12 x5)))))
set_option maxHeartbeats 4000000 in
set_option maxRecDepth 100000 in
theorem c_X8_tellTurn (l : Launch) (D : va_G) (cy : Nat → ClassId) (a0 : Nat)  (σ : Sto) (Q : Sto → Prop) (h : wp_X8_tellTurn a0  σ Q) : Mt l D cy yX8_tellTurn cX8_tellTurn 3 none rm_X8_tellTurn [.ref a0] σ (PsV Q) := by
  unfold wp_X8_tellTurn at h
  refine mt_of (by decide +kernel) (Nat.le_of_ble_eq_true rfl) ?_
  intro p e s m args below meth c A ls C hr hnm hl
  have C : Cx p s m args meth c D cy A cX8_tellTurn 3 RX8 := C
  have hl : lv_has ls 3 [(0, .ref a0)] := hl
  refine x_aload_n C dX8_tellTurn_0 rfl (lv_at hl 0 rfl) ?_
  refine x_aload_n C dX8_tellTurn_1 rfl (lv_at hl 0 rfl) ?_
  obtain ⟨g1, h⟩ := h
  refine x_getP C fl_RX8_33 g1 dX8_tellTurn_2 ?_
  obtain ⟨b2, g3, h⟩ := h
  refine x_nn0 g3 ?_
  obtain ⟨g4, h⟩ := h
  refine x_getI C fl_RX8_87 g4 dX8_tellTurn_5 ?_
  refine x_topi (fun x5 e6 => ?_)
  have h := h x5 e6
  refine x_putI C fl_RX8_241 (Or.inl rfl) g1 dX8_tellTurn_8 ?_
  refine x_iconst (v := 0) C dX8_tellTurn_11 (by decide) ?_
  refine x_istore_n (i := 1) (lv' := [(1, .int (0 : Int32)), (0, .ref a0)]) C dX8_tellTurn_12 rfl hl (by decide) (by first | rfl | simp [vrc, cat_i, cat_r, cat_l]) (fun ls hl => ?_)
  exact h (fun t σ => ∀ ls : Array Slot, lv_has ls 3 [(0, .ref a0), (1, .int t)] → Xw p l e rm_X8_tellTurn s m args below meth c D cy A σ 0 0 (MQ below (Qst D cy A (PsV Q)) args s rm_X8_tellTurn.cells rm_X8_tellTurn.slots A) (F0 m 13 ls [])) (t_X8_tellTurn_13 C hr hnm  (fun t σ h => h)) ls (lv_sub hl [1, 0] rfl)
theorem dX8_turn_0 : decode cX8_turn 0 = .ok (.aload_n 0, 1) := by decide +kernel
theorem dX8_turn_1 : decode cX8_turn 1 = .ok (.lload_n 1, 1) := by decide +kernel
theorem dX8_turn_2 : decode cX8_turn 2 = .ok (.putfield 13, 3) := by decide +kernel
theorem dX8_turn_5 : decode cX8_turn 5 = .ok (.aload_n 0, 1) := by decide +kernel
theorem dX8_turn_6 : decode cX8_turn 6 = .ok (.iconst 2, 1) := by decide +kernel
theorem dX8_turn_7 : decode cX8_turn 7 = .ok (.putfield 63, 3) := by decide +kernel
theorem dX8_turn_10 : decode cX8_turn 10 = .ok (.aload_n 0, 1) := by decide +kernel
theorem dX8_turn_11 : decode cX8_turn 11 = .ok (.getfield 51, 3) := by decide +kernel
theorem dX8_turn_14 : decode cX8_turn 14 = .ok (.invokevirtual 273, 3) := by decide +kernel
theorem dX8_turn_17 : decode cX8_turn 17 = .ok (.aload_n 0, 1) := by decide +kernel
theorem dX8_turn_18 : decode cX8_turn 18 = .ok (.iconst 0, 1) := by decide +kernel
theorem dX8_turn_19 : decode cX8_turn 19 = .ok (.putfield 202, 3) := by decide +kernel
theorem dX8_turn_22 : decode cX8_turn 22 = .ok (.aload_n 0, 1) := by decide +kernel
theorem dX8_turn_23 : decode cX8_turn 23 = .ok (.aload_n 0, 1) := by decide +kernel
theorem dX8_turn_24 : decode cX8_turn 24 = .ok (.getfield 33, 3) := by decide +kernel
theorem dX8_turn_27 : decode cX8_turn 27 = .ok (.getfield 87, 3) := by decide +kernel
theorem dX8_turn_30 : decode cX8_turn 30 = .ok (.putfield 276, 3) := by decide +kernel
theorem dX8_turn_33 : decode cX8_turn 33 = .ok (.aload_n 0, 1) := by decide +kernel
theorem dX8_turn_34 : decode cX8_turn 34 = .ok (.invokevirtual 279, 3) := by decide +kernel
theorem dX8_turn_37 : decode cX8_turn 37 = .ok (.return_, 1) := by decide +kernel
abbrev rm_X8_turn : Room := { frames := 3, cells := 0, slots := 0, locals := 66 }
def wp_X8_turn (a0 : Nat) (p1 : Int64) (σ : Sto) (Q : Sto → Prop) : Prop := (sK σ a0 = 8 ∧ (∃ b2 : Nat, sP σ a0 10 = some b2 ∧ (sK σ b2 = 5 ∧ (wp_X5_clear b2  (stI (stJ σ a0 5 p1) a0 4 (2 : Int32)) (fun (σ5 : Sto) => (sK σ5 a0 = 8 ∧ (∃ b7 : Nat, sP σ5 a0 1 = some b7 ∧ (sK σ5 b7 = 4 ∧ (∀ x10 : Int32, x10 = sI (stI σ5 a0 9 (0 : Int32)) b7 8 → (wp_X8_tellTurn a0  (stI (stI σ5 a0 9 (0 : Int32)) a0 13 x10) (fun (σ12 : Sto) => Q σ12)))))))))))
set_option maxHeartbeats 4000000 in
set_option maxRecDepth 100000 in
theorem c_X8_turn (l : Launch) (D : va_G) (cy : Nat → ClassId) (a0 : Nat) (p1 : Int64) (σ : Sto) (Q : Sto → Prop) (h : wp_X8_turn a0 p1 σ Q) : Mt l D cy yX8_turn cX8_turn 3 none rm_X8_turn [.ref a0, .long p1] σ (PsV Q) := by
  unfold wp_X8_turn at h
  refine mt_of (by decide +kernel) (Nat.le_of_ble_eq_true rfl) ?_
  intro p e s m args below meth c A ls C hr hnm hl
  have C : Cx p s m args meth c D cy A cX8_turn 3 RX8 := C
  have hl : lv_has ls 3 [(0, .ref a0), (1, .long p1)] := hl
  refine x_aload_n C dX8_turn_0 rfl (lv_at hl 0 rfl) ?_
  refine x_lload_n C dX8_turn_1 rfl (lv_at hl 1 rfl) ?_
  obtain ⟨g1, h⟩ := h
  refine x_putJ C fl_RX8_13 (Or.inl rfl) g1 dX8_turn_2 ?_
  refine x_aload_n C dX8_turn_5 rfl (lv_at hl 0 rfl) ?_
  refine x_iconst (v := 2) C dX8_turn_6 (by decide) ?_
  refine x_putI C fl_RX8_63 (Or.inl rfl) g1 dX8_turn_7 ?_
  refine x_aload_n C dX8_turn_10 rfl (lv_at hl 0 rfl) ?_
  refine x_getP C fl_RX8_51 g1 dX8_turn_11 ?_
  obtain ⟨b2, g3, h⟩ := h
  refine x_nn0 g3 ?_
  obtain ⟨g4, h⟩ := h
  refine x_callV (rm := rm_X5_clear) (rest := []) (As := []) C cy_RX8_273 g4 (by decide) (by decide) rfl rfl (Nat.le_of_ble_eq_true rfl) hl.1 dX8_turn_14 (c_X5_clear l D cy b2  (stI (stJ σ a0 5 p1) a0 4 (2 : Int32)) _ h) (ks_v (fun σ5 h => ?_))
  refine x_aload_n C dX8_turn_17 rfl (lv_at hl 0 rfl) ?_
  refine x_iconst (v := 0) C dX8_turn_18 (by decide) ?_
  obtain ⟨g6, h⟩ := h
  refine x_putI C fl_RX8_202 (Or.inl rfl) g6 dX8_turn_19 ?_
  refine x_aload_n C dX8_turn_22 rfl (lv_at hl 0 rfl) ?_
  refine x_aload_n C dX8_turn_23 rfl (lv_at hl 0 rfl) ?_
  refine x_getP C fl_RX8_33 g6 dX8_turn_24 ?_
  obtain ⟨b7, g8, h⟩ := h
  refine x_nn0 g8 ?_
  obtain ⟨g9, h⟩ := h
  refine x_getI C fl_RX8_87 g9 dX8_turn_27 ?_
  refine x_topi (fun x10 e11 => ?_)
  have h := h x10 e11
  refine x_putI C fl_RX8_276 (Or.inl rfl) g6 dX8_turn_30 ?_
  refine x_aload_n C dX8_turn_33 rfl (lv_at hl 0 rfl) ?_
  refine x_callV (rm := rm_X8_tellTurn) (rest := []) (As := []) C cy_RX8_279 g6 (by decide) (by decide) rfl rfl (Nat.le_of_ble_eq_true rfl) hl.1 dX8_turn_34 (c_X8_tellTurn l D cy a0  (stI (stI σ5 a0 9 (0 : Int32)) a0 13 x10) _ h) (ks_v (fun σ12 h => ?_))
  exact x_vret C hr dX8_turn_37 ⟨rfl, h⟩
theorem dX8_follow_0 : decode cX8_follow 0 = .ok (.lload_n 1, 1) := by decide +kernel
theorem dX8_follow_1 : decode cX8_follow 1 = .ok (.aload_n 0, 1) := by decide +kernel
theorem dX8_follow_2 : decode cX8_follow 2 = .ok (.getfield 13, 3) := by decide +kernel
theorem dX8_follow_5 : decode cX8_follow 5 = .ok (.lcmp, 1) := by decide +kernel
theorem dX8_follow_6 : decode cX8_follow 6 = .ok (.ifCond .eq 51, 3) := by decide +kernel
theorem dX8_follow_9 : decode cX8_follow 9 = .ok (.lload_n 1, 1) := by decide +kernel
theorem dX8_follow_10 : decode cX8_follow 10 = .ok (.aload_n 0, 1) := by decide +kernel
theorem dX8_follow_11 : decode cX8_follow 11 = .ok (.getfield 13, 3) := by decide +kernel
theorem dX8_follow_14 : decode cX8_follow 14 = .ok (.invokestatic 230, 3) := by decide +kernel
theorem dX8_follow_17 : decode cX8_follow 17 = .ok (.ifCond .ne 40, 3) := by decide +kernel
theorem dX8_follow_20 : decode cX8_follow 20 = .ok (.aload_n 0, 1) := by decide +kernel
theorem dX8_follow_21 : decode cX8_follow 21 = .ok (.getfield 13, 3) := by decide +kernel
theorem dX8_follow_24 : decode cX8_follow 24 = .ok (.invokestatic 136, 3) := by decide +kernel
theorem dX8_follow_27 : decode cX8_follow 27 = .ok (.lload_n 1, 1) := by decide +kernel
theorem dX8_follow_28 : decode cX8_follow 28 = .ok (.invokestatic 136, 3) := by decide +kernel
theorem dX8_follow_31 : decode cX8_follow 31 = .ok (.invokestatic 205, 3) := by decide +kernel
theorem dX8_follow_34 : decode cX8_follow 34 = .ok (.istore_n 3, 1) := by decide +kernel
theorem dX8_follow_35 : decode cX8_follow 35 = .ok (.aload_n 0, 1) := by decide +kernel
theorem dX8_follow_36 : decode cX8_follow 36 = .ok (.iload_n 3, 1) := by decide +kernel
theorem dX8_follow_37 : decode cX8_follow 37 = .ok (.aload_n 0, 1) := by decide +kernel
theorem dX8_follow_38 : decode cX8_follow 38 = .ok (.getfield 13, 3) := by decide +kernel
theorem dX8_follow_41 : decode cX8_follow 41 = .ok (.invokestatic 133, 3) := by decide +kernel
theorem dX8_follow_44 : decode cX8_follow 44 = .ok (.lload_n 1, 1) := by decide +kernel
theorem dX8_follow_45 : decode cX8_follow 45 = .ok (.invokestatic 133, 3) := by decide +kernel
theorem dX8_follow_48 : decode cX8_follow 48 = .ok (.invokestatic 205, 3) := by decide +kernel
theorem dX8_follow_51 : decode cX8_follow 51 = .ok (.invokestatic 9, 3) := by decide +kernel
theorem dX8_follow_54 : decode cX8_follow 54 = .ok (.invokevirtual 139, 3) := by decide +kernel
theorem dX8_follow_57 : decode cX8_follow 57 = .ok (.return_, 1) := by decide +kernel
abbrev rm_X8_follow : Room := { frames := 4, cells := 0, slots := 0, locals := 88 }
def wp_X8_follow (a0 : Nat) (p1 : Int64) (σ : Sto) (Q : Sto → Prop) : Prop := (sK σ a0 = 8 ∧ (∀ y2 : Int64, y2 = sJ σ a0 5 → (((lg_cmp p1 y2) = 0 → Q σ) ∧ (¬ (lg_cmp p1 y2) = 0 → (∀ y5 : Int64, y5 = sJ σ a0 5 → (wp_X11_isBehind p1 y5 σ (fun (x8 : Int32) (σ7 : Sto) => ((¬ x8 = 0 → Q σ7) ∧ (x8 = 0 → (sK σ7 a0 = 8 ∧ (∀ y11 : Int64, y11 = sJ σ7 a0 5 → (wp_X11_leadOf y11 σ7 (fun (x14 : Int32) (σ13 : Sto) => (wp_X11_leadOf p1 σ13 (fun (x16 : Int32) (σ15 : Sto) => (wp_J9_max_7cf53 x14 x16 σ15 (fun (x18 : Int32) (σ17 : Sto) => (sK σ17 a0 = 8 ∧ (∀ y20 : Int64, y20 = sJ σ17 a0 5 → (wp_X11_sessionOf y20 σ17 (fun (x23 : Int32) (σ22 : Sto) => (wp_X11_sessionOf p1 σ22 (fun (x25 : Int32) (σ24 : Sto) => (wp_J9_max_7cf53 x23 x25 σ24 (fun (x27 : Int32) (σ26 : Sto) => (wp_X11_viewOf x18 x27 σ26 (fun (y29 : Int64) (σ28 : Sto) => (sK σ28 a0 = 8 ∧ (wp_X8_turn a0 y29 σ28 (fun (σ31 : Sto) => Q σ31))))))))))))))))))))))))))))))
set_option maxHeartbeats 4000000 in
set_option maxRecDepth 100000 in
theorem c_X8_follow (l : Launch) (D : va_G) (cy : Nat → ClassId) (a0 : Nat) (p1 : Int64) (σ : Sto) (Q : Sto → Prop) (h : wp_X8_follow a0 p1 σ Q) : Mt l D cy yX8_follow cX8_follow 4 none rm_X8_follow [.ref a0, .long p1] σ (PsV Q) := by
  unfold wp_X8_follow at h
  refine mt_of (by decide +kernel) (Nat.le_of_ble_eq_true rfl) ?_
  intro p e s m args below meth c A ls C hr hnm hl
  have C : Cx p s m args meth c D cy A cX8_follow 4 RX8 := C
  have hl : lv_has ls 4 [(0, .ref a0), (1, .long p1)] := hl
  refine x_lload_n C dX8_follow_0 rfl (lv_at hl 1 rfl) ?_
  refine x_aload_n C dX8_follow_1 rfl (lv_at hl 0 rfl) ?_
  obtain ⟨g1, h⟩ := h
  refine x_getJ C fl_RX8_13 g1 dX8_follow_2 ?_
  refine x_topj (fun y2 e3 => ?_)
  have h := h y2 e3
  refine x_lcmp C dX8_follow_5 ?_
  refine x_if_eq (tgt := 57) C dX8_follow_6 (by decide) (fun c4 => ?_) (fun c4 => ?_)
  · have h := h.1 c4
    exact x_vret C hr dX8_follow_57 ⟨rfl, h⟩
  · have h := h.2 c4
    refine x_lload_n C dX8_follow_9 rfl (lv_at hl 1 rfl) ?_
    refine x_aload_n C dX8_follow_10 rfl (lv_at hl 0 rfl) ?_
    refine x_getJ C fl_RX8_13 g1 dX8_follow_11 ?_
    refine x_topj (fun y5 e6 => ?_)
    have h := h y5 e6
    refine x_callSN (rm := rm_X11_isBehind) (rest := []) (As := [.long p1, .long y5]) C csn_RX8_230 (by decide) (by decide) rfl rfl (Nat.le_of_ble_eq_true rfl) hl.1 dX8_follow_14 (c_X11_isBehind l D cy p1 y5 σ _ h) (ks_i (fun x8 σ7 h => ?_))
    refine x_if_ne (tgt := 57) C dX8_follow_17 (by decide) (fun c9 => ?_) (fun c9 => ?_)
    · have h := h.1 c9
      exact x_vret C hr dX8_follow_57 ⟨rfl, h⟩
    · have h := h.2 c9
      refine x_aload_n C dX8_follow_20 rfl (lv_at hl 0 rfl) ?_
      obtain ⟨g10, h⟩ := h
      refine x_getJ C fl_RX8_13 g10 dX8_follow_21 ?_
      refine x_topj (fun y11 e12 => ?_)
      have h := h y11 e12
      refine x_callSN (rm := rm_X11_leadOf) (rest := []) (As := [.long y11]) C csn_RX8_136 (by decide) (by decide) rfl rfl (Nat.le_of_ble_eq_true rfl) hl.1 dX8_follow_24 (c_X11_leadOf l D cy y11 σ7 _ h) (ks_i (fun x14 σ13 h => ?_))
      refine x_lload_n C dX8_follow_27 rfl (lv_at hl 1 rfl) ?_
      refine x_callSN (rm := rm_X11_leadOf) (rest := [.int x14]) (As := [.long p1]) C csn_RX8_136 (by decide) (by decide) rfl rfl (Nat.le_of_ble_eq_true rfl) hl.1 dX8_follow_28 (c_X11_leadOf l D cy p1 σ13 _ h) (ks_i (fun x16 σ15 h => ?_))
      refine x_callS (rm := rm_J9_max_7cf53) (rest := []) (As := [.int x14, .int x16]) C cs_RX8_205 (by decide) (by decide) rfl rfl (Nat.le_of_ble_eq_true rfl) hl.1 dX8_follow_31 (c_J9_max_7cf53 l D cy x14 x16 σ15 _ h) (ks_i (fun x18 σ17 h => ?_))
      refine x_istore_n (i := 3) (lv' := [(3, .int x18), (0, .ref a0), (1, .long p1)]) C dX8_follow_34 rfl hl (by decide) (by first | rfl | simp [vrc, cat_i, cat_r, cat_l]) (fun ls hl => ?_)
      refine x_aload_n C dX8_follow_35 rfl (lv_at hl 1 rfl) ?_
      refine x_iload_n C dX8_follow_36 rfl (lv_at hl 0 rfl) ?_
      refine x_aload_n C dX8_follow_37 rfl (lv_at hl 1 rfl) ?_
      obtain ⟨g19, h⟩ := h
      refine x_getJ C fl_RX8_13 g19 dX8_follow_38 ?_
      refine x_topj (fun y20 e21 => ?_)
      have h := h y20 e21
      refine x_callSN (rm := rm_X11_sessionOf) (rest := [.int x18, .ref a0]) (As := [.long y20]) C csn_RX8_133 (by decide) (by decide) rfl rfl (Nat.le_of_ble_eq_true rfl) hl.1 dX8_follow_41 (c_X11_sessionOf l D cy y20 σ17 _ h) (ks_i (fun x23 σ22 h => ?_))
      refine x_lload_n C dX8_follow_44 rfl (lv_at hl 2 rfl) ?_
      refine x_callSN (rm := rm_X11_sessionOf) (rest := [.int x23, .int x18, .ref a0]) (As := [.long p1]) C csn_RX8_133 (by decide) (by decide) rfl rfl (Nat.le_of_ble_eq_true rfl) hl.1 dX8_follow_45 (c_X11_sessionOf l D cy p1 σ22 _ h) (ks_i (fun x25 σ24 h => ?_))
      refine x_callS (rm := rm_J9_max_7cf53) (rest := [.int x18, .ref a0]) (As := [.int x23, .int x25]) C cs_RX8_205 (by decide) (by decide) rfl rfl (Nat.le_of_ble_eq_true rfl) hl.1 dX8_follow_48 (c_J9_max_7cf53 l D cy x23 x25 σ24 _ h) (ks_i (fun x27 σ26 h => ?_))
      refine x_callSN (rm := rm_X11_viewOf) (rest := [.ref a0]) (As := [.int x18, .int x27]) C csn_RX8_9 (by decide) (by decide) rfl rfl (Nat.le_of_ble_eq_true rfl) hl.1 dX8_follow_51 (c_X11_viewOf l D cy x18 x27 σ26 _ h) (ks_j (fun y29 σ28 h => ?_))
      obtain ⟨g30, h⟩ := h
      refine x_callV (rm := rm_X8_turn) (rest := []) (As := [.long y29]) C cy_RX8_139 g30 (by decide) (by decide) rfl rfl (Nat.le_of_ble_eq_true rfl) hl.1 dX8_follow_54 (c_X8_turn l D cy a0 y29 σ28 _ h) (ks_v (fun σ31 h => ?_))
      exact x_vret C hr dX8_follow_57 ⟨rfl, h⟩
theorem dX10_replay_0 : decode cX10_replay 0 = .ok (.iconst 0, 1) := by decide +kernel
theorem dX10_replay_1 : decode cX10_replay 1 = .ok (.istore_n 3, 1) := by decide +kernel
theorem dX10_replay_2 : decode cX10_replay 2 = .ok (.iload_n 3, 1) := by decide +kernel
theorem dX10_replay_3 : decode cX10_replay 3 = .ok (.bipush 8, 2) := by decide +kernel
theorem dX10_replay_5 : decode cX10_replay 5 = .ok (.if_icmp .ge 16, 3) := by decide +kernel
theorem dX10_replay_8 : decode cX10_replay 8 = .ok (.aload_n 0, 1) := by decide +kernel
theorem dX10_replay_9 : decode cX10_replay 9 = .ok (.getfield 9, 3) := by decide +kernel
theorem dX10_replay_12 : decode cX10_replay 12 = .ok (.iload_n 3, 1) := by decide +kernel
theorem dX10_replay_13 : decode cX10_replay 13 = .ok (.iconst 0, 1) := by decide +kernel
theorem dX10_replay_14 : decode cX10_replay 14 = .ok (.iastore, 1) := by decide +kernel
theorem dX10_replay_15 : decode cX10_replay 15 = .ok (.iinc 3 1, 3) := by decide +kernel
theorem dX10_replay_18 : decode cX10_replay 18 = .ok (.goto (-16), 3) := by decide +kernel
theorem dX10_replay_21 : decode cX10_replay 21 = .ok (.iconst 0, 1) := by decide +kernel
theorem dX10_replay_22 : decode cX10_replay 22 = .ok (.istore_n 3, 1) := by decide +kernel
theorem dX10_replay_23 : decode cX10_replay 23 = .ok (.iload_n 3, 1) := by decide +kernel
theorem dX10_replay_24 : decode cX10_replay 24 = .ok (.iconst 4, 1) := by decide +kernel
theorem dX10_replay_25 : decode cX10_replay 25 = .ok (.if_icmp .ge 23, 3) := by decide +kernel
theorem dX10_replay_28 : decode cX10_replay 28 = .ok (.aload_n 0, 1) := by decide +kernel
theorem dX10_replay_29 : decode cX10_replay 29 = .ok (.getfield 15, 3) := by decide +kernel
theorem dX10_replay_32 : decode cX10_replay 32 = .ok (.iload_n 3, 1) := by decide +kernel
theorem dX10_replay_33 : decode cX10_replay 33 = .ok (.iconst 0, 1) := by decide +kernel
theorem dX10_replay_34 : decode cX10_replay 34 = .ok (.iastore, 1) := by decide +kernel
theorem dX10_replay_35 : decode cX10_replay 35 = .ok (.aload_n 0, 1) := by decide +kernel
theorem dX10_replay_36 : decode cX10_replay 36 = .ok (.getfield 18, 3) := by decide +kernel
theorem dX10_replay_39 : decode cX10_replay 39 = .ok (.iload_n 3, 1) := by decide +kernel
theorem dX10_replay_40 : decode cX10_replay 40 = .ok (.iconst 0, 1) := by decide +kernel
theorem dX10_replay_41 : decode cX10_replay 41 = .ok (.iastore, 1) := by decide +kernel
theorem dX10_replay_42 : decode cX10_replay 42 = .ok (.iinc 3 1, 3) := by decide +kernel
theorem dX10_replay_45 : decode cX10_replay 45 = .ok (.goto (-22), 3) := by decide +kernel
theorem dX10_replay_48 : decode cX10_replay 48 = .ok (.iconst 0, 1) := by decide +kernel
theorem dX10_replay_49 : decode cX10_replay 49 = .ok (.istore_n 3, 1) := by decide +kernel
theorem dX10_replay_50 : decode cX10_replay 50 = .ok (.iload_n 3, 1) := by decide +kernel
theorem dX10_replay_51 : decode cX10_replay 51 = .ok (.iload_n 2, 1) := by decide +kernel
theorem dX10_replay_52 : decode cX10_replay 52 = .ok (.if_icmp .ge 175, 3) := by decide +kernel
theorem dX10_replay_55 : decode cX10_replay 55 = .ok (.iload_n 3, 1) := by decide +kernel
theorem dX10_replay_56 : decode cX10_replay 56 = .ok (.aload_n 1, 1) := by decide +kernel
theorem dX10_replay_57 : decode cX10_replay 57 = .ok (.getfield 28, 3) := by decide +kernel
theorem dX10_replay_60 : decode cX10_replay 60 = .ok (.if_icmp .ge 167, 3) := by decide +kernel
theorem dX10_replay_63 : decode cX10_replay 63 = .ok (.iload_n 3, 1) := by decide +kernel
theorem dX10_replay_64 : decode cX10_replay 64 = .ok (.bipush 100, 2) := by decide +kernel
theorem dX10_replay_66 : decode cX10_replay 66 = .ok (.if_icmp .ge 161, 3) := by decide +kernel
theorem dX10_replay_69 : decode cX10_replay 69 = .ok (.aload_n 1, 1) := by decide +kernel
theorem dX10_replay_70 : decode cX10_replay 70 = .ok (.getfield 34, 3) := by decide +kernel
theorem dX10_replay_73 : decode cX10_replay 73 = .ok (.iload_n 3, 1) := by decide +kernel
theorem dX10_replay_74 : decode cX10_replay 74 = .ok (.aaload, 1) := by decide +kernel
theorem dX10_replay_75 : decode cX10_replay 75 = .ok (.astore 4, 2) := by decide +kernel
theorem dX10_replay_77 : decode cX10_replay 77 = .ok (.aload_n 0, 1) := by decide +kernel
theorem dX10_replay_78 : decode cX10_replay 78 = .ok (.getfield 21, 3) := by decide +kernel
theorem dX10_replay_81 : decode cX10_replay 81 = .ok (.iload_n 3, 1) := by decide +kernel
theorem dX10_replay_82 : decode cX10_replay 82 = .ok (.aload 4, 2) := by decide +kernel
theorem dX10_replay_84 : decode cX10_replay 84 = .ok (.ifnull 25, 3) := by decide +kernel
theorem dX10_replay_87 : decode cX10_replay 87 = .ok (.aload 4, 2) := by decide +kernel
theorem dX10_replay_89 : decode cX10_replay 89 = .ok (.getfield 38, 3) := by decide +kernel
theorem dX10_replay_92 : decode cX10_replay 92 = .ok (.aload_n 0, 1) := by decide +kernel
theorem dX10_replay_93 : decode cX10_replay 93 = .ok (.getfield 15, 3) := by decide +kernel
theorem dX10_replay_96 : decode cX10_replay 96 = .ok (.aload 4, 2) := by decide +kernel
theorem dX10_replay_98 : decode cX10_replay 98 = .ok (.getfield 43, 3) := by decide +kernel
theorem dX10_replay_101 : decode cX10_replay 101 = .ok (.iaload, 1) := by decide +kernel
theorem dX10_replay_102 : decode cX10_replay 102 = .ok (.if_icmp .le 7, 3) := by decide +kernel
theorem dX10_replay_105 : decode cX10_replay 105 = .ok (.iconst 1, 1) := by decide +kernel
theorem dX10_replay_106 : decode cX10_replay 106 = .ok (.goto 4, 3) := by decide +kernel
theorem dX10_replay_109 : decode cX10_replay 109 = .ok (.iconst 0, 1) := by decide +kernel
theorem dX10_replay_110 : decode cX10_replay 110 = .ok (.bastore, 1) := by decide +kernel
theorem dX10_replay_111 : decode cX10_replay 111 = .ok (.aload_n 0, 1) := by decide +kernel
theorem dX10_replay_112 : decode cX10_replay 112 = .ok (.getfield 21, 3) := by decide +kernel
theorem dX10_replay_115 : decode cX10_replay 115 = .ok (.iload_n 3, 1) := by decide +kernel
theorem dX10_replay_116 : decode cX10_replay 116 = .ok (.baload, 1) := by decide +kernel
theorem dX10_replay_117 : decode cX10_replay 117 = .ok (.ifCond .eq 104, 3) := by decide +kernel
theorem dX10_replay_120 : decode cX10_replay 120 = .ok (.aload_n 0, 1) := by decide +kernel
theorem dX10_replay_121 : decode cX10_replay 121 = .ok (.getfield 9, 3) := by decide +kernel
theorem dX10_replay_124 : decode cX10_replay 124 = .ok (.aload 4, 2) := by decide +kernel
theorem dX10_replay_126 : decode cX10_replay 126 = .ok (.getfield 46, 3) := by decide +kernel
theorem dX10_replay_129 : decode cX10_replay 129 = .ok (.iaload, 1) := by decide +kernel
theorem dX10_replay_130 : decode cX10_replay 130 = .ok (.istore 5, 2) := by decide +kernel
theorem dX10_replay_132 : decode cX10_replay 132 = .ok (.aload_n 0, 1) := by decide +kernel
theorem dX10_replay_133 : decode cX10_replay 133 = .ok (.getfield 25, 3) := by decide +kernel
theorem dX10_replay_136 : decode cX10_replay 136 = .ok (.iload_n 3, 1) := by decide +kernel
theorem dX10_replay_137 : decode cX10_replay 137 = .ok (.iload 5, 2) := by decide +kernel
theorem dX10_replay_139 : decode cX10_replay 139 = .ok (.iastore, 1) := by decide +kernel
theorem dX10_replay_140 : decode cX10_replay 140 = .ok (.aload_n 0, 1) := by decide +kernel
theorem dX10_replay_141 : decode cX10_replay 141 = .ok (.getfield 15, 3) := by decide +kernel
theorem dX10_replay_144 : decode cX10_replay 144 = .ok (.aload 4, 2) := by decide +kernel
theorem dX10_replay_146 : decode cX10_replay 146 = .ok (.getfield 43, 3) := by decide +kernel
theorem dX10_replay_149 : decode cX10_replay 149 = .ok (.aload 4, 2) := by decide +kernel
theorem dX10_replay_151 : decode cX10_replay 151 = .ok (.getfield 38, 3) := by decide +kernel
theorem dX10_replay_154 : decode cX10_replay 154 = .ok (.iastore, 1) := by decide +kernel
theorem dX10_replay_155 : decode cX10_replay 155 = .ok (.aload_n 0, 1) := by decide +kernel
theorem dX10_replay_156 : decode cX10_replay 156 = .ok (.getfield 18, 3) := by decide +kernel
theorem dX10_replay_159 : decode cX10_replay 159 = .ok (.aload 4, 2) := by decide +kernel
theorem dX10_replay_161 : decode cX10_replay 161 = .ok (.getfield 43, 3) := by decide +kernel
theorem dX10_replay_164 : decode cX10_replay 164 = .ok (.iload 5, 2) := by decide +kernel
theorem dX10_replay_166 : decode cX10_replay 166 = .ok (.iastore, 1) := by decide +kernel
theorem dX10_replay_167 : decode cX10_replay 167 = .ok (.aload 4, 2) := by decide +kernel
theorem dX10_replay_169 : decode cX10_replay 169 = .ok (.getfield 49, 3) := by decide +kernel
theorem dX10_replay_172 : decode cX10_replay 172 = .ok (.iconst 1, 1) := by decide +kernel
theorem dX10_replay_173 : decode cX10_replay 173 = .ok (.if_icmp .ne 21, 3) := by decide +kernel
theorem dX10_replay_176 : decode cX10_replay 176 = .ok (.aload_n 0, 1) := by decide +kernel
theorem dX10_replay_177 : decode cX10_replay 177 = .ok (.getfield 9, 3) := by decide +kernel
theorem dX10_replay_180 : decode cX10_replay 180 = .ok (.aload 4, 2) := by decide +kernel
theorem dX10_replay_182 : decode cX10_replay 182 = .ok (.getfield 46, 3) := by decide +kernel
theorem dX10_replay_185 : decode cX10_replay 185 = .ok (.aload 4, 2) := by decide +kernel
theorem dX10_replay_187 : decode cX10_replay 187 = .ok (.getfield 52, 3) := by decide +kernel
theorem dX10_replay_190 : decode cX10_replay 190 = .ok (.iastore, 1) := by decide +kernel
theorem dX10_replay_191 : decode cX10_replay 191 = .ok (.goto 30, 3) := by decide +kernel
theorem dX10_replay_194 : decode cX10_replay 194 = .ok (.aload 4, 2) := by decide +kernel
theorem dX10_replay_196 : decode cX10_replay 196 = .ok (.getfield 49, 3) := by decide +kernel
theorem dX10_replay_199 : decode cX10_replay 199 = .ok (.iconst 2, 1) := by decide +kernel
theorem dX10_replay_200 : decode cX10_replay 200 = .ok (.if_icmp .ne 21, 3) := by decide +kernel
theorem dX10_replay_203 : decode cX10_replay 203 = .ok (.aload_n 0, 1) := by decide +kernel
theorem dX10_replay_204 : decode cX10_replay 204 = .ok (.getfield 9, 3) := by decide +kernel
theorem dX10_replay_207 : decode cX10_replay 207 = .ok (.aload 4, 2) := by decide +kernel
theorem dX10_replay_209 : decode cX10_replay 209 = .ok (.getfield 46, 3) := by decide +kernel
theorem dX10_replay_212 : decode cX10_replay 212 = .ok (.iload 5, 2) := by decide +kernel
theorem dX10_replay_214 : decode cX10_replay 214 = .ok (.aload 4, 2) := by decide +kernel
theorem dX10_replay_216 : decode cX10_replay 216 = .ok (.getfield 52, 3) := by decide +kernel
theorem dX10_replay_219 : decode cX10_replay 219 = .ok (.iadd, 1) := by decide +kernel
theorem dX10_replay_220 : decode cX10_replay 220 = .ok (.iastore, 1) := by decide +kernel
theorem dX10_replay_221 : decode cX10_replay 221 = .ok (.iinc 3 1, 3) := by decide +kernel
theorem dX10_replay_224 : decode cX10_replay 224 = .ok (.goto (-174), 3) := by decide +kernel
theorem dX10_replay_227 : decode cX10_replay 227 = .ok (.return_, 1) := by decide +kernel
abbrev rm_X10_replay : Room := { frames := 0, cells := 0, slots := 0, locals := 0 }
def b_X10_replay_221 (a0 : Nat) (L50 : Option Nat × Int32 × Int32 → Sto → Prop) (Q : Sto → Prop) (p1 : Option Nat) (p2 : Int32) (p3 : Int32) (σ : Sto) : Prop := (∀ x1 : Int32, x1 = p3 + (1 : Int32) → L50 (p1, p2, x1) σ)
set_option maxHeartbeats 4000000 in
set_option maxRecDepth 100000 in
theorem t_X10_replay_221 {p : Program} {l : Launch} {e : Env} {s : State} {m : MethodId} {args : Array Value} {below : List Frame} {meth : Method} {c : Code} {D : va_G} {cy : Nat → ClassId} {A : Nat → Prop} {a0 : Nat} {L50 : Option Nat × Int32 × Int32 → Sto → Prop} {Q : Sto → Prop} (C : Cx p s m args meth c D cy A cX10_replay 6 RX10) (hr : meth.sig.returnType = none) (hnm : meth.name = yX10_replay.name) (hL50 : ∀ (t : Option Nat × Int32 × Int32) (σ : Sto), L50 t σ → ∀ ls : Array Slot, lv_has ls 6 [(0, .ref a0), (1, va_rf t.1), (2, .int t.2.1), (3, .int t.2.2)] → Xw p l e rm_X10_replay s m args below meth c D cy A σ 0 0 (MQ below (Qst D cy A (PsV Q)) args s rm_X10_replay.cells rm_X10_replay.slots A) (F0 m 50 ls [])) (p1 : Option Nat) (p2 : Int32) (p3 : Int32) (σ : Sto) (h : b_X10_replay_221 a0 L50 Q p1 p2 p3 σ) (ls : Array Slot) (hl : lv_has ls 6 [(0, .ref a0), (1, va_rf p1), (2, .int p2), (3, .int p3)]) : Xw p l e rm_X10_replay s m args below meth c D cy A σ 0 0 (MQ below (Qst D cy A (PsV Q)) args s rm_X10_replay.cells rm_X10_replay.slots A) (F0 m 221 ls []) := by
  unfold b_X10_replay_221 at h
  obtain ⟨x1, e2⟩ : ∃ z : Int32, z = p3 + (1 : Int32) := ⟨_, rfl⟩
  have h := h x1 e2
  refine x_iinc (v := x1) (lv' := [(3, .int x1), (0, .ref a0), (1, va_rf p1), (2, .int p2)]) C dX10_replay_221 hl (q0 := 3) rfl (by rw [e2]; rfl) (by decide) (by first | rfl | simp [vrc, cat_i, cat_r, cat_l]) (fun ls hl => ?_)
  refine x_goto (tgt := 50) C dX10_replay_224 (by decide) ?_
  exact hL50 (p1, p2, x1) _ h ls (lv_sub hl [1, 2, 3, 0] rfl)
def b_X10_replay_110 (a0 : Nat) (L50 : Option Nat × Int32 × Int32 → Sto → Prop) (Q : Sto → Prop) (p1 : Option Nat) (p2 : Int32) (p3 : Int32) (p4 : Option Nat) (s0 : Int32) (s1 : Int32) (s2 : Option Nat) (σ : Sto) : Prop := (∃ b1 : Nat, s2 = some b1 ∧ (sK σ b1 = 16 ∧ (vp_in s1 (sN σ b1) ∧ (sK σ a0 = 10 ∧ (∃ b6 : Nat, sP σ a0 3 = some b6 ∧ (sK σ b6 = 16 ∧ (vp_in p3 (sN σ b6) ∧ (∀ x10 : Int32, x10 = sI (stI σ b1 s1.toNatClampNeg (vp_nar .boolean s0)) b6 p3.toNatClampNeg → ((x10 = 0 → b_X10_replay_221 a0 L50 Q p1 p2 p3 (stI σ b1 s1.toNatClampNeg (vp_nar .boolean s0))) ∧ (¬ x10 = 0 → (∃ b13 : Nat, p4 = some b13 ∧ (sK σ b13 = 9 ∧ (∀ x16 : Int32, x16 = sI (stI σ b1 s1.toNatClampNeg (vp_nar .boolean s0)) b13 3 → (∃ b18 : Nat, sP σ a0 0 = some b18 ∧ (sK σ b18 = 14 ∧ (vp_in x16 (sN σ b18) ∧ (∀ x22 : Int32, x22 = sI (stI σ b1 s1.toNatClampNeg (vp_nar .boolean s0)) b18 x16.toNatClampNeg → (∃ b24 : Nat, sP σ a0 4 = some b24 ∧ (sK σ b24 = 14 ∧ (vp_in p3 (sN σ b24) ∧ (∀ x28 : Int32, x28 = sI (stI (stI σ b1 s1.toNatClampNeg (vp_nar .boolean s0)) b24 p3.toNatClampNeg x22) b13 0 → (∀ x30 : Int32, x30 = sI (stI (stI σ b1 s1.toNatClampNeg (vp_nar .boolean s0)) b24 p3.toNatClampNeg x22) b13 1 → (∃ b32 : Nat, sP σ a0 1 = some b32 ∧ (sK σ b32 = 14 ∧ (vp_in x28 (sN σ b32) ∧ (∀ x36 : Int32, x36 = sI (stI (stI (stI σ b1 s1.toNatClampNeg (vp_nar .boolean s0)) b24 p3.toNatClampNeg x22) b32 x28.toNatClampNeg x30) b13 0 → (∃ b38 : Nat, sP σ a0 2 = some b38 ∧ (sK σ b38 = 14 ∧ (vp_in x36 (sN σ b38) ∧ (∀ x42 : Int32, x42 = sI (stI (stI (stI (stI σ b1 s1.toNatClampNeg (vp_nar .boolean s0)) b24 p3.toNatClampNeg x22) b32 x28.toNatClampNeg x30) b38 x36.toNatClampNeg x22) b13 2 → ((¬ x42 = (1 : Int32) → (∀ x45 : Int32, x45 = sI (stI (stI (stI (stI σ b1 s1.toNatClampNeg (vp_nar .boolean s0)) b24 p3.toNatClampNeg x22) b32 x28.toNatClampNeg x30) b38 x36.toNatClampNeg x22) b13 2 → ((¬ x45 = (2 : Int32) → b_X10_replay_221 a0 L50 Q p1 p2 p3 (stI (stI (stI (stI σ b1 s1.toNatClampNeg (vp_nar .boolean s0)) b24 p3.toNatClampNeg x22) b32 x28.toNatClampNeg x30) b38 x36.toNatClampNeg x22)) ∧ (x45 = (2 : Int32) → (∀ x48 : Int32, x48 = sI (stI (stI (stI (stI σ b1 s1.toNatClampNeg (vp_nar .boolean s0)) b24 p3.toNatClampNeg x22) b32 x28.toNatClampNeg x30) b38 x36.toNatClampNeg x22) b13 3 → (∀ x50 : Int32, x50 = sI (stI (stI (stI (stI σ b1 s1.toNatClampNeg (vp_nar .boolean s0)) b24 p3.toNatClampNeg x22) b32 x28.toNatClampNeg x30) b38 x36.toNatClampNeg x22) b13 4 → (∀ x52 : Int32, x52 = x22 + x50 → (vp_in x48 (sN σ b18) ∧ b_X10_replay_221 a0 L50 Q p1 p2 p3 (stI (stI (stI (stI (stI σ b1 s1.toNatClampNeg (vp_nar .boolean s0)) b24 p3.toNatClampNeg x22) b32 x28.toNatClampNeg x30) b38 x36.toNatClampNeg x22) b18 x48.toNatClampNeg x52))))))))) ∧ (x42 = (1 : Int32) → (∀ x55 : Int32, x55 = sI (stI (stI (stI (stI σ b1 s1.toNatClampNeg (vp_nar .boolean s0)) b24 p3.toNatClampNeg x22) b32 x28.toNatClampNeg x30) b38 x36.toNatClampNeg x22) b13 3 → (∀ x57 : Int32, x57 = sI (stI (stI (stI (stI σ b1 s1.toNatClampNeg (vp_nar .boolean s0)) b24 p3.toNatClampNeg x22) b32 x28.toNatClampNeg x30) b38 x36.toNatClampNeg x22) b13 4 → (vp_in x55 (sN σ b18) ∧ b_X10_replay_221 a0 L50 Q p1 p2 p3 (stI (stI (stI (stI (stI σ b1 s1.toNatClampNeg (vp_nar .boolean s0)) b24 p3.toNatClampNeg x22) b32 x28.toNatClampNeg x30) b38 x36.toNatClampNeg x22) b18 x55.toNatClampNeg x57))))))))))))))))))))))))))))))))))))
set_option maxHeartbeats 4000000 in
set_option maxRecDepth 100000 in
theorem t_X10_replay_110 {p : Program} {l : Launch} {e : Env} {s : State} {m : MethodId} {args : Array Value} {below : List Frame} {meth : Method} {c : Code} {D : va_G} {cy : Nat → ClassId} {A : Nat → Prop} {a0 : Nat} {L50 : Option Nat × Int32 × Int32 → Sto → Prop} {Q : Sto → Prop} (C : Cx p s m args meth c D cy A cX10_replay 6 RX10) (hr : meth.sig.returnType = none) (hnm : meth.name = yX10_replay.name) (hL50 : ∀ (t : Option Nat × Int32 × Int32) (σ : Sto), L50 t σ → ∀ ls : Array Slot, lv_has ls 6 [(0, .ref a0), (1, va_rf t.1), (2, .int t.2.1), (3, .int t.2.2)] → Xw p l e rm_X10_replay s m args below meth c D cy A σ 0 0 (MQ below (Qst D cy A (PsV Q)) args s rm_X10_replay.cells rm_X10_replay.slots A) (F0 m 50 ls [])) (p1 : Option Nat) (p2 : Int32) (p3 : Int32) (p4 : Option Nat) (s0 : Int32) (s1 : Int32) (s2 : Option Nat) (σ : Sto) (h : b_X10_replay_110 a0 L50 Q p1 p2 p3 p4 s0 s1 s2 σ) (ls : Array Slot) (hl : lv_has ls 6 [(0, .ref a0), (1, va_rf p1), (2, .int p2), (3, .int p3), (4, va_rf p4)]) : Xw p l e rm_X10_replay s m args below meth c D cy A σ 0 0 (MQ below (Qst D cy A (PsV Q)) args s rm_X10_replay.cells rm_X10_replay.slots A) (F0 m 110 ls [.int s0, .int s1, va_rf s2]) := by
  unfold b_X10_replay_110 at h
  obtain ⟨b1, g2, h⟩ := h
  refine x_nn2 g2 ?_
  obtain ⟨g3, h⟩ := h
  obtain ⟨g4, h⟩ := h
  refine x_zast C g3 g4 dX10_replay_110 ?_
  refine x_aload_n C dX10_replay_111 rfl (lv_at hl 0 rfl) ?_
  obtain ⟨g5, h⟩ := h
  refine x_getP C fl_RX10_21 g5 dX10_replay_112 ?_
  refine x_iload_n C dX10_replay_115 rfl (lv_at hl 3 rfl) ?_
  obtain ⟨b6, g7, h⟩ := h
  refine x_nn1 g7 ?_
  obtain ⟨g8, h⟩ := h
  obtain ⟨g9, h⟩ := h
  refine x_zald C g8 g9 dX10_replay_116 ?_
  refine x_topi (fun x10 e11 => ?_)
  have h := h x10 e11
  refine x_if_eq (tgt := 221) C dX10_replay_117 (by decide) (fun c12 => ?_) (fun c12 => ?_)
  · have h := h.1 c12
    exact t_X10_replay_221 C hr hnm hL50 p1 p2 p3 _ h ls (lv_sub hl [0, 1, 2, 3] rfl)
  · have h := h.2 c12
    refine x_aload_n C dX10_replay_120 rfl (lv_at hl 0 rfl) ?_
    refine x_getP C fl_RX10_9 g5 dX10_replay_121 ?_
    refine x_aloadq C dX10_replay_124 (lv_at hl 4 rfl) ?_
    obtain ⟨b13, g14, h⟩ := h
    refine x_nn0 g14 ?_
    obtain ⟨g15, h⟩ := h
    refine x_getI C fl_RX10_46 g15 dX10_replay_126 ?_
    refine x_topi (fun x16 e17 => ?_)
    have h := h x16 e17
    obtain ⟨b18, g19, h⟩ := h
    refine x_nn1 g19 ?_
    obtain ⟨g20, h⟩ := h
    obtain ⟨g21, h⟩ := h
    refine x_iald C g20 g21 dX10_replay_129 ?_
    refine x_topi (fun x22 e23 => ?_)
    have h := h x22 e23
    refine x_istore (i := 5) (lv' := [(5, .int x22), (0, .ref a0), (1, va_rf p1), (2, .int p2), (3, .int p3), (4, va_rf p4)]) C dX10_replay_130 hl (by decide) (by first | rfl | simp [vrc, cat_i, cat_r, cat_l]) (fun ls hl => ?_)
    refine x_aload_n C dX10_replay_132 rfl (lv_at hl 1 rfl) ?_
    refine x_getP C fl_RX10_25 g5 dX10_replay_133 ?_
    refine x_iload_n C dX10_replay_136 rfl (lv_at hl 4 rfl) ?_
    refine x_iload C dX10_replay_137 (lv_at hl 0 rfl) ?_
    obtain ⟨b24, g25, h⟩ := h
    refine x_nn2 g25 ?_
    obtain ⟨g26, h⟩ := h
    obtain ⟨g27, h⟩ := h
    refine x_iast C g26 g27 dX10_replay_139 ?_
    refine x_aload_n C dX10_replay_140 rfl (lv_at hl 1 rfl) ?_
    refine x_getP C fl_RX10_15 g5 dX10_replay_141 ?_
    refine x_aloadq C dX10_replay_144 (lv_at hl 5 rfl) ?_
    refine x_nn0 g14 ?_
    refine x_getI C fl_RX10_43 g15 dX10_replay_146 ?_
    refine x_topi (fun x28 e29 => ?_)
    have h := h x28 e29
    refine x_aloadq C dX10_replay_149 (lv_at hl 5 rfl) ?_
    refine x_nn0 g14 ?_
    refine x_getI C fl_RX10_38 g15 dX10_replay_151 ?_
    refine x_topi (fun x30 e31 => ?_)
    have h := h x30 e31
    obtain ⟨b32, g33, h⟩ := h
    refine x_nn2 g33 ?_
    obtain ⟨g34, h⟩ := h
    obtain ⟨g35, h⟩ := h
    refine x_iast C g34 g35 dX10_replay_154 ?_
    refine x_aload_n C dX10_replay_155 rfl (lv_at hl 1 rfl) ?_
    refine x_getP C fl_RX10_18 g5 dX10_replay_156 ?_
    refine x_aloadq C dX10_replay_159 (lv_at hl 5 rfl) ?_
    refine x_nn0 g14 ?_
    refine x_getI C fl_RX10_43 g15 dX10_replay_161 ?_
    refine x_topi (fun x36 e37 => ?_)
    have h := h x36 e37
    refine x_iload C dX10_replay_164 (lv_at hl 0 rfl) ?_
    obtain ⟨b38, g39, h⟩ := h
    refine x_nn2 g39 ?_
    obtain ⟨g40, h⟩ := h
    obtain ⟨g41, h⟩ := h
    refine x_iast C g40 g41 dX10_replay_166 ?_
    refine x_aloadq C dX10_replay_167 (lv_at hl 5 rfl) ?_
    refine x_nn0 g14 ?_
    refine x_getI C fl_RX10_49 g15 dX10_replay_169 ?_
    refine x_topi (fun x42 e43 => ?_)
    have h := h x42 e43
    refine x_iconst (v := 1) C dX10_replay_172 (by decide) ?_
    refine x_icmp_ne (tgt := 194) C dX10_replay_173 (by decide) (fun c44 => ?_) (fun c44 => ?_)
    · have h := h.1 c44
      refine x_aloadq C dX10_replay_194 (lv_at hl 5 rfl) ?_
      refine x_nn0 g14 ?_
      refine x_getI C fl_RX10_49 g15 dX10_replay_196 ?_
      refine x_topi (fun x45 e46 => ?_)
      have h := h x45 e46
      refine x_iconst (v := 2) C dX10_replay_199 (by decide) ?_
      refine x_icmp_ne (tgt := 221) C dX10_replay_200 (by decide) (fun c47 => ?_) (fun c47 => ?_)
      · have h := h.1 c47
        exact t_X10_replay_221 C hr hnm hL50 p1 p2 p3 _ h ls (lv_sub hl [1, 2, 3, 4] rfl)
      · have h := h.2 c47
        refine x_aload_n C dX10_replay_203 rfl (lv_at hl 1 rfl) ?_
        refine x_getP C fl_RX10_9 g5 dX10_replay_204 ?_
        refine x_aloadq C dX10_replay_207 (lv_at hl 5 rfl) ?_
        refine x_nn0 g14 ?_
        refine x_getI C fl_RX10_46 g15 dX10_replay_209 ?_
        refine x_topi (fun x48 e49 => ?_)
        have h := h x48 e49
        refine x_iload C dX10_replay_212 (lv_at hl 0 rfl) ?_
        refine x_aloadq C dX10_replay_214 (lv_at hl 5 rfl) ?_
        refine x_nn0 g14 ?_
        refine x_getI C fl_RX10_52 g15 dX10_replay_216 ?_
        refine x_topi (fun x50 e51 => ?_)
        have h := h x50 e51
        refine x_iadd C dX10_replay_219 ?_
        refine x_topi (fun x52 e53 => ?_)
        have h := h x52 e53
        refine x_nn2 g19 ?_
        obtain ⟨g54, h⟩ := h
        refine x_iast C g20 g54 dX10_replay_220 ?_
        exact t_X10_replay_221 C hr hnm hL50 p1 p2 p3 _ h ls (lv_sub hl [1, 2, 3, 4] rfl)
    · have h := h.2 c44
      refine x_aload_n C dX10_replay_176 rfl (lv_at hl 1 rfl) ?_
      refine x_getP C fl_RX10_9 g5 dX10_replay_177 ?_
      refine x_aloadq C dX10_replay_180 (lv_at hl 5 rfl) ?_
      refine x_nn0 g14 ?_
      refine x_getI C fl_RX10_46 g15 dX10_replay_182 ?_
      refine x_topi (fun x55 e56 => ?_)
      have h := h x55 e56
      refine x_aloadq C dX10_replay_185 (lv_at hl 5 rfl) ?_
      refine x_nn0 g14 ?_
      refine x_getI C fl_RX10_52 g15 dX10_replay_187 ?_
      refine x_topi (fun x57 e58 => ?_)
      have h := h x57 e58
      refine x_nn2 g19 ?_
      obtain ⟨g59, h⟩ := h
      refine x_iast C g20 g59 dX10_replay_190 ?_
      refine x_goto (tgt := 221) C dX10_replay_191 (by decide) ?_
      exact t_X10_replay_221 C hr hnm hL50 p1 p2 p3 _ h ls (lv_sub hl [1, 2, 3, 4] rfl)
def b_X10_replay_109 (a0 : Nat) (L50 : Option Nat × Int32 × Int32 → Sto → Prop) (Q : Sto → Prop) (p1 : Option Nat) (p2 : Int32) (p3 : Int32) (p4 : Option Nat) (s0 : Int32) (s1 : Option Nat) (σ : Sto) : Prop := b_X10_replay_110 a0 L50 Q p1 p2 p3 p4 (0 : Int32) s0 s1 σ
set_option maxHeartbeats 4000000 in
set_option maxRecDepth 100000 in
theorem t_X10_replay_109 {p : Program} {l : Launch} {e : Env} {s : State} {m : MethodId} {args : Array Value} {below : List Frame} {meth : Method} {c : Code} {D : va_G} {cy : Nat → ClassId} {A : Nat → Prop} {a0 : Nat} {L50 : Option Nat × Int32 × Int32 → Sto → Prop} {Q : Sto → Prop} (C : Cx p s m args meth c D cy A cX10_replay 6 RX10) (hr : meth.sig.returnType = none) (hnm : meth.name = yX10_replay.name) (hL50 : ∀ (t : Option Nat × Int32 × Int32) (σ : Sto), L50 t σ → ∀ ls : Array Slot, lv_has ls 6 [(0, .ref a0), (1, va_rf t.1), (2, .int t.2.1), (3, .int t.2.2)] → Xw p l e rm_X10_replay s m args below meth c D cy A σ 0 0 (MQ below (Qst D cy A (PsV Q)) args s rm_X10_replay.cells rm_X10_replay.slots A) (F0 m 50 ls [])) (p1 : Option Nat) (p2 : Int32) (p3 : Int32) (p4 : Option Nat) (s0 : Int32) (s1 : Option Nat) (σ : Sto) (h : b_X10_replay_109 a0 L50 Q p1 p2 p3 p4 s0 s1 σ) (ls : Array Slot) (hl : lv_has ls 6 [(0, .ref a0), (1, va_rf p1), (2, .int p2), (3, .int p3), (4, va_rf p4)]) : Xw p l e rm_X10_replay s m args below meth c D cy A σ 0 0 (MQ below (Qst D cy A (PsV Q)) args s rm_X10_replay.cells rm_X10_replay.slots A) (F0 m 109 ls [.int s0, va_rf s1]) := by
  unfold b_X10_replay_109 at h
  refine x_iconst (v := 0) C dX10_replay_109 (by decide) ?_
  exact t_X10_replay_110 C hr hnm hL50 p1 p2 p3 p4 (0 : Int32) s0 s1 _ h ls (lv_sub hl [0, 1, 2, 3, 4] rfl)
def f_X10_replay_50 (a0 : Nat)  (Q : Sto → Prop) (L50 : Option Nat × Int32 × Int32 → Sto → Prop) (t : Option Nat × Int32 × Int32) (σ : Sto) : Prop := ((t.2.1 ≤ t.2.2 → Q σ) ∧ (¬ t.2.1 ≤ t.2.2 → (∃ b2 : Nat, t.1 = some b2 ∧ (sK σ b2 = 2 ∧ (∀ x5 : Int32, x5 = sI σ b2 1 → ((x5 ≤ t.2.2 → Q σ) ∧ (¬ x5 ≤ t.2.2 → (((100 : Int32) ≤ t.2.2 → Q σ) ∧ (¬ (100 : Int32) ≤ t.2.2 → (∃ b9 : Nat, sP σ b2 0 = some b9 ∧ (sK σ b9 = 22 ∧ (vp_in t.2.2 (sN σ b9) ∧ (∀ r13 : Option Nat, r13 = sP σ b9 t.2.2.toNatClampNeg → (sK σ a0 = 10 ∧ ((r13 = none → b_X10_replay_109 a0 L50 Q t.1 t.2.1 t.2.2 r13 t.2.2 (sP σ a0 3) σ) ∧ (∀ b17 : Nat, r13 = some b17 → (sK σ b17 = 9 ∧ (∀ x20 : Int32, x20 = sI σ b17 1 → (∀ x22 : Int32, x22 = sI σ b17 0 → (∃ b24 : Nat, sP σ a0 1 = some b24 ∧ (sK σ b24 = 14 ∧ (vp_in x22 (sN σ b24) ∧ (∀ x28 : Int32, x28 = sI σ b24 x22.toNatClampNeg → ((x20 ≤ x28 → b_X10_replay_109 a0 L50 Q t.1 t.2.1 t.2.2 r13 t.2.2 (sP σ a0 3) σ) ∧ (¬ x20 ≤ x28 → b_X10_replay_110 a0 L50 Q t.1 t.2.1 t.2.2 r13 (1 : Int32) t.2.2 (sP σ a0 3) σ)))))))))))))))))))))))))
set_option maxHeartbeats 4000000 in
set_option maxRecDepth 100000 in
theorem t_X10_replay_50 {p : Program} {l : Launch} {e : Env} {s : State} {m : MethodId} {args : Array Value} {below : List Frame} {meth : Method} {c : Code} {D : va_G} {cy : Nat → ClassId} {A : Nat → Prop} {a0 : Nat} {Q : Sto → Prop} {L50 : Option Nat × Int32 × Int32 → Sto → Prop} (C : Cx p s m args meth c D cy A cX10_replay 6 RX10) (hr : meth.sig.returnType = none) (hnm : meth.name = yX10_replay.name) (hL50 : ∀ (t : Option Nat × Int32 × Int32) (σ : Sto), L50 t σ → ∀ ls : Array Slot, lv_has ls 6 [(0, .ref a0), (1, va_rf t.1), (2, .int t.2.1), (3, .int t.2.2)] → Xw p l e rm_X10_replay s m args below meth c D cy A σ 0 0 (MQ below (Qst D cy A (PsV Q)) args s rm_X10_replay.cells rm_X10_replay.slots A) (F0 m 50 ls [])) : ∀ (t : Option Nat × Int32 × Int32) (σ : Sto), f_X10_replay_50 a0  Q L50 t σ → ∀ ls : Array Slot, lv_has ls 6 [(0, .ref a0), (1, va_rf t.1), (2, .int t.2.1), (3, .int t.2.2)] → Xw p l e rm_X10_replay s m args below meth c D cy A σ 0 0 (MQ below (Qst D cy A (PsV Q)) args s rm_X10_replay.cells rm_X10_replay.slots A) (F0 m 50 ls []) := by
  intro t σ h ls hl
  unfold f_X10_replay_50 at h
  refine x_iload_n C dX10_replay_50 rfl (lv_at hl 3 rfl) ?_
  refine x_iload_n C dX10_replay_51 rfl (lv_at hl 2 rfl) ?_
  refine x_icmp_ge (tgt := 227) C dX10_replay_52 (by decide) (fun c1 => ?_) (fun c1 => ?_)
  · have h := h.1 c1
    exact x_vret C hr dX10_replay_227 ⟨rfl, h⟩
  · have h := h.2 c1
    refine x_iload_n C dX10_replay_55 rfl (lv_at hl 3 rfl) ?_
    refine x_aload_nq C dX10_replay_56 rfl (lv_at hl 1 rfl) ?_
    obtain ⟨b2, g3, h⟩ := h
    refine x_nn0 g3 ?_
    obtain ⟨g4, h⟩ := h
    refine x_getI C fl_RX10_28 g4 dX10_replay_57 ?_
    refine x_topi (fun x5 e6 => ?_)
    have h := h x5 e6
    refine x_icmp_ge (tgt := 227) C dX10_replay_60 (by decide) (fun c7 => ?_) (fun c7 => ?_)
    · have h := h.1 c7
      exact x_vret C hr dX10_replay_227 ⟨rfl, h⟩
    · have h := h.2 c7
      refine x_iload_n C dX10_replay_63 rfl (lv_at hl 3 rfl) ?_
      refine x_bipush (v := 100) C dX10_replay_64 (by decide) ?_
      refine x_icmp_ge (tgt := 227) C dX10_replay_66 (by decide) (fun c8 => ?_) (fun c8 => ?_)
      · have h := h.1 c8
        exact x_vret C hr dX10_replay_227 ⟨rfl, h⟩
      · have h := h.2 c8
        refine x_aload_nq C dX10_replay_69 rfl (lv_at hl 1 rfl) ?_
        refine x_nn0 g3 ?_
        refine x_getP C fl_RX10_34 g4 dX10_replay_70 ?_
        refine x_iload_n C dX10_replay_73 rfl (lv_at hl 3 rfl) ?_
        obtain ⟨b9, g10, h⟩ := h
        refine x_nn1 g10 ?_
        obtain ⟨g11, h⟩ := h
        obtain ⟨g12, h⟩ := h
        refine x_aald C rak_22 g11 g12 dX10_replay_74 ?_
        refine x_topq (fun r13 e14 => ?_)
        have h := h r13 e14
        refine x_astoreq (i := 4) (lv' := [(4, va_rf r13), (0, .ref a0), (1, va_rf t.1), (2, .int t.2.1), (3, .int t.2.2)]) C dX10_replay_75 hl (by decide) (by first | rfl | simp [vrc, cat_i, cat_r, cat_l]) (fun ls hl => ?_)
        refine x_aload_n C dX10_replay_77 rfl (lv_at hl 1 rfl) ?_
        obtain ⟨g15, h⟩ := h
        refine x_getP C fl_RX10_21 g15 dX10_replay_78 ?_
        refine x_iload_n C dX10_replay_81 rfl (lv_at hl 4 rfl) ?_
        refine x_aloadq C dX10_replay_82 (lv_at hl 0 rfl) ?_
        refine x_ifnull (tgt := 109) C dX10_replay_84 (by decide) (fun c16 => ?_) (fun c16 => ?_)
        · have h := h.1 c16
          exact t_X10_replay_109 C hr hnm hL50 t.1 t.2.1 t.2.2 r13 t.2.2 (sP σ a0 3) _ h ls (lv_sub hl [1, 2, 3, 4, 0] rfl)
        · obtain ⟨b17, g18⟩ := Option.ne_none_iff_exists'.mp c16
          have h := h.2 b17 g18
          refine x_aloadq C dX10_replay_87 (lv_at hl 0 rfl) ?_
          refine x_nn0 g18 ?_
          obtain ⟨g19, h⟩ := h
          refine x_getI C fl_RX10_38 g19 dX10_replay_89 ?_
          refine x_topi (fun x20 e21 => ?_)
          have h := h x20 e21
          refine x_aload_n C dX10_replay_92 rfl (lv_at hl 1 rfl) ?_
          refine x_getP C fl_RX10_15 g15 dX10_replay_93 ?_
          refine x_aloadq C dX10_replay_96 (lv_at hl 0 rfl) ?_
          refine x_nn0 g18 ?_
          refine x_getI C fl_RX10_43 g19 dX10_replay_98 ?_
          refine x_topi (fun x22 e23 => ?_)
          have h := h x22 e23
          obtain ⟨b24, g25, h⟩ := h
          refine x_nn1 g25 ?_
          obtain ⟨g26, h⟩ := h
          obtain ⟨g27, h⟩ := h
          refine x_iald C g26 g27 dX10_replay_101 ?_
          refine x_topi (fun x28 e29 => ?_)
          have h := h x28 e29
          refine x_icmp_le (tgt := 109) C dX10_replay_102 (by decide) (fun c30 => ?_) (fun c30 => ?_)
          · have h := h.1 c30
            exact t_X10_replay_109 C hr hnm hL50 t.1 t.2.1 t.2.2 r13 t.2.2 (sP σ a0 3) _ h ls (lv_sub hl [1, 2, 3, 4, 0] rfl)
          · have h := h.2 c30
            refine x_iconst (v := 1) C dX10_replay_105 (by decide) ?_
            refine x_goto (tgt := 110) C dX10_replay_106 (by decide) ?_
            exact t_X10_replay_110 C hr hnm hL50 t.1 t.2.1 t.2.2 r13 (1 : Int32) t.2.2 (sP σ a0 3) _ h ls (lv_sub hl [1, 2, 3, 4, 0] rfl)
def f_X10_replay_23 (a0 : Nat)  (Q : Sto → Prop) (L23 : Option Nat × Int32 × Int32 → Sto → Prop) (t : Option Nat × Int32 × Int32) (σ : Sto) : Prop := (((4 : Int32) ≤ t.2.2 → LF (f_X10_replay_50 a0  Q) (t.1, t.2.1, (0 : Int32)) σ) ∧ (¬ (4 : Int32) ≤ t.2.2 → (sK σ a0 = 10 ∧ (∃ b3 : Nat, sP σ a0 1 = some b3 ∧ (sK σ b3 = 14 ∧ (vp_in t.2.2 (sN σ b3) ∧ (∃ b7 : Nat, sP σ a0 2 = some b7 ∧ (sK σ b7 = 14 ∧ (vp_in t.2.2 (sN σ b7) ∧ (∀ x11 : Int32, x11 = t.2.2 + (1 : Int32) → L23 (t.1, t.2.1, x11) (stI (stI σ b3 t.2.2.toNatClampNeg (0 : Int32)) b7 t.2.2.toNatClampNeg (0 : Int32))))))))))))
set_option maxHeartbeats 4000000 in
set_option maxRecDepth 100000 in
theorem t_X10_replay_23 {p : Program} {l : Launch} {e : Env} {s : State} {m : MethodId} {args : Array Value} {below : List Frame} {meth : Method} {c : Code} {D : va_G} {cy : Nat → ClassId} {A : Nat → Prop} {a0 : Nat} {Q : Sto → Prop} {L23 : Option Nat × Int32 × Int32 → Sto → Prop} (C : Cx p s m args meth c D cy A cX10_replay 6 RX10) (hr : meth.sig.returnType = none) (hnm : meth.name = yX10_replay.name) (hL23 : ∀ (t : Option Nat × Int32 × Int32) (σ : Sto), L23 t σ → ∀ ls : Array Slot, lv_has ls 6 [(0, .ref a0), (1, va_rf t.1), (2, .int t.2.1), (3, .int t.2.2)] → Xw p l e rm_X10_replay s m args below meth c D cy A σ 0 0 (MQ below (Qst D cy A (PsV Q)) args s rm_X10_replay.cells rm_X10_replay.slots A) (F0 m 23 ls [])) : ∀ (t : Option Nat × Int32 × Int32) (σ : Sto), f_X10_replay_23 a0  Q L23 t σ → ∀ ls : Array Slot, lv_has ls 6 [(0, .ref a0), (1, va_rf t.1), (2, .int t.2.1), (3, .int t.2.2)] → Xw p l e rm_X10_replay s m args below meth c D cy A σ 0 0 (MQ below (Qst D cy A (PsV Q)) args s rm_X10_replay.cells rm_X10_replay.slots A) (F0 m 23 ls []) := by
  intro t σ h ls hl
  unfold f_X10_replay_23 at h
  refine x_iload_n C dX10_replay_23 rfl (lv_at hl 3 rfl) ?_
  refine x_iconst (v := 4) C dX10_replay_24 (by decide) ?_
  refine x_icmp_ge (tgt := 48) C dX10_replay_25 (by decide) (fun c1 => ?_) (fun c1 => ?_)
  · have h := h.1 c1
    refine x_iconst (v := 0) C dX10_replay_48 (by decide) ?_
    refine x_istore_n (i := 3) (lv' := [(3, .int (0 : Int32)), (0, .ref a0), (1, va_rf t.1), (2, .int t.2.1)]) C dX10_replay_49 rfl hl (by decide) (by first | rfl | simp [vrc, cat_i, cat_r, cat_l]) (fun ls hl => ?_)
    exact h (fun t σ => ∀ ls : Array Slot, lv_has ls 6 [(0, .ref a0), (1, va_rf t.1), (2, .int t.2.1), (3, .int t.2.2)] → Xw p l e rm_X10_replay s m args below meth c D cy A σ 0 0 (MQ below (Qst D cy A (PsV Q)) args s rm_X10_replay.cells rm_X10_replay.slots A) (F0 m 50 ls [])) (t_X10_replay_50 C hr hnm  (fun t σ h => h)) ls (lv_sub hl [1, 2, 3, 0] rfl)
  · have h := h.2 c1
    refine x_aload_n C dX10_replay_28 rfl (lv_at hl 0 rfl) ?_
    obtain ⟨g2, h⟩ := h
    refine x_getP C fl_RX10_15 g2 dX10_replay_29 ?_
    refine x_iload_n C dX10_replay_32 rfl (lv_at hl 3 rfl) ?_
    refine x_iconst (v := 0) C dX10_replay_33 (by decide) ?_
    obtain ⟨b3, g4, h⟩ := h
    refine x_nn2 g4 ?_
    obtain ⟨g5, h⟩ := h
    obtain ⟨g6, h⟩ := h
    refine x_iast C g5 g6 dX10_replay_34 ?_
    refine x_aload_n C dX10_replay_35 rfl (lv_at hl 0 rfl) ?_
    refine x_getP C fl_RX10_18 g2 dX10_replay_36 ?_
    refine x_iload_n C dX10_replay_39 rfl (lv_at hl 3 rfl) ?_
    refine x_iconst (v := 0) C dX10_replay_40 (by decide) ?_
    obtain ⟨b7, g8, h⟩ := h
    refine x_nn2 g8 ?_
    obtain ⟨g9, h⟩ := h
    obtain ⟨g10, h⟩ := h
    refine x_iast C g9 g10 dX10_replay_41 ?_
    obtain ⟨x11, e12⟩ : ∃ z : Int32, z = t.2.2 + (1 : Int32) := ⟨_, rfl⟩
    have h := h x11 e12
    refine x_iinc (v := x11) (lv' := [(3, .int x11), (0, .ref a0), (1, va_rf t.1), (2, .int t.2.1)]) C dX10_replay_42 hl (q0 := 3) rfl (by rw [e12]; rfl) (by decide) (by first | rfl | simp [vrc, cat_i, cat_r, cat_l]) (fun ls hl => ?_)
    refine x_goto (tgt := 23) C dX10_replay_45 (by decide) ?_
    exact hL23 (t.1, t.2.1, x11) _ h ls (lv_sub hl [1, 2, 3, 0] rfl)
def f_X10_replay_2 (a0 : Nat)  (Q : Sto → Prop) (L2 : Option Nat × Int32 × Int32 → Sto → Prop) (t : Option Nat × Int32 × Int32) (σ : Sto) : Prop := (((8 : Int32) ≤ t.2.2 → LF (f_X10_replay_23 a0  Q) (t.1, t.2.1, (0 : Int32)) σ) ∧ (¬ (8 : Int32) ≤ t.2.2 → (sK σ a0 = 10 ∧ (∃ b3 : Nat, sP σ a0 0 = some b3 ∧ (sK σ b3 = 14 ∧ (vp_in t.2.2 (sN σ b3) ∧ (∀ x7 : Int32, x7 = t.2.2 + (1 : Int32) → L2 (t.1, t.2.1, x7) (stI σ b3 t.2.2.toNatClampNeg (0 : Int32)))))))))
set_option maxHeartbeats 4000000 in
set_option maxRecDepth 100000 in
theorem t_X10_replay_2 {p : Program} {l : Launch} {e : Env} {s : State} {m : MethodId} {args : Array Value} {below : List Frame} {meth : Method} {c : Code} {D : va_G} {cy : Nat → ClassId} {A : Nat → Prop} {a0 : Nat} {Q : Sto → Prop} {L2 : Option Nat × Int32 × Int32 → Sto → Prop} (C : Cx p s m args meth c D cy A cX10_replay 6 RX10) (hr : meth.sig.returnType = none) (hnm : meth.name = yX10_replay.name) (hL2 : ∀ (t : Option Nat × Int32 × Int32) (σ : Sto), L2 t σ → ∀ ls : Array Slot, lv_has ls 6 [(0, .ref a0), (1, va_rf t.1), (2, .int t.2.1), (3, .int t.2.2)] → Xw p l e rm_X10_replay s m args below meth c D cy A σ 0 0 (MQ below (Qst D cy A (PsV Q)) args s rm_X10_replay.cells rm_X10_replay.slots A) (F0 m 2 ls [])) : ∀ (t : Option Nat × Int32 × Int32) (σ : Sto), f_X10_replay_2 a0  Q L2 t σ → ∀ ls : Array Slot, lv_has ls 6 [(0, .ref a0), (1, va_rf t.1), (2, .int t.2.1), (3, .int t.2.2)] → Xw p l e rm_X10_replay s m args below meth c D cy A σ 0 0 (MQ below (Qst D cy A (PsV Q)) args s rm_X10_replay.cells rm_X10_replay.slots A) (F0 m 2 ls []) := by
  intro t σ h ls hl
  unfold f_X10_replay_2 at h
  refine x_iload_n C dX10_replay_2 rfl (lv_at hl 3 rfl) ?_
  refine x_bipush (v := 8) C dX10_replay_3 (by decide) ?_
  refine x_icmp_ge (tgt := 21) C dX10_replay_5 (by decide) (fun c1 => ?_) (fun c1 => ?_)
  · have h := h.1 c1
    refine x_iconst (v := 0) C dX10_replay_21 (by decide) ?_
    refine x_istore_n (i := 3) (lv' := [(3, .int (0 : Int32)), (0, .ref a0), (1, va_rf t.1), (2, .int t.2.1)]) C dX10_replay_22 rfl hl (by decide) (by first | rfl | simp [vrc, cat_i, cat_r, cat_l]) (fun ls hl => ?_)
    exact h (fun t σ => ∀ ls : Array Slot, lv_has ls 6 [(0, .ref a0), (1, va_rf t.1), (2, .int t.2.1), (3, .int t.2.2)] → Xw p l e rm_X10_replay s m args below meth c D cy A σ 0 0 (MQ below (Qst D cy A (PsV Q)) args s rm_X10_replay.cells rm_X10_replay.slots A) (F0 m 23 ls [])) (t_X10_replay_23 C hr hnm  (fun t σ h => h)) ls (lv_sub hl [1, 2, 3, 0] rfl)
  · have h := h.2 c1
    refine x_aload_n C dX10_replay_8 rfl (lv_at hl 0 rfl) ?_
    obtain ⟨g2, h⟩ := h
    refine x_getP C fl_RX10_9 g2 dX10_replay_9 ?_
    refine x_iload_n C dX10_replay_12 rfl (lv_at hl 3 rfl) ?_
    refine x_iconst (v := 0) C dX10_replay_13 (by decide) ?_
    obtain ⟨b3, g4, h⟩ := h
    refine x_nn2 g4 ?_
    obtain ⟨g5, h⟩ := h
    obtain ⟨g6, h⟩ := h
    refine x_iast C g5 g6 dX10_replay_14 ?_
    obtain ⟨x7, e8⟩ : ∃ z : Int32, z = t.2.2 + (1 : Int32) := ⟨_, rfl⟩
    have h := h x7 e8
    refine x_iinc (v := x7) (lv' := [(3, .int x7), (0, .ref a0), (1, va_rf t.1), (2, .int t.2.1)]) C dX10_replay_15 hl (q0 := 3) rfl (by rw [e8]; rfl) (by decide) (by first | rfl | simp [vrc, cat_i, cat_r, cat_l]) (fun ls hl => ?_)
    refine x_goto (tgt := 2) C dX10_replay_18 (by decide) ?_
    exact hL2 (t.1, t.2.1, x7) _ h ls (lv_sub hl [1, 2, 3, 0] rfl)
def wp_X10_replay (a0 : Nat) (p1 : Option Nat) (p2 : Int32) (σ : Sto) (Q : Sto → Prop) : Prop := LF (f_X10_replay_2 a0  Q) (p1, p2, (0 : Int32)) σ
set_option maxHeartbeats 4000000 in
set_option maxRecDepth 100000 in
theorem c_X10_replay (l : Launch) (D : va_G) (cy : Nat → ClassId) (a0 : Nat) (p1 : Option Nat) (p2 : Int32) (σ : Sto) (Q : Sto → Prop) (h : wp_X10_replay a0 p1 p2 σ Q) : Mt l D cy yX10_replay cX10_replay 6 none rm_X10_replay [.ref a0, va_rf p1, .int p2] σ (PsV Q) := by
  unfold wp_X10_replay at h
  refine mt_of (by decide +kernel) (by simp [lg_sl, vrc, cat_i, cat_r, cat_l]) ?_
  intro p e s m args below meth c A ls C hr hnm hl
  have C : Cx p s m args meth c D cy A cX10_replay 6 RX10 := C
  have hl : lv_has ls 6 [(0, .ref a0), (1, va_rf p1), (2, .int p2)] := by simpa [lv_args, vrc, cat_i, cat_r, cat_l] using hl
  refine x_iconst (v := 0) C dX10_replay_0 (by decide) ?_
  refine x_istore_n (i := 3) (lv' := [(3, .int (0 : Int32)), (0, .ref a0), (1, va_rf p1), (2, .int p2)]) C dX10_replay_1 rfl hl (by decide) (by first | rfl | simp [vrc, cat_i, cat_r, cat_l]) (fun ls hl => ?_)
  exact h (fun t σ => ∀ ls : Array Slot, lv_has ls 6 [(0, .ref a0), (1, va_rf t.1), (2, .int t.2.1), (3, .int t.2.2)] → Xw p l e rm_X10_replay s m args below meth c D cy A σ 0 0 (MQ below (Qst D cy A (PsV Q)) args s rm_X10_replay.cells rm_X10_replay.slots A) (F0 m 2 ls [])) (t_X10_replay_2 C hr hnm  (fun t σ h => h)) ls (lv_sub hl [1, 2, 3, 0] rfl)
theorem dX8_sendReply_0 : decode cX8_sendReply 0 = .ok (.iload_n 2, 1) := by decide +kernel
theorem dX8_sendReply_1 : decode cX8_sendReply 1 = .ok (.ifCond .eq 41, 3) := by decide +kernel
theorem dX8_sendReply_4 : decode cX8_sendReply 4 = .ok (.aload_n 0, 1) := by decide +kernel
theorem dX8_sendReply_5 : decode cX8_sendReply 5 = .ok (.getfield 37, 3) := by decide +kernel
theorem dX8_sendReply_8 : decode cX8_sendReply 8 = .ok (.aload_n 0, 1) := by decide +kernel
theorem dX8_sendReply_9 : decode cX8_sendReply 9 = .ok (.getfield 25, 3) := by decide +kernel
theorem dX8_sendReply_12 : decode cX8_sendReply 12 = .ok (.aload_n 0, 1) := by decide +kernel
theorem dX8_sendReply_13 : decode cX8_sendReply 13 = .ok (.getfield 25, 3) := by decide +kernel
theorem dX8_sendReply_16 : decode cX8_sendReply 16 = .ok (.getfield 66, 3) := by decide +kernel
theorem dX8_sendReply_19 : decode cX8_sendReply 19 = .ok (.invokevirtual 244, 3) := by decide +kernel
theorem dX8_sendReply_22 : decode cX8_sendReply 22 = .ok (.aload_n 0, 1) := by decide +kernel
theorem dX8_sendReply_23 : decode cX8_sendReply 23 = .ok (.getfield 37, 3) := by decide +kernel
theorem dX8_sendReply_26 : decode cX8_sendReply 26 = .ok (.getfield 250, 3) := by decide +kernel
theorem dX8_sendReply_29 : decode cX8_sendReply 29 = .ok (.aload_n 1, 1) := by decide +kernel
theorem dX8_sendReply_30 : decode cX8_sendReply 30 = .ok (.getfield 254, 3) := by decide +kernel
theorem dX8_sendReply_33 : decode cX8_sendReply 33 = .ok (.iaload, 1) := by decide +kernel
theorem dX8_sendReply_34 : decode cX8_sendReply 34 = .ok (.aload_n 1, 1) := by decide +kernel
theorem dX8_sendReply_35 : decode cX8_sendReply 35 = .ok (.getfield 259, 3) := by decide +kernel
theorem dX8_sendReply_38 : decode cX8_sendReply 38 = .ok (.if_icmp .eq 4, 3) := by decide +kernel
theorem dX8_sendReply_41 : decode cX8_sendReply 41 = .ok (.return_, 1) := by decide +kernel
theorem dX8_sendReply_42 : decode cX8_sendReply 42 = .ok (.aload_n 0, 1) := by decide +kernel
theorem dX8_sendReply_43 : decode cX8_sendReply 43 = .ok (.getfield 33, 3) := by decide +kernel
theorem dX8_sendReply_46 : decode cX8_sendReply 46 = .ok (.bipush 11, 2) := by decide +kernel
theorem dX8_sendReply_48 : decode cX8_sendReply 48 = .ok (.aload_n 0, 1) := by decide +kernel
theorem dX8_sendReply_49 : decode cX8_sendReply 49 = .ok (.getfield 29, 3) := by decide +kernel
theorem dX8_sendReply_52 : decode cX8_sendReply 52 = .ok (.aload_n 1, 1) := by decide +kernel
theorem dX8_sendReply_53 : decode cX8_sendReply 53 = .ok (.getfield 254, 3) := by decide +kernel
theorem dX8_sendReply_56 : decode cX8_sendReply 56 = .ok (.aload_n 0, 1) := by decide +kernel
theorem dX8_sendReply_57 : decode cX8_sendReply 57 = .ok (.getfield 13, 3) := by decide +kernel
theorem dX8_sendReply_60 : decode cX8_sendReply 60 = .ok (.aload_n 0, 1) := by decide +kernel
theorem dX8_sendReply_61 : decode cX8_sendReply 61 = .ok (.getfield 25, 3) := by decide +kernel
theorem dX8_sendReply_64 : decode cX8_sendReply 64 = .ok (.getfield 66, 3) := by decide +kernel
theorem dX8_sendReply_67 : decode cX8_sendReply 67 = .ok (.invokevirtual 171, 3) := by decide +kernel
theorem dX8_sendReply_70 : decode cX8_sendReply 70 = .ok (.astore_n 3, 1) := by decide +kernel
theorem dX8_sendReply_71 : decode cX8_sendReply 71 = .ok (.aload_n 3, 1) := by decide +kernel
theorem dX8_sendReply_72 : decode cX8_sendReply 72 = .ok (.aload_n 1, 1) := by decide +kernel
theorem dX8_sendReply_73 : decode cX8_sendReply 73 = .ok (.getfield 259, 3) := by decide +kernel
theorem dX8_sendReply_76 : decode cX8_sendReply 76 = .ok (.putfield 260, 3) := by decide +kernel
theorem dX8_sendReply_79 : decode cX8_sendReply 79 = .ok (.aload_n 3, 1) := by decide +kernel
theorem dX8_sendReply_80 : decode cX8_sendReply 80 = .ok (.iload_n 2, 1) := by decide +kernel
theorem dX8_sendReply_81 : decode cX8_sendReply 81 = .ok (.putfield 263, 3) := by decide +kernel
theorem dX8_sendReply_84 : decode cX8_sendReply 84 = .ok (.aload_n 3, 1) := by decide +kernel
theorem dX8_sendReply_85 : decode cX8_sendReply 85 = .ok (.iload_n 2, 1) := by decide +kernel
theorem dX8_sendReply_86 : decode cX8_sendReply 86 = .ok (.ifCond .eq 18, 3) := by decide +kernel
theorem dX8_sendReply_89 : decode cX8_sendReply 89 = .ok (.aload_n 0, 1) := by decide +kernel
theorem dX8_sendReply_90 : decode cX8_sendReply 90 = .ok (.getfield 37, 3) := by decide +kernel
theorem dX8_sendReply_93 : decode cX8_sendReply 93 = .ok (.getfield 267, 3) := by decide +kernel
theorem dX8_sendReply_96 : decode cX8_sendReply 96 = .ok (.aload_n 1, 1) := by decide +kernel
theorem dX8_sendReply_97 : decode cX8_sendReply 97 = .ok (.getfield 254, 3) := by decide +kernel
theorem dX8_sendReply_100 : decode cX8_sendReply 100 = .ok (.iaload, 1) := by decide +kernel
theorem dX8_sendReply_101 : decode cX8_sendReply 101 = .ok (.goto 4, 3) := by decide +kernel
theorem dX8_sendReply_104 : decode cX8_sendReply 104 = .ok (.iconst 0, 1) := by decide +kernel
theorem dX8_sendReply_105 : decode cX8_sendReply 105 = .ok (.putfield 270, 3) := by decide +kernel
theorem dX8_sendReply_108 : decode cX8_sendReply 108 = .ok (.return_, 1) := by decide +kernel
abbrev rm_X8_sendReply : Room := { frames := 1, cells := 0, slots := 0, locals := 27 }
def b_X8_sendReply_105 (a0 : Nat)  (Q : Sto → Prop) (s0 : Int32) (s1 : Option Nat) (σ : Sto) : Prop := (∃ b1 : Nat, s1 = some b1 ∧ (sK σ b1 = 3 ∧ Q (stI σ b1 10 s0)))
set_option maxHeartbeats 4000000 in
set_option maxRecDepth 100000 in
theorem t_X8_sendReply_105 {p : Program} {l : Launch} {e : Env} {s : State} {m : MethodId} {args : Array Value} {below : List Frame} {meth : Method} {c : Code} {D : va_G} {cy : Nat → ClassId} {A : Nat → Prop} {a0 : Nat} {Q : Sto → Prop} (C : Cx p s m args meth c D cy A cX8_sendReply 4 RX8) (hr : meth.sig.returnType = none) (hnm : meth.name = yX8_sendReply.name) (s0 : Int32) (s1 : Option Nat) (σ : Sto) (h : b_X8_sendReply_105 a0  Q s0 s1 σ) (ls : Array Slot) (hl : lv_has ls 4 []) : Xw p l e rm_X8_sendReply s m args below meth c D cy A σ 0 0 (MQ below (Qst D cy A (PsV Q)) args s rm_X8_sendReply.cells rm_X8_sendReply.slots A) (F0 m 105 ls [.int s0, va_rf s1]) := by
  unfold b_X8_sendReply_105 at h
  obtain ⟨b1, g2, h⟩ := h
  refine x_nn1 g2 ?_
  obtain ⟨g3, h⟩ := h
  refine x_putI C fl_RX8_270 (Or.inl rfl) g3 dX8_sendReply_105 ?_
  exact x_vret C hr dX8_sendReply_108 ⟨rfl, h⟩
def b_X8_sendReply_42 (a0 : Nat)  (Q : Sto → Prop) (p1 : Option Nat) (p2 : Int32) (σ : Sto) : Prop := (sK σ a0 = 8 ∧ (∀ x2 : Int32, x2 = sI σ a0 0 → (∃ b4 : Nat, p1 = some b4 ∧ (sK σ b4 = 9 ∧ (∀ x7 : Int32, x7 = sI σ b4 0 → (∀ y9 : Int64, y9 = sJ σ a0 5 → (∃ b11 : Nat, sP σ a0 7 = some b11 ∧ (sK σ b11 = 2 ∧ (∀ x14 : Int32, x14 = sI σ b11 1 → (∃ b16 : Nat, sP σ a0 1 = some b16 ∧ (sK σ b16 = 4 ∧ (wp_X4_send b16 (11 : Int32) x2 x7 y9 x14 σ (fun (r20 : Option Nat) (σ19 : Sto) => (sK σ19 b4 = 9 ∧ (∀ x22 : Int32, x22 = sI σ19 b4 1 → (∃ b24 : Nat, r20 = some b24 ∧ (sK σ19 b24 = 3 ∧ ((p2 = 0 ∨ p2 = 1) ∧ ((p2 = 0 → b_X8_sendReply_105 a0  Q (0 : Int32) r20 (stI (stI σ19 b24 8 x22) b24 9 p2)) ∧ (¬ p2 = 0 → (sK σ19 a0 = 8 ∧ (∃ b30 : Nat, sP σ19 a0 2 = some b30 ∧ (sK σ19 b30 = 10 ∧ (∀ x33 : Int32, x33 = sI (stI (stI σ19 b24 8 x22) b24 9 p2) b4 0 → (∃ b35 : Nat, sP σ19 b30 2 = some b35 ∧ (sK σ19 b35 = 14 ∧ (vp_in x33 (sN σ19 b35) ∧ (∀ x39 : Int32, x39 = sI (stI (stI σ19 b24 8 x22) b24 9 p2) b35 x33.toNatClampNeg → b_X8_sendReply_105 a0  Q x39 r20 (stI (stI σ19 b24 8 x22) b24 9 p2)))))))))))))))))))))))))))))
set_option maxHeartbeats 4000000 in
set_option maxRecDepth 100000 in
theorem t_X8_sendReply_42 {p : Program} {l : Launch} {e : Env} {s : State} {m : MethodId} {args : Array Value} {below : List Frame} {meth : Method} {c : Code} {D : va_G} {cy : Nat → ClassId} {A : Nat → Prop} {a0 : Nat} {Q : Sto → Prop} (C : Cx p s m args meth c D cy A cX8_sendReply 4 RX8) (hr : meth.sig.returnType = none) (hnm : meth.name = yX8_sendReply.name) (p1 : Option Nat) (p2 : Int32) (σ : Sto) (h : b_X8_sendReply_42 a0  Q p1 p2 σ) (ls : Array Slot) (hl : lv_has ls 4 [(0, .ref a0), (1, va_rf p1), (2, .int p2)]) : Xw p l e rm_X8_sendReply s m args below meth c D cy A σ 0 0 (MQ below (Qst D cy A (PsV Q)) args s rm_X8_sendReply.cells rm_X8_sendReply.slots A) (F0 m 42 ls []) := by
  unfold b_X8_sendReply_42 at h
  refine x_aload_n C dX8_sendReply_42 rfl (lv_at hl 0 rfl) ?_
  obtain ⟨g1, h⟩ := h
  refine x_getP C fl_RX8_33 g1 dX8_sendReply_43 ?_
  refine x_bipush (v := 11) C dX8_sendReply_46 (by decide) ?_
  refine x_aload_n C dX8_sendReply_48 rfl (lv_at hl 0 rfl) ?_
  refine x_getI C fl_RX8_29 g1 dX8_sendReply_49 ?_
  refine x_topi (fun x2 e3 => ?_)
  have h := h x2 e3
  refine x_aload_nq C dX8_sendReply_52 rfl (lv_at hl 1 rfl) ?_
  obtain ⟨b4, g5, h⟩ := h
  refine x_nn0 g5 ?_
  obtain ⟨g6, h⟩ := h
  refine x_getI C fl_RX8_254 g6 dX8_sendReply_53 ?_
  refine x_topi (fun x7 e8 => ?_)
  have h := h x7 e8
  refine x_aload_n C dX8_sendReply_56 rfl (lv_at hl 0 rfl) ?_
  refine x_getJ C fl_RX8_13 g1 dX8_sendReply_57 ?_
  refine x_topj (fun y9 e10 => ?_)
  have h := h y9 e10
  refine x_aload_n C dX8_sendReply_60 rfl (lv_at hl 0 rfl) ?_
  refine x_getP C fl_RX8_25 g1 dX8_sendReply_61 ?_
  obtain ⟨b11, g12, h⟩ := h
  refine x_nn0 g12 ?_
  obtain ⟨g13, h⟩ := h
  refine x_getI C fl_RX8_66 g13 dX8_sendReply_64 ?_
  refine x_topi (fun x14 e15 => ?_)
  have h := h x14 e15
  obtain ⟨b16, g17, h⟩ := h
  refine x_nn5 g17 ?_
  obtain ⟨g18, h⟩ := h
  refine x_callV (rm := rm_X4_send) (rest := []) (As := [.int (11 : Int32), .int x2, .int x7, .long y9, .int x14]) C cy_RX8_171 g18 (by decide) (by decide) rfl rfl (Nat.le_of_ble_eq_true rfl) hl.1 dX8_sendReply_67 (c_X4_send l D cy b16 (11 : Int32) x2 x7 y9 x14 σ _ h) (ks_p (fun r20 σ19 h => ?_))
  refine x_astore_nq (i := 3) (lv' := [(3, va_rf r20), (0, .ref a0), (1, va_rf p1), (2, .int p2)]) C dX8_sendReply_70 rfl hl (by decide) (by first | rfl | simp [vrc, cat_i, cat_r, cat_l]) (fun ls hl => ?_)
  refine x_aload_nq C dX8_sendReply_71 rfl (lv_at hl 0 rfl) ?_
  refine x_aload_nq C dX8_sendReply_72 rfl (lv_at hl 2 rfl) ?_
  refine x_nn0 g5 ?_
  obtain ⟨g21, h⟩ := h
  refine x_getI C fl_RX8_259 g21 dX8_sendReply_73 ?_
  refine x_topi (fun x22 e23 => ?_)
  have h := h x22 e23
  obtain ⟨b24, g25, h⟩ := h
  refine x_nn1 g25 ?_
  obtain ⟨g26, h⟩ := h
  refine x_putI C fl_RX8_260 (Or.inl rfl) g26 dX8_sendReply_76 ?_
  refine x_aload_nq C dX8_sendReply_79 rfl (lv_at hl 0 rfl) ?_
  refine x_iload_n C dX8_sendReply_80 rfl (lv_at hl 3 rfl) ?_
  refine x_nn1 g25 ?_
  obtain ⟨g27, h⟩ := h
  refine x_putZ C fl_RX8_263 (Or.inl rfl) g27 g26 dX8_sendReply_81 ?_
  refine x_aload_nq C dX8_sendReply_84 rfl (lv_at hl 0 rfl) ?_
  refine x_iload_n C dX8_sendReply_85 rfl (lv_at hl 3 rfl) ?_
  refine x_if_eq (tgt := 104) C dX8_sendReply_86 (by decide) (fun c28 => ?_) (fun c28 => ?_)
  · have h := h.1 c28
    refine x_iconst (v := 0) C dX8_sendReply_104 (by decide) ?_
    exact t_X8_sendReply_105 C hr hnm  (0 : Int32) r20 _ h ls (lv_sub hl [] rfl)
  · have h := h.2 c28
    refine x_aload_n C dX8_sendReply_89 rfl (lv_at hl 1 rfl) ?_
    obtain ⟨g29, h⟩ := h
    refine x_getP C fl_RX8_37 g29 dX8_sendReply_90 ?_
    obtain ⟨b30, g31, h⟩ := h
    refine x_nn0 g31 ?_
    obtain ⟨g32, h⟩ := h
    refine x_getP C fl_RX8_267 g32 dX8_sendReply_93 ?_
    refine x_aload_nq C dX8_sendReply_96 rfl (lv_at hl 2 rfl) ?_
    refine x_nn0 g5 ?_
    refine x_getI C fl_RX8_254 g21 dX8_sendReply_97 ?_
    refine x_topi (fun x33 e34 => ?_)
    have h := h x33 e34
    obtain ⟨b35, g36, h⟩ := h
    refine x_nn1 g36 ?_
    obtain ⟨g37, h⟩ := h
    obtain ⟨g38, h⟩ := h
    refine x_iald C g37 g38 dX8_sendReply_100 ?_
    refine x_topi (fun x39 e40 => ?_)
    have h := h x39 e40
    refine x_goto (tgt := 105) C dX8_sendReply_101 (by decide) ?_
    exact t_X8_sendReply_105 C hr hnm  x39 r20 _ h ls (lv_sub hl [] rfl)
def wp_X8_sendReply (a0 : Nat) (p1 : Option Nat) (p2 : Int32) (σ : Sto) (Q : Sto → Prop) : Prop := ((p2 = 0 → b_X8_sendReply_42 a0  Q p1 p2 σ) ∧ (¬ p2 = 0 → (sK σ a0 = 8 ∧ (∃ b3 : Nat, sP σ a0 7 = some b3 ∧ (sK σ b3 = 2 ∧ (∀ x6 : Int32, x6 = sI σ b3 1 → (∃ b8 : Nat, sP σ a0 2 = some b8 ∧ (sK σ b8 = 10 ∧ (wp_X10_replay b8 (sP σ a0 7) x6 σ (fun (σ11 : Sto) => (sK σ11 a0 = 8 ∧ (∃ b13 : Nat, sP σ11 a0 2 = some b13 ∧ (sK σ11 b13 = 10 ∧ (∃ b16 : Nat, p1 = some b16 ∧ (sK σ11 b16 = 9 ∧ (∀ x19 : Int32, x19 = sI σ11 b16 0 → (∃ b21 : Nat, sP σ11 b13 1 = some b21 ∧ (sK σ11 b21 = 14 ∧ (vp_in x19 (sN σ11 b21) ∧ (∀ x25 : Int32, x25 = sI σ11 b21 x19.toNatClampNeg → (∀ x27 : Int32, x27 = sI σ11 b16 1 → ((x25 = x27 → b_X8_sendReply_42 a0  Q p1 p2 σ11) ∧ (¬ x25 = x27 → Q σ11)))))))))))))))))))))))
set_option maxHeartbeats 4000000 in
set_option maxRecDepth 100000 in
theorem c_X8_sendReply (l : Launch) (D : va_G) (cy : Nat → ClassId) (a0 : Nat) (p1 : Option Nat) (p2 : Int32) (σ : Sto) (Q : Sto → Prop) (h : wp_X8_sendReply a0 p1 p2 σ Q) : Mt l D cy yX8_sendReply cX8_sendReply 4 none rm_X8_sendReply [.ref a0, va_rf p1, .int p2] σ (PsV Q) := by
  unfold wp_X8_sendReply at h
  refine mt_of (by decide +kernel) (by simp [lg_sl, vrc, cat_i, cat_r, cat_l]) ?_
  intro p e s m args below meth c A ls C hr hnm hl
  have C : Cx p s m args meth c D cy A cX8_sendReply 4 RX8 := C
  have hl : lv_has ls 4 [(0, .ref a0), (1, va_rf p1), (2, .int p2)] := by simpa [lv_args, vrc, cat_i, cat_r, cat_l] using hl
  refine x_iload_n C dX8_sendReply_0 rfl (lv_at hl 2 rfl) ?_
  refine x_if_eq (tgt := 42) C dX8_sendReply_1 (by decide) (fun c1 => ?_) (fun c1 => ?_)
  · have h := h.1 c1
    exact t_X8_sendReply_42 C hr hnm  p1 p2 _ h ls (lv_sub hl [0, 1, 2] rfl)
  · have h := h.2 c1
    refine x_aload_n C dX8_sendReply_4 rfl (lv_at hl 0 rfl) ?_
    obtain ⟨g2, h⟩ := h
    refine x_getP C fl_RX8_37 g2 dX8_sendReply_5 ?_
    refine x_aload_n C dX8_sendReply_8 rfl (lv_at hl 0 rfl) ?_
    refine x_getP C fl_RX8_25 g2 dX8_sendReply_9 ?_
    refine x_aload_n C dX8_sendReply_12 rfl (lv_at hl 0 rfl) ?_
    refine x_getP C fl_RX8_25 g2 dX8_sendReply_13 ?_
    obtain ⟨b3, g4, h⟩ := h
    refine x_nn0 g4 ?_
    obtain ⟨g5, h⟩ := h
    refine x_getI C fl_RX8_66 g5 dX8_sendReply_16 ?_
    refine x_topi (fun x6 e7 => ?_)
    have h := h x6 e7
    obtain ⟨b8, g9, h⟩ := h
    refine x_nn2 g9 ?_
    obtain ⟨g10, h⟩ := h
    refine x_callV (rm := rm_X10_replay) (rest := []) (As := [va_rf (sP σ a0 7), .int x6]) C cy_RX8_244 g10 (by decide) (by decide) rfl rfl (Nat.le_of_ble_eq_true rfl) hl.1 dX8_sendReply_19 (c_X10_replay l D cy b8 (sP σ a0 7) x6 σ _ h) (ks_v (fun σ11 h => ?_))
    refine x_aload_n C dX8_sendReply_22 rfl (lv_at hl 0 rfl) ?_
    obtain ⟨g12, h⟩ := h
    refine x_getP C fl_RX8_37 g12 dX8_sendReply_23 ?_
    obtain ⟨b13, g14, h⟩ := h
    refine x_nn0 g14 ?_
    obtain ⟨g15, h⟩ := h
    refine x_getP C fl_RX8_250 g15 dX8_sendReply_26 ?_
    refine x_aload_nq C dX8_sendReply_29 rfl (lv_at hl 1 rfl) ?_
    obtain ⟨b16, g17, h⟩ := h
    refine x_nn0 g17 ?_
    obtain ⟨g18, h⟩ := h
    refine x_getI C fl_RX8_254 g18 dX8_sendReply_30 ?_
    refine x_topi (fun x19 e20 => ?_)
    have h := h x19 e20
    obtain ⟨b21, g22, h⟩ := h
    refine x_nn1 g22 ?_
    obtain ⟨g23, h⟩ := h
    obtain ⟨g24, h⟩ := h
    refine x_iald C g23 g24 dX8_sendReply_33 ?_
    refine x_topi (fun x25 e26 => ?_)
    have h := h x25 e26
    refine x_aload_nq C dX8_sendReply_34 rfl (lv_at hl 1 rfl) ?_
    refine x_nn0 g17 ?_
    refine x_getI C fl_RX8_259 g18 dX8_sendReply_35 ?_
    refine x_topi (fun x27 e28 => ?_)
    have h := h x27 e28
    refine x_icmp_eq (tgt := 42) C dX8_sendReply_38 (by decide) (fun c29 => ?_) (fun c29 => ?_)
    · have h := h.1 c29
      exact t_X8_sendReply_42 C hr hnm  p1 p2 _ h ls (lv_sub hl [0, 1, 2] rfl)
    · have h := h.2 c29
      exact x_vret C hr dX8_sendReply_41 ⟨rfl, h⟩
theorem dX8_sendOthers_0 : decode cX8_sendOthers 0 = .ok (.iconst 0, 1) := by decide +kernel
theorem dX8_sendOthers_1 : decode cX8_sendOthers 1 = .ok (.istore_n 3, 1) := by decide +kernel
theorem dX8_sendOthers_2 : decode cX8_sendOthers 2 = .ok (.iload_n 3, 1) := by decide +kernel
theorem dX8_sendOthers_3 : decode cX8_sendOthers 3 = .ok (.aload_n 0, 1) := by decide +kernel
theorem dX8_sendOthers_4 : decode cX8_sendOthers 4 = .ok (.getfield 33, 3) := by decide +kernel
theorem dX8_sendOthers_7 : decode cX8_sendOthers 7 = .ok (.getfield 43, 3) := by decide +kernel
theorem dX8_sendOthers_10 : decode cX8_sendOthers 10 = .ok (.if_icmp .ge 36, 3) := by decide +kernel
theorem dX8_sendOthers_13 : decode cX8_sendOthers 13 = .ok (.iload_n 3, 1) := by decide +kernel
theorem dX8_sendOthers_14 : decode cX8_sendOthers 14 = .ok (.aload_n 0, 1) := by decide +kernel
theorem dX8_sendOthers_15 : decode cX8_sendOthers 15 = .ok (.getfield 29, 3) := by decide +kernel
theorem dX8_sendOthers_18 : decode cX8_sendOthers 18 = .ok (.if_icmp .eq 22, 3) := by decide +kernel
theorem dX8_sendOthers_21 : decode cX8_sendOthers 21 = .ok (.aload_n 0, 1) := by decide +kernel
theorem dX8_sendOthers_22 : decode cX8_sendOthers 22 = .ok (.getfield 33, 3) := by decide +kernel
theorem dX8_sendOthers_25 : decode cX8_sendOthers 25 = .ok (.iload_n 1, 1) := by decide +kernel
theorem dX8_sendOthers_26 : decode cX8_sendOthers 26 = .ok (.aload_n 0, 1) := by decide +kernel
theorem dX8_sendOthers_27 : decode cX8_sendOthers 27 = .ok (.getfield 29, 3) := by decide +kernel
theorem dX8_sendOthers_30 : decode cX8_sendOthers 30 = .ok (.iload_n 3, 1) := by decide +kernel
theorem dX8_sendOthers_31 : decode cX8_sendOthers 31 = .ok (.aload_n 0, 1) := by decide +kernel
theorem dX8_sendOthers_32 : decode cX8_sendOthers 32 = .ok (.getfield 13, 3) := by decide +kernel
theorem dX8_sendOthers_35 : decode cX8_sendOthers 35 = .ok (.iload_n 2, 1) := by decide +kernel
theorem dX8_sendOthers_36 : decode cX8_sendOthers 36 = .ok (.invokevirtual 171, 3) := by decide +kernel
theorem dX8_sendOthers_39 : decode cX8_sendOthers 39 = .ok (.pop, 1) := by decide +kernel
theorem dX8_sendOthers_40 : decode cX8_sendOthers 40 = .ok (.iinc 3 1, 3) := by decide +kernel
theorem dX8_sendOthers_43 : decode cX8_sendOthers 43 = .ok (.goto (-41), 3) := by decide +kernel
theorem dX8_sendOthers_46 : decode cX8_sendOthers 46 = .ok (.return_, 1) := by decide +kernel
abbrev rm_X8_sendOthers : Room := { frames := 1, cells := 0, slots := 0, locals := 27 }
def b_X8_sendOthers_40 (a0 : Nat) (L2 : Int32 × Int32 × Int32 → Sto → Prop) (Q : Sto → Prop) (p1 : Int32) (p2 : Int32) (p3 : Int32) (σ : Sto) : Prop := (∀ x1 : Int32, x1 = p3 + (1 : Int32) → L2 (p1, p2, x1) σ)
set_option maxHeartbeats 4000000 in
set_option maxRecDepth 100000 in
theorem t_X8_sendOthers_40 {p : Program} {l : Launch} {e : Env} {s : State} {m : MethodId} {args : Array Value} {below : List Frame} {meth : Method} {c : Code} {D : va_G} {cy : Nat → ClassId} {A : Nat → Prop} {a0 : Nat} {L2 : Int32 × Int32 × Int32 → Sto → Prop} {Q : Sto → Prop} (C : Cx p s m args meth c D cy A cX8_sendOthers 4 RX8) (hr : meth.sig.returnType = none) (hnm : meth.name = yX8_sendOthers.name) (hL2 : ∀ (t : Int32 × Int32 × Int32) (σ : Sto), L2 t σ → ∀ ls : Array Slot, lv_has ls 4 [(0, .ref a0), (1, .int t.1), (2, .int t.2.1), (3, .int t.2.2)] → Xw p l e rm_X8_sendOthers s m args below meth c D cy A σ 0 0 (MQ below (Qst D cy A (PsV Q)) args s rm_X8_sendOthers.cells rm_X8_sendOthers.slots A) (F0 m 2 ls [])) (p1 : Int32) (p2 : Int32) (p3 : Int32) (σ : Sto) (h : b_X8_sendOthers_40 a0 L2 Q p1 p2 p3 σ) (ls : Array Slot) (hl : lv_has ls 4 [(0, .ref a0), (1, .int p1), (2, .int p2), (3, .int p3)]) : Xw p l e rm_X8_sendOthers s m args below meth c D cy A σ 0 0 (MQ below (Qst D cy A (PsV Q)) args s rm_X8_sendOthers.cells rm_X8_sendOthers.slots A) (F0 m 40 ls []) := by
  unfold b_X8_sendOthers_40 at h
  obtain ⟨x1, e2⟩ : ∃ z : Int32, z = p3 + (1 : Int32) := ⟨_, rfl⟩
  have h := h x1 e2
  refine x_iinc (v := x1) (lv' := [(3, .int x1), (0, .ref a0), (1, .int p1), (2, .int p2)]) C dX8_sendOthers_40 hl (q0 := 3) rfl (by rw [e2]; rfl) (by decide) (by first | rfl | simp [vrc, cat_i, cat_r, cat_l]) (fun ls hl => ?_)
  refine x_goto (tgt := 2) C dX8_sendOthers_43 (by decide) ?_
  exact hL2 (p1, p2, x1) _ h ls (lv_sub hl [1, 2, 3, 0] rfl)
def f_X8_sendOthers_2 (a0 : Nat)  (Q : Sto → Prop) (L2 : Int32 × Int32 × Int32 → Sto → Prop) (t : Int32 × Int32 × Int32) (σ : Sto) : Prop := (sK σ a0 = 8 ∧ (∃ b2 : Nat, sP σ a0 1 = some b2 ∧ (sK σ b2 = 4 ∧ (∀ x5 : Int32, x5 = sI σ b2 0 → ((x5 ≤ t.2.2 → Q σ) ∧ (¬ x5 ≤ t.2.2 → (∀ x8 : Int32, x8 = sI σ a0 0 → ((t.2.2 = x8 → b_X8_sendOthers_40 a0 L2 Q t.1 t.2.1 t.2.2 σ) ∧ (¬ t.2.2 = x8 → (∀ x11 : Int32, x11 = sI σ a0 0 → (∀ y13 : Int64, y13 = sJ σ a0 5 → (wp_X4_send b2 t.1 x11 t.2.2 y13 t.2.1 σ (fun (r16 : Option Nat) (σ15 : Sto) => b_X8_sendOthers_40 a0 L2 Q t.1 t.2.1 t.2.2 σ15)))))))))))))
set_option maxHeartbeats 4000000 in
set_option maxRecDepth 100000 in
theorem t_X8_sendOthers_2 {p : Program} {l : Launch} {e : Env} {s : State} {m : MethodId} {args : Array Value} {below : List Frame} {meth : Method} {c : Code} {D : va_G} {cy : Nat → ClassId} {A : Nat → Prop} {a0 : Nat} {Q : Sto → Prop} {L2 : Int32 × Int32 × Int32 → Sto → Prop} (C : Cx p s m args meth c D cy A cX8_sendOthers 4 RX8) (hr : meth.sig.returnType = none) (hnm : meth.name = yX8_sendOthers.name) (hL2 : ∀ (t : Int32 × Int32 × Int32) (σ : Sto), L2 t σ → ∀ ls : Array Slot, lv_has ls 4 [(0, .ref a0), (1, .int t.1), (2, .int t.2.1), (3, .int t.2.2)] → Xw p l e rm_X8_sendOthers s m args below meth c D cy A σ 0 0 (MQ below (Qst D cy A (PsV Q)) args s rm_X8_sendOthers.cells rm_X8_sendOthers.slots A) (F0 m 2 ls [])) : ∀ (t : Int32 × Int32 × Int32) (σ : Sto), f_X8_sendOthers_2 a0  Q L2 t σ → ∀ ls : Array Slot, lv_has ls 4 [(0, .ref a0), (1, .int t.1), (2, .int t.2.1), (3, .int t.2.2)] → Xw p l e rm_X8_sendOthers s m args below meth c D cy A σ 0 0 (MQ below (Qst D cy A (PsV Q)) args s rm_X8_sendOthers.cells rm_X8_sendOthers.slots A) (F0 m 2 ls []) := by
  intro t σ h ls hl
  unfold f_X8_sendOthers_2 at h
  refine x_iload_n C dX8_sendOthers_2 rfl (lv_at hl 3 rfl) ?_
  refine x_aload_n C dX8_sendOthers_3 rfl (lv_at hl 0 rfl) ?_
  obtain ⟨g1, h⟩ := h
  refine x_getP C fl_RX8_33 g1 dX8_sendOthers_4 ?_
  obtain ⟨b2, g3, h⟩ := h
  refine x_nn0 g3 ?_
  obtain ⟨g4, h⟩ := h
  refine x_getI C fl_RX8_43 g4 dX8_sendOthers_7 ?_
  refine x_topi (fun x5 e6 => ?_)
  have h := h x5 e6
  refine x_icmp_ge (tgt := 46) C dX8_sendOthers_10 (by decide) (fun c7 => ?_) (fun c7 => ?_)
  · have h := h.1 c7
    exact x_vret C hr dX8_sendOthers_46 ⟨rfl, h⟩
  · have h := h.2 c7
    refine x_iload_n C dX8_sendOthers_13 rfl (lv_at hl 3 rfl) ?_
    refine x_aload_n C dX8_sendOthers_14 rfl (lv_at hl 0 rfl) ?_
    refine x_getI C fl_RX8_29 g1 dX8_sendOthers_15 ?_
    refine x_topi (fun x8 e9 => ?_)
    have h := h x8 e9
    refine x_icmp_eq (tgt := 40) C dX8_sendOthers_18 (by decide) (fun c10 => ?_) (fun c10 => ?_)
    · have h := h.1 c10
      exact t_X8_sendOthers_40 C hr hnm hL2 t.1 t.2.1 t.2.2 _ h ls (lv_sub hl [0, 1, 2, 3] rfl)
    · have h := h.2 c10
      refine x_aload_n C dX8_sendOthers_21 rfl (lv_at hl 0 rfl) ?_
      refine x_getP C fl_RX8_33 g1 dX8_sendOthers_22 ?_
      refine x_iload_n C dX8_sendOthers_25 rfl (lv_at hl 1 rfl) ?_
      refine x_aload_n C dX8_sendOthers_26 rfl (lv_at hl 0 rfl) ?_
      refine x_getI C fl_RX8_29 g1 dX8_sendOthers_27 ?_
      refine x_topi (fun x11 e12 => ?_)
      have h := h x11 e12
      refine x_iload_n C dX8_sendOthers_30 rfl (lv_at hl 3 rfl) ?_
      refine x_aload_n C dX8_sendOthers_31 rfl (lv_at hl 0 rfl) ?_
      refine x_getJ C fl_RX8_13 g1 dX8_sendOthers_32 ?_
      refine x_topj (fun y13 e14 => ?_)
      have h := h y13 e14
      refine x_iload_n C dX8_sendOthers_35 rfl (lv_at hl 2 rfl) ?_
      refine x_nn5 g3 ?_
      refine x_callV (rm := rm_X4_send) (rest := []) (As := [.int t.1, .int x11, .int t.2.2, .long y13, .int t.2.1]) C cy_RX8_171 g4 (by decide) (by decide) rfl rfl (Nat.le_of_ble_eq_true rfl) hl.1 dX8_sendOthers_36 (c_X4_send l D cy b2 t.1 x11 t.2.2 y13 t.2.1 σ _ h) (ks_p (fun r16 σ15 h => ?_))
      refine x_pop C dX8_sendOthers_39 (vrc _) ?_
      exact t_X8_sendOthers_40 C hr hnm hL2 t.1 t.2.1 t.2.2 _ h ls (lv_sub hl [0, 1, 2, 3] rfl)
def wp_X8_sendOthers (a0 : Nat) (p1 : Int32) (p2 : Int32) (σ : Sto) (Q : Sto → Prop) : Prop := LF (f_X8_sendOthers_2 a0  Q) (p1, p2, (0 : Int32)) σ
set_option maxHeartbeats 4000000 in
set_option maxRecDepth 100000 in
theorem c_X8_sendOthers (l : Launch) (D : va_G) (cy : Nat → ClassId) (a0 : Nat) (p1 : Int32) (p2 : Int32) (σ : Sto) (Q : Sto → Prop) (h : wp_X8_sendOthers a0 p1 p2 σ Q) : Mt l D cy yX8_sendOthers cX8_sendOthers 4 none rm_X8_sendOthers [.ref a0, .int p1, .int p2] σ (PsV Q) := by
  unfold wp_X8_sendOthers at h
  refine mt_of (by decide +kernel) (Nat.le_of_ble_eq_true rfl) ?_
  intro p e s m args below meth c A ls C hr hnm hl
  have C : Cx p s m args meth c D cy A cX8_sendOthers 4 RX8 := C
  have hl : lv_has ls 4 [(0, .ref a0), (1, .int p1), (2, .int p2)] := hl
  refine x_iconst (v := 0) C dX8_sendOthers_0 (by decide) ?_
  refine x_istore_n (i := 3) (lv' := [(3, .int (0 : Int32)), (0, .ref a0), (1, .int p1), (2, .int p2)]) C dX8_sendOthers_1 rfl hl (by decide) (by first | rfl | simp [vrc, cat_i, cat_r, cat_l]) (fun ls hl => ?_)
  exact h (fun t σ => ∀ ls : Array Slot, lv_has ls 4 [(0, .ref a0), (1, .int t.1), (2, .int t.2.1), (3, .int t.2.2)] → Xw p l e rm_X8_sendOthers s m args below meth c D cy A σ 0 0 (MQ below (Qst D cy A (PsV Q)) args s rm_X8_sendOthers.cells rm_X8_sendOthers.slots A) (F0 m 2 ls [])) (t_X8_sendOthers_2 C hr hnm  (fun t σ h => h)) ls (lv_sub hl [1, 2, 3, 0] rfl)
theorem dX8_takeHeld_0 : decode cX8_takeHeld 0 = .ok (.aload_n 0, 1) := by decide +kernel
theorem dX8_takeHeld_1 : decode cX8_takeHeld 1 = .ok (.invokevirtual 59, 3) := by decide +kernel
theorem dX8_takeHeld_4 : decode cX8_takeHeld 4 = .ok (.istore_n 1, 1) := by decide +kernel
theorem dX8_takeHeld_5 : decode cX8_takeHeld 5 = .ok (.iconst 0, 1) := by decide +kernel
theorem dX8_takeHeld_6 : decode cX8_takeHeld 6 = .ok (.istore_n 2, 1) := by decide +kernel
theorem dX8_takeHeld_7 : decode cX8_takeHeld 7 = .ok (.iload_n 2, 1) := by decide +kernel
theorem dX8_takeHeld_8 : decode cX8_takeHeld 8 = .ok (.bipush 100, 2) := by decide +kernel
theorem dX8_takeHeld_10 : decode cX8_takeHeld 10 = .ok (.if_icmp .ge 65, 3) := by decide +kernel
theorem dX8_takeHeld_13 : decode cX8_takeHeld 13 = .ok (.aload_n 0, 1) := by decide +kernel
theorem dX8_takeHeld_14 : decode cX8_takeHeld 14 = .ok (.getfield 25, 3) := by decide +kernel
theorem dX8_takeHeld_17 : decode cX8_takeHeld 17 = .ok (.invokevirtual 175, 3) := by decide +kernel
theorem dX8_takeHeld_20 : decode cX8_takeHeld 20 = .ok (.ifCond .ne 55, 3) := by decide +kernel
theorem dX8_takeHeld_23 : decode cX8_takeHeld 23 = .ok (.aload_n 0, 1) := by decide +kernel
theorem dX8_takeHeld_24 : decode cX8_takeHeld 24 = .ok (.getfield 51, 3) := by decide +kernel
theorem dX8_takeHeld_27 : decode cX8_takeHeld 27 = .ok (.aload_n 0, 1) := by decide +kernel
theorem dX8_takeHeld_28 : decode cX8_takeHeld 28 = .ok (.getfield 25, 3) := by decide +kernel
theorem dX8_takeHeld_31 : decode cX8_takeHeld 31 = .ok (.getfield 66, 3) := by decide +kernel
theorem dX8_takeHeld_34 : decode cX8_takeHeld 34 = .ok (.iconst 1, 1) := by decide +kernel
theorem dX8_takeHeld_35 : decode cX8_takeHeld 35 = .ok (.iadd, 1) := by decide +kernel
theorem dX8_takeHeld_36 : decode cX8_takeHeld 36 = .ok (.aload_n 0, 1) := by decide +kernel
theorem dX8_takeHeld_37 : decode cX8_takeHeld 37 = .ok (.getfield 25, 3) := by decide +kernel
theorem dX8_takeHeld_40 : decode cX8_takeHeld 40 = .ok (.getfield 142, 3) := by decide +kernel
theorem dX8_takeHeld_43 : decode cX8_takeHeld 43 = .ok (.isub, 1) := by decide +kernel
theorem dX8_takeHeld_44 : decode cX8_takeHeld 44 = .ok (.invokevirtual 178, 3) := by decide +kernel
theorem dX8_takeHeld_47 : decode cX8_takeHeld 47 = .ok (.astore_n 3, 1) := by decide +kernel
theorem dX8_takeHeld_48 : decode cX8_takeHeld 48 = .ok (.aload_n 3, 1) := by decide +kernel
theorem dX8_takeHeld_49 : decode cX8_takeHeld 49 = .ok (.ifnonnull 6, 3) := by decide +kernel
theorem dX8_takeHeld_52 : decode cX8_takeHeld 52 = .ok (.goto 23, 3) := by decide +kernel
theorem dX8_takeHeld_55 : decode cX8_takeHeld 55 = .ok (.aload_n 0, 1) := by decide +kernel
theorem dX8_takeHeld_56 : decode cX8_takeHeld 56 = .ok (.getfield 25, 3) := by decide +kernel
theorem dX8_takeHeld_59 : decode cX8_takeHeld 59 = .ok (.aload_n 3, 1) := by decide +kernel
theorem dX8_takeHeld_60 : decode cX8_takeHeld 60 = .ok (.invokevirtual 181, 3) := by decide +kernel
theorem dX8_takeHeld_63 : decode cX8_takeHeld 63 = .ok (.aload_n 0, 1) := by decide +kernel
theorem dX8_takeHeld_64 : decode cX8_takeHeld 64 = .ok (.aload_n 3, 1) := by decide +kernel
theorem dX8_takeHeld_65 : decode cX8_takeHeld 65 = .ok (.iload_n 1, 1) := by decide +kernel
theorem dX8_takeHeld_66 : decode cX8_takeHeld 66 = .ok (.invokevirtual 237, 3) := by decide +kernel
theorem dX8_takeHeld_69 : decode cX8_takeHeld 69 = .ok (.iinc 2 1, 3) := by decide +kernel
theorem dX8_takeHeld_72 : decode cX8_takeHeld 72 = .ok (.goto (-65), 3) := by decide +kernel
theorem dX8_takeHeld_75 : decode cX8_takeHeld 75 = .ok (.aload_n 0, 1) := by decide +kernel
theorem dX8_takeHeld_76 : decode cX8_takeHeld 76 = .ok (.getfield 51, 3) := by decide +kernel
theorem dX8_takeHeld_79 : decode cX8_takeHeld 79 = .ok (.getfield 145, 3) := by decide +kernel
theorem dX8_takeHeld_82 : decode cX8_takeHeld 82 = .ok (.ifCond .eq 13, 3) := by decide +kernel
theorem dX8_takeHeld_85 : decode cX8_takeHeld 85 = .ok (.aload_n 0, 1) := by decide +kernel
theorem dX8_takeHeld_86 : decode cX8_takeHeld 86 = .ok (.getfield 25, 3) := by decide +kernel
theorem dX8_takeHeld_89 : decode cX8_takeHeld 89 = .ok (.invokevirtual 175, 3) := by decide +kernel
theorem dX8_takeHeld_92 : decode cX8_takeHeld 92 = .ok (.ifCond .eq 4, 3) := by decide +kernel
theorem dX8_takeHeld_95 : decode cX8_takeHeld 95 = .ok (.return_, 1) := by decide +kernel
theorem dX8_takeHeld_96 : decode cX8_takeHeld 96 = .ok (.aload_n 0, 1) := by decide +kernel
theorem dX8_takeHeld_97 : decode cX8_takeHeld 97 = .ok (.aload_n 0, 1) := by decide +kernel
theorem dX8_takeHeld_98 : decode cX8_takeHeld 98 = .ok (.getfield 33, 3) := by decide +kernel
theorem dX8_takeHeld_101 : decode cX8_takeHeld 101 = .ok (.getfield 87, 3) := by decide +kernel
theorem dX8_takeHeld_104 : decode cX8_takeHeld 104 = .ok (.putfield 241, 3) := by decide +kernel
theorem dX8_takeHeld_107 : decode cX8_takeHeld 107 = .ok (.iload_n 1, 1) := by decide +kernel
theorem dX8_takeHeld_108 : decode cX8_takeHeld 108 = .ok (.ifCond .eq 39, 3) := by decide +kernel
theorem dX8_takeHeld_111 : decode cX8_takeHeld 111 = .ok (.aload_n 0, 1) := by decide +kernel
theorem dX8_takeHeld_112 : decode cX8_takeHeld 112 = .ok (.getfield 25, 3) := by decide +kernel
theorem dX8_takeHeld_115 : decode cX8_takeHeld 115 = .ok (.aconst_null, 1) := by decide +kernel
theorem dX8_takeHeld_116 : decode cX8_takeHeld 116 = .ok (.invokevirtual 181, 3) := by decide +kernel
theorem dX8_takeHeld_119 : decode cX8_takeHeld 119 = .ok (.aload_n 0, 1) := by decide +kernel
theorem dX8_takeHeld_120 : decode cX8_takeHeld 120 = .ok (.iconst 1, 1) := by decide +kernel
theorem dX8_takeHeld_121 : decode cX8_takeHeld 121 = .ok (.putfield 63, 3) := by decide +kernel
theorem dX8_takeHeld_124 : decode cX8_takeHeld 124 = .ok (.aload_n 0, 1) := by decide +kernel
theorem dX8_takeHeld_125 : decode cX8_takeHeld 125 = .ok (.getfield 51, 3) := by decide +kernel
theorem dX8_takeHeld_128 : decode cX8_takeHeld 128 = .ok (.iconst 0, 1) := by decide +kernel
theorem dX8_takeHeld_129 : decode cX8_takeHeld 129 = .ok (.putfield 188, 3) := by decide +kernel
theorem dX8_takeHeld_132 : decode cX8_takeHeld 132 = .ok (.aload_n 0, 1) := by decide +kernel
theorem dX8_takeHeld_133 : decode cX8_takeHeld 133 = .ok (.iconst 3, 1) := by decide +kernel
theorem dX8_takeHeld_134 : decode cX8_takeHeld 134 = .ok (.aload_n 0, 1) := by decide +kernel
theorem dX8_takeHeld_135 : decode cX8_takeHeld 135 = .ok (.getfield 25, 3) := by decide +kernel
theorem dX8_takeHeld_138 : decode cX8_takeHeld 138 = .ok (.getfield 66, 3) := by decide +kernel
theorem dX8_takeHeld_141 : decode cX8_takeHeld 141 = .ok (.invokevirtual 214, 3) := by decide +kernel
theorem dX8_takeHeld_144 : decode cX8_takeHeld 144 = .ok (.goto 40, 3) := by decide +kernel
theorem dX8_takeHeld_147 : decode cX8_takeHeld 147 = .ok (.aload_n 0, 1) := by decide +kernel
theorem dX8_takeHeld_148 : decode cX8_takeHeld 148 = .ok (.getfield 33, 3) := by decide +kernel
theorem dX8_takeHeld_151 : decode cX8_takeHeld 151 = .ok (.iconst 1, 1) := by decide +kernel
theorem dX8_takeHeld_152 : decode cX8_takeHeld 152 = .ok (.aload_n 0, 1) := by decide +kernel
theorem dX8_takeHeld_153 : decode cX8_takeHeld 153 = .ok (.getfield 29, 3) := by decide +kernel
theorem dX8_takeHeld_156 : decode cX8_takeHeld 156 = .ok (.aload_n 0, 1) := by decide +kernel
theorem dX8_takeHeld_157 : decode cX8_takeHeld 157 = .ok (.getfield 33, 3) := by decide +kernel
theorem dX8_takeHeld_160 : decode cX8_takeHeld 160 = .ok (.aload_n 0, 1) := by decide +kernel
theorem dX8_takeHeld_161 : decode cX8_takeHeld 161 = .ok (.getfield 13, 3) := by decide +kernel
theorem dX8_takeHeld_164 : decode cX8_takeHeld 164 = .ok (.invokevirtual 55, 3) := by decide +kernel
theorem dX8_takeHeld_167 : decode cX8_takeHeld 167 = .ok (.aload_n 0, 1) := by decide +kernel
theorem dX8_takeHeld_168 : decode cX8_takeHeld 168 = .ok (.getfield 13, 3) := by decide +kernel
theorem dX8_takeHeld_171 : decode cX8_takeHeld 171 = .ok (.aload_n 0, 1) := by decide +kernel
theorem dX8_takeHeld_172 : decode cX8_takeHeld 172 = .ok (.getfield 25, 3) := by decide +kernel
theorem dX8_takeHeld_175 : decode cX8_takeHeld 175 = .ok (.getfield 66, 3) := by decide +kernel
theorem dX8_takeHeld_178 : decode cX8_takeHeld 178 = .ok (.iconst 1, 1) := by decide +kernel
theorem dX8_takeHeld_179 : decode cX8_takeHeld 179 = .ok (.iadd, 1) := by decide +kernel
theorem dX8_takeHeld_180 : decode cX8_takeHeld 180 = .ok (.invokevirtual 171, 3) := by decide +kernel
theorem dX8_takeHeld_183 : decode cX8_takeHeld 183 = .ok (.pop, 1) := by decide +kernel
theorem dX8_takeHeld_184 : decode cX8_takeHeld 184 = .ok (.return_, 1) := by decide +kernel
abbrev rm_X8_takeHeld : Room := { frames := 3, cells := 0, slots := 0, locals := 64 }
def b_X8_takeHeld_75 (a0 : Nat)  (Q : Sto → Prop) (p1 : Int32) (σ : Sto) : Prop := (sK σ a0 = 8 ∧ (∃ b2 : Nat, sP σ a0 10 = some b2 ∧ (sK σ b2 = 5 ∧ (∀ x5 : Int32, x5 = sI σ b2 2 → ((x5 = 0 → Q σ) ∧ (¬ x5 = 0 → (∃ b8 : Nat, sP σ a0 7 = some b8 ∧ (sK σ b8 = 2 ∧ (wp_X2_isFull b8  σ (fun (x12 : Int32) (σ11 : Sto) => ((x12 = 0 → (sK σ11 a0 = 8 ∧ (∃ b15 : Nat, sP σ11 a0 1 = some b15 ∧ (sK σ11 b15 = 4 ∧ (∀ x18 : Int32, x18 = sI σ11 b15 8 → ((p1 = 0 → (∀ x21 : Int32, x21 = sI (stI σ11 a0 12 x18) a0 0 → (∀ y23 : Int64, y23 = sJ σ11 a0 5 → (wp_X4_leaderOf b15 y23 (stI σ11 a0 12 x18) (fun (x26 : Int32) (σ25 : Sto) => (sK σ25 a0 = 8 ∧ (∀ y28 : Int64, y28 = sJ σ25 a0 5 → (∃ b30 : Nat, sP σ25 a0 7 = some b30 ∧ (sK σ25 b30 = 2 ∧ (∀ x33 : Int32, x33 = sI σ25 b30 1 → (sK σ25 b15 = 4 ∧ (wp_X4_send b15 (1 : Int32) x21 x26 y28 (x33 + (1 : Int32)) σ25 (fun (r37 : Option Nat) (σ36 : Sto) => Q σ36))))))))))))) ∧ (¬ p1 = 0 → (∃ b38 : Nat, sP σ11 a0 7 = some b38 ∧ (sK σ11 b38 = 2 ∧ (wp_X2_add b38 none (stI σ11 a0 12 x18) (fun (σ41 : Sto) => (sK σ41 a0 = 8 ∧ (∃ b43 : Nat, sP σ41 a0 10 = some b43 ∧ (sK σ41 b43 = 5 ∧ (∃ b46 : Nat, sP σ41 a0 7 = some b46 ∧ (sK σ41 b46 = 2 ∧ (∀ x49 : Int32, x49 = sI (stI (stI σ41 a0 4 (1 : Int32)) b43 3 (0 : Int32)) b46 1 → (wp_X8_sendOthers a0 (3 : Int32) x49 (stI (stI σ41 a0 4 (1 : Int32)) b43 3 (0 : Int32)) (fun (σ51 : Sto) => Q σ51))))))))))))))))))) ∧ (¬ x12 = 0 → Q σ11))))))))))))
set_option maxHeartbeats 4000000 in
set_option maxRecDepth 100000 in
theorem t_X8_takeHeld_75 {p : Program} {l : Launch} {e : Env} {s : State} {m : MethodId} {args : Array Value} {below : List Frame} {meth : Method} {c : Code} {D : va_G} {cy : Nat → ClassId} {A : Nat → Prop} {a0 : Nat} {Q : Sto → Prop} (C : Cx p s m args meth c D cy A cX8_takeHeld 4 RX8) (hr : meth.sig.returnType = none) (hnm : meth.name = yX8_takeHeld.name) (p1 : Int32) (σ : Sto) (h : b_X8_takeHeld_75 a0  Q p1 σ) (ls : Array Slot) (hl : lv_has ls 4 [(0, .ref a0), (1, .int p1)]) : Xw p l e rm_X8_takeHeld s m args below meth c D cy A σ 0 0 (MQ below (Qst D cy A (PsV Q)) args s rm_X8_takeHeld.cells rm_X8_takeHeld.slots A) (F0 m 75 ls []) := by
  unfold b_X8_takeHeld_75 at h
  refine x_aload_n C dX8_takeHeld_75 rfl (lv_at hl 0 rfl) ?_
  obtain ⟨g1, h⟩ := h
  refine x_getP C fl_RX8_51 g1 dX8_takeHeld_76 ?_
  obtain ⟨b2, g3, h⟩ := h
  refine x_nn0 g3 ?_
  obtain ⟨g4, h⟩ := h
  refine x_getI C fl_RX8_145 g4 dX8_takeHeld_79 ?_
  refine x_topi (fun x5 e6 => ?_)
  have h := h x5 e6
  refine x_if_eq (tgt := 95) C dX8_takeHeld_82 (by decide) (fun c7 => ?_) (fun c7 => ?_)
  · have h := h.1 c7
    exact x_vret C hr dX8_takeHeld_95 ⟨rfl, h⟩
  · have h := h.2 c7
    refine x_aload_n C dX8_takeHeld_85 rfl (lv_at hl 0 rfl) ?_
    refine x_getP C fl_RX8_25 g1 dX8_takeHeld_86 ?_
    obtain ⟨b8, g9, h⟩ := h
    refine x_nn0 g9 ?_
    obtain ⟨g10, h⟩ := h
    refine x_callV (rm := rm_X2_isFull) (rest := []) (As := []) C cy_RX8_175 g10 (by decide) (by decide) rfl rfl (Nat.le_of_ble_eq_true rfl) hl.1 dX8_takeHeld_89 (c_X2_isFull l D cy b8  σ _ h) (ks_i (fun x12 σ11 h => ?_))
    refine x_if_eq (tgt := 96) C dX8_takeHeld_92 (by decide) (fun c13 => ?_) (fun c13 => ?_)
    · have h := h.1 c13
      refine x_aload_n C dX8_takeHeld_96 rfl (lv_at hl 0 rfl) ?_
      refine x_aload_n C dX8_takeHeld_97 rfl (lv_at hl 0 rfl) ?_
      obtain ⟨g14, h⟩ := h
      refine x_getP C fl_RX8_33 g14 dX8_takeHeld_98 ?_
      obtain ⟨b15, g16, h⟩ := h
      refine x_nn0 g16 ?_
      obtain ⟨g17, h⟩ := h
      refine x_getI C fl_RX8_87 g17 dX8_takeHeld_101 ?_
      refine x_topi (fun x18 e19 => ?_)
      have h := h x18 e19
      refine x_putI C fl_RX8_241 (Or.inl rfl) g14 dX8_takeHeld_104 ?_
      refine x_iload_n C dX8_takeHeld_107 rfl (lv_at hl 1 rfl) ?_
      refine x_if_eq (tgt := 147) C dX8_takeHeld_108 (by decide) (fun c20 => ?_) (fun c20 => ?_)
      · have h := h.1 c20
        refine x_aload_n C dX8_takeHeld_147 rfl (lv_at hl 0 rfl) ?_
        refine x_getP C fl_RX8_33 g14 dX8_takeHeld_148 ?_
        refine x_iconst (v := 1) C dX8_takeHeld_151 (by decide) ?_
        refine x_aload_n C dX8_takeHeld_152 rfl (lv_at hl 0 rfl) ?_
        refine x_getI C fl_RX8_29 g14 dX8_takeHeld_153 ?_
        refine x_topi (fun x21 e22 => ?_)
        have h := h x21 e22
        refine x_aload_n C dX8_takeHeld_156 rfl (lv_at hl 0 rfl) ?_
        refine x_getP C fl_RX8_33 g14 dX8_takeHeld_157 ?_
        refine x_aload_n C dX8_takeHeld_160 rfl (lv_at hl 0 rfl) ?_
        refine x_getJ C fl_RX8_13 g14 dX8_takeHeld_161 ?_
        refine x_topj (fun y23 e24 => ?_)
        have h := h y23 e24
        refine x_nn1 g16 ?_
        refine x_callV (rm := rm_X4_leaderOf) (rest := [.int x21, .int (1 : Int32), va_rf (sP σ11 a0 1)]) (As := [.long y23]) C cy_RX8_55 g17 (by decide) (by decide) rfl rfl (by simp [vrc, cat_i, cat_r, cat_l]) hl.1 dX8_takeHeld_164 (c_X4_leaderOf l D cy b15 y23 (stI σ11 a0 12 x18) _ h) (ks_i (fun x26 σ25 h => ?_))
        refine x_aload_n C dX8_takeHeld_167 rfl (lv_at hl 0 rfl) ?_
        obtain ⟨g27, h⟩ := h
        refine x_getJ C fl_RX8_13 g27 dX8_takeHeld_168 ?_
        refine x_topj (fun y28 e29 => ?_)
        have h := h y28 e29
        refine x_aload_n C dX8_takeHeld_171 rfl (lv_at hl 0 rfl) ?_
        refine x_getP C fl_RX8_25 g27 dX8_takeHeld_172 ?_
        obtain ⟨b30, g31, h⟩ := h
        refine x_nn0 g31 ?_
        obtain ⟨g32, h⟩ := h
        refine x_getI C fl_RX8_66 g32 dX8_takeHeld_175 ?_
        refine x_topi (fun x33 e34 => ?_)
        have h := h x33 e34
        refine x_iconst (v := 1) C dX8_takeHeld_178 (by decide) ?_
        refine x_iadd C dX8_takeHeld_179 ?_
        refine x_nn5 g16 ?_
        obtain ⟨g35, h⟩ := h
        refine x_callV (rm := rm_X4_send) (rest := []) (As := [.int (1 : Int32), .int x21, .int x26, .long y28, .int (x33 + (1 : Int32))]) C cy_RX8_171 g35 (by decide) (by decide) rfl rfl (Nat.le_of_ble_eq_true rfl) hl.1 dX8_takeHeld_180 (c_X4_send l D cy b15 (1 : Int32) x21 x26 y28 (x33 + (1 : Int32)) σ25 _ h) (ks_p (fun r37 σ36 h => ?_))
        refine x_pop C dX8_takeHeld_183 (vrc _) ?_
        exact x_vret C hr dX8_takeHeld_184 ⟨rfl, h⟩
      · have h := h.2 c20
        refine x_aload_n C dX8_takeHeld_111 rfl (lv_at hl 0 rfl) ?_
        refine x_getP C fl_RX8_25 g14 dX8_takeHeld_112 ?_
        refine x_null C dX8_takeHeld_115 ?_
        obtain ⟨b38, g39, h⟩ := h
        refine x_nn1 g39 ?_
        obtain ⟨g40, h⟩ := h
        refine x_callV (rm := rm_X2_add) (rest := []) (As := [va_rf none]) C cy_RX8_181 g40 (by decide) (by decide) rfl rfl (Nat.le_of_ble_eq_true rfl) hl.1 dX8_takeHeld_116 (c_X2_add l D cy b38 none (stI σ11 a0 12 x18) _ h) (ks_v (fun σ41 h => ?_))
        refine x_aload_n C dX8_takeHeld_119 rfl (lv_at hl 0 rfl) ?_
        refine x_iconst (v := 1) C dX8_takeHeld_120 (by decide) ?_
        obtain ⟨g42, h⟩ := h
        refine x_putI C fl_RX8_63 (Or.inl rfl) g42 dX8_takeHeld_121 ?_
        refine x_aload_n C dX8_takeHeld_124 rfl (lv_at hl 0 rfl) ?_
        refine x_getP C fl_RX8_51 g42 dX8_takeHeld_125 ?_
        refine x_iconst (v := 0) C dX8_takeHeld_128 (by decide) ?_
        obtain ⟨b43, g44, h⟩ := h
        refine x_nn1 g44 ?_
        obtain ⟨g45, h⟩ := h
        refine x_putI C fl_RX8_188 (Or.inl rfl) g45 dX8_takeHeld_129 ?_
        refine x_aload_n C dX8_takeHeld_132 rfl (lv_at hl 0 rfl) ?_
        refine x_iconst (v := 3) C dX8_takeHeld_133 (by decide) ?_
        refine x_aload_n C dX8_takeHeld_134 rfl (lv_at hl 0 rfl) ?_
        refine x_getP C fl_RX8_25 g42 dX8_takeHeld_135 ?_
        obtain ⟨b46, g47, h⟩ := h
        refine x_nn0 g47 ?_
        obtain ⟨g48, h⟩ := h
        refine x_getI C fl_RX8_66 g48 dX8_takeHeld_138 ?_
        refine x_topi (fun x49 e50 => ?_)
        have h := h x49 e50
        refine x_callV (rm := rm_X8_sendOthers) (rest := []) (As := [.int (3 : Int32), .int x49]) C cy_RX8_214 g42 (by decide) (by decide) rfl rfl (Nat.le_of_ble_eq_true rfl) hl.1 dX8_takeHeld_141 (c_X8_sendOthers l D cy a0 (3 : Int32) x49 (stI (stI σ41 a0 4 (1 : Int32)) b43 3 (0 : Int32)) _ h) (ks_v (fun σ51 h => ?_))
        refine x_goto (tgt := 184) C dX8_takeHeld_144 (by decide) ?_
        exact x_vret C hr dX8_takeHeld_184 ⟨rfl, h⟩
    · have h := h.2 c13
      exact x_vret C hr dX8_takeHeld_95 ⟨rfl, h⟩
def f_X8_takeHeld_7 (a0 : Nat)  (Q : Sto → Prop) (L7 : Int32 × Int32 → Sto → Prop) (t : Int32 × Int32) (σ : Sto) : Prop := (((100 : Int32) ≤ t.2 → b_X8_takeHeld_75 a0  Q t.1 σ) ∧ (¬ (100 : Int32) ≤ t.2 → (sK σ a0 = 8 ∧ (∃ b3 : Nat, sP σ a0 7 = some b3 ∧ (sK σ b3 = 2 ∧ (wp_X2_isFull b3  σ (fun (x7 : Int32) (σ6 : Sto) => ((¬ x7 = 0 → b_X8_takeHeld_75 a0  Q t.1 σ6) ∧ (x7 = 0 → (sK σ6 a0 = 8 ∧ (∃ b10 : Nat, sP σ6 a0 7 = some b10 ∧ (sK σ6 b10 = 2 ∧ (∀ x13 : Int32, x13 = sI σ6 b10 1 → (∀ x15 : Int32, x15 = sI σ6 b10 2 → (∃ b17 : Nat, sP σ6 a0 10 = some b17 ∧ (sK σ6 b17 = 5 ∧ (wp_X5_release b17 ((x13 + (1 : Int32)) - x15) σ6 (fun (r21 : Option Nat) (σ20 : Sto) => ((r21 = none → b_X8_takeHeld_75 a0  Q t.1 σ20) ∧ (∀ b23 : Nat, r21 = some b23 → (sK σ20 a0 = 8 ∧ (∃ b26 : Nat, sP σ20 a0 7 = some b26 ∧ (sK σ20 b26 = 2 ∧ (wp_X2_add b26 r21 σ20 (fun (σ29 : Sto) => (sK σ29 a0 = 8 ∧ (wp_X8_sendReply a0 r21 t.1 σ29 (fun (σ31 : Sto) => (∀ x32 : Int32, x32 = t.2 + (1 : Int32) → L7 (t.1, x32) σ31)))))))))))))))))))))))))))))
set_option maxHeartbeats 4000000 in
set_option maxRecDepth 100000 in
theorem t_X8_takeHeld_7 {p : Program} {l : Launch} {e : Env} {s : State} {m : MethodId} {args : Array Value} {below : List Frame} {meth : Method} {c : Code} {D : va_G} {cy : Nat → ClassId} {A : Nat → Prop} {a0 : Nat} {Q : Sto → Prop} {L7 : Int32 × Int32 → Sto → Prop} (C : Cx p s m args meth c D cy A cX8_takeHeld 4 RX8) (hr : meth.sig.returnType = none) (hnm : meth.name = yX8_takeHeld.name) (hL7 : ∀ (t : Int32 × Int32) (σ : Sto), L7 t σ → ∀ ls : Array Slot, lv_has ls 4 [(0, .ref a0), (1, .int t.1), (2, .int t.2)] → Xw p l e rm_X8_takeHeld s m args below meth c D cy A σ 0 0 (MQ below (Qst D cy A (PsV Q)) args s rm_X8_takeHeld.cells rm_X8_takeHeld.slots A) (F0 m 7 ls [])) : ∀ (t : Int32 × Int32) (σ : Sto), f_X8_takeHeld_7 a0  Q L7 t σ → ∀ ls : Array Slot, lv_has ls 4 [(0, .ref a0), (1, .int t.1), (2, .int t.2)] → Xw p l e rm_X8_takeHeld s m args below meth c D cy A σ 0 0 (MQ below (Qst D cy A (PsV Q)) args s rm_X8_takeHeld.cells rm_X8_takeHeld.slots A) (F0 m 7 ls []) := by
  intro t σ h ls hl
  unfold f_X8_takeHeld_7 at h
  refine x_iload_n C dX8_takeHeld_7 rfl (lv_at hl 2 rfl) ?_
  refine x_bipush (v := 100) C dX8_takeHeld_8 (by decide) ?_
  refine x_icmp_ge (tgt := 75) C dX8_takeHeld_10 (by decide) (fun c1 => ?_) (fun c1 => ?_)
  · have h := h.1 c1
    exact t_X8_takeHeld_75 C hr hnm  t.1 _ h ls (lv_sub hl [0, 1] rfl)
  · have h := h.2 c1
    refine x_aload_n C dX8_takeHeld_13 rfl (lv_at hl 0 rfl) ?_
    obtain ⟨g2, h⟩ := h
    refine x_getP C fl_RX8_25 g2 dX8_takeHeld_14 ?_
    obtain ⟨b3, g4, h⟩ := h
    refine x_nn0 g4 ?_
    obtain ⟨g5, h⟩ := h
    refine x_callV (rm := rm_X2_isFull) (rest := []) (As := []) C cy_RX8_175 g5 (by decide) (by decide) rfl rfl (Nat.le_of_ble_eq_true rfl) hl.1 dX8_takeHeld_17 (c_X2_isFull l D cy b3  σ _ h) (ks_i (fun x7 σ6 h => ?_))
    refine x_if_ne (tgt := 75) C dX8_takeHeld_20 (by decide) (fun c8 => ?_) (fun c8 => ?_)
    · have h := h.1 c8
      exact t_X8_takeHeld_75 C hr hnm  t.1 _ h ls (lv_sub hl [0, 1] rfl)
    · have h := h.2 c8
      refine x_aload_n C dX8_takeHeld_23 rfl (lv_at hl 0 rfl) ?_
      obtain ⟨g9, h⟩ := h
      refine x_getP C fl_RX8_51 g9 dX8_takeHeld_24 ?_
      refine x_aload_n C dX8_takeHeld_27 rfl (lv_at hl 0 rfl) ?_
      refine x_getP C fl_RX8_25 g9 dX8_takeHeld_28 ?_
      obtain ⟨b10, g11, h⟩ := h
      refine x_nn0 g11 ?_
      obtain ⟨g12, h⟩ := h
      refine x_getI C fl_RX8_66 g12 dX8_takeHeld_31 ?_
      refine x_topi (fun x13 e14 => ?_)
      have h := h x13 e14
      refine x_iconst (v := 1) C dX8_takeHeld_34 (by decide) ?_
      refine x_iadd C dX8_takeHeld_35 ?_
      refine x_aload_n C dX8_takeHeld_36 rfl (lv_at hl 0 rfl) ?_
      refine x_getP C fl_RX8_25 g9 dX8_takeHeld_37 ?_
      refine x_nn0 g11 ?_
      refine x_getI C fl_RX8_142 g12 dX8_takeHeld_40 ?_
      refine x_topi (fun x15 e16 => ?_)
      have h := h x15 e16
      refine x_isub C dX8_takeHeld_43 ?_
      obtain ⟨b17, g18, h⟩ := h
      refine x_nn1 g18 ?_
      obtain ⟨g19, h⟩ := h
      refine x_callV (rm := rm_X5_release) (rest := []) (As := [.int ((x13 + (1 : Int32)) - x15)]) C cy_RX8_178 g19 (by decide) (by decide) rfl rfl (Nat.le_of_ble_eq_true rfl) hl.1 dX8_takeHeld_44 (c_X5_release l D cy b17 ((x13 + (1 : Int32)) - x15) σ6 _ h) (ks_p (fun r21 σ20 h => ?_))
      refine x_astore_nq (i := 3) (lv' := [(3, va_rf r21), (0, .ref a0), (1, .int t.1), (2, .int t.2)]) C dX8_takeHeld_47 rfl hl (by decide) (by first | rfl | simp [vrc, cat_i, cat_r, cat_l]) (fun ls hl => ?_)
      refine x_aload_nq C dX8_takeHeld_48 rfl (lv_at hl 0 rfl) ?_
      refine x_ifnonnull (tgt := 55) C dX8_takeHeld_49 (by decide) (fun c22 => ?_) (fun c22 => ?_)
      · obtain ⟨b23, g24⟩ := Option.ne_none_iff_exists'.mp c22
        have h := h.2 b23 g24
        refine x_aload_n C dX8_takeHeld_55 rfl (lv_at hl 1 rfl) ?_
        obtain ⟨g25, h⟩ := h
        refine x_getP C fl_RX8_25 g25 dX8_takeHeld_56 ?_
        refine x_aload_nq C dX8_takeHeld_59 rfl (lv_at hl 0 rfl) ?_
        obtain ⟨b26, g27, h⟩ := h
        refine x_nn1 g27 ?_
        obtain ⟨g28, h⟩ := h
        refine x_callV (rm := rm_X2_add) (rest := []) (As := [va_rf r21]) C cy_RX8_181 g28 (by decide) (by decide) rfl rfl (Nat.le_of_ble_eq_true rfl) hl.1 dX8_takeHeld_60 (c_X2_add l D cy b26 r21 σ20 _ h) (ks_v (fun σ29 h => ?_))
        refine x_aload_n C dX8_takeHeld_63 rfl (lv_at hl 1 rfl) ?_
        refine x_aload_nq C dX8_takeHeld_64 rfl (lv_at hl 0 rfl) ?_
        refine x_iload_n C dX8_takeHeld_65 rfl (lv_at hl 2 rfl) ?_
        obtain ⟨g30, h⟩ := h
        refine x_callV (rm := rm_X8_sendReply) (rest := []) (As := [va_rf r21, .int t.1]) C cy_RX8_237 g30 (by decide) (by decide) rfl rfl (Nat.le_of_ble_eq_true rfl) hl.1 dX8_takeHeld_66 (c_X8_sendReply l D cy a0 r21 t.1 σ29 _ h) (ks_v (fun σ31 h => ?_))
        obtain ⟨x32, e33⟩ : ∃ z : Int32, z = t.2 + (1 : Int32) := ⟨_, rfl⟩
        have h := h x32 e33
        refine x_iinc (v := x32) (lv' := [(2, .int x32), (3, va_rf r21), (0, .ref a0), (1, .int t.1)]) C dX8_takeHeld_69 hl (q0 := 3) rfl (by rw [e33]; rfl) (by decide) (by first | rfl | simp [vrc, cat_i, cat_r, cat_l]) (fun ls hl => ?_)
        refine x_goto (tgt := 7) C dX8_takeHeld_72 (by decide) ?_
        exact hL7 (t.1, x32) _ h ls (lv_sub hl [2, 3, 0] rfl)
      · have h := h.1 c22
        refine x_goto (tgt := 75) C dX8_takeHeld_52 (by decide) ?_
        exact t_X8_takeHeld_75 C hr hnm  t.1 _ h ls (lv_sub hl [1, 2] rfl)
def wp_X8_takeHeld (a0 : Nat)  (σ : Sto) (Q : Sto → Prop) : Prop := (sK σ a0 = 8 ∧ (wp_X8_leads a0  σ (fun (x3 : Int32) (σ2 : Sto) => LF (f_X8_takeHeld_7 a0  Q) (x3, (0 : Int32)) σ2)))
set_option maxHeartbeats 4000000 in
set_option maxRecDepth 100000 in
theorem c_X8_takeHeld (l : Launch) (D : va_G) (cy : Nat → ClassId) (a0 : Nat)  (σ : Sto) (Q : Sto → Prop) (h : wp_X8_takeHeld a0  σ Q) : Mt l D cy yX8_takeHeld cX8_takeHeld 4 none rm_X8_takeHeld [.ref a0] σ (PsV Q) := by
  unfold wp_X8_takeHeld at h
  refine mt_of (by decide +kernel) (Nat.le_of_ble_eq_true rfl) ?_
  intro p e s m args below meth c A ls C hr hnm hl
  have C : Cx p s m args meth c D cy A cX8_takeHeld 4 RX8 := C
  have hl : lv_has ls 4 [(0, .ref a0)] := hl
  refine x_aload_n C dX8_takeHeld_0 rfl (lv_at hl 0 rfl) ?_
  obtain ⟨g1, h⟩ := h
  refine x_callV (rm := rm_X8_leads) (rest := []) (As := []) C cy_RX8_59 g1 (by decide) (by decide) rfl rfl (Nat.le_of_ble_eq_true rfl) hl.1 dX8_takeHeld_1 (c_X8_leads l D cy a0  σ _ h) (ks_i (fun x3 σ2 h => ?_))
  refine x_istore_n (i := 1) (lv' := [(1, .int x3), (0, .ref a0)]) C dX8_takeHeld_4 rfl hl (by decide) (by first | rfl | simp [vrc, cat_i, cat_r, cat_l]) (fun ls hl => ?_)
  refine x_iconst (v := 0) C dX8_takeHeld_5 (by decide) ?_
  refine x_istore_n (i := 2) (lv' := [(2, .int (0 : Int32)), (1, .int x3), (0, .ref a0)]) C dX8_takeHeld_6 rfl hl (by decide) (by first | rfl | simp [vrc, cat_i, cat_r, cat_l]) (fun ls hl => ?_)
  exact h (fun t σ => ∀ ls : Array Slot, lv_has ls 4 [(0, .ref a0), (1, .int t.1), (2, .int t.2)] → Xw p l e rm_X8_takeHeld s m args below meth c D cy A σ 0 0 (MQ below (Qst D cy A (PsV Q)) args s rm_X8_takeHeld.cells rm_X8_takeHeld.slots A) (F0 m 7 ls [])) (t_X8_takeHeld_7 C hr hnm  (fun t σ h => h)) ls (lv_sub hl [2, 1, 0] rfl)
