set_option maxRecDepth 100000 in
theorem clx_13 : Cond.classLink RL 13 (exn 0) ∈ AW := (aw_t3 217 rfl rfl)
set_option maxRecDepth 100000 in
theorem clx_15 : Cond.classLink RL 15 (exn 1) ∈ AW := (aw_t3 218 rfl rfl)
set_option maxRecDepth 100000 in
theorem clx_17 : Cond.classLink RL 17 (exn 2) ∈ AW := (aw_t3 219 rfl rfl)
set_option maxRecDepth 100000 in
theorem yw_L_request : Cond.codeWith yL_request cL_request 7 (some .int) [(0, 14, 17, 13), (0, 14, 21, 15), (0, 14, 25, 17)] ∈ AW := (aw_t3 216 rfl rfl)
set_option maxRecDepth 100000 in
theorem ys_L_request : Cond.static yL_request ∈ AW := (aw_t3 215 rfl rfl)
theorem yh_L_request : Ymh yL_request 6 := ⟨by decide, by decide, by decide +kernel⟩
theorem dL_request_0 : decode cL_request 0 = .ok (.aload 5, 2) := by decide +kernel
theorem dL_request_2 : decode cL_request 2 = .ok (.iconst 0, 1) := by decide +kernel
theorem dL_request_3 : decode cL_request 3 = .ok (.aload_n 0, 1) := by decide +kernel
theorem dL_request_4 : decode cL_request 4 = .ok (.iload_n 1, 1) := by decide +kernel
theorem dL_request_5 : decode cL_request 5 = .ok (.iload_n 2, 1) := by decide +kernel
theorem dL_request_6 : decode cL_request 6 = .ok (.iload_n 3, 1) := by decide +kernel
theorem dL_request_7 : decode cL_request 7 = .ok (.iload 4, 2) := by decide +kernel
theorem dL_request_9 : decode cL_request 9 = .ok (.invokevirtual 7, 3) := by decide +kernel
theorem dL_request_12 : decode cL_request 12 = .ok (.i2l, 1) := by decide +kernel
theorem dL_request_13 : decode cL_request 13 = .ok (.lastore, 1) := by decide +kernel
theorem dL_request_14 : decode cL_request 14 = .ok (.goto 15, 3) := by decide +kernel
theorem dL_request_17 : decode cL_request 17 = .ok (.astore 6, 2) := by decide +kernel
theorem dL_request_19 : decode cL_request 19 = .ok (.iconst 1, 1) := by decide +kernel
theorem dL_request_20 : decode cL_request 20 = .ok (.ireturn, 1) := by decide +kernel
theorem dL_request_21 : decode cL_request 21 = .ok (.astore 6, 2) := by decide +kernel
theorem dL_request_23 : decode cL_request 23 = .ok (.iconst 2, 1) := by decide +kernel
theorem dL_request_24 : decode cL_request 24 = .ok (.ireturn, 1) := by decide +kernel
theorem dL_request_25 : decode cL_request 25 = .ok (.astore 6, 2) := by decide +kernel
theorem dL_request_27 : decode cL_request 27 = .ok (.iconst 3, 1) := by decide +kernel
theorem dL_request_28 : decode cL_request 28 = .ok (.ireturn, 1) := by decide +kernel
theorem dL_request_29 : decode cL_request 29 = .ok (.iconst 0, 1) := by decide +kernel
theorem dL_request_30 : decode cL_request 30 = .ok (.ireturn, 1) := by decide +kernel
abbrev rm_L_request : Room := { frames := 7, cells := 1, slots := 6, locals := 115 }
def wp_L_request (p0 : Option Nat) (p1 : Int32) (p2 : Int32) (p3 : Int32) (p4 : Int32) (p5 : Option Nat) (σ : Sto) (Q : Int32 → Sto → Prop) : Prop := (∃ b1 : Nat, p0 = some b1 ∧ (sK σ b1 = 11 ∧ (wp_X11_request b1 p1 p2 p3 p4 σ (fun (x5 : Int32) (σ4 : Sto) => (∃ b8 : Nat, p5 = some b8 ∧ (sK σ4 b8 = 15 ∧ (vp_in (0 : Int32) (sN σ4 b8) ∧ Q (0 : Int32) (stJ σ4 b8 (0 : Int32).toNatClampNeg x5.toInt64))))) (fun (n0 : Nat) (σ7 : Sto) => (n0 = 0 → Q (1 : Int32) σ7) ∧ (n0 = 1 → Q (2 : Int32) σ7) ∧ (n0 = 2 → Q (3 : Int32) σ7)))))
set_option maxHeartbeats 4000000 in
set_option maxRecDepth 100000 in
theorem c_L_request (l : Launch) (hlt : l.stackTraces = false) (D : va_G) (cy : Nat → ClassId) (p0 : Option Nat) (p1 : Int32) (p2 : Int32) (p3 : Int32) (p4 : Int32) (p5 : Option Nat) (σ : Sto) (Q : Int32 → Sto → Prop) (h : wp_L_request p0 p1 p2 p3 p4 p5 σ Q) : MtW l D cy yL_request cL_request 7 (some .int) [(0, 14, 17, 13), (0, 14, 21, 15), (0, 14, 25, 17)] rm_L_request [va_rf p0, .int p1, .int p2, .int p3, .int p4, va_rf p5] σ (PsI Q) := by
  unfold wp_L_request at h
  refine mw_of (by decide +kernel) (by simp [lg_sl, vrc, cat_i, cat_r, cat_l]) ?_
  intro p e s m args below meth c A ls C hr htab Z Z2 hl
  have C : Cx p s m args meth c D cy A cL_request 7 RL := C
  have hl : lv_has ls 7 [(0, va_rf p0), (1, .int p1), (2, .int p2), (3, .int p3), (4, .int p4), (5, va_rf p5)] := by simpa [lv_args, vrc, cat_i, cat_r, cat_l] using hl
  refine x_aloadq C dL_request_0 (lv_at hl 5 rfl) ?_
  refine x_iconst (v := 0) C dL_request_2 (by decide) ?_
  refine x_aload_nq C dL_request_3 rfl (lv_at hl 0 rfl) ?_
  refine x_iload_n C dL_request_4 rfl (lv_at hl 1 rfl) ?_
  refine x_iload_n C dL_request_5 rfl (lv_at hl 2 rfl) ?_
  refine x_iload_n C dL_request_6 rfl (lv_at hl 3 rfl) ?_
  refine x_iload C dL_request_7 (lv_at hl 4 rfl) ?_
  obtain ⟨b1, g2, h⟩ := h
  refine x_nn4 g2 ?_
  obtain ⟨g3, h⟩ := h
  refine x_callX (rm := rm_X11_request) (rest := [.int (0 : Int32), va_rf p5]) (As := [.int p1, .int p2, .int p3, .int p4]) C Z Z2 cy_RL_7 g3 (by decide) (by decide) rfl rfl (by simp [vrc, cat_i, cat_r, cat_l]) hl.1 dL_request_9 (c_X11_request l hlt D cy b1 p1 p2 p3 p4 σ _ _ h) (ks_i (fun x5 σ4 h => ?_)) (fun n0 σ7 q6 hn0 h => ?_)
  · skip
    refine x_i2l C dL_request_12 ?_
    obtain ⟨b8, g9, h⟩ := h
    refine x_nn2 g9 ?_
    obtain ⟨g10, h⟩ := h
    obtain ⟨g11, h⟩ := h
    refine x_last C g10 g11 dL_request_13 ?_
    refine x_goto (tgt := 29) C dL_request_14 (by decide) ?_
    refine x_iconst (v := 0) C dL_request_29 (by decide) ?_
    refine x_widen (mc := rm_L_request.cells) (ms := rm_L_request.slots) (by decide) (by decide) ?_
    exact x_iret C hr dL_request_30 ⟨_, rfl, h⟩
  · rcases (show n0 = 0 ∨ n0 = 1 ∨ n0 = 2 by omega) with hn | hn | hn
    · subst hn
      have h := h.1 rfl
      refine ⟨tableOf [], ⟨0, 14, 17, 13⟩, tableOf [(0, 14, 21, 15), (0, 14, 25, 17)], by rw [htab]; rfl, fun z hz => by simp [tableOf] at hz, by decide, by decide, clx_13, ?_⟩
      refine x_astore (i := 6) (lv' := [(6, .ref q6), (0, va_rf p0), (1, .int p1), (2, .int p2), (3, .int p3), (4, .int p4), (5, va_rf p5)]) C dL_request_17 hl (by decide) (by first | rfl | simp [vrc, cat_i, cat_r, cat_l]) (fun ls hl => ?_)
      refine x_iconst (v := 1) C dL_request_19 (by decide) ?_
      refine x_widen (mc := rm_L_request.cells) (ms := rm_L_request.slots) (by decide) (by decide) ?_
      exact x_iret C hr dL_request_20 ⟨_, rfl, h⟩
    · subst hn
      have h := h.2.1 rfl
      refine ⟨tableOf [(0, 14, 17, 13)], ⟨0, 14, 21, 15⟩, tableOf [(0, 14, 25, 17)], by rw [htab]; rfl, (fun z hz => by simp only [tableOf, List.map_cons, List.map_nil, List.mem_cons, List.not_mem_nil, or_false] at hz; rcases hz with rfl <;> first | exact Or.inr ⟨by decide, _, clx_13, by decide +kernel⟩), by decide, by decide, clx_15, ?_⟩
      refine x_astore (i := 6) (lv' := [(6, .ref q6), (0, va_rf p0), (1, .int p1), (2, .int p2), (3, .int p3), (4, .int p4), (5, va_rf p5)]) C dL_request_21 hl (by decide) (by first | rfl | simp [vrc, cat_i, cat_r, cat_l]) (fun ls hl => ?_)
      refine x_iconst (v := 2) C dL_request_23 (by decide) ?_
      refine x_widen (mc := rm_L_request.cells) (ms := rm_L_request.slots) (by decide) (by decide) ?_
      exact x_iret C hr dL_request_24 ⟨_, rfl, h⟩
    · subst hn
      have h := h.2.2 rfl
      refine ⟨tableOf [(0, 14, 17, 13), (0, 14, 21, 15)], ⟨0, 14, 25, 17⟩, tableOf [], by rw [htab]; rfl, (fun z hz => by simp only [tableOf, List.map_cons, List.map_nil, List.mem_cons, List.not_mem_nil, or_false] at hz; rcases hz with rfl | rfl <;> first | exact Or.inr ⟨by decide, _, clx_13, by decide +kernel⟩ | exact Or.inr ⟨by decide, _, clx_15, by decide +kernel⟩), by decide, by decide, clx_17, ?_⟩
      refine x_astore (i := 6) (lv' := [(6, .ref q6), (0, va_rf p0), (1, .int p1), (2, .int p2), (3, .int p3), (4, .int p4), (5, va_rf p5)]) C dL_request_25 hl (by decide) (by first | rfl | simp [vrc, cat_i, cat_r, cat_l]) (fun ls hl => ?_)
      refine x_iconst (v := 3) C dL_request_27 (by decide) ?_
      refine x_widen (mc := rm_L_request.cells) (ms := rm_L_request.slots) (by decide) (by decide) ?_
      exact x_iret C hr dL_request_28 ⟨_, rfl, h⟩
set_option maxRecDepth 100000 in
theorem yw_L_again : Cond.codeWith yL_again cL_again 3 (some .int) [(0, 5, 8, 13), (0, 5, 11, 17)] ∈ AW := (aw_t4 138 rfl rfl)
set_option maxRecDepth 100000 in
theorem ys_L_again : Cond.static yL_again ∈ AW := (aw_t4 137 rfl rfl)
theorem yh_L_again : Ymh yL_again 2 := ⟨by decide, by decide, by decide +kernel⟩
theorem dL_again_0 : decode cL_again 0 = .ok (.aload_n 0, 1) := by decide +kernel
theorem dL_again_1 : decode cL_again 1 = .ok (.iload_n 1, 1) := by decide +kernel
theorem dL_again_2 : decode cL_again 2 = .ok (.invokevirtual 19, 3) := by decide +kernel
theorem dL_again_5 : decode cL_again 5 = .ok (.goto 9, 3) := by decide +kernel
theorem dL_again_8 : decode cL_again 8 = .ok (.astore_n 2, 1) := by decide +kernel
theorem dL_again_9 : decode cL_again 9 = .ok (.iconst 1, 1) := by decide +kernel
theorem dL_again_10 : decode cL_again 10 = .ok (.ireturn, 1) := by decide +kernel
theorem dL_again_11 : decode cL_again 11 = .ok (.astore_n 2, 1) := by decide +kernel
theorem dL_again_12 : decode cL_again 12 = .ok (.iconst 2, 1) := by decide +kernel
theorem dL_again_13 : decode cL_again 13 = .ok (.ireturn, 1) := by decide +kernel
theorem dL_again_14 : decode cL_again 14 = .ok (.iconst 0, 1) := by decide +kernel
theorem dL_again_15 : decode cL_again 15 = .ok (.ireturn, 1) := by decide +kernel
abbrev rm_L_again : Room := { frames := 7, cells := 1, slots := 6, locals := 112 }
def wp_L_again (p0 : Option Nat) (p1 : Int32) (σ : Sto) (Q : Int32 → Sto → Prop) : Prop := (∃ b1 : Nat, p0 = some b1 ∧ (sK σ b1 = 11 ∧ (wp_X11_again b1 p1 σ (fun (σ4 : Sto) => Q (0 : Int32) σ4) (fun (n0 : Nat) (σ6 : Sto) => (n0 = 0 → Q (1 : Int32) σ6) ∧ (n0 = 1 → False) ∧ (n0 = 2 → Q (2 : Int32) σ6)))))
set_option maxHeartbeats 4000000 in
set_option maxRecDepth 100000 in
theorem c_L_again (l : Launch) (hlt : l.stackTraces = false) (D : va_G) (cy : Nat → ClassId) (p0 : Option Nat) (p1 : Int32) (σ : Sto) (Q : Int32 → Sto → Prop) (h : wp_L_again p0 p1 σ Q) : MtW l D cy yL_again cL_again 3 (some .int) [(0, 5, 8, 13), (0, 5, 11, 17)] rm_L_again [va_rf p0, .int p1] σ (PsI Q) := by
  unfold wp_L_again at h
  refine mw_of (by decide +kernel) (by simp [lg_sl, vrc, cat_i, cat_r, cat_l]) ?_
  intro p e s m args below meth c A ls C hr htab Z Z2 hl
  have C : Cx p s m args meth c D cy A cL_again 3 RL := C
  have hl : lv_has ls 3 [(0, va_rf p0), (1, .int p1)] := by simpa [lv_args, vrc, cat_i, cat_r, cat_l] using hl
  refine x_aload_nq C dL_again_0 rfl (lv_at hl 0 rfl) ?_
  refine x_iload_n C dL_again_1 rfl (lv_at hl 1 rfl) ?_
  obtain ⟨b1, g2, h⟩ := h
  refine x_nn1 g2 ?_
  obtain ⟨g3, h⟩ := h
  refine x_callX (rm := rm_X11_again) (rest := []) (As := [.int p1]) C Z Z2 cy_RL_19 g3 (by decide) (by decide) rfl rfl (Nat.le_of_ble_eq_true rfl) hl.1 dL_again_2 (c_X11_again l hlt D cy b1 p1 σ _ _ h) (ks_v (fun σ4 h => ?_)) (fun n0 σ6 q5 hn0 h => ?_)
  · skip
    refine x_goto (tgt := 14) C dL_again_5 (by decide) ?_
    refine x_iconst (v := 0) C dL_again_14 (by decide) ?_
    refine x_widen (mc := rm_L_again.cells) (ms := rm_L_again.slots) (by decide) (by decide) ?_
    exact x_iret C hr dL_again_15 ⟨_, rfl, h⟩
  · rcases (show n0 = 0 ∨ n0 = 1 ∨ n0 = 2 by omega) with hn | hn | hn
    · subst hn
      have h := h.1 rfl
      refine ⟨tableOf [], ⟨0, 5, 8, 13⟩, tableOf [(0, 5, 11, 17)], by rw [htab]; rfl, fun z hz => by simp [tableOf] at hz, by decide, by decide, clx_13, ?_⟩
      refine x_astore_n (i := 2) (lv' := [(2, .ref q5), (0, va_rf p0), (1, .int p1)]) C dL_again_8 rfl hl (by decide) (by first | rfl | simp [vrc, cat_i, cat_r, cat_l]) (fun ls hl => ?_)
      refine x_iconst (v := 1) C dL_again_9 (by decide) ?_
      refine x_widen (mc := rm_L_again.cells) (ms := rm_L_again.slots) (by decide) (by decide) ?_
      exact x_iret C hr dL_again_10 ⟨_, rfl, h⟩
    · subst hn
      exact (h.2.1 rfl).elim
    · subst hn
      have h := h.2.2 rfl
      refine ⟨tableOf [(0, 5, 8, 13)], ⟨0, 5, 11, 17⟩, tableOf [], by rw [htab]; rfl, (fun z hz => by simp only [tableOf, List.map_cons, List.map_nil, List.mem_cons, List.not_mem_nil, or_false] at hz; rcases hz with rfl <;> first | exact Or.inr ⟨by decide, _, clx_13, by decide +kernel⟩), by decide, by decide, clx_17, ?_⟩
      refine x_astore_n (i := 2) (lv' := [(2, .ref q5), (0, va_rf p0), (1, .int p1)]) C dL_again_11 rfl hl (by decide) (by first | rfl | simp [vrc, cat_i, cat_r, cat_l]) (fun ls hl => ?_)
      refine x_iconst (v := 2) C dL_again_12 (by decide) ?_
      refine x_widen (mc := rm_L_again.cells) (ms := rm_L_again.slots) (by decide) (by decide) ?_
      exact x_iret C hr dL_again_13 ⟨_, rfl, h⟩
set_option maxRecDepth 100000 in
theorem yw_L_deliver : Cond.codeWith yL_deliver cL_deliver 3 (some .int) [(0, 5, 8, 15)] ∈ AW := (aw_t4 147 rfl rfl)
set_option maxRecDepth 100000 in
theorem ys_L_deliver : Cond.static yL_deliver ∈ AW := (aw_t4 146 rfl rfl)
theorem yh_L_deliver : Ymh yL_deliver 2 := ⟨by decide, by decide, by decide +kernel⟩
theorem dL_deliver_0 : decode cL_deliver 0 = .ok (.aload_n 0, 1) := by decide +kernel
theorem dL_deliver_1 : decode cL_deliver 1 = .ok (.iload_n 1, 1) := by decide +kernel
theorem dL_deliver_2 : decode cL_deliver 2 = .ok (.invokevirtual 23, 3) := by decide +kernel
theorem dL_deliver_5 : decode cL_deliver 5 = .ok (.goto 6, 3) := by decide +kernel
theorem dL_deliver_8 : decode cL_deliver 8 = .ok (.astore_n 2, 1) := by decide +kernel
theorem dL_deliver_9 : decode cL_deliver 9 = .ok (.iconst 1, 1) := by decide +kernel
theorem dL_deliver_10 : decode cL_deliver 10 = .ok (.ireturn, 1) := by decide +kernel
theorem dL_deliver_11 : decode cL_deliver 11 = .ok (.iconst 0, 1) := by decide +kernel
theorem dL_deliver_12 : decode cL_deliver 12 = .ok (.ireturn, 1) := by decide +kernel
abbrev rm_L_deliver : Room := { frames := 8, cells := 1, slots := 6, locals := 183 }
def wp_L_deliver (p0 : Option Nat) (p1 : Int32) (σ : Sto) (Q : Int32 → Sto → Prop) : Prop := (∃ b1 : Nat, p0 = some b1 ∧ (sK σ b1 = 11 ∧ (wp_X11_deliver b1 p1 σ (fun (σ4 : Sto) => Q (0 : Int32) σ4) (fun (n0 : Nat) (σ6 : Sto) => (n0 = 0 → False) ∧ (n0 = 1 → Q (1 : Int32) σ6) ∧ (n0 = 2 → False)))))
set_option maxHeartbeats 4000000 in
set_option maxRecDepth 100000 in
theorem c_L_deliver (l : Launch) (hlt : l.stackTraces = false) (D : va_G) (cy : Nat → ClassId) (p0 : Option Nat) (p1 : Int32) (σ : Sto) (Q : Int32 → Sto → Prop) (h : wp_L_deliver p0 p1 σ Q) : MtW l D cy yL_deliver cL_deliver 3 (some .int) [(0, 5, 8, 15)] rm_L_deliver [va_rf p0, .int p1] σ (PsI Q) := by
  unfold wp_L_deliver at h
  refine mw_of (by decide +kernel) (by simp [lg_sl, vrc, cat_i, cat_r, cat_l]) ?_
  intro p e s m args below meth c A ls C hr htab Z Z2 hl
  have C : Cx p s m args meth c D cy A cL_deliver 3 RL := C
  have hl : lv_has ls 3 [(0, va_rf p0), (1, .int p1)] := by simpa [lv_args, vrc, cat_i, cat_r, cat_l] using hl
  refine x_aload_nq C dL_deliver_0 rfl (lv_at hl 0 rfl) ?_
  refine x_iload_n C dL_deliver_1 rfl (lv_at hl 1 rfl) ?_
  obtain ⟨b1, g2, h⟩ := h
  refine x_nn1 g2 ?_
  obtain ⟨g3, h⟩ := h
  refine x_callX (rm := rm_X11_deliver) (rest := []) (As := [.int p1]) C Z Z2 cy_RL_23 g3 (by decide) (by decide) rfl rfl (Nat.le_of_ble_eq_true rfl) hl.1 dL_deliver_2 (c_X11_deliver l hlt D cy b1 p1 σ _ _ h) (ks_v (fun σ4 h => ?_)) (fun n0 σ6 q5 hn0 h => ?_)
  · skip
    refine x_goto (tgt := 11) C dL_deliver_5 (by decide) ?_
    refine x_iconst (v := 0) C dL_deliver_11 (by decide) ?_
    refine x_widen (mc := rm_L_deliver.cells) (ms := rm_L_deliver.slots) (by decide) (by decide) ?_
    exact x_iret C hr dL_deliver_12 ⟨_, rfl, h⟩
  · rcases (show n0 = 0 ∨ n0 = 1 ∨ n0 = 2 by omega) with hn | hn | hn
    · subst hn
      exact (h.1 rfl).elim
    · subst hn
      have h := h.2.1 rfl
      refine ⟨tableOf [], ⟨0, 5, 8, 15⟩, tableOf [], by rw [htab]; rfl, fun z hz => by simp [tableOf] at hz, by decide, by decide, clx_15, ?_⟩
      refine x_astore_n (i := 2) (lv' := [(2, .ref q5), (0, va_rf p0), (1, .int p1)]) C dL_deliver_8 rfl hl (by decide) (by first | rfl | simp [vrc, cat_i, cat_r, cat_l]) (fun ls hl => ?_)
      refine x_iconst (v := 1) C dL_deliver_9 (by decide) ?_
      refine x_widen (mc := rm_L_deliver.cells) (ms := rm_L_deliver.slots) (by decide) (by decide) ?_
      exact x_iret C hr dL_deliver_10 ⟨_, rfl, h⟩
    · subst hn
      exact (h.2.2 rfl).elim
set_option maxRecDepth 100000 in
theorem yw_L_lose : Cond.codeWith yL_lose cL_lose 3 (some .int) [(0, 5, 8, 15)] ∈ AW := (aw_t5 99 rfl rfl)
set_option maxRecDepth 100000 in
theorem ys_L_lose : Cond.static yL_lose ∈ AW := (aw_t5 98 rfl rfl)
theorem yh_L_lose : Ymh yL_lose 2 := ⟨by decide, by decide, by decide +kernel⟩
theorem dL_lose_0 : decode cL_lose 0 = .ok (.aload_n 0, 1) := by decide +kernel
theorem dL_lose_1 : decode cL_lose 1 = .ok (.iload_n 1, 1) := by decide +kernel
theorem dL_lose_2 : decode cL_lose 2 = .ok (.invokevirtual 26, 3) := by decide +kernel
theorem dL_lose_5 : decode cL_lose 5 = .ok (.goto 6, 3) := by decide +kernel
theorem dL_lose_8 : decode cL_lose 8 = .ok (.astore_n 2, 1) := by decide +kernel
theorem dL_lose_9 : decode cL_lose 9 = .ok (.iconst 1, 1) := by decide +kernel
theorem dL_lose_10 : decode cL_lose 10 = .ok (.ireturn, 1) := by decide +kernel
theorem dL_lose_11 : decode cL_lose 11 = .ok (.iconst 0, 1) := by decide +kernel
theorem dL_lose_12 : decode cL_lose 12 = .ok (.ireturn, 1) := by decide +kernel
abbrev rm_L_lose : Room := { frames := 7, cells := 1, slots := 6, locals := 112 }
def wp_L_lose (p0 : Option Nat) (p1 : Int32) (σ : Sto) (Q : Int32 → Sto → Prop) : Prop := (∃ b1 : Nat, p0 = some b1 ∧ (sK σ b1 = 11 ∧ (wp_X11_lose b1 p1 σ (fun (σ4 : Sto) => Q (0 : Int32) σ4) (fun (n0 : Nat) (σ6 : Sto) => (n0 = 0 → False) ∧ (n0 = 1 → Q (1 : Int32) σ6) ∧ (n0 = 2 → False)))))
set_option maxHeartbeats 4000000 in
set_option maxRecDepth 100000 in
theorem c_L_lose (l : Launch) (hlt : l.stackTraces = false) (D : va_G) (cy : Nat → ClassId) (p0 : Option Nat) (p1 : Int32) (σ : Sto) (Q : Int32 → Sto → Prop) (h : wp_L_lose p0 p1 σ Q) : MtW l D cy yL_lose cL_lose 3 (some .int) [(0, 5, 8, 15)] rm_L_lose [va_rf p0, .int p1] σ (PsI Q) := by
  unfold wp_L_lose at h
  refine mw_of (by decide +kernel) (by simp [lg_sl, vrc, cat_i, cat_r, cat_l]) ?_
  intro p e s m args below meth c A ls C hr htab Z Z2 hl
  have C : Cx p s m args meth c D cy A cL_lose 3 RL := C
  have hl : lv_has ls 3 [(0, va_rf p0), (1, .int p1)] := by simpa [lv_args, vrc, cat_i, cat_r, cat_l] using hl
  refine x_aload_nq C dL_lose_0 rfl (lv_at hl 0 rfl) ?_
  refine x_iload_n C dL_lose_1 rfl (lv_at hl 1 rfl) ?_
  obtain ⟨b1, g2, h⟩ := h
  refine x_nn1 g2 ?_
  obtain ⟨g3, h⟩ := h
  refine x_callX (rm := rm_X11_lose) (rest := []) (As := [.int p1]) C Z Z2 cy_RL_26 g3 (by decide) (by decide) rfl rfl (Nat.le_of_ble_eq_true rfl) hl.1 dL_lose_2 (c_X11_lose l hlt D cy b1 p1 σ _ _ h) (ks_v (fun σ4 h => ?_)) (fun n0 σ6 q5 hn0 h => ?_)
  · skip
    refine x_goto (tgt := 11) C dL_lose_5 (by decide) ?_
    refine x_iconst (v := 0) C dL_lose_11 (by decide) ?_
    refine x_widen (mc := rm_L_lose.cells) (ms := rm_L_lose.slots) (by decide) (by decide) ?_
    exact x_iret C hr dL_lose_12 ⟨_, rfl, h⟩
  · rcases (show n0 = 0 ∨ n0 = 1 ∨ n0 = 2 by omega) with hn | hn | hn
    · subst hn
      exact (h.1 rfl).elim
    · subst hn
      have h := h.2.1 rfl
      refine ⟨tableOf [], ⟨0, 5, 8, 15⟩, tableOf [], by rw [htab]; rfl, fun z hz => by simp [tableOf] at hz, by decide, by decide, clx_15, ?_⟩
      refine x_astore_n (i := 2) (lv' := [(2, .ref q5), (0, va_rf p0), (1, .int p1)]) C dL_lose_8 rfl hl (by decide) (by first | rfl | simp [vrc, cat_i, cat_r, cat_l]) (fun ls hl => ?_)
      refine x_iconst (v := 1) C dL_lose_9 (by decide) ?_
      refine x_widen (mc := rm_L_lose.cells) (ms := rm_L_lose.slots) (by decide) (by decide) ?_
      exact x_iret C hr dL_lose_10 ⟨_, rfl, h⟩
    · subst hn
      exact (h.2.2 rfl).elim
set_option maxRecDepth 100000 in
theorem yw_L_flow : Cond.codeWith yL_flow cL_flow 4 (some .int) [(0, 9, 12, 15)] ∈ AW := (aw_t5 106 rfl rfl)
set_option maxRecDepth 100000 in
theorem ys_L_flow : Cond.static yL_flow ∈ AW := (aw_t5 105 rfl rfl)
theorem yh_L_flow : Ymh yL_flow 3 := ⟨by decide, by decide, by decide +kernel⟩
theorem dL_flow_0 : decode cL_flow 0 = .ok (.aload_n 2, 1) := by decide +kernel
theorem dL_flow_1 : decode cL_flow 1 = .ok (.iconst 0, 1) := by decide +kernel
theorem dL_flow_2 : decode cL_flow 2 = .ok (.aload_n 0, 1) := by decide +kernel
theorem dL_flow_3 : decode cL_flow 3 = .ok (.iload_n 1, 1) := by decide +kernel
theorem dL_flow_4 : decode cL_flow 4 = .ok (.invokevirtual 29, 3) := by decide +kernel
theorem dL_flow_7 : decode cL_flow 7 = .ok (.i2l, 1) := by decide +kernel
theorem dL_flow_8 : decode cL_flow 8 = .ok (.lastore, 1) := by decide +kernel
theorem dL_flow_9 : decode cL_flow 9 = .ok (.goto 6, 3) := by decide +kernel
theorem dL_flow_12 : decode cL_flow 12 = .ok (.astore_n 3, 1) := by decide +kernel
theorem dL_flow_13 : decode cL_flow 13 = .ok (.iconst 1, 1) := by decide +kernel
theorem dL_flow_14 : decode cL_flow 14 = .ok (.ireturn, 1) := by decide +kernel
theorem dL_flow_15 : decode cL_flow 15 = .ok (.iconst 0, 1) := by decide +kernel
theorem dL_flow_16 : decode cL_flow 16 = .ok (.ireturn, 1) := by decide +kernel
abbrev rm_L_flow : Room := { frames := 8, cells := 1, slots := 6, locals := 183 }
def wp_L_flow (p0 : Option Nat) (p1 : Int32) (p2 : Option Nat) (σ : Sto) (Q : Int32 → Sto → Prop) : Prop := (∃ b1 : Nat, p0 = some b1 ∧ (sK σ b1 = 11 ∧ (wp_X11_flow b1 p1 σ (fun (x5 : Int32) (σ4 : Sto) => (∃ b8 : Nat, p2 = some b8 ∧ (sK σ4 b8 = 15 ∧ (vp_in (0 : Int32) (sN σ4 b8) ∧ Q (0 : Int32) (stJ σ4 b8 (0 : Int32).toNatClampNeg x5.toInt64))))) (fun (n0 : Nat) (σ7 : Sto) => (n0 = 0 → False) ∧ (n0 = 1 → Q (1 : Int32) σ7) ∧ (n0 = 2 → False)))))
set_option maxHeartbeats 4000000 in
set_option maxRecDepth 100000 in
theorem c_L_flow (l : Launch) (hlt : l.stackTraces = false) (D : va_G) (cy : Nat → ClassId) (p0 : Option Nat) (p1 : Int32) (p2 : Option Nat) (σ : Sto) (Q : Int32 → Sto → Prop) (h : wp_L_flow p0 p1 p2 σ Q) : MtW l D cy yL_flow cL_flow 4 (some .int) [(0, 9, 12, 15)] rm_L_flow [va_rf p0, .int p1, va_rf p2] σ (PsI Q) := by
  unfold wp_L_flow at h
  refine mw_of (by decide +kernel) (by simp [lg_sl, vrc, cat_i, cat_r, cat_l]) ?_
  intro p e s m args below meth c A ls C hr htab Z Z2 hl
  have C : Cx p s m args meth c D cy A cL_flow 4 RL := C
  have hl : lv_has ls 4 [(0, va_rf p0), (1, .int p1), (2, va_rf p2)] := by simpa [lv_args, vrc, cat_i, cat_r, cat_l] using hl
  refine x_aload_nq C dL_flow_0 rfl (lv_at hl 2 rfl) ?_
  refine x_iconst (v := 0) C dL_flow_1 (by decide) ?_
  refine x_aload_nq C dL_flow_2 rfl (lv_at hl 0 rfl) ?_
  refine x_iload_n C dL_flow_3 rfl (lv_at hl 1 rfl) ?_
  obtain ⟨b1, g2, h⟩ := h
  refine x_nn1 g2 ?_
  obtain ⟨g3, h⟩ := h
  refine x_callX (rm := rm_X11_flow) (rest := [.int (0 : Int32), va_rf p2]) (As := [.int p1]) C Z Z2 cy_RL_29 g3 (by decide) (by decide) rfl rfl (by simp [vrc, cat_i, cat_r, cat_l]) hl.1 dL_flow_4 (c_X11_flow l hlt D cy b1 p1 σ _ _ h) (ks_i (fun x5 σ4 h => ?_)) (fun n0 σ7 q6 hn0 h => ?_)
  · skip
    refine x_i2l C dL_flow_7 ?_
    obtain ⟨b8, g9, h⟩ := h
    refine x_nn2 g9 ?_
    obtain ⟨g10, h⟩ := h
    obtain ⟨g11, h⟩ := h
    refine x_last C g10 g11 dL_flow_8 ?_
    refine x_goto (tgt := 15) C dL_flow_9 (by decide) ?_
    refine x_iconst (v := 0) C dL_flow_15 (by decide) ?_
    refine x_widen (mc := rm_L_flow.cells) (ms := rm_L_flow.slots) (by decide) (by decide) ?_
    exact x_iret C hr dL_flow_16 ⟨_, rfl, h⟩
  · rcases (show n0 = 0 ∨ n0 = 1 ∨ n0 = 2 by omega) with hn | hn | hn
    · subst hn
      exact (h.1 rfl).elim
    · subst hn
      have h := h.2.1 rfl
      refine ⟨tableOf [], ⟨0, 9, 12, 15⟩, tableOf [], by rw [htab]; rfl, fun z hz => by simp [tableOf] at hz, by decide, by decide, clx_15, ?_⟩
      refine x_astore_n (i := 3) (lv' := [(3, .ref q6), (0, va_rf p0), (1, .int p1), (2, va_rf p2)]) C dL_flow_12 rfl hl (by decide) (by first | rfl | simp [vrc, cat_i, cat_r, cat_l]) (fun ls hl => ?_)
      refine x_iconst (v := 1) C dL_flow_13 (by decide) ?_
      refine x_widen (mc := rm_L_flow.cells) (ms := rm_L_flow.slots) (by decide) (by decide) ?_
      exact x_iret C hr dL_flow_14 ⟨_, rfl, h⟩
    · subst hn
      exact (h.2.2 rfl).elim
set_option maxRecDepth 100000 in
theorem yw_L_down : Cond.codeWith yL_down cL_down 3 (some .int) [(0, 5, 8, 13), (0, 5, 11, 17)] ∈ AW := (aw_t5 114 rfl rfl)
set_option maxRecDepth 100000 in
theorem ys_L_down : Cond.static yL_down ∈ AW := (aw_t5 113 rfl rfl)
theorem yh_L_down : Ymh yL_down 2 := ⟨by decide, by decide, by decide +kernel⟩
theorem dL_down_0 : decode cL_down 0 = .ok (.aload_n 0, 1) := by decide +kernel
theorem dL_down_1 : decode cL_down 1 = .ok (.iload_n 1, 1) := by decide +kernel
theorem dL_down_2 : decode cL_down 2 = .ok (.invokevirtual 33, 3) := by decide +kernel
theorem dL_down_5 : decode cL_down 5 = .ok (.goto 9, 3) := by decide +kernel
theorem dL_down_8 : decode cL_down 8 = .ok (.astore_n 2, 1) := by decide +kernel
theorem dL_down_9 : decode cL_down 9 = .ok (.iconst 1, 1) := by decide +kernel
theorem dL_down_10 : decode cL_down 10 = .ok (.ireturn, 1) := by decide +kernel
theorem dL_down_11 : decode cL_down 11 = .ok (.astore_n 2, 1) := by decide +kernel
theorem dL_down_12 : decode cL_down 12 = .ok (.iconst 2, 1) := by decide +kernel
theorem dL_down_13 : decode cL_down 13 = .ok (.ireturn, 1) := by decide +kernel
theorem dL_down_14 : decode cL_down 14 = .ok (.iconst 0, 1) := by decide +kernel
theorem dL_down_15 : decode cL_down 15 = .ok (.ireturn, 1) := by decide +kernel
abbrev rm_L_down : Room := { frames := 7, cells := 1, slots := 6, locals := 111 }
def wp_L_down (p0 : Option Nat) (p1 : Int32) (σ : Sto) (Q : Int32 → Sto → Prop) : Prop := (∃ b1 : Nat, p0 = some b1 ∧ (sK σ b1 = 11 ∧ (wp_X11_down b1 p1 σ (fun (σ4 : Sto) => Q (0 : Int32) σ4) (fun (n0 : Nat) (σ6 : Sto) => (n0 = 0 → Q (1 : Int32) σ6) ∧ (n0 = 1 → False) ∧ (n0 = 2 → Q (2 : Int32) σ6)))))
set_option maxHeartbeats 4000000 in
set_option maxRecDepth 100000 in
theorem c_L_down (l : Launch) (hlt : l.stackTraces = false) (D : va_G) (cy : Nat → ClassId) (p0 : Option Nat) (p1 : Int32) (σ : Sto) (Q : Int32 → Sto → Prop) (h : wp_L_down p0 p1 σ Q) : MtW l D cy yL_down cL_down 3 (some .int) [(0, 5, 8, 13), (0, 5, 11, 17)] rm_L_down [va_rf p0, .int p1] σ (PsI Q) := by
  unfold wp_L_down at h
  refine mw_of (by decide +kernel) (by simp [lg_sl, vrc, cat_i, cat_r, cat_l]) ?_
  intro p e s m args below meth c A ls C hr htab Z Z2 hl
  have C : Cx p s m args meth c D cy A cL_down 3 RL := C
  have hl : lv_has ls 3 [(0, va_rf p0), (1, .int p1)] := by simpa [lv_args, vrc, cat_i, cat_r, cat_l] using hl
  refine x_aload_nq C dL_down_0 rfl (lv_at hl 0 rfl) ?_
  refine x_iload_n C dL_down_1 rfl (lv_at hl 1 rfl) ?_
  obtain ⟨b1, g2, h⟩ := h
  refine x_nn1 g2 ?_
  obtain ⟨g3, h⟩ := h
  refine x_callX (rm := rm_X11_down) (rest := []) (As := [.int p1]) C Z Z2 cy_RL_33 g3 (by decide) (by decide) rfl rfl (Nat.le_of_ble_eq_true rfl) hl.1 dL_down_2 (c_X11_down l hlt D cy b1 p1 σ _ _ h) (ks_v (fun σ4 h => ?_)) (fun n0 σ6 q5 hn0 h => ?_)
  · skip
    refine x_goto (tgt := 14) C dL_down_5 (by decide) ?_
    refine x_iconst (v := 0) C dL_down_14 (by decide) ?_
    refine x_widen (mc := rm_L_down.cells) (ms := rm_L_down.slots) (by decide) (by decide) ?_
    exact x_iret C hr dL_down_15 ⟨_, rfl, h⟩
  · rcases (show n0 = 0 ∨ n0 = 1 ∨ n0 = 2 by omega) with hn | hn | hn
    · subst hn
      have h := h.1 rfl
      refine ⟨tableOf [], ⟨0, 5, 8, 13⟩, tableOf [(0, 5, 11, 17)], by rw [htab]; rfl, fun z hz => by simp [tableOf] at hz, by decide, by decide, clx_13, ?_⟩
      refine x_astore_n (i := 2) (lv' := [(2, .ref q5), (0, va_rf p0), (1, .int p1)]) C dL_down_8 rfl hl (by decide) (by first | rfl | simp [vrc, cat_i, cat_r, cat_l]) (fun ls hl => ?_)
      refine x_iconst (v := 1) C dL_down_9 (by decide) ?_
      refine x_widen (mc := rm_L_down.cells) (ms := rm_L_down.slots) (by decide) (by decide) ?_
      exact x_iret C hr dL_down_10 ⟨_, rfl, h⟩
    · subst hn
      exact (h.2.1 rfl).elim
    · subst hn
      have h := h.2.2 rfl
      refine ⟨tableOf [(0, 5, 8, 13)], ⟨0, 5, 11, 17⟩, tableOf [], by rw [htab]; rfl, (fun z hz => by simp only [tableOf, List.map_cons, List.map_nil, List.mem_cons, List.not_mem_nil, or_false] at hz; rcases hz with rfl <;> first | exact Or.inr ⟨by decide, _, clx_13, by decide +kernel⟩), by decide, by decide, clx_17, ?_⟩
      refine x_astore_n (i := 2) (lv' := [(2, .ref q5), (0, va_rf p0), (1, .int p1)]) C dL_down_11 rfl hl (by decide) (by first | rfl | simp [vrc, cat_i, cat_r, cat_l]) (fun ls hl => ?_)
      refine x_iconst (v := 2) C dL_down_12 (by decide) ?_
      refine x_widen (mc := rm_L_down.cells) (ms := rm_L_down.slots) (by decide) (by decide) ?_
      exact x_iret C hr dL_down_13 ⟨_, rfl, h⟩
set_option maxRecDepth 100000 in
theorem yw_L_up : Cond.codeWith yL_up cL_up 3 (some .int) [(0, 5, 8, 13), (0, 5, 11, 17)] ∈ AW := (aw_t5 128 rfl rfl)
set_option maxRecDepth 100000 in
theorem ys_L_up : Cond.static yL_up ∈ AW := (aw_t5 127 rfl rfl)
theorem yh_L_up : Ymh yL_up 2 := ⟨by decide, by decide, by decide +kernel⟩
theorem dL_up_0 : decode cL_up 0 = .ok (.aload_n 0, 1) := by decide +kernel
theorem dL_up_1 : decode cL_up 1 = .ok (.iload_n 1, 1) := by decide +kernel
theorem dL_up_2 : decode cL_up 2 = .ok (.invokevirtual 36, 3) := by decide +kernel
theorem dL_up_5 : decode cL_up 5 = .ok (.goto 9, 3) := by decide +kernel
theorem dL_up_8 : decode cL_up 8 = .ok (.astore_n 2, 1) := by decide +kernel
theorem dL_up_9 : decode cL_up 9 = .ok (.iconst 1, 1) := by decide +kernel
theorem dL_up_10 : decode cL_up 10 = .ok (.ireturn, 1) := by decide +kernel
theorem dL_up_11 : decode cL_up 11 = .ok (.astore_n 2, 1) := by decide +kernel
theorem dL_up_12 : decode cL_up 12 = .ok (.iconst 2, 1) := by decide +kernel
theorem dL_up_13 : decode cL_up 13 = .ok (.ireturn, 1) := by decide +kernel
theorem dL_up_14 : decode cL_up 14 = .ok (.iconst 0, 1) := by decide +kernel
theorem dL_up_15 : decode cL_up 15 = .ok (.ireturn, 1) := by decide +kernel
abbrev rm_L_up : Room := { frames := 7, cells := 1, slots := 6, locals := 111 }
def wp_L_up (p0 : Option Nat) (p1 : Int32) (σ : Sto) (Q : Int32 → Sto → Prop) : Prop := (∃ b1 : Nat, p0 = some b1 ∧ (sK σ b1 = 11 ∧ (wp_X11_up b1 p1 σ (fun (σ4 : Sto) => Q (0 : Int32) σ4) (fun (n0 : Nat) (σ6 : Sto) => (n0 = 0 → Q (1 : Int32) σ6) ∧ (n0 = 1 → False) ∧ (n0 = 2 → Q (2 : Int32) σ6)))))
set_option maxHeartbeats 4000000 in
set_option maxRecDepth 100000 in
theorem c_L_up (l : Launch) (hlt : l.stackTraces = false) (D : va_G) (cy : Nat → ClassId) (p0 : Option Nat) (p1 : Int32) (σ : Sto) (Q : Int32 → Sto → Prop) (h : wp_L_up p0 p1 σ Q) : MtW l D cy yL_up cL_up 3 (some .int) [(0, 5, 8, 13), (0, 5, 11, 17)] rm_L_up [va_rf p0, .int p1] σ (PsI Q) := by
  unfold wp_L_up at h
  refine mw_of (by decide +kernel) (by simp [lg_sl, vrc, cat_i, cat_r, cat_l]) ?_
  intro p e s m args below meth c A ls C hr htab Z Z2 hl
  have C : Cx p s m args meth c D cy A cL_up 3 RL := C
  have hl : lv_has ls 3 [(0, va_rf p0), (1, .int p1)] := by simpa [lv_args, vrc, cat_i, cat_r, cat_l] using hl
  refine x_aload_nq C dL_up_0 rfl (lv_at hl 0 rfl) ?_
  refine x_iload_n C dL_up_1 rfl (lv_at hl 1 rfl) ?_
  obtain ⟨b1, g2, h⟩ := h
  refine x_nn1 g2 ?_
  obtain ⟨g3, h⟩ := h
  refine x_callX (rm := rm_X11_up) (rest := []) (As := [.int p1]) C Z Z2 cy_RL_36 g3 (by decide) (by decide) rfl rfl (Nat.le_of_ble_eq_true rfl) hl.1 dL_up_2 (c_X11_up l hlt D cy b1 p1 σ _ _ h) (ks_v (fun σ4 h => ?_)) (fun n0 σ6 q5 hn0 h => ?_)
  · skip
    refine x_goto (tgt := 14) C dL_up_5 (by decide) ?_
    refine x_iconst (v := 0) C dL_up_14 (by decide) ?_
    refine x_widen (mc := rm_L_up.cells) (ms := rm_L_up.slots) (by decide) (by decide) ?_
    exact x_iret C hr dL_up_15 ⟨_, rfl, h⟩
  · rcases (show n0 = 0 ∨ n0 = 1 ∨ n0 = 2 by omega) with hn | hn | hn
    · subst hn
      have h := h.1 rfl
      refine ⟨tableOf [], ⟨0, 5, 8, 13⟩, tableOf [(0, 5, 11, 17)], by rw [htab]; rfl, fun z hz => by simp [tableOf] at hz, by decide, by decide, clx_13, ?_⟩
      refine x_astore_n (i := 2) (lv' := [(2, .ref q5), (0, va_rf p0), (1, .int p1)]) C dL_up_8 rfl hl (by decide) (by first | rfl | simp [vrc, cat_i, cat_r, cat_l]) (fun ls hl => ?_)
      refine x_iconst (v := 1) C dL_up_9 (by decide) ?_
      refine x_widen (mc := rm_L_up.cells) (ms := rm_L_up.slots) (by decide) (by decide) ?_
      exact x_iret C hr dL_up_10 ⟨_, rfl, h⟩
    · subst hn
      exact (h.2.1 rfl).elim
    · subst hn
      have h := h.2.2 rfl
      refine ⟨tableOf [(0, 5, 8, 13)], ⟨0, 5, 11, 17⟩, tableOf [], by rw [htab]; rfl, (fun z hz => by simp only [tableOf, List.map_cons, List.map_nil, List.mem_cons, List.not_mem_nil, or_false] at hz; rcases hz with rfl <;> first | exact Or.inr ⟨by decide, _, clx_13, by decide +kernel⟩), by decide, by decide, clx_17, ?_⟩
      refine x_astore_n (i := 2) (lv' := [(2, .ref q5), (0, va_rf p0), (1, .int p1)]) C dL_up_11 rfl hl (by decide) (by first | rfl | simp [vrc, cat_i, cat_r, cat_l]) (fun ls hl => ?_)
      refine x_iconst (v := 2) C dL_up_12 (by decide) ?_
      refine x_widen (mc := rm_L_up.cells) (ms := rm_L_up.slots) (by decide) (by decide) ?_
      exact x_iret C hr dL_up_13 ⟨_, rfl, h⟩
set_option maxRecDepth 100000 in
theorem yw_L_suspect : Cond.codeWith yL_suspect cL_suspect 3 (some .int) [(0, 5, 8, 13), (0, 5, 11, 17)] ∈ AW := (aw_t5 136 rfl rfl)
set_option maxRecDepth 100000 in
theorem ys_L_suspect : Cond.static yL_suspect ∈ AW := (aw_t5 135 rfl rfl)
theorem yh_L_suspect : Ymh yL_suspect 2 := ⟨by decide, by decide, by decide +kernel⟩
theorem dL_suspect_0 : decode cL_suspect 0 = .ok (.aload_n 0, 1) := by decide +kernel
theorem dL_suspect_1 : decode cL_suspect 1 = .ok (.iload_n 1, 1) := by decide +kernel
theorem dL_suspect_2 : decode cL_suspect 2 = .ok (.invokevirtual 39, 3) := by decide +kernel
theorem dL_suspect_5 : decode cL_suspect 5 = .ok (.goto 9, 3) := by decide +kernel
theorem dL_suspect_8 : decode cL_suspect 8 = .ok (.astore_n 2, 1) := by decide +kernel
theorem dL_suspect_9 : decode cL_suspect 9 = .ok (.iconst 1, 1) := by decide +kernel
theorem dL_suspect_10 : decode cL_suspect 10 = .ok (.ireturn, 1) := by decide +kernel
theorem dL_suspect_11 : decode cL_suspect 11 = .ok (.astore_n 2, 1) := by decide +kernel
theorem dL_suspect_12 : decode cL_suspect 12 = .ok (.iconst 2, 1) := by decide +kernel
theorem dL_suspect_13 : decode cL_suspect 13 = .ok (.ireturn, 1) := by decide +kernel
theorem dL_suspect_14 : decode cL_suspect 14 = .ok (.iconst 0, 1) := by decide +kernel
theorem dL_suspect_15 : decode cL_suspect 15 = .ok (.ireturn, 1) := by decide +kernel
abbrev rm_L_suspect : Room := { frames := 7, cells := 1, slots := 6, locals := 129 }
def wp_L_suspect (p0 : Option Nat) (p1 : Int32) (σ : Sto) (Q : Int32 → Sto → Prop) : Prop := (∃ b1 : Nat, p0 = some b1 ∧ (sK σ b1 = 11 ∧ (wp_X11_suspect b1 p1 σ (fun (σ4 : Sto) => Q (0 : Int32) σ4) (fun (n0 : Nat) (σ6 : Sto) => (n0 = 0 → Q (1 : Int32) σ6) ∧ (n0 = 1 → False) ∧ (n0 = 2 → Q (2 : Int32) σ6)))))
set_option maxHeartbeats 4000000 in
set_option maxRecDepth 100000 in
theorem c_L_suspect (l : Launch) (hlt : l.stackTraces = false) (D : va_G) (cy : Nat → ClassId) (p0 : Option Nat) (p1 : Int32) (σ : Sto) (Q : Int32 → Sto → Prop) (h : wp_L_suspect p0 p1 σ Q) : MtW l D cy yL_suspect cL_suspect 3 (some .int) [(0, 5, 8, 13), (0, 5, 11, 17)] rm_L_suspect [va_rf p0, .int p1] σ (PsI Q) := by
  unfold wp_L_suspect at h
  refine mw_of (by decide +kernel) (by simp [lg_sl, vrc, cat_i, cat_r, cat_l]) ?_
  intro p e s m args below meth c A ls C hr htab Z Z2 hl
  have C : Cx p s m args meth c D cy A cL_suspect 3 RL := C
  have hl : lv_has ls 3 [(0, va_rf p0), (1, .int p1)] := by simpa [lv_args, vrc, cat_i, cat_r, cat_l] using hl
  refine x_aload_nq C dL_suspect_0 rfl (lv_at hl 0 rfl) ?_
  refine x_iload_n C dL_suspect_1 rfl (lv_at hl 1 rfl) ?_
  obtain ⟨b1, g2, h⟩ := h
  refine x_nn1 g2 ?_
  obtain ⟨g3, h⟩ := h
  refine x_callX (rm := rm_X11_suspect) (rest := []) (As := [.int p1]) C Z Z2 cy_RL_39 g3 (by decide) (by decide) rfl rfl (Nat.le_of_ble_eq_true rfl) hl.1 dL_suspect_2 (c_X11_suspect l hlt D cy b1 p1 σ _ _ h) (ks_v (fun σ4 h => ?_)) (fun n0 σ6 q5 hn0 h => ?_)
  · skip
    refine x_goto (tgt := 14) C dL_suspect_5 (by decide) ?_
    refine x_iconst (v := 0) C dL_suspect_14 (by decide) ?_
    refine x_widen (mc := rm_L_suspect.cells) (ms := rm_L_suspect.slots) (by decide) (by decide) ?_
    exact x_iret C hr dL_suspect_15 ⟨_, rfl, h⟩
  · rcases (show n0 = 0 ∨ n0 = 1 ∨ n0 = 2 by omega) with hn | hn | hn
    · subst hn
      have h := h.1 rfl
      refine ⟨tableOf [], ⟨0, 5, 8, 13⟩, tableOf [(0, 5, 11, 17)], by rw [htab]; rfl, fun z hz => by simp [tableOf] at hz, by decide, by decide, clx_13, ?_⟩
      refine x_astore_n (i := 2) (lv' := [(2, .ref q5), (0, va_rf p0), (1, .int p1)]) C dL_suspect_8 rfl hl (by decide) (by first | rfl | simp [vrc, cat_i, cat_r, cat_l]) (fun ls hl => ?_)
      refine x_iconst (v := 1) C dL_suspect_9 (by decide) ?_
      refine x_widen (mc := rm_L_suspect.cells) (ms := rm_L_suspect.slots) (by decide) (by decide) ?_
      exact x_iret C hr dL_suspect_10 ⟨_, rfl, h⟩
    · subst hn
      exact (h.2.1 rfl).elim
    · subst hn
      have h := h.2.2 rfl
      refine ⟨tableOf [(0, 5, 8, 13)], ⟨0, 5, 11, 17⟩, tableOf [], by rw [htab]; rfl, (fun z hz => by simp only [tableOf, List.map_cons, List.map_nil, List.mem_cons, List.not_mem_nil, or_false] at hz; rcases hz with rfl <;> first | exact Or.inr ⟨by decide, _, clx_13, by decide +kernel⟩), by decide, by decide, clx_17, ?_⟩
      refine x_astore_n (i := 2) (lv' := [(2, .ref q5), (0, va_rf p0), (1, .int p1)]) C dL_suspect_11 rfl hl (by decide) (by first | rfl | simp [vrc, cat_i, cat_r, cat_l]) (fun ls hl => ?_)
      refine x_iconst (v := 2) C dL_suspect_12 (by decide) ?_
      refine x_widen (mc := rm_L_suspect.cells) (ms := rm_L_suspect.slots) (by decide) (by decide) ?_
      exact x_iret C hr dL_suspect_13 ⟨_, rfl, h⟩
set_option maxRecDepth 100000 in
theorem yw_L_nudge : Cond.codeWith yL_nudge cL_nudge 4 (some .int) [(0, 9, 12, 13), (0, 9, 15, 17)] ∈ AW := (aw_t5 148 rfl rfl)
set_option maxRecDepth 100000 in
theorem ys_L_nudge : Cond.static yL_nudge ∈ AW := (aw_t5 147 rfl rfl)
theorem yh_L_nudge : Ymh yL_nudge 3 := ⟨by decide, by decide, by decide +kernel⟩
theorem dL_nudge_0 : decode cL_nudge 0 = .ok (.aload_n 2, 1) := by decide +kernel
theorem dL_nudge_1 : decode cL_nudge 1 = .ok (.iconst 0, 1) := by decide +kernel
theorem dL_nudge_2 : decode cL_nudge 2 = .ok (.aload_n 0, 1) := by decide +kernel
theorem dL_nudge_3 : decode cL_nudge 3 = .ok (.iload_n 1, 1) := by decide +kernel
theorem dL_nudge_4 : decode cL_nudge 4 = .ok (.invokevirtual 42, 3) := by decide +kernel
theorem dL_nudge_7 : decode cL_nudge 7 = .ok (.i2l, 1) := by decide +kernel
theorem dL_nudge_8 : decode cL_nudge 8 = .ok (.lastore, 1) := by decide +kernel
theorem dL_nudge_9 : decode cL_nudge 9 = .ok (.goto 9, 3) := by decide +kernel
theorem dL_nudge_12 : decode cL_nudge 12 = .ok (.astore_n 3, 1) := by decide +kernel
theorem dL_nudge_13 : decode cL_nudge 13 = .ok (.iconst 1, 1) := by decide +kernel
theorem dL_nudge_14 : decode cL_nudge 14 = .ok (.ireturn, 1) := by decide +kernel
theorem dL_nudge_15 : decode cL_nudge 15 = .ok (.astore_n 3, 1) := by decide +kernel
theorem dL_nudge_16 : decode cL_nudge 16 = .ok (.iconst 2, 1) := by decide +kernel
theorem dL_nudge_17 : decode cL_nudge 17 = .ok (.ireturn, 1) := by decide +kernel
theorem dL_nudge_18 : decode cL_nudge 18 = .ok (.iconst 0, 1) := by decide +kernel
theorem dL_nudge_19 : decode cL_nudge 19 = .ok (.ireturn, 1) := by decide +kernel
abbrev rm_L_nudge : Room := { frames := 7, cells := 1, slots := 6, locals := 112 }
def wp_L_nudge (p0 : Option Nat) (p1 : Int32) (p2 : Option Nat) (σ : Sto) (Q : Int32 → Sto → Prop) : Prop := (∃ b1 : Nat, p0 = some b1 ∧ (sK σ b1 = 11 ∧ (wp_X11_nudge b1 p1 σ (fun (x5 : Int32) (σ4 : Sto) => (∃ b8 : Nat, p2 = some b8 ∧ (sK σ4 b8 = 15 ∧ (vp_in (0 : Int32) (sN σ4 b8) ∧ Q (0 : Int32) (stJ σ4 b8 (0 : Int32).toNatClampNeg x5.toInt64))))) (fun (n0 : Nat) (σ7 : Sto) => (n0 = 0 → Q (1 : Int32) σ7) ∧ (n0 = 1 → False) ∧ (n0 = 2 → Q (2 : Int32) σ7)))))
set_option maxHeartbeats 4000000 in
set_option maxRecDepth 100000 in
theorem c_L_nudge (l : Launch) (hlt : l.stackTraces = false) (D : va_G) (cy : Nat → ClassId) (p0 : Option Nat) (p1 : Int32) (p2 : Option Nat) (σ : Sto) (Q : Int32 → Sto → Prop) (h : wp_L_nudge p0 p1 p2 σ Q) : MtW l D cy yL_nudge cL_nudge 4 (some .int) [(0, 9, 12, 13), (0, 9, 15, 17)] rm_L_nudge [va_rf p0, .int p1, va_rf p2] σ (PsI Q) := by
  unfold wp_L_nudge at h
  refine mw_of (by decide +kernel) (by simp [lg_sl, vrc, cat_i, cat_r, cat_l]) ?_
  intro p e s m args below meth c A ls C hr htab Z Z2 hl
  have C : Cx p s m args meth c D cy A cL_nudge 4 RL := C
  have hl : lv_has ls 4 [(0, va_rf p0), (1, .int p1), (2, va_rf p2)] := by simpa [lv_args, vrc, cat_i, cat_r, cat_l] using hl
  refine x_aload_nq C dL_nudge_0 rfl (lv_at hl 2 rfl) ?_
  refine x_iconst (v := 0) C dL_nudge_1 (by decide) ?_
  refine x_aload_nq C dL_nudge_2 rfl (lv_at hl 0 rfl) ?_
  refine x_iload_n C dL_nudge_3 rfl (lv_at hl 1 rfl) ?_
  obtain ⟨b1, g2, h⟩ := h
  refine x_nn1 g2 ?_
  obtain ⟨g3, h⟩ := h
  refine x_callX (rm := rm_X11_nudge) (rest := [.int (0 : Int32), va_rf p2]) (As := [.int p1]) C Z Z2 cy_RL_42 g3 (by decide) (by decide) rfl rfl (by simp [vrc, cat_i, cat_r, cat_l]) hl.1 dL_nudge_4 (c_X11_nudge l hlt D cy b1 p1 σ _ _ h) (ks_i (fun x5 σ4 h => ?_)) (fun n0 σ7 q6 hn0 h => ?_)
  · skip
    refine x_i2l C dL_nudge_7 ?_
    obtain ⟨b8, g9, h⟩ := h
    refine x_nn2 g9 ?_
    obtain ⟨g10, h⟩ := h
    obtain ⟨g11, h⟩ := h
    refine x_last C g10 g11 dL_nudge_8 ?_
    refine x_goto (tgt := 18) C dL_nudge_9 (by decide) ?_
    refine x_iconst (v := 0) C dL_nudge_18 (by decide) ?_
    refine x_widen (mc := rm_L_nudge.cells) (ms := rm_L_nudge.slots) (by decide) (by decide) ?_
    exact x_iret C hr dL_nudge_19 ⟨_, rfl, h⟩
  · rcases (show n0 = 0 ∨ n0 = 1 ∨ n0 = 2 by omega) with hn | hn | hn
    · subst hn
      have h := h.1 rfl
      refine ⟨tableOf [], ⟨0, 9, 12, 13⟩, tableOf [(0, 9, 15, 17)], by rw [htab]; rfl, fun z hz => by simp [tableOf] at hz, by decide, by decide, clx_13, ?_⟩
      refine x_astore_n (i := 3) (lv' := [(3, .ref q6), (0, va_rf p0), (1, .int p1), (2, va_rf p2)]) C dL_nudge_12 rfl hl (by decide) (by first | rfl | simp [vrc, cat_i, cat_r, cat_l]) (fun ls hl => ?_)
      refine x_iconst (v := 1) C dL_nudge_13 (by decide) ?_
      refine x_widen (mc := rm_L_nudge.cells) (ms := rm_L_nudge.slots) (by decide) (by decide) ?_
      exact x_iret C hr dL_nudge_14 ⟨_, rfl, h⟩
    · subst hn
      exact (h.2.1 rfl).elim
    · subst hn
      have h := h.2.2 rfl
      refine ⟨tableOf [(0, 9, 12, 13)], ⟨0, 9, 15, 17⟩, tableOf [], by rw [htab]; rfl, (fun z hz => by simp only [tableOf, List.map_cons, List.map_nil, List.mem_cons, List.not_mem_nil, or_false] at hz; rcases hz with rfl <;> first | exact Or.inr ⟨by decide, _, clx_13, by decide +kernel⟩), by decide, by decide, clx_17, ?_⟩
      refine x_astore_n (i := 3) (lv' := [(3, .ref q6), (0, va_rf p0), (1, .int p1), (2, va_rf p2)]) C dL_nudge_15 rfl hl (by decide) (by first | rfl | simp [vrc, cat_i, cat_r, cat_l]) (fun ls hl => ?_)
      refine x_iconst (v := 2) C dL_nudge_16 (by decide) ?_
      refine x_widen (mc := rm_L_nudge.cells) (ms := rm_L_nudge.slots) (by decide) (by decide) ?_
      exact x_iret C hr dL_nudge_17 ⟨_, rfl, h⟩
set_option maxRecDepth 100000 in
theorem yw_L_sync : Cond.codeWith yL_sync cL_sync 3 (some .int) [(0, 5, 8, 13), (0, 5, 11, 17)] ∈ AW := (aw_t5 159 rfl rfl)
set_option maxRecDepth 100000 in
theorem ys_L_sync : Cond.static yL_sync ∈ AW := (aw_t5 158 rfl rfl)
theorem yh_L_sync : Ymh yL_sync 2 := ⟨by decide, by decide, by decide +kernel⟩
theorem dL_sync_0 : decode cL_sync 0 = .ok (.aload_n 0, 1) := by decide +kernel
theorem dL_sync_1 : decode cL_sync 1 = .ok (.iload_n 1, 1) := by decide +kernel
theorem dL_sync_2 : decode cL_sync 2 = .ok (.invokevirtual 45, 3) := by decide +kernel
theorem dL_sync_5 : decode cL_sync 5 = .ok (.goto 9, 3) := by decide +kernel
theorem dL_sync_8 : decode cL_sync 8 = .ok (.astore_n 2, 1) := by decide +kernel
theorem dL_sync_9 : decode cL_sync 9 = .ok (.iconst 1, 1) := by decide +kernel
theorem dL_sync_10 : decode cL_sync 10 = .ok (.ireturn, 1) := by decide +kernel
theorem dL_sync_11 : decode cL_sync 11 = .ok (.astore_n 2, 1) := by decide +kernel
theorem dL_sync_12 : decode cL_sync 12 = .ok (.iconst 2, 1) := by decide +kernel
theorem dL_sync_13 : decode cL_sync 13 = .ok (.ireturn, 1) := by decide +kernel
theorem dL_sync_14 : decode cL_sync 14 = .ok (.iconst 0, 1) := by decide +kernel
theorem dL_sync_15 : decode cL_sync 15 = .ok (.ireturn, 1) := by decide +kernel
abbrev rm_L_sync : Room := { frames := 7, cells := 1, slots := 6, locals := 112 }
def wp_L_sync (p0 : Option Nat) (p1 : Int32) (σ : Sto) (Q : Int32 → Sto → Prop) : Prop := (∃ b1 : Nat, p0 = some b1 ∧ (sK σ b1 = 11 ∧ (wp_X11_sync b1 p1 σ (fun (σ4 : Sto) => Q (0 : Int32) σ4) (fun (n0 : Nat) (σ6 : Sto) => (n0 = 0 → Q (1 : Int32) σ6) ∧ (n0 = 1 → False) ∧ (n0 = 2 → Q (2 : Int32) σ6)))))
set_option maxHeartbeats 4000000 in
set_option maxRecDepth 100000 in
theorem c_L_sync (l : Launch) (hlt : l.stackTraces = false) (D : va_G) (cy : Nat → ClassId) (p0 : Option Nat) (p1 : Int32) (σ : Sto) (Q : Int32 → Sto → Prop) (h : wp_L_sync p0 p1 σ Q) : MtW l D cy yL_sync cL_sync 3 (some .int) [(0, 5, 8, 13), (0, 5, 11, 17)] rm_L_sync [va_rf p0, .int p1] σ (PsI Q) := by
  unfold wp_L_sync at h
  refine mw_of (by decide +kernel) (by simp [lg_sl, vrc, cat_i, cat_r, cat_l]) ?_
  intro p e s m args below meth c A ls C hr htab Z Z2 hl
  have C : Cx p s m args meth c D cy A cL_sync 3 RL := C
  have hl : lv_has ls 3 [(0, va_rf p0), (1, .int p1)] := by simpa [lv_args, vrc, cat_i, cat_r, cat_l] using hl
  refine x_aload_nq C dL_sync_0 rfl (lv_at hl 0 rfl) ?_
  refine x_iload_n C dL_sync_1 rfl (lv_at hl 1 rfl) ?_
  obtain ⟨b1, g2, h⟩ := h
  refine x_nn1 g2 ?_
  obtain ⟨g3, h⟩ := h
  refine x_callX (rm := rm_X11_sync) (rest := []) (As := [.int p1]) C Z Z2 cy_RL_45 g3 (by decide) (by decide) rfl rfl (Nat.le_of_ble_eq_true rfl) hl.1 dL_sync_2 (c_X11_sync l hlt D cy b1 p1 σ _ _ h) (ks_v (fun σ4 h => ?_)) (fun n0 σ6 q5 hn0 h => ?_)
  · skip
    refine x_goto (tgt := 14) C dL_sync_5 (by decide) ?_
    refine x_iconst (v := 0) C dL_sync_14 (by decide) ?_
    refine x_widen (mc := rm_L_sync.cells) (ms := rm_L_sync.slots) (by decide) (by decide) ?_
    exact x_iret C hr dL_sync_15 ⟨_, rfl, h⟩
  · rcases (show n0 = 0 ∨ n0 = 1 ∨ n0 = 2 by omega) with hn | hn | hn
    · subst hn
      have h := h.1 rfl
      refine ⟨tableOf [], ⟨0, 5, 8, 13⟩, tableOf [(0, 5, 11, 17)], by rw [htab]; rfl, fun z hz => by simp [tableOf] at hz, by decide, by decide, clx_13, ?_⟩
      refine x_astore_n (i := 2) (lv' := [(2, .ref q5), (0, va_rf p0), (1, .int p1)]) C dL_sync_8 rfl hl (by decide) (by first | rfl | simp [vrc, cat_i, cat_r, cat_l]) (fun ls hl => ?_)
      refine x_iconst (v := 1) C dL_sync_9 (by decide) ?_
      refine x_widen (mc := rm_L_sync.cells) (ms := rm_L_sync.slots) (by decide) (by decide) ?_
      exact x_iret C hr dL_sync_10 ⟨_, rfl, h⟩
    · subst hn
      exact (h.2.1 rfl).elim
    · subst hn
      have h := h.2.2 rfl
      refine ⟨tableOf [(0, 5, 8, 13)], ⟨0, 5, 11, 17⟩, tableOf [], by rw [htab]; rfl, (fun z hz => by simp only [tableOf, List.map_cons, List.map_nil, List.mem_cons, List.not_mem_nil, or_false] at hz; rcases hz with rfl <;> first | exact Or.inr ⟨by decide, _, clx_13, by decide +kernel⟩), by decide, by decide, clx_17, ?_⟩
      refine x_astore_n (i := 2) (lv' := [(2, .ref q5), (0, va_rf p0), (1, .int p1)]) C dL_sync_11 rfl hl (by decide) (by first | rfl | simp [vrc, cat_i, cat_r, cat_l]) (fun ls hl => ?_)
      refine x_iconst (v := 2) C dL_sync_12 (by decide) ?_
      refine x_widen (mc := rm_L_sync.cells) (ms := rm_L_sync.slots) (by decide) (by decide) ?_
      exact x_iret C hr dL_sync_13 ⟨_, rfl, h⟩
set_option maxRecDepth 100000 in
theorem yw_L_tick : Cond.codeWith yL_tick cL_tick 4 (some .int) [(0, 9, 12, 15)] ∈ AW := (aw_t5 171 rfl rfl)
set_option maxRecDepth 100000 in
theorem ys_L_tick : Cond.static yL_tick ∈ AW := (aw_t5 170 rfl rfl)
theorem yh_L_tick : Ymh yL_tick 3 := ⟨by decide, by decide, by decide +kernel⟩
theorem dL_tick_0 : decode cL_tick 0 = .ok (.aload_n 2, 1) := by decide +kernel
theorem dL_tick_1 : decode cL_tick 1 = .ok (.iconst 0, 1) := by decide +kernel
theorem dL_tick_2 : decode cL_tick 2 = .ok (.aload_n 0, 1) := by decide +kernel
theorem dL_tick_3 : decode cL_tick 3 = .ok (.iload_n 1, 1) := by decide +kernel
theorem dL_tick_4 : decode cL_tick 4 = .ok (.invokevirtual 48, 3) := by decide +kernel
theorem dL_tick_7 : decode cL_tick 7 = .ok (.i2l, 1) := by decide +kernel
theorem dL_tick_8 : decode cL_tick 8 = .ok (.lastore, 1) := by decide +kernel
theorem dL_tick_9 : decode cL_tick 9 = .ok (.goto 6, 3) := by decide +kernel
theorem dL_tick_12 : decode cL_tick 12 = .ok (.astore_n 3, 1) := by decide +kernel
theorem dL_tick_13 : decode cL_tick 13 = .ok (.iconst 1, 1) := by decide +kernel
theorem dL_tick_14 : decode cL_tick 14 = .ok (.ireturn, 1) := by decide +kernel
theorem dL_tick_15 : decode cL_tick 15 = .ok (.iconst 0, 1) := by decide +kernel
theorem dL_tick_16 : decode cL_tick 16 = .ok (.ireturn, 1) := by decide +kernel
abbrev rm_L_tick : Room := { frames := 8, cells := 1, slots := 6, locals := 180 }
def wp_L_tick (p0 : Option Nat) (p1 : Int32) (p2 : Option Nat) (σ : Sto) (Q : Int32 → Sto → Prop) : Prop := (∃ b1 : Nat, p0 = some b1 ∧ (sK σ b1 = 11 ∧ (wp_X11_tick b1 p1 σ (fun (x5 : Int32) (σ4 : Sto) => (∃ b8 : Nat, p2 = some b8 ∧ (sK σ4 b8 = 15 ∧ (vp_in (0 : Int32) (sN σ4 b8) ∧ Q (0 : Int32) (stJ σ4 b8 (0 : Int32).toNatClampNeg x5.toInt64))))) (fun (n0 : Nat) (σ7 : Sto) => (n0 = 0 → False) ∧ (n0 = 1 → Q (1 : Int32) σ7) ∧ (n0 = 2 → False)))))
set_option maxHeartbeats 4000000 in
set_option maxRecDepth 100000 in
theorem c_L_tick (l : Launch) (hlt : l.stackTraces = false) (D : va_G) (cy : Nat → ClassId) (p0 : Option Nat) (p1 : Int32) (p2 : Option Nat) (σ : Sto) (Q : Int32 → Sto → Prop) (h : wp_L_tick p0 p1 p2 σ Q) : MtW l D cy yL_tick cL_tick 4 (some .int) [(0, 9, 12, 15)] rm_L_tick [va_rf p0, .int p1, va_rf p2] σ (PsI Q) := by
  unfold wp_L_tick at h
  refine mw_of (by decide +kernel) (by simp [lg_sl, vrc, cat_i, cat_r, cat_l]) ?_
  intro p e s m args below meth c A ls C hr htab Z Z2 hl
  have C : Cx p s m args meth c D cy A cL_tick 4 RL := C
  have hl : lv_has ls 4 [(0, va_rf p0), (1, .int p1), (2, va_rf p2)] := by simpa [lv_args, vrc, cat_i, cat_r, cat_l] using hl
  refine x_aload_nq C dL_tick_0 rfl (lv_at hl 2 rfl) ?_
  refine x_iconst (v := 0) C dL_tick_1 (by decide) ?_
  refine x_aload_nq C dL_tick_2 rfl (lv_at hl 0 rfl) ?_
  refine x_iload_n C dL_tick_3 rfl (lv_at hl 1 rfl) ?_
  obtain ⟨b1, g2, h⟩ := h
  refine x_nn1 g2 ?_
  obtain ⟨g3, h⟩ := h
  refine x_callX (rm := rm_X11_tick) (rest := [.int (0 : Int32), va_rf p2]) (As := [.int p1]) C Z Z2 cy_RL_48 g3 (by decide) (by decide) rfl rfl (by simp [vrc, cat_i, cat_r, cat_l]) hl.1 dL_tick_4 (c_X11_tick l hlt D cy b1 p1 σ _ _ h) (ks_i (fun x5 σ4 h => ?_)) (fun n0 σ7 q6 hn0 h => ?_)
  · skip
    refine x_i2l C dL_tick_7 ?_
    obtain ⟨b8, g9, h⟩ := h
    refine x_nn2 g9 ?_
    obtain ⟨g10, h⟩ := h
    obtain ⟨g11, h⟩ := h
    refine x_last C g10 g11 dL_tick_8 ?_
    refine x_goto (tgt := 15) C dL_tick_9 (by decide) ?_
    refine x_iconst (v := 0) C dL_tick_15 (by decide) ?_
    refine x_widen (mc := rm_L_tick.cells) (ms := rm_L_tick.slots) (by decide) (by decide) ?_
    exact x_iret C hr dL_tick_16 ⟨_, rfl, h⟩
  · rcases (show n0 = 0 ∨ n0 = 1 ∨ n0 = 2 by omega) with hn | hn | hn
    · subst hn
      exact (h.1 rfl).elim
    · subst hn
      have h := h.2.1 rfl
      refine ⟨tableOf [], ⟨0, 9, 12, 15⟩, tableOf [], by rw [htab]; rfl, fun z hz => by simp [tableOf] at hz, by decide, by decide, clx_15, ?_⟩
      refine x_astore_n (i := 3) (lv' := [(3, .ref q6), (0, va_rf p0), (1, .int p1), (2, va_rf p2)]) C dL_tick_12 rfl hl (by decide) (by first | rfl | simp [vrc, cat_i, cat_r, cat_l]) (fun ls hl => ?_)
      refine x_iconst (v := 1) C dL_tick_13 (by decide) ?_
      refine x_widen (mc := rm_L_tick.cells) (ms := rm_L_tick.slots) (by decide) (by decide) ?_
      exact x_iret C hr dL_tick_14 ⟨_, rfl, h⟩
    · subst hn
      exact (h.2.2 rfl).elim
set_option maxRecDepth 100000 in
theorem yw_L_calm : Cond.codeWith yL_calm cL_calm 4 (some .int) [(0, 9, 12, 15)] ∈ AW := (aw_t5 189 rfl rfl)
set_option maxRecDepth 100000 in
theorem ys_L_calm : Cond.static yL_calm ∈ AW := (aw_t5 188 rfl rfl)
theorem yh_L_calm : Ymh yL_calm 3 := ⟨by decide, by decide, by decide +kernel⟩
theorem dL_calm_0 : decode cL_calm 0 = .ok (.aload_n 2, 1) := by decide +kernel
theorem dL_calm_1 : decode cL_calm 1 = .ok (.iconst 0, 1) := by decide +kernel
theorem dL_calm_2 : decode cL_calm 2 = .ok (.aload_n 0, 1) := by decide +kernel
theorem dL_calm_3 : decode cL_calm 3 = .ok (.iload_n 1, 1) := by decide +kernel
theorem dL_calm_4 : decode cL_calm 4 = .ok (.invokevirtual 51, 3) := by decide +kernel
theorem dL_calm_7 : decode cL_calm 7 = .ok (.i2l, 1) := by decide +kernel
theorem dL_calm_8 : decode cL_calm 8 = .ok (.lastore, 1) := by decide +kernel
theorem dL_calm_9 : decode cL_calm 9 = .ok (.goto 6, 3) := by decide +kernel
theorem dL_calm_12 : decode cL_calm 12 = .ok (.astore_n 3, 1) := by decide +kernel
theorem dL_calm_13 : decode cL_calm 13 = .ok (.iconst 1, 1) := by decide +kernel
theorem dL_calm_14 : decode cL_calm 14 = .ok (.ireturn, 1) := by decide +kernel
theorem dL_calm_15 : decode cL_calm 15 = .ok (.iconst 0, 1) := by decide +kernel
theorem dL_calm_16 : decode cL_calm 16 = .ok (.ireturn, 1) := by decide +kernel
abbrev rm_L_calm : Room := { frames := 8, cells := 1, slots := 6, locals := 186 }
def wp_L_calm (p0 : Option Nat) (p1 : Int32) (p2 : Option Nat) (σ : Sto) (Q : Int32 → Sto → Prop) : Prop := (∃ b1 : Nat, p0 = some b1 ∧ (sK σ b1 = 11 ∧ (wp_X11_calm b1 p1 σ (fun (x5 : Int32) (σ4 : Sto) => (∃ b8 : Nat, p2 = some b8 ∧ (sK σ4 b8 = 15 ∧ (vp_in (0 : Int32) (sN σ4 b8) ∧ Q (0 : Int32) (stJ σ4 b8 (0 : Int32).toNatClampNeg x5.toInt64))))) (fun (n0 : Nat) (σ7 : Sto) => (n0 = 0 → False) ∧ (n0 = 1 → Q (1 : Int32) σ7) ∧ (n0 = 2 → False)))))
set_option maxHeartbeats 4000000 in
set_option maxRecDepth 100000 in
theorem c_L_calm (l : Launch) (hlt : l.stackTraces = false) (D : va_G) (cy : Nat → ClassId) (p0 : Option Nat) (p1 : Int32) (p2 : Option Nat) (σ : Sto) (Q : Int32 → Sto → Prop) (h : wp_L_calm p0 p1 p2 σ Q) : MtW l D cy yL_calm cL_calm 4 (some .int) [(0, 9, 12, 15)] rm_L_calm [va_rf p0, .int p1, va_rf p2] σ (PsI Q) := by
  unfold wp_L_calm at h
  refine mw_of (by decide +kernel) (by simp [lg_sl, vrc, cat_i, cat_r, cat_l]) ?_
  intro p e s m args below meth c A ls C hr htab Z Z2 hl
  have C : Cx p s m args meth c D cy A cL_calm 4 RL := C
  have hl : lv_has ls 4 [(0, va_rf p0), (1, .int p1), (2, va_rf p2)] := by simpa [lv_args, vrc, cat_i, cat_r, cat_l] using hl
  refine x_aload_nq C dL_calm_0 rfl (lv_at hl 2 rfl) ?_
  refine x_iconst (v := 0) C dL_calm_1 (by decide) ?_
  refine x_aload_nq C dL_calm_2 rfl (lv_at hl 0 rfl) ?_
  refine x_iload_n C dL_calm_3 rfl (lv_at hl 1 rfl) ?_
  obtain ⟨b1, g2, h⟩ := h
  refine x_nn1 g2 ?_
  obtain ⟨g3, h⟩ := h
  refine x_callX (rm := rm_X11_calm) (rest := [.int (0 : Int32), va_rf p2]) (As := [.int p1]) C Z Z2 cy_RL_51 g3 (by decide) (by decide) rfl rfl (by simp [vrc, cat_i, cat_r, cat_l]) hl.1 dL_calm_4 (c_X11_calm l hlt D cy b1 p1 σ _ _ h) (ks_i (fun x5 σ4 h => ?_)) (fun n0 σ7 q6 hn0 h => ?_)
  · skip
    refine x_i2l C dL_calm_7 ?_
    obtain ⟨b8, g9, h⟩ := h
    refine x_nn2 g9 ?_
    obtain ⟨g10, h⟩ := h
    obtain ⟨g11, h⟩ := h
    refine x_last C g10 g11 dL_calm_8 ?_
    refine x_goto (tgt := 15) C dL_calm_9 (by decide) ?_
    refine x_iconst (v := 0) C dL_calm_15 (by decide) ?_
    refine x_widen (mc := rm_L_calm.cells) (ms := rm_L_calm.slots) (by decide) (by decide) ?_
    exact x_iret C hr dL_calm_16 ⟨_, rfl, h⟩
  · rcases (show n0 = 0 ∨ n0 = 1 ∨ n0 = 2 by omega) with hn | hn | hn
    · subst hn
      exact (h.1 rfl).elim
    · subst hn
      have h := h.2.1 rfl
      refine ⟨tableOf [], ⟨0, 9, 12, 15⟩, tableOf [], by rw [htab]; rfl, fun z hz => by simp [tableOf] at hz, by decide, by decide, clx_15, ?_⟩
      refine x_astore_n (i := 3) (lv' := [(3, .ref q6), (0, va_rf p0), (1, .int p1), (2, va_rf p2)]) C dL_calm_12 rfl hl (by decide) (by first | rfl | simp [vrc, cat_i, cat_r, cat_l]) (fun ls hl => ?_)
      refine x_iconst (v := 1) C dL_calm_13 (by decide) ?_
      refine x_widen (mc := rm_L_calm.cells) (ms := rm_L_calm.slots) (by decide) (by decide) ?_
      exact x_iret C hr dL_calm_14 ⟨_, rfl, h⟩
    · subst hn
      exact (h.2.2 rfl).elim
set_option maxRecDepth 100000 in
theorem yw_L_image : Cond.codeWith yL_image cL_image 4 (some .int) [(0, 9, 12, 13)] ∈ AW := (aw_t5 197 rfl rfl)
set_option maxRecDepth 100000 in
theorem ys_L_image : Cond.static yL_image ∈ AW := (aw_t5 196 rfl rfl)
theorem yh_L_image : Ymh yL_image 3 := ⟨by decide, by decide, by decide +kernel⟩
theorem dL_image_0 : decode cL_image 0 = .ok (.aload_n 2, 1) := by decide +kernel
theorem dL_image_1 : decode cL_image 1 = .ok (.iconst 0, 1) := by decide +kernel
theorem dL_image_2 : decode cL_image 2 = .ok (.aload_n 0, 1) := by decide +kernel
theorem dL_image_3 : decode cL_image 3 = .ok (.iload_n 1, 1) := by decide +kernel
theorem dL_image_4 : decode cL_image 4 = .ok (.invokevirtual 54, 3) := by decide +kernel
theorem dL_image_7 : decode cL_image 7 = .ok (.i2l, 1) := by decide +kernel
theorem dL_image_8 : decode cL_image 8 = .ok (.lastore, 1) := by decide +kernel
theorem dL_image_9 : decode cL_image 9 = .ok (.goto 6, 3) := by decide +kernel
theorem dL_image_12 : decode cL_image 12 = .ok (.astore_n 3, 1) := by decide +kernel
theorem dL_image_13 : decode cL_image 13 = .ok (.iconst 1, 1) := by decide +kernel
theorem dL_image_14 : decode cL_image 14 = .ok (.ireturn, 1) := by decide +kernel
theorem dL_image_15 : decode cL_image 15 = .ok (.iconst 0, 1) := by decide +kernel
theorem dL_image_16 : decode cL_image 16 = .ok (.ireturn, 1) := by decide +kernel
abbrev rm_L_image : Room := { frames := 7, cells := 1, slots := 6, locals := 112 }
def wp_L_image (p0 : Option Nat) (p1 : Int32) (p2 : Option Nat) (σ : Sto) (Q : Int32 → Sto → Prop) : Prop := (∃ b1 : Nat, p0 = some b1 ∧ (sK σ b1 = 11 ∧ (wp_X11_image b1 p1 σ (fun (x5 : Int32) (σ4 : Sto) => (∃ b8 : Nat, p2 = some b8 ∧ (sK σ4 b8 = 15 ∧ (vp_in (0 : Int32) (sN σ4 b8) ∧ Q (0 : Int32) (stJ σ4 b8 (0 : Int32).toNatClampNeg x5.toInt64))))) (fun (n0 : Nat) (σ7 : Sto) => (n0 = 0 → Q (1 : Int32) σ7) ∧ (n0 = 1 → False) ∧ (n0 = 2 → False)))))
set_option maxHeartbeats 4000000 in
set_option maxRecDepth 100000 in
theorem c_L_image (l : Launch) (hlt : l.stackTraces = false) (D : va_G) (cy : Nat → ClassId) (p0 : Option Nat) (p1 : Int32) (p2 : Option Nat) (σ : Sto) (Q : Int32 → Sto → Prop) (h : wp_L_image p0 p1 p2 σ Q) : MtW l D cy yL_image cL_image 4 (some .int) [(0, 9, 12, 13)] rm_L_image [va_rf p0, .int p1, va_rf p2] σ (PsI Q) := by
  unfold wp_L_image at h
  refine mw_of (by decide +kernel) (by simp [lg_sl, vrc, cat_i, cat_r, cat_l]) ?_
  intro p e s m args below meth c A ls C hr htab Z Z2 hl
  have C : Cx p s m args meth c D cy A cL_image 4 RL := C
  have hl : lv_has ls 4 [(0, va_rf p0), (1, .int p1), (2, va_rf p2)] := by simpa [lv_args, vrc, cat_i, cat_r, cat_l] using hl
  refine x_aload_nq C dL_image_0 rfl (lv_at hl 2 rfl) ?_
  refine x_iconst (v := 0) C dL_image_1 (by decide) ?_
  refine x_aload_nq C dL_image_2 rfl (lv_at hl 0 rfl) ?_
  refine x_iload_n C dL_image_3 rfl (lv_at hl 1 rfl) ?_
  obtain ⟨b1, g2, h⟩ := h
  refine x_nn1 g2 ?_
  obtain ⟨g3, h⟩ := h
  refine x_callX (rm := rm_X11_image) (rest := [.int (0 : Int32), va_rf p2]) (As := [.int p1]) C Z Z2 cy_RL_54 g3 (by decide) (by decide) rfl rfl (by simp [vrc, cat_i, cat_r, cat_l]) hl.1 dL_image_4 (c_X11_image l hlt D cy b1 p1 σ _ _ h) (ks_i (fun x5 σ4 h => ?_)) (fun n0 σ7 q6 hn0 h => ?_)
  · skip
    refine x_i2l C dL_image_7 ?_
    obtain ⟨b8, g9, h⟩ := h
    refine x_nn2 g9 ?_
    obtain ⟨g10, h⟩ := h
    obtain ⟨g11, h⟩ := h
    refine x_last C g10 g11 dL_image_8 ?_
    refine x_goto (tgt := 15) C dL_image_9 (by decide) ?_
    refine x_iconst (v := 0) C dL_image_15 (by decide) ?_
    refine x_widen (mc := rm_L_image.cells) (ms := rm_L_image.slots) (by decide) (by decide) ?_
    exact x_iret C hr dL_image_16 ⟨_, rfl, h⟩
  · rcases (show n0 = 0 ∨ n0 = 1 ∨ n0 = 2 by omega) with hn | hn | hn
    · subst hn
      have h := h.1 rfl
      refine ⟨tableOf [], ⟨0, 9, 12, 13⟩, tableOf [], by rw [htab]; rfl, fun z hz => by simp [tableOf] at hz, by decide, by decide, clx_13, ?_⟩
      refine x_astore_n (i := 3) (lv' := [(3, .ref q6), (0, va_rf p0), (1, .int p1), (2, va_rf p2)]) C dL_image_12 rfl hl (by decide) (by first | rfl | simp [vrc, cat_i, cat_r, cat_l]) (fun ls hl => ?_)
      refine x_iconst (v := 1) C dL_image_13 (by decide) ?_
      refine x_widen (mc := rm_L_image.cells) (ms := rm_L_image.slots) (by decide) (by decide) ?_
      exact x_iret C hr dL_image_14 ⟨_, rfl, h⟩
    · subst hn
      exact (h.2.1 rfl).elim
    · subst hn
      exact (h.2.2 rfl).elim
set_option maxRecDepth 100000 in
theorem yw_L_untake : Cond.codeWith yL_untake cL_untake 3 (some .int) [(0, 8, 11, 15)] ∈ AW := (aw_t5 227 rfl rfl)
set_option maxRecDepth 100000 in
theorem ys_L_untake : Cond.static yL_untake ∈ AW := (aw_t5 226 rfl rfl)
theorem yh_L_untake : Ymh yL_untake 2 := ⟨by decide, by decide, by decide +kernel⟩
theorem dL_untake_0 : decode cL_untake 0 = .ok (.aload_n 1, 1) := by decide +kernel
theorem dL_untake_1 : decode cL_untake 1 = .ok (.iconst 0, 1) := by decide +kernel
theorem dL_untake_2 : decode cL_untake 2 = .ok (.aload_n 0, 1) := by decide +kernel
theorem dL_untake_3 : decode cL_untake 3 = .ok (.invokevirtual 57, 3) := by decide +kernel
theorem dL_untake_6 : decode cL_untake 6 = .ok (.i2l, 1) := by decide +kernel
theorem dL_untake_7 : decode cL_untake 7 = .ok (.lastore, 1) := by decide +kernel
theorem dL_untake_8 : decode cL_untake 8 = .ok (.goto 6, 3) := by decide +kernel
theorem dL_untake_11 : decode cL_untake 11 = .ok (.astore_n 2, 1) := by decide +kernel
theorem dL_untake_12 : decode cL_untake 12 = .ok (.iconst 1, 1) := by decide +kernel
theorem dL_untake_13 : decode cL_untake 13 = .ok (.ireturn, 1) := by decide +kernel
theorem dL_untake_14 : decode cL_untake 14 = .ok (.iconst 0, 1) := by decide +kernel
theorem dL_untake_15 : decode cL_untake 15 = .ok (.ireturn, 1) := by decide +kernel
abbrev rm_L_untake : Room := { frames := 8, cells := 1, slots := 6, locals := 173 }
def wp_L_untake (p0 : Option Nat) (p1 : Option Nat) (σ : Sto) (Q : Int32 → Sto → Prop) : Prop := (∃ b1 : Nat, p0 = some b1 ∧ (sK σ b1 = 11 ∧ (wp_X11_untake b1  σ (fun (x5 : Int32) (σ4 : Sto) => (∃ b8 : Nat, p1 = some b8 ∧ (sK σ4 b8 = 15 ∧ (vp_in (0 : Int32) (sN σ4 b8) ∧ Q (0 : Int32) (stJ σ4 b8 (0 : Int32).toNatClampNeg x5.toInt64))))) (fun (n0 : Nat) (σ7 : Sto) => (n0 = 0 → False) ∧ (n0 = 1 → Q (1 : Int32) σ7) ∧ (n0 = 2 → False)))))
set_option maxHeartbeats 4000000 in
set_option maxRecDepth 100000 in
theorem c_L_untake (l : Launch) (hlt : l.stackTraces = false) (D : va_G) (cy : Nat → ClassId) (p0 : Option Nat) (p1 : Option Nat) (σ : Sto) (Q : Int32 → Sto → Prop) (h : wp_L_untake p0 p1 σ Q) : MtW l D cy yL_untake cL_untake 3 (some .int) [(0, 8, 11, 15)] rm_L_untake [va_rf p0, va_rf p1] σ (PsI Q) := by
  unfold wp_L_untake at h
  refine mw_of (by decide +kernel) (by simp [lg_sl, vrc, cat_i, cat_r, cat_l]) ?_
  intro p e s m args below meth c A ls C hr htab Z Z2 hl
  have C : Cx p s m args meth c D cy A cL_untake 3 RL := C
  have hl : lv_has ls 3 [(0, va_rf p0), (1, va_rf p1)] := by simpa [lv_args, vrc, cat_i, cat_r, cat_l] using hl
  refine x_aload_nq C dL_untake_0 rfl (lv_at hl 1 rfl) ?_
  refine x_iconst (v := 0) C dL_untake_1 (by decide) ?_
  refine x_aload_nq C dL_untake_2 rfl (lv_at hl 0 rfl) ?_
  obtain ⟨b1, g2, h⟩ := h
  refine x_nn0 g2 ?_
  obtain ⟨g3, h⟩ := h
  refine x_callX (rm := rm_X11_untake) (rest := [.int (0 : Int32), va_rf p1]) (As := []) C Z Z2 cy_RL_57 g3 (by decide) (by decide) rfl rfl (by simp [vrc, cat_i, cat_r, cat_l]) hl.1 dL_untake_3 (c_X11_untake l hlt D cy b1  σ _ _ h) (ks_i (fun x5 σ4 h => ?_)) (fun n0 σ7 q6 hn0 h => ?_)
  · skip
    refine x_i2l C dL_untake_6 ?_
    obtain ⟨b8, g9, h⟩ := h
    refine x_nn2 g9 ?_
    obtain ⟨g10, h⟩ := h
    obtain ⟨g11, h⟩ := h
    refine x_last C g10 g11 dL_untake_7 ?_
    refine x_goto (tgt := 14) C dL_untake_8 (by decide) ?_
    refine x_iconst (v := 0) C dL_untake_14 (by decide) ?_
    refine x_widen (mc := rm_L_untake.cells) (ms := rm_L_untake.slots) (by decide) (by decide) ?_
    exact x_iret C hr dL_untake_15 ⟨_, rfl, h⟩
  · rcases (show n0 = 0 ∨ n0 = 1 ∨ n0 = 2 by omega) with hn | hn | hn
    · subst hn
      exact (h.1 rfl).elim
    · subst hn
      have h := h.2.1 rfl
      refine ⟨tableOf [], ⟨0, 8, 11, 15⟩, tableOf [], by rw [htab]; rfl, fun z hz => by simp [tableOf] at hz, by decide, by decide, clx_15, ?_⟩
      refine x_astore_n (i := 2) (lv' := [(2, .ref q6), (0, va_rf p0), (1, va_rf p1)]) C dL_untake_11 rfl hl (by decide) (by first | rfl | simp [vrc, cat_i, cat_r, cat_l]) (fun ls hl => ?_)
      refine x_iconst (v := 1) C dL_untake_12 (by decide) ?_
      refine x_widen (mc := rm_L_untake.cells) (ms := rm_L_untake.slots) (by decide) (by decide) ?_
      exact x_iret C hr dL_untake_13 ⟨_, rfl, h⟩
    · subst hn
      exact (h.2.2 rfl).elim
