def b_L_law_1369 (L : Nat) (xs : Nat → Int32) (L43 : Option Nat × Option Nat × Option Nat × Int32 × Nat × Nat → Sto → Prop) (Q : Int32 → Sto → Prop) (p1 : Option Nat) (p2 : Option Nat) (p3 : Option Nat) (p4 : Int32) (kc : Nat) (nc : Nat) (σ : Sto) : Prop := (∀ x1 : Int32, x1 = p4 + (5 : Int32) → L43 (p1, p2, p3, x1, kc, nc) σ)
set_option maxHeartbeats 4000000 in
set_option maxRecDepth 100000 in
theorem t_L_law_1369 {p : Program} {l : Launch} {e : Env} {s : State} {m : MethodId} {below : List Frame} {meth : Method} {c : Code} {D : va_G} {cy : Nat → ClassId} {b L : Nat} {xs : Nat → Int32}  {L43 : Option Nat × Option Nat × Option Nat × Int32 × Nat × Nat → Sto → Prop} {Q : Int32 → Sto → Prop} (C : Cx p s m #[Value.ref b] meth c D cy (LA s) cL_law 7 RL) (hr : meth.sig.returnType = ret) (hnm : True) (hlt : l.stackTraces = false) (Z : ZW s) (Z2 : ZH (LA s) s s.heap) (hX : va_X b L xs s s.heap) (hbl : b < s.heap.size) (hLL : L < 2 ^ 31) (hQ : ∀ (v : Int32) (τ : Sto), Q v τ → v = 1) (hL43 : ∀ (t : Option Nat × Option Nat × Option Nat × Int32 × Nat × Nat) (σ : Sto), L43 t σ → ∀ ls : Array Slot, lv_has ls 7 [(0, .ref b), (1, va_rf t.1), (2, va_rf t.2.1), (3, va_rf t.2.2.1), (4, .int t.2.2.2.1)] → Xw p l e room_1 s m #[Value.ref b] below meth c D cy (LA s) σ t.2.2.2.2.1 t.2.2.2.2.2 (lw_Z below #[Value.ref b] s) (F0 m 43 ls [])) (p1 : Option Nat) (p2 : Option Nat) (p3 : Option Nat) (p4 : Int32) (kc : Nat) (nc : Nat) (σ : Sto) (h : b_L_law_1369 L xs L43 Q p1 p2 p3 p4 kc nc σ) (ls : Array Slot) (hl : lv_has ls 7 [(0, .ref b), (1, va_rf p1), (2, va_rf p2), (3, va_rf p3), (4, .int p4)]) : Xw p l e room_1 s m #[Value.ref b] below meth c D cy (LA s) σ kc nc (lw_Z below #[Value.ref b] s) (F0 m 1369 ls []) := by
  unfold b_L_law_1369 at h
  obtain ⟨x1, e2⟩ : ∃ z : Int32, z = p4 + (5 : Int32) := ⟨_, rfl⟩
  have h := h x1 e2
  refine x_iinc (v := x1) (lv' := [(4, .int x1), (0, .ref b), (1, va_rf p1), (2, va_rf p2), (3, va_rf p3)]) C dL_law_1369 hl (q0 := 4) rfl (by rw [e2]; rfl) (by decide) (by first | rfl | simp [vrc, cat_i, cat_r, cat_l]) (fun ls hl => ?_)
  refine x_goto (tgt := 43) C dL_law_1372 (by decide) ?_
  exact hL43 (p1, p2, p3, x1, kc, nc) _ h ls (lv_sub hl [1, 2, 3, 4, 0] rfl)
def b_L_law_1356 (L : Nat) (xs : Nat → Int32) (L43 : Option Nat × Option Nat × Option Nat × Int32 × Nat × Nat → Sto → Prop) (Q : Int32 → Sto → Prop) (p1 : Option Nat) (p2 : Option Nat) (p3 : Option Nat) (p4 : Int32) (kc : Nat) (nc : Nat) (σ : Sto) : Prop := (∃ b1 : Nat, p1 = some b1 ∧ (sK σ b1 = 11 ∧ ((kc ≤ 600128 ∧ nc ≤ 7301064) ∧ (wp_X11_broken b1  σ (fun (x6 : Int32) (σ5 : Sto) => (∃ b7 : Nat, p2 = some b7 ∧ (sK σ5 b7 = 12 ∧ ((kc ≤ 600128 ∧ nc ≤ 7301064) ∧ (wp_X12_broken b7  σ5 (fun (x12 : Int32) (σ11 : Sto) => ((x6 = x12 → b_L_law_1369 L xs L43 Q p1 p2 p3 p4 kc nc σ11) ∧ (¬ x6 = x12 → ((kc ≤ 600128 ∧ nc ≤ 7301064) ∧ Q (0 : Int32) σ11)))))))))))))
set_option maxHeartbeats 4000000 in
set_option maxRecDepth 100000 in
theorem t_L_law_1356 {p : Program} {l : Launch} {e : Env} {s : State} {m : MethodId} {below : List Frame} {meth : Method} {c : Code} {D : va_G} {cy : Nat → ClassId} {b L : Nat} {xs : Nat → Int32}  {L43 : Option Nat × Option Nat × Option Nat × Int32 × Nat × Nat → Sto → Prop} {Q : Int32 → Sto → Prop} (C : Cx p s m #[Value.ref b] meth c D cy (LA s) cL_law 7 RL) (hr : meth.sig.returnType = ret) (hnm : True) (hlt : l.stackTraces = false) (Z : ZW s) (Z2 : ZH (LA s) s s.heap) (hX : va_X b L xs s s.heap) (hbl : b < s.heap.size) (hLL : L < 2 ^ 31) (hQ : ∀ (v : Int32) (τ : Sto), Q v τ → v = 1) (hL43 : ∀ (t : Option Nat × Option Nat × Option Nat × Int32 × Nat × Nat) (σ : Sto), L43 t σ → ∀ ls : Array Slot, lv_has ls 7 [(0, .ref b), (1, va_rf t.1), (2, va_rf t.2.1), (3, va_rf t.2.2.1), (4, .int t.2.2.2.1)] → Xw p l e room_1 s m #[Value.ref b] below meth c D cy (LA s) σ t.2.2.2.2.1 t.2.2.2.2.2 (lw_Z below #[Value.ref b] s) (F0 m 43 ls [])) (p1 : Option Nat) (p2 : Option Nat) (p3 : Option Nat) (p4 : Int32) (kc : Nat) (nc : Nat) (σ : Sto) (h : b_L_law_1356 L xs L43 Q p1 p2 p3 p4 kc nc σ) (ls : Array Slot) (hl : lv_has ls 7 [(0, .ref b), (1, va_rf p1), (2, va_rf p2), (3, va_rf p3), (4, .int p4)]) : Xw p l e room_1 s m #[Value.ref b] below meth c D cy (LA s) σ kc nc (lw_Z below #[Value.ref b] s) (F0 m 1356 ls []) := by
  unfold b_L_law_1356 at h
  refine x_aload_nq C dL_law_1356 rfl (lv_at hl 1 rfl) ?_
  obtain ⟨b1, g2, h⟩ := h
  refine x_nn0 g2 ?_
  obtain ⟨g3, h⟩ := h
  obtain ⟨g4, h⟩ := h
  refine x_callV (rm := rm_X11_broken) (rest := []) (As := []) C cy_RL_192 g3 (by decide) g4 rfl rfl (Nat.le_of_ble_eq_true rfl) hl.1 dL_law_1357 (c_X11_broken l D cy b1  σ _ h) (ks_i (fun x6 σ5 h => ?_))
  refine x_aload_nq C dL_law_1360 rfl (lv_at hl 2 rfl) ?_
  obtain ⟨b7, g8, h⟩ := h
  refine x_nn0 g8 ?_
  obtain ⟨g9, h⟩ := h
  obtain ⟨g10, h⟩ := h
  refine x_callV (rm := rm_X12_broken) (rest := [.int x6]) (As := []) C cy_RL_195 g9 (by decide) g10 rfl rfl (Nat.le_of_ble_eq_true rfl) hl.1 dL_law_1361 (c_X12_broken l D cy b7  σ5 _ h) (ks_i (fun x12 σ11 h => ?_))
  refine x_icmp_eq (tgt := 1369) C dL_law_1364 (by decide) (fun c13 => ?_) (fun c13 => ?_)
  · have h := h.1 c13
    exact t_L_law_1369 C hr hnm hlt Z Z2 hX hbl hLL hQ hL43 p1 p2 p3 p4 kc nc _ h ls (lv_sub hl [0, 1, 2, 3, 4] rfl)
  · have h := h.2 c13
    refine x_iconst (v := 0) C dL_law_1367 (by decide) ?_
    exact x_lawret C hr h.1 (hQ _ _ h.2) dL_law_1368
def b_L_law_1343 (L : Nat) (xs : Nat → Int32) (L43 : Option Nat × Option Nat × Option Nat × Int32 × Nat × Nat → Sto → Prop) (Q : Int32 → Sto → Prop) (p1 : Option Nat) (p2 : Option Nat) (p3 : Option Nat) (p4 : Int32) (kc : Nat) (nc : Nat) (σ : Sto) : Prop := (∃ b1 : Nat, p1 = some b1 ∧ (sK σ b1 = 11 ∧ ((kc ≤ 600128 ∧ nc ≤ 7301064) ∧ (wp_X11_tolds b1  σ (fun (x6 : Int32) (σ5 : Sto) => (∃ b7 : Nat, p2 = some b7 ∧ (sK σ5 b7 = 12 ∧ ((kc ≤ 600128 ∧ nc ≤ 7301064) ∧ (wp_X12_tolds b7  σ5 (fun (x12 : Int32) (σ11 : Sto) => ((x6 = x12 → b_L_law_1369 L xs L43 Q p1 p2 p3 p4 kc nc σ11) ∧ (¬ x6 = x12 → ((kc ≤ 600128 ∧ nc ≤ 7301064) ∧ Q (0 : Int32) σ11)))))))))))))
set_option maxHeartbeats 4000000 in
set_option maxRecDepth 100000 in
theorem t_L_law_1343 {p : Program} {l : Launch} {e : Env} {s : State} {m : MethodId} {below : List Frame} {meth : Method} {c : Code} {D : va_G} {cy : Nat → ClassId} {b L : Nat} {xs : Nat → Int32}  {L43 : Option Nat × Option Nat × Option Nat × Int32 × Nat × Nat → Sto → Prop} {Q : Int32 → Sto → Prop} (C : Cx p s m #[Value.ref b] meth c D cy (LA s) cL_law 7 RL) (hr : meth.sig.returnType = ret) (hnm : True) (hlt : l.stackTraces = false) (Z : ZW s) (Z2 : ZH (LA s) s s.heap) (hX : va_X b L xs s s.heap) (hbl : b < s.heap.size) (hLL : L < 2 ^ 31) (hQ : ∀ (v : Int32) (τ : Sto), Q v τ → v = 1) (hL43 : ∀ (t : Option Nat × Option Nat × Option Nat × Int32 × Nat × Nat) (σ : Sto), L43 t σ → ∀ ls : Array Slot, lv_has ls 7 [(0, .ref b), (1, va_rf t.1), (2, va_rf t.2.1), (3, va_rf t.2.2.1), (4, .int t.2.2.2.1)] → Xw p l e room_1 s m #[Value.ref b] below meth c D cy (LA s) σ t.2.2.2.2.1 t.2.2.2.2.2 (lw_Z below #[Value.ref b] s) (F0 m 43 ls [])) (p1 : Option Nat) (p2 : Option Nat) (p3 : Option Nat) (p4 : Int32) (kc : Nat) (nc : Nat) (σ : Sto) (h : b_L_law_1343 L xs L43 Q p1 p2 p3 p4 kc nc σ) (ls : Array Slot) (hl : lv_has ls 7 [(0, .ref b), (1, va_rf p1), (2, va_rf p2), (3, va_rf p3), (4, .int p4)]) : Xw p l e room_1 s m #[Value.ref b] below meth c D cy (LA s) σ kc nc (lw_Z below #[Value.ref b] s) (F0 m 1343 ls []) := by
  unfold b_L_law_1343 at h
  refine x_aload_nq C dL_law_1343 rfl (lv_at hl 1 rfl) ?_
  obtain ⟨b1, g2, h⟩ := h
  refine x_nn0 g2 ?_
  obtain ⟨g3, h⟩ := h
  obtain ⟨g4, h⟩ := h
  refine x_callV (rm := rm_X11_tolds) (rest := []) (As := []) C cy_RL_188 g3 (by decide) g4 rfl rfl (Nat.le_of_ble_eq_true rfl) hl.1 dL_law_1344 (c_X11_tolds l D cy b1  σ _ h) (ks_i (fun x6 σ5 h => ?_))
  refine x_aload_nq C dL_law_1347 rfl (lv_at hl 2 rfl) ?_
  obtain ⟨b7, g8, h⟩ := h
  refine x_nn0 g8 ?_
  obtain ⟨g9, h⟩ := h
  obtain ⟨g10, h⟩ := h
  refine x_callV (rm := rm_X12_tolds) (rest := [.int x6]) (As := []) C cy_RL_191 g9 (by decide) g10 rfl rfl (Nat.le_of_ble_eq_true rfl) hl.1 dL_law_1348 (c_X12_tolds l D cy b7  σ5 _ h) (ks_i (fun x12 σ11 h => ?_))
  refine x_icmp_eq (tgt := 1369) C dL_law_1351 (by decide) (fun c13 => ?_) (fun c13 => ?_)
  · have h := h.1 c13
    exact t_L_law_1369 C hr hnm hlt Z Z2 hX hbl hLL hQ hL43 p1 p2 p3 p4 kc nc _ h ls (lv_sub hl [0, 1, 2, 3, 4] rfl)
  · have h := h.2 c13
    refine x_iconst (v := 0) C dL_law_1354 (by decide) ?_
    exact x_lawret C hr h.1 (hQ _ _ h.2) dL_law_1355
def b_L_law_1318 (L : Nat) (xs : Nat → Int32) (L43 : Option Nat × Option Nat × Option Nat × Int32 × Nat × Nat → Sto → Prop) (Q : Int32 → Sto → Prop) (p1 : Option Nat) (p2 : Option Nat) (p3 : Option Nat) (p4 : Int32) (kc : Nat) (nc : Nat) (σ : Sto) : Prop := (∀ x1 : Int32, x1 = p4 + (1 : Int32) → (vp_in x1 L ∧ (∀ x4 : Int32, x4 = xs x1.toNatClampNeg → (∃ b6 : Nat, p1 = some b6 ∧ (sK σ b6 = 11 ∧ ((kc ≤ 600128 ∧ nc ≤ 7301064) ∧ (wp_X11_told b6 x4 σ (fun (x11 : Int32) (σ10 : Sto) => (∀ x12 : Int32, x12 = p4 + (1 : Int32) → (vp_in x12 L ∧ (∀ x15 : Int32, x15 = xs x12.toNatClampNeg → (∃ b17 : Nat, p2 = some b17 ∧ (sK σ10 b17 = 12 ∧ ((kc ≤ 600128 ∧ nc ≤ 7301064) ∧ (wp_X12_told b17 x15 σ10 (fun (x22 : Int32) (σ21 : Sto) => ((x11 = x22 → b_L_law_1369 L xs L43 Q p1 p2 p3 p4 kc nc σ21) ∧ (¬ x11 = x22 → ((kc ≤ 600128 ∧ nc ≤ 7301064) ∧ Q (0 : Int32) σ21)))))))))))))))))))
set_option maxHeartbeats 4000000 in
set_option maxRecDepth 100000 in
theorem t_L_law_1318 {p : Program} {l : Launch} {e : Env} {s : State} {m : MethodId} {below : List Frame} {meth : Method} {c : Code} {D : va_G} {cy : Nat → ClassId} {b L : Nat} {xs : Nat → Int32}  {L43 : Option Nat × Option Nat × Option Nat × Int32 × Nat × Nat → Sto → Prop} {Q : Int32 → Sto → Prop} (C : Cx p s m #[Value.ref b] meth c D cy (LA s) cL_law 7 RL) (hr : meth.sig.returnType = ret) (hnm : True) (hlt : l.stackTraces = false) (Z : ZW s) (Z2 : ZH (LA s) s s.heap) (hX : va_X b L xs s s.heap) (hbl : b < s.heap.size) (hLL : L < 2 ^ 31) (hQ : ∀ (v : Int32) (τ : Sto), Q v τ → v = 1) (hL43 : ∀ (t : Option Nat × Option Nat × Option Nat × Int32 × Nat × Nat) (σ : Sto), L43 t σ → ∀ ls : Array Slot, lv_has ls 7 [(0, .ref b), (1, va_rf t.1), (2, va_rf t.2.1), (3, va_rf t.2.2.1), (4, .int t.2.2.2.1)] → Xw p l e room_1 s m #[Value.ref b] below meth c D cy (LA s) σ t.2.2.2.2.1 t.2.2.2.2.2 (lw_Z below #[Value.ref b] s) (F0 m 43 ls [])) (p1 : Option Nat) (p2 : Option Nat) (p3 : Option Nat) (p4 : Int32) (kc : Nat) (nc : Nat) (σ : Sto) (h : b_L_law_1318 L xs L43 Q p1 p2 p3 p4 kc nc σ) (ls : Array Slot) (hl : lv_has ls 7 [(0, .ref b), (1, va_rf p1), (2, va_rf p2), (3, va_rf p3), (4, .int p4)]) : Xw p l e room_1 s m #[Value.ref b] below meth c D cy (LA s) σ kc nc (lw_Z below #[Value.ref b] s) (F0 m 1318 ls []) := by
  unfold b_L_law_1318 at h
  refine x_aload_nq C dL_law_1318 rfl (lv_at hl 1 rfl) ?_
  refine x_aload_n C dL_law_1319 rfl (lv_at hl 0 rfl) ?_
  refine x_iload C dL_law_1320 (lv_at hl 4 rfl) ?_
  refine x_iconst (v := 1) C dL_law_1322 (by decide) ?_
  refine x_iadd C dL_law_1323 ?_
  refine x_topi (fun x1 e2 => ?_)
  have h := h x1 e2
  obtain ⟨g3, h⟩ := h
  refine x_sld C hX hbl g3 dL_law_1324 ?_
  refine x_topi (fun x4 e5 => ?_)
  have h := h x4 e5
  obtain ⟨b6, g7, h⟩ := h
  refine x_nn1 g7 ?_
  obtain ⟨g8, h⟩ := h
  obtain ⟨g9, h⟩ := h
  refine x_callV (rm := rm_X11_told) (rest := []) (As := [.int x4]) C cy_RL_184 g8 (by decide) g9 rfl rfl (Nat.le_of_ble_eq_true rfl) hl.1 dL_law_1325 (c_X11_told l D cy b6 x4 σ _ h) (ks_i (fun x11 σ10 h => ?_))
  refine x_aload_nq C dL_law_1328 rfl (lv_at hl 2 rfl) ?_
  refine x_aload_n C dL_law_1329 rfl (lv_at hl 0 rfl) ?_
  refine x_iload C dL_law_1330 (lv_at hl 4 rfl) ?_
  refine x_iconst (v := 1) C dL_law_1332 (by decide) ?_
  refine x_iadd C dL_law_1333 ?_
  refine x_topi (fun x12 e13 => ?_)
  have h := h x12 e13
  obtain ⟨g14, h⟩ := h
  refine x_sld C hX hbl g14 dL_law_1334 ?_
  refine x_topi (fun x15 e16 => ?_)
  have h := h x15 e16
  obtain ⟨b17, g18, h⟩ := h
  refine x_nn1 g18 ?_
  obtain ⟨g19, h⟩ := h
  obtain ⟨g20, h⟩ := h
  refine x_callV (rm := rm_X12_told) (rest := [.int x11]) (As := [.int x15]) C cy_RL_187 g19 (by decide) g20 rfl rfl (Nat.le_of_ble_eq_true rfl) hl.1 dL_law_1335 (c_X12_told l D cy b17 x15 σ10 _ h) (ks_i (fun x22 σ21 h => ?_))
  refine x_icmp_eq (tgt := 1369) C dL_law_1338 (by decide) (fun c23 => ?_) (fun c23 => ?_)
  · have h := h.1 c23
    exact t_L_law_1369 C hr hnm hlt Z Z2 hX hbl hLL hQ hL43 p1 p2 p3 p4 kc nc _ h ls (lv_sub hl [0, 1, 2, 3, 4] rfl)
  · have h := h.2 c23
    refine x_iconst (v := 0) C dL_law_1341 (by decide) ?_
    exact x_lawret C hr h.1 (hQ _ _ h.2) dL_law_1342
def b_L_law_1293 (L : Nat) (xs : Nat → Int32) (L43 : Option Nat × Option Nat × Option Nat × Int32 × Nat × Nat → Sto → Prop) (Q : Int32 → Sto → Prop) (p1 : Option Nat) (p2 : Option Nat) (p3 : Option Nat) (p4 : Int32) (kc : Nat) (nc : Nat) (σ : Sto) : Prop := (∀ x1 : Int32, x1 = p4 + (1 : Int32) → (vp_in x1 L ∧ (∀ x4 : Int32, x4 = xs x1.toNatClampNeg → (∃ b6 : Nat, p1 = some b6 ∧ (sK σ b6 = 11 ∧ ((kc ≤ 600128 ∧ nc ≤ 7301064) ∧ (wp_X11_fault b6 x4 σ (fun (x11 : Int32) (σ10 : Sto) => (∀ x12 : Int32, x12 = p4 + (1 : Int32) → (vp_in x12 L ∧ (∀ x15 : Int32, x15 = xs x12.toNatClampNeg → (∃ b17 : Nat, p2 = some b17 ∧ (sK σ10 b17 = 12 ∧ ((kc ≤ 600128 ∧ nc ≤ 7301064) ∧ (wp_X12_fault b17 x15 σ10 (fun (x22 : Int32) (σ21 : Sto) => ((x11 = x22 → b_L_law_1369 L xs L43 Q p1 p2 p3 p4 kc nc σ21) ∧ (¬ x11 = x22 → ((kc ≤ 600128 ∧ nc ≤ 7301064) ∧ Q (0 : Int32) σ21)))))))))))))))))))
set_option maxHeartbeats 4000000 in
set_option maxRecDepth 100000 in
theorem t_L_law_1293 {p : Program} {l : Launch} {e : Env} {s : State} {m : MethodId} {below : List Frame} {meth : Method} {c : Code} {D : va_G} {cy : Nat → ClassId} {b L : Nat} {xs : Nat → Int32}  {L43 : Option Nat × Option Nat × Option Nat × Int32 × Nat × Nat → Sto → Prop} {Q : Int32 → Sto → Prop} (C : Cx p s m #[Value.ref b] meth c D cy (LA s) cL_law 7 RL) (hr : meth.sig.returnType = ret) (hnm : True) (hlt : l.stackTraces = false) (Z : ZW s) (Z2 : ZH (LA s) s s.heap) (hX : va_X b L xs s s.heap) (hbl : b < s.heap.size) (hLL : L < 2 ^ 31) (hQ : ∀ (v : Int32) (τ : Sto), Q v τ → v = 1) (hL43 : ∀ (t : Option Nat × Option Nat × Option Nat × Int32 × Nat × Nat) (σ : Sto), L43 t σ → ∀ ls : Array Slot, lv_has ls 7 [(0, .ref b), (1, va_rf t.1), (2, va_rf t.2.1), (3, va_rf t.2.2.1), (4, .int t.2.2.2.1)] → Xw p l e room_1 s m #[Value.ref b] below meth c D cy (LA s) σ t.2.2.2.2.1 t.2.2.2.2.2 (lw_Z below #[Value.ref b] s) (F0 m 43 ls [])) (p1 : Option Nat) (p2 : Option Nat) (p3 : Option Nat) (p4 : Int32) (kc : Nat) (nc : Nat) (σ : Sto) (h : b_L_law_1293 L xs L43 Q p1 p2 p3 p4 kc nc σ) (ls : Array Slot) (hl : lv_has ls 7 [(0, .ref b), (1, va_rf p1), (2, va_rf p2), (3, va_rf p3), (4, .int p4)]) : Xw p l e room_1 s m #[Value.ref b] below meth c D cy (LA s) σ kc nc (lw_Z below #[Value.ref b] s) (F0 m 1293 ls []) := by
  unfold b_L_law_1293 at h
  refine x_aload_nq C dL_law_1293 rfl (lv_at hl 1 rfl) ?_
  refine x_aload_n C dL_law_1294 rfl (lv_at hl 0 rfl) ?_
  refine x_iload C dL_law_1295 (lv_at hl 4 rfl) ?_
  refine x_iconst (v := 1) C dL_law_1297 (by decide) ?_
  refine x_iadd C dL_law_1298 ?_
  refine x_topi (fun x1 e2 => ?_)
  have h := h x1 e2
  obtain ⟨g3, h⟩ := h
  refine x_sld C hX hbl g3 dL_law_1299 ?_
  refine x_topi (fun x4 e5 => ?_)
  have h := h x4 e5
  obtain ⟨b6, g7, h⟩ := h
  refine x_nn1 g7 ?_
  obtain ⟨g8, h⟩ := h
  obtain ⟨g9, h⟩ := h
  refine x_callV (rm := rm_X11_fault) (rest := []) (As := [.int x4]) C cy_RL_180 g8 (by decide) g9 rfl rfl (Nat.le_of_ble_eq_true rfl) hl.1 dL_law_1300 (c_X11_fault l D cy b6 x4 σ _ h) (ks_i (fun x11 σ10 h => ?_))
  refine x_aload_nq C dL_law_1303 rfl (lv_at hl 2 rfl) ?_
  refine x_aload_n C dL_law_1304 rfl (lv_at hl 0 rfl) ?_
  refine x_iload C dL_law_1305 (lv_at hl 4 rfl) ?_
  refine x_iconst (v := 1) C dL_law_1307 (by decide) ?_
  refine x_iadd C dL_law_1308 ?_
  refine x_topi (fun x12 e13 => ?_)
  have h := h x12 e13
  obtain ⟨g14, h⟩ := h
  refine x_sld C hX hbl g14 dL_law_1309 ?_
  refine x_topi (fun x15 e16 => ?_)
  have h := h x15 e16
  obtain ⟨b17, g18, h⟩ := h
  refine x_nn1 g18 ?_
  obtain ⟨g19, h⟩ := h
  obtain ⟨g20, h⟩ := h
  refine x_callV (rm := rm_X12_fault) (rest := [.int x11]) (As := [.int x15]) C cy_RL_183 g19 (by decide) g20 rfl rfl (Nat.le_of_ble_eq_true rfl) hl.1 dL_law_1310 (c_X12_fault l D cy b17 x15 σ10 _ h) (ks_i (fun x22 σ21 h => ?_))
  refine x_icmp_eq (tgt := 1369) C dL_law_1313 (by decide) (fun c23 => ?_) (fun c23 => ?_)
  · have h := h.1 c23
    exact t_L_law_1369 C hr hnm hlt Z Z2 hX hbl hLL hQ hL43 p1 p2 p3 p4 kc nc _ h ls (lv_sub hl [0, 1, 2, 3, 4] rfl)
  · have h := h.2 c23
    refine x_iconst (v := 0) C dL_law_1316 (by decide) ?_
    exact x_lawret C hr h.1 (hQ _ _ h.2) dL_law_1317
def b_L_law_1290 (L : Nat) (xs : Nat → Int32) (L43 : Option Nat × Option Nat × Option Nat × Int32 × Nat × Nat → Sto → Prop) (Q : Int32 → Sto → Prop) (p1 : Option Nat) (p2 : Option Nat) (p3 : Option Nat) (p4 : Int32) (kc : Nat) (nc : Nat) (σ : Sto) : Prop := b_L_law_1369 L xs L43 Q p1 p2 p3 p4 kc nc σ
set_option maxHeartbeats 4000000 in
set_option maxRecDepth 100000 in
theorem t_L_law_1290 {p : Program} {l : Launch} {e : Env} {s : State} {m : MethodId} {below : List Frame} {meth : Method} {c : Code} {D : va_G} {cy : Nat → ClassId} {b L : Nat} {xs : Nat → Int32}  {L43 : Option Nat × Option Nat × Option Nat × Int32 × Nat × Nat → Sto → Prop} {Q : Int32 → Sto → Prop} (C : Cx p s m #[Value.ref b] meth c D cy (LA s) cL_law 7 RL) (hr : meth.sig.returnType = ret) (hnm : True) (hlt : l.stackTraces = false) (Z : ZW s) (Z2 : ZH (LA s) s s.heap) (hX : va_X b L xs s s.heap) (hbl : b < s.heap.size) (hLL : L < 2 ^ 31) (hQ : ∀ (v : Int32) (τ : Sto), Q v τ → v = 1) (hL43 : ∀ (t : Option Nat × Option Nat × Option Nat × Int32 × Nat × Nat) (σ : Sto), L43 t σ → ∀ ls : Array Slot, lv_has ls 7 [(0, .ref b), (1, va_rf t.1), (2, va_rf t.2.1), (3, va_rf t.2.2.1), (4, .int t.2.2.2.1)] → Xw p l e room_1 s m #[Value.ref b] below meth c D cy (LA s) σ t.2.2.2.2.1 t.2.2.2.2.2 (lw_Z below #[Value.ref b] s) (F0 m 43 ls [])) (p1 : Option Nat) (p2 : Option Nat) (p3 : Option Nat) (p4 : Int32) (kc : Nat) (nc : Nat) (σ : Sto) (h : b_L_law_1290 L xs L43 Q p1 p2 p3 p4 kc nc σ) (ls : Array Slot) (hl : lv_has ls 7 [(0, .ref b), (1, va_rf p1), (2, va_rf p2), (3, va_rf p3), (4, .int p4)]) : Xw p l e room_1 s m #[Value.ref b] below meth c D cy (LA s) σ kc nc (lw_Z below #[Value.ref b] s) (F0 m 1290 ls []) := by
  unfold b_L_law_1290 at h
  refine x_goto (tgt := 1369) C dL_law_1290 (by decide) ?_
  exact t_L_law_1369 C hr hnm hlt Z Z2 hX hbl hLL hQ hL43 p1 p2 p3 p4 kc nc _ h ls (lv_sub hl [0, 1, 2, 3, 4] rfl)
def b_L_law_1249 (L : Nat) (xs : Nat → Int32) (L43 : Option Nat × Option Nat × Option Nat × Int32 × Nat × Nat → Sto → Prop) (Q : Int32 → Sto → Prop) (p1 : Option Nat) (p2 : Option Nat) (p3 : Option Nat) (p4 : Int32) (kc : Nat) (nc : Nat) (σ : Sto) : Prop := ((kc + 1 ≤ 600128 ∧ nc + 6 ≤ 7301064) ∧ (wp_L_untake p1 p3 σ (fun (x3 : Int32) (σ2 : Sto) => (∃ b4 : Nat, p2 = some b4 ∧ (sK σ2 b4 = 12 ∧ (((kc + 1) ≤ 600128 ∧ (nc + 6) ≤ 7301064) ∧ (wp_X12_untake b4  σ2 (fun (x9 : Int32) (σ8 : Sto) => (sK σ8 b4 = 12 ∧ (((kc + 1) ≤ 600128 ∧ (nc + 6) ≤ 7301064) ∧ (wp_X12_thrown b4  σ8 (fun (x13 : Int32) (σ12 : Sto) => ((x13 = x3 → ((¬ x3 = 0 → b_L_law_1290 L xs L43 Q p1 p2 p3 p4 ((kc + 1)) ((nc + 6)) σ12) ∧ (x3 = 0 → (∃ b16 : Nat, p3 = some b16 ∧ (sK σ12 b16 = 15 ∧ (vp_in (0 : Int32) (sN σ12 b16) ∧ (∀ y20 : Int64, y20 = sJ σ12 b16 (0 : Int32).toNatClampNeg → (((lg_cmp y20 x9.toInt64) = 0 → b_L_law_1290 L xs L43 Q p1 p2 p3 p4 ((kc + 1)) ((nc + 6)) σ12) ∧ (¬ (lg_cmp y20 x9.toInt64) = 0 → (((kc + 1) ≤ 600128 ∧ (nc + 6) ≤ 7301064) ∧ Q (0 : Int32) σ12)))))))))) ∧ (¬ x13 = x3 → (((kc + 1) ≤ 600128 ∧ (nc + 6) ≤ 7301064) ∧ Q (0 : Int32) σ12)))))))))))))))
set_option maxHeartbeats 4000000 in
set_option maxRecDepth 100000 in
theorem t_L_law_1249 {p : Program} {l : Launch} {e : Env} {s : State} {m : MethodId} {below : List Frame} {meth : Method} {c : Code} {D : va_G} {cy : Nat → ClassId} {b L : Nat} {xs : Nat → Int32}  {L43 : Option Nat × Option Nat × Option Nat × Int32 × Nat × Nat → Sto → Prop} {Q : Int32 → Sto → Prop} (C : Cx p s m #[Value.ref b] meth c D cy (LA s) cL_law 7 RL) (hr : meth.sig.returnType = ret) (hnm : True) (hlt : l.stackTraces = false) (Z : ZW s) (Z2 : ZH (LA s) s s.heap) (hX : va_X b L xs s s.heap) (hbl : b < s.heap.size) (hLL : L < 2 ^ 31) (hQ : ∀ (v : Int32) (τ : Sto), Q v τ → v = 1) (hL43 : ∀ (t : Option Nat × Option Nat × Option Nat × Int32 × Nat × Nat) (σ : Sto), L43 t σ → ∀ ls : Array Slot, lv_has ls 7 [(0, .ref b), (1, va_rf t.1), (2, va_rf t.2.1), (3, va_rf t.2.2.1), (4, .int t.2.2.2.1)] → Xw p l e room_1 s m #[Value.ref b] below meth c D cy (LA s) σ t.2.2.2.2.1 t.2.2.2.2.2 (lw_Z below #[Value.ref b] s) (F0 m 43 ls [])) (p1 : Option Nat) (p2 : Option Nat) (p3 : Option Nat) (p4 : Int32) (kc : Nat) (nc : Nat) (σ : Sto) (h : b_L_law_1249 L xs L43 Q p1 p2 p3 p4 kc nc σ) (ls : Array Slot) (hl : lv_has ls 7 [(0, .ref b), (1, va_rf p1), (2, va_rf p2), (3, va_rf p3), (4, .int p4)]) : Xw p l e room_1 s m #[Value.ref b] below meth c D cy (LA s) σ kc nc (lw_Z below #[Value.ref b] s) (F0 m 1249 ls []) := by
  unfold b_L_law_1249 at h
  refine x_aload_nq C dL_law_1249 rfl (lv_at hl 1 rfl) ?_
  refine x_aload_nq C dL_law_1250 rfl (lv_at hl 3 rfl) ?_
  obtain ⟨g1, h⟩ := h
  refine x_callSW (rm := rm_L_untake) (rest := []) (As := [va_rf p1, va_rf p3]) C Z Z2 ml_RL_176 ys_L_untake in_RL yw_L_untake yh_L_untake (by decide) g1 rfl rfl (Nat.le_of_ble_eq_true rfl) hl.1 dL_law_1251 (c_L_untake l hlt D cy p1 p3 σ _ h) (ks_i (fun x3 σ2 h => ?_))
  refine x_istore (i := 5) (lv' := [(5, .int x3), (0, .ref b), (1, va_rf p1), (2, va_rf p2), (3, va_rf p3), (4, .int p4)]) C dL_law_1254 hl (by decide) (by first | rfl | simp [vrc, cat_i, cat_r, cat_l]) (fun ls hl => ?_)
  refine x_aload_nq C dL_law_1256 rfl (lv_at hl 3 rfl) ?_
  obtain ⟨b4, g5, h⟩ := h
  refine x_nn0 g5 ?_
  obtain ⟨g6, h⟩ := h
  obtain ⟨g7, h⟩ := h
  refine x_callV (rm := rm_X12_untake) (rest := []) (As := []) C cy_RL_179 g6 (by decide) g7 rfl rfl (Nat.le_of_ble_eq_true rfl) hl.1 dL_law_1257 (c_X12_untake l D cy b4  σ2 _ h) (ks_i (fun x9 σ8 h => ?_))
  refine x_istore (i := 6) (lv' := [(6, .int x9), (5, .int x3), (0, .ref b), (1, va_rf p1), (2, va_rf p2), (3, va_rf p3), (4, .int p4)]) C dL_law_1260 hl (by decide) (by first | rfl | simp [vrc, cat_i, cat_r, cat_l]) (fun ls hl => ?_)
  refine x_aload_nq C dL_law_1262 rfl (lv_at hl 4 rfl) ?_
  refine x_nn0 g5 ?_
  obtain ⟨g10, h⟩ := h
  obtain ⟨g11, h⟩ := h
  refine x_callV (rm := rm_X12_thrown) (rest := []) (As := []) C cy_RL_77 g10 (by decide) g11 rfl rfl (Nat.le_of_ble_eq_true rfl) hl.1 dL_law_1263 (c_X12_thrown l D cy b4  σ8 _ h) (ks_i (fun x13 σ12 h => ?_))
  refine x_iload C dL_law_1266 (lv_at hl 1 rfl) ?_
  refine x_icmp_eq (tgt := 1273) C dL_law_1268 (by decide) (fun c14 => ?_) (fun c14 => ?_)
  · have h := h.1 c14
    refine x_iload C dL_law_1273 (lv_at hl 1 rfl) ?_
    refine x_if_ne (tgt := 1290) C dL_law_1275 (by decide) (fun c15 => ?_) (fun c15 => ?_)
    · have h := h.1 c15
      exact t_L_law_1290 C hr hnm hlt Z Z2 hX hbl hLL hQ hL43 p1 p2 p3 p4 ((kc + 1)) ((nc + 6)) _ h ls (lv_sub hl [2, 3, 4, 5, 6] rfl)
    · have h := h.2 c15
      refine x_aload_nq C dL_law_1278 rfl (lv_at hl 5 rfl) ?_
      refine x_iconst (v := 0) C dL_law_1279 (by decide) ?_
      obtain ⟨b16, g17, h⟩ := h
      refine x_nn1 g17 ?_
      obtain ⟨g18, h⟩ := h
      obtain ⟨g19, h⟩ := h
      refine x_lald C g18 g19 dL_law_1280 ?_
      refine x_topj (fun y20 e21 => ?_)
      have h := h y20 e21
      refine x_iload C dL_law_1281 (lv_at hl 0 rfl) ?_
      refine x_i2l C dL_law_1283 ?_
      refine x_lcmp C dL_law_1284 ?_
      refine x_if_eq (tgt := 1290) C dL_law_1285 (by decide) (fun c22 => ?_) (fun c22 => ?_)
      · have h := h.1 c22
        exact t_L_law_1290 C hr hnm hlt Z Z2 hX hbl hLL hQ hL43 p1 p2 p3 p4 ((kc + 1)) ((nc + 6)) _ h ls (lv_sub hl [2, 3, 4, 5, 6] rfl)
      · have h := h.2 c22
        refine x_iconst (v := 0) C dL_law_1288 (by decide) ?_
        exact x_lawret C hr h.1 (hQ _ _ h.2) dL_law_1289
  · have h := h.2 c14
    refine x_iconst (v := 0) C dL_law_1271 (by decide) ?_
    exact x_lawret C hr h.1 (hQ _ _ h.2) dL_law_1272
def b_L_law_1212 (L : Nat) (xs : Nat → Int32) (L43 : Option Nat × Option Nat × Option Nat × Int32 × Nat × Nat → Sto → Prop) (Q : Int32 → Sto → Prop) (p1 : Option Nat) (p2 : Option Nat) (p3 : Option Nat) (p4 : Int32) (kc : Nat) (nc : Nat) (σ : Sto) : Prop := (∀ x1 : Int32, x1 = p4 + (1 : Int32) → (vp_in x1 L ∧ (∀ x4 : Int32, x4 = xs x1.toNatClampNeg → (∀ x6 : Int32, x6 = p4 + (2 : Int32) → (vp_in x6 L ∧ (∀ x9 : Int32, x9 = xs x6.toNatClampNeg → (∃ b11 : Nat, p1 = some b11 ∧ (sK σ b11 = 11 ∧ ((kc ≤ 600128 ∧ nc ≤ 7301064) ∧ (wp_X11_take b11 x4 x9 σ (fun (x16 : Int32) (σ15 : Sto) => (∀ x17 : Int32, x17 = p4 + (1 : Int32) → (vp_in x17 L ∧ (∀ x20 : Int32, x20 = xs x17.toNatClampNeg → (∀ x22 : Int32, x22 = p4 + (2 : Int32) → (vp_in x22 L ∧ (∀ x25 : Int32, x25 = xs x22.toNatClampNeg → (∃ b27 : Nat, p2 = some b27 ∧ (sK σ15 b27 = 12 ∧ ((kc ≤ 600128 ∧ nc ≤ 7301064) ∧ (wp_X12_take b27 x20 x25 σ15 (fun (x32 : Int32) (σ31 : Sto) => ((x16 = x32 → b_L_law_1369 L xs L43 Q p1 p2 p3 p4 kc nc σ31) ∧ (¬ x16 = x32 → ((kc ≤ 600128 ∧ nc ≤ 7301064) ∧ Q (0 : Int32) σ31)))))))))))))))))))))))))
set_option maxHeartbeats 4000000 in
set_option maxRecDepth 100000 in
theorem t_L_law_1212 {p : Program} {l : Launch} {e : Env} {s : State} {m : MethodId} {below : List Frame} {meth : Method} {c : Code} {D : va_G} {cy : Nat → ClassId} {b L : Nat} {xs : Nat → Int32}  {L43 : Option Nat × Option Nat × Option Nat × Int32 × Nat × Nat → Sto → Prop} {Q : Int32 → Sto → Prop} (C : Cx p s m #[Value.ref b] meth c D cy (LA s) cL_law 7 RL) (hr : meth.sig.returnType = ret) (hnm : True) (hlt : l.stackTraces = false) (Z : ZW s) (Z2 : ZH (LA s) s s.heap) (hX : va_X b L xs s s.heap) (hbl : b < s.heap.size) (hLL : L < 2 ^ 31) (hQ : ∀ (v : Int32) (τ : Sto), Q v τ → v = 1) (hL43 : ∀ (t : Option Nat × Option Nat × Option Nat × Int32 × Nat × Nat) (σ : Sto), L43 t σ → ∀ ls : Array Slot, lv_has ls 7 [(0, .ref b), (1, va_rf t.1), (2, va_rf t.2.1), (3, va_rf t.2.2.1), (4, .int t.2.2.2.1)] → Xw p l e room_1 s m #[Value.ref b] below meth c D cy (LA s) σ t.2.2.2.2.1 t.2.2.2.2.2 (lw_Z below #[Value.ref b] s) (F0 m 43 ls [])) (p1 : Option Nat) (p2 : Option Nat) (p3 : Option Nat) (p4 : Int32) (kc : Nat) (nc : Nat) (σ : Sto) (h : b_L_law_1212 L xs L43 Q p1 p2 p3 p4 kc nc σ) (ls : Array Slot) (hl : lv_has ls 7 [(0, .ref b), (1, va_rf p1), (2, va_rf p2), (3, va_rf p3), (4, .int p4)]) : Xw p l e room_1 s m #[Value.ref b] below meth c D cy (LA s) σ kc nc (lw_Z below #[Value.ref b] s) (F0 m 1212 ls []) := by
  unfold b_L_law_1212 at h
  refine x_aload_nq C dL_law_1212 rfl (lv_at hl 1 rfl) ?_
  refine x_aload_n C dL_law_1213 rfl (lv_at hl 0 rfl) ?_
  refine x_iload C dL_law_1214 (lv_at hl 4 rfl) ?_
  refine x_iconst (v := 1) C dL_law_1216 (by decide) ?_
  refine x_iadd C dL_law_1217 ?_
  refine x_topi (fun x1 e2 => ?_)
  have h := h x1 e2
  obtain ⟨g3, h⟩ := h
  refine x_sld C hX hbl g3 dL_law_1218 ?_
  refine x_topi (fun x4 e5 => ?_)
  have h := h x4 e5
  refine x_aload_n C dL_law_1219 rfl (lv_at hl 0 rfl) ?_
  refine x_iload C dL_law_1220 (lv_at hl 4 rfl) ?_
  refine x_iconst (v := 2) C dL_law_1222 (by decide) ?_
  refine x_iadd C dL_law_1223 ?_
  refine x_topi (fun x6 e7 => ?_)
  have h := h x6 e7
  obtain ⟨g8, h⟩ := h
  refine x_sld C hX hbl g8 dL_law_1224 ?_
  refine x_topi (fun x9 e10 => ?_)
  have h := h x9 e10
  obtain ⟨b11, g12, h⟩ := h
  refine x_nn2 g12 ?_
  obtain ⟨g13, h⟩ := h
  obtain ⟨g14, h⟩ := h
  refine x_callV (rm := rm_X11_take) (rest := []) (As := [.int x4, .int x9]) C cy_RL_172 g13 (by decide) g14 rfl rfl (Nat.le_of_ble_eq_true rfl) hl.1 dL_law_1225 (c_X11_take l D cy b11 x4 x9 σ _ h) (ks_i (fun x16 σ15 h => ?_))
  refine x_aload_nq C dL_law_1228 rfl (lv_at hl 2 rfl) ?_
  refine x_aload_n C dL_law_1229 rfl (lv_at hl 0 rfl) ?_
  refine x_iload C dL_law_1230 (lv_at hl 4 rfl) ?_
  refine x_iconst (v := 1) C dL_law_1232 (by decide) ?_
  refine x_iadd C dL_law_1233 ?_
  refine x_topi (fun x17 e18 => ?_)
  have h := h x17 e18
  obtain ⟨g19, h⟩ := h
  refine x_sld C hX hbl g19 dL_law_1234 ?_
  refine x_topi (fun x20 e21 => ?_)
  have h := h x20 e21
  refine x_aload_n C dL_law_1235 rfl (lv_at hl 0 rfl) ?_
  refine x_iload C dL_law_1236 (lv_at hl 4 rfl) ?_
  refine x_iconst (v := 2) C dL_law_1238 (by decide) ?_
  refine x_iadd C dL_law_1239 ?_
  refine x_topi (fun x22 e23 => ?_)
  have h := h x22 e23
  obtain ⟨g24, h⟩ := h
  refine x_sld C hX hbl g24 dL_law_1240 ?_
  refine x_topi (fun x25 e26 => ?_)
  have h := h x25 e26
  obtain ⟨b27, g28, h⟩ := h
  refine x_nn2 g28 ?_
  obtain ⟨g29, h⟩ := h
  obtain ⟨g30, h⟩ := h
  refine x_callV (rm := rm_X12_take) (rest := [.int x16]) (As := [.int x20, .int x25]) C cy_RL_175 g29 (by decide) g30 rfl rfl (Nat.le_of_ble_eq_true rfl) hl.1 dL_law_1241 (c_X12_take l D cy b27 x20 x25 σ15 _ h) (ks_i (fun x32 σ31 h => ?_))
  refine x_icmp_eq (tgt := 1369) C dL_law_1244 (by decide) (fun c33 => ?_) (fun c33 => ?_)
  · have h := h.1 c33
    exact t_L_law_1369 C hr hnm hlt Z Z2 hX hbl hLL hQ hL43 p1 p2 p3 p4 kc nc _ h ls (lv_sub hl [0, 1, 2, 3, 4] rfl)
  · have h := h.2 c33
    refine x_iconst (v := 0) C dL_law_1247 (by decide) ?_
    exact x_lawret C hr h.1 (hQ _ _ h.2) dL_law_1248
def b_L_law_1143 (L : Nat) (xs : Nat → Int32) (L43 : Option Nat × Option Nat × Option Nat × Int32 × Nat × Nat → Sto → Prop) (Q : Int32 → Sto → Prop) (p1 : Option Nat) (p2 : Option Nat) (p3 : Option Nat) (p4 : Int32) (kc : Nat) (nc : Nat) (σ : Sto) : Prop := (∀ x1 : Int32, x1 = p4 + (1 : Int32) → (vp_in x1 L ∧ (∀ x4 : Int32, x4 = xs x1.toNatClampNeg → (∀ x6 : Int32, x6 = p4 + (2 : Int32) → (vp_in x6 L ∧ (∀ x9 : Int32, x9 = xs x6.toNatClampNeg → (∀ x11 : Int32, x11 = p4 + (3 : Int32) → (vp_in x11 L ∧ (∀ x14 : Int32, x14 = xs x11.toNatClampNeg → (∃ b16 : Nat, p1 = some b16 ∧ (sK σ b16 = 11 ∧ ((kc ≤ 600128 ∧ nc ≤ 7301064) ∧ (wp_X11_put b16 ((x4.toInt64 <<< ((32 : Int32).toInt64 &&& 63)) ||| (x9.toInt64 &&& (4294967295 : Int64))) x14 σ (fun (x21 : Int32) (σ20 : Sto) => (∀ x22 : Int32, x22 = p4 + (1 : Int32) → (vp_in x22 L ∧ (∀ x25 : Int32, x25 = xs x22.toNatClampNeg → (∀ x27 : Int32, x27 = p4 + (2 : Int32) → (vp_in x27 L ∧ (∀ x30 : Int32, x30 = xs x27.toNatClampNeg → (∀ x32 : Int32, x32 = p4 + (3 : Int32) → (vp_in x32 L ∧ (∀ x35 : Int32, x35 = xs x32.toNatClampNeg → (∃ b37 : Nat, p2 = some b37 ∧ (sK σ20 b37 = 12 ∧ ((kc ≤ 600128 ∧ nc ≤ 7301064) ∧ (wp_X12_put b37 ((x25.toInt64 <<< ((32 : Int32).toInt64 &&& 63)) ||| (x30.toInt64 &&& (4294967295 : Int64))) x35 σ20 (fun (x42 : Int32) (σ41 : Sto) => ((x21 = x42 → b_L_law_1369 L xs L43 Q p1 p2 p3 p4 kc nc σ41) ∧ (¬ x21 = x42 → ((kc ≤ 600128 ∧ nc ≤ 7301064) ∧ Q (0 : Int32) σ41)))))))))))))))))))))))))))))))
set_option maxHeartbeats 4000000 in
set_option maxRecDepth 100000 in
theorem t_L_law_1143 {p : Program} {l : Launch} {e : Env} {s : State} {m : MethodId} {below : List Frame} {meth : Method} {c : Code} {D : va_G} {cy : Nat → ClassId} {b L : Nat} {xs : Nat → Int32}  {L43 : Option Nat × Option Nat × Option Nat × Int32 × Nat × Nat → Sto → Prop} {Q : Int32 → Sto → Prop} (C : Cx p s m #[Value.ref b] meth c D cy (LA s) cL_law 7 RL) (hr : meth.sig.returnType = ret) (hnm : True) (hlt : l.stackTraces = false) (Z : ZW s) (Z2 : ZH (LA s) s s.heap) (hX : va_X b L xs s s.heap) (hbl : b < s.heap.size) (hLL : L < 2 ^ 31) (hQ : ∀ (v : Int32) (τ : Sto), Q v τ → v = 1) (hL43 : ∀ (t : Option Nat × Option Nat × Option Nat × Int32 × Nat × Nat) (σ : Sto), L43 t σ → ∀ ls : Array Slot, lv_has ls 7 [(0, .ref b), (1, va_rf t.1), (2, va_rf t.2.1), (3, va_rf t.2.2.1), (4, .int t.2.2.2.1)] → Xw p l e room_1 s m #[Value.ref b] below meth c D cy (LA s) σ t.2.2.2.2.1 t.2.2.2.2.2 (lw_Z below #[Value.ref b] s) (F0 m 43 ls [])) (p1 : Option Nat) (p2 : Option Nat) (p3 : Option Nat) (p4 : Int32) (kc : Nat) (nc : Nat) (σ : Sto) (h : b_L_law_1143 L xs L43 Q p1 p2 p3 p4 kc nc σ) (ls : Array Slot) (hl : lv_has ls 7 [(0, .ref b), (1, va_rf p1), (2, va_rf p2), (3, va_rf p3), (4, .int p4)]) : Xw p l e room_1 s m #[Value.ref b] below meth c D cy (LA s) σ kc nc (lw_Z below #[Value.ref b] s) (F0 m 1143 ls []) := by
  unfold b_L_law_1143 at h
  refine x_aload_nq C dL_law_1143 rfl (lv_at hl 1 rfl) ?_
  refine x_aload_n C dL_law_1144 rfl (lv_at hl 0 rfl) ?_
  refine x_iload C dL_law_1145 (lv_at hl 4 rfl) ?_
  refine x_iconst (v := 1) C dL_law_1147 (by decide) ?_
  refine x_iadd C dL_law_1148 ?_
  refine x_topi (fun x1 e2 => ?_)
  have h := h x1 e2
  obtain ⟨g3, h⟩ := h
  refine x_sld C hX hbl g3 dL_law_1149 ?_
  refine x_topi (fun x4 e5 => ?_)
  have h := h x4 e5
  refine x_i2l C dL_law_1150 ?_
  refine x_bipush (v := 32) C dL_law_1151 (by decide) ?_
  refine x_lshl C dL_law_1153 ?_
  refine x_aload_n C dL_law_1154 rfl (lv_at hl 0 rfl) ?_
  refine x_iload C dL_law_1155 (lv_at hl 4 rfl) ?_
  refine x_iconst (v := 2) C dL_law_1157 (by decide) ?_
  refine x_iadd C dL_law_1158 ?_
  refine x_topi (fun x6 e7 => ?_)
  have h := h x6 e7
  obtain ⟨g8, h⟩ := h
  refine x_sld C hX hbl g8 dL_law_1159 ?_
  refine x_topi (fun x9 e10 => ?_)
  have h := h x9 e10
  refine x_i2l C dL_law_1160 ?_
  refine x_ldc2 C kk_RL_165 dL_law_1161 ?_
  refine x_land C dL_law_1164 ?_
  refine x_lor C dL_law_1165 ?_
  refine x_aload_n C dL_law_1166 rfl (lv_at hl 0 rfl) ?_
  refine x_iload C dL_law_1167 (lv_at hl 4 rfl) ?_
  refine x_iconst (v := 3) C dL_law_1169 (by decide) ?_
  refine x_iadd C dL_law_1170 ?_
  refine x_topi (fun x11 e12 => ?_)
  have h := h x11 e12
  obtain ⟨g13, h⟩ := h
  refine x_sld C hX hbl g13 dL_law_1171 ?_
  refine x_topi (fun x14 e15 => ?_)
  have h := h x14 e15
  obtain ⟨b16, g17, h⟩ := h
  refine x_nn2 g17 ?_
  obtain ⟨g18, h⟩ := h
  obtain ⟨g19, h⟩ := h
  refine x_callV (rm := rm_X11_put) (rest := []) (As := [.long ((x4.toInt64 <<< ((32 : Int32).toInt64 &&& 63)) ||| (x9.toInt64 &&& (4294967295 : Int64))), .int x14]) C cy_RL_167 g18 (by decide) g19 rfl rfl (Nat.le_of_ble_eq_true rfl) hl.1 dL_law_1172 (c_X11_put l D cy b16 ((x4.toInt64 <<< ((32 : Int32).toInt64 &&& 63)) ||| (x9.toInt64 &&& (4294967295 : Int64))) x14 σ _ h) (ks_i (fun x21 σ20 h => ?_))
  refine x_aload_nq C dL_law_1175 rfl (lv_at hl 2 rfl) ?_
  refine x_aload_n C dL_law_1176 rfl (lv_at hl 0 rfl) ?_
  refine x_iload C dL_law_1177 (lv_at hl 4 rfl) ?_
  refine x_iconst (v := 1) C dL_law_1179 (by decide) ?_
  refine x_iadd C dL_law_1180 ?_
  refine x_topi (fun x22 e23 => ?_)
  have h := h x22 e23
  obtain ⟨g24, h⟩ := h
  refine x_sld C hX hbl g24 dL_law_1181 ?_
  refine x_topi (fun x25 e26 => ?_)
  have h := h x25 e26
  refine x_i2l C dL_law_1182 ?_
  refine x_bipush (v := 32) C dL_law_1183 (by decide) ?_
  refine x_lshl C dL_law_1185 ?_
  refine x_aload_n C dL_law_1186 rfl (lv_at hl 0 rfl) ?_
  refine x_iload C dL_law_1187 (lv_at hl 4 rfl) ?_
  refine x_iconst (v := 2) C dL_law_1189 (by decide) ?_
  refine x_iadd C dL_law_1190 ?_
  refine x_topi (fun x27 e28 => ?_)
  have h := h x27 e28
  obtain ⟨g29, h⟩ := h
  refine x_sld C hX hbl g29 dL_law_1191 ?_
  refine x_topi (fun x30 e31 => ?_)
  have h := h x30 e31
  refine x_i2l C dL_law_1192 ?_
  refine x_ldc2 C kk_RL_165 dL_law_1193 ?_
  refine x_land C dL_law_1196 ?_
  refine x_lor C dL_law_1197 ?_
  refine x_aload_n C dL_law_1198 rfl (lv_at hl 0 rfl) ?_
  refine x_iload C dL_law_1199 (lv_at hl 4 rfl) ?_
  refine x_iconst (v := 3) C dL_law_1201 (by decide) ?_
  refine x_iadd C dL_law_1202 ?_
  refine x_topi (fun x32 e33 => ?_)
  have h := h x32 e33
  obtain ⟨g34, h⟩ := h
  refine x_sld C hX hbl g34 dL_law_1203 ?_
  refine x_topi (fun x35 e36 => ?_)
  have h := h x35 e36
  obtain ⟨b37, g38, h⟩ := h
  refine x_nn2 g38 ?_
  obtain ⟨g39, h⟩ := h
  obtain ⟨g40, h⟩ := h
  refine x_callV (rm := rm_X12_put) (rest := [.int x21]) (As := [.long ((x25.toInt64 <<< ((32 : Int32).toInt64 &&& 63)) ||| (x30.toInt64 &&& (4294967295 : Int64))), .int x35]) C cy_RL_171 g39 (by decide) g40 rfl rfl (Nat.le_of_ble_eq_true rfl) hl.1 dL_law_1204 (c_X12_put l D cy b37 ((x25.toInt64 <<< ((32 : Int32).toInt64 &&& 63)) ||| (x30.toInt64 &&& (4294967295 : Int64))) x35 σ20 _ h) (ks_i (fun x42 σ41 h => ?_))
  refine x_icmp_eq (tgt := 1369) C dL_law_1207 (by decide) (fun c43 => ?_) (fun c43 => ?_)
  · have h := h.1 c43
    exact t_L_law_1369 C hr hnm hlt Z Z2 hX hbl hLL hQ hL43 p1 p2 p3 p4 kc nc _ h ls (lv_sub hl [0, 1, 2, 3, 4] rfl)
  · have h := h.2 c43
    refine x_iconst (v := 0) C dL_law_1210 (by decide) ?_
    exact x_lawret C hr h.1 (hQ _ _ h.2) dL_law_1211
def b_L_law_1118 (L : Nat) (xs : Nat → Int32) (L43 : Option Nat × Option Nat × Option Nat × Int32 × Nat × Nat → Sto → Prop) (Q : Int32 → Sto → Prop) (p1 : Option Nat) (p2 : Option Nat) (p3 : Option Nat) (p4 : Int32) (kc : Nat) (nc : Nat) (σ : Sto) : Prop := (∀ x1 : Int32, x1 = p4 + (1 : Int32) → (vp_in x1 L ∧ (∀ x4 : Int32, x4 = xs x1.toNatClampNeg → (∃ b6 : Nat, p1 = some b6 ∧ (sK σ b6 = 11 ∧ ((kc ≤ 600128 ∧ nc ≤ 7301064) ∧ (wp_X11_output b6 x4 σ (fun (x11 : Int32) (σ10 : Sto) => (∀ x12 : Int32, x12 = p4 + (1 : Int32) → (vp_in x12 L ∧ (∀ x15 : Int32, x15 = xs x12.toNatClampNeg → (∃ b17 : Nat, p2 = some b17 ∧ (sK σ10 b17 = 12 ∧ ((kc ≤ 600128 ∧ nc ≤ 7301064) ∧ (wp_X12_output b17 x15 σ10 (fun (x22 : Int32) (σ21 : Sto) => ((x11 = x22 → b_L_law_1369 L xs L43 Q p1 p2 p3 p4 kc nc σ21) ∧ (¬ x11 = x22 → ((kc ≤ 600128 ∧ nc ≤ 7301064) ∧ Q (0 : Int32) σ21)))))))))))))))))))
set_option maxHeartbeats 4000000 in
set_option maxRecDepth 100000 in
theorem t_L_law_1118 {p : Program} {l : Launch} {e : Env} {s : State} {m : MethodId} {below : List Frame} {meth : Method} {c : Code} {D : va_G} {cy : Nat → ClassId} {b L : Nat} {xs : Nat → Int32}  {L43 : Option Nat × Option Nat × Option Nat × Int32 × Nat × Nat → Sto → Prop} {Q : Int32 → Sto → Prop} (C : Cx p s m #[Value.ref b] meth c D cy (LA s) cL_law 7 RL) (hr : meth.sig.returnType = ret) (hnm : True) (hlt : l.stackTraces = false) (Z : ZW s) (Z2 : ZH (LA s) s s.heap) (hX : va_X b L xs s s.heap) (hbl : b < s.heap.size) (hLL : L < 2 ^ 31) (hQ : ∀ (v : Int32) (τ : Sto), Q v τ → v = 1) (hL43 : ∀ (t : Option Nat × Option Nat × Option Nat × Int32 × Nat × Nat) (σ : Sto), L43 t σ → ∀ ls : Array Slot, lv_has ls 7 [(0, .ref b), (1, va_rf t.1), (2, va_rf t.2.1), (3, va_rf t.2.2.1), (4, .int t.2.2.2.1)] → Xw p l e room_1 s m #[Value.ref b] below meth c D cy (LA s) σ t.2.2.2.2.1 t.2.2.2.2.2 (lw_Z below #[Value.ref b] s) (F0 m 43 ls [])) (p1 : Option Nat) (p2 : Option Nat) (p3 : Option Nat) (p4 : Int32) (kc : Nat) (nc : Nat) (σ : Sto) (h : b_L_law_1118 L xs L43 Q p1 p2 p3 p4 kc nc σ) (ls : Array Slot) (hl : lv_has ls 7 [(0, .ref b), (1, va_rf p1), (2, va_rf p2), (3, va_rf p3), (4, .int p4)]) : Xw p l e room_1 s m #[Value.ref b] below meth c D cy (LA s) σ kc nc (lw_Z below #[Value.ref b] s) (F0 m 1118 ls []) := by
  unfold b_L_law_1118 at h
  refine x_aload_nq C dL_law_1118 rfl (lv_at hl 1 rfl) ?_
  refine x_aload_n C dL_law_1119 rfl (lv_at hl 0 rfl) ?_
  refine x_iload C dL_law_1120 (lv_at hl 4 rfl) ?_
  refine x_iconst (v := 1) C dL_law_1122 (by decide) ?_
  refine x_iadd C dL_law_1123 ?_
  refine x_topi (fun x1 e2 => ?_)
  have h := h x1 e2
  obtain ⟨g3, h⟩ := h
  refine x_sld C hX hbl g3 dL_law_1124 ?_
  refine x_topi (fun x4 e5 => ?_)
  have h := h x4 e5
  obtain ⟨b6, g7, h⟩ := h
  refine x_nn1 g7 ?_
  obtain ⟨g8, h⟩ := h
  obtain ⟨g9, h⟩ := h
  refine x_callV (rm := rm_X11_output) (rest := []) (As := [.int x4]) C cy_RL_161 g8 (by decide) g9 rfl rfl (Nat.le_of_ble_eq_true rfl) hl.1 dL_law_1125 (c_X11_output l D cy b6 x4 σ _ h) (ks_i (fun x11 σ10 h => ?_))
  refine x_aload_nq C dL_law_1128 rfl (lv_at hl 2 rfl) ?_
  refine x_aload_n C dL_law_1129 rfl (lv_at hl 0 rfl) ?_
  refine x_iload C dL_law_1130 (lv_at hl 4 rfl) ?_
  refine x_iconst (v := 1) C dL_law_1132 (by decide) ?_
  refine x_iadd C dL_law_1133 ?_
  refine x_topi (fun x12 e13 => ?_)
  have h := h x12 e13
  obtain ⟨g14, h⟩ := h
  refine x_sld C hX hbl g14 dL_law_1134 ?_
  refine x_topi (fun x15 e16 => ?_)
  have h := h x15 e16
  obtain ⟨b17, g18, h⟩ := h
  refine x_nn1 g18 ?_
  obtain ⟨g19, h⟩ := h
  obtain ⟨g20, h⟩ := h
  refine x_callV (rm := rm_X12_output) (rest := [.int x11]) (As := [.int x15]) C cy_RL_164 g19 (by decide) g20 rfl rfl (Nat.le_of_ble_eq_true rfl) hl.1 dL_law_1135 (c_X12_output l D cy b17 x15 σ10 _ h) (ks_i (fun x22 σ21 h => ?_))
  refine x_icmp_eq (tgt := 1369) C dL_law_1138 (by decide) (fun c23 => ?_) (fun c23 => ?_)
  · have h := h.1 c23
    exact t_L_law_1369 C hr hnm hlt Z Z2 hX hbl hLL hQ hL43 p1 p2 p3 p4 kc nc _ h ls (lv_sub hl [0, 1, 2, 3, 4] rfl)
  · have h := h.2 c23
    refine x_iconst (v := 0) C dL_law_1141 (by decide) ?_
    exact x_lawret C hr h.1 (hQ _ _ h.2) dL_law_1142
def b_L_law_1115 (L : Nat) (xs : Nat → Int32) (L43 : Option Nat × Option Nat × Option Nat × Int32 × Nat × Nat → Sto → Prop) (Q : Int32 → Sto → Prop) (p1 : Option Nat) (p2 : Option Nat) (p3 : Option Nat) (p4 : Int32) (kc : Nat) (nc : Nat) (σ : Sto) : Prop := b_L_law_1369 L xs L43 Q p1 p2 p3 p4 kc nc σ
set_option maxHeartbeats 4000000 in
set_option maxRecDepth 100000 in
theorem t_L_law_1115 {p : Program} {l : Launch} {e : Env} {s : State} {m : MethodId} {below : List Frame} {meth : Method} {c : Code} {D : va_G} {cy : Nat → ClassId} {b L : Nat} {xs : Nat → Int32}  {L43 : Option Nat × Option Nat × Option Nat × Int32 × Nat × Nat → Sto → Prop} {Q : Int32 → Sto → Prop} (C : Cx p s m #[Value.ref b] meth c D cy (LA s) cL_law 7 RL) (hr : meth.sig.returnType = ret) (hnm : True) (hlt : l.stackTraces = false) (Z : ZW s) (Z2 : ZH (LA s) s s.heap) (hX : va_X b L xs s s.heap) (hbl : b < s.heap.size) (hLL : L < 2 ^ 31) (hQ : ∀ (v : Int32) (τ : Sto), Q v τ → v = 1) (hL43 : ∀ (t : Option Nat × Option Nat × Option Nat × Int32 × Nat × Nat) (σ : Sto), L43 t σ → ∀ ls : Array Slot, lv_has ls 7 [(0, .ref b), (1, va_rf t.1), (2, va_rf t.2.1), (3, va_rf t.2.2.1), (4, .int t.2.2.2.1)] → Xw p l e room_1 s m #[Value.ref b] below meth c D cy (LA s) σ t.2.2.2.2.1 t.2.2.2.2.2 (lw_Z below #[Value.ref b] s) (F0 m 43 ls [])) (p1 : Option Nat) (p2 : Option Nat) (p3 : Option Nat) (p4 : Int32) (kc : Nat) (nc : Nat) (σ : Sto) (h : b_L_law_1115 L xs L43 Q p1 p2 p3 p4 kc nc σ) (ls : Array Slot) (hl : lv_has ls 7 [(0, .ref b), (1, va_rf p1), (2, va_rf p2), (3, va_rf p3), (4, .int p4)]) : Xw p l e room_1 s m #[Value.ref b] below meth c D cy (LA s) σ kc nc (lw_Z below #[Value.ref b] s) (F0 m 1115 ls []) := by
  unfold b_L_law_1115 at h
  refine x_goto (tgt := 1369) C dL_law_1115 (by decide) ?_
  exact t_L_law_1369 C hr hnm hlt Z Z2 hX hbl hLL hQ hL43 p1 p2 p3 p4 kc nc _ h ls (lv_sub hl [0, 1, 2, 3, 4] rfl)
def b_L_law_1062 (L : Nat) (xs : Nat → Int32) (L43 : Option Nat × Option Nat × Option Nat × Int32 × Nat × Nat → Sto → Prop) (Q : Int32 → Sto → Prop) (p1 : Option Nat) (p2 : Option Nat) (p3 : Option Nat) (p4 : Int32) (kc : Nat) (nc : Nat) (σ : Sto) : Prop := (∀ x1 : Int32, x1 = p4 + (1 : Int32) → (vp_in x1 L ∧ (∀ x4 : Int32, x4 = xs x1.toNatClampNeg → ((kc + 1 ≤ 600128 ∧ nc + 6 ≤ 7301064) ∧ (wp_L_image p1 x4 p3 σ (fun (x8 : Int32) (σ7 : Sto) => (∀ x9 : Int32, x9 = p4 + (1 : Int32) → (vp_in x9 L ∧ (∀ x12 : Int32, x12 = xs x9.toNatClampNeg → (∃ b14 : Nat, p2 = some b14 ∧ (sK σ7 b14 = 12 ∧ (((kc + 1) ≤ 600128 ∧ (nc + 6) ≤ 7301064) ∧ (wp_X12_image b14 x12 σ7 (fun (x19 : Int32) (σ18 : Sto) => (sK σ18 b14 = 12 ∧ (((kc + 1) ≤ 600128 ∧ (nc + 6) ≤ 7301064) ∧ (wp_X12_thrown b14  σ18 (fun (x23 : Int32) (σ22 : Sto) => ((x23 = x8 → ((¬ x8 = 0 → b_L_law_1115 L xs L43 Q p1 p2 p3 p4 ((kc + 1)) ((nc + 6)) σ22) ∧ (x8 = 0 → (∃ b26 : Nat, p3 = some b26 ∧ (sK σ22 b26 = 15 ∧ (vp_in (0 : Int32) (sN σ22 b26) ∧ (∀ y30 : Int64, y30 = sJ σ22 b26 (0 : Int32).toNatClampNeg → (((lg_cmp y30 x19.toInt64) = 0 → b_L_law_1115 L xs L43 Q p1 p2 p3 p4 ((kc + 1)) ((nc + 6)) σ22) ∧ (¬ (lg_cmp y30 x19.toInt64) = 0 → (((kc + 1) ≤ 600128 ∧ (nc + 6) ≤ 7301064) ∧ Q (0 : Int32) σ22)))))))))) ∧ (¬ x23 = x8 → (((kc + 1) ≤ 600128 ∧ (nc + 6) ≤ 7301064) ∧ Q (0 : Int32) σ22)))))))))))))))))))))
set_option maxHeartbeats 4000000 in
set_option maxRecDepth 100000 in
theorem t_L_law_1062 {p : Program} {l : Launch} {e : Env} {s : State} {m : MethodId} {below : List Frame} {meth : Method} {c : Code} {D : va_G} {cy : Nat → ClassId} {b L : Nat} {xs : Nat → Int32}  {L43 : Option Nat × Option Nat × Option Nat × Int32 × Nat × Nat → Sto → Prop} {Q : Int32 → Sto → Prop} (C : Cx p s m #[Value.ref b] meth c D cy (LA s) cL_law 7 RL) (hr : meth.sig.returnType = ret) (hnm : True) (hlt : l.stackTraces = false) (Z : ZW s) (Z2 : ZH (LA s) s s.heap) (hX : va_X b L xs s s.heap) (hbl : b < s.heap.size) (hLL : L < 2 ^ 31) (hQ : ∀ (v : Int32) (τ : Sto), Q v τ → v = 1) (hL43 : ∀ (t : Option Nat × Option Nat × Option Nat × Int32 × Nat × Nat) (σ : Sto), L43 t σ → ∀ ls : Array Slot, lv_has ls 7 [(0, .ref b), (1, va_rf t.1), (2, va_rf t.2.1), (3, va_rf t.2.2.1), (4, .int t.2.2.2.1)] → Xw p l e room_1 s m #[Value.ref b] below meth c D cy (LA s) σ t.2.2.2.2.1 t.2.2.2.2.2 (lw_Z below #[Value.ref b] s) (F0 m 43 ls [])) (p1 : Option Nat) (p2 : Option Nat) (p3 : Option Nat) (p4 : Int32) (kc : Nat) (nc : Nat) (σ : Sto) (h : b_L_law_1062 L xs L43 Q p1 p2 p3 p4 kc nc σ) (ls : Array Slot) (hl : lv_has ls 7 [(0, .ref b), (1, va_rf p1), (2, va_rf p2), (3, va_rf p3), (4, .int p4)]) : Xw p l e room_1 s m #[Value.ref b] below meth c D cy (LA s) σ kc nc (lw_Z below #[Value.ref b] s) (F0 m 1062 ls []) := by
  unfold b_L_law_1062 at h
  refine x_aload_nq C dL_law_1062 rfl (lv_at hl 1 rfl) ?_
  refine x_aload_n C dL_law_1063 rfl (lv_at hl 0 rfl) ?_
  refine x_iload C dL_law_1064 (lv_at hl 4 rfl) ?_
  refine x_iconst (v := 1) C dL_law_1066 (by decide) ?_
  refine x_iadd C dL_law_1067 ?_
  refine x_topi (fun x1 e2 => ?_)
  have h := h x1 e2
  obtain ⟨g3, h⟩ := h
  refine x_sld C hX hbl g3 dL_law_1068 ?_
  refine x_topi (fun x4 e5 => ?_)
  have h := h x4 e5
  refine x_aload_nq C dL_law_1069 rfl (lv_at hl 3 rfl) ?_
  obtain ⟨g6, h⟩ := h
  refine x_callSW (rm := rm_L_image) (rest := []) (As := [va_rf p1, .int x4, va_rf p3]) C Z Z2 ml_RL_158 ys_L_image in_RL yw_L_image yh_L_image (by decide) g6 rfl rfl (Nat.le_of_ble_eq_true rfl) hl.1 dL_law_1070 (c_L_image l hlt D cy p1 x4 p3 σ _ h) (ks_i (fun x8 σ7 h => ?_))
  refine x_istore (i := 5) (lv' := [(5, .int x8), (0, .ref b), (1, va_rf p1), (2, va_rf p2), (3, va_rf p3), (4, .int p4)]) C dL_law_1073 hl (by decide) (by first | rfl | simp [vrc, cat_i, cat_r, cat_l]) (fun ls hl => ?_)
  refine x_aload_nq C dL_law_1075 rfl (lv_at hl 3 rfl) ?_
  refine x_aload_n C dL_law_1076 rfl (lv_at hl 1 rfl) ?_
  refine x_iload C dL_law_1077 (lv_at hl 5 rfl) ?_
  refine x_iconst (v := 1) C dL_law_1079 (by decide) ?_
  refine x_iadd C dL_law_1080 ?_
  refine x_topi (fun x9 e10 => ?_)
  have h := h x9 e10
  obtain ⟨g11, h⟩ := h
  refine x_sld C hX hbl g11 dL_law_1081 ?_
  refine x_topi (fun x12 e13 => ?_)
  have h := h x12 e13
  obtain ⟨b14, g15, h⟩ := h
  refine x_nn1 g15 ?_
  obtain ⟨g16, h⟩ := h
  obtain ⟨g17, h⟩ := h
  refine x_callV (rm := rm_X12_image) (rest := []) (As := [.int x12]) C cy_RL_160 g16 (by decide) g17 rfl rfl (Nat.le_of_ble_eq_true rfl) hl.1 dL_law_1082 (c_X12_image l D cy b14 x12 σ7 _ h) (ks_i (fun x19 σ18 h => ?_))
  refine x_istore (i := 6) (lv' := [(6, .int x19), (5, .int x8), (0, .ref b), (1, va_rf p1), (2, va_rf p2), (3, va_rf p3), (4, .int p4)]) C dL_law_1085 hl (by decide) (by first | rfl | simp [vrc, cat_i, cat_r, cat_l]) (fun ls hl => ?_)
  refine x_aload_nq C dL_law_1087 rfl (lv_at hl 4 rfl) ?_
  refine x_nn0 g15 ?_
  obtain ⟨g20, h⟩ := h
  obtain ⟨g21, h⟩ := h
  refine x_callV (rm := rm_X12_thrown) (rest := []) (As := []) C cy_RL_77 g20 (by decide) g21 rfl rfl (Nat.le_of_ble_eq_true rfl) hl.1 dL_law_1088 (c_X12_thrown l D cy b14  σ18 _ h) (ks_i (fun x23 σ22 h => ?_))
  refine x_iload C dL_law_1091 (lv_at hl 1 rfl) ?_
  refine x_icmp_eq (tgt := 1098) C dL_law_1093 (by decide) (fun c24 => ?_) (fun c24 => ?_)
  · have h := h.1 c24
    refine x_iload C dL_law_1098 (lv_at hl 1 rfl) ?_
    refine x_if_ne (tgt := 1115) C dL_law_1100 (by decide) (fun c25 => ?_) (fun c25 => ?_)
    · have h := h.1 c25
      exact t_L_law_1115 C hr hnm hlt Z Z2 hX hbl hLL hQ hL43 p1 p2 p3 p4 ((kc + 1)) ((nc + 6)) _ h ls (lv_sub hl [2, 3, 4, 5, 6] rfl)
    · have h := h.2 c25
      refine x_aload_nq C dL_law_1103 rfl (lv_at hl 5 rfl) ?_
      refine x_iconst (v := 0) C dL_law_1104 (by decide) ?_
      obtain ⟨b26, g27, h⟩ := h
      refine x_nn1 g27 ?_
      obtain ⟨g28, h⟩ := h
      obtain ⟨g29, h⟩ := h
      refine x_lald C g28 g29 dL_law_1105 ?_
      refine x_topj (fun y30 e31 => ?_)
      have h := h y30 e31
      refine x_iload C dL_law_1106 (lv_at hl 0 rfl) ?_
      refine x_i2l C dL_law_1108 ?_
      refine x_lcmp C dL_law_1109 ?_
      refine x_if_eq (tgt := 1115) C dL_law_1110 (by decide) (fun c32 => ?_) (fun c32 => ?_)
      · have h := h.1 c32
        exact t_L_law_1115 C hr hnm hlt Z Z2 hX hbl hLL hQ hL43 p1 p2 p3 p4 ((kc + 1)) ((nc + 6)) _ h ls (lv_sub hl [2, 3, 4, 5, 6] rfl)
      · have h := h.2 c32
        refine x_iconst (v := 0) C dL_law_1113 (by decide) ?_
        exact x_lawret C hr h.1 (hQ _ _ h.2) dL_law_1114
  · have h := h.2 c24
    refine x_iconst (v := 0) C dL_law_1096 (by decide) ?_
    exact x_lawret C hr h.1 (hQ _ _ h.2) dL_law_1097
def b_L_law_1037 (L : Nat) (xs : Nat → Int32) (L43 : Option Nat × Option Nat × Option Nat × Int32 × Nat × Nat → Sto → Prop) (Q : Int32 → Sto → Prop) (p1 : Option Nat) (p2 : Option Nat) (p3 : Option Nat) (p4 : Int32) (kc : Nat) (nc : Nat) (σ : Sto) : Prop := (∀ x1 : Int32, x1 = p4 + (1 : Int32) → (vp_in x1 L ∧ (∀ x4 : Int32, x4 = xs x1.toNatClampNeg → (∃ b6 : Nat, p1 = some b6 ∧ (sK σ b6 = 11 ∧ ((kc ≤ 600128 ∧ nc ≤ 7301064) ∧ (wp_X11_wire b6 x4 σ (fun (x11 : Int32) (σ10 : Sto) => (∀ x12 : Int32, x12 = p4 + (1 : Int32) → (vp_in x12 L ∧ (∀ x15 : Int32, x15 = xs x12.toNatClampNeg → (∃ b17 : Nat, p2 = some b17 ∧ (sK σ10 b17 = 12 ∧ ((kc ≤ 600128 ∧ nc ≤ 7301064) ∧ (wp_X12_wire b17 x15 σ10 (fun (x22 : Int32) (σ21 : Sto) => ((x11 = x22 → b_L_law_1369 L xs L43 Q p1 p2 p3 p4 kc nc σ21) ∧ (¬ x11 = x22 → ((kc ≤ 600128 ∧ nc ≤ 7301064) ∧ Q (0 : Int32) σ21)))))))))))))))))))
set_option maxHeartbeats 4000000 in
set_option maxRecDepth 100000 in
theorem t_L_law_1037 {p : Program} {l : Launch} {e : Env} {s : State} {m : MethodId} {below : List Frame} {meth : Method} {c : Code} {D : va_G} {cy : Nat → ClassId} {b L : Nat} {xs : Nat → Int32}  {L43 : Option Nat × Option Nat × Option Nat × Int32 × Nat × Nat → Sto → Prop} {Q : Int32 → Sto → Prop} (C : Cx p s m #[Value.ref b] meth c D cy (LA s) cL_law 7 RL) (hr : meth.sig.returnType = ret) (hnm : True) (hlt : l.stackTraces = false) (Z : ZW s) (Z2 : ZH (LA s) s s.heap) (hX : va_X b L xs s s.heap) (hbl : b < s.heap.size) (hLL : L < 2 ^ 31) (hQ : ∀ (v : Int32) (τ : Sto), Q v τ → v = 1) (hL43 : ∀ (t : Option Nat × Option Nat × Option Nat × Int32 × Nat × Nat) (σ : Sto), L43 t σ → ∀ ls : Array Slot, lv_has ls 7 [(0, .ref b), (1, va_rf t.1), (2, va_rf t.2.1), (3, va_rf t.2.2.1), (4, .int t.2.2.2.1)] → Xw p l e room_1 s m #[Value.ref b] below meth c D cy (LA s) σ t.2.2.2.2.1 t.2.2.2.2.2 (lw_Z below #[Value.ref b] s) (F0 m 43 ls [])) (p1 : Option Nat) (p2 : Option Nat) (p3 : Option Nat) (p4 : Int32) (kc : Nat) (nc : Nat) (σ : Sto) (h : b_L_law_1037 L xs L43 Q p1 p2 p3 p4 kc nc σ) (ls : Array Slot) (hl : lv_has ls 7 [(0, .ref b), (1, va_rf p1), (2, va_rf p2), (3, va_rf p3), (4, .int p4)]) : Xw p l e room_1 s m #[Value.ref b] below meth c D cy (LA s) σ kc nc (lw_Z below #[Value.ref b] s) (F0 m 1037 ls []) := by
  unfold b_L_law_1037 at h
  refine x_aload_nq C dL_law_1037 rfl (lv_at hl 1 rfl) ?_
  refine x_aload_n C dL_law_1038 rfl (lv_at hl 0 rfl) ?_
  refine x_iload C dL_law_1039 (lv_at hl 4 rfl) ?_
  refine x_iconst (v := 1) C dL_law_1041 (by decide) ?_
  refine x_iadd C dL_law_1042 ?_
  refine x_topi (fun x1 e2 => ?_)
  have h := h x1 e2
  obtain ⟨g3, h⟩ := h
  refine x_sld C hX hbl g3 dL_law_1043 ?_
  refine x_topi (fun x4 e5 => ?_)
  have h := h x4 e5
  obtain ⟨b6, g7, h⟩ := h
  refine x_nn1 g7 ?_
  obtain ⟨g8, h⟩ := h
  obtain ⟨g9, h⟩ := h
  refine x_callV (rm := rm_X11_wire) (rest := []) (As := [.int x4]) C cy_RL_154 g8 (by decide) g9 rfl rfl (Nat.le_of_ble_eq_true rfl) hl.1 dL_law_1044 (c_X11_wire l D cy b6 x4 σ _ h) (ks_i (fun x11 σ10 h => ?_))
  refine x_aload_nq C dL_law_1047 rfl (lv_at hl 2 rfl) ?_
  refine x_aload_n C dL_law_1048 rfl (lv_at hl 0 rfl) ?_
  refine x_iload C dL_law_1049 (lv_at hl 4 rfl) ?_
  refine x_iconst (v := 1) C dL_law_1051 (by decide) ?_
  refine x_iadd C dL_law_1052 ?_
  refine x_topi (fun x12 e13 => ?_)
  have h := h x12 e13
  obtain ⟨g14, h⟩ := h
  refine x_sld C hX hbl g14 dL_law_1053 ?_
  refine x_topi (fun x15 e16 => ?_)
  have h := h x15 e16
  obtain ⟨b17, g18, h⟩ := h
  refine x_nn1 g18 ?_
  obtain ⟨g19, h⟩ := h
  obtain ⟨g20, h⟩ := h
  refine x_callV (rm := rm_X12_wire) (rest := [.int x11]) (As := [.int x15]) C cy_RL_157 g19 (by decide) g20 rfl rfl (Nat.le_of_ble_eq_true rfl) hl.1 dL_law_1054 (c_X12_wire l D cy b17 x15 σ10 _ h) (ks_i (fun x22 σ21 h => ?_))
  refine x_icmp_eq (tgt := 1369) C dL_law_1057 (by decide) (fun c23 => ?_) (fun c23 => ?_)
  · have h := h.1 c23
    exact t_L_law_1369 C hr hnm hlt Z Z2 hX hbl hLL hQ hL43 p1 p2 p3 p4 kc nc _ h ls (lv_sub hl [0, 1, 2, 3, 4] rfl)
  · have h := h.2 c23
    refine x_iconst (v := 0) C dL_law_1060 (by decide) ?_
    exact x_lawret C hr h.1 (hQ _ _ h.2) dL_law_1061
def b_L_law_1000 (L : Nat) (xs : Nat → Int32) (L43 : Option Nat × Option Nat × Option Nat × Int32 × Nat × Nat → Sto → Prop) (Q : Int32 → Sto → Prop) (p1 : Option Nat) (p2 : Option Nat) (p3 : Option Nat) (p4 : Int32) (kc : Nat) (nc : Nat) (σ : Sto) : Prop := (∀ x1 : Int32, x1 = p4 + (1 : Int32) → (vp_in x1 L ∧ (∀ x4 : Int32, x4 = xs x1.toNatClampNeg → (∀ x6 : Int32, x6 = p4 + (2 : Int32) → (vp_in x6 L ∧ (∀ x9 : Int32, x9 = xs x6.toNatClampNeg → (∃ b11 : Nat, p1 = some b11 ∧ (sK σ b11 = 11 ∧ ((kc ≤ 600128 ∧ nc ≤ 7301064) ∧ (wp_X11_message b11 x4 x9 σ (fun (x16 : Int32) (σ15 : Sto) => (∀ x17 : Int32, x17 = p4 + (1 : Int32) → (vp_in x17 L ∧ (∀ x20 : Int32, x20 = xs x17.toNatClampNeg → (∀ x22 : Int32, x22 = p4 + (2 : Int32) → (vp_in x22 L ∧ (∀ x25 : Int32, x25 = xs x22.toNatClampNeg → (∃ b27 : Nat, p2 = some b27 ∧ (sK σ15 b27 = 12 ∧ ((kc ≤ 600128 ∧ nc ≤ 7301064) ∧ (wp_X12_message b27 x20 x25 σ15 (fun (x32 : Int32) (σ31 : Sto) => ((x16 = x32 → b_L_law_1369 L xs L43 Q p1 p2 p3 p4 kc nc σ31) ∧ (¬ x16 = x32 → ((kc ≤ 600128 ∧ nc ≤ 7301064) ∧ Q (0 : Int32) σ31)))))))))))))))))))))))))
set_option maxHeartbeats 4000000 in
set_option maxRecDepth 100000 in
theorem t_L_law_1000 {p : Program} {l : Launch} {e : Env} {s : State} {m : MethodId} {below : List Frame} {meth : Method} {c : Code} {D : va_G} {cy : Nat → ClassId} {b L : Nat} {xs : Nat → Int32}  {L43 : Option Nat × Option Nat × Option Nat × Int32 × Nat × Nat → Sto → Prop} {Q : Int32 → Sto → Prop} (C : Cx p s m #[Value.ref b] meth c D cy (LA s) cL_law 7 RL) (hr : meth.sig.returnType = ret) (hnm : True) (hlt : l.stackTraces = false) (Z : ZW s) (Z2 : ZH (LA s) s s.heap) (hX : va_X b L xs s s.heap) (hbl : b < s.heap.size) (hLL : L < 2 ^ 31) (hQ : ∀ (v : Int32) (τ : Sto), Q v τ → v = 1) (hL43 : ∀ (t : Option Nat × Option Nat × Option Nat × Int32 × Nat × Nat) (σ : Sto), L43 t σ → ∀ ls : Array Slot, lv_has ls 7 [(0, .ref b), (1, va_rf t.1), (2, va_rf t.2.1), (3, va_rf t.2.2.1), (4, .int t.2.2.2.1)] → Xw p l e room_1 s m #[Value.ref b] below meth c D cy (LA s) σ t.2.2.2.2.1 t.2.2.2.2.2 (lw_Z below #[Value.ref b] s) (F0 m 43 ls [])) (p1 : Option Nat) (p2 : Option Nat) (p3 : Option Nat) (p4 : Int32) (kc : Nat) (nc : Nat) (σ : Sto) (h : b_L_law_1000 L xs L43 Q p1 p2 p3 p4 kc nc σ) (ls : Array Slot) (hl : lv_has ls 7 [(0, .ref b), (1, va_rf p1), (2, va_rf p2), (3, va_rf p3), (4, .int p4)]) : Xw p l e room_1 s m #[Value.ref b] below meth c D cy (LA s) σ kc nc (lw_Z below #[Value.ref b] s) (F0 m 1000 ls []) := by
  unfold b_L_law_1000 at h
  refine x_aload_nq C dL_law_1000 rfl (lv_at hl 1 rfl) ?_
  refine x_aload_n C dL_law_1001 rfl (lv_at hl 0 rfl) ?_
  refine x_iload C dL_law_1002 (lv_at hl 4 rfl) ?_
  refine x_iconst (v := 1) C dL_law_1004 (by decide) ?_
  refine x_iadd C dL_law_1005 ?_
  refine x_topi (fun x1 e2 => ?_)
  have h := h x1 e2
  obtain ⟨g3, h⟩ := h
  refine x_sld C hX hbl g3 dL_law_1006 ?_
  refine x_topi (fun x4 e5 => ?_)
  have h := h x4 e5
  refine x_aload_n C dL_law_1007 rfl (lv_at hl 0 rfl) ?_
  refine x_iload C dL_law_1008 (lv_at hl 4 rfl) ?_
  refine x_iconst (v := 2) C dL_law_1010 (by decide) ?_
  refine x_iadd C dL_law_1011 ?_
  refine x_topi (fun x6 e7 => ?_)
  have h := h x6 e7
  obtain ⟨g8, h⟩ := h
  refine x_sld C hX hbl g8 dL_law_1012 ?_
  refine x_topi (fun x9 e10 => ?_)
  have h := h x9 e10
  obtain ⟨b11, g12, h⟩ := h
  refine x_nn2 g12 ?_
  obtain ⟨g13, h⟩ := h
  obtain ⟨g14, h⟩ := h
  refine x_callV (rm := rm_X11_message) (rest := []) (As := [.int x4, .int x9]) C cy_RL_150 g13 (by decide) g14 rfl rfl (Nat.le_of_ble_eq_true rfl) hl.1 dL_law_1013 (c_X11_message l D cy b11 x4 x9 σ _ h) (ks_i (fun x16 σ15 h => ?_))
  refine x_aload_nq C dL_law_1016 rfl (lv_at hl 2 rfl) ?_
  refine x_aload_n C dL_law_1017 rfl (lv_at hl 0 rfl) ?_
  refine x_iload C dL_law_1018 (lv_at hl 4 rfl) ?_
  refine x_iconst (v := 1) C dL_law_1020 (by decide) ?_
  refine x_iadd C dL_law_1021 ?_
  refine x_topi (fun x17 e18 => ?_)
  have h := h x17 e18
  obtain ⟨g19, h⟩ := h
  refine x_sld C hX hbl g19 dL_law_1022 ?_
  refine x_topi (fun x20 e21 => ?_)
  have h := h x20 e21
  refine x_aload_n C dL_law_1023 rfl (lv_at hl 0 rfl) ?_
  refine x_iload C dL_law_1024 (lv_at hl 4 rfl) ?_
  refine x_iconst (v := 2) C dL_law_1026 (by decide) ?_
  refine x_iadd C dL_law_1027 ?_
  refine x_topi (fun x22 e23 => ?_)
  have h := h x22 e23
  obtain ⟨g24, h⟩ := h
  refine x_sld C hX hbl g24 dL_law_1028 ?_
  refine x_topi (fun x25 e26 => ?_)
  have h := h x25 e26
  obtain ⟨b27, g28, h⟩ := h
  refine x_nn2 g28 ?_
  obtain ⟨g29, h⟩ := h
  obtain ⟨g30, h⟩ := h
  refine x_callV (rm := rm_X12_message) (rest := [.int x16]) (As := [.int x20, .int x25]) C cy_RL_153 g29 (by decide) g30 rfl rfl (Nat.le_of_ble_eq_true rfl) hl.1 dL_law_1029 (c_X12_message l D cy b27 x20 x25 σ15 _ h) (ks_i (fun x32 σ31 h => ?_))
  refine x_icmp_eq (tgt := 1369) C dL_law_1032 (by decide) (fun c33 => ?_) (fun c33 => ?_)
  · have h := h.1 c33
    exact t_L_law_1369 C hr hnm hlt Z Z2 hX hbl hLL hQ hL43 p1 p2 p3 p4 kc nc _ h ls (lv_sub hl [0, 1, 2, 3, 4] rfl)
  · have h := h.2 c33
    refine x_iconst (v := 0) C dL_law_1035 (by decide) ?_
    exact x_lawret C hr h.1 (hQ _ _ h.2) dL_law_1036
def b_L_law_975 (L : Nat) (xs : Nat → Int32) (L43 : Option Nat × Option Nat × Option Nat × Int32 × Nat × Nat → Sto → Prop) (Q : Int32 → Sto → Prop) (p1 : Option Nat) (p2 : Option Nat) (p3 : Option Nat) (p4 : Int32) (kc : Nat) (nc : Nat) (σ : Sto) : Prop := (∀ x1 : Int32, x1 = p4 + (1 : Int32) → (vp_in x1 L ∧ (∀ x4 : Int32, x4 = xs x1.toNatClampNeg → (∃ b6 : Nat, p1 = some b6 ∧ (sK σ b6 = 11 ∧ ((kc ≤ 600128 ∧ nc ≤ 7301064) ∧ (wp_X11_about b6 x4 σ (fun (x11 : Int32) (σ10 : Sto) => (∀ x12 : Int32, x12 = p4 + (1 : Int32) → (vp_in x12 L ∧ (∀ x15 : Int32, x15 = xs x12.toNatClampNeg → (∃ b17 : Nat, p2 = some b17 ∧ (sK σ10 b17 = 12 ∧ ((kc ≤ 600128 ∧ nc ≤ 7301064) ∧ (wp_X12_about b17 x15 σ10 (fun (x22 : Int32) (σ21 : Sto) => ((x11 = x22 → b_L_law_1369 L xs L43 Q p1 p2 p3 p4 kc nc σ21) ∧ (¬ x11 = x22 → ((kc ≤ 600128 ∧ nc ≤ 7301064) ∧ Q (0 : Int32) σ21)))))))))))))))))))
set_option maxHeartbeats 4000000 in
set_option maxRecDepth 100000 in
theorem t_L_law_975 {p : Program} {l : Launch} {e : Env} {s : State} {m : MethodId} {below : List Frame} {meth : Method} {c : Code} {D : va_G} {cy : Nat → ClassId} {b L : Nat} {xs : Nat → Int32}  {L43 : Option Nat × Option Nat × Option Nat × Int32 × Nat × Nat → Sto → Prop} {Q : Int32 → Sto → Prop} (C : Cx p s m #[Value.ref b] meth c D cy (LA s) cL_law 7 RL) (hr : meth.sig.returnType = ret) (hnm : True) (hlt : l.stackTraces = false) (Z : ZW s) (Z2 : ZH (LA s) s s.heap) (hX : va_X b L xs s s.heap) (hbl : b < s.heap.size) (hLL : L < 2 ^ 31) (hQ : ∀ (v : Int32) (τ : Sto), Q v τ → v = 1) (hL43 : ∀ (t : Option Nat × Option Nat × Option Nat × Int32 × Nat × Nat) (σ : Sto), L43 t σ → ∀ ls : Array Slot, lv_has ls 7 [(0, .ref b), (1, va_rf t.1), (2, va_rf t.2.1), (3, va_rf t.2.2.1), (4, .int t.2.2.2.1)] → Xw p l e room_1 s m #[Value.ref b] below meth c D cy (LA s) σ t.2.2.2.2.1 t.2.2.2.2.2 (lw_Z below #[Value.ref b] s) (F0 m 43 ls [])) (p1 : Option Nat) (p2 : Option Nat) (p3 : Option Nat) (p4 : Int32) (kc : Nat) (nc : Nat) (σ : Sto) (h : b_L_law_975 L xs L43 Q p1 p2 p3 p4 kc nc σ) (ls : Array Slot) (hl : lv_has ls 7 [(0, .ref b), (1, va_rf p1), (2, va_rf p2), (3, va_rf p3), (4, .int p4)]) : Xw p l e room_1 s m #[Value.ref b] below meth c D cy (LA s) σ kc nc (lw_Z below #[Value.ref b] s) (F0 m 975 ls []) := by
  unfold b_L_law_975 at h
  refine x_aload_nq C dL_law_975 rfl (lv_at hl 1 rfl) ?_
  refine x_aload_n C dL_law_976 rfl (lv_at hl 0 rfl) ?_
  refine x_iload C dL_law_977 (lv_at hl 4 rfl) ?_
  refine x_iconst (v := 1) C dL_law_979 (by decide) ?_
  refine x_iadd C dL_law_980 ?_
  refine x_topi (fun x1 e2 => ?_)
  have h := h x1 e2
  obtain ⟨g3, h⟩ := h
  refine x_sld C hX hbl g3 dL_law_981 ?_
  refine x_topi (fun x4 e5 => ?_)
  have h := h x4 e5
  obtain ⟨b6, g7, h⟩ := h
  refine x_nn1 g7 ?_
  obtain ⟨g8, h⟩ := h
  obtain ⟨g9, h⟩ := h
  refine x_callV (rm := rm_X11_about) (rest := []) (As := [.int x4]) C cy_RL_146 g8 (by decide) g9 rfl rfl (Nat.le_of_ble_eq_true rfl) hl.1 dL_law_982 (c_X11_about l D cy b6 x4 σ _ h) (ks_i (fun x11 σ10 h => ?_))
  refine x_aload_nq C dL_law_985 rfl (lv_at hl 2 rfl) ?_
  refine x_aload_n C dL_law_986 rfl (lv_at hl 0 rfl) ?_
  refine x_iload C dL_law_987 (lv_at hl 4 rfl) ?_
  refine x_iconst (v := 1) C dL_law_989 (by decide) ?_
  refine x_iadd C dL_law_990 ?_
  refine x_topi (fun x12 e13 => ?_)
  have h := h x12 e13
  obtain ⟨g14, h⟩ := h
  refine x_sld C hX hbl g14 dL_law_991 ?_
  refine x_topi (fun x15 e16 => ?_)
  have h := h x15 e16
  obtain ⟨b17, g18, h⟩ := h
  refine x_nn1 g18 ?_
  obtain ⟨g19, h⟩ := h
  obtain ⟨g20, h⟩ := h
  refine x_callV (rm := rm_X12_about) (rest := [.int x11]) (As := [.int x15]) C cy_RL_149 g19 (by decide) g20 rfl rfl (Nat.le_of_ble_eq_true rfl) hl.1 dL_law_992 (c_X12_about l D cy b17 x15 σ10 _ h) (ks_i (fun x22 σ21 h => ?_))
  refine x_icmp_eq (tgt := 1369) C dL_law_995 (by decide) (fun c23 => ?_) (fun c23 => ?_)
  · have h := h.1 c23
    exact t_L_law_1369 C hr hnm hlt Z Z2 hX hbl hLL hQ hL43 p1 p2 p3 p4 kc nc _ h ls (lv_sub hl [0, 1, 2, 3, 4] rfl)
  · have h := h.2 c23
    refine x_iconst (v := 0) C dL_law_998 (by decide) ?_
    exact x_lawret C hr h.1 (hQ _ _ h.2) dL_law_999
def b_L_law_950 (L : Nat) (xs : Nat → Int32) (L43 : Option Nat × Option Nat × Option Nat × Int32 × Nat × Nat → Sto → Prop) (Q : Int32 → Sto → Prop) (p1 : Option Nat) (p2 : Option Nat) (p3 : Option Nat) (p4 : Int32) (kc : Nat) (nc : Nat) (σ : Sto) : Prop := (∀ x1 : Int32, x1 = p4 + (1 : Int32) → (vp_in x1 L ∧ (∀ x4 : Int32, x4 = xs x1.toNatClampNeg → (∃ b6 : Nat, p1 = some b6 ∧ (sK σ b6 = 11 ∧ ((kc ≤ 600128 ∧ nc ≤ 7301064) ∧ (wp_X11_answer b6 x4 σ (fun (x11 : Int32) (σ10 : Sto) => (∀ x12 : Int32, x12 = p4 + (1 : Int32) → (vp_in x12 L ∧ (∀ x15 : Int32, x15 = xs x12.toNatClampNeg → (∃ b17 : Nat, p2 = some b17 ∧ (sK σ10 b17 = 12 ∧ ((kc ≤ 600128 ∧ nc ≤ 7301064) ∧ (wp_X12_answer b17 x15 σ10 (fun (x22 : Int32) (σ21 : Sto) => ((x11 = x22 → b_L_law_1369 L xs L43 Q p1 p2 p3 p4 kc nc σ21) ∧ (¬ x11 = x22 → ((kc ≤ 600128 ∧ nc ≤ 7301064) ∧ Q (0 : Int32) σ21)))))))))))))))))))
set_option maxHeartbeats 4000000 in
set_option maxRecDepth 100000 in
theorem t_L_law_950 {p : Program} {l : Launch} {e : Env} {s : State} {m : MethodId} {below : List Frame} {meth : Method} {c : Code} {D : va_G} {cy : Nat → ClassId} {b L : Nat} {xs : Nat → Int32}  {L43 : Option Nat × Option Nat × Option Nat × Int32 × Nat × Nat → Sto → Prop} {Q : Int32 → Sto → Prop} (C : Cx p s m #[Value.ref b] meth c D cy (LA s) cL_law 7 RL) (hr : meth.sig.returnType = ret) (hnm : True) (hlt : l.stackTraces = false) (Z : ZW s) (Z2 : ZH (LA s) s s.heap) (hX : va_X b L xs s s.heap) (hbl : b < s.heap.size) (hLL : L < 2 ^ 31) (hQ : ∀ (v : Int32) (τ : Sto), Q v τ → v = 1) (hL43 : ∀ (t : Option Nat × Option Nat × Option Nat × Int32 × Nat × Nat) (σ : Sto), L43 t σ → ∀ ls : Array Slot, lv_has ls 7 [(0, .ref b), (1, va_rf t.1), (2, va_rf t.2.1), (3, va_rf t.2.2.1), (4, .int t.2.2.2.1)] → Xw p l e room_1 s m #[Value.ref b] below meth c D cy (LA s) σ t.2.2.2.2.1 t.2.2.2.2.2 (lw_Z below #[Value.ref b] s) (F0 m 43 ls [])) (p1 : Option Nat) (p2 : Option Nat) (p3 : Option Nat) (p4 : Int32) (kc : Nat) (nc : Nat) (σ : Sto) (h : b_L_law_950 L xs L43 Q p1 p2 p3 p4 kc nc σ) (ls : Array Slot) (hl : lv_has ls 7 [(0, .ref b), (1, va_rf p1), (2, va_rf p2), (3, va_rf p3), (4, .int p4)]) : Xw p l e room_1 s m #[Value.ref b] below meth c D cy (LA s) σ kc nc (lw_Z below #[Value.ref b] s) (F0 m 950 ls []) := by
  unfold b_L_law_950 at h
  refine x_aload_nq C dL_law_950 rfl (lv_at hl 1 rfl) ?_
  refine x_aload_n C dL_law_951 rfl (lv_at hl 0 rfl) ?_
  refine x_iload C dL_law_952 (lv_at hl 4 rfl) ?_
  refine x_iconst (v := 1) C dL_law_954 (by decide) ?_
  refine x_iadd C dL_law_955 ?_
  refine x_topi (fun x1 e2 => ?_)
  have h := h x1 e2
  obtain ⟨g3, h⟩ := h
  refine x_sld C hX hbl g3 dL_law_956 ?_
  refine x_topi (fun x4 e5 => ?_)
  have h := h x4 e5
  obtain ⟨b6, g7, h⟩ := h
  refine x_nn1 g7 ?_
  obtain ⟨g8, h⟩ := h
  obtain ⟨g9, h⟩ := h
  refine x_callV (rm := rm_X11_answer) (rest := []) (As := [.int x4]) C cy_RL_142 g8 (by decide) g9 rfl rfl (Nat.le_of_ble_eq_true rfl) hl.1 dL_law_957 (c_X11_answer l D cy b6 x4 σ _ h) (ks_i (fun x11 σ10 h => ?_))
  refine x_aload_nq C dL_law_960 rfl (lv_at hl 2 rfl) ?_
  refine x_aload_n C dL_law_961 rfl (lv_at hl 0 rfl) ?_
  refine x_iload C dL_law_962 (lv_at hl 4 rfl) ?_
  refine x_iconst (v := 1) C dL_law_964 (by decide) ?_
  refine x_iadd C dL_law_965 ?_
  refine x_topi (fun x12 e13 => ?_)
  have h := h x12 e13
  obtain ⟨g14, h⟩ := h
  refine x_sld C hX hbl g14 dL_law_966 ?_
  refine x_topi (fun x15 e16 => ?_)
  have h := h x15 e16
  obtain ⟨b17, g18, h⟩ := h
  refine x_nn1 g18 ?_
  obtain ⟨g19, h⟩ := h
  obtain ⟨g20, h⟩ := h
  refine x_callV (rm := rm_X12_answer) (rest := [.int x11]) (As := [.int x15]) C cy_RL_145 g19 (by decide) g20 rfl rfl (Nat.le_of_ble_eq_true rfl) hl.1 dL_law_967 (c_X12_answer l D cy b17 x15 σ10 _ h) (ks_i (fun x22 σ21 h => ?_))
  refine x_icmp_eq (tgt := 1369) C dL_law_970 (by decide) (fun c23 => ?_) (fun c23 => ?_)
  · have h := h.1 c23
    exact t_L_law_1369 C hr hnm hlt Z Z2 hX hbl hLL hQ hL43 p1 p2 p3 p4 kc nc _ h ls (lv_sub hl [0, 1, 2, 3, 4] rfl)
  · have h := h.2 c23
    refine x_iconst (v := 0) C dL_law_973 (by decide) ?_
    exact x_lawret C hr h.1 (hQ _ _ h.2) dL_law_974
def b_L_law_913 (L : Nat) (xs : Nat → Int32) (L43 : Option Nat × Option Nat × Option Nat × Int32 × Nat × Nat → Sto → Prop) (Q : Int32 → Sto → Prop) (p1 : Option Nat) (p2 : Option Nat) (p3 : Option Nat) (p4 : Int32) (kc : Nat) (nc : Nat) (σ : Sto) : Prop := (∀ x1 : Int32, x1 = p4 + (1 : Int32) → (vp_in x1 L ∧ (∀ x4 : Int32, x4 = xs x1.toNatClampNeg → (∀ x6 : Int32, x6 = p4 + (2 : Int32) → (vp_in x6 L ∧ (∀ x9 : Int32, x9 = xs x6.toNatClampNeg → (∃ b11 : Nat, p1 = some b11 ∧ (sK σ b11 = 11 ∧ ((kc ≤ 600128 ∧ nc ≤ 7301064) ∧ (wp_X11_client b11 x4 x9 σ (fun (x16 : Int32) (σ15 : Sto) => (∀ x17 : Int32, x17 = p4 + (1 : Int32) → (vp_in x17 L ∧ (∀ x20 : Int32, x20 = xs x17.toNatClampNeg → (∀ x22 : Int32, x22 = p4 + (2 : Int32) → (vp_in x22 L ∧ (∀ x25 : Int32, x25 = xs x22.toNatClampNeg → (∃ b27 : Nat, p2 = some b27 ∧ (sK σ15 b27 = 12 ∧ ((kc ≤ 600128 ∧ nc ≤ 7301064) ∧ (wp_X12_client b27 x20 x25 σ15 (fun (x32 : Int32) (σ31 : Sto) => ((x16 = x32 → b_L_law_1369 L xs L43 Q p1 p2 p3 p4 kc nc σ31) ∧ (¬ x16 = x32 → ((kc ≤ 600128 ∧ nc ≤ 7301064) ∧ Q (0 : Int32) σ31)))))))))))))))))))))))))
set_option maxHeartbeats 4000000 in
set_option maxRecDepth 100000 in
theorem t_L_law_913 {p : Program} {l : Launch} {e : Env} {s : State} {m : MethodId} {below : List Frame} {meth : Method} {c : Code} {D : va_G} {cy : Nat → ClassId} {b L : Nat} {xs : Nat → Int32}  {L43 : Option Nat × Option Nat × Option Nat × Int32 × Nat × Nat → Sto → Prop} {Q : Int32 → Sto → Prop} (C : Cx p s m #[Value.ref b] meth c D cy (LA s) cL_law 7 RL) (hr : meth.sig.returnType = ret) (hnm : True) (hlt : l.stackTraces = false) (Z : ZW s) (Z2 : ZH (LA s) s s.heap) (hX : va_X b L xs s s.heap) (hbl : b < s.heap.size) (hLL : L < 2 ^ 31) (hQ : ∀ (v : Int32) (τ : Sto), Q v τ → v = 1) (hL43 : ∀ (t : Option Nat × Option Nat × Option Nat × Int32 × Nat × Nat) (σ : Sto), L43 t σ → ∀ ls : Array Slot, lv_has ls 7 [(0, .ref b), (1, va_rf t.1), (2, va_rf t.2.1), (3, va_rf t.2.2.1), (4, .int t.2.2.2.1)] → Xw p l e room_1 s m #[Value.ref b] below meth c D cy (LA s) σ t.2.2.2.2.1 t.2.2.2.2.2 (lw_Z below #[Value.ref b] s) (F0 m 43 ls [])) (p1 : Option Nat) (p2 : Option Nat) (p3 : Option Nat) (p4 : Int32) (kc : Nat) (nc : Nat) (σ : Sto) (h : b_L_law_913 L xs L43 Q p1 p2 p3 p4 kc nc σ) (ls : Array Slot) (hl : lv_has ls 7 [(0, .ref b), (1, va_rf p1), (2, va_rf p2), (3, va_rf p3), (4, .int p4)]) : Xw p l e room_1 s m #[Value.ref b] below meth c D cy (LA s) σ kc nc (lw_Z below #[Value.ref b] s) (F0 m 913 ls []) := by
  unfold b_L_law_913 at h
  refine x_aload_nq C dL_law_913 rfl (lv_at hl 1 rfl) ?_
  refine x_aload_n C dL_law_914 rfl (lv_at hl 0 rfl) ?_
  refine x_iload C dL_law_915 (lv_at hl 4 rfl) ?_
  refine x_iconst (v := 1) C dL_law_917 (by decide) ?_
  refine x_iadd C dL_law_918 ?_
  refine x_topi (fun x1 e2 => ?_)
  have h := h x1 e2
  obtain ⟨g3, h⟩ := h
  refine x_sld C hX hbl g3 dL_law_919 ?_
  refine x_topi (fun x4 e5 => ?_)
  have h := h x4 e5
  refine x_aload_n C dL_law_920 rfl (lv_at hl 0 rfl) ?_
  refine x_iload C dL_law_921 (lv_at hl 4 rfl) ?_
  refine x_iconst (v := 2) C dL_law_923 (by decide) ?_
  refine x_iadd C dL_law_924 ?_
  refine x_topi (fun x6 e7 => ?_)
  have h := h x6 e7
  obtain ⟨g8, h⟩ := h
  refine x_sld C hX hbl g8 dL_law_925 ?_
  refine x_topi (fun x9 e10 => ?_)
  have h := h x9 e10
  obtain ⟨b11, g12, h⟩ := h
  refine x_nn2 g12 ?_
  obtain ⟨g13, h⟩ := h
  obtain ⟨g14, h⟩ := h
  refine x_callV (rm := rm_X11_client) (rest := []) (As := [.int x4, .int x9]) C cy_RL_138 g13 (by decide) g14 rfl rfl (Nat.le_of_ble_eq_true rfl) hl.1 dL_law_926 (c_X11_client l D cy b11 x4 x9 σ _ h) (ks_i (fun x16 σ15 h => ?_))
  refine x_aload_nq C dL_law_929 rfl (lv_at hl 2 rfl) ?_
  refine x_aload_n C dL_law_930 rfl (lv_at hl 0 rfl) ?_
  refine x_iload C dL_law_931 (lv_at hl 4 rfl) ?_
  refine x_iconst (v := 1) C dL_law_933 (by decide) ?_
  refine x_iadd C dL_law_934 ?_
  refine x_topi (fun x17 e18 => ?_)
  have h := h x17 e18
  obtain ⟨g19, h⟩ := h
  refine x_sld C hX hbl g19 dL_law_935 ?_
  refine x_topi (fun x20 e21 => ?_)
  have h := h x20 e21
  refine x_aload_n C dL_law_936 rfl (lv_at hl 0 rfl) ?_
  refine x_iload C dL_law_937 (lv_at hl 4 rfl) ?_
  refine x_iconst (v := 2) C dL_law_939 (by decide) ?_
  refine x_iadd C dL_law_940 ?_
  refine x_topi (fun x22 e23 => ?_)
  have h := h x22 e23
  obtain ⟨g24, h⟩ := h
  refine x_sld C hX hbl g24 dL_law_941 ?_
  refine x_topi (fun x25 e26 => ?_)
  have h := h x25 e26
  obtain ⟨b27, g28, h⟩ := h
  refine x_nn2 g28 ?_
  obtain ⟨g29, h⟩ := h
  obtain ⟨g30, h⟩ := h
  refine x_callV (rm := rm_X12_client) (rest := [.int x16]) (As := [.int x20, .int x25]) C cy_RL_141 g29 (by decide) g30 rfl rfl (Nat.le_of_ble_eq_true rfl) hl.1 dL_law_942 (c_X12_client l D cy b27 x20 x25 σ15 _ h) (ks_i (fun x32 σ31 h => ?_))
  refine x_icmp_eq (tgt := 1369) C dL_law_945 (by decide) (fun c33 => ?_) (fun c33 => ?_)
  · have h := h.1 c33
    exact t_L_law_1369 C hr hnm hlt Z Z2 hX hbl hLL hQ hL43 p1 p2 p3 p4 kc nc _ h ls (lv_sub hl [0, 1, 2, 3, 4] rfl)
  · have h := h.2 c33
    refine x_iconst (v := 0) C dL_law_948 (by decide) ?_
    exact x_lawret C hr h.1 (hQ _ _ h.2) dL_law_949
def b_L_law_876 (L : Nat) (xs : Nat → Int32) (L43 : Option Nat × Option Nat × Option Nat × Int32 × Nat × Nat → Sto → Prop) (Q : Int32 → Sto → Prop) (p1 : Option Nat) (p2 : Option Nat) (p3 : Option Nat) (p4 : Int32) (kc : Nat) (nc : Nat) (σ : Sto) : Prop := (∀ x1 : Int32, x1 = p4 + (1 : Int32) → (vp_in x1 L ∧ (∀ x4 : Int32, x4 = xs x1.toNatClampNeg → (∀ x6 : Int32, x6 = p4 + (2 : Int32) → (vp_in x6 L ∧ (∀ x9 : Int32, x9 = xs x6.toNatClampNeg → (∃ b11 : Nat, p1 = some b11 ∧ (sK σ b11 = 11 ∧ ((kc ≤ 600128 ∧ nc ≤ 7301064) ∧ (wp_X11_word b11 x4 x9 σ (fun (x16 : Int32) (σ15 : Sto) => (∀ x17 : Int32, x17 = p4 + (1 : Int32) → (vp_in x17 L ∧ (∀ x20 : Int32, x20 = xs x17.toNatClampNeg → (∀ x22 : Int32, x22 = p4 + (2 : Int32) → (vp_in x22 L ∧ (∀ x25 : Int32, x25 = xs x22.toNatClampNeg → (∃ b27 : Nat, p2 = some b27 ∧ (sK σ15 b27 = 12 ∧ ((kc ≤ 600128 ∧ nc ≤ 7301064) ∧ (wp_X12_word b27 x20 x25 σ15 (fun (x32 : Int32) (σ31 : Sto) => ((x16 = x32 → b_L_law_1369 L xs L43 Q p1 p2 p3 p4 kc nc σ31) ∧ (¬ x16 = x32 → ((kc ≤ 600128 ∧ nc ≤ 7301064) ∧ Q (0 : Int32) σ31)))))))))))))))))))))))))
set_option maxHeartbeats 4000000 in
set_option maxRecDepth 100000 in
theorem t_L_law_876 {p : Program} {l : Launch} {e : Env} {s : State} {m : MethodId} {below : List Frame} {meth : Method} {c : Code} {D : va_G} {cy : Nat → ClassId} {b L : Nat} {xs : Nat → Int32}  {L43 : Option Nat × Option Nat × Option Nat × Int32 × Nat × Nat → Sto → Prop} {Q : Int32 → Sto → Prop} (C : Cx p s m #[Value.ref b] meth c D cy (LA s) cL_law 7 RL) (hr : meth.sig.returnType = ret) (hnm : True) (hlt : l.stackTraces = false) (Z : ZW s) (Z2 : ZH (LA s) s s.heap) (hX : va_X b L xs s s.heap) (hbl : b < s.heap.size) (hLL : L < 2 ^ 31) (hQ : ∀ (v : Int32) (τ : Sto), Q v τ → v = 1) (hL43 : ∀ (t : Option Nat × Option Nat × Option Nat × Int32 × Nat × Nat) (σ : Sto), L43 t σ → ∀ ls : Array Slot, lv_has ls 7 [(0, .ref b), (1, va_rf t.1), (2, va_rf t.2.1), (3, va_rf t.2.2.1), (4, .int t.2.2.2.1)] → Xw p l e room_1 s m #[Value.ref b] below meth c D cy (LA s) σ t.2.2.2.2.1 t.2.2.2.2.2 (lw_Z below #[Value.ref b] s) (F0 m 43 ls [])) (p1 : Option Nat) (p2 : Option Nat) (p3 : Option Nat) (p4 : Int32) (kc : Nat) (nc : Nat) (σ : Sto) (h : b_L_law_876 L xs L43 Q p1 p2 p3 p4 kc nc σ) (ls : Array Slot) (hl : lv_has ls 7 [(0, .ref b), (1, va_rf p1), (2, va_rf p2), (3, va_rf p3), (4, .int p4)]) : Xw p l e room_1 s m #[Value.ref b] below meth c D cy (LA s) σ kc nc (lw_Z below #[Value.ref b] s) (F0 m 876 ls []) := by
  unfold b_L_law_876 at h
  refine x_aload_nq C dL_law_876 rfl (lv_at hl 1 rfl) ?_
  refine x_aload_n C dL_law_877 rfl (lv_at hl 0 rfl) ?_
  refine x_iload C dL_law_878 (lv_at hl 4 rfl) ?_
  refine x_iconst (v := 1) C dL_law_880 (by decide) ?_
  refine x_iadd C dL_law_881 ?_
  refine x_topi (fun x1 e2 => ?_)
  have h := h x1 e2
  obtain ⟨g3, h⟩ := h
  refine x_sld C hX hbl g3 dL_law_882 ?_
  refine x_topi (fun x4 e5 => ?_)
  have h := h x4 e5
  refine x_aload_n C dL_law_883 rfl (lv_at hl 0 rfl) ?_
  refine x_iload C dL_law_884 (lv_at hl 4 rfl) ?_
  refine x_iconst (v := 2) C dL_law_886 (by decide) ?_
  refine x_iadd C dL_law_887 ?_
  refine x_topi (fun x6 e7 => ?_)
  have h := h x6 e7
  obtain ⟨g8, h⟩ := h
  refine x_sld C hX hbl g8 dL_law_888 ?_
  refine x_topi (fun x9 e10 => ?_)
  have h := h x9 e10
  obtain ⟨b11, g12, h⟩ := h
  refine x_nn2 g12 ?_
  obtain ⟨g13, h⟩ := h
  obtain ⟨g14, h⟩ := h
  refine x_callV (rm := rm_X11_word) (rest := []) (As := [.int x4, .int x9]) C cy_RL_134 g13 (by decide) g14 rfl rfl (Nat.le_of_ble_eq_true rfl) hl.1 dL_law_889 (c_X11_word l D cy b11 x4 x9 σ _ h) (ks_i (fun x16 σ15 h => ?_))
  refine x_aload_nq C dL_law_892 rfl (lv_at hl 2 rfl) ?_
  refine x_aload_n C dL_law_893 rfl (lv_at hl 0 rfl) ?_
  refine x_iload C dL_law_894 (lv_at hl 4 rfl) ?_
  refine x_iconst (v := 1) C dL_law_896 (by decide) ?_
  refine x_iadd C dL_law_897 ?_
  refine x_topi (fun x17 e18 => ?_)
  have h := h x17 e18
  obtain ⟨g19, h⟩ := h
  refine x_sld C hX hbl g19 dL_law_898 ?_
  refine x_topi (fun x20 e21 => ?_)
  have h := h x20 e21
  refine x_aload_n C dL_law_899 rfl (lv_at hl 0 rfl) ?_
  refine x_iload C dL_law_900 (lv_at hl 4 rfl) ?_
  refine x_iconst (v := 2) C dL_law_902 (by decide) ?_
  refine x_iadd C dL_law_903 ?_
  refine x_topi (fun x22 e23 => ?_)
  have h := h x22 e23
  obtain ⟨g24, h⟩ := h
  refine x_sld C hX hbl g24 dL_law_904 ?_
  refine x_topi (fun x25 e26 => ?_)
  have h := h x25 e26
  obtain ⟨b27, g28, h⟩ := h
  refine x_nn2 g28 ?_
  obtain ⟨g29, h⟩ := h
  obtain ⟨g30, h⟩ := h
  refine x_callV (rm := rm_X12_word) (rest := [.int x16]) (As := [.int x20, .int x25]) C cy_RL_137 g29 (by decide) g30 rfl rfl (Nat.le_of_ble_eq_true rfl) hl.1 dL_law_905 (c_X12_word l D cy b27 x20 x25 σ15 _ h) (ks_i (fun x32 σ31 h => ?_))
  refine x_icmp_eq (tgt := 1369) C dL_law_908 (by decide) (fun c33 => ?_) (fun c33 => ?_)
  · have h := h.1 c33
    exact t_L_law_1369 C hr hnm hlt Z Z2 hX hbl hLL hQ hL43 p1 p2 p3 p4 kc nc _ h ls (lv_sub hl [0, 1, 2, 3, 4] rfl)
  · have h := h.2 c33
    refine x_iconst (v := 0) C dL_law_911 (by decide) ?_
    exact x_lawret C hr h.1 (hQ _ _ h.2) dL_law_912
def b_L_law_827 (L : Nat) (xs : Nat → Int32) (L43 : Option Nat × Option Nat × Option Nat × Int32 × Nat × Nat → Sto → Prop) (Q : Int32 → Sto → Prop) (p1 : Option Nat) (p2 : Option Nat) (p3 : Option Nat) (p4 : Int32) (kc : Nat) (nc : Nat) (σ : Sto) : Prop := (∀ x1 : Int32, x1 = p4 + (1 : Int32) → (vp_in x1 L ∧ (∀ x4 : Int32, x4 = xs x1.toNatClampNeg → (∀ x6 : Int32, x6 = p4 + (2 : Int32) → (vp_in x6 L ∧ (∀ x9 : Int32, x9 = xs x6.toNatClampNeg → (∀ x11 : Int32, x11 = p4 + (3 : Int32) → (vp_in x11 L ∧ (∀ x14 : Int32, x14 = xs x11.toNatClampNeg → (∃ b16 : Nat, p1 = some b16 ∧ (sK σ b16 = 11 ∧ ((kc ≤ 600128 ∧ nc ≤ 7301064) ∧ (wp_X11_entry b16 x4 x9 x14 σ (fun (x21 : Int32) (σ20 : Sto) => (∀ x22 : Int32, x22 = p4 + (1 : Int32) → (vp_in x22 L ∧ (∀ x25 : Int32, x25 = xs x22.toNatClampNeg → (∀ x27 : Int32, x27 = p4 + (2 : Int32) → (vp_in x27 L ∧ (∀ x30 : Int32, x30 = xs x27.toNatClampNeg → (∀ x32 : Int32, x32 = p4 + (3 : Int32) → (vp_in x32 L ∧ (∀ x35 : Int32, x35 = xs x32.toNatClampNeg → (∃ b37 : Nat, p2 = some b37 ∧ (sK σ20 b37 = 12 ∧ ((kc ≤ 600128 ∧ nc ≤ 7301064) ∧ (wp_X12_entry b37 x25 x30 x35 σ20 (fun (x42 : Int32) (σ41 : Sto) => ((x21 = x42 → b_L_law_1369 L xs L43 Q p1 p2 p3 p4 kc nc σ41) ∧ (¬ x21 = x42 → ((kc ≤ 600128 ∧ nc ≤ 7301064) ∧ Q (0 : Int32) σ41)))))))))))))))))))))))))))))))
set_option maxHeartbeats 4000000 in
set_option maxRecDepth 100000 in
theorem t_L_law_827 {p : Program} {l : Launch} {e : Env} {s : State} {m : MethodId} {below : List Frame} {meth : Method} {c : Code} {D : va_G} {cy : Nat → ClassId} {b L : Nat} {xs : Nat → Int32}  {L43 : Option Nat × Option Nat × Option Nat × Int32 × Nat × Nat → Sto → Prop} {Q : Int32 → Sto → Prop} (C : Cx p s m #[Value.ref b] meth c D cy (LA s) cL_law 7 RL) (hr : meth.sig.returnType = ret) (hnm : True) (hlt : l.stackTraces = false) (Z : ZW s) (Z2 : ZH (LA s) s s.heap) (hX : va_X b L xs s s.heap) (hbl : b < s.heap.size) (hLL : L < 2 ^ 31) (hQ : ∀ (v : Int32) (τ : Sto), Q v τ → v = 1) (hL43 : ∀ (t : Option Nat × Option Nat × Option Nat × Int32 × Nat × Nat) (σ : Sto), L43 t σ → ∀ ls : Array Slot, lv_has ls 7 [(0, .ref b), (1, va_rf t.1), (2, va_rf t.2.1), (3, va_rf t.2.2.1), (4, .int t.2.2.2.1)] → Xw p l e room_1 s m #[Value.ref b] below meth c D cy (LA s) σ t.2.2.2.2.1 t.2.2.2.2.2 (lw_Z below #[Value.ref b] s) (F0 m 43 ls [])) (p1 : Option Nat) (p2 : Option Nat) (p3 : Option Nat) (p4 : Int32) (kc : Nat) (nc : Nat) (σ : Sto) (h : b_L_law_827 L xs L43 Q p1 p2 p3 p4 kc nc σ) (ls : Array Slot) (hl : lv_has ls 7 [(0, .ref b), (1, va_rf p1), (2, va_rf p2), (3, va_rf p3), (4, .int p4)]) : Xw p l e room_1 s m #[Value.ref b] below meth c D cy (LA s) σ kc nc (lw_Z below #[Value.ref b] s) (F0 m 827 ls []) := by
  unfold b_L_law_827 at h
  refine x_aload_nq C dL_law_827 rfl (lv_at hl 1 rfl) ?_
  refine x_aload_n C dL_law_828 rfl (lv_at hl 0 rfl) ?_
  refine x_iload C dL_law_829 (lv_at hl 4 rfl) ?_
  refine x_iconst (v := 1) C dL_law_831 (by decide) ?_
  refine x_iadd C dL_law_832 ?_
  refine x_topi (fun x1 e2 => ?_)
  have h := h x1 e2
  obtain ⟨g3, h⟩ := h
  refine x_sld C hX hbl g3 dL_law_833 ?_
  refine x_topi (fun x4 e5 => ?_)
  have h := h x4 e5
  refine x_aload_n C dL_law_834 rfl (lv_at hl 0 rfl) ?_
  refine x_iload C dL_law_835 (lv_at hl 4 rfl) ?_
  refine x_iconst (v := 2) C dL_law_837 (by decide) ?_
  refine x_iadd C dL_law_838 ?_
  refine x_topi (fun x6 e7 => ?_)
  have h := h x6 e7
  obtain ⟨g8, h⟩ := h
  refine x_sld C hX hbl g8 dL_law_839 ?_
  refine x_topi (fun x9 e10 => ?_)
  have h := h x9 e10
  refine x_aload_n C dL_law_840 rfl (lv_at hl 0 rfl) ?_
  refine x_iload C dL_law_841 (lv_at hl 4 rfl) ?_
  refine x_iconst (v := 3) C dL_law_843 (by decide) ?_
  refine x_iadd C dL_law_844 ?_
  refine x_topi (fun x11 e12 => ?_)
  have h := h x11 e12
  obtain ⟨g13, h⟩ := h
  refine x_sld C hX hbl g13 dL_law_845 ?_
  refine x_topi (fun x14 e15 => ?_)
  have h := h x14 e15
  obtain ⟨b16, g17, h⟩ := h
  refine x_nn3 g17 ?_
  obtain ⟨g18, h⟩ := h
  obtain ⟨g19, h⟩ := h
  refine x_callV (rm := rm_X11_entry) (rest := []) (As := [.int x4, .int x9, .int x14]) C cy_RL_129 g18 (by decide) g19 rfl rfl (Nat.le_of_ble_eq_true rfl) hl.1 dL_law_846 (c_X11_entry l D cy b16 x4 x9 x14 σ _ h) (ks_i (fun x21 σ20 h => ?_))
  refine x_aload_nq C dL_law_849 rfl (lv_at hl 2 rfl) ?_
  refine x_aload_n C dL_law_850 rfl (lv_at hl 0 rfl) ?_
  refine x_iload C dL_law_851 (lv_at hl 4 rfl) ?_
  refine x_iconst (v := 1) C dL_law_853 (by decide) ?_
  refine x_iadd C dL_law_854 ?_
  refine x_topi (fun x22 e23 => ?_)
  have h := h x22 e23
  obtain ⟨g24, h⟩ := h
  refine x_sld C hX hbl g24 dL_law_855 ?_
  refine x_topi (fun x25 e26 => ?_)
  have h := h x25 e26
  refine x_aload_n C dL_law_856 rfl (lv_at hl 0 rfl) ?_
  refine x_iload C dL_law_857 (lv_at hl 4 rfl) ?_
  refine x_iconst (v := 2) C dL_law_859 (by decide) ?_
  refine x_iadd C dL_law_860 ?_
  refine x_topi (fun x27 e28 => ?_)
  have h := h x27 e28
  obtain ⟨g29, h⟩ := h
  refine x_sld C hX hbl g29 dL_law_861 ?_
  refine x_topi (fun x30 e31 => ?_)
  have h := h x30 e31
  refine x_aload_n C dL_law_862 rfl (lv_at hl 0 rfl) ?_
  refine x_iload C dL_law_863 (lv_at hl 4 rfl) ?_
  refine x_iconst (v := 3) C dL_law_865 (by decide) ?_
  refine x_iadd C dL_law_866 ?_
  refine x_topi (fun x32 e33 => ?_)
  have h := h x32 e33
  obtain ⟨g34, h⟩ := h
  refine x_sld C hX hbl g34 dL_law_867 ?_
  refine x_topi (fun x35 e36 => ?_)
  have h := h x35 e36
  obtain ⟨b37, g38, h⟩ := h
  refine x_nn3 g38 ?_
  obtain ⟨g39, h⟩ := h
  obtain ⟨g40, h⟩ := h
  refine x_callV (rm := rm_X12_entry) (rest := [.int x21]) (As := [.int x25, .int x30, .int x35]) C cy_RL_133 g39 (by decide) g40 rfl rfl (Nat.le_of_ble_eq_true rfl) hl.1 dL_law_868 (c_X12_entry l D cy b37 x25 x30 x35 σ20 _ h) (ks_i (fun x42 σ41 h => ?_))
  refine x_icmp_eq (tgt := 1369) C dL_law_871 (by decide) (fun c43 => ?_) (fun c43 => ?_)
  · have h := h.1 c43
    exact t_L_law_1369 C hr hnm hlt Z Z2 hX hbl hLL hQ hL43 p1 p2 p3 p4 kc nc _ h ls (lv_sub hl [0, 1, 2, 3, 4] rfl)
  · have h := h.2 c43
    refine x_iconst (v := 0) C dL_law_874 (by decide) ?_
    exact x_lawret C hr h.1 (hQ _ _ h.2) dL_law_875
def b_L_law_790 (L : Nat) (xs : Nat → Int32) (L43 : Option Nat × Option Nat × Option Nat × Int32 × Nat × Nat → Sto → Prop) (Q : Int32 → Sto → Prop) (p1 : Option Nat) (p2 : Option Nat) (p3 : Option Nat) (p4 : Int32) (kc : Nat) (nc : Nat) (σ : Sto) : Prop := (∀ x1 : Int32, x1 = p4 + (1 : Int32) → (vp_in x1 L ∧ (∀ x4 : Int32, x4 = xs x1.toNatClampNeg → (∀ x6 : Int32, x6 = p4 + (2 : Int32) → (vp_in x6 L ∧ (∀ x9 : Int32, x9 = xs x6.toNatClampNeg → (∃ b11 : Nat, p1 = some b11 ∧ (sK σ b11 = 11 ∧ ((kc ≤ 600128 ∧ nc ≤ 7301064) ∧ (wp_X11_replica b11 x4 x9 σ (fun (x16 : Int32) (σ15 : Sto) => (∀ x17 : Int32, x17 = p4 + (1 : Int32) → (vp_in x17 L ∧ (∀ x20 : Int32, x20 = xs x17.toNatClampNeg → (∀ x22 : Int32, x22 = p4 + (2 : Int32) → (vp_in x22 L ∧ (∀ x25 : Int32, x25 = xs x22.toNatClampNeg → (∃ b27 : Nat, p2 = some b27 ∧ (sK σ15 b27 = 12 ∧ ((kc ≤ 600128 ∧ nc ≤ 7301064) ∧ (wp_X12_replica b27 x20 x25 σ15 (fun (x32 : Int32) (σ31 : Sto) => ((x16 = x32 → b_L_law_1369 L xs L43 Q p1 p2 p3 p4 kc nc σ31) ∧ (¬ x16 = x32 → ((kc ≤ 600128 ∧ nc ≤ 7301064) ∧ Q (0 : Int32) σ31)))))))))))))))))))))))))
set_option maxHeartbeats 4000000 in
set_option maxRecDepth 100000 in
theorem t_L_law_790 {p : Program} {l : Launch} {e : Env} {s : State} {m : MethodId} {below : List Frame} {meth : Method} {c : Code} {D : va_G} {cy : Nat → ClassId} {b L : Nat} {xs : Nat → Int32}  {L43 : Option Nat × Option Nat × Option Nat × Int32 × Nat × Nat → Sto → Prop} {Q : Int32 → Sto → Prop} (C : Cx p s m #[Value.ref b] meth c D cy (LA s) cL_law 7 RL) (hr : meth.sig.returnType = ret) (hnm : True) (hlt : l.stackTraces = false) (Z : ZW s) (Z2 : ZH (LA s) s s.heap) (hX : va_X b L xs s s.heap) (hbl : b < s.heap.size) (hLL : L < 2 ^ 31) (hQ : ∀ (v : Int32) (τ : Sto), Q v τ → v = 1) (hL43 : ∀ (t : Option Nat × Option Nat × Option Nat × Int32 × Nat × Nat) (σ : Sto), L43 t σ → ∀ ls : Array Slot, lv_has ls 7 [(0, .ref b), (1, va_rf t.1), (2, va_rf t.2.1), (3, va_rf t.2.2.1), (4, .int t.2.2.2.1)] → Xw p l e room_1 s m #[Value.ref b] below meth c D cy (LA s) σ t.2.2.2.2.1 t.2.2.2.2.2 (lw_Z below #[Value.ref b] s) (F0 m 43 ls [])) (p1 : Option Nat) (p2 : Option Nat) (p3 : Option Nat) (p4 : Int32) (kc : Nat) (nc : Nat) (σ : Sto) (h : b_L_law_790 L xs L43 Q p1 p2 p3 p4 kc nc σ) (ls : Array Slot) (hl : lv_has ls 7 [(0, .ref b), (1, va_rf p1), (2, va_rf p2), (3, va_rf p3), (4, .int p4)]) : Xw p l e room_1 s m #[Value.ref b] below meth c D cy (LA s) σ kc nc (lw_Z below #[Value.ref b] s) (F0 m 790 ls []) := by
  unfold b_L_law_790 at h
  refine x_aload_nq C dL_law_790 rfl (lv_at hl 1 rfl) ?_
  refine x_aload_n C dL_law_791 rfl (lv_at hl 0 rfl) ?_
  refine x_iload C dL_law_792 (lv_at hl 4 rfl) ?_
  refine x_iconst (v := 1) C dL_law_794 (by decide) ?_
  refine x_iadd C dL_law_795 ?_
  refine x_topi (fun x1 e2 => ?_)
  have h := h x1 e2
  obtain ⟨g3, h⟩ := h
  refine x_sld C hX hbl g3 dL_law_796 ?_
  refine x_topi (fun x4 e5 => ?_)
  have h := h x4 e5
  refine x_aload_n C dL_law_797 rfl (lv_at hl 0 rfl) ?_
  refine x_iload C dL_law_798 (lv_at hl 4 rfl) ?_
  refine x_iconst (v := 2) C dL_law_800 (by decide) ?_
  refine x_iadd C dL_law_801 ?_
  refine x_topi (fun x6 e7 => ?_)
  have h := h x6 e7
  obtain ⟨g8, h⟩ := h
  refine x_sld C hX hbl g8 dL_law_802 ?_
  refine x_topi (fun x9 e10 => ?_)
  have h := h x9 e10
  obtain ⟨b11, g12, h⟩ := h
  refine x_nn2 g12 ?_
  obtain ⟨g13, h⟩ := h
  obtain ⟨g14, h⟩ := h
  refine x_callV (rm := rm_X11_replica) (rest := []) (As := [.int x4, .int x9]) C cy_RL_124 g13 (by decide) g14 rfl rfl (Nat.le_of_ble_eq_true rfl) hl.1 dL_law_803 (c_X11_replica l D cy b11 x4 x9 σ _ h) (ks_i (fun x16 σ15 h => ?_))
  refine x_aload_nq C dL_law_806 rfl (lv_at hl 2 rfl) ?_
  refine x_aload_n C dL_law_807 rfl (lv_at hl 0 rfl) ?_
  refine x_iload C dL_law_808 (lv_at hl 4 rfl) ?_
  refine x_iconst (v := 1) C dL_law_810 (by decide) ?_
  refine x_iadd C dL_law_811 ?_
  refine x_topi (fun x17 e18 => ?_)
  have h := h x17 e18
  obtain ⟨g19, h⟩ := h
  refine x_sld C hX hbl g19 dL_law_812 ?_
  refine x_topi (fun x20 e21 => ?_)
  have h := h x20 e21
  refine x_aload_n C dL_law_813 rfl (lv_at hl 0 rfl) ?_
  refine x_iload C dL_law_814 (lv_at hl 4 rfl) ?_
  refine x_iconst (v := 2) C dL_law_816 (by decide) ?_
  refine x_iadd C dL_law_817 ?_
  refine x_topi (fun x22 e23 => ?_)
  have h := h x22 e23
  obtain ⟨g24, h⟩ := h
  refine x_sld C hX hbl g24 dL_law_818 ?_
  refine x_topi (fun x25 e26 => ?_)
  have h := h x25 e26
  obtain ⟨b27, g28, h⟩ := h
  refine x_nn2 g28 ?_
  obtain ⟨g29, h⟩ := h
  obtain ⟨g30, h⟩ := h
  refine x_callV (rm := rm_X12_replica) (rest := [.int x16]) (As := [.int x20, .int x25]) C cy_RL_128 g29 (by decide) g30 rfl rfl (Nat.le_of_ble_eq_true rfl) hl.1 dL_law_819 (c_X12_replica l D cy b27 x20 x25 σ15 _ h) (ks_i (fun x32 σ31 h => ?_))
  refine x_icmp_eq (tgt := 1369) C dL_law_822 (by decide) (fun c33 => ?_) (fun c33 => ?_)
  · have h := h.1 c33
    exact t_L_law_1369 C hr hnm hlt Z Z2 hX hbl hLL hQ hL43 p1 p2 p3 p4 kc nc _ h ls (lv_sub hl [0, 1, 2, 3, 4] rfl)
  · have h := h.2 c33
    refine x_iconst (v := 0) C dL_law_825 (by decide) ?_
    exact x_lawret C hr h.1 (hQ _ _ h.2) dL_law_826
def b_L_law_777 (L : Nat) (xs : Nat → Int32) (L43 : Option Nat × Option Nat × Option Nat × Int32 × Nat × Nat → Sto → Prop) (Q : Int32 → Sto → Prop) (p1 : Option Nat) (p2 : Option Nat) (p3 : Option Nat) (p4 : Int32) (kc : Nat) (nc : Nat) (σ : Sto) : Prop := (∃ b1 : Nat, p1 = some b1 ∧ (sK σ b1 = 11 ∧ ((kc ≤ 600128 ∧ nc ≤ 7301064) ∧ (wp_X11_install b1  σ (fun (x6 : Int32) (σ5 : Sto) => (∃ b7 : Nat, p2 = some b7 ∧ (sK σ5 b7 = 12 ∧ ((kc ≤ 600128 ∧ nc ≤ 7301064) ∧ (wp_X12_install b7  σ5 (fun (x12 : Int32) (σ11 : Sto) => ((x6 = x12 → b_L_law_1369 L xs L43 Q p1 p2 p3 p4 kc nc σ11) ∧ (¬ x6 = x12 → ((kc ≤ 600128 ∧ nc ≤ 7301064) ∧ Q (0 : Int32) σ11)))))))))))))
set_option maxHeartbeats 4000000 in
set_option maxRecDepth 100000 in
theorem t_L_law_777 {p : Program} {l : Launch} {e : Env} {s : State} {m : MethodId} {below : List Frame} {meth : Method} {c : Code} {D : va_G} {cy : Nat → ClassId} {b L : Nat} {xs : Nat → Int32}  {L43 : Option Nat × Option Nat × Option Nat × Int32 × Nat × Nat → Sto → Prop} {Q : Int32 → Sto → Prop} (C : Cx p s m #[Value.ref b] meth c D cy (LA s) cL_law 7 RL) (hr : meth.sig.returnType = ret) (hnm : True) (hlt : l.stackTraces = false) (Z : ZW s) (Z2 : ZH (LA s) s s.heap) (hX : va_X b L xs s s.heap) (hbl : b < s.heap.size) (hLL : L < 2 ^ 31) (hQ : ∀ (v : Int32) (τ : Sto), Q v τ → v = 1) (hL43 : ∀ (t : Option Nat × Option Nat × Option Nat × Int32 × Nat × Nat) (σ : Sto), L43 t σ → ∀ ls : Array Slot, lv_has ls 7 [(0, .ref b), (1, va_rf t.1), (2, va_rf t.2.1), (3, va_rf t.2.2.1), (4, .int t.2.2.2.1)] → Xw p l e room_1 s m #[Value.ref b] below meth c D cy (LA s) σ t.2.2.2.2.1 t.2.2.2.2.2 (lw_Z below #[Value.ref b] s) (F0 m 43 ls [])) (p1 : Option Nat) (p2 : Option Nat) (p3 : Option Nat) (p4 : Int32) (kc : Nat) (nc : Nat) (σ : Sto) (h : b_L_law_777 L xs L43 Q p1 p2 p3 p4 kc nc σ) (ls : Array Slot) (hl : lv_has ls 7 [(0, .ref b), (1, va_rf p1), (2, va_rf p2), (3, va_rf p3), (4, .int p4)]) : Xw p l e room_1 s m #[Value.ref b] below meth c D cy (LA s) σ kc nc (lw_Z below #[Value.ref b] s) (F0 m 777 ls []) := by
  unfold b_L_law_777 at h
  refine x_aload_nq C dL_law_777 rfl (lv_at hl 1 rfl) ?_
  obtain ⟨b1, g2, h⟩ := h
  refine x_nn0 g2 ?_
  obtain ⟨g3, h⟩ := h
  obtain ⟨g4, h⟩ := h
  refine x_callV (rm := rm_X11_install) (rest := []) (As := []) C cy_RL_120 g3 (by decide) g4 rfl rfl (Nat.le_of_ble_eq_true rfl) hl.1 dL_law_778 (c_X11_install l D cy b1  σ _ h) (ks_i (fun x6 σ5 h => ?_))
  refine x_aload_nq C dL_law_781 rfl (lv_at hl 2 rfl) ?_
  obtain ⟨b7, g8, h⟩ := h
  refine x_nn0 g8 ?_
  obtain ⟨g9, h⟩ := h
  obtain ⟨g10, h⟩ := h
  refine x_callV (rm := rm_X12_install) (rest := [.int x6]) (As := []) C cy_RL_123 g9 (by decide) g10 rfl rfl (Nat.le_of_ble_eq_true rfl) hl.1 dL_law_782 (c_X12_install l D cy b7  σ5 _ h) (ks_i (fun x12 σ11 h => ?_))
  refine x_icmp_eq (tgt := 1369) C dL_law_785 (by decide) (fun c13 => ?_) (fun c13 => ?_)
  · have h := h.1 c13
    exact t_L_law_1369 C hr hnm hlt Z Z2 hX hbl hLL hQ hL43 p1 p2 p3 p4 kc nc _ h ls (lv_sub hl [0, 1, 2, 3, 4] rfl)
  · have h := h.2 c13
    refine x_iconst (v := 0) C dL_law_788 (by decide) ?_
    exact x_lawret C hr h.1 (hQ _ _ h.2) dL_law_789
def b_L_law_764 (L : Nat) (xs : Nat → Int32) (L43 : Option Nat × Option Nat × Option Nat × Int32 × Nat × Nat → Sto → Prop) (Q : Int32 → Sto → Prop) (p1 : Option Nat) (p2 : Option Nat) (p3 : Option Nat) (p4 : Int32) (kc : Nat) (nc : Nat) (σ : Sto) : Prop := (∃ b1 : Nat, p1 = some b1 ∧ (sK σ b1 = 11 ∧ ((kc ≤ 600128 ∧ nc ≤ 7301064) ∧ (wp_X11_fail b1  σ (fun (x6 : Int32) (σ5 : Sto) => (∃ b7 : Nat, p2 = some b7 ∧ (sK σ5 b7 = 12 ∧ ((kc ≤ 600128 ∧ nc ≤ 7301064) ∧ (wp_X12_fail b7  σ5 (fun (x12 : Int32) (σ11 : Sto) => ((x6 = x12 → b_L_law_1369 L xs L43 Q p1 p2 p3 p4 kc nc σ11) ∧ (¬ x6 = x12 → ((kc ≤ 600128 ∧ nc ≤ 7301064) ∧ Q (0 : Int32) σ11)))))))))))))
set_option maxHeartbeats 4000000 in
set_option maxRecDepth 100000 in
theorem t_L_law_764 {p : Program} {l : Launch} {e : Env} {s : State} {m : MethodId} {below : List Frame} {meth : Method} {c : Code} {D : va_G} {cy : Nat → ClassId} {b L : Nat} {xs : Nat → Int32}  {L43 : Option Nat × Option Nat × Option Nat × Int32 × Nat × Nat → Sto → Prop} {Q : Int32 → Sto → Prop} (C : Cx p s m #[Value.ref b] meth c D cy (LA s) cL_law 7 RL) (hr : meth.sig.returnType = ret) (hnm : True) (hlt : l.stackTraces = false) (Z : ZW s) (Z2 : ZH (LA s) s s.heap) (hX : va_X b L xs s s.heap) (hbl : b < s.heap.size) (hLL : L < 2 ^ 31) (hQ : ∀ (v : Int32) (τ : Sto), Q v τ → v = 1) (hL43 : ∀ (t : Option Nat × Option Nat × Option Nat × Int32 × Nat × Nat) (σ : Sto), L43 t σ → ∀ ls : Array Slot, lv_has ls 7 [(0, .ref b), (1, va_rf t.1), (2, va_rf t.2.1), (3, va_rf t.2.2.1), (4, .int t.2.2.2.1)] → Xw p l e room_1 s m #[Value.ref b] below meth c D cy (LA s) σ t.2.2.2.2.1 t.2.2.2.2.2 (lw_Z below #[Value.ref b] s) (F0 m 43 ls [])) (p1 : Option Nat) (p2 : Option Nat) (p3 : Option Nat) (p4 : Int32) (kc : Nat) (nc : Nat) (σ : Sto) (h : b_L_law_764 L xs L43 Q p1 p2 p3 p4 kc nc σ) (ls : Array Slot) (hl : lv_has ls 7 [(0, .ref b), (1, va_rf p1), (2, va_rf p2), (3, va_rf p3), (4, .int p4)]) : Xw p l e room_1 s m #[Value.ref b] below meth c D cy (LA s) σ kc nc (lw_Z below #[Value.ref b] s) (F0 m 764 ls []) := by
  unfold b_L_law_764 at h
  refine x_aload_nq C dL_law_764 rfl (lv_at hl 1 rfl) ?_
  obtain ⟨b1, g2, h⟩ := h
  refine x_nn0 g2 ?_
  obtain ⟨g3, h⟩ := h
  obtain ⟨g4, h⟩ := h
  refine x_callV (rm := rm_X11_fail) (rest := []) (As := []) C cy_RL_115 g3 (by decide) g4 rfl rfl (Nat.le_of_ble_eq_true rfl) hl.1 dL_law_765 (c_X11_fail l D cy b1  σ _ h) (ks_i (fun x6 σ5 h => ?_))
  refine x_aload_nq C dL_law_768 rfl (lv_at hl 2 rfl) ?_
  obtain ⟨b7, g8, h⟩ := h
  refine x_nn0 g8 ?_
  obtain ⟨g9, h⟩ := h
  obtain ⟨g10, h⟩ := h
  refine x_callV (rm := rm_X12_fail) (rest := [.int x6]) (As := []) C cy_RL_119 g9 (by decide) g10 rfl rfl (Nat.le_of_ble_eq_true rfl) hl.1 dL_law_769 (c_X12_fail l D cy b7  σ5 _ h) (ks_i (fun x12 σ11 h => ?_))
  refine x_icmp_eq (tgt := 1369) C dL_law_772 (by decide) (fun c13 => ?_) (fun c13 => ?_)
  · have h := h.1 c13
    exact t_L_law_1369 C hr hnm hlt Z Z2 hX hbl hLL hQ hL43 p1 p2 p3 p4 kc nc _ h ls (lv_sub hl [0, 1, 2, 3, 4] rfl)
  · have h := h.2 c13
    refine x_iconst (v := 0) C dL_law_775 (by decide) ?_
    exact x_lawret C hr h.1 (hQ _ _ h.2) dL_law_776
def b_L_law_761 (L : Nat) (xs : Nat → Int32) (L43 : Option Nat × Option Nat × Option Nat × Int32 × Nat × Nat → Sto → Prop) (Q : Int32 → Sto → Prop) (p1 : Option Nat) (p2 : Option Nat) (p3 : Option Nat) (p4 : Int32) (kc : Nat) (nc : Nat) (σ : Sto) : Prop := b_L_law_1369 L xs L43 Q p1 p2 p3 p4 kc nc σ
set_option maxHeartbeats 4000000 in
set_option maxRecDepth 100000 in
theorem t_L_law_761 {p : Program} {l : Launch} {e : Env} {s : State} {m : MethodId} {below : List Frame} {meth : Method} {c : Code} {D : va_G} {cy : Nat → ClassId} {b L : Nat} {xs : Nat → Int32}  {L43 : Option Nat × Option Nat × Option Nat × Int32 × Nat × Nat → Sto → Prop} {Q : Int32 → Sto → Prop} (C : Cx p s m #[Value.ref b] meth c D cy (LA s) cL_law 7 RL) (hr : meth.sig.returnType = ret) (hnm : True) (hlt : l.stackTraces = false) (Z : ZW s) (Z2 : ZH (LA s) s s.heap) (hX : va_X b L xs s s.heap) (hbl : b < s.heap.size) (hLL : L < 2 ^ 31) (hQ : ∀ (v : Int32) (τ : Sto), Q v τ → v = 1) (hL43 : ∀ (t : Option Nat × Option Nat × Option Nat × Int32 × Nat × Nat) (σ : Sto), L43 t σ → ∀ ls : Array Slot, lv_has ls 7 [(0, .ref b), (1, va_rf t.1), (2, va_rf t.2.1), (3, va_rf t.2.2.1), (4, .int t.2.2.2.1)] → Xw p l e room_1 s m #[Value.ref b] below meth c D cy (LA s) σ t.2.2.2.2.1 t.2.2.2.2.2 (lw_Z below #[Value.ref b] s) (F0 m 43 ls [])) (p1 : Option Nat) (p2 : Option Nat) (p3 : Option Nat) (p4 : Int32) (kc : Nat) (nc : Nat) (σ : Sto) (h : b_L_law_761 L xs L43 Q p1 p2 p3 p4 kc nc σ) (ls : Array Slot) (hl : lv_has ls 7 [(0, .ref b), (1, va_rf p1), (2, va_rf p2), (3, va_rf p3), (4, .int p4)]) : Xw p l e room_1 s m #[Value.ref b] below meth c D cy (LA s) σ kc nc (lw_Z below #[Value.ref b] s) (F0 m 761 ls []) := by
  unfold b_L_law_761 at h
  refine x_goto (tgt := 1369) C dL_law_761 (by decide) ?_
  exact t_L_law_1369 C hr hnm hlt Z Z2 hX hbl hLL hQ hL43 p1 p2 p3 p4 kc nc _ h ls (lv_sub hl [0, 1, 2, 3, 4] rfl)
def b_L_law_708 (L : Nat) (xs : Nat → Int32) (L43 : Option Nat × Option Nat × Option Nat × Int32 × Nat × Nat → Sto → Prop) (Q : Int32 → Sto → Prop) (p1 : Option Nat) (p2 : Option Nat) (p3 : Option Nat) (p4 : Int32) (kc : Nat) (nc : Nat) (σ : Sto) : Prop := (∀ x1 : Int32, x1 = p4 + (1 : Int32) → (vp_in x1 L ∧ (∀ x4 : Int32, x4 = xs x1.toNatClampNeg → ((kc + 1 ≤ 600128 ∧ nc + 6 ≤ 7301064) ∧ (wp_L_calm p1 x4 p3 σ (fun (x8 : Int32) (σ7 : Sto) => (∀ x9 : Int32, x9 = p4 + (1 : Int32) → (vp_in x9 L ∧ (∀ x12 : Int32, x12 = xs x9.toNatClampNeg → (∃ b14 : Nat, p2 = some b14 ∧ (sK σ7 b14 = 12 ∧ (((kc + 1) ≤ 600128 ∧ (nc + 6) ≤ 7301064) ∧ (wp_X12_calm b14 x12 σ7 (fun (x19 : Int32) (σ18 : Sto) => (sK σ18 b14 = 12 ∧ (((kc + 1) ≤ 600128 ∧ (nc + 6) ≤ 7301064) ∧ (wp_X12_thrown b14  σ18 (fun (x23 : Int32) (σ22 : Sto) => ((x23 = x8 → ((¬ x8 = 0 → b_L_law_761 L xs L43 Q p1 p2 p3 p4 ((kc + 1)) ((nc + 6)) σ22) ∧ (x8 = 0 → (∃ b26 : Nat, p3 = some b26 ∧ (sK σ22 b26 = 15 ∧ (vp_in (0 : Int32) (sN σ22 b26) ∧ (∀ y30 : Int64, y30 = sJ σ22 b26 (0 : Int32).toNatClampNeg → (((lg_cmp y30 x19.toInt64) = 0 → b_L_law_761 L xs L43 Q p1 p2 p3 p4 ((kc + 1)) ((nc + 6)) σ22) ∧ (¬ (lg_cmp y30 x19.toInt64) = 0 → (((kc + 1) ≤ 600128 ∧ (nc + 6) ≤ 7301064) ∧ Q (0 : Int32) σ22)))))))))) ∧ (¬ x23 = x8 → (((kc + 1) ≤ 600128 ∧ (nc + 6) ≤ 7301064) ∧ Q (0 : Int32) σ22)))))))))))))))))))))
set_option maxHeartbeats 4000000 in
set_option maxRecDepth 100000 in
theorem t_L_law_708 {p : Program} {l : Launch} {e : Env} {s : State} {m : MethodId} {below : List Frame} {meth : Method} {c : Code} {D : va_G} {cy : Nat → ClassId} {b L : Nat} {xs : Nat → Int32}  {L43 : Option Nat × Option Nat × Option Nat × Int32 × Nat × Nat → Sto → Prop} {Q : Int32 → Sto → Prop} (C : Cx p s m #[Value.ref b] meth c D cy (LA s) cL_law 7 RL) (hr : meth.sig.returnType = ret) (hnm : True) (hlt : l.stackTraces = false) (Z : ZW s) (Z2 : ZH (LA s) s s.heap) (hX : va_X b L xs s s.heap) (hbl : b < s.heap.size) (hLL : L < 2 ^ 31) (hQ : ∀ (v : Int32) (τ : Sto), Q v τ → v = 1) (hL43 : ∀ (t : Option Nat × Option Nat × Option Nat × Int32 × Nat × Nat) (σ : Sto), L43 t σ → ∀ ls : Array Slot, lv_has ls 7 [(0, .ref b), (1, va_rf t.1), (2, va_rf t.2.1), (3, va_rf t.2.2.1), (4, .int t.2.2.2.1)] → Xw p l e room_1 s m #[Value.ref b] below meth c D cy (LA s) σ t.2.2.2.2.1 t.2.2.2.2.2 (lw_Z below #[Value.ref b] s) (F0 m 43 ls [])) (p1 : Option Nat) (p2 : Option Nat) (p3 : Option Nat) (p4 : Int32) (kc : Nat) (nc : Nat) (σ : Sto) (h : b_L_law_708 L xs L43 Q p1 p2 p3 p4 kc nc σ) (ls : Array Slot) (hl : lv_has ls 7 [(0, .ref b), (1, va_rf p1), (2, va_rf p2), (3, va_rf p3), (4, .int p4)]) : Xw p l e room_1 s m #[Value.ref b] below meth c D cy (LA s) σ kc nc (lw_Z below #[Value.ref b] s) (F0 m 708 ls []) := by
  unfold b_L_law_708 at h
  refine x_aload_nq C dL_law_708 rfl (lv_at hl 1 rfl) ?_
  refine x_aload_n C dL_law_709 rfl (lv_at hl 0 rfl) ?_
  refine x_iload C dL_law_710 (lv_at hl 4 rfl) ?_
  refine x_iconst (v := 1) C dL_law_712 (by decide) ?_
  refine x_iadd C dL_law_713 ?_
  refine x_topi (fun x1 e2 => ?_)
  have h := h x1 e2
  obtain ⟨g3, h⟩ := h
  refine x_sld C hX hbl g3 dL_law_714 ?_
  refine x_topi (fun x4 e5 => ?_)
  have h := h x4 e5
  refine x_aload_nq C dL_law_715 rfl (lv_at hl 3 rfl) ?_
  obtain ⟨g6, h⟩ := h
  refine x_callSW (rm := rm_L_calm) (rest := []) (As := [va_rf p1, .int x4, va_rf p3]) C Z Z2 ml_RL_112 ys_L_calm in_RL yw_L_calm yh_L_calm (by decide) g6 rfl rfl (Nat.le_of_ble_eq_true rfl) hl.1 dL_law_716 (c_L_calm l hlt D cy p1 x4 p3 σ _ h) (ks_i (fun x8 σ7 h => ?_))
  refine x_istore (i := 5) (lv' := [(5, .int x8), (0, .ref b), (1, va_rf p1), (2, va_rf p2), (3, va_rf p3), (4, .int p4)]) C dL_law_719 hl (by decide) (by first | rfl | simp [vrc, cat_i, cat_r, cat_l]) (fun ls hl => ?_)
  refine x_aload_nq C dL_law_721 rfl (lv_at hl 3 rfl) ?_
  refine x_aload_n C dL_law_722 rfl (lv_at hl 1 rfl) ?_
  refine x_iload C dL_law_723 (lv_at hl 5 rfl) ?_
  refine x_iconst (v := 1) C dL_law_725 (by decide) ?_
  refine x_iadd C dL_law_726 ?_
  refine x_topi (fun x9 e10 => ?_)
  have h := h x9 e10
  obtain ⟨g11, h⟩ := h
  refine x_sld C hX hbl g11 dL_law_727 ?_
  refine x_topi (fun x12 e13 => ?_)
  have h := h x12 e13
  obtain ⟨b14, g15, h⟩ := h
  refine x_nn1 g15 ?_
  obtain ⟨g16, h⟩ := h
  obtain ⟨g17, h⟩ := h
  refine x_callV (rm := rm_X12_calm) (rest := []) (As := [.int x12]) C cy_RL_114 g16 (by decide) g17 rfl rfl (Nat.le_of_ble_eq_true rfl) hl.1 dL_law_728 (c_X12_calm l D cy b14 x12 σ7 _ h) (ks_i (fun x19 σ18 h => ?_))
  refine x_istore (i := 6) (lv' := [(6, .int x19), (5, .int x8), (0, .ref b), (1, va_rf p1), (2, va_rf p2), (3, va_rf p3), (4, .int p4)]) C dL_law_731 hl (by decide) (by first | rfl | simp [vrc, cat_i, cat_r, cat_l]) (fun ls hl => ?_)
  refine x_aload_nq C dL_law_733 rfl (lv_at hl 4 rfl) ?_
  refine x_nn0 g15 ?_
  obtain ⟨g20, h⟩ := h
  obtain ⟨g21, h⟩ := h
  refine x_callV (rm := rm_X12_thrown) (rest := []) (As := []) C cy_RL_77 g20 (by decide) g21 rfl rfl (Nat.le_of_ble_eq_true rfl) hl.1 dL_law_734 (c_X12_thrown l D cy b14  σ18 _ h) (ks_i (fun x23 σ22 h => ?_))
  refine x_iload C dL_law_737 (lv_at hl 1 rfl) ?_
  refine x_icmp_eq (tgt := 744) C dL_law_739 (by decide) (fun c24 => ?_) (fun c24 => ?_)
  · have h := h.1 c24
    refine x_iload C dL_law_744 (lv_at hl 1 rfl) ?_
    refine x_if_ne (tgt := 761) C dL_law_746 (by decide) (fun c25 => ?_) (fun c25 => ?_)
    · have h := h.1 c25
      exact t_L_law_761 C hr hnm hlt Z Z2 hX hbl hLL hQ hL43 p1 p2 p3 p4 ((kc + 1)) ((nc + 6)) _ h ls (lv_sub hl [2, 3, 4, 5, 6] rfl)
    · have h := h.2 c25
      refine x_aload_nq C dL_law_749 rfl (lv_at hl 5 rfl) ?_
      refine x_iconst (v := 0) C dL_law_750 (by decide) ?_
      obtain ⟨b26, g27, h⟩ := h
      refine x_nn1 g27 ?_
      obtain ⟨g28, h⟩ := h
      obtain ⟨g29, h⟩ := h
      refine x_lald C g28 g29 dL_law_751 ?_
      refine x_topj (fun y30 e31 => ?_)
      have h := h y30 e31
      refine x_iload C dL_law_752 (lv_at hl 0 rfl) ?_
      refine x_i2l C dL_law_754 ?_
      refine x_lcmp C dL_law_755 ?_
      refine x_if_eq (tgt := 761) C dL_law_756 (by decide) (fun c32 => ?_) (fun c32 => ?_)
      · have h := h.1 c32
        exact t_L_law_761 C hr hnm hlt Z Z2 hX hbl hLL hQ hL43 p1 p2 p3 p4 ((kc + 1)) ((nc + 6)) _ h ls (lv_sub hl [2, 3, 4, 5, 6] rfl)
      · have h := h.2 c32
        refine x_iconst (v := 0) C dL_law_759 (by decide) ?_
        exact x_lawret C hr h.1 (hQ _ _ h.2) dL_law_760
  · have h := h.2 c24
    refine x_iconst (v := 0) C dL_law_742 (by decide) ?_
    exact x_lawret C hr h.1 (hQ _ _ h.2) dL_law_743
def b_L_law_705 (L : Nat) (xs : Nat → Int32) (L43 : Option Nat × Option Nat × Option Nat × Int32 × Nat × Nat → Sto → Prop) (Q : Int32 → Sto → Prop) (p1 : Option Nat) (p2 : Option Nat) (p3 : Option Nat) (p4 : Int32) (kc : Nat) (nc : Nat) (σ : Sto) : Prop := b_L_law_1369 L xs L43 Q p1 p2 p3 p4 kc nc σ
set_option maxHeartbeats 4000000 in
set_option maxRecDepth 100000 in
theorem t_L_law_705 {p : Program} {l : Launch} {e : Env} {s : State} {m : MethodId} {below : List Frame} {meth : Method} {c : Code} {D : va_G} {cy : Nat → ClassId} {b L : Nat} {xs : Nat → Int32}  {L43 : Option Nat × Option Nat × Option Nat × Int32 × Nat × Nat → Sto → Prop} {Q : Int32 → Sto → Prop} (C : Cx p s m #[Value.ref b] meth c D cy (LA s) cL_law 7 RL) (hr : meth.sig.returnType = ret) (hnm : True) (hlt : l.stackTraces = false) (Z : ZW s) (Z2 : ZH (LA s) s s.heap) (hX : va_X b L xs s s.heap) (hbl : b < s.heap.size) (hLL : L < 2 ^ 31) (hQ : ∀ (v : Int32) (τ : Sto), Q v τ → v = 1) (hL43 : ∀ (t : Option Nat × Option Nat × Option Nat × Int32 × Nat × Nat) (σ : Sto), L43 t σ → ∀ ls : Array Slot, lv_has ls 7 [(0, .ref b), (1, va_rf t.1), (2, va_rf t.2.1), (3, va_rf t.2.2.1), (4, .int t.2.2.2.1)] → Xw p l e room_1 s m #[Value.ref b] below meth c D cy (LA s) σ t.2.2.2.2.1 t.2.2.2.2.2 (lw_Z below #[Value.ref b] s) (F0 m 43 ls [])) (p1 : Option Nat) (p2 : Option Nat) (p3 : Option Nat) (p4 : Int32) (kc : Nat) (nc : Nat) (σ : Sto) (h : b_L_law_705 L xs L43 Q p1 p2 p3 p4 kc nc σ) (ls : Array Slot) (hl : lv_has ls 7 [(0, .ref b), (1, va_rf p1), (2, va_rf p2), (3, va_rf p3), (4, .int p4)]) : Xw p l e room_1 s m #[Value.ref b] below meth c D cy (LA s) σ kc nc (lw_Z below #[Value.ref b] s) (F0 m 705 ls []) := by
  unfold b_L_law_705 at h
  refine x_goto (tgt := 1369) C dL_law_705 (by decide) ?_
  exact t_L_law_1369 C hr hnm hlt Z Z2 hX hbl hLL hQ hL43 p1 p2 p3 p4 kc nc _ h ls (lv_sub hl [0, 1, 2, 3, 4] rfl)
def b_L_law_652 (L : Nat) (xs : Nat → Int32) (L43 : Option Nat × Option Nat × Option Nat × Int32 × Nat × Nat → Sto → Prop) (Q : Int32 → Sto → Prop) (p1 : Option Nat) (p2 : Option Nat) (p3 : Option Nat) (p4 : Int32) (kc : Nat) (nc : Nat) (σ : Sto) : Prop := (∀ x1 : Int32, x1 = p4 + (1 : Int32) → (vp_in x1 L ∧ (∀ x4 : Int32, x4 = xs x1.toNatClampNeg → ((kc + 1 ≤ 600128 ∧ nc + 6 ≤ 7301064) ∧ (wp_L_tick p1 x4 p3 σ (fun (x8 : Int32) (σ7 : Sto) => (∀ x9 : Int32, x9 = p4 + (1 : Int32) → (vp_in x9 L ∧ (∀ x12 : Int32, x12 = xs x9.toNatClampNeg → (∃ b14 : Nat, p2 = some b14 ∧ (sK σ7 b14 = 12 ∧ (((kc + 1) ≤ 600128 ∧ (nc + 6) ≤ 7301064) ∧ (wp_X12_tick b14 x12 σ7 (fun (x19 : Int32) (σ18 : Sto) => (sK σ18 b14 = 12 ∧ (((kc + 1) ≤ 600128 ∧ (nc + 6) ≤ 7301064) ∧ (wp_X12_thrown b14  σ18 (fun (x23 : Int32) (σ22 : Sto) => ((x23 = x8 → ((¬ x8 = 0 → b_L_law_705 L xs L43 Q p1 p2 p3 p4 ((kc + 1)) ((nc + 6)) σ22) ∧ (x8 = 0 → (∃ b26 : Nat, p3 = some b26 ∧ (sK σ22 b26 = 15 ∧ (vp_in (0 : Int32) (sN σ22 b26) ∧ (∀ y30 : Int64, y30 = sJ σ22 b26 (0 : Int32).toNatClampNeg → (((lg_cmp y30 x19.toInt64) = 0 → b_L_law_705 L xs L43 Q p1 p2 p3 p4 ((kc + 1)) ((nc + 6)) σ22) ∧ (¬ (lg_cmp y30 x19.toInt64) = 0 → (((kc + 1) ≤ 600128 ∧ (nc + 6) ≤ 7301064) ∧ Q (0 : Int32) σ22)))))))))) ∧ (¬ x23 = x8 → (((kc + 1) ≤ 600128 ∧ (nc + 6) ≤ 7301064) ∧ Q (0 : Int32) σ22)))))))))))))))))))))
set_option maxHeartbeats 4000000 in
set_option maxRecDepth 100000 in
theorem t_L_law_652 {p : Program} {l : Launch} {e : Env} {s : State} {m : MethodId} {below : List Frame} {meth : Method} {c : Code} {D : va_G} {cy : Nat → ClassId} {b L : Nat} {xs : Nat → Int32}  {L43 : Option Nat × Option Nat × Option Nat × Int32 × Nat × Nat → Sto → Prop} {Q : Int32 → Sto → Prop} (C : Cx p s m #[Value.ref b] meth c D cy (LA s) cL_law 7 RL) (hr : meth.sig.returnType = ret) (hnm : True) (hlt : l.stackTraces = false) (Z : ZW s) (Z2 : ZH (LA s) s s.heap) (hX : va_X b L xs s s.heap) (hbl : b < s.heap.size) (hLL : L < 2 ^ 31) (hQ : ∀ (v : Int32) (τ : Sto), Q v τ → v = 1) (hL43 : ∀ (t : Option Nat × Option Nat × Option Nat × Int32 × Nat × Nat) (σ : Sto), L43 t σ → ∀ ls : Array Slot, lv_has ls 7 [(0, .ref b), (1, va_rf t.1), (2, va_rf t.2.1), (3, va_rf t.2.2.1), (4, .int t.2.2.2.1)] → Xw p l e room_1 s m #[Value.ref b] below meth c D cy (LA s) σ t.2.2.2.2.1 t.2.2.2.2.2 (lw_Z below #[Value.ref b] s) (F0 m 43 ls [])) (p1 : Option Nat) (p2 : Option Nat) (p3 : Option Nat) (p4 : Int32) (kc : Nat) (nc : Nat) (σ : Sto) (h : b_L_law_652 L xs L43 Q p1 p2 p3 p4 kc nc σ) (ls : Array Slot) (hl : lv_has ls 7 [(0, .ref b), (1, va_rf p1), (2, va_rf p2), (3, va_rf p3), (4, .int p4)]) : Xw p l e room_1 s m #[Value.ref b] below meth c D cy (LA s) σ kc nc (lw_Z below #[Value.ref b] s) (F0 m 652 ls []) := by
  unfold b_L_law_652 at h
  refine x_aload_nq C dL_law_652 rfl (lv_at hl 1 rfl) ?_
  refine x_aload_n C dL_law_653 rfl (lv_at hl 0 rfl) ?_
  refine x_iload C dL_law_654 (lv_at hl 4 rfl) ?_
  refine x_iconst (v := 1) C dL_law_656 (by decide) ?_
  refine x_iadd C dL_law_657 ?_
  refine x_topi (fun x1 e2 => ?_)
  have h := h x1 e2
  obtain ⟨g3, h⟩ := h
  refine x_sld C hX hbl g3 dL_law_658 ?_
  refine x_topi (fun x4 e5 => ?_)
  have h := h x4 e5
  refine x_aload_nq C dL_law_659 rfl (lv_at hl 3 rfl) ?_
  obtain ⟨g6, h⟩ := h
  refine x_callSW (rm := rm_L_tick) (rest := []) (As := [va_rf p1, .int x4, va_rf p3]) C Z Z2 ml_RL_109 ys_L_tick in_RL yw_L_tick yh_L_tick (by decide) g6 rfl rfl (Nat.le_of_ble_eq_true rfl) hl.1 dL_law_660 (c_L_tick l hlt D cy p1 x4 p3 σ _ h) (ks_i (fun x8 σ7 h => ?_))
  refine x_istore (i := 5) (lv' := [(5, .int x8), (0, .ref b), (1, va_rf p1), (2, va_rf p2), (3, va_rf p3), (4, .int p4)]) C dL_law_663 hl (by decide) (by first | rfl | simp [vrc, cat_i, cat_r, cat_l]) (fun ls hl => ?_)
  refine x_aload_nq C dL_law_665 rfl (lv_at hl 3 rfl) ?_
  refine x_aload_n C dL_law_666 rfl (lv_at hl 1 rfl) ?_
  refine x_iload C dL_law_667 (lv_at hl 5 rfl) ?_
  refine x_iconst (v := 1) C dL_law_669 (by decide) ?_
  refine x_iadd C dL_law_670 ?_
  refine x_topi (fun x9 e10 => ?_)
  have h := h x9 e10
  obtain ⟨g11, h⟩ := h
  refine x_sld C hX hbl g11 dL_law_671 ?_
  refine x_topi (fun x12 e13 => ?_)
  have h := h x12 e13
  obtain ⟨b14, g15, h⟩ := h
  refine x_nn1 g15 ?_
  obtain ⟨g16, h⟩ := h
  obtain ⟨g17, h⟩ := h
  refine x_callV (rm := rm_X12_tick) (rest := []) (As := [.int x12]) C cy_RL_111 g16 (by decide) g17 rfl rfl (Nat.le_of_ble_eq_true rfl) hl.1 dL_law_672 (c_X12_tick l D cy b14 x12 σ7 _ h) (ks_i (fun x19 σ18 h => ?_))
  refine x_istore (i := 6) (lv' := [(6, .int x19), (5, .int x8), (0, .ref b), (1, va_rf p1), (2, va_rf p2), (3, va_rf p3), (4, .int p4)]) C dL_law_675 hl (by decide) (by first | rfl | simp [vrc, cat_i, cat_r, cat_l]) (fun ls hl => ?_)
  refine x_aload_nq C dL_law_677 rfl (lv_at hl 4 rfl) ?_
  refine x_nn0 g15 ?_
  obtain ⟨g20, h⟩ := h
  obtain ⟨g21, h⟩ := h
  refine x_callV (rm := rm_X12_thrown) (rest := []) (As := []) C cy_RL_77 g20 (by decide) g21 rfl rfl (Nat.le_of_ble_eq_true rfl) hl.1 dL_law_678 (c_X12_thrown l D cy b14  σ18 _ h) (ks_i (fun x23 σ22 h => ?_))
  refine x_iload C dL_law_681 (lv_at hl 1 rfl) ?_
  refine x_icmp_eq (tgt := 688) C dL_law_683 (by decide) (fun c24 => ?_) (fun c24 => ?_)
  · have h := h.1 c24
    refine x_iload C dL_law_688 (lv_at hl 1 rfl) ?_
    refine x_if_ne (tgt := 705) C dL_law_690 (by decide) (fun c25 => ?_) (fun c25 => ?_)
    · have h := h.1 c25
      exact t_L_law_705 C hr hnm hlt Z Z2 hX hbl hLL hQ hL43 p1 p2 p3 p4 ((kc + 1)) ((nc + 6)) _ h ls (lv_sub hl [2, 3, 4, 5, 6] rfl)
    · have h := h.2 c25
      refine x_aload_nq C dL_law_693 rfl (lv_at hl 5 rfl) ?_
      refine x_iconst (v := 0) C dL_law_694 (by decide) ?_
      obtain ⟨b26, g27, h⟩ := h
      refine x_nn1 g27 ?_
      obtain ⟨g28, h⟩ := h
      obtain ⟨g29, h⟩ := h
      refine x_lald C g28 g29 dL_law_695 ?_
      refine x_topj (fun y30 e31 => ?_)
      have h := h y30 e31
      refine x_iload C dL_law_696 (lv_at hl 0 rfl) ?_
      refine x_i2l C dL_law_698 ?_
      refine x_lcmp C dL_law_699 ?_
      refine x_if_eq (tgt := 705) C dL_law_700 (by decide) (fun c32 => ?_) (fun c32 => ?_)
      · have h := h.1 c32
        exact t_L_law_705 C hr hnm hlt Z Z2 hX hbl hLL hQ hL43 p1 p2 p3 p4 ((kc + 1)) ((nc + 6)) _ h ls (lv_sub hl [2, 3, 4, 5, 6] rfl)
      · have h := h.2 c32
        refine x_iconst (v := 0) C dL_law_703 (by decide) ?_
        exact x_lawret C hr h.1 (hQ _ _ h.2) dL_law_704
  · have h := h.2 c24
    refine x_iconst (v := 0) C dL_law_686 (by decide) ?_
    exact x_lawret C hr h.1 (hQ _ _ h.2) dL_law_687
def b_L_law_616 (L : Nat) (xs : Nat → Int32) (L43 : Option Nat × Option Nat × Option Nat × Int32 × Nat × Nat → Sto → Prop) (Q : Int32 → Sto → Prop) (p1 : Option Nat) (p2 : Option Nat) (p3 : Option Nat) (p4 : Int32) (kc : Nat) (nc : Nat) (σ : Sto) : Prop := (∀ x1 : Int32, x1 = p4 + (1 : Int32) → (vp_in x1 L ∧ (∀ x4 : Int32, x4 = xs x1.toNatClampNeg → ((kc + 1 ≤ 600128 ∧ nc + 6 ≤ 7301064) ∧ (wp_L_sync p1 x4 σ (fun (x8 : Int32) (σ7 : Sto) => (∀ x9 : Int32, x9 = p4 + (1 : Int32) → (vp_in x9 L ∧ (∀ x12 : Int32, x12 = xs x9.toNatClampNeg → (∃ b14 : Nat, p2 = some b14 ∧ (sK σ7 b14 = 12 ∧ (((kc + 1) ≤ 600128 ∧ (nc + 6) ≤ 7301064) ∧ (wp_X12_sync b14 x12 σ7 (fun (σ18 : Sto) => (sK σ18 b14 = 12 ∧ (((kc + 1) ≤ 600128 ∧ (nc + 6) ≤ 7301064) ∧ (wp_X12_thrown b14  σ18 (fun (x22 : Int32) (σ21 : Sto) => ((x22 = x8 → b_L_law_1369 L xs L43 Q p1 p2 p3 p4 ((kc + 1)) ((nc + 6)) σ21) ∧ (¬ x22 = x8 → (((kc + 1) ≤ 600128 ∧ (nc + 6) ≤ 7301064) ∧ Q (0 : Int32) σ21)))))))))))))))))))))
set_option maxHeartbeats 4000000 in
set_option maxRecDepth 100000 in
theorem t_L_law_616 {p : Program} {l : Launch} {e : Env} {s : State} {m : MethodId} {below : List Frame} {meth : Method} {c : Code} {D : va_G} {cy : Nat → ClassId} {b L : Nat} {xs : Nat → Int32}  {L43 : Option Nat × Option Nat × Option Nat × Int32 × Nat × Nat → Sto → Prop} {Q : Int32 → Sto → Prop} (C : Cx p s m #[Value.ref b] meth c D cy (LA s) cL_law 7 RL) (hr : meth.sig.returnType = ret) (hnm : True) (hlt : l.stackTraces = false) (Z : ZW s) (Z2 : ZH (LA s) s s.heap) (hX : va_X b L xs s s.heap) (hbl : b < s.heap.size) (hLL : L < 2 ^ 31) (hQ : ∀ (v : Int32) (τ : Sto), Q v τ → v = 1) (hL43 : ∀ (t : Option Nat × Option Nat × Option Nat × Int32 × Nat × Nat) (σ : Sto), L43 t σ → ∀ ls : Array Slot, lv_has ls 7 [(0, .ref b), (1, va_rf t.1), (2, va_rf t.2.1), (3, va_rf t.2.2.1), (4, .int t.2.2.2.1)] → Xw p l e room_1 s m #[Value.ref b] below meth c D cy (LA s) σ t.2.2.2.2.1 t.2.2.2.2.2 (lw_Z below #[Value.ref b] s) (F0 m 43 ls [])) (p1 : Option Nat) (p2 : Option Nat) (p3 : Option Nat) (p4 : Int32) (kc : Nat) (nc : Nat) (σ : Sto) (h : b_L_law_616 L xs L43 Q p1 p2 p3 p4 kc nc σ) (ls : Array Slot) (hl : lv_has ls 7 [(0, .ref b), (1, va_rf p1), (2, va_rf p2), (3, va_rf p3), (4, .int p4)]) : Xw p l e room_1 s m #[Value.ref b] below meth c D cy (LA s) σ kc nc (lw_Z below #[Value.ref b] s) (F0 m 616 ls []) := by
  unfold b_L_law_616 at h
  refine x_aload_nq C dL_law_616 rfl (lv_at hl 1 rfl) ?_
  refine x_aload_n C dL_law_617 rfl (lv_at hl 0 rfl) ?_
  refine x_iload C dL_law_618 (lv_at hl 4 rfl) ?_
  refine x_iconst (v := 1) C dL_law_620 (by decide) ?_
  refine x_iadd C dL_law_621 ?_
  refine x_topi (fun x1 e2 => ?_)
  have h := h x1 e2
  obtain ⟨g3, h⟩ := h
  refine x_sld C hX hbl g3 dL_law_622 ?_
  refine x_topi (fun x4 e5 => ?_)
  have h := h x4 e5
  obtain ⟨g6, h⟩ := h
  refine x_callSW (rm := rm_L_sync) (rest := []) (As := [va_rf p1, .int x4]) C Z Z2 ml_RL_106 ys_L_sync in_RL yw_L_sync yh_L_sync (by decide) g6 rfl rfl (Nat.le_of_ble_eq_true rfl) hl.1 dL_law_623 (c_L_sync l hlt D cy p1 x4 σ _ h) (ks_i (fun x8 σ7 h => ?_))
  refine x_istore (i := 5) (lv' := [(5, .int x8), (0, .ref b), (1, va_rf p1), (2, va_rf p2), (3, va_rf p3), (4, .int p4)]) C dL_law_626 hl (by decide) (by first | rfl | simp [vrc, cat_i, cat_r, cat_l]) (fun ls hl => ?_)
  refine x_aload_nq C dL_law_628 rfl (lv_at hl 3 rfl) ?_
  refine x_aload_n C dL_law_629 rfl (lv_at hl 1 rfl) ?_
  refine x_iload C dL_law_630 (lv_at hl 5 rfl) ?_
  refine x_iconst (v := 1) C dL_law_632 (by decide) ?_
  refine x_iadd C dL_law_633 ?_
  refine x_topi (fun x9 e10 => ?_)
  have h := h x9 e10
  obtain ⟨g11, h⟩ := h
  refine x_sld C hX hbl g11 dL_law_634 ?_
  refine x_topi (fun x12 e13 => ?_)
  have h := h x12 e13
  obtain ⟨b14, g15, h⟩ := h
  refine x_nn1 g15 ?_
  obtain ⟨g16, h⟩ := h
  obtain ⟨g17, h⟩ := h
  refine x_callV (rm := rm_X12_sync) (rest := []) (As := [.int x12]) C cy_RL_108 g16 (by decide) g17 rfl rfl (Nat.le_of_ble_eq_true rfl) hl.1 dL_law_635 (c_X12_sync l D cy b14 x12 σ7 _ h) (ks_v (fun σ18 h => ?_))
  refine x_aload_nq C dL_law_638 rfl (lv_at hl 3 rfl) ?_
  refine x_nn0 g15 ?_
  obtain ⟨g19, h⟩ := h
  obtain ⟨g20, h⟩ := h
  refine x_callV (rm := rm_X12_thrown) (rest := []) (As := []) C cy_RL_77 g19 (by decide) g20 rfl rfl (Nat.le_of_ble_eq_true rfl) hl.1 dL_law_639 (c_X12_thrown l D cy b14  σ18 _ h) (ks_i (fun x22 σ21 h => ?_))
  refine x_iload C dL_law_642 (lv_at hl 0 rfl) ?_
  refine x_icmp_eq (tgt := 649) C dL_law_644 (by decide) (fun c23 => ?_) (fun c23 => ?_)
  · have h := h.1 c23
    refine x_goto (tgt := 1369) C dL_law_649 (by decide) ?_
    exact t_L_law_1369 C hr hnm hlt Z Z2 hX hbl hLL hQ hL43 p1 p2 p3 p4 ((kc + 1)) ((nc + 6)) _ h ls (lv_sub hl [1, 2, 3, 4, 5] rfl)
  · have h := h.2 c23
    refine x_iconst (v := 0) C dL_law_647 (by decide) ?_
    exact x_lawret C hr h.1 (hQ _ _ h.2) dL_law_648
def b_L_law_613 (L : Nat) (xs : Nat → Int32) (L43 : Option Nat × Option Nat × Option Nat × Int32 × Nat × Nat → Sto → Prop) (Q : Int32 → Sto → Prop) (p1 : Option Nat) (p2 : Option Nat) (p3 : Option Nat) (p4 : Int32) (kc : Nat) (nc : Nat) (σ : Sto) : Prop := b_L_law_1369 L xs L43 Q p1 p2 p3 p4 kc nc σ
set_option maxHeartbeats 4000000 in
set_option maxRecDepth 100000 in
theorem t_L_law_613 {p : Program} {l : Launch} {e : Env} {s : State} {m : MethodId} {below : List Frame} {meth : Method} {c : Code} {D : va_G} {cy : Nat → ClassId} {b L : Nat} {xs : Nat → Int32}  {L43 : Option Nat × Option Nat × Option Nat × Int32 × Nat × Nat → Sto → Prop} {Q : Int32 → Sto → Prop} (C : Cx p s m #[Value.ref b] meth c D cy (LA s) cL_law 7 RL) (hr : meth.sig.returnType = ret) (hnm : True) (hlt : l.stackTraces = false) (Z : ZW s) (Z2 : ZH (LA s) s s.heap) (hX : va_X b L xs s s.heap) (hbl : b < s.heap.size) (hLL : L < 2 ^ 31) (hQ : ∀ (v : Int32) (τ : Sto), Q v τ → v = 1) (hL43 : ∀ (t : Option Nat × Option Nat × Option Nat × Int32 × Nat × Nat) (σ : Sto), L43 t σ → ∀ ls : Array Slot, lv_has ls 7 [(0, .ref b), (1, va_rf t.1), (2, va_rf t.2.1), (3, va_rf t.2.2.1), (4, .int t.2.2.2.1)] → Xw p l e room_1 s m #[Value.ref b] below meth c D cy (LA s) σ t.2.2.2.2.1 t.2.2.2.2.2 (lw_Z below #[Value.ref b] s) (F0 m 43 ls [])) (p1 : Option Nat) (p2 : Option Nat) (p3 : Option Nat) (p4 : Int32) (kc : Nat) (nc : Nat) (σ : Sto) (h : b_L_law_613 L xs L43 Q p1 p2 p3 p4 kc nc σ) (ls : Array Slot) (hl : lv_has ls 7 [(0, .ref b), (1, va_rf p1), (2, va_rf p2), (3, va_rf p3), (4, .int p4)]) : Xw p l e room_1 s m #[Value.ref b] below meth c D cy (LA s) σ kc nc (lw_Z below #[Value.ref b] s) (F0 m 613 ls []) := by
  unfold b_L_law_613 at h
  refine x_goto (tgt := 1369) C dL_law_613 (by decide) ?_
  exact t_L_law_1369 C hr hnm hlt Z Z2 hX hbl hLL hQ hL43 p1 p2 p3 p4 kc nc _ h ls (lv_sub hl [0, 1, 2, 3, 4] rfl)
def b_L_law_560 (L : Nat) (xs : Nat → Int32) (L43 : Option Nat × Option Nat × Option Nat × Int32 × Nat × Nat → Sto → Prop) (Q : Int32 → Sto → Prop) (p1 : Option Nat) (p2 : Option Nat) (p3 : Option Nat) (p4 : Int32) (kc : Nat) (nc : Nat) (σ : Sto) : Prop := (∀ x1 : Int32, x1 = p4 + (1 : Int32) → (vp_in x1 L ∧ (∀ x4 : Int32, x4 = xs x1.toNatClampNeg → ((kc + 1 ≤ 600128 ∧ nc + 6 ≤ 7301064) ∧ (wp_L_nudge p1 x4 p3 σ (fun (x8 : Int32) (σ7 : Sto) => (∀ x9 : Int32, x9 = p4 + (1 : Int32) → (vp_in x9 L ∧ (∀ x12 : Int32, x12 = xs x9.toNatClampNeg → (∃ b14 : Nat, p2 = some b14 ∧ (sK σ7 b14 = 12 ∧ (((kc + 1) ≤ 600128 ∧ (nc + 6) ≤ 7301064) ∧ (wp_X12_nudge b14 x12 σ7 (fun (x19 : Int32) (σ18 : Sto) => (sK σ18 b14 = 12 ∧ (((kc + 1) ≤ 600128 ∧ (nc + 6) ≤ 7301064) ∧ (wp_X12_thrown b14  σ18 (fun (x23 : Int32) (σ22 : Sto) => ((x23 = x8 → ((¬ x8 = 0 → b_L_law_613 L xs L43 Q p1 p2 p3 p4 ((kc + 1)) ((nc + 6)) σ22) ∧ (x8 = 0 → (∃ b26 : Nat, p3 = some b26 ∧ (sK σ22 b26 = 15 ∧ (vp_in (0 : Int32) (sN σ22 b26) ∧ (∀ y30 : Int64, y30 = sJ σ22 b26 (0 : Int32).toNatClampNeg → (((lg_cmp y30 x19.toInt64) = 0 → b_L_law_613 L xs L43 Q p1 p2 p3 p4 ((kc + 1)) ((nc + 6)) σ22) ∧ (¬ (lg_cmp y30 x19.toInt64) = 0 → (((kc + 1) ≤ 600128 ∧ (nc + 6) ≤ 7301064) ∧ Q (0 : Int32) σ22)))))))))) ∧ (¬ x23 = x8 → (((kc + 1) ≤ 600128 ∧ (nc + 6) ≤ 7301064) ∧ Q (0 : Int32) σ22)))))))))))))))))))))
set_option maxHeartbeats 4000000 in
set_option maxRecDepth 100000 in
theorem t_L_law_560 {p : Program} {l : Launch} {e : Env} {s : State} {m : MethodId} {below : List Frame} {meth : Method} {c : Code} {D : va_G} {cy : Nat → ClassId} {b L : Nat} {xs : Nat → Int32}  {L43 : Option Nat × Option Nat × Option Nat × Int32 × Nat × Nat → Sto → Prop} {Q : Int32 → Sto → Prop} (C : Cx p s m #[Value.ref b] meth c D cy (LA s) cL_law 7 RL) (hr : meth.sig.returnType = ret) (hnm : True) (hlt : l.stackTraces = false) (Z : ZW s) (Z2 : ZH (LA s) s s.heap) (hX : va_X b L xs s s.heap) (hbl : b < s.heap.size) (hLL : L < 2 ^ 31) (hQ : ∀ (v : Int32) (τ : Sto), Q v τ → v = 1) (hL43 : ∀ (t : Option Nat × Option Nat × Option Nat × Int32 × Nat × Nat) (σ : Sto), L43 t σ → ∀ ls : Array Slot, lv_has ls 7 [(0, .ref b), (1, va_rf t.1), (2, va_rf t.2.1), (3, va_rf t.2.2.1), (4, .int t.2.2.2.1)] → Xw p l e room_1 s m #[Value.ref b] below meth c D cy (LA s) σ t.2.2.2.2.1 t.2.2.2.2.2 (lw_Z below #[Value.ref b] s) (F0 m 43 ls [])) (p1 : Option Nat) (p2 : Option Nat) (p3 : Option Nat) (p4 : Int32) (kc : Nat) (nc : Nat) (σ : Sto) (h : b_L_law_560 L xs L43 Q p1 p2 p3 p4 kc nc σ) (ls : Array Slot) (hl : lv_has ls 7 [(0, .ref b), (1, va_rf p1), (2, va_rf p2), (3, va_rf p3), (4, .int p4)]) : Xw p l e room_1 s m #[Value.ref b] below meth c D cy (LA s) σ kc nc (lw_Z below #[Value.ref b] s) (F0 m 560 ls []) := by
  unfold b_L_law_560 at h
  refine x_aload_nq C dL_law_560 rfl (lv_at hl 1 rfl) ?_
  refine x_aload_n C dL_law_561 rfl (lv_at hl 0 rfl) ?_
  refine x_iload C dL_law_562 (lv_at hl 4 rfl) ?_
  refine x_iconst (v := 1) C dL_law_564 (by decide) ?_
  refine x_iadd C dL_law_565 ?_
  refine x_topi (fun x1 e2 => ?_)
  have h := h x1 e2
  obtain ⟨g3, h⟩ := h
  refine x_sld C hX hbl g3 dL_law_566 ?_
  refine x_topi (fun x4 e5 => ?_)
  have h := h x4 e5
  refine x_aload_nq C dL_law_567 rfl (lv_at hl 3 rfl) ?_
  obtain ⟨g6, h⟩ := h
  refine x_callSW (rm := rm_L_nudge) (rest := []) (As := [va_rf p1, .int x4, va_rf p3]) C Z Z2 ml_RL_103 ys_L_nudge in_RL yw_L_nudge yh_L_nudge (by decide) g6 rfl rfl (Nat.le_of_ble_eq_true rfl) hl.1 dL_law_568 (c_L_nudge l hlt D cy p1 x4 p3 σ _ h) (ks_i (fun x8 σ7 h => ?_))
  refine x_istore (i := 5) (lv' := [(5, .int x8), (0, .ref b), (1, va_rf p1), (2, va_rf p2), (3, va_rf p3), (4, .int p4)]) C dL_law_571 hl (by decide) (by first | rfl | simp [vrc, cat_i, cat_r, cat_l]) (fun ls hl => ?_)
  refine x_aload_nq C dL_law_573 rfl (lv_at hl 3 rfl) ?_
  refine x_aload_n C dL_law_574 rfl (lv_at hl 1 rfl) ?_
  refine x_iload C dL_law_575 (lv_at hl 5 rfl) ?_
  refine x_iconst (v := 1) C dL_law_577 (by decide) ?_
  refine x_iadd C dL_law_578 ?_
  refine x_topi (fun x9 e10 => ?_)
  have h := h x9 e10
  obtain ⟨g11, h⟩ := h
  refine x_sld C hX hbl g11 dL_law_579 ?_
  refine x_topi (fun x12 e13 => ?_)
  have h := h x12 e13
  obtain ⟨b14, g15, h⟩ := h
  refine x_nn1 g15 ?_
  obtain ⟨g16, h⟩ := h
  obtain ⟨g17, h⟩ := h
  refine x_callV (rm := rm_X12_nudge) (rest := []) (As := [.int x12]) C cy_RL_105 g16 (by decide) g17 rfl rfl (Nat.le_of_ble_eq_true rfl) hl.1 dL_law_580 (c_X12_nudge l D cy b14 x12 σ7 _ h) (ks_i (fun x19 σ18 h => ?_))
  refine x_istore (i := 6) (lv' := [(6, .int x19), (5, .int x8), (0, .ref b), (1, va_rf p1), (2, va_rf p2), (3, va_rf p3), (4, .int p4)]) C dL_law_583 hl (by decide) (by first | rfl | simp [vrc, cat_i, cat_r, cat_l]) (fun ls hl => ?_)
  refine x_aload_nq C dL_law_585 rfl (lv_at hl 4 rfl) ?_
  refine x_nn0 g15 ?_
  obtain ⟨g20, h⟩ := h
  obtain ⟨g21, h⟩ := h
  refine x_callV (rm := rm_X12_thrown) (rest := []) (As := []) C cy_RL_77 g20 (by decide) g21 rfl rfl (Nat.le_of_ble_eq_true rfl) hl.1 dL_law_586 (c_X12_thrown l D cy b14  σ18 _ h) (ks_i (fun x23 σ22 h => ?_))
  refine x_iload C dL_law_589 (lv_at hl 1 rfl) ?_
  refine x_icmp_eq (tgt := 596) C dL_law_591 (by decide) (fun c24 => ?_) (fun c24 => ?_)
  · have h := h.1 c24
    refine x_iload C dL_law_596 (lv_at hl 1 rfl) ?_
    refine x_if_ne (tgt := 613) C dL_law_598 (by decide) (fun c25 => ?_) (fun c25 => ?_)
    · have h := h.1 c25
      exact t_L_law_613 C hr hnm hlt Z Z2 hX hbl hLL hQ hL43 p1 p2 p3 p4 ((kc + 1)) ((nc + 6)) _ h ls (lv_sub hl [2, 3, 4, 5, 6] rfl)
    · have h := h.2 c25
      refine x_aload_nq C dL_law_601 rfl (lv_at hl 5 rfl) ?_
      refine x_iconst (v := 0) C dL_law_602 (by decide) ?_
      obtain ⟨b26, g27, h⟩ := h
      refine x_nn1 g27 ?_
      obtain ⟨g28, h⟩ := h
      obtain ⟨g29, h⟩ := h
      refine x_lald C g28 g29 dL_law_603 ?_
      refine x_topj (fun y30 e31 => ?_)
      have h := h y30 e31
      refine x_iload C dL_law_604 (lv_at hl 0 rfl) ?_
      refine x_i2l C dL_law_606 ?_
      refine x_lcmp C dL_law_607 ?_
      refine x_if_eq (tgt := 613) C dL_law_608 (by decide) (fun c32 => ?_) (fun c32 => ?_)
      · have h := h.1 c32
        exact t_L_law_613 C hr hnm hlt Z Z2 hX hbl hLL hQ hL43 p1 p2 p3 p4 ((kc + 1)) ((nc + 6)) _ h ls (lv_sub hl [2, 3, 4, 5, 6] rfl)
      · have h := h.2 c32
        refine x_iconst (v := 0) C dL_law_611 (by decide) ?_
        exact x_lawret C hr h.1 (hQ _ _ h.2) dL_law_612
  · have h := h.2 c24
    refine x_iconst (v := 0) C dL_law_594 (by decide) ?_
    exact x_lawret C hr h.1 (hQ _ _ h.2) dL_law_595
def b_L_law_524 (L : Nat) (xs : Nat → Int32) (L43 : Option Nat × Option Nat × Option Nat × Int32 × Nat × Nat → Sto → Prop) (Q : Int32 → Sto → Prop) (p1 : Option Nat) (p2 : Option Nat) (p3 : Option Nat) (p4 : Int32) (kc : Nat) (nc : Nat) (σ : Sto) : Prop := (∀ x1 : Int32, x1 = p4 + (1 : Int32) → (vp_in x1 L ∧ (∀ x4 : Int32, x4 = xs x1.toNatClampNeg → ((kc + 1 ≤ 600128 ∧ nc + 6 ≤ 7301064) ∧ (wp_L_suspect p1 x4 σ (fun (x8 : Int32) (σ7 : Sto) => (∀ x9 : Int32, x9 = p4 + (1 : Int32) → (vp_in x9 L ∧ (∀ x12 : Int32, x12 = xs x9.toNatClampNeg → (∃ b14 : Nat, p2 = some b14 ∧ (sK σ7 b14 = 12 ∧ (((kc + 1) ≤ 600128 ∧ (nc + 6) ≤ 7301064) ∧ (wp_X12_suspect b14 x12 σ7 (fun (σ18 : Sto) => (sK σ18 b14 = 12 ∧ (((kc + 1) ≤ 600128 ∧ (nc + 6) ≤ 7301064) ∧ (wp_X12_thrown b14  σ18 (fun (x22 : Int32) (σ21 : Sto) => ((x22 = x8 → b_L_law_1369 L xs L43 Q p1 p2 p3 p4 ((kc + 1)) ((nc + 6)) σ21) ∧ (¬ x22 = x8 → (((kc + 1) ≤ 600128 ∧ (nc + 6) ≤ 7301064) ∧ Q (0 : Int32) σ21)))))))))))))))))))))
set_option maxHeartbeats 4000000 in
set_option maxRecDepth 100000 in
theorem t_L_law_524 {p : Program} {l : Launch} {e : Env} {s : State} {m : MethodId} {below : List Frame} {meth : Method} {c : Code} {D : va_G} {cy : Nat → ClassId} {b L : Nat} {xs : Nat → Int32}  {L43 : Option Nat × Option Nat × Option Nat × Int32 × Nat × Nat → Sto → Prop} {Q : Int32 → Sto → Prop} (C : Cx p s m #[Value.ref b] meth c D cy (LA s) cL_law 7 RL) (hr : meth.sig.returnType = ret) (hnm : True) (hlt : l.stackTraces = false) (Z : ZW s) (Z2 : ZH (LA s) s s.heap) (hX : va_X b L xs s s.heap) (hbl : b < s.heap.size) (hLL : L < 2 ^ 31) (hQ : ∀ (v : Int32) (τ : Sto), Q v τ → v = 1) (hL43 : ∀ (t : Option Nat × Option Nat × Option Nat × Int32 × Nat × Nat) (σ : Sto), L43 t σ → ∀ ls : Array Slot, lv_has ls 7 [(0, .ref b), (1, va_rf t.1), (2, va_rf t.2.1), (3, va_rf t.2.2.1), (4, .int t.2.2.2.1)] → Xw p l e room_1 s m #[Value.ref b] below meth c D cy (LA s) σ t.2.2.2.2.1 t.2.2.2.2.2 (lw_Z below #[Value.ref b] s) (F0 m 43 ls [])) (p1 : Option Nat) (p2 : Option Nat) (p3 : Option Nat) (p4 : Int32) (kc : Nat) (nc : Nat) (σ : Sto) (h : b_L_law_524 L xs L43 Q p1 p2 p3 p4 kc nc σ) (ls : Array Slot) (hl : lv_has ls 7 [(0, .ref b), (1, va_rf p1), (2, va_rf p2), (3, va_rf p3), (4, .int p4)]) : Xw p l e room_1 s m #[Value.ref b] below meth c D cy (LA s) σ kc nc (lw_Z below #[Value.ref b] s) (F0 m 524 ls []) := by
  unfold b_L_law_524 at h
  refine x_aload_nq C dL_law_524 rfl (lv_at hl 1 rfl) ?_
  refine x_aload_n C dL_law_525 rfl (lv_at hl 0 rfl) ?_
  refine x_iload C dL_law_526 (lv_at hl 4 rfl) ?_
  refine x_iconst (v := 1) C dL_law_528 (by decide) ?_
  refine x_iadd C dL_law_529 ?_
  refine x_topi (fun x1 e2 => ?_)
  have h := h x1 e2
  obtain ⟨g3, h⟩ := h
  refine x_sld C hX hbl g3 dL_law_530 ?_
  refine x_topi (fun x4 e5 => ?_)
  have h := h x4 e5
  obtain ⟨g6, h⟩ := h
  refine x_callSW (rm := rm_L_suspect) (rest := []) (As := [va_rf p1, .int x4]) C Z Z2 ml_RL_100 ys_L_suspect in_RL yw_L_suspect yh_L_suspect (by decide) g6 rfl rfl (Nat.le_of_ble_eq_true rfl) hl.1 dL_law_531 (c_L_suspect l hlt D cy p1 x4 σ _ h) (ks_i (fun x8 σ7 h => ?_))
  refine x_istore (i := 5) (lv' := [(5, .int x8), (0, .ref b), (1, va_rf p1), (2, va_rf p2), (3, va_rf p3), (4, .int p4)]) C dL_law_534 hl (by decide) (by first | rfl | simp [vrc, cat_i, cat_r, cat_l]) (fun ls hl => ?_)
  refine x_aload_nq C dL_law_536 rfl (lv_at hl 3 rfl) ?_
  refine x_aload_n C dL_law_537 rfl (lv_at hl 1 rfl) ?_
  refine x_iload C dL_law_538 (lv_at hl 5 rfl) ?_
  refine x_iconst (v := 1) C dL_law_540 (by decide) ?_
  refine x_iadd C dL_law_541 ?_
  refine x_topi (fun x9 e10 => ?_)
  have h := h x9 e10
  obtain ⟨g11, h⟩ := h
  refine x_sld C hX hbl g11 dL_law_542 ?_
  refine x_topi (fun x12 e13 => ?_)
  have h := h x12 e13
  obtain ⟨b14, g15, h⟩ := h
  refine x_nn1 g15 ?_
  obtain ⟨g16, h⟩ := h
  obtain ⟨g17, h⟩ := h
  refine x_callV (rm := rm_X12_suspect) (rest := []) (As := [.int x12]) C cy_RL_102 g16 (by decide) g17 rfl rfl (Nat.le_of_ble_eq_true rfl) hl.1 dL_law_543 (c_X12_suspect l D cy b14 x12 σ7 _ h) (ks_v (fun σ18 h => ?_))
  refine x_aload_nq C dL_law_546 rfl (lv_at hl 3 rfl) ?_
  refine x_nn0 g15 ?_
  obtain ⟨g19, h⟩ := h
  obtain ⟨g20, h⟩ := h
  refine x_callV (rm := rm_X12_thrown) (rest := []) (As := []) C cy_RL_77 g19 (by decide) g20 rfl rfl (Nat.le_of_ble_eq_true rfl) hl.1 dL_law_547 (c_X12_thrown l D cy b14  σ18 _ h) (ks_i (fun x22 σ21 h => ?_))
  refine x_iload C dL_law_550 (lv_at hl 0 rfl) ?_
  refine x_icmp_eq (tgt := 557) C dL_law_552 (by decide) (fun c23 => ?_) (fun c23 => ?_)
  · have h := h.1 c23
    refine x_goto (tgt := 1369) C dL_law_557 (by decide) ?_
    exact t_L_law_1369 C hr hnm hlt Z Z2 hX hbl hLL hQ hL43 p1 p2 p3 p4 ((kc + 1)) ((nc + 6)) _ h ls (lv_sub hl [1, 2, 3, 4, 5] rfl)
  · have h := h.2 c23
    refine x_iconst (v := 0) C dL_law_555 (by decide) ?_
    exact x_lawret C hr h.1 (hQ _ _ h.2) dL_law_556
def b_L_law_488 (L : Nat) (xs : Nat → Int32) (L43 : Option Nat × Option Nat × Option Nat × Int32 × Nat × Nat → Sto → Prop) (Q : Int32 → Sto → Prop) (p1 : Option Nat) (p2 : Option Nat) (p3 : Option Nat) (p4 : Int32) (kc : Nat) (nc : Nat) (σ : Sto) : Prop := (∀ x1 : Int32, x1 = p4 + (1 : Int32) → (vp_in x1 L ∧ (∀ x4 : Int32, x4 = xs x1.toNatClampNeg → ((kc + 1 ≤ 600128 ∧ nc + 6 ≤ 7301064) ∧ (wp_L_up p1 x4 σ (fun (x8 : Int32) (σ7 : Sto) => (∀ x9 : Int32, x9 = p4 + (1 : Int32) → (vp_in x9 L ∧ (∀ x12 : Int32, x12 = xs x9.toNatClampNeg → (∃ b14 : Nat, p2 = some b14 ∧ (sK σ7 b14 = 12 ∧ (((kc + 1) ≤ 600128 ∧ (nc + 6) ≤ 7301064) ∧ (wp_X12_up b14 x12 σ7 (fun (σ18 : Sto) => (sK σ18 b14 = 12 ∧ (((kc + 1) ≤ 600128 ∧ (nc + 6) ≤ 7301064) ∧ (wp_X12_thrown b14  σ18 (fun (x22 : Int32) (σ21 : Sto) => ((x22 = x8 → b_L_law_1369 L xs L43 Q p1 p2 p3 p4 ((kc + 1)) ((nc + 6)) σ21) ∧ (¬ x22 = x8 → (((kc + 1) ≤ 600128 ∧ (nc + 6) ≤ 7301064) ∧ Q (0 : Int32) σ21)))))))))))))))))))))
set_option maxHeartbeats 4000000 in
set_option maxRecDepth 100000 in
theorem t_L_law_488 {p : Program} {l : Launch} {e : Env} {s : State} {m : MethodId} {below : List Frame} {meth : Method} {c : Code} {D : va_G} {cy : Nat → ClassId} {b L : Nat} {xs : Nat → Int32}  {L43 : Option Nat × Option Nat × Option Nat × Int32 × Nat × Nat → Sto → Prop} {Q : Int32 → Sto → Prop} (C : Cx p s m #[Value.ref b] meth c D cy (LA s) cL_law 7 RL) (hr : meth.sig.returnType = ret) (hnm : True) (hlt : l.stackTraces = false) (Z : ZW s) (Z2 : ZH (LA s) s s.heap) (hX : va_X b L xs s s.heap) (hbl : b < s.heap.size) (hLL : L < 2 ^ 31) (hQ : ∀ (v : Int32) (τ : Sto), Q v τ → v = 1) (hL43 : ∀ (t : Option Nat × Option Nat × Option Nat × Int32 × Nat × Nat) (σ : Sto), L43 t σ → ∀ ls : Array Slot, lv_has ls 7 [(0, .ref b), (1, va_rf t.1), (2, va_rf t.2.1), (3, va_rf t.2.2.1), (4, .int t.2.2.2.1)] → Xw p l e room_1 s m #[Value.ref b] below meth c D cy (LA s) σ t.2.2.2.2.1 t.2.2.2.2.2 (lw_Z below #[Value.ref b] s) (F0 m 43 ls [])) (p1 : Option Nat) (p2 : Option Nat) (p3 : Option Nat) (p4 : Int32) (kc : Nat) (nc : Nat) (σ : Sto) (h : b_L_law_488 L xs L43 Q p1 p2 p3 p4 kc nc σ) (ls : Array Slot) (hl : lv_has ls 7 [(0, .ref b), (1, va_rf p1), (2, va_rf p2), (3, va_rf p3), (4, .int p4)]) : Xw p l e room_1 s m #[Value.ref b] below meth c D cy (LA s) σ kc nc (lw_Z below #[Value.ref b] s) (F0 m 488 ls []) := by
  unfold b_L_law_488 at h
  refine x_aload_nq C dL_law_488 rfl (lv_at hl 1 rfl) ?_
  refine x_aload_n C dL_law_489 rfl (lv_at hl 0 rfl) ?_
  refine x_iload C dL_law_490 (lv_at hl 4 rfl) ?_
  refine x_iconst (v := 1) C dL_law_492 (by decide) ?_
  refine x_iadd C dL_law_493 ?_
  refine x_topi (fun x1 e2 => ?_)
  have h := h x1 e2
  obtain ⟨g3, h⟩ := h
  refine x_sld C hX hbl g3 dL_law_494 ?_
  refine x_topi (fun x4 e5 => ?_)
  have h := h x4 e5
  obtain ⟨g6, h⟩ := h
  refine x_callSW (rm := rm_L_up) (rest := []) (As := [va_rf p1, .int x4]) C Z Z2 ml_RL_97 ys_L_up in_RL yw_L_up yh_L_up (by decide) g6 rfl rfl (Nat.le_of_ble_eq_true rfl) hl.1 dL_law_495 (c_L_up l hlt D cy p1 x4 σ _ h) (ks_i (fun x8 σ7 h => ?_))
  refine x_istore (i := 5) (lv' := [(5, .int x8), (0, .ref b), (1, va_rf p1), (2, va_rf p2), (3, va_rf p3), (4, .int p4)]) C dL_law_498 hl (by decide) (by first | rfl | simp [vrc, cat_i, cat_r, cat_l]) (fun ls hl => ?_)
  refine x_aload_nq C dL_law_500 rfl (lv_at hl 3 rfl) ?_
  refine x_aload_n C dL_law_501 rfl (lv_at hl 1 rfl) ?_
  refine x_iload C dL_law_502 (lv_at hl 5 rfl) ?_
  refine x_iconst (v := 1) C dL_law_504 (by decide) ?_
  refine x_iadd C dL_law_505 ?_
  refine x_topi (fun x9 e10 => ?_)
  have h := h x9 e10
  obtain ⟨g11, h⟩ := h
  refine x_sld C hX hbl g11 dL_law_506 ?_
  refine x_topi (fun x12 e13 => ?_)
  have h := h x12 e13
  obtain ⟨b14, g15, h⟩ := h
  refine x_nn1 g15 ?_
  obtain ⟨g16, h⟩ := h
  obtain ⟨g17, h⟩ := h
  refine x_callV (rm := rm_X12_up) (rest := []) (As := [.int x12]) C cy_RL_99 g16 (by decide) g17 rfl rfl (Nat.le_of_ble_eq_true rfl) hl.1 dL_law_507 (c_X12_up l D cy b14 x12 σ7 _ h) (ks_v (fun σ18 h => ?_))
  refine x_aload_nq C dL_law_510 rfl (lv_at hl 3 rfl) ?_
  refine x_nn0 g15 ?_
  obtain ⟨g19, h⟩ := h
  obtain ⟨g20, h⟩ := h
  refine x_callV (rm := rm_X12_thrown) (rest := []) (As := []) C cy_RL_77 g19 (by decide) g20 rfl rfl (Nat.le_of_ble_eq_true rfl) hl.1 dL_law_511 (c_X12_thrown l D cy b14  σ18 _ h) (ks_i (fun x22 σ21 h => ?_))
  refine x_iload C dL_law_514 (lv_at hl 0 rfl) ?_
  refine x_icmp_eq (tgt := 521) C dL_law_516 (by decide) (fun c23 => ?_) (fun c23 => ?_)
  · have h := h.1 c23
    refine x_goto (tgt := 1369) C dL_law_521 (by decide) ?_
    exact t_L_law_1369 C hr hnm hlt Z Z2 hX hbl hLL hQ hL43 p1 p2 p3 p4 ((kc + 1)) ((nc + 6)) _ h ls (lv_sub hl [1, 2, 3, 4, 5] rfl)
  · have h := h.2 c23
    refine x_iconst (v := 0) C dL_law_519 (by decide) ?_
    exact x_lawret C hr h.1 (hQ _ _ h.2) dL_law_520
def b_L_law_452 (L : Nat) (xs : Nat → Int32) (L43 : Option Nat × Option Nat × Option Nat × Int32 × Nat × Nat → Sto → Prop) (Q : Int32 → Sto → Prop) (p1 : Option Nat) (p2 : Option Nat) (p3 : Option Nat) (p4 : Int32) (kc : Nat) (nc : Nat) (σ : Sto) : Prop := (∀ x1 : Int32, x1 = p4 + (1 : Int32) → (vp_in x1 L ∧ (∀ x4 : Int32, x4 = xs x1.toNatClampNeg → ((kc + 1 ≤ 600128 ∧ nc + 6 ≤ 7301064) ∧ (wp_L_down p1 x4 σ (fun (x8 : Int32) (σ7 : Sto) => (∀ x9 : Int32, x9 = p4 + (1 : Int32) → (vp_in x9 L ∧ (∀ x12 : Int32, x12 = xs x9.toNatClampNeg → (∃ b14 : Nat, p2 = some b14 ∧ (sK σ7 b14 = 12 ∧ (((kc + 1) ≤ 600128 ∧ (nc + 6) ≤ 7301064) ∧ (wp_X12_down b14 x12 σ7 (fun (σ18 : Sto) => (sK σ18 b14 = 12 ∧ (((kc + 1) ≤ 600128 ∧ (nc + 6) ≤ 7301064) ∧ (wp_X12_thrown b14  σ18 (fun (x22 : Int32) (σ21 : Sto) => ((x22 = x8 → b_L_law_1369 L xs L43 Q p1 p2 p3 p4 ((kc + 1)) ((nc + 6)) σ21) ∧ (¬ x22 = x8 → (((kc + 1) ≤ 600128 ∧ (nc + 6) ≤ 7301064) ∧ Q (0 : Int32) σ21)))))))))))))))))))))
set_option maxHeartbeats 4000000 in
set_option maxRecDepth 100000 in
theorem t_L_law_452 {p : Program} {l : Launch} {e : Env} {s : State} {m : MethodId} {below : List Frame} {meth : Method} {c : Code} {D : va_G} {cy : Nat → ClassId} {b L : Nat} {xs : Nat → Int32}  {L43 : Option Nat × Option Nat × Option Nat × Int32 × Nat × Nat → Sto → Prop} {Q : Int32 → Sto → Prop} (C : Cx p s m #[Value.ref b] meth c D cy (LA s) cL_law 7 RL) (hr : meth.sig.returnType = ret) (hnm : True) (hlt : l.stackTraces = false) (Z : ZW s) (Z2 : ZH (LA s) s s.heap) (hX : va_X b L xs s s.heap) (hbl : b < s.heap.size) (hLL : L < 2 ^ 31) (hQ : ∀ (v : Int32) (τ : Sto), Q v τ → v = 1) (hL43 : ∀ (t : Option Nat × Option Nat × Option Nat × Int32 × Nat × Nat) (σ : Sto), L43 t σ → ∀ ls : Array Slot, lv_has ls 7 [(0, .ref b), (1, va_rf t.1), (2, va_rf t.2.1), (3, va_rf t.2.2.1), (4, .int t.2.2.2.1)] → Xw p l e room_1 s m #[Value.ref b] below meth c D cy (LA s) σ t.2.2.2.2.1 t.2.2.2.2.2 (lw_Z below #[Value.ref b] s) (F0 m 43 ls [])) (p1 : Option Nat) (p2 : Option Nat) (p3 : Option Nat) (p4 : Int32) (kc : Nat) (nc : Nat) (σ : Sto) (h : b_L_law_452 L xs L43 Q p1 p2 p3 p4 kc nc σ) (ls : Array Slot) (hl : lv_has ls 7 [(0, .ref b), (1, va_rf p1), (2, va_rf p2), (3, va_rf p3), (4, .int p4)]) : Xw p l e room_1 s m #[Value.ref b] below meth c D cy (LA s) σ kc nc (lw_Z below #[Value.ref b] s) (F0 m 452 ls []) := by
  unfold b_L_law_452 at h
  refine x_aload_nq C dL_law_452 rfl (lv_at hl 1 rfl) ?_
  refine x_aload_n C dL_law_453 rfl (lv_at hl 0 rfl) ?_
  refine x_iload C dL_law_454 (lv_at hl 4 rfl) ?_
  refine x_iconst (v := 1) C dL_law_456 (by decide) ?_
  refine x_iadd C dL_law_457 ?_
  refine x_topi (fun x1 e2 => ?_)
  have h := h x1 e2
  obtain ⟨g3, h⟩ := h
  refine x_sld C hX hbl g3 dL_law_458 ?_
  refine x_topi (fun x4 e5 => ?_)
  have h := h x4 e5
  obtain ⟨g6, h⟩ := h
  refine x_callSW (rm := rm_L_down) (rest := []) (As := [va_rf p1, .int x4]) C Z Z2 ml_RL_94 ys_L_down in_RL yw_L_down yh_L_down (by decide) g6 rfl rfl (Nat.le_of_ble_eq_true rfl) hl.1 dL_law_459 (c_L_down l hlt D cy p1 x4 σ _ h) (ks_i (fun x8 σ7 h => ?_))
  refine x_istore (i := 5) (lv' := [(5, .int x8), (0, .ref b), (1, va_rf p1), (2, va_rf p2), (3, va_rf p3), (4, .int p4)]) C dL_law_462 hl (by decide) (by first | rfl | simp [vrc, cat_i, cat_r, cat_l]) (fun ls hl => ?_)
  refine x_aload_nq C dL_law_464 rfl (lv_at hl 3 rfl) ?_
  refine x_aload_n C dL_law_465 rfl (lv_at hl 1 rfl) ?_
  refine x_iload C dL_law_466 (lv_at hl 5 rfl) ?_
  refine x_iconst (v := 1) C dL_law_468 (by decide) ?_
  refine x_iadd C dL_law_469 ?_
  refine x_topi (fun x9 e10 => ?_)
  have h := h x9 e10
  obtain ⟨g11, h⟩ := h
  refine x_sld C hX hbl g11 dL_law_470 ?_
  refine x_topi (fun x12 e13 => ?_)
  have h := h x12 e13
  obtain ⟨b14, g15, h⟩ := h
  refine x_nn1 g15 ?_
  obtain ⟨g16, h⟩ := h
  obtain ⟨g17, h⟩ := h
  refine x_callV (rm := rm_X12_down) (rest := []) (As := [.int x12]) C cy_RL_96 g16 (by decide) g17 rfl rfl (Nat.le_of_ble_eq_true rfl) hl.1 dL_law_471 (c_X12_down l D cy b14 x12 σ7 _ h) (ks_v (fun σ18 h => ?_))
  refine x_aload_nq C dL_law_474 rfl (lv_at hl 3 rfl) ?_
  refine x_nn0 g15 ?_
  obtain ⟨g19, h⟩ := h
  obtain ⟨g20, h⟩ := h
  refine x_callV (rm := rm_X12_thrown) (rest := []) (As := []) C cy_RL_77 g19 (by decide) g20 rfl rfl (Nat.le_of_ble_eq_true rfl) hl.1 dL_law_475 (c_X12_thrown l D cy b14  σ18 _ h) (ks_i (fun x22 σ21 h => ?_))
  refine x_iload C dL_law_478 (lv_at hl 0 rfl) ?_
  refine x_icmp_eq (tgt := 485) C dL_law_480 (by decide) (fun c23 => ?_) (fun c23 => ?_)
  · have h := h.1 c23
    refine x_goto (tgt := 1369) C dL_law_485 (by decide) ?_
    exact t_L_law_1369 C hr hnm hlt Z Z2 hX hbl hLL hQ hL43 p1 p2 p3 p4 ((kc + 1)) ((nc + 6)) _ h ls (lv_sub hl [1, 2, 3, 4, 5] rfl)
  · have h := h.2 c23
    refine x_iconst (v := 0) C dL_law_483 (by decide) ?_
    exact x_lawret C hr h.1 (hQ _ _ h.2) dL_law_484
def b_L_law_449 (L : Nat) (xs : Nat → Int32) (L43 : Option Nat × Option Nat × Option Nat × Int32 × Nat × Nat → Sto → Prop) (Q : Int32 → Sto → Prop) (p1 : Option Nat) (p2 : Option Nat) (p3 : Option Nat) (p4 : Int32) (kc : Nat) (nc : Nat) (σ : Sto) : Prop := b_L_law_1369 L xs L43 Q p1 p2 p3 p4 kc nc σ
set_option maxHeartbeats 4000000 in
set_option maxRecDepth 100000 in
theorem t_L_law_449 {p : Program} {l : Launch} {e : Env} {s : State} {m : MethodId} {below : List Frame} {meth : Method} {c : Code} {D : va_G} {cy : Nat → ClassId} {b L : Nat} {xs : Nat → Int32}  {L43 : Option Nat × Option Nat × Option Nat × Int32 × Nat × Nat → Sto → Prop} {Q : Int32 → Sto → Prop} (C : Cx p s m #[Value.ref b] meth c D cy (LA s) cL_law 7 RL) (hr : meth.sig.returnType = ret) (hnm : True) (hlt : l.stackTraces = false) (Z : ZW s) (Z2 : ZH (LA s) s s.heap) (hX : va_X b L xs s s.heap) (hbl : b < s.heap.size) (hLL : L < 2 ^ 31) (hQ : ∀ (v : Int32) (τ : Sto), Q v τ → v = 1) (hL43 : ∀ (t : Option Nat × Option Nat × Option Nat × Int32 × Nat × Nat) (σ : Sto), L43 t σ → ∀ ls : Array Slot, lv_has ls 7 [(0, .ref b), (1, va_rf t.1), (2, va_rf t.2.1), (3, va_rf t.2.2.1), (4, .int t.2.2.2.1)] → Xw p l e room_1 s m #[Value.ref b] below meth c D cy (LA s) σ t.2.2.2.2.1 t.2.2.2.2.2 (lw_Z below #[Value.ref b] s) (F0 m 43 ls [])) (p1 : Option Nat) (p2 : Option Nat) (p3 : Option Nat) (p4 : Int32) (kc : Nat) (nc : Nat) (σ : Sto) (h : b_L_law_449 L xs L43 Q p1 p2 p3 p4 kc nc σ) (ls : Array Slot) (hl : lv_has ls 7 [(0, .ref b), (1, va_rf p1), (2, va_rf p2), (3, va_rf p3), (4, .int p4)]) : Xw p l e room_1 s m #[Value.ref b] below meth c D cy (LA s) σ kc nc (lw_Z below #[Value.ref b] s) (F0 m 449 ls []) := by
  unfold b_L_law_449 at h
  refine x_goto (tgt := 1369) C dL_law_449 (by decide) ?_
  exact t_L_law_1369 C hr hnm hlt Z Z2 hX hbl hLL hQ hL43 p1 p2 p3 p4 kc nc _ h ls (lv_sub hl [0, 1, 2, 3, 4] rfl)
def b_L_law_396 (L : Nat) (xs : Nat → Int32) (L43 : Option Nat × Option Nat × Option Nat × Int32 × Nat × Nat → Sto → Prop) (Q : Int32 → Sto → Prop) (p1 : Option Nat) (p2 : Option Nat) (p3 : Option Nat) (p4 : Int32) (kc : Nat) (nc : Nat) (σ : Sto) : Prop := (∀ x1 : Int32, x1 = p4 + (1 : Int32) → (vp_in x1 L ∧ (∀ x4 : Int32, x4 = xs x1.toNatClampNeg → ((kc + 1 ≤ 600128 ∧ nc + 6 ≤ 7301064) ∧ (wp_L_flow p1 x4 p3 σ (fun (x8 : Int32) (σ7 : Sto) => (∀ x9 : Int32, x9 = p4 + (1 : Int32) → (vp_in x9 L ∧ (∀ x12 : Int32, x12 = xs x9.toNatClampNeg → (∃ b14 : Nat, p2 = some b14 ∧ (sK σ7 b14 = 12 ∧ (((kc + 1) ≤ 600128 ∧ (nc + 6) ≤ 7301064) ∧ (wp_X12_flow b14 x12 σ7 (fun (x19 : Int32) (σ18 : Sto) => (sK σ18 b14 = 12 ∧ (((kc + 1) ≤ 600128 ∧ (nc + 6) ≤ 7301064) ∧ (wp_X12_thrown b14  σ18 (fun (x23 : Int32) (σ22 : Sto) => ((x23 = x8 → ((¬ x8 = 0 → b_L_law_449 L xs L43 Q p1 p2 p3 p4 ((kc + 1)) ((nc + 6)) σ22) ∧ (x8 = 0 → (∃ b26 : Nat, p3 = some b26 ∧ (sK σ22 b26 = 15 ∧ (vp_in (0 : Int32) (sN σ22 b26) ∧ (∀ y30 : Int64, y30 = sJ σ22 b26 (0 : Int32).toNatClampNeg → (((lg_cmp y30 x19.toInt64) = 0 → b_L_law_449 L xs L43 Q p1 p2 p3 p4 ((kc + 1)) ((nc + 6)) σ22) ∧ (¬ (lg_cmp y30 x19.toInt64) = 0 → (((kc + 1) ≤ 600128 ∧ (nc + 6) ≤ 7301064) ∧ Q (0 : Int32) σ22)))))))))) ∧ (¬ x23 = x8 → (((kc + 1) ≤ 600128 ∧ (nc + 6) ≤ 7301064) ∧ Q (0 : Int32) σ22)))))))))))))))))))))
set_option maxHeartbeats 4000000 in
set_option maxRecDepth 100000 in
theorem t_L_law_396 {p : Program} {l : Launch} {e : Env} {s : State} {m : MethodId} {below : List Frame} {meth : Method} {c : Code} {D : va_G} {cy : Nat → ClassId} {b L : Nat} {xs : Nat → Int32}  {L43 : Option Nat × Option Nat × Option Nat × Int32 × Nat × Nat → Sto → Prop} {Q : Int32 → Sto → Prop} (C : Cx p s m #[Value.ref b] meth c D cy (LA s) cL_law 7 RL) (hr : meth.sig.returnType = ret) (hnm : True) (hlt : l.stackTraces = false) (Z : ZW s) (Z2 : ZH (LA s) s s.heap) (hX : va_X b L xs s s.heap) (hbl : b < s.heap.size) (hLL : L < 2 ^ 31) (hQ : ∀ (v : Int32) (τ : Sto), Q v τ → v = 1) (hL43 : ∀ (t : Option Nat × Option Nat × Option Nat × Int32 × Nat × Nat) (σ : Sto), L43 t σ → ∀ ls : Array Slot, lv_has ls 7 [(0, .ref b), (1, va_rf t.1), (2, va_rf t.2.1), (3, va_rf t.2.2.1), (4, .int t.2.2.2.1)] → Xw p l e room_1 s m #[Value.ref b] below meth c D cy (LA s) σ t.2.2.2.2.1 t.2.2.2.2.2 (lw_Z below #[Value.ref b] s) (F0 m 43 ls [])) (p1 : Option Nat) (p2 : Option Nat) (p3 : Option Nat) (p4 : Int32) (kc : Nat) (nc : Nat) (σ : Sto) (h : b_L_law_396 L xs L43 Q p1 p2 p3 p4 kc nc σ) (ls : Array Slot) (hl : lv_has ls 7 [(0, .ref b), (1, va_rf p1), (2, va_rf p2), (3, va_rf p3), (4, .int p4)]) : Xw p l e room_1 s m #[Value.ref b] below meth c D cy (LA s) σ kc nc (lw_Z below #[Value.ref b] s) (F0 m 396 ls []) := by
  unfold b_L_law_396 at h
  refine x_aload_nq C dL_law_396 rfl (lv_at hl 1 rfl) ?_
  refine x_aload_n C dL_law_397 rfl (lv_at hl 0 rfl) ?_
  refine x_iload C dL_law_398 (lv_at hl 4 rfl) ?_
  refine x_iconst (v := 1) C dL_law_400 (by decide) ?_
  refine x_iadd C dL_law_401 ?_
  refine x_topi (fun x1 e2 => ?_)
  have h := h x1 e2
  obtain ⟨g3, h⟩ := h
  refine x_sld C hX hbl g3 dL_law_402 ?_
  refine x_topi (fun x4 e5 => ?_)
  have h := h x4 e5
  refine x_aload_nq C dL_law_403 rfl (lv_at hl 3 rfl) ?_
  obtain ⟨g6, h⟩ := h
  refine x_callSW (rm := rm_L_flow) (rest := []) (As := [va_rf p1, .int x4, va_rf p3]) C Z Z2 ml_RL_90 ys_L_flow in_RL yw_L_flow yh_L_flow (by decide) g6 rfl rfl (Nat.le_of_ble_eq_true rfl) hl.1 dL_law_404 (c_L_flow l hlt D cy p1 x4 p3 σ _ h) (ks_i (fun x8 σ7 h => ?_))
  refine x_istore (i := 5) (lv' := [(5, .int x8), (0, .ref b), (1, va_rf p1), (2, va_rf p2), (3, va_rf p3), (4, .int p4)]) C dL_law_407 hl (by decide) (by first | rfl | simp [vrc, cat_i, cat_r, cat_l]) (fun ls hl => ?_)
  refine x_aload_nq C dL_law_409 rfl (lv_at hl 3 rfl) ?_
  refine x_aload_n C dL_law_410 rfl (lv_at hl 1 rfl) ?_
  refine x_iload C dL_law_411 (lv_at hl 5 rfl) ?_
  refine x_iconst (v := 1) C dL_law_413 (by decide) ?_
  refine x_iadd C dL_law_414 ?_
  refine x_topi (fun x9 e10 => ?_)
  have h := h x9 e10
  obtain ⟨g11, h⟩ := h
  refine x_sld C hX hbl g11 dL_law_415 ?_
  refine x_topi (fun x12 e13 => ?_)
  have h := h x12 e13
  obtain ⟨b14, g15, h⟩ := h
  refine x_nn1 g15 ?_
  obtain ⟨g16, h⟩ := h
  obtain ⟨g17, h⟩ := h
  refine x_callV (rm := rm_X12_flow) (rest := []) (As := [.int x12]) C cy_RL_93 g16 (by decide) g17 rfl rfl (Nat.le_of_ble_eq_true rfl) hl.1 dL_law_416 (c_X12_flow l D cy b14 x12 σ7 _ h) (ks_i (fun x19 σ18 h => ?_))
  refine x_istore (i := 6) (lv' := [(6, .int x19), (5, .int x8), (0, .ref b), (1, va_rf p1), (2, va_rf p2), (3, va_rf p3), (4, .int p4)]) C dL_law_419 hl (by decide) (by first | rfl | simp [vrc, cat_i, cat_r, cat_l]) (fun ls hl => ?_)
  refine x_aload_nq C dL_law_421 rfl (lv_at hl 4 rfl) ?_
  refine x_nn0 g15 ?_
  obtain ⟨g20, h⟩ := h
  obtain ⟨g21, h⟩ := h
  refine x_callV (rm := rm_X12_thrown) (rest := []) (As := []) C cy_RL_77 g20 (by decide) g21 rfl rfl (Nat.le_of_ble_eq_true rfl) hl.1 dL_law_422 (c_X12_thrown l D cy b14  σ18 _ h) (ks_i (fun x23 σ22 h => ?_))
  refine x_iload C dL_law_425 (lv_at hl 1 rfl) ?_
  refine x_icmp_eq (tgt := 432) C dL_law_427 (by decide) (fun c24 => ?_) (fun c24 => ?_)
  · have h := h.1 c24
    refine x_iload C dL_law_432 (lv_at hl 1 rfl) ?_
    refine x_if_ne (tgt := 449) C dL_law_434 (by decide) (fun c25 => ?_) (fun c25 => ?_)
    · have h := h.1 c25
      exact t_L_law_449 C hr hnm hlt Z Z2 hX hbl hLL hQ hL43 p1 p2 p3 p4 ((kc + 1)) ((nc + 6)) _ h ls (lv_sub hl [2, 3, 4, 5, 6] rfl)
    · have h := h.2 c25
      refine x_aload_nq C dL_law_437 rfl (lv_at hl 5 rfl) ?_
      refine x_iconst (v := 0) C dL_law_438 (by decide) ?_
      obtain ⟨b26, g27, h⟩ := h
      refine x_nn1 g27 ?_
      obtain ⟨g28, h⟩ := h
      obtain ⟨g29, h⟩ := h
      refine x_lald C g28 g29 dL_law_439 ?_
      refine x_topj (fun y30 e31 => ?_)
      have h := h y30 e31
      refine x_iload C dL_law_440 (lv_at hl 0 rfl) ?_
      refine x_i2l C dL_law_442 ?_
      refine x_lcmp C dL_law_443 ?_
      refine x_if_eq (tgt := 449) C dL_law_444 (by decide) (fun c32 => ?_) (fun c32 => ?_)
      · have h := h.1 c32
        exact t_L_law_449 C hr hnm hlt Z Z2 hX hbl hLL hQ hL43 p1 p2 p3 p4 ((kc + 1)) ((nc + 6)) _ h ls (lv_sub hl [2, 3, 4, 5, 6] rfl)
      · have h := h.2 c32
        refine x_iconst (v := 0) C dL_law_447 (by decide) ?_
        exact x_lawret C hr h.1 (hQ _ _ h.2) dL_law_448
  · have h := h.2 c24
    refine x_iconst (v := 0) C dL_law_430 (by decide) ?_
    exact x_lawret C hr h.1 (hQ _ _ h.2) dL_law_431
def b_L_law_360 (L : Nat) (xs : Nat → Int32) (L43 : Option Nat × Option Nat × Option Nat × Int32 × Nat × Nat → Sto → Prop) (Q : Int32 → Sto → Prop) (p1 : Option Nat) (p2 : Option Nat) (p3 : Option Nat) (p4 : Int32) (kc : Nat) (nc : Nat) (σ : Sto) : Prop := (∀ x1 : Int32, x1 = p4 + (1 : Int32) → (vp_in x1 L ∧ (∀ x4 : Int32, x4 = xs x1.toNatClampNeg → ((kc + 1 ≤ 600128 ∧ nc + 6 ≤ 7301064) ∧ (wp_L_lose p1 x4 σ (fun (x8 : Int32) (σ7 : Sto) => (∀ x9 : Int32, x9 = p4 + (1 : Int32) → (vp_in x9 L ∧ (∀ x12 : Int32, x12 = xs x9.toNatClampNeg → (∃ b14 : Nat, p2 = some b14 ∧ (sK σ7 b14 = 12 ∧ (((kc + 1) ≤ 600128 ∧ (nc + 6) ≤ 7301064) ∧ (wp_X12_lose b14 x12 σ7 (fun (σ18 : Sto) => (sK σ18 b14 = 12 ∧ (((kc + 1) ≤ 600128 ∧ (nc + 6) ≤ 7301064) ∧ (wp_X12_thrown b14  σ18 (fun (x22 : Int32) (σ21 : Sto) => ((x22 = x8 → b_L_law_1369 L xs L43 Q p1 p2 p3 p4 ((kc + 1)) ((nc + 6)) σ21) ∧ (¬ x22 = x8 → (((kc + 1) ≤ 600128 ∧ (nc + 6) ≤ 7301064) ∧ Q (0 : Int32) σ21)))))))))))))))))))))
set_option maxHeartbeats 4000000 in
set_option maxRecDepth 100000 in
theorem t_L_law_360 {p : Program} {l : Launch} {e : Env} {s : State} {m : MethodId} {below : List Frame} {meth : Method} {c : Code} {D : va_G} {cy : Nat → ClassId} {b L : Nat} {xs : Nat → Int32}  {L43 : Option Nat × Option Nat × Option Nat × Int32 × Nat × Nat → Sto → Prop} {Q : Int32 → Sto → Prop} (C : Cx p s m #[Value.ref b] meth c D cy (LA s) cL_law 7 RL) (hr : meth.sig.returnType = ret) (hnm : True) (hlt : l.stackTraces = false) (Z : ZW s) (Z2 : ZH (LA s) s s.heap) (hX : va_X b L xs s s.heap) (hbl : b < s.heap.size) (hLL : L < 2 ^ 31) (hQ : ∀ (v : Int32) (τ : Sto), Q v τ → v = 1) (hL43 : ∀ (t : Option Nat × Option Nat × Option Nat × Int32 × Nat × Nat) (σ : Sto), L43 t σ → ∀ ls : Array Slot, lv_has ls 7 [(0, .ref b), (1, va_rf t.1), (2, va_rf t.2.1), (3, va_rf t.2.2.1), (4, .int t.2.2.2.1)] → Xw p l e room_1 s m #[Value.ref b] below meth c D cy (LA s) σ t.2.2.2.2.1 t.2.2.2.2.2 (lw_Z below #[Value.ref b] s) (F0 m 43 ls [])) (p1 : Option Nat) (p2 : Option Nat) (p3 : Option Nat) (p4 : Int32) (kc : Nat) (nc : Nat) (σ : Sto) (h : b_L_law_360 L xs L43 Q p1 p2 p3 p4 kc nc σ) (ls : Array Slot) (hl : lv_has ls 7 [(0, .ref b), (1, va_rf p1), (2, va_rf p2), (3, va_rf p3), (4, .int p4)]) : Xw p l e room_1 s m #[Value.ref b] below meth c D cy (LA s) σ kc nc (lw_Z below #[Value.ref b] s) (F0 m 360 ls []) := by
  unfold b_L_law_360 at h
  refine x_aload_nq C dL_law_360 rfl (lv_at hl 1 rfl) ?_
  refine x_aload_n C dL_law_361 rfl (lv_at hl 0 rfl) ?_
  refine x_iload C dL_law_362 (lv_at hl 4 rfl) ?_
  refine x_iconst (v := 1) C dL_law_364 (by decide) ?_
  refine x_iadd C dL_law_365 ?_
  refine x_topi (fun x1 e2 => ?_)
  have h := h x1 e2
  obtain ⟨g3, h⟩ := h
  refine x_sld C hX hbl g3 dL_law_366 ?_
  refine x_topi (fun x4 e5 => ?_)
  have h := h x4 e5
  obtain ⟨g6, h⟩ := h
  refine x_callSW (rm := rm_L_lose) (rest := []) (As := [va_rf p1, .int x4]) C Z Z2 ml_RL_87 ys_L_lose in_RL yw_L_lose yh_L_lose (by decide) g6 rfl rfl (Nat.le_of_ble_eq_true rfl) hl.1 dL_law_367 (c_L_lose l hlt D cy p1 x4 σ _ h) (ks_i (fun x8 σ7 h => ?_))
  refine x_istore (i := 5) (lv' := [(5, .int x8), (0, .ref b), (1, va_rf p1), (2, va_rf p2), (3, va_rf p3), (4, .int p4)]) C dL_law_370 hl (by decide) (by first | rfl | simp [vrc, cat_i, cat_r, cat_l]) (fun ls hl => ?_)
  refine x_aload_nq C dL_law_372 rfl (lv_at hl 3 rfl) ?_
  refine x_aload_n C dL_law_373 rfl (lv_at hl 1 rfl) ?_
  refine x_iload C dL_law_374 (lv_at hl 5 rfl) ?_
  refine x_iconst (v := 1) C dL_law_376 (by decide) ?_
  refine x_iadd C dL_law_377 ?_
  refine x_topi (fun x9 e10 => ?_)
  have h := h x9 e10
  obtain ⟨g11, h⟩ := h
  refine x_sld C hX hbl g11 dL_law_378 ?_
  refine x_topi (fun x12 e13 => ?_)
  have h := h x12 e13
  obtain ⟨b14, g15, h⟩ := h
  refine x_nn1 g15 ?_
  obtain ⟨g16, h⟩ := h
  obtain ⟨g17, h⟩ := h
  refine x_callV (rm := rm_X12_lose) (rest := []) (As := [.int x12]) C cy_RL_89 g16 (by decide) g17 rfl rfl (Nat.le_of_ble_eq_true rfl) hl.1 dL_law_379 (c_X12_lose l D cy b14 x12 σ7 _ h) (ks_v (fun σ18 h => ?_))
  refine x_aload_nq C dL_law_382 rfl (lv_at hl 3 rfl) ?_
  refine x_nn0 g15 ?_
  obtain ⟨g19, h⟩ := h
  obtain ⟨g20, h⟩ := h
  refine x_callV (rm := rm_X12_thrown) (rest := []) (As := []) C cy_RL_77 g19 (by decide) g20 rfl rfl (Nat.le_of_ble_eq_true rfl) hl.1 dL_law_383 (c_X12_thrown l D cy b14  σ18 _ h) (ks_i (fun x22 σ21 h => ?_))
  refine x_iload C dL_law_386 (lv_at hl 0 rfl) ?_
  refine x_icmp_eq (tgt := 393) C dL_law_388 (by decide) (fun c23 => ?_) (fun c23 => ?_)
  · have h := h.1 c23
    refine x_goto (tgt := 1369) C dL_law_393 (by decide) ?_
    exact t_L_law_1369 C hr hnm hlt Z Z2 hX hbl hLL hQ hL43 p1 p2 p3 p4 ((kc + 1)) ((nc + 6)) _ h ls (lv_sub hl [1, 2, 3, 4, 5] rfl)
  · have h := h.2 c23
    refine x_iconst (v := 0) C dL_law_391 (by decide) ?_
    exact x_lawret C hr h.1 (hQ _ _ h.2) dL_law_392
def b_L_law_324 (L : Nat) (xs : Nat → Int32) (L43 : Option Nat × Option Nat × Option Nat × Int32 × Nat × Nat → Sto → Prop) (Q : Int32 → Sto → Prop) (p1 : Option Nat) (p2 : Option Nat) (p3 : Option Nat) (p4 : Int32) (kc : Nat) (nc : Nat) (σ : Sto) : Prop := (∀ x1 : Int32, x1 = p4 + (1 : Int32) → (vp_in x1 L ∧ (∀ x4 : Int32, x4 = xs x1.toNatClampNeg → ((kc + 1 ≤ 600128 ∧ nc + 6 ≤ 7301064) ∧ (wp_L_deliver p1 x4 σ (fun (x8 : Int32) (σ7 : Sto) => (∀ x9 : Int32, x9 = p4 + (1 : Int32) → (vp_in x9 L ∧ (∀ x12 : Int32, x12 = xs x9.toNatClampNeg → (∃ b14 : Nat, p2 = some b14 ∧ (sK σ7 b14 = 12 ∧ (((kc + 1) ≤ 600128 ∧ (nc + 6) ≤ 7301064) ∧ (wp_X12_deliver b14 x12 σ7 (fun (σ18 : Sto) => (sK σ18 b14 = 12 ∧ (((kc + 1) ≤ 600128 ∧ (nc + 6) ≤ 7301064) ∧ (wp_X12_thrown b14  σ18 (fun (x22 : Int32) (σ21 : Sto) => ((x22 = x8 → b_L_law_1369 L xs L43 Q p1 p2 p3 p4 ((kc + 1)) ((nc + 6)) σ21) ∧ (¬ x22 = x8 → (((kc + 1) ≤ 600128 ∧ (nc + 6) ≤ 7301064) ∧ Q (0 : Int32) σ21)))))))))))))))))))))
set_option maxHeartbeats 4000000 in
set_option maxRecDepth 100000 in
theorem t_L_law_324 {p : Program} {l : Launch} {e : Env} {s : State} {m : MethodId} {below : List Frame} {meth : Method} {c : Code} {D : va_G} {cy : Nat → ClassId} {b L : Nat} {xs : Nat → Int32}  {L43 : Option Nat × Option Nat × Option Nat × Int32 × Nat × Nat → Sto → Prop} {Q : Int32 → Sto → Prop} (C : Cx p s m #[Value.ref b] meth c D cy (LA s) cL_law 7 RL) (hr : meth.sig.returnType = ret) (hnm : True) (hlt : l.stackTraces = false) (Z : ZW s) (Z2 : ZH (LA s) s s.heap) (hX : va_X b L xs s s.heap) (hbl : b < s.heap.size) (hLL : L < 2 ^ 31) (hQ : ∀ (v : Int32) (τ : Sto), Q v τ → v = 1) (hL43 : ∀ (t : Option Nat × Option Nat × Option Nat × Int32 × Nat × Nat) (σ : Sto), L43 t σ → ∀ ls : Array Slot, lv_has ls 7 [(0, .ref b), (1, va_rf t.1), (2, va_rf t.2.1), (3, va_rf t.2.2.1), (4, .int t.2.2.2.1)] → Xw p l e room_1 s m #[Value.ref b] below meth c D cy (LA s) σ t.2.2.2.2.1 t.2.2.2.2.2 (lw_Z below #[Value.ref b] s) (F0 m 43 ls [])) (p1 : Option Nat) (p2 : Option Nat) (p3 : Option Nat) (p4 : Int32) (kc : Nat) (nc : Nat) (σ : Sto) (h : b_L_law_324 L xs L43 Q p1 p2 p3 p4 kc nc σ) (ls : Array Slot) (hl : lv_has ls 7 [(0, .ref b), (1, va_rf p1), (2, va_rf p2), (3, va_rf p3), (4, .int p4)]) : Xw p l e room_1 s m #[Value.ref b] below meth c D cy (LA s) σ kc nc (lw_Z below #[Value.ref b] s) (F0 m 324 ls []) := by
  unfold b_L_law_324 at h
  refine x_aload_nq C dL_law_324 rfl (lv_at hl 1 rfl) ?_
  refine x_aload_n C dL_law_325 rfl (lv_at hl 0 rfl) ?_
  refine x_iload C dL_law_326 (lv_at hl 4 rfl) ?_
  refine x_iconst (v := 1) C dL_law_328 (by decide) ?_
  refine x_iadd C dL_law_329 ?_
  refine x_topi (fun x1 e2 => ?_)
  have h := h x1 e2
  obtain ⟨g3, h⟩ := h
  refine x_sld C hX hbl g3 dL_law_330 ?_
  refine x_topi (fun x4 e5 => ?_)
  have h := h x4 e5
  obtain ⟨g6, h⟩ := h
  refine x_callSW (rm := rm_L_deliver) (rest := []) (As := [va_rf p1, .int x4]) C Z Z2 ml_RL_84 ys_L_deliver in_RL yw_L_deliver yh_L_deliver (by decide) g6 rfl rfl (Nat.le_of_ble_eq_true rfl) hl.1 dL_law_331 (c_L_deliver l hlt D cy p1 x4 σ _ h) (ks_i (fun x8 σ7 h => ?_))
  refine x_istore (i := 5) (lv' := [(5, .int x8), (0, .ref b), (1, va_rf p1), (2, va_rf p2), (3, va_rf p3), (4, .int p4)]) C dL_law_334 hl (by decide) (by first | rfl | simp [vrc, cat_i, cat_r, cat_l]) (fun ls hl => ?_)
  refine x_aload_nq C dL_law_336 rfl (lv_at hl 3 rfl) ?_
  refine x_aload_n C dL_law_337 rfl (lv_at hl 1 rfl) ?_
  refine x_iload C dL_law_338 (lv_at hl 5 rfl) ?_
  refine x_iconst (v := 1) C dL_law_340 (by decide) ?_
  refine x_iadd C dL_law_341 ?_
  refine x_topi (fun x9 e10 => ?_)
  have h := h x9 e10
  obtain ⟨g11, h⟩ := h
  refine x_sld C hX hbl g11 dL_law_342 ?_
  refine x_topi (fun x12 e13 => ?_)
  have h := h x12 e13
  obtain ⟨b14, g15, h⟩ := h
  refine x_nn1 g15 ?_
  obtain ⟨g16, h⟩ := h
  obtain ⟨g17, h⟩ := h
  refine x_callV (rm := rm_X12_deliver) (rest := []) (As := [.int x12]) C cy_RL_86 g16 (by decide) g17 rfl rfl (Nat.le_of_ble_eq_true rfl) hl.1 dL_law_343 (c_X12_deliver l D cy b14 x12 σ7 _ h) (ks_v (fun σ18 h => ?_))
  refine x_aload_nq C dL_law_346 rfl (lv_at hl 3 rfl) ?_
  refine x_nn0 g15 ?_
  obtain ⟨g19, h⟩ := h
  obtain ⟨g20, h⟩ := h
  refine x_callV (rm := rm_X12_thrown) (rest := []) (As := []) C cy_RL_77 g19 (by decide) g20 rfl rfl (Nat.le_of_ble_eq_true rfl) hl.1 dL_law_347 (c_X12_thrown l D cy b14  σ18 _ h) (ks_i (fun x22 σ21 h => ?_))
  refine x_iload C dL_law_350 (lv_at hl 0 rfl) ?_
  refine x_icmp_eq (tgt := 357) C dL_law_352 (by decide) (fun c23 => ?_) (fun c23 => ?_)
  · have h := h.1 c23
    refine x_goto (tgt := 1369) C dL_law_357 (by decide) ?_
    exact t_L_law_1369 C hr hnm hlt Z Z2 hX hbl hLL hQ hL43 p1 p2 p3 p4 ((kc + 1)) ((nc + 6)) _ h ls (lv_sub hl [1, 2, 3, 4, 5] rfl)
  · have h := h.2 c23
    refine x_iconst (v := 0) C dL_law_355 (by decide) ?_
    exact x_lawret C hr h.1 (hQ _ _ h.2) dL_law_356
def b_L_law_288 (L : Nat) (xs : Nat → Int32) (L43 : Option Nat × Option Nat × Option Nat × Int32 × Nat × Nat → Sto → Prop) (Q : Int32 → Sto → Prop) (p1 : Option Nat) (p2 : Option Nat) (p3 : Option Nat) (p4 : Int32) (kc : Nat) (nc : Nat) (σ : Sto) : Prop := (∀ x1 : Int32, x1 = p4 + (1 : Int32) → (vp_in x1 L ∧ (∀ x4 : Int32, x4 = xs x1.toNatClampNeg → ((kc + 1 ≤ 600128 ∧ nc + 6 ≤ 7301064) ∧ (wp_L_again p1 x4 σ (fun (x8 : Int32) (σ7 : Sto) => (∀ x9 : Int32, x9 = p4 + (1 : Int32) → (vp_in x9 L ∧ (∀ x12 : Int32, x12 = xs x9.toNatClampNeg → (∃ b14 : Nat, p2 = some b14 ∧ (sK σ7 b14 = 12 ∧ (((kc + 1) ≤ 600128 ∧ (nc + 6) ≤ 7301064) ∧ (wp_X12_again b14 x12 σ7 (fun (σ18 : Sto) => (sK σ18 b14 = 12 ∧ (((kc + 1) ≤ 600128 ∧ (nc + 6) ≤ 7301064) ∧ (wp_X12_thrown b14  σ18 (fun (x22 : Int32) (σ21 : Sto) => ((x22 = x8 → b_L_law_1369 L xs L43 Q p1 p2 p3 p4 ((kc + 1)) ((nc + 6)) σ21) ∧ (¬ x22 = x8 → (((kc + 1) ≤ 600128 ∧ (nc + 6) ≤ 7301064) ∧ Q (0 : Int32) σ21)))))))))))))))))))))
set_option maxHeartbeats 4000000 in
set_option maxRecDepth 100000 in
theorem t_L_law_288 {p : Program} {l : Launch} {e : Env} {s : State} {m : MethodId} {below : List Frame} {meth : Method} {c : Code} {D : va_G} {cy : Nat → ClassId} {b L : Nat} {xs : Nat → Int32}  {L43 : Option Nat × Option Nat × Option Nat × Int32 × Nat × Nat → Sto → Prop} {Q : Int32 → Sto → Prop} (C : Cx p s m #[Value.ref b] meth c D cy (LA s) cL_law 7 RL) (hr : meth.sig.returnType = ret) (hnm : True) (hlt : l.stackTraces = false) (Z : ZW s) (Z2 : ZH (LA s) s s.heap) (hX : va_X b L xs s s.heap) (hbl : b < s.heap.size) (hLL : L < 2 ^ 31) (hQ : ∀ (v : Int32) (τ : Sto), Q v τ → v = 1) (hL43 : ∀ (t : Option Nat × Option Nat × Option Nat × Int32 × Nat × Nat) (σ : Sto), L43 t σ → ∀ ls : Array Slot, lv_has ls 7 [(0, .ref b), (1, va_rf t.1), (2, va_rf t.2.1), (3, va_rf t.2.2.1), (4, .int t.2.2.2.1)] → Xw p l e room_1 s m #[Value.ref b] below meth c D cy (LA s) σ t.2.2.2.2.1 t.2.2.2.2.2 (lw_Z below #[Value.ref b] s) (F0 m 43 ls [])) (p1 : Option Nat) (p2 : Option Nat) (p3 : Option Nat) (p4 : Int32) (kc : Nat) (nc : Nat) (σ : Sto) (h : b_L_law_288 L xs L43 Q p1 p2 p3 p4 kc nc σ) (ls : Array Slot) (hl : lv_has ls 7 [(0, .ref b), (1, va_rf p1), (2, va_rf p2), (3, va_rf p3), (4, .int p4)]) : Xw p l e room_1 s m #[Value.ref b] below meth c D cy (LA s) σ kc nc (lw_Z below #[Value.ref b] s) (F0 m 288 ls []) := by
  unfold b_L_law_288 at h
  refine x_aload_nq C dL_law_288 rfl (lv_at hl 1 rfl) ?_
  refine x_aload_n C dL_law_289 rfl (lv_at hl 0 rfl) ?_
  refine x_iload C dL_law_290 (lv_at hl 4 rfl) ?_
  refine x_iconst (v := 1) C dL_law_292 (by decide) ?_
  refine x_iadd C dL_law_293 ?_
  refine x_topi (fun x1 e2 => ?_)
  have h := h x1 e2
  obtain ⟨g3, h⟩ := h
  refine x_sld C hX hbl g3 dL_law_294 ?_
  refine x_topi (fun x4 e5 => ?_)
  have h := h x4 e5
  obtain ⟨g6, h⟩ := h
  refine x_callSW (rm := rm_L_again) (rest := []) (As := [va_rf p1, .int x4]) C Z Z2 ml_RL_80 ys_L_again in_RL yw_L_again yh_L_again (by decide) g6 rfl rfl (Nat.le_of_ble_eq_true rfl) hl.1 dL_law_295 (c_L_again l hlt D cy p1 x4 σ _ h) (ks_i (fun x8 σ7 h => ?_))
  refine x_istore (i := 5) (lv' := [(5, .int x8), (0, .ref b), (1, va_rf p1), (2, va_rf p2), (3, va_rf p3), (4, .int p4)]) C dL_law_298 hl (by decide) (by first | rfl | simp [vrc, cat_i, cat_r, cat_l]) (fun ls hl => ?_)
  refine x_aload_nq C dL_law_300 rfl (lv_at hl 3 rfl) ?_
  refine x_aload_n C dL_law_301 rfl (lv_at hl 1 rfl) ?_
  refine x_iload C dL_law_302 (lv_at hl 5 rfl) ?_
  refine x_iconst (v := 1) C dL_law_304 (by decide) ?_
  refine x_iadd C dL_law_305 ?_
  refine x_topi (fun x9 e10 => ?_)
  have h := h x9 e10
  obtain ⟨g11, h⟩ := h
  refine x_sld C hX hbl g11 dL_law_306 ?_
  refine x_topi (fun x12 e13 => ?_)
  have h := h x12 e13
  obtain ⟨b14, g15, h⟩ := h
  refine x_nn1 g15 ?_
  obtain ⟨g16, h⟩ := h
  obtain ⟨g17, h⟩ := h
  refine x_callV (rm := rm_X12_again) (rest := []) (As := [.int x12]) C cy_RL_83 g16 (by decide) g17 rfl rfl (Nat.le_of_ble_eq_true rfl) hl.1 dL_law_307 (c_X12_again l D cy b14 x12 σ7 _ h) (ks_v (fun σ18 h => ?_))
  refine x_aload_nq C dL_law_310 rfl (lv_at hl 3 rfl) ?_
  refine x_nn0 g15 ?_
  obtain ⟨g19, h⟩ := h
  obtain ⟨g20, h⟩ := h
  refine x_callV (rm := rm_X12_thrown) (rest := []) (As := []) C cy_RL_77 g19 (by decide) g20 rfl rfl (Nat.le_of_ble_eq_true rfl) hl.1 dL_law_311 (c_X12_thrown l D cy b14  σ18 _ h) (ks_i (fun x22 σ21 h => ?_))
  refine x_iload C dL_law_314 (lv_at hl 0 rfl) ?_
  refine x_icmp_eq (tgt := 321) C dL_law_316 (by decide) (fun c23 => ?_) (fun c23 => ?_)
  · have h := h.1 c23
    refine x_goto (tgt := 1369) C dL_law_321 (by decide) ?_
    exact t_L_law_1369 C hr hnm hlt Z Z2 hX hbl hLL hQ hL43 p1 p2 p3 p4 ((kc + 1)) ((nc + 6)) _ h ls (lv_sub hl [1, 2, 3, 4, 5] rfl)
  · have h := h.2 c23
    refine x_iconst (v := 0) C dL_law_319 (by decide) ?_
    exact x_lawret C hr h.1 (hQ _ _ h.2) dL_law_320
def b_L_law_285 (L : Nat) (xs : Nat → Int32) (L43 : Option Nat × Option Nat × Option Nat × Int32 × Nat × Nat → Sto → Prop) (Q : Int32 → Sto → Prop) (p1 : Option Nat) (p2 : Option Nat) (p3 : Option Nat) (p4 : Int32) (kc : Nat) (nc : Nat) (σ : Sto) : Prop := b_L_law_1369 L xs L43 Q p1 p2 p3 p4 kc nc σ
set_option maxHeartbeats 4000000 in
set_option maxRecDepth 100000 in
theorem t_L_law_285 {p : Program} {l : Launch} {e : Env} {s : State} {m : MethodId} {below : List Frame} {meth : Method} {c : Code} {D : va_G} {cy : Nat → ClassId} {b L : Nat} {xs : Nat → Int32}  {L43 : Option Nat × Option Nat × Option Nat × Int32 × Nat × Nat → Sto → Prop} {Q : Int32 → Sto → Prop} (C : Cx p s m #[Value.ref b] meth c D cy (LA s) cL_law 7 RL) (hr : meth.sig.returnType = ret) (hnm : True) (hlt : l.stackTraces = false) (Z : ZW s) (Z2 : ZH (LA s) s s.heap) (hX : va_X b L xs s s.heap) (hbl : b < s.heap.size) (hLL : L < 2 ^ 31) (hQ : ∀ (v : Int32) (τ : Sto), Q v τ → v = 1) (hL43 : ∀ (t : Option Nat × Option Nat × Option Nat × Int32 × Nat × Nat) (σ : Sto), L43 t σ → ∀ ls : Array Slot, lv_has ls 7 [(0, .ref b), (1, va_rf t.1), (2, va_rf t.2.1), (3, va_rf t.2.2.1), (4, .int t.2.2.2.1)] → Xw p l e room_1 s m #[Value.ref b] below meth c D cy (LA s) σ t.2.2.2.2.1 t.2.2.2.2.2 (lw_Z below #[Value.ref b] s) (F0 m 43 ls [])) (p1 : Option Nat) (p2 : Option Nat) (p3 : Option Nat) (p4 : Int32) (kc : Nat) (nc : Nat) (σ : Sto) (h : b_L_law_285 L xs L43 Q p1 p2 p3 p4 kc nc σ) (ls : Array Slot) (hl : lv_has ls 7 [(0, .ref b), (1, va_rf p1), (2, va_rf p2), (3, va_rf p3), (4, .int p4)]) : Xw p l e room_1 s m #[Value.ref b] below meth c D cy (LA s) σ kc nc (lw_Z below #[Value.ref b] s) (F0 m 285 ls []) := by
  unfold b_L_law_285 at h
  refine x_goto (tgt := 1369) C dL_law_285 (by decide) ?_
  exact t_L_law_1369 C hr hnm hlt Z Z2 hX hbl hLL hQ hL43 p1 p2 p3 p4 kc nc _ h ls (lv_sub hl [0, 1, 2, 3, 4] rfl)
def b_L_law_196 (L : Nat) (xs : Nat → Int32) (L43 : Option Nat × Option Nat × Option Nat × Int32 × Nat × Nat → Sto → Prop) (Q : Int32 → Sto → Prop) (p1 : Option Nat) (p2 : Option Nat) (p3 : Option Nat) (p4 : Int32) (kc : Nat) (nc : Nat) (σ : Sto) : Prop := (∀ x1 : Int32, x1 = p4 + (1 : Int32) → (vp_in x1 L ∧ (∀ x4 : Int32, x4 = xs x1.toNatClampNeg → (∀ x6 : Int32, x6 = p4 + (2 : Int32) → (vp_in x6 L ∧ (∀ x9 : Int32, x9 = xs x6.toNatClampNeg → (∀ x11 : Int32, x11 = p4 + (3 : Int32) → (vp_in x11 L ∧ (∀ x14 : Int32, x14 = xs x11.toNatClampNeg → (∀ x16 : Int32, x16 = p4 + (4 : Int32) → (vp_in x16 L ∧ (∀ x19 : Int32, x19 = xs x16.toNatClampNeg → ((kc + 1 ≤ 600128 ∧ nc + 6 ≤ 7301064) ∧ (wp_L_request p1 x4 x9 x14 x19 p3 σ (fun (x23 : Int32) (σ22 : Sto) => (∀ x24 : Int32, x24 = p4 + (1 : Int32) → (vp_in x24 L ∧ (∀ x27 : Int32, x27 = xs x24.toNatClampNeg → (∀ x29 : Int32, x29 = p4 + (2 : Int32) → (vp_in x29 L ∧ (∀ x32 : Int32, x32 = xs x29.toNatClampNeg → (∀ x34 : Int32, x34 = p4 + (3 : Int32) → (vp_in x34 L ∧ (∀ x37 : Int32, x37 = xs x34.toNatClampNeg → (∀ x39 : Int32, x39 = p4 + (4 : Int32) → (vp_in x39 L ∧ (∀ x42 : Int32, x42 = xs x39.toNatClampNeg → (∃ b44 : Nat, p2 = some b44 ∧ (sK σ22 b44 = 12 ∧ (((kc + 1) ≤ 600128 ∧ (nc + 6) ≤ 7301064) ∧ (wp_X12_request b44 x27 x32 x37 x42 σ22 (fun (x49 : Int32) (σ48 : Sto) => (sK σ48 b44 = 12 ∧ (((kc + 1) ≤ 600128 ∧ (nc + 6) ≤ 7301064) ∧ (wp_X12_thrown b44  σ48 (fun (x53 : Int32) (σ52 : Sto) => ((x53 = x23 → ((¬ x23 = 0 → b_L_law_285 L xs L43 Q p1 p2 p3 p4 ((kc + 1)) ((nc + 6)) σ52) ∧ (x23 = 0 → (∃ b56 : Nat, p3 = some b56 ∧ (sK σ52 b56 = 15 ∧ (vp_in (0 : Int32) (sN σ52 b56) ∧ (∀ y60 : Int64, y60 = sJ σ52 b56 (0 : Int32).toNatClampNeg → (((lg_cmp y60 x49.toInt64) = 0 → b_L_law_285 L xs L43 Q p1 p2 p3 p4 ((kc + 1)) ((nc + 6)) σ52) ∧ (¬ (lg_cmp y60 x49.toInt64) = 0 → (((kc + 1) ≤ 600128 ∧ (nc + 6) ≤ 7301064) ∧ Q (0 : Int32) σ52)))))))))) ∧ (¬ x53 = x23 → (((kc + 1) ≤ 600128 ∧ (nc + 6) ≤ 7301064) ∧ Q (0 : Int32) σ52)))))))))))))))))))))))))))))))))))))))
set_option maxHeartbeats 4000000 in
set_option maxRecDepth 100000 in
theorem t_L_law_196 {p : Program} {l : Launch} {e : Env} {s : State} {m : MethodId} {below : List Frame} {meth : Method} {c : Code} {D : va_G} {cy : Nat → ClassId} {b L : Nat} {xs : Nat → Int32}  {L43 : Option Nat × Option Nat × Option Nat × Int32 × Nat × Nat → Sto → Prop} {Q : Int32 → Sto → Prop} (C : Cx p s m #[Value.ref b] meth c D cy (LA s) cL_law 7 RL) (hr : meth.sig.returnType = ret) (hnm : True) (hlt : l.stackTraces = false) (Z : ZW s) (Z2 : ZH (LA s) s s.heap) (hX : va_X b L xs s s.heap) (hbl : b < s.heap.size) (hLL : L < 2 ^ 31) (hQ : ∀ (v : Int32) (τ : Sto), Q v τ → v = 1) (hL43 : ∀ (t : Option Nat × Option Nat × Option Nat × Int32 × Nat × Nat) (σ : Sto), L43 t σ → ∀ ls : Array Slot, lv_has ls 7 [(0, .ref b), (1, va_rf t.1), (2, va_rf t.2.1), (3, va_rf t.2.2.1), (4, .int t.2.2.2.1)] → Xw p l e room_1 s m #[Value.ref b] below meth c D cy (LA s) σ t.2.2.2.2.1 t.2.2.2.2.2 (lw_Z below #[Value.ref b] s) (F0 m 43 ls [])) (p1 : Option Nat) (p2 : Option Nat) (p3 : Option Nat) (p4 : Int32) (kc : Nat) (nc : Nat) (σ : Sto) (h : b_L_law_196 L xs L43 Q p1 p2 p3 p4 kc nc σ) (ls : Array Slot) (hl : lv_has ls 7 [(0, .ref b), (1, va_rf p1), (2, va_rf p2), (3, va_rf p3), (4, .int p4)]) : Xw p l e room_1 s m #[Value.ref b] below meth c D cy (LA s) σ kc nc (lw_Z below #[Value.ref b] s) (F0 m 196 ls []) := by
  unfold b_L_law_196 at h
  refine x_aload_nq C dL_law_196 rfl (lv_at hl 1 rfl) ?_
  refine x_aload_n C dL_law_197 rfl (lv_at hl 0 rfl) ?_
  refine x_iload C dL_law_198 (lv_at hl 4 rfl) ?_
  refine x_iconst (v := 1) C dL_law_200 (by decide) ?_
  refine x_iadd C dL_law_201 ?_
  refine x_topi (fun x1 e2 => ?_)
  have h := h x1 e2
  obtain ⟨g3, h⟩ := h
  refine x_sld C hX hbl g3 dL_law_202 ?_
  refine x_topi (fun x4 e5 => ?_)
  have h := h x4 e5
  refine x_aload_n C dL_law_203 rfl (lv_at hl 0 rfl) ?_
  refine x_iload C dL_law_204 (lv_at hl 4 rfl) ?_
  refine x_iconst (v := 2) C dL_law_206 (by decide) ?_
  refine x_iadd C dL_law_207 ?_
  refine x_topi (fun x6 e7 => ?_)
  have h := h x6 e7
  obtain ⟨g8, h⟩ := h
  refine x_sld C hX hbl g8 dL_law_208 ?_
  refine x_topi (fun x9 e10 => ?_)
  have h := h x9 e10
  refine x_aload_n C dL_law_209 rfl (lv_at hl 0 rfl) ?_
  refine x_iload C dL_law_210 (lv_at hl 4 rfl) ?_
  refine x_iconst (v := 3) C dL_law_212 (by decide) ?_
  refine x_iadd C dL_law_213 ?_
  refine x_topi (fun x11 e12 => ?_)
  have h := h x11 e12
  obtain ⟨g13, h⟩ := h
  refine x_sld C hX hbl g13 dL_law_214 ?_
  refine x_topi (fun x14 e15 => ?_)
  have h := h x14 e15
  refine x_aload_n C dL_law_215 rfl (lv_at hl 0 rfl) ?_
  refine x_iload C dL_law_216 (lv_at hl 4 rfl) ?_
  refine x_iconst (v := 4) C dL_law_218 (by decide) ?_
  refine x_iadd C dL_law_219 ?_
  refine x_topi (fun x16 e17 => ?_)
  have h := h x16 e17
  obtain ⟨g18, h⟩ := h
  refine x_sld C hX hbl g18 dL_law_220 ?_
  refine x_topi (fun x19 e20 => ?_)
  have h := h x19 e20
  refine x_aload_nq C dL_law_221 rfl (lv_at hl 3 rfl) ?_
  obtain ⟨g21, h⟩ := h
  refine x_callSW (rm := rm_L_request) (rest := []) (As := [va_rf p1, .int x4, .int x9, .int x14, .int x19, va_rf p3]) C Z Z2 ml_RL_73 ys_L_request in_RL yw_L_request yh_L_request (by decide) g21 rfl rfl (Nat.le_of_ble_eq_true rfl) hl.1 dL_law_222 (c_L_request l hlt D cy p1 x4 x9 x14 x19 p3 σ _ h) (ks_i (fun x23 σ22 h => ?_))
  refine x_istore (i := 5) (lv' := [(5, .int x23), (0, .ref b), (1, va_rf p1), (2, va_rf p2), (3, va_rf p3), (4, .int p4)]) C dL_law_225 hl (by decide) (by first | rfl | simp [vrc, cat_i, cat_r, cat_l]) (fun ls hl => ?_)
  refine x_aload_nq C dL_law_227 rfl (lv_at hl 3 rfl) ?_
  refine x_aload_n C dL_law_228 rfl (lv_at hl 1 rfl) ?_
  refine x_iload C dL_law_229 (lv_at hl 5 rfl) ?_
  refine x_iconst (v := 1) C dL_law_231 (by decide) ?_
  refine x_iadd C dL_law_232 ?_
  refine x_topi (fun x24 e25 => ?_)
  have h := h x24 e25
  obtain ⟨g26, h⟩ := h
  refine x_sld C hX hbl g26 dL_law_233 ?_
  refine x_topi (fun x27 e28 => ?_)
  have h := h x27 e28
  refine x_aload_n C dL_law_234 rfl (lv_at hl 1 rfl) ?_
  refine x_iload C dL_law_235 (lv_at hl 5 rfl) ?_
  refine x_iconst (v := 2) C dL_law_237 (by decide) ?_
  refine x_iadd C dL_law_238 ?_
  refine x_topi (fun x29 e30 => ?_)
  have h := h x29 e30
  obtain ⟨g31, h⟩ := h
  refine x_sld C hX hbl g31 dL_law_239 ?_
  refine x_topi (fun x32 e33 => ?_)
  have h := h x32 e33
  refine x_aload_n C dL_law_240 rfl (lv_at hl 1 rfl) ?_
  refine x_iload C dL_law_241 (lv_at hl 5 rfl) ?_
  refine x_iconst (v := 3) C dL_law_243 (by decide) ?_
  refine x_iadd C dL_law_244 ?_
  refine x_topi (fun x34 e35 => ?_)
  have h := h x34 e35
  obtain ⟨g36, h⟩ := h
  refine x_sld C hX hbl g36 dL_law_245 ?_
  refine x_topi (fun x37 e38 => ?_)
  have h := h x37 e38
  refine x_aload_n C dL_law_246 rfl (lv_at hl 1 rfl) ?_
  refine x_iload C dL_law_247 (lv_at hl 5 rfl) ?_
  refine x_iconst (v := 4) C dL_law_249 (by decide) ?_
  refine x_iadd C dL_law_250 ?_
  refine x_topi (fun x39 e40 => ?_)
  have h := h x39 e40
  obtain ⟨g41, h⟩ := h
  refine x_sld C hX hbl g41 dL_law_251 ?_
  refine x_topi (fun x42 e43 => ?_)
  have h := h x42 e43
  obtain ⟨b44, g45, h⟩ := h
  refine x_nn4 g45 ?_
  obtain ⟨g46, h⟩ := h
  obtain ⟨g47, h⟩ := h
  refine x_callV (rm := rm_X12_request) (rest := []) (As := [.int x27, .int x32, .int x37, .int x42]) C cy_RL_76 g46 (by decide) g47 rfl rfl (Nat.le_of_ble_eq_true rfl) hl.1 dL_law_252 (c_X12_request l D cy b44 x27 x32 x37 x42 σ22 _ h) (ks_i (fun x49 σ48 h => ?_))
  refine x_istore (i := 6) (lv' := [(6, .int x49), (5, .int x23), (0, .ref b), (1, va_rf p1), (2, va_rf p2), (3, va_rf p3), (4, .int p4)]) C dL_law_255 hl (by decide) (by first | rfl | simp [vrc, cat_i, cat_r, cat_l]) (fun ls hl => ?_)
  refine x_aload_nq C dL_law_257 rfl (lv_at hl 4 rfl) ?_
  refine x_nn0 g45 ?_
  obtain ⟨g50, h⟩ := h
  obtain ⟨g51, h⟩ := h
  refine x_callV (rm := rm_X12_thrown) (rest := []) (As := []) C cy_RL_77 g50 (by decide) g51 rfl rfl (Nat.le_of_ble_eq_true rfl) hl.1 dL_law_258 (c_X12_thrown l D cy b44  σ48 _ h) (ks_i (fun x53 σ52 h => ?_))
  refine x_iload C dL_law_261 (lv_at hl 1 rfl) ?_
  refine x_icmp_eq (tgt := 268) C dL_law_263 (by decide) (fun c54 => ?_) (fun c54 => ?_)
  · have h := h.1 c54
    refine x_iload C dL_law_268 (lv_at hl 1 rfl) ?_
    refine x_if_ne (tgt := 285) C dL_law_270 (by decide) (fun c55 => ?_) (fun c55 => ?_)
    · have h := h.1 c55
      exact t_L_law_285 C hr hnm hlt Z Z2 hX hbl hLL hQ hL43 p1 p2 p3 p4 ((kc + 1)) ((nc + 6)) _ h ls (lv_sub hl [2, 3, 4, 5, 6] rfl)
    · have h := h.2 c55
      refine x_aload_nq C dL_law_273 rfl (lv_at hl 5 rfl) ?_
      refine x_iconst (v := 0) C dL_law_274 (by decide) ?_
      obtain ⟨b56, g57, h⟩ := h
      refine x_nn1 g57 ?_
      obtain ⟨g58, h⟩ := h
      obtain ⟨g59, h⟩ := h
      refine x_lald C g58 g59 dL_law_275 ?_
      refine x_topj (fun y60 e61 => ?_)
      have h := h y60 e61
      refine x_iload C dL_law_276 (lv_at hl 0 rfl) ?_
      refine x_i2l C dL_law_278 ?_
      refine x_lcmp C dL_law_279 ?_
      refine x_if_eq (tgt := 285) C dL_law_280 (by decide) (fun c62 => ?_) (fun c62 => ?_)
      · have h := h.1 c62
        exact t_L_law_285 C hr hnm hlt Z Z2 hX hbl hLL hQ hL43 p1 p2 p3 p4 ((kc + 1)) ((nc + 6)) _ h ls (lv_sub hl [2, 3, 4, 5, 6] rfl)
      · have h := h.2 c62
        refine x_iconst (v := 0) C dL_law_283 (by decide) ?_
        exact x_lawret C hr h.1 (hQ _ _ h.2) dL_law_284
  · have h := h.2 c54
    refine x_iconst (v := 0) C dL_law_266 (by decide) ?_
    exact x_lawret C hr h.1 (hQ _ _ h.2) dL_law_267
def f_L_law_43 (L : Nat) (xs : Nat → Int32)  (Q : Int32 → Sto → Prop) (L43 : Option Nat × Option Nat × Option Nat × Int32 × Nat × Nat → Sto → Prop) (t : Option Nat × Option Nat × Option Nat × Int32 × Nat × Nat) (σ : Sto) : Prop := ((((nI L) - (5 : Int32)) < t.2.2.2.1 → ((t.2.2.2.2.1 ≤ 600128 ∧ t.2.2.2.2.2 ≤ 7301064) ∧ Q (1 : Int32) σ)) ∧ (¬ ((nI L) - (5 : Int32)) < t.2.2.2.1 → (vp_in t.2.2.2.1 L ∧ (∀ x3 : Int32, x3 = xs t.2.2.2.1.toNatClampNeg → (∀ x5 : Int32, x5 = x3 &&& (31 : Int32) → ((x5.toInt < 0 ∨ 30 < x5.toInt → b_L_law_1369 L xs L43 Q t.1 t.2.1 t.2.2.1 t.2.2.2.1 t.2.2.2.2.1 t.2.2.2.2.2 σ) ∧ (x5 = (0 : Int32) → b_L_law_196 L xs L43 Q t.1 t.2.1 t.2.2.1 t.2.2.2.1 t.2.2.2.2.1 t.2.2.2.2.2 σ) ∧ (x5 = (1 : Int32) → b_L_law_288 L xs L43 Q t.1 t.2.1 t.2.2.1 t.2.2.2.1 t.2.2.2.2.1 t.2.2.2.2.2 σ) ∧ (x5 = (2 : Int32) → b_L_law_324 L xs L43 Q t.1 t.2.1 t.2.2.1 t.2.2.2.1 t.2.2.2.2.1 t.2.2.2.2.2 σ) ∧ (x5 = (3 : Int32) → b_L_law_360 L xs L43 Q t.1 t.2.1 t.2.2.1 t.2.2.2.1 t.2.2.2.2.1 t.2.2.2.2.2 σ) ∧ (x5 = (4 : Int32) → b_L_law_396 L xs L43 Q t.1 t.2.1 t.2.2.1 t.2.2.2.1 t.2.2.2.2.1 t.2.2.2.2.2 σ) ∧ (x5 = (5 : Int32) → b_L_law_452 L xs L43 Q t.1 t.2.1 t.2.2.1 t.2.2.2.1 t.2.2.2.2.1 t.2.2.2.2.2 σ) ∧ (x5 = (6 : Int32) → b_L_law_488 L xs L43 Q t.1 t.2.1 t.2.2.1 t.2.2.2.1 t.2.2.2.2.1 t.2.2.2.2.2 σ) ∧ (x5 = (7 : Int32) → b_L_law_524 L xs L43 Q t.1 t.2.1 t.2.2.1 t.2.2.2.1 t.2.2.2.2.1 t.2.2.2.2.2 σ) ∧ (x5 = (8 : Int32) → b_L_law_560 L xs L43 Q t.1 t.2.1 t.2.2.1 t.2.2.2.1 t.2.2.2.2.1 t.2.2.2.2.2 σ) ∧ (x5 = (9 : Int32) → b_L_law_616 L xs L43 Q t.1 t.2.1 t.2.2.1 t.2.2.2.1 t.2.2.2.2.1 t.2.2.2.2.2 σ) ∧ (x5 = (10 : Int32) → b_L_law_652 L xs L43 Q t.1 t.2.1 t.2.2.1 t.2.2.2.1 t.2.2.2.2.1 t.2.2.2.2.2 σ) ∧ (x5 = (11 : Int32) → b_L_law_708 L xs L43 Q t.1 t.2.1 t.2.2.1 t.2.2.2.1 t.2.2.2.2.1 t.2.2.2.2.2 σ) ∧ (x5 = (12 : Int32) → b_L_law_764 L xs L43 Q t.1 t.2.1 t.2.2.1 t.2.2.2.1 t.2.2.2.2.1 t.2.2.2.2.2 σ) ∧ (x5 = (13 : Int32) → b_L_law_777 L xs L43 Q t.1 t.2.1 t.2.2.1 t.2.2.2.1 t.2.2.2.2.1 t.2.2.2.2.2 σ) ∧ (x5 = (14 : Int32) → b_L_law_790 L xs L43 Q t.1 t.2.1 t.2.2.1 t.2.2.2.1 t.2.2.2.2.1 t.2.2.2.2.2 σ) ∧ (x5 = (15 : Int32) → b_L_law_827 L xs L43 Q t.1 t.2.1 t.2.2.1 t.2.2.2.1 t.2.2.2.2.1 t.2.2.2.2.2 σ) ∧ (x5 = (16 : Int32) → b_L_law_876 L xs L43 Q t.1 t.2.1 t.2.2.1 t.2.2.2.1 t.2.2.2.2.1 t.2.2.2.2.2 σ) ∧ (x5 = (17 : Int32) → b_L_law_913 L xs L43 Q t.1 t.2.1 t.2.2.1 t.2.2.2.1 t.2.2.2.2.1 t.2.2.2.2.2 σ) ∧ (x5 = (18 : Int32) → b_L_law_950 L xs L43 Q t.1 t.2.1 t.2.2.1 t.2.2.2.1 t.2.2.2.2.1 t.2.2.2.2.2 σ) ∧ (x5 = (19 : Int32) → b_L_law_975 L xs L43 Q t.1 t.2.1 t.2.2.1 t.2.2.2.1 t.2.2.2.2.1 t.2.2.2.2.2 σ) ∧ (x5 = (20 : Int32) → b_L_law_1000 L xs L43 Q t.1 t.2.1 t.2.2.1 t.2.2.2.1 t.2.2.2.2.1 t.2.2.2.2.2 σ) ∧ (x5 = (21 : Int32) → b_L_law_1037 L xs L43 Q t.1 t.2.1 t.2.2.1 t.2.2.2.1 t.2.2.2.2.1 t.2.2.2.2.2 σ) ∧ (x5 = (22 : Int32) → b_L_law_1062 L xs L43 Q t.1 t.2.1 t.2.2.1 t.2.2.2.1 t.2.2.2.2.1 t.2.2.2.2.2 σ) ∧ (x5 = (23 : Int32) → b_L_law_1118 L xs L43 Q t.1 t.2.1 t.2.2.1 t.2.2.2.1 t.2.2.2.2.1 t.2.2.2.2.2 σ) ∧ (x5 = (24 : Int32) → b_L_law_1143 L xs L43 Q t.1 t.2.1 t.2.2.1 t.2.2.2.1 t.2.2.2.2.1 t.2.2.2.2.2 σ) ∧ (x5 = (25 : Int32) → b_L_law_1212 L xs L43 Q t.1 t.2.1 t.2.2.1 t.2.2.2.1 t.2.2.2.2.1 t.2.2.2.2.2 σ) ∧ (x5 = (26 : Int32) → b_L_law_1249 L xs L43 Q t.1 t.2.1 t.2.2.1 t.2.2.2.1 t.2.2.2.2.1 t.2.2.2.2.2 σ) ∧ (x5 = (27 : Int32) → b_L_law_1293 L xs L43 Q t.1 t.2.1 t.2.2.1 t.2.2.2.1 t.2.2.2.2.1 t.2.2.2.2.2 σ) ∧ (x5 = (28 : Int32) → b_L_law_1318 L xs L43 Q t.1 t.2.1 t.2.2.1 t.2.2.2.1 t.2.2.2.2.1 t.2.2.2.2.2 σ) ∧ (x5 = (29 : Int32) → b_L_law_1343 L xs L43 Q t.1 t.2.1 t.2.2.1 t.2.2.2.1 t.2.2.2.2.1 t.2.2.2.2.2 σ) ∧ (x5 = (30 : Int32) → b_L_law_1356 L xs L43 Q t.1 t.2.1 t.2.2.1 t.2.2.2.1 t.2.2.2.2.1 t.2.2.2.2.2 σ)))))))
set_option maxHeartbeats 4000000 in
set_option maxRecDepth 100000 in
theorem t_L_law_43 {p : Program} {l : Launch} {e : Env} {s : State} {m : MethodId} {below : List Frame} {meth : Method} {c : Code} {D : va_G} {cy : Nat → ClassId} {b L : Nat} {xs : Nat → Int32}  {Q : Int32 → Sto → Prop} {L43 : Option Nat × Option Nat × Option Nat × Int32 × Nat × Nat → Sto → Prop} (C : Cx p s m #[Value.ref b] meth c D cy (LA s) cL_law 7 RL) (hr : meth.sig.returnType = ret) (hnm : True) (hlt : l.stackTraces = false) (Z : ZW s) (Z2 : ZH (LA s) s s.heap) (hX : va_X b L xs s s.heap) (hbl : b < s.heap.size) (hLL : L < 2 ^ 31) (hQ : ∀ (v : Int32) (τ : Sto), Q v τ → v = 1) (hL43 : ∀ (t : Option Nat × Option Nat × Option Nat × Int32 × Nat × Nat) (σ : Sto), L43 t σ → ∀ ls : Array Slot, lv_has ls 7 [(0, .ref b), (1, va_rf t.1), (2, va_rf t.2.1), (3, va_rf t.2.2.1), (4, .int t.2.2.2.1)] → Xw p l e room_1 s m #[Value.ref b] below meth c D cy (LA s) σ t.2.2.2.2.1 t.2.2.2.2.2 (lw_Z below #[Value.ref b] s) (F0 m 43 ls [])) : ∀ (t : Option Nat × Option Nat × Option Nat × Int32 × Nat × Nat) (σ : Sto), f_L_law_43 L xs  Q L43 t σ → ∀ ls : Array Slot, lv_has ls 7 [(0, .ref b), (1, va_rf t.1), (2, va_rf t.2.1), (3, va_rf t.2.2.1), (4, .int t.2.2.2.1)] → Xw p l e room_1 s m #[Value.ref b] below meth c D cy (LA s) σ t.2.2.2.2.1 t.2.2.2.2.2 (lw_Z below #[Value.ref b] s) (F0 m 43 ls []) := by
  intro t σ h ls hl
  unfold f_L_law_43 at h
  refine x_iload C dL_law_43 (lv_at hl 4 rfl) ?_
  refine x_aload_n C dL_law_45 rfl (lv_at hl 0 rfl) ?_
  refine x_slen C hX hbl dL_law_46 ?_
  refine x_iconst (v := 5) C dL_law_47 (by decide) ?_
  refine x_isub C dL_law_48 ?_
  refine x_icmp_gt (tgt := 1375) C dL_law_49 (by decide) (fun c1 => ?_) (fun c1 => ?_)
  · have h := h.1 c1
    refine x_iconst (v := 1) C dL_law_1375 (by decide) ?_
    exact x_lawret C hr h.1 (hQ _ _ h.2) dL_law_1376
  · have h := h.2 c1
    refine x_aload_n C dL_law_52 rfl (lv_at hl 0 rfl) ?_
    refine x_iload C dL_law_53 (lv_at hl 4 rfl) ?_
    obtain ⟨g2, h⟩ := h
    refine x_sld C hX hbl g2 dL_law_55 ?_
    refine x_topi (fun x3 e4 => ?_)
    have h := h x3 e4
    refine x_bipush (v := 31) C dL_law_56 (by decide) ?_
    refine x_iand C dL_law_58 ?_
    refine x_topi (fun x5 e6 => ?_)
    have h := h x5 e6
    by_cases c7 : x5.toInt < 0 ∨ 30 < x5.toInt
    · have h := h.1 c7
      refine x_tableOut (tgt := 1369) C dL_law_59 c7 (by decide) ?_
      exact t_L_law_1369 C hr hnm hlt Z Z2 hX hbl hLL hQ hL43 t.1 t.2.1 t.2.2.1 t.2.2.2.1 t.2.2.2.2.1 t.2.2.2.2.2 _ h ls (lv_sub hl [0, 1, 2, 3, 4] rfl)
    · rcases (show x5.toInt = 0 ∨ x5.toInt = 1 ∨ x5.toInt = 2 ∨ x5.toInt = 3 ∨ x5.toInt = 4 ∨ x5.toInt = 5 ∨ x5.toInt = 6 ∨ x5.toInt = 7 ∨ x5.toInt = 8 ∨ x5.toInt = 9 ∨ x5.toInt = 10 ∨ x5.toInt = 11 ∨ x5.toInt = 12 ∨ x5.toInt = 13 ∨ x5.toInt = 14 ∨ x5.toInt = 15 ∨ x5.toInt = 16 ∨ x5.toInt = 17 ∨ x5.toInt = 18 ∨ x5.toInt = 19 ∨ x5.toInt = 20 ∨ x5.toInt = 21 ∨ x5.toInt = 22 ∨ x5.toInt = 23 ∨ x5.toInt = 24 ∨ x5.toInt = 25 ∨ x5.toInt = 26 ∨ x5.toInt = 27 ∨ x5.toInt = 28 ∨ x5.toInt = 29 ∨ x5.toInt = 30 by omega) with c8 | c8 | c8 | c8 | c8 | c8 | c8 | c8 | c8 | c8 | c8 | c8 | c8 | c8 | c8 | c8 | c8 | c8 | c8 | c8 | c8 | c8 | c8 | c8 | c8 | c8 | c8 | c8 | c8 | c8 | c8
      · have h := h.2.1 (sw_eq (k := 0) (c8.trans (by decide)))
        refine x_tableIn (tgt := 196) (off := 137) C dL_law_59 (by omega) (by omega) (by rw [c8]; rfl) (by decide) ?_
        exact t_L_law_196 C hr hnm hlt Z Z2 hX hbl hLL hQ hL43 t.1 t.2.1 t.2.2.1 t.2.2.2.1 t.2.2.2.2.1 t.2.2.2.2.2 _ h ls (lv_sub hl [0, 1, 2, 3, 4] rfl)
      · have h := h.2.2.1 (sw_eq (k := 1) (c8.trans (by decide)))
        refine x_tableIn (tgt := 288) (off := 229) C dL_law_59 (by omega) (by omega) (by rw [c8]; rfl) (by decide) ?_
        exact t_L_law_288 C hr hnm hlt Z Z2 hX hbl hLL hQ hL43 t.1 t.2.1 t.2.2.1 t.2.2.2.1 t.2.2.2.2.1 t.2.2.2.2.2 _ h ls (lv_sub hl [0, 1, 2, 3, 4] rfl)
      · have h := h.2.2.2.1 (sw_eq (k := 2) (c8.trans (by decide)))
        refine x_tableIn (tgt := 324) (off := 265) C dL_law_59 (by omega) (by omega) (by rw [c8]; rfl) (by decide) ?_
        exact t_L_law_324 C hr hnm hlt Z Z2 hX hbl hLL hQ hL43 t.1 t.2.1 t.2.2.1 t.2.2.2.1 t.2.2.2.2.1 t.2.2.2.2.2 _ h ls (lv_sub hl [0, 1, 2, 3, 4] rfl)
      · have h := h.2.2.2.2.1 (sw_eq (k := 3) (c8.trans (by decide)))
        refine x_tableIn (tgt := 360) (off := 301) C dL_law_59 (by omega) (by omega) (by rw [c8]; rfl) (by decide) ?_
        exact t_L_law_360 C hr hnm hlt Z Z2 hX hbl hLL hQ hL43 t.1 t.2.1 t.2.2.1 t.2.2.2.1 t.2.2.2.2.1 t.2.2.2.2.2 _ h ls (lv_sub hl [0, 1, 2, 3, 4] rfl)
      · have h := h.2.2.2.2.2.1 (sw_eq (k := 4) (c8.trans (by decide)))
        refine x_tableIn (tgt := 396) (off := 337) C dL_law_59 (by omega) (by omega) (by rw [c8]; rfl) (by decide) ?_
        exact t_L_law_396 C hr hnm hlt Z Z2 hX hbl hLL hQ hL43 t.1 t.2.1 t.2.2.1 t.2.2.2.1 t.2.2.2.2.1 t.2.2.2.2.2 _ h ls (lv_sub hl [0, 1, 2, 3, 4] rfl)
      · have h := h.2.2.2.2.2.2.1 (sw_eq (k := 5) (c8.trans (by decide)))
        refine x_tableIn (tgt := 452) (off := 393) C dL_law_59 (by omega) (by omega) (by rw [c8]; rfl) (by decide) ?_
        exact t_L_law_452 C hr hnm hlt Z Z2 hX hbl hLL hQ hL43 t.1 t.2.1 t.2.2.1 t.2.2.2.1 t.2.2.2.2.1 t.2.2.2.2.2 _ h ls (lv_sub hl [0, 1, 2, 3, 4] rfl)
      · have h := h.2.2.2.2.2.2.2.1 (sw_eq (k := 6) (c8.trans (by decide)))
        refine x_tableIn (tgt := 488) (off := 429) C dL_law_59 (by omega) (by omega) (by rw [c8]; rfl) (by decide) ?_
        exact t_L_law_488 C hr hnm hlt Z Z2 hX hbl hLL hQ hL43 t.1 t.2.1 t.2.2.1 t.2.2.2.1 t.2.2.2.2.1 t.2.2.2.2.2 _ h ls (lv_sub hl [0, 1, 2, 3, 4] rfl)
      · have h := h.2.2.2.2.2.2.2.2.1 (sw_eq (k := 7) (c8.trans (by decide)))
        refine x_tableIn (tgt := 524) (off := 465) C dL_law_59 (by omega) (by omega) (by rw [c8]; rfl) (by decide) ?_
        exact t_L_law_524 C hr hnm hlt Z Z2 hX hbl hLL hQ hL43 t.1 t.2.1 t.2.2.1 t.2.2.2.1 t.2.2.2.2.1 t.2.2.2.2.2 _ h ls (lv_sub hl [0, 1, 2, 3, 4] rfl)
      · have h := h.2.2.2.2.2.2.2.2.2.1 (sw_eq (k := 8) (c8.trans (by decide)))
        refine x_tableIn (tgt := 560) (off := 501) C dL_law_59 (by omega) (by omega) (by rw [c8]; rfl) (by decide) ?_
        exact t_L_law_560 C hr hnm hlt Z Z2 hX hbl hLL hQ hL43 t.1 t.2.1 t.2.2.1 t.2.2.2.1 t.2.2.2.2.1 t.2.2.2.2.2 _ h ls (lv_sub hl [0, 1, 2, 3, 4] rfl)
      · have h := h.2.2.2.2.2.2.2.2.2.2.1 (sw_eq (k := 9) (c8.trans (by decide)))
        refine x_tableIn (tgt := 616) (off := 557) C dL_law_59 (by omega) (by omega) (by rw [c8]; rfl) (by decide) ?_
        exact t_L_law_616 C hr hnm hlt Z Z2 hX hbl hLL hQ hL43 t.1 t.2.1 t.2.2.1 t.2.2.2.1 t.2.2.2.2.1 t.2.2.2.2.2 _ h ls (lv_sub hl [0, 1, 2, 3, 4] rfl)
      · have h := h.2.2.2.2.2.2.2.2.2.2.2.1 (sw_eq (k := 10) (c8.trans (by decide)))
        refine x_tableIn (tgt := 652) (off := 593) C dL_law_59 (by omega) (by omega) (by rw [c8]; rfl) (by decide) ?_
        exact t_L_law_652 C hr hnm hlt Z Z2 hX hbl hLL hQ hL43 t.1 t.2.1 t.2.2.1 t.2.2.2.1 t.2.2.2.2.1 t.2.2.2.2.2 _ h ls (lv_sub hl [0, 1, 2, 3, 4] rfl)
      · have h := h.2.2.2.2.2.2.2.2.2.2.2.2.1 (sw_eq (k := 11) (c8.trans (by decide)))
        refine x_tableIn (tgt := 708) (off := 649) C dL_law_59 (by omega) (by omega) (by rw [c8]; rfl) (by decide) ?_
        exact t_L_law_708 C hr hnm hlt Z Z2 hX hbl hLL hQ hL43 t.1 t.2.1 t.2.2.1 t.2.2.2.1 t.2.2.2.2.1 t.2.2.2.2.2 _ h ls (lv_sub hl [0, 1, 2, 3, 4] rfl)
      · have h := h.2.2.2.2.2.2.2.2.2.2.2.2.2.1 (sw_eq (k := 12) (c8.trans (by decide)))
        refine x_tableIn (tgt := 764) (off := 705) C dL_law_59 (by omega) (by omega) (by rw [c8]; rfl) (by decide) ?_
        exact t_L_law_764 C hr hnm hlt Z Z2 hX hbl hLL hQ hL43 t.1 t.2.1 t.2.2.1 t.2.2.2.1 t.2.2.2.2.1 t.2.2.2.2.2 _ h ls (lv_sub hl [0, 1, 2, 3, 4] rfl)
      · have h := h.2.2.2.2.2.2.2.2.2.2.2.2.2.2.1 (sw_eq (k := 13) (c8.trans (by decide)))
        refine x_tableIn (tgt := 777) (off := 718) C dL_law_59 (by omega) (by omega) (by rw [c8]; rfl) (by decide) ?_
        exact t_L_law_777 C hr hnm hlt Z Z2 hX hbl hLL hQ hL43 t.1 t.2.1 t.2.2.1 t.2.2.2.1 t.2.2.2.2.1 t.2.2.2.2.2 _ h ls (lv_sub hl [0, 1, 2, 3, 4] rfl)
      · have h := h.2.2.2.2.2.2.2.2.2.2.2.2.2.2.2.1 (sw_eq (k := 14) (c8.trans (by decide)))
        refine x_tableIn (tgt := 790) (off := 731) C dL_law_59 (by omega) (by omega) (by rw [c8]; rfl) (by decide) ?_
        exact t_L_law_790 C hr hnm hlt Z Z2 hX hbl hLL hQ hL43 t.1 t.2.1 t.2.2.1 t.2.2.2.1 t.2.2.2.2.1 t.2.2.2.2.2 _ h ls (lv_sub hl [0, 1, 2, 3, 4] rfl)
      · have h := h.2.2.2.2.2.2.2.2.2.2.2.2.2.2.2.2.1 (sw_eq (k := 15) (c8.trans (by decide)))
        refine x_tableIn (tgt := 827) (off := 768) C dL_law_59 (by omega) (by omega) (by rw [c8]; rfl) (by decide) ?_
        exact t_L_law_827 C hr hnm hlt Z Z2 hX hbl hLL hQ hL43 t.1 t.2.1 t.2.2.1 t.2.2.2.1 t.2.2.2.2.1 t.2.2.2.2.2 _ h ls (lv_sub hl [0, 1, 2, 3, 4] rfl)
      · have h := h.2.2.2.2.2.2.2.2.2.2.2.2.2.2.2.2.2.1 (sw_eq (k := 16) (c8.trans (by decide)))
        refine x_tableIn (tgt := 876) (off := 817) C dL_law_59 (by omega) (by omega) (by rw [c8]; rfl) (by decide) ?_
        exact t_L_law_876 C hr hnm hlt Z Z2 hX hbl hLL hQ hL43 t.1 t.2.1 t.2.2.1 t.2.2.2.1 t.2.2.2.2.1 t.2.2.2.2.2 _ h ls (lv_sub hl [0, 1, 2, 3, 4] rfl)
      · have h := h.2.2.2.2.2.2.2.2.2.2.2.2.2.2.2.2.2.2.1 (sw_eq (k := 17) (c8.trans (by decide)))
        refine x_tableIn (tgt := 913) (off := 854) C dL_law_59 (by omega) (by omega) (by rw [c8]; rfl) (by decide) ?_
        exact t_L_law_913 C hr hnm hlt Z Z2 hX hbl hLL hQ hL43 t.1 t.2.1 t.2.2.1 t.2.2.2.1 t.2.2.2.2.1 t.2.2.2.2.2 _ h ls (lv_sub hl [0, 1, 2, 3, 4] rfl)
      · have h := h.2.2.2.2.2.2.2.2.2.2.2.2.2.2.2.2.2.2.2.1 (sw_eq (k := 18) (c8.trans (by decide)))
        refine x_tableIn (tgt := 950) (off := 891) C dL_law_59 (by omega) (by omega) (by rw [c8]; rfl) (by decide) ?_
        exact t_L_law_950 C hr hnm hlt Z Z2 hX hbl hLL hQ hL43 t.1 t.2.1 t.2.2.1 t.2.2.2.1 t.2.2.2.2.1 t.2.2.2.2.2 _ h ls (lv_sub hl [0, 1, 2, 3, 4] rfl)
      · have h := h.2.2.2.2.2.2.2.2.2.2.2.2.2.2.2.2.2.2.2.2.1 (sw_eq (k := 19) (c8.trans (by decide)))
        refine x_tableIn (tgt := 975) (off := 916) C dL_law_59 (by omega) (by omega) (by rw [c8]; rfl) (by decide) ?_
        exact t_L_law_975 C hr hnm hlt Z Z2 hX hbl hLL hQ hL43 t.1 t.2.1 t.2.2.1 t.2.2.2.1 t.2.2.2.2.1 t.2.2.2.2.2 _ h ls (lv_sub hl [0, 1, 2, 3, 4] rfl)
      · have h := h.2.2.2.2.2.2.2.2.2.2.2.2.2.2.2.2.2.2.2.2.2.1 (sw_eq (k := 20) (c8.trans (by decide)))
        refine x_tableIn (tgt := 1000) (off := 941) C dL_law_59 (by omega) (by omega) (by rw [c8]; rfl) (by decide) ?_
        exact t_L_law_1000 C hr hnm hlt Z Z2 hX hbl hLL hQ hL43 t.1 t.2.1 t.2.2.1 t.2.2.2.1 t.2.2.2.2.1 t.2.2.2.2.2 _ h ls (lv_sub hl [0, 1, 2, 3, 4] rfl)
      · have h := h.2.2.2.2.2.2.2.2.2.2.2.2.2.2.2.2.2.2.2.2.2.2.1 (sw_eq (k := 21) (c8.trans (by decide)))
        refine x_tableIn (tgt := 1037) (off := 978) C dL_law_59 (by omega) (by omega) (by rw [c8]; rfl) (by decide) ?_
        exact t_L_law_1037 C hr hnm hlt Z Z2 hX hbl hLL hQ hL43 t.1 t.2.1 t.2.2.1 t.2.2.2.1 t.2.2.2.2.1 t.2.2.2.2.2 _ h ls (lv_sub hl [0, 1, 2, 3, 4] rfl)
      · have h := h.2.2.2.2.2.2.2.2.2.2.2.2.2.2.2.2.2.2.2.2.2.2.2.1 (sw_eq (k := 22) (c8.trans (by decide)))
        refine x_tableIn (tgt := 1062) (off := 1003) C dL_law_59 (by omega) (by omega) (by rw [c8]; rfl) (by decide) ?_
        exact t_L_law_1062 C hr hnm hlt Z Z2 hX hbl hLL hQ hL43 t.1 t.2.1 t.2.2.1 t.2.2.2.1 t.2.2.2.2.1 t.2.2.2.2.2 _ h ls (lv_sub hl [0, 1, 2, 3, 4] rfl)
      · have h := h.2.2.2.2.2.2.2.2.2.2.2.2.2.2.2.2.2.2.2.2.2.2.2.2.1 (sw_eq (k := 23) (c8.trans (by decide)))
        refine x_tableIn (tgt := 1118) (off := 1059) C dL_law_59 (by omega) (by omega) (by rw [c8]; rfl) (by decide) ?_
        exact t_L_law_1118 C hr hnm hlt Z Z2 hX hbl hLL hQ hL43 t.1 t.2.1 t.2.2.1 t.2.2.2.1 t.2.2.2.2.1 t.2.2.2.2.2 _ h ls (lv_sub hl [0, 1, 2, 3, 4] rfl)
      · have h := h.2.2.2.2.2.2.2.2.2.2.2.2.2.2.2.2.2.2.2.2.2.2.2.2.2.1 (sw_eq (k := 24) (c8.trans (by decide)))
        refine x_tableIn (tgt := 1143) (off := 1084) C dL_law_59 (by omega) (by omega) (by rw [c8]; rfl) (by decide) ?_
        exact t_L_law_1143 C hr hnm hlt Z Z2 hX hbl hLL hQ hL43 t.1 t.2.1 t.2.2.1 t.2.2.2.1 t.2.2.2.2.1 t.2.2.2.2.2 _ h ls (lv_sub hl [0, 1, 2, 3, 4] rfl)
      · have h := h.2.2.2.2.2.2.2.2.2.2.2.2.2.2.2.2.2.2.2.2.2.2.2.2.2.2.1 (sw_eq (k := 25) (c8.trans (by decide)))
        refine x_tableIn (tgt := 1212) (off := 1153) C dL_law_59 (by omega) (by omega) (by rw [c8]; rfl) (by decide) ?_
        exact t_L_law_1212 C hr hnm hlt Z Z2 hX hbl hLL hQ hL43 t.1 t.2.1 t.2.2.1 t.2.2.2.1 t.2.2.2.2.1 t.2.2.2.2.2 _ h ls (lv_sub hl [0, 1, 2, 3, 4] rfl)
      · have h := h.2.2.2.2.2.2.2.2.2.2.2.2.2.2.2.2.2.2.2.2.2.2.2.2.2.2.2.1 (sw_eq (k := 26) (c8.trans (by decide)))
        refine x_tableIn (tgt := 1249) (off := 1190) C dL_law_59 (by omega) (by omega) (by rw [c8]; rfl) (by decide) ?_
        exact t_L_law_1249 C hr hnm hlt Z Z2 hX hbl hLL hQ hL43 t.1 t.2.1 t.2.2.1 t.2.2.2.1 t.2.2.2.2.1 t.2.2.2.2.2 _ h ls (lv_sub hl [0, 1, 2, 3, 4] rfl)
      · have h := h.2.2.2.2.2.2.2.2.2.2.2.2.2.2.2.2.2.2.2.2.2.2.2.2.2.2.2.2.1 (sw_eq (k := 27) (c8.trans (by decide)))
        refine x_tableIn (tgt := 1293) (off := 1234) C dL_law_59 (by omega) (by omega) (by rw [c8]; rfl) (by decide) ?_
        exact t_L_law_1293 C hr hnm hlt Z Z2 hX hbl hLL hQ hL43 t.1 t.2.1 t.2.2.1 t.2.2.2.1 t.2.2.2.2.1 t.2.2.2.2.2 _ h ls (lv_sub hl [0, 1, 2, 3, 4] rfl)
      · have h := h.2.2.2.2.2.2.2.2.2.2.2.2.2.2.2.2.2.2.2.2.2.2.2.2.2.2.2.2.2.1 (sw_eq (k := 28) (c8.trans (by decide)))
        refine x_tableIn (tgt := 1318) (off := 1259) C dL_law_59 (by omega) (by omega) (by rw [c8]; rfl) (by decide) ?_
        exact t_L_law_1318 C hr hnm hlt Z Z2 hX hbl hLL hQ hL43 t.1 t.2.1 t.2.2.1 t.2.2.2.1 t.2.2.2.2.1 t.2.2.2.2.2 _ h ls (lv_sub hl [0, 1, 2, 3, 4] rfl)
      · have h := h.2.2.2.2.2.2.2.2.2.2.2.2.2.2.2.2.2.2.2.2.2.2.2.2.2.2.2.2.2.2.1 (sw_eq (k := 29) (c8.trans (by decide)))
        refine x_tableIn (tgt := 1343) (off := 1284) C dL_law_59 (by omega) (by omega) (by rw [c8]; rfl) (by decide) ?_
        exact t_L_law_1343 C hr hnm hlt Z Z2 hX hbl hLL hQ hL43 t.1 t.2.1 t.2.2.1 t.2.2.2.1 t.2.2.2.2.1 t.2.2.2.2.2 _ h ls (lv_sub hl [0, 1, 2, 3, 4] rfl)
      · have h := h.2.2.2.2.2.2.2.2.2.2.2.2.2.2.2.2.2.2.2.2.2.2.2.2.2.2.2.2.2.2.2 (sw_eq (k := 30) (c8.trans (by decide)))
        refine x_tableIn (tgt := 1356) (off := 1297) C dL_law_59 (by omega) (by omega) (by rw [c8]; rfl) (by decide) ?_
        exact t_L_law_1356 C hr hnm hlt Z Z2 hX hbl hLL hQ hL43 t.1 t.2.1 t.2.2.1 t.2.2.2.1 t.2.2.2.2.1 t.2.2.2.2.2 _ h ls (lv_sub hl [0, 1, 2, 3, 4] rfl)
def wp_L_law (L : Nat) (xs : Nat → Int32) (σ : Sto) (Q : Int32 → Sto → Prop) : Prop := (0 + 1 ≤ 600128 ∧ 0 + 14 ≤ 7301064 ∧ (∀ q3 : Nat, ¬ sK σ q3 < 23 → ∀ σ5 : Sto, σ5 = stN σ q3 11 0 → (((0 + 1) ≤ 600128 ∧ (0 + 14) ≤ 7301064) ∧ (∀ x10 : Int32, x10 = vcell L xs (0 : Int32) → (((0 + 1) ≤ 600128 ∧ (0 + 14) ≤ 7301064) ∧ (∀ x15 : Int32, x15 = vcell L xs (1 : Int32) → (((0 + 1) + 1410 ≤ 600128 ∧ (0 + 14) + 45206 ≤ 7301064) ∧ (wp_X11_init q3 x10 x15 σ5 (fun (σ18 : Sto) => (((0 + 1) + 1410) + 1 ≤ 600128 ∧ ((0 + 14) + 45206) + 99 ≤ 7301064 ∧ (∀ q21 : Nat, ¬ sK σ18 q21 < 23 → ∀ σ23 : Sto, σ23 = stN σ18 q21 12 0 → (((((0 + 1) + 1410) + 1) ≤ 600128 ∧ (((0 + 14) + 45206) + 99) ≤ 7301064) ∧ (∀ x28 : Int32, x28 = vcell L xs (0 : Int32) → (((((0 + 1) + 1410) + 1) ≤ 600128 ∧ (((0 + 14) + 45206) + 99) ≤ 7301064) ∧ (∀ x33 : Int32, x33 = vcell L xs (1 : Int32) → (((((0 + 1) + 1410) + 1) + 77 ≤ 600128 ∧ (((0 + 14) + 45206) + 99) + 171928 ≤ 7301064) ∧ (wp_X12_init q21 x28 x33 σ23 (fun (σ36 : Sto) => (((((0 + 1) + 1410) + 1) + 77) + 1 ≤ 600128 ∧ ((((0 + 14) + 45206) + 99) + 171928) + 1 ≤ 7301064 ∧ (∀ q39 : Nat, ¬ sK σ36 q39 < 23 → ∀ σ41 : Sto, σ41 = stN σ36 q39 15 1 → LF (f_L_law_43 L xs  Q) (some q3, some q21, some q39, (2 : Int32), (((((0 + 1) + 1410) + 1) + 77) + 1), (((((0 + 14) + 45206) + 99) + 171928) + 1)) σ41))))))))))))))))))))
set_option maxHeartbeats 4000000 in
set_option maxRecDepth 100000 in
theorem c_L_law {p : Program} {l : Launch} {e : Env} {s : State} {m : MethodId} {below : List Frame} {meth : Method} {c : Code} {D : va_G} {cy : Nat → ClassId} {b L : Nat} {xs : Nat → Int32} {Q : Int32 → Sto → Prop} (C : Cx p s m #[Value.ref b] meth c D cy (LA s) cL_law 7 RL) (hr : meth.sig.returnType = ret) (hnm : True) (hlt : l.stackTraces = false) (Z : ZW s) (Z2 : ZH (LA s) s s.heap) (hX : va_X b L xs s s.heap) (hbl : b < s.heap.size) (hLL : L < 2 ^ 31) (hQ : ∀ (v : Int32) (τ : Sto), Q v τ → v = 1) (σ : Sto) (h : wp_L_law L xs σ Q) (ls : Array Slot) (hl : lv_has ls 7 [(0, .ref b)]) : Xw p l e room_1 s m #[Value.ref b] below meth c D cy (LA s) σ 0 0 (lw_Z below #[Value.ref b] s) (F0 m 0 ls []) := by
  unfold wp_L_law at h
  obtain ⟨g1, g2, h⟩ := h
  refine x_new C cls_11 cl_RL_8 ins_11 ini_11 g1 g2 dL_law_0 (fun q3 g4 => ?_)
  refine x_nameS (fun σ5 e6 => ?_)
  have h := h q3 g4 σ5 e6
  refine x_dup C dL_law_3 (rfl) ?_
  refine x_aload_n C dL_law_4 rfl (lv_at hl 0 rfl) ?_
  refine x_iconst (v := 0) C dL_law_5 (by decide) ?_
  obtain ⟨g7, h⟩ := h
  refine x_callCell (rest := [.ref q3, .ref q3]) C hX hbl hLL (by decide) (by decide) g7 (Nat.le_of_ble_eq_true rfl) hl.1 dL_law_6 ?_
  refine x_topi (fun x10 e11 => ?_)
  have h := h x10 e11
  refine x_aload_n C dL_law_9 rfl (lv_at hl 0 rfl) ?_
  refine x_iconst (v := 1) C dL_law_10 (by decide) ?_
  obtain ⟨g12, h⟩ := h
  refine x_callCell (rest := [.int x10, .ref q3, .ref q3]) C hX hbl hLL (by decide) (by decide) g12 (Nat.le_of_ble_eq_true rfl) hl.1 dL_law_11 ?_
  refine x_topi (fun x15 e16 => ?_)
  have h := h x15 e16
  obtain ⟨g17, h⟩ := h
  refine x_callI (rm := rm_X11_init) (rest := [.ref q3]) (As := [.int x10, .int x15]) C ci_RL_67 (by decide) g17 rfl rfl (Nat.le_of_ble_eq_true rfl) hl.1 dL_law_14 (c_X11_init l D cy q3 x10 x15 σ5 _ h) (ks_v (fun σ18 h => ?_))
  refine x_astore_n (i := 1) (lv' := [(1, .ref q3), (0, .ref b)]) C dL_law_17 rfl hl (by decide) (by first | rfl | simp [vrc, cat_i, cat_r, cat_l]) (fun ls hl => ?_)
  obtain ⟨g19, g20, h⟩ := h
  refine x_new C cls_12 cl_RL_70 ins_12 ini_12 g19 g20 dL_law_18 (fun q21 g22 => ?_)
  refine x_nameS (fun σ23 e24 => ?_)
  have h := h q21 g22 σ23 e24
  refine x_dup C dL_law_21 (rfl) ?_
  refine x_aload_n C dL_law_22 rfl (lv_at hl 1 rfl) ?_
  refine x_iconst (v := 0) C dL_law_23 (by decide) ?_
  obtain ⟨g25, h⟩ := h
  refine x_callCell (rest := [.ref q21, .ref q21]) C hX hbl hLL (by decide) (by decide) g25 (Nat.le_of_ble_eq_true rfl) hl.1 dL_law_24 ?_
  refine x_topi (fun x28 e29 => ?_)
  have h := h x28 e29
  refine x_aload_n C dL_law_27 rfl (lv_at hl 1 rfl) ?_
  refine x_iconst (v := 1) C dL_law_28 (by decide) ?_
  obtain ⟨g30, h⟩ := h
  refine x_callCell (rest := [.int x28, .ref q21, .ref q21]) C hX hbl hLL (by decide) (by decide) g30 (Nat.le_of_ble_eq_true rfl) hl.1 dL_law_29 ?_
  refine x_topi (fun x33 e34 => ?_)
  have h := h x33 e34
  obtain ⟨g35, h⟩ := h
  refine x_callI (rm := rm_X12_init) (rest := [.ref q21]) (As := [.int x28, .int x33]) C ci_RL_72 (by decide) g35 rfl rfl (Nat.le_of_ble_eq_true rfl) hl.1 dL_law_32 (c_X12_init l D cy q21 x28 x33 σ23 _ h) (ks_v (fun σ36 h => ?_))
  refine x_astore_n (i := 2) (lv' := [(2, .ref q21), (1, .ref q3), (0, .ref b)]) C dL_law_35 rfl hl (by decide) (by first | rfl | simp [vrc, cat_i, cat_r, cat_l]) (fun ls hl => ?_)
  refine x_iconst (v := 1) C dL_law_36 (by decide) ?_
  obtain ⟨g37, g38, h⟩ := h
  refine x_newa C nak_15 (by decide) (by decide) (by decide) g37 g38 dL_law_37 (fun q39 g40 => ?_)
  refine x_nameS (fun σ41 e42 => ?_)
  have h := h q39 g40 σ41 e42
  refine x_astore_n (i := 3) (lv' := [(3, .ref q39), (2, .ref q21), (1, .ref q3), (0, .ref b)]) C dL_law_39 rfl hl (by decide) (by first | rfl | simp [vrc, cat_i, cat_r, cat_l]) (fun ls hl => ?_)
  refine x_iconst (v := 2) C dL_law_40 (by decide) ?_
  refine x_istore (i := 4) (lv' := [(4, .int (2 : Int32)), (3, .ref q39), (2, .ref q21), (1, .ref q3), (0, .ref b)]) C dL_law_41 hl (by decide) (by first | rfl | simp [vrc, cat_i, cat_r, cat_l]) (fun ls hl => ?_)
  exact h (fun t σ => ∀ ls : Array Slot, lv_has ls 7 [(0, .ref b), (1, va_rf t.1), (2, va_rf t.2.1), (3, va_rf t.2.2.1), (4, .int t.2.2.2.1)] → Xw p l e room_1 s m #[Value.ref b] below meth c D cy (LA s) σ t.2.2.2.2.1 t.2.2.2.2.2 (lw_Z below #[Value.ref b] s) (F0 m 43 ls [])) (t_L_law_43 C hr hnm hlt Z Z2 hX hbl hLL hQ  (fun t σ h => h)) ls (lv_sub hl [4, 3, 2, 1, 0] rfl)
