theorem dX12_merges_0 : decode cX12_merges 0 = .ok (.aload_n 0, 1) := by decide +kernel
theorem dX12_merges_1 : decode cX12_merges 1 = .ok (.iload_n 1, 1) := by decide +kernel
theorem dX12_merges_2 : decode cX12_merges 2 = .ok (.invokevirtual 327, 3) := by decide +kernel
theorem dX12_merges_5 : decode cX12_merges 5 = .ok (.ifCond .eq 29, 3) := by decide +kernel
theorem dX12_merges_8 : decode cX12_merges 8 = .ok (.aload_n 0, 1) := by decide +kernel
theorem dX12_merges_9 : decode cX12_merges 9 = .ok (.getfield 50, 3) := by decide +kernel
theorem dX12_merges_12 : decode cX12_merges 12 = .ok (.iload_n 1, 1) := by decide +kernel
theorem dX12_merges_13 : decode cX12_merges 13 = .ok (.iaload, 1) := by decide +kernel
theorem dX12_merges_14 : decode cX12_merges 14 = .ok (.iconst 2, 1) := by decide +kernel
theorem dX12_merges_15 : decode cX12_merges 15 = .ok (.if_icmp .ne 19, 3) := by decide +kernel
theorem dX12_merges_18 : decode cX12_merges 18 = .ok (.aload_n 0, 1) := by decide +kernel
theorem dX12_merges_19 : decode cX12_merges 19 = .ok (.getfield 119, 3) := by decide +kernel
theorem dX12_merges_22 : decode cX12_merges 22 = .ok (.iload_n 1, 1) := by decide +kernel
theorem dX12_merges_23 : decode cX12_merges 23 = .ok (.iaload, 1) := by decide +kernel
theorem dX12_merges_24 : decode cX12_merges 24 = .ok (.invokestatic 381, 3) := by decide +kernel
theorem dX12_merges_27 : decode cX12_merges 27 = .ok (.aload_n 0, 1) := by decide +kernel
theorem dX12_merges_28 : decode cX12_merges 28 = .ok (.getfield 261, 3) := by decide +kernel
theorem dX12_merges_31 : decode cX12_merges 31 = .ok (.if_icmp .ge 4, 3) := by decide +kernel
theorem dX12_merges_34 : decode cX12_merges 34 = .ok (.return_, 1) := by decide +kernel
theorem dX12_merges_35 : decode cX12_merges 35 = .ok (.aload_n 0, 1) := by decide +kernel
theorem dX12_merges_36 : decode cX12_merges 36 = .ok (.iload_n 1, 1) := by decide +kernel
theorem dX12_merges_37 : decode cX12_merges 37 = .ok (.invokevirtual 384, 3) := by decide +kernel
theorem dX12_merges_40 : decode cX12_merges 40 = .ok (.aload_n 0, 1) := by decide +kernel
theorem dX12_merges_41 : decode cX12_merges 41 = .ok (.iload_n 1, 1) := by decide +kernel
theorem dX12_merges_42 : decode cX12_merges 42 = .ok (.invokevirtual 387, 3) := by decide +kernel
theorem dX12_merges_45 : decode cX12_merges 45 = .ok (.iconst 0, 1) := by decide +kernel
theorem dX12_merges_46 : decode cX12_merges 46 = .ok (.istore_n 2, 1) := by decide +kernel
theorem dX12_merges_47 : decode cX12_merges 47 = .ok (.iconst (-1), 1) := by decide +kernel
theorem dX12_merges_48 : decode cX12_merges 48 = .ok (.istore_n 3, 1) := by decide +kernel
theorem dX12_merges_49 : decode cX12_merges 49 = .ok (.iconst 0, 1) := by decide +kernel
theorem dX12_merges_50 : decode cX12_merges 50 = .ok (.istore 4, 2) := by decide +kernel
theorem dX12_merges_52 : decode cX12_merges 52 = .ok (.iload 4, 2) := by decide +kernel
theorem dX12_merges_54 : decode cX12_merges 54 = .ok (.aload_n 0, 1) := by decide +kernel
theorem dX12_merges_55 : decode cX12_merges 55 = .ok (.getfield 258, 3) := by decide +kernel
theorem dX12_merges_58 : decode cX12_merges 58 = .ok (.if_icmp .ge 66, 3) := by decide +kernel
theorem dX12_merges_61 : decode cX12_merges 61 = .ok (.iload_n 1, 1) := by decide +kernel
theorem dX12_merges_62 : decode cX12_merges 62 = .ok (.iload 4, 2) := by decide +kernel
theorem dX12_merges_64 : decode cX12_merges 64 = .ok (.invokestatic 374, 3) := by decide +kernel
theorem dX12_merges_67 : decode cX12_merges 67 = .ok (.istore 5, 2) := by decide +kernel
theorem dX12_merges_69 : decode cX12_merges 69 = .ok (.aload_n 0, 1) := by decide +kernel
theorem dX12_merges_70 : decode cX12_merges 70 = .ok (.iload_n 1, 1) := by decide +kernel
theorem dX12_merges_71 : decode cX12_merges 71 = .ok (.iload 5, 2) := by decide +kernel
theorem dX12_merges_73 : decode cX12_merges 73 = .ok (.invokevirtual 377, 3) := by decide +kernel
theorem dX12_merges_76 : decode cX12_merges 76 = .ok (.ifCond .eq 42, 3) := by decide +kernel
theorem dX12_merges_79 : decode cX12_merges 79 = .ok (.aload_n 0, 1) := by decide +kernel
theorem dX12_merges_80 : decode cX12_merges 80 = .ok (.getfield 131, 3) := by decide +kernel
theorem dX12_merges_83 : decode cX12_merges 83 = .ok (.bipush 7, 2) := by decide +kernel
theorem dX12_merges_85 : decode cX12_merges 85 = .ok (.iload_n 1, 1) := by decide +kernel
theorem dX12_merges_86 : decode cX12_merges 86 = .ok (.imul, 1) := by decide +kernel
theorem dX12_merges_87 : decode cX12_merges 87 = .ok (.iload 5, 2) := by decide +kernel
theorem dX12_merges_89 : decode cX12_merges 89 = .ok (.iadd, 1) := by decide +kernel
theorem dX12_merges_90 : decode cX12_merges 90 = .ok (.iaload, 1) := by decide +kernel
theorem dX12_merges_91 : decode cX12_merges 91 = .ok (.istore 6, 2) := by decide +kernel
theorem dX12_merges_93 : decode cX12_merges 93 = .ok (.iload 6, 2) := by decide +kernel
theorem dX12_merges_95 : decode cX12_merges 95 = .ok (.iload_n 2, 1) := by decide +kernel
theorem dX12_merges_96 : decode cX12_merges 96 = .ok (.if_icmp .le 8, 3) := by decide +kernel
theorem dX12_merges_99 : decode cX12_merges 99 = .ok (.iload 6, 2) := by decide +kernel
theorem dX12_merges_101 : decode cX12_merges 101 = .ok (.goto 4, 3) := by decide +kernel
theorem dX12_merges_104 : decode cX12_merges 104 = .ok (.iload_n 2, 1) := by decide +kernel
theorem dX12_merges_105 : decode cX12_merges 105 = .ok (.istore_n 2, 1) := by decide +kernel
theorem dX12_merges_106 : decode cX12_merges 106 = .ok (.iload_n 3, 1) := by decide +kernel
theorem dX12_merges_107 : decode cX12_merges 107 = .ok (.iconst (-1), 1) := by decide +kernel
theorem dX12_merges_108 : decode cX12_merges 108 = .ok (.if_icmp .ne 8, 3) := by decide +kernel
theorem dX12_merges_111 : decode cX12_merges 111 = .ok (.iload 5, 2) := by decide +kernel
theorem dX12_merges_113 : decode cX12_merges 113 = .ok (.goto 4, 3) := by decide +kernel
theorem dX12_merges_116 : decode cX12_merges 116 = .ok (.iload_n 3, 1) := by decide +kernel
theorem dX12_merges_117 : decode cX12_merges 117 = .ok (.istore_n 3, 1) := by decide +kernel
theorem dX12_merges_118 : decode cX12_merges 118 = .ok (.iinc 4 1, 3) := by decide +kernel
theorem dX12_merges_121 : decode cX12_merges 121 = .ok (.goto (-69), 3) := by decide +kernel
theorem dX12_merges_124 : decode cX12_merges 124 = .ok (.iconst 0, 1) := by decide +kernel
theorem dX12_merges_125 : decode cX12_merges 125 = .ok (.istore 4, 2) := by decide +kernel
theorem dX12_merges_127 : decode cX12_merges 127 = .ok (.iload 4, 2) := by decide +kernel
theorem dX12_merges_129 : decode cX12_merges 129 = .ok (.iload_n 2, 1) := by decide +kernel
theorem dX12_merges_130 : decode cX12_merges 130 = .ok (.if_icmp .ge 16, 3) := by decide +kernel
theorem dX12_merges_133 : decode cX12_merges 133 = .ok (.aload_n 0, 1) := by decide +kernel
theorem dX12_merges_134 : decode cX12_merges 134 = .ok (.iload_n 1, 1) := by decide +kernel
theorem dX12_merges_135 : decode cX12_merges 135 = .ok (.iload 4, 2) := by decide +kernel
theorem dX12_merges_137 : decode cX12_merges 137 = .ok (.invokevirtual 390, 3) := by decide +kernel
theorem dX12_merges_140 : decode cX12_merges 140 = .ok (.iinc 4 1, 3) := by decide +kernel
theorem dX12_merges_143 : decode cX12_merges 143 = .ok (.goto (-16), 3) := by decide +kernel
theorem dX12_merges_146 : decode cX12_merges 146 = .ok (.aload_n 0, 1) := by decide +kernel
theorem dX12_merges_147 : decode cX12_merges 147 = .ok (.getfield 59, 3) := by decide +kernel
theorem dX12_merges_150 : decode cX12_merges 150 = .ok (.iload_n 1, 1) := by decide +kernel
theorem dX12_merges_151 : decode cX12_merges 151 = .ok (.iload_n 2, 1) := by decide +kernel
theorem dX12_merges_152 : decode cX12_merges 152 = .ok (.iastore, 1) := by decide +kernel
theorem dX12_merges_153 : decode cX12_merges 153 = .ok (.aload_n 0, 1) := by decide +kernel
theorem dX12_merges_154 : decode cX12_merges 154 = .ok (.getfield 62, 3) := by decide +kernel
theorem dX12_merges_157 : decode cX12_merges 157 = .ok (.iload_n 1, 1) := by decide +kernel
theorem dX12_merges_158 : decode cX12_merges 158 = .ok (.aload_n 0, 1) := by decide +kernel
theorem dX12_merges_159 : decode cX12_merges 159 = .ok (.getfield 371, 3) := by decide +kernel
theorem dX12_merges_162 : decode cX12_merges 162 = .ok (.aload_n 0, 1) := by decide +kernel
theorem dX12_merges_163 : decode cX12_merges 163 = .ok (.getfield 47, 3) := by decide +kernel
theorem dX12_merges_166 : decode cX12_merges 166 = .ok (.iload_n 1, 1) := by decide +kernel
theorem dX12_merges_167 : decode cX12_merges 167 = .ok (.iaload, 1) := by decide +kernel
theorem dX12_merges_168 : decode cX12_merges 168 = .ok (.if_icmp .ne 17, 3) := by decide +kernel
theorem dX12_merges_171 : decode cX12_merges 171 = .ok (.aload_n 0, 1) := by decide +kernel
theorem dX12_merges_172 : decode cX12_merges 172 = .ok (.getfield 128, 3) := by decide +kernel
theorem dX12_merges_175 : decode cX12_merges 175 = .ok (.bipush 7, 2) := by decide +kernel
theorem dX12_merges_177 : decode cX12_merges 177 = .ok (.iload_n 1, 1) := by decide +kernel
theorem dX12_merges_178 : decode cX12_merges 178 = .ok (.imul, 1) := by decide +kernel
theorem dX12_merges_179 : decode cX12_merges 179 = .ok (.iload_n 3, 1) := by decide +kernel
theorem dX12_merges_180 : decode cX12_merges 180 = .ok (.iadd, 1) := by decide +kernel
theorem dX12_merges_181 : decode cX12_merges 181 = .ok (.iaload, 1) := by decide +kernel
theorem dX12_merges_182 : decode cX12_merges 182 = .ok (.goto 4, 3) := by decide +kernel
theorem dX12_merges_185 : decode cX12_merges 185 = .ok (.iload_n 2, 1) := by decide +kernel
theorem dX12_merges_186 : decode cX12_merges 186 = .ok (.iastore, 1) := by decide +kernel
theorem dX12_merges_187 : decode cX12_merges 187 = .ok (.aload_n 0, 1) := by decide +kernel
theorem dX12_merges_188 : decode cX12_merges 188 = .ok (.iload_n 1, 1) := by decide +kernel
theorem dX12_merges_189 : decode cX12_merges 189 = .ok (.invokevirtual 393, 3) := by decide +kernel
theorem dX12_merges_192 : decode cX12_merges 192 = .ok (.iconst 0, 1) := by decide +kernel
theorem dX12_merges_193 : decode cX12_merges 193 = .ok (.istore 4, 2) := by decide +kernel
theorem dX12_merges_195 : decode cX12_merges 195 = .ok (.iload 4, 2) := by decide +kernel
theorem dX12_merges_197 : decode cX12_merges 197 = .ok (.aload_n 0, 1) := by decide +kernel
theorem dX12_merges_198 : decode cX12_merges 198 = .ok (.getfield 258, 3) := by decide +kernel
theorem dX12_merges_201 : decode cX12_merges 201 = .ok (.if_icmp .ge 22, 3) := by decide +kernel
theorem dX12_merges_204 : decode cX12_merges 204 = .ok (.iload 4, 2) := by decide +kernel
theorem dX12_merges_206 : decode cX12_merges 206 = .ok (.iload_n 1, 1) := by decide +kernel
theorem dX12_merges_207 : decode cX12_merges 207 = .ok (.if_icmp .eq 10, 3) := by decide +kernel
theorem dX12_merges_210 : decode cX12_merges 210 = .ok (.aload_n 0, 1) := by decide +kernel
theorem dX12_merges_211 : decode cX12_merges 211 = .ok (.iload_n 1, 1) := by decide +kernel
theorem dX12_merges_212 : decode cX12_merges 212 = .ok (.iload 4, 2) := by decide +kernel
theorem dX12_merges_214 : decode cX12_merges 214 = .ok (.invokevirtual 396, 3) := by decide +kernel
theorem dX12_merges_217 : decode cX12_merges 217 = .ok (.iinc 4 1, 3) := by decide +kernel
theorem dX12_merges_220 : decode cX12_merges 220 = .ok (.goto (-25), 3) := by decide +kernel
theorem dX12_merges_223 : decode cX12_merges 223 = .ok (.return_, 1) := by decide +kernel
abbrev rm_X12_merges : Room := { frames := 3, cells := 0, slots := 0, locals := 67 }
def b_X12_merges_217 (a0 : Nat) (L195 : Int32 × Int32 → Sto → Prop) (Q : Sto → Prop) (p1 : Int32) (p4 : Int32) (σ : Sto) : Prop := (∀ x1 : Int32, x1 = p4 + (1 : Int32) → L195 (p1, x1) σ)
set_option maxHeartbeats 4000000 in
set_option maxRecDepth 100000 in
theorem t_X12_merges_217 {p : Program} {l : Launch} {e : Env} {s : State} {m : MethodId} {args : Array Value} {below : List Frame} {meth : Method} {c : Code} {D : va_G} {cy : Nat → ClassId} {A : Nat → Prop} {a0 : Nat} {L195 : Int32 × Int32 → Sto → Prop} {Q : Sto → Prop} (C : Cx p s m args meth c D cy A cX12_merges 7 RX12) (hr : meth.sig.returnType = none) (hnm : meth.name = yX12_merges.name) (hL195 : ∀ (t : Int32 × Int32) (σ : Sto), L195 t σ → ∀ ls : Array Slot, lv_has ls 7 [(0, .ref a0), (1, .int t.1), (4, .int t.2)] → Xw p l e rm_X12_merges s m args below meth c D cy A σ 0 0 (MQ below (Qst D cy A (PsV Q)) args s rm_X12_merges.cells rm_X12_merges.slots A) (F0 m 195 ls [])) (p1 : Int32) (p4 : Int32) (σ : Sto) (h : b_X12_merges_217 a0 L195 Q p1 p4 σ) (ls : Array Slot) (hl : lv_has ls 7 [(0, .ref a0), (1, .int p1), (4, .int p4)]) : Xw p l e rm_X12_merges s m args below meth c D cy A σ 0 0 (MQ below (Qst D cy A (PsV Q)) args s rm_X12_merges.cells rm_X12_merges.slots A) (F0 m 217 ls []) := by
  unfold b_X12_merges_217 at h
  obtain ⟨x1, e2⟩ : ∃ z : Int32, z = p4 + (1 : Int32) := ⟨_, rfl⟩
  have h := h x1 e2
  refine x_iinc (v := x1) (lv' := [(4, .int x1), (0, .ref a0), (1, .int p1)]) C dX12_merges_217 hl (q0 := 2) rfl (by rw [e2]; rfl) (by decide) (by first | rfl | simp [vrc, cat_i, cat_r, cat_l]) (fun ls hl => ?_)
  refine x_goto (tgt := 195) C dX12_merges_220 (by decide) ?_
  exact hL195 (p1, x1) _ h ls (lv_sub hl [1, 2, 0] rfl)
def f_X12_merges_195 (a0 : Nat)  (Q : Sto → Prop) (L195 : Int32 × Int32 → Sto → Prop) (t : Int32 × Int32) (σ : Sto) : Prop := (sK σ a0 = 12 ∧ (∀ x2 : Int32, x2 = sI σ a0 1 → ((x2 ≤ t.2 → Q σ) ∧ (¬ x2 ≤ t.2 → ((t.2 = t.1 → b_X12_merges_217 a0 L195 Q t.1 t.2 σ) ∧ (¬ t.2 = t.1 → (wp_X12_sendStart a0 t.1 t.2 σ (fun (σ6 : Sto) => b_X12_merges_217 a0 L195 Q t.1 t.2 σ6))))))))
set_option maxHeartbeats 4000000 in
set_option maxRecDepth 100000 in
theorem t_X12_merges_195 {p : Program} {l : Launch} {e : Env} {s : State} {m : MethodId} {args : Array Value} {below : List Frame} {meth : Method} {c : Code} {D : va_G} {cy : Nat → ClassId} {A : Nat → Prop} {a0 : Nat} {Q : Sto → Prop} {L195 : Int32 × Int32 → Sto → Prop} (C : Cx p s m args meth c D cy A cX12_merges 7 RX12) (hr : meth.sig.returnType = none) (hnm : meth.name = yX12_merges.name) (hL195 : ∀ (t : Int32 × Int32) (σ : Sto), L195 t σ → ∀ ls : Array Slot, lv_has ls 7 [(0, .ref a0), (1, .int t.1), (4, .int t.2)] → Xw p l e rm_X12_merges s m args below meth c D cy A σ 0 0 (MQ below (Qst D cy A (PsV Q)) args s rm_X12_merges.cells rm_X12_merges.slots A) (F0 m 195 ls [])) : ∀ (t : Int32 × Int32) (σ : Sto), f_X12_merges_195 a0  Q L195 t σ → ∀ ls : Array Slot, lv_has ls 7 [(0, .ref a0), (1, .int t.1), (4, .int t.2)] → Xw p l e rm_X12_merges s m args below meth c D cy A σ 0 0 (MQ below (Qst D cy A (PsV Q)) args s rm_X12_merges.cells rm_X12_merges.slots A) (F0 m 195 ls []) := by
  intro t σ h ls hl
  unfold f_X12_merges_195 at h
  refine x_iload C dX12_merges_195 (lv_at hl 2 rfl) ?_
  refine x_aload_n C dX12_merges_197 rfl (lv_at hl 0 rfl) ?_
  obtain ⟨g1, h⟩ := h
  refine x_getI C fl_RX12_258 g1 dX12_merges_198 ?_
  refine x_topi (fun x2 e3 => ?_)
  have h := h x2 e3
  refine x_icmp_ge (tgt := 223) C dX12_merges_201 (by decide) (fun c4 => ?_) (fun c4 => ?_)
  · have h := h.1 c4
    exact x_vret C hr dX12_merges_223 ⟨rfl, h⟩
  · have h := h.2 c4
    refine x_iload C dX12_merges_204 (lv_at hl 2 rfl) ?_
    refine x_iload_n C dX12_merges_206 rfl (lv_at hl 1 rfl) ?_
    refine x_icmp_eq (tgt := 217) C dX12_merges_207 (by decide) (fun c5 => ?_) (fun c5 => ?_)
    · have h := h.1 c5
      exact t_X12_merges_217 C hr hnm hL195 t.1 t.2 _ h ls (lv_sub hl [0, 1, 2] rfl)
    · have h := h.2 c5
      refine x_aload_n C dX12_merges_210 rfl (lv_at hl 0 rfl) ?_
      refine x_iload_n C dX12_merges_211 rfl (lv_at hl 1 rfl) ?_
      refine x_iload C dX12_merges_212 (lv_at hl 2 rfl) ?_
      refine x_callV (rm := rm_X12_sendStart) (rest := []) (As := [.int t.1, .int t.2]) C cy_RX12_396 g1 (by decide) (by decide) rfl rfl (Nat.le_of_ble_eq_true rfl) hl.1 dX12_merges_214 (c_X12_sendStart l D cy a0 t.1 t.2 σ _ h) (ks_v (fun σ6 h => ?_))
      exact t_X12_merges_217 C hr hnm hL195 t.1 t.2 _ h ls (lv_sub hl [0, 1, 2] rfl)
def b_X12_merges_186 (a0 : Nat)  (Q : Sto → Prop) (p1 : Int32) (s0 : Int32) (s1 : Int32) (s2 : Option Nat) (σ : Sto) : Prop := (∃ b1 : Nat, s2 = some b1 ∧ (sK σ b1 = 14 ∧ (vp_in s1 (sN σ b1) ∧ (sK σ a0 = 12 ∧ (wp_X12_becomeNormal a0 p1 (stI σ b1 s1.toNatClampNeg s0) (fun (σ6 : Sto) => LF (f_X12_merges_195 a0  Q) (p1, (0 : Int32)) σ6))))))
set_option maxHeartbeats 4000000 in
set_option maxRecDepth 100000 in
theorem t_X12_merges_186 {p : Program} {l : Launch} {e : Env} {s : State} {m : MethodId} {args : Array Value} {below : List Frame} {meth : Method} {c : Code} {D : va_G} {cy : Nat → ClassId} {A : Nat → Prop} {a0 : Nat} {Q : Sto → Prop} (C : Cx p s m args meth c D cy A cX12_merges 7 RX12) (hr : meth.sig.returnType = none) (hnm : meth.name = yX12_merges.name) (p1 : Int32) (s0 : Int32) (s1 : Int32) (s2 : Option Nat) (σ : Sto) (h : b_X12_merges_186 a0  Q p1 s0 s1 s2 σ) (ls : Array Slot) (hl : lv_has ls 7 [(0, .ref a0), (1, .int p1)]) : Xw p l e rm_X12_merges s m args below meth c D cy A σ 0 0 (MQ below (Qst D cy A (PsV Q)) args s rm_X12_merges.cells rm_X12_merges.slots A) (F0 m 186 ls [.int s0, .int s1, va_rf s2]) := by
  unfold b_X12_merges_186 at h
  obtain ⟨b1, g2, h⟩ := h
  refine x_nn2 g2 ?_
  obtain ⟨g3, h⟩ := h
  obtain ⟨g4, h⟩ := h
  refine x_iast C g3 g4 dX12_merges_186 ?_
  refine x_aload_n C dX12_merges_187 rfl (lv_at hl 0 rfl) ?_
  refine x_iload_n C dX12_merges_188 rfl (lv_at hl 1 rfl) ?_
  obtain ⟨g5, h⟩ := h
  refine x_callV (rm := rm_X12_becomeNormal) (rest := []) (As := [.int p1]) C cy_RX12_393 g5 (by decide) (by decide) rfl rfl (Nat.le_of_ble_eq_true rfl) hl.1 dX12_merges_189 (c_X12_becomeNormal l D cy a0 p1 (stI σ b1 s1.toNatClampNeg s0) _ h) (ks_v (fun σ6 h => ?_))
  refine x_iconst (v := 0) C dX12_merges_192 (by decide) ?_
  refine x_istore (i := 4) (lv' := [(4, .int (0 : Int32)), (0, .ref a0), (1, .int p1)]) C dX12_merges_193 hl (by decide) (by first | rfl | simp [vrc, cat_i, cat_r, cat_l]) (fun ls hl => ?_)
  exact h (fun t σ => ∀ ls : Array Slot, lv_has ls 7 [(0, .ref a0), (1, .int t.1), (4, .int t.2)] → Xw p l e rm_X12_merges s m args below meth c D cy A σ 0 0 (MQ below (Qst D cy A (PsV Q)) args s rm_X12_merges.cells rm_X12_merges.slots A) (F0 m 195 ls [])) (t_X12_merges_195 C hr hnm  (fun t σ h => h)) ls (lv_sub hl [1, 2, 0] rfl)
def f_X12_merges_127 (a0 : Nat)  (Q : Sto → Prop) (L127 : Int32 × Int32 × Int32 × Int32 → Sto → Prop) (t : Int32 × Int32 × Int32 × Int32) (σ : Sto) : Prop := ((t.2.1 ≤ t.2.2.2 → (sK σ a0 = 12 ∧ (∃ b3 : Nat, sP σ a0 26 = some b3 ∧ (sK σ b3 = 14 ∧ (vp_in t.1 (sN σ b3) ∧ (∀ x7 : Int32, x7 = sI (stI σ b3 t.1.toNatClampNeg t.2.1) a0 98 → (∃ b9 : Nat, sP σ a0 22 = some b9 ∧ (sK σ b9 = 14 ∧ (vp_in t.1 (sN σ b9) ∧ (∀ x13 : Int32, x13 = sI (stI σ b3 t.1.toNatClampNeg t.2.1) b9 t.1.toNatClampNeg → ((¬ x7 = x13 → b_X12_merges_186 a0  Q t.1 t.2.1 t.1 (sP σ a0 27) (stI σ b3 t.1.toNatClampNeg t.2.1)) ∧ (x7 = x13 → (∀ x16 : Int32, x16 = ((7 : Int32) * t.1) + t.2.2.1 → (∃ b18 : Nat, sP σ a0 49 = some b18 ∧ (sK σ b18 = 14 ∧ (vp_in x16 (sN σ b18) ∧ (∀ x22 : Int32, x22 = sI (stI σ b3 t.1.toNatClampNeg t.2.1) b18 x16.toNatClampNeg → b_X12_merges_186 a0  Q t.1 x22 t.1 (sP σ a0 27) (stI σ b3 t.1.toNatClampNeg t.2.1)))))))))))))))))) ∧ (¬ t.2.1 ≤ t.2.2.2 → (sK σ a0 = 12 ∧ (wp_X12_mergeSlot a0 t.1 t.2.2.2 σ (fun (σ25 : Sto) => (∀ x26 : Int32, x26 = t.2.2.2 + (1 : Int32) → L127 (t.1, t.2.1, t.2.2.1, x26) σ25))))))
set_option maxHeartbeats 4000000 in
set_option maxRecDepth 100000 in
theorem t_X12_merges_127 {p : Program} {l : Launch} {e : Env} {s : State} {m : MethodId} {args : Array Value} {below : List Frame} {meth : Method} {c : Code} {D : va_G} {cy : Nat → ClassId} {A : Nat → Prop} {a0 : Nat} {Q : Sto → Prop} {L127 : Int32 × Int32 × Int32 × Int32 → Sto → Prop} (C : Cx p s m args meth c D cy A cX12_merges 7 RX12) (hr : meth.sig.returnType = none) (hnm : meth.name = yX12_merges.name) (hL127 : ∀ (t : Int32 × Int32 × Int32 × Int32) (σ : Sto), L127 t σ → ∀ ls : Array Slot, lv_has ls 7 [(0, .ref a0), (1, .int t.1), (2, .int t.2.1), (3, .int t.2.2.1), (4, .int t.2.2.2)] → Xw p l e rm_X12_merges s m args below meth c D cy A σ 0 0 (MQ below (Qst D cy A (PsV Q)) args s rm_X12_merges.cells rm_X12_merges.slots A) (F0 m 127 ls [])) : ∀ (t : Int32 × Int32 × Int32 × Int32) (σ : Sto), f_X12_merges_127 a0  Q L127 t σ → ∀ ls : Array Slot, lv_has ls 7 [(0, .ref a0), (1, .int t.1), (2, .int t.2.1), (3, .int t.2.2.1), (4, .int t.2.2.2)] → Xw p l e rm_X12_merges s m args below meth c D cy A σ 0 0 (MQ below (Qst D cy A (PsV Q)) args s rm_X12_merges.cells rm_X12_merges.slots A) (F0 m 127 ls []) := by
  intro t σ h ls hl
  unfold f_X12_merges_127 at h
  refine x_iload C dX12_merges_127 (lv_at hl 4 rfl) ?_
  refine x_iload_n C dX12_merges_129 rfl (lv_at hl 2 rfl) ?_
  refine x_icmp_ge (tgt := 146) C dX12_merges_130 (by decide) (fun c1 => ?_) (fun c1 => ?_)
  · have h := h.1 c1
    refine x_aload_n C dX12_merges_146 rfl (lv_at hl 0 rfl) ?_
    obtain ⟨g2, h⟩ := h
    refine x_getP C fl_RX12_59 g2 dX12_merges_147 ?_
    refine x_iload_n C dX12_merges_150 rfl (lv_at hl 1 rfl) ?_
    refine x_iload_n C dX12_merges_151 rfl (lv_at hl 2 rfl) ?_
    obtain ⟨b3, g4, h⟩ := h
    refine x_nn2 g4 ?_
    obtain ⟨g5, h⟩ := h
    obtain ⟨g6, h⟩ := h
    refine x_iast C g5 g6 dX12_merges_152 ?_
    refine x_aload_n C dX12_merges_153 rfl (lv_at hl 0 rfl) ?_
    refine x_getP C fl_RX12_62 g2 dX12_merges_154 ?_
    refine x_iload_n C dX12_merges_157 rfl (lv_at hl 1 rfl) ?_
    refine x_aload_n C dX12_merges_158 rfl (lv_at hl 0 rfl) ?_
    refine x_getI C fl_RX12_371 g2 dX12_merges_159 ?_
    refine x_topi (fun x7 e8 => ?_)
    have h := h x7 e8
    refine x_aload_n C dX12_merges_162 rfl (lv_at hl 0 rfl) ?_
    refine x_getP C fl_RX12_47 g2 dX12_merges_163 ?_
    refine x_iload_n C dX12_merges_166 rfl (lv_at hl 1 rfl) ?_
    obtain ⟨b9, g10, h⟩ := h
    refine x_nn1 g10 ?_
    obtain ⟨g11, h⟩ := h
    obtain ⟨g12, h⟩ := h
    refine x_iald C g11 g12 dX12_merges_167 ?_
    refine x_topi (fun x13 e14 => ?_)
    have h := h x13 e14
    refine x_icmp_ne (tgt := 185) C dX12_merges_168 (by decide) (fun c15 => ?_) (fun c15 => ?_)
    · have h := h.1 c15
      refine x_iload_n C dX12_merges_185 rfl (lv_at hl 2 rfl) ?_
      exact t_X12_merges_186 C hr hnm  t.1 t.2.1 t.1 (sP σ a0 27) _ h ls (lv_sub hl [0, 1] rfl)
    · have h := h.2 c15
      refine x_aload_n C dX12_merges_171 rfl (lv_at hl 0 rfl) ?_
      refine x_getP C fl_RX12_128 g2 dX12_merges_172 ?_
      refine x_bipush (v := 7) C dX12_merges_175 (by decide) ?_
      refine x_iload_n C dX12_merges_177 rfl (lv_at hl 1 rfl) ?_
      refine x_imul C dX12_merges_178 ?_
      refine x_iload_n C dX12_merges_179 rfl (lv_at hl 3 rfl) ?_
      refine x_iadd C dX12_merges_180 ?_
      refine x_topi (fun x16 e17 => ?_)
      have h := h x16 e17
      obtain ⟨b18, g19, h⟩ := h
      refine x_nn1 g19 ?_
      obtain ⟨g20, h⟩ := h
      obtain ⟨g21, h⟩ := h
      refine x_iald C g20 g21 dX12_merges_181 ?_
      refine x_topi (fun x22 e23 => ?_)
      have h := h x22 e23
      refine x_goto (tgt := 186) C dX12_merges_182 (by decide) ?_
      exact t_X12_merges_186 C hr hnm  t.1 x22 t.1 (sP σ a0 27) _ h ls (lv_sub hl [0, 1] rfl)
  · have h := h.2 c1
    refine x_aload_n C dX12_merges_133 rfl (lv_at hl 0 rfl) ?_
    refine x_iload_n C dX12_merges_134 rfl (lv_at hl 1 rfl) ?_
    refine x_iload C dX12_merges_135 (lv_at hl 4 rfl) ?_
    obtain ⟨g24, h⟩ := h
    refine x_callV (rm := rm_X12_mergeSlot) (rest := []) (As := [.int t.1, .int t.2.2.2]) C cy_RX12_390 g24 (by decide) (by decide) rfl rfl (Nat.le_of_ble_eq_true rfl) hl.1 dX12_merges_137 (c_X12_mergeSlot l D cy a0 t.1 t.2.2.2 σ _ h) (ks_v (fun σ25 h => ?_))
    obtain ⟨x26, e27⟩ : ∃ z : Int32, z = t.2.2.2 + (1 : Int32) := ⟨_, rfl⟩
    have h := h x26 e27
    refine x_iinc (v := x26) (lv' := [(4, .int x26), (0, .ref a0), (1, .int t.1), (2, .int t.2.1), (3, .int t.2.2.1)]) C dX12_merges_140 hl (q0 := 4) rfl (by rw [e27]; rfl) (by decide) (by first | rfl | simp [vrc, cat_i, cat_r, cat_l]) (fun ls hl => ?_)
    refine x_goto (tgt := 127) C dX12_merges_143 (by decide) ?_
    exact hL127 (t.1, t.2.1, t.2.2.1, x26) _ h ls (lv_sub hl [1, 2, 3, 4, 0] rfl)
def b_X12_merges_118 (a0 : Nat) (L52 : Int32 × Int32 × Int32 × Int32 → Sto → Prop) (Q : Sto → Prop) (p1 : Int32) (p2 : Int32) (p3 : Int32) (p4 : Int32) (σ : Sto) : Prop := (∀ x1 : Int32, x1 = p4 + (1 : Int32) → L52 (p1, p2, p3, x1) σ)
set_option maxHeartbeats 4000000 in
set_option maxRecDepth 100000 in
theorem t_X12_merges_118 {p : Program} {l : Launch} {e : Env} {s : State} {m : MethodId} {args : Array Value} {below : List Frame} {meth : Method} {c : Code} {D : va_G} {cy : Nat → ClassId} {A : Nat → Prop} {a0 : Nat} {L52 : Int32 × Int32 × Int32 × Int32 → Sto → Prop} {Q : Sto → Prop} (C : Cx p s m args meth c D cy A cX12_merges 7 RX12) (hr : meth.sig.returnType = none) (hnm : meth.name = yX12_merges.name) (hL52 : ∀ (t : Int32 × Int32 × Int32 × Int32) (σ : Sto), L52 t σ → ∀ ls : Array Slot, lv_has ls 7 [(0, .ref a0), (1, .int t.1), (2, .int t.2.1), (3, .int t.2.2.1), (4, .int t.2.2.2)] → Xw p l e rm_X12_merges s m args below meth c D cy A σ 0 0 (MQ below (Qst D cy A (PsV Q)) args s rm_X12_merges.cells rm_X12_merges.slots A) (F0 m 52 ls [])) (p1 : Int32) (p2 : Int32) (p3 : Int32) (p4 : Int32) (σ : Sto) (h : b_X12_merges_118 a0 L52 Q p1 p2 p3 p4 σ) (ls : Array Slot) (hl : lv_has ls 7 [(0, .ref a0), (1, .int p1), (2, .int p2), (3, .int p3), (4, .int p4)]) : Xw p l e rm_X12_merges s m args below meth c D cy A σ 0 0 (MQ below (Qst D cy A (PsV Q)) args s rm_X12_merges.cells rm_X12_merges.slots A) (F0 m 118 ls []) := by
  unfold b_X12_merges_118 at h
  obtain ⟨x1, e2⟩ : ∃ z : Int32, z = p4 + (1 : Int32) := ⟨_, rfl⟩
  have h := h x1 e2
  refine x_iinc (v := x1) (lv' := [(4, .int x1), (0, .ref a0), (1, .int p1), (2, .int p2), (3, .int p3)]) C dX12_merges_118 hl (q0 := 4) rfl (by rw [e2]; rfl) (by decide) (by first | rfl | simp [vrc, cat_i, cat_r, cat_l]) (fun ls hl => ?_)
  refine x_goto (tgt := 52) C dX12_merges_121 (by decide) ?_
  exact hL52 (p1, p2, p3, x1) _ h ls (lv_sub hl [1, 2, 3, 4, 0] rfl)
def b_X12_merges_117 (a0 : Nat) (L52 : Int32 × Int32 × Int32 × Int32 → Sto → Prop) (Q : Sto → Prop) (p1 : Int32) (p2 : Int32) (p4 : Int32) (s0 : Int32) (σ : Sto) : Prop := b_X12_merges_118 a0 L52 Q p1 p2 s0 p4 σ
set_option maxHeartbeats 4000000 in
set_option maxRecDepth 100000 in
theorem t_X12_merges_117 {p : Program} {l : Launch} {e : Env} {s : State} {m : MethodId} {args : Array Value} {below : List Frame} {meth : Method} {c : Code} {D : va_G} {cy : Nat → ClassId} {A : Nat → Prop} {a0 : Nat} {L52 : Int32 × Int32 × Int32 × Int32 → Sto → Prop} {Q : Sto → Prop} (C : Cx p s m args meth c D cy A cX12_merges 7 RX12) (hr : meth.sig.returnType = none) (hnm : meth.name = yX12_merges.name) (hL52 : ∀ (t : Int32 × Int32 × Int32 × Int32) (σ : Sto), L52 t σ → ∀ ls : Array Slot, lv_has ls 7 [(0, .ref a0), (1, .int t.1), (2, .int t.2.1), (3, .int t.2.2.1), (4, .int t.2.2.2)] → Xw p l e rm_X12_merges s m args below meth c D cy A σ 0 0 (MQ below (Qst D cy A (PsV Q)) args s rm_X12_merges.cells rm_X12_merges.slots A) (F0 m 52 ls [])) (p1 : Int32) (p2 : Int32) (p4 : Int32) (s0 : Int32) (σ : Sto) (h : b_X12_merges_117 a0 L52 Q p1 p2 p4 s0 σ) (ls : Array Slot) (hl : lv_has ls 7 [(0, .ref a0), (1, .int p1), (2, .int p2), (4, .int p4)]) : Xw p l e rm_X12_merges s m args below meth c D cy A σ 0 0 (MQ below (Qst D cy A (PsV Q)) args s rm_X12_merges.cells rm_X12_merges.slots A) (F0 m 117 ls [.int s0]) := by
  unfold b_X12_merges_117 at h
  refine x_istore_n (i := 3) (lv' := [(3, .int s0), (0, .ref a0), (1, .int p1), (2, .int p2), (4, .int p4)]) C dX12_merges_117 rfl hl (by decide) (by first | rfl | simp [vrc, cat_i, cat_r, cat_l]) (fun ls hl => ?_)
  exact t_X12_merges_118 C hr hnm hL52 p1 p2 s0 p4 _ h ls (lv_sub hl [1, 2, 3, 0, 4] rfl)
def b_X12_merges_105 (a0 : Nat) (L52 : Int32 × Int32 × Int32 × Int32 → Sto → Prop) (Q : Sto → Prop) (p1 : Int32) (p3 : Int32) (p4 : Int32) (p5 : Int32) (s0 : Int32) (σ : Sto) : Prop := ((¬ p3 = (-1 : Int32) → b_X12_merges_117 a0 L52 Q p1 s0 p4 p3 σ) ∧ (p3 = (-1 : Int32) → b_X12_merges_117 a0 L52 Q p1 s0 p4 p5 σ))
set_option maxHeartbeats 4000000 in
set_option maxRecDepth 100000 in
theorem t_X12_merges_105 {p : Program} {l : Launch} {e : Env} {s : State} {m : MethodId} {args : Array Value} {below : List Frame} {meth : Method} {c : Code} {D : va_G} {cy : Nat → ClassId} {A : Nat → Prop} {a0 : Nat} {L52 : Int32 × Int32 × Int32 × Int32 → Sto → Prop} {Q : Sto → Prop} (C : Cx p s m args meth c D cy A cX12_merges 7 RX12) (hr : meth.sig.returnType = none) (hnm : meth.name = yX12_merges.name) (hL52 : ∀ (t : Int32 × Int32 × Int32 × Int32) (σ : Sto), L52 t σ → ∀ ls : Array Slot, lv_has ls 7 [(0, .ref a0), (1, .int t.1), (2, .int t.2.1), (3, .int t.2.2.1), (4, .int t.2.2.2)] → Xw p l e rm_X12_merges s m args below meth c D cy A σ 0 0 (MQ below (Qst D cy A (PsV Q)) args s rm_X12_merges.cells rm_X12_merges.slots A) (F0 m 52 ls [])) (p1 : Int32) (p3 : Int32) (p4 : Int32) (p5 : Int32) (s0 : Int32) (σ : Sto) (h : b_X12_merges_105 a0 L52 Q p1 p3 p4 p5 s0 σ) (ls : Array Slot) (hl : lv_has ls 7 [(0, .ref a0), (1, .int p1), (3, .int p3), (4, .int p4), (5, .int p5)]) : Xw p l e rm_X12_merges s m args below meth c D cy A σ 0 0 (MQ below (Qst D cy A (PsV Q)) args s rm_X12_merges.cells rm_X12_merges.slots A) (F0 m 105 ls [.int s0]) := by
  unfold b_X12_merges_105 at h
  refine x_istore_n (i := 2) (lv' := [(2, .int s0), (0, .ref a0), (1, .int p1), (3, .int p3), (4, .int p4), (5, .int p5)]) C dX12_merges_105 rfl hl (by decide) (by first | rfl | simp [vrc, cat_i, cat_r, cat_l]) (fun ls hl => ?_)
  refine x_iload_n C dX12_merges_106 rfl (lv_at hl 3 rfl) ?_
  refine x_iconst (v := -1) C dX12_merges_107 (by decide) ?_
  refine x_icmp_ne (tgt := 116) C dX12_merges_108 (by decide) (fun c1 => ?_) (fun c1 => ?_)
  · have h := h.1 c1
    refine x_iload_n C dX12_merges_116 rfl (lv_at hl 3 rfl) ?_
    exact t_X12_merges_117 C hr hnm hL52 p1 s0 p4 p3 _ h ls (lv_sub hl [1, 2, 0, 4] rfl)
  · have h := h.2 c1
    refine x_iload C dX12_merges_111 (lv_at hl 5 rfl) ?_
    refine x_goto (tgt := 117) C dX12_merges_113 (by decide) ?_
    exact t_X12_merges_117 C hr hnm hL52 p1 s0 p4 p5 _ h ls (lv_sub hl [1, 2, 0, 4] rfl)
def f_X12_merges_52 (a0 : Nat)  (Q : Sto → Prop) (L52 : Int32 × Int32 × Int32 × Int32 → Sto → Prop) (t : Int32 × Int32 × Int32 × Int32) (σ : Sto) : Prop := (sK σ a0 = 12 ∧ (∀ x2 : Int32, x2 = sI σ a0 1 → ((x2 ≤ t.2.2.2 → LF (f_X12_merges_127 a0  Q) (t.1, t.2.1, t.2.2.1, (0 : Int32)) σ) ∧ (¬ x2 ≤ t.2.2.2 → (wp_X12_inTurn t.1 t.2.2.2 σ (fun (x6 : Int32) (σ5 : Sto) => (sK σ5 a0 = 12 ∧ (wp_X12_isLookedAt a0 t.1 x6 σ5 (fun (x9 : Int32) (σ8 : Sto) => ((x9 = 0 → b_X12_merges_118 a0 L52 Q t.1 t.2.1 t.2.2.1 t.2.2.2 σ8) ∧ (¬ x9 = 0 → (sK σ8 a0 = 12 ∧ (∀ x12 : Int32, x12 = ((7 : Int32) * t.1) + x6 → (∃ b14 : Nat, sP σ8 a0 50 = some b14 ∧ (sK σ8 b14 = 14 ∧ (vp_in x12 (sN σ8 b14) ∧ (∀ x18 : Int32, x18 = sI σ8 b14 x12.toNatClampNeg → ((x18 ≤ t.2.1 → b_X12_merges_105 a0 L52 Q t.1 t.2.2.1 t.2.2.2 x6 t.2.1 σ8) ∧ (¬ x18 ≤ t.2.1 → b_X12_merges_105 a0 L52 Q t.1 t.2.2.1 t.2.2.2 x6 x18 σ8)))))))))))))))))))
set_option maxHeartbeats 4000000 in
set_option maxRecDepth 100000 in
theorem t_X12_merges_52 {p : Program} {l : Launch} {e : Env} {s : State} {m : MethodId} {args : Array Value} {below : List Frame} {meth : Method} {c : Code} {D : va_G} {cy : Nat → ClassId} {A : Nat → Prop} {a0 : Nat} {Q : Sto → Prop} {L52 : Int32 × Int32 × Int32 × Int32 → Sto → Prop} (C : Cx p s m args meth c D cy A cX12_merges 7 RX12) (hr : meth.sig.returnType = none) (hnm : meth.name = yX12_merges.name) (hL52 : ∀ (t : Int32 × Int32 × Int32 × Int32) (σ : Sto), L52 t σ → ∀ ls : Array Slot, lv_has ls 7 [(0, .ref a0), (1, .int t.1), (2, .int t.2.1), (3, .int t.2.2.1), (4, .int t.2.2.2)] → Xw p l e rm_X12_merges s m args below meth c D cy A σ 0 0 (MQ below (Qst D cy A (PsV Q)) args s rm_X12_merges.cells rm_X12_merges.slots A) (F0 m 52 ls [])) : ∀ (t : Int32 × Int32 × Int32 × Int32) (σ : Sto), f_X12_merges_52 a0  Q L52 t σ → ∀ ls : Array Slot, lv_has ls 7 [(0, .ref a0), (1, .int t.1), (2, .int t.2.1), (3, .int t.2.2.1), (4, .int t.2.2.2)] → Xw p l e rm_X12_merges s m args below meth c D cy A σ 0 0 (MQ below (Qst D cy A (PsV Q)) args s rm_X12_merges.cells rm_X12_merges.slots A) (F0 m 52 ls []) := by
  intro t σ h ls hl
  unfold f_X12_merges_52 at h
  refine x_iload C dX12_merges_52 (lv_at hl 4 rfl) ?_
  refine x_aload_n C dX12_merges_54 rfl (lv_at hl 0 rfl) ?_
  obtain ⟨g1, h⟩ := h
  refine x_getI C fl_RX12_258 g1 dX12_merges_55 ?_
  refine x_topi (fun x2 e3 => ?_)
  have h := h x2 e3
  refine x_icmp_ge (tgt := 124) C dX12_merges_58 (by decide) (fun c4 => ?_) (fun c4 => ?_)
  · have h := h.1 c4
    refine x_iconst (v := 0) C dX12_merges_124 (by decide) ?_
    refine x_istore (i := 4) (lv' := [(4, .int (0 : Int32)), (0, .ref a0), (1, .int t.1), (2, .int t.2.1), (3, .int t.2.2.1)]) C dX12_merges_125 hl (by decide) (by first | rfl | simp [vrc, cat_i, cat_r, cat_l]) (fun ls hl => ?_)
    exact h (fun t σ => ∀ ls : Array Slot, lv_has ls 7 [(0, .ref a0), (1, .int t.1), (2, .int t.2.1), (3, .int t.2.2.1), (4, .int t.2.2.2)] → Xw p l e rm_X12_merges s m args below meth c D cy A σ 0 0 (MQ below (Qst D cy A (PsV Q)) args s rm_X12_merges.cells rm_X12_merges.slots A) (F0 m 127 ls [])) (t_X12_merges_127 C hr hnm  (fun t σ h => h)) ls (lv_sub hl [1, 2, 3, 4, 0] rfl)
  · have h := h.2 c4
    refine x_iload_n C dX12_merges_61 rfl (lv_at hl 1 rfl) ?_
    refine x_iload C dX12_merges_62 (lv_at hl 4 rfl) ?_
    refine x_callS (rm := rm_X12_inTurn) (rest := []) (As := [.int t.1, .int t.2.2.2]) C cs_RX12_374 (by decide) (by decide) rfl rfl (Nat.le_of_ble_eq_true rfl) hl.1 dX12_merges_64 (c_X12_inTurn l D cy t.1 t.2.2.2 σ _ h) (ks_i (fun x6 σ5 h => ?_))
    refine x_istore (i := 5) (lv' := [(5, .int x6), (0, .ref a0), (1, .int t.1), (2, .int t.2.1), (3, .int t.2.2.1), (4, .int t.2.2.2)]) C dX12_merges_67 hl (by decide) (by first | rfl | simp [vrc, cat_i, cat_r, cat_l]) (fun ls hl => ?_)
    refine x_aload_n C dX12_merges_69 rfl (lv_at hl 1 rfl) ?_
    refine x_iload_n C dX12_merges_70 rfl (lv_at hl 2 rfl) ?_
    refine x_iload C dX12_merges_71 (lv_at hl 0 rfl) ?_
    obtain ⟨g7, h⟩ := h
    refine x_callV (rm := rm_X12_isLookedAt) (rest := []) (As := [.int t.1, .int x6]) C cy_RX12_377 g7 (by decide) (by decide) rfl rfl (Nat.le_of_ble_eq_true rfl) hl.1 dX12_merges_73 (c_X12_isLookedAt l D cy a0 t.1 x6 σ5 _ h) (ks_i (fun x9 σ8 h => ?_))
    refine x_if_eq (tgt := 118) C dX12_merges_76 (by decide) (fun c10 => ?_) (fun c10 => ?_)
    · have h := h.1 c10
      exact t_X12_merges_118 C hr hnm hL52 t.1 t.2.1 t.2.2.1 t.2.2.2 _ h ls (lv_sub hl [1, 2, 3, 4, 5] rfl)
    · have h := h.2 c10
      refine x_aload_n C dX12_merges_79 rfl (lv_at hl 1 rfl) ?_
      obtain ⟨g11, h⟩ := h
      refine x_getP C fl_RX12_131 g11 dX12_merges_80 ?_
      refine x_bipush (v := 7) C dX12_merges_83 (by decide) ?_
      refine x_iload_n C dX12_merges_85 rfl (lv_at hl 2 rfl) ?_
      refine x_imul C dX12_merges_86 ?_
      refine x_iload C dX12_merges_87 (lv_at hl 0 rfl) ?_
      refine x_iadd C dX12_merges_89 ?_
      refine x_topi (fun x12 e13 => ?_)
      have h := h x12 e13
      obtain ⟨b14, g15, h⟩ := h
      refine x_nn1 g15 ?_
      obtain ⟨g16, h⟩ := h
      obtain ⟨g17, h⟩ := h
      refine x_iald C g16 g17 dX12_merges_90 ?_
      refine x_topi (fun x18 e19 => ?_)
      have h := h x18 e19
      refine x_istore (i := 6) (lv' := [(6, .int x18), (5, .int x6), (0, .ref a0), (1, .int t.1), (2, .int t.2.1), (3, .int t.2.2.1), (4, .int t.2.2.2)]) C dX12_merges_91 hl (by decide) (by first | rfl | simp [vrc, cat_i, cat_r, cat_l]) (fun ls hl => ?_)
      refine x_iload C dX12_merges_93 (lv_at hl 0 rfl) ?_
      refine x_iload_n C dX12_merges_95 rfl (lv_at hl 4 rfl) ?_
      refine x_icmp_le (tgt := 104) C dX12_merges_96 (by decide) (fun c20 => ?_) (fun c20 => ?_)
      · have h := h.1 c20
        refine x_iload_n C dX12_merges_104 rfl (lv_at hl 4 rfl) ?_
        exact t_X12_merges_105 C hr hnm hL52 t.1 t.2.2.1 t.2.2.2 x6 t.2.1 _ h ls (lv_sub hl [2, 3, 5, 6, 1] rfl)
      · have h := h.2 c20
        refine x_iload C dX12_merges_99 (lv_at hl 0 rfl) ?_
        refine x_goto (tgt := 105) C dX12_merges_101 (by decide) ?_
        exact t_X12_merges_105 C hr hnm hL52 t.1 t.2.2.1 t.2.2.2 x6 x18 _ h ls (lv_sub hl [2, 3, 5, 6, 1] rfl)
def wp_X12_merges (a0 : Nat) (p1 : Int32) (σ : Sto) (Q : Sto → Prop) : Prop := (sK σ a0 = 12 ∧ (wp_X12_leads a0 p1 σ (fun (x3 : Int32) (σ2 : Sto) => ((x3 = 0 → Q σ2) ∧ (¬ x3 = 0 → (sK σ2 a0 = 12 ∧ (∃ b6 : Nat, sP σ2 a0 23 = some b6 ∧ (sK σ2 b6 = 14 ∧ (vp_in p1 (sN σ2 b6) ∧ (∀ x10 : Int32, x10 = sI σ2 b6 p1.toNatClampNeg → ((¬ x10 = (2 : Int32) → Q σ2) ∧ (x10 = (2 : Int32) → (∃ b13 : Nat, sP σ2 a0 46 = some b13 ∧ (sK σ2 b13 = 14 ∧ (vp_in p1 (sN σ2 b13) ∧ (∀ x17 : Int32, x17 = sI σ2 b13 p1.toNatClampNeg → (wp_X12_bits x17 σ2 (fun (x20 : Int32) (σ19 : Sto) => (sK σ19 a0 = 12 ∧ (∀ x22 : Int32, x22 = sI σ19 a0 2 → ((x22 ≤ x20 → (wp_X12_keepOwn a0 p1 σ19 (fun (σ25 : Sto) => (sK σ25 a0 = 12 ∧ (wp_X12_findBest a0 p1 σ25 (fun (σ27 : Sto) => LF (f_X12_merges_52 a0  Q) (p1, (0 : Int32), (-1 : Int32), (0 : Int32)) σ27)))))) ∧ (¬ x22 ≤ x20 → Q σ19))))))))))))))))))))))
set_option maxHeartbeats 4000000 in
set_option maxRecDepth 100000 in
theorem c_X12_merges (l : Launch) (D : va_G) (cy : Nat → ClassId) (a0 : Nat) (p1 : Int32) (σ : Sto) (Q : Sto → Prop) (h : wp_X12_merges a0 p1 σ Q) : Mt l D cy yX12_merges cX12_merges 7 none rm_X12_merges [.ref a0, .int p1] σ (PsV Q) := by
  unfold wp_X12_merges at h
  refine mt_of (by decide +kernel) (Nat.le_of_ble_eq_true rfl) ?_
  intro p e s m args below meth c A ls C hr hnm hl
  have C : Cx p s m args meth c D cy A cX12_merges 7 RX12 := C
  have hl : lv_has ls 7 [(0, .ref a0), (1, .int p1)] := hl
  refine x_aload_n C dX12_merges_0 rfl (lv_at hl 0 rfl) ?_
  refine x_iload_n C dX12_merges_1 rfl (lv_at hl 1 rfl) ?_
  obtain ⟨g1, h⟩ := h
  refine x_callV (rm := rm_X12_leads) (rest := []) (As := [.int p1]) C cy_RX12_327 g1 (by decide) (by decide) rfl rfl (Nat.le_of_ble_eq_true rfl) hl.1 dX12_merges_2 (c_X12_leads l D cy a0 p1 σ _ h) (ks_i (fun x3 σ2 h => ?_))
  refine x_if_eq (tgt := 34) C dX12_merges_5 (by decide) (fun c4 => ?_) (fun c4 => ?_)
  · have h := h.1 c4
    exact x_vret C hr dX12_merges_34 ⟨rfl, h⟩
  · have h := h.2 c4
    refine x_aload_n C dX12_merges_8 rfl (lv_at hl 0 rfl) ?_
    obtain ⟨g5, h⟩ := h
    refine x_getP C fl_RX12_50 g5 dX12_merges_9 ?_
    refine x_iload_n C dX12_merges_12 rfl (lv_at hl 1 rfl) ?_
    obtain ⟨b6, g7, h⟩ := h
    refine x_nn1 g7 ?_
    obtain ⟨g8, h⟩ := h
    obtain ⟨g9, h⟩ := h
    refine x_iald C g8 g9 dX12_merges_13 ?_
    refine x_topi (fun x10 e11 => ?_)
    have h := h x10 e11
    refine x_iconst (v := 2) C dX12_merges_14 (by decide) ?_
    refine x_icmp_ne (tgt := 34) C dX12_merges_15 (by decide) (fun c12 => ?_) (fun c12 => ?_)
    · have h := h.1 c12
      exact x_vret C hr dX12_merges_34 ⟨rfl, h⟩
    · have h := h.2 c12
      refine x_aload_n C dX12_merges_18 rfl (lv_at hl 0 rfl) ?_
      refine x_getP C fl_RX12_119 g5 dX12_merges_19 ?_
      refine x_iload_n C dX12_merges_22 rfl (lv_at hl 1 rfl) ?_
      obtain ⟨b13, g14, h⟩ := h
      refine x_nn1 g14 ?_
      obtain ⟨g15, h⟩ := h
      obtain ⟨g16, h⟩ := h
      refine x_iald C g15 g16 dX12_merges_23 ?_
      refine x_topi (fun x17 e18 => ?_)
      have h := h x17 e18
      refine x_callS (rm := rm_X12_bits) (rest := []) (As := [.int x17]) C cs_RX12_381 (by decide) (by decide) rfl rfl (Nat.le_of_ble_eq_true rfl) hl.1 dX12_merges_24 (c_X12_bits l D cy x17 σ2 _ h) (ks_i (fun x20 σ19 h => ?_))
      refine x_aload_n C dX12_merges_27 rfl (lv_at hl 0 rfl) ?_
      obtain ⟨g21, h⟩ := h
      refine x_getI C fl_RX12_261 g21 dX12_merges_28 ?_
      refine x_topi (fun x22 e23 => ?_)
      have h := h x22 e23
      refine x_icmp_ge (tgt := 35) C dX12_merges_31 (by decide) (fun c24 => ?_) (fun c24 => ?_)
      · have h := h.1 c24
        refine x_aload_n C dX12_merges_35 rfl (lv_at hl 0 rfl) ?_
        refine x_iload_n C dX12_merges_36 rfl (lv_at hl 1 rfl) ?_
        refine x_callV (rm := rm_X12_keepOwn) (rest := []) (As := [.int p1]) C cy_RX12_384 g21 (by decide) (by decide) rfl rfl (Nat.le_of_ble_eq_true rfl) hl.1 dX12_merges_37 (c_X12_keepOwn l D cy a0 p1 σ19 _ h) (ks_v (fun σ25 h => ?_))
        refine x_aload_n C dX12_merges_40 rfl (lv_at hl 0 rfl) ?_
        refine x_iload_n C dX12_merges_41 rfl (lv_at hl 1 rfl) ?_
        obtain ⟨g26, h⟩ := h
        refine x_callV (rm := rm_X12_findBest) (rest := []) (As := [.int p1]) C cy_RX12_387 g26 (by decide) (by decide) rfl rfl (Nat.le_of_ble_eq_true rfl) hl.1 dX12_merges_42 (c_X12_findBest l D cy a0 p1 σ25 _ h) (ks_v (fun σ27 h => ?_))
        refine x_iconst (v := 0) C dX12_merges_45 (by decide) ?_
        refine x_istore_n (i := 2) (lv' := [(2, .int (0 : Int32)), (0, .ref a0), (1, .int p1)]) C dX12_merges_46 rfl hl (by decide) (by first | rfl | simp [vrc, cat_i, cat_r, cat_l]) (fun ls hl => ?_)
        refine x_iconst (v := -1) C dX12_merges_47 (by decide) ?_
        refine x_istore_n (i := 3) (lv' := [(3, .int (-1 : Int32)), (2, .int (0 : Int32)), (0, .ref a0), (1, .int p1)]) C dX12_merges_48 rfl hl (by decide) (by first | rfl | simp [vrc, cat_i, cat_r, cat_l]) (fun ls hl => ?_)
        refine x_iconst (v := 0) C dX12_merges_49 (by decide) ?_
        refine x_istore (i := 4) (lv' := [(4, .int (0 : Int32)), (3, .int (-1 : Int32)), (2, .int (0 : Int32)), (0, .ref a0), (1, .int p1)]) C dX12_merges_50 hl (by decide) (by first | rfl | simp [vrc, cat_i, cat_r, cat_l]) (fun ls hl => ?_)
        exact h (fun t σ => ∀ ls : Array Slot, lv_has ls 7 [(0, .ref a0), (1, .int t.1), (2, .int t.2.1), (3, .int t.2.2.1), (4, .int t.2.2.2)] → Xw p l e rm_X12_merges s m args below meth c D cy A σ 0 0 (MQ below (Qst D cy A (PsV Q)) args s rm_X12_merges.cells rm_X12_merges.slots A) (F0 m 52 ls [])) (t_X12_merges_52 C hr hnm  (fun t σ h => h)) ls (lv_sub hl [3, 4, 2, 1, 0] rfl)
      · have h := h.2 c24
        exact x_vret C hr dX12_merges_34 ⟨rfl, h⟩
theorem dX12_getsTurned_0 : decode cX12_getsTurned 0 = .ok (.aload_n 0, 1) := by decide +kernel
theorem dX12_getsTurned_1 : decode cX12_getsTurned 1 = .ok (.getfield 30, 3) := by decide +kernel
theorem dX12_getsTurned_4 : decode cX12_getsTurned 4 = .ok (.iconst 1, 1) := by decide +kernel
theorem dX12_getsTurned_5 : decode cX12_getsTurned 5 = .ok (.iaload, 1) := by decide +kernel
theorem dX12_getsTurned_6 : decode cX12_getsTurned 6 = .ok (.istore_n 2, 1) := by decide +kernel
theorem dX12_getsTurned_7 : decode cX12_getsTurned 7 = .ok (.aload_n 0, 1) := by decide +kernel
theorem dX12_getsTurned_8 : decode cX12_getsTurned 8 = .ok (.iload_n 1, 1) := by decide +kernel
theorem dX12_getsTurned_9 : decode cX12_getsTurned 9 = .ok (.aload_n 0, 1) := by decide +kernel
theorem dX12_getsTurned_10 : decode cX12_getsTurned 10 = .ok (.getfield 30, 3) := by decide +kernel
theorem dX12_getsTurned_13 : decode cX12_getsTurned 13 = .ok (.iconst 3, 1) := by decide +kernel
theorem dX12_getsTurned_14 : decode cX12_getsTurned 14 = .ok (.iaload, 1) := by decide +kernel
theorem dX12_getsTurned_15 : decode cX12_getsTurned 15 = .ok (.aload_n 0, 1) := by decide +kernel
theorem dX12_getsTurned_16 : decode cX12_getsTurned 16 = .ok (.getfield 30, 3) := by decide +kernel
theorem dX12_getsTurned_19 : decode cX12_getsTurned 19 = .ok (.iconst 4, 1) := by decide +kernel
theorem dX12_getsTurned_20 : decode cX12_getsTurned 20 = .ok (.iaload, 1) := by decide +kernel
theorem dX12_getsTurned_21 : decode cX12_getsTurned 21 = .ok (.invokevirtual 402, 3) := by decide +kernel
theorem dX12_getsTurned_24 : decode cX12_getsTurned 24 = .ok (.aload_n 0, 1) := by decide +kernel
theorem dX12_getsTurned_25 : decode cX12_getsTurned 25 = .ok (.getfield 30, 3) := by decide +kernel
theorem dX12_getsTurned_28 : decode cX12_getsTurned 28 = .ok (.iconst 3, 1) := by decide +kernel
theorem dX12_getsTurned_29 : decode cX12_getsTurned 29 = .ok (.iaload, 1) := by decide +kernel
theorem dX12_getsTurned_30 : decode cX12_getsTurned 30 = .ok (.aload_n 0, 1) := by decide +kernel
theorem dX12_getsTurned_31 : decode cX12_getsTurned 31 = .ok (.getfield 44, 3) := by decide +kernel
theorem dX12_getsTurned_34 : decode cX12_getsTurned 34 = .ok (.iload_n 1, 1) := by decide +kernel
theorem dX12_getsTurned_35 : decode cX12_getsTurned 35 = .ok (.iaload, 1) := by decide +kernel
theorem dX12_getsTurned_36 : decode cX12_getsTurned 36 = .ok (.if_icmp .ne 26, 3) := by decide +kernel
theorem dX12_getsTurned_39 : decode cX12_getsTurned 39 = .ok (.aload_n 0, 1) := by decide +kernel
theorem dX12_getsTurned_40 : decode cX12_getsTurned 40 = .ok (.getfield 30, 3) := by decide +kernel
theorem dX12_getsTurned_43 : decode cX12_getsTurned 43 = .ok (.iconst 4, 1) := by decide +kernel
theorem dX12_getsTurned_44 : decode cX12_getsTurned 44 = .ok (.iaload, 1) := by decide +kernel
theorem dX12_getsTurned_45 : decode cX12_getsTurned 45 = .ok (.aload_n 0, 1) := by decide +kernel
theorem dX12_getsTurned_46 : decode cX12_getsTurned 46 = .ok (.getfield 47, 3) := by decide +kernel
theorem dX12_getsTurned_49 : decode cX12_getsTurned 49 = .ok (.iload_n 1, 1) := by decide +kernel
theorem dX12_getsTurned_50 : decode cX12_getsTurned 50 = .ok (.iaload, 1) := by decide +kernel
theorem dX12_getsTurned_51 : decode cX12_getsTurned 51 = .ok (.if_icmp .ne 11, 3) := by decide +kernel
theorem dX12_getsTurned_54 : decode cX12_getsTurned 54 = .ok (.aload_n 0, 1) := by decide +kernel
theorem dX12_getsTurned_55 : decode cX12_getsTurned 55 = .ok (.iload_n 1, 1) := by decide +kernel
theorem dX12_getsTurned_56 : decode cX12_getsTurned 56 = .ok (.invokevirtual 327, 3) := by decide +kernel
theorem dX12_getsTurned_59 : decode cX12_getsTurned 59 = .ok (.ifCond .ne 4, 3) := by decide +kernel
theorem dX12_getsTurned_62 : decode cX12_getsTurned 62 = .ok (.return_, 1) := by decide +kernel
theorem dX12_getsTurned_63 : decode cX12_getsTurned 63 = .ok (.aload_n 0, 1) := by decide +kernel
theorem dX12_getsTurned_64 : decode cX12_getsTurned 64 = .ok (.getfield 50, 3) := by decide +kernel
theorem dX12_getsTurned_67 : decode cX12_getsTurned 67 = .ok (.iload_n 1, 1) := by decide +kernel
theorem dX12_getsTurned_68 : decode cX12_getsTurned 68 = .ok (.iaload, 1) := by decide +kernel
theorem dX12_getsTurned_69 : decode cX12_getsTurned 69 = .ok (.iconst 2, 1) := by decide +kernel
theorem dX12_getsTurned_70 : decode cX12_getsTurned 70 = .ok (.if_icmp .ne 17, 3) := by decide +kernel
theorem dX12_getsTurned_73 : decode cX12_getsTurned 73 = .ok (.aload_n 0, 1) := by decide +kernel
theorem dX12_getsTurned_74 : decode cX12_getsTurned 74 = .ok (.iload_n 1, 1) := by decide +kernel
theorem dX12_getsTurned_75 : decode cX12_getsTurned 75 = .ok (.iload_n 2, 1) := by decide +kernel
theorem dX12_getsTurned_76 : decode cX12_getsTurned 76 = .ok (.invokevirtual 421, 3) := by decide +kernel
theorem dX12_getsTurned_79 : decode cX12_getsTurned 79 = .ok (.aload_n 0, 1) := by decide +kernel
theorem dX12_getsTurned_80 : decode cX12_getsTurned 80 = .ok (.iload_n 1, 1) := by decide +kernel
theorem dX12_getsTurned_81 : decode cX12_getsTurned 81 = .ok (.invokevirtual 424, 3) := by decide +kernel
theorem dX12_getsTurned_84 : decode cX12_getsTurned 84 = .ok (.goto 9, 3) := by decide +kernel
theorem dX12_getsTurned_87 : decode cX12_getsTurned 87 = .ok (.aload_n 0, 1) := by decide +kernel
theorem dX12_getsTurned_88 : decode cX12_getsTurned 88 = .ok (.iload_n 1, 1) := by decide +kernel
theorem dX12_getsTurned_89 : decode cX12_getsTurned 89 = .ok (.iload_n 2, 1) := by decide +kernel
theorem dX12_getsTurned_90 : decode cX12_getsTurned 90 = .ok (.invokevirtual 396, 3) := by decide +kernel
theorem dX12_getsTurned_93 : decode cX12_getsTurned 93 = .ok (.return_, 1) := by decide +kernel
abbrev rm_X12_getsTurned : Room := { frames := 6, cells := 0, slots := 0, locals := 137 }
def wp_X12_getsTurned (a0 : Nat) (p1 : Int32) (σ : Sto) (Q : Sto → Prop) : Prop := (sK σ a0 = 12 ∧ (∃ b2 : Nat, sP σ a0 15 = some b2 ∧ (sK σ b2 = 14 ∧ (vp_in (1 : Int32) (sN σ b2) ∧ (∀ x6 : Int32, x6 = sI σ b2 (1 : Int32).toNatClampNeg → (vp_in (3 : Int32) (sN σ b2) ∧ (∀ x9 : Int32, x9 = sI σ b2 (3 : Int32).toNatClampNeg → (vp_in (4 : Int32) (sN σ b2) ∧ (∀ x12 : Int32, x12 = sI σ b2 (4 : Int32).toNatClampNeg → (wp_X12_joins a0 p1 x9 x12 σ (fun (σ14 : Sto) => (sK σ14 a0 = 12 ∧ (∃ b16 : Nat, sP σ14 a0 15 = some b16 ∧ (sK σ14 b16 = 14 ∧ (vp_in (3 : Int32) (sN σ14 b16) ∧ (∀ x20 : Int32, x20 = sI σ14 b16 (3 : Int32).toNatClampNeg → (∃ b22 : Nat, sP σ14 a0 21 = some b22 ∧ (sK σ14 b22 = 14 ∧ (vp_in p1 (sN σ14 b22) ∧ (∀ x26 : Int32, x26 = sI σ14 b22 p1.toNatClampNeg → ((¬ x20 = x26 → Q σ14) ∧ (x20 = x26 → (vp_in (4 : Int32) (sN σ14 b16) ∧ (∀ x30 : Int32, x30 = sI σ14 b16 (4 : Int32).toNatClampNeg → (∃ b32 : Nat, sP σ14 a0 22 = some b32 ∧ (sK σ14 b32 = 14 ∧ (vp_in p1 (sN σ14 b32) ∧ (∀ x36 : Int32, x36 = sI σ14 b32 p1.toNatClampNeg → ((¬ x30 = x36 → Q σ14) ∧ (x30 = x36 → (wp_X12_leads a0 p1 σ14 (fun (x40 : Int32) (σ39 : Sto) => ((¬ x40 = 0 → (sK σ39 a0 = 12 ∧ (∃ b43 : Nat, sP σ39 a0 23 = some b43 ∧ (sK σ39 b43 = 14 ∧ (vp_in p1 (sN σ39 b43) ∧ (∀ x47 : Int32, x47 = sI σ39 b43 p1.toNatClampNeg → ((¬ x47 = (2 : Int32) → (wp_X12_sendStart a0 p1 x6 σ39 (fun (σ50 : Sto) => Q σ50))) ∧ (x47 = (2 : Int32) → (wp_X12_keepTurned a0 p1 x6 σ39 (fun (σ51 : Sto) => (sK σ51 a0 = 12 ∧ (wp_X12_merges a0 p1 σ51 (fun (σ53 : Sto) => Q σ53))))))))))))) ∧ (x40 = 0 → Q σ39))))))))))))))))))))))))))))))))))
set_option maxHeartbeats 4000000 in
set_option maxRecDepth 100000 in
theorem c_X12_getsTurned (l : Launch) (D : va_G) (cy : Nat → ClassId) (a0 : Nat) (p1 : Int32) (σ : Sto) (Q : Sto → Prop) (h : wp_X12_getsTurned a0 p1 σ Q) : Mt l D cy yX12_getsTurned cX12_getsTurned 3 none rm_X12_getsTurned [.ref a0, .int p1] σ (PsV Q) := by
  unfold wp_X12_getsTurned at h
  refine mt_of (by decide +kernel) (Nat.le_of_ble_eq_true rfl) ?_
  intro p e s m args below meth c A ls C hr hnm hl
  have C : Cx p s m args meth c D cy A cX12_getsTurned 3 RX12 := C
  have hl : lv_has ls 3 [(0, .ref a0), (1, .int p1)] := hl
  refine x_aload_n C dX12_getsTurned_0 rfl (lv_at hl 0 rfl) ?_
  obtain ⟨g1, h⟩ := h
  refine x_getP C fl_RX12_30 g1 dX12_getsTurned_1 ?_
  refine x_iconst (v := 1) C dX12_getsTurned_4 (by decide) ?_
  obtain ⟨b2, g3, h⟩ := h
  refine x_nn1 g3 ?_
  obtain ⟨g4, h⟩ := h
  obtain ⟨g5, h⟩ := h
  refine x_iald C g4 g5 dX12_getsTurned_5 ?_
  refine x_topi (fun x6 e7 => ?_)
  have h := h x6 e7
  refine x_istore_n (i := 2) (lv' := [(2, .int x6), (0, .ref a0), (1, .int p1)]) C dX12_getsTurned_6 rfl hl (by decide) (by first | rfl | simp [vrc, cat_i, cat_r, cat_l]) (fun ls hl => ?_)
  refine x_aload_n C dX12_getsTurned_7 rfl (lv_at hl 1 rfl) ?_
  refine x_iload_n C dX12_getsTurned_8 rfl (lv_at hl 2 rfl) ?_
  refine x_aload_n C dX12_getsTurned_9 rfl (lv_at hl 1 rfl) ?_
  refine x_getP C fl_RX12_30 g1 dX12_getsTurned_10 ?_
  refine x_iconst (v := 3) C dX12_getsTurned_13 (by decide) ?_
  refine x_nn1 g3 ?_
  obtain ⟨g8, h⟩ := h
  refine x_iald C g4 g8 dX12_getsTurned_14 ?_
  refine x_topi (fun x9 e10 => ?_)
  have h := h x9 e10
  refine x_aload_n C dX12_getsTurned_15 rfl (lv_at hl 1 rfl) ?_
  refine x_getP C fl_RX12_30 g1 dX12_getsTurned_16 ?_
  refine x_iconst (v := 4) C dX12_getsTurned_19 (by decide) ?_
  refine x_nn1 g3 ?_
  obtain ⟨g11, h⟩ := h
  refine x_iald C g4 g11 dX12_getsTurned_20 ?_
  refine x_topi (fun x12 e13 => ?_)
  have h := h x12 e13
  refine x_callV (rm := rm_X12_joins) (rest := []) (As := [.int p1, .int x9, .int x12]) C cy_RX12_402 g1 (by decide) (by decide) rfl rfl (Nat.le_of_ble_eq_true rfl) hl.1 dX12_getsTurned_21 (c_X12_joins l D cy a0 p1 x9 x12 σ _ h) (ks_v (fun σ14 h => ?_))
  refine x_aload_n C dX12_getsTurned_24 rfl (lv_at hl 1 rfl) ?_
  obtain ⟨g15, h⟩ := h
  refine x_getP C fl_RX12_30 g15 dX12_getsTurned_25 ?_
  refine x_iconst (v := 3) C dX12_getsTurned_28 (by decide) ?_
  obtain ⟨b16, g17, h⟩ := h
  refine x_nn1 g17 ?_
  obtain ⟨g18, h⟩ := h
  obtain ⟨g19, h⟩ := h
  refine x_iald C g18 g19 dX12_getsTurned_29 ?_
  refine x_topi (fun x20 e21 => ?_)
  have h := h x20 e21
  refine x_aload_n C dX12_getsTurned_30 rfl (lv_at hl 1 rfl) ?_
  refine x_getP C fl_RX12_44 g15 dX12_getsTurned_31 ?_
  refine x_iload_n C dX12_getsTurned_34 rfl (lv_at hl 2 rfl) ?_
  obtain ⟨b22, g23, h⟩ := h
  refine x_nn1 g23 ?_
  obtain ⟨g24, h⟩ := h
  obtain ⟨g25, h⟩ := h
  refine x_iald C g24 g25 dX12_getsTurned_35 ?_
  refine x_topi (fun x26 e27 => ?_)
  have h := h x26 e27
  refine x_icmp_ne (tgt := 62) C dX12_getsTurned_36 (by decide) (fun c28 => ?_) (fun c28 => ?_)
  · have h := h.1 c28
    exact x_vret C hr dX12_getsTurned_62 ⟨rfl, h⟩
  · have h := h.2 c28
    refine x_aload_n C dX12_getsTurned_39 rfl (lv_at hl 1 rfl) ?_
    refine x_getP C fl_RX12_30 g15 dX12_getsTurned_40 ?_
    refine x_iconst (v := 4) C dX12_getsTurned_43 (by decide) ?_
    refine x_nn1 g17 ?_
    obtain ⟨g29, h⟩ := h
    refine x_iald C g18 g29 dX12_getsTurned_44 ?_
    refine x_topi (fun x30 e31 => ?_)
    have h := h x30 e31
    refine x_aload_n C dX12_getsTurned_45 rfl (lv_at hl 1 rfl) ?_
    refine x_getP C fl_RX12_47 g15 dX12_getsTurned_46 ?_
    refine x_iload_n C dX12_getsTurned_49 rfl (lv_at hl 2 rfl) ?_
    obtain ⟨b32, g33, h⟩ := h
    refine x_nn1 g33 ?_
    obtain ⟨g34, h⟩ := h
    obtain ⟨g35, h⟩ := h
    refine x_iald C g34 g35 dX12_getsTurned_50 ?_
    refine x_topi (fun x36 e37 => ?_)
    have h := h x36 e37
    refine x_icmp_ne (tgt := 62) C dX12_getsTurned_51 (by decide) (fun c38 => ?_) (fun c38 => ?_)
    · have h := h.1 c38
      exact x_vret C hr dX12_getsTurned_62 ⟨rfl, h⟩
    · have h := h.2 c38
      refine x_aload_n C dX12_getsTurned_54 rfl (lv_at hl 1 rfl) ?_
      refine x_iload_n C dX12_getsTurned_55 rfl (lv_at hl 2 rfl) ?_
      refine x_callV (rm := rm_X12_leads) (rest := []) (As := [.int p1]) C cy_RX12_327 g15 (by decide) (by decide) rfl rfl (Nat.le_of_ble_eq_true rfl) hl.1 dX12_getsTurned_56 (c_X12_leads l D cy a0 p1 σ14 _ h) (ks_i (fun x40 σ39 h => ?_))
      refine x_if_ne (tgt := 63) C dX12_getsTurned_59 (by decide) (fun c41 => ?_) (fun c41 => ?_)
      · have h := h.1 c41
        refine x_aload_n C dX12_getsTurned_63 rfl (lv_at hl 1 rfl) ?_
        obtain ⟨g42, h⟩ := h
        refine x_getP C fl_RX12_50 g42 dX12_getsTurned_64 ?_
        refine x_iload_n C dX12_getsTurned_67 rfl (lv_at hl 2 rfl) ?_
        obtain ⟨b43, g44, h⟩ := h
        refine x_nn1 g44 ?_
        obtain ⟨g45, h⟩ := h
        obtain ⟨g46, h⟩ := h
        refine x_iald C g45 g46 dX12_getsTurned_68 ?_
        refine x_topi (fun x47 e48 => ?_)
        have h := h x47 e48
        refine x_iconst (v := 2) C dX12_getsTurned_69 (by decide) ?_
        refine x_icmp_ne (tgt := 87) C dX12_getsTurned_70 (by decide) (fun c49 => ?_) (fun c49 => ?_)
        · have h := h.1 c49
          refine x_aload_n C dX12_getsTurned_87 rfl (lv_at hl 1 rfl) ?_
          refine x_iload_n C dX12_getsTurned_88 rfl (lv_at hl 2 rfl) ?_
          refine x_iload_n C dX12_getsTurned_89 rfl (lv_at hl 0 rfl) ?_
          refine x_callV (rm := rm_X12_sendStart) (rest := []) (As := [.int p1, .int x6]) C cy_RX12_396 g42 (by decide) (by decide) rfl rfl (Nat.le_of_ble_eq_true rfl) hl.1 dX12_getsTurned_90 (c_X12_sendStart l D cy a0 p1 x6 σ39 _ h) (ks_v (fun σ50 h => ?_))
          exact x_vret C hr dX12_getsTurned_93 ⟨rfl, h⟩
        · have h := h.2 c49
          refine x_aload_n C dX12_getsTurned_73 rfl (lv_at hl 1 rfl) ?_
          refine x_iload_n C dX12_getsTurned_74 rfl (lv_at hl 2 rfl) ?_
          refine x_iload_n C dX12_getsTurned_75 rfl (lv_at hl 0 rfl) ?_
          refine x_callV (rm := rm_X12_keepTurned) (rest := []) (As := [.int p1, .int x6]) C cy_RX12_421 g42 (by decide) (by decide) rfl rfl (Nat.le_of_ble_eq_true rfl) hl.1 dX12_getsTurned_76 (c_X12_keepTurned l D cy a0 p1 x6 σ39 _ h) (ks_v (fun σ51 h => ?_))
          refine x_aload_n C dX12_getsTurned_79 rfl (lv_at hl 1 rfl) ?_
          refine x_iload_n C dX12_getsTurned_80 rfl (lv_at hl 2 rfl) ?_
          obtain ⟨g52, h⟩ := h
          refine x_callV (rm := rm_X12_merges) (rest := []) (As := [.int p1]) C cy_RX12_424 g52 (by decide) (by decide) rfl rfl (Nat.le_of_ble_eq_true rfl) hl.1 dX12_getsTurned_81 (c_X12_merges l D cy a0 p1 σ51 _ h) (ks_v (fun σ53 h => ?_))
          refine x_goto (tgt := 93) C dX12_getsTurned_84 (by decide) ?_
          exact x_vret C hr dX12_getsTurned_93 ⟨rfl, h⟩
      · have h := h.2 c41
        exact x_vret C hr dX12_getsTurned_62 ⟨rfl, h⟩
theorem dX12_readEntries_0 : decode cX12_readEntries 0 = .ok (.iload_n 3, 1) := by decide +kernel
theorem dX12_readEntries_1 : decode cX12_readEntries 1 = .ok (.istore 4, 2) := by decide +kernel
theorem dX12_readEntries_3 : decode cX12_readEntries 3 = .ok (.iconst 0, 1) := by decide +kernel
theorem dX12_readEntries_4 : decode cX12_readEntries 4 = .ok (.istore 5, 2) := by decide +kernel
theorem dX12_readEntries_6 : decode cX12_readEntries 6 = .ok (.iload 5, 2) := by decide +kernel
theorem dX12_readEntries_8 : decode cX12_readEntries 8 = .ok (.iload_n 2, 1) := by decide +kernel
theorem dX12_readEntries_9 : decode cX12_readEntries 9 = .ok (.if_icmp .ge 135, 3) := by decide +kernel
theorem dX12_readEntries_12 : decode cX12_readEntries 12 = .ok (.bipush 100, 2) := by decide +kernel
theorem dX12_readEntries_14 : decode cX12_readEntries 14 = .ok (.iload_n 1, 1) := by decide +kernel
theorem dX12_readEntries_15 : decode cX12_readEntries 15 = .ok (.imul, 1) := by decide +kernel
theorem dX12_readEntries_16 : decode cX12_readEntries 16 = .ok (.iload 5, 2) := by decide +kernel
theorem dX12_readEntries_18 : decode cX12_readEntries 18 = .ok (.iadd, 1) := by decide +kernel
theorem dX12_readEntries_19 : decode cX12_readEntries 19 = .ok (.istore 6, 2) := by decide +kernel
theorem dX12_readEntries_21 : decode cX12_readEntries 21 = .ok (.aload_n 0, 1) := by decide +kernel
theorem dX12_readEntries_22 : decode cX12_readEntries 22 = .ok (.getfield 71, 3) := by decide +kernel
theorem dX12_readEntries_25 : decode cX12_readEntries 25 = .ok (.iload 6, 2) := by decide +kernel
theorem dX12_readEntries_27 : decode cX12_readEntries 27 = .ok (.aload_n 0, 1) := by decide +kernel
theorem dX12_readEntries_28 : decode cX12_readEntries 28 = .ok (.getfield 30, 3) := by decide +kernel
theorem dX12_readEntries_31 : decode cX12_readEntries 31 = .ok (.iload 4, 2) := by decide +kernel
theorem dX12_readEntries_33 : decode cX12_readEntries 33 = .ok (.iaload, 1) := by decide +kernel
theorem dX12_readEntries_34 : decode cX12_readEntries 34 = .ok (.iconst 1, 1) := by decide +kernel
theorem dX12_readEntries_35 : decode cX12_readEntries 35 = .ok (.if_icmp .ne 7, 3) := by decide +kernel
theorem dX12_readEntries_38 : decode cX12_readEntries 38 = .ok (.iconst 1, 1) := by decide +kernel
theorem dX12_readEntries_39 : decode cX12_readEntries 39 = .ok (.goto 4, 3) := by decide +kernel
theorem dX12_readEntries_42 : decode cX12_readEntries 42 = .ok (.iconst 0, 1) := by decide +kernel
theorem dX12_readEntries_43 : decode cX12_readEntries 43 = .ok (.bastore, 1) := by decide +kernel
theorem dX12_readEntries_44 : decode cX12_readEntries 44 = .ok (.iinc 4 1, 3) := by decide +kernel
theorem dX12_readEntries_47 : decode cX12_readEntries 47 = .ok (.aload_n 0, 1) := by decide +kernel
theorem dX12_readEntries_48 : decode cX12_readEntries 48 = .ok (.getfield 71, 3) := by decide +kernel
theorem dX12_readEntries_51 : decode cX12_readEntries 51 = .ok (.iload 6, 2) := by decide +kernel
theorem dX12_readEntries_53 : decode cX12_readEntries 53 = .ok (.baload, 1) := by decide +kernel
theorem dX12_readEntries_54 : decode cX12_readEntries 54 = .ok (.ifCond .eq 84, 3) := by decide +kernel
theorem dX12_readEntries_57 : decode cX12_readEntries 57 = .ok (.aload_n 0, 1) := by decide +kernel
theorem dX12_readEntries_58 : decode cX12_readEntries 58 = .ok (.getfield 74, 3) := by decide +kernel
theorem dX12_readEntries_61 : decode cX12_readEntries 61 = .ok (.iload 6, 2) := by decide +kernel
theorem dX12_readEntries_63 : decode cX12_readEntries 63 = .ok (.aload_n 0, 1) := by decide +kernel
theorem dX12_readEntries_64 : decode cX12_readEntries 64 = .ok (.getfield 30, 3) := by decide +kernel
theorem dX12_readEntries_67 : decode cX12_readEntries 67 = .ok (.iload 4, 2) := by decide +kernel
theorem dX12_readEntries_69 : decode cX12_readEntries 69 = .ok (.iaload, 1) := by decide +kernel
theorem dX12_readEntries_70 : decode cX12_readEntries 70 = .ok (.iastore, 1) := by decide +kernel
theorem dX12_readEntries_71 : decode cX12_readEntries 71 = .ok (.aload_n 0, 1) := by decide +kernel
theorem dX12_readEntries_72 : decode cX12_readEntries 72 = .ok (.getfield 77, 3) := by decide +kernel
theorem dX12_readEntries_75 : decode cX12_readEntries 75 = .ok (.iload 6, 2) := by decide +kernel
theorem dX12_readEntries_77 : decode cX12_readEntries 77 = .ok (.aload_n 0, 1) := by decide +kernel
theorem dX12_readEntries_78 : decode cX12_readEntries 78 = .ok (.getfield 30, 3) := by decide +kernel
theorem dX12_readEntries_81 : decode cX12_readEntries 81 = .ok (.iload 4, 2) := by decide +kernel
theorem dX12_readEntries_83 : decode cX12_readEntries 83 = .ok (.iconst 1, 1) := by decide +kernel
theorem dX12_readEntries_84 : decode cX12_readEntries 84 = .ok (.iadd, 1) := by decide +kernel
theorem dX12_readEntries_85 : decode cX12_readEntries 85 = .ok (.iaload, 1) := by decide +kernel
theorem dX12_readEntries_86 : decode cX12_readEntries 86 = .ok (.iastore, 1) := by decide +kernel
theorem dX12_readEntries_87 : decode cX12_readEntries 87 = .ok (.aload_n 0, 1) := by decide +kernel
theorem dX12_readEntries_88 : decode cX12_readEntries 88 = .ok (.getfield 80, 3) := by decide +kernel
theorem dX12_readEntries_91 : decode cX12_readEntries 91 = .ok (.iload 6, 2) := by decide +kernel
theorem dX12_readEntries_93 : decode cX12_readEntries 93 = .ok (.aload_n 0, 1) := by decide +kernel
theorem dX12_readEntries_94 : decode cX12_readEntries 94 = .ok (.getfield 30, 3) := by decide +kernel
theorem dX12_readEntries_97 : decode cX12_readEntries 97 = .ok (.iload 4, 2) := by decide +kernel
theorem dX12_readEntries_99 : decode cX12_readEntries 99 = .ok (.iconst 2, 1) := by decide +kernel
theorem dX12_readEntries_100 : decode cX12_readEntries 100 = .ok (.iadd, 1) := by decide +kernel
theorem dX12_readEntries_101 : decode cX12_readEntries 101 = .ok (.iaload, 1) := by decide +kernel
theorem dX12_readEntries_102 : decode cX12_readEntries 102 = .ok (.iastore, 1) := by decide +kernel
theorem dX12_readEntries_103 : decode cX12_readEntries 103 = .ok (.aload_n 0, 1) := by decide +kernel
theorem dX12_readEntries_104 : decode cX12_readEntries 104 = .ok (.getfield 83, 3) := by decide +kernel
theorem dX12_readEntries_107 : decode cX12_readEntries 107 = .ok (.iload 6, 2) := by decide +kernel
theorem dX12_readEntries_109 : decode cX12_readEntries 109 = .ok (.aload_n 0, 1) := by decide +kernel
theorem dX12_readEntries_110 : decode cX12_readEntries 110 = .ok (.getfield 30, 3) := by decide +kernel
theorem dX12_readEntries_113 : decode cX12_readEntries 113 = .ok (.iload 4, 2) := by decide +kernel
theorem dX12_readEntries_115 : decode cX12_readEntries 115 = .ok (.iconst 3, 1) := by decide +kernel
theorem dX12_readEntries_116 : decode cX12_readEntries 116 = .ok (.iadd, 1) := by decide +kernel
theorem dX12_readEntries_117 : decode cX12_readEntries 117 = .ok (.iaload, 1) := by decide +kernel
theorem dX12_readEntries_118 : decode cX12_readEntries 118 = .ok (.iastore, 1) := by decide +kernel
theorem dX12_readEntries_119 : decode cX12_readEntries 119 = .ok (.aload_n 0, 1) := by decide +kernel
theorem dX12_readEntries_120 : decode cX12_readEntries 120 = .ok (.getfield 86, 3) := by decide +kernel
theorem dX12_readEntries_123 : decode cX12_readEntries 123 = .ok (.iload 6, 2) := by decide +kernel
theorem dX12_readEntries_125 : decode cX12_readEntries 125 = .ok (.aload_n 0, 1) := by decide +kernel
theorem dX12_readEntries_126 : decode cX12_readEntries 126 = .ok (.getfield 30, 3) := by decide +kernel
theorem dX12_readEntries_129 : decode cX12_readEntries 129 = .ok (.iload 4, 2) := by decide +kernel
theorem dX12_readEntries_131 : decode cX12_readEntries 131 = .ok (.iconst 4, 1) := by decide +kernel
theorem dX12_readEntries_132 : decode cX12_readEntries 132 = .ok (.iadd, 1) := by decide +kernel
theorem dX12_readEntries_133 : decode cX12_readEntries 133 = .ok (.iaload, 1) := by decide +kernel
theorem dX12_readEntries_134 : decode cX12_readEntries 134 = .ok (.iastore, 1) := by decide +kernel
theorem dX12_readEntries_135 : decode cX12_readEntries 135 = .ok (.iinc 4 5, 3) := by decide +kernel
theorem dX12_readEntries_138 : decode cX12_readEntries 138 = .ok (.iinc 5 1, 3) := by decide +kernel
theorem dX12_readEntries_141 : decode cX12_readEntries 141 = .ok (.goto (-135), 3) := by decide +kernel
theorem dX12_readEntries_144 : decode cX12_readEntries 144 = .ok (.return_, 1) := by decide +kernel
abbrev rm_X12_readEntries : Room := { frames := 0, cells := 0, slots := 0, locals := 0 }
def b_X12_readEntries_138 (a0 : Nat) (L6 : Int32 × Int32 × Int32 × Int32 → Sto → Prop) (Q : Sto → Prop) (p1 : Int32) (p2 : Int32) (p4 : Int32) (p5 : Int32) (σ : Sto) : Prop := (∀ x1 : Int32, x1 = p5 + (1 : Int32) → L6 (p1, p2, p4, x1) σ)
set_option maxHeartbeats 4000000 in
set_option maxRecDepth 100000 in
theorem t_X12_readEntries_138 {p : Program} {l : Launch} {e : Env} {s : State} {m : MethodId} {args : Array Value} {below : List Frame} {meth : Method} {c : Code} {D : va_G} {cy : Nat → ClassId} {A : Nat → Prop} {a0 : Nat} {L6 : Int32 × Int32 × Int32 × Int32 → Sto → Prop} {Q : Sto → Prop} (C : Cx p s m args meth c D cy A cX12_readEntries 7 RX12) (hr : meth.sig.returnType = none) (hnm : meth.name = yX12_readEntries.name) (hL6 : ∀ (t : Int32 × Int32 × Int32 × Int32) (σ : Sto), L6 t σ → ∀ ls : Array Slot, lv_has ls 7 [(0, .ref a0), (1, .int t.1), (2, .int t.2.1), (4, .int t.2.2.1), (5, .int t.2.2.2)] → Xw p l e rm_X12_readEntries s m args below meth c D cy A σ 0 0 (MQ below (Qst D cy A (PsV Q)) args s rm_X12_readEntries.cells rm_X12_readEntries.slots A) (F0 m 6 ls [])) (p1 : Int32) (p2 : Int32) (p4 : Int32) (p5 : Int32) (σ : Sto) (h : b_X12_readEntries_138 a0 L6 Q p1 p2 p4 p5 σ) (ls : Array Slot) (hl : lv_has ls 7 [(0, .ref a0), (1, .int p1), (2, .int p2), (4, .int p4), (5, .int p5)]) : Xw p l e rm_X12_readEntries s m args below meth c D cy A σ 0 0 (MQ below (Qst D cy A (PsV Q)) args s rm_X12_readEntries.cells rm_X12_readEntries.slots A) (F0 m 138 ls []) := by
  unfold b_X12_readEntries_138 at h
  obtain ⟨x1, e2⟩ : ∃ z : Int32, z = p5 + (1 : Int32) := ⟨_, rfl⟩
  have h := h x1 e2
  refine x_iinc (v := x1) (lv' := [(5, .int x1), (0, .ref a0), (1, .int p1), (2, .int p2), (4, .int p4)]) C dX12_readEntries_138 hl (q0 := 4) rfl (by rw [e2]; rfl) (by decide) (by first | rfl | simp [vrc, cat_i, cat_r, cat_l]) (fun ls hl => ?_)
  refine x_goto (tgt := 6) C dX12_readEntries_141 (by decide) ?_
  exact hL6 (p1, p2, p4, x1) _ h ls (lv_sub hl [1, 2, 3, 4, 0] rfl)
def b_X12_readEntries_43 (a0 : Nat) (L6 : Int32 × Int32 × Int32 × Int32 → Sto → Prop) (Q : Sto → Prop) (p1 : Int32) (p2 : Int32) (p4 : Int32) (p5 : Int32) (p6 : Int32) (s0 : Int32) (s1 : Int32) (s2 : Option Nat) (σ : Sto) : Prop := (∃ b1 : Nat, s2 = some b1 ∧ (sK σ b1 = 16 ∧ (vp_in s1 (sN σ b1) ∧ (∀ x5 : Int32, x5 = p4 + (1 : Int32) → (sK σ a0 = 12 ∧ (∃ b8 : Nat, sP σ a0 30 = some b8 ∧ (sK σ b8 = 16 ∧ (vp_in p6 (sN σ b8) ∧ (∀ x12 : Int32, x12 = sI (stI σ b1 s1.toNatClampNeg (vp_nar .boolean s0)) b8 p6.toNatClampNeg → ((x12 = 0 → b_X12_readEntries_138 a0 L6 Q p1 p2 x5 p5 (stI σ b1 s1.toNatClampNeg (vp_nar .boolean s0))) ∧ (¬ x12 = 0 → (∃ b15 : Nat, sP σ a0 15 = some b15 ∧ (sK σ b15 = 14 ∧ (vp_in x5 (sN σ b15) ∧ (∀ x19 : Int32, x19 = sI (stI σ b1 s1.toNatClampNeg (vp_nar .boolean s0)) b15 x5.toNatClampNeg → (∃ b21 : Nat, sP σ a0 31 = some b21 ∧ (sK σ b21 = 14 ∧ (vp_in p6 (sN σ b21) ∧ (∀ x25 : Int32, x25 = x5 + (1 : Int32) → (vp_in x25 (sN σ b15) ∧ (∀ x28 : Int32, x28 = sI (stI (stI σ b1 s1.toNatClampNeg (vp_nar .boolean s0)) b21 p6.toNatClampNeg x19) b15 x25.toNatClampNeg → (∃ b30 : Nat, sP σ a0 32 = some b30 ∧ (sK σ b30 = 14 ∧ (vp_in p6 (sN σ b30) ∧ (∀ x34 : Int32, x34 = x5 + (2 : Int32) → (vp_in x34 (sN σ b15) ∧ (∀ x37 : Int32, x37 = sI (stI (stI (stI σ b1 s1.toNatClampNeg (vp_nar .boolean s0)) b21 p6.toNatClampNeg x19) b30 p6.toNatClampNeg x28) b15 x34.toNatClampNeg → (∃ b39 : Nat, sP σ a0 33 = some b39 ∧ (sK σ b39 = 14 ∧ (vp_in p6 (sN σ b39) ∧ (∀ x43 : Int32, x43 = x5 + (3 : Int32) → (vp_in x43 (sN σ b15) ∧ (∀ x46 : Int32, x46 = sI (stI (stI (stI (stI σ b1 s1.toNatClampNeg (vp_nar .boolean s0)) b21 p6.toNatClampNeg x19) b30 p6.toNatClampNeg x28) b39 p6.toNatClampNeg x37) b15 x43.toNatClampNeg → (∃ b48 : Nat, sP σ a0 34 = some b48 ∧ (sK σ b48 = 14 ∧ (vp_in p6 (sN σ b48) ∧ (∀ x52 : Int32, x52 = x5 + (4 : Int32) → (vp_in x52 (sN σ b15) ∧ (∀ x55 : Int32, x55 = sI (stI (stI (stI (stI (stI σ b1 s1.toNatClampNeg (vp_nar .boolean s0)) b21 p6.toNatClampNeg x19) b30 p6.toNatClampNeg x28) b39 p6.toNatClampNeg x37) b48 p6.toNatClampNeg x46) b15 x52.toNatClampNeg → (∃ b57 : Nat, sP σ a0 35 = some b57 ∧ (sK σ b57 = 14 ∧ (vp_in p6 (sN σ b57) ∧ (∀ x61 : Int32, x61 = x5 + (5 : Int32) → b_X12_readEntries_138 a0 L6 Q p1 p2 x61 p5 (stI (stI (stI (stI (stI (stI σ b1 s1.toNatClampNeg (vp_nar .boolean s0)) b21 p6.toNatClampNeg x19) b30 p6.toNatClampNeg x28) b39 p6.toNatClampNeg x37) b48 p6.toNatClampNeg x46) b57 p6.toNatClampNeg x55))))))))))))))))))))))))))))))))))))))))))))
set_option maxHeartbeats 4000000 in
set_option maxRecDepth 100000 in
theorem t_X12_readEntries_43 {p : Program} {l : Launch} {e : Env} {s : State} {m : MethodId} {args : Array Value} {below : List Frame} {meth : Method} {c : Code} {D : va_G} {cy : Nat → ClassId} {A : Nat → Prop} {a0 : Nat} {L6 : Int32 × Int32 × Int32 × Int32 → Sto → Prop} {Q : Sto → Prop} (C : Cx p s m args meth c D cy A cX12_readEntries 7 RX12) (hr : meth.sig.returnType = none) (hnm : meth.name = yX12_readEntries.name) (hL6 : ∀ (t : Int32 × Int32 × Int32 × Int32) (σ : Sto), L6 t σ → ∀ ls : Array Slot, lv_has ls 7 [(0, .ref a0), (1, .int t.1), (2, .int t.2.1), (4, .int t.2.2.1), (5, .int t.2.2.2)] → Xw p l e rm_X12_readEntries s m args below meth c D cy A σ 0 0 (MQ below (Qst D cy A (PsV Q)) args s rm_X12_readEntries.cells rm_X12_readEntries.slots A) (F0 m 6 ls [])) (p1 : Int32) (p2 : Int32) (p4 : Int32) (p5 : Int32) (p6 : Int32) (s0 : Int32) (s1 : Int32) (s2 : Option Nat) (σ : Sto) (h : b_X12_readEntries_43 a0 L6 Q p1 p2 p4 p5 p6 s0 s1 s2 σ) (ls : Array Slot) (hl : lv_has ls 7 [(0, .ref a0), (1, .int p1), (2, .int p2), (4, .int p4), (5, .int p5), (6, .int p6)]) : Xw p l e rm_X12_readEntries s m args below meth c D cy A σ 0 0 (MQ below (Qst D cy A (PsV Q)) args s rm_X12_readEntries.cells rm_X12_readEntries.slots A) (F0 m 43 ls [.int s0, .int s1, va_rf s2]) := by
  unfold b_X12_readEntries_43 at h
  obtain ⟨b1, g2, h⟩ := h
  refine x_nn2 g2 ?_
  obtain ⟨g3, h⟩ := h
  obtain ⟨g4, h⟩ := h
  refine x_zast C g3 g4 dX12_readEntries_43 ?_
  obtain ⟨x5, e6⟩ : ∃ z : Int32, z = p4 + (1 : Int32) := ⟨_, rfl⟩
  have h := h x5 e6
  refine x_iinc (v := x5) (lv' := [(4, .int x5), (0, .ref a0), (1, .int p1), (2, .int p2), (5, .int p5), (6, .int p6)]) C dX12_readEntries_44 hl (q0 := 3) rfl (by rw [e6]; rfl) (by decide) (by first | rfl | simp [vrc, cat_i, cat_r, cat_l]) (fun ls hl => ?_)
  refine x_aload_n C dX12_readEntries_47 rfl (lv_at hl 1 rfl) ?_
  obtain ⟨g7, h⟩ := h
  refine x_getP C fl_RX12_71 g7 dX12_readEntries_48 ?_
  refine x_iload C dX12_readEntries_51 (lv_at hl 5 rfl) ?_
  obtain ⟨b8, g9, h⟩ := h
  refine x_nn1 g9 ?_
  obtain ⟨g10, h⟩ := h
  obtain ⟨g11, h⟩ := h
  refine x_zald C g10 g11 dX12_readEntries_53 ?_
  refine x_topi (fun x12 e13 => ?_)
  have h := h x12 e13
  refine x_if_eq (tgt := 138) C dX12_readEntries_54 (by decide) (fun c14 => ?_) (fun c14 => ?_)
  · have h := h.1 c14
    exact t_X12_readEntries_138 C hr hnm hL6 p1 p2 x5 p5 _ h ls (lv_sub hl [1, 2, 3, 0, 4] rfl)
  · have h := h.2 c14
    refine x_aload_n C dX12_readEntries_57 rfl (lv_at hl 1 rfl) ?_
    refine x_getP C fl_RX12_74 g7 dX12_readEntries_58 ?_
    refine x_iload C dX12_readEntries_61 (lv_at hl 5 rfl) ?_
    refine x_aload_n C dX12_readEntries_63 rfl (lv_at hl 1 rfl) ?_
    refine x_getP C fl_RX12_30 g7 dX12_readEntries_64 ?_
    refine x_iload C dX12_readEntries_67 (lv_at hl 0 rfl) ?_
    obtain ⟨b15, g16, h⟩ := h
    refine x_nn1 g16 ?_
    obtain ⟨g17, h⟩ := h
    obtain ⟨g18, h⟩ := h
    refine x_iald C g17 g18 dX12_readEntries_69 ?_
    refine x_topi (fun x19 e20 => ?_)
    have h := h x19 e20
    obtain ⟨b21, g22, h⟩ := h
    refine x_nn2 g22 ?_
    obtain ⟨g23, h⟩ := h
    obtain ⟨g24, h⟩ := h
    refine x_iast C g23 g24 dX12_readEntries_70 ?_
    refine x_aload_n C dX12_readEntries_71 rfl (lv_at hl 1 rfl) ?_
    refine x_getP C fl_RX12_77 g7 dX12_readEntries_72 ?_
    refine x_iload C dX12_readEntries_75 (lv_at hl 5 rfl) ?_
    refine x_aload_n C dX12_readEntries_77 rfl (lv_at hl 1 rfl) ?_
    refine x_getP C fl_RX12_30 g7 dX12_readEntries_78 ?_
    refine x_iload C dX12_readEntries_81 (lv_at hl 0 rfl) ?_
    refine x_iconst (v := 1) C dX12_readEntries_83 (by decide) ?_
    refine x_iadd C dX12_readEntries_84 ?_
    refine x_topi (fun x25 e26 => ?_)
    have h := h x25 e26
    refine x_nn1 g16 ?_
    obtain ⟨g27, h⟩ := h
    refine x_iald C g17 g27 dX12_readEntries_85 ?_
    refine x_topi (fun x28 e29 => ?_)
    have h := h x28 e29
    obtain ⟨b30, g31, h⟩ := h
    refine x_nn2 g31 ?_
    obtain ⟨g32, h⟩ := h
    obtain ⟨g33, h⟩ := h
    refine x_iast C g32 g33 dX12_readEntries_86 ?_
    refine x_aload_n C dX12_readEntries_87 rfl (lv_at hl 1 rfl) ?_
    refine x_getP C fl_RX12_80 g7 dX12_readEntries_88 ?_
    refine x_iload C dX12_readEntries_91 (lv_at hl 5 rfl) ?_
    refine x_aload_n C dX12_readEntries_93 rfl (lv_at hl 1 rfl) ?_
    refine x_getP C fl_RX12_30 g7 dX12_readEntries_94 ?_
    refine x_iload C dX12_readEntries_97 (lv_at hl 0 rfl) ?_
    refine x_iconst (v := 2) C dX12_readEntries_99 (by decide) ?_
    refine x_iadd C dX12_readEntries_100 ?_
    refine x_topi (fun x34 e35 => ?_)
    have h := h x34 e35
    refine x_nn1 g16 ?_
    obtain ⟨g36, h⟩ := h
    refine x_iald C g17 g36 dX12_readEntries_101 ?_
    refine x_topi (fun x37 e38 => ?_)
    have h := h x37 e38
    obtain ⟨b39, g40, h⟩ := h
    refine x_nn2 g40 ?_
    obtain ⟨g41, h⟩ := h
    obtain ⟨g42, h⟩ := h
    refine x_iast C g41 g42 dX12_readEntries_102 ?_
    refine x_aload_n C dX12_readEntries_103 rfl (lv_at hl 1 rfl) ?_
    refine x_getP C fl_RX12_83 g7 dX12_readEntries_104 ?_
    refine x_iload C dX12_readEntries_107 (lv_at hl 5 rfl) ?_
    refine x_aload_n C dX12_readEntries_109 rfl (lv_at hl 1 rfl) ?_
    refine x_getP C fl_RX12_30 g7 dX12_readEntries_110 ?_
    refine x_iload C dX12_readEntries_113 (lv_at hl 0 rfl) ?_
    refine x_iconst (v := 3) C dX12_readEntries_115 (by decide) ?_
    refine x_iadd C dX12_readEntries_116 ?_
    refine x_topi (fun x43 e44 => ?_)
    have h := h x43 e44
    refine x_nn1 g16 ?_
    obtain ⟨g45, h⟩ := h
    refine x_iald C g17 g45 dX12_readEntries_117 ?_
    refine x_topi (fun x46 e47 => ?_)
    have h := h x46 e47
    obtain ⟨b48, g49, h⟩ := h
    refine x_nn2 g49 ?_
    obtain ⟨g50, h⟩ := h
    obtain ⟨g51, h⟩ := h
    refine x_iast C g50 g51 dX12_readEntries_118 ?_
    refine x_aload_n C dX12_readEntries_119 rfl (lv_at hl 1 rfl) ?_
    refine x_getP C fl_RX12_86 g7 dX12_readEntries_120 ?_
    refine x_iload C dX12_readEntries_123 (lv_at hl 5 rfl) ?_
    refine x_aload_n C dX12_readEntries_125 rfl (lv_at hl 1 rfl) ?_
    refine x_getP C fl_RX12_30 g7 dX12_readEntries_126 ?_
    refine x_iload C dX12_readEntries_129 (lv_at hl 0 rfl) ?_
    refine x_iconst (v := 4) C dX12_readEntries_131 (by decide) ?_
    refine x_iadd C dX12_readEntries_132 ?_
    refine x_topi (fun x52 e53 => ?_)
    have h := h x52 e53
    refine x_nn1 g16 ?_
    obtain ⟨g54, h⟩ := h
    refine x_iald C g17 g54 dX12_readEntries_133 ?_
    refine x_topi (fun x55 e56 => ?_)
    have h := h x55 e56
    obtain ⟨b57, g58, h⟩ := h
    refine x_nn2 g58 ?_
    obtain ⟨g59, h⟩ := h
    obtain ⟨g60, h⟩ := h
    refine x_iast C g59 g60 dX12_readEntries_134 ?_
    obtain ⟨x61, e62⟩ : ∃ z : Int32, z = x5 + (5 : Int32) := ⟨_, rfl⟩
    have h := h x61 e62
    refine x_iinc (v := x61) (lv' := [(4, .int x61), (0, .ref a0), (1, .int p1), (2, .int p2), (5, .int p5), (6, .int p6)]) C dX12_readEntries_135 hl (q0 := 0) rfl (by rw [e62]; rfl) (by decide) (by first | rfl | simp [vrc, cat_i, cat_r, cat_l]) (fun ls hl => ?_)
    exact t_X12_readEntries_138 C hr hnm hL6 p1 p2 x61 p5 _ h ls (lv_sub hl [1, 2, 3, 0, 4] rfl)
def f_X12_readEntries_6 (a0 : Nat)  (Q : Sto → Prop) (L6 : Int32 × Int32 × Int32 × Int32 → Sto → Prop) (t : Int32 × Int32 × Int32 × Int32) (σ : Sto) : Prop := ((t.2.1 ≤ t.2.2.2 → Q σ) ∧ (¬ t.2.1 ≤ t.2.2.2 → (∀ x2 : Int32, x2 = ((100 : Int32) * t.1) + t.2.2.2 → (sK σ a0 = 12 ∧ (∃ b5 : Nat, sP σ a0 15 = some b5 ∧ (sK σ b5 = 14 ∧ (vp_in t.2.2.1 (sN σ b5) ∧ (∀ x9 : Int32, x9 = sI σ b5 t.2.2.1.toNatClampNeg → ((¬ x9 = (1 : Int32) → b_X12_readEntries_43 a0 L6 Q t.1 t.2.1 t.2.2.1 t.2.2.2 x2 (0 : Int32) x2 (sP σ a0 30) σ) ∧ (x9 = (1 : Int32) → b_X12_readEntries_43 a0 L6 Q t.1 t.2.1 t.2.2.1 t.2.2.2 x2 (1 : Int32) x2 (sP σ a0 30) σ))))))))))
set_option maxHeartbeats 4000000 in
set_option maxRecDepth 100000 in
theorem t_X12_readEntries_6 {p : Program} {l : Launch} {e : Env} {s : State} {m : MethodId} {args : Array Value} {below : List Frame} {meth : Method} {c : Code} {D : va_G} {cy : Nat → ClassId} {A : Nat → Prop} {a0 : Nat} {Q : Sto → Prop} {L6 : Int32 × Int32 × Int32 × Int32 → Sto → Prop} (C : Cx p s m args meth c D cy A cX12_readEntries 7 RX12) (hr : meth.sig.returnType = none) (hnm : meth.name = yX12_readEntries.name) (hL6 : ∀ (t : Int32 × Int32 × Int32 × Int32) (σ : Sto), L6 t σ → ∀ ls : Array Slot, lv_has ls 7 [(0, .ref a0), (1, .int t.1), (2, .int t.2.1), (4, .int t.2.2.1), (5, .int t.2.2.2)] → Xw p l e rm_X12_readEntries s m args below meth c D cy A σ 0 0 (MQ below (Qst D cy A (PsV Q)) args s rm_X12_readEntries.cells rm_X12_readEntries.slots A) (F0 m 6 ls [])) : ∀ (t : Int32 × Int32 × Int32 × Int32) (σ : Sto), f_X12_readEntries_6 a0  Q L6 t σ → ∀ ls : Array Slot, lv_has ls 7 [(0, .ref a0), (1, .int t.1), (2, .int t.2.1), (4, .int t.2.2.1), (5, .int t.2.2.2)] → Xw p l e rm_X12_readEntries s m args below meth c D cy A σ 0 0 (MQ below (Qst D cy A (PsV Q)) args s rm_X12_readEntries.cells rm_X12_readEntries.slots A) (F0 m 6 ls []) := by
  intro t σ h ls hl
  unfold f_X12_readEntries_6 at h
  refine x_iload C dX12_readEntries_6 (lv_at hl 4 rfl) ?_
  refine x_iload_n C dX12_readEntries_8 rfl (lv_at hl 2 rfl) ?_
  refine x_icmp_ge (tgt := 144) C dX12_readEntries_9 (by decide) (fun c1 => ?_) (fun c1 => ?_)
  · have h := h.1 c1
    exact x_vret C hr dX12_readEntries_144 ⟨rfl, h⟩
  · have h := h.2 c1
    refine x_bipush (v := 100) C dX12_readEntries_12 (by decide) ?_
    refine x_iload_n C dX12_readEntries_14 rfl (lv_at hl 1 rfl) ?_
    refine x_imul C dX12_readEntries_15 ?_
    refine x_iload C dX12_readEntries_16 (lv_at hl 4 rfl) ?_
    refine x_iadd C dX12_readEntries_18 ?_
    refine x_topi (fun x2 e3 => ?_)
    have h := h x2 e3
    refine x_istore (i := 6) (lv' := [(6, .int x2), (0, .ref a0), (1, .int t.1), (2, .int t.2.1), (4, .int t.2.2.1), (5, .int t.2.2.2)]) C dX12_readEntries_19 hl (by decide) (by first | rfl | simp [vrc, cat_i, cat_r, cat_l]) (fun ls hl => ?_)
    refine x_aload_n C dX12_readEntries_21 rfl (lv_at hl 1 rfl) ?_
    obtain ⟨g4, h⟩ := h
    refine x_getP C fl_RX12_71 g4 dX12_readEntries_22 ?_
    refine x_iload C dX12_readEntries_25 (lv_at hl 0 rfl) ?_
    refine x_aload_n C dX12_readEntries_27 rfl (lv_at hl 1 rfl) ?_
    refine x_getP C fl_RX12_30 g4 dX12_readEntries_28 ?_
    refine x_iload C dX12_readEntries_31 (lv_at hl 4 rfl) ?_
    obtain ⟨b5, g6, h⟩ := h
    refine x_nn1 g6 ?_
    obtain ⟨g7, h⟩ := h
    obtain ⟨g8, h⟩ := h
    refine x_iald C g7 g8 dX12_readEntries_33 ?_
    refine x_topi (fun x9 e10 => ?_)
    have h := h x9 e10
    refine x_iconst (v := 1) C dX12_readEntries_34 (by decide) ?_
    refine x_icmp_ne (tgt := 42) C dX12_readEntries_35 (by decide) (fun c11 => ?_) (fun c11 => ?_)
    · have h := h.1 c11
      refine x_iconst (v := 0) C dX12_readEntries_42 (by decide) ?_
      exact t_X12_readEntries_43 C hr hnm hL6 t.1 t.2.1 t.2.2.1 t.2.2.2 x2 (0 : Int32) x2 (sP σ a0 30) _ h ls (lv_sub hl [1, 2, 3, 4, 5, 0] rfl)
    · have h := h.2 c11
      refine x_iconst (v := 1) C dX12_readEntries_38 (by decide) ?_
      refine x_goto (tgt := 43) C dX12_readEntries_39 (by decide) ?_
      exact t_X12_readEntries_43 C hr hnm hL6 t.1 t.2.1 t.2.2.1 t.2.2.2 x2 (1 : Int32) x2 (sP σ a0 30) _ h ls (lv_sub hl [1, 2, 3, 4, 5, 0] rfl)
def wp_X12_readEntries (a0 : Nat) (p1 : Int32) (p2 : Int32) (p3 : Int32) (σ : Sto) (Q : Sto → Prop) : Prop := LF (f_X12_readEntries_6 a0  Q) (p1, p2, p3, (0 : Int32)) σ
set_option maxHeartbeats 4000000 in
set_option maxRecDepth 100000 in
theorem c_X12_readEntries (l : Launch) (D : va_G) (cy : Nat → ClassId) (a0 : Nat) (p1 : Int32) (p2 : Int32) (p3 : Int32) (σ : Sto) (Q : Sto → Prop) (h : wp_X12_readEntries a0 p1 p2 p3 σ Q) : Mt l D cy yX12_readEntries cX12_readEntries 7 none rm_X12_readEntries [.ref a0, .int p1, .int p2, .int p3] σ (PsV Q) := by
  unfold wp_X12_readEntries at h
  refine mt_of (by decide +kernel) (Nat.le_of_ble_eq_true rfl) ?_
  intro p e s m args below meth c A ls C hr hnm hl
  have C : Cx p s m args meth c D cy A cX12_readEntries 7 RX12 := C
  have hl : lv_has ls 7 [(0, .ref a0), (1, .int p1), (2, .int p2), (3, .int p3)] := hl
  refine x_iload_n C dX12_readEntries_0 rfl (lv_at hl 3 rfl) ?_
  refine x_istore (i := 4) (lv' := [(4, .int p3), (0, .ref a0), (1, .int p1), (2, .int p2), (3, .int p3)]) C dX12_readEntries_1 hl (by decide) (by first | rfl | simp [vrc, cat_i, cat_r, cat_l]) (fun ls hl => ?_)
  refine x_iconst (v := 0) C dX12_readEntries_3 (by decide) ?_
  refine x_istore (i := 5) (lv' := [(5, .int (0 : Int32)), (4, .int p3), (0, .ref a0), (1, .int p1), (2, .int p2), (3, .int p3)]) C dX12_readEntries_4 hl (by decide) (by first | rfl | simp [vrc, cat_i, cat_r, cat_l]) (fun ls hl => ?_)
  exact h (fun t σ => ∀ ls : Array Slot, lv_has ls 7 [(0, .ref a0), (1, .int t.1), (2, .int t.2.1), (4, .int t.2.2.1), (5, .int t.2.2.2)] → Xw p l e rm_X12_readEntries s m args below meth c D cy A σ 0 0 (MQ below (Qst D cy A (PsV Q)) args s rm_X12_readEntries.cells rm_X12_readEntries.slots A) (F0 m 6 ls [])) (t_X12_readEntries_6 C hr hnm  (fun t σ h => h)) ls (lv_sub hl [2, 3, 4, 1, 0] rfl)
theorem dX12_getsStart_0 : decode cX12_getsStart 0 = .ok (.aload_n 0, 1) := by decide +kernel
theorem dX12_getsStart_1 : decode cX12_getsStart 1 = .ok (.getfield 44, 3) := by decide +kernel
theorem dX12_getsStart_4 : decode cX12_getsStart 4 = .ok (.iload_n 1, 1) := by decide +kernel
theorem dX12_getsStart_5 : decode cX12_getsStart 5 = .ok (.iaload, 1) := by decide +kernel
theorem dX12_getsStart_6 : decode cX12_getsStart 6 = .ok (.aload_n 0, 1) := by decide +kernel
theorem dX12_getsStart_7 : decode cX12_getsStart 7 = .ok (.getfield 47, 3) := by decide +kernel
theorem dX12_getsStart_10 : decode cX12_getsStart 10 = .ok (.iload_n 1, 1) := by decide +kernel
theorem dX12_getsStart_11 : decode cX12_getsStart 11 = .ok (.iaload, 1) := by decide +kernel
theorem dX12_getsStart_12 : decode cX12_getsStart 12 = .ok (.aload_n 0, 1) := by decide +kernel
theorem dX12_getsStart_13 : decode cX12_getsStart 13 = .ok (.getfield 30, 3) := by decide +kernel
theorem dX12_getsStart_16 : decode cX12_getsStart 16 = .ok (.iconst 3, 1) := by decide +kernel
theorem dX12_getsStart_17 : decode cX12_getsStart 17 = .ok (.iaload, 1) := by decide +kernel
theorem dX12_getsStart_18 : decode cX12_getsStart 18 = .ok (.aload_n 0, 1) := by decide +kernel
theorem dX12_getsStart_19 : decode cX12_getsStart 19 = .ok (.getfield 30, 3) := by decide +kernel
theorem dX12_getsStart_22 : decode cX12_getsStart 22 = .ok (.iconst 4, 1) := by decide +kernel
theorem dX12_getsStart_23 : decode cX12_getsStart 23 = .ok (.iaload, 1) := by decide +kernel
theorem dX12_getsStart_24 : decode cX12_getsStart 24 = .ok (.invokestatic 361, 3) := by decide +kernel
theorem dX12_getsStart_27 : decode cX12_getsStart 27 = .ok (.ifCond .ne 18, 3) := by decide +kernel
theorem dX12_getsStart_30 : decode cX12_getsStart 30 = .ok (.iload_n 2, 1) := by decide +kernel
theorem dX12_getsStart_31 : decode cX12_getsStart 31 = .ok (.ifCond .eq 13, 3) := by decide +kernel
theorem dX12_getsStart_34 : decode cX12_getsStart 34 = .ok (.aload_n 0, 1) := by decide +kernel
theorem dX12_getsStart_35 : decode cX12_getsStart 35 = .ok (.getfield 50, 3) := by decide +kernel
theorem dX12_getsStart_38 : decode cX12_getsStart 38 = .ok (.iload_n 1, 1) := by decide +kernel
theorem dX12_getsStart_39 : decode cX12_getsStart 39 = .ok (.iaload, 1) := by decide +kernel
theorem dX12_getsStart_40 : decode cX12_getsStart 40 = .ok (.iconst 2, 1) := by decide +kernel
theorem dX12_getsStart_41 : decode cX12_getsStart 41 = .ok (.if_icmp .eq 4, 3) := by decide +kernel
theorem dX12_getsStart_44 : decode cX12_getsStart 44 = .ok (.return_, 1) := by decide +kernel
theorem dX12_getsStart_45 : decode cX12_getsStart 45 = .ok (.aload_n 0, 1) := by decide +kernel
theorem dX12_getsStart_46 : decode cX12_getsStart 46 = .ok (.getfield 44, 3) := by decide +kernel
theorem dX12_getsStart_49 : decode cX12_getsStart 49 = .ok (.iload_n 1, 1) := by decide +kernel
theorem dX12_getsStart_50 : decode cX12_getsStart 50 = .ok (.aload_n 0, 1) := by decide +kernel
theorem dX12_getsStart_51 : decode cX12_getsStart 51 = .ok (.getfield 30, 3) := by decide +kernel
theorem dX12_getsStart_54 : decode cX12_getsStart 54 = .ok (.iconst 3, 1) := by decide +kernel
theorem dX12_getsStart_55 : decode cX12_getsStart 55 = .ok (.iaload, 1) := by decide +kernel
theorem dX12_getsStart_56 : decode cX12_getsStart 56 = .ok (.iastore, 1) := by decide +kernel
theorem dX12_getsStart_57 : decode cX12_getsStart 57 = .ok (.aload_n 0, 1) := by decide +kernel
theorem dX12_getsStart_58 : decode cX12_getsStart 58 = .ok (.getfield 47, 3) := by decide +kernel
theorem dX12_getsStart_61 : decode cX12_getsStart 61 = .ok (.iload_n 1, 1) := by decide +kernel
theorem dX12_getsStart_62 : decode cX12_getsStart 62 = .ok (.aload_n 0, 1) := by decide +kernel
theorem dX12_getsStart_63 : decode cX12_getsStart 63 = .ok (.getfield 30, 3) := by decide +kernel
theorem dX12_getsStart_66 : decode cX12_getsStart 66 = .ok (.iconst 4, 1) := by decide +kernel
theorem dX12_getsStart_67 : decode cX12_getsStart 67 = .ok (.iaload, 1) := by decide +kernel
theorem dX12_getsStart_68 : decode cX12_getsStart 68 = .ok (.iastore, 1) := by decide +kernel
theorem dX12_getsStart_69 : decode cX12_getsStart 69 = .ok (.aload_n 0, 1) := by decide +kernel
theorem dX12_getsStart_70 : decode cX12_getsStart 70 = .ok (.getfield 62, 3) := by decide +kernel
theorem dX12_getsStart_73 : decode cX12_getsStart 73 = .ok (.iload_n 1, 1) := by decide +kernel
theorem dX12_getsStart_74 : decode cX12_getsStart 74 = .ok (.aload_n 0, 1) := by decide +kernel
theorem dX12_getsStart_75 : decode cX12_getsStart 75 = .ok (.getfield 30, 3) := by decide +kernel
theorem dX12_getsStart_78 : decode cX12_getsStart 78 = .ok (.iconst 5, 1) := by decide +kernel
theorem dX12_getsStart_79 : decode cX12_getsStart 79 = .ok (.iaload, 1) := by decide +kernel
theorem dX12_getsStart_80 : decode cX12_getsStart 80 = .ok (.iastore, 1) := by decide +kernel
theorem dX12_getsStart_81 : decode cX12_getsStart 81 = .ok (.aload_n 0, 1) := by decide +kernel
theorem dX12_getsStart_82 : decode cX12_getsStart 82 = .ok (.getfield 59, 3) := by decide +kernel
theorem dX12_getsStart_85 : decode cX12_getsStart 85 = .ok (.iload_n 1, 1) := by decide +kernel
theorem dX12_getsStart_86 : decode cX12_getsStart 86 = .ok (.aload_n 0, 1) := by decide +kernel
theorem dX12_getsStart_87 : decode cX12_getsStart 87 = .ok (.getfield 30, 3) := by decide +kernel
theorem dX12_getsStart_90 : decode cX12_getsStart 90 = .ok (.bipush 6, 2) := by decide +kernel
theorem dX12_getsStart_92 : decode cX12_getsStart 92 = .ok (.iaload, 1) := by decide +kernel
theorem dX12_getsStart_93 : decode cX12_getsStart 93 = .ok (.iastore, 1) := by decide +kernel
theorem dX12_getsStart_94 : decode cX12_getsStart 94 = .ok (.aload_n 0, 1) := by decide +kernel
theorem dX12_getsStart_95 : decode cX12_getsStart 95 = .ok (.iload_n 1, 1) := by decide +kernel
theorem dX12_getsStart_96 : decode cX12_getsStart 96 = .ok (.aload_n 0, 1) := by decide +kernel
theorem dX12_getsStart_97 : decode cX12_getsStart 97 = .ok (.getfield 30, 3) := by decide +kernel
theorem dX12_getsStart_100 : decode cX12_getsStart 100 = .ok (.bipush 6, 2) := by decide +kernel
theorem dX12_getsStart_102 : decode cX12_getsStart 102 = .ok (.iaload, 1) := by decide +kernel
theorem dX12_getsStart_103 : decode cX12_getsStart 103 = .ok (.bipush 7, 2) := by decide +kernel
theorem dX12_getsStart_105 : decode cX12_getsStart 105 = .ok (.invokevirtual 427, 3) := by decide +kernel
theorem dX12_getsStart_108 : decode cX12_getsStart 108 = .ok (.aload_n 0, 1) := by decide +kernel
theorem dX12_getsStart_109 : decode cX12_getsStart 109 = .ok (.iload_n 1, 1) := by decide +kernel
theorem dX12_getsStart_110 : decode cX12_getsStart 110 = .ok (.invokevirtual 355, 3) := by decide +kernel
theorem dX12_getsStart_113 : decode cX12_getsStart 113 = .ok (.aload_n 0, 1) := by decide +kernel
theorem dX12_getsStart_114 : decode cX12_getsStart 114 = .ok (.getfield 68, 3) := by decide +kernel
theorem dX12_getsStart_117 : decode cX12_getsStart 117 = .ok (.iload_n 1, 1) := by decide +kernel
theorem dX12_getsStart_118 : decode cX12_getsStart 118 = .ok (.iconst 0, 1) := by decide +kernel
theorem dX12_getsStart_119 : decode cX12_getsStart 119 = .ok (.iastore, 1) := by decide +kernel
theorem dX12_getsStart_120 : decode cX12_getsStart 120 = .ok (.aload_n 0, 1) := by decide +kernel
theorem dX12_getsStart_121 : decode cX12_getsStart 121 = .ok (.iload_n 1, 1) := by decide +kernel
theorem dX12_getsStart_122 : decode cX12_getsStart 122 = .ok (.invokevirtual 393, 3) := by decide +kernel
theorem dX12_getsStart_125 : decode cX12_getsStart 125 = .ok (.return_, 1) := by decide +kernel
abbrev rm_X12_getsStart : Room := { frames := 1, cells := 0, slots := 0, locals := 26 }
def b_X12_getsStart_45 (a0 : Nat)  (Q : Sto → Prop) (p1 : Int32) (σ : Sto) : Prop := (sK σ a0 = 12 ∧ (∃ b2 : Nat, sP σ a0 15 = some b2 ∧ (sK σ b2 = 14 ∧ (vp_in (3 : Int32) (sN σ b2) ∧ (∀ x6 : Int32, x6 = sI σ b2 (3 : Int32).toNatClampNeg → (∃ b8 : Nat, sP σ a0 21 = some b8 ∧ (sK σ b8 = 14 ∧ (vp_in p1 (sN σ b8) ∧ (vp_in (4 : Int32) (sN σ b2) ∧ (∀ x13 : Int32, x13 = sI (stI σ b8 p1.toNatClampNeg x6) b2 (4 : Int32).toNatClampNeg → (∃ b15 : Nat, sP σ a0 22 = some b15 ∧ (sK σ b15 = 14 ∧ (vp_in p1 (sN σ b15) ∧ (vp_in (5 : Int32) (sN σ b2) ∧ (∀ x20 : Int32, x20 = sI (stI (stI σ b8 p1.toNatClampNeg x6) b15 p1.toNatClampNeg x13) b2 (5 : Int32).toNatClampNeg → (∃ b22 : Nat, sP σ a0 27 = some b22 ∧ (sK σ b22 = 14 ∧ (vp_in p1 (sN σ b22) ∧ (vp_in (6 : Int32) (sN σ b2) ∧ (∀ x27 : Int32, x27 = sI (stI (stI (stI σ b8 p1.toNatClampNeg x6) b15 p1.toNatClampNeg x13) b22 p1.toNatClampNeg x20) b2 (6 : Int32).toNatClampNeg → (∃ b29 : Nat, sP σ a0 26 = some b29 ∧ (sK σ b29 = 14 ∧ (vp_in p1 (sN σ b29) ∧ (vp_in (6 : Int32) (sN σ b2) ∧ (∀ x34 : Int32, x34 = sI (stI (stI (stI (stI σ b8 p1.toNatClampNeg x6) b15 p1.toNatClampNeg x13) b22 p1.toNatClampNeg x20) b29 p1.toNatClampNeg x27) b2 (6 : Int32).toNatClampNeg → (wp_X12_readEntries a0 p1 x34 (7 : Int32) (stI (stI (stI (stI σ b8 p1.toNatClampNeg x6) b15 p1.toNatClampNeg x13) b22 p1.toNatClampNeg x20) b29 p1.toNatClampNeg x27) (fun (σ36 : Sto) => (sK σ36 a0 = 12 ∧ (wp_X12_forgetCounts a0 p1 σ36 (fun (σ38 : Sto) => (sK σ38 a0 = 12 ∧ (∃ b40 : Nat, sP σ38 a0 29 = some b40 ∧ (sK σ38 b40 = 14 ∧ (vp_in p1 (sN σ38 b40) ∧ (wp_X12_becomeNormal a0 p1 (stI σ38 b40 p1.toNatClampNeg (0 : Int32)) (fun (σ44 : Sto) => Q σ44))))))))))))))))))))))))))))))))))))
set_option maxHeartbeats 4000000 in
set_option maxRecDepth 100000 in
theorem t_X12_getsStart_45 {p : Program} {l : Launch} {e : Env} {s : State} {m : MethodId} {args : Array Value} {below : List Frame} {meth : Method} {c : Code} {D : va_G} {cy : Nat → ClassId} {A : Nat → Prop} {a0 : Nat} {Q : Sto → Prop} (C : Cx p s m args meth c D cy A cX12_getsStart 3 RX12) (hr : meth.sig.returnType = none) (hnm : meth.name = yX12_getsStart.name) (p1 : Int32) (σ : Sto) (h : b_X12_getsStart_45 a0  Q p1 σ) (ls : Array Slot) (hl : lv_has ls 3 [(0, .ref a0), (1, .int p1)]) : Xw p l e rm_X12_getsStart s m args below meth c D cy A σ 0 0 (MQ below (Qst D cy A (PsV Q)) args s rm_X12_getsStart.cells rm_X12_getsStart.slots A) (F0 m 45 ls []) := by
  unfold b_X12_getsStart_45 at h
  refine x_aload_n C dX12_getsStart_45 rfl (lv_at hl 0 rfl) ?_
  obtain ⟨g1, h⟩ := h
  refine x_getP C fl_RX12_44 g1 dX12_getsStart_46 ?_
  refine x_iload_n C dX12_getsStart_49 rfl (lv_at hl 1 rfl) ?_
  refine x_aload_n C dX12_getsStart_50 rfl (lv_at hl 0 rfl) ?_
  refine x_getP C fl_RX12_30 g1 dX12_getsStart_51 ?_
  refine x_iconst (v := 3) C dX12_getsStart_54 (by decide) ?_
  obtain ⟨b2, g3, h⟩ := h
  refine x_nn1 g3 ?_
  obtain ⟨g4, h⟩ := h
  obtain ⟨g5, h⟩ := h
  refine x_iald C g4 g5 dX12_getsStart_55 ?_
  refine x_topi (fun x6 e7 => ?_)
  have h := h x6 e7
  obtain ⟨b8, g9, h⟩ := h
  refine x_nn2 g9 ?_
  obtain ⟨g10, h⟩ := h
  obtain ⟨g11, h⟩ := h
  refine x_iast C g10 g11 dX12_getsStart_56 ?_
  refine x_aload_n C dX12_getsStart_57 rfl (lv_at hl 0 rfl) ?_
  refine x_getP C fl_RX12_47 g1 dX12_getsStart_58 ?_
  refine x_iload_n C dX12_getsStart_61 rfl (lv_at hl 1 rfl) ?_
  refine x_aload_n C dX12_getsStart_62 rfl (lv_at hl 0 rfl) ?_
  refine x_getP C fl_RX12_30 g1 dX12_getsStart_63 ?_
  refine x_iconst (v := 4) C dX12_getsStart_66 (by decide) ?_
  refine x_nn1 g3 ?_
  obtain ⟨g12, h⟩ := h
  refine x_iald C g4 g12 dX12_getsStart_67 ?_
  refine x_topi (fun x13 e14 => ?_)
  have h := h x13 e14
  obtain ⟨b15, g16, h⟩ := h
  refine x_nn2 g16 ?_
  obtain ⟨g17, h⟩ := h
  obtain ⟨g18, h⟩ := h
  refine x_iast C g17 g18 dX12_getsStart_68 ?_
  refine x_aload_n C dX12_getsStart_69 rfl (lv_at hl 0 rfl) ?_
  refine x_getP C fl_RX12_62 g1 dX12_getsStart_70 ?_
  refine x_iload_n C dX12_getsStart_73 rfl (lv_at hl 1 rfl) ?_
  refine x_aload_n C dX12_getsStart_74 rfl (lv_at hl 0 rfl) ?_
  refine x_getP C fl_RX12_30 g1 dX12_getsStart_75 ?_
  refine x_iconst (v := 5) C dX12_getsStart_78 (by decide) ?_
  refine x_nn1 g3 ?_
  obtain ⟨g19, h⟩ := h
  refine x_iald C g4 g19 dX12_getsStart_79 ?_
  refine x_topi (fun x20 e21 => ?_)
  have h := h x20 e21
  obtain ⟨b22, g23, h⟩ := h
  refine x_nn2 g23 ?_
  obtain ⟨g24, h⟩ := h
  obtain ⟨g25, h⟩ := h
  refine x_iast C g24 g25 dX12_getsStart_80 ?_
  refine x_aload_n C dX12_getsStart_81 rfl (lv_at hl 0 rfl) ?_
  refine x_getP C fl_RX12_59 g1 dX12_getsStart_82 ?_
  refine x_iload_n C dX12_getsStart_85 rfl (lv_at hl 1 rfl) ?_
  refine x_aload_n C dX12_getsStart_86 rfl (lv_at hl 0 rfl) ?_
  refine x_getP C fl_RX12_30 g1 dX12_getsStart_87 ?_
  refine x_bipush (v := 6) C dX12_getsStart_90 (by decide) ?_
  refine x_nn1 g3 ?_
  obtain ⟨g26, h⟩ := h
  refine x_iald C g4 g26 dX12_getsStart_92 ?_
  refine x_topi (fun x27 e28 => ?_)
  have h := h x27 e28
  obtain ⟨b29, g30, h⟩ := h
  refine x_nn2 g30 ?_
  obtain ⟨g31, h⟩ := h
  obtain ⟨g32, h⟩ := h
  refine x_iast C g31 g32 dX12_getsStart_93 ?_
  refine x_aload_n C dX12_getsStart_94 rfl (lv_at hl 0 rfl) ?_
  refine x_iload_n C dX12_getsStart_95 rfl (lv_at hl 1 rfl) ?_
  refine x_aload_n C dX12_getsStart_96 rfl (lv_at hl 0 rfl) ?_
  refine x_getP C fl_RX12_30 g1 dX12_getsStart_97 ?_
  refine x_bipush (v := 6) C dX12_getsStart_100 (by decide) ?_
  refine x_nn1 g3 ?_
  obtain ⟨g33, h⟩ := h
  refine x_iald C g4 g33 dX12_getsStart_102 ?_
  refine x_topi (fun x34 e35 => ?_)
  have h := h x34 e35
  refine x_bipush (v := 7) C dX12_getsStart_103 (by decide) ?_
  refine x_callV (rm := rm_X12_readEntries) (rest := []) (As := [.int p1, .int x34, .int (7 : Int32)]) C cy_RX12_427 g1 (by decide) (by decide) rfl rfl (Nat.le_of_ble_eq_true rfl) hl.1 dX12_getsStart_105 (c_X12_readEntries l D cy a0 p1 x34 (7 : Int32) (stI (stI (stI (stI σ b8 p1.toNatClampNeg x6) b15 p1.toNatClampNeg x13) b22 p1.toNatClampNeg x20) b29 p1.toNatClampNeg x27) _ h) (ks_v (fun σ36 h => ?_))
  refine x_aload_n C dX12_getsStart_108 rfl (lv_at hl 0 rfl) ?_
  refine x_iload_n C dX12_getsStart_109 rfl (lv_at hl 1 rfl) ?_
  obtain ⟨g37, h⟩ := h
  refine x_callV (rm := rm_X12_forgetCounts) (rest := []) (As := [.int p1]) C cy_RX12_355 g37 (by decide) (by decide) rfl rfl (Nat.le_of_ble_eq_true rfl) hl.1 dX12_getsStart_110 (c_X12_forgetCounts l D cy a0 p1 σ36 _ h) (ks_v (fun σ38 h => ?_))
  refine x_aload_n C dX12_getsStart_113 rfl (lv_at hl 0 rfl) ?_
  obtain ⟨g39, h⟩ := h
  refine x_getP C fl_RX12_68 g39 dX12_getsStart_114 ?_
  refine x_iload_n C dX12_getsStart_117 rfl (lv_at hl 1 rfl) ?_
  refine x_iconst (v := 0) C dX12_getsStart_118 (by decide) ?_
  obtain ⟨b40, g41, h⟩ := h
  refine x_nn2 g41 ?_
  obtain ⟨g42, h⟩ := h
  obtain ⟨g43, h⟩ := h
  refine x_iast C g42 g43 dX12_getsStart_119 ?_
  refine x_aload_n C dX12_getsStart_120 rfl (lv_at hl 0 rfl) ?_
  refine x_iload_n C dX12_getsStart_121 rfl (lv_at hl 1 rfl) ?_
  refine x_callV (rm := rm_X12_becomeNormal) (rest := []) (As := [.int p1]) C cy_RX12_393 g39 (by decide) (by decide) rfl rfl (Nat.le_of_ble_eq_true rfl) hl.1 dX12_getsStart_122 (c_X12_becomeNormal l D cy a0 p1 (stI σ38 b40 p1.toNatClampNeg (0 : Int32)) _ h) (ks_v (fun σ44 h => ?_))
  exact x_vret C hr dX12_getsStart_125 ⟨rfl, h⟩
def wp_X12_getsStart (a0 : Nat) (p1 : Int32) (p2 : Int32) (σ : Sto) (Q : Sto → Prop) : Prop := (sK σ a0 = 12 ∧ (∃ b2 : Nat, sP σ a0 21 = some b2 ∧ (sK σ b2 = 14 ∧ (vp_in p1 (sN σ b2) ∧ (∀ x6 : Int32, x6 = sI σ b2 p1.toNatClampNeg → (∃ b8 : Nat, sP σ a0 22 = some b8 ∧ (sK σ b8 = 14 ∧ (vp_in p1 (sN σ b8) ∧ (∀ x12 : Int32, x12 = sI σ b8 p1.toNatClampNeg → (∃ b14 : Nat, sP σ a0 15 = some b14 ∧ (sK σ b14 = 14 ∧ (vp_in (3 : Int32) (sN σ b14) ∧ (∀ x18 : Int32, x18 = sI σ b14 (3 : Int32).toNatClampNeg → (vp_in (4 : Int32) (sN σ b14) ∧ (∀ x21 : Int32, x21 = sI σ b14 (4 : Int32).toNatClampNeg → (wp_X12_isBehind x6 x12 x18 x21 σ (fun (x24 : Int32) (σ23 : Sto) => ((¬ x24 = 0 → b_X12_getsStart_45 a0  Q p1 σ23) ∧ (x24 = 0 → ((p2 = 0 → Q σ23) ∧ (¬ p2 = 0 → (sK σ23 a0 = 12 ∧ (∃ b28 : Nat, sP σ23 a0 23 = some b28 ∧ (sK σ23 b28 = 14 ∧ (vp_in p1 (sN σ23 b28) ∧ (∀ x32 : Int32, x32 = sI σ23 b28 p1.toNatClampNeg → ((x32 = (2 : Int32) → b_X12_getsStart_45 a0  Q p1 σ23) ∧ (¬ x32 = (2 : Int32) → Q σ23))))))))))))))))))))))))))))
set_option maxHeartbeats 4000000 in
set_option maxRecDepth 100000 in
theorem c_X12_getsStart (l : Launch) (D : va_G) (cy : Nat → ClassId) (a0 : Nat) (p1 : Int32) (p2 : Int32) (σ : Sto) (Q : Sto → Prop) (h : wp_X12_getsStart a0 p1 p2 σ Q) : Mt l D cy yX12_getsStart cX12_getsStart 3 none rm_X12_getsStart [.ref a0, .int p1, .int p2] σ (PsV Q) := by
  unfold wp_X12_getsStart at h
  refine mt_of (by decide +kernel) (Nat.le_of_ble_eq_true rfl) ?_
  intro p e s m args below meth c A ls C hr hnm hl
  have C : Cx p s m args meth c D cy A cX12_getsStart 3 RX12 := C
  have hl : lv_has ls 3 [(0, .ref a0), (1, .int p1), (2, .int p2)] := hl
  refine x_aload_n C dX12_getsStart_0 rfl (lv_at hl 0 rfl) ?_
  obtain ⟨g1, h⟩ := h
  refine x_getP C fl_RX12_44 g1 dX12_getsStart_1 ?_
  refine x_iload_n C dX12_getsStart_4 rfl (lv_at hl 1 rfl) ?_
  obtain ⟨b2, g3, h⟩ := h
  refine x_nn1 g3 ?_
  obtain ⟨g4, h⟩ := h
  obtain ⟨g5, h⟩ := h
  refine x_iald C g4 g5 dX12_getsStart_5 ?_
  refine x_topi (fun x6 e7 => ?_)
  have h := h x6 e7
  refine x_aload_n C dX12_getsStart_6 rfl (lv_at hl 0 rfl) ?_
  refine x_getP C fl_RX12_47 g1 dX12_getsStart_7 ?_
  refine x_iload_n C dX12_getsStart_10 rfl (lv_at hl 1 rfl) ?_
  obtain ⟨b8, g9, h⟩ := h
  refine x_nn1 g9 ?_
  obtain ⟨g10, h⟩ := h
  obtain ⟨g11, h⟩ := h
  refine x_iald C g10 g11 dX12_getsStart_11 ?_
  refine x_topi (fun x12 e13 => ?_)
  have h := h x12 e13
  refine x_aload_n C dX12_getsStart_12 rfl (lv_at hl 0 rfl) ?_
  refine x_getP C fl_RX12_30 g1 dX12_getsStart_13 ?_
  refine x_iconst (v := 3) C dX12_getsStart_16 (by decide) ?_
  obtain ⟨b14, g15, h⟩ := h
  refine x_nn1 g15 ?_
  obtain ⟨g16, h⟩ := h
  obtain ⟨g17, h⟩ := h
  refine x_iald C g16 g17 dX12_getsStart_17 ?_
  refine x_topi (fun x18 e19 => ?_)
  have h := h x18 e19
  refine x_aload_n C dX12_getsStart_18 rfl (lv_at hl 0 rfl) ?_
  refine x_getP C fl_RX12_30 g1 dX12_getsStart_19 ?_
  refine x_iconst (v := 4) C dX12_getsStart_22 (by decide) ?_
  refine x_nn1 g15 ?_
  obtain ⟨g20, h⟩ := h
  refine x_iald C g16 g20 dX12_getsStart_23 ?_
  refine x_topi (fun x21 e22 => ?_)
  have h := h x21 e22
  refine x_callS (rm := rm_X12_isBehind) (rest := []) (As := [.int x6, .int x12, .int x18, .int x21]) C cs_RX12_361 (by decide) (by decide) rfl rfl (Nat.le_of_ble_eq_true rfl) hl.1 dX12_getsStart_24 (c_X12_isBehind l D cy x6 x12 x18 x21 σ _ h) (ks_i (fun x24 σ23 h => ?_))
  refine x_if_ne (tgt := 45) C dX12_getsStart_27 (by decide) (fun c25 => ?_) (fun c25 => ?_)
  · have h := h.1 c25
    exact t_X12_getsStart_45 C hr hnm  p1 _ h ls (lv_sub hl [0, 1] rfl)
  · have h := h.2 c25
    refine x_iload_n C dX12_getsStart_30 rfl (lv_at hl 2 rfl) ?_
    refine x_if_eq (tgt := 44) C dX12_getsStart_31 (by decide) (fun c26 => ?_) (fun c26 => ?_)
    · have h := h.1 c26
      exact x_vret C hr dX12_getsStart_44 ⟨rfl, h⟩
    · have h := h.2 c26
      refine x_aload_n C dX12_getsStart_34 rfl (lv_at hl 0 rfl) ?_
      obtain ⟨g27, h⟩ := h
      refine x_getP C fl_RX12_50 g27 dX12_getsStart_35 ?_
      refine x_iload_n C dX12_getsStart_38 rfl (lv_at hl 1 rfl) ?_
      obtain ⟨b28, g29, h⟩ := h
      refine x_nn1 g29 ?_
      obtain ⟨g30, h⟩ := h
      obtain ⟨g31, h⟩ := h
      refine x_iald C g30 g31 dX12_getsStart_39 ?_
      refine x_topi (fun x32 e33 => ?_)
      have h := h x32 e33
      refine x_iconst (v := 2) C dX12_getsStart_40 (by decide) ?_
      refine x_icmp_eq (tgt := 45) C dX12_getsStart_41 (by decide) (fun c34 => ?_) (fun c34 => ?_)
      · have h := h.1 c34
        exact t_X12_getsStart_45 C hr hnm  p1 _ h ls (lv_sub hl [0, 1] rfl)
      · have h := h.2 c34
        exact x_vret C hr dX12_getsStart_44 ⟨rfl, h⟩
theorem dX12_lookUp_0 : decode cX12_lookUp 0 = .ok (.iload_n 2, 1) := by decide +kernel
theorem dX12_lookUp_1 : decode cX12_lookUp 1 = .ok (.iconst 1, 1) := by decide +kernel
theorem dX12_lookUp_2 : decode cX12_lookUp 2 = .ok (.aload_n 0, 1) := by decide +kernel
theorem dX12_lookUp_3 : decode cX12_lookUp 3 = .ok (.getfield 59, 3) := by decide +kernel
theorem dX12_lookUp_6 : decode cX12_lookUp 6 = .ok (.iload_n 1, 1) := by decide +kernel
theorem dX12_lookUp_7 : decode cX12_lookUp 7 = .ok (.iaload, 1) := by decide +kernel
theorem dX12_lookUp_8 : decode cX12_lookUp 8 = .ok (.invokestatic 270, 3) := by decide +kernel
theorem dX12_lookUp_11 : decode cX12_lookUp 11 = .ok (.ifCond .ne 4, 3) := by decide +kernel
theorem dX12_lookUp_14 : decode cX12_lookUp 14 = .ok (.return_, 1) := by decide +kernel
theorem dX12_lookUp_15 : decode cX12_lookUp 15 = .ok (.aload_n 0, 1) := by decide +kernel
theorem dX12_lookUp_16 : decode cX12_lookUp 16 = .ok (.getfield 30, 3) := by decide +kernel
theorem dX12_lookUp_19 : decode cX12_lookUp 19 = .ok (.iconst 1, 1) := by decide +kernel
theorem dX12_lookUp_20 : decode cX12_lookUp 20 = .ok (.iaload, 1) := by decide +kernel
theorem dX12_lookUp_21 : decode cX12_lookUp 21 = .ok (.istore_n 3, 1) := by decide +kernel
theorem dX12_lookUp_22 : decode cX12_lookUp 22 = .ok (.bipush 100, 2) := by decide +kernel
theorem dX12_lookUp_24 : decode cX12_lookUp 24 = .ok (.iload_n 1, 1) := by decide +kernel
theorem dX12_lookUp_25 : decode cX12_lookUp 25 = .ok (.imul, 1) := by decide +kernel
theorem dX12_lookUp_26 : decode cX12_lookUp 26 = .ok (.iload_n 2, 1) := by decide +kernel
theorem dX12_lookUp_27 : decode cX12_lookUp 27 = .ok (.iadd, 1) := by decide +kernel
theorem dX12_lookUp_28 : decode cX12_lookUp 28 = .ok (.iconst 1, 1) := by decide +kernel
theorem dX12_lookUp_29 : decode cX12_lookUp 29 = .ok (.isub, 1) := by decide +kernel
theorem dX12_lookUp_30 : decode cX12_lookUp 30 = .ok (.istore 4, 2) := by decide +kernel
theorem dX12_lookUp_32 : decode cX12_lookUp 32 = .ok (.aload_n 0, 1) := by decide +kernel
theorem dX12_lookUp_33 : decode cX12_lookUp 33 = .ok (.getfield 71, 3) := by decide +kernel
theorem dX12_lookUp_36 : decode cX12_lookUp 36 = .ok (.iload 4, 2) := by decide +kernel
theorem dX12_lookUp_38 : decode cX12_lookUp 38 = .ok (.baload, 1) := by decide +kernel
theorem dX12_lookUp_39 : decode cX12_lookUp 39 = .ok (.ifCond .ne 12, 3) := by decide +kernel
theorem dX12_lookUp_42 : decode cX12_lookUp 42 = .ok (.aload_n 0, 1) := by decide +kernel
theorem dX12_lookUp_43 : decode cX12_lookUp 43 = .ok (.iconst 3, 1) := by decide +kernel
theorem dX12_lookUp_44 : decode cX12_lookUp 44 = .ok (.iload_n 1, 1) := by decide +kernel
theorem dX12_lookUp_45 : decode cX12_lookUp 45 = .ok (.iload_n 3, 1) := by decide +kernel
theorem dX12_lookUp_46 : decode cX12_lookUp 46 = .ok (.iload_n 2, 1) := by decide +kernel
theorem dX12_lookUp_47 : decode cX12_lookUp 47 = .ok (.invokevirtual 300, 3) := by decide +kernel
theorem dX12_lookUp_50 : decode cX12_lookUp 50 = .ok (.return_, 1) := by decide +kernel
theorem dX12_lookUp_51 : decode cX12_lookUp 51 = .ok (.aload_n 0, 1) := by decide +kernel
theorem dX12_lookUp_52 : decode cX12_lookUp 52 = .ok (.iconst 2, 1) := by decide +kernel
theorem dX12_lookUp_53 : decode cX12_lookUp 53 = .ok (.iload_n 1, 1) := by decide +kernel
theorem dX12_lookUp_54 : decode cX12_lookUp 54 = .ok (.iload_n 3, 1) := by decide +kernel
theorem dX12_lookUp_55 : decode cX12_lookUp 55 = .ok (.invokevirtual 290, 3) := by decide +kernel
theorem dX12_lookUp_58 : decode cX12_lookUp 58 = .ok (.aload_n 0, 1) := by decide +kernel
theorem dX12_lookUp_59 : decode cX12_lookUp 59 = .ok (.iload_n 1, 1) := by decide +kernel
theorem dX12_lookUp_60 : decode cX12_lookUp 60 = .ok (.invokevirtual 294, 3) := by decide +kernel
theorem dX12_lookUp_63 : decode cX12_lookUp 63 = .ok (.aload_n 0, 1) := by decide +kernel
theorem dX12_lookUp_64 : decode cX12_lookUp 64 = .ok (.iload_n 2, 1) := by decide +kernel
theorem dX12_lookUp_65 : decode cX12_lookUp 65 = .ok (.invokevirtual 277, 3) := by decide +kernel
theorem dX12_lookUp_68 : decode cX12_lookUp 68 = .ok (.aload_n 0, 1) := by decide +kernel
theorem dX12_lookUp_69 : decode cX12_lookUp 69 = .ok (.aload_n 0, 1) := by decide +kernel
theorem dX12_lookUp_70 : decode cX12_lookUp 70 = .ok (.getfield 74, 3) := by decide +kernel
theorem dX12_lookUp_73 : decode cX12_lookUp 73 = .ok (.iload 4, 2) := by decide +kernel
theorem dX12_lookUp_75 : decode cX12_lookUp 75 = .ok (.iaload, 1) := by decide +kernel
theorem dX12_lookUp_76 : decode cX12_lookUp 76 = .ok (.invokevirtual 277, 3) := by decide +kernel
theorem dX12_lookUp_79 : decode cX12_lookUp 79 = .ok (.aload_n 0, 1) := by decide +kernel
theorem dX12_lookUp_80 : decode cX12_lookUp 80 = .ok (.aload_n 0, 1) := by decide +kernel
theorem dX12_lookUp_81 : decode cX12_lookUp 81 = .ok (.getfield 77, 3) := by decide +kernel
theorem dX12_lookUp_84 : decode cX12_lookUp 84 = .ok (.iload 4, 2) := by decide +kernel
theorem dX12_lookUp_86 : decode cX12_lookUp 86 = .ok (.iaload, 1) := by decide +kernel
theorem dX12_lookUp_87 : decode cX12_lookUp 87 = .ok (.invokevirtual 277, 3) := by decide +kernel
theorem dX12_lookUp_90 : decode cX12_lookUp 90 = .ok (.aload_n 0, 1) := by decide +kernel
theorem dX12_lookUp_91 : decode cX12_lookUp 91 = .ok (.aload_n 0, 1) := by decide +kernel
theorem dX12_lookUp_92 : decode cX12_lookUp 92 = .ok (.getfield 80, 3) := by decide +kernel
theorem dX12_lookUp_95 : decode cX12_lookUp 95 = .ok (.iload 4, 2) := by decide +kernel
theorem dX12_lookUp_97 : decode cX12_lookUp 97 = .ok (.iaload, 1) := by decide +kernel
theorem dX12_lookUp_98 : decode cX12_lookUp 98 = .ok (.invokevirtual 277, 3) := by decide +kernel
theorem dX12_lookUp_101 : decode cX12_lookUp 101 = .ok (.aload_n 0, 1) := by decide +kernel
theorem dX12_lookUp_102 : decode cX12_lookUp 102 = .ok (.aload_n 0, 1) := by decide +kernel
theorem dX12_lookUp_103 : decode cX12_lookUp 103 = .ok (.getfield 83, 3) := by decide +kernel
theorem dX12_lookUp_106 : decode cX12_lookUp 106 = .ok (.iload 4, 2) := by decide +kernel
theorem dX12_lookUp_108 : decode cX12_lookUp 108 = .ok (.iaload, 1) := by decide +kernel
theorem dX12_lookUp_109 : decode cX12_lookUp 109 = .ok (.invokevirtual 277, 3) := by decide +kernel
theorem dX12_lookUp_112 : decode cX12_lookUp 112 = .ok (.aload_n 0, 1) := by decide +kernel
theorem dX12_lookUp_113 : decode cX12_lookUp 113 = .ok (.aload_n 0, 1) := by decide +kernel
theorem dX12_lookUp_114 : decode cX12_lookUp 114 = .ok (.getfield 86, 3) := by decide +kernel
theorem dX12_lookUp_117 : decode cX12_lookUp 117 = .ok (.iload 4, 2) := by decide +kernel
theorem dX12_lookUp_119 : decode cX12_lookUp 119 = .ok (.iaload, 1) := by decide +kernel
theorem dX12_lookUp_120 : decode cX12_lookUp 120 = .ok (.invokevirtual 277, 3) := by decide +kernel
theorem dX12_lookUp_123 : decode cX12_lookUp 123 = .ok (.aload_n 0, 1) := by decide +kernel
theorem dX12_lookUp_124 : decode cX12_lookUp 124 = .ok (.invokevirtual 297, 3) := by decide +kernel
theorem dX12_lookUp_127 : decode cX12_lookUp 127 = .ok (.return_, 1) := by decide +kernel
abbrev rm_X12_lookUp : Room := { frames := 3, cells := 0, slots := 0, locals := 66 }
def wp_X12_lookUp (a0 : Nat) (p1 : Int32) (p2 : Int32) (σ : Sto) (Q : Sto → Prop) : Prop := (sK σ a0 = 12 ∧ (∃ b2 : Nat, sP σ a0 26 = some b2 ∧ (sK σ b2 = 14 ∧ (vp_in p1 (sN σ b2) ∧ (∀ x6 : Int32, x6 = sI σ b2 p1.toNatClampNeg → (wp_X12_in p2 (1 : Int32) x6 σ (fun (x9 : Int32) (σ8 : Sto) => ((¬ x9 = 0 → (sK σ8 a0 = 12 ∧ (∃ b12 : Nat, sP σ8 a0 15 = some b12 ∧ (sK σ8 b12 = 14 ∧ (vp_in (1 : Int32) (sN σ8 b12) ∧ (∀ x16 : Int32, x16 = sI σ8 b12 (1 : Int32).toNatClampNeg → (∀ x18 : Int32, x18 = (((100 : Int32) * p1) + p2) - (1 : Int32) → (∃ b20 : Nat, sP σ8 a0 30 = some b20 ∧ (sK σ8 b20 = 16 ∧ (vp_in x18 (sN σ8 b20) ∧ (∀ x24 : Int32, x24 = sI σ8 b20 x18.toNatClampNeg → ((¬ x24 = 0 → (wp_X12_begin a0 (2 : Int32) p1 x16 σ8 (fun (σ27 : Sto) => (sK σ27 a0 = 12 ∧ (wp_X12_addView a0 p1 σ27 (fun (σ29 : Sto) => (sK σ29 a0 = 12 ∧ (wp_X12_add a0 p2 σ29 (fun (σ31 : Sto) => (sK σ31 a0 = 12 ∧ (∃ b33 : Nat, sP σ31 a0 31 = some b33 ∧ (sK σ31 b33 = 14 ∧ (vp_in x18 (sN σ31 b33) ∧ (∀ x37 : Int32, x37 = sI σ31 b33 x18.toNatClampNeg → (wp_X12_add a0 x37 σ31 (fun (σ39 : Sto) => (sK σ39 a0 = 12 ∧ (∃ b41 : Nat, sP σ39 a0 32 = some b41 ∧ (sK σ39 b41 = 14 ∧ (vp_in x18 (sN σ39 b41) ∧ (∀ x45 : Int32, x45 = sI σ39 b41 x18.toNatClampNeg → (wp_X12_add a0 x45 σ39 (fun (σ47 : Sto) => (sK σ47 a0 = 12 ∧ (∃ b49 : Nat, sP σ47 a0 33 = some b49 ∧ (sK σ47 b49 = 14 ∧ (vp_in x18 (sN σ47 b49) ∧ (∀ x53 : Int32, x53 = sI σ47 b49 x18.toNatClampNeg → (wp_X12_add a0 x53 σ47 (fun (σ55 : Sto) => (sK σ55 a0 = 12 ∧ (∃ b57 : Nat, sP σ55 a0 34 = some b57 ∧ (sK σ55 b57 = 14 ∧ (vp_in x18 (sN σ55 b57) ∧ (∀ x61 : Int32, x61 = sI σ55 b57 x18.toNatClampNeg → (wp_X12_add a0 x61 σ55 (fun (σ63 : Sto) => (sK σ63 a0 = 12 ∧ (∃ b65 : Nat, sP σ63 a0 35 = some b65 ∧ (sK σ63 b65 = 14 ∧ (vp_in x18 (sN σ63 b65) ∧ (∀ x69 : Int32, x69 = sI σ63 b65 x18.toNatClampNeg → (wp_X12_add a0 x69 σ63 (fun (σ71 : Sto) => (sK σ71 a0 = 12 ∧ (wp_X12_post a0  σ71 (fun (σ73 : Sto) => Q σ73))))))))))))))))))))))))))))))))))))))))))))))) ∧ (x24 = 0 → (wp_X12_tell a0 (3 : Int32) p1 x16 p2 σ8 (fun (σ74 : Sto) => Q σ74))))))))))))))) ∧ (x9 = 0 → Q σ8)))))))))
set_option maxHeartbeats 4000000 in
set_option maxRecDepth 100000 in
theorem c_X12_lookUp (l : Launch) (D : va_G) (cy : Nat → ClassId) (a0 : Nat) (p1 : Int32) (p2 : Int32) (σ : Sto) (Q : Sto → Prop) (h : wp_X12_lookUp a0 p1 p2 σ Q) : Mt l D cy yX12_lookUp cX12_lookUp 5 none rm_X12_lookUp [.ref a0, .int p1, .int p2] σ (PsV Q) := by
  unfold wp_X12_lookUp at h
  refine mt_of (by decide +kernel) (Nat.le_of_ble_eq_true rfl) ?_
  intro p e s m args below meth c A ls C hr hnm hl
  have C : Cx p s m args meth c D cy A cX12_lookUp 5 RX12 := C
  have hl : lv_has ls 5 [(0, .ref a0), (1, .int p1), (2, .int p2)] := hl
  refine x_iload_n C dX12_lookUp_0 rfl (lv_at hl 2 rfl) ?_
  refine x_iconst (v := 1) C dX12_lookUp_1 (by decide) ?_
  refine x_aload_n C dX12_lookUp_2 rfl (lv_at hl 0 rfl) ?_
  obtain ⟨g1, h⟩ := h
  refine x_getP C fl_RX12_59 g1 dX12_lookUp_3 ?_
  refine x_iload_n C dX12_lookUp_6 rfl (lv_at hl 1 rfl) ?_
  obtain ⟨b2, g3, h⟩ := h
  refine x_nn1 g3 ?_
  obtain ⟨g4, h⟩ := h
  obtain ⟨g5, h⟩ := h
  refine x_iald C g4 g5 dX12_lookUp_7 ?_
  refine x_topi (fun x6 e7 => ?_)
  have h := h x6 e7
  refine x_callS (rm := rm_X12_in) (rest := []) (As := [.int p2, .int (1 : Int32), .int x6]) C cs_RX12_270 (by decide) (by decide) rfl rfl (Nat.le_of_ble_eq_true rfl) hl.1 dX12_lookUp_8 (c_X12_in l D cy p2 (1 : Int32) x6 σ _ h) (ks_i (fun x9 σ8 h => ?_))
  refine x_if_ne (tgt := 15) C dX12_lookUp_11 (by decide) (fun c10 => ?_) (fun c10 => ?_)
  · have h := h.1 c10
    refine x_aload_n C dX12_lookUp_15 rfl (lv_at hl 0 rfl) ?_
    obtain ⟨g11, h⟩ := h
    refine x_getP C fl_RX12_30 g11 dX12_lookUp_16 ?_
    refine x_iconst (v := 1) C dX12_lookUp_19 (by decide) ?_
    obtain ⟨b12, g13, h⟩ := h
    refine x_nn1 g13 ?_
    obtain ⟨g14, h⟩ := h
    obtain ⟨g15, h⟩ := h
    refine x_iald C g14 g15 dX12_lookUp_20 ?_
    refine x_topi (fun x16 e17 => ?_)
    have h := h x16 e17
    refine x_istore_n (i := 3) (lv' := [(3, .int x16), (0, .ref a0), (1, .int p1), (2, .int p2)]) C dX12_lookUp_21 rfl hl (by decide) (by first | rfl | simp [vrc, cat_i, cat_r, cat_l]) (fun ls hl => ?_)
    refine x_bipush (v := 100) C dX12_lookUp_22 (by decide) ?_
    refine x_iload_n C dX12_lookUp_24 rfl (lv_at hl 2 rfl) ?_
    refine x_imul C dX12_lookUp_25 ?_
    refine x_iload_n C dX12_lookUp_26 rfl (lv_at hl 3 rfl) ?_
    refine x_iadd C dX12_lookUp_27 ?_
    refine x_iconst (v := 1) C dX12_lookUp_28 (by decide) ?_
    refine x_isub C dX12_lookUp_29 ?_
    refine x_topi (fun x18 e19 => ?_)
    have h := h x18 e19
    refine x_istore (i := 4) (lv' := [(4, .int x18), (3, .int x16), (0, .ref a0), (1, .int p1), (2, .int p2)]) C dX12_lookUp_30 hl (by decide) (by first | rfl | simp [vrc, cat_i, cat_r, cat_l]) (fun ls hl => ?_)
    refine x_aload_n C dX12_lookUp_32 rfl (lv_at hl 2 rfl) ?_
    refine x_getP C fl_RX12_71 g11 dX12_lookUp_33 ?_
    refine x_iload C dX12_lookUp_36 (lv_at hl 0 rfl) ?_
    obtain ⟨b20, g21, h⟩ := h
    refine x_nn1 g21 ?_
    obtain ⟨g22, h⟩ := h
    obtain ⟨g23, h⟩ := h
    refine x_zald C g22 g23 dX12_lookUp_38 ?_
    refine x_topi (fun x24 e25 => ?_)
    have h := h x24 e25
    refine x_if_ne (tgt := 51) C dX12_lookUp_39 (by decide) (fun c26 => ?_) (fun c26 => ?_)
    · have h := h.1 c26
      refine x_aload_n C dX12_lookUp_51 rfl (lv_at hl 2 rfl) ?_
      refine x_iconst (v := 2) C dX12_lookUp_52 (by decide) ?_
      refine x_iload_n C dX12_lookUp_53 rfl (lv_at hl 3 rfl) ?_
      refine x_iload_n C dX12_lookUp_54 rfl (lv_at hl 1 rfl) ?_
      refine x_callV (rm := rm_X12_begin) (rest := []) (As := [.int (2 : Int32), .int p1, .int x16]) C cy_RX12_290 g11 (by decide) (by decide) rfl rfl (Nat.le_of_ble_eq_true rfl) hl.1 dX12_lookUp_55 (c_X12_begin l D cy a0 (2 : Int32) p1 x16 σ8 _ h) (ks_v (fun σ27 h => ?_))
      refine x_aload_n C dX12_lookUp_58 rfl (lv_at hl 2 rfl) ?_
      refine x_iload_n C dX12_lookUp_59 rfl (lv_at hl 3 rfl) ?_
      obtain ⟨g28, h⟩ := h
      refine x_callV (rm := rm_X12_addView) (rest := []) (As := [.int p1]) C cy_RX12_294 g28 (by decide) (by decide) rfl rfl (Nat.le_of_ble_eq_true rfl) hl.1 dX12_lookUp_60 (c_X12_addView l D cy a0 p1 σ27 _ h) (ks_v (fun σ29 h => ?_))
      refine x_aload_n C dX12_lookUp_63 rfl (lv_at hl 2 rfl) ?_
      refine x_iload_n C dX12_lookUp_64 rfl (lv_at hl 4 rfl) ?_
      obtain ⟨g30, h⟩ := h
      refine x_callV (rm := rm_X12_add) (rest := []) (As := [.int p2]) C cy_RX12_277 g30 (by decide) (by decide) rfl rfl (Nat.le_of_ble_eq_true rfl) hl.1 dX12_lookUp_65 (c_X12_add l D cy a0 p2 σ29 _ h) (ks_v (fun σ31 h => ?_))
      refine x_aload_n C dX12_lookUp_68 rfl (lv_at hl 2 rfl) ?_
      refine x_aload_n C dX12_lookUp_69 rfl (lv_at hl 2 rfl) ?_
      obtain ⟨g32, h⟩ := h
      refine x_getP C fl_RX12_74 g32 dX12_lookUp_70 ?_
      refine x_iload C dX12_lookUp_73 (lv_at hl 0 rfl) ?_
      obtain ⟨b33, g34, h⟩ := h
      refine x_nn1 g34 ?_
      obtain ⟨g35, h⟩ := h
      obtain ⟨g36, h⟩ := h
      refine x_iald C g35 g36 dX12_lookUp_75 ?_
      refine x_topi (fun x37 e38 => ?_)
      have h := h x37 e38
      refine x_callV (rm := rm_X12_add) (rest := []) (As := [.int x37]) C cy_RX12_277 g32 (by decide) (by decide) rfl rfl (Nat.le_of_ble_eq_true rfl) hl.1 dX12_lookUp_76 (c_X12_add l D cy a0 x37 σ31 _ h) (ks_v (fun σ39 h => ?_))
      refine x_aload_n C dX12_lookUp_79 rfl (lv_at hl 2 rfl) ?_
      refine x_aload_n C dX12_lookUp_80 rfl (lv_at hl 2 rfl) ?_
      obtain ⟨g40, h⟩ := h
      refine x_getP C fl_RX12_77 g40 dX12_lookUp_81 ?_
      refine x_iload C dX12_lookUp_84 (lv_at hl 0 rfl) ?_
      obtain ⟨b41, g42, h⟩ := h
      refine x_nn1 g42 ?_
      obtain ⟨g43, h⟩ := h
      obtain ⟨g44, h⟩ := h
      refine x_iald C g43 g44 dX12_lookUp_86 ?_
      refine x_topi (fun x45 e46 => ?_)
      have h := h x45 e46
      refine x_callV (rm := rm_X12_add) (rest := []) (As := [.int x45]) C cy_RX12_277 g40 (by decide) (by decide) rfl rfl (Nat.le_of_ble_eq_true rfl) hl.1 dX12_lookUp_87 (c_X12_add l D cy a0 x45 σ39 _ h) (ks_v (fun σ47 h => ?_))
      refine x_aload_n C dX12_lookUp_90 rfl (lv_at hl 2 rfl) ?_
      refine x_aload_n C dX12_lookUp_91 rfl (lv_at hl 2 rfl) ?_
      obtain ⟨g48, h⟩ := h
      refine x_getP C fl_RX12_80 g48 dX12_lookUp_92 ?_
      refine x_iload C dX12_lookUp_95 (lv_at hl 0 rfl) ?_
      obtain ⟨b49, g50, h⟩ := h
      refine x_nn1 g50 ?_
      obtain ⟨g51, h⟩ := h
      obtain ⟨g52, h⟩ := h
      refine x_iald C g51 g52 dX12_lookUp_97 ?_
      refine x_topi (fun x53 e54 => ?_)
      have h := h x53 e54
      refine x_callV (rm := rm_X12_add) (rest := []) (As := [.int x53]) C cy_RX12_277 g48 (by decide) (by decide) rfl rfl (Nat.le_of_ble_eq_true rfl) hl.1 dX12_lookUp_98 (c_X12_add l D cy a0 x53 σ47 _ h) (ks_v (fun σ55 h => ?_))
      refine x_aload_n C dX12_lookUp_101 rfl (lv_at hl 2 rfl) ?_
      refine x_aload_n C dX12_lookUp_102 rfl (lv_at hl 2 rfl) ?_
      obtain ⟨g56, h⟩ := h
      refine x_getP C fl_RX12_83 g56 dX12_lookUp_103 ?_
      refine x_iload C dX12_lookUp_106 (lv_at hl 0 rfl) ?_
      obtain ⟨b57, g58, h⟩ := h
      refine x_nn1 g58 ?_
      obtain ⟨g59, h⟩ := h
      obtain ⟨g60, h⟩ := h
      refine x_iald C g59 g60 dX12_lookUp_108 ?_
      refine x_topi (fun x61 e62 => ?_)
      have h := h x61 e62
      refine x_callV (rm := rm_X12_add) (rest := []) (As := [.int x61]) C cy_RX12_277 g56 (by decide) (by decide) rfl rfl (Nat.le_of_ble_eq_true rfl) hl.1 dX12_lookUp_109 (c_X12_add l D cy a0 x61 σ55 _ h) (ks_v (fun σ63 h => ?_))
      refine x_aload_n C dX12_lookUp_112 rfl (lv_at hl 2 rfl) ?_
      refine x_aload_n C dX12_lookUp_113 rfl (lv_at hl 2 rfl) ?_
      obtain ⟨g64, h⟩ := h
      refine x_getP C fl_RX12_86 g64 dX12_lookUp_114 ?_
      refine x_iload C dX12_lookUp_117 (lv_at hl 0 rfl) ?_
      obtain ⟨b65, g66, h⟩ := h
      refine x_nn1 g66 ?_
      obtain ⟨g67, h⟩ := h
      obtain ⟨g68, h⟩ := h
      refine x_iald C g67 g68 dX12_lookUp_119 ?_
      refine x_topi (fun x69 e70 => ?_)
      have h := h x69 e70
      refine x_callV (rm := rm_X12_add) (rest := []) (As := [.int x69]) C cy_RX12_277 g64 (by decide) (by decide) rfl rfl (Nat.le_of_ble_eq_true rfl) hl.1 dX12_lookUp_120 (c_X12_add l D cy a0 x69 σ63 _ h) (ks_v (fun σ71 h => ?_))
      refine x_aload_n C dX12_lookUp_123 rfl (lv_at hl 2 rfl) ?_
      obtain ⟨g72, h⟩ := h
      refine x_callV (rm := rm_X12_post) (rest := []) (As := []) C cy_RX12_297 g72 (by decide) (by decide) rfl rfl (Nat.le_of_ble_eq_true rfl) hl.1 dX12_lookUp_124 (c_X12_post l D cy a0  σ71 _ h) (ks_v (fun σ73 h => ?_))
      exact x_vret C hr dX12_lookUp_127 ⟨rfl, h⟩
    · have h := h.2 c26
      refine x_aload_n C dX12_lookUp_42 rfl (lv_at hl 2 rfl) ?_
      refine x_iconst (v := 3) C dX12_lookUp_43 (by decide) ?_
      refine x_iload_n C dX12_lookUp_44 rfl (lv_at hl 3 rfl) ?_
      refine x_iload_n C dX12_lookUp_45 rfl (lv_at hl 1 rfl) ?_
      refine x_iload_n C dX12_lookUp_46 rfl (lv_at hl 4 rfl) ?_
      refine x_callV (rm := rm_X12_tell) (rest := []) (As := [.int (3 : Int32), .int p1, .int x16, .int p2]) C cy_RX12_300 g11 (by decide) (by decide) rfl rfl (Nat.le_of_ble_eq_true rfl) hl.1 dX12_lookUp_47 (c_X12_tell l D cy a0 (3 : Int32) p1 x16 p2 σ8 _ h) (ks_v (fun σ74 h => ?_))
      exact x_vret C hr dX12_lookUp_50 ⟨rfl, h⟩
  · have h := h.2 c10
    exact x_vret C hr dX12_lookUp_14 ⟨rfl, h⟩
