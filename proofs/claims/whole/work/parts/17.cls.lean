theorem dX8_passTick_0 : decode cX8_passTick 0 = .ok (.aload_n 0, 1) := by decide +kernel
theorem dX8_passTick_1 : decode cX8_passTick 1 = .ok (.getfield 33, 3) := by decide +kernel
theorem dX8_passTick_4 : decode cX8_passTick 4 = .ok (.getfield 87, 3) := by decide +kernel
theorem dX8_passTick_7 : decode cX8_passTick 7 = .ok (.istore_n 2, 1) := by decide +kernel
theorem dX8_passTick_8 : decode cX8_passTick 8 = .ok (.aload_n 0, 1) := by decide +kernel
theorem dX8_passTick_9 : decode cX8_passTick 9 = .ok (.invokevirtual 59, 3) := by decide +kernel
theorem dX8_passTick_12 : decode cX8_passTick 12 = .ok (.istore_n 3, 1) := by decide +kernel
theorem dX8_passTick_13 : decode cX8_passTick 13 = .ok (.iload_n 3, 1) := by decide +kernel
theorem dX8_passTick_14 : decode cX8_passTick 14 = .ok (.ifCond .eq 15, 3) := by decide +kernel
theorem dX8_passTick_17 : decode cX8_passTick 17 = .ok (.aload_n 0, 1) := by decide +kernel
theorem dX8_passTick_18 : decode cX8_passTick 18 = .ok (.getfield 63, 3) := by decide +kernel
theorem dX8_passTick_21 : decode cX8_passTick 21 = .ok (.iconst 2, 1) := by decide +kernel
theorem dX8_passTick_22 : decode cX8_passTick 22 = .ok (.if_icmp .eq 7, 3) := by decide +kernel
theorem dX8_passTick_25 : decode cX8_passTick 25 = .ok (.iconst 1, 1) := by decide +kernel
theorem dX8_passTick_26 : decode cX8_passTick 26 = .ok (.goto 4, 3) := by decide +kernel
theorem dX8_passTick_29 : decode cX8_passTick 29 = .ok (.iconst 0, 1) := by decide +kernel
theorem dX8_passTick_30 : decode cX8_passTick 30 = .ok (.istore 4, 2) := by decide +kernel
theorem dX8_passTick_32 : decode cX8_passTick 32 = .ok (.iload_n 3, 1) := by decide +kernel
theorem dX8_passTick_33 : decode cX8_passTick 33 = .ok (.ifCond .ne 14, 3) := by decide +kernel
theorem dX8_passTick_36 : decode cX8_passTick 36 = .ok (.aload_n 0, 1) := by decide +kernel
theorem dX8_passTick_37 : decode cX8_passTick 37 = .ok (.getfield 63, 3) := by decide +kernel
theorem dX8_passTick_40 : decode cX8_passTick 40 = .ok (.ifCond .ne 7, 3) := by decide +kernel
theorem dX8_passTick_43 : decode cX8_passTick 43 = .ok (.iconst 1, 1) := by decide +kernel
theorem dX8_passTick_44 : decode cX8_passTick 44 = .ok (.goto 4, 3) := by decide +kernel
theorem dX8_passTick_47 : decode cX8_passTick 47 = .ok (.iconst 0, 1) := by decide +kernel
theorem dX8_passTick_48 : decode cX8_passTick 48 = .ok (.istore 5, 2) := by decide +kernel
theorem dX8_passTick_50 : decode cX8_passTick 50 = .ok (.aload_n 0, 1) := by decide +kernel
theorem dX8_passTick_51 : decode cX8_passTick 51 = .ok (.getfield 63, 3) := by decide +kernel
theorem dX8_passTick_54 : decode cX8_passTick 54 = .ok (.iconst 2, 1) := by decide +kernel
theorem dX8_passTick_55 : decode cX8_passTick 55 = .ok (.if_icmp .ne 22, 3) := by decide +kernel
theorem dX8_passTick_58 : decode cX8_passTick 58 = .ok (.iload_n 2, 1) := by decide +kernel
theorem dX8_passTick_59 : decode cX8_passTick 59 = .ok (.aload_n 0, 1) := by decide +kernel
theorem dX8_passTick_60 : decode cX8_passTick 60 = .ok (.getfield 276, 3) := by decide +kernel
theorem dX8_passTick_63 : decode cX8_passTick 63 = .ok (.isub, 1) := by decide +kernel
theorem dX8_passTick_64 : decode cX8_passTick 64 = .ok (.iconst 4, 1) := by decide +kernel
theorem dX8_passTick_65 : decode cX8_passTick 65 = .ok (.iload_n 1, 1) := by decide +kernel
theorem dX8_passTick_66 : decode cX8_passTick 66 = .ok (.imul, 1) := by decide +kernel
theorem dX8_passTick_67 : decode cX8_passTick 67 = .ok (.if_icmp .lt 10, 3) := by decide +kernel
theorem dX8_passTick_70 : decode cX8_passTick 70 = .ok (.aload_n 0, 1) := by decide +kernel
theorem dX8_passTick_71 : decode cX8_passTick 71 = .ok (.invokevirtual 312, 3) := by decide +kernel
theorem dX8_passTick_74 : decode cX8_passTick 74 = .ok (.goto 155, 3) := by decide +kernel
theorem dX8_passTick_77 : decode cX8_passTick 77 = .ok (.aload_n 0, 1) := by decide +kernel
theorem dX8_passTick_78 : decode cX8_passTick 78 = .ok (.getfield 63, 3) := by decide +kernel
theorem dX8_passTick_81 : decode cX8_passTick 81 = .ok (.ifCond .eq 20, 3) := by decide +kernel
theorem dX8_passTick_84 : decode cX8_passTick 84 = .ok (.iload_n 2, 1) := by decide +kernel
theorem dX8_passTick_85 : decode cX8_passTick 85 = .ok (.aload_n 0, 1) := by decide +kernel
theorem dX8_passTick_86 : decode cX8_passTick 86 = .ok (.getfield 241, 3) := by decide +kernel
theorem dX8_passTick_89 : decode cX8_passTick 89 = .ok (.isub, 1) := by decide +kernel
theorem dX8_passTick_90 : decode cX8_passTick 90 = .ok (.iload_n 1, 1) := by decide +kernel
theorem dX8_passTick_91 : decode cX8_passTick 91 = .ok (.if_icmp .lt 10, 3) := by decide +kernel
theorem dX8_passTick_94 : decode cX8_passTick 94 = .ok (.aload_n 0, 1) := by decide +kernel
theorem dX8_passTick_95 : decode cX8_passTick 95 = .ok (.invokevirtual 315, 3) := by decide +kernel
theorem dX8_passTick_98 : decode cX8_passTick 98 = .ok (.goto 131, 3) := by decide +kernel
theorem dX8_passTick_101 : decode cX8_passTick 101 = .ok (.iload 4, 2) := by decide +kernel
theorem dX8_passTick_103 : decode cX8_passTick 103 = .ok (.ifCond .eq 28, 3) := by decide +kernel
theorem dX8_passTick_106 : decode cX8_passTick 106 = .ok (.iload_n 2, 1) := by decide +kernel
theorem dX8_passTick_107 : decode cX8_passTick 107 = .ok (.aload_n 0, 1) := by decide +kernel
theorem dX8_passTick_108 : decode cX8_passTick 108 = .ok (.getfield 318, 3) := by decide +kernel
theorem dX8_passTick_111 : decode cX8_passTick 111 = .ok (.isub, 1) := by decide +kernel
theorem dX8_passTick_112 : decode cX8_passTick 112 = .ok (.iload_n 1, 1) := by decide +kernel
theorem dX8_passTick_113 : decode cX8_passTick 113 = .ok (.if_icmp .lt 18, 3) := by decide +kernel
theorem dX8_passTick_116 : decode cX8_passTick 116 = .ok (.aload_n 0, 1) := by decide +kernel
theorem dX8_passTick_117 : decode cX8_passTick 117 = .ok (.iload_n 2, 1) := by decide +kernel
theorem dX8_passTick_118 : decode cX8_passTick 118 = .ok (.putfield 318, 3) := by decide +kernel
theorem dX8_passTick_121 : decode cX8_passTick 121 = .ok (.aload_n 0, 1) := by decide +kernel
theorem dX8_passTick_122 : decode cX8_passTick 122 = .ok (.bipush 12, 2) := by decide +kernel
theorem dX8_passTick_124 : decode cX8_passTick 124 = .ok (.iconst 0, 1) := by decide +kernel
theorem dX8_passTick_125 : decode cX8_passTick 125 = .ok (.invokevirtual 214, 3) := by decide +kernel
theorem dX8_passTick_128 : decode cX8_passTick 128 = .ok (.goto 101, 3) := by decide +kernel
theorem dX8_passTick_131 : decode cX8_passTick 131 = .ok (.iload 4, 2) := by decide +kernel
theorem dX8_passTick_133 : decode cX8_passTick 133 = .ok (.ifCond .eq 43, 3) := by decide +kernel
theorem dX8_passTick_136 : decode cX8_passTick 136 = .ok (.aload_n 0, 1) := by decide +kernel
theorem dX8_passTick_137 : decode cX8_passTick 137 = .ok (.getfield 63, 3) := by decide +kernel
theorem dX8_passTick_140 : decode cX8_passTick 140 = .ok (.ifCond .ne 36, 3) := by decide +kernel
theorem dX8_passTick_143 : decode cX8_passTick 143 = .ok (.aload_n 0, 1) := by decide +kernel
theorem dX8_passTick_144 : decode cX8_passTick 144 = .ok (.getfield 25, 3) := by decide +kernel
theorem dX8_passTick_147 : decode cX8_passTick 147 = .ok (.getfield 66, 3) := by decide +kernel
theorem dX8_passTick_150 : decode cX8_passTick 150 = .ok (.aload_n 0, 1) := by decide +kernel
theorem dX8_passTick_151 : decode cX8_passTick 151 = .ok (.getfield 69, 3) := by decide +kernel
theorem dX8_passTick_154 : decode cX8_passTick 154 = .ok (.if_icmp .le 22, 3) := by decide +kernel
theorem dX8_passTick_157 : decode cX8_passTick 157 = .ok (.iload_n 2, 1) := by decide +kernel
theorem dX8_passTick_158 : decode cX8_passTick 158 = .ok (.aload_n 0, 1) := by decide +kernel
theorem dX8_passTick_159 : decode cX8_passTick 159 = .ok (.getfield 309, 3) := by decide +kernel
theorem dX8_passTick_162 : decode cX8_passTick 162 = .ok (.isub, 1) := by decide +kernel
theorem dX8_passTick_163 : decode cX8_passTick 163 = .ok (.iconst 4, 1) := by decide +kernel
theorem dX8_passTick_164 : decode cX8_passTick 164 = .ok (.iload_n 1, 1) := by decide +kernel
theorem dX8_passTick_165 : decode cX8_passTick 165 = .ok (.imul, 1) := by decide +kernel
theorem dX8_passTick_166 : decode cX8_passTick 166 = .ok (.if_icmp .lt 10, 3) := by decide +kernel
theorem dX8_passTick_169 : decode cX8_passTick 169 = .ok (.aload_n 0, 1) := by decide +kernel
theorem dX8_passTick_170 : decode cX8_passTick 170 = .ok (.invokevirtual 321, 3) := by decide +kernel
theorem dX8_passTick_173 : decode cX8_passTick 173 = .ok (.goto 56, 3) := by decide +kernel
theorem dX8_passTick_176 : decode cX8_passTick 176 = .ok (.iload 5, 2) := by decide +kernel
theorem dX8_passTick_178 : decode cX8_passTick 178 = .ok (.ifCond .eq 22, 3) := by decide +kernel
theorem dX8_passTick_181 : decode cX8_passTick 181 = .ok (.iload_n 2, 1) := by decide +kernel
theorem dX8_passTick_182 : decode cX8_passTick 182 = .ok (.aload_n 0, 1) := by decide +kernel
theorem dX8_passTick_183 : decode cX8_passTick 183 = .ok (.getfield 90, 3) := by decide +kernel
theorem dX8_passTick_186 : decode cX8_passTick 186 = .ok (.isub, 1) := by decide +kernel
theorem dX8_passTick_187 : decode cX8_passTick 187 = .ok (.iconst 3, 1) := by decide +kernel
theorem dX8_passTick_188 : decode cX8_passTick 188 = .ok (.iload_n 1, 1) := by decide +kernel
theorem dX8_passTick_189 : decode cX8_passTick 189 = .ok (.imul, 1) := by decide +kernel
theorem dX8_passTick_190 : decode cX8_passTick 190 = .ok (.if_icmp .lt 10, 3) := by decide +kernel
theorem dX8_passTick_193 : decode cX8_passTick 193 = .ok (.aload_n 0, 1) := by decide +kernel
theorem dX8_passTick_194 : decode cX8_passTick 194 = .ok (.invokevirtual 312, 3) := by decide +kernel
theorem dX8_passTick_197 : decode cX8_passTick 197 = .ok (.goto 32, 3) := by decide +kernel
theorem dX8_passTick_200 : decode cX8_passTick 200 = .ok (.iload 5, 2) := by decide +kernel
theorem dX8_passTick_202 : decode cX8_passTick 202 = .ok (.ifCond .eq 27, 3) := by decide +kernel
theorem dX8_passTick_205 : decode cX8_passTick 205 = .ok (.aload_n 0, 1) := by decide +kernel
theorem dX8_passTick_206 : decode cX8_passTick 206 = .ok (.getfield 51, 3) := by decide +kernel
theorem dX8_passTick_209 : decode cX8_passTick 209 = .ok (.getfield 145, 3) := by decide +kernel
theorem dX8_passTick_212 : decode cX8_passTick 212 = .ok (.ifCond .le 17, 3) := by decide +kernel
theorem dX8_passTick_215 : decode cX8_passTick 215 = .ok (.iload_n 2, 1) := by decide +kernel
theorem dX8_passTick_216 : decode cX8_passTick 216 = .ok (.aload_n 0, 1) := by decide +kernel
theorem dX8_passTick_217 : decode cX8_passTick 217 = .ok (.getfield 241, 3) := by decide +kernel
theorem dX8_passTick_220 : decode cX8_passTick 220 = .ok (.isub, 1) := by decide +kernel
theorem dX8_passTick_221 : decode cX8_passTick 221 = .ok (.iload_n 1, 1) := by decide +kernel
theorem dX8_passTick_222 : decode cX8_passTick 222 = .ok (.if_icmp .lt 7, 3) := by decide +kernel
theorem dX8_passTick_225 : decode cX8_passTick 225 = .ok (.aload_n 0, 1) := by decide +kernel
theorem dX8_passTick_226 : decode cX8_passTick 226 = .ok (.invokevirtual 315, 3) := by decide +kernel
theorem dX8_passTick_229 : decode cX8_passTick 229 = .ok (.return_, 1) := by decide +kernel
abbrev rm_X8_passTick : Room := { frames := 5, cells := 0, slots := 0, locals := 108 }
def b_X8_passTick_200 (a0 : Nat)  (Q : Sto → Prop) (p1 : Int32) (p2 : Int32) (p5 : Int32) (σ : Sto) : Prop := ((p5 = 0 → Q σ) ∧ (¬ p5 = 0 → (sK σ a0 = 8 ∧ (∃ b3 : Nat, sP σ a0 10 = some b3 ∧ (sK σ b3 = 5 ∧ (∀ x6 : Int32, x6 = sI σ b3 2 → ((x6 ≤ 0 → Q σ) ∧ (¬ x6 ≤ 0 → (∀ x9 : Int32, x9 = sI σ a0 12 → (((p2 - x9) < p1 → Q σ) ∧ (¬ (p2 - x9) < p1 → (wp_X8_askAgain a0  σ (fun (σ12 : Sto) => Q σ12)))))))))))))
set_option maxHeartbeats 4000000 in
set_option maxRecDepth 100000 in
theorem t_X8_passTick_200 {p : Program} {l : Launch} {e : Env} {s : State} {m : MethodId} {args : Array Value} {below : List Frame} {meth : Method} {c : Code} {D : va_G} {cy : Nat → ClassId} {A : Nat → Prop} {a0 : Nat} {Q : Sto → Prop} (C : Cx p s m args meth c D cy A cX8_passTick 6 RX8) (hr : meth.sig.returnType = none) (hnm : meth.name = yX8_passTick.name) (p1 : Int32) (p2 : Int32) (p5 : Int32) (σ : Sto) (h : b_X8_passTick_200 a0  Q p1 p2 p5 σ) (ls : Array Slot) (hl : lv_has ls 6 [(0, .ref a0), (1, .int p1), (2, .int p2), (5, .int p5)]) : Xw p l e rm_X8_passTick s m args below meth c D cy A σ 0 0 (MQ below (Qst D cy A (PsV Q)) args s rm_X8_passTick.cells rm_X8_passTick.slots A) (F0 m 200 ls []) := by
  unfold b_X8_passTick_200 at h
  refine x_iload C dX8_passTick_200 (lv_at hl 3 rfl) ?_
  refine x_if_eq (tgt := 229) C dX8_passTick_202 (by decide) (fun c1 => ?_) (fun c1 => ?_)
  · have h := h.1 c1
    exact x_vret C hr dX8_passTick_229 ⟨rfl, h⟩
  · have h := h.2 c1
    refine x_aload_n C dX8_passTick_205 rfl (lv_at hl 0 rfl) ?_
    obtain ⟨g2, h⟩ := h
    refine x_getP C fl_RX8_51 g2 dX8_passTick_206 ?_
    obtain ⟨b3, g4, h⟩ := h
    refine x_nn0 g4 ?_
    obtain ⟨g5, h⟩ := h
    refine x_getI C fl_RX8_145 g5 dX8_passTick_209 ?_
    refine x_topi (fun x6 e7 => ?_)
    have h := h x6 e7
    refine x_if_le (tgt := 229) C dX8_passTick_212 (by decide) (fun c8 => ?_) (fun c8 => ?_)
    · have h := h.1 c8
      exact x_vret C hr dX8_passTick_229 ⟨rfl, h⟩
    · have h := h.2 c8
      refine x_iload_n C dX8_passTick_215 rfl (lv_at hl 2 rfl) ?_
      refine x_aload_n C dX8_passTick_216 rfl (lv_at hl 0 rfl) ?_
      refine x_getI C fl_RX8_241 g2 dX8_passTick_217 ?_
      refine x_topi (fun x9 e10 => ?_)
      have h := h x9 e10
      refine x_isub C dX8_passTick_220 ?_
      refine x_iload_n C dX8_passTick_221 rfl (lv_at hl 1 rfl) ?_
      refine x_icmp_lt (tgt := 229) C dX8_passTick_222 (by decide) (fun c11 => ?_) (fun c11 => ?_)
      · have h := h.1 c11
        exact x_vret C hr dX8_passTick_229 ⟨rfl, h⟩
      · have h := h.2 c11
        refine x_aload_n C dX8_passTick_225 rfl (lv_at hl 0 rfl) ?_
        refine x_callV (rm := rm_X8_askAgain) (rest := []) (As := []) C cy_RX8_315 g2 (by decide) (by decide) rfl rfl (Nat.le_of_ble_eq_true rfl) hl.1 dX8_passTick_226 (c_X8_askAgain l D cy a0  σ _ h) (ks_v (fun σ12 h => ?_))
        exact x_vret C hr dX8_passTick_229 ⟨rfl, h⟩
def b_X8_passTick_176 (a0 : Nat)  (Q : Sto → Prop) (p1 : Int32) (p2 : Int32) (p5 : Int32) (σ : Sto) : Prop := ((p5 = 0 → b_X8_passTick_200 a0  Q p1 p2 p5 σ) ∧ (¬ p5 = 0 → (sK σ a0 = 8 ∧ (∀ x3 : Int32, x3 = sI σ a0 11 → (((p2 - x3) < ((3 : Int32) * p1) → b_X8_passTick_200 a0  Q p1 p2 p5 σ) ∧ (¬ (p2 - x3) < ((3 : Int32) * p1) → (wp_X8_turnToNextLead a0  σ (fun (σ6 : Sto) => Q σ6))))))))
set_option maxHeartbeats 4000000 in
set_option maxRecDepth 100000 in
theorem t_X8_passTick_176 {p : Program} {l : Launch} {e : Env} {s : State} {m : MethodId} {args : Array Value} {below : List Frame} {meth : Method} {c : Code} {D : va_G} {cy : Nat → ClassId} {A : Nat → Prop} {a0 : Nat} {Q : Sto → Prop} (C : Cx p s m args meth c D cy A cX8_passTick 6 RX8) (hr : meth.sig.returnType = none) (hnm : meth.name = yX8_passTick.name) (p1 : Int32) (p2 : Int32) (p5 : Int32) (σ : Sto) (h : b_X8_passTick_176 a0  Q p1 p2 p5 σ) (ls : Array Slot) (hl : lv_has ls 6 [(0, .ref a0), (1, .int p1), (2, .int p2), (5, .int p5)]) : Xw p l e rm_X8_passTick s m args below meth c D cy A σ 0 0 (MQ below (Qst D cy A (PsV Q)) args s rm_X8_passTick.cells rm_X8_passTick.slots A) (F0 m 176 ls []) := by
  unfold b_X8_passTick_176 at h
  refine x_iload C dX8_passTick_176 (lv_at hl 3 rfl) ?_
  refine x_if_eq (tgt := 200) C dX8_passTick_178 (by decide) (fun c1 => ?_) (fun c1 => ?_)
  · have h := h.1 c1
    exact t_X8_passTick_200 C hr hnm  p1 p2 p5 _ h ls (lv_sub hl [0, 1, 2, 3] rfl)
  · have h := h.2 c1
    refine x_iload_n C dX8_passTick_181 rfl (lv_at hl 2 rfl) ?_
    refine x_aload_n C dX8_passTick_182 rfl (lv_at hl 0 rfl) ?_
    obtain ⟨g2, h⟩ := h
    refine x_getI C fl_RX8_90 g2 dX8_passTick_183 ?_
    refine x_topi (fun x3 e4 => ?_)
    have h := h x3 e4
    refine x_isub C dX8_passTick_186 ?_
    refine x_iconst (v := 3) C dX8_passTick_187 (by decide) ?_
    refine x_iload_n C dX8_passTick_188 rfl (lv_at hl 1 rfl) ?_
    refine x_imul C dX8_passTick_189 ?_
    refine x_icmp_lt (tgt := 200) C dX8_passTick_190 (by decide) (fun c5 => ?_) (fun c5 => ?_)
    · have h := h.1 c5
      exact t_X8_passTick_200 C hr hnm  p1 p2 p5 _ h ls (lv_sub hl [0, 1, 2, 3] rfl)
    · have h := h.2 c5
      refine x_aload_n C dX8_passTick_193 rfl (lv_at hl 0 rfl) ?_
      refine x_callV (rm := rm_X8_turnToNextLead) (rest := []) (As := []) C cy_RX8_312 g2 (by decide) (by decide) rfl rfl (Nat.le_of_ble_eq_true rfl) hl.1 dX8_passTick_194 (c_X8_turnToNextLead l D cy a0  σ _ h) (ks_v (fun σ6 h => ?_))
      refine x_goto (tgt := 229) C dX8_passTick_197 (by decide) ?_
      exact x_vret C hr dX8_passTick_229 ⟨rfl, h⟩
def b_X8_passTick_131 (a0 : Nat)  (Q : Sto → Prop) (p1 : Int32) (p2 : Int32) (p4 : Int32) (p5 : Int32) (σ : Sto) : Prop := ((p4 = 0 → b_X8_passTick_176 a0  Q p1 p2 p5 σ) ∧ (¬ p4 = 0 → (sK σ a0 = 8 ∧ (∀ x3 : Int32, x3 = sI σ a0 4 → ((¬ x3 = 0 → b_X8_passTick_176 a0  Q p1 p2 p5 σ) ∧ (x3 = 0 → (∃ b6 : Nat, sP σ a0 7 = some b6 ∧ (sK σ b6 = 2 ∧ (∀ x9 : Int32, x9 = sI σ b6 1 → (∀ x11 : Int32, x11 = sI σ a0 8 → ((x9 ≤ x11 → b_X8_passTick_176 a0  Q p1 p2 p5 σ) ∧ (¬ x9 ≤ x11 → (∀ x14 : Int32, x14 = sI σ a0 15 → (((p2 - x14) < ((4 : Int32) * p1) → b_X8_passTick_176 a0  Q p1 p2 p5 σ) ∧ (¬ (p2 - x14) < ((4 : Int32) * p1) → (wp_X8_sendSync a0  σ (fun (σ17 : Sto) => Q σ17)))))))))))))))))
set_option maxHeartbeats 4000000 in
set_option maxRecDepth 100000 in
theorem t_X8_passTick_131 {p : Program} {l : Launch} {e : Env} {s : State} {m : MethodId} {args : Array Value} {below : List Frame} {meth : Method} {c : Code} {D : va_G} {cy : Nat → ClassId} {A : Nat → Prop} {a0 : Nat} {Q : Sto → Prop} (C : Cx p s m args meth c D cy A cX8_passTick 6 RX8) (hr : meth.sig.returnType = none) (hnm : meth.name = yX8_passTick.name) (p1 : Int32) (p2 : Int32) (p4 : Int32) (p5 : Int32) (σ : Sto) (h : b_X8_passTick_131 a0  Q p1 p2 p4 p5 σ) (ls : Array Slot) (hl : lv_has ls 6 [(0, .ref a0), (1, .int p1), (2, .int p2), (4, .int p4), (5, .int p5)]) : Xw p l e rm_X8_passTick s m args below meth c D cy A σ 0 0 (MQ below (Qst D cy A (PsV Q)) args s rm_X8_passTick.cells rm_X8_passTick.slots A) (F0 m 131 ls []) := by
  unfold b_X8_passTick_131 at h
  refine x_iload C dX8_passTick_131 (lv_at hl 3 rfl) ?_
  refine x_if_eq (tgt := 176) C dX8_passTick_133 (by decide) (fun c1 => ?_) (fun c1 => ?_)
  · have h := h.1 c1
    exact t_X8_passTick_176 C hr hnm  p1 p2 p5 _ h ls (lv_sub hl [0, 1, 2, 4] rfl)
  · have h := h.2 c1
    refine x_aload_n C dX8_passTick_136 rfl (lv_at hl 0 rfl) ?_
    obtain ⟨g2, h⟩ := h
    refine x_getI C fl_RX8_63 g2 dX8_passTick_137 ?_
    refine x_topi (fun x3 e4 => ?_)
    have h := h x3 e4
    refine x_if_ne (tgt := 176) C dX8_passTick_140 (by decide) (fun c5 => ?_) (fun c5 => ?_)
    · have h := h.1 c5
      exact t_X8_passTick_176 C hr hnm  p1 p2 p5 _ h ls (lv_sub hl [0, 1, 2, 4] rfl)
    · have h := h.2 c5
      refine x_aload_n C dX8_passTick_143 rfl (lv_at hl 0 rfl) ?_
      refine x_getP C fl_RX8_25 g2 dX8_passTick_144 ?_
      obtain ⟨b6, g7, h⟩ := h
      refine x_nn0 g7 ?_
      obtain ⟨g8, h⟩ := h
      refine x_getI C fl_RX8_66 g8 dX8_passTick_147 ?_
      refine x_topi (fun x9 e10 => ?_)
      have h := h x9 e10
      refine x_aload_n C dX8_passTick_150 rfl (lv_at hl 0 rfl) ?_
      refine x_getI C fl_RX8_69 g2 dX8_passTick_151 ?_
      refine x_topi (fun x11 e12 => ?_)
      have h := h x11 e12
      refine x_icmp_le (tgt := 176) C dX8_passTick_154 (by decide) (fun c13 => ?_) (fun c13 => ?_)
      · have h := h.1 c13
        exact t_X8_passTick_176 C hr hnm  p1 p2 p5 _ h ls (lv_sub hl [0, 1, 2, 4] rfl)
      · have h := h.2 c13
        refine x_iload_n C dX8_passTick_157 rfl (lv_at hl 2 rfl) ?_
        refine x_aload_n C dX8_passTick_158 rfl (lv_at hl 0 rfl) ?_
        refine x_getI C fl_RX8_309 g2 dX8_passTick_159 ?_
        refine x_topi (fun x14 e15 => ?_)
        have h := h x14 e15
        refine x_isub C dX8_passTick_162 ?_
        refine x_iconst (v := 4) C dX8_passTick_163 (by decide) ?_
        refine x_iload_n C dX8_passTick_164 rfl (lv_at hl 1 rfl) ?_
        refine x_imul C dX8_passTick_165 ?_
        refine x_icmp_lt (tgt := 176) C dX8_passTick_166 (by decide) (fun c16 => ?_) (fun c16 => ?_)
        · have h := h.1 c16
          exact t_X8_passTick_176 C hr hnm  p1 p2 p5 _ h ls (lv_sub hl [0, 1, 2, 4] rfl)
        · have h := h.2 c16
          refine x_aload_n C dX8_passTick_169 rfl (lv_at hl 0 rfl) ?_
          refine x_callV (rm := rm_X8_sendSync) (rest := []) (As := []) C cy_RX8_321 g2 (by decide) (by decide) rfl rfl (Nat.le_of_ble_eq_true rfl) hl.1 dX8_passTick_170 (c_X8_sendSync l D cy a0  σ _ h) (ks_v (fun σ17 h => ?_))
          refine x_goto (tgt := 229) C dX8_passTick_173 (by decide) ?_
          exact x_vret C hr dX8_passTick_229 ⟨rfl, h⟩
def b_X8_passTick_101 (a0 : Nat)  (Q : Sto → Prop) (p1 : Int32) (p2 : Int32) (p4 : Int32) (p5 : Int32) (σ : Sto) : Prop := ((p4 = 0 → b_X8_passTick_131 a0  Q p1 p2 p4 p5 σ) ∧ (¬ p4 = 0 → (sK σ a0 = 8 ∧ (∀ x3 : Int32, x3 = sI σ a0 14 → (((p2 - x3) < p1 → b_X8_passTick_131 a0  Q p1 p2 p4 p5 σ) ∧ (¬ (p2 - x3) < p1 → (wp_X8_sendOthers a0 (12 : Int32) (0 : Int32) (stI σ a0 14 p2) (fun (σ6 : Sto) => Q σ6))))))))
set_option maxHeartbeats 4000000 in
set_option maxRecDepth 100000 in
theorem t_X8_passTick_101 {p : Program} {l : Launch} {e : Env} {s : State} {m : MethodId} {args : Array Value} {below : List Frame} {meth : Method} {c : Code} {D : va_G} {cy : Nat → ClassId} {A : Nat → Prop} {a0 : Nat} {Q : Sto → Prop} (C : Cx p s m args meth c D cy A cX8_passTick 6 RX8) (hr : meth.sig.returnType = none) (hnm : meth.name = yX8_passTick.name) (p1 : Int32) (p2 : Int32) (p4 : Int32) (p5 : Int32) (σ : Sto) (h : b_X8_passTick_101 a0  Q p1 p2 p4 p5 σ) (ls : Array Slot) (hl : lv_has ls 6 [(0, .ref a0), (1, .int p1), (2, .int p2), (4, .int p4), (5, .int p5)]) : Xw p l e rm_X8_passTick s m args below meth c D cy A σ 0 0 (MQ below (Qst D cy A (PsV Q)) args s rm_X8_passTick.cells rm_X8_passTick.slots A) (F0 m 101 ls []) := by
  unfold b_X8_passTick_101 at h
  refine x_iload C dX8_passTick_101 (lv_at hl 3 rfl) ?_
  refine x_if_eq (tgt := 131) C dX8_passTick_103 (by decide) (fun c1 => ?_) (fun c1 => ?_)
  · have h := h.1 c1
    exact t_X8_passTick_131 C hr hnm  p1 p2 p4 p5 _ h ls (lv_sub hl [0, 1, 2, 3, 4] rfl)
  · have h := h.2 c1
    refine x_iload_n C dX8_passTick_106 rfl (lv_at hl 2 rfl) ?_
    refine x_aload_n C dX8_passTick_107 rfl (lv_at hl 0 rfl) ?_
    obtain ⟨g2, h⟩ := h
    refine x_getI C fl_RX8_318 g2 dX8_passTick_108 ?_
    refine x_topi (fun x3 e4 => ?_)
    have h := h x3 e4
    refine x_isub C dX8_passTick_111 ?_
    refine x_iload_n C dX8_passTick_112 rfl (lv_at hl 1 rfl) ?_
    refine x_icmp_lt (tgt := 131) C dX8_passTick_113 (by decide) (fun c5 => ?_) (fun c5 => ?_)
    · have h := h.1 c5
      exact t_X8_passTick_131 C hr hnm  p1 p2 p4 p5 _ h ls (lv_sub hl [0, 1, 2, 3, 4] rfl)
    · have h := h.2 c5
      refine x_aload_n C dX8_passTick_116 rfl (lv_at hl 0 rfl) ?_
      refine x_iload_n C dX8_passTick_117 rfl (lv_at hl 2 rfl) ?_
      refine x_putI C fl_RX8_318 (Or.inl rfl) g2 dX8_passTick_118 ?_
      refine x_aload_n C dX8_passTick_121 rfl (lv_at hl 0 rfl) ?_
      refine x_bipush (v := 12) C dX8_passTick_122 (by decide) ?_
      refine x_iconst (v := 0) C dX8_passTick_124 (by decide) ?_
      refine x_callV (rm := rm_X8_sendOthers) (rest := []) (As := [.int (12 : Int32), .int (0 : Int32)]) C cy_RX8_214 g2 (by decide) (by decide) rfl rfl (Nat.le_of_ble_eq_true rfl) hl.1 dX8_passTick_125 (c_X8_sendOthers l D cy a0 (12 : Int32) (0 : Int32) (stI σ a0 14 p2) _ h) (ks_v (fun σ6 h => ?_))
      refine x_goto (tgt := 229) C dX8_passTick_128 (by decide) ?_
      exact x_vret C hr dX8_passTick_229 ⟨rfl, h⟩
def b_X8_passTick_77 (a0 : Nat)  (Q : Sto → Prop) (p1 : Int32) (p2 : Int32) (p4 : Int32) (p5 : Int32) (σ : Sto) : Prop := (sK σ a0 = 8 ∧ (∀ x2 : Int32, x2 = sI σ a0 4 → ((x2 = 0 → b_X8_passTick_101 a0  Q p1 p2 p4 p5 σ) ∧ (¬ x2 = 0 → (∀ x5 : Int32, x5 = sI σ a0 12 → (((p2 - x5) < p1 → b_X8_passTick_101 a0  Q p1 p2 p4 p5 σ) ∧ (¬ (p2 - x5) < p1 → (wp_X8_askAgain a0  σ (fun (σ8 : Sto) => Q σ8)))))))))
set_option maxHeartbeats 4000000 in
set_option maxRecDepth 100000 in
theorem t_X8_passTick_77 {p : Program} {l : Launch} {e : Env} {s : State} {m : MethodId} {args : Array Value} {below : List Frame} {meth : Method} {c : Code} {D : va_G} {cy : Nat → ClassId} {A : Nat → Prop} {a0 : Nat} {Q : Sto → Prop} (C : Cx p s m args meth c D cy A cX8_passTick 6 RX8) (hr : meth.sig.returnType = none) (hnm : meth.name = yX8_passTick.name) (p1 : Int32) (p2 : Int32) (p4 : Int32) (p5 : Int32) (σ : Sto) (h : b_X8_passTick_77 a0  Q p1 p2 p4 p5 σ) (ls : Array Slot) (hl : lv_has ls 6 [(0, .ref a0), (1, .int p1), (2, .int p2), (4, .int p4), (5, .int p5)]) : Xw p l e rm_X8_passTick s m args below meth c D cy A σ 0 0 (MQ below (Qst D cy A (PsV Q)) args s rm_X8_passTick.cells rm_X8_passTick.slots A) (F0 m 77 ls []) := by
  unfold b_X8_passTick_77 at h
  refine x_aload_n C dX8_passTick_77 rfl (lv_at hl 0 rfl) ?_
  obtain ⟨g1, h⟩ := h
  refine x_getI C fl_RX8_63 g1 dX8_passTick_78 ?_
  refine x_topi (fun x2 e3 => ?_)
  have h := h x2 e3
  refine x_if_eq (tgt := 101) C dX8_passTick_81 (by decide) (fun c4 => ?_) (fun c4 => ?_)
  · have h := h.1 c4
    exact t_X8_passTick_101 C hr hnm  p1 p2 p4 p5 _ h ls (lv_sub hl [0, 1, 2, 3, 4] rfl)
  · have h := h.2 c4
    refine x_iload_n C dX8_passTick_84 rfl (lv_at hl 2 rfl) ?_
    refine x_aload_n C dX8_passTick_85 rfl (lv_at hl 0 rfl) ?_
    refine x_getI C fl_RX8_241 g1 dX8_passTick_86 ?_
    refine x_topi (fun x5 e6 => ?_)
    have h := h x5 e6
    refine x_isub C dX8_passTick_89 ?_
    refine x_iload_n C dX8_passTick_90 rfl (lv_at hl 1 rfl) ?_
    refine x_icmp_lt (tgt := 101) C dX8_passTick_91 (by decide) (fun c7 => ?_) (fun c7 => ?_)
    · have h := h.1 c7
      exact t_X8_passTick_101 C hr hnm  p1 p2 p4 p5 _ h ls (lv_sub hl [0, 1, 2, 3, 4] rfl)
    · have h := h.2 c7
      refine x_aload_n C dX8_passTick_94 rfl (lv_at hl 0 rfl) ?_
      refine x_callV (rm := rm_X8_askAgain) (rest := []) (As := []) C cy_RX8_315 g1 (by decide) (by decide) rfl rfl (Nat.le_of_ble_eq_true rfl) hl.1 dX8_passTick_95 (c_X8_askAgain l D cy a0  σ _ h) (ks_v (fun σ8 h => ?_))
      refine x_goto (tgt := 229) C dX8_passTick_98 (by decide) ?_
      exact x_vret C hr dX8_passTick_229 ⟨rfl, h⟩
def b_X8_passTick_48 (a0 : Nat)  (Q : Sto → Prop) (p1 : Int32) (p2 : Int32) (p4 : Int32) (s0 : Int32) (σ : Sto) : Prop := (sK σ a0 = 8 ∧ (∀ x2 : Int32, x2 = sI σ a0 4 → ((¬ x2 = (2 : Int32) → b_X8_passTick_77 a0  Q p1 p2 p4 s0 σ) ∧ (x2 = (2 : Int32) → (∀ x5 : Int32, x5 = sI σ a0 13 → (((p2 - x5) < ((4 : Int32) * p1) → b_X8_passTick_77 a0  Q p1 p2 p4 s0 σ) ∧ (¬ (p2 - x5) < ((4 : Int32) * p1) → (wp_X8_turnToNextLead a0  σ (fun (σ8 : Sto) => Q σ8)))))))))
set_option maxHeartbeats 4000000 in
set_option maxRecDepth 100000 in
theorem t_X8_passTick_48 {p : Program} {l : Launch} {e : Env} {s : State} {m : MethodId} {args : Array Value} {below : List Frame} {meth : Method} {c : Code} {D : va_G} {cy : Nat → ClassId} {A : Nat → Prop} {a0 : Nat} {Q : Sto → Prop} (C : Cx p s m args meth c D cy A cX8_passTick 6 RX8) (hr : meth.sig.returnType = none) (hnm : meth.name = yX8_passTick.name) (p1 : Int32) (p2 : Int32) (p4 : Int32) (s0 : Int32) (σ : Sto) (h : b_X8_passTick_48 a0  Q p1 p2 p4 s0 σ) (ls : Array Slot) (hl : lv_has ls 6 [(0, .ref a0), (1, .int p1), (2, .int p2), (4, .int p4)]) : Xw p l e rm_X8_passTick s m args below meth c D cy A σ 0 0 (MQ below (Qst D cy A (PsV Q)) args s rm_X8_passTick.cells rm_X8_passTick.slots A) (F0 m 48 ls [.int s0]) := by
  unfold b_X8_passTick_48 at h
  refine x_istore (i := 5) (lv' := [(5, .int s0), (0, .ref a0), (1, .int p1), (2, .int p2), (4, .int p4)]) C dX8_passTick_48 hl (by decide) (by first | rfl | simp [vrc, cat_i, cat_r, cat_l]) (fun ls hl => ?_)
  refine x_aload_n C dX8_passTick_50 rfl (lv_at hl 1 rfl) ?_
  obtain ⟨g1, h⟩ := h
  refine x_getI C fl_RX8_63 g1 dX8_passTick_51 ?_
  refine x_topi (fun x2 e3 => ?_)
  have h := h x2 e3
  refine x_iconst (v := 2) C dX8_passTick_54 (by decide) ?_
  refine x_icmp_ne (tgt := 77) C dX8_passTick_55 (by decide) (fun c4 => ?_) (fun c4 => ?_)
  · have h := h.1 c4
    exact t_X8_passTick_77 C hr hnm  p1 p2 p4 s0 _ h ls (lv_sub hl [1, 2, 3, 4, 0] rfl)
  · have h := h.2 c4
    refine x_iload_n C dX8_passTick_58 rfl (lv_at hl 3 rfl) ?_
    refine x_aload_n C dX8_passTick_59 rfl (lv_at hl 1 rfl) ?_
    refine x_getI C fl_RX8_276 g1 dX8_passTick_60 ?_
    refine x_topi (fun x5 e6 => ?_)
    have h := h x5 e6
    refine x_isub C dX8_passTick_63 ?_
    refine x_iconst (v := 4) C dX8_passTick_64 (by decide) ?_
    refine x_iload_n C dX8_passTick_65 rfl (lv_at hl 2 rfl) ?_
    refine x_imul C dX8_passTick_66 ?_
    refine x_icmp_lt (tgt := 77) C dX8_passTick_67 (by decide) (fun c7 => ?_) (fun c7 => ?_)
    · have h := h.1 c7
      exact t_X8_passTick_77 C hr hnm  p1 p2 p4 s0 _ h ls (lv_sub hl [1, 2, 3, 4, 0] rfl)
    · have h := h.2 c7
      refine x_aload_n C dX8_passTick_70 rfl (lv_at hl 1 rfl) ?_
      refine x_callV (rm := rm_X8_turnToNextLead) (rest := []) (As := []) C cy_RX8_312 g1 (by decide) (by decide) rfl rfl (Nat.le_of_ble_eq_true rfl) hl.1 dX8_passTick_71 (c_X8_turnToNextLead l D cy a0  σ _ h) (ks_v (fun σ8 h => ?_))
      refine x_goto (tgt := 229) C dX8_passTick_74 (by decide) ?_
      exact x_vret C hr dX8_passTick_229 ⟨rfl, h⟩
def b_X8_passTick_47 (a0 : Nat)  (Q : Sto → Prop) (p1 : Int32) (p2 : Int32) (p4 : Int32) (σ : Sto) : Prop := b_X8_passTick_48 a0  Q p1 p2 p4 (0 : Int32) σ
set_option maxHeartbeats 4000000 in
set_option maxRecDepth 100000 in
theorem t_X8_passTick_47 {p : Program} {l : Launch} {e : Env} {s : State} {m : MethodId} {args : Array Value} {below : List Frame} {meth : Method} {c : Code} {D : va_G} {cy : Nat → ClassId} {A : Nat → Prop} {a0 : Nat} {Q : Sto → Prop} (C : Cx p s m args meth c D cy A cX8_passTick 6 RX8) (hr : meth.sig.returnType = none) (hnm : meth.name = yX8_passTick.name) (p1 : Int32) (p2 : Int32) (p4 : Int32) (σ : Sto) (h : b_X8_passTick_47 a0  Q p1 p2 p4 σ) (ls : Array Slot) (hl : lv_has ls 6 [(0, .ref a0), (1, .int p1), (2, .int p2), (4, .int p4)]) : Xw p l e rm_X8_passTick s m args below meth c D cy A σ 0 0 (MQ below (Qst D cy A (PsV Q)) args s rm_X8_passTick.cells rm_X8_passTick.slots A) (F0 m 47 ls []) := by
  unfold b_X8_passTick_47 at h
  refine x_iconst (v := 0) C dX8_passTick_47 (by decide) ?_
  exact t_X8_passTick_48 C hr hnm  p1 p2 p4 (0 : Int32) _ h ls (lv_sub hl [0, 1, 2, 3] rfl)
def b_X8_passTick_30 (a0 : Nat)  (Q : Sto → Prop) (p1 : Int32) (p2 : Int32) (p3 : Int32) (s0 : Int32) (σ : Sto) : Prop := ((¬ p3 = 0 → b_X8_passTick_47 a0  Q p1 p2 s0 σ) ∧ (p3 = 0 → (sK σ a0 = 8 ∧ (∀ x3 : Int32, x3 = sI σ a0 4 → ((¬ x3 = 0 → b_X8_passTick_47 a0  Q p1 p2 s0 σ) ∧ (x3 = 0 → b_X8_passTick_48 a0  Q p1 p2 s0 (1 : Int32) σ))))))
set_option maxHeartbeats 4000000 in
set_option maxRecDepth 100000 in
theorem t_X8_passTick_30 {p : Program} {l : Launch} {e : Env} {s : State} {m : MethodId} {args : Array Value} {below : List Frame} {meth : Method} {c : Code} {D : va_G} {cy : Nat → ClassId} {A : Nat → Prop} {a0 : Nat} {Q : Sto → Prop} (C : Cx p s m args meth c D cy A cX8_passTick 6 RX8) (hr : meth.sig.returnType = none) (hnm : meth.name = yX8_passTick.name) (p1 : Int32) (p2 : Int32) (p3 : Int32) (s0 : Int32) (σ : Sto) (h : b_X8_passTick_30 a0  Q p1 p2 p3 s0 σ) (ls : Array Slot) (hl : lv_has ls 6 [(0, .ref a0), (1, .int p1), (2, .int p2), (3, .int p3)]) : Xw p l e rm_X8_passTick s m args below meth c D cy A σ 0 0 (MQ below (Qst D cy A (PsV Q)) args s rm_X8_passTick.cells rm_X8_passTick.slots A) (F0 m 30 ls [.int s0]) := by
  unfold b_X8_passTick_30 at h
  refine x_istore (i := 4) (lv' := [(4, .int s0), (0, .ref a0), (1, .int p1), (2, .int p2), (3, .int p3)]) C dX8_passTick_30 hl (by decide) (by first | rfl | simp [vrc, cat_i, cat_r, cat_l]) (fun ls hl => ?_)
  refine x_iload_n C dX8_passTick_32 rfl (lv_at hl 4 rfl) ?_
  refine x_if_ne (tgt := 47) C dX8_passTick_33 (by decide) (fun c1 => ?_) (fun c1 => ?_)
  · have h := h.1 c1
    exact t_X8_passTick_47 C hr hnm  p1 p2 s0 _ h ls (lv_sub hl [1, 2, 3, 0] rfl)
  · have h := h.2 c1
    refine x_aload_n C dX8_passTick_36 rfl (lv_at hl 1 rfl) ?_
    obtain ⟨g2, h⟩ := h
    refine x_getI C fl_RX8_63 g2 dX8_passTick_37 ?_
    refine x_topi (fun x3 e4 => ?_)
    have h := h x3 e4
    refine x_if_ne (tgt := 47) C dX8_passTick_40 (by decide) (fun c5 => ?_) (fun c5 => ?_)
    · have h := h.1 c5
      exact t_X8_passTick_47 C hr hnm  p1 p2 s0 _ h ls (lv_sub hl [1, 2, 3, 0] rfl)
    · have h := h.2 c5
      refine x_iconst (v := 1) C dX8_passTick_43 (by decide) ?_
      refine x_goto (tgt := 48) C dX8_passTick_44 (by decide) ?_
      exact t_X8_passTick_48 C hr hnm  p1 p2 s0 (1 : Int32) _ h ls (lv_sub hl [1, 2, 3, 0] rfl)
def b_X8_passTick_29 (a0 : Nat)  (Q : Sto → Prop) (p1 : Int32) (p2 : Int32) (p3 : Int32) (σ : Sto) : Prop := b_X8_passTick_30 a0  Q p1 p2 p3 (0 : Int32) σ
set_option maxHeartbeats 4000000 in
set_option maxRecDepth 100000 in
theorem t_X8_passTick_29 {p : Program} {l : Launch} {e : Env} {s : State} {m : MethodId} {args : Array Value} {below : List Frame} {meth : Method} {c : Code} {D : va_G} {cy : Nat → ClassId} {A : Nat → Prop} {a0 : Nat} {Q : Sto → Prop} (C : Cx p s m args meth c D cy A cX8_passTick 6 RX8) (hr : meth.sig.returnType = none) (hnm : meth.name = yX8_passTick.name) (p1 : Int32) (p2 : Int32) (p3 : Int32) (σ : Sto) (h : b_X8_passTick_29 a0  Q p1 p2 p3 σ) (ls : Array Slot) (hl : lv_has ls 6 [(0, .ref a0), (1, .int p1), (2, .int p2), (3, .int p3)]) : Xw p l e rm_X8_passTick s m args below meth c D cy A σ 0 0 (MQ below (Qst D cy A (PsV Q)) args s rm_X8_passTick.cells rm_X8_passTick.slots A) (F0 m 29 ls []) := by
  unfold b_X8_passTick_29 at h
  refine x_iconst (v := 0) C dX8_passTick_29 (by decide) ?_
  exact t_X8_passTick_30 C hr hnm  p1 p2 p3 (0 : Int32) _ h ls (lv_sub hl [0, 1, 2, 3] rfl)
def wp_X8_passTick (a0 : Nat) (p1 : Int32) (σ : Sto) (Q : Sto → Prop) : Prop := (sK σ a0 = 8 ∧ (∃ b2 : Nat, sP σ a0 1 = some b2 ∧ (sK σ b2 = 4 ∧ (∀ x5 : Int32, x5 = sI σ b2 8 → (wp_X8_leads a0  σ (fun (x8 : Int32) (σ7 : Sto) => ((x8 = 0 → b_X8_passTick_29 a0  Q p1 x5 x8 σ7) ∧ (¬ x8 = 0 → (sK σ7 a0 = 8 ∧ (∀ x11 : Int32, x11 = sI σ7 a0 4 → ((x11 = (2 : Int32) → b_X8_passTick_29 a0  Q p1 x5 x8 σ7) ∧ (¬ x11 = (2 : Int32) → b_X8_passTick_30 a0  Q p1 x5 x8 (1 : Int32) σ7))))))))))))
set_option maxHeartbeats 4000000 in
set_option maxRecDepth 100000 in
theorem c_X8_passTick (l : Launch) (D : va_G) (cy : Nat → ClassId) (a0 : Nat) (p1 : Int32) (σ : Sto) (Q : Sto → Prop) (h : wp_X8_passTick a0 p1 σ Q) : Mt l D cy yX8_passTick cX8_passTick 6 none rm_X8_passTick [.ref a0, .int p1] σ (PsV Q) := by
  unfold wp_X8_passTick at h
  refine mt_of (by decide +kernel) (Nat.le_of_ble_eq_true rfl) ?_
  intro p e s m args below meth c A ls C hr hnm hl
  have C : Cx p s m args meth c D cy A cX8_passTick 6 RX8 := C
  have hl : lv_has ls 6 [(0, .ref a0), (1, .int p1)] := hl
  refine x_aload_n C dX8_passTick_0 rfl (lv_at hl 0 rfl) ?_
  obtain ⟨g1, h⟩ := h
  refine x_getP C fl_RX8_33 g1 dX8_passTick_1 ?_
  obtain ⟨b2, g3, h⟩ := h
  refine x_nn0 g3 ?_
  obtain ⟨g4, h⟩ := h
  refine x_getI C fl_RX8_87 g4 dX8_passTick_4 ?_
  refine x_topi (fun x5 e6 => ?_)
  have h := h x5 e6
  refine x_istore_n (i := 2) (lv' := [(2, .int x5), (0, .ref a0), (1, .int p1)]) C dX8_passTick_7 rfl hl (by decide) (by first | rfl | simp [vrc, cat_i, cat_r, cat_l]) (fun ls hl => ?_)
  refine x_aload_n C dX8_passTick_8 rfl (lv_at hl 1 rfl) ?_
  refine x_callV (rm := rm_X8_leads) (rest := []) (As := []) C cy_RX8_59 g1 (by decide) (by decide) rfl rfl (Nat.le_of_ble_eq_true rfl) hl.1 dX8_passTick_9 (c_X8_leads l D cy a0  σ _ h) (ks_i (fun x8 σ7 h => ?_))
  refine x_istore_n (i := 3) (lv' := [(3, .int x8), (2, .int x5), (0, .ref a0), (1, .int p1)]) C dX8_passTick_12 rfl hl (by decide) (by first | rfl | simp [vrc, cat_i, cat_r, cat_l]) (fun ls hl => ?_)
  refine x_iload_n C dX8_passTick_13 rfl (lv_at hl 0 rfl) ?_
  refine x_if_eq (tgt := 29) C dX8_passTick_14 (by decide) (fun c9 => ?_) (fun c9 => ?_)
  · have h := h.1 c9
    exact t_X8_passTick_29 C hr hnm  p1 x5 x8 _ h ls (lv_sub hl [2, 3, 1, 0] rfl)
  · have h := h.2 c9
    refine x_aload_n C dX8_passTick_17 rfl (lv_at hl 2 rfl) ?_
    obtain ⟨g10, h⟩ := h
    refine x_getI C fl_RX8_63 g10 dX8_passTick_18 ?_
    refine x_topi (fun x11 e12 => ?_)
    have h := h x11 e12
    refine x_iconst (v := 2) C dX8_passTick_21 (by decide) ?_
    refine x_icmp_eq (tgt := 29) C dX8_passTick_22 (by decide) (fun c13 => ?_) (fun c13 => ?_)
    · have h := h.1 c13
      exact t_X8_passTick_29 C hr hnm  p1 x5 x8 _ h ls (lv_sub hl [2, 3, 1, 0] rfl)
    · have h := h.2 c13
      refine x_iconst (v := 1) C dX8_passTick_25 (by decide) ?_
      refine x_goto (tgt := 30) C dX8_passTick_26 (by decide) ?_
      exact t_X8_passTick_30 C hr hnm  p1 x5 x8 (1 : Int32) _ h ls (lv_sub hl [2, 3, 1, 0] rfl)
theorem dX8_writeHead_0 : decode cX8_writeHead 0 = .ok (.aload_n 1, 1) := by decide +kernel
theorem dX8_writeHead_1 : decode cX8_writeHead 1 = .ok (.bipush 79, 2) := by decide +kernel
theorem dX8_writeHead_3 : decode cX8_writeHead 3 = .ok (.invokevirtual 324, 3) := by decide +kernel
theorem dX8_writeHead_6 : decode cX8_writeHead 6 = .ok (.aload_n 1, 1) := by decide +kernel
theorem dX8_writeHead_7 : decode cX8_writeHead 7 = .ok (.bipush 82, 2) := by decide +kernel
theorem dX8_writeHead_9 : decode cX8_writeHead 9 = .ok (.invokevirtual 324, 3) := by decide +kernel
theorem dX8_writeHead_12 : decode cX8_writeHead 12 = .ok (.aload_n 1, 1) := by decide +kernel
theorem dX8_writeHead_13 : decode cX8_writeHead 13 = .ok (.bipush 87, 2) := by decide +kernel
theorem dX8_writeHead_15 : decode cX8_writeHead 15 = .ok (.invokevirtual 324, 3) := by decide +kernel
theorem dX8_writeHead_18 : decode cX8_writeHead 18 = .ok (.aload_n 1, 1) := by decide +kernel
theorem dX8_writeHead_19 : decode cX8_writeHead 19 = .ok (.bipush 75, 2) := by decide +kernel
theorem dX8_writeHead_21 : decode cX8_writeHead 21 = .ok (.invokevirtual 324, 3) := by decide +kernel
theorem dX8_writeHead_24 : decode cX8_writeHead 24 = .ok (.aload_n 1, 1) := by decide +kernel
theorem dX8_writeHead_25 : decode cX8_writeHead 25 = .ok (.aload_n 0, 1) := by decide +kernel
theorem dX8_writeHead_26 : decode cX8_writeHead 26 = .ok (.getfield 29, 3) := by decide +kernel
theorem dX8_writeHead_29 : decode cX8_writeHead 29 = .ok (.invokevirtual 324, 3) := by decide +kernel
theorem dX8_writeHead_32 : decode cX8_writeHead 32 = .ok (.aload_n 1, 1) := by decide +kernel
theorem dX8_writeHead_33 : decode cX8_writeHead 33 = .ok (.aload_n 0, 1) := by decide +kernel
theorem dX8_writeHead_34 : decode cX8_writeHead 34 = .ok (.getfield 63, 3) := by decide +kernel
theorem dX8_writeHead_37 : decode cX8_writeHead 37 = .ok (.invokevirtual 324, 3) := by decide +kernel
theorem dX8_writeHead_40 : decode cX8_writeHead 40 = .ok (.aload_n 1, 1) := by decide +kernel
theorem dX8_writeHead_41 : decode cX8_writeHead 41 = .ok (.iconst 2, 1) := by decide +kernel
theorem dX8_writeHead_42 : decode cX8_writeHead 42 = .ok (.invokevirtual 328, 3) := by decide +kernel
theorem dX8_writeHead_45 : decode cX8_writeHead 45 = .ok (.aload_n 1, 1) := by decide +kernel
theorem dX8_writeHead_46 : decode cX8_writeHead 46 = .ok (.aload_n 0, 1) := by decide +kernel
theorem dX8_writeHead_47 : decode cX8_writeHead 47 = .ok (.getfield 13, 3) := by decide +kernel
theorem dX8_writeHead_50 : decode cX8_writeHead 50 = .ok (.invokestatic 136, 3) := by decide +kernel
theorem dX8_writeHead_53 : decode cX8_writeHead 53 = .ok (.invokevirtual 331, 3) := by decide +kernel
theorem dX8_writeHead_56 : decode cX8_writeHead 56 = .ok (.aload_n 1, 1) := by decide +kernel
theorem dX8_writeHead_57 : decode cX8_writeHead 57 = .ok (.aload_n 0, 1) := by decide +kernel
theorem dX8_writeHead_58 : decode cX8_writeHead 58 = .ok (.getfield 13, 3) := by decide +kernel
theorem dX8_writeHead_61 : decode cX8_writeHead 61 = .ok (.invokestatic 133, 3) := by decide +kernel
theorem dX8_writeHead_64 : decode cX8_writeHead 64 = .ok (.invokevirtual 331, 3) := by decide +kernel
theorem dX8_writeHead_67 : decode cX8_writeHead 67 = .ok (.aload_n 1, 1) := by decide +kernel
theorem dX8_writeHead_68 : decode cX8_writeHead 68 = .ok (.aload_n 0, 1) := by decide +kernel
theorem dX8_writeHead_69 : decode cX8_writeHead 69 = .ok (.getfield 19, 3) := by decide +kernel
theorem dX8_writeHead_72 : decode cX8_writeHead 72 = .ok (.invokestatic 136, 3) := by decide +kernel
theorem dX8_writeHead_75 : decode cX8_writeHead 75 = .ok (.invokevirtual 331, 3) := by decide +kernel
theorem dX8_writeHead_78 : decode cX8_writeHead 78 = .ok (.aload_n 1, 1) := by decide +kernel
theorem dX8_writeHead_79 : decode cX8_writeHead 79 = .ok (.aload_n 0, 1) := by decide +kernel
theorem dX8_writeHead_80 : decode cX8_writeHead 80 = .ok (.getfield 19, 3) := by decide +kernel
theorem dX8_writeHead_83 : decode cX8_writeHead 83 = .ok (.invokestatic 133, 3) := by decide +kernel
theorem dX8_writeHead_86 : decode cX8_writeHead 86 = .ok (.invokevirtual 331, 3) := by decide +kernel
theorem dX8_writeHead_89 : decode cX8_writeHead 89 = .ok (.aload_n 1, 1) := by decide +kernel
theorem dX8_writeHead_90 : decode cX8_writeHead 90 = .ok (.aload_n 0, 1) := by decide +kernel
theorem dX8_writeHead_91 : decode cX8_writeHead 91 = .ok (.getfield 25, 3) := by decide +kernel
theorem dX8_writeHead_94 : decode cX8_writeHead 94 = .ok (.getfield 142, 3) := by decide +kernel
theorem dX8_writeHead_97 : decode cX8_writeHead 97 = .ok (.invokevirtual 331, 3) := by decide +kernel
theorem dX8_writeHead_100 : decode cX8_writeHead 100 = .ok (.aload_n 1, 1) := by decide +kernel
theorem dX8_writeHead_101 : decode cX8_writeHead 101 = .ok (.aload_n 0, 1) := by decide +kernel
theorem dX8_writeHead_102 : decode cX8_writeHead 102 = .ok (.getfield 69, 3) := by decide +kernel
theorem dX8_writeHead_105 : decode cX8_writeHead 105 = .ok (.invokevirtual 331, 3) := by decide +kernel
theorem dX8_writeHead_108 : decode cX8_writeHead 108 = .ok (.aload_n 1, 1) := by decide +kernel
theorem dX8_writeHead_109 : decode cX8_writeHead 109 = .ok (.aload_n 0, 1) := by decide +kernel
theorem dX8_writeHead_110 : decode cX8_writeHead 110 = .ok (.getfield 202, 3) := by decide +kernel
theorem dX8_writeHead_113 : decode cX8_writeHead 113 = .ok (.invokevirtual 331, 3) := by decide +kernel
theorem dX8_writeHead_116 : decode cX8_writeHead 116 = .ok (.aload_n 1, 1) := by decide +kernel
theorem dX8_writeHead_117 : decode cX8_writeHead 117 = .ok (.aload_n 0, 1) := by decide +kernel
theorem dX8_writeHead_118 : decode cX8_writeHead 118 = .ok (.getfield 25, 3) := by decide +kernel
theorem dX8_writeHead_121 : decode cX8_writeHead 121 = .ok (.getfield 66, 3) := by decide +kernel
theorem dX8_writeHead_124 : decode cX8_writeHead 124 = .ok (.invokevirtual 331, 3) := by decide +kernel
theorem dX8_writeHead_127 : decode cX8_writeHead 127 = .ok (.return_, 1) := by decide +kernel
abbrev rm_X8_writeHead : Room := { frames := 2, cells := 0, slots := 0, locals := 43 }
def wp_X8_writeHead (a0 : Nat) (p1 : Option Nat) (σ : Sto) (Q : Sto → Prop) : Prop := (∃ b1 : Nat, p1 = some b1 ∧ (sK σ b1 = 0 ∧ (wp_X0_add b1 (79 : Int32) σ (fun (σ4 : Sto) => (sK σ4 b1 = 0 ∧ (wp_X0_add b1 (82 : Int32) σ4 (fun (σ6 : Sto) => (sK σ6 b1 = 0 ∧ (wp_X0_add b1 (87 : Int32) σ6 (fun (σ8 : Sto) => (sK σ8 b1 = 0 ∧ (wp_X0_add b1 (75 : Int32) σ8 (fun (σ10 : Sto) => (sK σ10 a0 = 8 ∧ (∀ x12 : Int32, x12 = sI σ10 a0 0 → (sK σ10 b1 = 0 ∧ (wp_X0_add b1 x12 σ10 (fun (σ15 : Sto) => (sK σ15 a0 = 8 ∧ (∀ x17 : Int32, x17 = sI σ15 a0 4 → (sK σ15 b1 = 0 ∧ (wp_X0_add b1 x17 σ15 (fun (σ20 : Sto) => (sK σ20 b1 = 0 ∧ (wp_X0_addZeros b1 (2 : Int32) σ20 (fun (σ22 : Sto) => (sK σ22 a0 = 8 ∧ (∀ y24 : Int64, y24 = sJ σ22 a0 5 → (wp_X11_leadOf y24 σ22 (fun (x27 : Int32) (σ26 : Sto) => (sK σ26 b1 = 0 ∧ (wp_X0_addWord b1 x27 σ26 (fun (σ29 : Sto) => (sK σ29 a0 = 8 ∧ (∀ y31 : Int64, y31 = sJ σ29 a0 5 → (wp_X11_sessionOf y31 σ29 (fun (x34 : Int32) (σ33 : Sto) => (sK σ33 b1 = 0 ∧ (wp_X0_addWord b1 x34 σ33 (fun (σ36 : Sto) => (sK σ36 a0 = 8 ∧ (∀ y38 : Int64, y38 = sJ σ36 a0 6 → (wp_X11_leadOf y38 σ36 (fun (x41 : Int32) (σ40 : Sto) => (sK σ40 b1 = 0 ∧ (wp_X0_addWord b1 x41 σ40 (fun (σ43 : Sto) => (sK σ43 a0 = 8 ∧ (∀ y45 : Int64, y45 = sJ σ43 a0 6 → (wp_X11_sessionOf y45 σ43 (fun (x48 : Int32) (σ47 : Sto) => (sK σ47 b1 = 0 ∧ (wp_X0_addWord b1 x48 σ47 (fun (σ50 : Sto) => (sK σ50 a0 = 8 ∧ (∃ b52 : Nat, sP σ50 a0 7 = some b52 ∧ (sK σ50 b52 = 2 ∧ (∀ x55 : Int32, x55 = sI σ50 b52 2 → (sK σ50 b1 = 0 ∧ (wp_X0_addWord b1 x55 σ50 (fun (σ58 : Sto) => (sK σ58 a0 = 8 ∧ (∀ x60 : Int32, x60 = sI σ58 a0 8 → (sK σ58 b1 = 0 ∧ (wp_X0_addWord b1 x60 σ58 (fun (σ63 : Sto) => (sK σ63 a0 = 8 ∧ (∀ x65 : Int32, x65 = sI σ63 a0 9 → (sK σ63 b1 = 0 ∧ (wp_X0_addWord b1 x65 σ63 (fun (σ68 : Sto) => (sK σ68 a0 = 8 ∧ (∃ b70 : Nat, sP σ68 a0 7 = some b70 ∧ (sK σ68 b70 = 2 ∧ (∀ x73 : Int32, x73 = sI σ68 b70 1 → (sK σ68 b1 = 0 ∧ (wp_X0_addWord b1 x73 σ68 (fun (σ76 : Sto) => Q σ76))))))))))))))))))))))))))))))))))))))))))))))))))))))))))))))))))))))))))))))
set_option maxHeartbeats 4000000 in
set_option maxRecDepth 100000 in
theorem c_X8_writeHead (l : Launch) (D : va_G) (cy : Nat → ClassId) (a0 : Nat) (p1 : Option Nat) (σ : Sto) (Q : Sto → Prop) (h : wp_X8_writeHead a0 p1 σ Q) : Mt l D cy yX8_writeHead cX8_writeHead 2 none rm_X8_writeHead [.ref a0, va_rf p1] σ (PsV Q) := by
  unfold wp_X8_writeHead at h
  refine mt_of (by decide +kernel) (by simp [lg_sl, vrc, cat_i, cat_r, cat_l]) ?_
  intro p e s m args below meth c A ls C hr hnm hl
  have C : Cx p s m args meth c D cy A cX8_writeHead 2 RX8 := C
  have hl : lv_has ls 2 [(0, .ref a0), (1, va_rf p1)] := by simpa [lv_args, vrc, cat_i, cat_r, cat_l] using hl
  refine x_aload_nq C dX8_writeHead_0 rfl (lv_at hl 1 rfl) ?_
  refine x_bipush (v := 79) C dX8_writeHead_1 (by decide) ?_
  obtain ⟨b1, g2, h⟩ := h
  refine x_nn1 g2 ?_
  obtain ⟨g3, h⟩ := h
  refine x_callV (rm := rm_X0_add) (rest := []) (As := [.int (79 : Int32)]) C cy_RX8_324 g3 (by decide) (by decide) rfl rfl (Nat.le_of_ble_eq_true rfl) hl.1 dX8_writeHead_3 (c_X0_add l D cy b1 (79 : Int32) σ _ h) (ks_v (fun σ4 h => ?_))
  refine x_aload_nq C dX8_writeHead_6 rfl (lv_at hl 1 rfl) ?_
  refine x_bipush (v := 82) C dX8_writeHead_7 (by decide) ?_
  refine x_nn1 g2 ?_
  obtain ⟨g5, h⟩ := h
  refine x_callV (rm := rm_X0_add) (rest := []) (As := [.int (82 : Int32)]) C cy_RX8_324 g5 (by decide) (by decide) rfl rfl (Nat.le_of_ble_eq_true rfl) hl.1 dX8_writeHead_9 (c_X0_add l D cy b1 (82 : Int32) σ4 _ h) (ks_v (fun σ6 h => ?_))
  refine x_aload_nq C dX8_writeHead_12 rfl (lv_at hl 1 rfl) ?_
  refine x_bipush (v := 87) C dX8_writeHead_13 (by decide) ?_
  refine x_nn1 g2 ?_
  obtain ⟨g7, h⟩ := h
  refine x_callV (rm := rm_X0_add) (rest := []) (As := [.int (87 : Int32)]) C cy_RX8_324 g7 (by decide) (by decide) rfl rfl (Nat.le_of_ble_eq_true rfl) hl.1 dX8_writeHead_15 (c_X0_add l D cy b1 (87 : Int32) σ6 _ h) (ks_v (fun σ8 h => ?_))
  refine x_aload_nq C dX8_writeHead_18 rfl (lv_at hl 1 rfl) ?_
  refine x_bipush (v := 75) C dX8_writeHead_19 (by decide) ?_
  refine x_nn1 g2 ?_
  obtain ⟨g9, h⟩ := h
  refine x_callV (rm := rm_X0_add) (rest := []) (As := [.int (75 : Int32)]) C cy_RX8_324 g9 (by decide) (by decide) rfl rfl (Nat.le_of_ble_eq_true rfl) hl.1 dX8_writeHead_21 (c_X0_add l D cy b1 (75 : Int32) σ8 _ h) (ks_v (fun σ10 h => ?_))
  refine x_aload_nq C dX8_writeHead_24 rfl (lv_at hl 1 rfl) ?_
  refine x_aload_n C dX8_writeHead_25 rfl (lv_at hl 0 rfl) ?_
  obtain ⟨g11, h⟩ := h
  refine x_getI C fl_RX8_29 g11 dX8_writeHead_26 ?_
  refine x_topi (fun x12 e13 => ?_)
  have h := h x12 e13
  refine x_nn1 g2 ?_
  obtain ⟨g14, h⟩ := h
  refine x_callV (rm := rm_X0_add) (rest := []) (As := [.int x12]) C cy_RX8_324 g14 (by decide) (by decide) rfl rfl (Nat.le_of_ble_eq_true rfl) hl.1 dX8_writeHead_29 (c_X0_add l D cy b1 x12 σ10 _ h) (ks_v (fun σ15 h => ?_))
  refine x_aload_nq C dX8_writeHead_32 rfl (lv_at hl 1 rfl) ?_
  refine x_aload_n C dX8_writeHead_33 rfl (lv_at hl 0 rfl) ?_
  obtain ⟨g16, h⟩ := h
  refine x_getI C fl_RX8_63 g16 dX8_writeHead_34 ?_
  refine x_topi (fun x17 e18 => ?_)
  have h := h x17 e18
  refine x_nn1 g2 ?_
  obtain ⟨g19, h⟩ := h
  refine x_callV (rm := rm_X0_add) (rest := []) (As := [.int x17]) C cy_RX8_324 g19 (by decide) (by decide) rfl rfl (Nat.le_of_ble_eq_true rfl) hl.1 dX8_writeHead_37 (c_X0_add l D cy b1 x17 σ15 _ h) (ks_v (fun σ20 h => ?_))
  refine x_aload_nq C dX8_writeHead_40 rfl (lv_at hl 1 rfl) ?_
  refine x_iconst (v := 2) C dX8_writeHead_41 (by decide) ?_
  refine x_nn1 g2 ?_
  obtain ⟨g21, h⟩ := h
  refine x_callV (rm := rm_X0_addZeros) (rest := []) (As := [.int (2 : Int32)]) C cy_RX8_328 g21 (by decide) (by decide) rfl rfl (Nat.le_of_ble_eq_true rfl) hl.1 dX8_writeHead_42 (c_X0_addZeros l D cy b1 (2 : Int32) σ20 _ h) (ks_v (fun σ22 h => ?_))
  refine x_aload_nq C dX8_writeHead_45 rfl (lv_at hl 1 rfl) ?_
  refine x_aload_n C dX8_writeHead_46 rfl (lv_at hl 0 rfl) ?_
  obtain ⟨g23, h⟩ := h
  refine x_getJ C fl_RX8_13 g23 dX8_writeHead_47 ?_
  refine x_topj (fun y24 e25 => ?_)
  have h := h y24 e25
  refine x_callSN (rm := rm_X11_leadOf) (rest := [va_rf p1]) (As := [.long y24]) C csn_RX8_136 (by decide) (by decide) rfl rfl (by simp [vrc, cat_i, cat_r, cat_l]) hl.1 dX8_writeHead_50 (c_X11_leadOf l D cy y24 σ22 _ h) (ks_i (fun x27 σ26 h => ?_))
  refine x_nn1 g2 ?_
  obtain ⟨g28, h⟩ := h
  refine x_callV (rm := rm_X0_addWord) (rest := []) (As := [.int x27]) C cy_RX8_331 g28 (by decide) (by decide) rfl rfl (Nat.le_of_ble_eq_true rfl) hl.1 dX8_writeHead_53 (c_X0_addWord l D cy b1 x27 σ26 _ h) (ks_v (fun σ29 h => ?_))
  refine x_aload_nq C dX8_writeHead_56 rfl (lv_at hl 1 rfl) ?_
  refine x_aload_n C dX8_writeHead_57 rfl (lv_at hl 0 rfl) ?_
  obtain ⟨g30, h⟩ := h
  refine x_getJ C fl_RX8_13 g30 dX8_writeHead_58 ?_
  refine x_topj (fun y31 e32 => ?_)
  have h := h y31 e32
  refine x_callSN (rm := rm_X11_sessionOf) (rest := [va_rf p1]) (As := [.long y31]) C csn_RX8_133 (by decide) (by decide) rfl rfl (by simp [vrc, cat_i, cat_r, cat_l]) hl.1 dX8_writeHead_61 (c_X11_sessionOf l D cy y31 σ29 _ h) (ks_i (fun x34 σ33 h => ?_))
  refine x_nn1 g2 ?_
  obtain ⟨g35, h⟩ := h
  refine x_callV (rm := rm_X0_addWord) (rest := []) (As := [.int x34]) C cy_RX8_331 g35 (by decide) (by decide) rfl rfl (Nat.le_of_ble_eq_true rfl) hl.1 dX8_writeHead_64 (c_X0_addWord l D cy b1 x34 σ33 _ h) (ks_v (fun σ36 h => ?_))
  refine x_aload_nq C dX8_writeHead_67 rfl (lv_at hl 1 rfl) ?_
  refine x_aload_n C dX8_writeHead_68 rfl (lv_at hl 0 rfl) ?_
  obtain ⟨g37, h⟩ := h
  refine x_getJ C fl_RX8_19 g37 dX8_writeHead_69 ?_
  refine x_topj (fun y38 e39 => ?_)
  have h := h y38 e39
  refine x_callSN (rm := rm_X11_leadOf) (rest := [va_rf p1]) (As := [.long y38]) C csn_RX8_136 (by decide) (by decide) rfl rfl (by simp [vrc, cat_i, cat_r, cat_l]) hl.1 dX8_writeHead_72 (c_X11_leadOf l D cy y38 σ36 _ h) (ks_i (fun x41 σ40 h => ?_))
  refine x_nn1 g2 ?_
  obtain ⟨g42, h⟩ := h
  refine x_callV (rm := rm_X0_addWord) (rest := []) (As := [.int x41]) C cy_RX8_331 g42 (by decide) (by decide) rfl rfl (Nat.le_of_ble_eq_true rfl) hl.1 dX8_writeHead_75 (c_X0_addWord l D cy b1 x41 σ40 _ h) (ks_v (fun σ43 h => ?_))
  refine x_aload_nq C dX8_writeHead_78 rfl (lv_at hl 1 rfl) ?_
  refine x_aload_n C dX8_writeHead_79 rfl (lv_at hl 0 rfl) ?_
  obtain ⟨g44, h⟩ := h
  refine x_getJ C fl_RX8_19 g44 dX8_writeHead_80 ?_
  refine x_topj (fun y45 e46 => ?_)
  have h := h y45 e46
  refine x_callSN (rm := rm_X11_sessionOf) (rest := [va_rf p1]) (As := [.long y45]) C csn_RX8_133 (by decide) (by decide) rfl rfl (by simp [vrc, cat_i, cat_r, cat_l]) hl.1 dX8_writeHead_83 (c_X11_sessionOf l D cy y45 σ43 _ h) (ks_i (fun x48 σ47 h => ?_))
  refine x_nn1 g2 ?_
  obtain ⟨g49, h⟩ := h
  refine x_callV (rm := rm_X0_addWord) (rest := []) (As := [.int x48]) C cy_RX8_331 g49 (by decide) (by decide) rfl rfl (Nat.le_of_ble_eq_true rfl) hl.1 dX8_writeHead_86 (c_X0_addWord l D cy b1 x48 σ47 _ h) (ks_v (fun σ50 h => ?_))
  refine x_aload_nq C dX8_writeHead_89 rfl (lv_at hl 1 rfl) ?_
  refine x_aload_n C dX8_writeHead_90 rfl (lv_at hl 0 rfl) ?_
  obtain ⟨g51, h⟩ := h
  refine x_getP C fl_RX8_25 g51 dX8_writeHead_91 ?_
  obtain ⟨b52, g53, h⟩ := h
  refine x_nn0 g53 ?_
  obtain ⟨g54, h⟩ := h
  refine x_getI C fl_RX8_142 g54 dX8_writeHead_94 ?_
  refine x_topi (fun x55 e56 => ?_)
  have h := h x55 e56
  refine x_nn1 g2 ?_
  obtain ⟨g57, h⟩ := h
  refine x_callV (rm := rm_X0_addWord) (rest := []) (As := [.int x55]) C cy_RX8_331 g57 (by decide) (by decide) rfl rfl (Nat.le_of_ble_eq_true rfl) hl.1 dX8_writeHead_97 (c_X0_addWord l D cy b1 x55 σ50 _ h) (ks_v (fun σ58 h => ?_))
  refine x_aload_nq C dX8_writeHead_100 rfl (lv_at hl 1 rfl) ?_
  refine x_aload_n C dX8_writeHead_101 rfl (lv_at hl 0 rfl) ?_
  obtain ⟨g59, h⟩ := h
  refine x_getI C fl_RX8_69 g59 dX8_writeHead_102 ?_
  refine x_topi (fun x60 e61 => ?_)
  have h := h x60 e61
  refine x_nn1 g2 ?_
  obtain ⟨g62, h⟩ := h
  refine x_callV (rm := rm_X0_addWord) (rest := []) (As := [.int x60]) C cy_RX8_331 g62 (by decide) (by decide) rfl rfl (Nat.le_of_ble_eq_true rfl) hl.1 dX8_writeHead_105 (c_X0_addWord l D cy b1 x60 σ58 _ h) (ks_v (fun σ63 h => ?_))
  refine x_aload_nq C dX8_writeHead_108 rfl (lv_at hl 1 rfl) ?_
  refine x_aload_n C dX8_writeHead_109 rfl (lv_at hl 0 rfl) ?_
  obtain ⟨g64, h⟩ := h
  refine x_getI C fl_RX8_202 g64 dX8_writeHead_110 ?_
  refine x_topi (fun x65 e66 => ?_)
  have h := h x65 e66
  refine x_nn1 g2 ?_
  obtain ⟨g67, h⟩ := h
  refine x_callV (rm := rm_X0_addWord) (rest := []) (As := [.int x65]) C cy_RX8_331 g67 (by decide) (by decide) rfl rfl (Nat.le_of_ble_eq_true rfl) hl.1 dX8_writeHead_113 (c_X0_addWord l D cy b1 x65 σ63 _ h) (ks_v (fun σ68 h => ?_))
  refine x_aload_nq C dX8_writeHead_116 rfl (lv_at hl 1 rfl) ?_
  refine x_aload_n C dX8_writeHead_117 rfl (lv_at hl 0 rfl) ?_
  obtain ⟨g69, h⟩ := h
  refine x_getP C fl_RX8_25 g69 dX8_writeHead_118 ?_
  obtain ⟨b70, g71, h⟩ := h
  refine x_nn0 g71 ?_
  obtain ⟨g72, h⟩ := h
  refine x_getI C fl_RX8_66 g72 dX8_writeHead_121 ?_
  refine x_topi (fun x73 e74 => ?_)
  have h := h x73 e74
  refine x_nn1 g2 ?_
  obtain ⟨g75, h⟩ := h
  refine x_callV (rm := rm_X0_addWord) (rest := []) (As := [.int x73]) C cy_RX8_331 g75 (by decide) (by decide) rfl rfl (Nat.le_of_ble_eq_true rfl) hl.1 dX8_writeHead_124 (c_X0_addWord l D cy b1 x73 σ68 _ h) (ks_v (fun σ76 h => ?_))
  exact x_vret C hr dX8_writeHead_127 ⟨rfl, h⟩
theorem dX9_init_0 : decode cX9_init 0 = .ok (.aload_n 0, 1) := by decide +kernel
theorem dX9_init_1 : decode cX9_init 1 = .ok (.invokespecial 1, 3) := by decide +kernel
theorem dX9_init_4 : decode cX9_init 4 = .ok (.aload_n 0, 1) := by decide +kernel
theorem dX9_init_5 : decode cX9_init 5 = .ok (.iload_n 1, 1) := by decide +kernel
theorem dX9_init_6 : decode cX9_init 6 = .ok (.putfield 7, 3) := by decide +kernel
theorem dX9_init_9 : decode cX9_init 9 = .ok (.aload_n 0, 1) := by decide +kernel
theorem dX9_init_10 : decode cX9_init 10 = .ok (.iload_n 2, 1) := by decide +kernel
theorem dX9_init_11 : decode cX9_init 11 = .ok (.putfield 13, 3) := by decide +kernel
theorem dX9_init_14 : decode cX9_init 14 = .ok (.aload_n 0, 1) := by decide +kernel
theorem dX9_init_15 : decode cX9_init 15 = .ok (.iload_n 3, 1) := by decide +kernel
theorem dX9_init_16 : decode cX9_init 16 = .ok (.putfield 16, 3) := by decide +kernel
theorem dX9_init_19 : decode cX9_init 19 = .ok (.aload_n 0, 1) := by decide +kernel
theorem dX9_init_20 : decode cX9_init 20 = .ok (.iload 4, 2) := by decide +kernel
theorem dX9_init_22 : decode cX9_init 22 = .ok (.putfield 19, 3) := by decide +kernel
theorem dX9_init_25 : decode cX9_init 25 = .ok (.aload_n 0, 1) := by decide +kernel
theorem dX9_init_26 : decode cX9_init 26 = .ok (.iload 5, 2) := by decide +kernel
theorem dX9_init_28 : decode cX9_init 28 = .ok (.putfield 22, 3) := by decide +kernel
theorem dX9_init_31 : decode cX9_init 31 = .ok (.return_, 1) := by decide +kernel
abbrev rm_X9_init : Room := { frames := 1, cells := 0, slots := 0, locals := 20 }
def wp_X9_init (a0 : Nat) (p1 : Int32) (p2 : Int32) (p3 : Int32) (p4 : Int32) (p5 : Int32) (σ : Sto) (Q : Sto → Prop) : Prop := (sK σ a0 = 9 ∧ Q (stI (stI (stI (stI (stI σ a0 0 p1) a0 1 p2) a0 2 p3) a0 3 p4) a0 4 p5))
set_option maxHeartbeats 4000000 in
set_option maxRecDepth 100000 in
theorem c_X9_init (l : Launch) (D : va_G) (cy : Nat → ClassId) (a0 : Nat) (p1 : Int32) (p2 : Int32) (p3 : Int32) (p4 : Int32) (p5 : Int32) (σ : Sto) (Q : Sto → Prop) (h : wp_X9_init a0 p1 p2 p3 p4 p5 σ Q) : Mt l D cy yX9_init cX9_init 6 none rm_X9_init [.ref a0, .int p1, .int p2, .int p3, .int p4, .int p5] σ (PsV Q) := by
  unfold wp_X9_init at h
  refine mt_of (by decide +kernel) (Nat.le_of_ble_eq_true rfl) ?_
  intro p e s m args below meth c A ls C hr hnm hl
  have C : Cx p s m args meth c D cy A cX9_init 6 RX9 := C
  have hl : lv_has ls 6 [(0, .ref a0), (1, .int p1), (2, .int p2), (3, .int p3), (4, .int p4), (5, .int p5)] := hl
  refine x_aload_n C dX9_init_0 rfl (lv_at hl 0 rfl) ?_
  refine x_objInit C oi_RX9_1 oi_w2 oi_w3 hl.1 (by decide) (Nat.le_of_ble_eq_true rfl) dX9_init_1 ?_
  refine x_aload_n C dX9_init_4 rfl (lv_at hl 0 rfl) ?_
  refine x_iload_n C dX9_init_5 rfl (lv_at hl 1 rfl) ?_
  obtain ⟨g1, h⟩ := h
  refine x_putI C fl_RX9_7 (Or.inr ⟨hnm, _, _, _, rfl, rfl⟩) g1 dX9_init_6 ?_
  refine x_aload_n C dX9_init_9 rfl (lv_at hl 0 rfl) ?_
  refine x_iload_n C dX9_init_10 rfl (lv_at hl 2 rfl) ?_
  refine x_putI C fl_RX9_13 (Or.inr ⟨hnm, _, _, _, rfl, rfl⟩) g1 dX9_init_11 ?_
  refine x_aload_n C dX9_init_14 rfl (lv_at hl 0 rfl) ?_
  refine x_iload_n C dX9_init_15 rfl (lv_at hl 3 rfl) ?_
  refine x_putI C fl_RX9_16 (Or.inr ⟨hnm, _, _, _, rfl, rfl⟩) g1 dX9_init_16 ?_
  refine x_aload_n C dX9_init_19 rfl (lv_at hl 0 rfl) ?_
  refine x_iload C dX9_init_20 (lv_at hl 4 rfl) ?_
  refine x_putI C fl_RX9_19 (Or.inr ⟨hnm, _, _, _, rfl, rfl⟩) g1 dX9_init_22 ?_
  refine x_aload_n C dX9_init_25 rfl (lv_at hl 0 rfl) ?_
  refine x_iload C dX9_init_26 (lv_at hl 5 rfl) ?_
  refine x_putI C fl_RX9_22 (Or.inr ⟨hnm, _, _, _, rfl, rfl⟩) g1 dX9_init_28 ?_
  exact x_vret C hr dX9_init_31 ⟨rfl, h⟩
theorem dX10_init_0 : decode cX10_init 0 = .ok (.aload_n 0, 1) := by decide +kernel
theorem dX10_init_1 : decode cX10_init 1 = .ok (.invokespecial 3, 3) := by decide +kernel
theorem dX10_init_4 : decode cX10_init 4 = .ok (.aload_n 0, 1) := by decide +kernel
theorem dX10_init_5 : decode cX10_init 5 = .ok (.bipush 8, 2) := by decide +kernel
theorem dX10_init_7 : decode cX10_init 7 = .ok (.newarray .int, 2) := by decide +kernel
theorem dX10_init_9 : decode cX10_init 9 = .ok (.putfield 9, 3) := by decide +kernel
theorem dX10_init_12 : decode cX10_init 12 = .ok (.aload_n 0, 1) := by decide +kernel
theorem dX10_init_13 : decode cX10_init 13 = .ok (.iconst 4, 1) := by decide +kernel
theorem dX10_init_14 : decode cX10_init 14 = .ok (.newarray .int, 2) := by decide +kernel
theorem dX10_init_16 : decode cX10_init 16 = .ok (.putfield 15, 3) := by decide +kernel
theorem dX10_init_19 : decode cX10_init 19 = .ok (.aload_n 0, 1) := by decide +kernel
theorem dX10_init_20 : decode cX10_init 20 = .ok (.iconst 4, 1) := by decide +kernel
theorem dX10_init_21 : decode cX10_init 21 = .ok (.newarray .int, 2) := by decide +kernel
theorem dX10_init_23 : decode cX10_init 23 = .ok (.putfield 18, 3) := by decide +kernel
theorem dX10_init_26 : decode cX10_init 26 = .ok (.aload_n 0, 1) := by decide +kernel
theorem dX10_init_27 : decode cX10_init 27 = .ok (.bipush 100, 2) := by decide +kernel
theorem dX10_init_29 : decode cX10_init 29 = .ok (.newarray .boolean, 2) := by decide +kernel
theorem dX10_init_31 : decode cX10_init 31 = .ok (.putfield 21, 3) := by decide +kernel
theorem dX10_init_34 : decode cX10_init 34 = .ok (.aload_n 0, 1) := by decide +kernel
theorem dX10_init_35 : decode cX10_init 35 = .ok (.bipush 100, 2) := by decide +kernel
theorem dX10_init_37 : decode cX10_init 37 = .ok (.newarray .int, 2) := by decide +kernel
theorem dX10_init_39 : decode cX10_init 39 = .ok (.putfield 25, 3) := by decide +kernel
theorem dX10_init_42 : decode cX10_init 42 = .ok (.return_, 1) := by decide +kernel
abbrev rm_X10_init : Room := { frames := 1, cells := 5, slots := 216, locals := 20 }
def wp_X10_init (a0 : Nat)  (σ : Sto) (Q : Sto → Prop) : Prop := (0 + 1 ≤ 5 ∧ 0 + 8 ≤ 216 ∧ (∀ q3 : Nat, ¬ sK σ q3 < 23 → ∀ σ5 : Sto, σ5 = stN σ q3 14 8 → (sK σ5 a0 = 10 ∧ ((0 + 1) + 1 ≤ 5 ∧ (0 + 8) + 4 ≤ 216 ∧ (∀ q10 : Nat, ¬ sK σ5 q10 < 23 → ∀ σ12 : Sto, σ12 = stN (stP σ5 a0 0 (some q3)) q10 14 4 → (sK σ12 a0 = 10 ∧ (((0 + 1) + 1) + 1 ≤ 5 ∧ ((0 + 8) + 4) + 4 ≤ 216 ∧ (∀ q17 : Nat, ¬ sK σ12 q17 < 23 → ∀ σ19 : Sto, σ19 = stN (stP σ12 a0 1 (some q10)) q17 14 4 → (sK σ19 a0 = 10 ∧ ((((0 + 1) + 1) + 1) + 1 ≤ 5 ∧ (((0 + 8) + 4) + 4) + 100 ≤ 216 ∧ (∀ q24 : Nat, ¬ sK σ19 q24 < 23 → ∀ σ26 : Sto, σ26 = stN (stP σ19 a0 2 (some q17)) q24 16 100 → (sK σ26 a0 = 10 ∧ (((((0 + 1) + 1) + 1) + 1) + 1 ≤ 5 ∧ ((((0 + 8) + 4) + 4) + 100) + 100 ≤ 216 ∧ (∀ q31 : Nat, ¬ sK σ26 q31 < 23 → ∀ σ33 : Sto, σ33 = stN (stP σ26 a0 3 (some q24)) q31 14 100 → (sK σ33 a0 = 10 ∧ (((((((0 + 1) + 1) + 1) + 1) + 1) ≤ 5 ∧ (((((0 + 8) + 4) + 4) + 100) + 100) ≤ 216) ∧ Q (stP σ33 a0 4 (some q31))))))))))))))))))
set_option maxHeartbeats 4000000 in
set_option maxRecDepth 100000 in
theorem c_X10_init (l : Launch) (D : va_G) (cy : Nat → ClassId) (a0 : Nat)  (σ : Sto) (Q : Sto → Prop) (h : wp_X10_init a0  σ Q) : Mt l D cy yX10_init cX10_init 1 none rm_X10_init [.ref a0] σ (PsV Q) := by
  unfold wp_X10_init at h
  refine mt_of (by decide +kernel) (Nat.le_of_ble_eq_true rfl) ?_
  intro p e s m args below meth c A ls C hr hnm hl
  have C : Cx p s m args meth c D cy A cX10_init 1 RX10 := C
  have hl : lv_has ls 1 [(0, .ref a0)] := hl
  refine x_aload_n C dX10_init_0 rfl (lv_at hl 0 rfl) ?_
  refine x_objInit C oi_RX10_3 oi_w2 oi_w3 hl.1 (by decide) (Nat.le_of_ble_eq_true rfl) dX10_init_1 ?_
  refine x_aload_n C dX10_init_4 rfl (lv_at hl 0 rfl) ?_
  refine x_bipush (v := 8) C dX10_init_5 (by decide) ?_
  obtain ⟨g1, g2, h⟩ := h
  refine x_newa C nak_14 (by decide) (by decide) (by decide) g1 g2 dX10_init_7 (fun q3 g4 => ?_)
  refine x_nameS (fun σ5 e6 => ?_)
  have h := h q3 g4 σ5 e6
  obtain ⟨g7, h⟩ := h
  refine x_putR C fl_RX10_9 (rty_a _) (Or.inr ⟨hnm, _, _, _, rfl, rfl⟩) g7 dX10_init_9 ?_
  refine x_aload_n C dX10_init_12 rfl (lv_at hl 0 rfl) ?_
  refine x_iconst (v := 4) C dX10_init_13 (by decide) ?_
  obtain ⟨g8, g9, h⟩ := h
  refine x_newa C nak_14 (by decide) (by decide) (by decide) g8 g9 dX10_init_14 (fun q10 g11 => ?_)
  refine x_nameS (fun σ12 e13 => ?_)
  have h := h q10 g11 σ12 e13
  obtain ⟨g14, h⟩ := h
  refine x_putR C fl_RX10_15 (rty_a _) (Or.inr ⟨hnm, _, _, _, rfl, rfl⟩) g14 dX10_init_16 ?_
  refine x_aload_n C dX10_init_19 rfl (lv_at hl 0 rfl) ?_
  refine x_iconst (v := 4) C dX10_init_20 (by decide) ?_
  obtain ⟨g15, g16, h⟩ := h
  refine x_newa C nak_14 (by decide) (by decide) (by decide) g15 g16 dX10_init_21 (fun q17 g18 => ?_)
  refine x_nameS (fun σ19 e20 => ?_)
  have h := h q17 g18 σ19 e20
  obtain ⟨g21, h⟩ := h
  refine x_putR C fl_RX10_18 (rty_a _) (Or.inr ⟨hnm, _, _, _, rfl, rfl⟩) g21 dX10_init_23 ?_
  refine x_aload_n C dX10_init_26 rfl (lv_at hl 0 rfl) ?_
  refine x_bipush (v := 100) C dX10_init_27 (by decide) ?_
  obtain ⟨g22, g23, h⟩ := h
  refine x_newa C nak_16 (by decide) (by decide) (by decide) g22 g23 dX10_init_29 (fun q24 g25 => ?_)
  refine x_nameS (fun σ26 e27 => ?_)
  have h := h q24 g25 σ26 e27
  obtain ⟨g28, h⟩ := h
  refine x_putR C fl_RX10_21 (rty_a _) (Or.inr ⟨hnm, _, _, _, rfl, rfl⟩) g28 dX10_init_31 ?_
  refine x_aload_n C dX10_init_34 rfl (lv_at hl 0 rfl) ?_
  refine x_bipush (v := 100) C dX10_init_35 (by decide) ?_
  obtain ⟨g29, g30, h⟩ := h
  refine x_newa C nak_14 (by decide) (by decide) (by decide) g29 g30 dX10_init_37 (fun q31 g32 => ?_)
  refine x_nameS (fun σ33 e34 => ?_)
  have h := h q31 g32 σ33 e34
  obtain ⟨g35, h⟩ := h
  refine x_putR C fl_RX10_25 (rty_a _) (Or.inr ⟨hnm, _, _, _, rfl, rfl⟩) g35 dX10_init_39 ?_
  refine x_widen h.1.1 h.1.2 ?_
  exact x_vret C hr dX10_init_42 ⟨rfl, h.2⟩
theorem dX11_isSameRequest_0 : decode cX11_isSameRequest 0 = .ok (.aload_n 0, 1) := by decide +kernel
theorem dX11_isSameRequest_1 : decode cX11_isSameRequest 1 = .ok (.ifnull 33, 3) := by decide +kernel
theorem dX11_isSameRequest_4 : decode cX11_isSameRequest 4 = .ok (.aload_n 1, 1) := by decide +kernel
theorem dX11_isSameRequest_5 : decode cX11_isSameRequest 5 = .ok (.ifnull 29, 3) := by decide +kernel
theorem dX11_isSameRequest_8 : decode cX11_isSameRequest 8 = .ok (.aload_n 0, 1) := by decide +kernel
theorem dX11_isSameRequest_9 : decode cX11_isSameRequest 9 = .ok (.getfield 267, 3) := by decide +kernel
theorem dX11_isSameRequest_12 : decode cX11_isSameRequest 12 = .ok (.aload_n 1, 1) := by decide +kernel
theorem dX11_isSameRequest_13 : decode cX11_isSameRequest 13 = .ok (.getfield 267, 3) := by decide +kernel
theorem dX11_isSameRequest_16 : decode cX11_isSameRequest 16 = .ok (.if_icmp .ne 18, 3) := by decide +kernel
theorem dX11_isSameRequest_19 : decode cX11_isSameRequest 19 = .ok (.aload_n 0, 1) := by decide +kernel
theorem dX11_isSameRequest_20 : decode cX11_isSameRequest 20 = .ok (.getfield 270, 3) := by decide +kernel
theorem dX11_isSameRequest_23 : decode cX11_isSameRequest 23 = .ok (.aload_n 1, 1) := by decide +kernel
theorem dX11_isSameRequest_24 : decode cX11_isSameRequest 24 = .ok (.getfield 270, 3) := by decide +kernel
theorem dX11_isSameRequest_27 : decode cX11_isSameRequest 27 = .ok (.if_icmp .ne 7, 3) := by decide +kernel
theorem dX11_isSameRequest_30 : decode cX11_isSameRequest 30 = .ok (.iconst 1, 1) := by decide +kernel
theorem dX11_isSameRequest_31 : decode cX11_isSameRequest 31 = .ok (.goto 4, 3) := by decide +kernel
theorem dX11_isSameRequest_34 : decode cX11_isSameRequest 34 = .ok (.iconst 0, 1) := by decide +kernel
theorem dX11_isSameRequest_35 : decode cX11_isSameRequest 35 = .ok (.ireturn, 1) := by decide +kernel
abbrev rm_X11_isSameRequest : Room := { frames := 0, cells := 0, slots := 0, locals := 0 }
def wp_X11_isSameRequest (p0 : Option Nat) (p1 : Option Nat) (σ : Sto) (Q : Int32 → Sto → Prop) : Prop := ((p0 = none → Q (0 : Int32) σ) ∧ (∀ b2 : Nat, p0 = some b2 → ((p1 = none → Q (0 : Int32) σ) ∧ (∀ b5 : Nat, p1 = some b5 → (sK σ b2 = 9 ∧ (∀ x8 : Int32, x8 = sI σ b2 0 → (sK σ b5 = 9 ∧ (∀ x11 : Int32, x11 = sI σ b5 0 → ((¬ x8 = x11 → Q (0 : Int32) σ) ∧ (x8 = x11 → (∀ x14 : Int32, x14 = sI σ b2 1 → (∀ x16 : Int32, x16 = sI σ b5 1 → ((¬ x14 = x16 → Q (0 : Int32) σ) ∧ (x14 = x16 → Q (1 : Int32) σ))))))))))))))
set_option maxHeartbeats 4000000 in
set_option maxRecDepth 100000 in
theorem c_X11_isSameRequest (l : Launch) (D : va_G) (cy : Nat → ClassId) (p0 : Option Nat) (p1 : Option Nat) (σ : Sto) (Q : Int32 → Sto → Prop) (h : wp_X11_isSameRequest p0 p1 σ Q) : Mt l D cy yX11_isSameRequest cX11_isSameRequest 2 (some .boolean) rm_X11_isSameRequest [va_rf p0, va_rf p1] σ (PsI Q) := by
  unfold wp_X11_isSameRequest at h
  refine mt_of (by decide +kernel) (by simp [lg_sl, vrc, cat_i, cat_r, cat_l]) ?_
  intro p e s m args below meth c A ls C hr hnm hl
  have C : Cx p s m args meth c D cy A cX11_isSameRequest 2 RX11 := C
  have hl : lv_has ls 2 [(0, va_rf p0), (1, va_rf p1)] := by simpa [lv_args, vrc, cat_i, cat_r, cat_l] using hl
  refine x_aload_nq C dX11_isSameRequest_0 rfl (lv_at hl 0 rfl) ?_
  refine x_ifnull (tgt := 34) C dX11_isSameRequest_1 (by decide) (fun c1 => ?_) (fun c1 => ?_)
  · have h := h.1 c1
    refine x_iconst (v := 0) C dX11_isSameRequest_34 (by decide) ?_
    exact x_zret C hr dX11_isSameRequest_35 (by decide) ⟨_, rfl, h⟩
  · obtain ⟨b2, g3⟩ := Option.ne_none_iff_exists'.mp c1
    have h := h.2 b2 g3
    refine x_aload_nq C dX11_isSameRequest_4 rfl (lv_at hl 1 rfl) ?_
    refine x_ifnull (tgt := 34) C dX11_isSameRequest_5 (by decide) (fun c4 => ?_) (fun c4 => ?_)
    · have h := h.1 c4
      refine x_iconst (v := 0) C dX11_isSameRequest_34 (by decide) ?_
      exact x_zret C hr dX11_isSameRequest_35 (by decide) ⟨_, rfl, h⟩
    · obtain ⟨b5, g6⟩ := Option.ne_none_iff_exists'.mp c4
      have h := h.2 b5 g6
      refine x_aload_nq C dX11_isSameRequest_8 rfl (lv_at hl 0 rfl) ?_
      refine x_nn0 g3 ?_
      obtain ⟨g7, h⟩ := h
      refine x_getI C fl_RX11_267 g7 dX11_isSameRequest_9 ?_
      refine x_topi (fun x8 e9 => ?_)
      have h := h x8 e9
      refine x_aload_nq C dX11_isSameRequest_12 rfl (lv_at hl 1 rfl) ?_
      refine x_nn0 g6 ?_
      obtain ⟨g10, h⟩ := h
      refine x_getI C fl_RX11_267 g10 dX11_isSameRequest_13 ?_
      refine x_topi (fun x11 e12 => ?_)
      have h := h x11 e12
      refine x_icmp_ne (tgt := 34) C dX11_isSameRequest_16 (by decide) (fun c13 => ?_) (fun c13 => ?_)
      · have h := h.1 c13
        refine x_iconst (v := 0) C dX11_isSameRequest_34 (by decide) ?_
        exact x_zret C hr dX11_isSameRequest_35 (by decide) ⟨_, rfl, h⟩
      · have h := h.2 c13
        refine x_aload_nq C dX11_isSameRequest_19 rfl (lv_at hl 0 rfl) ?_
        refine x_nn0 g3 ?_
        refine x_getI C fl_RX11_270 g7 dX11_isSameRequest_20 ?_
        refine x_topi (fun x14 e15 => ?_)
        have h := h x14 e15
        refine x_aload_nq C dX11_isSameRequest_23 rfl (lv_at hl 1 rfl) ?_
        refine x_nn0 g6 ?_
        refine x_getI C fl_RX11_270 g10 dX11_isSameRequest_24 ?_
        refine x_topi (fun x16 e17 => ?_)
        have h := h x16 e17
        refine x_icmp_ne (tgt := 34) C dX11_isSameRequest_27 (by decide) (fun c18 => ?_) (fun c18 => ?_)
        · have h := h.1 c18
          refine x_iconst (v := 0) C dX11_isSameRequest_34 (by decide) ?_
          exact x_zret C hr dX11_isSameRequest_35 (by decide) ⟨_, rfl, h⟩
        · have h := h.2 c18
          refine x_iconst (v := 1) C dX11_isSameRequest_30 (by decide) ?_
          refine x_goto (tgt := 35) C dX11_isSameRequest_31 (by decide) ?_
          exact x_zret C hr dX11_isSameRequest_35 (by decide) ⟨_, rfl, h⟩
theorem dX10_keeps_0 : decode cX10_keeps 0 = .ok (.aload_n 1, 1) := by decide +kernel
theorem dX10_keeps_1 : decode cX10_keeps 1 = .ok (.aload_n 2, 1) := by decide +kernel
theorem dX10_keeps_2 : decode cX10_keeps 2 = .ok (.getfield 55, 3) := by decide +kernel
theorem dX10_keeps_5 : decode cX10_keeps 5 = .ok (.invokevirtual 60, 3) := by decide +kernel
theorem dX10_keeps_8 : decode cX10_keeps 8 = .ok (.aload_n 2, 1) := by decide +kernel
theorem dX10_keeps_9 : decode cX10_keeps 9 = .ok (.getfield 64, 3) := by decide +kernel
theorem dX10_keeps_12 : decode cX10_keeps 12 = .ok (.invokestatic 68, 3) := by decide +kernel
theorem dX10_keeps_15 : decode cX10_keeps 15 = .ok (.ifCond .ne 5, 3) := by decide +kernel
theorem dX10_keeps_18 : decode cX10_keeps 18 = .ok (.iconst 0, 1) := by decide +kernel
theorem dX10_keeps_19 : decode cX10_keeps 19 = .ok (.ireturn, 1) := by decide +kernel
theorem dX10_keeps_20 : decode cX10_keeps 20 = .ok (.iconst 0, 1) := by decide +kernel
theorem dX10_keeps_21 : decode cX10_keeps 21 = .ok (.istore_n 3, 1) := by decide +kernel
theorem dX10_keeps_22 : decode cX10_keeps 22 = .ok (.iload_n 3, 1) := by decide +kernel
theorem dX10_keeps_23 : decode cX10_keeps 23 = .ok (.aload_n 1, 1) := by decide +kernel
theorem dX10_keeps_24 : decode cX10_keeps 24 = .ok (.getfield 28, 3) := by decide +kernel
theorem dX10_keeps_27 : decode cX10_keeps 27 = .ok (.if_icmp .ge 59, 3) := by decide +kernel
theorem dX10_keeps_30 : decode cX10_keeps 30 = .ok (.iload_n 3, 1) := by decide +kernel
theorem dX10_keeps_31 : decode cX10_keeps 31 = .ok (.bipush 100, 2) := by decide +kernel
theorem dX10_keeps_33 : decode cX10_keeps 33 = .ok (.if_icmp .ge 53, 3) := by decide +kernel
theorem dX10_keeps_36 : decode cX10_keeps 36 = .ok (.aload_n 1, 1) := by decide +kernel
theorem dX10_keeps_37 : decode cX10_keeps 37 = .ok (.getfield 34, 3) := by decide +kernel
theorem dX10_keeps_40 : decode cX10_keeps 40 = .ok (.iload_n 3, 1) := by decide +kernel
theorem dX10_keeps_41 : decode cX10_keeps 41 = .ok (.aaload, 1) := by decide +kernel
theorem dX10_keeps_42 : decode cX10_keeps 42 = .ok (.aload_n 2, 1) := by decide +kernel
theorem dX10_keeps_43 : decode cX10_keeps 43 = .ok (.getfield 64, 3) := by decide +kernel
theorem dX10_keeps_46 : decode cX10_keeps 46 = .ok (.invokestatic 68, 3) := by decide +kernel
theorem dX10_keeps_49 : decode cX10_keeps 49 = .ok (.ifCond .eq 31, 3) := by decide +kernel
theorem dX10_keeps_52 : decode cX10_keeps 52 = .ok (.aload_n 0, 1) := by decide +kernel
theorem dX10_keeps_53 : decode cX10_keeps 53 = .ok (.getfield 21, 3) := by decide +kernel
theorem dX10_keeps_56 : decode cX10_keeps 56 = .ok (.iload_n 3, 1) := by decide +kernel
theorem dX10_keeps_57 : decode cX10_keeps 57 = .ok (.baload, 1) := by decide +kernel
theorem dX10_keeps_58 : decode cX10_keeps 58 = .ok (.ifCond .eq 16, 3) := by decide +kernel
theorem dX10_keeps_61 : decode cX10_keeps 61 = .ok (.aload_n 0, 1) := by decide +kernel
theorem dX10_keeps_62 : decode cX10_keeps 62 = .ok (.getfield 25, 3) := by decide +kernel
theorem dX10_keeps_65 : decode cX10_keeps 65 = .ok (.iload_n 3, 1) := by decide +kernel
theorem dX10_keeps_66 : decode cX10_keeps 66 = .ok (.iaload, 1) := by decide +kernel
theorem dX10_keeps_67 : decode cX10_keeps 67 = .ok (.aload_n 2, 1) := by decide +kernel
theorem dX10_keeps_68 : decode cX10_keeps 68 = .ok (.getfield 72, 3) := by decide +kernel
theorem dX10_keeps_71 : decode cX10_keeps 71 = .ok (.if_icmp .ne 7, 3) := by decide +kernel
theorem dX10_keeps_74 : decode cX10_keeps 74 = .ok (.iconst 1, 1) := by decide +kernel
theorem dX10_keeps_75 : decode cX10_keeps 75 = .ok (.goto 4, 3) := by decide +kernel
theorem dX10_keeps_78 : decode cX10_keeps 78 = .ok (.iconst 0, 1) := by decide +kernel
theorem dX10_keeps_79 : decode cX10_keeps 79 = .ok (.ireturn, 1) := by decide +kernel
theorem dX10_keeps_80 : decode cX10_keeps 80 = .ok (.iinc 3 1, 3) := by decide +kernel
theorem dX10_keeps_83 : decode cX10_keeps 83 = .ok (.goto (-61), 3) := by decide +kernel
theorem dX10_keeps_86 : decode cX10_keeps 86 = .ok (.iconst 0, 1) := by decide +kernel
theorem dX10_keeps_87 : decode cX10_keeps 87 = .ok (.ireturn, 1) := by decide +kernel
abbrev rm_X10_keeps : Room := { frames := 2, cells := 0, slots := 0, locals := 42 }
def b_X10_keeps_74 (a0 : Nat)  (Q : Int32 → Sto → Prop)  (σ : Sto) : Prop := Q (1 : Int32) σ
set_option maxHeartbeats 4000000 in
set_option maxRecDepth 100000 in
theorem t_X10_keeps_74 {p : Program} {l : Launch} {e : Env} {s : State} {m : MethodId} {args : Array Value} {below : List Frame} {meth : Method} {c : Code} {D : va_G} {cy : Nat → ClassId} {A : Nat → Prop} {a0 : Nat} {Q : Int32 → Sto → Prop} (C : Cx p s m args meth c D cy A cX10_keeps 4 RX10) (hr : meth.sig.returnType = (some .boolean)) (hnm : meth.name = yX10_keeps.name)  (σ : Sto) (h : b_X10_keeps_74 a0  Q  σ) (ls : Array Slot) (hl : lv_has ls 4 []) : Xw p l e rm_X10_keeps s m args below meth c D cy A σ 0 0 (MQ below (Qst D cy A (PsI Q)) args s rm_X10_keeps.cells rm_X10_keeps.slots A) (F0 m 74 ls []) := by
  unfold b_X10_keeps_74 at h
  refine x_iconst (v := 1) C dX10_keeps_74 (by decide) ?_
  refine x_goto (tgt := 79) C dX10_keeps_75 (by decide) ?_
  exact x_zret C hr dX10_keeps_79 (by decide) ⟨_, rfl, h⟩
def f_X10_keeps_22 (a0 : Nat)  (Q : Int32 → Sto → Prop) (L22 : Option Nat × Option Nat × Int32 → Sto → Prop) (t : Option Nat × Option Nat × Int32) (σ : Sto) : Prop := (∃ b1 : Nat, t.1 = some b1 ∧ (sK σ b1 = 2 ∧ (∀ x4 : Int32, x4 = sI σ b1 1 → ((x4 ≤ t.2.2 → Q (0 : Int32) σ) ∧ (¬ x4 ≤ t.2.2 → (((100 : Int32) ≤ t.2.2 → Q (0 : Int32) σ) ∧ (¬ (100 : Int32) ≤ t.2.2 → (∃ b8 : Nat, sP σ b1 0 = some b8 ∧ (sK σ b8 = 22 ∧ (vp_in t.2.2 (sN σ b8) ∧ (∀ r12 : Option Nat, r12 = sP σ b8 t.2.2.toNatClampNeg → (∃ b14 : Nat, t.2.1 = some b14 ∧ (sK σ b14 = 6 ∧ (wp_X11_isSameRequest r12 (sP σ b14 0) σ (fun (x18 : Int32) (σ17 : Sto) => ((x18 = 0 → (∀ x20 : Int32, x20 = t.2.2 + (1 : Int32) → L22 (t.1, t.2.1, x20) σ17)) ∧ (¬ x18 = 0 → (sK σ17 a0 = 10 ∧ (∃ b23 : Nat, sP σ17 a0 3 = some b23 ∧ (sK σ17 b23 = 16 ∧ (vp_in t.2.2 (sN σ17 b23) ∧ (∀ x27 : Int32, x27 = sI σ17 b23 t.2.2.toNatClampNeg → ((x27 = 0 → b_X10_keeps_74 a0  Q  σ17) ∧ (¬ x27 = 0 → (∃ b30 : Nat, sP σ17 a0 4 = some b30 ∧ (sK σ17 b30 = 14 ∧ (vp_in t.2.2 (sN σ17 b30) ∧ (∀ x34 : Int32, x34 = sI σ17 b30 t.2.2.toNatClampNeg → (sK σ17 b14 = 6 ∧ (∀ x37 : Int32, x37 = sI σ17 b14 4 → ((¬ x34 = x37 → Q (0 : Int32) σ17) ∧ (x34 = x37 → b_X10_keeps_74 a0  Q  σ17))))))))))))))))))))))))))))))))
set_option maxHeartbeats 4000000 in
set_option maxRecDepth 100000 in
theorem t_X10_keeps_22 {p : Program} {l : Launch} {e : Env} {s : State} {m : MethodId} {args : Array Value} {below : List Frame} {meth : Method} {c : Code} {D : va_G} {cy : Nat → ClassId} {A : Nat → Prop} {a0 : Nat} {Q : Int32 → Sto → Prop} {L22 : Option Nat × Option Nat × Int32 → Sto → Prop} (C : Cx p s m args meth c D cy A cX10_keeps 4 RX10) (hr : meth.sig.returnType = (some .boolean)) (hnm : meth.name = yX10_keeps.name) (hL22 : ∀ (t : Option Nat × Option Nat × Int32) (σ : Sto), L22 t σ → ∀ ls : Array Slot, lv_has ls 4 [(0, .ref a0), (1, va_rf t.1), (2, va_rf t.2.1), (3, .int t.2.2)] → Xw p l e rm_X10_keeps s m args below meth c D cy A σ 0 0 (MQ below (Qst D cy A (PsI Q)) args s rm_X10_keeps.cells rm_X10_keeps.slots A) (F0 m 22 ls [])) : ∀ (t : Option Nat × Option Nat × Int32) (σ : Sto), f_X10_keeps_22 a0  Q L22 t σ → ∀ ls : Array Slot, lv_has ls 4 [(0, .ref a0), (1, va_rf t.1), (2, va_rf t.2.1), (3, .int t.2.2)] → Xw p l e rm_X10_keeps s m args below meth c D cy A σ 0 0 (MQ below (Qst D cy A (PsI Q)) args s rm_X10_keeps.cells rm_X10_keeps.slots A) (F0 m 22 ls []) := by
  intro t σ h ls hl
  unfold f_X10_keeps_22 at h
  refine x_iload_n C dX10_keeps_22 rfl (lv_at hl 3 rfl) ?_
  refine x_aload_nq C dX10_keeps_23 rfl (lv_at hl 1 rfl) ?_
  obtain ⟨b1, g2, h⟩ := h
  refine x_nn0 g2 ?_
  obtain ⟨g3, h⟩ := h
  refine x_getI C fl_RX10_28 g3 dX10_keeps_24 ?_
  refine x_topi (fun x4 e5 => ?_)
  have h := h x4 e5
  refine x_icmp_ge (tgt := 86) C dX10_keeps_27 (by decide) (fun c6 => ?_) (fun c6 => ?_)
  · have h := h.1 c6
    refine x_iconst (v := 0) C dX10_keeps_86 (by decide) ?_
    exact x_zret C hr dX10_keeps_87 (by decide) ⟨_, rfl, h⟩
  · have h := h.2 c6
    refine x_iload_n C dX10_keeps_30 rfl (lv_at hl 3 rfl) ?_
    refine x_bipush (v := 100) C dX10_keeps_31 (by decide) ?_
    refine x_icmp_ge (tgt := 86) C dX10_keeps_33 (by decide) (fun c7 => ?_) (fun c7 => ?_)
    · have h := h.1 c7
      refine x_iconst (v := 0) C dX10_keeps_86 (by decide) ?_
      exact x_zret C hr dX10_keeps_87 (by decide) ⟨_, rfl, h⟩
    · have h := h.2 c7
      refine x_aload_nq C dX10_keeps_36 rfl (lv_at hl 1 rfl) ?_
      refine x_nn0 g2 ?_
      refine x_getP C fl_RX10_34 g3 dX10_keeps_37 ?_
      refine x_iload_n C dX10_keeps_40 rfl (lv_at hl 3 rfl) ?_
      obtain ⟨b8, g9, h⟩ := h
      refine x_nn1 g9 ?_
      obtain ⟨g10, h⟩ := h
      obtain ⟨g11, h⟩ := h
      refine x_aald C rak_22 g10 g11 dX10_keeps_41 ?_
      refine x_topq (fun r12 e13 => ?_)
      have h := h r12 e13
      refine x_aload_nq C dX10_keeps_42 rfl (lv_at hl 2 rfl) ?_
      obtain ⟨b14, g15, h⟩ := h
      refine x_nn0 g15 ?_
      obtain ⟨g16, h⟩ := h
      refine x_getP C fl_RX10_64 g16 dX10_keeps_43 ?_
      refine x_callSN (rm := rm_X11_isSameRequest) (rest := []) (As := [va_rf r12, va_rf (sP σ b14 0)]) C csn_RX10_68 (by decide) (by decide) rfl rfl (Nat.le_of_ble_eq_true rfl) hl.1 dX10_keeps_46 (c_X11_isSameRequest l D cy r12 (sP σ b14 0) σ _ h) (ks_i (fun x18 σ17 h => ?_))
      refine x_if_eq (tgt := 80) C dX10_keeps_49 (by decide) (fun c19 => ?_) (fun c19 => ?_)
      · have h := h.1 c19
        obtain ⟨x20, e21⟩ : ∃ z : Int32, z = t.2.2 + (1 : Int32) := ⟨_, rfl⟩
        have h := h x20 e21
        refine x_iinc (v := x20) (lv' := [(3, .int x20), (0, .ref a0), (1, va_rf t.1), (2, va_rf t.2.1)]) C dX10_keeps_80 hl (q0 := 3) rfl (by rw [e21]; rfl) (by decide) (by first | rfl | simp [vrc, cat_i, cat_r, cat_l]) (fun ls hl => ?_)
        refine x_goto (tgt := 22) C dX10_keeps_83 (by decide) ?_
        exact hL22 (t.1, t.2.1, x20) _ h ls (lv_sub hl [1, 2, 3, 0] rfl)
      · have h := h.2 c19
        refine x_aload_n C dX10_keeps_52 rfl (lv_at hl 0 rfl) ?_
        obtain ⟨g22, h⟩ := h
        refine x_getP C fl_RX10_21 g22 dX10_keeps_53 ?_
        refine x_iload_n C dX10_keeps_56 rfl (lv_at hl 3 rfl) ?_
        obtain ⟨b23, g24, h⟩ := h
        refine x_nn1 g24 ?_
        obtain ⟨g25, h⟩ := h
        obtain ⟨g26, h⟩ := h
        refine x_zald C g25 g26 dX10_keeps_57 ?_
        refine x_topi (fun x27 e28 => ?_)
        have h := h x27 e28
        refine x_if_eq (tgt := 74) C dX10_keeps_58 (by decide) (fun c29 => ?_) (fun c29 => ?_)
        · have h := h.1 c29
          exact t_X10_keeps_74 C hr hnm   _ h ls (lv_sub hl [] rfl)
        · have h := h.2 c29
          refine x_aload_n C dX10_keeps_61 rfl (lv_at hl 0 rfl) ?_
          refine x_getP C fl_RX10_25 g22 dX10_keeps_62 ?_
          refine x_iload_n C dX10_keeps_65 rfl (lv_at hl 3 rfl) ?_
          obtain ⟨b30, g31, h⟩ := h
          refine x_nn1 g31 ?_
          obtain ⟨g32, h⟩ := h
          obtain ⟨g33, h⟩ := h
          refine x_iald C g32 g33 dX10_keeps_66 ?_
          refine x_topi (fun x34 e35 => ?_)
          have h := h x34 e35
          refine x_aload_nq C dX10_keeps_67 rfl (lv_at hl 2 rfl) ?_
          refine x_nn0 g15 ?_
          obtain ⟨g36, h⟩ := h
          refine x_getI C fl_RX10_72 g36 dX10_keeps_68 ?_
          refine x_topi (fun x37 e38 => ?_)
          have h := h x37 e38
          refine x_icmp_ne (tgt := 78) C dX10_keeps_71 (by decide) (fun c39 => ?_) (fun c39 => ?_)
          · have h := h.1 c39
            refine x_iconst (v := 0) C dX10_keeps_78 (by decide) ?_
            exact x_zret C hr dX10_keeps_79 (by decide) ⟨_, rfl, h⟩
          · have h := h.2 c39
            exact t_X10_keeps_74 C hr hnm   _ h ls (lv_sub hl [] rfl)
def wp_X10_keeps (a0 : Nat) (p1 : Option Nat) (p2 : Option Nat) (σ : Sto) (Q : Int32 → Sto → Prop) : Prop := (∃ b1 : Nat, p2 = some b1 ∧ (sK σ b1 = 6 ∧ (∀ x4 : Int32, x4 = sI σ b1 2 → (∃ b6 : Nat, p1 = some b6 ∧ (sK σ b6 = 2 ∧ (wp_X2_at b6 x4 σ (fun (r10 : Option Nat) (σ9 : Sto) => (sK σ9 b1 = 6 ∧ (wp_X11_isSameRequest r10 (sP σ9 b1 0) σ9 (fun (x13 : Int32) (σ12 : Sto) => ((¬ x13 = 0 → LF (f_X10_keeps_22 a0  Q) (p1, p2, (0 : Int32)) σ12) ∧ (x13 = 0 → Q (0 : Int32) σ12))))))))))))
set_option maxHeartbeats 4000000 in
set_option maxRecDepth 100000 in
theorem c_X10_keeps (l : Launch) (D : va_G) (cy : Nat → ClassId) (a0 : Nat) (p1 : Option Nat) (p2 : Option Nat) (σ : Sto) (Q : Int32 → Sto → Prop) (h : wp_X10_keeps a0 p1 p2 σ Q) : Mt l D cy yX10_keeps cX10_keeps 4 (some .boolean) rm_X10_keeps [.ref a0, va_rf p1, va_rf p2] σ (PsI Q) := by
  unfold wp_X10_keeps at h
  refine mt_of (by decide +kernel) (by simp [lg_sl, vrc, cat_i, cat_r, cat_l]) ?_
  intro p e s m args below meth c A ls C hr hnm hl
  have C : Cx p s m args meth c D cy A cX10_keeps 4 RX10 := C
  have hl : lv_has ls 4 [(0, .ref a0), (1, va_rf p1), (2, va_rf p2)] := by simpa [lv_args, vrc, cat_i, cat_r, cat_l] using hl
  refine x_aload_nq C dX10_keeps_0 rfl (lv_at hl 1 rfl) ?_
  refine x_aload_nq C dX10_keeps_1 rfl (lv_at hl 2 rfl) ?_
  obtain ⟨b1, g2, h⟩ := h
  refine x_nn0 g2 ?_
  obtain ⟨g3, h⟩ := h
  refine x_getI C fl_RX10_55 g3 dX10_keeps_2 ?_
  refine x_topi (fun x4 e5 => ?_)
  have h := h x4 e5
  obtain ⟨b6, g7, h⟩ := h
  refine x_nn1 g7 ?_
  obtain ⟨g8, h⟩ := h
  refine x_callV (rm := rm_X2_at) (rest := []) (As := [.int x4]) C cy_RX10_60 g8 (by decide) (by decide) rfl rfl (Nat.le_of_ble_eq_true rfl) hl.1 dX10_keeps_5 (c_X2_at l D cy b6 x4 σ _ h) (ks_p (fun r10 σ9 h => ?_))
  refine x_aload_nq C dX10_keeps_8 rfl (lv_at hl 2 rfl) ?_
  refine x_nn0 g2 ?_
  obtain ⟨g11, h⟩ := h
  refine x_getP C fl_RX10_64 g11 dX10_keeps_9 ?_
  refine x_callSN (rm := rm_X11_isSameRequest) (rest := []) (As := [va_rf r10, va_rf (sP σ9 b1 0)]) C csn_RX10_68 (by decide) (by decide) rfl rfl (Nat.le_of_ble_eq_true rfl) hl.1 dX10_keeps_12 (c_X11_isSameRequest l D cy r10 (sP σ9 b1 0) σ9 _ h) (ks_i (fun x13 σ12 h => ?_))
  refine x_if_ne (tgt := 20) C dX10_keeps_15 (by decide) (fun c14 => ?_) (fun c14 => ?_)
  · have h := h.1 c14
    refine x_iconst (v := 0) C dX10_keeps_20 (by decide) ?_
    refine x_istore_n (i := 3) (lv' := [(3, .int (0 : Int32)), (0, .ref a0), (1, va_rf p1), (2, va_rf p2)]) C dX10_keeps_21 rfl hl (by decide) (by first | rfl | simp [vrc, cat_i, cat_r, cat_l]) (fun ls hl => ?_)
    exact h (fun t σ => ∀ ls : Array Slot, lv_has ls 4 [(0, .ref a0), (1, va_rf t.1), (2, va_rf t.2.1), (3, .int t.2.2)] → Xw p l e rm_X10_keeps s m args below meth c D cy A σ 0 0 (MQ below (Qst D cy A (PsI Q)) args s rm_X10_keeps.cells rm_X10_keeps.slots A) (F0 m 22 ls [])) (t_X10_keeps_22 C hr hnm  (fun t σ h => h)) ls (lv_sub hl [1, 2, 3, 0] rfl)
  · have h := h.2 c14
    refine x_iconst (v := 0) C dX10_keeps_18 (by decide) ?_
    exact x_zret C hr dX10_keeps_19 (by decide) ⟨_, rfl, h⟩
theorem dX11_init_0 : decode cX11_init 0 = .ok (.aload_n 0, 1) := by decide +kernel
theorem dX11_init_1 : decode cX11_init 1 = .ok (.invokespecial 3, 3) := by decide +kernel
theorem dX11_init_4 : decode cX11_init 4 = .ok (.aload_n 0, 1) := by decide +kernel
theorem dX11_init_5 : decode cX11_init 5 = .ok (.iconst 3, 1) := by decide +kernel
theorem dX11_init_6 : decode cX11_init 6 = .ok (.iload_n 2, 1) := by decide +kernel
theorem dX11_init_7 : decode cX11_init 7 = .ok (.bipush 6, 2) := by decide +kernel
theorem dX11_init_9 : decode cX11_init 9 = .ok (.invokestatic 9, 3) := by decide +kernel
theorem dX11_init_12 : decode cX11_init 12 = .ok (.iadd, 1) := by decide +kernel
theorem dX11_init_13 : decode cX11_init 13 = .ok (.putfield 15, 3) := by decide +kernel
theorem dX11_init_16 : decode cX11_init 16 = .ok (.aload_n 0, 1) := by decide +kernel
theorem dX11_init_17 : decode cX11_init 17 = .ok (.new 19, 3) := by decide +kernel
theorem dX11_init_20 : decode cX11_init 20 = .ok (.dup, 1) := by decide +kernel
theorem dX11_init_21 : decode cX11_init 21 = .ok (.iconst 3, 1) := by decide +kernel
theorem dX11_init_22 : decode cX11_init 22 = .ok (.iconst 2, 1) := by decide +kernel
theorem dX11_init_23 : decode cX11_init 23 = .ok (.iload_n 1, 1) := by decide +kernel
theorem dX11_init_24 : decode cX11_init 24 = .ok (.iconst 3, 1) := by decide +kernel
theorem dX11_init_25 : decode cX11_init 25 = .ok (.invokestatic 9, 3) := by decide +kernel
theorem dX11_init_28 : decode cX11_init 28 = .ok (.imul, 1) := by decide +kernel
theorem dX11_init_29 : decode cX11_init 29 = .ok (.iadd, 1) := by decide +kernel
theorem dX11_init_30 : decode cX11_init 30 = .ok (.invokespecial 21, 3) := by decide +kernel
theorem dX11_init_33 : decode cX11_init 33 = .ok (.putfield 24, 3) := by decide +kernel
theorem dX11_init_36 : decode cX11_init 36 = .ok (.aload_n 0, 1) := by decide +kernel
theorem dX11_init_37 : decode cX11_init 37 = .ok (.new 28, 3) := by decide +kernel
theorem dX11_init_40 : decode cX11_init 40 = .ok (.dup, 1) := by decide +kernel
theorem dX11_init_41 : decode cX11_init 41 = .ok (.invokespecial 30, 3) := by decide +kernel
theorem dX11_init_44 : decode cX11_init 44 = .ok (.putfield 31, 3) := by decide +kernel
theorem dX11_init_47 : decode cX11_init 47 = .ok (.aload_n 0, 1) := by decide +kernel
theorem dX11_init_48 : decode cX11_init 48 = .ok (.aload_n 0, 1) := by decide +kernel
theorem dX11_init_49 : decode cX11_init 49 = .ok (.getfield 24, 3) := by decide +kernel
theorem dX11_init_52 : decode cX11_init 52 = .ok (.getfield 35, 3) := by decide +kernel
theorem dX11_init_55 : decode cX11_init 55 = .ok (.anewarray 38, 3) := by decide +kernel
theorem dX11_init_58 : decode cX11_init 58 = .ok (.putfield 40, 3) := by decide +kernel
theorem dX11_init_61 : decode cX11_init 61 = .ok (.iconst 0, 1) := by decide +kernel
theorem dX11_init_62 : decode cX11_init 62 = .ok (.istore_n 3, 1) := by decide +kernel
theorem dX11_init_63 : decode cX11_init 63 = .ok (.iload_n 3, 1) := by decide +kernel
theorem dX11_init_64 : decode cX11_init 64 = .ok (.aload_n 0, 1) := by decide +kernel
theorem dX11_init_65 : decode cX11_init 65 = .ok (.getfield 40, 3) := by decide +kernel
theorem dX11_init_68 : decode cX11_init 68 = .ok (.arraylength, 1) := by decide +kernel
theorem dX11_init_69 : decode cX11_init 69 = .ok (.if_icmp .ge 31, 3) := by decide +kernel
theorem dX11_init_72 : decode cX11_init 72 = .ok (.aload_n 0, 1) := by decide +kernel
theorem dX11_init_73 : decode cX11_init 73 = .ok (.getfield 40, 3) := by decide +kernel
theorem dX11_init_76 : decode cX11_init 76 = .ok (.iload_n 3, 1) := by decide +kernel
theorem dX11_init_77 : decode cX11_init 77 = .ok (.new 38, 3) := by decide +kernel
theorem dX11_init_80 : decode cX11_init 80 = .ok (.dup, 1) := by decide +kernel
theorem dX11_init_81 : decode cX11_init 81 = .ok (.iload_n 3, 1) := by decide +kernel
theorem dX11_init_82 : decode cX11_init 82 = .ok (.aload_n 0, 1) := by decide +kernel
theorem dX11_init_83 : decode cX11_init 83 = .ok (.getfield 24, 3) := by decide +kernel
theorem dX11_init_86 : decode cX11_init 86 = .ok (.aload_n 0, 1) := by decide +kernel
theorem dX11_init_87 : decode cX11_init 87 = .ok (.getfield 31, 3) := by decide +kernel
theorem dX11_init_90 : decode cX11_init 90 = .ok (.invokespecial 43, 3) := by decide +kernel
theorem dX11_init_93 : decode cX11_init 93 = .ok (.aastore, 1) := by decide +kernel
theorem dX11_init_94 : decode cX11_init 94 = .ok (.iinc 3 1, 3) := by decide +kernel
theorem dX11_init_97 : decode cX11_init 97 = .ok (.goto (-34), 3) := by decide +kernel
theorem dX11_init_100 : decode cX11_init 100 = .ok (.aload_n 0, 1) := by decide +kernel
theorem dX11_init_101 : decode cX11_init 101 = .ok (.iconst 4, 1) := by decide +kernel
theorem dX11_init_102 : decode cX11_init 102 = .ok (.anewarray 46, 3) := by decide +kernel
theorem dX11_init_105 : decode cX11_init 105 = .ok (.putfield 48, 3) := by decide +kernel
theorem dX11_init_108 : decode cX11_init 108 = .ok (.iconst 0, 1) := by decide +kernel
theorem dX11_init_109 : decode cX11_init 109 = .ok (.istore_n 3, 1) := by decide +kernel
theorem dX11_init_110 : decode cX11_init 110 = .ok (.iload_n 3, 1) := by decide +kernel
theorem dX11_init_111 : decode cX11_init 111 = .ok (.aload_n 0, 1) := by decide +kernel
theorem dX11_init_112 : decode cX11_init 112 = .ok (.getfield 48, 3) := by decide +kernel
theorem dX11_init_115 : decode cX11_init 115 = .ok (.arraylength, 1) := by decide +kernel
theorem dX11_init_116 : decode cX11_init 116 = .ok (.if_icmp .ge 22, 3) := by decide +kernel
theorem dX11_init_119 : decode cX11_init 119 = .ok (.aload_n 0, 1) := by decide +kernel
theorem dX11_init_120 : decode cX11_init 120 = .ok (.getfield 48, 3) := by decide +kernel
theorem dX11_init_123 : decode cX11_init 123 = .ok (.iload_n 3, 1) := by decide +kernel
theorem dX11_init_124 : decode cX11_init 124 = .ok (.new 46, 3) := by decide +kernel
theorem dX11_init_127 : decode cX11_init 127 = .ok (.dup, 1) := by decide +kernel
theorem dX11_init_128 : decode cX11_init 128 = .ok (.invokespecial 52, 3) := by decide +kernel
theorem dX11_init_131 : decode cX11_init 131 = .ok (.aastore, 1) := by decide +kernel
theorem dX11_init_132 : decode cX11_init 132 = .ok (.iinc 3 1, 3) := by decide +kernel
theorem dX11_init_135 : decode cX11_init 135 = .ok (.goto (-25), 3) := by decide +kernel
theorem dX11_init_138 : decode cX11_init 138 = .ok (.aload_n 0, 1) := by decide +kernel
theorem dX11_init_139 : decode cX11_init 139 = .ok (.iconst 1, 1) := by decide +kernel
theorem dX11_init_140 : decode cX11_init 140 = .ok (.putfield 53, 3) := by decide +kernel
theorem dX11_init_143 : decode cX11_init 143 = .ok (.aload_n 0, 1) := by decide +kernel
theorem dX11_init_144 : decode cX11_init 144 = .ok (.iconst 1, 1) := by decide +kernel
theorem dX11_init_145 : decode cX11_init 145 = .ok (.putfield 57, 3) := by decide +kernel
theorem dX11_init_148 : decode cX11_init 148 = .ok (.aload_n 0, 1) := by decide +kernel
theorem dX11_init_149 : decode cX11_init 149 = .ok (.sipush 200, 3) := by decide +kernel
theorem dX11_init_152 : decode cX11_init 152 = .ok (.anewarray 60, 3) := by decide +kernel
theorem dX11_init_155 : decode cX11_init 155 = .ok (.putfield 62, 3) := by decide +kernel
theorem dX11_init_158 : decode cX11_init 158 = .ok (.iconst 0, 1) := by decide +kernel
theorem dX11_init_159 : decode cX11_init 159 = .ok (.istore_n 3, 1) := by decide +kernel
theorem dX11_init_160 : decode cX11_init 160 = .ok (.iload_n 3, 1) := by decide +kernel
theorem dX11_init_161 : decode cX11_init 161 = .ok (.aload_n 0, 1) := by decide +kernel
theorem dX11_init_162 : decode cX11_init 162 = .ok (.getfield 62, 3) := by decide +kernel
theorem dX11_init_165 : decode cX11_init 165 = .ok (.arraylength, 1) := by decide +kernel
theorem dX11_init_166 : decode cX11_init 166 = .ok (.if_icmp .ge 22, 3) := by decide +kernel
theorem dX11_init_169 : decode cX11_init 169 = .ok (.aload_n 0, 1) := by decide +kernel
theorem dX11_init_170 : decode cX11_init 170 = .ok (.getfield 62, 3) := by decide +kernel
theorem dX11_init_173 : decode cX11_init 173 = .ok (.iload_n 3, 1) := by decide +kernel
theorem dX11_init_174 : decode cX11_init 174 = .ok (.new 60, 3) := by decide +kernel
theorem dX11_init_177 : decode cX11_init 177 = .ok (.dup, 1) := by decide +kernel
theorem dX11_init_178 : decode cX11_init 178 = .ok (.invokespecial 66, 3) := by decide +kernel
theorem dX11_init_181 : decode cX11_init 181 = .ok (.aastore, 1) := by decide +kernel
theorem dX11_init_182 : decode cX11_init 182 = .ok (.iinc 3 1, 3) := by decide +kernel
theorem dX11_init_185 : decode cX11_init 185 = .ok (.goto (-25), 3) := by decide +kernel
theorem dX11_init_188 : decode cX11_init 188 = .ok (.aload_n 0, 1) := by decide +kernel
theorem dX11_init_189 : decode cX11_init 189 = .ok (.new 67, 3) := by decide +kernel
theorem dX11_init_192 : decode cX11_init 192 = .ok (.dup, 1) := by decide +kernel
theorem dX11_init_193 : decode cX11_init 193 = .ok (.sipush 2560, 3) := by decide +kernel
theorem dX11_init_196 : decode cX11_init 196 = .ok (.invokespecial 69, 3) := by decide +kernel
theorem dX11_init_199 : decode cX11_init 199 = .ok (.putfield 70, 3) := by decide +kernel
theorem dX11_init_202 : decode cX11_init 202 = .ok (.aload_n 0, 1) := by decide +kernel
theorem dX11_init_203 : decode cX11_init 203 = .ok (.new 67, 3) := by decide +kernel
theorem dX11_init_206 : decode cX11_init 206 = .ok (.dup, 1) := by decide +kernel
theorem dX11_init_207 : decode cX11_init 207 = .ok (.sipush 1500, 3) := by decide +kernel
theorem dX11_init_210 : decode cX11_init 210 = .ok (.invokespecial 69, 3) := by decide +kernel
theorem dX11_init_213 : decode cX11_init 213 = .ok (.putfield 74, 3) := by decide +kernel
theorem dX11_init_216 : decode cX11_init 216 = .ok (.aload_n 0, 1) := by decide +kernel
theorem dX11_init_217 : decode cX11_init 217 = .ok (.new 77, 3) := by decide +kernel
theorem dX11_init_220 : decode cX11_init 220 = .ok (.dup, 1) := by decide +kernel
theorem dX11_init_221 : decode cX11_init 221 = .ok (.aload_n 0, 1) := by decide +kernel
theorem dX11_init_222 : decode cX11_init 222 = .ok (.getfield 74, 3) := by decide +kernel
theorem dX11_init_225 : decode cX11_init 225 = .ok (.invokespecial 79, 3) := by decide +kernel
theorem dX11_init_228 : decode cX11_init 228 = .ok (.putfield 82, 3) := by decide +kernel
theorem dX11_init_231 : decode cX11_init 231 = .ok (.return_, 1) := by decide +kernel
abbrev rm_X11_init : Room := { frames := 4, cells := 1410, slots := 45206, locals := 85 }
def f_X11_init_160 (a0 : Nat)  (Q : Sto → Prop) (L160 : Int32 × Nat × Nat → Sto → Prop) (t : Int32 × Nat × Nat) (σ : Sto) : Prop := (sK σ a0 = 11 ∧ (∃ b2 : Nat, sP σ a0 9 = some b2 ∧ (sK σ b2 = 20 ∧ (((nI (sN σ b2)) ≤ t.1 → (t.2.1 + 1 ≤ 1410 ∧ t.2.2 + 2 ≤ 45206 ∧ (∀ q8 : Nat, ¬ sK σ q8 < 23 → ∀ σ10 : Sto, σ10 = stN σ q8 0 0 → (((t.2.1 + 1) + 1 ≤ 1410 ∧ (t.2.2 + 2) + 2560 ≤ 45206) ∧ (wp_X0_init q8 (2560 : Int32) σ10 (fun (σ13 : Sto) => (sK σ13 a0 = 11 ∧ (((t.2.1 + 1) + 1) + 1 ≤ 1410 ∧ ((t.2.2 + 2) + 2560) + 2 ≤ 45206 ∧ (∀ q17 : Nat, ¬ sK σ13 q17 < 23 → ∀ σ19 : Sto, σ19 = stN (stP σ13 a0 11 (some q8)) q17 0 0 → (((((t.2.1 + 1) + 1) + 1) + 1 ≤ 1410 ∧ (((t.2.2 + 2) + 2560) + 2) + 2560 ≤ 45206) ∧ (wp_X0_init q17 (1500 : Int32) σ19 (fun (σ22 : Sto) => (sK σ22 a0 = 11 ∧ (((((t.2.1 + 1) + 1) + 1) + 1) + 1 ≤ 1410 ∧ ((((t.2.2 + 2) + 2560) + 2) + 2560) + 6 ≤ 45206 ∧ (∀ q26 : Nat, ¬ sK σ22 q26 < 23 → ∀ σ28 : Sto, σ28 = stN (stP σ22 a0 12 (some q17)) q26 7 0 → (sK σ28 a0 = 11 ∧ (((((((t.2.1 + 1) + 1) + 1) + 1) + 1) + 1 ≤ 1410 ∧ (((((t.2.2 + 2) + 2560) + 2) + 2560) + 6) + 609 ≤ 45206) ∧ (wp_X7_init q26 (sP σ28 a0 12) σ28 (fun (σ32 : Sto) => (sK σ32 a0 = 11 ∧ ((((((((t.2.1 + 1) + 1) + 1) + 1) + 1) + 1) ≤ 1410 ∧ ((((((t.2.2 + 2) + 2560) + 2) + 2560) + 6) + 609) ≤ 45206) ∧ Q (stP σ32 a0 13 (some q26))))))))))))))))))))))) ∧ (¬ (nI (sN σ b2)) ≤ t.1 → (t.2.1 + 1 ≤ 1410 ∧ t.2.2 + 6 ≤ 45206 ∧ (∀ q36 : Nat, ¬ sK σ q36 < 23 → ∀ σ38 : Sto, σ38 = stN σ q36 6 0 → (((t.2.1 + 1) ≤ 1410 ∧ (t.2.2 + 6) ≤ 45206) ∧ (wp_X6_init q36  σ38 (fun (σ41 : Sto) => (sK σ41 b2 = 20 ∧ (vp_in t.1 (sN σ41 b2) ∧ (sK σ41 q36 = 6 ∧ (∀ x45 : Int32, x45 = t.1 + (1 : Int32) → L160 (x45, (t.2.1 + 1), (t.2.2 + 6)) (stP σ41 b2 t.1.toNatClampNeg (some q36))))))))))))))))
set_option maxHeartbeats 4000000 in
set_option maxRecDepth 100000 in
theorem t_X11_init_160 {p : Program} {l : Launch} {e : Env} {s : State} {m : MethodId} {args : Array Value} {below : List Frame} {meth : Method} {c : Code} {D : va_G} {cy : Nat → ClassId} {A : Nat → Prop} {a0 : Nat} {Q : Sto → Prop} {L160 : Int32 × Nat × Nat → Sto → Prop} (C : Cx p s m args meth c D cy A cX11_init 4 RX11) (hr : meth.sig.returnType = none) (hnm : meth.name = yX11_init.name) (hL160 : ∀ (t : Int32 × Nat × Nat) (σ : Sto), L160 t σ → ∀ ls : Array Slot, lv_has ls 4 [(0, .ref a0), (3, .int t.1)] → Xw p l e rm_X11_init s m args below meth c D cy A σ t.2.1 t.2.2 (MQ below (Qst D cy A (PsV Q)) args s rm_X11_init.cells rm_X11_init.slots A) (F0 m 160 ls [])) : ∀ (t : Int32 × Nat × Nat) (σ : Sto), f_X11_init_160 a0  Q L160 t σ → ∀ ls : Array Slot, lv_has ls 4 [(0, .ref a0), (3, .int t.1)] → Xw p l e rm_X11_init s m args below meth c D cy A σ t.2.1 t.2.2 (MQ below (Qst D cy A (PsV Q)) args s rm_X11_init.cells rm_X11_init.slots A) (F0 m 160 ls []) := by
  intro t σ h ls hl
  unfold f_X11_init_160 at h
  refine x_iload_n C dX11_init_160 rfl (lv_at hl 1 rfl) ?_
  refine x_aload_n C dX11_init_161 rfl (lv_at hl 0 rfl) ?_
  obtain ⟨g1, h⟩ := h
  refine x_getP C fl_RX11_62 g1 dX11_init_162 ?_
  obtain ⟨b2, g3, h⟩ := h
  refine x_nn0 g3 ?_
  obtain ⟨g4, h⟩ := h
  refine x_alen C g4 (by decide) (by decide) dX11_init_165 ?_
  refine x_icmp_ge (tgt := 188) C dX11_init_166 (by decide) (fun c5 => ?_) (fun c5 => ?_)
  · have h := h.1 c5
    refine x_aload_n C dX11_init_188 rfl (lv_at hl 0 rfl) ?_
    obtain ⟨g6, g7, h⟩ := h
    refine x_new C cls_0 cl_RX11_67 ins_0 ini_0 g6 g7 dX11_init_189 (fun q8 g9 => ?_)
    refine x_nameS (fun σ10 e11 => ?_)
    have h := h q8 g9 σ10 e11
    refine x_dup C dX11_init_192 (rfl) ?_
    refine x_sipush (v := 2560) C dX11_init_193 (by decide) ?_
    obtain ⟨g12, h⟩ := h
    refine x_callI (rm := rm_X0_init) (rest := [.ref q8, .ref a0]) (As := [.int (2560 : Int32)]) C ci_RX11_69 (by decide) g12 rfl rfl (Nat.le_of_ble_eq_true rfl) hl.1 dX11_init_196 (c_X0_init l D cy q8 (2560 : Int32) σ10 _ h) (ks_v (fun σ13 h => ?_))
    obtain ⟨g14, h⟩ := h
    refine x_putR C fl_RX11_70 (rty_o _) (Or.inr ⟨hnm, _, _, _, rfl, rfl⟩) g14 dX11_init_199 ?_
    refine x_aload_n C dX11_init_202 rfl (lv_at hl 0 rfl) ?_
    obtain ⟨g15, g16, h⟩ := h
    refine x_new C cls_0 cl_RX11_67 ins_0 ini_0 g15 g16 dX11_init_203 (fun q17 g18 => ?_)
    refine x_nameS (fun σ19 e20 => ?_)
    have h := h q17 g18 σ19 e20
    refine x_dup C dX11_init_206 (rfl) ?_
    refine x_sipush (v := 1500) C dX11_init_207 (by decide) ?_
    obtain ⟨g21, h⟩ := h
    refine x_callI (rm := rm_X0_init) (rest := [.ref q17, .ref a0]) (As := [.int (1500 : Int32)]) C ci_RX11_69 (by decide) g21 rfl rfl (Nat.le_of_ble_eq_true rfl) hl.1 dX11_init_210 (c_X0_init l D cy q17 (1500 : Int32) σ19 _ h) (ks_v (fun σ22 h => ?_))
    obtain ⟨g23, h⟩ := h
    refine x_putR C fl_RX11_74 (rty_o _) (Or.inr ⟨hnm, _, _, _, rfl, rfl⟩) g23 dX11_init_213 ?_
    refine x_aload_n C dX11_init_216 rfl (lv_at hl 0 rfl) ?_
    obtain ⟨g24, g25, h⟩ := h
    refine x_new C cls_7 cl_RX11_77 ins_7 ini_7 g24 g25 dX11_init_217 (fun q26 g27 => ?_)
    refine x_nameS (fun σ28 e29 => ?_)
    have h := h q26 g27 σ28 e29
    refine x_dup C dX11_init_220 (rfl) ?_
    refine x_aload_n C dX11_init_221 rfl (lv_at hl 0 rfl) ?_
    obtain ⟨g30, h⟩ := h
    refine x_getP C fl_RX11_74 g30 dX11_init_222 ?_
    obtain ⟨g31, h⟩ := h
    refine x_callI (rm := rm_X7_init) (rest := [.ref q26, .ref a0]) (As := [va_rf (sP σ28 a0 12)]) C ci_RX11_79 (by decide) g31 rfl rfl (Nat.le_of_ble_eq_true rfl) hl.1 dX11_init_225 (c_X7_init l D cy q26 (sP σ28 a0 12) σ28 _ h) (ks_v (fun σ32 h => ?_))
    obtain ⟨g33, h⟩ := h
    refine x_putR C fl_RX11_82 (rty_o _) (Or.inr ⟨hnm, _, _, _, rfl, rfl⟩) g33 dX11_init_228 ?_
    refine x_widen h.1.1 h.1.2 ?_
    exact x_vret C hr dX11_init_231 ⟨rfl, h.2⟩
  · have h := h.2 c5
    refine x_aload_n C dX11_init_169 rfl (lv_at hl 0 rfl) ?_
    refine x_getP C fl_RX11_62 g1 dX11_init_170 ?_
    refine x_iload_n C dX11_init_173 rfl (lv_at hl 1 rfl) ?_
    obtain ⟨g34, g35, h⟩ := h
    refine x_new C cls_6 cl_RX11_60 ins_6 ini_6 g34 g35 dX11_init_174 (fun q36 g37 => ?_)
    refine x_nameS (fun σ38 e39 => ?_)
    have h := h q36 g37 σ38 e39
    refine x_dup C dX11_init_177 (rfl) ?_
    obtain ⟨g40, h⟩ := h
    refine x_callIN (rm := rm_X6_init) (rest := [.ref q36, .int t.1, va_rf (sP σ a0 9)]) (As := []) C cn_RX11_66 (by decide) g40 rfl rfl (by simp [vrc, cat_i, cat_r, cat_l]) hl.1 dX11_init_178 (c_X6_init l D cy q36  σ38 _ h) (ks_v (fun σ41 h => ?_))
    refine x_nn2 g3 ?_
    obtain ⟨g42, h⟩ := h
    obtain ⟨g43, h⟩ := h
    obtain ⟨g44, h⟩ := h
    refine x_aastR C rak_20 g42 g44 g43 dX11_init_181 ?_
    obtain ⟨x45, e46⟩ : ∃ z : Int32, z = t.1 + (1 : Int32) := ⟨_, rfl⟩
    have h := h x45 e46
    refine x_iinc (v := x45) (lv' := [(3, .int x45), (0, .ref a0)]) C dX11_init_182 hl (q0 := 1) rfl (by rw [e46]; rfl) (by decide) (by first | rfl | simp [vrc, cat_i, cat_r, cat_l]) (fun ls hl => ?_)
    refine x_goto (tgt := 160) C dX11_init_185 (by decide) ?_
    exact hL160 (x45, (t.2.1 + 1), (t.2.2 + 6)) _ h ls (lv_sub hl [1, 0] rfl)
def f_X11_init_110 (a0 : Nat)  (Q : Sto → Prop) (L110 : Int32 × Nat × Nat → Sto → Prop) (t : Int32 × Nat × Nat) (σ : Sto) : Prop := (sK σ a0 = 11 ∧ (∃ b2 : Nat, sP σ a0 4 = some b2 ∧ (sK σ b2 = 17 ∧ (((nI (sN σ b2)) ≤ t.1 → (t.2.1 + 1 ≤ 1410 ∧ t.2.2 + 200 ≤ 45206 ∧ (∀ q8 : Nat, ¬ sK σ q8 < 23 → ∀ σ10 : Sto, σ10 = stN (stI (stI σ a0 5 (1 : Int32)) a0 6 (1 : Int32)) q8 20 200 → (sK σ10 a0 = 11 ∧ LF (f_X11_init_160 a0  Q) ((0 : Int32), (t.2.1 + 1), (t.2.2 + 200)) (stP σ10 a0 9 (some q8)))))) ∧ (¬ (nI (sN σ b2)) ≤ t.1 → (t.2.1 + 1 ≤ 1410 ∧ t.2.2 + 8 ≤ 45206 ∧ (∀ q15 : Nat, ¬ sK σ q15 < 23 → ∀ σ17 : Sto, σ17 = stN σ q15 1 0 → (((t.2.1 + 1) + 66 ≤ 1410 ∧ (t.2.2 + 8) + 454 ≤ 45206) ∧ (wp_X1_init q15  σ17 (fun (σ20 : Sto) => (sK σ20 b2 = 17 ∧ (vp_in t.1 (sN σ20 b2) ∧ (sK σ20 q15 = 1 ∧ (∀ x24 : Int32, x24 = t.1 + (1 : Int32) → L110 (x24, ((t.2.1 + 1) + 66), ((t.2.2 + 8) + 454)) (stP σ20 b2 t.1.toNatClampNeg (some q15))))))))))))))))
set_option maxHeartbeats 4000000 in
set_option maxRecDepth 100000 in
theorem t_X11_init_110 {p : Program} {l : Launch} {e : Env} {s : State} {m : MethodId} {args : Array Value} {below : List Frame} {meth : Method} {c : Code} {D : va_G} {cy : Nat → ClassId} {A : Nat → Prop} {a0 : Nat} {Q : Sto → Prop} {L110 : Int32 × Nat × Nat → Sto → Prop} (C : Cx p s m args meth c D cy A cX11_init 4 RX11) (hr : meth.sig.returnType = none) (hnm : meth.name = yX11_init.name) (hL110 : ∀ (t : Int32 × Nat × Nat) (σ : Sto), L110 t σ → ∀ ls : Array Slot, lv_has ls 4 [(0, .ref a0), (3, .int t.1)] → Xw p l e rm_X11_init s m args below meth c D cy A σ t.2.1 t.2.2 (MQ below (Qst D cy A (PsV Q)) args s rm_X11_init.cells rm_X11_init.slots A) (F0 m 110 ls [])) : ∀ (t : Int32 × Nat × Nat) (σ : Sto), f_X11_init_110 a0  Q L110 t σ → ∀ ls : Array Slot, lv_has ls 4 [(0, .ref a0), (3, .int t.1)] → Xw p l e rm_X11_init s m args below meth c D cy A σ t.2.1 t.2.2 (MQ below (Qst D cy A (PsV Q)) args s rm_X11_init.cells rm_X11_init.slots A) (F0 m 110 ls []) := by
  intro t σ h ls hl
  unfold f_X11_init_110 at h
  refine x_iload_n C dX11_init_110 rfl (lv_at hl 1 rfl) ?_
  refine x_aload_n C dX11_init_111 rfl (lv_at hl 0 rfl) ?_
  obtain ⟨g1, h⟩ := h
  refine x_getP C fl_RX11_48 g1 dX11_init_112 ?_
  obtain ⟨b2, g3, h⟩ := h
  refine x_nn0 g3 ?_
  obtain ⟨g4, h⟩ := h
  refine x_alen C g4 (by decide) (by decide) dX11_init_115 ?_
  refine x_icmp_ge (tgt := 138) C dX11_init_116 (by decide) (fun c5 => ?_) (fun c5 => ?_)
  · have h := h.1 c5
    refine x_aload_n C dX11_init_138 rfl (lv_at hl 0 rfl) ?_
    refine x_iconst (v := 1) C dX11_init_139 (by decide) ?_
    refine x_putZ C fl_RX11_53 (Or.inl rfl) (by decide) g1 dX11_init_140 ?_
    refine x_aload_n C dX11_init_143 rfl (lv_at hl 0 rfl) ?_
    refine x_iconst (v := 1) C dX11_init_144 (by decide) ?_
    refine x_putI C fl_RX11_57 (Or.inl rfl) g1 dX11_init_145 ?_
    refine x_aload_n C dX11_init_148 rfl (lv_at hl 0 rfl) ?_
    refine x_sipush (v := 200) C dX11_init_149 (by decide) ?_
    obtain ⟨g6, g7, h⟩ := h
    refine x_newq C rak_20 (fun _ => rfl) (by decide) cl_RX11_60 (by decide) (by decide) (by decide) g6 g7 dX11_init_152 (fun q8 g9 => ?_)
    refine x_nameS (fun σ10 e11 => ?_)
    have h := h q8 g9 σ10 e11
    obtain ⟨g12, h⟩ := h
    refine x_putR C fl_RX11_62 (rty_a _) (Or.inr ⟨hnm, _, _, _, rfl, rfl⟩) g12 dX11_init_155 ?_
    refine x_iconst (v := 0) C dX11_init_158 (by decide) ?_
    refine x_istore_n (i := 3) (lv' := [(3, .int (0 : Int32)), (0, .ref a0)]) C dX11_init_159 rfl hl (by decide) (by first | rfl | simp [vrc, cat_i, cat_r, cat_l]) (fun ls hl => ?_)
    exact h (fun t σ => ∀ ls : Array Slot, lv_has ls 4 [(0, .ref a0), (3, .int t.1)] → Xw p l e rm_X11_init s m args below meth c D cy A σ t.2.1 t.2.2 (MQ below (Qst D cy A (PsV Q)) args s rm_X11_init.cells rm_X11_init.slots A) (F0 m 160 ls [])) (t_X11_init_160 C hr hnm  (fun t σ h => h)) ls (lv_sub hl [1, 0] rfl)
  · have h := h.2 c5
    refine x_aload_n C dX11_init_119 rfl (lv_at hl 0 rfl) ?_
    refine x_getP C fl_RX11_48 g1 dX11_init_120 ?_
    refine x_iload_n C dX11_init_123 rfl (lv_at hl 1 rfl) ?_
    obtain ⟨g13, g14, h⟩ := h
    refine x_new C cls_1 cl_RX11_46 ins_1 ini_1 g13 g14 dX11_init_124 (fun q15 g16 => ?_)
    refine x_nameS (fun σ17 e18 => ?_)
    have h := h q15 g16 σ17 e18
    refine x_dup C dX11_init_127 (rfl) ?_
    obtain ⟨g19, h⟩ := h
    refine x_callI (rm := rm_X1_init) (rest := [.ref q15, .int t.1, va_rf (sP σ a0 4)]) (As := []) C ci_RX11_52 (by decide) g19 rfl rfl (by simp [vrc, cat_i, cat_r, cat_l]) hl.1 dX11_init_128 (c_X1_init l D cy q15  σ17 _ h) (ks_v (fun σ20 h => ?_))
    refine x_nn2 g3 ?_
    obtain ⟨g21, h⟩ := h
    obtain ⟨g22, h⟩ := h
    obtain ⟨g23, h⟩ := h
    refine x_aastR C rak_17 g21 g23 g22 dX11_init_131 ?_
    obtain ⟨x24, e25⟩ : ∃ z : Int32, z = t.1 + (1 : Int32) := ⟨_, rfl⟩
    have h := h x24 e25
    refine x_iinc (v := x24) (lv' := [(3, .int x24), (0, .ref a0)]) C dX11_init_132 hl (q0 := 1) rfl (by rw [e25]; rfl) (by decide) (by first | rfl | simp [vrc, cat_i, cat_r, cat_l]) (fun ls hl => ?_)
    refine x_goto (tgt := 110) C dX11_init_135 (by decide) ?_
    exact hL110 (x24, ((t.2.1 + 1) + 66), ((t.2.2 + 8) + 454)) _ h ls (lv_sub hl [1, 0] rfl)
def f_X11_init_63 (a0 : Nat)  (Q : Sto → Prop) (L63 : Int32 × Nat × Nat → Sto → Prop) (t : Int32 × Nat × Nat) (σ : Sto) : Prop := (sK σ a0 = 11 ∧ (∃ b2 : Nat, sP σ a0 3 = some b2 ∧ (sK σ b2 = 21 ∧ (((nI (sN σ b2)) ≤ t.1 → (t.2.1 + 1 ≤ 1410 ∧ t.2.2 + 4 ≤ 45206 ∧ (∀ q8 : Nat, ¬ sK σ q8 < 23 → ∀ σ10 : Sto, σ10 = stN σ q8 17 4 → (sK σ10 a0 = 11 ∧ LF (f_X11_init_110 a0  Q) ((0 : Int32), (t.2.1 + 1), (t.2.2 + 4)) (stP σ10 a0 4 (some q8)))))) ∧ (¬ (nI (sN σ b2)) ≤ t.1 → (t.2.1 + 1 ≤ 1410 ∧ t.2.2 + 16 ≤ 45206 ∧ (∀ q15 : Nat, ¬ sK σ q15 < 23 → ∀ σ17 : Sto, σ17 = stN σ q15 8 0 → (sK σ17 a0 = 11 ∧ (((t.2.1 + 1) + 21 ≤ 1410 ∧ (t.2.2 + 16) + 865 ≤ 45206) ∧ (wp_X8_init q15 t.1 (sP σ17 a0 1) (sP σ17 a0 2) σ17 (fun (σ21 : Sto) => (sK σ21 b2 = 21 ∧ (vp_in t.1 (sN σ21 b2) ∧ (sK σ21 q15 = 8 ∧ (∀ x25 : Int32, x25 = t.1 + (1 : Int32) → L63 (x25, ((t.2.1 + 1) + 21), ((t.2.2 + 16) + 865)) (stP σ21 b2 t.1.toNatClampNeg (some q15)))))))))))))))))
set_option maxHeartbeats 4000000 in
set_option maxRecDepth 100000 in
theorem t_X11_init_63 {p : Program} {l : Launch} {e : Env} {s : State} {m : MethodId} {args : Array Value} {below : List Frame} {meth : Method} {c : Code} {D : va_G} {cy : Nat → ClassId} {A : Nat → Prop} {a0 : Nat} {Q : Sto → Prop} {L63 : Int32 × Nat × Nat → Sto → Prop} (C : Cx p s m args meth c D cy A cX11_init 4 RX11) (hr : meth.sig.returnType = none) (hnm : meth.name = yX11_init.name) (hL63 : ∀ (t : Int32 × Nat × Nat) (σ : Sto), L63 t σ → ∀ ls : Array Slot, lv_has ls 4 [(0, .ref a0), (3, .int t.1)] → Xw p l e rm_X11_init s m args below meth c D cy A σ t.2.1 t.2.2 (MQ below (Qst D cy A (PsV Q)) args s rm_X11_init.cells rm_X11_init.slots A) (F0 m 63 ls [])) : ∀ (t : Int32 × Nat × Nat) (σ : Sto), f_X11_init_63 a0  Q L63 t σ → ∀ ls : Array Slot, lv_has ls 4 [(0, .ref a0), (3, .int t.1)] → Xw p l e rm_X11_init s m args below meth c D cy A σ t.2.1 t.2.2 (MQ below (Qst D cy A (PsV Q)) args s rm_X11_init.cells rm_X11_init.slots A) (F0 m 63 ls []) := by
  intro t σ h ls hl
  unfold f_X11_init_63 at h
  refine x_iload_n C dX11_init_63 rfl (lv_at hl 1 rfl) ?_
  refine x_aload_n C dX11_init_64 rfl (lv_at hl 0 rfl) ?_
  obtain ⟨g1, h⟩ := h
  refine x_getP C fl_RX11_40 g1 dX11_init_65 ?_
  obtain ⟨b2, g3, h⟩ := h
  refine x_nn0 g3 ?_
  obtain ⟨g4, h⟩ := h
  refine x_alen C g4 (by decide) (by decide) dX11_init_68 ?_
  refine x_icmp_ge (tgt := 100) C dX11_init_69 (by decide) (fun c5 => ?_) (fun c5 => ?_)
  · have h := h.1 c5
    refine x_aload_n C dX11_init_100 rfl (lv_at hl 0 rfl) ?_
    refine x_iconst (v := 4) C dX11_init_101 (by decide) ?_
    obtain ⟨g6, g7, h⟩ := h
    refine x_newq C rak_17 (fun _ => rfl) (by decide) cl_RX11_46 (by decide) (by decide) (by decide) g6 g7 dX11_init_102 (fun q8 g9 => ?_)
    refine x_nameS (fun σ10 e11 => ?_)
    have h := h q8 g9 σ10 e11
    obtain ⟨g12, h⟩ := h
    refine x_putR C fl_RX11_48 (rty_a _) (Or.inr ⟨hnm, _, _, _, rfl, rfl⟩) g12 dX11_init_105 ?_
    refine x_iconst (v := 0) C dX11_init_108 (by decide) ?_
    refine x_istore_n (i := 3) (lv' := [(3, .int (0 : Int32)), (0, .ref a0)]) C dX11_init_109 rfl hl (by decide) (by first | rfl | simp [vrc, cat_i, cat_r, cat_l]) (fun ls hl => ?_)
    exact h (fun t σ => ∀ ls : Array Slot, lv_has ls 4 [(0, .ref a0), (3, .int t.1)] → Xw p l e rm_X11_init s m args below meth c D cy A σ t.2.1 t.2.2 (MQ below (Qst D cy A (PsV Q)) args s rm_X11_init.cells rm_X11_init.slots A) (F0 m 110 ls [])) (t_X11_init_110 C hr hnm  (fun t σ h => h)) ls (lv_sub hl [1, 0] rfl)
  · have h := h.2 c5
    refine x_aload_n C dX11_init_72 rfl (lv_at hl 0 rfl) ?_
    refine x_getP C fl_RX11_40 g1 dX11_init_73 ?_
    refine x_iload_n C dX11_init_76 rfl (lv_at hl 1 rfl) ?_
    obtain ⟨g13, g14, h⟩ := h
    refine x_new C cls_8 cl_RX11_38 ins_8 ini_8 g13 g14 dX11_init_77 (fun q15 g16 => ?_)
    refine x_nameS (fun σ17 e18 => ?_)
    have h := h q15 g16 σ17 e18
    refine x_dup C dX11_init_80 (rfl) ?_
    refine x_iload_n C dX11_init_81 rfl (lv_at hl 1 rfl) ?_
    refine x_aload_n C dX11_init_82 rfl (lv_at hl 0 rfl) ?_
    obtain ⟨g19, h⟩ := h
    refine x_getP C fl_RX11_24 g19 dX11_init_83 ?_
    refine x_aload_n C dX11_init_86 rfl (lv_at hl 0 rfl) ?_
    refine x_getP C fl_RX11_31 g19 dX11_init_87 ?_
    obtain ⟨g20, h⟩ := h
    refine x_callI (rm := rm_X8_init) (rest := [.ref q15, .int t.1, va_rf (sP σ a0 3)]) (As := [.int t.1, va_rf (sP σ17 a0 1), va_rf (sP σ17 a0 2)]) C ci_RX11_43 (by decide) g20 rfl rfl (by simp [vrc, cat_i, cat_r, cat_l]) hl.1 dX11_init_90 (c_X8_init l D cy q15 t.1 (sP σ17 a0 1) (sP σ17 a0 2) σ17 _ h) (ks_v (fun σ21 h => ?_))
    refine x_nn2 g3 ?_
    obtain ⟨g22, h⟩ := h
    obtain ⟨g23, h⟩ := h
    obtain ⟨g24, h⟩ := h
    refine x_aastR C rak_21 g22 g24 g23 dX11_init_93 ?_
    obtain ⟨x25, e26⟩ : ∃ z : Int32, z = t.1 + (1 : Int32) := ⟨_, rfl⟩
    have h := h x25 e26
    refine x_iinc (v := x25) (lv' := [(3, .int x25), (0, .ref a0)]) C dX11_init_94 hl (q0 := 1) rfl (by rw [e26]; rfl) (by decide) (by first | rfl | simp [vrc, cat_i, cat_r, cat_l]) (fun ls hl => ?_)
    refine x_goto (tgt := 63) C dX11_init_97 (by decide) ?_
    exact hL63 (x25, ((t.2.1 + 1) + 21), ((t.2.2 + 16) + 865)) _ h ls (lv_sub hl [1, 0] rfl)
def wp_X11_init (a0 : Nat) (p1 : Int32) (p2 : Int32) (σ : Sto) (Q : Sto → Prop) : Prop := ((0 ≤ 1410 ∧ 0 ≤ 45206) ∧ (wp_J9_floorMod_7cf53 p2 (6 : Int32) σ (fun (x3 : Int32) (σ2 : Sto) => (∀ x4 : Int32, x4 = (3 : Int32) + x3 → (sK σ2 a0 = 11 ∧ (0 + 1 ≤ 1410 ∧ 0 + 9 ≤ 45206 ∧ (∀ q9 : Nat, ¬ sK σ2 q9 < 23 → ∀ σ11 : Sto, σ11 = stN (stI σ2 a0 0 x4) q9 4 0 → (((0 + 1) ≤ 1410 ∧ (0 + 9) ≤ 45206) ∧ (wp_J9_floorMod_7cf53 p1 (3 : Int32) σ11 (fun (x15 : Int32) (σ14 : Sto) => (((0 + 1) + 772 ≤ 1410 ∧ (0 + 9) + 29811 ≤ 45206) ∧ (wp_X4_init q9 ((3 : Int32) + ((2 : Int32) * x15)) σ14 (fun (σ17 : Sto) => (sK σ17 a0 = 11 ∧ (((0 + 1) + 772) + 1 ≤ 1410 ∧ ((0 + 9) + 29811) + 5 ≤ 45206 ∧ (∀ q21 : Nat, ¬ sK σ17 q21 < 23 → ∀ σ23 : Sto, σ23 = stN (stP σ17 a0 1 (some q9)) q21 10 0 → (((((0 + 1) + 772) + 1) + 5 ≤ 1410 ∧ (((0 + 9) + 29811) + 5) + 216 ≤ 45206) ∧ (wp_X10_init q21  σ23 (fun (σ26 : Sto) => (sK σ26 a0 = 11 ∧ (∃ b28 : Nat, sP (stP σ26 a0 2 (some q21)) a0 1 = some b28 ∧ (sK σ26 b28 = 4 ∧ (∀ x31 : Int32, x31 = sI σ26 b28 0 → (¬ x31 < 0 ∧ x31.toNatClampNeg ≤ 67108864 ∧ ((((0 + 1) + 772) + 1) + 5) + 1 ≤ 1410 ∧ ((((0 + 9) + 29811) + 5) + 216) + x31.toNatClampNeg ≤ 45206 ∧ (∀ q37 : Nat, ¬ sK σ26 q37 < 23 → ∀ σ39 : Sto, σ39 = stN (stP σ26 a0 2 (some q21)) q37 21 x31.toNatClampNeg → (sK σ39 a0 = 11 ∧ LF (f_X11_init_63 a0  Q) ((0 : Int32), (((((0 + 1) + 772) + 1) + 5) + 1), (((((0 + 9) + 29811) + 5) + 216) + x31.toNatClampNeg)) (stP σ39 a0 3 (some q37))))))))))))))))))))))))))))
set_option maxHeartbeats 4000000 in
set_option maxRecDepth 100000 in
theorem c_X11_init (l : Launch) (D : va_G) (cy : Nat → ClassId) (a0 : Nat) (p1 : Int32) (p2 : Int32) (σ : Sto) (Q : Sto → Prop) (h : wp_X11_init a0 p1 p2 σ Q) : Mt l D cy yX11_init cX11_init 4 none rm_X11_init [.ref a0, .int p1, .int p2] σ (PsV Q) := by
  unfold wp_X11_init at h
  refine mt_of (by decide +kernel) (Nat.le_of_ble_eq_true rfl) ?_
  intro p e s m args below meth c A ls C hr hnm hl
  have C : Cx p s m args meth c D cy A cX11_init 4 RX11 := C
  have hl : lv_has ls 4 [(0, .ref a0), (1, .int p1), (2, .int p2)] := hl
  refine x_aload_n C dX11_init_0 rfl (lv_at hl 0 rfl) ?_
  refine x_objInit C oi_RX11_3 oi_w2 oi_w3 hl.1 (by decide) (Nat.le_of_ble_eq_true rfl) dX11_init_1 ?_
  refine x_aload_n C dX11_init_4 rfl (lv_at hl 0 rfl) ?_
  refine x_iconst (v := 3) C dX11_init_5 (by decide) ?_
  refine x_iload_n C dX11_init_6 rfl (lv_at hl 2 rfl) ?_
  refine x_bipush (v := 6) C dX11_init_7 (by decide) ?_
  obtain ⟨g1, h⟩ := h
  refine x_callS (rm := rm_J9_floorMod_7cf53) (rest := [.int (3 : Int32), .ref a0]) (As := [.int p2, .int (6 : Int32)]) C cs_RX11_9 (by decide) g1 rfl rfl (Nat.le_of_ble_eq_true rfl) hl.1 dX11_init_9 (c_J9_floorMod_7cf53 l D cy p2 (6 : Int32) σ _ h) (ks_i (fun x3 σ2 h => ?_))
  refine x_iadd C dX11_init_12 ?_
  refine x_topi (fun x4 e5 => ?_)
  have h := h x4 e5
  obtain ⟨g6, h⟩ := h
  refine x_putI C fl_RX11_15 (Or.inr ⟨hnm, _, _, _, rfl, rfl⟩) g6 dX11_init_13 ?_
  refine x_aload_n C dX11_init_16 rfl (lv_at hl 0 rfl) ?_
  obtain ⟨g7, g8, h⟩ := h
  refine x_new C cls_4 cl_RX11_19 ins_4 ini_4 g7 g8 dX11_init_17 (fun q9 g10 => ?_)
  refine x_nameS (fun σ11 e12 => ?_)
  have h := h q9 g10 σ11 e12
  refine x_dup C dX11_init_20 (rfl) ?_
  refine x_iconst (v := 3) C dX11_init_21 (by decide) ?_
  refine x_iconst (v := 2) C dX11_init_22 (by decide) ?_
  refine x_iload_n C dX11_init_23 rfl (lv_at hl 1 rfl) ?_
  refine x_iconst (v := 3) C dX11_init_24 (by decide) ?_
  obtain ⟨g13, h⟩ := h
  refine x_callS (rm := rm_J9_floorMod_7cf53) (rest := [.int (2 : Int32), .int (3 : Int32), .ref q9, .ref q9, .ref a0]) (As := [.int p1, .int (3 : Int32)]) C cs_RX11_9 (by decide) g13 rfl rfl (Nat.le_of_ble_eq_true rfl) hl.1 dX11_init_25 (c_J9_floorMod_7cf53 l D cy p1 (3 : Int32) σ11 _ h) (ks_i (fun x15 σ14 h => ?_))
  refine x_imul C dX11_init_28 ?_
  refine x_iadd C dX11_init_29 ?_
  obtain ⟨g16, h⟩ := h
  refine x_callI (rm := rm_X4_init) (rest := [.ref q9, .ref a0]) (As := [.int ((3 : Int32) + ((2 : Int32) * x15))]) C ci_RX11_21 (by decide) g16 rfl rfl (Nat.le_of_ble_eq_true rfl) hl.1 dX11_init_30 (c_X4_init l D cy q9 ((3 : Int32) + ((2 : Int32) * x15)) σ14 _ h) (ks_v (fun σ17 h => ?_))
  obtain ⟨g18, h⟩ := h
  refine x_putR C fl_RX11_24 (rty_o _) (Or.inr ⟨hnm, _, _, _, rfl, rfl⟩) g18 dX11_init_33 ?_
  refine x_aload_n C dX11_init_36 rfl (lv_at hl 0 rfl) ?_
  obtain ⟨g19, g20, h⟩ := h
  refine x_new C cls_10 cl_RX11_28 ins_10 ini_10 g19 g20 dX11_init_37 (fun q21 g22 => ?_)
  refine x_nameS (fun σ23 e24 => ?_)
  have h := h q21 g22 σ23 e24
  refine x_dup C dX11_init_40 (rfl) ?_
  obtain ⟨g25, h⟩ := h
  refine x_callIN (rm := rm_X10_init) (rest := [.ref q21, .ref a0]) (As := []) C cn_RX11_30 (by decide) g25 rfl rfl (Nat.le_of_ble_eq_true rfl) hl.1 dX11_init_41 (c_X10_init l D cy q21  σ23 _ h) (ks_v (fun σ26 h => ?_))
  obtain ⟨g27, h⟩ := h
  refine x_putR C fl_RX11_31 (rty_o _) (Or.inr ⟨hnm, _, _, _, rfl, rfl⟩) g27 dX11_init_44 ?_
  refine x_aload_n C dX11_init_47 rfl (lv_at hl 0 rfl) ?_
  refine x_aload_n C dX11_init_48 rfl (lv_at hl 0 rfl) ?_
  refine x_getP C fl_RX11_24 g27 dX11_init_49 ?_
  obtain ⟨b28, g29, h⟩ := h
  refine x_nn0 g29 ?_
  obtain ⟨g30, h⟩ := h
  refine x_getI C fl_RX11_35 g30 dX11_init_52 ?_
  refine x_topi (fun x31 e32 => ?_)
  have h := h x31 e32
  obtain ⟨g35, g36, g33, g34, h⟩ := h
  refine x_newq C rak_21 (fun _ => rfl) (by decide) cl_RX11_38 g35 rfl g36 g33 g34 dX11_init_55 (fun q37 g38 => ?_)
  refine x_nameS (fun σ39 e40 => ?_)
  have h := h q37 g38 σ39 e40
  obtain ⟨g41, h⟩ := h
  refine x_putR C fl_RX11_40 (rty_a _) (Or.inr ⟨hnm, _, _, _, rfl, rfl⟩) g41 dX11_init_58 ?_
  refine x_iconst (v := 0) C dX11_init_61 (by decide) ?_
  refine x_istore_n (i := 3) (lv' := [(3, .int (0 : Int32)), (0, .ref a0), (1, .int p1), (2, .int p2)]) C dX11_init_62 rfl hl (by decide) (by first | rfl | simp [vrc, cat_i, cat_r, cat_l]) (fun ls hl => ?_)
  exact h (fun t σ => ∀ ls : Array Slot, lv_has ls 4 [(0, .ref a0), (3, .int t.1)] → Xw p l e rm_X11_init s m args below meth c D cy A σ t.2.1 t.2.2 (MQ below (Qst D cy A (PsV Q)) args s rm_X11_init.cells rm_X11_init.slots A) (F0 m 63 ls [])) (t_X11_init_63 C hr hnm  (fun t σ h => h)) ls (lv_sub hl [1, 0] rfl)
theorem dX11_fail_0 : decode cX11_fail 0 = .ok (.aload_n 0, 1) := by decide +kernel
theorem dX11_fail_1 : decode cX11_fail 1 = .ok (.getfield 53, 3) := by decide +kernel
theorem dX11_fail_4 : decode cX11_fail 4 = .ok (.istore_n 1, 1) := by decide +kernel
theorem dX11_fail_5 : decode cX11_fail 5 = .ok (.iload_n 1, 1) := by decide +kernel
theorem dX11_fail_6 : decode cX11_fail 6 = .ok (.ifCond .eq 14, 3) := by decide +kernel
theorem dX11_fail_9 : decode cX11_fail 9 = .ok (.aload_n 0, 1) := by decide +kernel
theorem dX11_fail_10 : decode cX11_fail 10 = .ok (.aload_n 0, 1) := by decide +kernel
theorem dX11_fail_11 : decode cX11_fail 11 = .ok (.getfield 24, 3) := by decide +kernel
theorem dX11_fail_14 : decode cX11_fail 14 = .ok (.getfield 179, 3) := by decide +kernel
theorem dX11_fail_17 : decode cX11_fail 17 = .ok (.putfield 216, 3) := by decide +kernel
theorem dX11_fail_20 : decode cX11_fail 20 = .ok (.aload_n 0, 1) := by decide +kernel
theorem dX11_fail_21 : decode cX11_fail 21 = .ok (.iconst 0, 1) := by decide +kernel
theorem dX11_fail_22 : decode cX11_fail 22 = .ok (.putfield 53, 3) := by decide +kernel
theorem dX11_fail_25 : decode cX11_fail 25 = .ok (.iload_n 1, 1) := by decide +kernel
theorem dX11_fail_26 : decode cX11_fail 26 = .ok (.ireturn, 1) := by decide +kernel
abbrev rm_X11_fail : Room := { frames := 0, cells := 0, slots := 0, locals := 0 }
def b_X11_fail_20 (a0 : Nat)  (Q : Int32 → Sto → Prop) (p1 : Int32) (σ : Sto) : Prop := (sK σ a0 = 11 ∧ ((p1 = 0 ∨ p1 = 1) ∧ Q p1 (stI σ a0 5 (0 : Int32))))
set_option maxHeartbeats 4000000 in
set_option maxRecDepth 100000 in
theorem t_X11_fail_20 {p : Program} {l : Launch} {e : Env} {s : State} {m : MethodId} {args : Array Value} {below : List Frame} {meth : Method} {c : Code} {D : va_G} {cy : Nat → ClassId} {A : Nat → Prop} {a0 : Nat} {Q : Int32 → Sto → Prop} (C : Cx p s m args meth c D cy A cX11_fail 2 RX11) (hr : meth.sig.returnType = (some .boolean)) (hnm : meth.name = yX11_fail.name) (p1 : Int32) (σ : Sto) (h : b_X11_fail_20 a0  Q p1 σ) (ls : Array Slot) (hl : lv_has ls 2 [(0, .ref a0), (1, .int p1)]) : Xw p l e rm_X11_fail s m args below meth c D cy A σ 0 0 (MQ below (Qst D cy A (PsI Q)) args s rm_X11_fail.cells rm_X11_fail.slots A) (F0 m 20 ls []) := by
  unfold b_X11_fail_20 at h
  refine x_aload_n C dX11_fail_20 rfl (lv_at hl 0 rfl) ?_
  refine x_iconst (v := 0) C dX11_fail_21 (by decide) ?_
  obtain ⟨g1, h⟩ := h
  refine x_putZ C fl_RX11_53 (Or.inl rfl) (by decide) g1 dX11_fail_22 ?_
  refine x_iload_n C dX11_fail_25 rfl (lv_at hl 1 rfl) ?_
  exact x_zret C hr dX11_fail_26 h.1 ⟨_, rfl, h.2⟩
def wp_X11_fail (a0 : Nat)  (σ : Sto) (Q : Int32 → Sto → Prop) : Prop := (sK σ a0 = 11 ∧ (∀ x2 : Int32, x2 = sI σ a0 5 → ((x2 = 0 → b_X11_fail_20 a0  Q x2 σ) ∧ (¬ x2 = 0 → (∃ b5 : Nat, sP σ a0 1 = some b5 ∧ (sK σ b5 = 4 ∧ (∀ x8 : Int32, x8 = sI σ b5 8 → b_X11_fail_20 a0  Q x2 (stI σ a0 8 x8))))))))
set_option maxHeartbeats 4000000 in
set_option maxRecDepth 100000 in
theorem c_X11_fail (l : Launch) (D : va_G) (cy : Nat → ClassId) (a0 : Nat)  (σ : Sto) (Q : Int32 → Sto → Prop) (h : wp_X11_fail a0  σ Q) : Mt l D cy yX11_fail cX11_fail 2 (some .boolean) rm_X11_fail [.ref a0] σ (PsI Q) := by
  unfold wp_X11_fail at h
  refine mt_of (by decide +kernel) (Nat.le_of_ble_eq_true rfl) ?_
  intro p e s m args below meth c A ls C hr hnm hl
  have C : Cx p s m args meth c D cy A cX11_fail 2 RX11 := C
  have hl : lv_has ls 2 [(0, .ref a0)] := hl
  refine x_aload_n C dX11_fail_0 rfl (lv_at hl 0 rfl) ?_
  obtain ⟨g1, h⟩ := h
  refine x_getZ C fl_RX11_53 g1 dX11_fail_1 ?_
  refine x_topi (fun x2 e3 => ?_)
  have h := h x2 e3
  refine x_istore_n (i := 1) (lv' := [(1, .int x2), (0, .ref a0)]) C dX11_fail_4 rfl hl (by decide) (by first | rfl | simp [vrc, cat_i, cat_r, cat_l]) (fun ls hl => ?_)
  refine x_iload_n C dX11_fail_5 rfl (lv_at hl 0 rfl) ?_
  refine x_if_eq (tgt := 20) C dX11_fail_6 (by decide) (fun c4 => ?_) (fun c4 => ?_)
  · have h := h.1 c4
    exact t_X11_fail_20 C hr hnm  x2 _ h ls (lv_sub hl [1, 0] rfl)
  · have h := h.2 c4
    refine x_aload_n C dX11_fail_9 rfl (lv_at hl 1 rfl) ?_
    refine x_aload_n C dX11_fail_10 rfl (lv_at hl 1 rfl) ?_
    refine x_getP C fl_RX11_24 g1 dX11_fail_11 ?_
    obtain ⟨b5, g6, h⟩ := h
    refine x_nn0 g6 ?_
    obtain ⟨g7, h⟩ := h
    refine x_getI C fl_RX11_179 g7 dX11_fail_14 ?_
    refine x_topi (fun x8 e9 => ?_)
    have h := h x8 e9
    refine x_putI C fl_RX11_216 (Or.inl rfl) g1 dX11_fail_17 ?_
    exact t_X11_fail_20 C hr hnm  x2 _ h ls (lv_sub hl [1, 0] rfl)
theorem dX11_raiseSequencer_0 : decode cX11_raiseSequencer 0 = .ok (.aload_n 0, 1) := by decide +kernel
theorem dX11_raiseSequencer_1 : decode cX11_raiseSequencer 1 = .ok (.iconst 1, 1) := by decide +kernel
theorem dX11_raiseSequencer_2 : decode cX11_raiseSequencer 2 = .ok (.putfield 53, 3) := by decide +kernel
theorem dX11_raiseSequencer_5 : decode cX11_raiseSequencer 5 = .ok (.aload_n 0, 1) := by decide +kernel
theorem dX11_raiseSequencer_6 : decode cX11_raiseSequencer 6 = .ok (.dup, 1) := by decide +kernel
theorem dX11_raiseSequencer_7 : decode cX11_raiseSequencer 7 = .ok (.getfield 57, 3) := by decide +kernel
theorem dX11_raiseSequencer_10 : decode cX11_raiseSequencer 10 = .ok (.iconst 1, 1) := by decide +kernel
theorem dX11_raiseSequencer_11 : decode cX11_raiseSequencer 11 = .ok (.iadd, 1) := by decide +kernel
theorem dX11_raiseSequencer_12 : decode cX11_raiseSequencer 12 = .ok (.putfield 57, 3) := by decide +kernel
theorem dX11_raiseSequencer_15 : decode cX11_raiseSequencer 15 = .ok (.aload_n 0, 1) := by decide +kernel
theorem dX11_raiseSequencer_16 : decode cX11_raiseSequencer 16 = .ok (.iconst 0, 1) := by decide +kernel
theorem dX11_raiseSequencer_17 : decode cX11_raiseSequencer 17 = .ok (.putfield 300, 3) := by decide +kernel
theorem dX11_raiseSequencer_20 : decode cX11_raiseSequencer 20 = .ok (.return_, 1) := by decide +kernel
abbrev rm_X11_raiseSequencer : Room := { frames := 0, cells := 0, slots := 0, locals := 0 }
def wp_X11_raiseSequencer (a0 : Nat)  (σ : Sto) (Q : Sto → Prop) : Prop := (sK σ a0 = 11 ∧ (∀ x2 : Int32, x2 = sI (stI σ a0 5 (1 : Int32)) a0 6 → (∀ x4 : Int32, x4 = x2 + (1 : Int32) → Q (stI (stI (stI σ a0 5 (1 : Int32)) a0 6 x4) a0 7 (0 : Int32)))))
set_option maxHeartbeats 4000000 in
set_option maxRecDepth 100000 in
theorem c_X11_raiseSequencer (l : Launch) (D : va_G) (cy : Nat → ClassId) (a0 : Nat)  (σ : Sto) (Q : Sto → Prop) (h : wp_X11_raiseSequencer a0  σ Q) : Mt l D cy yX11_raiseSequencer cX11_raiseSequencer 1 none rm_X11_raiseSequencer [.ref a0] σ (PsV Q) := by
  unfold wp_X11_raiseSequencer at h
  refine mt_of (by decide +kernel) (Nat.le_of_ble_eq_true rfl) ?_
  intro p e s m args below meth c A ls C hr hnm hl
  have C : Cx p s m args meth c D cy A cX11_raiseSequencer 1 RX11 := C
  have hl : lv_has ls 1 [(0, .ref a0)] := hl
  refine x_aload_n C dX11_raiseSequencer_0 rfl (lv_at hl 0 rfl) ?_
  refine x_iconst (v := 1) C dX11_raiseSequencer_1 (by decide) ?_
  obtain ⟨g1, h⟩ := h
  refine x_putZ C fl_RX11_53 (Or.inl rfl) (by decide) g1 dX11_raiseSequencer_2 ?_
  refine x_aload_n C dX11_raiseSequencer_5 rfl (lv_at hl 0 rfl) ?_
  refine x_dup C dX11_raiseSequencer_6 (rfl) ?_
  refine x_getI C fl_RX11_57 g1 dX11_raiseSequencer_7 ?_
  refine x_topi (fun x2 e3 => ?_)
  have h := h x2 e3
  refine x_iconst (v := 1) C dX11_raiseSequencer_10 (by decide) ?_
  refine x_iadd C dX11_raiseSequencer_11 ?_
  refine x_topi (fun x4 e5 => ?_)
  have h := h x4 e5
  refine x_putI C fl_RX11_57 (Or.inl rfl) g1 dX11_raiseSequencer_12 ?_
  refine x_aload_n C dX11_raiseSequencer_15 rfl (lv_at hl 0 rfl) ?_
  refine x_iconst (v := 0) C dX11_raiseSequencer_16 (by decide) ?_
  refine x_putI C fl_RX11_300 (Or.inl rfl) g1 dX11_raiseSequencer_17 ?_
  exact x_vret C hr dX11_raiseSequencer_20 ⟨rfl, h⟩
theorem dX11_install_0 : decode cX11_install 0 = .ok (.aload_n 0, 1) := by decide +kernel
theorem dX11_install_1 : decode cX11_install 1 = .ok (.invokevirtual 219, 3) := by decide +kernel
theorem dX11_install_4 : decode cX11_install 4 = .ok (.aload_n 0, 1) := by decide +kernel
theorem dX11_install_5 : decode cX11_install 5 = .ok (.getfield 57, 3) := by decide +kernel
theorem dX11_install_8 : decode cX11_install 8 = .ok (.ireturn, 1) := by decide +kernel
abbrev rm_X11_install : Room := { frames := 1, cells := 0, slots := 0, locals := 20 }
def wp_X11_install (a0 : Nat)  (σ : Sto) (Q : Int32 → Sto → Prop) : Prop := (sK σ a0 = 11 ∧ (wp_X11_raiseSequencer a0  σ (fun (σ2 : Sto) => (sK σ2 a0 = 11 ∧ (∀ x4 : Int32, x4 = sI σ2 a0 6 → Q x4 σ2)))))
set_option maxHeartbeats 4000000 in
set_option maxRecDepth 100000 in
theorem c_X11_install (l : Launch) (D : va_G) (cy : Nat → ClassId) (a0 : Nat)  (σ : Sto) (Q : Int32 → Sto → Prop) (h : wp_X11_install a0  σ Q) : Mt l D cy yX11_install cX11_install 1 (some .int) rm_X11_install [.ref a0] σ (PsI Q) := by
  unfold wp_X11_install at h
  refine mt_of (by decide +kernel) (Nat.le_of_ble_eq_true rfl) ?_
  intro p e s m args below meth c A ls C hr hnm hl
  have C : Cx p s m args meth c D cy A cX11_install 1 RX11 := C
  have hl : lv_has ls 1 [(0, .ref a0)] := hl
  refine x_aload_n C dX11_install_0 rfl (lv_at hl 0 rfl) ?_
  obtain ⟨g1, h⟩ := h
  refine x_callV (rm := rm_X11_raiseSequencer) (rest := []) (As := []) C cy_RX11_219 g1 (by decide) (by decide) rfl rfl (Nat.le_of_ble_eq_true rfl) hl.1 dX11_install_1 (c_X11_raiseSequencer l D cy a0  σ _ h) (ks_v (fun σ2 h => ?_))
  refine x_aload_n C dX11_install_4 rfl (lv_at hl 0 rfl) ?_
  obtain ⟨g3, h⟩ := h
  refine x_getI C fl_RX11_57 g3 dX11_install_5 ?_
  refine x_topi (fun x4 e5 => ?_)
  have h := h x4 e5
  exact x_iret C hr dX11_install_8 ⟨_, rfl, h⟩
theorem dX11_isReplica_0 : decode cX11_isReplica 0 = .ok (.iload_n 1, 1) := by decide +kernel
theorem dX11_isReplica_1 : decode cX11_isReplica 1 = .ok (.ifCond .lt 16, 3) := by decide +kernel
theorem dX11_isReplica_4 : decode cX11_isReplica 4 = .ok (.iload_n 1, 1) := by decide +kernel
theorem dX11_isReplica_5 : decode cX11_isReplica 5 = .ok (.aload_n 0, 1) := by decide +kernel
theorem dX11_isReplica_6 : decode cX11_isReplica 6 = .ok (.getfield 40, 3) := by decide +kernel
theorem dX11_isReplica_9 : decode cX11_isReplica 9 = .ok (.arraylength, 1) := by decide +kernel
theorem dX11_isReplica_10 : decode cX11_isReplica 10 = .ok (.if_icmp .ge 7, 3) := by decide +kernel
theorem dX11_isReplica_13 : decode cX11_isReplica 13 = .ok (.iconst 1, 1) := by decide +kernel
theorem dX11_isReplica_14 : decode cX11_isReplica 14 = .ok (.goto 4, 3) := by decide +kernel
theorem dX11_isReplica_17 : decode cX11_isReplica 17 = .ok (.iconst 0, 1) := by decide +kernel
theorem dX11_isReplica_18 : decode cX11_isReplica 18 = .ok (.ireturn, 1) := by decide +kernel
abbrev rm_X11_isReplica : Room := { frames := 0, cells := 0, slots := 0, locals := 0 }
def wp_X11_isReplica (a0 : Nat) (p1 : Int32) (σ : Sto) (Q : Int32 → Sto → Prop) : Prop := ((p1 < 0 → Q (0 : Int32) σ) ∧ (¬ p1 < 0 → (sK σ a0 = 11 ∧ (∃ b3 : Nat, sP σ a0 3 = some b3 ∧ (sK σ b3 = 21 ∧ (((nI (sN σ b3)) ≤ p1 → Q (0 : Int32) σ) ∧ (¬ (nI (sN σ b3)) ≤ p1 → Q (1 : Int32) σ)))))))
set_option maxHeartbeats 4000000 in
set_option maxRecDepth 100000 in
theorem c_X11_isReplica (l : Launch) (D : va_G) (cy : Nat → ClassId) (a0 : Nat) (p1 : Int32) (σ : Sto) (Q : Int32 → Sto → Prop) (h : wp_X11_isReplica a0 p1 σ Q) : Mt l D cy yX11_isReplica cX11_isReplica 2 (some .boolean) rm_X11_isReplica [.ref a0, .int p1] σ (PsI Q) := by
  unfold wp_X11_isReplica at h
  refine mt_of (by decide +kernel) (Nat.le_of_ble_eq_true rfl) ?_
  intro p e s m args below meth c A ls C hr hnm hl
  have C : Cx p s m args meth c D cy A cX11_isReplica 2 RX11 := C
  have hl : lv_has ls 2 [(0, .ref a0), (1, .int p1)] := hl
  refine x_iload_n C dX11_isReplica_0 rfl (lv_at hl 1 rfl) ?_
  refine x_if_lt (tgt := 17) C dX11_isReplica_1 (by decide) (fun c1 => ?_) (fun c1 => ?_)
  · have h := h.1 c1
    refine x_iconst (v := 0) C dX11_isReplica_17 (by decide) ?_
    exact x_zret C hr dX11_isReplica_18 (by decide) ⟨_, rfl, h⟩
  · have h := h.2 c1
    refine x_iload_n C dX11_isReplica_4 rfl (lv_at hl 1 rfl) ?_
    refine x_aload_n C dX11_isReplica_5 rfl (lv_at hl 0 rfl) ?_
    obtain ⟨g2, h⟩ := h
    refine x_getP C fl_RX11_40 g2 dX11_isReplica_6 ?_
    obtain ⟨b3, g4, h⟩ := h
    refine x_nn0 g4 ?_
    obtain ⟨g5, h⟩ := h
    refine x_alen C g5 (by decide) (by decide) dX11_isReplica_9 ?_
    refine x_icmp_ge (tgt := 17) C dX11_isReplica_10 (by decide) (fun c6 => ?_) (fun c6 => ?_)
    · have h := h.1 c6
      refine x_iconst (v := 0) C dX11_isReplica_17 (by decide) ?_
      exact x_zret C hr dX11_isReplica_18 (by decide) ⟨_, rfl, h⟩
    · have h := h.2 c6
      refine x_iconst (v := 1) C dX11_isReplica_13 (by decide) ?_
      refine x_goto (tgt := 18) C dX11_isReplica_14 (by decide) ?_
      exact x_zret C hr dX11_isReplica_18 (by decide) ⟨_, rfl, h⟩
