theorem dX12_speaksAgainst_0 : decode cX12_speaksAgainst 0 = .ok (.aload_n 0, 1) := by decide +kernel
theorem dX12_speaksAgainst_1 : decode cX12_speaksAgainst 1 = .ok (.iload_n 1, 1) := by decide +kernel
theorem dX12_speaksAgainst_2 : decode cX12_speaksAgainst 2 = .ok (.invokevirtual 327, 3) := by decide +kernel
theorem dX12_speaksAgainst_5 : decode cX12_speaksAgainst 5 = .ok (.ifCond .eq 13, 3) := by decide +kernel
theorem dX12_speaksAgainst_8 : decode cX12_speaksAgainst 8 = .ok (.aload_n 0, 1) := by decide +kernel
theorem dX12_speaksAgainst_9 : decode cX12_speaksAgainst 9 = .ok (.getfield 50, 3) := by decide +kernel
theorem dX12_speaksAgainst_12 : decode cX12_speaksAgainst 12 = .ok (.iload_n 1, 1) := by decide +kernel
theorem dX12_speaksAgainst_13 : decode cX12_speaksAgainst 13 = .ok (.iaload, 1) := by decide +kernel
theorem dX12_speaksAgainst_14 : decode cX12_speaksAgainst 14 = .ok (.iconst 2, 1) := by decide +kernel
theorem dX12_speaksAgainst_15 : decode cX12_speaksAgainst 15 = .ok (.if_icmp .ne 5, 3) := by decide +kernel
theorem dX12_speaksAgainst_18 : decode cX12_speaksAgainst 18 = .ok (.iconst 0, 1) := by decide +kernel
theorem dX12_speaksAgainst_19 : decode cX12_speaksAgainst 19 = .ok (.ireturn, 1) := by decide +kernel
theorem dX12_speaksAgainst_20 : decode cX12_speaksAgainst 20 = .ok (.aload_n 0, 1) := by decide +kernel
theorem dX12_speaksAgainst_21 : decode cX12_speaksAgainst 21 = .ok (.getfield 233, 3) := by decide +kernel
theorem dX12_speaksAgainst_24 : decode cX12_speaksAgainst 24 = .ok (.iload_n 2, 1) := by decide +kernel
theorem dX12_speaksAgainst_25 : decode cX12_speaksAgainst 25 = .ok (.iaload, 1) := by decide +kernel
theorem dX12_speaksAgainst_26 : decode cX12_speaksAgainst 26 = .ok (.aload_n 0, 1) := by decide +kernel
theorem dX12_speaksAgainst_27 : decode cX12_speaksAgainst 27 = .ok (.getfield 44, 3) := by decide +kernel
theorem dX12_speaksAgainst_30 : decode cX12_speaksAgainst 30 = .ok (.iload_n 1, 1) := by decide +kernel
theorem dX12_speaksAgainst_31 : decode cX12_speaksAgainst 31 = .ok (.iaload, 1) := by decide +kernel
theorem dX12_speaksAgainst_32 : decode cX12_speaksAgainst 32 = .ok (.if_icmp .ne 22, 3) := by decide +kernel
theorem dX12_speaksAgainst_35 : decode cX12_speaksAgainst 35 = .ok (.aload_n 0, 1) := by decide +kernel
theorem dX12_speaksAgainst_36 : decode cX12_speaksAgainst 36 = .ok (.getfield 236, 3) := by decide +kernel
theorem dX12_speaksAgainst_39 : decode cX12_speaksAgainst 39 = .ok (.iload_n 2, 1) := by decide +kernel
theorem dX12_speaksAgainst_40 : decode cX12_speaksAgainst 40 = .ok (.iaload, 1) := by decide +kernel
theorem dX12_speaksAgainst_41 : decode cX12_speaksAgainst 41 = .ok (.aload_n 0, 1) := by decide +kernel
theorem dX12_speaksAgainst_42 : decode cX12_speaksAgainst 42 = .ok (.getfield 47, 3) := by decide +kernel
theorem dX12_speaksAgainst_45 : decode cX12_speaksAgainst 45 = .ok (.iload_n 1, 1) := by decide +kernel
theorem dX12_speaksAgainst_46 : decode cX12_speaksAgainst 46 = .ok (.iaload, 1) := by decide +kernel
theorem dX12_speaksAgainst_47 : decode cX12_speaksAgainst 47 = .ok (.if_icmp .ne 7, 3) := by decide +kernel
theorem dX12_speaksAgainst_50 : decode cX12_speaksAgainst 50 = .ok (.iconst 1, 1) := by decide +kernel
theorem dX12_speaksAgainst_51 : decode cX12_speaksAgainst 51 = .ok (.goto 4, 3) := by decide +kernel
theorem dX12_speaksAgainst_54 : decode cX12_speaksAgainst 54 = .ok (.iconst 0, 1) := by decide +kernel
theorem dX12_speaksAgainst_55 : decode cX12_speaksAgainst 55 = .ok (.istore_n 3, 1) := by decide +kernel
theorem dX12_speaksAgainst_56 : decode cX12_speaksAgainst 56 = .ok (.iload_n 3, 1) := by decide +kernel
theorem dX12_speaksAgainst_57 : decode cX12_speaksAgainst 57 = .ok (.ifCond .ne 35, 3) := by decide +kernel
theorem dX12_speaksAgainst_60 : decode cX12_speaksAgainst 60 = .ok (.aload_n 0, 1) := by decide +kernel
theorem dX12_speaksAgainst_61 : decode cX12_speaksAgainst 61 = .ok (.getfield 233, 3) := by decide +kernel
theorem dX12_speaksAgainst_64 : decode cX12_speaksAgainst 64 = .ok (.iload_n 2, 1) := by decide +kernel
theorem dX12_speaksAgainst_65 : decode cX12_speaksAgainst 65 = .ok (.iaload, 1) := by decide +kernel
theorem dX12_speaksAgainst_66 : decode cX12_speaksAgainst 66 = .ok (.aload_n 0, 1) := by decide +kernel
theorem dX12_speaksAgainst_67 : decode cX12_speaksAgainst 67 = .ok (.getfield 236, 3) := by decide +kernel
theorem dX12_speaksAgainst_70 : decode cX12_speaksAgainst 70 = .ok (.iload_n 2, 1) := by decide +kernel
theorem dX12_speaksAgainst_71 : decode cX12_speaksAgainst 71 = .ok (.iaload, 1) := by decide +kernel
theorem dX12_speaksAgainst_72 : decode cX12_speaksAgainst 72 = .ok (.aload_n 0, 1) := by decide +kernel
theorem dX12_speaksAgainst_73 : decode cX12_speaksAgainst 73 = .ok (.getfield 44, 3) := by decide +kernel
theorem dX12_speaksAgainst_76 : decode cX12_speaksAgainst 76 = .ok (.iload_n 1, 1) := by decide +kernel
theorem dX12_speaksAgainst_77 : decode cX12_speaksAgainst 77 = .ok (.iaload, 1) := by decide +kernel
theorem dX12_speaksAgainst_78 : decode cX12_speaksAgainst 78 = .ok (.aload_n 0, 1) := by decide +kernel
theorem dX12_speaksAgainst_79 : decode cX12_speaksAgainst 79 = .ok (.getfield 47, 3) := by decide +kernel
theorem dX12_speaksAgainst_82 : decode cX12_speaksAgainst 82 = .ok (.iload_n 1, 1) := by decide +kernel
theorem dX12_speaksAgainst_83 : decode cX12_speaksAgainst 83 = .ok (.iaload, 1) := by decide +kernel
theorem dX12_speaksAgainst_84 : decode cX12_speaksAgainst 84 = .ok (.invokestatic 361, 3) := by decide +kernel
theorem dX12_speaksAgainst_87 : decode cX12_speaksAgainst 87 = .ok (.ifCond .ne 5, 3) := by decide +kernel
theorem dX12_speaksAgainst_90 : decode cX12_speaksAgainst 90 = .ok (.iconst 0, 1) := by decide +kernel
theorem dX12_speaksAgainst_91 : decode cX12_speaksAgainst 91 = .ok (.ireturn, 1) := by decide +kernel
theorem dX12_speaksAgainst_92 : decode cX12_speaksAgainst 92 = .ok (.aload_n 0, 1) := by decide +kernel
theorem dX12_speaksAgainst_93 : decode cX12_speaksAgainst 93 = .ok (.getfield 230, 3) := by decide +kernel
theorem dX12_speaksAgainst_96 : decode cX12_speaksAgainst 96 = .ok (.iload_n 2, 1) := by decide +kernel
theorem dX12_speaksAgainst_97 : decode cX12_speaksAgainst 97 = .ok (.iaload, 1) := by decide +kernel
theorem dX12_speaksAgainst_98 : decode cX12_speaksAgainst 98 = .ok (.aload_n 0, 1) := by decide +kernel
theorem dX12_speaksAgainst_99 : decode cX12_speaksAgainst 99 = .ok (.getfield 59, 3) := by decide +kernel
theorem dX12_speaksAgainst_102 : decode cX12_speaksAgainst 102 = .ok (.iload_n 1, 1) := by decide +kernel
theorem dX12_speaksAgainst_103 : decode cX12_speaksAgainst 103 = .ok (.iaload, 1) := by decide +kernel
theorem dX12_speaksAgainst_104 : decode cX12_speaksAgainst 104 = .ok (.if_icmp .gt 24, 3) := by decide +kernel
theorem dX12_speaksAgainst_107 : decode cX12_speaksAgainst 107 = .ok (.aload_n 0, 1) := by decide +kernel
theorem dX12_speaksAgainst_108 : decode cX12_speaksAgainst 108 = .ok (.bipush 100, 2) := by decide +kernel
theorem dX12_speaksAgainst_110 : decode cX12_speaksAgainst 110 = .ok (.iload_n 1, 1) := by decide +kernel
theorem dX12_speaksAgainst_111 : decode cX12_speaksAgainst 111 = .ok (.imul, 1) := by decide +kernel
theorem dX12_speaksAgainst_112 : decode cX12_speaksAgainst 112 = .ok (.aload_n 0, 1) := by decide +kernel
theorem dX12_speaksAgainst_113 : decode cX12_speaksAgainst 113 = .ok (.getfield 230, 3) := by decide +kernel
theorem dX12_speaksAgainst_116 : decode cX12_speaksAgainst 116 = .ok (.iload_n 2, 1) := by decide +kernel
theorem dX12_speaksAgainst_117 : decode cX12_speaksAgainst 117 = .ok (.iaload, 1) := by decide +kernel
theorem dX12_speaksAgainst_118 : decode cX12_speaksAgainst 118 = .ok (.iadd, 1) := by decide +kernel
theorem dX12_speaksAgainst_119 : decode cX12_speaksAgainst 119 = .ok (.iconst 1, 1) := by decide +kernel
theorem dX12_speaksAgainst_120 : decode cX12_speaksAgainst 120 = .ok (.isub, 1) := by decide +kernel
theorem dX12_speaksAgainst_121 : decode cX12_speaksAgainst 121 = .ok (.iload_n 2, 1) := by decide +kernel
theorem dX12_speaksAgainst_122 : decode cX12_speaksAgainst 122 = .ok (.invokevirtual 574, 3) := by decide +kernel
theorem dX12_speaksAgainst_125 : decode cX12_speaksAgainst 125 = .ok (.ifCond .ne 5, 3) := by decide +kernel
theorem dX12_speaksAgainst_128 : decode cX12_speaksAgainst 128 = .ok (.iconst 1, 1) := by decide +kernel
theorem dX12_speaksAgainst_129 : decode cX12_speaksAgainst 129 = .ok (.ireturn, 1) := by decide +kernel
theorem dX12_speaksAgainst_130 : decode cX12_speaksAgainst 130 = .ok (.aload_n 0, 1) := by decide +kernel
theorem dX12_speaksAgainst_131 : decode cX12_speaksAgainst 131 = .ok (.invokevirtual 331, 3) := by decide +kernel
theorem dX12_speaksAgainst_134 : decode cX12_speaksAgainst 134 = .ok (.iconst 0, 1) := by decide +kernel
theorem dX12_speaksAgainst_135 : decode cX12_speaksAgainst 135 = .ok (.istore 4, 2) := by decide +kernel
theorem dX12_speaksAgainst_137 : decode cX12_speaksAgainst 137 = .ok (.iload 4, 2) := by decide +kernel
theorem dX12_speaksAgainst_139 : decode cX12_speaksAgainst 139 = .ok (.aload_n 0, 1) := by decide +kernel
theorem dX12_speaksAgainst_140 : decode cX12_speaksAgainst 140 = .ok (.getfield 59, 3) := by decide +kernel
theorem dX12_speaksAgainst_143 : decode cX12_speaksAgainst 143 = .ok (.iload_n 1, 1) := by decide +kernel
theorem dX12_speaksAgainst_144 : decode cX12_speaksAgainst 144 = .ok (.iaload, 1) := by decide +kernel
theorem dX12_speaksAgainst_145 : decode cX12_speaksAgainst 145 = .ok (.if_icmp .ge 63, 3) := by decide +kernel
theorem dX12_speaksAgainst_148 : decode cX12_speaksAgainst 148 = .ok (.bipush 100, 2) := by decide +kernel
theorem dX12_speaksAgainst_150 : decode cX12_speaksAgainst 150 = .ok (.iload_n 1, 1) := by decide +kernel
theorem dX12_speaksAgainst_151 : decode cX12_speaksAgainst 151 = .ok (.imul, 1) := by decide +kernel
theorem dX12_speaksAgainst_152 : decode cX12_speaksAgainst 152 = .ok (.iload 4, 2) := by decide +kernel
theorem dX12_speaksAgainst_154 : decode cX12_speaksAgainst 154 = .ok (.iadd, 1) := by decide +kernel
theorem dX12_speaksAgainst_155 : decode cX12_speaksAgainst 155 = .ok (.istore 5, 2) := by decide +kernel
theorem dX12_speaksAgainst_157 : decode cX12_speaksAgainst 157 = .ok (.aload_n 0, 1) := by decide +kernel
theorem dX12_speaksAgainst_158 : decode cX12_speaksAgainst 158 = .ok (.iload 5, 2) := by decide +kernel
theorem dX12_speaksAgainst_160 : decode cX12_speaksAgainst 160 = .ok (.invokevirtual 334, 3) := by decide +kernel
theorem dX12_speaksAgainst_163 : decode cX12_speaksAgainst 163 = .ok (.ifCond .eq 39, 3) := by decide +kernel
theorem dX12_speaksAgainst_166 : decode cX12_speaksAgainst 166 = .ok (.aload_n 0, 1) := by decide +kernel
theorem dX12_speaksAgainst_167 : decode cX12_speaksAgainst 167 = .ok (.iload 5, 2) := by decide +kernel
theorem dX12_speaksAgainst_169 : decode cX12_speaksAgainst 169 = .ok (.iload_n 2, 1) := by decide +kernel
theorem dX12_speaksAgainst_170 : decode cX12_speaksAgainst 170 = .ok (.invokevirtual 574, 3) := by decide +kernel
theorem dX12_speaksAgainst_173 : decode cX12_speaksAgainst 173 = .ok (.ifCond .eq 29, 3) := by decide +kernel
theorem dX12_speaksAgainst_176 : decode cX12_speaksAgainst 176 = .ok (.aload_n 0, 1) := by decide +kernel
theorem dX12_speaksAgainst_177 : decode cX12_speaksAgainst 177 = .ok (.getfield 173, 3) := by decide +kernel
theorem dX12_speaksAgainst_180 : decode cX12_speaksAgainst 180 = .ok (.aload_n 0, 1) := by decide +kernel
theorem dX12_speaksAgainst_181 : decode cX12_speaksAgainst 181 = .ok (.getfield 224, 3) := by decide +kernel
theorem dX12_speaksAgainst_184 : decode cX12_speaksAgainst 184 = .ok (.iload_n 2, 1) := by decide +kernel
theorem dX12_speaksAgainst_185 : decode cX12_speaksAgainst 185 = .ok (.iaload, 1) := by decide +kernel
theorem dX12_speaksAgainst_186 : decode cX12_speaksAgainst 186 = .ok (.iaload, 1) := by decide +kernel
theorem dX12_speaksAgainst_187 : decode cX12_speaksAgainst 187 = .ok (.aload_n 0, 1) := by decide +kernel
theorem dX12_speaksAgainst_188 : decode cX12_speaksAgainst 188 = .ok (.getfield 239, 3) := by decide +kernel
theorem dX12_speaksAgainst_191 : decode cX12_speaksAgainst 191 = .ok (.iload_n 2, 1) := by decide +kernel
theorem dX12_speaksAgainst_192 : decode cX12_speaksAgainst 192 = .ok (.iaload, 1) := by decide +kernel
theorem dX12_speaksAgainst_193 : decode cX12_speaksAgainst 193 = .ok (.if_icmp .eq 7, 3) := by decide +kernel
theorem dX12_speaksAgainst_196 : decode cX12_speaksAgainst 196 = .ok (.iconst 1, 1) := by decide +kernel
theorem dX12_speaksAgainst_197 : decode cX12_speaksAgainst 197 = .ok (.goto 4, 3) := by decide +kernel
theorem dX12_speaksAgainst_200 : decode cX12_speaksAgainst 200 = .ok (.iconst 0, 1) := by decide +kernel
theorem dX12_speaksAgainst_201 : decode cX12_speaksAgainst 201 = .ok (.ireturn, 1) := by decide +kernel
theorem dX12_speaksAgainst_202 : decode cX12_speaksAgainst 202 = .ok (.iinc 4 1, 3) := by decide +kernel
theorem dX12_speaksAgainst_205 : decode cX12_speaksAgainst 205 = .ok (.goto (-68), 3) := by decide +kernel
theorem dX12_speaksAgainst_208 : decode cX12_speaksAgainst 208 = .ok (.iconst 0, 1) := by decide +kernel
theorem dX12_speaksAgainst_209 : decode cX12_speaksAgainst 209 = .ok (.ireturn, 1) := by decide +kernel
abbrev rm_X12_speaksAgainst : Room := { frames := 2, cells := 0, slots := 0, locals := 42 }
def b_X12_speaksAgainst_202 (a0 : Nat) (L137 : Int32 × Int32 × Int32 → Sto → Prop) (Q : Int32 → Sto → Prop) (p1 : Int32) (p2 : Int32) (p4 : Int32) (σ : Sto) : Prop := (∀ x1 : Int32, x1 = p4 + (1 : Int32) → L137 (p1, p2, x1) σ)
set_option maxHeartbeats 4000000 in
set_option maxRecDepth 100000 in
theorem t_X12_speaksAgainst_202 {p : Program} {l : Launch} {e : Env} {s : State} {m : MethodId} {args : Array Value} {below : List Frame} {meth : Method} {c : Code} {D : va_G} {cy : Nat → ClassId} {A : Nat → Prop} {a0 : Nat} {L137 : Int32 × Int32 × Int32 → Sto → Prop} {Q : Int32 → Sto → Prop} (C : Cx p s m args meth c D cy A cX12_speaksAgainst 6 RX12) (hr : meth.sig.returnType = (some .boolean)) (hnm : meth.name = yX12_speaksAgainst.name) (hL137 : ∀ (t : Int32 × Int32 × Int32) (σ : Sto), L137 t σ → ∀ ls : Array Slot, lv_has ls 6 [(0, .ref a0), (1, .int t.1), (2, .int t.2.1), (4, .int t.2.2)] → Xw p l e rm_X12_speaksAgainst s m args below meth c D cy A σ 0 0 (MQ below (Qst D cy A (PsI Q)) args s rm_X12_speaksAgainst.cells rm_X12_speaksAgainst.slots A) (F0 m 137 ls [])) (p1 : Int32) (p2 : Int32) (p4 : Int32) (σ : Sto) (h : b_X12_speaksAgainst_202 a0 L137 Q p1 p2 p4 σ) (ls : Array Slot) (hl : lv_has ls 6 [(0, .ref a0), (1, .int p1), (2, .int p2), (4, .int p4)]) : Xw p l e rm_X12_speaksAgainst s m args below meth c D cy A σ 0 0 (MQ below (Qst D cy A (PsI Q)) args s rm_X12_speaksAgainst.cells rm_X12_speaksAgainst.slots A) (F0 m 202 ls []) := by
  unfold b_X12_speaksAgainst_202 at h
  obtain ⟨x1, e2⟩ : ∃ z : Int32, z = p4 + (1 : Int32) := ⟨_, rfl⟩
  have h := h x1 e2
  refine x_iinc (v := x1) (lv' := [(4, .int x1), (0, .ref a0), (1, .int p1), (2, .int p2)]) C dX12_speaksAgainst_202 hl (q0 := 3) rfl (by rw [e2]; rfl) (by decide) (by first | rfl | simp [vrc, cat_i, cat_r, cat_l]) (fun ls hl => ?_)
  refine x_goto (tgt := 137) C dX12_speaksAgainst_205 (by decide) ?_
  exact hL137 (p1, p2, x1) _ h ls (lv_sub hl [1, 2, 3, 0] rfl)
def f_X12_speaksAgainst_137 (a0 : Nat)  (Q : Int32 → Sto → Prop) (L137 : Int32 × Int32 × Int32 → Sto → Prop) (t : Int32 × Int32 × Int32) (σ : Sto) : Prop := (sK σ a0 = 12 ∧ (∃ b2 : Nat, sP σ a0 26 = some b2 ∧ (sK σ b2 = 14 ∧ (vp_in t.1 (sN σ b2) ∧ (∀ x6 : Int32, x6 = sI σ b2 t.1.toNatClampNeg → ((x6 ≤ t.2.2 → Q (0 : Int32) σ) ∧ (¬ x6 ≤ t.2.2 → (∀ x9 : Int32, x9 = ((100 : Int32) * t.1) + t.2.2 → (wp_X12_doEntry a0 x9 σ (fun (x12 : Int32) (σ11 : Sto) => ((x12 = 0 → b_X12_speaksAgainst_202 a0 L137 Q t.1 t.2.1 t.2.2 σ11) ∧ (¬ x12 = 0 → (sK σ11 a0 = 12 ∧ (wp_X12_isKept a0 x9 t.2.1 σ11 (fun (x16 : Int32) (σ15 : Sto) => ((x16 = 0 → b_X12_speaksAgainst_202 a0 L137 Q t.1 t.2.1 t.2.2 σ15) ∧ (¬ x16 = 0 → (sK σ15 a0 = 12 ∧ (∃ b19 : Nat, sP σ15 a0 82 = some b19 ∧ (sK σ15 b19 = 14 ∧ (vp_in t.2.1 (sN σ15 b19) ∧ (∀ x23 : Int32, x23 = sI σ15 b19 t.2.1.toNatClampNeg → (∃ b25 : Nat, sP σ15 a0 64 = some b25 ∧ (sK σ15 b25 = 14 ∧ (vp_in x23 (sN σ15 b25) ∧ (∀ x29 : Int32, x29 = sI σ15 b25 x23.toNatClampNeg → (∃ b31 : Nat, sP σ15 a0 87 = some b31 ∧ (sK σ15 b31 = 14 ∧ (vp_in t.2.1 (sN σ15 b31) ∧ (∀ x35 : Int32, x35 = sI σ15 b31 t.2.1.toNatClampNeg → ((x29 = x35 → Q (0 : Int32) σ15) ∧ (¬ x29 = x35 → Q (1 : Int32) σ15))))))))))))))))))))))))))))))))
set_option maxHeartbeats 4000000 in
set_option maxRecDepth 100000 in
theorem t_X12_speaksAgainst_137 {p : Program} {l : Launch} {e : Env} {s : State} {m : MethodId} {args : Array Value} {below : List Frame} {meth : Method} {c : Code} {D : va_G} {cy : Nat → ClassId} {A : Nat → Prop} {a0 : Nat} {Q : Int32 → Sto → Prop} {L137 : Int32 × Int32 × Int32 → Sto → Prop} (C : Cx p s m args meth c D cy A cX12_speaksAgainst 6 RX12) (hr : meth.sig.returnType = (some .boolean)) (hnm : meth.name = yX12_speaksAgainst.name) (hL137 : ∀ (t : Int32 × Int32 × Int32) (σ : Sto), L137 t σ → ∀ ls : Array Slot, lv_has ls 6 [(0, .ref a0), (1, .int t.1), (2, .int t.2.1), (4, .int t.2.2)] → Xw p l e rm_X12_speaksAgainst s m args below meth c D cy A σ 0 0 (MQ below (Qst D cy A (PsI Q)) args s rm_X12_speaksAgainst.cells rm_X12_speaksAgainst.slots A) (F0 m 137 ls [])) : ∀ (t : Int32 × Int32 × Int32) (σ : Sto), f_X12_speaksAgainst_137 a0  Q L137 t σ → ∀ ls : Array Slot, lv_has ls 6 [(0, .ref a0), (1, .int t.1), (2, .int t.2.1), (4, .int t.2.2)] → Xw p l e rm_X12_speaksAgainst s m args below meth c D cy A σ 0 0 (MQ below (Qst D cy A (PsI Q)) args s rm_X12_speaksAgainst.cells rm_X12_speaksAgainst.slots A) (F0 m 137 ls []) := by
  intro t σ h ls hl
  unfold f_X12_speaksAgainst_137 at h
  refine x_iload C dX12_speaksAgainst_137 (lv_at hl 3 rfl) ?_
  refine x_aload_n C dX12_speaksAgainst_139 rfl (lv_at hl 0 rfl) ?_
  obtain ⟨g1, h⟩ := h
  refine x_getP C fl_RX12_59 g1 dX12_speaksAgainst_140 ?_
  refine x_iload_n C dX12_speaksAgainst_143 rfl (lv_at hl 1 rfl) ?_
  obtain ⟨b2, g3, h⟩ := h
  refine x_nn1 g3 ?_
  obtain ⟨g4, h⟩ := h
  obtain ⟨g5, h⟩ := h
  refine x_iald C g4 g5 dX12_speaksAgainst_144 ?_
  refine x_topi (fun x6 e7 => ?_)
  have h := h x6 e7
  refine x_icmp_ge (tgt := 208) C dX12_speaksAgainst_145 (by decide) (fun c8 => ?_) (fun c8 => ?_)
  · have h := h.1 c8
    refine x_iconst (v := 0) C dX12_speaksAgainst_208 (by decide) ?_
    exact x_zret C hr dX12_speaksAgainst_209 (by decide) ⟨_, rfl, h⟩
  · have h := h.2 c8
    refine x_bipush (v := 100) C dX12_speaksAgainst_148 (by decide) ?_
    refine x_iload_n C dX12_speaksAgainst_150 rfl (lv_at hl 1 rfl) ?_
    refine x_imul C dX12_speaksAgainst_151 ?_
    refine x_iload C dX12_speaksAgainst_152 (lv_at hl 3 rfl) ?_
    refine x_iadd C dX12_speaksAgainst_154 ?_
    refine x_topi (fun x9 e10 => ?_)
    have h := h x9 e10
    refine x_istore (i := 5) (lv' := [(5, .int x9), (0, .ref a0), (1, .int t.1), (2, .int t.2.1), (4, .int t.2.2)]) C dX12_speaksAgainst_155 hl (by decide) (by first | rfl | simp [vrc, cat_i, cat_r, cat_l]) (fun ls hl => ?_)
    refine x_aload_n C dX12_speaksAgainst_157 rfl (lv_at hl 1 rfl) ?_
    refine x_iload C dX12_speaksAgainst_158 (lv_at hl 0 rfl) ?_
    refine x_callV (rm := rm_X12_doEntry) (rest := []) (As := [.int x9]) C cy_RX12_334 g1 (by decide) (by decide) rfl rfl (Nat.le_of_ble_eq_true rfl) hl.1 dX12_speaksAgainst_160 (c_X12_doEntry l D cy a0 x9 σ _ h) (ks_i (fun x12 σ11 h => ?_))
    refine x_if_eq (tgt := 202) C dX12_speaksAgainst_163 (by decide) (fun c13 => ?_) (fun c13 => ?_)
    · have h := h.1 c13
      exact t_X12_speaksAgainst_202 C hr hnm hL137 t.1 t.2.1 t.2.2 _ h ls (lv_sub hl [1, 2, 3, 4] rfl)
    · have h := h.2 c13
      refine x_aload_n C dX12_speaksAgainst_166 rfl (lv_at hl 1 rfl) ?_
      refine x_iload C dX12_speaksAgainst_167 (lv_at hl 0 rfl) ?_
      refine x_iload_n C dX12_speaksAgainst_169 rfl (lv_at hl 3 rfl) ?_
      obtain ⟨g14, h⟩ := h
      refine x_callV (rm := rm_X12_isKept) (rest := []) (As := [.int x9, .int t.2.1]) C cy_RX12_574 g14 (by decide) (by decide) rfl rfl (Nat.le_of_ble_eq_true rfl) hl.1 dX12_speaksAgainst_170 (c_X12_isKept l D cy a0 x9 t.2.1 σ11 _ h) (ks_i (fun x16 σ15 h => ?_))
      refine x_if_eq (tgt := 202) C dX12_speaksAgainst_173 (by decide) (fun c17 => ?_) (fun c17 => ?_)
      · have h := h.1 c17
        exact t_X12_speaksAgainst_202 C hr hnm hL137 t.1 t.2.1 t.2.2 _ h ls (lv_sub hl [1, 2, 3, 4] rfl)
      · have h := h.2 c17
        refine x_aload_n C dX12_speaksAgainst_176 rfl (lv_at hl 1 rfl) ?_
        obtain ⟨g18, h⟩ := h
        refine x_getP C fl_RX12_173 g18 dX12_speaksAgainst_177 ?_
        refine x_aload_n C dX12_speaksAgainst_180 rfl (lv_at hl 1 rfl) ?_
        refine x_getP C fl_RX12_224 g18 dX12_speaksAgainst_181 ?_
        refine x_iload_n C dX12_speaksAgainst_184 rfl (lv_at hl 3 rfl) ?_
        obtain ⟨b19, g20, h⟩ := h
        refine x_nn1 g20 ?_
        obtain ⟨g21, h⟩ := h
        obtain ⟨g22, h⟩ := h
        refine x_iald C g21 g22 dX12_speaksAgainst_185 ?_
        refine x_topi (fun x23 e24 => ?_)
        have h := h x23 e24
        obtain ⟨b25, g26, h⟩ := h
        refine x_nn1 g26 ?_
        obtain ⟨g27, h⟩ := h
        obtain ⟨g28, h⟩ := h
        refine x_iald C g27 g28 dX12_speaksAgainst_186 ?_
        refine x_topi (fun x29 e30 => ?_)
        have h := h x29 e30
        refine x_aload_n C dX12_speaksAgainst_187 rfl (lv_at hl 1 rfl) ?_
        refine x_getP C fl_RX12_239 g18 dX12_speaksAgainst_188 ?_
        refine x_iload_n C dX12_speaksAgainst_191 rfl (lv_at hl 3 rfl) ?_
        obtain ⟨b31, g32, h⟩ := h
        refine x_nn1 g32 ?_
        obtain ⟨g33, h⟩ := h
        obtain ⟨g34, h⟩ := h
        refine x_iald C g33 g34 dX12_speaksAgainst_192 ?_
        refine x_topi (fun x35 e36 => ?_)
        have h := h x35 e36
        refine x_icmp_eq (tgt := 200) C dX12_speaksAgainst_193 (by decide) (fun c37 => ?_) (fun c37 => ?_)
        · have h := h.1 c37
          refine x_iconst (v := 0) C dX12_speaksAgainst_200 (by decide) ?_
          exact x_zret C hr dX12_speaksAgainst_201 (by decide) ⟨_, rfl, h⟩
        · have h := h.2 c37
          refine x_iconst (v := 1) C dX12_speaksAgainst_196 (by decide) ?_
          refine x_goto (tgt := 201) C dX12_speaksAgainst_197 (by decide) ?_
          exact x_zret C hr dX12_speaksAgainst_201 (by decide) ⟨_, rfl, h⟩
def b_X12_speaksAgainst_92 (a0 : Nat)  (Q : Int32 → Sto → Prop) (p1 : Int32) (p2 : Int32) (σ : Sto) : Prop := (sK σ a0 = 12 ∧ (∃ b2 : Nat, sP σ a0 84 = some b2 ∧ (sK σ b2 = 14 ∧ (vp_in p2 (sN σ b2) ∧ (∀ x6 : Int32, x6 = sI σ b2 p2.toNatClampNeg → (∃ b8 : Nat, sP σ a0 26 = some b8 ∧ (sK σ b8 = 14 ∧ (vp_in p1 (sN σ b8) ∧ (∀ x12 : Int32, x12 = sI σ b8 p1.toNatClampNeg → ((x12 < x6 → Q (1 : Int32) σ) ∧ (¬ x12 < x6 → (vp_in p2 (sN σ b2) ∧ (∀ x16 : Int32, x16 = sI σ b2 p2.toNatClampNeg → (wp_X12_isKept a0 ((((100 : Int32) * p1) + x16) - (1 : Int32)) p2 σ (fun (x19 : Int32) (σ18 : Sto) => ((¬ x19 = 0 → (sK σ18 a0 = 12 ∧ (wp_X12_restart a0  σ18 (fun (σ22 : Sto) => LF (f_X12_speaksAgainst_137 a0  Q) (p1, p2, (0 : Int32)) σ22)))) ∧ (x19 = 0 → Q (1 : Int32) σ18)))))))))))))))))
set_option maxHeartbeats 4000000 in
set_option maxRecDepth 100000 in
theorem t_X12_speaksAgainst_92 {p : Program} {l : Launch} {e : Env} {s : State} {m : MethodId} {args : Array Value} {below : List Frame} {meth : Method} {c : Code} {D : va_G} {cy : Nat → ClassId} {A : Nat → Prop} {a0 : Nat} {Q : Int32 → Sto → Prop} (C : Cx p s m args meth c D cy A cX12_speaksAgainst 6 RX12) (hr : meth.sig.returnType = (some .boolean)) (hnm : meth.name = yX12_speaksAgainst.name) (p1 : Int32) (p2 : Int32) (σ : Sto) (h : b_X12_speaksAgainst_92 a0  Q p1 p2 σ) (ls : Array Slot) (hl : lv_has ls 6 [(0, .ref a0), (1, .int p1), (2, .int p2)]) : Xw p l e rm_X12_speaksAgainst s m args below meth c D cy A σ 0 0 (MQ below (Qst D cy A (PsI Q)) args s rm_X12_speaksAgainst.cells rm_X12_speaksAgainst.slots A) (F0 m 92 ls []) := by
  unfold b_X12_speaksAgainst_92 at h
  refine x_aload_n C dX12_speaksAgainst_92 rfl (lv_at hl 0 rfl) ?_
  obtain ⟨g1, h⟩ := h
  refine x_getP C fl_RX12_230 g1 dX12_speaksAgainst_93 ?_
  refine x_iload_n C dX12_speaksAgainst_96 rfl (lv_at hl 2 rfl) ?_
  obtain ⟨b2, g3, h⟩ := h
  refine x_nn1 g3 ?_
  obtain ⟨g4, h⟩ := h
  obtain ⟨g5, h⟩ := h
  refine x_iald C g4 g5 dX12_speaksAgainst_97 ?_
  refine x_topi (fun x6 e7 => ?_)
  have h := h x6 e7
  refine x_aload_n C dX12_speaksAgainst_98 rfl (lv_at hl 0 rfl) ?_
  refine x_getP C fl_RX12_59 g1 dX12_speaksAgainst_99 ?_
  refine x_iload_n C dX12_speaksAgainst_102 rfl (lv_at hl 1 rfl) ?_
  obtain ⟨b8, g9, h⟩ := h
  refine x_nn1 g9 ?_
  obtain ⟨g10, h⟩ := h
  obtain ⟨g11, h⟩ := h
  refine x_iald C g10 g11 dX12_speaksAgainst_103 ?_
  refine x_topi (fun x12 e13 => ?_)
  have h := h x12 e13
  refine x_icmp_gt (tgt := 128) C dX12_speaksAgainst_104 (by decide) (fun c14 => ?_) (fun c14 => ?_)
  · have h := h.1 c14
    refine x_iconst (v := 1) C dX12_speaksAgainst_128 (by decide) ?_
    exact x_zret C hr dX12_speaksAgainst_129 (by decide) ⟨_, rfl, h⟩
  · have h := h.2 c14
    refine x_aload_n C dX12_speaksAgainst_107 rfl (lv_at hl 0 rfl) ?_
    refine x_bipush (v := 100) C dX12_speaksAgainst_108 (by decide) ?_
    refine x_iload_n C dX12_speaksAgainst_110 rfl (lv_at hl 1 rfl) ?_
    refine x_imul C dX12_speaksAgainst_111 ?_
    refine x_aload_n C dX12_speaksAgainst_112 rfl (lv_at hl 0 rfl) ?_
    refine x_getP C fl_RX12_230 g1 dX12_speaksAgainst_113 ?_
    refine x_iload_n C dX12_speaksAgainst_116 rfl (lv_at hl 2 rfl) ?_
    refine x_nn1 g3 ?_
    obtain ⟨g15, h⟩ := h
    refine x_iald C g4 g15 dX12_speaksAgainst_117 ?_
    refine x_topi (fun x16 e17 => ?_)
    have h := h x16 e17
    refine x_iadd C dX12_speaksAgainst_118 ?_
    refine x_iconst (v := 1) C dX12_speaksAgainst_119 (by decide) ?_
    refine x_isub C dX12_speaksAgainst_120 ?_
    refine x_iload_n C dX12_speaksAgainst_121 rfl (lv_at hl 2 rfl) ?_
    refine x_callV (rm := rm_X12_isKept) (rest := []) (As := [.int ((((100 : Int32) * p1) + x16) - (1 : Int32)), .int p2]) C cy_RX12_574 g1 (by decide) (by decide) rfl rfl (Nat.le_of_ble_eq_true rfl) hl.1 dX12_speaksAgainst_122 (c_X12_isKept l D cy a0 ((((100 : Int32) * p1) + x16) - (1 : Int32)) p2 σ _ h) (ks_i (fun x19 σ18 h => ?_))
    refine x_if_ne (tgt := 130) C dX12_speaksAgainst_125 (by decide) (fun c20 => ?_) (fun c20 => ?_)
    · have h := h.1 c20
      refine x_aload_n C dX12_speaksAgainst_130 rfl (lv_at hl 0 rfl) ?_
      obtain ⟨g21, h⟩ := h
      refine x_callV (rm := rm_X12_restart) (rest := []) (As := []) C cy_RX12_331 g21 (by decide) (by decide) rfl rfl (Nat.le_of_ble_eq_true rfl) hl.1 dX12_speaksAgainst_131 (c_X12_restart l D cy a0  σ18 _ h) (ks_v (fun σ22 h => ?_))
      refine x_iconst (v := 0) C dX12_speaksAgainst_134 (by decide) ?_
      refine x_istore (i := 4) (lv' := [(4, .int (0 : Int32)), (0, .ref a0), (1, .int p1), (2, .int p2)]) C dX12_speaksAgainst_135 hl (by decide) (by first | rfl | simp [vrc, cat_i, cat_r, cat_l]) (fun ls hl => ?_)
      exact h (fun t σ => ∀ ls : Array Slot, lv_has ls 6 [(0, .ref a0), (1, .int t.1), (2, .int t.2.1), (4, .int t.2.2)] → Xw p l e rm_X12_speaksAgainst s m args below meth c D cy A σ 0 0 (MQ below (Qst D cy A (PsI Q)) args s rm_X12_speaksAgainst.cells rm_X12_speaksAgainst.slots A) (F0 m 137 ls [])) (t_X12_speaksAgainst_137 C hr hnm  (fun t σ h => h)) ls (lv_sub hl [1, 2, 3, 0] rfl)
    · have h := h.2 c20
      refine x_iconst (v := 1) C dX12_speaksAgainst_128 (by decide) ?_
      exact x_zret C hr dX12_speaksAgainst_129 (by decide) ⟨_, rfl, h⟩
def b_X12_speaksAgainst_55 (a0 : Nat)  (Q : Int32 → Sto → Prop) (p1 : Int32) (p2 : Int32) (s0 : Int32) (σ : Sto) : Prop := ((¬ s0 = 0 → b_X12_speaksAgainst_92 a0  Q p1 p2 σ) ∧ (s0 = 0 → (sK σ a0 = 12 ∧ (∃ b3 : Nat, sP σ a0 85 = some b3 ∧ (sK σ b3 = 14 ∧ (vp_in p2 (sN σ b3) ∧ (∀ x7 : Int32, x7 = sI σ b3 p2.toNatClampNeg → (∃ b9 : Nat, sP σ a0 86 = some b9 ∧ (sK σ b9 = 14 ∧ (vp_in p2 (sN σ b9) ∧ (∀ x13 : Int32, x13 = sI σ b9 p2.toNatClampNeg → (∃ b15 : Nat, sP σ a0 21 = some b15 ∧ (sK σ b15 = 14 ∧ (vp_in p1 (sN σ b15) ∧ (∀ x19 : Int32, x19 = sI σ b15 p1.toNatClampNeg → (∃ b21 : Nat, sP σ a0 22 = some b21 ∧ (sK σ b21 = 14 ∧ (vp_in p1 (sN σ b21) ∧ (∀ x25 : Int32, x25 = sI σ b21 p1.toNatClampNeg → (wp_X12_isBehind x7 x13 x19 x25 σ (fun (x28 : Int32) (σ27 : Sto) => ((¬ x28 = 0 → b_X12_speaksAgainst_92 a0  Q p1 p2 σ27) ∧ (x28 = 0 → Q (0 : Int32) σ27)))))))))))))))))))))))
set_option maxHeartbeats 4000000 in
set_option maxRecDepth 100000 in
theorem t_X12_speaksAgainst_55 {p : Program} {l : Launch} {e : Env} {s : State} {m : MethodId} {args : Array Value} {below : List Frame} {meth : Method} {c : Code} {D : va_G} {cy : Nat → ClassId} {A : Nat → Prop} {a0 : Nat} {Q : Int32 → Sto → Prop} (C : Cx p s m args meth c D cy A cX12_speaksAgainst 6 RX12) (hr : meth.sig.returnType = (some .boolean)) (hnm : meth.name = yX12_speaksAgainst.name) (p1 : Int32) (p2 : Int32) (s0 : Int32) (σ : Sto) (h : b_X12_speaksAgainst_55 a0  Q p1 p2 s0 σ) (ls : Array Slot) (hl : lv_has ls 6 [(0, .ref a0), (1, .int p1), (2, .int p2)]) : Xw p l e rm_X12_speaksAgainst s m args below meth c D cy A σ 0 0 (MQ below (Qst D cy A (PsI Q)) args s rm_X12_speaksAgainst.cells rm_X12_speaksAgainst.slots A) (F0 m 55 ls [.int s0]) := by
  unfold b_X12_speaksAgainst_55 at h
  refine x_istore_n (i := 3) (lv' := [(3, .int s0), (0, .ref a0), (1, .int p1), (2, .int p2)]) C dX12_speaksAgainst_55 rfl hl (by decide) (by first | rfl | simp [vrc, cat_i, cat_r, cat_l]) (fun ls hl => ?_)
  refine x_iload_n C dX12_speaksAgainst_56 rfl (lv_at hl 0 rfl) ?_
  refine x_if_ne (tgt := 92) C dX12_speaksAgainst_57 (by decide) (fun c1 => ?_) (fun c1 => ?_)
  · have h := h.1 c1
    exact t_X12_speaksAgainst_92 C hr hnm  p1 p2 _ h ls (lv_sub hl [1, 2, 3] rfl)
  · have h := h.2 c1
    refine x_aload_n C dX12_speaksAgainst_60 rfl (lv_at hl 1 rfl) ?_
    obtain ⟨g2, h⟩ := h
    refine x_getP C fl_RX12_233 g2 dX12_speaksAgainst_61 ?_
    refine x_iload_n C dX12_speaksAgainst_64 rfl (lv_at hl 3 rfl) ?_
    obtain ⟨b3, g4, h⟩ := h
    refine x_nn1 g4 ?_
    obtain ⟨g5, h⟩ := h
    obtain ⟨g6, h⟩ := h
    refine x_iald C g5 g6 dX12_speaksAgainst_65 ?_
    refine x_topi (fun x7 e8 => ?_)
    have h := h x7 e8
    refine x_aload_n C dX12_speaksAgainst_66 rfl (lv_at hl 1 rfl) ?_
    refine x_getP C fl_RX12_236 g2 dX12_speaksAgainst_67 ?_
    refine x_iload_n C dX12_speaksAgainst_70 rfl (lv_at hl 3 rfl) ?_
    obtain ⟨b9, g10, h⟩ := h
    refine x_nn1 g10 ?_
    obtain ⟨g11, h⟩ := h
    obtain ⟨g12, h⟩ := h
    refine x_iald C g11 g12 dX12_speaksAgainst_71 ?_
    refine x_topi (fun x13 e14 => ?_)
    have h := h x13 e14
    refine x_aload_n C dX12_speaksAgainst_72 rfl (lv_at hl 1 rfl) ?_
    refine x_getP C fl_RX12_44 g2 dX12_speaksAgainst_73 ?_
    refine x_iload_n C dX12_speaksAgainst_76 rfl (lv_at hl 2 rfl) ?_
    obtain ⟨b15, g16, h⟩ := h
    refine x_nn1 g16 ?_
    obtain ⟨g17, h⟩ := h
    obtain ⟨g18, h⟩ := h
    refine x_iald C g17 g18 dX12_speaksAgainst_77 ?_
    refine x_topi (fun x19 e20 => ?_)
    have h := h x19 e20
    refine x_aload_n C dX12_speaksAgainst_78 rfl (lv_at hl 1 rfl) ?_
    refine x_getP C fl_RX12_47 g2 dX12_speaksAgainst_79 ?_
    refine x_iload_n C dX12_speaksAgainst_82 rfl (lv_at hl 2 rfl) ?_
    obtain ⟨b21, g22, h⟩ := h
    refine x_nn1 g22 ?_
    obtain ⟨g23, h⟩ := h
    obtain ⟨g24, h⟩ := h
    refine x_iald C g23 g24 dX12_speaksAgainst_83 ?_
    refine x_topi (fun x25 e26 => ?_)
    have h := h x25 e26
    refine x_callS (rm := rm_X12_isBehind) (rest := []) (As := [.int x7, .int x13, .int x19, .int x25]) C cs_RX12_361 (by decide) (by decide) rfl rfl (Nat.le_of_ble_eq_true rfl) hl.1 dX12_speaksAgainst_84 (c_X12_isBehind l D cy x7 x13 x19 x25 σ _ h) (ks_i (fun x28 σ27 h => ?_))
    refine x_if_ne (tgt := 92) C dX12_speaksAgainst_87 (by decide) (fun c29 => ?_) (fun c29 => ?_)
    · have h := h.1 c29
      exact t_X12_speaksAgainst_92 C hr hnm  p1 p2 _ h ls (lv_sub hl [1, 2, 3] rfl)
    · have h := h.2 c29
      refine x_iconst (v := 0) C dX12_speaksAgainst_90 (by decide) ?_
      exact x_zret C hr dX12_speaksAgainst_91 (by decide) ⟨_, rfl, h⟩
def b_X12_speaksAgainst_54 (a0 : Nat)  (Q : Int32 → Sto → Prop) (p1 : Int32) (p2 : Int32) (σ : Sto) : Prop := b_X12_speaksAgainst_55 a0  Q p1 p2 (0 : Int32) σ
set_option maxHeartbeats 4000000 in
set_option maxRecDepth 100000 in
theorem t_X12_speaksAgainst_54 {p : Program} {l : Launch} {e : Env} {s : State} {m : MethodId} {args : Array Value} {below : List Frame} {meth : Method} {c : Code} {D : va_G} {cy : Nat → ClassId} {A : Nat → Prop} {a0 : Nat} {Q : Int32 → Sto → Prop} (C : Cx p s m args meth c D cy A cX12_speaksAgainst 6 RX12) (hr : meth.sig.returnType = (some .boolean)) (hnm : meth.name = yX12_speaksAgainst.name) (p1 : Int32) (p2 : Int32) (σ : Sto) (h : b_X12_speaksAgainst_54 a0  Q p1 p2 σ) (ls : Array Slot) (hl : lv_has ls 6 [(0, .ref a0), (1, .int p1), (2, .int p2)]) : Xw p l e rm_X12_speaksAgainst s m args below meth c D cy A σ 0 0 (MQ below (Qst D cy A (PsI Q)) args s rm_X12_speaksAgainst.cells rm_X12_speaksAgainst.slots A) (F0 m 54 ls []) := by
  unfold b_X12_speaksAgainst_54 at h
  refine x_iconst (v := 0) C dX12_speaksAgainst_54 (by decide) ?_
  exact t_X12_speaksAgainst_55 C hr hnm  p1 p2 (0 : Int32) _ h ls (lv_sub hl [0, 1, 2] rfl)
def wp_X12_speaksAgainst (a0 : Nat) (p1 : Int32) (p2 : Int32) (σ : Sto) (Q : Int32 → Sto → Prop) : Prop := (sK σ a0 = 12 ∧ (wp_X12_leads a0 p1 σ (fun (x3 : Int32) (σ2 : Sto) => ((x3 = 0 → Q (0 : Int32) σ2) ∧ (¬ x3 = 0 → (sK σ2 a0 = 12 ∧ (∃ b6 : Nat, sP σ2 a0 23 = some b6 ∧ (sK σ2 b6 = 14 ∧ (vp_in p1 (sN σ2 b6) ∧ (∀ x10 : Int32, x10 = sI σ2 b6 p1.toNatClampNeg → ((¬ x10 = (2 : Int32) → (∃ b13 : Nat, sP σ2 a0 85 = some b13 ∧ (sK σ2 b13 = 14 ∧ (vp_in p2 (sN σ2 b13) ∧ (∀ x17 : Int32, x17 = sI σ2 b13 p2.toNatClampNeg → (∃ b19 : Nat, sP σ2 a0 21 = some b19 ∧ (sK σ2 b19 = 14 ∧ (vp_in p1 (sN σ2 b19) ∧ (∀ x23 : Int32, x23 = sI σ2 b19 p1.toNatClampNeg → ((¬ x17 = x23 → b_X12_speaksAgainst_54 a0  Q p1 p2 σ2) ∧ (x17 = x23 → (∃ b26 : Nat, sP σ2 a0 86 = some b26 ∧ (sK σ2 b26 = 14 ∧ (vp_in p2 (sN σ2 b26) ∧ (∀ x30 : Int32, x30 = sI σ2 b26 p2.toNatClampNeg → (∃ b32 : Nat, sP σ2 a0 22 = some b32 ∧ (sK σ2 b32 = 14 ∧ (vp_in p1 (sN σ2 b32) ∧ (∀ x36 : Int32, x36 = sI σ2 b32 p1.toNatClampNeg → ((¬ x30 = x36 → b_X12_speaksAgainst_54 a0  Q p1 p2 σ2) ∧ (x30 = x36 → b_X12_speaksAgainst_55 a0  Q p1 p2 (1 : Int32) σ2))))))))))))))))))))) ∧ (x10 = (2 : Int32) → Q (0 : Int32) σ2))))))))))))
set_option maxHeartbeats 4000000 in
set_option maxRecDepth 100000 in
theorem c_X12_speaksAgainst (l : Launch) (D : va_G) (cy : Nat → ClassId) (a0 : Nat) (p1 : Int32) (p2 : Int32) (σ : Sto) (Q : Int32 → Sto → Prop) (h : wp_X12_speaksAgainst a0 p1 p2 σ Q) : Mt l D cy yX12_speaksAgainst cX12_speaksAgainst 6 (some .boolean) rm_X12_speaksAgainst [.ref a0, .int p1, .int p2] σ (PsI Q) := by
  unfold wp_X12_speaksAgainst at h
  refine mt_of (by decide +kernel) (Nat.le_of_ble_eq_true rfl) ?_
  intro p e s m args below meth c A ls C hr hnm hl
  have C : Cx p s m args meth c D cy A cX12_speaksAgainst 6 RX12 := C
  have hl : lv_has ls 6 [(0, .ref a0), (1, .int p1), (2, .int p2)] := hl
  refine x_aload_n C dX12_speaksAgainst_0 rfl (lv_at hl 0 rfl) ?_
  refine x_iload_n C dX12_speaksAgainst_1 rfl (lv_at hl 1 rfl) ?_
  obtain ⟨g1, h⟩ := h
  refine x_callV (rm := rm_X12_leads) (rest := []) (As := [.int p1]) C cy_RX12_327 g1 (by decide) (by decide) rfl rfl (Nat.le_of_ble_eq_true rfl) hl.1 dX12_speaksAgainst_2 (c_X12_leads l D cy a0 p1 σ _ h) (ks_i (fun x3 σ2 h => ?_))
  refine x_if_eq (tgt := 18) C dX12_speaksAgainst_5 (by decide) (fun c4 => ?_) (fun c4 => ?_)
  · have h := h.1 c4
    refine x_iconst (v := 0) C dX12_speaksAgainst_18 (by decide) ?_
    exact x_zret C hr dX12_speaksAgainst_19 (by decide) ⟨_, rfl, h⟩
  · have h := h.2 c4
    refine x_aload_n C dX12_speaksAgainst_8 rfl (lv_at hl 0 rfl) ?_
    obtain ⟨g5, h⟩ := h
    refine x_getP C fl_RX12_50 g5 dX12_speaksAgainst_9 ?_
    refine x_iload_n C dX12_speaksAgainst_12 rfl (lv_at hl 1 rfl) ?_
    obtain ⟨b6, g7, h⟩ := h
    refine x_nn1 g7 ?_
    obtain ⟨g8, h⟩ := h
    obtain ⟨g9, h⟩ := h
    refine x_iald C g8 g9 dX12_speaksAgainst_13 ?_
    refine x_topi (fun x10 e11 => ?_)
    have h := h x10 e11
    refine x_iconst (v := 2) C dX12_speaksAgainst_14 (by decide) ?_
    refine x_icmp_ne (tgt := 20) C dX12_speaksAgainst_15 (by decide) (fun c12 => ?_) (fun c12 => ?_)
    · have h := h.1 c12
      refine x_aload_n C dX12_speaksAgainst_20 rfl (lv_at hl 0 rfl) ?_
      refine x_getP C fl_RX12_233 g5 dX12_speaksAgainst_21 ?_
      refine x_iload_n C dX12_speaksAgainst_24 rfl (lv_at hl 2 rfl) ?_
      obtain ⟨b13, g14, h⟩ := h
      refine x_nn1 g14 ?_
      obtain ⟨g15, h⟩ := h
      obtain ⟨g16, h⟩ := h
      refine x_iald C g15 g16 dX12_speaksAgainst_25 ?_
      refine x_topi (fun x17 e18 => ?_)
      have h := h x17 e18
      refine x_aload_n C dX12_speaksAgainst_26 rfl (lv_at hl 0 rfl) ?_
      refine x_getP C fl_RX12_44 g5 dX12_speaksAgainst_27 ?_
      refine x_iload_n C dX12_speaksAgainst_30 rfl (lv_at hl 1 rfl) ?_
      obtain ⟨b19, g20, h⟩ := h
      refine x_nn1 g20 ?_
      obtain ⟨g21, h⟩ := h
      obtain ⟨g22, h⟩ := h
      refine x_iald C g21 g22 dX12_speaksAgainst_31 ?_
      refine x_topi (fun x23 e24 => ?_)
      have h := h x23 e24
      refine x_icmp_ne (tgt := 54) C dX12_speaksAgainst_32 (by decide) (fun c25 => ?_) (fun c25 => ?_)
      · have h := h.1 c25
        exact t_X12_speaksAgainst_54 C hr hnm  p1 p2 _ h ls (lv_sub hl [0, 1, 2] rfl)
      · have h := h.2 c25
        refine x_aload_n C dX12_speaksAgainst_35 rfl (lv_at hl 0 rfl) ?_
        refine x_getP C fl_RX12_236 g5 dX12_speaksAgainst_36 ?_
        refine x_iload_n C dX12_speaksAgainst_39 rfl (lv_at hl 2 rfl) ?_
        obtain ⟨b26, g27, h⟩ := h
        refine x_nn1 g27 ?_
        obtain ⟨g28, h⟩ := h
        obtain ⟨g29, h⟩ := h
        refine x_iald C g28 g29 dX12_speaksAgainst_40 ?_
        refine x_topi (fun x30 e31 => ?_)
        have h := h x30 e31
        refine x_aload_n C dX12_speaksAgainst_41 rfl (lv_at hl 0 rfl) ?_
        refine x_getP C fl_RX12_47 g5 dX12_speaksAgainst_42 ?_
        refine x_iload_n C dX12_speaksAgainst_45 rfl (lv_at hl 1 rfl) ?_
        obtain ⟨b32, g33, h⟩ := h
        refine x_nn1 g33 ?_
        obtain ⟨g34, h⟩ := h
        obtain ⟨g35, h⟩ := h
        refine x_iald C g34 g35 dX12_speaksAgainst_46 ?_
        refine x_topi (fun x36 e37 => ?_)
        have h := h x36 e37
        refine x_icmp_ne (tgt := 54) C dX12_speaksAgainst_47 (by decide) (fun c38 => ?_) (fun c38 => ?_)
        · have h := h.1 c38
          exact t_X12_speaksAgainst_54 C hr hnm  p1 p2 _ h ls (lv_sub hl [0, 1, 2] rfl)
        · have h := h.2 c38
          refine x_iconst (v := 1) C dX12_speaksAgainst_50 (by decide) ?_
          refine x_goto (tgt := 55) C dX12_speaksAgainst_51 (by decide) ?_
          exact t_X12_speaksAgainst_55 C hr hnm  p1 p2 (1 : Int32) _ h ls (lv_sub hl [0, 1, 2] rfl)
    · have h := h.2 c12
      refine x_iconst (v := 0) C dX12_speaksAgainst_18 (by decide) ?_
      exact x_zret C hr dX12_speaksAgainst_19 (by decide) ⟨_, rfl, h⟩
theorem dX12_broken_0 : decode cX12_broken 0 = .ok (.aload_n 0, 1) := by decide +kernel
theorem dX12_broken_1 : decode cX12_broken 1 = .ok (.iconst 0, 1) := by decide +kernel
theorem dX12_broken_2 : decode cX12_broken 2 = .ok (.putfield 267, 3) := by decide +kernel
theorem dX12_broken_5 : decode cX12_broken 5 = .ok (.iconst 0, 1) := by decide +kernel
theorem dX12_broken_6 : decode cX12_broken 6 = .ok (.istore_n 1, 1) := by decide +kernel
theorem dX12_broken_7 : decode cX12_broken 7 = .ok (.iconst 0, 1) := by decide +kernel
theorem dX12_broken_8 : decode cX12_broken 8 = .ok (.istore_n 2, 1) := by decide +kernel
theorem dX12_broken_9 : decode cX12_broken 9 = .ok (.iload_n 2, 1) := by decide +kernel
theorem dX12_broken_10 : decode cX12_broken 10 = .ok (.sipush 200, 3) := by decide +kernel
theorem dX12_broken_13 : decode cX12_broken 13 = .ok (.if_icmp .ge 69, 3) := by decide +kernel
theorem dX12_broken_16 : decode cX12_broken 16 = .ok (.iload_n 2, 1) := by decide +kernel
theorem dX12_broken_17 : decode cX12_broken 17 = .ok (.aload_n 0, 1) := by decide +kernel
theorem dX12_broken_18 : decode cX12_broken 18 = .ok (.getfield 449, 3) := by decide +kernel
theorem dX12_broken_21 : decode cX12_broken 21 = .ok (.if_icmp .ge 61, 3) := by decide +kernel
theorem dX12_broken_24 : decode cX12_broken 24 = .ok (.iconst 0, 1) := by decide +kernel
theorem dX12_broken_25 : decode cX12_broken 25 = .ok (.istore_n 3, 1) := by decide +kernel
theorem dX12_broken_26 : decode cX12_broken 26 = .ok (.iconst 0, 1) := by decide +kernel
theorem dX12_broken_27 : decode cX12_broken 27 = .ok (.istore 4, 2) := by decide +kernel
theorem dX12_broken_29 : decode cX12_broken 29 = .ok (.iload 4, 2) := by decide +kernel
theorem dX12_broken_31 : decode cX12_broken 31 = .ok (.aload_n 0, 1) := by decide +kernel
theorem dX12_broken_32 : decode cX12_broken 32 = .ok (.getfield 258, 3) := by decide +kernel
theorem dX12_broken_35 : decode cX12_broken 35 = .ok (.if_icmp .ge 29, 3) := by decide +kernel
theorem dX12_broken_38 : decode cX12_broken 38 = .ok (.iload_n 3, 1) := by decide +kernel
theorem dX12_broken_39 : decode cX12_broken 39 = .ok (.ifCond .ne 13, 3) := by decide +kernel
theorem dX12_broken_42 : decode cX12_broken 42 = .ok (.aload_n 0, 1) := by decide +kernel
theorem dX12_broken_43 : decode cX12_broken 43 = .ok (.iload 4, 2) := by decide +kernel
theorem dX12_broken_45 : decode cX12_broken 45 = .ok (.iload_n 2, 1) := by decide +kernel
theorem dX12_broken_46 : decode cX12_broken 46 = .ok (.invokevirtual 577, 3) := by decide +kernel
theorem dX12_broken_49 : decode cX12_broken 49 = .ok (.ifCond .eq 7, 3) := by decide +kernel
theorem dX12_broken_52 : decode cX12_broken 52 = .ok (.iconst 1, 1) := by decide +kernel
theorem dX12_broken_53 : decode cX12_broken 53 = .ok (.goto 4, 3) := by decide +kernel
theorem dX12_broken_56 : decode cX12_broken 56 = .ok (.iconst 0, 1) := by decide +kernel
theorem dX12_broken_57 : decode cX12_broken 57 = .ok (.istore_n 3, 1) := by decide +kernel
theorem dX12_broken_58 : decode cX12_broken 58 = .ok (.iinc 4 1, 3) := by decide +kernel
theorem dX12_broken_61 : decode cX12_broken 61 = .ok (.goto (-32), 3) := by decide +kernel
theorem dX12_broken_64 : decode cX12_broken 64 = .ok (.iload_n 1, 1) := by decide +kernel
theorem dX12_broken_65 : decode cX12_broken 65 = .ok (.iload_n 3, 1) := by decide +kernel
theorem dX12_broken_66 : decode cX12_broken 66 = .ok (.ifCond .eq 7, 3) := by decide +kernel
theorem dX12_broken_69 : decode cX12_broken 69 = .ok (.iconst 1, 1) := by decide +kernel
theorem dX12_broken_70 : decode cX12_broken 70 = .ok (.goto 4, 3) := by decide +kernel
theorem dX12_broken_73 : decode cX12_broken 73 = .ok (.iconst 0, 1) := by decide +kernel
theorem dX12_broken_74 : decode cX12_broken 74 = .ok (.iadd, 1) := by decide +kernel
theorem dX12_broken_75 : decode cX12_broken 75 = .ok (.istore_n 1, 1) := by decide +kernel
theorem dX12_broken_76 : decode cX12_broken 76 = .ok (.iinc 2 1, 3) := by decide +kernel
theorem dX12_broken_79 : decode cX12_broken 79 = .ok (.goto (-70), 3) := by decide +kernel
theorem dX12_broken_82 : decode cX12_broken 82 = .ok (.iload_n 1, 1) := by decide +kernel
theorem dX12_broken_83 : decode cX12_broken 83 = .ok (.ireturn, 1) := by decide +kernel
abbrev rm_X12_broken : Room := { frames := 3, cells := 0, slots := 0, locals := 67 }
def b_X12_broken_74 (a0 : Nat) (L9 : Int32 × Int32 → Sto → Prop) (Q : Int32 → Sto → Prop) (p2 : Int32) (s0 : Int32) (s1 : Int32) (σ : Sto) : Prop := (∀ x1 : Int32, x1 = s1 + s0 → (∀ x3 : Int32, x3 = p2 + (1 : Int32) → L9 (x1, x3) σ))
set_option maxHeartbeats 4000000 in
set_option maxRecDepth 100000 in
theorem t_X12_broken_74 {p : Program} {l : Launch} {e : Env} {s : State} {m : MethodId} {args : Array Value} {below : List Frame} {meth : Method} {c : Code} {D : va_G} {cy : Nat → ClassId} {A : Nat → Prop} {a0 : Nat} {L9 : Int32 × Int32 → Sto → Prop} {Q : Int32 → Sto → Prop} (C : Cx p s m args meth c D cy A cX12_broken 5 RX12) (hr : meth.sig.returnType = (some .int)) (hnm : meth.name = yX12_broken.name) (hL9 : ∀ (t : Int32 × Int32) (σ : Sto), L9 t σ → ∀ ls : Array Slot, lv_has ls 5 [(0, .ref a0), (1, .int t.1), (2, .int t.2)] → Xw p l e rm_X12_broken s m args below meth c D cy A σ 0 0 (MQ below (Qst D cy A (PsI Q)) args s rm_X12_broken.cells rm_X12_broken.slots A) (F0 m 9 ls [])) (p2 : Int32) (s0 : Int32) (s1 : Int32) (σ : Sto) (h : b_X12_broken_74 a0 L9 Q p2 s0 s1 σ) (ls : Array Slot) (hl : lv_has ls 5 [(0, .ref a0), (2, .int p2)]) : Xw p l e rm_X12_broken s m args below meth c D cy A σ 0 0 (MQ below (Qst D cy A (PsI Q)) args s rm_X12_broken.cells rm_X12_broken.slots A) (F0 m 74 ls [.int s0, .int s1]) := by
  unfold b_X12_broken_74 at h
  refine x_iadd C dX12_broken_74 ?_
  refine x_topi (fun x1 e2 => ?_)
  have h := h x1 e2
  refine x_istore_n (i := 1) (lv' := [(1, .int x1), (0, .ref a0), (2, .int p2)]) C dX12_broken_75 rfl hl (by decide) (by first | rfl | simp [vrc, cat_i, cat_r, cat_l]) (fun ls hl => ?_)
  obtain ⟨x3, e4⟩ : ∃ z : Int32, z = p2 + (1 : Int32) := ⟨_, rfl⟩
  have h := h x3 e4
  refine x_iinc (v := x3) (lv' := [(2, .int x3), (1, .int x1), (0, .ref a0)]) C dX12_broken_76 hl (q0 := 2) rfl (by rw [e4]; rfl) (by decide) (by first | rfl | simp [vrc, cat_i, cat_r, cat_l]) (fun ls hl => ?_)
  refine x_goto (tgt := 9) C dX12_broken_79 (by decide) ?_
  exact hL9 (x1, x3) _ h ls (lv_sub hl [2, 1, 0] rfl)
def b_X12_broken_57 (a0 : Nat) (L9 : Int32 × Int32 → Sto → Prop) (L29 : Int32 × Int32 × Int32 × Int32 → Sto → Prop) (Q : Int32 → Sto → Prop) (p1 : Int32) (p2 : Int32) (p4 : Int32) (s0 : Int32) (σ : Sto) : Prop := (∀ x1 : Int32, x1 = p4 + (1 : Int32) → L29 (p1, p2, s0, x1) σ)
set_option maxHeartbeats 4000000 in
set_option maxRecDepth 100000 in
theorem t_X12_broken_57 {p : Program} {l : Launch} {e : Env} {s : State} {m : MethodId} {args : Array Value} {below : List Frame} {meth : Method} {c : Code} {D : va_G} {cy : Nat → ClassId} {A : Nat → Prop} {a0 : Nat} {L9 : Int32 × Int32 → Sto → Prop} {L29 : Int32 × Int32 × Int32 × Int32 → Sto → Prop} {Q : Int32 → Sto → Prop} (C : Cx p s m args meth c D cy A cX12_broken 5 RX12) (hr : meth.sig.returnType = (some .int)) (hnm : meth.name = yX12_broken.name) (hL9 : ∀ (t : Int32 × Int32) (σ : Sto), L9 t σ → ∀ ls : Array Slot, lv_has ls 5 [(0, .ref a0), (1, .int t.1), (2, .int t.2)] → Xw p l e rm_X12_broken s m args below meth c D cy A σ 0 0 (MQ below (Qst D cy A (PsI Q)) args s rm_X12_broken.cells rm_X12_broken.slots A) (F0 m 9 ls [])) (hL29 : ∀ (t : Int32 × Int32 × Int32 × Int32) (σ : Sto), L29 t σ → ∀ ls : Array Slot, lv_has ls 5 [(0, .ref a0), (1, .int t.1), (2, .int t.2.1), (3, .int t.2.2.1), (4, .int t.2.2.2)] → Xw p l e rm_X12_broken s m args below meth c D cy A σ 0 0 (MQ below (Qst D cy A (PsI Q)) args s rm_X12_broken.cells rm_X12_broken.slots A) (F0 m 29 ls [])) (p1 : Int32) (p2 : Int32) (p4 : Int32) (s0 : Int32) (σ : Sto) (h : b_X12_broken_57 a0 L9 L29 Q p1 p2 p4 s0 σ) (ls : Array Slot) (hl : lv_has ls 5 [(0, .ref a0), (1, .int p1), (2, .int p2), (4, .int p4)]) : Xw p l e rm_X12_broken s m args below meth c D cy A σ 0 0 (MQ below (Qst D cy A (PsI Q)) args s rm_X12_broken.cells rm_X12_broken.slots A) (F0 m 57 ls [.int s0]) := by
  unfold b_X12_broken_57 at h
  refine x_istore_n (i := 3) (lv' := [(3, .int s0), (0, .ref a0), (1, .int p1), (2, .int p2), (4, .int p4)]) C dX12_broken_57 rfl hl (by decide) (by first | rfl | simp [vrc, cat_i, cat_r, cat_l]) (fun ls hl => ?_)
  obtain ⟨x1, e2⟩ : ∃ z : Int32, z = p4 + (1 : Int32) := ⟨_, rfl⟩
  have h := h x1 e2
  refine x_iinc (v := x1) (lv' := [(4, .int x1), (3, .int s0), (0, .ref a0), (1, .int p1), (2, .int p2)]) C dX12_broken_58 hl (q0 := 4) rfl (by rw [e2]; rfl) (by decide) (by first | rfl | simp [vrc, cat_i, cat_r, cat_l]) (fun ls hl => ?_)
  refine x_goto (tgt := 29) C dX12_broken_61 (by decide) ?_
  exact hL29 (p1, p2, s0, x1) _ h ls (lv_sub hl [2, 3, 4, 1, 0] rfl)
def b_X12_broken_52 (a0 : Nat) (L9 : Int32 × Int32 → Sto → Prop) (L29 : Int32 × Int32 × Int32 × Int32 → Sto → Prop) (Q : Int32 → Sto → Prop) (p1 : Int32) (p2 : Int32) (p4 : Int32) (σ : Sto) : Prop := b_X12_broken_57 a0 L9 L29 Q p1 p2 p4 (1 : Int32) σ
set_option maxHeartbeats 4000000 in
set_option maxRecDepth 100000 in
theorem t_X12_broken_52 {p : Program} {l : Launch} {e : Env} {s : State} {m : MethodId} {args : Array Value} {below : List Frame} {meth : Method} {c : Code} {D : va_G} {cy : Nat → ClassId} {A : Nat → Prop} {a0 : Nat} {L9 : Int32 × Int32 → Sto → Prop} {L29 : Int32 × Int32 × Int32 × Int32 → Sto → Prop} {Q : Int32 → Sto → Prop} (C : Cx p s m args meth c D cy A cX12_broken 5 RX12) (hr : meth.sig.returnType = (some .int)) (hnm : meth.name = yX12_broken.name) (hL9 : ∀ (t : Int32 × Int32) (σ : Sto), L9 t σ → ∀ ls : Array Slot, lv_has ls 5 [(0, .ref a0), (1, .int t.1), (2, .int t.2)] → Xw p l e rm_X12_broken s m args below meth c D cy A σ 0 0 (MQ below (Qst D cy A (PsI Q)) args s rm_X12_broken.cells rm_X12_broken.slots A) (F0 m 9 ls [])) (hL29 : ∀ (t : Int32 × Int32 × Int32 × Int32) (σ : Sto), L29 t σ → ∀ ls : Array Slot, lv_has ls 5 [(0, .ref a0), (1, .int t.1), (2, .int t.2.1), (3, .int t.2.2.1), (4, .int t.2.2.2)] → Xw p l e rm_X12_broken s m args below meth c D cy A σ 0 0 (MQ below (Qst D cy A (PsI Q)) args s rm_X12_broken.cells rm_X12_broken.slots A) (F0 m 29 ls [])) (p1 : Int32) (p2 : Int32) (p4 : Int32) (σ : Sto) (h : b_X12_broken_52 a0 L9 L29 Q p1 p2 p4 σ) (ls : Array Slot) (hl : lv_has ls 5 [(0, .ref a0), (1, .int p1), (2, .int p2), (4, .int p4)]) : Xw p l e rm_X12_broken s m args below meth c D cy A σ 0 0 (MQ below (Qst D cy A (PsI Q)) args s rm_X12_broken.cells rm_X12_broken.slots A) (F0 m 52 ls []) := by
  unfold b_X12_broken_52 at h
  refine x_iconst (v := 1) C dX12_broken_52 (by decide) ?_
  refine x_goto (tgt := 57) C dX12_broken_53 (by decide) ?_
  exact t_X12_broken_57 C hr hnm hL9 hL29 p1 p2 p4 (1 : Int32) _ h ls (lv_sub hl [0, 1, 2, 3] rfl)
def f_X12_broken_29 (a0 : Nat) (L9 : Int32 × Int32 → Sto → Prop) (Q : Int32 → Sto → Prop) (L29 : Int32 × Int32 × Int32 × Int32 → Sto → Prop) (t : Int32 × Int32 × Int32 × Int32) (σ : Sto) : Prop := (sK σ a0 = 12 ∧ (∀ x2 : Int32, x2 = sI σ a0 1 → ((x2 ≤ t.2.2.2 → ((t.2.2.1 = 0 → b_X12_broken_74 a0 L9 Q t.2.1 (0 : Int32) t.1 σ) ∧ (¬ t.2.2.1 = 0 → b_X12_broken_74 a0 L9 Q t.2.1 (1 : Int32) t.1 σ))) ∧ (¬ x2 ≤ t.2.2.2 → ((¬ t.2.2.1 = 0 → b_X12_broken_52 a0 L9 L29 Q t.1 t.2.1 t.2.2.2 σ) ∧ (t.2.2.1 = 0 → (wp_X12_speaksAgainst a0 t.2.2.2 t.2.1 σ (fun (x8 : Int32) (σ7 : Sto) => ((x8 = 0 → b_X12_broken_57 a0 L9 L29 Q t.1 t.2.1 t.2.2.2 (0 : Int32) σ7) ∧ (¬ x8 = 0 → b_X12_broken_52 a0 L9 L29 Q t.1 t.2.1 t.2.2.2 σ7))))))))))
set_option maxHeartbeats 4000000 in
set_option maxRecDepth 100000 in
theorem t_X12_broken_29 {p : Program} {l : Launch} {e : Env} {s : State} {m : MethodId} {args : Array Value} {below : List Frame} {meth : Method} {c : Code} {D : va_G} {cy : Nat → ClassId} {A : Nat → Prop} {a0 : Nat} {L9 : Int32 × Int32 → Sto → Prop} {Q : Int32 → Sto → Prop} {L29 : Int32 × Int32 × Int32 × Int32 → Sto → Prop} (C : Cx p s m args meth c D cy A cX12_broken 5 RX12) (hr : meth.sig.returnType = (some .int)) (hnm : meth.name = yX12_broken.name) (hL9 : ∀ (t : Int32 × Int32) (σ : Sto), L9 t σ → ∀ ls : Array Slot, lv_has ls 5 [(0, .ref a0), (1, .int t.1), (2, .int t.2)] → Xw p l e rm_X12_broken s m args below meth c D cy A σ 0 0 (MQ below (Qst D cy A (PsI Q)) args s rm_X12_broken.cells rm_X12_broken.slots A) (F0 m 9 ls [])) (hL29 : ∀ (t : Int32 × Int32 × Int32 × Int32) (σ : Sto), L29 t σ → ∀ ls : Array Slot, lv_has ls 5 [(0, .ref a0), (1, .int t.1), (2, .int t.2.1), (3, .int t.2.2.1), (4, .int t.2.2.2)] → Xw p l e rm_X12_broken s m args below meth c D cy A σ 0 0 (MQ below (Qst D cy A (PsI Q)) args s rm_X12_broken.cells rm_X12_broken.slots A) (F0 m 29 ls [])) : ∀ (t : Int32 × Int32 × Int32 × Int32) (σ : Sto), f_X12_broken_29 a0 L9 Q L29 t σ → ∀ ls : Array Slot, lv_has ls 5 [(0, .ref a0), (1, .int t.1), (2, .int t.2.1), (3, .int t.2.2.1), (4, .int t.2.2.2)] → Xw p l e rm_X12_broken s m args below meth c D cy A σ 0 0 (MQ below (Qst D cy A (PsI Q)) args s rm_X12_broken.cells rm_X12_broken.slots A) (F0 m 29 ls []) := by
  intro t σ h ls hl
  unfold f_X12_broken_29 at h
  refine x_iload C dX12_broken_29 (lv_at hl 4 rfl) ?_
  refine x_aload_n C dX12_broken_31 rfl (lv_at hl 0 rfl) ?_
  obtain ⟨g1, h⟩ := h
  refine x_getI C fl_RX12_258 g1 dX12_broken_32 ?_
  refine x_topi (fun x2 e3 => ?_)
  have h := h x2 e3
  refine x_icmp_ge (tgt := 64) C dX12_broken_35 (by decide) (fun c4 => ?_) (fun c4 => ?_)
  · have h := h.1 c4
    refine x_iload_n C dX12_broken_64 rfl (lv_at hl 1 rfl) ?_
    refine x_iload_n C dX12_broken_65 rfl (lv_at hl 3 rfl) ?_
    refine x_if_eq (tgt := 73) C dX12_broken_66 (by decide) (fun c5 => ?_) (fun c5 => ?_)
    · have h := h.1 c5
      refine x_iconst (v := 0) C dX12_broken_73 (by decide) ?_
      exact t_X12_broken_74 C hr hnm hL9 t.2.1 (0 : Int32) t.1 _ h ls (lv_sub hl [0, 2] rfl)
    · have h := h.2 c5
      refine x_iconst (v := 1) C dX12_broken_69 (by decide) ?_
      refine x_goto (tgt := 74) C dX12_broken_70 (by decide) ?_
      exact t_X12_broken_74 C hr hnm hL9 t.2.1 (1 : Int32) t.1 _ h ls (lv_sub hl [0, 2] rfl)
  · have h := h.2 c4
    refine x_iload_n C dX12_broken_38 rfl (lv_at hl 3 rfl) ?_
    refine x_if_ne (tgt := 52) C dX12_broken_39 (by decide) (fun c6 => ?_) (fun c6 => ?_)
    · have h := h.1 c6
      exact t_X12_broken_52 C hr hnm hL9 hL29 t.1 t.2.1 t.2.2.2 _ h ls (lv_sub hl [0, 1, 2, 4] rfl)
    · have h := h.2 c6
      refine x_aload_n C dX12_broken_42 rfl (lv_at hl 0 rfl) ?_
      refine x_iload C dX12_broken_43 (lv_at hl 4 rfl) ?_
      refine x_iload_n C dX12_broken_45 rfl (lv_at hl 2 rfl) ?_
      refine x_callV (rm := rm_X12_speaksAgainst) (rest := []) (As := [.int t.2.2.2, .int t.2.1]) C cy_RX12_577 g1 (by decide) (by decide) rfl rfl (Nat.le_of_ble_eq_true rfl) hl.1 dX12_broken_46 (c_X12_speaksAgainst l D cy a0 t.2.2.2 t.2.1 σ _ h) (ks_i (fun x8 σ7 h => ?_))
      refine x_if_eq (tgt := 56) C dX12_broken_49 (by decide) (fun c9 => ?_) (fun c9 => ?_)
      · have h := h.1 c9
        refine x_iconst (v := 0) C dX12_broken_56 (by decide) ?_
        exact t_X12_broken_57 C hr hnm hL9 hL29 t.1 t.2.1 t.2.2.2 (0 : Int32) _ h ls (lv_sub hl [0, 1, 2, 4] rfl)
      · have h := h.2 c9
        exact t_X12_broken_52 C hr hnm hL9 hL29 t.1 t.2.1 t.2.2.2 _ h ls (lv_sub hl [0, 1, 2, 4] rfl)
def f_X12_broken_9 (a0 : Nat)  (Q : Int32 → Sto → Prop) (L9 : Int32 × Int32 → Sto → Prop) (t : Int32 × Int32) (σ : Sto) : Prop := (((200 : Int32) ≤ t.2 → Q t.1 σ) ∧ (¬ (200 : Int32) ≤ t.2 → (sK σ a0 = 12 ∧ (∀ x3 : Int32, x3 = sI σ a0 81 → ((x3 ≤ t.2 → Q t.1 σ) ∧ (¬ x3 ≤ t.2 → LF (f_X12_broken_29 a0 L9 Q) (t.1, t.2, (0 : Int32), (0 : Int32)) σ))))))
set_option maxHeartbeats 4000000 in
set_option maxRecDepth 100000 in
theorem t_X12_broken_9 {p : Program} {l : Launch} {e : Env} {s : State} {m : MethodId} {args : Array Value} {below : List Frame} {meth : Method} {c : Code} {D : va_G} {cy : Nat → ClassId} {A : Nat → Prop} {a0 : Nat} {Q : Int32 → Sto → Prop} {L9 : Int32 × Int32 → Sto → Prop} (C : Cx p s m args meth c D cy A cX12_broken 5 RX12) (hr : meth.sig.returnType = (some .int)) (hnm : meth.name = yX12_broken.name) (hL9 : ∀ (t : Int32 × Int32) (σ : Sto), L9 t σ → ∀ ls : Array Slot, lv_has ls 5 [(0, .ref a0), (1, .int t.1), (2, .int t.2)] → Xw p l e rm_X12_broken s m args below meth c D cy A σ 0 0 (MQ below (Qst D cy A (PsI Q)) args s rm_X12_broken.cells rm_X12_broken.slots A) (F0 m 9 ls [])) : ∀ (t : Int32 × Int32) (σ : Sto), f_X12_broken_9 a0  Q L9 t σ → ∀ ls : Array Slot, lv_has ls 5 [(0, .ref a0), (1, .int t.1), (2, .int t.2)] → Xw p l e rm_X12_broken s m args below meth c D cy A σ 0 0 (MQ below (Qst D cy A (PsI Q)) args s rm_X12_broken.cells rm_X12_broken.slots A) (F0 m 9 ls []) := by
  intro t σ h ls hl
  unfold f_X12_broken_9 at h
  refine x_iload_n C dX12_broken_9 rfl (lv_at hl 2 rfl) ?_
  refine x_sipush (v := 200) C dX12_broken_10 (by decide) ?_
  refine x_icmp_ge (tgt := 82) C dX12_broken_13 (by decide) (fun c1 => ?_) (fun c1 => ?_)
  · have h := h.1 c1
    refine x_iload_n C dX12_broken_82 rfl (lv_at hl 1 rfl) ?_
    exact x_iret C hr dX12_broken_83 ⟨_, rfl, h⟩
  · have h := h.2 c1
    refine x_iload_n C dX12_broken_16 rfl (lv_at hl 2 rfl) ?_
    refine x_aload_n C dX12_broken_17 rfl (lv_at hl 0 rfl) ?_
    obtain ⟨g2, h⟩ := h
    refine x_getI C fl_RX12_449 g2 dX12_broken_18 ?_
    refine x_topi (fun x3 e4 => ?_)
    have h := h x3 e4
    refine x_icmp_ge (tgt := 82) C dX12_broken_21 (by decide) (fun c5 => ?_) (fun c5 => ?_)
    · have h := h.1 c5
      refine x_iload_n C dX12_broken_82 rfl (lv_at hl 1 rfl) ?_
      exact x_iret C hr dX12_broken_83 ⟨_, rfl, h⟩
    · have h := h.2 c5
      refine x_iconst (v := 0) C dX12_broken_24 (by decide) ?_
      refine x_istore_n (i := 3) (lv' := [(3, .int (0 : Int32)), (0, .ref a0), (1, .int t.1), (2, .int t.2)]) C dX12_broken_25 rfl hl (by decide) (by first | rfl | simp [vrc, cat_i, cat_r, cat_l]) (fun ls hl => ?_)
      refine x_iconst (v := 0) C dX12_broken_26 (by decide) ?_
      refine x_istore (i := 4) (lv' := [(4, .int (0 : Int32)), (3, .int (0 : Int32)), (0, .ref a0), (1, .int t.1), (2, .int t.2)]) C dX12_broken_27 hl (by decide) (by first | rfl | simp [vrc, cat_i, cat_r, cat_l]) (fun ls hl => ?_)
      exact h (fun t σ => ∀ ls : Array Slot, lv_has ls 5 [(0, .ref a0), (1, .int t.1), (2, .int t.2.1), (3, .int t.2.2.1), (4, .int t.2.2.2)] → Xw p l e rm_X12_broken s m args below meth c D cy A σ 0 0 (MQ below (Qst D cy A (PsI Q)) args s rm_X12_broken.cells rm_X12_broken.slots A) (F0 m 29 ls [])) (t_X12_broken_29 C hr hnm hL9 (fun t σ h => h)) ls (lv_sub hl [2, 3, 4, 1, 0] rfl)
def wp_X12_broken (a0 : Nat)  (σ : Sto) (Q : Int32 → Sto → Prop) : Prop := (sK σ a0 = 12 ∧ LF (f_X12_broken_9 a0  Q) ((0 : Int32), (0 : Int32)) (stI σ a0 0 (0 : Int32)))
set_option maxHeartbeats 4000000 in
set_option maxRecDepth 100000 in
theorem c_X12_broken (l : Launch) (D : va_G) (cy : Nat → ClassId) (a0 : Nat)  (σ : Sto) (Q : Int32 → Sto → Prop) (h : wp_X12_broken a0  σ Q) : Mt l D cy yX12_broken cX12_broken 5 (some .int) rm_X12_broken [.ref a0] σ (PsI Q) := by
  unfold wp_X12_broken at h
  refine mt_of (by decide +kernel) (Nat.le_of_ble_eq_true rfl) ?_
  intro p e s m args below meth c A ls C hr hnm hl
  have C : Cx p s m args meth c D cy A cX12_broken 5 RX12 := C
  have hl : lv_has ls 5 [(0, .ref a0)] := hl
  refine x_aload_n C dX12_broken_0 rfl (lv_at hl 0 rfl) ?_
  refine x_iconst (v := 0) C dX12_broken_1 (by decide) ?_
  obtain ⟨g1, h⟩ := h
  refine x_putI C fl_RX12_267 (Or.inl rfl) g1 dX12_broken_2 ?_
  refine x_iconst (v := 0) C dX12_broken_5 (by decide) ?_
  refine x_istore_n (i := 1) (lv' := [(1, .int (0 : Int32)), (0, .ref a0)]) C dX12_broken_6 rfl hl (by decide) (by first | rfl | simp [vrc, cat_i, cat_r, cat_l]) (fun ls hl => ?_)
  refine x_iconst (v := 0) C dX12_broken_7 (by decide) ?_
  refine x_istore_n (i := 2) (lv' := [(2, .int (0 : Int32)), (1, .int (0 : Int32)), (0, .ref a0)]) C dX12_broken_8 rfl hl (by decide) (by first | rfl | simp [vrc, cat_i, cat_r, cat_l]) (fun ls hl => ?_)
  exact h (fun t σ => ∀ ls : Array Slot, lv_has ls 5 [(0, .ref a0), (1, .int t.1), (2, .int t.2)] → Xw p l e rm_X12_broken s m args below meth c D cy A σ 0 0 (MQ below (Qst D cy A (PsI Q)) args s rm_X12_broken.cells rm_X12_broken.slots A) (F0 m 9 ls [])) (t_X12_broken_9 C hr hnm  (fun t σ h => h)) ls (lv_sub hl [2, 1, 0] rfl)
