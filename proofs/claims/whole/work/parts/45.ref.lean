theorem dX12_keepOwn_0 : decode cX12_keepOwn 0 = .ok (.bipush 7, 2) := by decide +kernel
theorem dX12_keepOwn_2 : decode cX12_keepOwn 2 = .ok (.iload_n 1, 1) := by decide +kernel
theorem dX12_keepOwn_3 : decode cX12_keepOwn 3 = .ok (.imul, 1) := by decide +kernel
theorem dX12_keepOwn_4 : decode cX12_keepOwn 4 = .ok (.iload_n 1, 1) := by decide +kernel
theorem dX12_keepOwn_5 : decode cX12_keepOwn 5 = .ok (.iadd, 1) := by decide +kernel
theorem dX12_keepOwn_6 : decode cX12_keepOwn 6 = .ok (.istore_n 2, 1) := by decide +kernel
theorem dX12_keepOwn_7 : decode cX12_keepOwn 7 = .ok (.aload_n 0, 1) := by decide +kernel
theorem dX12_keepOwn_8 : decode cX12_keepOwn 8 = .ok (.getfield 122, 3) := by decide +kernel
theorem dX12_keepOwn_11 : decode cX12_keepOwn 11 = .ok (.iload_n 2, 1) := by decide +kernel
theorem dX12_keepOwn_12 : decode cX12_keepOwn 12 = .ok (.aload_n 0, 1) := by decide +kernel
theorem dX12_keepOwn_13 : decode cX12_keepOwn 13 = .ok (.getfield 53, 3) := by decide +kernel
theorem dX12_keepOwn_16 : decode cX12_keepOwn 16 = .ok (.iload_n 1, 1) := by decide +kernel
theorem dX12_keepOwn_17 : decode cX12_keepOwn 17 = .ok (.iaload, 1) := by decide +kernel
theorem dX12_keepOwn_18 : decode cX12_keepOwn 18 = .ok (.iastore, 1) := by decide +kernel
theorem dX12_keepOwn_19 : decode cX12_keepOwn 19 = .ok (.aload_n 0, 1) := by decide +kernel
theorem dX12_keepOwn_20 : decode cX12_keepOwn 20 = .ok (.getfield 125, 3) := by decide +kernel
theorem dX12_keepOwn_23 : decode cX12_keepOwn 23 = .ok (.iload_n 2, 1) := by decide +kernel
theorem dX12_keepOwn_24 : decode cX12_keepOwn 24 = .ok (.aload_n 0, 1) := by decide +kernel
theorem dX12_keepOwn_25 : decode cX12_keepOwn 25 = .ok (.getfield 56, 3) := by decide +kernel
theorem dX12_keepOwn_28 : decode cX12_keepOwn 28 = .ok (.iload_n 1, 1) := by decide +kernel
theorem dX12_keepOwn_29 : decode cX12_keepOwn 29 = .ok (.iaload, 1) := by decide +kernel
theorem dX12_keepOwn_30 : decode cX12_keepOwn 30 = .ok (.iastore, 1) := by decide +kernel
theorem dX12_keepOwn_31 : decode cX12_keepOwn 31 = .ok (.aload_n 0, 1) := by decide +kernel
theorem dX12_keepOwn_32 : decode cX12_keepOwn 32 = .ok (.getfield 128, 3) := by decide +kernel
theorem dX12_keepOwn_35 : decode cX12_keepOwn 35 = .ok (.iload_n 2, 1) := by decide +kernel
theorem dX12_keepOwn_36 : decode cX12_keepOwn 36 = .ok (.aload_n 0, 1) := by decide +kernel
theorem dX12_keepOwn_37 : decode cX12_keepOwn 37 = .ok (.getfield 62, 3) := by decide +kernel
theorem dX12_keepOwn_40 : decode cX12_keepOwn 40 = .ok (.iload_n 1, 1) := by decide +kernel
theorem dX12_keepOwn_41 : decode cX12_keepOwn 41 = .ok (.iaload, 1) := by decide +kernel
theorem dX12_keepOwn_42 : decode cX12_keepOwn 42 = .ok (.iastore, 1) := by decide +kernel
theorem dX12_keepOwn_43 : decode cX12_keepOwn 43 = .ok (.aload_n 0, 1) := by decide +kernel
theorem dX12_keepOwn_44 : decode cX12_keepOwn 44 = .ok (.getfield 131, 3) := by decide +kernel
theorem dX12_keepOwn_47 : decode cX12_keepOwn 47 = .ok (.iload_n 2, 1) := by decide +kernel
theorem dX12_keepOwn_48 : decode cX12_keepOwn 48 = .ok (.aload_n 0, 1) := by decide +kernel
theorem dX12_keepOwn_49 : decode cX12_keepOwn 49 = .ok (.getfield 59, 3) := by decide +kernel
theorem dX12_keepOwn_52 : decode cX12_keepOwn 52 = .ok (.iload_n 1, 1) := by decide +kernel
theorem dX12_keepOwn_53 : decode cX12_keepOwn 53 = .ok (.iaload, 1) := by decide +kernel
theorem dX12_keepOwn_54 : decode cX12_keepOwn 54 = .ok (.iastore, 1) := by decide +kernel
theorem dX12_keepOwn_55 : decode cX12_keepOwn 55 = .ok (.iconst 0, 1) := by decide +kernel
theorem dX12_keepOwn_56 : decode cX12_keepOwn 56 = .ok (.istore_n 3, 1) := by decide +kernel
theorem dX12_keepOwn_57 : decode cX12_keepOwn 57 = .ok (.iload_n 3, 1) := by decide +kernel
theorem dX12_keepOwn_58 : decode cX12_keepOwn 58 = .ok (.aload_n 0, 1) := by decide +kernel
theorem dX12_keepOwn_59 : decode cX12_keepOwn 59 = .ok (.getfield 59, 3) := by decide +kernel
theorem dX12_keepOwn_62 : decode cX12_keepOwn 62 = .ok (.iload_n 1, 1) := by decide +kernel
theorem dX12_keepOwn_63 : decode cX12_keepOwn 63 = .ok (.iaload, 1) := by decide +kernel
theorem dX12_keepOwn_64 : decode cX12_keepOwn 64 = .ok (.if_icmp .ge 109, 3) := by decide +kernel
theorem dX12_keepOwn_67 : decode cX12_keepOwn 67 = .ok (.bipush 100, 2) := by decide +kernel
theorem dX12_keepOwn_69 : decode cX12_keepOwn 69 = .ok (.iload_n 2, 1) := by decide +kernel
theorem dX12_keepOwn_70 : decode cX12_keepOwn 70 = .ok (.imul, 1) := by decide +kernel
theorem dX12_keepOwn_71 : decode cX12_keepOwn 71 = .ok (.iload_n 3, 1) := by decide +kernel
theorem dX12_keepOwn_72 : decode cX12_keepOwn 72 = .ok (.iadd, 1) := by decide +kernel
theorem dX12_keepOwn_73 : decode cX12_keepOwn 73 = .ok (.istore 4, 2) := by decide +kernel
theorem dX12_keepOwn_75 : decode cX12_keepOwn 75 = .ok (.bipush 100, 2) := by decide +kernel
theorem dX12_keepOwn_77 : decode cX12_keepOwn 77 = .ok (.iload_n 1, 1) := by decide +kernel
theorem dX12_keepOwn_78 : decode cX12_keepOwn 78 = .ok (.imul, 1) := by decide +kernel
theorem dX12_keepOwn_79 : decode cX12_keepOwn 79 = .ok (.iload_n 3, 1) := by decide +kernel
theorem dX12_keepOwn_80 : decode cX12_keepOwn 80 = .ok (.iadd, 1) := by decide +kernel
theorem dX12_keepOwn_81 : decode cX12_keepOwn 81 = .ok (.istore 5, 2) := by decide +kernel
theorem dX12_keepOwn_83 : decode cX12_keepOwn 83 = .ok (.aload_n 0, 1) := by decide +kernel
theorem dX12_keepOwn_84 : decode cX12_keepOwn 84 = .ok (.getfield 134, 3) := by decide +kernel
theorem dX12_keepOwn_87 : decode cX12_keepOwn 87 = .ok (.iload 4, 2) := by decide +kernel
theorem dX12_keepOwn_89 : decode cX12_keepOwn 89 = .ok (.aload_n 0, 1) := by decide +kernel
theorem dX12_keepOwn_90 : decode cX12_keepOwn 90 = .ok (.getfield 71, 3) := by decide +kernel
theorem dX12_keepOwn_93 : decode cX12_keepOwn 93 = .ok (.iload 5, 2) := by decide +kernel
theorem dX12_keepOwn_95 : decode cX12_keepOwn 95 = .ok (.baload, 1) := by decide +kernel
theorem dX12_keepOwn_96 : decode cX12_keepOwn 96 = .ok (.bastore, 1) := by decide +kernel
theorem dX12_keepOwn_97 : decode cX12_keepOwn 97 = .ok (.aload_n 0, 1) := by decide +kernel
theorem dX12_keepOwn_98 : decode cX12_keepOwn 98 = .ok (.getfield 137, 3) := by decide +kernel
theorem dX12_keepOwn_101 : decode cX12_keepOwn 101 = .ok (.iload 4, 2) := by decide +kernel
theorem dX12_keepOwn_103 : decode cX12_keepOwn 103 = .ok (.aload_n 0, 1) := by decide +kernel
theorem dX12_keepOwn_104 : decode cX12_keepOwn 104 = .ok (.getfield 74, 3) := by decide +kernel
theorem dX12_keepOwn_107 : decode cX12_keepOwn 107 = .ok (.iload 5, 2) := by decide +kernel
theorem dX12_keepOwn_109 : decode cX12_keepOwn 109 = .ok (.iaload, 1) := by decide +kernel
theorem dX12_keepOwn_110 : decode cX12_keepOwn 110 = .ok (.iastore, 1) := by decide +kernel
theorem dX12_keepOwn_111 : decode cX12_keepOwn 111 = .ok (.aload_n 0, 1) := by decide +kernel
theorem dX12_keepOwn_112 : decode cX12_keepOwn 112 = .ok (.getfield 140, 3) := by decide +kernel
theorem dX12_keepOwn_115 : decode cX12_keepOwn 115 = .ok (.iload 4, 2) := by decide +kernel
theorem dX12_keepOwn_117 : decode cX12_keepOwn 117 = .ok (.aload_n 0, 1) := by decide +kernel
theorem dX12_keepOwn_118 : decode cX12_keepOwn 118 = .ok (.getfield 77, 3) := by decide +kernel
theorem dX12_keepOwn_121 : decode cX12_keepOwn 121 = .ok (.iload 5, 2) := by decide +kernel
theorem dX12_keepOwn_123 : decode cX12_keepOwn 123 = .ok (.iaload, 1) := by decide +kernel
theorem dX12_keepOwn_124 : decode cX12_keepOwn 124 = .ok (.iastore, 1) := by decide +kernel
theorem dX12_keepOwn_125 : decode cX12_keepOwn 125 = .ok (.aload_n 0, 1) := by decide +kernel
theorem dX12_keepOwn_126 : decode cX12_keepOwn 126 = .ok (.getfield 143, 3) := by decide +kernel
theorem dX12_keepOwn_129 : decode cX12_keepOwn 129 = .ok (.iload 4, 2) := by decide +kernel
theorem dX12_keepOwn_131 : decode cX12_keepOwn 131 = .ok (.aload_n 0, 1) := by decide +kernel
theorem dX12_keepOwn_132 : decode cX12_keepOwn 132 = .ok (.getfield 80, 3) := by decide +kernel
theorem dX12_keepOwn_135 : decode cX12_keepOwn 135 = .ok (.iload 5, 2) := by decide +kernel
theorem dX12_keepOwn_137 : decode cX12_keepOwn 137 = .ok (.iaload, 1) := by decide +kernel
theorem dX12_keepOwn_138 : decode cX12_keepOwn 138 = .ok (.iastore, 1) := by decide +kernel
theorem dX12_keepOwn_139 : decode cX12_keepOwn 139 = .ok (.aload_n 0, 1) := by decide +kernel
theorem dX12_keepOwn_140 : decode cX12_keepOwn 140 = .ok (.getfield 146, 3) := by decide +kernel
theorem dX12_keepOwn_143 : decode cX12_keepOwn 143 = .ok (.iload 4, 2) := by decide +kernel
theorem dX12_keepOwn_145 : decode cX12_keepOwn 145 = .ok (.aload_n 0, 1) := by decide +kernel
theorem dX12_keepOwn_146 : decode cX12_keepOwn 146 = .ok (.getfield 83, 3) := by decide +kernel
theorem dX12_keepOwn_149 : decode cX12_keepOwn 149 = .ok (.iload 5, 2) := by decide +kernel
theorem dX12_keepOwn_151 : decode cX12_keepOwn 151 = .ok (.iaload, 1) := by decide +kernel
theorem dX12_keepOwn_152 : decode cX12_keepOwn 152 = .ok (.iastore, 1) := by decide +kernel
theorem dX12_keepOwn_153 : decode cX12_keepOwn 153 = .ok (.aload_n 0, 1) := by decide +kernel
theorem dX12_keepOwn_154 : decode cX12_keepOwn 154 = .ok (.getfield 149, 3) := by decide +kernel
theorem dX12_keepOwn_157 : decode cX12_keepOwn 157 = .ok (.iload 4, 2) := by decide +kernel
theorem dX12_keepOwn_159 : decode cX12_keepOwn 159 = .ok (.aload_n 0, 1) := by decide +kernel
theorem dX12_keepOwn_160 : decode cX12_keepOwn 160 = .ok (.getfield 86, 3) := by decide +kernel
theorem dX12_keepOwn_163 : decode cX12_keepOwn 163 = .ok (.iload 5, 2) := by decide +kernel
theorem dX12_keepOwn_165 : decode cX12_keepOwn 165 = .ok (.iaload, 1) := by decide +kernel
theorem dX12_keepOwn_166 : decode cX12_keepOwn 166 = .ok (.iastore, 1) := by decide +kernel
theorem dX12_keepOwn_167 : decode cX12_keepOwn 167 = .ok (.iinc 3 1, 3) := by decide +kernel
theorem dX12_keepOwn_170 : decode cX12_keepOwn 170 = .ok (.goto (-113), 3) := by decide +kernel
theorem dX12_keepOwn_173 : decode cX12_keepOwn 173 = .ok (.return_, 1) := by decide +kernel
abbrev rm_X12_keepOwn : Room := { frames := 0, cells := 0, slots := 0, locals := 0 }
def f_X12_keepOwn_57 (a0 : Nat)  (Q : Sto → Prop) (L57 : Int32 × Int32 × Int32 → Sto → Prop) (t : Int32 × Int32 × Int32) (σ : Sto) : Prop := (sK σ a0 = 12 ∧ (∃ b2 : Nat, sP σ a0 26 = some b2 ∧ (sK σ b2 = 14 ∧ (vp_in t.1 (sN σ b2) ∧ (∀ x6 : Int32, x6 = sI σ b2 t.1.toNatClampNeg → ((x6 ≤ t.2.2 → Q σ) ∧ (¬ x6 ≤ t.2.2 → (∀ x9 : Int32, x9 = ((100 : Int32) * t.2.1) + t.2.2 → (∀ x11 : Int32, x11 = ((100 : Int32) * t.1) + t.2.2 → (∃ b13 : Nat, sP σ a0 30 = some b13 ∧ (sK σ b13 = 16 ∧ (vp_in x11 (sN σ b13) ∧ (∀ x17 : Int32, x17 = sI σ b13 x11.toNatClampNeg → (∃ b19 : Nat, sP σ a0 51 = some b19 ∧ (sK σ b19 = 16 ∧ (vp_in x9 (sN σ b19) ∧ (∃ b23 : Nat, sP σ a0 31 = some b23 ∧ (sK σ b23 = 14 ∧ (vp_in x11 (sN σ b23) ∧ (∀ x27 : Int32, x27 = sI (stI σ b19 x9.toNatClampNeg (vp_nar .boolean x17)) b23 x11.toNatClampNeg → (∃ b29 : Nat, sP σ a0 52 = some b29 ∧ (sK σ b29 = 14 ∧ (vp_in x9 (sN σ b29) ∧ (∃ b33 : Nat, sP σ a0 32 = some b33 ∧ (sK σ b33 = 14 ∧ (vp_in x11 (sN σ b33) ∧ (∀ x37 : Int32, x37 = sI (stI (stI σ b19 x9.toNatClampNeg (vp_nar .boolean x17)) b29 x9.toNatClampNeg x27) b33 x11.toNatClampNeg → (∃ b39 : Nat, sP σ a0 53 = some b39 ∧ (sK σ b39 = 14 ∧ (vp_in x9 (sN σ b39) ∧ (∃ b43 : Nat, sP σ a0 33 = some b43 ∧ (sK σ b43 = 14 ∧ (vp_in x11 (sN σ b43) ∧ (∀ x47 : Int32, x47 = sI (stI (stI (stI σ b19 x9.toNatClampNeg (vp_nar .boolean x17)) b29 x9.toNatClampNeg x27) b39 x9.toNatClampNeg x37) b43 x11.toNatClampNeg → (∃ b49 : Nat, sP σ a0 54 = some b49 ∧ (sK σ b49 = 14 ∧ (vp_in x9 (sN σ b49) ∧ (∃ b53 : Nat, sP σ a0 34 = some b53 ∧ (sK σ b53 = 14 ∧ (vp_in x11 (sN σ b53) ∧ (∀ x57 : Int32, x57 = sI (stI (stI (stI (stI σ b19 x9.toNatClampNeg (vp_nar .boolean x17)) b29 x9.toNatClampNeg x27) b39 x9.toNatClampNeg x37) b49 x9.toNatClampNeg x47) b53 x11.toNatClampNeg → (∃ b59 : Nat, sP σ a0 55 = some b59 ∧ (sK σ b59 = 14 ∧ (vp_in x9 (sN σ b59) ∧ (∃ b63 : Nat, sP σ a0 35 = some b63 ∧ (sK σ b63 = 14 ∧ (vp_in x11 (sN σ b63) ∧ (∀ x67 : Int32, x67 = sI (stI (stI (stI (stI (stI σ b19 x9.toNatClampNeg (vp_nar .boolean x17)) b29 x9.toNatClampNeg x27) b39 x9.toNatClampNeg x37) b49 x9.toNatClampNeg x47) b59 x9.toNatClampNeg x57) b63 x11.toNatClampNeg → (∃ b69 : Nat, sP σ a0 56 = some b69 ∧ (sK σ b69 = 14 ∧ (vp_in x9 (sN σ b69) ∧ (∀ x73 : Int32, x73 = t.2.2 + (1 : Int32) → L57 (t.1, t.2.1, x73) (stI (stI (stI (stI (stI (stI σ b19 x9.toNatClampNeg (vp_nar .boolean x17)) b29 x9.toNatClampNeg x27) b39 x9.toNatClampNeg x37) b49 x9.toNatClampNeg x47) b59 x9.toNatClampNeg x57) b69 x9.toNatClampNeg x67)))))))))))))))))))))))))))))))))))))))))))))))))))))
set_option maxHeartbeats 4000000 in
set_option maxRecDepth 100000 in
theorem t_X12_keepOwn_57 {p : Program} {l : Launch} {e : Env} {s : State} {m : MethodId} {args : Array Value} {below : List Frame} {meth : Method} {c : Code} {D : va_G} {cy : Nat → ClassId} {A : Nat → Prop} {a0 : Nat} {Q : Sto → Prop} {L57 : Int32 × Int32 × Int32 → Sto → Prop} (C : Cx p s m args meth c D cy A cX12_keepOwn 6 RX12) (hr : meth.sig.returnType = none) (hnm : meth.name = yX12_keepOwn.name) (hL57 : ∀ (t : Int32 × Int32 × Int32) (σ : Sto), L57 t σ → ∀ ls : Array Slot, lv_has ls 6 [(0, .ref a0), (1, .int t.1), (2, .int t.2.1), (3, .int t.2.2)] → Xw p l e rm_X12_keepOwn s m args below meth c D cy A σ 0 0 (MQ below (Qst D cy A (PsV Q)) args s rm_X12_keepOwn.cells rm_X12_keepOwn.slots A) (F0 m 57 ls [])) : ∀ (t : Int32 × Int32 × Int32) (σ : Sto), f_X12_keepOwn_57 a0  Q L57 t σ → ∀ ls : Array Slot, lv_has ls 6 [(0, .ref a0), (1, .int t.1), (2, .int t.2.1), (3, .int t.2.2)] → Xw p l e rm_X12_keepOwn s m args below meth c D cy A σ 0 0 (MQ below (Qst D cy A (PsV Q)) args s rm_X12_keepOwn.cells rm_X12_keepOwn.slots A) (F0 m 57 ls []) := by
  intro t σ h ls hl
  unfold f_X12_keepOwn_57 at h
  refine x_iload_n C dX12_keepOwn_57 rfl (lv_at hl 3 rfl) ?_
  refine x_aload_n C dX12_keepOwn_58 rfl (lv_at hl 0 rfl) ?_
  obtain ⟨g1, h⟩ := h
  refine x_getP C fl_RX12_59 g1 dX12_keepOwn_59 ?_
  refine x_iload_n C dX12_keepOwn_62 rfl (lv_at hl 1 rfl) ?_
  obtain ⟨b2, g3, h⟩ := h
  refine x_nn1 g3 ?_
  obtain ⟨g4, h⟩ := h
  obtain ⟨g5, h⟩ := h
  refine x_iald C g4 g5 dX12_keepOwn_63 ?_
  refine x_topi (fun x6 e7 => ?_)
  have h := h x6 e7
  refine x_icmp_ge (tgt := 173) C dX12_keepOwn_64 (by decide) (fun c8 => ?_) (fun c8 => ?_)
  · have h := h.1 c8
    exact x_vret C hr dX12_keepOwn_173 ⟨rfl, h⟩
  · have h := h.2 c8
    refine x_bipush (v := 100) C dX12_keepOwn_67 (by decide) ?_
    refine x_iload_n C dX12_keepOwn_69 rfl (lv_at hl 2 rfl) ?_
    refine x_imul C dX12_keepOwn_70 ?_
    refine x_iload_n C dX12_keepOwn_71 rfl (lv_at hl 3 rfl) ?_
    refine x_iadd C dX12_keepOwn_72 ?_
    refine x_topi (fun x9 e10 => ?_)
    have h := h x9 e10
    refine x_istore (i := 4) (lv' := [(4, .int x9), (0, .ref a0), (1, .int t.1), (2, .int t.2.1), (3, .int t.2.2)]) C dX12_keepOwn_73 hl (by decide) (by first | rfl | simp [vrc, cat_i, cat_r, cat_l]) (fun ls hl => ?_)
    refine x_bipush (v := 100) C dX12_keepOwn_75 (by decide) ?_
    refine x_iload_n C dX12_keepOwn_77 rfl (lv_at hl 2 rfl) ?_
    refine x_imul C dX12_keepOwn_78 ?_
    refine x_iload_n C dX12_keepOwn_79 rfl (lv_at hl 4 rfl) ?_
    refine x_iadd C dX12_keepOwn_80 ?_
    refine x_topi (fun x11 e12 => ?_)
    have h := h x11 e12
    refine x_istore (i := 5) (lv' := [(5, .int x11), (4, .int x9), (0, .ref a0), (1, .int t.1), (2, .int t.2.1), (3, .int t.2.2)]) C dX12_keepOwn_81 hl (by decide) (by first | rfl | simp [vrc, cat_i, cat_r, cat_l]) (fun ls hl => ?_)
    refine x_aload_n C dX12_keepOwn_83 rfl (lv_at hl 2 rfl) ?_
    refine x_getP C fl_RX12_134 g1 dX12_keepOwn_84 ?_
    refine x_iload C dX12_keepOwn_87 (lv_at hl 1 rfl) ?_
    refine x_aload_n C dX12_keepOwn_89 rfl (lv_at hl 2 rfl) ?_
    refine x_getP C fl_RX12_71 g1 dX12_keepOwn_90 ?_
    refine x_iload C dX12_keepOwn_93 (lv_at hl 0 rfl) ?_
    obtain ⟨b13, g14, h⟩ := h
    refine x_nn1 g14 ?_
    obtain ⟨g15, h⟩ := h
    obtain ⟨g16, h⟩ := h
    refine x_zald C g15 g16 dX12_keepOwn_95 ?_
    refine x_topi (fun x17 e18 => ?_)
    have h := h x17 e18
    obtain ⟨b19, g20, h⟩ := h
    refine x_nn2 g20 ?_
    obtain ⟨g21, h⟩ := h
    obtain ⟨g22, h⟩ := h
    refine x_zast C g21 g22 dX12_keepOwn_96 ?_
    refine x_aload_n C dX12_keepOwn_97 rfl (lv_at hl 2 rfl) ?_
    refine x_getP C fl_RX12_137 g1 dX12_keepOwn_98 ?_
    refine x_iload C dX12_keepOwn_101 (lv_at hl 1 rfl) ?_
    refine x_aload_n C dX12_keepOwn_103 rfl (lv_at hl 2 rfl) ?_
    refine x_getP C fl_RX12_74 g1 dX12_keepOwn_104 ?_
    refine x_iload C dX12_keepOwn_107 (lv_at hl 0 rfl) ?_
    obtain ⟨b23, g24, h⟩ := h
    refine x_nn1 g24 ?_
    obtain ⟨g25, h⟩ := h
    obtain ⟨g26, h⟩ := h
    refine x_iald C g25 g26 dX12_keepOwn_109 ?_
    refine x_topi (fun x27 e28 => ?_)
    have h := h x27 e28
    obtain ⟨b29, g30, h⟩ := h
    refine x_nn2 g30 ?_
    obtain ⟨g31, h⟩ := h
    obtain ⟨g32, h⟩ := h
    refine x_iast C g31 g32 dX12_keepOwn_110 ?_
    refine x_aload_n C dX12_keepOwn_111 rfl (lv_at hl 2 rfl) ?_
    refine x_getP C fl_RX12_140 g1 dX12_keepOwn_112 ?_
    refine x_iload C dX12_keepOwn_115 (lv_at hl 1 rfl) ?_
    refine x_aload_n C dX12_keepOwn_117 rfl (lv_at hl 2 rfl) ?_
    refine x_getP C fl_RX12_77 g1 dX12_keepOwn_118 ?_
    refine x_iload C dX12_keepOwn_121 (lv_at hl 0 rfl) ?_
    obtain ⟨b33, g34, h⟩ := h
    refine x_nn1 g34 ?_
    obtain ⟨g35, h⟩ := h
    obtain ⟨g36, h⟩ := h
    refine x_iald C g35 g36 dX12_keepOwn_123 ?_
    refine x_topi (fun x37 e38 => ?_)
    have h := h x37 e38
    obtain ⟨b39, g40, h⟩ := h
    refine x_nn2 g40 ?_
    obtain ⟨g41, h⟩ := h
    obtain ⟨g42, h⟩ := h
    refine x_iast C g41 g42 dX12_keepOwn_124 ?_
    refine x_aload_n C dX12_keepOwn_125 rfl (lv_at hl 2 rfl) ?_
    refine x_getP C fl_RX12_143 g1 dX12_keepOwn_126 ?_
    refine x_iload C dX12_keepOwn_129 (lv_at hl 1 rfl) ?_
    refine x_aload_n C dX12_keepOwn_131 rfl (lv_at hl 2 rfl) ?_
    refine x_getP C fl_RX12_80 g1 dX12_keepOwn_132 ?_
    refine x_iload C dX12_keepOwn_135 (lv_at hl 0 rfl) ?_
    obtain ⟨b43, g44, h⟩ := h
    refine x_nn1 g44 ?_
    obtain ⟨g45, h⟩ := h
    obtain ⟨g46, h⟩ := h
    refine x_iald C g45 g46 dX12_keepOwn_137 ?_
    refine x_topi (fun x47 e48 => ?_)
    have h := h x47 e48
    obtain ⟨b49, g50, h⟩ := h
    refine x_nn2 g50 ?_
    obtain ⟨g51, h⟩ := h
    obtain ⟨g52, h⟩ := h
    refine x_iast C g51 g52 dX12_keepOwn_138 ?_
    refine x_aload_n C dX12_keepOwn_139 rfl (lv_at hl 2 rfl) ?_
    refine x_getP C fl_RX12_146 g1 dX12_keepOwn_140 ?_
    refine x_iload C dX12_keepOwn_143 (lv_at hl 1 rfl) ?_
    refine x_aload_n C dX12_keepOwn_145 rfl (lv_at hl 2 rfl) ?_
    refine x_getP C fl_RX12_83 g1 dX12_keepOwn_146 ?_
    refine x_iload C dX12_keepOwn_149 (lv_at hl 0 rfl) ?_
    obtain ⟨b53, g54, h⟩ := h
    refine x_nn1 g54 ?_
    obtain ⟨g55, h⟩ := h
    obtain ⟨g56, h⟩ := h
    refine x_iald C g55 g56 dX12_keepOwn_151 ?_
    refine x_topi (fun x57 e58 => ?_)
    have h := h x57 e58
    obtain ⟨b59, g60, h⟩ := h
    refine x_nn2 g60 ?_
    obtain ⟨g61, h⟩ := h
    obtain ⟨g62, h⟩ := h
    refine x_iast C g61 g62 dX12_keepOwn_152 ?_
    refine x_aload_n C dX12_keepOwn_153 rfl (lv_at hl 2 rfl) ?_
    refine x_getP C fl_RX12_149 g1 dX12_keepOwn_154 ?_
    refine x_iload C dX12_keepOwn_157 (lv_at hl 1 rfl) ?_
    refine x_aload_n C dX12_keepOwn_159 rfl (lv_at hl 2 rfl) ?_
    refine x_getP C fl_RX12_86 g1 dX12_keepOwn_160 ?_
    refine x_iload C dX12_keepOwn_163 (lv_at hl 0 rfl) ?_
    obtain ⟨b63, g64, h⟩ := h
    refine x_nn1 g64 ?_
    obtain ⟨g65, h⟩ := h
    obtain ⟨g66, h⟩ := h
    refine x_iald C g65 g66 dX12_keepOwn_165 ?_
    refine x_topi (fun x67 e68 => ?_)
    have h := h x67 e68
    obtain ⟨b69, g70, h⟩ := h
    refine x_nn2 g70 ?_
    obtain ⟨g71, h⟩ := h
    obtain ⟨g72, h⟩ := h
    refine x_iast C g71 g72 dX12_keepOwn_166 ?_
    obtain ⟨x73, e74⟩ : ∃ z : Int32, z = t.2.2 + (1 : Int32) := ⟨_, rfl⟩
    have h := h x73 e74
    refine x_iinc (v := x73) (lv' := [(3, .int x73), (5, .int x11), (4, .int x9), (0, .ref a0), (1, .int t.1), (2, .int t.2.1)]) C dX12_keepOwn_167 hl (q0 := 5) rfl (by rw [e74]; rfl) (by decide) (by first | rfl | simp [vrc, cat_i, cat_r, cat_l]) (fun ls hl => ?_)
    refine x_goto (tgt := 57) C dX12_keepOwn_170 (by decide) ?_
    exact hL57 (t.1, t.2.1, x73) _ h ls (lv_sub hl [3, 4, 5, 0] rfl)
def wp_X12_keepOwn (a0 : Nat) (p1 : Int32) (σ : Sto) (Q : Sto → Prop) : Prop := (∀ x1 : Int32, x1 = ((7 : Int32) * p1) + p1 → (sK σ a0 = 12 ∧ (∃ b4 : Nat, sP σ a0 24 = some b4 ∧ (sK σ b4 = 14 ∧ (vp_in p1 (sN σ b4) ∧ (∀ x8 : Int32, x8 = sI σ b4 p1.toNatClampNeg → (∃ b10 : Nat, sP σ a0 47 = some b10 ∧ (sK σ b10 = 14 ∧ (vp_in x1 (sN σ b10) ∧ (∃ b14 : Nat, sP σ a0 25 = some b14 ∧ (sK σ b14 = 14 ∧ (vp_in p1 (sN σ b14) ∧ (∀ x18 : Int32, x18 = sI (stI σ b10 x1.toNatClampNeg x8) b14 p1.toNatClampNeg → (∃ b20 : Nat, sP σ a0 48 = some b20 ∧ (sK σ b20 = 14 ∧ (vp_in x1 (sN σ b20) ∧ (∃ b24 : Nat, sP σ a0 27 = some b24 ∧ (sK σ b24 = 14 ∧ (vp_in p1 (sN σ b24) ∧ (∀ x28 : Int32, x28 = sI (stI (stI σ b10 x1.toNatClampNeg x8) b20 x1.toNatClampNeg x18) b24 p1.toNatClampNeg → (∃ b30 : Nat, sP σ a0 49 = some b30 ∧ (sK σ b30 = 14 ∧ (vp_in x1 (sN σ b30) ∧ (∃ b34 : Nat, sP σ a0 26 = some b34 ∧ (sK σ b34 = 14 ∧ (vp_in p1 (sN σ b34) ∧ (∀ x38 : Int32, x38 = sI (stI (stI (stI σ b10 x1.toNatClampNeg x8) b20 x1.toNatClampNeg x18) b30 x1.toNatClampNeg x28) b34 p1.toNatClampNeg → (∃ b40 : Nat, sP σ a0 50 = some b40 ∧ (sK σ b40 = 14 ∧ (vp_in x1 (sN σ b40) ∧ LF (f_X12_keepOwn_57 a0  Q) (p1, x1, (0 : Int32)) (stI (stI (stI (stI σ b10 x1.toNatClampNeg x8) b20 x1.toNatClampNeg x18) b30 x1.toNatClampNeg x28) b40 x1.toNatClampNeg x38)))))))))))))))))))))))))))))))
set_option maxHeartbeats 4000000 in
set_option maxRecDepth 100000 in
theorem c_X12_keepOwn (l : Launch) (D : va_G) (cy : Nat → ClassId) (a0 : Nat) (p1 : Int32) (σ : Sto) (Q : Sto → Prop) (h : wp_X12_keepOwn a0 p1 σ Q) : Mt l D cy yX12_keepOwn cX12_keepOwn 6 none rm_X12_keepOwn [.ref a0, .int p1] σ (PsV Q) := by
  unfold wp_X12_keepOwn at h
  refine mt_of (by decide +kernel) (Nat.le_of_ble_eq_true rfl) ?_
  intro p e s m args below meth c A ls C hr hnm hl
  have C : Cx p s m args meth c D cy A cX12_keepOwn 6 RX12 := C
  have hl : lv_has ls 6 [(0, .ref a0), (1, .int p1)] := hl
  refine x_bipush (v := 7) C dX12_keepOwn_0 (by decide) ?_
  refine x_iload_n C dX12_keepOwn_2 rfl (lv_at hl 1 rfl) ?_
  refine x_imul C dX12_keepOwn_3 ?_
  refine x_iload_n C dX12_keepOwn_4 rfl (lv_at hl 1 rfl) ?_
  refine x_iadd C dX12_keepOwn_5 ?_
  refine x_topi (fun x1 e2 => ?_)
  have h := h x1 e2
  refine x_istore_n (i := 2) (lv' := [(2, .int x1), (0, .ref a0), (1, .int p1)]) C dX12_keepOwn_6 rfl hl (by decide) (by first | rfl | simp [vrc, cat_i, cat_r, cat_l]) (fun ls hl => ?_)
  refine x_aload_n C dX12_keepOwn_7 rfl (lv_at hl 1 rfl) ?_
  obtain ⟨g3, h⟩ := h
  refine x_getP C fl_RX12_122 g3 dX12_keepOwn_8 ?_
  refine x_iload_n C dX12_keepOwn_11 rfl (lv_at hl 0 rfl) ?_
  refine x_aload_n C dX12_keepOwn_12 rfl (lv_at hl 1 rfl) ?_
  refine x_getP C fl_RX12_53 g3 dX12_keepOwn_13 ?_
  refine x_iload_n C dX12_keepOwn_16 rfl (lv_at hl 2 rfl) ?_
  obtain ⟨b4, g5, h⟩ := h
  refine x_nn1 g5 ?_
  obtain ⟨g6, h⟩ := h
  obtain ⟨g7, h⟩ := h
  refine x_iald C g6 g7 dX12_keepOwn_17 ?_
  refine x_topi (fun x8 e9 => ?_)
  have h := h x8 e9
  obtain ⟨b10, g11, h⟩ := h
  refine x_nn2 g11 ?_
  obtain ⟨g12, h⟩ := h
  obtain ⟨g13, h⟩ := h
  refine x_iast C g12 g13 dX12_keepOwn_18 ?_
  refine x_aload_n C dX12_keepOwn_19 rfl (lv_at hl 1 rfl) ?_
  refine x_getP C fl_RX12_125 g3 dX12_keepOwn_20 ?_
  refine x_iload_n C dX12_keepOwn_23 rfl (lv_at hl 0 rfl) ?_
  refine x_aload_n C dX12_keepOwn_24 rfl (lv_at hl 1 rfl) ?_
  refine x_getP C fl_RX12_56 g3 dX12_keepOwn_25 ?_
  refine x_iload_n C dX12_keepOwn_28 rfl (lv_at hl 2 rfl) ?_
  obtain ⟨b14, g15, h⟩ := h
  refine x_nn1 g15 ?_
  obtain ⟨g16, h⟩ := h
  obtain ⟨g17, h⟩ := h
  refine x_iald C g16 g17 dX12_keepOwn_29 ?_
  refine x_topi (fun x18 e19 => ?_)
  have h := h x18 e19
  obtain ⟨b20, g21, h⟩ := h
  refine x_nn2 g21 ?_
  obtain ⟨g22, h⟩ := h
  obtain ⟨g23, h⟩ := h
  refine x_iast C g22 g23 dX12_keepOwn_30 ?_
  refine x_aload_n C dX12_keepOwn_31 rfl (lv_at hl 1 rfl) ?_
  refine x_getP C fl_RX12_128 g3 dX12_keepOwn_32 ?_
  refine x_iload_n C dX12_keepOwn_35 rfl (lv_at hl 0 rfl) ?_
  refine x_aload_n C dX12_keepOwn_36 rfl (lv_at hl 1 rfl) ?_
  refine x_getP C fl_RX12_62 g3 dX12_keepOwn_37 ?_
  refine x_iload_n C dX12_keepOwn_40 rfl (lv_at hl 2 rfl) ?_
  obtain ⟨b24, g25, h⟩ := h
  refine x_nn1 g25 ?_
  obtain ⟨g26, h⟩ := h
  obtain ⟨g27, h⟩ := h
  refine x_iald C g26 g27 dX12_keepOwn_41 ?_
  refine x_topi (fun x28 e29 => ?_)
  have h := h x28 e29
  obtain ⟨b30, g31, h⟩ := h
  refine x_nn2 g31 ?_
  obtain ⟨g32, h⟩ := h
  obtain ⟨g33, h⟩ := h
  refine x_iast C g32 g33 dX12_keepOwn_42 ?_
  refine x_aload_n C dX12_keepOwn_43 rfl (lv_at hl 1 rfl) ?_
  refine x_getP C fl_RX12_131 g3 dX12_keepOwn_44 ?_
  refine x_iload_n C dX12_keepOwn_47 rfl (lv_at hl 0 rfl) ?_
  refine x_aload_n C dX12_keepOwn_48 rfl (lv_at hl 1 rfl) ?_
  refine x_getP C fl_RX12_59 g3 dX12_keepOwn_49 ?_
  refine x_iload_n C dX12_keepOwn_52 rfl (lv_at hl 2 rfl) ?_
  obtain ⟨b34, g35, h⟩ := h
  refine x_nn1 g35 ?_
  obtain ⟨g36, h⟩ := h
  obtain ⟨g37, h⟩ := h
  refine x_iald C g36 g37 dX12_keepOwn_53 ?_
  refine x_topi (fun x38 e39 => ?_)
  have h := h x38 e39
  obtain ⟨b40, g41, h⟩ := h
  refine x_nn2 g41 ?_
  obtain ⟨g42, h⟩ := h
  obtain ⟨g43, h⟩ := h
  refine x_iast C g42 g43 dX12_keepOwn_54 ?_
  refine x_iconst (v := 0) C dX12_keepOwn_55 (by decide) ?_
  refine x_istore_n (i := 3) (lv' := [(3, .int (0 : Int32)), (2, .int x1), (0, .ref a0), (1, .int p1)]) C dX12_keepOwn_56 rfl hl (by decide) (by first | rfl | simp [vrc, cat_i, cat_r, cat_l]) (fun ls hl => ?_)
  exact h (fun t σ => ∀ ls : Array Slot, lv_has ls 6 [(0, .ref a0), (1, .int t.1), (2, .int t.2.1), (3, .int t.2.2)] → Xw p l e rm_X12_keepOwn s m args below meth c D cy A σ 0 0 (MQ below (Qst D cy A (PsV Q)) args s rm_X12_keepOwn.cells rm_X12_keepOwn.slots A) (F0 m 57 ls [])) (t_X12_keepOwn_57 C hr hnm  (fun t σ h => h)) ls (lv_sub hl [2, 3, 1, 0] rfl)
theorem dX12_findBest_0 : decode cX12_findBest 0 = .ok (.aload_n 0, 1) := by decide +kernel
theorem dX12_findBest_1 : decode cX12_findBest 1 = .ok (.aload_n 0, 1) := by decide +kernel
theorem dX12_findBest_2 : decode cX12_findBest 2 = .ok (.getfield 53, 3) := by decide +kernel
theorem dX12_findBest_5 : decode cX12_findBest 5 = .ok (.iload_n 1, 1) := by decide +kernel
theorem dX12_findBest_6 : decode cX12_findBest 6 = .ok (.iaload, 1) := by decide +kernel
theorem dX12_findBest_7 : decode cX12_findBest 7 = .ok (.putfield 368, 3) := by decide +kernel
theorem dX12_findBest_10 : decode cX12_findBest 10 = .ok (.aload_n 0, 1) := by decide +kernel
theorem dX12_findBest_11 : decode cX12_findBest 11 = .ok (.aload_n 0, 1) := by decide +kernel
theorem dX12_findBest_12 : decode cX12_findBest 12 = .ok (.getfield 56, 3) := by decide +kernel
theorem dX12_findBest_15 : decode cX12_findBest 15 = .ok (.iload_n 1, 1) := by decide +kernel
theorem dX12_findBest_16 : decode cX12_findBest 16 = .ok (.iaload, 1) := by decide +kernel
theorem dX12_findBest_17 : decode cX12_findBest 17 = .ok (.putfield 371, 3) := by decide +kernel
theorem dX12_findBest_20 : decode cX12_findBest 20 = .ok (.iconst 0, 1) := by decide +kernel
theorem dX12_findBest_21 : decode cX12_findBest 21 = .ok (.istore_n 2, 1) := by decide +kernel
theorem dX12_findBest_22 : decode cX12_findBest 22 = .ok (.iload_n 2, 1) := by decide +kernel
theorem dX12_findBest_23 : decode cX12_findBest 23 = .ok (.aload_n 0, 1) := by decide +kernel
theorem dX12_findBest_24 : decode cX12_findBest 24 = .ok (.getfield 258, 3) := by decide +kernel
theorem dX12_findBest_27 : decode cX12_findBest 27 = .ok (.if_icmp .ge 101, 3) := by decide +kernel
theorem dX12_findBest_30 : decode cX12_findBest 30 = .ok (.bipush 7, 2) := by decide +kernel
theorem dX12_findBest_32 : decode cX12_findBest 32 = .ok (.iload_n 1, 1) := by decide +kernel
theorem dX12_findBest_33 : decode cX12_findBest 33 = .ok (.imul, 1) := by decide +kernel
theorem dX12_findBest_34 : decode cX12_findBest 34 = .ok (.iload_n 2, 1) := by decide +kernel
theorem dX12_findBest_35 : decode cX12_findBest 35 = .ok (.iadd, 1) := by decide +kernel
theorem dX12_findBest_36 : decode cX12_findBest 36 = .ok (.istore_n 3, 1) := by decide +kernel
theorem dX12_findBest_37 : decode cX12_findBest 37 = .ok (.aload_n 0, 1) := by decide +kernel
theorem dX12_findBest_38 : decode cX12_findBest 38 = .ok (.getfield 119, 3) := by decide +kernel
theorem dX12_findBest_41 : decode cX12_findBest 41 = .ok (.iload_n 1, 1) := by decide +kernel
theorem dX12_findBest_42 : decode cX12_findBest 42 = .ok (.iaload, 1) := by decide +kernel
theorem dX12_findBest_43 : decode cX12_findBest 43 = .ok (.iload_n 2, 1) := by decide +kernel
theorem dX12_findBest_44 : decode cX12_findBest 44 = .ok (.ishr, 1) := by decide +kernel
theorem dX12_findBest_45 : decode cX12_findBest 45 = .ok (.iconst 1, 1) := by decide +kernel
theorem dX12_findBest_46 : decode cX12_findBest 46 = .ok (.iand, 1) := by decide +kernel
theorem dX12_findBest_47 : decode cX12_findBest 47 = .ok (.iconst 1, 1) := by decide +kernel
theorem dX12_findBest_48 : decode cX12_findBest 48 = .ok (.if_icmp .ne 7, 3) := by decide +kernel
theorem dX12_findBest_51 : decode cX12_findBest 51 = .ok (.iconst 1, 1) := by decide +kernel
theorem dX12_findBest_52 : decode cX12_findBest 52 = .ok (.goto 4, 3) := by decide +kernel
theorem dX12_findBest_55 : decode cX12_findBest 55 = .ok (.iconst 0, 1) := by decide +kernel
theorem dX12_findBest_56 : decode cX12_findBest 56 = .ok (.istore 4, 2) := by decide +kernel
theorem dX12_findBest_58 : decode cX12_findBest 58 = .ok (.iload 4, 2) := by decide +kernel
theorem dX12_findBest_60 : decode cX12_findBest 60 = .ok (.ifCond .eq 62, 3) := by decide +kernel
theorem dX12_findBest_63 : decode cX12_findBest 63 = .ok (.aload_n 0, 1) := by decide +kernel
theorem dX12_findBest_64 : decode cX12_findBest 64 = .ok (.getfield 125, 3) := by decide +kernel
theorem dX12_findBest_67 : decode cX12_findBest 67 = .ok (.iload_n 3, 1) := by decide +kernel
theorem dX12_findBest_68 : decode cX12_findBest 68 = .ok (.iaload, 1) := by decide +kernel
theorem dX12_findBest_69 : decode cX12_findBest 69 = .ok (.aload_n 0, 1) := by decide +kernel
theorem dX12_findBest_70 : decode cX12_findBest 70 = .ok (.getfield 371, 3) := by decide +kernel
theorem dX12_findBest_73 : decode cX12_findBest 73 = .ok (.if_icmp .gt 29, 3) := by decide +kernel
theorem dX12_findBest_76 : decode cX12_findBest 76 = .ok (.aload_n 0, 1) := by decide +kernel
theorem dX12_findBest_77 : decode cX12_findBest 77 = .ok (.getfield 125, 3) := by decide +kernel
theorem dX12_findBest_80 : decode cX12_findBest 80 = .ok (.iload_n 3, 1) := by decide +kernel
theorem dX12_findBest_81 : decode cX12_findBest 81 = .ok (.iaload, 1) := by decide +kernel
theorem dX12_findBest_82 : decode cX12_findBest 82 = .ok (.aload_n 0, 1) := by decide +kernel
theorem dX12_findBest_83 : decode cX12_findBest 83 = .ok (.getfield 371, 3) := by decide +kernel
theorem dX12_findBest_86 : decode cX12_findBest 86 = .ok (.if_icmp .ne 36, 3) := by decide +kernel
theorem dX12_findBest_89 : decode cX12_findBest 89 = .ok (.aload_n 0, 1) := by decide +kernel
theorem dX12_findBest_90 : decode cX12_findBest 90 = .ok (.getfield 122, 3) := by decide +kernel
theorem dX12_findBest_93 : decode cX12_findBest 93 = .ok (.iload_n 3, 1) := by decide +kernel
theorem dX12_findBest_94 : decode cX12_findBest 94 = .ok (.iaload, 1) := by decide +kernel
theorem dX12_findBest_95 : decode cX12_findBest 95 = .ok (.aload_n 0, 1) := by decide +kernel
theorem dX12_findBest_96 : decode cX12_findBest 96 = .ok (.getfield 368, 3) := by decide +kernel
theorem dX12_findBest_99 : decode cX12_findBest 99 = .ok (.if_icmp .le 23, 3) := by decide +kernel
theorem dX12_findBest_102 : decode cX12_findBest 102 = .ok (.aload_n 0, 1) := by decide +kernel
theorem dX12_findBest_103 : decode cX12_findBest 103 = .ok (.aload_n 0, 1) := by decide +kernel
theorem dX12_findBest_104 : decode cX12_findBest 104 = .ok (.getfield 122, 3) := by decide +kernel
theorem dX12_findBest_107 : decode cX12_findBest 107 = .ok (.iload_n 3, 1) := by decide +kernel
theorem dX12_findBest_108 : decode cX12_findBest 108 = .ok (.iaload, 1) := by decide +kernel
theorem dX12_findBest_109 : decode cX12_findBest 109 = .ok (.putfield 368, 3) := by decide +kernel
theorem dX12_findBest_112 : decode cX12_findBest 112 = .ok (.aload_n 0, 1) := by decide +kernel
theorem dX12_findBest_113 : decode cX12_findBest 113 = .ok (.aload_n 0, 1) := by decide +kernel
theorem dX12_findBest_114 : decode cX12_findBest 114 = .ok (.getfield 125, 3) := by decide +kernel
theorem dX12_findBest_117 : decode cX12_findBest 117 = .ok (.iload_n 3, 1) := by decide +kernel
theorem dX12_findBest_118 : decode cX12_findBest 118 = .ok (.iaload, 1) := by decide +kernel
theorem dX12_findBest_119 : decode cX12_findBest 119 = .ok (.putfield 371, 3) := by decide +kernel
theorem dX12_findBest_122 : decode cX12_findBest 122 = .ok (.iinc 2 1, 3) := by decide +kernel
theorem dX12_findBest_125 : decode cX12_findBest 125 = .ok (.goto (-103), 3) := by decide +kernel
theorem dX12_findBest_128 : decode cX12_findBest 128 = .ok (.return_, 1) := by decide +kernel
abbrev rm_X12_findBest : Room := { frames := 0, cells := 0, slots := 0, locals := 0 }
def b_X12_findBest_122 (a0 : Nat) (L22 : Int32 × Int32 → Sto → Prop) (Q : Sto → Prop) (p1 : Int32) (p2 : Int32) (σ : Sto) : Prop := (∀ x1 : Int32, x1 = p2 + (1 : Int32) → L22 (p1, x1) σ)
set_option maxHeartbeats 4000000 in
set_option maxRecDepth 100000 in
theorem t_X12_findBest_122 {p : Program} {l : Launch} {e : Env} {s : State} {m : MethodId} {args : Array Value} {below : List Frame} {meth : Method} {c : Code} {D : va_G} {cy : Nat → ClassId} {A : Nat → Prop} {a0 : Nat} {L22 : Int32 × Int32 → Sto → Prop} {Q : Sto → Prop} (C : Cx p s m args meth c D cy A cX12_findBest 5 RX12) (hr : meth.sig.returnType = none) (hnm : meth.name = yX12_findBest.name) (hL22 : ∀ (t : Int32 × Int32) (σ : Sto), L22 t σ → ∀ ls : Array Slot, lv_has ls 5 [(0, .ref a0), (1, .int t.1), (2, .int t.2)] → Xw p l e rm_X12_findBest s m args below meth c D cy A σ 0 0 (MQ below (Qst D cy A (PsV Q)) args s rm_X12_findBest.cells rm_X12_findBest.slots A) (F0 m 22 ls [])) (p1 : Int32) (p2 : Int32) (σ : Sto) (h : b_X12_findBest_122 a0 L22 Q p1 p2 σ) (ls : Array Slot) (hl : lv_has ls 5 [(0, .ref a0), (1, .int p1), (2, .int p2)]) : Xw p l e rm_X12_findBest s m args below meth c D cy A σ 0 0 (MQ below (Qst D cy A (PsV Q)) args s rm_X12_findBest.cells rm_X12_findBest.slots A) (F0 m 122 ls []) := by
  unfold b_X12_findBest_122 at h
  obtain ⟨x1, e2⟩ : ∃ z : Int32, z = p2 + (1 : Int32) := ⟨_, rfl⟩
  have h := h x1 e2
  refine x_iinc (v := x1) (lv' := [(2, .int x1), (0, .ref a0), (1, .int p1)]) C dX12_findBest_122 hl (q0 := 2) rfl (by rw [e2]; rfl) (by decide) (by first | rfl | simp [vrc, cat_i, cat_r, cat_l]) (fun ls hl => ?_)
  refine x_goto (tgt := 22) C dX12_findBest_125 (by decide) ?_
  exact hL22 (p1, x1) _ h ls (lv_sub hl [1, 2, 0] rfl)
def b_X12_findBest_102 (a0 : Nat) (L22 : Int32 × Int32 → Sto → Prop) (Q : Sto → Prop) (p1 : Int32) (p2 : Int32) (p3 : Int32) (σ : Sto) : Prop := (sK σ a0 = 12 ∧ (∃ b2 : Nat, sP σ a0 47 = some b2 ∧ (sK σ b2 = 14 ∧ (vp_in p3 (sN σ b2) ∧ (∀ x6 : Int32, x6 = sI σ b2 p3.toNatClampNeg → (∃ b8 : Nat, sP σ a0 48 = some b8 ∧ (sK σ b8 = 14 ∧ (vp_in p3 (sN σ b8) ∧ (∀ x12 : Int32, x12 = sI (stI σ a0 97 x6) b8 p3.toNatClampNeg → b_X12_findBest_122 a0 L22 Q p1 p2 (stI (stI σ a0 97 x6) a0 98 x12))))))))))
set_option maxHeartbeats 4000000 in
set_option maxRecDepth 100000 in
theorem t_X12_findBest_102 {p : Program} {l : Launch} {e : Env} {s : State} {m : MethodId} {args : Array Value} {below : List Frame} {meth : Method} {c : Code} {D : va_G} {cy : Nat → ClassId} {A : Nat → Prop} {a0 : Nat} {L22 : Int32 × Int32 → Sto → Prop} {Q : Sto → Prop} (C : Cx p s m args meth c D cy A cX12_findBest 5 RX12) (hr : meth.sig.returnType = none) (hnm : meth.name = yX12_findBest.name) (hL22 : ∀ (t : Int32 × Int32) (σ : Sto), L22 t σ → ∀ ls : Array Slot, lv_has ls 5 [(0, .ref a0), (1, .int t.1), (2, .int t.2)] → Xw p l e rm_X12_findBest s m args below meth c D cy A σ 0 0 (MQ below (Qst D cy A (PsV Q)) args s rm_X12_findBest.cells rm_X12_findBest.slots A) (F0 m 22 ls [])) (p1 : Int32) (p2 : Int32) (p3 : Int32) (σ : Sto) (h : b_X12_findBest_102 a0 L22 Q p1 p2 p3 σ) (ls : Array Slot) (hl : lv_has ls 5 [(0, .ref a0), (1, .int p1), (2, .int p2), (3, .int p3)]) : Xw p l e rm_X12_findBest s m args below meth c D cy A σ 0 0 (MQ below (Qst D cy A (PsV Q)) args s rm_X12_findBest.cells rm_X12_findBest.slots A) (F0 m 102 ls []) := by
  unfold b_X12_findBest_102 at h
  refine x_aload_n C dX12_findBest_102 rfl (lv_at hl 0 rfl) ?_
  refine x_aload_n C dX12_findBest_103 rfl (lv_at hl 0 rfl) ?_
  obtain ⟨g1, h⟩ := h
  refine x_getP C fl_RX12_122 g1 dX12_findBest_104 ?_
  refine x_iload_n C dX12_findBest_107 rfl (lv_at hl 3 rfl) ?_
  obtain ⟨b2, g3, h⟩ := h
  refine x_nn1 g3 ?_
  obtain ⟨g4, h⟩ := h
  obtain ⟨g5, h⟩ := h
  refine x_iald C g4 g5 dX12_findBest_108 ?_
  refine x_topi (fun x6 e7 => ?_)
  have h := h x6 e7
  refine x_putI C fl_RX12_368 (Or.inl rfl) g1 dX12_findBest_109 ?_
  refine x_aload_n C dX12_findBest_112 rfl (lv_at hl 0 rfl) ?_
  refine x_aload_n C dX12_findBest_113 rfl (lv_at hl 0 rfl) ?_
  refine x_getP C fl_RX12_125 g1 dX12_findBest_114 ?_
  refine x_iload_n C dX12_findBest_117 rfl (lv_at hl 3 rfl) ?_
  obtain ⟨b8, g9, h⟩ := h
  refine x_nn1 g9 ?_
  obtain ⟨g10, h⟩ := h
  obtain ⟨g11, h⟩ := h
  refine x_iald C g10 g11 dX12_findBest_118 ?_
  refine x_topi (fun x12 e13 => ?_)
  have h := h x12 e13
  refine x_putI C fl_RX12_371 (Or.inl rfl) g1 dX12_findBest_119 ?_
  exact t_X12_findBest_122 C hr hnm hL22 p1 p2 _ h ls (lv_sub hl [0, 1, 2] rfl)
def b_X12_findBest_56 (a0 : Nat) (L22 : Int32 × Int32 → Sto → Prop) (Q : Sto → Prop) (p1 : Int32) (p2 : Int32) (p3 : Int32) (s0 : Int32) (σ : Sto) : Prop := ((s0 = 0 → b_X12_findBest_122 a0 L22 Q p1 p2 σ) ∧ (¬ s0 = 0 → (sK σ a0 = 12 ∧ (∃ b3 : Nat, sP σ a0 48 = some b3 ∧ (sK σ b3 = 14 ∧ (vp_in p3 (sN σ b3) ∧ (∀ x7 : Int32, x7 = sI σ b3 p3.toNatClampNeg → (∀ x9 : Int32, x9 = sI σ a0 98 → ((x9 < x7 → b_X12_findBest_102 a0 L22 Q p1 p2 p3 σ) ∧ (¬ x9 < x7 → (vp_in p3 (sN σ b3) ∧ (∀ x13 : Int32, x13 = sI σ b3 p3.toNatClampNeg → (∀ x15 : Int32, x15 = sI σ a0 98 → ((¬ x13 = x15 → b_X12_findBest_122 a0 L22 Q p1 p2 σ) ∧ (x13 = x15 → (∃ b18 : Nat, sP σ a0 47 = some b18 ∧ (sK σ b18 = 14 ∧ (vp_in p3 (sN σ b18) ∧ (∀ x22 : Int32, x22 = sI σ b18 p3.toNatClampNeg → (∀ x24 : Int32, x24 = sI σ a0 97 → ((x22 ≤ x24 → b_X12_findBest_122 a0 L22 Q p1 p2 σ) ∧ (¬ x22 ≤ x24 → b_X12_findBest_102 a0 L22 Q p1 p2 p3 σ))))))))))))))))))))))
set_option maxHeartbeats 4000000 in
set_option maxRecDepth 100000 in
theorem t_X12_findBest_56 {p : Program} {l : Launch} {e : Env} {s : State} {m : MethodId} {args : Array Value} {below : List Frame} {meth : Method} {c : Code} {D : va_G} {cy : Nat → ClassId} {A : Nat → Prop} {a0 : Nat} {L22 : Int32 × Int32 → Sto → Prop} {Q : Sto → Prop} (C : Cx p s m args meth c D cy A cX12_findBest 5 RX12) (hr : meth.sig.returnType = none) (hnm : meth.name = yX12_findBest.name) (hL22 : ∀ (t : Int32 × Int32) (σ : Sto), L22 t σ → ∀ ls : Array Slot, lv_has ls 5 [(0, .ref a0), (1, .int t.1), (2, .int t.2)] → Xw p l e rm_X12_findBest s m args below meth c D cy A σ 0 0 (MQ below (Qst D cy A (PsV Q)) args s rm_X12_findBest.cells rm_X12_findBest.slots A) (F0 m 22 ls [])) (p1 : Int32) (p2 : Int32) (p3 : Int32) (s0 : Int32) (σ : Sto) (h : b_X12_findBest_56 a0 L22 Q p1 p2 p3 s0 σ) (ls : Array Slot) (hl : lv_has ls 5 [(0, .ref a0), (1, .int p1), (2, .int p2), (3, .int p3)]) : Xw p l e rm_X12_findBest s m args below meth c D cy A σ 0 0 (MQ below (Qst D cy A (PsV Q)) args s rm_X12_findBest.cells rm_X12_findBest.slots A) (F0 m 56 ls [.int s0]) := by
  unfold b_X12_findBest_56 at h
  refine x_istore (i := 4) (lv' := [(4, .int s0), (0, .ref a0), (1, .int p1), (2, .int p2), (3, .int p3)]) C dX12_findBest_56 hl (by decide) (by first | rfl | simp [vrc, cat_i, cat_r, cat_l]) (fun ls hl => ?_)
  refine x_iload C dX12_findBest_58 (lv_at hl 0 rfl) ?_
  refine x_if_eq (tgt := 122) C dX12_findBest_60 (by decide) (fun c1 => ?_) (fun c1 => ?_)
  · have h := h.1 c1
    exact t_X12_findBest_122 C hr hnm hL22 p1 p2 _ h ls (lv_sub hl [1, 2, 3] rfl)
  · have h := h.2 c1
    refine x_aload_n C dX12_findBest_63 rfl (lv_at hl 1 rfl) ?_
    obtain ⟨g2, h⟩ := h
    refine x_getP C fl_RX12_125 g2 dX12_findBest_64 ?_
    refine x_iload_n C dX12_findBest_67 rfl (lv_at hl 4 rfl) ?_
    obtain ⟨b3, g4, h⟩ := h
    refine x_nn1 g4 ?_
    obtain ⟨g5, h⟩ := h
    obtain ⟨g6, h⟩ := h
    refine x_iald C g5 g6 dX12_findBest_68 ?_
    refine x_topi (fun x7 e8 => ?_)
    have h := h x7 e8
    refine x_aload_n C dX12_findBest_69 rfl (lv_at hl 1 rfl) ?_
    refine x_getI C fl_RX12_371 g2 dX12_findBest_70 ?_
    refine x_topi (fun x9 e10 => ?_)
    have h := h x9 e10
    refine x_icmp_gt (tgt := 102) C dX12_findBest_73 (by decide) (fun c11 => ?_) (fun c11 => ?_)
    · have h := h.1 c11
      exact t_X12_findBest_102 C hr hnm hL22 p1 p2 p3 _ h ls (lv_sub hl [1, 2, 3, 4] rfl)
    · have h := h.2 c11
      refine x_aload_n C dX12_findBest_76 rfl (lv_at hl 1 rfl) ?_
      refine x_getP C fl_RX12_125 g2 dX12_findBest_77 ?_
      refine x_iload_n C dX12_findBest_80 rfl (lv_at hl 4 rfl) ?_
      refine x_nn1 g4 ?_
      obtain ⟨g12, h⟩ := h
      refine x_iald C g5 g12 dX12_findBest_81 ?_
      refine x_topi (fun x13 e14 => ?_)
      have h := h x13 e14
      refine x_aload_n C dX12_findBest_82 rfl (lv_at hl 1 rfl) ?_
      refine x_getI C fl_RX12_371 g2 dX12_findBest_83 ?_
      refine x_topi (fun x15 e16 => ?_)
      have h := h x15 e16
      refine x_icmp_ne (tgt := 122) C dX12_findBest_86 (by decide) (fun c17 => ?_) (fun c17 => ?_)
      · have h := h.1 c17
        exact t_X12_findBest_122 C hr hnm hL22 p1 p2 _ h ls (lv_sub hl [1, 2, 3] rfl)
      · have h := h.2 c17
        refine x_aload_n C dX12_findBest_89 rfl (lv_at hl 1 rfl) ?_
        refine x_getP C fl_RX12_122 g2 dX12_findBest_90 ?_
        refine x_iload_n C dX12_findBest_93 rfl (lv_at hl 4 rfl) ?_
        obtain ⟨b18, g19, h⟩ := h
        refine x_nn1 g19 ?_
        obtain ⟨g20, h⟩ := h
        obtain ⟨g21, h⟩ := h
        refine x_iald C g20 g21 dX12_findBest_94 ?_
        refine x_topi (fun x22 e23 => ?_)
        have h := h x22 e23
        refine x_aload_n C dX12_findBest_95 rfl (lv_at hl 1 rfl) ?_
        refine x_getI C fl_RX12_368 g2 dX12_findBest_96 ?_
        refine x_topi (fun x24 e25 => ?_)
        have h := h x24 e25
        refine x_icmp_le (tgt := 122) C dX12_findBest_99 (by decide) (fun c26 => ?_) (fun c26 => ?_)
        · have h := h.1 c26
          exact t_X12_findBest_122 C hr hnm hL22 p1 p2 _ h ls (lv_sub hl [1, 2, 3] rfl)
        · have h := h.2 c26
          exact t_X12_findBest_102 C hr hnm hL22 p1 p2 p3 _ h ls (lv_sub hl [1, 2, 3, 4] rfl)
def f_X12_findBest_22 (a0 : Nat)  (Q : Sto → Prop) (L22 : Int32 × Int32 → Sto → Prop) (t : Int32 × Int32) (σ : Sto) : Prop := (sK σ a0 = 12 ∧ (∀ x2 : Int32, x2 = sI σ a0 1 → ((x2 ≤ t.2 → Q σ) ∧ (¬ x2 ≤ t.2 → (∀ x5 : Int32, x5 = ((7 : Int32) * t.1) + t.2 → (∃ b7 : Nat, sP σ a0 46 = some b7 ∧ (sK σ b7 = 14 ∧ (vp_in t.1 (sN σ b7) ∧ (∀ x11 : Int32, x11 = sI σ b7 t.1.toNatClampNeg → ((¬ ((x11 >>> (t.2 &&& 31)) &&& (1 : Int32)) = (1 : Int32) → b_X12_findBest_56 a0 L22 Q t.1 t.2 x5 (0 : Int32) σ) ∧ (((x11 >>> (t.2 &&& 31)) &&& (1 : Int32)) = (1 : Int32) → b_X12_findBest_56 a0 L22 Q t.1 t.2 x5 (1 : Int32) σ)))))))))))
set_option maxHeartbeats 4000000 in
set_option maxRecDepth 100000 in
theorem t_X12_findBest_22 {p : Program} {l : Launch} {e : Env} {s : State} {m : MethodId} {args : Array Value} {below : List Frame} {meth : Method} {c : Code} {D : va_G} {cy : Nat → ClassId} {A : Nat → Prop} {a0 : Nat} {Q : Sto → Prop} {L22 : Int32 × Int32 → Sto → Prop} (C : Cx p s m args meth c D cy A cX12_findBest 5 RX12) (hr : meth.sig.returnType = none) (hnm : meth.name = yX12_findBest.name) (hL22 : ∀ (t : Int32 × Int32) (σ : Sto), L22 t σ → ∀ ls : Array Slot, lv_has ls 5 [(0, .ref a0), (1, .int t.1), (2, .int t.2)] → Xw p l e rm_X12_findBest s m args below meth c D cy A σ 0 0 (MQ below (Qst D cy A (PsV Q)) args s rm_X12_findBest.cells rm_X12_findBest.slots A) (F0 m 22 ls [])) : ∀ (t : Int32 × Int32) (σ : Sto), f_X12_findBest_22 a0  Q L22 t σ → ∀ ls : Array Slot, lv_has ls 5 [(0, .ref a0), (1, .int t.1), (2, .int t.2)] → Xw p l e rm_X12_findBest s m args below meth c D cy A σ 0 0 (MQ below (Qst D cy A (PsV Q)) args s rm_X12_findBest.cells rm_X12_findBest.slots A) (F0 m 22 ls []) := by
  intro t σ h ls hl
  unfold f_X12_findBest_22 at h
  refine x_iload_n C dX12_findBest_22 rfl (lv_at hl 2 rfl) ?_
  refine x_aload_n C dX12_findBest_23 rfl (lv_at hl 0 rfl) ?_
  obtain ⟨g1, h⟩ := h
  refine x_getI C fl_RX12_258 g1 dX12_findBest_24 ?_
  refine x_topi (fun x2 e3 => ?_)
  have h := h x2 e3
  refine x_icmp_ge (tgt := 128) C dX12_findBest_27 (by decide) (fun c4 => ?_) (fun c4 => ?_)
  · have h := h.1 c4
    exact x_vret C hr dX12_findBest_128 ⟨rfl, h⟩
  · have h := h.2 c4
    refine x_bipush (v := 7) C dX12_findBest_30 (by decide) ?_
    refine x_iload_n C dX12_findBest_32 rfl (lv_at hl 1 rfl) ?_
    refine x_imul C dX12_findBest_33 ?_
    refine x_iload_n C dX12_findBest_34 rfl (lv_at hl 2 rfl) ?_
    refine x_iadd C dX12_findBest_35 ?_
    refine x_topi (fun x5 e6 => ?_)
    have h := h x5 e6
    refine x_istore_n (i := 3) (lv' := [(3, .int x5), (0, .ref a0), (1, .int t.1), (2, .int t.2)]) C dX12_findBest_36 rfl hl (by decide) (by first | rfl | simp [vrc, cat_i, cat_r, cat_l]) (fun ls hl => ?_)
    refine x_aload_n C dX12_findBest_37 rfl (lv_at hl 1 rfl) ?_
    refine x_getP C fl_RX12_119 g1 dX12_findBest_38 ?_
    refine x_iload_n C dX12_findBest_41 rfl (lv_at hl 2 rfl) ?_
    obtain ⟨b7, g8, h⟩ := h
    refine x_nn1 g8 ?_
    obtain ⟨g9, h⟩ := h
    obtain ⟨g10, h⟩ := h
    refine x_iald C g9 g10 dX12_findBest_42 ?_
    refine x_topi (fun x11 e12 => ?_)
    have h := h x11 e12
    refine x_iload_n C dX12_findBest_43 rfl (lv_at hl 3 rfl) ?_
    refine x_ishr C dX12_findBest_44 ?_
    refine x_iconst (v := 1) C dX12_findBest_45 (by decide) ?_
    refine x_iand C dX12_findBest_46 ?_
    refine x_iconst (v := 1) C dX12_findBest_47 (by decide) ?_
    refine x_icmp_ne (tgt := 55) C dX12_findBest_48 (by decide) (fun c13 => ?_) (fun c13 => ?_)
    · have h := h.1 c13
      refine x_iconst (v := 0) C dX12_findBest_55 (by decide) ?_
      exact t_X12_findBest_56 C hr hnm hL22 t.1 t.2 x5 (0 : Int32) _ h ls (lv_sub hl [1, 2, 3, 0] rfl)
    · have h := h.2 c13
      refine x_iconst (v := 1) C dX12_findBest_51 (by decide) ?_
      refine x_goto (tgt := 56) C dX12_findBest_52 (by decide) ?_
      exact t_X12_findBest_56 C hr hnm hL22 t.1 t.2 x5 (1 : Int32) _ h ls (lv_sub hl [1, 2, 3, 0] rfl)
def wp_X12_findBest (a0 : Nat) (p1 : Int32) (σ : Sto) (Q : Sto → Prop) : Prop := (sK σ a0 = 12 ∧ (∃ b2 : Nat, sP σ a0 24 = some b2 ∧ (sK σ b2 = 14 ∧ (vp_in p1 (sN σ b2) ∧ (∀ x6 : Int32, x6 = sI σ b2 p1.toNatClampNeg → (∃ b8 : Nat, sP σ a0 25 = some b8 ∧ (sK σ b8 = 14 ∧ (vp_in p1 (sN σ b8) ∧ (∀ x12 : Int32, x12 = sI (stI σ a0 97 x6) b8 p1.toNatClampNeg → LF (f_X12_findBest_22 a0  Q) (p1, (0 : Int32)) (stI (stI σ a0 97 x6) a0 98 x12))))))))))
set_option maxHeartbeats 4000000 in
set_option maxRecDepth 100000 in
theorem c_X12_findBest (l : Launch) (D : va_G) (cy : Nat → ClassId) (a0 : Nat) (p1 : Int32) (σ : Sto) (Q : Sto → Prop) (h : wp_X12_findBest a0 p1 σ Q) : Mt l D cy yX12_findBest cX12_findBest 5 none rm_X12_findBest [.ref a0, .int p1] σ (PsV Q) := by
  unfold wp_X12_findBest at h
  refine mt_of (by decide +kernel) (Nat.le_of_ble_eq_true rfl) ?_
  intro p e s m args below meth c A ls C hr hnm hl
  have C : Cx p s m args meth c D cy A cX12_findBest 5 RX12 := C
  have hl : lv_has ls 5 [(0, .ref a0), (1, .int p1)] := hl
  refine x_aload_n C dX12_findBest_0 rfl (lv_at hl 0 rfl) ?_
  refine x_aload_n C dX12_findBest_1 rfl (lv_at hl 0 rfl) ?_
  obtain ⟨g1, h⟩ := h
  refine x_getP C fl_RX12_53 g1 dX12_findBest_2 ?_
  refine x_iload_n C dX12_findBest_5 rfl (lv_at hl 1 rfl) ?_
  obtain ⟨b2, g3, h⟩ := h
  refine x_nn1 g3 ?_
  obtain ⟨g4, h⟩ := h
  obtain ⟨g5, h⟩ := h
  refine x_iald C g4 g5 dX12_findBest_6 ?_
  refine x_topi (fun x6 e7 => ?_)
  have h := h x6 e7
  refine x_putI C fl_RX12_368 (Or.inl rfl) g1 dX12_findBest_7 ?_
  refine x_aload_n C dX12_findBest_10 rfl (lv_at hl 0 rfl) ?_
  refine x_aload_n C dX12_findBest_11 rfl (lv_at hl 0 rfl) ?_
  refine x_getP C fl_RX12_56 g1 dX12_findBest_12 ?_
  refine x_iload_n C dX12_findBest_15 rfl (lv_at hl 1 rfl) ?_
  obtain ⟨b8, g9, h⟩ := h
  refine x_nn1 g9 ?_
  obtain ⟨g10, h⟩ := h
  obtain ⟨g11, h⟩ := h
  refine x_iald C g10 g11 dX12_findBest_16 ?_
  refine x_topi (fun x12 e13 => ?_)
  have h := h x12 e13
  refine x_putI C fl_RX12_371 (Or.inl rfl) g1 dX12_findBest_17 ?_
  refine x_iconst (v := 0) C dX12_findBest_20 (by decide) ?_
  refine x_istore_n (i := 2) (lv' := [(2, .int (0 : Int32)), (0, .ref a0), (1, .int p1)]) C dX12_findBest_21 rfl hl (by decide) (by first | rfl | simp [vrc, cat_i, cat_r, cat_l]) (fun ls hl => ?_)
  exact h (fun t σ => ∀ ls : Array Slot, lv_has ls 5 [(0, .ref a0), (1, .int t.1), (2, .int t.2)] → Xw p l e rm_X12_findBest s m args below meth c D cy A σ 0 0 (MQ below (Qst D cy A (PsV Q)) args s rm_X12_findBest.cells rm_X12_findBest.slots A) (F0 m 22 ls [])) (t_X12_findBest_22 C hr hnm  (fun t σ h => h)) ls (lv_sub hl [1, 2, 0] rfl)
theorem dX12_inTurn_0 : decode cX12_inTurn 0 = .ok (.iload_n 1, 1) := by decide +kernel
theorem dX12_inTurn_1 : decode cX12_inTurn 1 = .ok (.ifCond .ne 7, 3) := by decide +kernel
theorem dX12_inTurn_4 : decode cX12_inTurn 4 = .ok (.iload_n 0, 1) := by decide +kernel
theorem dX12_inTurn_5 : decode cX12_inTurn 5 = .ok (.goto 15, 3) := by decide +kernel
theorem dX12_inTurn_8 : decode cX12_inTurn 8 = .ok (.iload_n 1, 1) := by decide +kernel
theorem dX12_inTurn_9 : decode cX12_inTurn 9 = .ok (.iload_n 0, 1) := by decide +kernel
theorem dX12_inTurn_10 : decode cX12_inTurn 10 = .ok (.if_icmp .gt 9, 3) := by decide +kernel
theorem dX12_inTurn_13 : decode cX12_inTurn 13 = .ok (.iload_n 1, 1) := by decide +kernel
theorem dX12_inTurn_14 : decode cX12_inTurn 14 = .ok (.iconst 1, 1) := by decide +kernel
theorem dX12_inTurn_15 : decode cX12_inTurn 15 = .ok (.isub, 1) := by decide +kernel
theorem dX12_inTurn_16 : decode cX12_inTurn 16 = .ok (.goto 4, 3) := by decide +kernel
theorem dX12_inTurn_19 : decode cX12_inTurn 19 = .ok (.iload_n 1, 1) := by decide +kernel
theorem dX12_inTurn_20 : decode cX12_inTurn 20 = .ok (.ireturn, 1) := by decide +kernel
abbrev rm_X12_inTurn : Room := { frames := 0, cells := 0, slots := 0, locals := 0 }
def wp_X12_inTurn (p0 : Int32) (p1 : Int32) (σ : Sto) (Q : Int32 → Sto → Prop) : Prop := ((¬ p1 = 0 → ((p0 < p1 → Q p1 σ) ∧ (¬ p0 < p1 → Q (p1 - (1 : Int32)) σ))) ∧ (p1 = 0 → Q p0 σ))
set_option maxHeartbeats 4000000 in
set_option maxRecDepth 100000 in
theorem c_X12_inTurn (l : Launch) (D : va_G) (cy : Nat → ClassId) (p0 : Int32) (p1 : Int32) (σ : Sto) (Q : Int32 → Sto → Prop) (h : wp_X12_inTurn p0 p1 σ Q) : Mt l D cy yX12_inTurn cX12_inTurn 2 (some .int) rm_X12_inTurn [.int p0, .int p1] σ (PsI Q) := by
  unfold wp_X12_inTurn at h
  refine mt_of (by decide +kernel) (Nat.le_of_ble_eq_true rfl) ?_
  intro p e s m args below meth c A ls C hr hnm hl
  have C : Cx p s m args meth c D cy A cX12_inTurn 2 RX12 := C
  have hl : lv_has ls 2 [(0, .int p0), (1, .int p1)] := hl
  refine x_iload_n C dX12_inTurn_0 rfl (lv_at hl 1 rfl) ?_
  refine x_if_ne (tgt := 8) C dX12_inTurn_1 (by decide) (fun c1 => ?_) (fun c1 => ?_)
  · have h := h.1 c1
    refine x_iload_n C dX12_inTurn_8 rfl (lv_at hl 1 rfl) ?_
    refine x_iload_n C dX12_inTurn_9 rfl (lv_at hl 0 rfl) ?_
    refine x_icmp_gt (tgt := 19) C dX12_inTurn_10 (by decide) (fun c2 => ?_) (fun c2 => ?_)
    · have h := h.1 c2
      refine x_iload_n C dX12_inTurn_19 rfl (lv_at hl 1 rfl) ?_
      exact x_iret C hr dX12_inTurn_20 ⟨_, rfl, h⟩
    · have h := h.2 c2
      refine x_iload_n C dX12_inTurn_13 rfl (lv_at hl 1 rfl) ?_
      refine x_iconst (v := 1) C dX12_inTurn_14 (by decide) ?_
      refine x_isub C dX12_inTurn_15 ?_
      refine x_goto (tgt := 20) C dX12_inTurn_16 (by decide) ?_
      exact x_iret C hr dX12_inTurn_20 ⟨_, rfl, h⟩
  · have h := h.2 c1
    refine x_iload_n C dX12_inTurn_4 rfl (lv_at hl 0 rfl) ?_
    refine x_goto (tgt := 20) C dX12_inTurn_5 (by decide) ?_
    exact x_iret C hr dX12_inTurn_20 ⟨_, rfl, h⟩
theorem dX12_isLookedAt_0 : decode cX12_isLookedAt 0 = .ok (.bipush 7, 2) := by decide +kernel
theorem dX12_isLookedAt_2 : decode cX12_isLookedAt 2 = .ok (.iload_n 1, 1) := by decide +kernel
theorem dX12_isLookedAt_3 : decode cX12_isLookedAt 3 = .ok (.imul, 1) := by decide +kernel
theorem dX12_isLookedAt_4 : decode cX12_isLookedAt 4 = .ok (.iload_n 2, 1) := by decide +kernel
theorem dX12_isLookedAt_5 : decode cX12_isLookedAt 5 = .ok (.iadd, 1) := by decide +kernel
theorem dX12_isLookedAt_6 : decode cX12_isLookedAt 6 = .ok (.istore_n 3, 1) := by decide +kernel
theorem dX12_isLookedAt_7 : decode cX12_isLookedAt 7 = .ok (.iload_n 2, 1) := by decide +kernel
theorem dX12_isLookedAt_8 : decode cX12_isLookedAt 8 = .ok (.iload_n 1, 1) := by decide +kernel
theorem dX12_isLookedAt_9 : decode cX12_isLookedAt 9 = .ok (.if_icmp .eq 17, 3) := by decide +kernel
theorem dX12_isLookedAt_12 : decode cX12_isLookedAt 12 = .ok (.aload_n 0, 1) := by decide +kernel
theorem dX12_isLookedAt_13 : decode cX12_isLookedAt 13 = .ok (.getfield 119, 3) := by decide +kernel
theorem dX12_isLookedAt_16 : decode cX12_isLookedAt 16 = .ok (.iload_n 1, 1) := by decide +kernel
theorem dX12_isLookedAt_17 : decode cX12_isLookedAt 17 = .ok (.iaload, 1) := by decide +kernel
theorem dX12_isLookedAt_18 : decode cX12_isLookedAt 18 = .ok (.iload_n 2, 1) := by decide +kernel
theorem dX12_isLookedAt_19 : decode cX12_isLookedAt 19 = .ok (.ishr, 1) := by decide +kernel
theorem dX12_isLookedAt_20 : decode cX12_isLookedAt 20 = .ok (.iconst 1, 1) := by decide +kernel
theorem dX12_isLookedAt_21 : decode cX12_isLookedAt 21 = .ok (.iand, 1) := by decide +kernel
theorem dX12_isLookedAt_22 : decode cX12_isLookedAt 22 = .ok (.iconst 1, 1) := by decide +kernel
theorem dX12_isLookedAt_23 : decode cX12_isLookedAt 23 = .ok (.if_icmp .ne 7, 3) := by decide +kernel
theorem dX12_isLookedAt_26 : decode cX12_isLookedAt 26 = .ok (.iconst 1, 1) := by decide +kernel
theorem dX12_isLookedAt_27 : decode cX12_isLookedAt 27 = .ok (.goto 4, 3) := by decide +kernel
theorem dX12_isLookedAt_30 : decode cX12_isLookedAt 30 = .ok (.iconst 0, 1) := by decide +kernel
theorem dX12_isLookedAt_31 : decode cX12_isLookedAt 31 = .ok (.istore 4, 2) := by decide +kernel
theorem dX12_isLookedAt_33 : decode cX12_isLookedAt 33 = .ok (.iload 4, 2) := by decide +kernel
theorem dX12_isLookedAt_35 : decode cX12_isLookedAt 35 = .ok (.ifCond .eq 33, 3) := by decide +kernel
theorem dX12_isLookedAt_38 : decode cX12_isLookedAt 38 = .ok (.aload_n 0, 1) := by decide +kernel
theorem dX12_isLookedAt_39 : decode cX12_isLookedAt 39 = .ok (.getfield 122, 3) := by decide +kernel
theorem dX12_isLookedAt_42 : decode cX12_isLookedAt 42 = .ok (.iload_n 3, 1) := by decide +kernel
theorem dX12_isLookedAt_43 : decode cX12_isLookedAt 43 = .ok (.iaload, 1) := by decide +kernel
theorem dX12_isLookedAt_44 : decode cX12_isLookedAt 44 = .ok (.aload_n 0, 1) := by decide +kernel
theorem dX12_isLookedAt_45 : decode cX12_isLookedAt 45 = .ok (.getfield 368, 3) := by decide +kernel
theorem dX12_isLookedAt_48 : decode cX12_isLookedAt 48 = .ok (.if_icmp .ne 20, 3) := by decide +kernel
theorem dX12_isLookedAt_51 : decode cX12_isLookedAt 51 = .ok (.aload_n 0, 1) := by decide +kernel
theorem dX12_isLookedAt_52 : decode cX12_isLookedAt 52 = .ok (.getfield 125, 3) := by decide +kernel
theorem dX12_isLookedAt_55 : decode cX12_isLookedAt 55 = .ok (.iload_n 3, 1) := by decide +kernel
theorem dX12_isLookedAt_56 : decode cX12_isLookedAt 56 = .ok (.iaload, 1) := by decide +kernel
theorem dX12_isLookedAt_57 : decode cX12_isLookedAt 57 = .ok (.aload_n 0, 1) := by decide +kernel
theorem dX12_isLookedAt_58 : decode cX12_isLookedAt 58 = .ok (.getfield 371, 3) := by decide +kernel
theorem dX12_isLookedAt_61 : decode cX12_isLookedAt 61 = .ok (.if_icmp .ne 7, 3) := by decide +kernel
theorem dX12_isLookedAt_64 : decode cX12_isLookedAt 64 = .ok (.iconst 1, 1) := by decide +kernel
theorem dX12_isLookedAt_65 : decode cX12_isLookedAt 65 = .ok (.goto 4, 3) := by decide +kernel
theorem dX12_isLookedAt_68 : decode cX12_isLookedAt 68 = .ok (.iconst 0, 1) := by decide +kernel
theorem dX12_isLookedAt_69 : decode cX12_isLookedAt 69 = .ok (.ireturn, 1) := by decide +kernel
abbrev rm_X12_isLookedAt : Room := { frames := 0, cells := 0, slots := 0, locals := 0 }
def b_X12_isLookedAt_31 (a0 : Nat)  (Q : Int32 → Sto → Prop) (p3 : Int32) (s0 : Int32) (σ : Sto) : Prop := ((s0 = 0 → Q (0 : Int32) σ) ∧ (¬ s0 = 0 → (sK σ a0 = 12 ∧ (∃ b3 : Nat, sP σ a0 47 = some b3 ∧ (sK σ b3 = 14 ∧ (vp_in p3 (sN σ b3) ∧ (∀ x7 : Int32, x7 = sI σ b3 p3.toNatClampNeg → (∀ x9 : Int32, x9 = sI σ a0 97 → ((¬ x7 = x9 → Q (0 : Int32) σ) ∧ (x7 = x9 → (∃ b12 : Nat, sP σ a0 48 = some b12 ∧ (sK σ b12 = 14 ∧ (vp_in p3 (sN σ b12) ∧ (∀ x16 : Int32, x16 = sI σ b12 p3.toNatClampNeg → (∀ x18 : Int32, x18 = sI σ a0 98 → ((¬ x16 = x18 → Q (0 : Int32) σ) ∧ (x16 = x18 → Q (1 : Int32) σ)))))))))))))))))
set_option maxHeartbeats 4000000 in
set_option maxRecDepth 100000 in
theorem t_X12_isLookedAt_31 {p : Program} {l : Launch} {e : Env} {s : State} {m : MethodId} {args : Array Value} {below : List Frame} {meth : Method} {c : Code} {D : va_G} {cy : Nat → ClassId} {A : Nat → Prop} {a0 : Nat} {Q : Int32 → Sto → Prop} (C : Cx p s m args meth c D cy A cX12_isLookedAt 5 RX12) (hr : meth.sig.returnType = (some .boolean)) (hnm : meth.name = yX12_isLookedAt.name) (p3 : Int32) (s0 : Int32) (σ : Sto) (h : b_X12_isLookedAt_31 a0  Q p3 s0 σ) (ls : Array Slot) (hl : lv_has ls 5 [(0, .ref a0), (3, .int p3)]) : Xw p l e rm_X12_isLookedAt s m args below meth c D cy A σ 0 0 (MQ below (Qst D cy A (PsI Q)) args s rm_X12_isLookedAt.cells rm_X12_isLookedAt.slots A) (F0 m 31 ls [.int s0]) := by
  unfold b_X12_isLookedAt_31 at h
  refine x_istore (i := 4) (lv' := [(4, .int s0), (0, .ref a0), (3, .int p3)]) C dX12_isLookedAt_31 hl (by decide) (by first | rfl | simp [vrc, cat_i, cat_r, cat_l]) (fun ls hl => ?_)
  refine x_iload C dX12_isLookedAt_33 (lv_at hl 0 rfl) ?_
  refine x_if_eq (tgt := 68) C dX12_isLookedAt_35 (by decide) (fun c1 => ?_) (fun c1 => ?_)
  · have h := h.1 c1
    refine x_iconst (v := 0) C dX12_isLookedAt_68 (by decide) ?_
    exact x_zret C hr dX12_isLookedAt_69 (by decide) ⟨_, rfl, h⟩
  · have h := h.2 c1
    refine x_aload_n C dX12_isLookedAt_38 rfl (lv_at hl 1 rfl) ?_
    obtain ⟨g2, h⟩ := h
    refine x_getP C fl_RX12_122 g2 dX12_isLookedAt_39 ?_
    refine x_iload_n C dX12_isLookedAt_42 rfl (lv_at hl 2 rfl) ?_
    obtain ⟨b3, g4, h⟩ := h
    refine x_nn1 g4 ?_
    obtain ⟨g5, h⟩ := h
    obtain ⟨g6, h⟩ := h
    refine x_iald C g5 g6 dX12_isLookedAt_43 ?_
    refine x_topi (fun x7 e8 => ?_)
    have h := h x7 e8
    refine x_aload_n C dX12_isLookedAt_44 rfl (lv_at hl 1 rfl) ?_
    refine x_getI C fl_RX12_368 g2 dX12_isLookedAt_45 ?_
    refine x_topi (fun x9 e10 => ?_)
    have h := h x9 e10
    refine x_icmp_ne (tgt := 68) C dX12_isLookedAt_48 (by decide) (fun c11 => ?_) (fun c11 => ?_)
    · have h := h.1 c11
      refine x_iconst (v := 0) C dX12_isLookedAt_68 (by decide) ?_
      exact x_zret C hr dX12_isLookedAt_69 (by decide) ⟨_, rfl, h⟩
    · have h := h.2 c11
      refine x_aload_n C dX12_isLookedAt_51 rfl (lv_at hl 1 rfl) ?_
      refine x_getP C fl_RX12_125 g2 dX12_isLookedAt_52 ?_
      refine x_iload_n C dX12_isLookedAt_55 rfl (lv_at hl 2 rfl) ?_
      obtain ⟨b12, g13, h⟩ := h
      refine x_nn1 g13 ?_
      obtain ⟨g14, h⟩ := h
      obtain ⟨g15, h⟩ := h
      refine x_iald C g14 g15 dX12_isLookedAt_56 ?_
      refine x_topi (fun x16 e17 => ?_)
      have h := h x16 e17
      refine x_aload_n C dX12_isLookedAt_57 rfl (lv_at hl 1 rfl) ?_
      refine x_getI C fl_RX12_371 g2 dX12_isLookedAt_58 ?_
      refine x_topi (fun x18 e19 => ?_)
      have h := h x18 e19
      refine x_icmp_ne (tgt := 68) C dX12_isLookedAt_61 (by decide) (fun c20 => ?_) (fun c20 => ?_)
      · have h := h.1 c20
        refine x_iconst (v := 0) C dX12_isLookedAt_68 (by decide) ?_
        exact x_zret C hr dX12_isLookedAt_69 (by decide) ⟨_, rfl, h⟩
      · have h := h.2 c20
        refine x_iconst (v := 1) C dX12_isLookedAt_64 (by decide) ?_
        refine x_goto (tgt := 69) C dX12_isLookedAt_65 (by decide) ?_
        exact x_zret C hr dX12_isLookedAt_69 (by decide) ⟨_, rfl, h⟩
def b_X12_isLookedAt_26 (a0 : Nat)  (Q : Int32 → Sto → Prop) (p3 : Int32) (σ : Sto) : Prop := b_X12_isLookedAt_31 a0  Q p3 (1 : Int32) σ
set_option maxHeartbeats 4000000 in
set_option maxRecDepth 100000 in
theorem t_X12_isLookedAt_26 {p : Program} {l : Launch} {e : Env} {s : State} {m : MethodId} {args : Array Value} {below : List Frame} {meth : Method} {c : Code} {D : va_G} {cy : Nat → ClassId} {A : Nat → Prop} {a0 : Nat} {Q : Int32 → Sto → Prop} (C : Cx p s m args meth c D cy A cX12_isLookedAt 5 RX12) (hr : meth.sig.returnType = (some .boolean)) (hnm : meth.name = yX12_isLookedAt.name) (p3 : Int32) (σ : Sto) (h : b_X12_isLookedAt_26 a0  Q p3 σ) (ls : Array Slot) (hl : lv_has ls 5 [(0, .ref a0), (3, .int p3)]) : Xw p l e rm_X12_isLookedAt s m args below meth c D cy A σ 0 0 (MQ below (Qst D cy A (PsI Q)) args s rm_X12_isLookedAt.cells rm_X12_isLookedAt.slots A) (F0 m 26 ls []) := by
  unfold b_X12_isLookedAt_26 at h
  refine x_iconst (v := 1) C dX12_isLookedAt_26 (by decide) ?_
  refine x_goto (tgt := 31) C dX12_isLookedAt_27 (by decide) ?_
  exact t_X12_isLookedAt_31 C hr hnm  p3 (1 : Int32) _ h ls (lv_sub hl [0, 1] rfl)
def wp_X12_isLookedAt (a0 : Nat) (p1 : Int32) (p2 : Int32) (σ : Sto) (Q : Int32 → Sto → Prop) : Prop := (∀ x1 : Int32, x1 = ((7 : Int32) * p1) + p2 → ((p2 = p1 → b_X12_isLookedAt_26 a0  Q x1 σ) ∧ (¬ p2 = p1 → (sK σ a0 = 12 ∧ (∃ b5 : Nat, sP σ a0 46 = some b5 ∧ (sK σ b5 = 14 ∧ (vp_in p1 (sN σ b5) ∧ (∀ x9 : Int32, x9 = sI σ b5 p1.toNatClampNeg → ((¬ ((x9 >>> (p2 &&& 31)) &&& (1 : Int32)) = (1 : Int32) → b_X12_isLookedAt_31 a0  Q x1 (0 : Int32) σ) ∧ (((x9 >>> (p2 &&& 31)) &&& (1 : Int32)) = (1 : Int32) → b_X12_isLookedAt_26 a0  Q x1 σ))))))))))
set_option maxHeartbeats 4000000 in
set_option maxRecDepth 100000 in
theorem c_X12_isLookedAt (l : Launch) (D : va_G) (cy : Nat → ClassId) (a0 : Nat) (p1 : Int32) (p2 : Int32) (σ : Sto) (Q : Int32 → Sto → Prop) (h : wp_X12_isLookedAt a0 p1 p2 σ Q) : Mt l D cy yX12_isLookedAt cX12_isLookedAt 5 (some .boolean) rm_X12_isLookedAt [.ref a0, .int p1, .int p2] σ (PsI Q) := by
  unfold wp_X12_isLookedAt at h
  refine mt_of (by decide +kernel) (Nat.le_of_ble_eq_true rfl) ?_
  intro p e s m args below meth c A ls C hr hnm hl
  have C : Cx p s m args meth c D cy A cX12_isLookedAt 5 RX12 := C
  have hl : lv_has ls 5 [(0, .ref a0), (1, .int p1), (2, .int p2)] := hl
  refine x_bipush (v := 7) C dX12_isLookedAt_0 (by decide) ?_
  refine x_iload_n C dX12_isLookedAt_2 rfl (lv_at hl 1 rfl) ?_
  refine x_imul C dX12_isLookedAt_3 ?_
  refine x_iload_n C dX12_isLookedAt_4 rfl (lv_at hl 2 rfl) ?_
  refine x_iadd C dX12_isLookedAt_5 ?_
  refine x_topi (fun x1 e2 => ?_)
  have h := h x1 e2
  refine x_istore_n (i := 3) (lv' := [(3, .int x1), (0, .ref a0), (1, .int p1), (2, .int p2)]) C dX12_isLookedAt_6 rfl hl (by decide) (by first | rfl | simp [vrc, cat_i, cat_r, cat_l]) (fun ls hl => ?_)
  refine x_iload_n C dX12_isLookedAt_7 rfl (lv_at hl 3 rfl) ?_
  refine x_iload_n C dX12_isLookedAt_8 rfl (lv_at hl 2 rfl) ?_
  refine x_icmp_eq (tgt := 26) C dX12_isLookedAt_9 (by decide) (fun c3 => ?_) (fun c3 => ?_)
  · have h := h.1 c3
    exact t_X12_isLookedAt_26 C hr hnm  x1 _ h ls (lv_sub hl [1, 0] rfl)
  · have h := h.2 c3
    refine x_aload_n C dX12_isLookedAt_12 rfl (lv_at hl 1 rfl) ?_
    obtain ⟨g4, h⟩ := h
    refine x_getP C fl_RX12_119 g4 dX12_isLookedAt_13 ?_
    refine x_iload_n C dX12_isLookedAt_16 rfl (lv_at hl 2 rfl) ?_
    obtain ⟨b5, g6, h⟩ := h
    refine x_nn1 g6 ?_
    obtain ⟨g7, h⟩ := h
    obtain ⟨g8, h⟩ := h
    refine x_iald C g7 g8 dX12_isLookedAt_17 ?_
    refine x_topi (fun x9 e10 => ?_)
    have h := h x9 e10
    refine x_iload_n C dX12_isLookedAt_18 rfl (lv_at hl 3 rfl) ?_
    refine x_ishr C dX12_isLookedAt_19 ?_
    refine x_iconst (v := 1) C dX12_isLookedAt_20 (by decide) ?_
    refine x_iand C dX12_isLookedAt_21 ?_
    refine x_iconst (v := 1) C dX12_isLookedAt_22 (by decide) ?_
    refine x_icmp_ne (tgt := 30) C dX12_isLookedAt_23 (by decide) (fun c11 => ?_) (fun c11 => ?_)
    · have h := h.1 c11
      refine x_iconst (v := 0) C dX12_isLookedAt_30 (by decide) ?_
      exact t_X12_isLookedAt_31 C hr hnm  x1 (0 : Int32) _ h ls (lv_sub hl [1, 0] rfl)
    · have h := h.2 c11
      exact t_X12_isLookedAt_26 C hr hnm  x1 _ h ls (lv_sub hl [1, 0] rfl)
theorem dX12_mergeSlot_0 : decode cX12_mergeSlot 0 = .ok (.iconst 0, 1) := by decide +kernel
theorem dX12_mergeSlot_1 : decode cX12_mergeSlot 1 = .ok (.istore_n 3, 1) := by decide +kernel
theorem dX12_mergeSlot_2 : decode cX12_mergeSlot 2 = .ok (.iconst (-1), 1) := by decide +kernel
theorem dX12_mergeSlot_3 : decode cX12_mergeSlot 3 = .ok (.istore 4, 2) := by decide +kernel
theorem dX12_mergeSlot_5 : decode cX12_mergeSlot 5 = .ok (.iconst 0, 1) := by decide +kernel
theorem dX12_mergeSlot_6 : decode cX12_mergeSlot 6 = .ok (.istore 5, 2) := by decide +kernel
theorem dX12_mergeSlot_8 : decode cX12_mergeSlot 8 = .ok (.iload 5, 2) := by decide +kernel
theorem dX12_mergeSlot_10 : decode cX12_mergeSlot 10 = .ok (.aload_n 0, 1) := by decide +kernel
theorem dX12_mergeSlot_11 : decode cX12_mergeSlot 11 = .ok (.getfield 258, 3) := by decide +kernel
theorem dX12_mergeSlot_14 : decode cX12_mergeSlot 14 = .ok (.if_icmp .ge 101, 3) := by decide +kernel
theorem dX12_mergeSlot_17 : decode cX12_mergeSlot 17 = .ok (.iload_n 1, 1) := by decide +kernel
theorem dX12_mergeSlot_18 : decode cX12_mergeSlot 18 = .ok (.iload 5, 2) := by decide +kernel
theorem dX12_mergeSlot_20 : decode cX12_mergeSlot 20 = .ok (.invokestatic 374, 3) := by decide +kernel
theorem dX12_mergeSlot_23 : decode cX12_mergeSlot 23 = .ok (.istore 6, 2) := by decide +kernel
theorem dX12_mergeSlot_25 : decode cX12_mergeSlot 25 = .ok (.bipush 7, 2) := by decide +kernel
theorem dX12_mergeSlot_27 : decode cX12_mergeSlot 27 = .ok (.iload_n 1, 1) := by decide +kernel
theorem dX12_mergeSlot_28 : decode cX12_mergeSlot 28 = .ok (.imul, 1) := by decide +kernel
theorem dX12_mergeSlot_29 : decode cX12_mergeSlot 29 = .ok (.iload 6, 2) := by decide +kernel
theorem dX12_mergeSlot_31 : decode cX12_mergeSlot 31 = .ok (.iadd, 1) := by decide +kernel
theorem dX12_mergeSlot_32 : decode cX12_mergeSlot 32 = .ok (.istore 7, 2) := by decide +kernel
theorem dX12_mergeSlot_34 : decode cX12_mergeSlot 34 = .ok (.aload_n 0, 1) := by decide +kernel
theorem dX12_mergeSlot_35 : decode cX12_mergeSlot 35 = .ok (.iload_n 1, 1) := by decide +kernel
theorem dX12_mergeSlot_36 : decode cX12_mergeSlot 36 = .ok (.iload 6, 2) := by decide +kernel
theorem dX12_mergeSlot_38 : decode cX12_mergeSlot 38 = .ok (.invokevirtual 377, 3) := by decide +kernel
theorem dX12_mergeSlot_41 : decode cX12_mergeSlot 41 = .ok (.ifCond .eq 68, 3) := by decide +kernel
theorem dX12_mergeSlot_44 : decode cX12_mergeSlot 44 = .ok (.iload_n 2, 1) := by decide +kernel
theorem dX12_mergeSlot_45 : decode cX12_mergeSlot 45 = .ok (.aload_n 0, 1) := by decide +kernel
theorem dX12_mergeSlot_46 : decode cX12_mergeSlot 46 = .ok (.getfield 131, 3) := by decide +kernel
theorem dX12_mergeSlot_49 : decode cX12_mergeSlot 49 = .ok (.iload 7, 2) := by decide +kernel
theorem dX12_mergeSlot_51 : decode cX12_mergeSlot 51 = .ok (.iaload, 1) := by decide +kernel
theorem dX12_mergeSlot_52 : decode cX12_mergeSlot 52 = .ok (.if_icmp .ge 57, 3) := by decide +kernel
theorem dX12_mergeSlot_55 : decode cX12_mergeSlot 55 = .ok (.bipush 100, 2) := by decide +kernel
theorem dX12_mergeSlot_57 : decode cX12_mergeSlot 57 = .ok (.iload 7, 2) := by decide +kernel
theorem dX12_mergeSlot_59 : decode cX12_mergeSlot 59 = .ok (.imul, 1) := by decide +kernel
theorem dX12_mergeSlot_60 : decode cX12_mergeSlot 60 = .ok (.iload_n 2, 1) := by decide +kernel
theorem dX12_mergeSlot_61 : decode cX12_mergeSlot 61 = .ok (.iadd, 1) := by decide +kernel
theorem dX12_mergeSlot_62 : decode cX12_mergeSlot 62 = .ok (.istore 8, 2) := by decide +kernel
theorem dX12_mergeSlot_64 : decode cX12_mergeSlot 64 = .ok (.iload_n 3, 1) := by decide +kernel
theorem dX12_mergeSlot_65 : decode cX12_mergeSlot 65 = .ok (.ifCond .ne 13, 3) := by decide +kernel
theorem dX12_mergeSlot_68 : decode cX12_mergeSlot 68 = .ok (.aload_n 0, 1) := by decide +kernel
theorem dX12_mergeSlot_69 : decode cX12_mergeSlot 69 = .ok (.getfield 134, 3) := by decide +kernel
theorem dX12_mergeSlot_72 : decode cX12_mergeSlot 72 = .ok (.iload 8, 2) := by decide +kernel
theorem dX12_mergeSlot_74 : decode cX12_mergeSlot 74 = .ok (.baload, 1) := by decide +kernel
theorem dX12_mergeSlot_75 : decode cX12_mergeSlot 75 = .ok (.ifCond .ne 7, 3) := by decide +kernel
theorem dX12_mergeSlot_78 : decode cX12_mergeSlot 78 = .ok (.iconst 1, 1) := by decide +kernel
theorem dX12_mergeSlot_79 : decode cX12_mergeSlot 79 = .ok (.goto 4, 3) := by decide +kernel
theorem dX12_mergeSlot_82 : decode cX12_mergeSlot 82 = .ok (.iconst 0, 1) := by decide +kernel
theorem dX12_mergeSlot_83 : decode cX12_mergeSlot 83 = .ok (.istore_n 3, 1) := by decide +kernel
theorem dX12_mergeSlot_84 : decode cX12_mergeSlot 84 = .ok (.iload 4, 2) := by decide +kernel
theorem dX12_mergeSlot_86 : decode cX12_mergeSlot 86 = .ok (.iconst (-1), 1) := by decide +kernel
theorem dX12_mergeSlot_87 : decode cX12_mergeSlot 87 = .ok (.if_icmp .ne 18, 3) := by decide +kernel
theorem dX12_mergeSlot_90 : decode cX12_mergeSlot 90 = .ok (.aload_n 0, 1) := by decide +kernel
theorem dX12_mergeSlot_91 : decode cX12_mergeSlot 91 = .ok (.getfield 134, 3) := by decide +kernel
theorem dX12_mergeSlot_94 : decode cX12_mergeSlot 94 = .ok (.iload 8, 2) := by decide +kernel
theorem dX12_mergeSlot_96 : decode cX12_mergeSlot 96 = .ok (.baload, 1) := by decide +kernel
theorem dX12_mergeSlot_97 : decode cX12_mergeSlot 97 = .ok (.ifCond .eq 8, 3) := by decide +kernel
theorem dX12_mergeSlot_100 : decode cX12_mergeSlot 100 = .ok (.iload 8, 2) := by decide +kernel
theorem dX12_mergeSlot_102 : decode cX12_mergeSlot 102 = .ok (.goto 5, 3) := by decide +kernel
theorem dX12_mergeSlot_105 : decode cX12_mergeSlot 105 = .ok (.iload 4, 2) := by decide +kernel
theorem dX12_mergeSlot_107 : decode cX12_mergeSlot 107 = .ok (.istore 4, 2) := by decide +kernel
theorem dX12_mergeSlot_109 : decode cX12_mergeSlot 109 = .ok (.iinc 5 1, 3) := by decide +kernel
theorem dX12_mergeSlot_112 : decode cX12_mergeSlot 112 = .ok (.goto (-104), 3) := by decide +kernel
theorem dX12_mergeSlot_115 : decode cX12_mergeSlot 115 = .ok (.bipush 100, 2) := by decide +kernel
theorem dX12_mergeSlot_117 : decode cX12_mergeSlot 117 = .ok (.iload_n 1, 1) := by decide +kernel
theorem dX12_mergeSlot_118 : decode cX12_mergeSlot 118 = .ok (.imul, 1) := by decide +kernel
theorem dX12_mergeSlot_119 : decode cX12_mergeSlot 119 = .ok (.iload_n 2, 1) := by decide +kernel
theorem dX12_mergeSlot_120 : decode cX12_mergeSlot 120 = .ok (.iadd, 1) := by decide +kernel
theorem dX12_mergeSlot_121 : decode cX12_mergeSlot 121 = .ok (.istore 5, 2) := by decide +kernel
theorem dX12_mergeSlot_123 : decode cX12_mergeSlot 123 = .ok (.aload_n 0, 1) := by decide +kernel
theorem dX12_mergeSlot_124 : decode cX12_mergeSlot 124 = .ok (.getfield 71, 3) := by decide +kernel
theorem dX12_mergeSlot_127 : decode cX12_mergeSlot 127 = .ok (.iload 5, 2) := by decide +kernel
theorem dX12_mergeSlot_129 : decode cX12_mergeSlot 129 = .ok (.iload_n 3, 1) := by decide +kernel
theorem dX12_mergeSlot_130 : decode cX12_mergeSlot 130 = .ok (.ifCond .ne 7, 3) := by decide +kernel
theorem dX12_mergeSlot_133 : decode cX12_mergeSlot 133 = .ok (.iconst 1, 1) := by decide +kernel
theorem dX12_mergeSlot_134 : decode cX12_mergeSlot 134 = .ok (.goto 4, 3) := by decide +kernel
theorem dX12_mergeSlot_137 : decode cX12_mergeSlot 137 = .ok (.iconst 0, 1) := by decide +kernel
theorem dX12_mergeSlot_138 : decode cX12_mergeSlot 138 = .ok (.bastore, 1) := by decide +kernel
theorem dX12_mergeSlot_139 : decode cX12_mergeSlot 139 = .ok (.iload_n 3, 1) := by decide +kernel
theorem dX12_mergeSlot_140 : decode cX12_mergeSlot 140 = .ok (.ifCond .eq 4, 3) := by decide +kernel
theorem dX12_mergeSlot_143 : decode cX12_mergeSlot 143 = .ok (.return_, 1) := by decide +kernel
theorem dX12_mergeSlot_144 : decode cX12_mergeSlot 144 = .ok (.aload_n 0, 1) := by decide +kernel
theorem dX12_mergeSlot_145 : decode cX12_mergeSlot 145 = .ok (.getfield 74, 3) := by decide +kernel
theorem dX12_mergeSlot_148 : decode cX12_mergeSlot 148 = .ok (.iload 5, 2) := by decide +kernel
theorem dX12_mergeSlot_150 : decode cX12_mergeSlot 150 = .ok (.aload_n 0, 1) := by decide +kernel
theorem dX12_mergeSlot_151 : decode cX12_mergeSlot 151 = .ok (.getfield 137, 3) := by decide +kernel
theorem dX12_mergeSlot_154 : decode cX12_mergeSlot 154 = .ok (.iload 4, 2) := by decide +kernel
theorem dX12_mergeSlot_156 : decode cX12_mergeSlot 156 = .ok (.iaload, 1) := by decide +kernel
theorem dX12_mergeSlot_157 : decode cX12_mergeSlot 157 = .ok (.iastore, 1) := by decide +kernel
theorem dX12_mergeSlot_158 : decode cX12_mergeSlot 158 = .ok (.aload_n 0, 1) := by decide +kernel
theorem dX12_mergeSlot_159 : decode cX12_mergeSlot 159 = .ok (.getfield 77, 3) := by decide +kernel
theorem dX12_mergeSlot_162 : decode cX12_mergeSlot 162 = .ok (.iload 5, 2) := by decide +kernel
theorem dX12_mergeSlot_164 : decode cX12_mergeSlot 164 = .ok (.aload_n 0, 1) := by decide +kernel
theorem dX12_mergeSlot_165 : decode cX12_mergeSlot 165 = .ok (.getfield 140, 3) := by decide +kernel
theorem dX12_mergeSlot_168 : decode cX12_mergeSlot 168 = .ok (.iload 4, 2) := by decide +kernel
theorem dX12_mergeSlot_170 : decode cX12_mergeSlot 170 = .ok (.iaload, 1) := by decide +kernel
theorem dX12_mergeSlot_171 : decode cX12_mergeSlot 171 = .ok (.iastore, 1) := by decide +kernel
theorem dX12_mergeSlot_172 : decode cX12_mergeSlot 172 = .ok (.aload_n 0, 1) := by decide +kernel
theorem dX12_mergeSlot_173 : decode cX12_mergeSlot 173 = .ok (.getfield 80, 3) := by decide +kernel
theorem dX12_mergeSlot_176 : decode cX12_mergeSlot 176 = .ok (.iload 5, 2) := by decide +kernel
theorem dX12_mergeSlot_178 : decode cX12_mergeSlot 178 = .ok (.aload_n 0, 1) := by decide +kernel
theorem dX12_mergeSlot_179 : decode cX12_mergeSlot 179 = .ok (.getfield 143, 3) := by decide +kernel
theorem dX12_mergeSlot_182 : decode cX12_mergeSlot 182 = .ok (.iload 4, 2) := by decide +kernel
theorem dX12_mergeSlot_184 : decode cX12_mergeSlot 184 = .ok (.iaload, 1) := by decide +kernel
theorem dX12_mergeSlot_185 : decode cX12_mergeSlot 185 = .ok (.iastore, 1) := by decide +kernel
theorem dX12_mergeSlot_186 : decode cX12_mergeSlot 186 = .ok (.aload_n 0, 1) := by decide +kernel
theorem dX12_mergeSlot_187 : decode cX12_mergeSlot 187 = .ok (.getfield 83, 3) := by decide +kernel
theorem dX12_mergeSlot_190 : decode cX12_mergeSlot 190 = .ok (.iload 5, 2) := by decide +kernel
theorem dX12_mergeSlot_192 : decode cX12_mergeSlot 192 = .ok (.aload_n 0, 1) := by decide +kernel
theorem dX12_mergeSlot_193 : decode cX12_mergeSlot 193 = .ok (.getfield 146, 3) := by decide +kernel
theorem dX12_mergeSlot_196 : decode cX12_mergeSlot 196 = .ok (.iload 4, 2) := by decide +kernel
theorem dX12_mergeSlot_198 : decode cX12_mergeSlot 198 = .ok (.iaload, 1) := by decide +kernel
theorem dX12_mergeSlot_199 : decode cX12_mergeSlot 199 = .ok (.iastore, 1) := by decide +kernel
theorem dX12_mergeSlot_200 : decode cX12_mergeSlot 200 = .ok (.aload_n 0, 1) := by decide +kernel
theorem dX12_mergeSlot_201 : decode cX12_mergeSlot 201 = .ok (.getfield 86, 3) := by decide +kernel
theorem dX12_mergeSlot_204 : decode cX12_mergeSlot 204 = .ok (.iload 5, 2) := by decide +kernel
theorem dX12_mergeSlot_206 : decode cX12_mergeSlot 206 = .ok (.aload_n 0, 1) := by decide +kernel
theorem dX12_mergeSlot_207 : decode cX12_mergeSlot 207 = .ok (.getfield 149, 3) := by decide +kernel
theorem dX12_mergeSlot_210 : decode cX12_mergeSlot 210 = .ok (.iload 4, 2) := by decide +kernel
theorem dX12_mergeSlot_212 : decode cX12_mergeSlot 212 = .ok (.iaload, 1) := by decide +kernel
theorem dX12_mergeSlot_213 : decode cX12_mergeSlot 213 = .ok (.iastore, 1) := by decide +kernel
theorem dX12_mergeSlot_214 : decode cX12_mergeSlot 214 = .ok (.return_, 1) := by decide +kernel
abbrev rm_X12_mergeSlot : Room := { frames := 1, cells := 0, slots := 0, locals := 24 }
def b_X12_mergeSlot_138 (a0 : Nat)  (Q : Sto → Prop) (p3 : Int32) (p4 : Int32) (p5 : Int32) (s0 : Int32) (s1 : Int32) (s2 : Option Nat) (σ : Sto) : Prop := (∃ b1 : Nat, s2 = some b1 ∧ (sK σ b1 = 16 ∧ (vp_in s1 (sN σ b1) ∧ ((p3 = 0 → (sK σ a0 = 12 ∧ (∃ b7 : Nat, sP σ a0 52 = some b7 ∧ (sK σ b7 = 14 ∧ (vp_in p4 (sN σ b7) ∧ (∀ x11 : Int32, x11 = sI (stI σ b1 s1.toNatClampNeg (vp_nar .boolean s0)) b7 p4.toNatClampNeg → (∃ b13 : Nat, sP σ a0 31 = some b13 ∧ (sK σ b13 = 14 ∧ (vp_in p5 (sN σ b13) ∧ (∃ b17 : Nat, sP σ a0 53 = some b17 ∧ (sK σ b17 = 14 ∧ (vp_in p4 (sN σ b17) ∧ (∀ x21 : Int32, x21 = sI (stI (stI σ b1 s1.toNatClampNeg (vp_nar .boolean s0)) b13 p5.toNatClampNeg x11) b17 p4.toNatClampNeg → (∃ b23 : Nat, sP σ a0 32 = some b23 ∧ (sK σ b23 = 14 ∧ (vp_in p5 (sN σ b23) ∧ (∃ b27 : Nat, sP σ a0 54 = some b27 ∧ (sK σ b27 = 14 ∧ (vp_in p4 (sN σ b27) ∧ (∀ x31 : Int32, x31 = sI (stI (stI (stI σ b1 s1.toNatClampNeg (vp_nar .boolean s0)) b13 p5.toNatClampNeg x11) b23 p5.toNatClampNeg x21) b27 p4.toNatClampNeg → (∃ b33 : Nat, sP σ a0 33 = some b33 ∧ (sK σ b33 = 14 ∧ (vp_in p5 (sN σ b33) ∧ (∃ b37 : Nat, sP σ a0 55 = some b37 ∧ (sK σ b37 = 14 ∧ (vp_in p4 (sN σ b37) ∧ (∀ x41 : Int32, x41 = sI (stI (stI (stI (stI σ b1 s1.toNatClampNeg (vp_nar .boolean s0)) b13 p5.toNatClampNeg x11) b23 p5.toNatClampNeg x21) b33 p5.toNatClampNeg x31) b37 p4.toNatClampNeg → (∃ b43 : Nat, sP σ a0 34 = some b43 ∧ (sK σ b43 = 14 ∧ (vp_in p5 (sN σ b43) ∧ (∃ b47 : Nat, sP σ a0 56 = some b47 ∧ (sK σ b47 = 14 ∧ (vp_in p4 (sN σ b47) ∧ (∀ x51 : Int32, x51 = sI (stI (stI (stI (stI (stI σ b1 s1.toNatClampNeg (vp_nar .boolean s0)) b13 p5.toNatClampNeg x11) b23 p5.toNatClampNeg x21) b33 p5.toNatClampNeg x31) b43 p5.toNatClampNeg x41) b47 p4.toNatClampNeg → (∃ b53 : Nat, sP σ a0 35 = some b53 ∧ (sK σ b53 = 14 ∧ (vp_in p5 (sN σ b53) ∧ Q (stI (stI (stI (stI (stI (stI σ b1 s1.toNatClampNeg (vp_nar .boolean s0)) b13 p5.toNatClampNeg x11) b23 p5.toNatClampNeg x21) b33 p5.toNatClampNeg x31) b43 p5.toNatClampNeg x41) b53 p5.toNatClampNeg x51)))))))))))))))))))))))))))))))))))))) ∧ (¬ p3 = 0 → Q (stI σ b1 s1.toNatClampNeg (vp_nar .boolean s0)))))))
set_option maxHeartbeats 4000000 in
set_option maxRecDepth 100000 in
theorem t_X12_mergeSlot_138 {p : Program} {l : Launch} {e : Env} {s : State} {m : MethodId} {args : Array Value} {below : List Frame} {meth : Method} {c : Code} {D : va_G} {cy : Nat → ClassId} {A : Nat → Prop} {a0 : Nat} {Q : Sto → Prop} (C : Cx p s m args meth c D cy A cX12_mergeSlot 9 RX12) (hr : meth.sig.returnType = none) (hnm : meth.name = yX12_mergeSlot.name) (p3 : Int32) (p4 : Int32) (p5 : Int32) (s0 : Int32) (s1 : Int32) (s2 : Option Nat) (σ : Sto) (h : b_X12_mergeSlot_138 a0  Q p3 p4 p5 s0 s1 s2 σ) (ls : Array Slot) (hl : lv_has ls 9 [(0, .ref a0), (3, .int p3), (4, .int p4), (5, .int p5)]) : Xw p l e rm_X12_mergeSlot s m args below meth c D cy A σ 0 0 (MQ below (Qst D cy A (PsV Q)) args s rm_X12_mergeSlot.cells rm_X12_mergeSlot.slots A) (F0 m 138 ls [.int s0, .int s1, va_rf s2]) := by
  unfold b_X12_mergeSlot_138 at h
  obtain ⟨b1, g2, h⟩ := h
  refine x_nn2 g2 ?_
  obtain ⟨g3, h⟩ := h
  obtain ⟨g4, h⟩ := h
  refine x_zast C g3 g4 dX12_mergeSlot_138 ?_
  refine x_iload_n C dX12_mergeSlot_139 rfl (lv_at hl 1 rfl) ?_
  refine x_if_eq (tgt := 144) C dX12_mergeSlot_140 (by decide) (fun c5 => ?_) (fun c5 => ?_)
  · have h := h.1 c5
    refine x_aload_n C dX12_mergeSlot_144 rfl (lv_at hl 0 rfl) ?_
    obtain ⟨g6, h⟩ := h
    refine x_getP C fl_RX12_74 g6 dX12_mergeSlot_145 ?_
    refine x_iload C dX12_mergeSlot_148 (lv_at hl 3 rfl) ?_
    refine x_aload_n C dX12_mergeSlot_150 rfl (lv_at hl 0 rfl) ?_
    refine x_getP C fl_RX12_137 g6 dX12_mergeSlot_151 ?_
    refine x_iload C dX12_mergeSlot_154 (lv_at hl 2 rfl) ?_
    obtain ⟨b7, g8, h⟩ := h
    refine x_nn1 g8 ?_
    obtain ⟨g9, h⟩ := h
    obtain ⟨g10, h⟩ := h
    refine x_iald C g9 g10 dX12_mergeSlot_156 ?_
    refine x_topi (fun x11 e12 => ?_)
    have h := h x11 e12
    obtain ⟨b13, g14, h⟩ := h
    refine x_nn2 g14 ?_
    obtain ⟨g15, h⟩ := h
    obtain ⟨g16, h⟩ := h
    refine x_iast C g15 g16 dX12_mergeSlot_157 ?_
    refine x_aload_n C dX12_mergeSlot_158 rfl (lv_at hl 0 rfl) ?_
    refine x_getP C fl_RX12_77 g6 dX12_mergeSlot_159 ?_
    refine x_iload C dX12_mergeSlot_162 (lv_at hl 3 rfl) ?_
    refine x_aload_n C dX12_mergeSlot_164 rfl (lv_at hl 0 rfl) ?_
    refine x_getP C fl_RX12_140 g6 dX12_mergeSlot_165 ?_
    refine x_iload C dX12_mergeSlot_168 (lv_at hl 2 rfl) ?_
    obtain ⟨b17, g18, h⟩ := h
    refine x_nn1 g18 ?_
    obtain ⟨g19, h⟩ := h
    obtain ⟨g20, h⟩ := h
    refine x_iald C g19 g20 dX12_mergeSlot_170 ?_
    refine x_topi (fun x21 e22 => ?_)
    have h := h x21 e22
    obtain ⟨b23, g24, h⟩ := h
    refine x_nn2 g24 ?_
    obtain ⟨g25, h⟩ := h
    obtain ⟨g26, h⟩ := h
    refine x_iast C g25 g26 dX12_mergeSlot_171 ?_
    refine x_aload_n C dX12_mergeSlot_172 rfl (lv_at hl 0 rfl) ?_
    refine x_getP C fl_RX12_80 g6 dX12_mergeSlot_173 ?_
    refine x_iload C dX12_mergeSlot_176 (lv_at hl 3 rfl) ?_
    refine x_aload_n C dX12_mergeSlot_178 rfl (lv_at hl 0 rfl) ?_
    refine x_getP C fl_RX12_143 g6 dX12_mergeSlot_179 ?_
    refine x_iload C dX12_mergeSlot_182 (lv_at hl 2 rfl) ?_
    obtain ⟨b27, g28, h⟩ := h
    refine x_nn1 g28 ?_
    obtain ⟨g29, h⟩ := h
    obtain ⟨g30, h⟩ := h
    refine x_iald C g29 g30 dX12_mergeSlot_184 ?_
    refine x_topi (fun x31 e32 => ?_)
    have h := h x31 e32
    obtain ⟨b33, g34, h⟩ := h
    refine x_nn2 g34 ?_
    obtain ⟨g35, h⟩ := h
    obtain ⟨g36, h⟩ := h
    refine x_iast C g35 g36 dX12_mergeSlot_185 ?_
    refine x_aload_n C dX12_mergeSlot_186 rfl (lv_at hl 0 rfl) ?_
    refine x_getP C fl_RX12_83 g6 dX12_mergeSlot_187 ?_
    refine x_iload C dX12_mergeSlot_190 (lv_at hl 3 rfl) ?_
    refine x_aload_n C dX12_mergeSlot_192 rfl (lv_at hl 0 rfl) ?_
    refine x_getP C fl_RX12_146 g6 dX12_mergeSlot_193 ?_
    refine x_iload C dX12_mergeSlot_196 (lv_at hl 2 rfl) ?_
    obtain ⟨b37, g38, h⟩ := h
    refine x_nn1 g38 ?_
    obtain ⟨g39, h⟩ := h
    obtain ⟨g40, h⟩ := h
    refine x_iald C g39 g40 dX12_mergeSlot_198 ?_
    refine x_topi (fun x41 e42 => ?_)
    have h := h x41 e42
    obtain ⟨b43, g44, h⟩ := h
    refine x_nn2 g44 ?_
    obtain ⟨g45, h⟩ := h
    obtain ⟨g46, h⟩ := h
    refine x_iast C g45 g46 dX12_mergeSlot_199 ?_
    refine x_aload_n C dX12_mergeSlot_200 rfl (lv_at hl 0 rfl) ?_
    refine x_getP C fl_RX12_86 g6 dX12_mergeSlot_201 ?_
    refine x_iload C dX12_mergeSlot_204 (lv_at hl 3 rfl) ?_
    refine x_aload_n C dX12_mergeSlot_206 rfl (lv_at hl 0 rfl) ?_
    refine x_getP C fl_RX12_149 g6 dX12_mergeSlot_207 ?_
    refine x_iload C dX12_mergeSlot_210 (lv_at hl 2 rfl) ?_
    obtain ⟨b47, g48, h⟩ := h
    refine x_nn1 g48 ?_
    obtain ⟨g49, h⟩ := h
    obtain ⟨g50, h⟩ := h
    refine x_iald C g49 g50 dX12_mergeSlot_212 ?_
    refine x_topi (fun x51 e52 => ?_)
    have h := h x51 e52
    obtain ⟨b53, g54, h⟩ := h
    refine x_nn2 g54 ?_
    obtain ⟨g55, h⟩ := h
    obtain ⟨g56, h⟩ := h
    refine x_iast C g55 g56 dX12_mergeSlot_213 ?_
    exact x_vret C hr dX12_mergeSlot_214 ⟨rfl, h⟩
  · have h := h.2 c5
    exact x_vret C hr dX12_mergeSlot_143 ⟨rfl, h⟩
def b_X12_mergeSlot_109 (a0 : Nat) (L8 : Int32 × Int32 × Int32 × Int32 × Int32 → Sto → Prop) (Q : Sto → Prop) (p1 : Int32) (p2 : Int32) (p3 : Int32) (p4 : Int32) (p5 : Int32) (σ : Sto) : Prop := (∀ x1 : Int32, x1 = p5 + (1 : Int32) → L8 (p1, p2, p3, p4, x1) σ)
set_option maxHeartbeats 4000000 in
set_option maxRecDepth 100000 in
theorem t_X12_mergeSlot_109 {p : Program} {l : Launch} {e : Env} {s : State} {m : MethodId} {args : Array Value} {below : List Frame} {meth : Method} {c : Code} {D : va_G} {cy : Nat → ClassId} {A : Nat → Prop} {a0 : Nat} {L8 : Int32 × Int32 × Int32 × Int32 × Int32 → Sto → Prop} {Q : Sto → Prop} (C : Cx p s m args meth c D cy A cX12_mergeSlot 9 RX12) (hr : meth.sig.returnType = none) (hnm : meth.name = yX12_mergeSlot.name) (hL8 : ∀ (t : Int32 × Int32 × Int32 × Int32 × Int32) (σ : Sto), L8 t σ → ∀ ls : Array Slot, lv_has ls 9 [(0, .ref a0), (1, .int t.1), (2, .int t.2.1), (3, .int t.2.2.1), (4, .int t.2.2.2.1), (5, .int t.2.2.2.2)] → Xw p l e rm_X12_mergeSlot s m args below meth c D cy A σ 0 0 (MQ below (Qst D cy A (PsV Q)) args s rm_X12_mergeSlot.cells rm_X12_mergeSlot.slots A) (F0 m 8 ls [])) (p1 : Int32) (p2 : Int32) (p3 : Int32) (p4 : Int32) (p5 : Int32) (σ : Sto) (h : b_X12_mergeSlot_109 a0 L8 Q p1 p2 p3 p4 p5 σ) (ls : Array Slot) (hl : lv_has ls 9 [(0, .ref a0), (1, .int p1), (2, .int p2), (3, .int p3), (4, .int p4), (5, .int p5)]) : Xw p l e rm_X12_mergeSlot s m args below meth c D cy A σ 0 0 (MQ below (Qst D cy A (PsV Q)) args s rm_X12_mergeSlot.cells rm_X12_mergeSlot.slots A) (F0 m 109 ls []) := by
  unfold b_X12_mergeSlot_109 at h
  obtain ⟨x1, e2⟩ : ∃ z : Int32, z = p5 + (1 : Int32) := ⟨_, rfl⟩
  have h := h x1 e2
  refine x_iinc (v := x1) (lv' := [(5, .int x1), (0, .ref a0), (1, .int p1), (2, .int p2), (3, .int p3), (4, .int p4)]) C dX12_mergeSlot_109 hl (q0 := 5) rfl (by rw [e2]; rfl) (by decide) (by first | rfl | simp [vrc, cat_i, cat_r, cat_l]) (fun ls hl => ?_)
  refine x_goto (tgt := 8) C dX12_mergeSlot_112 (by decide) ?_
  exact hL8 (p1, p2, p3, p4, x1) _ h ls (lv_sub hl [1, 2, 3, 4, 5, 0] rfl)
def b_X12_mergeSlot_107 (a0 : Nat) (L8 : Int32 × Int32 × Int32 × Int32 × Int32 → Sto → Prop) (Q : Sto → Prop) (p1 : Int32) (p2 : Int32) (p3 : Int32) (p5 : Int32) (s0 : Int32) (σ : Sto) : Prop := b_X12_mergeSlot_109 a0 L8 Q p1 p2 p3 s0 p5 σ
set_option maxHeartbeats 4000000 in
set_option maxRecDepth 100000 in
theorem t_X12_mergeSlot_107 {p : Program} {l : Launch} {e : Env} {s : State} {m : MethodId} {args : Array Value} {below : List Frame} {meth : Method} {c : Code} {D : va_G} {cy : Nat → ClassId} {A : Nat → Prop} {a0 : Nat} {L8 : Int32 × Int32 × Int32 × Int32 × Int32 → Sto → Prop} {Q : Sto → Prop} (C : Cx p s m args meth c D cy A cX12_mergeSlot 9 RX12) (hr : meth.sig.returnType = none) (hnm : meth.name = yX12_mergeSlot.name) (hL8 : ∀ (t : Int32 × Int32 × Int32 × Int32 × Int32) (σ : Sto), L8 t σ → ∀ ls : Array Slot, lv_has ls 9 [(0, .ref a0), (1, .int t.1), (2, .int t.2.1), (3, .int t.2.2.1), (4, .int t.2.2.2.1), (5, .int t.2.2.2.2)] → Xw p l e rm_X12_mergeSlot s m args below meth c D cy A σ 0 0 (MQ below (Qst D cy A (PsV Q)) args s rm_X12_mergeSlot.cells rm_X12_mergeSlot.slots A) (F0 m 8 ls [])) (p1 : Int32) (p2 : Int32) (p3 : Int32) (p5 : Int32) (s0 : Int32) (σ : Sto) (h : b_X12_mergeSlot_107 a0 L8 Q p1 p2 p3 p5 s0 σ) (ls : Array Slot) (hl : lv_has ls 9 [(0, .ref a0), (1, .int p1), (2, .int p2), (3, .int p3), (5, .int p5)]) : Xw p l e rm_X12_mergeSlot s m args below meth c D cy A σ 0 0 (MQ below (Qst D cy A (PsV Q)) args s rm_X12_mergeSlot.cells rm_X12_mergeSlot.slots A) (F0 m 107 ls [.int s0]) := by
  unfold b_X12_mergeSlot_107 at h
  refine x_istore (i := 4) (lv' := [(4, .int s0), (0, .ref a0), (1, .int p1), (2, .int p2), (3, .int p3), (5, .int p5)]) C dX12_mergeSlot_107 hl (by decide) (by first | rfl | simp [vrc, cat_i, cat_r, cat_l]) (fun ls hl => ?_)
  exact t_X12_mergeSlot_109 C hr hnm hL8 p1 p2 p3 s0 p5 _ h ls (lv_sub hl [1, 2, 3, 4, 0, 5] rfl)
def b_X12_mergeSlot_105 (a0 : Nat) (L8 : Int32 × Int32 × Int32 × Int32 × Int32 → Sto → Prop) (Q : Sto → Prop) (p1 : Int32) (p2 : Int32) (p3 : Int32) (p4 : Int32) (p5 : Int32) (σ : Sto) : Prop := b_X12_mergeSlot_107 a0 L8 Q p1 p2 p3 p5 p4 σ
set_option maxHeartbeats 4000000 in
set_option maxRecDepth 100000 in
theorem t_X12_mergeSlot_105 {p : Program} {l : Launch} {e : Env} {s : State} {m : MethodId} {args : Array Value} {below : List Frame} {meth : Method} {c : Code} {D : va_G} {cy : Nat → ClassId} {A : Nat → Prop} {a0 : Nat} {L8 : Int32 × Int32 × Int32 × Int32 × Int32 → Sto → Prop} {Q : Sto → Prop} (C : Cx p s m args meth c D cy A cX12_mergeSlot 9 RX12) (hr : meth.sig.returnType = none) (hnm : meth.name = yX12_mergeSlot.name) (hL8 : ∀ (t : Int32 × Int32 × Int32 × Int32 × Int32) (σ : Sto), L8 t σ → ∀ ls : Array Slot, lv_has ls 9 [(0, .ref a0), (1, .int t.1), (2, .int t.2.1), (3, .int t.2.2.1), (4, .int t.2.2.2.1), (5, .int t.2.2.2.2)] → Xw p l e rm_X12_mergeSlot s m args below meth c D cy A σ 0 0 (MQ below (Qst D cy A (PsV Q)) args s rm_X12_mergeSlot.cells rm_X12_mergeSlot.slots A) (F0 m 8 ls [])) (p1 : Int32) (p2 : Int32) (p3 : Int32) (p4 : Int32) (p5 : Int32) (σ : Sto) (h : b_X12_mergeSlot_105 a0 L8 Q p1 p2 p3 p4 p5 σ) (ls : Array Slot) (hl : lv_has ls 9 [(0, .ref a0), (1, .int p1), (2, .int p2), (3, .int p3), (4, .int p4), (5, .int p5)]) : Xw p l e rm_X12_mergeSlot s m args below meth c D cy A σ 0 0 (MQ below (Qst D cy A (PsV Q)) args s rm_X12_mergeSlot.cells rm_X12_mergeSlot.slots A) (F0 m 105 ls []) := by
  unfold b_X12_mergeSlot_105 at h
  refine x_iload C dX12_mergeSlot_105 (lv_at hl 4 rfl) ?_
  exact t_X12_mergeSlot_107 C hr hnm hL8 p1 p2 p3 p5 p4 _ h ls (lv_sub hl [0, 1, 2, 3, 5] rfl)
def b_X12_mergeSlot_83 (a0 : Nat) (L8 : Int32 × Int32 × Int32 × Int32 × Int32 → Sto → Prop) (Q : Sto → Prop) (p1 : Int32) (p2 : Int32) (p4 : Int32) (p5 : Int32) (p8 : Int32) (s0 : Int32) (σ : Sto) : Prop := ((¬ p4 = (-1 : Int32) → b_X12_mergeSlot_105 a0 L8 Q p1 p2 s0 p4 p5 σ) ∧ (p4 = (-1 : Int32) → (sK σ a0 = 12 ∧ (∃ b3 : Nat, sP σ a0 51 = some b3 ∧ (sK σ b3 = 16 ∧ (vp_in p8 (sN σ b3) ∧ (∀ x7 : Int32, x7 = sI σ b3 p8.toNatClampNeg → ((x7 = 0 → b_X12_mergeSlot_105 a0 L8 Q p1 p2 s0 p4 p5 σ) ∧ (¬ x7 = 0 → b_X12_mergeSlot_107 a0 L8 Q p1 p2 s0 p5 p8 σ)))))))))
set_option maxHeartbeats 4000000 in
set_option maxRecDepth 100000 in
theorem t_X12_mergeSlot_83 {p : Program} {l : Launch} {e : Env} {s : State} {m : MethodId} {args : Array Value} {below : List Frame} {meth : Method} {c : Code} {D : va_G} {cy : Nat → ClassId} {A : Nat → Prop} {a0 : Nat} {L8 : Int32 × Int32 × Int32 × Int32 × Int32 → Sto → Prop} {Q : Sto → Prop} (C : Cx p s m args meth c D cy A cX12_mergeSlot 9 RX12) (hr : meth.sig.returnType = none) (hnm : meth.name = yX12_mergeSlot.name) (hL8 : ∀ (t : Int32 × Int32 × Int32 × Int32 × Int32) (σ : Sto), L8 t σ → ∀ ls : Array Slot, lv_has ls 9 [(0, .ref a0), (1, .int t.1), (2, .int t.2.1), (3, .int t.2.2.1), (4, .int t.2.2.2.1), (5, .int t.2.2.2.2)] → Xw p l e rm_X12_mergeSlot s m args below meth c D cy A σ 0 0 (MQ below (Qst D cy A (PsV Q)) args s rm_X12_mergeSlot.cells rm_X12_mergeSlot.slots A) (F0 m 8 ls [])) (p1 : Int32) (p2 : Int32) (p4 : Int32) (p5 : Int32) (p8 : Int32) (s0 : Int32) (σ : Sto) (h : b_X12_mergeSlot_83 a0 L8 Q p1 p2 p4 p5 p8 s0 σ) (ls : Array Slot) (hl : lv_has ls 9 [(0, .ref a0), (1, .int p1), (2, .int p2), (4, .int p4), (5, .int p5), (8, .int p8)]) : Xw p l e rm_X12_mergeSlot s m args below meth c D cy A σ 0 0 (MQ below (Qst D cy A (PsV Q)) args s rm_X12_mergeSlot.cells rm_X12_mergeSlot.slots A) (F0 m 83 ls [.int s0]) := by
  unfold b_X12_mergeSlot_83 at h
  refine x_istore_n (i := 3) (lv' := [(3, .int s0), (0, .ref a0), (1, .int p1), (2, .int p2), (4, .int p4), (5, .int p5), (8, .int p8)]) C dX12_mergeSlot_83 rfl hl (by decide) (by first | rfl | simp [vrc, cat_i, cat_r, cat_l]) (fun ls hl => ?_)
  refine x_iload C dX12_mergeSlot_84 (lv_at hl 4 rfl) ?_
  refine x_iconst (v := -1) C dX12_mergeSlot_86 (by decide) ?_
  refine x_icmp_ne (tgt := 105) C dX12_mergeSlot_87 (by decide) (fun c1 => ?_) (fun c1 => ?_)
  · have h := h.1 c1
    exact t_X12_mergeSlot_105 C hr hnm hL8 p1 p2 s0 p4 p5 _ h ls (lv_sub hl [1, 2, 3, 0, 4, 5] rfl)
  · have h := h.2 c1
    refine x_aload_n C dX12_mergeSlot_90 rfl (lv_at hl 1 rfl) ?_
    obtain ⟨g2, h⟩ := h
    refine x_getP C fl_RX12_134 g2 dX12_mergeSlot_91 ?_
    refine x_iload C dX12_mergeSlot_94 (lv_at hl 6 rfl) ?_
    obtain ⟨b3, g4, h⟩ := h
    refine x_nn1 g4 ?_
    obtain ⟨g5, h⟩ := h
    obtain ⟨g6, h⟩ := h
    refine x_zald C g5 g6 dX12_mergeSlot_96 ?_
    refine x_topi (fun x7 e8 => ?_)
    have h := h x7 e8
    refine x_if_eq (tgt := 105) C dX12_mergeSlot_97 (by decide) (fun c9 => ?_) (fun c9 => ?_)
    · have h := h.1 c9
      exact t_X12_mergeSlot_105 C hr hnm hL8 p1 p2 s0 p4 p5 _ h ls (lv_sub hl [1, 2, 3, 0, 4, 5] rfl)
    · have h := h.2 c9
      refine x_iload C dX12_mergeSlot_100 (lv_at hl 6 rfl) ?_
      refine x_goto (tgt := 107) C dX12_mergeSlot_102 (by decide) ?_
      exact t_X12_mergeSlot_107 C hr hnm hL8 p1 p2 s0 p5 p8 _ h ls (lv_sub hl [1, 2, 3, 0, 5] rfl)
def b_X12_mergeSlot_78 (a0 : Nat) (L8 : Int32 × Int32 × Int32 × Int32 × Int32 → Sto → Prop) (Q : Sto → Prop) (p1 : Int32) (p2 : Int32) (p4 : Int32) (p5 : Int32) (p8 : Int32) (σ : Sto) : Prop := b_X12_mergeSlot_83 a0 L8 Q p1 p2 p4 p5 p8 (1 : Int32) σ
set_option maxHeartbeats 4000000 in
set_option maxRecDepth 100000 in
theorem t_X12_mergeSlot_78 {p : Program} {l : Launch} {e : Env} {s : State} {m : MethodId} {args : Array Value} {below : List Frame} {meth : Method} {c : Code} {D : va_G} {cy : Nat → ClassId} {A : Nat → Prop} {a0 : Nat} {L8 : Int32 × Int32 × Int32 × Int32 × Int32 → Sto → Prop} {Q : Sto → Prop} (C : Cx p s m args meth c D cy A cX12_mergeSlot 9 RX12) (hr : meth.sig.returnType = none) (hnm : meth.name = yX12_mergeSlot.name) (hL8 : ∀ (t : Int32 × Int32 × Int32 × Int32 × Int32) (σ : Sto), L8 t σ → ∀ ls : Array Slot, lv_has ls 9 [(0, .ref a0), (1, .int t.1), (2, .int t.2.1), (3, .int t.2.2.1), (4, .int t.2.2.2.1), (5, .int t.2.2.2.2)] → Xw p l e rm_X12_mergeSlot s m args below meth c D cy A σ 0 0 (MQ below (Qst D cy A (PsV Q)) args s rm_X12_mergeSlot.cells rm_X12_mergeSlot.slots A) (F0 m 8 ls [])) (p1 : Int32) (p2 : Int32) (p4 : Int32) (p5 : Int32) (p8 : Int32) (σ : Sto) (h : b_X12_mergeSlot_78 a0 L8 Q p1 p2 p4 p5 p8 σ) (ls : Array Slot) (hl : lv_has ls 9 [(0, .ref a0), (1, .int p1), (2, .int p2), (4, .int p4), (5, .int p5), (8, .int p8)]) : Xw p l e rm_X12_mergeSlot s m args below meth c D cy A σ 0 0 (MQ below (Qst D cy A (PsV Q)) args s rm_X12_mergeSlot.cells rm_X12_mergeSlot.slots A) (F0 m 78 ls []) := by
  unfold b_X12_mergeSlot_78 at h
  refine x_iconst (v := 1) C dX12_mergeSlot_78 (by decide) ?_
  refine x_goto (tgt := 83) C dX12_mergeSlot_79 (by decide) ?_
  exact t_X12_mergeSlot_83 C hr hnm hL8 p1 p2 p4 p5 p8 (1 : Int32) _ h ls (lv_sub hl [0, 1, 2, 3, 4, 5] rfl)
def f_X12_mergeSlot_8 (a0 : Nat)  (Q : Sto → Prop) (L8 : Int32 × Int32 × Int32 × Int32 × Int32 → Sto → Prop) (t : Int32 × Int32 × Int32 × Int32 × Int32) (σ : Sto) : Prop := (sK σ a0 = 12 ∧ (∀ x2 : Int32, x2 = sI σ a0 1 → ((x2 ≤ t.2.2.2.2 → (∀ x5 : Int32, x5 = ((100 : Int32) * t.1) + t.2.1 → ((¬ t.2.2.1 = 0 → b_X12_mergeSlot_138 a0  Q t.2.2.1 t.2.2.2.1 x5 (0 : Int32) x5 (sP σ a0 30) σ) ∧ (t.2.2.1 = 0 → b_X12_mergeSlot_138 a0  Q t.2.2.1 t.2.2.2.1 x5 (1 : Int32) x5 (sP σ a0 30) σ)))) ∧ (¬ x2 ≤ t.2.2.2.2 → (wp_X12_inTurn t.1 t.2.2.2.2 σ (fun (x9 : Int32) (σ8 : Sto) => (∀ x10 : Int32, x10 = ((7 : Int32) * t.1) + x9 → (sK σ8 a0 = 12 ∧ (wp_X12_isLookedAt a0 t.1 x9 σ8 (fun (x14 : Int32) (σ13 : Sto) => ((x14 = 0 → b_X12_mergeSlot_109 a0 L8 Q t.1 t.2.1 t.2.2.1 t.2.2.2.1 t.2.2.2.2 σ13) ∧ (¬ x14 = 0 → (sK σ13 a0 = 12 ∧ (∃ b17 : Nat, sP σ13 a0 50 = some b17 ∧ (sK σ13 b17 = 14 ∧ (vp_in x10 (sN σ13 b17) ∧ (∀ x21 : Int32, x21 = sI σ13 b17 x10.toNatClampNeg → ((x21 ≤ t.2.1 → b_X12_mergeSlot_109 a0 L8 Q t.1 t.2.1 t.2.2.1 t.2.2.2.1 t.2.2.2.2 σ13) ∧ (¬ x21 ≤ t.2.1 → (∀ x24 : Int32, x24 = ((100 : Int32) * x10) + t.2.1 → ((¬ t.2.2.1 = 0 → b_X12_mergeSlot_78 a0 L8 Q t.1 t.2.1 t.2.2.2.1 t.2.2.2.2 x24 σ13) ∧ (t.2.2.1 = 0 → (∃ b27 : Nat, sP σ13 a0 51 = some b27 ∧ (sK σ13 b27 = 16 ∧ (vp_in x24 (sN σ13 b27) ∧ (∀ x31 : Int32, x31 = sI σ13 b27 x24.toNatClampNeg → ((¬ x31 = 0 → b_X12_mergeSlot_83 a0 L8 Q t.1 t.2.1 t.2.2.2.1 t.2.2.2.2 x24 (0 : Int32) σ13) ∧ (x31 = 0 → b_X12_mergeSlot_78 a0 L8 Q t.1 t.2.1 t.2.2.2.1 t.2.2.2.2 x24 σ13))))))))))))))))))))))))))))
set_option maxHeartbeats 4000000 in
set_option maxRecDepth 100000 in
theorem t_X12_mergeSlot_8 {p : Program} {l : Launch} {e : Env} {s : State} {m : MethodId} {args : Array Value} {below : List Frame} {meth : Method} {c : Code} {D : va_G} {cy : Nat → ClassId} {A : Nat → Prop} {a0 : Nat} {Q : Sto → Prop} {L8 : Int32 × Int32 × Int32 × Int32 × Int32 → Sto → Prop} (C : Cx p s m args meth c D cy A cX12_mergeSlot 9 RX12) (hr : meth.sig.returnType = none) (hnm : meth.name = yX12_mergeSlot.name) (hL8 : ∀ (t : Int32 × Int32 × Int32 × Int32 × Int32) (σ : Sto), L8 t σ → ∀ ls : Array Slot, lv_has ls 9 [(0, .ref a0), (1, .int t.1), (2, .int t.2.1), (3, .int t.2.2.1), (4, .int t.2.2.2.1), (5, .int t.2.2.2.2)] → Xw p l e rm_X12_mergeSlot s m args below meth c D cy A σ 0 0 (MQ below (Qst D cy A (PsV Q)) args s rm_X12_mergeSlot.cells rm_X12_mergeSlot.slots A) (F0 m 8 ls [])) : ∀ (t : Int32 × Int32 × Int32 × Int32 × Int32) (σ : Sto), f_X12_mergeSlot_8 a0  Q L8 t σ → ∀ ls : Array Slot, lv_has ls 9 [(0, .ref a0), (1, .int t.1), (2, .int t.2.1), (3, .int t.2.2.1), (4, .int t.2.2.2.1), (5, .int t.2.2.2.2)] → Xw p l e rm_X12_mergeSlot s m args below meth c D cy A σ 0 0 (MQ below (Qst D cy A (PsV Q)) args s rm_X12_mergeSlot.cells rm_X12_mergeSlot.slots A) (F0 m 8 ls []) := by
  intro t σ h ls hl
  unfold f_X12_mergeSlot_8 at h
  refine x_iload C dX12_mergeSlot_8 (lv_at hl 5 rfl) ?_
  refine x_aload_n C dX12_mergeSlot_10 rfl (lv_at hl 0 rfl) ?_
  obtain ⟨g1, h⟩ := h
  refine x_getI C fl_RX12_258 g1 dX12_mergeSlot_11 ?_
  refine x_topi (fun x2 e3 => ?_)
  have h := h x2 e3
  refine x_icmp_ge (tgt := 115) C dX12_mergeSlot_14 (by decide) (fun c4 => ?_) (fun c4 => ?_)
  · have h := h.1 c4
    refine x_bipush (v := 100) C dX12_mergeSlot_115 (by decide) ?_
    refine x_iload_n C dX12_mergeSlot_117 rfl (lv_at hl 1 rfl) ?_
    refine x_imul C dX12_mergeSlot_118 ?_
    refine x_iload_n C dX12_mergeSlot_119 rfl (lv_at hl 2 rfl) ?_
    refine x_iadd C dX12_mergeSlot_120 ?_
    refine x_topi (fun x5 e6 => ?_)
    have h := h x5 e6
    refine x_istore (i := 5) (lv' := [(5, .int x5), (0, .ref a0), (1, .int t.1), (2, .int t.2.1), (3, .int t.2.2.1), (4, .int t.2.2.2.1)]) C dX12_mergeSlot_121 hl (by decide) (by first | rfl | simp [vrc, cat_i, cat_r, cat_l]) (fun ls hl => ?_)
    refine x_aload_n C dX12_mergeSlot_123 rfl (lv_at hl 1 rfl) ?_
    refine x_getP C fl_RX12_71 g1 dX12_mergeSlot_124 ?_
    refine x_iload C dX12_mergeSlot_127 (lv_at hl 0 rfl) ?_
    refine x_iload_n C dX12_mergeSlot_129 rfl (lv_at hl 4 rfl) ?_
    refine x_if_ne (tgt := 137) C dX12_mergeSlot_130 (by decide) (fun c7 => ?_) (fun c7 => ?_)
    · have h := h.1 c7
      refine x_iconst (v := 0) C dX12_mergeSlot_137 (by decide) ?_
      exact t_X12_mergeSlot_138 C hr hnm  t.2.2.1 t.2.2.2.1 x5 (0 : Int32) x5 (sP σ a0 30) _ h ls (lv_sub hl [1, 4, 5, 0] rfl)
    · have h := h.2 c7
      refine x_iconst (v := 1) C dX12_mergeSlot_133 (by decide) ?_
      refine x_goto (tgt := 138) C dX12_mergeSlot_134 (by decide) ?_
      exact t_X12_mergeSlot_138 C hr hnm  t.2.2.1 t.2.2.2.1 x5 (1 : Int32) x5 (sP σ a0 30) _ h ls (lv_sub hl [1, 4, 5, 0] rfl)
  · have h := h.2 c4
    refine x_iload_n C dX12_mergeSlot_17 rfl (lv_at hl 1 rfl) ?_
    refine x_iload C dX12_mergeSlot_18 (lv_at hl 5 rfl) ?_
    refine x_callS (rm := rm_X12_inTurn) (rest := []) (As := [.int t.1, .int t.2.2.2.2]) C cs_RX12_374 (by decide) (by decide) rfl rfl (Nat.le_of_ble_eq_true rfl) hl.1 dX12_mergeSlot_20 (c_X12_inTurn l D cy t.1 t.2.2.2.2 σ _ h) (ks_i (fun x9 σ8 h => ?_))
    refine x_istore (i := 6) (lv' := [(6, .int x9), (0, .ref a0), (1, .int t.1), (2, .int t.2.1), (3, .int t.2.2.1), (4, .int t.2.2.2.1), (5, .int t.2.2.2.2)]) C dX12_mergeSlot_23 hl (by decide) (by first | rfl | simp [vrc, cat_i, cat_r, cat_l]) (fun ls hl => ?_)
    refine x_bipush (v := 7) C dX12_mergeSlot_25 (by decide) ?_
    refine x_iload_n C dX12_mergeSlot_27 rfl (lv_at hl 2 rfl) ?_
    refine x_imul C dX12_mergeSlot_28 ?_
    refine x_iload C dX12_mergeSlot_29 (lv_at hl 0 rfl) ?_
    refine x_iadd C dX12_mergeSlot_31 ?_
    refine x_topi (fun x10 e11 => ?_)
    have h := h x10 e11
    refine x_istore (i := 7) (lv' := [(7, .int x10), (6, .int x9), (0, .ref a0), (1, .int t.1), (2, .int t.2.1), (3, .int t.2.2.1), (4, .int t.2.2.2.1), (5, .int t.2.2.2.2)]) C dX12_mergeSlot_32 hl (by decide) (by first | rfl | simp [vrc, cat_i, cat_r, cat_l]) (fun ls hl => ?_)
    refine x_aload_n C dX12_mergeSlot_34 rfl (lv_at hl 2 rfl) ?_
    refine x_iload_n C dX12_mergeSlot_35 rfl (lv_at hl 3 rfl) ?_
    refine x_iload C dX12_mergeSlot_36 (lv_at hl 1 rfl) ?_
    obtain ⟨g12, h⟩ := h
    refine x_callV (rm := rm_X12_isLookedAt) (rest := []) (As := [.int t.1, .int x9]) C cy_RX12_377 g12 (by decide) (by decide) rfl rfl (Nat.le_of_ble_eq_true rfl) hl.1 dX12_mergeSlot_38 (c_X12_isLookedAt l D cy a0 t.1 x9 σ8 _ h) (ks_i (fun x14 σ13 h => ?_))
    refine x_if_eq (tgt := 109) C dX12_mergeSlot_41 (by decide) (fun c15 => ?_) (fun c15 => ?_)
    · have h := h.1 c15
      exact t_X12_mergeSlot_109 C hr hnm hL8 t.1 t.2.1 t.2.2.1 t.2.2.2.1 t.2.2.2.2 _ h ls (lv_sub hl [2, 3, 4, 5, 6, 7] rfl)
    · have h := h.2 c15
      refine x_iload_n C dX12_mergeSlot_44 rfl (lv_at hl 4 rfl) ?_
      refine x_aload_n C dX12_mergeSlot_45 rfl (lv_at hl 2 rfl) ?_
      obtain ⟨g16, h⟩ := h
      refine x_getP C fl_RX12_131 g16 dX12_mergeSlot_46 ?_
      refine x_iload C dX12_mergeSlot_49 (lv_at hl 0 rfl) ?_
      obtain ⟨b17, g18, h⟩ := h
      refine x_nn1 g18 ?_
      obtain ⟨g19, h⟩ := h
      obtain ⟨g20, h⟩ := h
      refine x_iald C g19 g20 dX12_mergeSlot_51 ?_
      refine x_topi (fun x21 e22 => ?_)
      have h := h x21 e22
      refine x_icmp_ge (tgt := 109) C dX12_mergeSlot_52 (by decide) (fun c23 => ?_) (fun c23 => ?_)
      · have h := h.1 c23
        exact t_X12_mergeSlot_109 C hr hnm hL8 t.1 t.2.1 t.2.2.1 t.2.2.2.1 t.2.2.2.2 _ h ls (lv_sub hl [2, 3, 4, 5, 6, 7] rfl)
      · have h := h.2 c23
        refine x_bipush (v := 100) C dX12_mergeSlot_55 (by decide) ?_
        refine x_iload C dX12_mergeSlot_57 (lv_at hl 0 rfl) ?_
        refine x_imul C dX12_mergeSlot_59 ?_
        refine x_iload_n C dX12_mergeSlot_60 rfl (lv_at hl 4 rfl) ?_
        refine x_iadd C dX12_mergeSlot_61 ?_
        refine x_topi (fun x24 e25 => ?_)
        have h := h x24 e25
        refine x_istore (i := 8) (lv' := [(8, .int x24), (7, .int x10), (6, .int x9), (0, .ref a0), (1, .int t.1), (2, .int t.2.1), (3, .int t.2.2.1), (4, .int t.2.2.2.1), (5, .int t.2.2.2.2)]) C dX12_mergeSlot_62 hl (by decide) (by first | rfl | simp [vrc, cat_i, cat_r, cat_l]) (fun ls hl => ?_)
        refine x_iload_n C dX12_mergeSlot_64 rfl (lv_at hl 6 rfl) ?_
        refine x_if_ne (tgt := 78) C dX12_mergeSlot_65 (by decide) (fun c26 => ?_) (fun c26 => ?_)
        · have h := h.1 c26
          exact t_X12_mergeSlot_78 C hr hnm hL8 t.1 t.2.1 t.2.2.2.1 t.2.2.2.2 x24 _ h ls (lv_sub hl [3, 4, 5, 7, 8, 0] rfl)
        · have h := h.2 c26
          refine x_aload_n C dX12_mergeSlot_68 rfl (lv_at hl 3 rfl) ?_
          refine x_getP C fl_RX12_134 g16 dX12_mergeSlot_69 ?_
          refine x_iload C dX12_mergeSlot_72 (lv_at hl 0 rfl) ?_
          obtain ⟨b27, g28, h⟩ := h
          refine x_nn1 g28 ?_
          obtain ⟨g29, h⟩ := h
          obtain ⟨g30, h⟩ := h
          refine x_zald C g29 g30 dX12_mergeSlot_74 ?_
          refine x_topi (fun x31 e32 => ?_)
          have h := h x31 e32
          refine x_if_ne (tgt := 82) C dX12_mergeSlot_75 (by decide) (fun c33 => ?_) (fun c33 => ?_)
          · have h := h.1 c33
            refine x_iconst (v := 0) C dX12_mergeSlot_82 (by decide) ?_
            exact t_X12_mergeSlot_83 C hr hnm hL8 t.1 t.2.1 t.2.2.2.1 t.2.2.2.2 x24 (0 : Int32) _ h ls (lv_sub hl [3, 4, 5, 7, 8, 0] rfl)
          · have h := h.2 c33
            exact t_X12_mergeSlot_78 C hr hnm hL8 t.1 t.2.1 t.2.2.2.1 t.2.2.2.2 x24 _ h ls (lv_sub hl [3, 4, 5, 7, 8, 0] rfl)
def wp_X12_mergeSlot (a0 : Nat) (p1 : Int32) (p2 : Int32) (σ : Sto) (Q : Sto → Prop) : Prop := LF (f_X12_mergeSlot_8 a0  Q) (p1, p2, (0 : Int32), (-1 : Int32), (0 : Int32)) σ
set_option maxHeartbeats 4000000 in
set_option maxRecDepth 100000 in
theorem c_X12_mergeSlot (l : Launch) (D : va_G) (cy : Nat → ClassId) (a0 : Nat) (p1 : Int32) (p2 : Int32) (σ : Sto) (Q : Sto → Prop) (h : wp_X12_mergeSlot a0 p1 p2 σ Q) : Mt l D cy yX12_mergeSlot cX12_mergeSlot 9 none rm_X12_mergeSlot [.ref a0, .int p1, .int p2] σ (PsV Q) := by
  unfold wp_X12_mergeSlot at h
  refine mt_of (by decide +kernel) (Nat.le_of_ble_eq_true rfl) ?_
  intro p e s m args below meth c A ls C hr hnm hl
  have C : Cx p s m args meth c D cy A cX12_mergeSlot 9 RX12 := C
  have hl : lv_has ls 9 [(0, .ref a0), (1, .int p1), (2, .int p2)] := hl
  refine x_iconst (v := 0) C dX12_mergeSlot_0 (by decide) ?_
  refine x_istore_n (i := 3) (lv' := [(3, .int (0 : Int32)), (0, .ref a0), (1, .int p1), (2, .int p2)]) C dX12_mergeSlot_1 rfl hl (by decide) (by first | rfl | simp [vrc, cat_i, cat_r, cat_l]) (fun ls hl => ?_)
  refine x_iconst (v := -1) C dX12_mergeSlot_2 (by decide) ?_
  refine x_istore (i := 4) (lv' := [(4, .int (-1 : Int32)), (3, .int (0 : Int32)), (0, .ref a0), (1, .int p1), (2, .int p2)]) C dX12_mergeSlot_3 hl (by decide) (by first | rfl | simp [vrc, cat_i, cat_r, cat_l]) (fun ls hl => ?_)
  refine x_iconst (v := 0) C dX12_mergeSlot_5 (by decide) ?_
  refine x_istore (i := 5) (lv' := [(5, .int (0 : Int32)), (4, .int (-1 : Int32)), (3, .int (0 : Int32)), (0, .ref a0), (1, .int p1), (2, .int p2)]) C dX12_mergeSlot_6 hl (by decide) (by first | rfl | simp [vrc, cat_i, cat_r, cat_l]) (fun ls hl => ?_)
  exact h (fun t σ => ∀ ls : Array Slot, lv_has ls 9 [(0, .ref a0), (1, .int t.1), (2, .int t.2.1), (3, .int t.2.2.1), (4, .int t.2.2.2.1), (5, .int t.2.2.2.2)] → Xw p l e rm_X12_mergeSlot s m args below meth c D cy A σ 0 0 (MQ below (Qst D cy A (PsV Q)) args s rm_X12_mergeSlot.cells rm_X12_mergeSlot.slots A) (F0 m 8 ls [])) (t_X12_mergeSlot_8 C hr hnm  (fun t σ h => h)) ls (lv_sub hl [3, 4, 5, 2, 1, 0] rfl)
theorem dX12_becomeNormal_0 : decode cX12_becomeNormal 0 = .ok (.aload_n 0, 1) := by decide +kernel
theorem dX12_becomeNormal_1 : decode cX12_becomeNormal 1 = .ok (.getfield 50, 3) := by decide +kernel
theorem dX12_becomeNormal_4 : decode cX12_becomeNormal 4 = .ok (.iload_n 1, 1) := by decide +kernel
theorem dX12_becomeNormal_5 : decode cX12_becomeNormal 5 = .ok (.iconst 0, 1) := by decide +kernel
theorem dX12_becomeNormal_6 : decode cX12_becomeNormal 6 = .ok (.iastore, 1) := by decide +kernel
theorem dX12_becomeNormal_7 : decode cX12_becomeNormal 7 = .ok (.aload_n 0, 1) := by decide +kernel
theorem dX12_becomeNormal_8 : decode cX12_becomeNormal 8 = .ok (.getfield 53, 3) := by decide +kernel
theorem dX12_becomeNormal_11 : decode cX12_becomeNormal 11 = .ok (.iload_n 1, 1) := by decide +kernel
theorem dX12_becomeNormal_12 : decode cX12_becomeNormal 12 = .ok (.aload_n 0, 1) := by decide +kernel
theorem dX12_becomeNormal_13 : decode cX12_becomeNormal 13 = .ok (.getfield 44, 3) := by decide +kernel
theorem dX12_becomeNormal_16 : decode cX12_becomeNormal 16 = .ok (.iload_n 1, 1) := by decide +kernel
theorem dX12_becomeNormal_17 : decode cX12_becomeNormal 17 = .ok (.iaload, 1) := by decide +kernel
theorem dX12_becomeNormal_18 : decode cX12_becomeNormal 18 = .ok (.iastore, 1) := by decide +kernel
theorem dX12_becomeNormal_19 : decode cX12_becomeNormal 19 = .ok (.aload_n 0, 1) := by decide +kernel
theorem dX12_becomeNormal_20 : decode cX12_becomeNormal 20 = .ok (.getfield 56, 3) := by decide +kernel
theorem dX12_becomeNormal_23 : decode cX12_becomeNormal 23 = .ok (.iload_n 1, 1) := by decide +kernel
theorem dX12_becomeNormal_24 : decode cX12_becomeNormal 24 = .ok (.aload_n 0, 1) := by decide +kernel
theorem dX12_becomeNormal_25 : decode cX12_becomeNormal 25 = .ok (.getfield 47, 3) := by decide +kernel
theorem dX12_becomeNormal_28 : decode cX12_becomeNormal 28 = .ok (.iload_n 1, 1) := by decide +kernel
theorem dX12_becomeNormal_29 : decode cX12_becomeNormal 29 = .ok (.iaload, 1) := by decide +kernel
theorem dX12_becomeNormal_30 : decode cX12_becomeNormal 30 = .ok (.iastore, 1) := by decide +kernel
theorem dX12_becomeNormal_31 : decode cX12_becomeNormal 31 = .ok (.aload_n 0, 1) := by decide +kernel
theorem dX12_becomeNormal_32 : decode cX12_becomeNormal 32 = .ok (.getfield 152, 3) := by decide +kernel
theorem dX12_becomeNormal_35 : decode cX12_becomeNormal 35 = .ok (.iload_n 1, 1) := by decide +kernel
theorem dX12_becomeNormal_36 : decode cX12_becomeNormal 36 = .ok (.aload_n 0, 1) := by decide +kernel
theorem dX12_becomeNormal_37 : decode cX12_becomeNormal 37 = .ok (.getfield 318, 3) := by decide +kernel
theorem dX12_becomeNormal_40 : decode cX12_becomeNormal 40 = .ok (.iastore, 1) := by decide +kernel
theorem dX12_becomeNormal_41 : decode cX12_becomeNormal 41 = .ok (.return_, 1) := by decide +kernel
abbrev rm_X12_becomeNormal : Room := { frames := 0, cells := 0, slots := 0, locals := 0 }
def wp_X12_becomeNormal (a0 : Nat) (p1 : Int32) (σ : Sto) (Q : Sto → Prop) : Prop := (sK σ a0 = 12 ∧ (∃ b2 : Nat, sP σ a0 23 = some b2 ∧ (sK σ b2 = 14 ∧ (vp_in p1 (sN σ b2) ∧ (∃ b6 : Nat, sP σ a0 21 = some b6 ∧ (sK σ b6 = 14 ∧ (vp_in p1 (sN σ b6) ∧ (∀ x10 : Int32, x10 = sI (stI σ b2 p1.toNatClampNeg (0 : Int32)) b6 p1.toNatClampNeg → (∃ b12 : Nat, sP σ a0 24 = some b12 ∧ (sK σ b12 = 14 ∧ (vp_in p1 (sN σ b12) ∧ (∃ b16 : Nat, sP σ a0 22 = some b16 ∧ (sK σ b16 = 14 ∧ (vp_in p1 (sN σ b16) ∧ (∀ x20 : Int32, x20 = sI (stI (stI σ b2 p1.toNatClampNeg (0 : Int32)) b12 p1.toNatClampNeg x10) b16 p1.toNatClampNeg → (∃ b22 : Nat, sP σ a0 25 = some b22 ∧ (sK σ b22 = 14 ∧ (vp_in p1 (sN σ b22) ∧ (∀ x26 : Int32, x26 = sI (stI (stI (stI σ b2 p1.toNatClampNeg (0 : Int32)) b12 p1.toNatClampNeg x10) b22 p1.toNatClampNeg x20) a0 4 → (∃ b28 : Nat, sP σ a0 57 = some b28 ∧ (sK σ b28 = 14 ∧ (vp_in p1 (sN σ b28) ∧ Q (stI (stI (stI (stI σ b2 p1.toNatClampNeg (0 : Int32)) b12 p1.toNatClampNeg x10) b22 p1.toNatClampNeg x20) b28 p1.toNatClampNeg x26)))))))))))))))))))))))
set_option maxHeartbeats 4000000 in
set_option maxRecDepth 100000 in
theorem c_X12_becomeNormal (l : Launch) (D : va_G) (cy : Nat → ClassId) (a0 : Nat) (p1 : Int32) (σ : Sto) (Q : Sto → Prop) (h : wp_X12_becomeNormal a0 p1 σ Q) : Mt l D cy yX12_becomeNormal cX12_becomeNormal 2 none rm_X12_becomeNormal [.ref a0, .int p1] σ (PsV Q) := by
  unfold wp_X12_becomeNormal at h
  refine mt_of (by decide +kernel) (Nat.le_of_ble_eq_true rfl) ?_
  intro p e s m args below meth c A ls C hr hnm hl
  have C : Cx p s m args meth c D cy A cX12_becomeNormal 2 RX12 := C
  have hl : lv_has ls 2 [(0, .ref a0), (1, .int p1)] := hl
  refine x_aload_n C dX12_becomeNormal_0 rfl (lv_at hl 0 rfl) ?_
  obtain ⟨g1, h⟩ := h
  refine x_getP C fl_RX12_50 g1 dX12_becomeNormal_1 ?_
  refine x_iload_n C dX12_becomeNormal_4 rfl (lv_at hl 1 rfl) ?_
  refine x_iconst (v := 0) C dX12_becomeNormal_5 (by decide) ?_
  obtain ⟨b2, g3, h⟩ := h
  refine x_nn2 g3 ?_
  obtain ⟨g4, h⟩ := h
  obtain ⟨g5, h⟩ := h
  refine x_iast C g4 g5 dX12_becomeNormal_6 ?_
  refine x_aload_n C dX12_becomeNormal_7 rfl (lv_at hl 0 rfl) ?_
  refine x_getP C fl_RX12_53 g1 dX12_becomeNormal_8 ?_
  refine x_iload_n C dX12_becomeNormal_11 rfl (lv_at hl 1 rfl) ?_
  refine x_aload_n C dX12_becomeNormal_12 rfl (lv_at hl 0 rfl) ?_
  refine x_getP C fl_RX12_44 g1 dX12_becomeNormal_13 ?_
  refine x_iload_n C dX12_becomeNormal_16 rfl (lv_at hl 1 rfl) ?_
  obtain ⟨b6, g7, h⟩ := h
  refine x_nn1 g7 ?_
  obtain ⟨g8, h⟩ := h
  obtain ⟨g9, h⟩ := h
  refine x_iald C g8 g9 dX12_becomeNormal_17 ?_
  refine x_topi (fun x10 e11 => ?_)
  have h := h x10 e11
  obtain ⟨b12, g13, h⟩ := h
  refine x_nn2 g13 ?_
  obtain ⟨g14, h⟩ := h
  obtain ⟨g15, h⟩ := h
  refine x_iast C g14 g15 dX12_becomeNormal_18 ?_
  refine x_aload_n C dX12_becomeNormal_19 rfl (lv_at hl 0 rfl) ?_
  refine x_getP C fl_RX12_56 g1 dX12_becomeNormal_20 ?_
  refine x_iload_n C dX12_becomeNormal_23 rfl (lv_at hl 1 rfl) ?_
  refine x_aload_n C dX12_becomeNormal_24 rfl (lv_at hl 0 rfl) ?_
  refine x_getP C fl_RX12_47 g1 dX12_becomeNormal_25 ?_
  refine x_iload_n C dX12_becomeNormal_28 rfl (lv_at hl 1 rfl) ?_
  obtain ⟨b16, g17, h⟩ := h
  refine x_nn1 g17 ?_
  obtain ⟨g18, h⟩ := h
  obtain ⟨g19, h⟩ := h
  refine x_iald C g18 g19 dX12_becomeNormal_29 ?_
  refine x_topi (fun x20 e21 => ?_)
  have h := h x20 e21
  obtain ⟨b22, g23, h⟩ := h
  refine x_nn2 g23 ?_
  obtain ⟨g24, h⟩ := h
  obtain ⟨g25, h⟩ := h
  refine x_iast C g24 g25 dX12_becomeNormal_30 ?_
  refine x_aload_n C dX12_becomeNormal_31 rfl (lv_at hl 0 rfl) ?_
  refine x_getP C fl_RX12_152 g1 dX12_becomeNormal_32 ?_
  refine x_iload_n C dX12_becomeNormal_35 rfl (lv_at hl 1 rfl) ?_
  refine x_aload_n C dX12_becomeNormal_36 rfl (lv_at hl 0 rfl) ?_
  refine x_getI C fl_RX12_318 g1 dX12_becomeNormal_37 ?_
  refine x_topi (fun x26 e27 => ?_)
  have h := h x26 e27
  obtain ⟨b28, g29, h⟩ := h
  refine x_nn2 g29 ?_
  obtain ⟨g30, h⟩ := h
  obtain ⟨g31, h⟩ := h
  refine x_iast C g30 g31 dX12_becomeNormal_40 ?_
  exact x_vret C hr dX12_becomeNormal_41 ⟨rfl, h⟩
