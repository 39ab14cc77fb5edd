theorem lt_t1 {w : Cond} (i : Nat) (h : tables_1_1[i]? = some w) : w ∈ lw_tbl := List.mem_append_right _ (List.mem_append_left _ (List.mem_of_getElem? h))
theorem lt_t2 {w : Cond} (i : Nat) (h : tables_1_2[i]? = some w) : w ∈ lw_tbl := List.mem_append_right _ (List.mem_append_right _ (List.mem_append_left _ (List.mem_of_getElem? h)))
theorem lt_t3 {w : Cond} (i : Nat) (h : tables_1_3[i]? = some w) : w ∈ lw_tbl := List.mem_append_right _ (List.mem_append_right _ (List.mem_append_right _ (List.mem_append_left _ (List.mem_of_getElem? h))))
theorem lt_t4 {w : Cond} (i : Nat) (h : tables_1_4[i]? = some w) : w ∈ lw_tbl := List.mem_append_right _ (List.mem_append_right _ (List.mem_append_right _ (List.mem_append_right _ (List.mem_append_left _ (List.mem_of_getElem? h)))))
theorem lt_t5 {w : Cond} (i : Nat) (h : tables_1_5[i]? = some w) : w ∈ lw_tbl := List.mem_append_right _ (List.mem_append_right _ (List.mem_append_right _ (List.mem_append_right _ (List.mem_append_right _ (List.mem_append_left _ (List.mem_of_getElem? h))))))
theorem lt_t6 {w : Cond} (i : Nat) (h : tables_1_6[i]? = some w) : w ∈ lw_tbl := List.mem_append_right _ (List.mem_append_right _ (List.mem_append_right _ (List.mem_append_right _ (List.mem_append_right _ (List.mem_append_right _ (List.mem_append_left _ (List.mem_of_getElem? h)))))))
theorem lt_t7 {w : Cond} (i : Nat) (h : tables_1_7[i]? = some w) : w ∈ lw_tbl := List.mem_append_right _ (List.mem_append_right _ (List.mem_append_right _ (List.mem_append_right _ (List.mem_append_right _ (List.mem_append_right _ (List.mem_append_right _ (List.mem_append_left _ (List.mem_of_getElem? h))))))))
theorem lt_t8 {w : Cond} (i : Nat) (h : tables_1_8[i]? = some w) : w ∈ lw_tbl := List.mem_append_right _ (List.mem_append_right _ (List.mem_append_right _ (List.mem_append_right _ (List.mem_append_right _ (List.mem_append_right _ (List.mem_append_right _ (List.mem_append_right _ (List.mem_append_left _ (List.mem_of_getElem? h)))))))))
theorem lt_t9 {w : Cond} (i : Nat) (h : tables_1_9[i]? = some w) : w ∈ lw_tbl := List.mem_append_right _ (List.mem_append_right _ (List.mem_append_right _ (List.mem_append_right _ (List.mem_append_right _ (List.mem_append_right _ (List.mem_append_right _ (List.mem_append_right _ (List.mem_append_right _ (List.mem_of_getElem? h)))))))))
theorem arr_o {s : State} {C : String} (h : va_AO C s) : ∃ cA : ClassId, ArrOfT s cA (.object C) ∧ va_RA s cA (.object C) := by
  obtain ⟨comp, c, k, h1, h2, h3, h4, h5⟩ := Cond.arrayOver_spec h
  exact ⟨c, fun N z => ⟨(fun k h => by cases h), k, h3, comp, h4⟩, k, comp, h3, h4, h1, h5⟩
theorem arr_p {args : Array Value} {s : State} {ty : FieldType} (h : (Cond.arrayClass ty).before args s = true) (hr : ∀ cA : ClassId, s.vm.findClass ("[" ++ ty.toString) = some cA → va_RA s cA ty) : ∃ cA : ClassId, ArrOfT s cA ty ∧ va_RA s cA ty := by
  obtain ⟨c, k, comp, h1, h2, h3⟩ := Cond.arrayClass_spec h
  exact ⟨c, fun N z => ⟨(fun k h => by cases h), k, h2, comp, h3⟩, hr c h1⟩
set_option maxRecDepth 100000 in
theorem m_nst : ∀ q ∈ nstL, Cond.methodLinkNest q.1 q.2.1 q.2.2.1 q.2.2.2 ∈ lw_tbl := by
  intro q hq
  simp only [nstL, List.mem_cons, List.not_mem_nil, or_false] at hq
  rcases hq with rfl | rfl | rfl | rfl | rfl | rfl | rfl | rfl | rfl | rfl | rfl | rfl | rfl | rfl | rfl | rfl
  · exact (lt_t1 42 rfl)
  · exact (lt_t1 48 rfl)
  · exact (lt_t1 179 rfl)
  · exact (lt_t1 211 rfl)
  · exact (lt_t1 216 rfl)
  · exact (lt_t1 229 rfl)
  · exact (lt_t2 93 rfl)
  · exact (lt_t2 157 rfl)
  · exact (lt_t3 62 rfl)
  · exact (lt_t3 107 rfl)
  · exact (lt_t3 117 rfl)
  · exact (lt_t3 119 rfl)
  · exact (lt_t3 208 rfl)
  · exact (lt_t4 202 rfl)
  · exact (lt_t4 203 rfl)
  · exact (lt_t4 205 rfl)
set_option maxRecDepth 100000 in
theorem m_ao : ∀ C ∈ aoL, Cond.arrayOver (.object C) ∈ lw_tbl := by
  intro q hq
  simp only [aoL, List.mem_cons, List.not_mem_nil, or_false] at hq
  rcases hq with rfl | rfl | rfl | rfl | rfl | rfl
  · exact (lt_t1 40 rfl)
  · exact (lt_t1 53 rfl)
  · exact (lt_t1 205 rfl)
  · exact (lt_t1 228 rfl)
  · exact (lt_t2 85 rfl)
  · exact (lt_t2 126 rfl)
set_option maxRecDepth 100000 in
theorem m_dec : ∀ x ∈ decL, Cond.declares x ∈ lw_tbl := by
  intro q hq
  simp only [decL, List.mem_cons, List.not_mem_nil, or_false] at hq
  rcases hq with rfl | rfl | rfl
  · exact (lt_t3 228 rfl)
  · exact (lt_t3 230 rfl)
  · exact (lt_t3 232 rfl)
set_option maxRecDepth 100000 in
theorem m_cas : ∀ C ∈ casL, Cond.castable C C ∈ lw_tbl := by
  intro q hq
  simp only [casL, List.mem_cons, List.not_mem_nil, or_false] at hq
  rcases hq with rfl | rfl | rfl
  · exact (lt_t3 226 rfl)
  · exact (lt_t4 53 rfl)
  · exact (lt_t4 69 rfl)
set_option maxRecDepth 100000 in
theorem m_str : ∀ q ∈ strL, Cond.stringRef RX11 q.1 q.2 ∈ lw_tbl := by
  intro q hq
  simp only [strL, List.mem_cons, List.not_mem_nil, or_false] at hq
  rcases hq with rfl | rfl | rfl | rfl | rfl | rfl | rfl | rfl | rfl | rfl | rfl | rfl | rfl | rfl
  · exact (lt_t4 25 rfl)
  · exact (lt_t4 60 rfl)
  · exact (lt_t4 76 rfl)
  · exact (lt_t4 143 rfl)
  · exact (lt_t4 144 rfl)
  · exact (lt_t4 157 rfl)
  · exact (lt_t5 111 rfl)
  · exact (lt_t5 119 rfl)
  · exact (lt_t5 124 rfl)
  · exact (lt_t5 133 rfl)
  · exact (lt_t5 141 rfl)
  · exact (lt_t5 164 rfl)
  · exact (lt_t5 194 rfl)
  · exact (lt_t6 47 rfl)
set_option maxRecDepth 100000 in
theorem m_lu : Cond.laysStatic Bundle.tN "UNASSIGNED_STACK" Bundle.steD ∈ lw_tbl := (lt_t4 11 rfl)
set_option maxRecDepth 100000 in
theorem m_ln : Cond.laysStatic Bundle.tN "SUPPRESSED_SENTINEL" Bundle.listD ∈ lw_tbl := (lt_t4 13 rfl)
set_option maxRecDepth 100000 in
theorem m_it : Cond.initialized Bundle.tN ∈ lw_tbl := (lt_t1 14 rfl)
/-- what the Statement gives of the start, in the words of the contracts -/
theorem start_kk {s : State} {m : MethodId} {b : Nat} (hts : ∀ w ∈ lw_tbl, w.before #[Value.ref b] s = true) : ∃ (D : va_G) (cy : Nat → ClassId), KK D cy s := by
  have htA : ∀ w ∈ AW, w.before #[Value.ref b] s = true := fun w h => hts w (List.mem_filter.mp h).1
  obtain ⟨c0, i0, k0⟩ := u_known (C := RX0) (T := TX0) (N := 2) (n := 2) htA lay_0 (htA _ ins_0)
  obtain ⟨c1, i1, k1⟩ := u_known (C := RX1) (T := TX1) (N := 8) (n := 8) htA lay_1 (htA _ ins_1)
  obtain ⟨c2, i2, k2⟩ := u_known (C := RX2) (T := TX2) (N := 3) (n := 3) htA lay_2 (htA _ ins_2)
  obtain ⟨c3, i3, k3⟩ := u_known (C := RX3) (T := TX3) (N := 12) (n := 12) htA lay_3 (htA _ ins_3)
  obtain ⟨c4, i4, k4⟩ := u_known (C := RX4) (T := TX4) (N := 9) (n := 9) htA lay_4 (htA _ ins_4)
  obtain ⟨c5, i5, k5⟩ := u_known (C := RX5) (T := TX5) (N := 9) (n := 9) htA lay_5 (htA _ ins_5)
  obtain ⟨c6, i6, k6⟩ := u_known (C := RX6) (T := TX6) (N := 6) (n := 6) htA lay_6 (htA _ ins_6)
  obtain ⟨c7, i7, k7⟩ := u_known (C := RX7) (T := TX7) (N := 6) (n := 6) htA lay_7 (htA _ ins_7)
  obtain ⟨c8, i8, k8⟩ := u_known (C := RX8) (T := TX8) (N := 16) (n := 16) htA lay_8 (htA _ ins_8)
  obtain ⟨c9, i9, k9⟩ := u_known (C := RX9) (T := TX9) (N := 5) (n := 5) htA lay_9 (htA _ ins_9)
  obtain ⟨c10, i10, k10⟩ := u_known (C := RX10) (T := TX10) (N := 5) (n := 5) htA lay_10 (htA _ ins_10)
  obtain ⟨c11, i11, k11⟩ := u_known (C := RX11) (T := TX11) (N := 14) (n := 14) htA lay_11 (htA _ ins_11)
  obtain ⟨c12, i12, k12⟩ := u_known (C := RX12) (T := TX12) (N := 99) (n := 99) htA lay_12 (htA _ ins_12)
  have hKc : ∀ (k : Nat) (q : vw_C), vwCl[k]? = some q → u_Kn s q.1 q.2.1 q.2.2 (([c0, c1, c2, c3, c4, c5, c6, c7, c8, c9, c10, c11, c12] : List ClassId).getD k c0) (([i0, i1, i2, i3, i4, i5, i6, i7, i8, i9, i10, i11, i12] : List (Nat → Nat)).getD k i0) := by
    intro k q hq
    match k, hq with
    | 0, hq => cases hq; exact k0
    | 1, hq => cases hq; exact k1
    | 2, hq => cases hq; exact k2
    | 3, hq => cases hq; exact k3
    | 4, hq => cases hq; exact k4
    | 5, hq => cases hq; exact k5
    | 6, hq => cases hq; exact k6
    | 7, hq => cases hq; exact k7
    | 8, hq => cases hq; exact k8
    | 9, hq => cases hq; exact k9
    | 10, hq => cases hq; exact k10
    | 11, hq => cases hq; exact k11
    | 12, hq => cases hq; exact k12
    | k + 13, hq => simp [vwCl] at hq
  have hao : ∀ C ∈ aoL, va_AO C s := fun C hC => hts _ (m_ao C hC)
  obtain ⟨a13, g13⟩ := arr_p (ty := .byte) (hts _ (lt_t2 175 rfl)) (fun cA h => h)
  obtain ⟨a14, g14⟩ := arr_p (ty := .int) (hts _ (lt_t1 202 rfl)) (fun cA h => h)
  obtain ⟨a15, g15⟩ := arr_p (ty := .long) (hts _ (lt_t2 26 rfl)) (fun cA h => h)
  obtain ⟨a16, g16⟩ := arr_p (ty := .boolean) (hts _ (lt_t1 203 rfl)) (fun cA h => h)
  obtain ⟨a17, g17⟩ := arr_o (hao "OrderedWorks$Client" (by decide +kernel))
  obtain ⟨a18, g18⟩ := arr_o (hao "OrderedWorks$Log" (by decide +kernel))
  obtain ⟨a19, g19⟩ := arr_o (hao "OrderedWorks$Message" (by decide +kernel))
  obtain ⟨a20, g20⟩ := arr_o (hao "OrderedWorks$Place" (by decide +kernel))
  obtain ⟨a21, g21⟩ := arr_o (hao "OrderedWorks$Replica" (by decide +kernel))
  obtain ⟨a22, g22⟩ := arr_o (hao "OrderedWorks$Request" (by decide +kernel))
  refine ⟨(fun k => ([c0, c1, c2, c3, c4, c5, c6, c7, c8, c9, c10, c11, c12] : List ClassId).getD k c0, fun k => ([i0, i1, i2, i3, i4, i5, i6, i7, i8, i9, i10, i11, i12] : List (Nat → Nat)).getD k i0), fun k => ([a13, a14, a15, a16, a17, a18, a19, a20, a21, a22] : List ClassId).getD (k - 13) c0, ⟨hKc, ?_⟩, fun q hq => va_Nw.of rfl (hts _ (m_nst q hq)), hao⟩
  intro k q hq
  match k, hq with
  | 0, hq => cases hq; exact g13
  | 1, hq => cases hq; exact g14
  | 2, hq => cases hq; exact g15
  | 3, hq => cases hq; exact g16
  | 4, hq => cases hq; exact g17
  | 5, hq => cases hq; exact g18
  | 6, hq => cases hq; exact g19
  | 7, hq => cases hq; exact g20
  | 8, hq => cases hq; exact g21
  | 9, hq => cases hq; exact g22
  | k + 10, hq => simp [tyL] at hq
theorem start_zw {s : State} {m : MethodId} {b : Nat} (hts : ∀ w ∈ lw_tbl, w.before #[Value.ref b] s = true) (hgv : (Jvm.Cond.and given_1 narrow_1).before #[Value.ref b] s = true) : ZW s ∧ ZH (LA s) s s.heap := by
  have hgs := flat_of_before _ hgv
  have htA : ∀ w ∈ AW, w.before #[Value.ref b] s = true := fun w h => hts w (List.mem_filter.mp h).1
  obtain ⟨c11, i11, k11⟩ := u_known (C := RX11) (T := TX11) (N := 14) (n := 14) htA lay_11 (htA _ ins_11)
  refine ⟨⟨fun x hx => va_Nw.of rfl (hts _ (m_dec x hx)), fun C hC => va_Nw.of rfl (hts _ (m_cas C hC)), fun q hq => ?_, fun q hq => ?_⟩, ?_⟩
  · have h9 : (Cond.stringRef RX11 q.1 q.2).before #[Value.ref b] s = true := hts _ (m_str q hq)
    obtain ⟨_, _, _, a, -, -, -, -, -, h7⟩ := Cond.stringRef_spec (args := #[Value.ref b]) (first := s) (o := none) (idx := []) k11.2.1 h9
    exact ⟨a, vk_R.of h9 h7⟩
  · simp only [ncL, List.mem_cons, List.not_mem_nil, or_false] at hq
    rcases hq with rfl | rfl | rfl
    · exact va_Nc.of (hgs (Cond.not (.castable "java/lang/IllegalArgumentException" "java/lang/IndexOutOfBoundsException")) (by decide +kernel))
    · exact va_Nc.of (hgs (Cond.not (.castable "java/lang/IllegalStateException" "java/lang/IndexOutOfBoundsException")) (by decide +kernel))
    · exact va_Nc.of (hgs (Cond.not (.castable "java/lang/IllegalStateException" "java/lang/IllegalArgumentException")) (by decide +kernel))
  · have hA0 : ∀ a : Nat, a < s.heap.size → ¬ LA s a := fun a h => Nat.not_le.mpr h
    exact ⟨vx_Zqof (hts _ m_lu) (hts _ m_it) (hgs (Cond.isRef (.static Bundle.tN "UNASSIGNED_STACK" Bundle.steD)) (by decide +kernel)) hA0, vx_Zqof (hts _ m_ln) (hts _ m_it) (hgs (Cond.isRef (.static Bundle.tN "SUPPRESSED_SENTINEL" Bundle.listD)) (by decide +kernel)) hA0⟩
