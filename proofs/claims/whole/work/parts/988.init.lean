/-! What stands at the beginning -/
def Y00 (n : Nat) (pt : Int32) : Yc := (fun x o => cI n pt (x / 100) o (x % 100), fun x o => cJ (x / 100) o (x % 100), fun _ _ _ => 0, fun _ _ => 0, fun _ _ => none, fun _ _ _ => none, fun i => i)
def X00 (n : Nat) (pt : Int32) : Xc := (fun k => if k = 1 then nI n else if k = 2 then nI (n / 2) else if k = 3 then pt else if k = 16 ∨ k = 17 then 1 else if k = 96 then -1 else 0, fun k i => if (k = 22 ∨ k = 25) ∧ i < 7 then 1 else 0)
theorem akd_cases {x : Nat} (h : akd x ≠ 0) : x = 0 ∨ x = 105 ∨ x = 200 ∨ x = 402 ∨ x = 500 ∨ x = 501 ∨ x = 507 ∨ x = 508 ∨ x = 701 ∨ x = 1000 ∨ x = 1001 ∨ x = 1002 ∨ x = 1003 ∨ x = 1004 ∨ x = 1103 ∨ x = 1104 ∨ x = 1109 := by
  unfold akd at h
  split at h <;> simp_all
theorem lk_cases {x o : Nat} {q : Nat × Nat} (h : lkO x o = some q) : x = 104 ∨ x = 311 ∨ x = 403 ∨ x = 700 ∨ x = 801 ∨ x = 802 ∨ x = 807 ∨ x = 810 ∨ x = 1101 ∨ x = 1102 ∨ x = 1111 ∨ x = 1112 ∨ x = 1113 := by
  unfold lkO at h
  split at h <;> simp_all
theorem el_cases {n x o i : Nat} {q : Nat × Nat} (h : elO n x o i = some q) : (x = 105 ∧ i < 64) ∨ (x = 508 ∧ i < n) ∨ (x = 1103 ∧ i < n) ∨ (x = 1104 ∧ i < 4) ∨ (x = 1109 ∧ i < 200) := by
  unfold elO at h
  split at h <;> first | (split at h <;> simp_all) | simp_all
section
variable {n c o k i : Nat} {pt : Int32} {ad : Nat → Nat → Nat} {L : Nat → Nat → Prop} {S : Nat → Nat → Nat → Prop} {σ0 σ : Sto}
theorem ob_fl (hn7 : n ≤ 7) (ho : Ob n c o) : fnL n c o := by
  unfold Ob at ho
  split at ho
  · exact Or.inr (Or.inl ⟨Or.inl rfl, ho⟩)
  · exact Or.inr (Or.inr (Or.inl ⟨Or.inl rfl, ho⟩))
  · rcases ho with h | ⟨r, q, hr, hq, rfl⟩ | h
    · exact Or.inr (Or.inr (Or.inr (Or.inr (Or.inr (Or.inr (Or.inr (Or.inr ⟨Or.inl rfl, Or.inl ⟨Nat.zero_le _, h⟩⟩)))))))
    · exact Or.inr (Or.inr (Or.inr (Or.inr (Or.inr (Or.inr (Or.inr (Or.inr ⟨Or.inl rfl, Or.inr (by omega)⟩)))))))
    · exact Or.inr (Or.inr (Or.inr (Or.inr (Or.inr (Or.inr (Or.inl ⟨Or.inl rfl, h⟩))))))
  · exact Or.inr (Or.inr (Or.inr (Or.inr (Or.inl ⟨rfl, ho⟩))))
  · exact Or.inl ⟨by omega, ho⟩
  · exact Or.inr (Or.inr (Or.inr (Or.inr (Or.inr (Or.inr (Or.inr (Or.inl ⟨Or.inr (Or.inl rfl), Nat.zero_le _, ho⟩)))))))
  · exact Or.inr (Or.inr (Or.inr (Or.inl ⟨rfl, ho⟩)))
  · exact Or.inl ⟨by omega, ho⟩
  · exact Or.inr (Or.inr (Or.inr (Or.inr (Or.inr (Or.inr (Or.inr (Or.inl ⟨Or.inl rfl, Nat.zero_le _, ho⟩)))))))
  · exact Or.inl ⟨by omega, ho⟩
  · exact Or.inl ⟨by omega, ho⟩
  · exact ho.elim
theorem log_fs (hn7 : n ≤ 7) (ho : Ob n 2 o) : fnS n 2 o 0 ∧ fnL n 300 o := by
  rcases ho with h | ⟨r, q, hr, hq, rfl⟩ | h
  · exact ⟨Or.inr (Or.inr (Or.inr (Or.inr (Or.inr (Or.inl (Or.inr (Or.inr (Or.inr (Or.inl ⟨rfl, Or.inl ⟨Nat.zero_le _, h⟩, rfl⟩))))))))), Or.inr (Or.inr (Or.inr (Or.inr (Or.inr (Or.inr (Or.inr (Or.inr ⟨Or.inr rfl, Or.inl ⟨Nat.zero_le _, h⟩⟩)))))))⟩
  · exact ⟨Or.inr (Or.inr (Or.inr (Or.inr (Or.inr (Or.inl (Or.inr (Or.inr (Or.inr (Or.inl ⟨rfl, Or.inr (by omega), rfl⟩))))))))), Or.inr (Or.inr (Or.inr (Or.inr (Or.inr (Or.inr (Or.inr (Or.inr ⟨Or.inr rfl, Or.inr (by omega)⟩)))))))⟩
  · exact ⟨Or.inr (Or.inr (Or.inl ⟨rfl, h.1, h.2, rfl⟩)), Or.inr (Or.inr (Or.inr (Or.inr (Or.inr (Or.inr (Or.inl ⟨Or.inr rfl, h⟩))))))⟩
theorem ar_fs (hn7 : n ≤ 7) (ho : Ob n c o) (hk : k < 100) (h : akd (100 * c + k) ≠ 0) : fnS n c o k ∧ fnL n (100 + (100 * c + k)) o := by
  rcases akd_cases h with e | e | e | e | e | e | e | e | e | e | e | e | e | e | e | e | e
  · obtain ⟨rfl, rfl⟩ : c = 0 ∧ k = 0 := by omega
    have ho : o < 2 := ho
    exact ⟨by simp [fnS, rpS]; omega, by simp [fnL, rpN]; omega⟩
  · obtain ⟨rfl, rfl⟩ : c = 1 ∧ k = 5 := by omega
    have ho : o < 4 := ho
    exact ⟨by simp [fnS, rpS]; omega, by simp [fnL, rpN]; omega⟩
  · obtain ⟨rfl, rfl⟩ : c = 2 ∧ k = 0 := by omega
    exact log_fs hn7 ho
  · obtain ⟨rfl, rfl⟩ : c = 4 ∧ k = 2 := by omega
    have ho : o = 0 := ho
    subst ho
    exact ⟨by simp [fnS, rpS], by simp [fnL, rpN]⟩
  · obtain ⟨rfl, rfl⟩ : c = 5 ∧ k = 0 := by omega
    have ho : o < n := ho
    exact ⟨by simp [fnS, rpS]; omega, by simp [fnL, rpN]; omega⟩
  · obtain ⟨rfl, rfl⟩ : c = 5 ∧ k = 1 := by omega
    have ho : o < n := ho
    exact ⟨by simp [fnS, rpS]; omega, by simp [fnL, rpN]; omega⟩
  · obtain ⟨rfl, rfl⟩ : c = 5 ∧ k = 7 := by omega
    have ho : o < n := ho
    exact ⟨by simp [fnS, rpS]; omega, by simp [fnL, rpN]; omega⟩
  · obtain ⟨rfl, rfl⟩ : c = 5 ∧ k = 8 := by omega
    have ho : o < n := ho
    exact ⟨by simp [fnS, rpS]; omega, by simp [fnL, rpN]; omega⟩
  · obtain ⟨rfl, rfl⟩ : c = 7 ∧ k = 1 := by omega
    have ho : o = 0 := ho
    subst ho
    exact ⟨by simp [fnS, rpS], by simp [fnL, rpN]⟩
  · obtain ⟨rfl, rfl⟩ : c = 10 ∧ k = 0 := by omega
    have ho : o = 0 := ho
    subst ho
    exact ⟨by simp [fnS, rpS], by simp [fnL, rpN]⟩
  · obtain ⟨rfl, rfl⟩ : c = 10 ∧ k = 1 := by omega
    have ho : o = 0 := ho
    subst ho
    exact ⟨by simp [fnS, rpS], by simp [fnL, rpN]⟩
  · obtain ⟨rfl, rfl⟩ : c = 10 ∧ k = 2 := by omega
    have ho : o = 0 := ho
    subst ho
    exact ⟨by simp [fnS, rpS], by simp [fnL, rpN]⟩
  · obtain ⟨rfl, rfl⟩ : c = 10 ∧ k = 3 := by omega
    have ho : o = 0 := ho
    subst ho
    exact ⟨by simp [fnS, rpS], by simp [fnL, rpN]⟩
  · obtain ⟨rfl, rfl⟩ : c = 10 ∧ k = 4 := by omega
    have ho : o = 0 := ho
    subst ho
    exact ⟨by simp [fnS, rpS], by simp [fnL, rpN]⟩
  · obtain ⟨rfl, rfl⟩ : c = 11 ∧ k = 3 := by omega
    have ho : o = 0 := ho
    subst ho
    exact ⟨by simp [fnS, rpS], by simp [fnL, rpN]⟩
  · obtain ⟨rfl, rfl⟩ : c = 11 ∧ k = 4 := by omega
    have ho : o = 0 := ho
    subst ho
    exact ⟨by simp [fnS, rpS], by simp [fnL, rpN]⟩
  · obtain ⟨rfl, rfl⟩ : c = 11 ∧ k = 9 := by omega
    have ho : o = 0 := ho
    subst ho
    exact ⟨by simp [fnS, rpS], by simp [fnL, rpN]⟩
theorem lk_fs (ho : Ob n c o) (hk : k < 100) {q : Nat × Nat} (h : lkO (100 * c + k) o = some q) : fnS n c o k := by
  rcases lk_cases h with e | e | e | e | e | e | e | e | e | e | e | e | e
  · obtain ⟨rfl, rfl⟩ : c = 1 ∧ k = 4 := by omega
    have ho : o < 4 := ho
    simp [fnS, rpS]; omega
  · obtain ⟨rfl, rfl⟩ : c = 3 ∧ k = 11 := by omega
    have ho : o < 257 := ho
    simp [fnS, rpS]; omega
  · obtain ⟨rfl, rfl⟩ : c = 4 ∧ k = 3 := by omega
    have ho : o = 0 := ho
    subst ho
    simp [fnS, rpS]
  · obtain ⟨rfl, rfl⟩ : c = 7 ∧ k = 0 := by omega
    have ho : o = 0 := ho
    subst ho
    simp [fnS, rpS]
  · obtain ⟨rfl, rfl⟩ : c = 8 ∧ k = 1 := by omega
    have ho : o < n := ho
    simp [fnS, rpS]; omega
  · obtain ⟨rfl, rfl⟩ : c = 8 ∧ k = 2 := by omega
    have ho : o < n := ho
    simp [fnS, rpS]; omega
  · obtain ⟨rfl, rfl⟩ : c = 8 ∧ k = 7 := by omega
    have ho : o < n := ho
    simp [fnS, rpS]; omega
  · obtain ⟨rfl, rfl⟩ : c = 8 ∧ k = 10 := by omega
    have ho : o < n := ho
    simp [fnS, rpS]; omega
  · obtain ⟨rfl, rfl⟩ : c = 11 ∧ k = 1 := by omega
    have ho : o = 0 := ho
    subst ho
    simp [fnS, rpS]
  · obtain ⟨rfl, rfl⟩ : c = 11 ∧ k = 2 := by omega
    have ho : o = 0 := ho
    subst ho
    simp [fnS, rpS]
  · obtain ⟨rfl, rfl⟩ : c = 11 ∧ k = 11 := by omega
    have ho : o = 0 := ho
    subst ho
    simp [fnS, rpS]
  · obtain ⟨rfl, rfl⟩ : c = 11 ∧ k = 12 := by omega
    have ho : o = 0 := ho
    subst ho
    simp [fnS, rpS]
  · obtain ⟨rfl, rfl⟩ : c = 11 ∧ k = 13 := by omega
    have ho : o = 0 := ho
    subst ho
    simp [fnS, rpS]
theorem ci_fs (ho : Ob n c o) (h : ¬ cI n pt c o k = 0) : fnS n c o k := by
  by_cases c1 : c = 4 ∧ k = 0
  · obtain ⟨rfl, rfl⟩ := c1
    have ho : o = 0 := ho
    subst ho
    simp [fnS, rpS]
  · by_cases c2 : c = 4 ∧ k = 1
    · obtain ⟨rfl, rfl⟩ := c2
      have ho : o = 0 := ho
      subst ho
      simp [fnS, rpS]
    · by_cases c3 : c = 8 ∧ k = 0
      · obtain ⟨rfl, rfl⟩ := c3
        have ho : o < n := ho
        simp [fnS, rpS]; omega
      · by_cases c4 : c = 7 ∧ k = 4
        · obtain ⟨rfl, rfl⟩ := c4
          have ho : o = 0 := ho
          subst ho
          simp [fnS, rpS]
        · by_cases c5 : c = 11 ∧ k = 0
          · obtain ⟨rfl, rfl⟩ := c5
            have ho : o = 0 := ho
            subst ho
            simp [fnS, rpS]
          · by_cases c6 : c = 11 ∧ (k = 5 ∨ k = 6)
            · obtain ⟨rfl, hk⟩ := c6
              have ho : o = 0 := ho
              subst ho
              rcases hk with rfl | rfl <;> simp [fnS, rpS]
            · exfalso
              apply h
              unfold cI
              rw [if_neg c1, if_neg c2, if_neg c3, if_neg c4, if_neg c5, if_neg c6]
theorem cj_fs (ho : Ob n c o) (h : ¬ cJ c o k = 0) : fnS n c o k := by
  by_cases c1 : c = 8 ∧ (k = 5 ∨ k = 6)
  · obtain ⟨rfl, hk⟩ := c1
    have ho : o < n := ho
    rcases hk with rfl | rfl <;> simp [fnS, rpS] <;> omega
  · exfalso
    apply h
    unfold cJ
    rw [if_neg c1]
theorem cI_arr (x o i : Nat) : cI n pt (100 + x) o i = 0 := by
  unfold cI
  rw [if_neg (by omega), if_neg (by omega), if_neg (by omega), if_neg (by omega), if_neg (by omega), if_neg (by omega)]
theorem cJ_arr (x o i : Nat) : cJ (100 + x) o i = 0 := by
  unfold cJ
  rw [if_neg (by omega)]
theorem cP_arr {x : Nat} (o i : Nat) (hx : x ≠ 402) : cP n (100 + x) o i = elO n x o i := by
  unfold cP
  rw [if_neg (by omega), if_neg (by omega), show 100 + x - 100 = x by omega]
theorem cP_obj (hc : c < 12) (hz : akd (100 * c + k) = 0) : cP n c o k = lkO (100 * c + k) o := by
  unfold cP
  rw [if_pos (by omega), if_neg (by omega)]
theorem cP_ar (hc : c < 12) (hz : akd (100 * c + k) ≠ 0) : cP n c o k = some (100 + (100 * c + k), o) := by
  unfold cP
  rw [if_pos (by omega), if_pos hz]
theorem el_fs (ho : Ob n c o) (hk : k < 100) {q : Nat × Nat} (h : elO n (100 * c + k) o i = some q) : fnS n (100 + (100 * c + k)) o i := by
  rcases el_cases h with ⟨e, hi⟩ | ⟨e, hi⟩ | ⟨e, hi⟩ | ⟨e, hi⟩ | ⟨e, hi⟩
  · obtain ⟨rfl, rfl⟩ : c = 1 ∧ k = 5 := by omega
    have ho : o < 4 := ho
    simp [fnS, rpS]; omega
  · obtain ⟨rfl, rfl⟩ : c = 5 ∧ k = 8 := by omega
    have ho : o < n := ho
    simp [fnS, rpS]; omega
  · obtain ⟨rfl, rfl⟩ : c = 11 ∧ k = 3 := by omega
    have ho : o = 0 := ho
    subst ho
    simp [fnS, rpS]; omega
  · obtain ⟨rfl, rfl⟩ : c = 11 ∧ k = 4 := by omega
    have ho : o = 0 := ho
    subst ho
    simp [fnS, rpS]; omega
  · obtain ⟨rfl, rfl⟩ : c = 11 ∧ k = 9 := by omega
    have ho : o = 0 := ho
    subst ho
    simp [fnS, rpS]; omega
theorem lk_ar {x o : Nat} {q : Nat × Nat} (h : lkO x o = some q) : akd x = 0 := by
  rcases lk_cases h with e | e | e | e | e | e | e | e | e | e | e | e | e <;> subst e <;> rfl
theorem hy_init (hn7 : n ≤ 7) (H : CA n pt ad L S σ0 σ) (hL : ∀ t b, fnL n t b → L t b) (hS : ∀ t b k, fnS n t b k → S t b k) : HY n ad (fun x o => ad (100 + x) o) σ (Y00 n pt) := by
  have vI : ∀ c o k, Ob n c o → sI σ (ad c o) k = cI n pt c o k := fun c o k ho => by
    by_cases h : cI n pt c o k = 0
    · exact H.old (hL _ _ (ob_fl hn7 ho)) k h
    · exact H.gI (hS _ _ _ (ci_fs ho h))
  have vJ : ∀ c o k, Ob n c o → sJ σ (ad c o) k = cJ c o k := fun c o k ho => by
    by_cases h : cJ c o k = 0
    · exact H.oldJ (hL _ _ (ob_fl hn7 ho)) k h
    · have hs := hS _ _ _ (cj_fs (n := n) ho h)
      exact (((H.1 c o (H.2.2.1 c o k hs).1).2.2.2.2 k).1 hs).2.1
  have d1 : ∀ c k, k < 100 → (100 * c + k) / 100 = c := fun c k hk => by omega
  have d2 : ∀ c k, k < 100 → (100 * c + k) % 100 = k := fun c k hk => by omega
  refine ⟨fun c o ho => ?_, fun c o k ho hk => ?_, fun c o k ho hk => ?_, fun c o k ho hk c2 o2 h => ?_, fun c o k ho hk h => ⟨?_, ?_, ?_⟩, fun c o k ho hk h i => ?_, fun o ho i => ?_, fun c o k ho hk h i c2 o2 he => ?_, fun i hi => ⟨?_, ?_⟩, fun c o k ho hk h => ?_, fun c o k ho hk h i => ?_, fun c o o' ho ho' e => ?_, fun c o k c' o' k' ho ho' hk hk' h h' e => ?_⟩
  · rw [H.K (hL _ _ (ob_fl hn7 ho))]
    exact if_pos (by have := (ob_lt ho).1; omega)
  · rw [vI c o k ho]
    show _ = cI n pt ((100 * c + k) / 100) o ((100 * c + k) % 100)
    rw [d1 c k hk, d2 c k hk]
  · rw [vJ c o k ho]
    show _ = cJ ((100 * c + k) / 100) o ((100 * c + k) % 100)
    rw [d1 c k hk, d2 c k hk]
  · exact H.gP (hS _ _ _ (lk_fs ho hk h)) ((cP_obj (ob_lt ho).1 (lk_ar h)).trans h)
  · exact H.gP (hS _ _ _ (ar_fs hn7 ho hk h).1) (cP_ar (ob_lt ho).1 h)
  · rw [H.K (hL _ _ (ar_fs hn7 ho hk h).2)]
    show cK (100 + (100 * c + k)) o = _
    unfold cK
    rw [if_neg (by omega), show 100 + (100 * c + k) - 100 = 100 * c + k by omega]
  · rw [H.N (hL _ _ (ar_fs hn7 ho hk h).2)]
    show cN n (100 + (100 * c + k)) o = _
    unfold cN
    rw [if_neg (by omega), show 100 + (100 * c + k) - 100 = 100 * c + k by omega]
  · rw [H.old (hL _ _ (ar_fs hn7 ho hk h).2) i (cI_arr _ _ _)]
    exact cI_arr _ _ _
  · have h := (ar_fs (c := 5) (k := 7) hn7 ho (by omega) (by decide)).2
    show sJ σ (ad (100 + 507) o) i = 0
    rw [H.oldJ (hL _ _ h) i (cJ_arr 507 o i)]
    exact cJ_arr 507 o i
  · have hx : 100 * c + k ≠ 402 := fun e => by
      rw [e] at he
      cases he
    exact H.gP (hS _ _ _ (el_fs ho hk he)) ((cP_arr _ _ hx).trans he)
  · exact H.gP (t := 502) (o := 0) (hS _ _ _ (by simp [fnS, rpS]; omega)) (show (if i < 256 then some (3, i) else none) = some (3, i) from if_pos hi)
  · show i < 257
    omega
  · have hz := lk_rq (o := o) h
    have e : sP σ (ad c o) k = none := by
      rw [H.oldP (hL _ _ (ob_fl hn7 ho)) k ((cP_obj (ob_lt ho).1 hz.2).trans hz.1), cP_obj (ob_lt ho).1 hz.2, hz.1]
      rfl
    rw [e]
    exact rq_nn
  · have hx : 100 * c + k ≠ 402 := fun e => by
      rw [e] at h
      cases h
    have ez : elO n (100 * c + k) o i = none := el_22 h
    have e : sP σ (ad (100 + (100 * c + k)) o) i = none := by
      rw [H.oldP (hL _ _ (ar_fs hn7 ho hk (by rw [h]; decide)).2) i ((cP_arr _ _ hx).trans ez), cP_arr _ _ hx, ez]
      rfl
    show rq σ (sP σ (ad (100 + (100 * c + k)) o) i) none
    rw [e]
    exact rq_nn
  · exact (H.2.1 c o c o' (hL _ _ (ob_fl hn7 ho)) (hL _ _ (ob_fl hn7 ho')) e).2
  · have := H.2.1 _ _ _ _ (hL _ _ (ar_fs hn7 ho hk h).2) (hL _ _ (ar_fs hn7 ho' hk' h').2) e
    exact ⟨by omega, this.2⟩
theorem sim_init (hn : n = 3 ∨ n = 5 ∨ n = 7) {j : Nat} (hj : j < 9) (hpt : pt = nI j) : Sim n 101 (Y00 n pt) (X00 n pt) := by
  have hn7 : n ≤ 7 := by omega
  have z : ∀ K, Sm K (0 : Int32) := fun K => ⟨0, Nat.zero_le K, rfl⟩
  have o1 : Sm 101 (1 : Int32) := ⟨1, by omega, rfl⟩
  have v0 : (0 : Int64) = vw 0 0 := by decide
  have x22 : ∀ r, r < n → (X00 n pt).2 22 r = 1 := fun r hr => if_pos ⟨Or.inl rfl, by omega⟩
  have x25 : ∀ r, r < n → (X00 n pt).2 25 r = 1 := fun r hr => if_pos ⟨Or.inr rfl, by omega⟩
  have xz : ∀ k i, k ≠ 22 → k ≠ 25 → (X00 n pt).2 k i = 0 := fun k i h1 h2 => if_neg (fun q => q.1.elim h1 h2)
  have l0 : ln (0 : Int32) = 0 := by decide
  refine Sim.mk ?_ ⟨fun r hr => ⟨?_, ?_, ?_, ?_, ?_⟩, fun c hc => ?_, fun a h1 h2 => ?_, ?_, ?_, ?_, ?_, ?_⟩ ?_
  · exact ⟨hn, by omega, by omega, rfl, rfl, rfl, rfl, rfl, rfl, rfl, rfl, rfl, rfl, rfl, rfl, rfl, Or.inr rfl, o1, z _, z _, j, hj, hpt⟩
  · unfold RpS
    rw [x22 r hr, x25 r hr, xz 20 r (by omega) (by omega), xz 23 r (by omega) (by omega), xz 21 r (by omega) (by omega), xz 24 r (by omega) (by omega), xz 28 r (by omega) (by omega), xz 29 r (by omega) (by omega), xz 57 r (by omega) (by omega), xz 58 r (by omega) (by omega), xz 59 r (by omega) (by omega), xz 60 r (by omega) (by omega), xz 61 r (by omega) (by omega)]
    exact ⟨rfl, rfl, rfl, rfl, rfl, rfl, rfl, rfl, rfl, rfl, rfl, rfl, Or.inl rfl, z _, z _, o1, z _, o1, z _⟩
  · unfold LgS
    rw [xz 26 r (by omega) (by omega), xz 27 r (by omega) (by omega)]
    exact ⟨rfl, rfl, z _, z _, fun s hs => absurd hs (by rw [l0]; omega)⟩
  · unfold HdS
    rw [xz 36 r (by omega) (by omega)]
    exact ⟨rfl, z _, fun s hs => absurd hs (by rw [l0]; omega)⟩
  · unfold CtS
    rw [xz 43 r (by omega) (by omega), xz 44 r (by omega) (by omega), xz 45 r (by omega) (by omega)]
    exact ⟨rfl, rfl, rfl, z _, z _⟩
  · intro h
    rw [xz 23 r (by omega) (by omega)] at h
    exact absurd h (by decide)
  · unfold ClS
    rw [xz 65 c (by omega) (by omega), xz 66 c (by omega) (by omega), xz 70 c (by omega) (by omega), xz 72 c (by omega) (by omega), xz 73 c (by omega) (by omega), xz 74 c (by omega) (by omega), xz 71 c (by omega) (by omega), xz 75 c (by omega) (by omega)]
    exact ⟨rfl, rfl, rfl, Or.inl rfl, z _, fun q => absurd q (by decide), rfl, v0, rfl, rfl, z _, 0, by omega, rfl, fun i hi => absurd hi (by rw [l0]; omega)⟩
  · exfalso
    have e : (X00 n pt).1 81 = 0 := rfl
    rw [e, l0] at h2
    omega
  · exact ⟨rfl, z _, fun i hi => absurd hi (by show ¬ i < ln (0 : Int32); rw [l0]; omega)⟩
  · exact ⟨rfl, z _, fun i hi => absurd hi (by show ¬ i < ln (0 : Int32); rw [l0]; omega)⟩
  · exact fun e => Or.inl (xz 30 e (by omega) (by omega))
  · exact rfl
  · exact ⟨z _, rfl, rfl, fun i hi => absurd hi (by show ¬ i < ln (0 : Int32); rw [l0]; omega)⟩
  · refine ⟨0, 0, by omega, by omega, rfl, rfl, rfl, fun i hi => hi, fun i j _ _ e => e, fun _ => 0, fun k hk => by omega, fun j k hj => by omega, fun m _ h => absurd (xz 9 m (by omega) (by omega)) h⟩
end
