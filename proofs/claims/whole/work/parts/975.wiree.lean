section
variable {n K : Nat} {Y Y2 Y0 : Yc} {X X2 X0 : Xc} {o r : Nat}
/-- a message is written alike -/
def WM (n K : Nat) (Y : Yc) (X : Xc) (o b k : Nat) : Prop := ∃ v Y2 X2, Sim n K Y2 X2 ∧ yI Y2 1 0 = v ∧ (∀ Q : Yc → Prop, Q Y2 → wy_X3_write n o 0 Y Q) ∧ (∀ Q : Int32 → Xc → Prop, Q v X2 → LFx (fx_X12_wire_47 Q) (nI b, nI k, 0) (xS (xS X 0 0) 89 0))
theorem wire_join (S : Sim n K Y X) {b k : Nat} {h1 : List Int32} (hy : ∃ Y2, OY 0 Y Y2 ∧ YW 0 Y2 (sB h1) ∧ ∀ Q, Q Y2 → wy_X3_write n o 0 Y Q) (hx : WV (xS X 0 0) (fun X Q => LFx (fx_X12_wire_47 Q) (nI b, nI k, 0) X) [] (sB h1)) (hl : h1.length + 4 ≤ 2560) : WM n K Y X o b k := by
  obtain ⟨Y2, gy, wy, ry⟩ := hy
  obtain ⟨X2, gx, wx, rx⟩ := hx (xS (xS X 0 0) 89 0) (OX.rf.wS _) ⟨rfl, fun i hi => absurd hi (by simp)⟩
  exact ⟨nI (sB h1).length, Y2, X2, out_sim (sim_code S 0) gy gx wy wx (by rw [sB_len]; exact hl), wy.1, ry, rx⟩
theorem enc3 {m : Nat} (R : Row (X.2 10) (640 * m) (encM Y o)) : yH Y o = h3 (X.2 10) (640 * m) := by
  obtain ⟨w0, w1, w2, wl⟩ := enc_head (Y := Y) (i := o)
  have r0 := R 0 (by omega)
  have r1 := R 1 (by omega)
  have r2 := R 2 (by omega)
  rw [w0] at r0
  rw [w1] at r1
  rw [w2] at r2
  unfold yH h3
  rw [← r2, ← r1, ← r0]
  rfl
/-- what comes after the head -/
def tlM (Y : Yc) (i : Nat) : List Int32 :=
  (if yI Y 301 i = 0 then [((yJ Y 304 i) >>> ((32 : Int32).toInt64 &&& 63)).toInt32, yI Y 306 i] ++ rqL (yP Y 307 i)
   else [(yJ Y 304 i).toInt32, ((yJ Y 304 i) >>> ((32 : Int32).toInt64 &&& 63)).toInt32] ++
    (if yI Y 301 i = 5 then encG (yS Y 200 (56 + i)) (yI Y 201 (56 + i))
     else if yI Y 301 i = 8 ∨ yI Y 301 i = 12 then []
     else if yI Y 301 i = 9 then [(yJ Y 305 i).toInt32, ((yJ Y 305 i) >>> ((32 : Int32).toInt64 &&& 63)).toInt32, yI Y 202 (56 + i)] ++ encG (yS Y 200 (56 + i)) (yI Y 201 (56 + i))
     else if yI Y 301 i = 10 then [yI Y 202 (56 + i)] ++ encG (yS Y 200 (56 + i)) (yI Y 201 (56 + i))
     else if yI Y 301 i = 11 then [yI Y 306 i, yI Y 308 i, yI Y 309 i] ++ (if yI Y 309 i = 0 then [] else [yI Y 310 i])
     else [yI Y 306 i] ++ (if yI Y 301 i = 2 then rqL (yP Y 307 i) else [])))
theorem enc_tl {m : Nat} (R : Row (X.2 10) (640 * m) (encM Y o)) : Row (X.2 10) (640 * m + 3) (tlM Y o) := Row.rt (l1 := [yI Y 301 o, if yI Y 302 o = -1 then 255 else yI Y 302 o, if yI Y 301 o = 11 then 16 + yI Y 303 o else yI Y 303 o]) R
theorem wire_k0 (S : Sim n K Y X) {m : Nat} (hm : m < 200) (M : MS n K Y X o m) (hk : yI Y 301 o = 0) : WM n K Y X o (640 * m) 0 := by
  have hK := S.sc.k2
  obtain ⟨_, _, R, M⟩ := M
  obtain ⟨m1, m2, m3, ⟨l, e, hl, he, hj⟩, m5, ⟨s, hs, es⟩, m7, m8, m9, m10⟩ := M
  have hH := enc3 R
  have T := enc_tl R
  unfold tlM at T
  rw [if_pos (by rw [hk] <;> decide)] at T
  obtain ⟨w, hw, rw1⟩ := m7 (Or.inl hk)
  rw [hw] at T
  have hg : ∀ j, j < 2 → (xS X 0 0).2 10 (640 * m + 3 + j) = nI (([e, s] : List Nat).getD j 0) ∧ ([e, s] : List Nat).getD j 0 < 2 ^ 31 := by
    intro j hjN
    have hjc : j = 0 ∨ j = 1 := by omega
    rcases hjc with h | h <;> subst h
    · exact ⟨(T 0 (by simp)).trans (show ((yJ Y 304 o) >>> ((32 : Int32).toInt64 &&& 63)).toInt32 = nI e by rw [hj]; exact vw_sess _ _), by show e < 2 ^ 31; omega⟩
    · exact ⟨(T 1 (by simp)).trans es, by show s < 2 ^ 31; omega⟩
  have q0 := aN_len (yH Y o) e
  have q1 := aN_len (aN (yH Y o) e) s
  have a := yH_len (Y := Y) (o := o)
  have b := rqW_len (aN (aN (yH Y o) e) s) w
  have hx : WV (xS X 0 0) (xT2 0 (640 * m + 3 + 2)) (aN (aN (yH Y o) e) s) (sB (rqW (aN (aN (yH Y o) e) s) w)) := x_tR (X0 := xS X 0 0) (k := 0) (b := 640 * m + 3 + 2) (Or.inl rfl) (by omega) (by omega) rw1.2.1 (by omega) T.rt
  have hx : WV (xS X 0 0) (xT2 0 (640 * m + 3 + 2)) (aNs (fun j => ([e, s] : List Nat).getD j 0) 0 2 (h3 ((xS X 0 0).2 10) (640 * m))) (sB (rqW (aN (aN (yH Y o) e) s) w)) := by
    have e : h3 ((xS X 0 0).2 10) (640 * m) = yH Y o := hH.symm
    rw [e]
    exact hx
  exact wire_join S (y_write0 (by omega) hk hj (y_rest0 (by omega) hk es hw (by omega) rw1.2.1 (by omega)) (by omega)) (x_heads x_num0 (by omega) (by omega) hg hx) (by omega)
theorem wire_k1 (S : Sim n K Y X) {m : Nat} (hm : m < 200) (M : MS n K Y X o m) (hk : yI Y 301 o = 1) : WM n K Y X o (640 * m) 1 := by
  have hK := S.sc.k2
  obtain ⟨_, _, R, M⟩ := M
  obtain ⟨m1, m2, m3, ⟨l, e, hl, he, hj⟩, m5, ⟨s, hs, es⟩, m7, m8, m9, m10⟩ := M
  have hH := enc3 R
  have T := enc_tl R
  unfold tlM at T
  rw [if_neg (by rw [hk] <;> decide), if_neg (by rw [hk] <;> decide), if_neg (by rw [hk] <;> decide), if_neg (by rw [hk] <;> decide), if_neg (by rw [hk] <;> decide), if_neg (by rw [hk] <;> decide), if_neg (by rw [hk] <;> decide)] at T
  have hg : ∀ j, j < 3 → (xS X 0 0).2 10 (640 * m + 3 + j) = nI (([l, e, s] : List Nat).getD j 0) ∧ ([l, e, s] : List Nat).getD j 0 < 2 ^ 31 := by
    intro j hjN
    have hjc : j = 0 ∨ j = 1 ∨ j = 2 := by omega
    rcases hjc with h | h | h <;> subst h
    · exact ⟨(T 0 (by simp)).trans (show (yJ Y 304 o).toInt32 = nI l by rw [hj]; exact vw_lead _ _), by show l < 2 ^ 31; omega⟩
    · exact ⟨(T 1 (by simp)).trans (show ((yJ Y 304 o) >>> ((32 : Int32).toInt64 &&& 63)).toInt32 = nI e by rw [hj]; exact vw_sess _ _), by show e < 2 ^ 31; omega⟩
    · exact ⟨(T 2 (by simp)).trans es, by show s < 2 ^ 31; omega⟩
  have q0 := aN_len (yH Y o) l
  have q1 := aN_len (aN (yH Y o) l) e
  have q2 := aN_len (aN (aN (yH Y o) l) e) s
  have a := yH_len (Y := Y) (o := o)
  have hx : WV (xS X 0 0) (xT2 1 (640 * m + 3 + 3)) (aN (aN (aN (yH Y o) l) e) s) (sB (aN (aN (aN (yH Y o) l) e) s)) := x_tN (k := 1) (by omega) (by omega) (by omega) (by omega) (by omega)
  have hx : WV (xS X 0 0) (xT2 1 (640 * m + 3 + 3)) (aNs (fun j => ([l, e, s] : List Nat).getD j 0) 0 3 (h3 ((xS X 0 0).2 10) (640 * m))) (sB (aN (aN (aN (yH Y o) l) e) s)) := by
    have e : h3 ((xS X 0 0).2 10) (640 * m) = yH Y o := hH.symm
    rw [e]
    exact hx
  exact wire_join S (y_write1 (by omega) (by omega) (by rw [hk]; decide) hj (y_rest1 (by omega) hk es (by omega)) (by omega)) (x_heads x_num1 (by omega) (by omega) hg hx) (by omega)
theorem wire_k2 (S : Sim n K Y X) {m : Nat} (hm : m < 200) (M : MS n K Y X o m) (hk : yI Y 301 o = 2) : WM n K Y X o (640 * m) 2 := by
  have hK := S.sc.k2
  obtain ⟨_, _, R, M⟩ := M
  obtain ⟨m1, m2, m3, ⟨l, e, hl, he, hj⟩, m5, ⟨s, hs, es⟩, m7, m8, m9, m10⟩ := M
  have hH := enc3 R
  have T := enc_tl R
  unfold tlM at T
  rw [if_neg (by rw [hk] <;> decide), if_neg (by rw [hk] <;> decide), if_neg (by rw [hk] <;> decide), if_neg (by rw [hk] <;> decide), if_neg (by rw [hk] <;> decide), if_neg (by rw [hk] <;> decide), if_pos (by rw [hk] <;> decide)] at T
  obtain ⟨w, hw, rw1⟩ := m7 (Or.inr hk)
  rw [hw] at T
  have hg : ∀ j, j < 3 → (xS X 0 0).2 10 (640 * m + 3 + j) = nI (([l, e, s] : List Nat).getD j 0) ∧ ([l, e, s] : List Nat).getD j 0 < 2 ^ 31 := by
    intro j hjN
    have hjc : j = 0 ∨ j = 1 ∨ j = 2 := by omega
    rcases hjc with h | h | h <;> subst h
    · exact ⟨(T 0 (by simp)).trans (show (yJ Y 304 o).toInt32 = nI l by rw [hj]; exact vw_lead _ _), by show l < 2 ^ 31; omega⟩
    · exact ⟨(T 1 (by simp)).trans (show ((yJ Y 304 o) >>> ((32 : Int32).toInt64 &&& 63)).toInt32 = nI e by rw [hj]; exact vw_sess _ _), by show e < 2 ^ 31; omega⟩
    · exact ⟨(T 2 (by simp)).trans es, by show s < 2 ^ 31; omega⟩
  have q0 := aN_len (yH Y o) l
  have q1 := aN_len (aN (yH Y o) l) e
  have q2 := aN_len (aN (aN (yH Y o) l) e) s
  have a := yH_len (Y := Y) (o := o)
  have b := rqW_len (aN (aN (aN (yH Y o) l) e) s) w
  have hx : WV (xS X 0 0) (xT2 2 (640 * m + 3 + 3)) (aN (aN (aN (yH Y o) l) e) s) (sB (rqW (aN (aN (aN (yH Y o) l) e) s) w)) := x_tR (X0 := xS X 0 0) (k := 2) (b := 640 * m + 3 + 3) (Or.inr rfl) (by omega) (by omega) rw1.2.1 (by omega) T.rt.rt
  have hx : WV (xS X 0 0) (xT2 2 (640 * m + 3 + 3)) (aNs (fun j => ([l, e, s] : List Nat).getD j 0) 0 3 (h3 ((xS X 0 0).2 10) (640 * m))) (sB (rqW (aN (aN (aN (yH Y o) l) e) s) w)) := by
    have e : h3 ((xS X 0 0).2 10) (640 * m) = yH Y o := hH.symm
    rw [e]
    exact hx
  exact wire_join S (y_write1 (by omega) (by omega) (by rw [hk]; decide) hj (y_rest2 (by omega) hk es hw (by omega) rw1.2.1 (by omega)) (by omega)) (x_heads x_num2 (by omega) (by omega) hg hx) (by omega)
theorem wire_k3 (S : Sim n K Y X) {m : Nat} (hm : m < 200) (M : MS n K Y X o m) (hk : yI Y 301 o = 3) : WM n K Y X o (640 * m) 3 := by
  have hK := S.sc.k2
  obtain ⟨_, _, R, M⟩ := M
  obtain ⟨m1, m2, m3, ⟨l, e, hl, he, hj⟩, m5, ⟨s, hs, es⟩, m7, m8, m9, m10⟩ := M
  have hH := enc3 R
  have T := enc_tl R
  unfold tlM at T
  rw [if_neg (by rw [hk] <;> decide), if_neg (by rw [hk] <;> decide), if_neg (by rw [hk] <;> decide), if_neg (by rw [hk] <;> decide), if_neg (by rw [hk] <;> decide), if_neg (by rw [hk] <;> decide), if_neg (by rw [hk] <;> decide)] at T
  have hg : ∀ j, j < 3 → (xS X 0 0).2 10 (640 * m + 3 + j) = nI (([l, e, s] : List Nat).getD j 0) ∧ ([l, e, s] : List Nat).getD j 0 < 2 ^ 31 := by
    intro j hjN
    have hjc : j = 0 ∨ j = 1 ∨ j = 2 := by omega
    rcases hjc with h | h | h <;> subst h
    · exact ⟨(T 0 (by simp)).trans (show (yJ Y 304 o).toInt32 = nI l by rw [hj]; exact vw_lead _ _), by show l < 2 ^ 31; omega⟩
    · exact ⟨(T 1 (by simp)).trans (show ((yJ Y 304 o) >>> ((32 : Int32).toInt64 &&& 63)).toInt32 = nI e by rw [hj]; exact vw_sess _ _), by show e < 2 ^ 31; omega⟩
    · exact ⟨(T 2 (by simp)).trans es, by show s < 2 ^ 31; omega⟩
  have q0 := aN_len (yH Y o) l
  have q1 := aN_len (aN (yH Y o) l) e
  have q2 := aN_len (aN (aN (yH Y o) l) e) s
  have a := yH_len (Y := Y) (o := o)
  have hx : WV (xS X 0 0) (xT2 3 (640 * m + 3 + 3)) (aN (aN (aN (yH Y o) l) e) s) (sB (aN (aN (aN (yH Y o) l) e) s)) := x_tN (k := 3) (by omega) (by omega) (by omega) (by omega) (by omega)
  have hx : WV (xS X 0 0) (xT2 3 (640 * m + 3 + 3)) (aNs (fun j => ([l, e, s] : List Nat).getD j 0) 0 3 (h3 ((xS X 0 0).2 10) (640 * m))) (sB (aN (aN (aN (yH Y o) l) e) s)) := by
    have e : h3 ((xS X 0 0).2 10) (640 * m) = yH Y o := hH.symm
    rw [e]
    exact hx
  exact wire_join S (y_write1 (by omega) (by omega) (by rw [hk]; decide) hj (y_rest3 (by omega) hk es (by omega)) (by omega)) (x_heads x_num3 (by omega) (by omega) hg hx) (by omega)
theorem wire_k4 (S : Sim n K Y X) {m : Nat} (hm : m < 200) (M : MS n K Y X o m) (hk : yI Y 301 o = 4) : WM n K Y X o (640 * m) 4 := by
  have hK := S.sc.k2
  obtain ⟨_, _, R, M⟩ := M
  obtain ⟨m1, m2, m3, ⟨l, e, hl, he, hj⟩, m5, ⟨s, hs, es⟩, m7, m8, m9, m10⟩ := M
  have hH := enc3 R
  have T := enc_tl R
  unfold tlM at T
  rw [if_neg (by rw [hk] <;> decide), if_neg (by rw [hk] <;> decide), if_neg (by rw [hk] <;> decide), if_neg (by rw [hk] <;> decide), if_neg (by rw [hk] <;> decide), if_neg (by rw [hk] <;> decide), if_neg (by rw [hk] <;> decide)] at T
  have hg : ∀ j, j < 3 → (xS X 0 0).2 10 (640 * m + 3 + j) = nI (([l, e, s] : List Nat).getD j 0) ∧ ([l, e, s] : List Nat).getD j 0 < 2 ^ 31 := by
    intro j hjN
    have hjc : j = 0 ∨ j = 1 ∨ j = 2 := by omega
    rcases hjc with h | h | h <;> subst h
    · exact ⟨(T 0 (by simp)).trans (show (yJ Y 304 o).toInt32 = nI l by rw [hj]; exact vw_lead _ _), by show l < 2 ^ 31; omega⟩
    · exact ⟨(T 1 (by simp)).trans (show ((yJ Y 304 o) >>> ((32 : Int32).toInt64 &&& 63)).toInt32 = nI e by rw [hj]; exact vw_sess _ _), by show e < 2 ^ 31; omega⟩
    · exact ⟨(T 2 (by simp)).trans es, by show s < 2 ^ 31; omega⟩
  have q0 := aN_len (yH Y o) l
  have q1 := aN_len (aN (yH Y o) l) e
  have q2 := aN_len (aN (aN (yH Y o) l) e) s
  have a := yH_len (Y := Y) (o := o)
  have hx : WV (xS X 0 0) (xT2 4 (640 * m + 3 + 3)) (aN (aN (aN (yH Y o) l) e) s) (sB (aN (aN (aN (yH Y o) l) e) s)) := x_tN (k := 4) (by omega) (by omega) (by omega) (by omega) (by omega)
  have hx : WV (xS X 0 0) (xT2 4 (640 * m + 3 + 3)) (aNs (fun j => ([l, e, s] : List Nat).getD j 0) 0 3 (h3 ((xS X 0 0).2 10) (640 * m))) (sB (aN (aN (aN (yH Y o) l) e) s)) := by
    have e : h3 ((xS X 0 0).2 10) (640 * m) = yH Y o := hH.symm
    rw [e]
    exact hx
  exact wire_join S (y_write1 (by omega) (by omega) (by rw [hk]; decide) hj (y_rest4 (by omega) hk es (by omega)) (by omega)) (x_heads x_num4 (by omega) (by omega) hg hx) (by omega)
theorem wire_k5 (S : Sim n K Y X) {m : Nat} (hm : m < 200) (M : MS n K Y X o m) (hk : yI Y 301 o = 5) : WM n K Y X o (640 * m) 5 := by
  have hK := S.sc.k2
  obtain ⟨_, _, R, M⟩ := M
  obtain ⟨m1, m2, m3, ⟨l, e, hl, he, hj⟩, m5, ⟨s, hs, es⟩, m7, m8, m9, m10⟩ := M
  have hH := enc3 R
  have T := enc_tl R
  unfold tlM at T
  rw [if_neg (by rw [hk] <;> decide), if_pos (by rw [hk] <;> decide)] at T
  obtain ⟨⟨L, hL, eL⟩, ⟨s2, hs2, es2⟩, hE⟩ := m10 (Or.inl hk)
  have hlL : ln (yI Y 201 (56 + o)) = L := by rw [eL]; exact nI_clamp (by omega)
  rw [hlL] at hE
  rw [eL] at T
  have hg : ∀ j, j < 2 → (xS X 0 0).2 10 (640 * m + 3 + j) = nI (([l, e] : List Nat).getD j 0) ∧ ([l, e] : List Nat).getD j 0 < 2 ^ 31 := by
    intro j hjN
    have hjc : j = 0 ∨ j = 1 := by omega
    rcases hjc with h | h <;> subst h
    · exact ⟨(T 0 (by simp)).trans (show (yJ Y 304 o).toInt32 = nI l by rw [hj]; exact vw_lead _ _), by show l < 2 ^ 31; omega⟩
    · exact ⟨(T 1 (by simp)).trans (show ((yJ Y 304 o) >>> ((32 : Int32).toInt64 &&& 63)).toInt32 = nI e by rw [hj]; exact vw_sess _ _), by show e < 2 ^ 31; omega⟩
  have q0 := aN_len (yH Y o) l
  have q1 := aN_len (aN (yH Y o) l) e
  have a := yH_len (Y := Y) (o := o)
  have b := lgB_len (yS Y 200 (56 + o)) L (aN (aN (yH Y o) l) e)
  have hx : WV (xS X 0 0) (xT2 5 (640 * m + 3 + 2)) (aN (aN (yH Y o) l) e) (sB (lgB (yS Y 200 (56 + o)) L (aN (aN (yH Y o) l) e))) := x_tL (X0 := xS X 0 0) (k := 5) (b := 640 * m + 3 + 2) (Or.inl rfl) hL (by omega) hE (by omega) T.rt (by omega)
  have hx : WV (xS X 0 0) (xT2 5 (640 * m + 3 + 2)) (aNs (fun j => ([l, e] : List Nat).getD j 0) 0 2 (h3 ((xS X 0 0).2 10) (640 * m))) (sB (lgB (yS Y 200 (56 + o)) L (aN (aN (yH Y o) l) e))) := by
    have e : h3 ((xS X 0 0).2 10) (640 * m) = yH Y o := hH.symm
    rw [e]
    exact hx
  exact wire_join S (y_write1 (by omega) (by omega) (by rw [hk]; decide) hj (y_rest5 hk hL eL (by omega) hE (by omega)) (by omega)) (x_heads x_num5 (by omega) (by omega) hg hx) (by omega)
theorem wire_k6 (S : Sim n K Y X) {m : Nat} (hm : m < 200) (M : MS n K Y X o m) (hk : yI Y 301 o = 6) : WM n K Y X o (640 * m) 6 := by
  have hK := S.sc.k2
  obtain ⟨_, _, R, M⟩ := M
  obtain ⟨m1, m2, m3, ⟨l, e, hl, he, hj⟩, m5, ⟨s, hs, es⟩, m7, m8, m9, m10⟩ := M
  have hH := enc3 R
  have T := enc_tl R
  unfold tlM at T
  rw [if_neg (by rw [hk] <;> decide), if_neg (by rw [hk] <;> decide), if_neg (by rw [hk] <;> decide), if_neg (by rw [hk] <;> decide), if_neg (by rw [hk] <;> decide), if_neg (by rw [hk] <;> decide), if_neg (by rw [hk] <;> decide)] at T
  have hg : ∀ j, j < 3 → (xS X 0 0).2 10 (640 * m + 3 + j) = nI (([l, e, s] : List Nat).getD j 0) ∧ ([l, e, s] : List Nat).getD j 0 < 2 ^ 31 := by
    intro j hjN
    have hjc : j = 0 ∨ j = 1 ∨ j = 2 := by omega
    rcases hjc with h | h | h <;> subst h
    · exact ⟨(T 0 (by simp)).trans (show (yJ Y 304 o).toInt32 = nI l by rw [hj]; exact vw_lead _ _), by show l < 2 ^ 31; omega⟩
    · exact ⟨(T 1 (by simp)).trans (show ((yJ Y 304 o) >>> ((32 : Int32).toInt64 &&& 63)).toInt32 = nI e by rw [hj]; exact vw_sess _ _), by show e < 2 ^ 31; omega⟩
    · exact ⟨(T 2 (by simp)).trans es, by show s < 2 ^ 31; omega⟩
  have q0 := aN_len (yH Y o) l
  have q1 := aN_len (aN (yH Y o) l) e
  have q2 := aN_len (aN (aN (yH Y o) l) e) s
  have a := yH_len (Y := Y) (o := o)
  have hx : WV (xS X 0 0) (xT2 6 (640 * m + 3 + 3)) (aN (aN (aN (yH Y o) l) e) s) (sB (aN (aN (aN (yH Y o) l) e) s)) := x_tN (k := 6) (by omega) (by omega) (by omega) (by omega) (by omega)
  have hx : WV (xS X 0 0) (xT2 6 (640 * m + 3 + 3)) (aNs (fun j => ([l, e, s] : List Nat).getD j 0) 0 3 (h3 ((xS X 0 0).2 10) (640 * m))) (sB (aN (aN (aN (yH Y o) l) e) s)) := by
    have e : h3 ((xS X 0 0).2 10) (640 * m) = yH Y o := hH.symm
    rw [e]
    exact hx
  exact wire_join S (y_write1 (by omega) (by omega) (by rw [hk]; decide) hj (y_rest6 (by omega) hk es (by omega)) (by omega)) (x_heads x_num6 (by omega) (by omega) hg hx) (by omega)
theorem wire_k7 (S : Sim n K Y X) {m : Nat} (hm : m < 200) (M : MS n K Y X o m) (hk : yI Y 301 o = 7) : WM n K Y X o (640 * m) 7 := by
  have hK := S.sc.k2
  obtain ⟨_, _, R, M⟩ := M
  obtain ⟨m1, m2, m3, ⟨l, e, hl, he, hj⟩, m5, ⟨s, hs, es⟩, m7, m8, m9, m10⟩ := M
  have hH := enc3 R
  have T := enc_tl R
  unfold tlM at T
  rw [if_neg (by rw [hk] <;> decide), if_neg (by rw [hk] <;> decide), if_neg (by rw [hk] <;> decide), if_neg (by rw [hk] <;> decide), if_neg (by rw [hk] <;> decide), if_neg (by rw [hk] <;> decide), if_neg (by rw [hk] <;> decide)] at T
  have hg : ∀ j, j < 3 → (xS X 0 0).2 10 (640 * m + 3 + j) = nI (([l, e, s] : List Nat).getD j 0) ∧ ([l, e, s] : List Nat).getD j 0 < 2 ^ 31 := by
    intro j hjN
    have hjc : j = 0 ∨ j = 1 ∨ j = 2 := by omega
    rcases hjc with h | h | h <;> subst h
    · exact ⟨(T 0 (by simp)).trans (show (yJ Y 304 o).toInt32 = nI l by rw [hj]; exact vw_lead _ _), by show l < 2 ^ 31; omega⟩
    · exact ⟨(T 1 (by simp)).trans (show ((yJ Y 304 o) >>> ((32 : Int32).toInt64 &&& 63)).toInt32 = nI e by rw [hj]; exact vw_sess _ _), by show e < 2 ^ 31; omega⟩
    · exact ⟨(T 2 (by simp)).trans es, by show s < 2 ^ 31; omega⟩
  have q0 := aN_len (yH Y o) l
  have q1 := aN_len (aN (yH Y o) l) e
  have q2 := aN_len (aN (aN (yH Y o) l) e) s
  have a := yH_len (Y := Y) (o := o)
  have hx : WV (xS X 0 0) (xT2 7 (640 * m + 3 + 3)) (aN (aN (aN (yH Y o) l) e) s) (sB (aN (aN (aN (yH Y o) l) e) s)) := x_tN (k := 7) (by omega) (by omega) (by omega) (by omega) (by omega)
  have hx : WV (xS X 0 0) (xT2 7 (640 * m + 3 + 3)) (aNs (fun j => ([l, e, s] : List Nat).getD j 0) 0 3 (h3 ((xS X 0 0).2 10) (640 * m))) (sB (aN (aN (aN (yH Y o) l) e) s)) := by
    have e : h3 ((xS X 0 0).2 10) (640 * m) = yH Y o := hH.symm
    rw [e]
    exact hx
  exact wire_join S (y_write1 (by omega) (by omega) (by rw [hk]; decide) hj (y_rest7 (by omega) hk es (by omega)) (by omega)) (x_heads x_num7 (by omega) (by omega) hg hx) (by omega)
theorem wire_k8 (S : Sim n K Y X) {m : Nat} (hm : m < 200) (M : MS n K Y X o m) (hk : yI Y 301 o = 8) : WM n K Y X o (640 * m) 8 := by
  have hK := S.sc.k2
  obtain ⟨_, _, R, M⟩ := M
  obtain ⟨m1, m2, m3, ⟨l, e, hl, he, hj⟩, m5, ⟨s, hs, es⟩, m7, m8, m9, m10⟩ := M
  have hH := enc3 R
  have T := enc_tl R
  unfold tlM at T
  rw [if_neg (by rw [hk] <;> decide), if_neg (by rw [hk] <;> decide), if_pos (by rw [hk] <;> decide)] at T
  have hg : ∀ j, j < 2 → (xS X 0 0).2 10 (640 * m + 3 + j) = nI (([l, e] : List Nat).getD j 0) ∧ ([l, e] : List Nat).getD j 0 < 2 ^ 31 := by
    intro j hjN
    have hjc : j = 0 ∨ j = 1 := by omega
    rcases hjc with h | h <;> subst h
    · exact ⟨(T 0 (by simp)).trans (show (yJ Y 304 o).toInt32 = nI l by rw [hj]; exact vw_lead _ _), by show l < 2 ^ 31; omega⟩
    · exact ⟨(T 1 (by simp)).trans (show ((yJ Y 304 o) >>> ((32 : Int32).toInt64 &&& 63)).toInt32 = nI e by rw [hj]; exact vw_sess _ _), by show e < 2 ^ 31; omega⟩
  have q0 := aN_len (yH Y o) l
  have q1 := aN_len (aN (yH Y o) l) e
  have a := yH_len (Y := Y) (o := o)
  have hx : WV (xS X 0 0) (xT2 8 (640 * m + 3 + 2)) (aN (aN (yH Y o) l) e) (sB (aN (aN (yH Y o) l) e)) := x_tN (k := 8) (by omega) (by omega) (by omega) (by omega) (by omega)
  have hx : WV (xS X 0 0) (xT2 8 (640 * m + 3 + 2)) (aNs (fun j => ([l, e] : List Nat).getD j 0) 0 2 (h3 ((xS X 0 0).2 10) (640 * m))) (sB (aN (aN (yH Y o) l) e)) := by
    have e : h3 ((xS X 0 0).2 10) (640 * m) = yH Y o := hH.symm
    rw [e]
    exact hx
  exact wire_join S (y_write1 (by omega) (by omega) (by rw [hk]; decide) hj (y_rest8 hk) (by omega)) (x_heads x_num8 (by omega) (by omega) hg hx) (by omega)
theorem wire_k9 (S : Sim n K Y X) {m : Nat} (hm : m < 200) (M : MS n K Y X o m) (hk : yI Y 301 o = 9) : WM n K Y X o (640 * m) 9 := by
  have hK := S.sc.k2
  obtain ⟨_, _, R, M⟩ := M
  obtain ⟨m1, m2, m3, ⟨l, e, hl, he, hj⟩, m5, ⟨s, hs, es⟩, m7, m8, m9, m10⟩ := M
  have hH := enc3 R
  have T := enc_tl R
  unfold tlM at T
  rw [if_neg (by rw [hk] <;> decide), if_neg (by rw [hk] <;> decide), if_neg (by rw [hk] <;> decide), if_pos (by rw [hk] <;> decide)] at T
  obtain ⟨⟨l2, e2, hl2, he2, hj2⟩, _⟩ := m5 hk
  obtain ⟨⟨L, hL, eL⟩, ⟨s2, hs2, es2⟩, hE⟩ := m10 (Or.inr (Or.inl hk))
  have hlL : ln (yI Y 201 (56 + o)) = L := by rw [eL]; exact nI_clamp (by omega)
  rw [hlL] at hE
  rw [eL] at T
  have hg : ∀ j, j < 5 → (xS X 0 0).2 10 (640 * m + 3 + j) = nI (([l, e, l2, e2, s2] : List Nat).getD j 0) ∧ ([l, e, l2, e2, s2] : List Nat).getD j 0 < 2 ^ 31 := by
    intro j hjN
    have hjc : j = 0 ∨ j = 1 ∨ j = 2 ∨ j = 3 ∨ j = 4 := by omega
    rcases hjc with h | h | h | h | h <;> subst h
    · exact ⟨(T 0 (by simp)).trans (show (yJ Y 304 o).toInt32 = nI l by rw [hj]; exact vw_lead _ _), by show l < 2 ^ 31; omega⟩
    · exact ⟨(T 1 (by simp)).trans (show ((yJ Y 304 o) >>> ((32 : Int32).toInt64 &&& 63)).toInt32 = nI e by rw [hj]; exact vw_sess _ _), by show e < 2 ^ 31; omega⟩
    · exact ⟨(T 2 (by simp)).trans (show (yJ Y 305 o).toInt32 = nI l2 by rw [hj2]; exact vw_lead _ _), by show l2 < 2 ^ 31; omega⟩
    · exact ⟨(T 3 (by simp)).trans (show ((yJ Y 305 o) >>> ((32 : Int32).toInt64 &&& 63)).toInt32 = nI e2 by rw [hj2]; exact vw_sess _ _), by show e2 < 2 ^ 31; omega⟩
    · exact ⟨(T 4 (by simp)).trans es2, by show s2 < 2 ^ 31; omega⟩
  have q0 := aN_len (yH Y o) l
  have q1 := aN_len (aN (yH Y o) l) e
  have q2 := aN_len (aN (aN (yH Y o) l) e) l2
  have q3 := aN_len (aN (aN (aN (yH Y o) l) e) l2) e2
  have q4 := aN_len (aN (aN (aN (aN (yH Y o) l) e) l2) e2) s2
  have a := yH_len (Y := Y) (o := o)
  have b := lgB_len (yS Y 200 (56 + o)) L (aN (aN (aN (aN (aN (yH Y o) l) e) l2) e2) s2)
  have hx : WV (xS X 0 0) (xT2 9 (640 * m + 3 + 5)) (aN (aN (aN (aN (aN (yH Y o) l) e) l2) e2) s2) (sB (lgB (yS Y 200 (56 + o)) L (aN (aN (aN (aN (aN (yH Y o) l) e) l2) e2) s2))) := x_tL (X0 := xS X 0 0) (k := 9) (b := 640 * m + 3 + 5) (Or.inr (Or.inl rfl)) hL (by omega) hE (by omega) T.rt.rt (by omega)
  have hx : WV (xS X 0 0) (xT2 9 (640 * m + 3 + 5)) (aNs (fun j => ([l, e, l2, e2, s2] : List Nat).getD j 0) 0 5 (h3 ((xS X 0 0).2 10) (640 * m))) (sB (lgB (yS Y 200 (56 + o)) L (aN (aN (aN (aN (aN (yH Y o) l) e) l2) e2) s2))) := by
    have e : h3 ((xS X 0 0).2 10) (640 * m) = yH Y o := hH.symm
    rw [e]
    exact hx
  exact wire_join S (y_write1 (by omega) (by omega) (by rw [hk]; decide) hj (y_rest9 (by omega) (by omega) (by omega) hk hj2 es2 hL eL (by omega) hE (by omega)) (by omega)) (x_heads x_num9 (by omega) (by omega) hg hx) (by omega)
theorem wire_k10 (S : Sim n K Y X) {m : Nat} (hm : m < 200) (M : MS n K Y X o m) (hk : yI Y 301 o = 10) : WM n K Y X o (640 * m) 10 := by
  have hK := S.sc.k2
  obtain ⟨_, _, R, M⟩ := M
  obtain ⟨m1, m2, m3, ⟨l, e, hl, he, hj⟩, m5, ⟨s, hs, es⟩, m7, m8, m9, m10⟩ := M
  have hH := enc3 R
  have T := enc_tl R
  unfold tlM at T
  rw [if_neg (by rw [hk] <;> decide), if_neg (by rw [hk] <;> decide), if_neg (by rw [hk] <;> decide), if_neg (by rw [hk] <;> decide), if_pos (by rw [hk] <;> decide)] at T
  obtain ⟨⟨L, hL, eL⟩, ⟨s2, hs2, es2⟩, hE⟩ := m10 (Or.inr (Or.inr hk))
  have hlL : ln (yI Y 201 (56 + o)) = L := by rw [eL]; exact nI_clamp (by omega)
  rw [hlL] at hE
  rw [eL] at T
  have hg : ∀ j, j < 3 → (xS X 0 0).2 10 (640 * m + 3 + j) = nI (([l, e, s2] : List Nat).getD j 0) ∧ ([l, e, s2] : List Nat).getD j 0 < 2 ^ 31 := by
    intro j hjN
    have hjc : j = 0 ∨ j = 1 ∨ j = 2 := by omega
    rcases hjc with h | h | h <;> subst h
    · exact ⟨(T 0 (by simp)).trans (show (yJ Y 304 o).toInt32 = nI l by rw [hj]; exact vw_lead _ _), by show l < 2 ^ 31; omega⟩
    · exact ⟨(T 1 (by simp)).trans (show ((yJ Y 304 o) >>> ((32 : Int32).toInt64 &&& 63)).toInt32 = nI e by rw [hj]; exact vw_sess _ _), by show e < 2 ^ 31; omega⟩
    · exact ⟨(T 2 (by simp)).trans es2, by show s2 < 2 ^ 31; omega⟩
  have q0 := aN_len (yH Y o) l
  have q1 := aN_len (aN (yH Y o) l) e
  have q2 := aN_len (aN (aN (yH Y o) l) e) s2
  have a := yH_len (Y := Y) (o := o)
  have b := lgB_len (yS Y 200 (56 + o)) L (aN (aN (aN (yH Y o) l) e) s2)
  have hx : WV (xS X 0 0) (xT2 10 (640 * m + 3 + 3)) (aN (aN (aN (yH Y o) l) e) s2) (sB (lgB (yS Y 200 (56 + o)) L (aN (aN (aN (yH Y o) l) e) s2))) := x_tL (X0 := xS X 0 0) (k := 10) (b := 640 * m + 3 + 3) (Or.inr (Or.inr rfl)) hL (by omega) hE (by omega) T.rt.rt (by omega)
  have hx : WV (xS X 0 0) (xT2 10 (640 * m + 3 + 3)) (aNs (fun j => ([l, e, s2] : List Nat).getD j 0) 0 3 (h3 ((xS X 0 0).2 10) (640 * m))) (sB (lgB (yS Y 200 (56 + o)) L (aN (aN (aN (yH Y o) l) e) s2))) := by
    have e : h3 ((xS X 0 0).2 10) (640 * m) = yH Y o := hH.symm
    rw [e]
    exact hx
  exact wire_join S (y_write1 (by omega) (by omega) (by rw [hk]; decide) hj (y_rest10 (by omega) hk es2 hL eL (by omega) hE (by omega)) (by omega)) (x_heads x_num10 (by omega) (by omega) hg hx) (by omega)
theorem wire_k11 (S : Sim n K Y X) {m : Nat} (hm : m < 200) (M : MS n K Y X o m) (hk : yI Y 301 o = 11) : WM n K Y X o (640 * m) 11 := by
  have hK := S.sc.k2
  obtain ⟨_, _, R, M⟩ := M
  obtain ⟨m1, m2, m3, ⟨l, e, hl, he, hj⟩, m5, ⟨s, hs, es⟩, m7, m8, m9, m10⟩ := M
  have hH := enc3 R
  have T := enc_tl R
  unfold tlM at T
  rw [if_neg (by rw [hk] <;> decide), if_neg (by rw [hk] <;> decide), if_neg (by rw [hk] <;> decide), if_neg (by rw [hk] <;> decide), if_neg (by rw [hk] <;> decide), if_pos (by rw [hk] <;> decide)] at T
  obtain ⟨⟨u, hu, eu⟩, h9⟩ := m9 hk
  have hg : ∀ j, j < 4 → (xS X 0 0).2 10 (640 * m + 3 + j) = nI (([l, e, s, u] : List Nat).getD j 0) ∧ ([l, e, s, u] : List Nat).getD j 0 < 2 ^ 31 := by
    intro j hjN
    have hjc : j = 0 ∨ j = 1 ∨ j = 2 ∨ j = 3 := by omega
    rcases hjc with h | h | h | h <;> subst h
    · exact ⟨(T 0 (by simp)).trans (show (yJ Y 304 o).toInt32 = nI l by rw [hj]; exact vw_lead _ _), by show l < 2 ^ 31; omega⟩
    · exact ⟨(T 1 (by simp)).trans (show ((yJ Y 304 o) >>> ((32 : Int32).toInt64 &&& 63)).toInt32 = nI e by rw [hj]; exact vw_sess _ _), by show e < 2 ^ 31; omega⟩
    · exact ⟨(T 2 (by simp)).trans es, by show s < 2 ^ 31; omega⟩
    · exact ⟨(T 3 (by simp)).trans eu, by show u < 2 ^ 31; omega⟩
  have q0 := aN_len (yH Y o) l
  have q1 := aN_len (aN (yH Y o) l) e
  have q2 := aN_len (aN (aN (yH Y o) l) e) s
  have q3 := aN_len (aN (aN (aN (yH Y o) l) e) s) u
  have a := yH_len (Y := Y) (o := o)
  have b : (if yI Y 309 o = 0 then a1 (aN (aN (aN (aN (yH Y o) l) e) s) u) (yI Y 309 o) else aW (a1 (aN (aN (aN (aN (yH Y o) l) e) s) u) (yI Y 309 o)) (yI Y 310 o)).length + 4 ≤ 2560 := by
    by_cases q : yI Y 309 o = 0
    · rw [if_pos q, a1_len]; omega
    · rw [if_neg q, aW_len, a1_len]; omega
  have h9' : yI Y 309 o = 0 ∨ yI Y 309 o = 1 := h9.imp id (fun q => q.1)
  have hv : yI Y 309 o = 0 ∨ (yI Y 309 o = 1 ∧ (xS X 0 0).2 10 (640 * m + 3 + 4 + 1) = yI Y 310 o) := by
    rcases h9 with q | q
    · exact Or.inl q
    · refine Or.inr ⟨q.1, ?_⟩
      rw [if_neg (by rw [q.1]; decide)] at T
      exact T 5 (by simp)
  have hx : WV (xS X 0 0) (xT2 11 (640 * m + 3 + 4)) (aN (aN (aN (aN (yH Y o) l) e) s) u) (sB ((if yI Y 309 o = 0 then a1 (aN (aN (aN (aN (yH Y o) l) e) s) u) (yI Y 309 o) else aW (a1 (aN (aN (aN (aN (yH Y o) l) e) s) u) (yI Y 309 o)) (yI Y 310 o)))) := x_tA (X0 := xS X 0 0) (b := 640 * m + 3 + 4) (by omega) (by omega) (T 4 (by simp)) hv
  have hx : WV (xS X 0 0) (xT2 11 (640 * m + 3 + 4)) (aNs (fun j => ([l, e, s, u] : List Nat).getD j 0) 0 4 (h3 ((xS X 0 0).2 10) (640 * m))) (sB ((if yI Y 309 o = 0 then a1 (aN (aN (aN (aN (yH Y o) l) e) s) u) (yI Y 309 o) else aW (a1 (aN (aN (aN (aN (yH Y o) l) e) s) u) (yI Y 309 o)) (yI Y 310 o)))) := by
    have e : h3 ((xS X 0 0).2 10) (640 * m) = yH Y o := hH.symm
    rw [e]
    exact hx
  exact wire_join S (y_write1 (by omega) (by omega) (by rw [hk]; decide) hj (y_rest11 (by omega) (by omega) hk es eu h9' (by omega)) b) (x_heads x_num11 (by omega) (by omega) hg hx) (by omega)
theorem wire_k12 (S : Sim n K Y X) {m : Nat} (hm : m < 200) (M : MS n K Y X o m) (hk : yI Y 301 o = 12) : WM n K Y X o (640 * m) 12 := by
  have hK := S.sc.k2
  obtain ⟨_, _, R, M⟩ := M
  obtain ⟨m1, m2, m3, ⟨l, e, hl, he, hj⟩, m5, ⟨s, hs, es⟩, m7, m8, m9, m10⟩ := M
  have hH := enc3 R
  have T := enc_tl R
  unfold tlM at T
  rw [if_neg (by rw [hk] <;> decide), if_neg (by rw [hk] <;> decide), if_pos (by rw [hk] <;> decide)] at T
  have hg : ∀ j, j < 2 → (xS X 0 0).2 10 (640 * m + 3 + j) = nI (([l, e] : List Nat).getD j 0) ∧ ([l, e] : List Nat).getD j 0 < 2 ^ 31 := by
    intro j hjN
    have hjc : j = 0 ∨ j = 1 := by omega
    rcases hjc with h | h <;> subst h
    · exact ⟨(T 0 (by simp)).trans (show (yJ Y 304 o).toInt32 = nI l by rw [hj]; exact vw_lead _ _), by show l < 2 ^ 31; omega⟩
    · exact ⟨(T 1 (by simp)).trans (show ((yJ Y 304 o) >>> ((32 : Int32).toInt64 &&& 63)).toInt32 = nI e by rw [hj]; exact vw_sess _ _), by show e < 2 ^ 31; omega⟩
  have q0 := aN_len (yH Y o) l
  have q1 := aN_len (aN (yH Y o) l) e
  have a := yH_len (Y := Y) (o := o)
  have hx : WV (xS X 0 0) (xT2 12 (640 * m + 3 + 2)) (aN (aN (yH Y o) l) e) (sB (aN (aN (yH Y o) l) e)) := x_tN (k := 12) (by omega) (by omega) (by omega) (by omega) (by omega)
  have hx : WV (xS X 0 0) (xT2 12 (640 * m + 3 + 2)) (aNs (fun j => ([l, e] : List Nat).getD j 0) 0 2 (h3 ((xS X 0 0).2 10) (640 * m))) (sB (aN (aN (yH Y o) l) e)) := by
    have e : h3 ((xS X 0 0).2 10) (640 * m) = yH Y o := hH.symm
    rw [e]
    exact hx
  exact wire_join S (y_write1 (by omega) (by omega) (by rw [hk]; decide) hj (y_rest12 hk) (by omega)) (x_heads x_num12 (by omega) (by omega) hg hx) (by omega)
theorem wire_call (S : Sim n K Y X) (p : Int32) : OutP n K (wy_X11_wire n p Y) (wx_X12_wire p X) := by
  have S0 := sim_code S 0
  rcases air_arg S p with ⟨k, o, m, rfl, hk, hm, M, h5, ya, yl, hk0, xa⟩ | ⟨hy, hx⟩
  · have hc : (nI k).toNatClampNeg = k := nI_clamp (by omega)
    have hcm : (nI (640 * m)).toNatClampNeg = 640 * m := nI_clamp (by omega)
    have W : ∃ kd, yI Y 301 o = nI kd ∧ WM n K Y X o (640 * m) kd := by
      obtain ⟨kd, hkd, ek⟩ := M.2.2.2.1
      refine ⟨kd, ek, ?_⟩
      have h : kd = 0 ∨ kd = 1 ∨ kd = 2 ∨ kd = 3 ∨ kd = 4 ∨ kd = 5 ∨ kd = 6 ∨ kd = 7 ∨ kd = 8 ∨ kd = 9 ∨ kd = 10 ∨ kd = 11 ∨ kd = 12 := by omega
      rcases h with h | h | h | h | h | h | h | h | h | h | h | h | h <;> subst h
      · exact wire_k0 S hm M ek
      · exact wire_k1 S hm M ek
      · exact wire_k2 S hm M ek
      · exact wire_k3 S hm M ek
      · exact wire_k4 S hm M ek
      · exact wire_k5 S hm M ek
      · exact wire_k6 S hm M ek
      · exact wire_k7 S hm M ek
      · exact wire_k8 S hm M ek
      · exact wire_k9 S hm M ek
      · exact wire_k10 S hm M ek
      · exact wire_k11 S hm M ek
      · exact wire_k12 S hm M ek
    obtain ⟨kd, ek, v, Y2, X2, S2, hv, ry, rx⟩ := W
    have hx0 : X.2 10 (640 * m) = nI kd := by
      have := M.2.2.1 0 (by have := (enc_head (Y := Y) (i := o)).2.2.2; omega)
      rw [enc_head.1, ek] at this
      exact this
    refine ⟨v, Y2, X2, fun Q hQ => ⟨fun q => absurd q hk0, fun _ x4 e4 => ⟨fun _ => ya _ (ry _ (fun x26 e26 => ?_)), fun q => absurd (yl (fun _ => True) x4 e4) q⟩⟩, fun Q hQ x1 e1 => ?_, S2⟩
    · rw [hv] at e26
      subst e26
      exact hQ
    · subst e1
      refine xa _ _ ⟨fun _ => ?_, fun q => absurd q (by decide)⟩
      rw [hc]
      refine ⟨vp_in_nI (by omega) (by omega), fun x9 e9 x11 e11 => ?_⟩
      have e9 : x9 = nI m := e9.trans h5
      subst e9
      rw [idx640'] at e11
      subst e11
      rw [hcm]
      refine ⟨vp_in_nI (by omega) (by omega), fun x14 e14 => ?_⟩
      have e14 : x14 = nI kd := e14.trans hx0
      subst e14
      exact rx Q hQ
  · refine ⟨-1, Y, xS X 0 0, fun Q hQ => ?_, fun Q hQ x1 e1 => ?_, S0⟩
    · rcases hy with h | ⟨h0, h⟩
      · exact ⟨fun _ => hQ, fun q => absurd h q⟩
      · exact ⟨fun q => absurd q h0, fun _ x4 e4 => ⟨fun q => absurd q (h x4 e4), fun _ => hQ⟩⟩
    · subst e1
      exact hx _ _ ⟨fun q => absurd rfl q, fun _ => hQ⟩
end
