section
variable {n K : Nat} {Y : Yc} {X : Xc}
/-- the leader that replica r holds for the leader -/
def ldr (n : Nat) (X : Xc) (r : Nat) : Nat := ln (X.2 21 r) % n
theorem ldr_lt (S : Sim n K Y X) (r : Nat) : ldr n X r < n := Nat.mod_lt _ (by have := S.sc.n3; omega)
theorem y_leaderOf (S : ScS n K Y X) {l e : Nat} (hl : l ≤ K) (Q : Int32 → Yc → Prop) (hQ : Q (nI (l % n)) Y) : wy_X4_leaderOf n (vw (nI l) (nI e)) Y Q := by
  have hn := S.n7
  have hn3 := S.n3
  have hk2 := S.k2
  unfold wy_X4_leaderOf
  intro x1 e1
  rw [S.y400] at e1
  subst e1
  refine ⟨fun _ => ?_, fun h => absurd (nI_le (a := 1) (b := n) (by omega) (by omega)) h⟩
  unfold wy_X11_leadOf
  intro x11 e11
  rw [S.y400] at e11
  subst e11
  rw [vw_lead]
  unfold wy_J9_floorMod_7cf53
  refine ⟨nI_ne0 (by omega) (by omega), fun x1 e1 => ?_⟩
  have e1 : x1 = nI (l % n) := e1.trans (md_nI (by omega) (by omega) (by omega))
  subst e1
  refine ⟨fun _ => hQ, fun h => absurd (xor_pos ?_ ?_) h⟩
  · rw [nI_toInt (by omega)]; omega
  · rw [nI_toInt (by omega)]; omega
theorem x_leader (S : Sim n K Y X) {r : Nat} (hr : r < n) (Q : Int32 → Xc → Prop) (hQ : Q (nI (ldr n X r)) X) : wx_X12_leader (nI r) X Q := by
  have hn := S.sc.n7
  have hn3 := S.sc.n3
  have hk2 := S.sc.k2
  unfold wx_X12_leader
  refine ⟨vp_in_nI (by omega) (by omega), fun x2 e2 x4 e4 => ?_⟩
  rw [nI_clamp (by omega)] at e2
  rw [S.sc.x1] at e4
  have hl := (S.rp hr).ldK.ln (by omega)
  subst e4
  refine ⟨nI_ne0 (by omega) (by omega), ?_⟩
  have : x2 - x2 / nI n * nI n = nI (ldr n X r) := by
    rw [e2]
    show md (X.2 21 r) (nI n) = _
    rw [hl.2, md_nI (by omega) (by omega) (by omega)]
    rfl
  rw [this]
  exact hQ
theorem y_leader (S : Sim n K Y X) {r : Nat} (hr : r < n) (Q : Int32 → Yc → Prop) (hQ : Q (nI (ldr n X r)) Y) : wy_X4_leaderOf n (yJ Y 805 r) Y Q := by
  have hk2 := S.sc.k2
  have hl := (S.rp hr).ldK.ln (by omega)
  obtain ⟨e, he, ee⟩ := (S.rp hr).epK
  rw [(S.rp hr).vie, hl.2, ee]
  exact y_leaderOf S.sc hl.1 Q hQ
def lds (n : Nat) (X : Xc) (r : Nat) : Int32 := if ldr n X r = r then 1 else 0
theorem x_leads (S : Sim n K Y X) {r : Nat} (hr : r < n) (Q : Int32 → Xc → Prop) (hQ : Q (lds n X r) X) : wx_X12_leads (nI r) X Q := by
  have hn := S.sc.n7
  have hlt := ldr_lt S r
  unfold wx_X12_leads
  refine x_leader S hr _ ⟨fun h => ?_, fun h => ?_⟩
  · have : ldr n X r ≠ r := fun q => h (by rw [q])
    unfold lds at hQ; rw [if_neg this] at hQ; exact hQ
  · have : ldr n X r = r := (nI_eq (by omega) (by omega)).mp h
    unfold lds at hQ; rw [if_pos this] at hQ; exact hQ
theorem y_leads (S : Sim n K Y X) {r : Nat} (hr : r < n) (Q : Int32 → Yc → Prop) (hQ : Q (lds n X r) Y) : wy_X8_leads n r Y Q := by
  have hn := S.sc.n7
  have hlt := ldr_lt S r
  unfold wy_X8_leads
  intro y2 e2
  subst e2
  refine y_leader S hr _ (fun x12 e12 => ?_)
  rw [(S.rp hr).num] at e12
  subst e12
  refine ⟨fun h => ?_, fun h => ?_⟩
  · have : ldr n X r ≠ r := fun q => h (by rw [q])
    unfold lds at hQ; rw [if_neg this] at hQ; exact hQ
  · have : ldr n X r = r := (nI_eq (by omega) (by omega)).mp h
    unfold lds at hQ; rw [if_pos this] at hQ; exact hQ
theorem lds_1 {r : Nat} : lds n X r = 1 ↔ ldr n X r = r := by
  unfold lds; split <;> simp_all
theorem lds_0 {r : Nat} : lds n X r = 0 ↔ ldr n X r ≠ r := by
  unfold lds; split <;> simp_all
theorem lds_01 {r : Nat} : lds n X r = 0 ∨ lds n X r = 1 := by
  unfold lds; split <;> simp
/-- to each of the others in turn -/
theorem seq_sim (S : Sim n K Y X) (r : Nat) (Sy : Nat → Yc → Yc → Prop) (Sx : Nat → Xc → Xc → Prop)
    (step : ∀ t Y' X', t < n → t ≠ r → Sim n K Y' X' → SR Y X Y' X' → ∃ Y2 X2, Sy t Y' Y2 ∧ Sx t X' X2 ∧ Sim n K Y2 X2 ∧ SR Y' X' Y2 X2) :
    ∃ (ys : Nat → Yc) (xs : Nat → Xc), ys 0 = Y ∧ xs 0 = X ∧ (∀ t, t ≤ n → Sim n K (ys t) (xs t) ∧ SR Y X (ys t) (xs t)) ∧
      ∀ t, t < n → (t = r → ys (t + 1) = ys t ∧ xs (t + 1) = xs t) ∧ (t ≠ r → Sy t (ys t) (ys (t + 1)) ∧ Sx t (xs t) (xs (t + 1))) := by
  have key : ∀ m, m ≤ n → ∃ (ys : Nat → Yc) (xs : Nat → Xc), ys 0 = Y ∧ xs 0 = X ∧ (∀ t, t ≤ m → Sim n K (ys t) (xs t) ∧ SR Y X (ys t) (xs t)) ∧
      ∀ t, t < m → (t = r → ys (t + 1) = ys t ∧ xs (t + 1) = xs t) ∧ (t ≠ r → Sy t (ys t) (ys (t + 1)) ∧ Sx t (xs t) (xs (t + 1))) := by
    intro m
    induction m with
    | zero => intro _; exact ⟨fun _ => Y, fun _ => X, rfl, rfl, fun t _ => ⟨S, SR.rf⟩, fun t ht => by omega⟩
    | succ m ih =>
      intro hm
      obtain ⟨ys, xs, h1, h2, h3, h4⟩ := ih (by omega)
      obtain ⟨Y2, X2, s1, s2, s3, s4⟩ : ∃ Y2 X2, ((m = r → Y2 = ys m ∧ X2 = xs m) ∧ (m ≠ r → Sy m (ys m) Y2 ∧ Sx m (xs m) X2)) ∧ True ∧ Sim n K Y2 X2 ∧ SR Y X Y2 X2 := by
        by_cases e : m = r
        · exact ⟨ys m, xs m, ⟨fun _ => ⟨rfl, rfl⟩, fun q => absurd e q⟩, trivial, (h3 m (by omega)).1, (h3 m (by omega)).2⟩
        · obtain ⟨Y2, X2, a1, a2, a3, a4⟩ := step m (ys m) (xs m) (by omega) e (h3 m (by omega)).1 (h3 m (by omega)).2
          exact ⟨Y2, X2, ⟨fun q => absurd q e, fun _ => ⟨a1, a2⟩⟩, trivial, a3, (h3 m (by omega)).2.trans a4⟩
      refine ⟨fun t => if t = m + 1 then Y2 else ys t, fun t => if t = m + 1 then X2 else xs t, by simp [h1], by simp [h2], fun t ht => ?_, fun t ht => ?_⟩
      · by_cases e : t = m + 1
        · simp only [e, if_true]; exact ⟨s3, s4⟩
        · simp only [if_neg e]; exact h3 t (by omega)
      · by_cases e : t = m
        · subst e
          have : ¬ t = t + 1 := by omega
          simp only [if_true, if_neg this]; exact s1
        · have a1 : ¬ t = m + 1 := by omega
          have a2 : ¬ t + 1 = m + 1 := by omega
          simp only [if_neg a1, if_neg a2]; exact h4 t (by omega)
  exact key n (Nat.le_refl n)
theorem others_sim (S : Sim n K Y X) {r : Nat} (hr : r < n) {k s v : Int32} (hk : PlK k) (hs : Sm K s) (hv : v = if k = 8 ∨ k = 12 then -1 else s) :
    ∃ Y2 X2, (∀ Q : Yc → Prop, Q Y2 → wy_X8_sendOthers n r k s Y Q) ∧ (∀ Q : Xc → Prop, Q X2 → wx_X12_tellOthers k (nI r) v X Q) ∧ Sim n K Y2 X2 ∧ SR Y X Y2 X2 := by
  have hn := S.sc.n7
  obtain ⟨ys, xs, h1, h2, h3, h4⟩ := seq_sim S r (fun t Y' Y2 => ∀ Q : Yc → Prop, Q Y2 → wy_X4_send n k (nI r) (nI t) (yJ Y' 805 r) s Y' (fun _ Y' => Q Y')) (fun t X' X2 => ∀ Q : Xc → Prop, Q X2 → wx_X12_tell k (nI r) (nI t) v X' Q)
    (fun t Y' X' ht hne S' _ => tell_sim S' hr ht hk hs hv)
  refine ⟨ys n, xs n, fun Q hQ => ?_, fun Q hQ => ?_, (h3 n (Nat.le_refl n)).1, (h3 n (Nat.le_refl n)).2⟩
  · unfold wy_X8_sendOthers
    intro R hR
    have key : ∀ d t, t + d = n → R (k, s, nI t) (ys t) := by
      intro d
      induction d with
      | zero =>
        intro t ht
        refine hR _ _ (fun x3 e3 => ?_)
        rw [(h3 t (by omega)).1.sc.y400] at e3
        subst e3
        have ht : t = n := by omega
        subst ht
        exact ⟨fun _ => hQ, fun h => absurd (nI_le (Nat.le_refl t) (by omega)) h⟩
      | succ d ih =>
        intro t ht
        refine hR _ _ (fun x3 e3 => ?_)
        rw [(h3 t (by omega)).1.sc.y400] at e3
        subst e3
        refine ⟨fun h => absurd h (nI_ge (by omega) (by omega)), fun _ x6 e6 => ?_⟩
        rw [((h3 t (by omega)).1.rp hr).num] at e6
        subst e6
        refine ⟨fun h => ?_, fun h x10 e10 y12 e12 => ?_⟩
        · have h : t = r := (nI_eq (by omega) (by omega)).mp h
          unfold by_X8_sendOthers_40
          intro x1 e1
          rw [nI_1] at e1
          subst e1
          have := ih (t + 1) (by omega)
          rw [((h4 t (by omega)).1 h).1] at this
          exact this
        · rw [((h3 t (by omega)).1.rp hr).num] at e10
          subst e10; subst e12
          have hne : t ≠ r := fun q => h (by rw [q])
          refine ((h4 t (by omega)).2 hne).1 _ ?_
          unfold by_X8_sendOthers_40
          intro x1 e1
          rw [nI_1] at e1
          subst e1
          exact ih (t + 1) (by omega)
    have := key n 0 (by omega)
    rw [h1] at this
    exact this
  · unfold wx_X12_tellOthers
    intro R hR
    have key : ∀ d t, t + d = n → R (k, nI r, v, nI t) (xs t) := by
      intro d
      induction d with
      | zero =>
        intro t ht
        refine hR _ _ (fun x1 e1 => ?_)
        rw [(h3 t (by omega)).1.sc.x1] at e1
        subst e1
        have ht : t = n := by omega
        subst ht
        exact ⟨fun _ => hQ, fun h => absurd (nI_le (Nat.le_refl t) (by omega)) h⟩
      | succ d ih =>
        intro t ht
        refine hR _ _ (fun x1 e1 => ?_)
        rw [(h3 t (by omega)).1.sc.x1] at e1
        subst e1
        refine ⟨fun h => absurd h (nI_ge (by omega) (by omega)), fun _ => ⟨fun h => ?_, fun h => ?_⟩⟩
        · have h : t = r := (nI_eq (by omega) (by omega)).mp h
          unfold bx_X12_tellOthers_27
          intro x1 e1
          rw [nI_1] at e1
          subst e1
          have := ih (t + 1) (by omega)
          rw [((h4 t (by omega)).1 h).2] at this
          exact this
        · have hne : t ≠ r := fun q => h (by rw [q])
          refine ((h4 t (by omega)).2 hne).2 _ ?_
          unfold bx_X12_tellOthers_27
          intro x1 e1
          rw [nI_1] at e1
          subst e1
          exact ih (t + 1) (by omega)
    have := key n 0 (by omega)
    rw [h2] at this
    exact this
/-- the loop of tellTurn, and what stands behind it -/
theorem y_tellTurn_loop {r : Nat} (hr : r < n) (hn : n ≤ 7) {ys : Nat → Yc} {xs : Nat → Xc} (h3 : ∀ t, t ≤ n → Sim n K (ys t) (xs t))
    (h4 : ∀ t, t < n → (t = r → ys (t + 1) = ys t) ∧ (t ≠ r → ∀ Q : Yc → Prop, Q (ys (t + 1)) → wy_X4_send n 8 (nI r) (nI t) (yJ (ys t) 805 r) 0 (ys t) (fun _ Y' => Q Y')))
    (Q : Yc → Prop) (hQ : ∀ y7 : Int64, y7 = yJ (ys n) 805 r → (wy_X4_leaderOf n y7 (ys n) (fun (x13 : Int32) (Y10 : Yc) => (∀ x16 : Int32, x16 = yI Y10 800 r → ((x13 = x16 → Q Y10) ∧ (¬ x13 = x16 → (∀ x20 : Int32, x20 = yI Y10 800 r → (∀ y22 : Int64, y22 = yJ Y10 805 r → (wy_X4_send n (9 : Int32) x20 x13 y22 (0 : Int32) Y10 (fun (o29 : Nat) (Y26 : Yc) => (∀ y32 : Int64, y32 = yJ Y26 806 r → (wy_X2_become n (56 + o29) r (uJ Y26 305 o29 y32) (fun (Y40 : Yc) => Q Y40))))))))))))) :
    LFy (fy_X8_tellTurn_13 n r Q) 0 (ys 0) := by
  intro R hR
  have key : ∀ d t, t + d = n → R (nI t) (ys t) := by
    intro d
    induction d with
    | zero =>
      intro t ht
      refine hR _ _ (fun x3 e3 => ?_)
      rw [(h3 t (by omega)).sc.y400] at e3
      subst e3
      have ht : t = n := by omega
      subst ht
      exact ⟨fun _ => hQ, fun h => absurd (nI_le (Nat.le_refl t) (by omega)) h⟩
    | succ d ih =>
      intro t ht
      refine hR _ _ (fun x3 e3 => ?_)
      rw [(h3 t (by omega)).sc.y400] at e3
      subst e3
      refine ⟨fun h => absurd h (nI_ge (by omega) (by omega)), fun _ x6 e6 => ?_⟩
      rw [((h3 t (by omega)).rp hr).num] at e6
      subst e6
      refine ⟨fun h => ?_, fun h x10 e10 y12 e12 => ?_⟩
      · have h : t = r := (nI_eq (by omega) (by omega)).mp h
        unfold by_X8_tellTurn_52
        intro x1 e1
        rw [nI_1] at e1
        subst e1
        have := ih (t + 1) (by omega)
        rw [(h4 t (by omega)).1 h] at this
        exact this
      · rw [((h3 t (by omega)).rp hr).num] at e10
        subst e10; subst e12
        have hne : t ≠ r := fun q => h (by rw [q])
        refine (h4 t (by omega)).2 hne _ ?_
        unfold by_X8_tellTurn_52
        intro x1 e1
        rw [nI_1] at e1
        subst e1
        exact ih (t + 1) (by omega)
  exact key n 0 (by omega)
end
