section
variable {n K : Nat} {Y Y2 : Yc} {X X2 : Xc}
theorem nI_p {t : Nat} : nI (t + 1) + (-1 : Int32) = nI t := by
  have h : nI (t + 1) + (-1 : Int32) = nI (t + 1) - nI 1 := by rw [Int32.sub_eq_add_neg]; rfl
  rw [h, nI_sub (by omega)]
  rfl
theorem nI_m {t : Nat} : nI (t + 1) - (1 : Int32) = nI t := by
  show nI (t + 1) - nI 1 = nI t
  rw [nI_sub (by omega)]
  rfl
/-- the ring whose places t + 1 .. k from the oldest on are one further -/
def yRp (Y : Yc) (od k t : Nat) : Yc := (Y.1, Y.2.1, Y.2.2.1, Y.2.2.2.1, Y.2.2.2.2.1, Y.2.2.2.2.2.1, fun i => if i < 256 ∧ t < (i + 256 - od) % 256 ∧ (i + 256 - od) % 256 ≤ k then yR Y ((i + 255) % 256) else yR Y i)
theorem yRp_R (od k t i : Nat) : yR (yRp Y od k t) i = if i < 256 ∧ t < (i + 256 - od) % 256 ∧ (i + 256 - od) % 256 ≤ k then yR Y ((i + 255) % 256) else yR Y i := rfl
theorem yRp_0 (od k : Nat) : yRp Y od k k = Y := by
  have : (fun i => if i < 256 ∧ k < (i + 256 - od) % 256 ∧ (i + 256 - od) % 256 ≤ k then yR Y ((i + 255) % 256) else yR Y i) = yR Y := by
    funext i
    rw [if_neg (by omega)]
  unfold yRp
  rw [this]
  rfl
theorem yRp_s {od k t : Nat} (ho : od < 256) (hk : k < 200) (ht : t < k) : uR (yRp Y od k (t + 1)) ((od + (t + 1)) % 256) (yR (yRp Y od k (t + 1)) ((od + t) % 256)) = yRp Y od k t := by
  have h0 : yR (yRp Y od k (t + 1)) ((od + t) % 256) = yR Y ((od + t) % 256) := by rw [yRp_R, if_neg (by omega)]
  have : (fun i => if i = (od + (t + 1)) % 256 then yR Y ((od + t) % 256) else if i < 256 ∧ t + 1 < (i + 256 - od) % 256 ∧ (i + 256 - od) % 256 ≤ k then yR Y ((i + 255) % 256) else yR Y i) = (fun i => if i < 256 ∧ t < (i + 256 - od) % 256 ∧ (i + 256 - od) % 256 ≤ k then yR Y ((i + 255) % 256) else yR Y i) := by
    funext i
    by_cases e : i = (od + (t + 1)) % 256
    · rw [if_pos e, if_pos (by omega)]
      congr 1
      omega
    · rw [if_neg e]
      by_cases h : i < 256 ∧ t < (i + 256 - od) % 256 ∧ (i + 256 - od) % 256 ≤ k
      · rw [if_pos h, if_pos (by omega)]
      · rw [if_neg h, if_neg (by omega)]
  rw [h0]
  unfold yRp
  rw [← this]
  rfl
def yPl (Y : Yc) (od cnt k : Nat) : Yc := uI (uI (uR (yRp Y od k 0) od (yR Y ((od + k) % 256))) 404 0 (nI ((od + 1) % 256))) 405 0 (nI (cnt - 1))
theorem y_at {od k : Nat} (e4 : yI Y 404 0 = nI od) (ho : od < 256) (hk : k < 256) (Q : Nat → Yc → Prop) (hQ : Q (yR Y ((od + k) % 256)) Y) : wy_X4_at n (nI k) Y Q := by
  unfold wy_X4_at
  intro x2 e2 x4 e4'
  rw [e4] at e2
  subst e2
  rw [nI_add, and255 (by omega)] at e4'
  subst e4'
  refine ⟨vp_in_nI (by omega) (by omega), fun o9 e9 => ?_⟩
  rw [nI_clamp (by omega)] at e9
  subst e9
  exact hQ
theorem y_pull {od cnt k : Nat} (e4 : yI Y 404 0 = nI od) (e5 : yI Y 405 0 = nI cnt) (ho : od < 256) (hc : cnt ≤ 200) (hk : k < cnt) (Q : Nat → Yc → Prop) (hQ : Q (yR Y ((od + k) % 256)) (yPl Y od cnt k)) : wy_X4_pull n (nI k) Y Q := by
  unfold wy_X4_pull
  refine y_at e4 ho (by omega) _ ?_
  intro R hR
  have key : ∀ t, t ≤ k → R (yR Y ((od + k) % 256), nI t) (yRp Y od k t) := by
    intro t
    induction t with
    | zero =>
      intro _
      refine hR _ _ ⟨fun _ x3 e3 => ?_, fun h => absurd (by show nI 0 ≤ (0 : Int32); decide) h⟩
      have e3 : x3 = nI od := e3.trans e4
      subst e3
      rw [and255 (by omega), Nat.mod_eq_of_lt ho, nI_clamp (by omega)]
      refine ⟨vp_in_nI (by omega) (by omega), fun x7 e7 x9 e9 x12 e12 x14 e14 => ?_⟩
      have e7 : x7 = nI od := e7.trans e4
      subst e7
      rw [nI_1, and255 (by omega)] at e9
      subst e9
      have e12 : x12 = nI cnt := e12.trans e5
      subst e12
      have e14 : x14 = nI (cnt - 1) := e14.trans (nI_sub (a := cnt) (b := 1) (by omega))
      subst e14
      exact hQ
    | succ t ih =>
      intro ht
      refine hR _ _ ⟨fun h => absurd h (nI_ge (a := 0) (b := t + 1) (by omega) (by omega)), fun _ x18 e18 x21 e21 x23 e23 => ?_⟩
      have e18 : x18 = nI od := e18.trans e4
      have e21 : x21 = nI od := e21.trans e4
      subst e18; subst e21
      rw [nI_add, show od + (t + 1) = (od + t) + 1 by omega, nI_m, and255 (by omega)] at e23
      subst e23
      refine ⟨vp_in_nI (by omega) (by omega), fun o28 e28 => ?_⟩
      rw [nI_clamp (by omega)] at e28
      subst e28
      rw [nI_add, and255 (by omega), nI_clamp (by omega)]
      refine ⟨vp_in_nI (by omega) (by omega), fun x32 e32 => ?_⟩
      rw [nI_p] at e32
      subst e32
      rw [yRp_s ho (by omega) (by omega)]
      exact ih (by omega)
  have := key k (Nat.le_refl k)
  rw [yRp_0] at this
  exact this
/-- the rows whose places k .. t - 1 are one nearer -/
def xRm (X : Xc) (k t : Nat) : Xc := (X.1, fun q i => if q = 5 ∧ k ≤ i ∧ i < t then X.2 5 (i + 1) else X.2 q i)
theorem xRm_2 (k t q i : Nat) : (xRm X k t).2 q i = if q = 5 ∧ k ≤ i ∧ i < t then X.2 5 (i + 1) else X.2 q i := rfl
theorem xRm_0 (k : Nat) : xRm X k k = X := by
  have : (fun q i => if q = 5 ∧ k ≤ i ∧ i < k then X.2 5 (i + 1) else X.2 q i) = X.2 := by
    funext q i
    rw [if_neg (by omega)]
  unfold xRm
  rw [this]
theorem xRm_s {k t : Nat} (h : k ≤ t) : xA (xRm X k t) 5 t ((xRm X k t).2 5 (t + 1)) = xRm X k (t + 1) := by
  have h0 : (xRm X k t).2 5 (t + 1) = X.2 5 (t + 1) := by rw [xRm_2, if_neg (by omega)]
  rw [h0]
  have : (xA (xRm X k t) 5 t (X.2 5 (t + 1))).2 = (xRm X k (t + 1)).2 := by
    funext q i
    rw [xAA, xRm_2, xRm_2]
    by_cases e : q = 5 ∧ i = t
    · obtain ⟨rfl, rfl⟩ := e
      rw [if_pos ⟨rfl, rfl⟩, if_pos (by omega)]
    · rw [if_neg e]
      by_cases g : q = 5 ∧ k ≤ i ∧ i < t
      · rw [if_pos g, if_pos (by omega)]
      · rw [if_neg g, if_neg (by omega)]
  exact Prod.ext rfl this
def xPl (X : Xc) (k cnt m : Nat) : Xc := xA (xS (xRm X k (cnt - 1)) 6 (nI (cnt - 1))) 9 m 0
theorem x_remove {cnt k m : Nat} (x6 : X.1 6 = nI cnt) (hc : cnt ≤ 200) (hk : k < cnt) (hm : m < 200) (xm : X.2 5 k = nI m) (Q : Int32 → Xc → Prop) (hQ : Q (nI m) (xPl X k cnt m)) : wx_X12_remove (nI k) X Q := by
  unfold wx_X12_remove
  refine ⟨vp_in_nI (by omega) (by omega), fun x2 e2 => ?_⟩
  rw [nI_clamp (by omega), xm] at e2
  subst e2
  intro R hR
  have key : ∀ d t, t + d + 1 = cnt → k ≤ t → R (nI m, nI t) (xRm X k t) := by
    intro d
    induction d with
    | zero =>
      intro t ht hkt
      refine hR _ _ (fun x1 e1 => ?_)
      have e1 : x1 = nI cnt := e1.trans x6
      subst e1
      refine ⟨fun _ x4 e4 x6' e6 => ?_, fun h => absurd (by rw [nI_1]; exact nI_le (by omega) (by omega)) h⟩
      have e4 : x4 = nI cnt := e4.trans x6
      subst e4
      have e6 : x6' = nI (cnt - 1) := e6.trans (nI_sub (a := cnt) (b := 1) (by omega))
      subst e6
      refine ⟨vp_in_nI (by omega) (by omega), ?_⟩
      rw [nI_clamp (by omega), show t = cnt - 1 by omega]
      exact hQ
    | succ d ih =>
      intro t ht hkt
      refine hR _ _ (fun x1 e1 => ?_)
      have e1 : x1 = nI cnt := e1.trans x6
      subst e1
      refine ⟨fun h => absurd h (by rw [nI_1]; exact nI_ge (by omega) (by omega)), fun _ x11 e11 => ?_⟩
      rw [nI_1] at e11
      subst e11
      refine ⟨vp_in_nI (by omega) (by omega), fun x13 e13 => ⟨vp_in_nI (by omega) (by omega), fun x15 e15 => ?_⟩⟩
      rw [nI_1] at e15
      rw [nI_clamp (by omega)] at e13
      subst e15; subst e13
      rw [nI_clamp (by omega), xRm_s hkt]
      exact ih (t + 1) (by omega) (by omega)
  have := key (cnt - 1 - k) k (by omega) (Nat.le_refl k)
  rw [xRm_0] at this
  exact this
theorem pull_sim (S : Sim n K Y X) {k : Nat} (hk : k < ln (X.1 6)) :
    ∃ o m Y2 X2, (∀ Q : Nat → Yc → Prop, Q o Y2 → wy_X4_pull n (nI k) Y Q) ∧ (∀ Q : Int32 → Xc → Prop, Q (nI m) X2 → wx_X12_remove (nI k) X Q) ∧ Sim n K Y2 X2 ∧
      m < 200 ∧ o = yR Y2 ((ln (yI Y2 404 0) + 255) % 256) ∧ MS n K Y2 X2 o m ∧ ln (X.1 6) = ln (X2.1 6) + 1 ∧ X2.1 0 = X.1 0 := by
  obtain ⟨cnt, od, hc, ho, e5, x6, e4, hr, hri, f, hf, hfi, hfb⟩ := S.ar
  have hcl : ln (nI cnt) = cnt := nI_clamp (by omega)
  rw [x6, hcl] at hk
  obtain ⟨g1, g2, g3, g4⟩ := hf k hk
  have hn := S.sc.n7
  have hI : ∀ c o, c ≠ 404 → c ≠ 405 → yI (yPl Y od cnt k) c o = yI Y c o := fun c o h1 h2 => by
    unfold yPl
    rw [yII, if_neg (by omega), yII, if_neg (by omega)]
    rfl
  have hX : ∀ j, j ≠ 6 → (xPl X k cnt (f k)).1 j = X.1 j := fun j h => by
    unfold xPl
    rw [xSA, xSS, if_neg h]
    rfl
  have hX2 : ∀ q i, q ≠ 5 → q ≠ 9 → (xPl X k cnt (f k)).2 q i = X.2 q i := fun q i h1 h2 => by
    unfold xPl
    rw [xAA, if_neg (by omega), xAS, xRm_2, if_neg (by omega)]
  have hR : ∀ j, j < 256 → yR (yPl Y od cnt k) ((od + j) % 256) = if j = 0 then yR Y ((od + k) % 256) else if j ≤ k then yR Y ((od + j - 1) % 256) else yR Y ((od + j) % 256) := fun j hj => by
    show yR (uR (yRp Y od k 0) od (yR Y ((od + k) % 256))) ((od + j) % 256) = _
    rw [yRR]
    by_cases h0 : j = 0
    · subst h0
      rw [if_pos (by omega), if_pos rfl]
    · rw [if_neg (by omega), if_neg h0, yRp_R]
      by_cases h1 : j ≤ k
      · rw [if_pos (by omega), if_pos h1]
        congr 1
        omega
      · rw [if_neg (by omega), if_neg h1]
  have hmeq : ∀ i, MEq Y (yPl Y od cnt k) i := fun i => ⟨fun c h1 h2 => hI c i (by omega) (by omega), rfl, rfl, rfl, hI 201 _ (by omega) (by omega), hI 202 _ (by omega) (by omega), rfl⟩
  have hms : ∀ i m, MS n K Y X i m → MS n K (yPl Y od cnt k) (xPl X k cnt (f k)) i m := fun i m ⟨m1, m2, m3, m4⟩ =>
    ⟨by rw [(hmeq i).1 300 (by omega) (by omega), hX2 12 _ (by omega) (by omega)]; exact m1, by rw [(hmeq i).enc, hX2 11 _ (by omega) (by omega)]; exact m2, by rw [(hmeq i).enc]; intro j hj; rw [hX2 10 _ (by omega) (by omega)]; exact m3 j hj, (hmeq i).ok m4⟩
  have h404 : yI (yPl Y od cnt k) 404 0 = nI ((od + 1) % 256) := rfl
  have h405 : yI (yPl Y od cnt k) 405 0 = nI (cnt - 1) := rfl
  have hx6 : (xPl X k cnt (f k)).1 6 = nI (cnt - 1) := rfl
  -- any place is od + j
  have hpl : ∀ i, i < 256 → ∃ j, j < 256 ∧ (od + j) % 256 = i := fun i hi => ⟨(i + 256 - od) % 256, by omega, by omega⟩
  -- the old place of what stands at od + j
  let g : Nat → Nat := fun j => if j = 0 then k else if j ≤ k then j - 1 else j
  have hg : ∀ j, j < 256 → yR (yPl Y od cnt k) ((od + j) % 256) = yR Y ((od + g j) % 256) ∧ g j < 256 := fun j hj => by
    rw [hR j hj]
    show _ = yR Y ((od + (if j = 0 then k else if j ≤ k then j - 1 else j)) % 256) ∧ (if j = 0 then k else if j ≤ k then j - 1 else j) < 256
    split
    · exact ⟨rfl, by omega⟩
    · split
      · exact ⟨by congr 1; omega, by omega⟩
      · exact ⟨rfl, by omega⟩
  have hgi : ∀ i j, i < 256 → j < 256 → g i = g j → i = j := fun i j hi hj h => by
    have h : (if i = 0 then k else if i ≤ k then i - 1 else i) = (if j = 0 then k else if j ≤ k then j - 1 else j) := h
    split at h <;> split at h <;> (try split at h) <;> (try split at h) <;> omega
  refine ⟨yR Y ((od + k) % 256), f k, yPl Y od cnt k, xPl X k cnt (f k), fun Q hQ => y_pull e4 e5 ho hc hk Q hQ, fun Q hQ => x_remove x6 hc hk g1 g2 Q hQ, ?_, g1, ?_, hms _ _ g4, ?_, rfl⟩
  · refine Sim.mk (sc_Sc (fun c h => hI c 0 (by omega) (by omega)) (fun j h => hX j (by omega)) S.sc) (out_Pcs ⟨fun c o h1 h2 h3 => hI c o (by omega) (by omega), fun _ _ _ _ => rfl, rfl, rfl, fun _ _ _ => rfl, fun _ _ _ _ => rfl⟩ ⟨fun j _ _ h _ _ _ _ _ _ => hX j h, fun q h1 h2 _ _ => funext (fun i => hX2 q i h1 (by omega))⟩ hn S.pcs) ?_
    refine ⟨cnt - 1, (od + 1) % 256, by omega, by omega, h405, hx6, h404, fun i hi => ?_, fun i j hi hj h => ?_, fun j => if j < k then f j else f (j + 1), fun j hj => ?_, fun i j hi hj h => ?_, fun m hm hb => ?_⟩
    · obtain ⟨j, hj, rfl⟩ := hpl i hi
      rw [(hg j hj).1]
      exact hr _ (by omega)
    · obtain ⟨i', hi', rfl⟩ := hpl i hi
      obtain ⟨j', hj', rfl⟩ := hpl j hj
      rw [(hg i' hi').1, (hg j' hj').1] at h
      have h2 := hri _ _ (by omega) (by omega) h
      have h3 := (hg i' hi').2
      have h4 := (hg j' hj').2
      have := hgi i' j' hi' hj' (by omega)
      subst this
      rfl
    · have e : ((od + 1) % 256 + j) % 256 = (od + (j + 1)) % 256 := by omega
      rw [e, hR (j + 1) (by omega), if_neg (by omega)]
      have h5 : (xPl X k cnt (f k)).2 5 j = if k ≤ j then X.2 5 (j + 1) else X.2 5 j := by
        unfold xPl
        rw [xAA, if_neg (by omega), xAS, xRm_2]
        by_cases h : k ≤ j
        · rw [if_pos (by omega), if_pos h]
        · rw [if_neg (by omega), if_neg h]
      have h9 : ∀ m, m ≠ f k → (xPl X k cnt (f k)).2 9 m = X.2 9 m := fun m h => by
        unfold xPl
        rw [xAA, if_neg (by omega), xAS, xRm_2, if_neg (by omega)]
      dsimp only
      by_cases h : j < k
      · obtain ⟨a1, a2, a3, a4⟩ := hf j (by omega)
        have hne : f j ≠ f k := fun q => by have := hfi j k (by omega) hk q; omega
        rw [if_pos h, if_pos (by omega), h5, if_neg (by omega), h9 _ hne, show od + (j + 1) - 1 = od + j by omega]
        exact ⟨a1, a2, a3, hms _ _ a4⟩
      · obtain ⟨a1, a2, a3, a4⟩ := hf (j + 1) (by omega)
        have hne : f (j + 1) ≠ f k := fun q => by have := hfi (j + 1) k (by omega) hk q; omega
        rw [if_neg h, if_neg (by omega), h5, if_pos (by omega), h9 _ hne]
        exact ⟨a1, a2, a3, hms _ _ a4⟩
    · have h : (if i < k then f i else f (i + 1)) = (if j < k then f j else f (j + 1)) := h
      split at h <;> split at h
      · exact hfi i j (by omega) (by omega) h
      · have := hfi i (j + 1) (by omega) (by omega) h; omega
      · have := hfi (i + 1) j (by omega) (by omega) h; omega
      · have := hfi (i + 1) (j + 1) (by omega) (by omega) h; omega
    · unfold xPl at hb
      rw [xAA] at hb
      by_cases e : m = f k
      · rw [if_pos ⟨rfl, e⟩] at hb
        exact absurd rfl hb
      · rw [if_neg (by omega), xAS] at hb
        have hb : X.2 9 m ≠ 0 := hb
        obtain ⟨j, hj, ej⟩ := hfb m hm hb
        have hjk : j ≠ k := fun q => e (by rw [← ej, q])
        by_cases h : j < k
        · exact ⟨j, by omega, by show (if j < k then f j else f (j + 1)) = m; rw [if_pos h]; exact ej⟩
        · exact ⟨j - 1, by omega, by show (if j - 1 < k then f (j - 1) else f (j - 1 + 1)) = m; rw [if_neg (by omega), show j - 1 + 1 = j by omega]; exact ej⟩
  · have e : ln (nI ((od + 1) % 256)) = (od + 1) % 256 := nI_clamp (by omega)
    rw [h404, e]
    have e2 : ((od + 1) % 256 + 255) % 256 = (od + 0) % 256 := by omega
    rw [e2, hR 0 (by omega), if_pos rfl]
  · have e : ln (nI (cnt - 1)) = cnt - 1 := nI_clamp (by omega)
    rw [x6, hx6, e, hcl]
    omega
/-- the message copied -/
def xNw (X : Xc) (m j : Nat) : Xc := (X.1, fun q i => if q = 15 ∧ i < j then X.2 10 (640 * m + i) else X.2 q i)
theorem xNw_2 (m j q i : Nat) : (xNw X m j).2 q i = if q = 15 ∧ i < j then X.2 10 (640 * m + i) else X.2 q i := rfl
theorem xNw_0 (m : Nat) : xNw X m 0 = X := by
  have : (fun q i => if q = 15 ∧ i < 0 then X.2 10 (640 * m + i) else X.2 q i) = X.2 := by
    funext q i
    rw [if_neg (by omega)]
  unfold xNw
  rw [this]
theorem xNw_s {m j : Nat} : xA (xNw X m j) 15 j (X.2 10 (640 * m + j)) = xNw X m (j + 1) := by
  have : (xA (xNw X m j) 15 j (X.2 10 (640 * m + j))).2 = (xNw X m (j + 1)).2 := by
    funext q i
    rw [xAA, xNw_2, xNw_2]
    by_cases e : q = 15 ∧ i = j
    · obtain ⟨rfl, rfl⟩ := e
      rw [if_pos ⟨rfl, rfl⟩, if_pos (by omega)]
    · rw [if_neg e]
      by_cases g : q = 15 ∧ i < j
      · rw [if_pos g, if_pos (by omega)]
      · rw [if_neg g, if_neg (by omega)]
  exact Prod.ext rfl this
def hndx (Qx : Xc → Prop) (X : Xc) : Prop := (vp_in (2 : Int32) 640 ∧ (∀ x6 : Int32, x6 = X.2 15 (2 : Int32).toNatClampNeg → ((x6 < (16 : Int32) → (vp_in (2 : Int32) 640 ∧ (∀ x11 : Int32, x11 = X.2 15 (2 : Int32).toNatClampNeg → (vp_in x11 7 ∧ (∀ x13 : Int32, x13 = X.2 20 x11.toNatClampNeg → ((x13 = 0 → (vp_in (2 : Int32) 640 ∧ (∀ x17 : Int32, x17 = X.2 15 (2 : Int32).toNatClampNeg → (wx_X12_replicaGets x17 X (fun (X21 : Xc) => Qx X21))))) ∧ (¬ x13 = 0 → (∀ x23 : Int32, x23 = X.1 8 → (∀ x25 : Int32, x25 = x23 + (1 : Int32) → Qx (xS X 8 x25)))))))))) ∧ (¬ x6 < (16 : Int32) → (vp_in (2 : Int32) 640 ∧ (∀ x28 : Int32, x28 = X.2 15 (2 : Int32).toNatClampNeg → (wx_X12_clientGets (x28 - (16 : Int32)) X (fun (X32 : Xc) => Qx X32))))))))
theorem now_sim (S : Sim n K Y X) {o m : Nat} (hm : m < 200) (ho : o = yR Y ((ln (yI Y 404 0) + 255) % 256)) (M : MS n K Y X o m) :
    ∃ X2, (∀ Q : Xc → Prop, hndx Q X2 → LFx (fx_X12_hand_8 Q) (nI m, (0 : Int32)) X) ∧ Sim n K Y X2 ∧ Han n K Y X2 o (encM Y o) ∧ X2.1 = X.1 := by
  obtain ⟨m1, m2, m3, m4⟩ := M
  have hn := S.sc.n7
  have hl := enc_len m4
  generalize hL : (encM Y o).length = L at *
  have hq : ∀ q i, q ≠ 15 → (xNw X m L).2 q i = X.2 q i := fun q i h => by rw [xNw_2, if_neg (by omega)]
  refine ⟨xNw X m L, fun Q hQ R hR => ?_, ?_, ⟨ho, rfl, m4, fun j hj => ?_, by omega⟩, rfl⟩
  · have key : ∀ d t, t + d = L → R (nI m, nI t) (xNw X m t) := by
      intro d
      induction d with
      | zero =>
        intro t ht
        refine hR _ _ ⟨vp_in_nI (by omega) (by omega), fun x2 e2 => ?_⟩
        have e2 : x2 = nI L := by rw [e2, nI_clamp (by omega)]; exact m2
        subst e2
        have ht : t = L := by omega
        subst ht
        exact ⟨fun _ => hQ, fun h => absurd (nI_le (Nat.le_refl t) (by omega)) h⟩
      | succ d ih =>
        intro t ht
        refine hR _ _ ⟨vp_in_nI (by omega) (by omega), fun x2 e2 => ?_⟩
        have e2 : x2 = nI L := by rw [e2, nI_clamp (by omega)]; exact m2
        subst e2
        refine ⟨fun h => absurd h (nI_ge (by omega) (by omega)), fun _ x36 e36 => ?_⟩
        have e36 : x36 = nI (640 * m + t) := by rw [e36]; show nI 640 * nI m + nI t = _; rw [nI_mul, nI_add]
        subst e36
        refine ⟨vp_in_nI (by omega) (by omega), fun x38 e38 => ⟨vp_in_nI (by omega) (by omega), fun x40 e40 => ?_⟩⟩
        rw [nI_1] at e40
        have e38 : x38 = X.2 10 (640 * m + t) := by rw [e38, nI_clamp (by omega)]; rfl
        subst e38; subst e40
        rw [nI_clamp (by omega), xNw_s]
        exact ih (t + 1) (by omega)
    have := key L 0 (by omega)
    rw [xNw_0] at this
    exact this
  · refine Sim.mk (sc_Sc (X := X) (fun c h => rfl) (fun j h => rfl) S.sc) (out_Pcs (X := X) OutY.rf ⟨fun j _ _ h _ _ _ _ _ _ => rfl, fun q h1 h2 h3 _ => funext (fun i => hq q i h3)⟩ hn S.pcs) (ae_Ar (X := X) ⟨rfl, rfl, rfl, fun i => MEq.rf⟩ ⟨rfl, fun k i h => hq k i (by omega)⟩ S.ar)
  · show (if 15 = 15 ∧ 0 + j < L then X.2 10 (640 * m + (0 + j)) else X.2 15 (0 + j)) = _
    rw [if_pos (by omega), Nat.zero_add]
    exact m3 j hj
/-- looking for a message -/
theorem find_sim (S : Sim n K Y X) (p : Int32) : (∃ k, k < ln (X.1 6) ∧ (∀ Q : Int32 → Yc → Prop, Q (nI k) Y → wy_X4_find n p Y Q) ∧ (∀ Q : Int32 → Xc → Prop, Q (nI k) X → wx_X12_find p X Q)) ∨
    ((∀ Q : Int32 → Yc → Prop, Q (-1) Y → wy_X4_find n p Y Q) ∧ (∀ Q : Int32 → Xc → Prop, Q (-1) X → wx_X12_find p X Q)) := by
  obtain ⟨cnt, od, hc, ho, e5, x6, e4, hr, hri, f, hf, hfi, hfb⟩ := S.ar
  have hcl : ln (nI cnt) = cnt := nI_clamp (by omega)
  have key : ∀ d t, t + d = cnt → (∃ k, k < cnt ∧ (∀ Q : Int32 → Yc → Prop, Q (nI k) Y → LFy (fy_X4_find_2 n Q) (p, nI t) Y) ∧ (∀ Q : Int32 → Xc → Prop, Q (nI k) X → LFx (fx_X12_find_2 Q) (p, nI t) X)) ∨
    ((∀ Q : Int32 → Yc → Prop, Q (-1) Y → LFy (fy_X4_find_2 n Q) (p, nI t) Y) ∧ (∀ Q : Int32 → Xc → Prop, Q (-1) X → LFx (fx_X12_find_2 Q) (p, nI t) X)) := by
    intro d
    induction d with
    | zero =>
      intro t ht
      refine Or.inr ⟨fun Q hQ R hR => hR _ _ (fun x1 e1 => ?_), fun Q hQ R hR => hR _ _ (fun x1 e1 => ?_)⟩
      · rw [e5] at e1; subst e1
        exact ⟨fun _ => hQ, fun h => absurd (nI_le (by omega) (by omega)) h⟩
      · rw [x6] at e1; subst e1
        exact ⟨fun _ => hQ, fun h => absurd (nI_le (by omega) (by omega)) h⟩
    | succ d ih =>
      intro t ht
      obtain ⟨g1, g2, g3, g4⟩ := hf t (by omega)
      have yg : ∀ (Q : Int32 → Yc → Prop) (R : Int32 × Int32 → Yc → Prop), ((¬ X.2 12 (f t) = p → R (p, nI (t + 1)) Y) ∧ (X.2 12 (f t) = p → Q (nI t) Y)) → fy_X4_find_2 n Q R (p, nI t) Y := fun Q R h x1 e1 => by
        rw [e5] at e1; subst e1
        refine ⟨fun h => absurd h (nI_ge (by omega) (by omega)), fun _ => y_at e4 ho (by omega) _ (fun x12 e12 => ?_)⟩
        rw [g4.1] at e12
        subst e12
        refine ⟨fun q x15 e15 => ?_, h.2⟩
        have e15 : x15 = nI (t + 1) := e15.trans (nI_1 _)
        subst e15
        exact h.1 q
      have xg : ∀ (Q : Int32 → Xc → Prop) (R : Int32 × Int32 → Xc → Prop), ((¬ X.2 12 (f t) = p → R (p, nI (t + 1)) X) ∧ (X.2 12 (f t) = p → Q (nI t) X)) → fx_X12_find_2 Q R (p, nI t) X := fun Q R h x1 e1 => by
        rw [x6] at e1; subst e1
        refine ⟨fun h => absurd h (nI_ge (by omega) (by omega)), fun _ => ⟨vp_in_nI (by omega) (by omega), fun x6 e6 => ?_⟩⟩
        rw [nI_clamp (by omega), g2] at e6
        subst e6
        refine ⟨vp_in_nI (by omega) (by omega), fun x8 e8 => ?_⟩
        rw [nI_clamp (by omega)] at e8
        subst e8
        refine ⟨fun q x15 e15 => ?_, h.2⟩
        have e15 : x15 = nI (t + 1) := e15.trans (nI_1 _)
        subst e15
        exact h.1 q
      by_cases e : X.2 12 (f t) = p
      · exact Or.inl ⟨t, by omega, fun Q hQ R hR => hR _ _ (yg Q R ⟨fun h => absurd e h, fun _ => hQ⟩), fun Q hQ R hR => hR _ _ (xg Q R ⟨fun h => absurd e h, fun _ => hQ⟩)⟩
      · rcases ih (t + 1) (by omega) with ⟨k, hk, a, b⟩ | ⟨a, b⟩
        · exact Or.inl ⟨k, hk, fun Q hQ R hR => hR _ _ (yg Q R ⟨fun _ => a Q hQ R hR, fun h => absurd h e⟩), fun Q hQ R hR => hR _ _ (xg Q R ⟨fun _ => b Q hQ R hR, fun h => absurd h e⟩)⟩
        · exact Or.inr ⟨fun Q hQ R hR => hR _ _ (yg Q R ⟨fun _ => a Q hQ R hR, fun h => absurd h e⟩), fun Q hQ R hR => hR _ _ (xg Q R ⟨fun _ => b Q hQ R hR, fun h => absurd h e⟩)⟩
  rcases key cnt 0 (by omega) with ⟨k, hk, a, b⟩ | h
  · exact Or.inl ⟨k, by rw [x6, hcl]; exact hk, a, b⟩
  · exact Or.inr h
end
