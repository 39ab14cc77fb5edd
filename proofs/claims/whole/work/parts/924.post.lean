/-- the message that the next sending takes -/
def ySO (Y : Yc) : Nat := if yI Y 405 0 = 200 then 256 else yR Y ((ln (yI Y 404 0) + ln (yI Y 405 0)) % 256)
def MEq (Y Y2 : Yc) (i : Nat) : Prop := (∀ c, 300 ≤ c → c ≤ 310 → yI Y2 c i = yI Y c i) ∧ yJ Y2 304 i = yJ Y 304 i ∧ yJ Y2 305 i = yJ Y 305 i ∧ yP Y2 307 i = yP Y 307 i ∧ yI Y2 201 (56 + i) = yI Y 201 (56 + i) ∧ yI Y2 202 (56 + i) = yI Y 202 (56 + i) ∧ yS Y2 200 (56 + i) = yS Y 200 (56 + i)
theorem MEq.enc {Y Y2 : Yc} {i : Nat} (h : MEq Y Y2 i) : encM Y2 i = encM Y i := by
  obtain ⟨h1, h2, h3, h4, h5, h6, h7⟩ := h
  unfold encM
  rw [h1 301 (by omega) (by omega), h1 302 (by omega) (by omega), h1 303 (by omega) (by omega), h1 306 (by omega) (by omega), h1 308 (by omega) (by omega), h1 309 (by omega) (by omega), h1 310 (by omega) (by omega), h2, h3, h4, h5, h6, h7]
theorem MEq.ok {n K : Nat} {Y Y2 : Yc} {i : Nat} (h : MEq Y Y2 i) (g : MOK n K Y i) : MOK n K Y2 i := by
  obtain ⟨h1, h2, h3, h4, h5, h6, h7⟩ := h
  unfold MOK at *
  rw [h1 301 (by omega) (by omega), h1 302 (by omega) (by omega), h1 303 (by omega) (by omega), h1 306 (by omega) (by omega), h1 308 (by omega) (by omega), h1 309 (by omega) (by omega), h2, h3, h4, h5, h6, h7]
  exact g
theorem MEq.rf {Y : Yc} {i : Nat} : MEq Y Y i := ⟨fun _ _ _ => rfl, rfl, rfl, rfl, rfl, rfl, rfl⟩
theorem MEq.trans {Y Y2 Y3 : Yc} {i : Nat} (h : MEq Y Y2 i) (g : MEq Y2 Y3 i) : MEq Y Y3 i :=
  ⟨fun c a b => (g.1 c a b).trans (h.1 c a b), g.2.1.trans h.2.1, g.2.2.1.trans h.2.2.1, g.2.2.2.1.trans h.2.2.2.1, g.2.2.2.2.1.trans h.2.2.2.2.1, g.2.2.2.2.2.1.trans h.2.2.2.2.2.1, g.2.2.2.2.2.2.trans h.2.2.2.2.2.2⟩
theorem encE_len (q : Option Rq) : (encE q).length ≤ 6 := by cases q <;> simp [encE]
theorem encL_len (f : Nat → Option Rq) : ∀ m s, (encL f s m).length ≤ 6 * m := by
  intro m
  induction m with
  | zero => intro s; simp [encL]
  | succ m ih => intro s; have := ih (s + 1); have := encE_len (f s); simp only [encL, List.length_append]; omega
theorem encG_len {f : Nat → Option Rq} {x : Int32} (h : Sm 100 x) : (encG f x).length ≤ 601 := by
  have h1 := (h.ln (by omega)).1
  have h2 := encL_len f (ln x) 0
  unfold encG
  simp only [List.length_cons]
  omega
theorem rqL_len (q : Option Rq) : (rqL q).length ≤ 5 := by cases q <;> simp [rqL]
theorem enc_len {n K : Nat} {Y : Yc} {i : Nat} (h : MOK n K Y i) : (encM Y i).length ≤ 609 := by
  have hr := rqL_len (yP Y 307 i)
  obtain ⟨_, _, _, _, _, _, _, _, _, h10⟩ := h
  unfold encM
  simp only [List.length_append, List.length_cons, List.length_nil]
  split
  · simp only [List.length_append, List.length_cons, List.length_nil]; omega
  · simp only [List.length_append, List.length_cons, List.length_nil]
    split
    · have := encG_len (f := yS Y 200 (56 + i)) (h10 (Or.inl (by assumption))).1; omega
    · split
      · simp
      · split
        · have := encG_len (f := yS Y 200 (56 + i)) (h10 (Or.inr (Or.inl (by assumption)))).1
          simp only [List.length_append, List.length_cons, List.length_nil]; omega
        · split
          · have := encG_len (f := yS Y 200 (56 + i)) (h10 (Or.inr (Or.inr (by assumption)))).1
            simp only [List.length_append, List.length_cons, List.length_nil]; omega
          · split
            · simp only [List.length_append, List.length_cons, List.length_nil]; split <;> simp
            · simp only [List.length_append, List.length_cons, List.length_nil]; split <;> simp <;> omega
/-- Y2 is Y after a message, whose numbers are l, was sent -/
def Snt (n K : Nat) (Y Y2 : Yc) (l : List Int32) : Prop :=
  (∀ c o, ¬ (c = 405 ∧ o = 0) → ¬ (c = 406 ∧ o = 0) → ¬ (c = 407 ∧ o = 0) → ¬ (300 ≤ c ∧ c ≤ 310 ∧ o = ySO Y) → ¬ ((c = 201 ∨ c = 202) ∧ o = 56 + ySO Y) → yI Y2 c o = yI Y c o) ∧
  (∀ c o, ¬ ((c = 304 ∨ c = 305) ∧ o = ySO Y) → yJ Y2 c o = yJ Y c o) ∧ yA Y2 = yA Y ∧ yB Y2 = yB Y ∧ yR Y2 = yR Y ∧
  (∀ c o, ¬ (c = 307 ∧ o = ySO Y) → yP Y2 c o = yP Y c o) ∧ (∀ c o i, ¬ (c = 200 ∧ o = 56 + ySO Y) → yS Y2 c o i = yS Y c o i) ∧
  yI Y2 406 0 = yI Y 406 0 + 1 ∧
  (if yI Y 405 0 = 200 then yI Y2 405 0 = 200 ∧ yI Y2 407 0 = yI Y 407 0 + 1 else yI Y2 405 0 = yI Y 405 0 + 1 ∧ yI Y2 407 0 = yI Y 407 0) ∧
  yI Y2 300 (ySO Y) = yI Y 406 0 ∧ encM Y2 (ySO Y) = l ∧ MOK n K Y2 (ySO Y)
theorem Snt.out {n K : Nat} {Y Y2 : Yc} {l : List Int32} (h : Snt n K Y Y2 l) : OutY Y Y2 :=
  ⟨fun c o h1 h2 h3 => h.1 c o (by omega) (by omega) (by omega) (by omega) (by omega), fun c o h1 h2 => h.2.1 c o (by omega), h.2.2.1, h.2.2.2.1, fun c o h1 => h.2.2.2.2.2.1 c o (by omega), fun c o i h1 => h.2.2.2.2.2.2.1 c o i (by omega)⟩
theorem Snt.meq {n K : Nat} {Y Y2 : Yc} {l : List Int32} (h : Snt n K Y Y2 l) {i : Nat} (hi : i ≠ ySO Y) : MEq Y Y2 i :=
  ⟨fun c h1 h2 => h.1 c i (by omega) (by omega) (by omega) (by omega) (by omega), h.2.1 304 i (by omega), h.2.1 305 i (by omega), h.2.2.2.2.2.1 307 i (by omega), h.1 201 (56 + i) (by omega) (by omega) (by omega) (by omega) (by omega), h.1 202 (56 + i) (by omega) (by omega) (by omega) (by omega) (by omega), by funext s; exact h.2.2.2.2.2.2.1 200 (56 + i) s (by omega)⟩
/-- what the handler of a message keeps: message i, just ahead of the oldest, whose numbers are l -/
def Han (n K : Nat) (Y : Yc) (X : Xc) (i : Nat) (l : List Int32) : Prop := i = yR Y ((ln (yI Y 404 0) + 255) % 256) ∧ encM Y i = l ∧ MOK n K Y i ∧ Row (X.2 15) 0 l ∧ l.length ≤ 640
/-- the reference's arrays and numbers that a sending reaches -/
def XF (X X2 : Xc) : Prop := (∀ k, k ≠ 6 → k ≠ 7 → k ≠ 8 → k ≠ 14 → X2.1 k = X.1 k) ∧ (∀ k, k ≠ 5 → ¬ (9 ≤ k ∧ k ≤ 13) → X2.2 k = X.2 k)
theorem XF.out {X X2 : Xc} (h : XF X X2) : OutX X X2 := ⟨fun k _ _ a b c d _ _ _ => h.1 k a b c d, fun k a b _ _ => h.2 k a b⟩
theorem XF.rf {X : Xc} : XF X X := ⟨fun _ _ _ _ _ => rfl, fun _ _ _ => rfl⟩
theorem XF.trans {X X2 X3 : Xc} (h : XF X X2) (g : XF X2 X3) : XF X X3 := ⟨fun k a b c d => (g.1 k a b c d).trans (h.1 k a b c d), fun k a b => (g.2 k a b).trans (h.2 k a b)⟩
theorem Dr.xf {X X1 : Xc} {l : List Int32} (h : Dr X X1 l) : XF X X1 := ⟨fun k _ _ _ a => h.1 k a, fun k _ b => h.2.1 k (by omega)⟩
theorem mod_ne {od k c : Nat} (hk : k < c) (hc : c < 256) : (od + k) % 256 ≠ (od + c) % 256 := by omega
theorem ScS.send {n K : Nat} {Y Y2 : Yc} {X X2 : Xc} (h : ScS n K Y X) (hx : XF X X2) (hy : OutY Y Y2) (h8 : yI Y2 408 0 = yI Y 408 0) (h6 : yI Y2 406 0 = X2.1 7) (h7 : yI Y2 407 0 = X2.1 8) : ScS n K Y2 X2 := by
  unfold ScS at *
  simp only [hy.1 400 0 (by omega) (by omega) (by omega), hy.1 401 0 (by omega) (by omega) (by omega), hy.1 1100 0 (by omega) (by omega) (by omega), hy.1 1105 0 (by omega) (by omega) (by omega), hy.1 1106 0 (by omega) (by omega) (by omega), hy.1 1107 0 (by omega) (by omega) (by omega), hy.1 1108 0 (by omega) (by omega) (by omega), hy.1 1110 0 (by omega) (by omega) (by omega), h8, h6, h7, hx.1 1 (by omega) (by omega) (by omega) (by omega), hx.1 2 (by omega) (by omega) (by omega) (by omega), hx.1 3 (by omega) (by omega) (by omega) (by omega), hx.1 4 (by omega) (by omega) (by omega) (by omega), hx.1 16 (by omega) (by omega) (by omega) (by omega), hx.1 17 (by omega) (by omega) (by omega) (by omega), hx.1 18 (by omega) (by omega) (by omega) (by omega), hx.1 19 (by omega) (by omega) (by omega) (by omega), hx.1 81 (by omega) (by omega) (by omega) (by omega), true_and]
  exact ⟨h.1, h.2.1, h.2.2.1, h.2.2.2.1, h.2.2.2.2.1, h.2.2.2.2.2.1, h.2.2.2.2.2.2.1, h.2.2.2.2.2.2.2.1, h.2.2.2.2.2.2.2.2.1, h.2.2.2.2.2.2.2.2.2.2.2⟩
theorem nI_inj200 {c : Nat} (h : c ≤ 200) : nI c = 200 ↔ c = 200 := by
  rw [show (200 : Int32) = nI 200 from rfl]; exact nI_eq (by omega) (by omega)
set_option maxHeartbeats 4000000 in
theorem post_sim {n K : Nat} {Y Y2 : Yc} {X X1 : Xc} {l : List Int32} (S : Sim n K Y X) (hD : Dr X X1 l) (hl : l.length ≤ 640) (hS : Snt n K Y Y2 l) :
    ∃ X2, (∀ Q : Xc → Prop, Q X2 → wx_X12_post X1 Q) ∧ Sim n K Y2 X2 ∧ XF X X2 := by
  obtain ⟨cnt, od, hc, ho, e5, x6, e4, hr, hri, f, hf, hfi, hfb⟩ := S.ar
  have hn := S.sc.n7
  have d6 : X1.1 6 = nI cnt := (hD.1 6 (by omega)).trans x6
  have hsY := hS
  obtain ⟨sI', sJ', sA', sB', sR', sP', sS', s406, sif, s300, senc, sok⟩ := hS
  have h404 : yI Y2 404 0 = nI od := (sI' 404 0 (by omega) (by omega) (by omega) (by omega) (by omega)).trans e4
  have h408 : yI Y2 408 0 = yI Y 408 0 := sI' 408 0 (by omega) (by omega) (by omega) (by omega) (by omega)
  have e6 : yI Y 406 0 = X.1 7 := S.sc.snt
  have e7 : yI Y 407 0 = X.1 8 := S.sc.lst
  by_cases h200 : cnt = 200
  · -- no room
    have hxf : XF X (xS (xS X1 8 (X1.1 8 + 1)) 7 (X1.1 7 + 1)) := by
      refine hD.xf.trans ⟨fun k a b c d => ?_, fun k a b => rfl⟩
      simp only [xSS, if_neg b, if_neg c]
    rw [e5, if_pos ((nI_inj200 hc).mpr h200)] at sif
    refine ⟨xS (xS X1 8 (X1.1 8 + 1)) 7 (X1.1 7 + 1), fun Q hQ => ?_, ?_, hxf⟩
    · unfold wx_X12_post
      intro x1 h1
      rw [d6, h200] at h1
      subst h1
      refine ⟨fun h => absurd rfl h, fun _ x4 h4 x6 h6 => ?_⟩
      subst h4; subst h6
      unfold bx_X12_post_121
      intro x1 h1 x3 h3
      subst h1; subst h3
      exact hQ
    · have hso : ySO Y = 256 := by unfold ySO; rw [e5, if_pos ((nI_inj200 hc).mpr h200)]
      refine Sim.mk (S.sc.send hxf hsY.out h408 ?_ ?_) (out_Pcs hsY.out hxf.out hn S.pcs) ?_
      · rw [s406, e6]; simp only [xSS, if_true]; rw [hD.1 7 (by omega)]
      · rw [sif.2, e7]; rw [xSS, xSS, if_neg (by omega), if_pos rfl, hD.1 8 (by omega)]
      · refine ⟨cnt, od, hc, ho, by rw [sif.1, h200]; rfl, by simp only [xSS]; rw [if_neg (by omega), if_neg (by omega)]; exact d6, h404, by rw [sR']; exact hr, by rw [sR']; exact hri, f, fun k hk => ?_, hfi, fun m hm hb => hfb m hm ?_⟩
        · obtain ⟨g1, g2, g3, g4⟩ := hf k hk
          have hme : MEq Y Y2 (yR Y ((od + k) % 256)) := hsY.meq (by rw [hso]; have := hr ((od + k) % 256) (by omega); omega)
          refine ⟨g1, by show X1.2 5 k = _; rw [hD.2.1 5 (by omega)]; exact g2, by show X1.2 9 (f k) = _; rw [hD.2.1 9 (by omega)]; exact g3, ?_⟩
          rw [sR']
          obtain ⟨m1, m2, m3, m4⟩ := g4
          refine ⟨?_, ?_, ?_, hme.ok m4⟩
          · rw [hme.1 300 (by omega) (by omega)]; show _ = X1.2 12 _; rw [hD.2.1 12 (by omega)]; exact m1
          · rw [hme.enc]; show X1.2 11 _ = _; rw [hD.2.1 11 (by omega)]; exact m2
          · rw [hme.enc]; show Row (X1.2 10) _ _; rw [hD.2.1 10 (by omega)]; exact m3
        · have : X1.2 9 m ≠ 0 := hb
          rw [hD.2.1 9 (by omega)] at this; exact this
  · have hc2 : cnt < 200 := by omega
    have hfree : ∃ m, m < 200 ∧ X.2 9 m = 0 := by
      apply Classical.byContradiction
      intro hno
      have : 200 ≤ cnt := pigeon cnt 200 f (fun m hm => hfb m hm (fun h => hno ⟨m, hm, h⟩))
      omega
    obtain ⟨m, hm, hm0, hmb⟩ := first_free 200 hfree
    rw [e5, if_neg (fun h => h200 ((nI_inj200 hc).mp h))] at sif
    have hso : ySO Y = yR Y ((od + cnt) % 256) := by
      unfold ySO
      rw [e5, if_neg (fun h => h200 ((nI_inj200 hc).mp h)), e4]
      show yR Y (((nI od).toNatClampNeg + (nI cnt).toNatClampNeg) % 256) = _
      rw [nI_clamp (by omega), nI_clamp (by omega)]
    have hfm : ∀ k, k < cnt → f k ≠ m := fun k hk e => by
      have := (hf k hk).2.2.1
      rw [e, hm0] at this
      exact absurd this (by decide)
    let X2 : Xc := xS (xS (xA (mlw (xA (xA (xA X1 9 m 1) 12 m (X1.1 7)) 11 m (nI l.length)) m l.length (X1.2 13)) 5 cnt (nI m)) 6 (nI (cnt + 1))) 7 (X1.1 7 + 1)
    have hx2 : ∀ k i, X2.2 k i = if k = 5 ∧ i = cnt then nI m else if k = 10 ∧ 640 * m ≤ i ∧ i < 640 * m + l.length then X1.2 13 (i - 640 * m) else if k = 11 ∧ i = m then nI l.length else if k = 12 ∧ i = m then X1.1 7 else if k = 9 ∧ i = m then 1 else X1.2 k i := fun k i => rfl
    have hx1 : ∀ k, X2.1 k = if k = 7 then X1.1 7 + 1 else if k = 6 then nI (cnt + 1) else X1.1 k := fun k => rfl
    have hxf : XF X X2 := by
      refine hD.xf.trans ⟨fun k a b c d => ?_, fun k a b => ?_⟩
      · rw [hx1, if_neg b, if_neg a]
      · funext i
        rw [hx2, if_neg (by omega), if_neg (by omega), if_neg (by omega), if_neg (by omega), if_neg (by omega)]
    refine ⟨X2, fun Q hQ => ?_, ?_, hxf⟩
    · unfold wx_X12_post
      intro x1 h1
      rw [d6] at h1
      subst h1
      refine ⟨fun _ => ?_, fun h => absurd ((nI_inj200 hc).mp h) h200⟩
      exact x_post_find hm (by rw [hD.2.1 9 (by omega)]; exact hm0) (fun j hj => by rw [hD.2.1 9 (by omega)]; exact hmb j hj) hl hD.2.2.1 d6 hc2 hQ
    · refine Sim.mk (S.sc.send hxf hsY.out h408 ?_ ?_) (out_Pcs hsY.out hxf.out hn S.pcs) ?_
      · rw [s406, e6, hx1, if_pos rfl, hD.1 7 (by omega)]
      · rw [sif.2, e7, hx1, if_neg (by omega), if_neg (by omega), hD.1 8 (by omega)]
      · refine ⟨cnt + 1, od, by omega, ho, by rw [sif.1, nI_1], by rw [hx1, if_neg (by omega), if_pos rfl], h404, by rw [sR']; exact hr, by rw [sR']; exact hri, fun k => if k = cnt then m else f k, fun k hk => ?_, fun j k hj hk e => ?_, fun q hq hb => ?_⟩
        · rw [sR']
          by_cases ek : k = cnt
          · simp only [ek, if_true]
            rw [← hso]
            refine ⟨hm, by rw [hx2, if_pos ⟨rfl, rfl⟩], by rw [hx2, if_neg (by omega), if_neg (by omega), if_neg (by omega), if_neg (by omega), if_pos ⟨rfl, rfl⟩], ?_, ?_, ?_, sok⟩
            · rw [s300, hx2, if_neg (by omega), if_neg (by omega), if_neg (by omega), if_pos ⟨rfl, rfl⟩, e6, hD.1 7 (by omega)]
            · rw [senc, hx2, if_neg (by omega), if_neg (by omega), if_pos ⟨rfl, rfl⟩]
            · rw [senc]
              intro j hj
              rw [hx2, if_neg (by omega), if_pos (by omega)]
              have := hD.2.2.2 j hj
              rw [Nat.zero_add] at this
              rw [Nat.add_sub_cancel_left]
              exact this
          · have hk : k < cnt := by omega
            simp only [if_neg ek]
            obtain ⟨g1, g2, g3, g4⟩ := hf k hk
            have hkm := hfm k hk
            have hme : MEq Y Y2 (yR Y ((od + k) % 256)) := hsY.meq (by
              rw [hso]
              intro q
              exact mod_ne (od := od) hk (by omega) (hri _ _ (by omega) (by omega) q))
            refine ⟨g1, ?_, ?_, ?_⟩
            · rw [hx2, if_neg (by omega), if_neg (by omega), if_neg (by omega), if_neg (by omega), if_neg (by omega), hD.2.1 5 (by omega)]; exact g2
            · rw [hx2, if_neg (by omega), if_neg (by omega), if_neg (by omega), if_neg (by omega), if_neg (by omega), hD.2.1 9 (by omega)]; exact g3
            · obtain ⟨m1, m2, m3, m4⟩ := g4
              refine ⟨?_, ?_, ?_, hme.ok m4⟩
              · rw [hme.1 300 (by omega) (by omega), hx2, if_neg (by omega), if_neg (by omega), if_neg (by omega), if_neg (by omega), if_neg (by omega), hD.2.1 12 (by omega)]; exact m1
              · rw [hme.enc, hx2, if_neg (by omega), if_neg (by omega), if_neg (by omega), if_neg (by omega), if_neg (by omega), hD.2.1 11 (by omega)]; exact m2
              · rw [hme.enc]
                intro j hj
                have hlen : (encM Y (yR Y ((od + k) % 256))).length ≤ 640 := Nat.le_trans (enc_len m4) (by decide)
                rw [hx2, if_neg (by omega), if_neg (by omega), if_neg (by omega), if_neg (by omega), if_neg (by omega), hD.2.1 10 (by omega)]; exact m3 j hj
        · by_cases e1 : j = cnt
          · by_cases e2 : k = cnt
            · omega
            · simp only [e1, if_true, if_neg e2] at e
              exact absurd e.symm (hfm k (by omega))
          · by_cases e2 : k = cnt
            · simp only [e2, if_true, if_neg e1] at e
              exact absurd e (hfm j (by omega))
            · simp only [if_neg e1, if_neg e2] at e
              exact hfi j k (by omega) (by omega) e
        · by_cases e : q = m
          · exact ⟨cnt, by omega, by simp only [if_true]; exact e.symm⟩
          · rw [hx2, if_neg (by omega), if_neg (by omega), if_neg (by omega), if_neg (by omega), if_neg (by omega), hD.2.1 9 (by omega)] at hb
            obtain ⟨k, h1, h2⟩ := hfb q hq hb
            exact ⟨k, by omega, by simp only [if_neg (show ¬ k = cnt by omega)]; exact h2⟩
