/-! What comes of a log -/
abbrev Tbl : Type := (Nat → Int32) × (Nat → Int32) × (Nat → Int32)
def up1 (f : Nat → Int32) (k : Nat) (v : Int32) : Nat → Int32 := fun j => if j = k then v else f j
abbrev dn (T : Tbl) (w : Rq) : Prop := T.2.1 (ln w.1) < w.2.1
def gv (T : Tbl) (w : Rq) : Int32 := T.1 (ln w.2.2.2.1)
def wd (T : Tbl) (w : Rq) : Nat → Int32 := if w.2.2.1 = 1 then up1 T.1 (ln w.2.2.2.1) w.2.2.2.2 else if w.2.2.1 = 2 then up1 T.1 (ln w.2.2.2.1) (gv T w + w.2.2.2.2) else T.1
def tS (T : Tbl) : Option Rq → Tbl
  | none => T
  | some w => if dn T w then (wd T w, up1 T.2.1 (ln w.1) w.2.1, up1 T.2.2 (ln w.1) (gv T w)) else T
theorem tS_y {T : Tbl} {w : Rq} (h : dn T w) : tS T (some w) = (wd T w, up1 T.2.1 (ln w.1) w.2.1, up1 T.2.2 (ln w.1) (gv T w)) := if_pos h
theorem tS_n {T : Tbl} {w : Rq} (h : ¬ dn T w) : tS T (some w) = T := if_neg h
def Tb (f : Nat → Option Rq) : Nat → Tbl
  | 0 => (fun _ => 0, fun _ => 0, fun _ => 0)
  | m + 1 => tS (Tb f m) (f m)
theorem Tb_congr {f g : Nat → Option Rq} : ∀ m, (∀ s, s < m → f s = g s) → Tb f m = Tb g m := by
  intro m
  induction m with
  | zero => intro _; rfl
  | succ m ih => intro h; show tS (Tb f m) (f m) = tS (Tb g m) (g m); rw [ih (fun s hs => h s (by omega)), h m (by omega)]
def TbY (Y : Yc) (T : Tbl) : Prop := (∀ i, i < 8 → yA Y 1000 0 i = T.1 i) ∧ (∀ i, i < 4 → yA Y 1001 0 i = T.2.1 i) ∧ ∀ i, i < 4 → yA Y 1002 0 i = T.2.2 i
def TbX (X : Xc) (T : Tbl) : Prop := (∀ i, i < 8 → X.2 62 i = T.1 i) ∧ (∀ i, i < 4 → X.2 63 i = T.2.1 i) ∧ ∀ i, i < 4 → X.2 64 i = T.2.2 i
def TY (Y Y2 : Yc) : Prop := (∀ c o i, ¬ (1000 ≤ c ∧ c < 1010) → yA Y2 c o i = yA Y c o i) ∧ yI Y2 = yI Y ∧ yJ Y2 = yJ Y ∧ yB Y2 = yB Y ∧ yP Y2 = yP Y ∧ yS Y2 = yS Y ∧ yR Y2 = yR Y
def TX (X X2 : Xc) : Prop := X2.1 = X.1 ∧ ∀ k i, ¬ (62 ≤ k ∧ k ≤ 64) → X2.2 k i = X.2 k i
theorem TY.rf {Y : Yc} : TY Y Y := ⟨fun _ _ _ _ => rfl, rfl, rfl, rfl, rfl, rfl, rfl⟩
theorem TX.rf {X : Xc} : TX X X := ⟨rfl, fun _ _ _ => rfl⟩
theorem TY.trans {Y Y2 Y3 : Yc} (h : TY Y Y2) (g : TY Y2 Y3) : TY Y Y3 :=
  ⟨fun c o i a => (g.1 c o i a).trans (h.1 c o i a), g.2.1.trans h.2.1, g.2.2.1.trans h.2.2.1, g.2.2.2.1.trans h.2.2.2.1, g.2.2.2.2.1.trans h.2.2.2.2.1, g.2.2.2.2.2.1.trans h.2.2.2.2.2.1, g.2.2.2.2.2.2.trans h.2.2.2.2.2.2⟩
theorem TX.trans {X X2 X3 : Xc} (h : TX X X2) (g : TX X2 X3) : TX X X3 := ⟨g.1.trans h.1, fun k i a => (g.2 k i a).trans (h.2 k i a)⟩
theorem TY.w {Y Y2 : Yc} (h : TY Y Y2) {c o i : Nat} (hc : 1000 ≤ c ∧ c < 1010) (v : Int32) : TY Y (uA Y2 c o i v) :=
  ⟨fun c' o' i' a => by rw [yAA, if_neg (by omega)]; exact h.1 c' o' i' a, h.2⟩
theorem TX.w {X X2 : Xc} (h : TX X X2) {k i : Nat} (hk : 62 ≤ k ∧ k ≤ 64) (v : Int32) : TX X (xA X2 k i v) :=
  ⟨h.1, fun k' i' a => by rw [xAA, if_neg (by omega)]; exact h.2 k' i' a⟩
theorem TY.rg {Y Y2 : Yc} (h : TY Y Y2) (r : Nat) : RgY r Y Y2 :=
  ⟨fun c o _ _ _ => by rw [h.2.1], fun c o _ => by rw [h.2.2.1], fun c o i _ a => h.1 c o i a, fun o i _ => by rw [h.2.2.2.1], h.2.2.2.2.1, h.2.2.2.2.2.2, fun c o i _ _ => by rw [h.2.2.2.2.2.1]⟩
theorem TX.rg {X X2 : Xc} (h : TX X X2) (r : Nat) : RgX r X X2 := ⟨fun k _ _ _ _ => by rw [h.1], fun k i _ a _ _ _ _ _ => h.2 k i a, fun q e => by rw [h.2 30 e (by omega)]; exact q e⟩
theorem TY.eq {Y Y2 : Yc} (h : TY Y Y2) (r : Nat) : EqY r Y Y2 :=
  ⟨fun c _ => by rw [h.2.1], fun c _ => by rw [h.2.2.1], fun c o _ _ => by rw [h.2.1], by funext i; exact h.1 500 r i (by omega), by rw [h.2.2.2.2.2.1], fun o _ => by rw [h.2.2.2.2.2.1], by rw [h.2.2.2.1]⟩
theorem TX.eq {X X2 : Xc} (h : TX X X2) (r : Nat) : EqX r X X2 :=
  ⟨fun k hk => h.2 k _ (by omega), fun k s h1 _ => h.2 k _ (by omega), fun k s h1 _ => h.2 k _ (by omega), fun k s h1 _ => h.2 k _ (by omega), fun k q s h1 _ _ => h.2 k _ (by omega)⟩
theorem tbl_sim {n K : Nat} {Y Y2 : Yc} {X X2 : Xc} (S : Sim n K Y X) (hY : TY Y Y2) (hX : TX X X2) : Sim n K Y2 X2 := by
  have hn := S.sc.n7
  have h3 := S.sc.n3
  exact sim_rep S (r := 0) (by omega) (hY.rg 0) (hX.rg 0) (eq_RpA (hY.eq 0) (hX.eq 0) hn (S.pcs.1 0 (by omega)))
theorem nar0 : vp_nar .boolean (0 : Int32) = 0 := by decide
theorem nar1 : vp_nar .boolean (1 : Int32) = 1 := by decide
/-- the indices of a request -/
theorem RqOK.cl {K : Nat} {w : Rq} (h : RqOK K w) : vp_in w.1 4 ∧ ln w.1 < 4 := by
  obtain ⟨c, hc, e⟩ := h.1
  rw [e]
  have : ln (nI c) = c := nI_clamp (by omega)
  exact ⟨vp_in_nI hc (by omega), by rw [this]; exact hc⟩
theorem RqOK.ky {K : Nat} {w : Rq} (h : RqOK K w) : vp_in w.2.2.2.1 8 ∧ ln w.2.2.2.1 < 8 := by
  obtain ⟨c, hc, e⟩ := h.2.2.2
  rw [e]
  have : ln (nI c) = c := nI_clamp (by omega)
  exact ⟨vp_in_nI (by omega) (by omega), by rw [this]; omega⟩
section
variable {n K : Nat} {Y : Yc} {X : Xc}
set_option maxHeartbeats 4000000 in
theorem y_rep1 {T : Tbl} (hT : TbY Y T) (q : Option Rq) (hq : EnOK K q) {s : Nat} (hs : s < 100) :
    ∃ Y2, (∀ (Ly50 : Nat × Int32 × Int32 → Yc → Prop) (Qy : Yc → Prop) (p1 : Nat) (p2 : Int32), by_X10_replay_221 n Ly50 Qy p1 p2 (nI s) Y2 →
      ((q = none → by_X10_replay_109 n Ly50 Qy p1 p2 (nI s) q (nI s) Y) ∧ (∀ w17 : Rq, q = some w17 → (∀ x19 : Int32, x19 = w17.2.1 → (∀ x22 : Int32, x22 = w17.1 → (vp_in x22 4 ∧ (∀ x25 : Int32, x25 = yA Y 1001 0 x22.toNatClampNeg → ((x19 ≤ x25 → by_X10_replay_109 n Ly50 Qy p1 p2 (nI s) q (nI s) Y) ∧ (¬ x19 ≤ x25 → by_X10_replay_110 n Ly50 Qy p1 p2 (nI s) q (1 : Int32) (nI s) Y))))))))) ∧
      TbY Y2 (tS T q) ∧ TY Y Y2 ∧ (∀ w, q = some w → dn T w → yA Y2 1003 0 s = 1 ∧ yA Y2 1004 0 s = gv T w) ∧ ((∀ w, q = some w → ¬ dn T w) → yA Y2 1003 0 s = 0) ∧ (∀ i, i ≠ s → yA Y2 1003 0 i = yA Y 1003 0 i ∧ yA Y2 1004 0 i = yA Y 1004 0 i) := by
  have hc : (nI s).toNatClampNeg = s := nI_clamp (by omega)
  have hv : vp_in (nI s) 100 := vp_in_nI (by omega) (by omega)
  have no : ∀ (Ly50 : Nat × Int32 × Int32 → Yc → Prop) (Qy : Yc → Prop) (p1 : Nat) (p2 : Int32), by_X10_replay_221 n Ly50 Qy p1 p2 (nI s) (uA Y 1003 0 s 0) → by_X10_replay_109 n Ly50 Qy p1 p2 (nI s) q (nI s) Y := fun Ly50 Qy p1 p2 h => by
    unfold by_X10_replay_109 by_X10_replay_110
    rw [hc, nar0]
    refine ⟨hv, hv, fun x5 e5 => ?_⟩
    rw [yAA, if_pos ⟨rfl, rfl, rfl⟩] at e5
    subst e5
    exact ⟨fun _ => h, fun h => absurd rfl h⟩
  have nt : TbY (uA Y 1003 0 s 0) T := ⟨fun i hi => hT.1 i hi, fun i hi => hT.2.1 i hi, fun i hi => hT.2.2 i hi⟩
  have ni : ∀ i, i ≠ s → yA (uA Y 1003 0 s 0) 1003 0 i = yA Y 1003 0 i ∧ yA (uA Y 1003 0 s 0) 1004 0 i = yA Y 1004 0 i := fun i hi => ⟨by rw [yAA, if_neg (by omega)], rfl⟩
  have nz : yA (uA Y 1003 0 s 0) 1003 0 s = 0 := by rw [yAA, if_pos ⟨rfl, rfl, rfl⟩]
  cases q with
  | none =>
    exact ⟨uA Y 1003 0 s 0, fun Ly50 Qy p1 p2 h => ⟨fun _ => no Ly50 Qy p1 p2 h, fun w e => by simp at e⟩, nt, TY.rf.w (by omega) _, fun w e => by simp at e, fun _ => nz, ni⟩
  | some w =>
    have hw := hq w rfl
    have hl := hT.2.1 (ln w.1) hw.cl.2
    by_cases hd : dn T w
    · have hd' : ¬ w.2.1 ≤ T.2.1 (ln w.1) := by
        have : T.2.1 (ln w.1) < w.2.1 := hd
        simpa using this
      have ht : tS T (some w) = (wd T w, up1 T.2.1 (ln w.1) w.2.1, up1 T.2.2 (ln w.1) (gv T w)) := tS_y hd
      have ek : yA (uA Y 1003 0 s 1) 1000 0 (ln w.2.2.2.1) = gv T w := hT.1 _ hw.ky.2
      let Y4 := uA (uA (uA (uA Y 1003 0 s 1) 1004 0 s (gv T w)) 1001 0 (ln w.1) w.2.1) 1002 0 (ln w.1) (gv T w)
      have fin : ∀ Y5, TY Y4 Y5 → (∀ i, i < 8 → yA Y5 1000 0 i = wd T w i) → (∀ c i, c ≠ 1000 → yA Y5 c 0 i = yA Y4 c 0 i) → TbY Y5 (tS T (some w)) ∧ TY Y Y5 ∧ (∀ w', some w = some w' → dn T w' → yA Y5 1003 0 s = 1 ∧ yA Y5 1004 0 s = gv T w') ∧ ((∀ w', some w = some w' → ¬ dn T w') → yA Y5 1003 0 s = 0) ∧ (∀ i, i ≠ s → yA Y5 1003 0 i = yA Y 1003 0 i ∧ yA Y5 1004 0 i = yA Y 1004 0 i) := fun Y5 h5 h0 hc => by
        refine ⟨?_, ((((TY.rf.w (by omega) _).w (by omega) _).w (by omega) _).w (by omega) _).trans h5, fun w' e _ => ?_, fun h => absurd hd (h w rfl), fun i hi => ?_⟩
        · rw [ht]
          refine ⟨h0, fun i hi => ?_, fun i hi => ?_⟩
          · rw [hc 1001 i (by omega)]
            show (if 1001 = 1001 ∧ 0 = 0 ∧ i = ln w.1 then w.2.1 else yA Y 1001 0 i) = if i = ln w.1 then w.2.1 else T.2.1 i
            by_cases e : i = ln w.1
            · rw [if_pos ⟨rfl, rfl, e⟩, if_pos e]
            · rw [if_neg (fun q => e q.2.2), if_neg e]; exact hT.2.1 i hi
          · rw [hc 1002 i (by omega)]
            show (if 1002 = 1002 ∧ 0 = 0 ∧ i = ln w.1 then gv T w else yA Y 1002 0 i) = if i = ln w.1 then gv T w else T.2.2 i
            by_cases e : i = ln w.1
            · rw [if_pos ⟨rfl, rfl, e⟩, if_pos e]
            · rw [if_neg (fun q => e q.2.2), if_neg e]; exact hT.2.2 i hi
        · have e : w = w' := by simpa using e
          subst e
          rw [hc 1003 s (by omega), hc 1004 s (by omega)]
          refine ⟨?_, ?_⟩
          · show (if 1003 = 1003 ∧ 0 = 0 ∧ s = s then (1 : Int32) else yA Y 1003 0 s) = 1
            rw [if_pos ⟨rfl, rfl, rfl⟩]
          · show (if 1004 = 1004 ∧ 0 = 0 ∧ s = s then gv T w else yA Y 1004 0 s) = _
            rw [if_pos ⟨rfl, rfl, rfl⟩]
        · rw [hc 1003 i (by omega), hc 1004 i (by omega)]
          refine ⟨?_, ?_⟩
          · show (if 1003 = 1003 ∧ 0 = 0 ∧ i = s then (1 : Int32) else yA Y 1003 0 i) = _
            rw [if_neg (by omega)]
          · show (if 1004 = 1004 ∧ 0 = 0 ∧ i = s then gv T w else yA Y 1004 0 i) = _
            rw [if_neg (by omega)]
      have run : ∀ Y5, (∀ (Ly50 : Nat × Int32 × Int32 → Yc → Prop) (Qy : Yc → Prop) (p1 : Nat) (p2 : Int32), by_X10_replay_221 n Ly50 Qy p1 p2 (nI s) Y5 →
          (∀ x33 : Int32, x33 = w.2.2.1 → ((¬ x33 = (1 : Int32) → (∀ x36 : Int32, x36 = w.2.2.1 → ((¬ x36 = (2 : Int32) → by_X10_replay_221 n Ly50 Qy p1 p2 (nI s) Y4) ∧ (x36 = (2 : Int32) → (∀ x40 : Int32, x40 = w.2.2.2.1 → (∀ x42 : Int32, x42 = w.2.2.2.2 → (∀ x44 : Int32, x44 = gv T w + x42 → (vp_in x40 8 ∧ by_X10_replay_221 n Ly50 Qy p1 p2 (nI s) (uA Y4 1000 0 x40.toNatClampNeg x44))))))))) ∧ (x33 = (1 : Int32) → (∀ x48 : Int32, x48 = w.2.2.2.1 → (∀ x50 : Int32, x50 = w.2.2.2.2 → (vp_in x48 8 ∧ by_X10_replay_221 n Ly50 Qy p1 p2 (nI s) (uA Y4 1000 0 x48.toNatClampNeg x50)))))))) →
          (∀ (Ly50 : Nat × Int32 × Int32 → Yc → Prop) (Qy : Yc → Prop) (p1 : Nat) (p2 : Int32), by_X10_replay_221 n Ly50 Qy p1 p2 (nI s) Y5 →
      ((some w = none → by_X10_replay_109 n Ly50 Qy p1 p2 (nI s) (some w) (nI s) Y) ∧ (∀ w17 : Rq, some w = some w17 → (∀ x19 : Int32, x19 = w17.2.1 → (∀ x22 : Int32, x22 = w17.1 → (vp_in x22 4 ∧ (∀ x25 : Int32, x25 = yA Y 1001 0 x22.toNatClampNeg → ((x19 ≤ x25 → by_X10_replay_109 n Ly50 Qy p1 p2 (nI s) (some w) (nI s) Y) ∧ (¬ x19 ≤ x25 → by_X10_replay_110 n Ly50 Qy p1 p2 (nI s) (some w) (1 : Int32) (nI s) Y))))))))) := fun Y5 h Ly50 Qy p1 p2 h5 => by
        refine ⟨fun e => by simp at e, fun w17 e17 x19 e19 x22 e22 => ?_⟩
        have e17 : w = w17 := by simpa using e17
        subst e17; subst e19; subst e22
        refine ⟨hw.cl.1, fun x25 e25 => ?_⟩
        have e25 : x25 = T.2.1 (ln w.1) := e25.trans hl
        subst e25
        refine ⟨fun q => absurd q hd', fun _ => ?_⟩
        unfold by_X10_replay_110
        rw [hc, nar1]
        refine ⟨hv, hv, fun x5 e5 => ?_⟩
        rw [yAA, if_pos ⟨rfl, rfl, rfl⟩] at e5
        subst e5
        refine ⟨fun q => absurd q (by decide), fun _ => ⟨w, rfl, fun x13 e13 => ?_⟩⟩
        subst e13
        refine ⟨hw.ky.1, fun x16 e16 => ⟨hv, fun x22 e22 x24 e24 => ?_⟩⟩
        have e16 : x16 = gv T w := e16.trans ek
        subst e16; subst e22; subst e24
        refine ⟨hw.cl.1, fun x29 e29 => ?_⟩
        subst e29
        exact ⟨hw.cl.1, h Ly50 Qy p1 p2 h5⟩
      have a0 : ∀ i, i < 8 → yA Y4 1000 0 i = T.1 i := fun i hi => hT.1 i hi
      by_cases k1 : w.2.2.1 = 1
      · refine ⟨uA Y4 1000 0 (ln w.2.2.2.1) w.2.2.2.2, run _ (fun Ly50 Qy p1 p2 h x33 e33 => ?_), fin _ (TY.rf.w (by omega) _) (fun i hi => ?_) (fun c i h => by rw [yAA, if_neg (by omega)])⟩
        · subst e33
          refine ⟨fun q => absurd k1 q, fun _ x48 e48 x50 e50 => ?_⟩
          subst e48; subst e50
          exact ⟨hw.ky.1, h⟩
        · rw [yAA]
          unfold wd up1
          rw [if_pos k1]
          by_cases e : i = ln w.2.2.2.1
          · rw [if_pos ⟨rfl, rfl, e⟩, if_pos e]
          · rw [if_neg (fun q => e q.2.2), if_neg e]; exact a0 i hi
      · by_cases k2 : w.2.2.1 = 2
        · refine ⟨uA Y4 1000 0 (ln w.2.2.2.1) (gv T w + w.2.2.2.2), run _ (fun Ly50 Qy p1 p2 h x33 e33 => ?_), fin _ (TY.rf.w (by omega) _) (fun i hi => ?_) (fun c i h => by rw [yAA, if_neg (by omega)])⟩
          · subst e33
            refine ⟨fun _ x36 e36 => ?_, fun q => absurd q k1⟩
            subst e36
            refine ⟨fun q => absurd k2 q, fun _ x48 e48 x50 e50 x44 e44 => ?_⟩
            subst e48; subst e50; subst e44
            exact ⟨hw.ky.1, h⟩
          · rw [yAA]
            unfold wd up1
            rw [if_neg k1, if_pos k2]
            by_cases e : i = ln w.2.2.2.1
            · rw [if_pos ⟨rfl, rfl, e⟩, if_pos e]
            · rw [if_neg (fun q => e q.2.2), if_neg e]; exact a0 i hi
        · refine ⟨Y4, run _ (fun Ly50 Qy p1 p2 h x33 e33 => ?_), fin _ TY.rf (fun i hi => ?_) (fun c i h => rfl)⟩
          · subst e33
            refine ⟨fun _ x36 e36 => ?_, fun q => absurd q k1⟩
            subst e36
            exact ⟨fun _ => h, fun q => absurd q k2⟩
          · unfold wd
            rw [if_neg k1, if_neg k2]
            exact a0 i hi
    · have hd' : w.2.1 ≤ T.2.1 (ln w.1) := by
        have : ¬ T.2.1 (ln w.1) < w.2.1 := hd
        simpa using this
      refine ⟨uA Y 1003 0 s 0, fun Ly50 Qy p1 p2 h => ⟨fun e => by simp at e, fun w17 e17 x19 e19 x22 e22 => ?_⟩, by rw [tS_n hd]; exact nt, TY.rf.w (by omega) _, fun w' e h => ?_, fun _ => nz, ni⟩
      · have e17 : w = w17 := by simpa using e17
        subst e17; subst e19; subst e22
        refine ⟨hw.cl.1, fun x25 e25 => ?_⟩
        have e25 : x25 = T.2.1 (ln w.1) := e25.trans hl
        subst e25
        exact ⟨fun _ => no Ly50 Qy p1 p2 h, fun q => absurd hd' q⟩
      · have e : w = w' := by simpa using e
        subst e
        exact absurd h hd
/-- the class's table after the first m of a log -/
def DnY (Y : Yc) (f : Nat → Option Rq) (m : Nat) : Prop := ∀ i, i < m → (∀ w, f i = some w → dn (Tb f i) w → yA Y 1003 0 i = 1 ∧ yA Y 1004 0 i = gv (Tb f i) w) ∧ ((∀ w, f i = some w → ¬ dn (Tb f i) w) → yA Y 1003 0 i = 0)
theorem y_replay {r L E : Nat} (hL : L ≤ 100) (hE : E ≤ 1073741824) (hl : yI Y 201 r = nI L) (he : ∀ s, s < L → EnOK K (yS Y 200 r s)) :
    ∃ Y2, (∀ Q : Yc → Prop, Q Y2 → wy_X10_replay n r (nI E) Y Q) ∧ TbY Y2 (Tb (yS Y 200 r) (min E L)) ∧ TY Y Y2 ∧ DnY Y2 (yS Y 200 r) (min E L) := by
  -- the words
  have w0 : ∀ d t Y1, t + d = 8 → TY Y Y1 → (∀ i, i < t → yA Y1 1000 0 i = 0) → ∃ Y2, (∀ Q : Yc → Prop, LFy (fy_X10_replay_23 n Q) (r, nI E, 0) Y2 → LFy (fy_X10_replay_2 n Q) (r, nI E, nI t) Y1) ∧ TY Y Y2 ∧ ∀ i, i < 8 → yA Y2 1000 0 i = 0 := by
    intro d
    induction d with
    | zero =>
      intro t Y1 ht h1 h2
      refine ⟨Y1, fun Q hQ R hR => hR _ _ ⟨fun _ => hQ, fun h => absurd (nI_le (a := 8) (b := t) (by omega) (by omega)) h⟩, h1, fun i hi => h2 i (by omega)⟩
    | succ d ih =>
      intro t Y1 ht h1 h2
      have hc : (nI t).toNatClampNeg = t := nI_clamp (by omega)
      obtain ⟨Y2, r2, g2, z2⟩ := ih (t + 1) (uA Y1 1000 0 t 0) (by omega) (h1.w (by omega) 0) (fun i hi => by
        rw [yAA]
        by_cases e : i = t
        · rw [if_pos ⟨rfl, rfl, e⟩]
        · rw [if_neg (fun q => e q.2.2)]; exact h2 i (by omega))
      refine ⟨Y2, fun Q hQ R hR => hR _ _ ⟨fun h => absurd h (nI_ge (a := t) (b := 8) (by omega) (by omega)), fun _ => ⟨vp_in_nI (by omega) (by omega), fun x5 e5 => ?_⟩⟩, g2, z2⟩
      have e5 : x5 = nI (t + 1) := e5.trans (nI_1 _)
      subst e5
      show R _ (uA Y1 1000 0 (nI t).toNatClampNeg 0)
      rw [hc]
      exact r2 Q hQ R hR
  have c0 : ∀ d t Y1, t + d = 4 → TY Y Y1 → (∀ i, i < 8 → yA Y1 1000 0 i = 0) → (∀ i, i < t → yA Y1 1001 0 i = 0 ∧ yA Y1 1002 0 i = 0) → ∃ Y2, (∀ Q : Yc → Prop, LFy (fy_X10_replay_50 n Q) (r, nI E, 0) Y2 → LFy (fy_X10_replay_23 n Q) (r, nI E, nI t) Y1) ∧ TY Y Y2 ∧ (∀ i, i < 8 → yA Y2 1000 0 i = 0) ∧ ∀ i, i < 4 → yA Y2 1001 0 i = 0 ∧ yA Y2 1002 0 i = 0 := by
    intro d
    induction d with
    | zero =>
      intro t Y1 ht h1 h2 h3
      refine ⟨Y1, fun Q hQ R hR => hR _ _ ⟨fun _ => hQ, fun h => absurd (nI_le (a := 4) (b := t) (by omega) (by omega)) h⟩, h1, h2, fun i hi => h3 i (by omega)⟩
    | succ d ih =>
      intro t Y1 ht h1 h2 h3
      have hc : (nI t).toNatClampNeg = t := nI_clamp (by omega)
      obtain ⟨Y2, r2, g2, z2⟩ := ih (t + 1) (uA (uA Y1 1001 0 t 0) 1002 0 t 0) (by omega) ((h1.w (by omega) 0).w (by omega) 0) (fun i hi => h2 i hi) (fun i hi => by
        rw [yAA, yAA, yAA, yAA]
        by_cases e : i = t
        · subst e; simp
        · simp [e]; exact h3 i (by omega))
      refine ⟨Y2, fun Q hQ R hR => hR _ _ ⟨fun h => absurd h (nI_ge (a := t) (b := 4) (by omega) (by omega)), fun _ => ⟨vp_in_nI (by omega) (by omega), vp_in_nI (by omega) (by omega), fun x5 e5 => ?_⟩⟩, g2, z2⟩
      have e5 : x5 = nI (t + 1) := e5.trans (nI_1 _)
      subst e5
      show R _ (uA (uA Y1 1001 0 (nI t).toNatClampNeg 0) 1002 0 (nI t).toNatClampNeg 0)
      rw [hc]
      exact r2 Q hQ R hR
  have m0 : ∀ d t Y1, t + d = min E L → TY Y Y1 → TbY Y1 (Tb (yS Y 200 r) t) → DnY Y1 (yS Y 200 r) t → ∃ Y2, (∀ Q : Yc → Prop, Q Y2 → LFy (fy_X10_replay_50 n Q) (r, nI E, nI t) Y1) ∧ TbY Y2 (Tb (yS Y 200 r) (min E L)) ∧ TY Y Y2 ∧ DnY Y2 (yS Y 200 r) (min E L) := by
    intro d
    induction d with
    | zero =>
      intro t Y1 ht h1 h2 h3
      have ht : t = min E L := by omega
      subst ht
      refine ⟨Y1, fun Q hQ R hR => hR _ _ ⟨fun _ => hQ, fun h x3 e3 => ?_⟩, h2, h1, h3⟩
      have e3 : x3 = nI L := by rw [e3, h1.2.1]; exact hl
      subst e3
      refine ⟨fun _ => hQ, fun h2 => ?_⟩
      have a1 : ¬ E ≤ min E L := fun q => h (nI_le q (by omega))
      have a2 : ¬ L ≤ min E L := fun q => h2 (nI_le q (by omega))
      omega
    | succ d ih =>
      intro t Y1 ht h1 h2 h3
      have htE : t < E := by omega
      have htL : t < L := by omega
      have hc : (nI t).toNatClampNeg = t := nI_clamp (by omega)
      obtain ⟨Y2, r2, b2, g2, d2, d3, d4⟩ := y_rep1 (n := n) h2 (yS Y 200 r t) (he t htL) (s := t) (by omega)
      obtain ⟨Y3, r3, b3, g3, d5⟩ := ih (t + 1) Y2 (by omega) (h1.trans g2) b2 (fun i hi => by
        by_cases e : i = t
        · subst e
          exact ⟨d2, d3⟩
        · rw [(d4 i e).1, (d4 i e).2]
          exact h3 i (by omega))
      refine ⟨Y3, fun Q hQ R hR => hR _ _ ⟨fun h => absurd h (nI_ge (by omega) (by omega)), fun _ x3 e3 => ?_⟩, b3, g3, d5⟩
      have e3 : x3 = nI L := by rw [e3, h1.2.1]; exact hl
      subst e3
      refine ⟨fun h => absurd h (nI_ge (by omega) (by omega)), fun _ => ⟨fun h => absurd h (nI_ge (a := t) (b := 100) (by omega) (by omega)), fun _ => ⟨vp_in_nI (by omega) (by omega), fun q11 e11 => ?_⟩⟩⟩
      have e11 : q11 = yS Y 200 r t := by rw [e11]; show yS Y1 200 r (nI t).toNatClampNeg = _; rw [hc, h1.2.2.2.2.2.1]
      subst e11
      refine r2 R Q r (nI E) ?_
      unfold by_X10_replay_221
      intro x1 e1
      have e1 : x1 = nI (t + 1) := e1.trans (nI_1 _)
      subst e1
      exact r3 Q hQ R hR
  obtain ⟨Y1, r1, g1, z1⟩ := w0 8 0 Y (by omega) TY.rf (fun i hi => by omega)
  obtain ⟨Y2, r2, g2, z2, z3⟩ := c0 4 0 Y1 (by omega) g1 z1 (fun i hi => by omega)
  obtain ⟨Y3, r3, b3, g3, d3⟩ := m0 (min E L) 0 Y2 (by omega) g2 ⟨z2, fun i hi => (z3 i hi).1, fun i hi => (z3 i hi).2⟩ (fun i hi => by omega)
  exact ⟨Y3, fun Q hQ => r1 Q (r2 Q (r3 Q hQ)), b3, g3, d3⟩
def dnI (T : Tbl) : Option Rq → Int32
  | none => 0
  | some w => if dn T w then 1 else 0
set_option maxHeartbeats 4000000 in
theorem x_rep1 {T : Tbl} (hT : TbX X T) {e : Nat} (he : e < 700) (hq : EnOK K (xE X e)) :
    ∃ X2, (∀ Q : Int32 → Xc → Prop, Q (dnI T (xE X e)) X2 → wx_X12_doEntry (nI e) X Q) ∧ TbX X2 (tS T (xE X e)) ∧ TX X X2 := by
  have hc : (nI e).toNatClampNeg = e := nI_clamp (by omega)
  have hv : vp_in (nI e) 700 := vp_in_nI (by omega) (by omega)
  by_cases h0 : X.2 30 e = 0
  · have hx : xE X e = none := by unfold xE; rw [if_pos h0]
    refine ⟨X, fun Q hQ => ?_, by rw [hx]; exact hT, TX.rf⟩
    unfold wx_X12_doEntry
    rw [hc]
    refine ⟨hv, fun x2 e2 => ?_⟩
    rw [h0] at e2; subst e2
    refine ⟨fun h => absurd rfl h, fun _ => ?_⟩
    rw [hx] at hQ
    exact hQ
  · obtain ⟨w, ew⟩ : ∃ w : Rq, w = (X.2 31 e, X.2 32 e, X.2 33 e, X.2 34 e, X.2 35 e) := ⟨_, rfl⟩
    have hx : xE X e = some w := by unfold xE; rw [if_neg h0, ew]
    have hw := hq w hx
    have w1 : X.2 31 e = w.1 := by rw [ew]
    have w2 : X.2 32 e = w.2.1 := by rw [ew]
    have w3 : X.2 33 e = w.2.2.1 := by rw [ew]
    have w4 : X.2 34 e = w.2.2.2.1 := by rw [ew]
    have w5 : X.2 35 e = w.2.2.2.2 := by rw [ew]
    have hl := hT.2.1 (ln w.1) hw.cl.2
    have hg := hT.1 (ln w.2.2.2.1) hw.ky.2
    have st : ∀ Q : Int32 → Xc → Prop, ((dn T w → bx_X12_doEntry_88 Q (nI e) w.2.2.2.1 (if w.2.2.1 = 1 then xA (xA (xA X 63 (ln w.1) w.2.1) 64 (ln w.1) (gv T w)) 62 (ln w.2.2.2.1) w.2.2.2.2 else xA (xA X 63 (ln w.1) w.2.1) 64 (ln w.1) (gv T w))) ∧ (¬ dn T w → Q 0 X)) → wx_X12_doEntry (nI e) X Q := fun Q h => by
      unfold wx_X12_doEntry
      rw [hc]
      refine ⟨hv, fun x2 e2 => ?_⟩
      subst e2
      refine ⟨fun _ => ⟨hv, fun x6 e6 => ⟨hv, fun x9 e9 => ?_⟩⟩, fun q => absurd q h0⟩
      rw [w1] at e6; rw [w2] at e9
      subst e6; subst e9
      refine ⟨hw.cl.1, fun x12 e12 => ?_⟩
      have e12 : x12 = T.2.1 (ln w.1) := e12.trans hl
      subst e12
      refine ⟨fun hd => ⟨hv, fun x16 e16 => ⟨hv, fun x20 e20 => ?_⟩⟩, fun hd => h.2 hd⟩
      rw [w4] at e16; rw [w2] at e20
      subst e16; subst e20
      refine ⟨hw.cl.1, hw.ky.1, fun x24 e24 => ⟨hw.cl.1, hv, fun x27 e27 => ?_⟩⟩
      have e24 : x24 = gv T w := e24.trans hg
      subst e24
      have e27 : x27 = w.2.2.1 := e27.trans w3
      subst e27
      have hh := h.1 hd
      refine ⟨fun k => ?_, fun k => ⟨hv, fun x32 e32 => ?_⟩⟩
      · rw [if_neg k] at hh; exact hh
      · have e32 : x32 = w.2.2.2.2 := e32.trans w5
        subst e32
        rw [if_pos k] at hh
        exact ⟨hw.ky.1, hh⟩
    rw [hx]
    by_cases hd : dn T w
    · have ht : tS T (some w) = (wd T w, up1 T.2.1 (ln w.1) w.2.1, up1 T.2.2 (ln w.1) (gv T w)) := tS_y hd
      have hi : dnI T (some w) = 1 := if_pos hd
      rw [ht, hi]
      let X3 := xA (xA X 63 (ln w.1) w.2.1) 64 (ln w.1) (gv T w)
      have t3 : TX X X3 := (TX.rf.w (by omega) _).w (by omega) _
      have fin : ∀ X5, TX X3 X5 → (∀ i, i < 8 → X5.2 62 i = wd T w i) → (∀ c i, c ≠ 62 → X5.2 c i = X3.2 c i) → TbX X5 (wd T w, up1 T.2.1 (ln w.1) w.2.1, up1 T.2.2 (ln w.1) (gv T w)) := fun X5 h5 h0 hc => by
        refine ⟨h0, fun i hi => ?_, fun i hi => ?_⟩
        · rw [hc 63 i (by omega)]
          show (if 63 = 63 ∧ i = ln w.1 then w.2.1 else X.2 63 i) = if i = ln w.1 then w.2.1 else T.2.1 i
          by_cases e : i = ln w.1
          · rw [if_pos ⟨rfl, e⟩, if_pos e]
          · rw [if_neg (fun q => e q.2), if_neg e]; exact hT.2.1 i hi
        · rw [hc 64 i (by omega)]
          show (if 64 = 64 ∧ i = ln w.1 then gv T w else X.2 64 i) = if i = ln w.1 then gv T w else T.2.2 i
          by_cases e : i = ln w.1
          · rw [if_pos ⟨rfl, e⟩, if_pos e]
          · rw [if_neg (fun q => e q.2), if_neg e]; exact hT.2.2 i hi
      have a0 : ∀ i, i < 8 → X3.2 62 i = T.1 i := fun i hi => hT.1 i hi
      have h88 : ∀ (X5 : Xc) (Q : Int32 → Xc → Prop), X5.2 33 e = w.2.2.1 → X5.2 35 e = w.2.2.2.2 → ((¬ w.2.2.1 = 2 → Q 1 X5) ∧ (w.2.2.1 = 2 → Q 1 (xA X5 62 (ln w.2.2.2.1) (X5.2 62 (ln w.2.2.2.1) + w.2.2.2.2)))) → bx_X12_doEntry_88 Q (nI e) w.2.2.2.1 X5 := fun X5 Q a b h => by
        unfold bx_X12_doEntry_88
        rw [hc]
        refine ⟨hv, fun x2 e2 => ?_⟩
        rw [a] at e2
        subst e2
        refine ⟨h.1, fun k => ⟨hw.ky.1, fun x6 e6 => ⟨hv, fun x9 e9 x11 e11 => ⟨hw.ky.1, ?_⟩⟩⟩⟩
        rw [b] at e9
        subst e6; subst e9; subst e11
        exact h.2 k
      by_cases k1 : w.2.2.1 = 1
      · have k2 : ¬ w.2.2.1 = 2 := by rw [k1]; decide
        refine ⟨xA X3 62 (ln w.2.2.2.1) w.2.2.2.2, fun Q hQ => st Q ⟨fun _ => ?_, fun q => absurd hd q⟩, fin _ (TX.rf.w (by omega) _) (fun i hi => ?_) (fun c i h => by rw [xAA, if_neg (by omega)]), t3.w (by omega) _⟩
        · rw [if_pos k1]
          exact h88 _ Q w3 w5 ⟨fun _ => hQ, fun q => absurd q k2⟩
        · rw [xAA]
          unfold wd up1
          rw [if_pos k1]
          by_cases e : i = ln w.2.2.2.1
          · rw [if_pos ⟨rfl, e⟩, if_pos e]
          · rw [if_neg (fun q => e q.2), if_neg e]; exact a0 i hi
      · by_cases k2 : w.2.2.1 = 2
        · refine ⟨xA X3 62 (ln w.2.2.2.1) (gv T w + w.2.2.2.2), fun Q hQ => st Q ⟨fun _ => ?_, fun q => absurd hd q⟩, fin _ (TX.rf.w (by omega) _) (fun i hi => ?_) (fun c i h => by rw [xAA, if_neg (by omega)]), t3.w (by omega) _⟩
          · rw [if_neg k1]
            refine h88 _ Q w3 w5 ⟨fun q => absurd k2 q, fun _ => ?_⟩
            show Q 1 (xA X3 62 (ln w.2.2.2.1) (X.2 62 (ln w.2.2.2.1) + w.2.2.2.2))
            rw [hg]
            exact hQ
          · rw [xAA]
            unfold wd up1
            rw [if_neg k1, if_pos k2]
            by_cases e : i = ln w.2.2.2.1
            · rw [if_pos ⟨rfl, e⟩, if_pos e]
            · rw [if_neg (fun q => e q.2), if_neg e]; exact a0 i hi
        · refine ⟨X3, fun Q hQ => st Q ⟨fun _ => ?_, fun q => absurd hd q⟩, fin _ TX.rf (fun i hi => ?_) (fun c i h => rfl), t3⟩
          · rw [if_neg k1]
            exact h88 _ Q w3 w5 ⟨fun _ => hQ, fun q => absurd q k2⟩
          · unfold wd
            rw [if_neg k1, if_neg k2]
            exact a0 i hi
    · have ht : tS T (some w) = T := tS_n hd
      have hi : dnI T (some w) = 0 := if_neg hd
      rw [ht, hi]
      exact ⟨X, fun Q hQ => st Q ⟨fun q => absurd q hd, fun _ => hQ⟩, hT, TX.rf⟩
theorem x_restart (X : Xc) : ∃ X2, (∀ Q : Xc → Prop, Q X2 → wx_X12_restart X Q) ∧ TbX X2 (Tb (fun _ => none) 0) ∧ TX X X2 := by
  have w0 : ∀ d t X1, t + d = 8 → TX X X1 → (∀ i, i < t → X1.2 62 i = 0) → ∃ X2, (∀ Q : Xc → Prop, LFx (fx_X12_restart_23 Q) (0 : Int32) X2 → LFx (fx_X12_restart_2 Q) (nI t) X1) ∧ TX X X2 ∧ ∀ i, i < 8 → X2.2 62 i = 0 := by
    intro d
    induction d with
    | zero =>
      intro t X1 ht h1 h2
      exact ⟨X1, fun Q hQ R hR => hR _ _ ⟨fun _ => hQ, fun h => absurd (nI_le (a := 8) (b := t) (by omega) (by omega)) h⟩, h1, fun i hi => h2 i (by omega)⟩
    | succ d ih =>
      intro t X1 ht h1 h2
      have hc : (nI t).toNatClampNeg = t := nI_clamp (by omega)
      obtain ⟨X2, r2, g2, z2⟩ := ih (t + 1) (xA X1 62 t 0) (by omega) (h1.w (by omega) 0) (fun i hi => by
        rw [xAA]
        by_cases e : i = t
        · rw [if_pos ⟨rfl, e⟩]
        · rw [if_neg (fun q => e q.2)]; exact h2 i (by omega))
      refine ⟨X2, fun Q hQ R hR => hR _ _ ⟨fun h => absurd h (nI_ge (a := t) (b := 8) (by omega) (by omega)), fun _ => ⟨vp_in_nI (by omega) (by omega), fun x5 e5 => ?_⟩⟩, g2, z2⟩
      rw [nI_1] at e5
      subst e5
      rw [hc]
      exact r2 Q hQ R hR
  have c0 : ∀ d t X1, t + d = 4 → TX X X1 → (∀ i, i < 8 → X1.2 62 i = 0) → (∀ i, i < t → X1.2 63 i = 0 ∧ X1.2 64 i = 0) → ∃ X2, (∀ Q : Xc → Prop, Q X2 → LFx (fx_X12_restart_23 Q) (nI t) X1) ∧ TX X X2 ∧ (∀ i, i < 8 → X2.2 62 i = 0) ∧ ∀ i, i < 4 → X2.2 63 i = 0 ∧ X2.2 64 i = 0 := by
    intro d
    induction d with
    | zero =>
      intro t X1 ht h1 h2 h3
      exact ⟨X1, fun Q hQ R hR => hR _ _ ⟨fun _ => hQ, fun h => absurd (nI_le (a := 4) (b := t) (by omega) (by omega)) h⟩, h1, h2, fun i hi => h3 i (by omega)⟩
    | succ d ih =>
      intro t X1 ht h1 h2 h3
      have hc : (nI t).toNatClampNeg = t := nI_clamp (by omega)
      obtain ⟨X2, r2, g2, z2⟩ := ih (t + 1) (xA (xA X1 63 t 0) 64 t 0) (by omega) ((h1.w (by omega) 0).w (by omega) 0) (fun i hi => h2 i hi) (fun i hi => by
        rw [xAA, xAA, xAA, xAA]
        by_cases e : i = t
        · subst e; simp
        · simp [e]; exact h3 i (by omega))
      refine ⟨X2, fun Q hQ R hR => hR _ _ ⟨fun h => absurd h (nI_ge (a := t) (b := 4) (by omega) (by omega)), fun _ => ⟨vp_in_nI (by omega) (by omega), vp_in_nI (by omega) (by omega), fun x5 e5 => ?_⟩⟩, g2, z2⟩
      rw [nI_1] at e5
      subst e5
      rw [hc]
      exact r2 Q hQ R hR
  obtain ⟨X1, r1, g1, z1⟩ := w0 8 0 X (by omega) TX.rf (fun i hi => by omega)
  obtain ⟨X2, r2, g2, z2, z3⟩ := c0 4 0 X1 (by omega) g1 z1 (fun i hi => by omega)
  exact ⟨X2, fun Q hQ => by unfold wx_X12_restart; exact r1 Q (r2 Q hQ), ⟨z2, fun i hi => (z3 i hi).1, fun i hi => (z3 i hi).2⟩, g2⟩
theorem TX.en {X2 : Xc} (h : TX X X2) (e : Nat) : xE X2 e = xE X e := by
  unfold xE
  rw [h.2 30 e (by omega), h.2 31 e (by omega), h.2 32 e (by omega), h.2 33 e (by omega), h.2 34 e (by omega), h.2 35 e (by omega)]
/-- the first E of replica r's log -/
theorem x_exec {r E : Nat} (hr : r < 7) (hE : E ≤ 100) (he : ∀ s, s < E → EnOK K (xE X (100 * r + s))) :
    ∃ X2, (∀ Q : Xc → Prop, Q X2 → bx_X12_execute_57 Q (nI r) (nI E) X) ∧ TbX X2 (Tb (fun s => xE X (100 * r + s)) E) ∧ TX X X2 := by
  have m0 : ∀ d t X1, t + d = E → TX X X1 → TbX X1 (Tb (fun s => xE X (100 * r + s)) t) → ∃ X2, (∀ Q : Xc → Prop, Q X2 → LFx (fx_X12_execute_64 Q) (nI r, nI E, nI t) X1) ∧ TbX X2 (Tb (fun s => xE X (100 * r + s)) E) ∧ TX X X2 := by
    intro d
    induction d with
    | zero =>
      intro t X1 ht h1 h2
      have ht : t = E := by omega
      subst ht
      exact ⟨X1, fun Q hQ R hR => hR _ _ ⟨fun _ => hQ, fun h => absurd (nI_le (Nat.le_refl t) (by omega)) h⟩, h2, h1⟩
    | succ d ih =>
      intro t X1 ht h1 h2
      obtain ⟨X2, r2, b2, g2⟩ := x_rep1 (K := K) h2 (e := 100 * r + t) (by omega) (by rw [h1.en]; exact he t (by omega))
      rw [h1.en] at b2
      obtain ⟨X3, r3, b3, g3⟩ := ih (t + 1) X2 (by omega) (h1.trans g2) b2
      refine ⟨X3, fun Q hQ R hR => hR _ _ ⟨fun h => absurd h (nI_ge (by omega) (by omega)), fun _ => ?_⟩, b3, g3⟩
      show wx_X12_doEntry (100 * nI r + nI t) X1 _
      rw [idx100]
      refine r2 _ (fun x6 e6 => ?_)
      have e6 : x6 = nI (t + 1) := e6.trans (nI_1 _)
      subst e6
      exact r3 Q hQ R hR
  obtain ⟨X1, r1, b1, g1⟩ := x_restart X
  obtain ⟨X2, r2, b2, g2⟩ := m0 E 0 X1 (by omega) g1 b1
  exact ⟨X2, fun Q hQ => by unfold bx_X12_execute_57; exact r1 _ (r2 Q hQ), b2, g2⟩
/-- how far a replica executes -/
def exE (n : Nat) (X : Xc) (r : Nat) : Nat := if ldr n X r = r ∧ X.2 23 r ≠ 2 then ln (X.2 26 r) else min (ln (X.2 28 r)) (ln (X.2 26 r))
theorem x_execute (S : Sim n K Y X) {r : Nat} (hr : r < n) : ∃ X2, (∀ Q : Xc → Prop, Q X2 → wx_X12_execute (nI r) X Q) ∧ TbX X2 (Tb (fun s => xE X (100 * r + s)) (exE n X r)) ∧ TX X X2 := by
  have hn := S.sc.n7
  have hk2 := S.sc.k2
  have hc : (nI r).toNatClampNeg = r := nI_clamp (by omega)
  have hv : vp_in (nI r) 7 := vp_in_nI (by omega) (by omega)
  have L := S.lg hr
  have hl := L.2.2.1.ln (by omega)
  have hp := (S.rp hr).pnK.ln (by omega)
  have hle : exE n X r ≤ ln (X.2 26 r) := by unfold exE; split <;> omega
  obtain ⟨X2, r2, b2, g2⟩ := x_exec (X := X) (K := K) (r := r) (E := exE n X r) (by omega) (by omega) (fun s hs => (L.2.2.2.2 s (by omega)).2)
  refine ⟨X2, fun Q hQ => ?_, b2, g2⟩
  have h2 := r2 Q hQ
  have h27 : exE n X r = min (ln (X.2 28 r)) (ln (X.2 26 r)) → bx_X12_execute_27 Q (nI r) X := fun e => by
    unfold bx_X12_execute_27
    rw [hc]
    refine ⟨hv, fun x2 e2 => ⟨hv, fun x5 e5 => ?_⟩⟩
    subst e2; subst e5
    rw [hl.2, hp.2]
    refine ⟨fun h => ⟨hv, fun x9 e9 => ?_⟩, fun h => ⟨hv, fun x9 e9 => ?_⟩⟩
    · subst e9
      have : ln (X.2 26 r) ≤ ln (X.2 28 r) := by
        apply Classical.byContradiction
        intro q
        exact nI_ge (by omega) (by omega) h
      rw [show ln (X.2 26 r) = exE n X r by omega]
      exact h2
    · subst e9
      have : ¬ ln (X.2 26 r) ≤ ln (X.2 28 r) := fun q => h (nI_le q (by omega))
      rw [show ln (X.2 28 r) = exE n X r by omega]
      exact h2
  unfold wx_X12_execute
  refine x_leads S hr _ ⟨fun h => h27 ?_, fun h => ⟨hv, fun x7 e7 => ?_⟩⟩
  · rw [lds_0] at h
    unfold exE
    rw [if_neg (fun q => h q.1)]
  · rw [hc] at *
    subst e7
    have h : ldr n X r = r := by
      rcases lds_01 (n := n) (X := X) (r := r) with q | q
      · exact absurd q h
      · exact lds_1.mp q
    refine ⟨fun q => h27 ?_, fun q => ⟨hv, fun x11 e11 => ?_⟩⟩
    · unfold exE
      rw [if_neg (fun q' => q'.2 q)]
    · subst e11
      rw [hl.2, show ln (X.2 26 r) = exE n X r from by unfold exE; rw [if_pos ⟨h, q⟩]]
      exact h2
end
