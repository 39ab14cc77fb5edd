theorem ScS.n357 {n K : Nat} {Y : Yc} {X : Xc} (h : ScS n K Y X) : n = 3 ∨ n = 5 ∨ n = 7 := h.1
theorem ScS.k1 {n K : Nat} {Y : Yc} {X : Xc} (h : ScS n K Y X) : 101 ≤ K := h.2.1
theorem ScS.k2 {n K : Nat} {Y : Yc} {X : Xc} (h : ScS n K Y X) : K < 1073741824 := h.2.2.1
theorem ScS.y400 {n K : Nat} {Y : Yc} {X : Xc} (h : ScS n K Y X) : yI Y 400 0 = nI n := h.2.2.2.1
theorem ScS.x1 {n K : Nat} {Y : Yc} {X : Xc} (h : ScS n K Y X) : X.1 1 = nI n := h.2.2.2.2.1
theorem ScS.y401 {n K : Nat} {Y : Yc} {X : Xc} (h : ScS n K Y X) : yI Y 401 0 = nI (n / 2) := h.2.2.2.2.2.1
theorem ScS.x2 {n K : Nat} {Y : Yc} {X : Xc} (h : ScS n K Y X) : X.1 2 = nI (n / 2) := h.2.2.2.2.2.2.1
theorem ScS.pat {n K : Nat} {Y : Yc} {X : Xc} (h : ScS n K Y X) : yI Y 1100 0 = X.1 3 := h.2.2.2.2.2.2.2.1
theorem ScS.tim {n K : Nat} {Y : Yc} {X : Xc} (h : ScS n K Y X) : yI Y 408 0 = X.1 4 := h.2.2.2.2.2.2.2.2.1
theorem ScS.snt {n K : Nat} {Y : Yc} {X : Xc} (h : ScS n K Y X) : yI Y 406 0 = X.1 7 := h.2.2.2.2.2.2.2.2.2.1
theorem ScS.lst {n K : Nat} {Y : Yc} {X : Xc} (h : ScS n K Y X) : yI Y 407 0 = X.1 8 := h.2.2.2.2.2.2.2.2.2.2.1
theorem ScS.up {n K : Nat} {Y : Yc} {X : Xc} (h : ScS n K Y X) : yI Y 1105 0 = X.1 16 := h.2.2.2.2.2.2.2.2.2.2.2.1
theorem ScS.ses {n K : Nat} {Y : Yc} {X : Xc} (h : ScS n K Y X) : yI Y 1106 0 = X.1 17 := h.2.2.2.2.2.2.2.2.2.2.2.2.1
theorem ScS.stm {n K : Nat} {Y : Yc} {X : Xc} (h : ScS n K Y X) : yI Y 1107 0 = X.1 18 := h.2.2.2.2.2.2.2.2.2.2.2.2.2.1
theorem ScS.fai {n K : Nat} {Y : Yc} {X : Xc} (h : ScS n K Y X) : yI Y 1108 0 = X.1 19 := h.2.2.2.2.2.2.2.2.2.2.2.2.2.2.1
theorem ScS.acc {n K : Nat} {Y : Yc} {X : Xc} (h : ScS n K Y X) : yI Y 1110 0 = X.1 81 := h.2.2.2.2.2.2.2.2.2.2.2.2.2.2.2.1
theorem ScS.up01 {n K : Nat} {Y : Yc} {X : Xc} (h : ScS n K Y X) : X.1 16 = 0 ∨ X.1 16 = 1 := h.2.2.2.2.2.2.2.2.2.2.2.2.2.2.2.2.1
theorem ScS.sesK {n K : Nat} {Y : Yc} {X : Xc} (h : ScS n K Y X) : Sm K (X.1 17) := h.2.2.2.2.2.2.2.2.2.2.2.2.2.2.2.2.2.1
theorem ScS.stmK {n K : Nat} {Y : Yc} {X : Xc} (h : ScS n K Y X) : Sm K (X.1 18) := h.2.2.2.2.2.2.2.2.2.2.2.2.2.2.2.2.2.2.1
theorem ScS.accK {n K : Nat} {Y : Yc} {X : Xc} (h : ScS n K Y X) : Sm K (X.1 81) := h.2.2.2.2.2.2.2.2.2.2.2.2.2.2.2.2.2.2.2.1
theorem ScS.patK {n K : Nat} {Y : Yc} {X : Xc} (h : ScS n K Y X) : ∃ p, p < 9 ∧ X.1 3 = nI p := h.2.2.2.2.2.2.2.2.2.2.2.2.2.2.2.2.2.2.2.2
theorem RpS.num {n K : Nat} {Y : Yc} {X : Xc} {r : Nat} (h : RpS n K Y X r) : yI Y 800 r = nI r := h.1
theorem RpS.dwn {n K : Nat} {Y : Yc} {X : Xc} {r : Nat} (h : RpS n K Y X r) : yI Y 803 r = X.2 20 r := h.2.1
theorem RpS.sta {n K : Nat} {Y : Yc} {X : Xc} {r : Nat} (h : RpS n K Y X r) : yI Y 804 r = X.2 23 r := h.2.2.1
theorem RpS.vie {n K : Nat} {Y : Yc} {X : Xc} {r : Nat} (h : RpS n K Y X r) : yJ Y 805 r = vw (X.2 21 r) (X.2 22 r) := h.2.2.2.1
theorem RpS.nor {n K : Nat} {Y : Yc} {X : Xc} {r : Nat} (h : RpS n K Y X r) : yJ Y 806 r = vw (X.2 24 r) (X.2 25 r) := h.2.2.2.2.1
theorem RpS.pnt {n K : Nat} {Y : Yc} {X : Xc} {r : Nat} (h : RpS n K Y X r) : yI Y 808 r = X.2 28 r := h.2.2.2.2.2.1
theorem RpS.syn {n K : Nat} {Y : Yc} {X : Xc} {r : Nat} (h : RpS n K Y X r) : yI Y 809 r = X.2 29 r := h.2.2.2.2.2.2.1
theorem RpS.hea {n K : Nat} {Y : Yc} {X : Xc} {r : Nat} (h : RpS n K Y X r) : yI Y 811 r = X.2 57 r := h.2.2.2.2.2.2.2.1
theorem RpS.ask {n K : Nat} {Y : Yc} {X : Xc} {r : Nat} (h : RpS n K Y X r) : yI Y 812 r = X.2 58 r := h.2.2.2.2.2.2.2.2.1
theorem RpS.trn {n K : Nat} {Y : Yc} {X : Xc} {r : Nat} (h : RpS n K Y X r) : yI Y 813 r = X.2 59 r := h.2.2.2.2.2.2.2.2.2.1
theorem RpS.spo {n K : Nat} {Y : Yc} {X : Xc} {r : Nat} (h : RpS n K Y X r) : yI Y 814 r = X.2 60 r := h.2.2.2.2.2.2.2.2.2.2.1
theorem RpS.ssa {n K : Nat} {Y : Yc} {X : Xc} {r : Nat} (h : RpS n K Y X r) : yI Y 815 r = X.2 61 r := h.2.2.2.2.2.2.2.2.2.2.2.1
theorem RpS.dwn01 {n K : Nat} {Y : Yc} {X : Xc} {r : Nat} (h : RpS n K Y X r) : X.2 20 r = 0 ∨ X.2 20 r = 1 := h.2.2.2.2.2.2.2.2.2.2.2.2.1
theorem RpS.sta2 {n K : Nat} {Y : Yc} {X : Xc} {r : Nat} (h : RpS n K Y X r) : Sm 2 (X.2 23 r) := h.2.2.2.2.2.2.2.2.2.2.2.2.2.1
theorem RpS.ldK {n K : Nat} {Y : Yc} {X : Xc} {r : Nat} (h : RpS n K Y X r) : Sm K (X.2 21 r) := h.2.2.2.2.2.2.2.2.2.2.2.2.2.2.1
theorem RpS.epK {n K : Nat} {Y : Yc} {X : Xc} {r : Nat} (h : RpS n K Y X r) : Sm K (X.2 22 r) := h.2.2.2.2.2.2.2.2.2.2.2.2.2.2.2.1
theorem RpS.llK {n K : Nat} {Y : Yc} {X : Xc} {r : Nat} (h : RpS n K Y X r) : Sm K (X.2 24 r) := h.2.2.2.2.2.2.2.2.2.2.2.2.2.2.2.2.1
theorem RpS.leK {n K : Nat} {Y : Yc} {X : Xc} {r : Nat} (h : RpS n K Y X r) : Sm K (X.2 25 r) := h.2.2.2.2.2.2.2.2.2.2.2.2.2.2.2.2.2.1
theorem RpS.pnK {n K : Nat} {Y : Yc} {X : Xc} {r : Nat} (h : RpS n K Y X r) : Sm K (X.2 28 r) := h.2.2.2.2.2.2.2.2.2.2.2.2.2.2.2.2.2.2
theorem LgS.len {K : Nat} {Y : Yc} {X : Xc} {r : Nat} (h : LgS K Y X r) : yI Y 201 r = X.2 26 r := h.1
theorem LgS.bas {K : Nat} {Y : Yc} {X : Xc} {r : Nat} (h : LgS K Y X r) : yI Y 202 r = X.2 27 r := h.2.1
theorem LgS.l100 {K : Nat} {Y : Yc} {X : Xc} {r : Nat} (h : LgS K Y X r) : Sm 100 (X.2 26 r) := h.2.2.1
theorem LgS.b100 {K : Nat} {Y : Yc} {X : Xc} {r : Nat} (h : LgS K Y X r) : Sm 100 (X.2 27 r) := h.2.2.2.1
theorem LgS.ent {K : Nat} {Y : Yc} {X : Xc} {r : Nat} (h : LgS K Y X r) : ∀ s, s < ln (X.2 26 r) → yS Y 200 r s = xE X (100 * r + s) ∧ EnOK K (xE X (100 * r + s)) := h.2.2.2.2
theorem HdS.cnt {H K : Nat} {Y : Yc} {X : Xc} {r : Nat} (h : HdS H K Y X r) : yI Y 502 r = X.2 36 r := h.1
theorem HdS.sm {H K : Nat} {Y : Yc} {X : Xc} {r : Nat} (h : HdS H K Y X r) : Sm H (X.2 36 r) := h.2.1
theorem HdS.ent {H K : Nat} {Y : Yc} {X : Xc} {r : Nat} (h : HdS H K Y X r) : ∀ i, i < ln (X.2 36 r) → yA Y 500 r i = X.2 37 (16 * r + i) ∧ yS Y 501 r i = some (xH X (16 * r + i)) ∧ RqOK K (xH X (16 * r + i)) := h.2.2
theorem CtS.gap {Y : Yc} {X : Xc} {r : Nat} (h : CtS Y X r) : yI Y 503 r = X.2 43 r := h.1
theorem CtS.sr {Y : Yc} {X : Xc} {r : Nat} (h : CtS Y X r) : yI Y 504 r = X.2 45 r := h.2.1
theorem CtS.sf {Y : Yc} {X : Xc} {r : Nat} (h : CtS Y X r) : yI Y 505 r = X.2 44 r := h.2.2.1
theorem CtS.gap7 {Y : Yc} {X : Xc} {r : Nat} (h : CtS Y X r) : Sm 127 (X.2 43 r) := h.2.2.2.1
theorem CtS.sr7 {Y : Yc} {X : Xc} {r : Nat} (h : CtS Y X r) : Sm 127 (X.2 45 r) := h.2.2.2.2
theorem Sm.of {K k : Nat} (h : k ≤ K) : Sm K (nI k) := ⟨k, h, rfl⟩
