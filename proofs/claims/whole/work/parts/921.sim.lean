/-! Small numbers -/
theorem nI_mul (a b : Nat) : nI a * nI b = nI (a * b) := (Int32.ofNat_mul a b).symm
theorem nI_sub {a b : Nat} (h : b ≤ a) : nI a - nI b = nI (a - b) := by
  have e : nI a = nI (a - b) + nI b := by rw [nI_add]; congr 1; omega
  rw [e, Int32.add_sub_cancel]
def Sm (K : Nat) (x : Int32) : Prop := ∃ k, k ≤ K ∧ x = nI k
theorem Sm.mono {K K' : Nat} {x : Int32} (h : Sm K x) (hk : K ≤ K') : Sm K' x := by
  obtain ⟨k, h1, h2⟩ := h
  exact ⟨k, by omega, h2⟩
abbrev ln (x : Int32) : Nat := x.toNatClampNeg
theorem Sm.ln {K : Nat} {x : Int32} (h : Sm K x) (hK : K < 2 ^ 31) : ln x ≤ K ∧ x = nI (ln x) := by
  obtain ⟨k, h1, h2⟩ := h
  subst h2
  have e : (nI k).toNatClampNeg = k := nI_clamp (by omega)
  exact ⟨by show (nI k).toNatClampNeg ≤ K; rw [e]; exact h1, by show nI k = nI (nI k).toNatClampNeg; rw [e]⟩
theorem Sm.pos {K : Nat} {x : Int32} (h : Sm K x) (hK : K < 2 ^ 31) : 0 ≤ x.toInt ∧ x.toInt ≤ K := by
  obtain ⟨k, h1, rfl⟩ := h
  rw [nI_toInt (by omega)]
  omega
/-! The leader -/
def md (l q : Int32) : Int32 := l - l / q * q
theorem md_nI {l q : Nat} (hl : l < 2 ^ 31) (hq : 0 < q) (hq2 : q < 2 ^ 31) : md (nI l) (nI q) = nI (l % q) := by
  have hd : nI l / nI q = nI (l / q) := by
    apply Int32.toInt_inj.mp
    rw [Int32.toInt_div_of_ne_left _ _ (by
      intro h
      have := congrArg Int32.toInt h
      rw [nI_toInt hl] at this
      have h2 : Int32.minValue.toInt = -2147483648 := by decide
      omega), nI_toInt hl, nI_toInt hq2, nI_toInt (Nat.lt_of_le_of_lt (Nat.div_le_self _ _) hl)]
    rfl
  unfold md
  rw [hd, nI_mul, nI_sub (Nat.div_mul_le_self l q)]
  congr 1
  have := Nat.mod_add_div l q
  rw [Nat.mul_comm] at this
  omega
theorem xor_pos {a b : Int32} (ha : 0 ≤ a.toInt) (hb : 0 ≤ b.toInt) : 0 ≤ (a ^^^ b) := by
  rw [Int32.le_iff_toInt_le]
  show (0 : Int) ≤ _
  have h : (a ^^^ b).toBitVec.msb = false := by
    rw [Int32.toBitVec_xor, BitVec.msb_xor]
    have h1 : a.toBitVec.msb = false := by rw [BitVec.msb_eq_toInt]; simpa using ha
    have h2 : b.toBitVec.msb = false := by rw [BitVec.msb_eq_toInt]; simpa using hb
    rw [h1, h2]; rfl
  rw [BitVec.msb_eq_toInt] at h
  have h3 := of_decide_eq_false h
  show 0 ≤ (a ^^^ b).toBitVec.toInt
  omega
/-! Contents -/
def xE (X : Xc) (e : Nat) : Option Rq := if X.2 30 e = 0 then none else some (X.2 31 e, X.2 32 e, X.2 33 e, X.2 34 e, X.2 35 e)
def xT (X : Xc) (e : Nat) : Option Rq := if X.2 51 e = 0 then none else some (X.2 52 e, X.2 53 e, X.2 54 e, X.2 55 e, X.2 56 e)
def xH (X : Xc) (h : Nat) : Rq := (X.2 38 h, X.2 39 h, X.2 40 h, X.2 41 h, X.2 42 h)
def RqOK (K : Nat) (w : Rq) : Prop := (∃ c, c < 4 ∧ w.1 = nI c) ∧ Sm K w.2.1 ∧ Sm 2 w.2.2.1 ∧ Sm 7 w.2.2.2.1
def EnOK (K : Nat) (q : Option Rq) : Prop := ∀ w, q = some w → RqOK K w
def bt (x : Int32) (q : Nat) : Prop := (x >>> (nI q &&& 31)) &&& 1 = 1
/-- an entry as the numbers of a message -/
def encE : Option Rq → List Int32
  | none => [0]
  | some w => [1, w.1, w.2.1, w.2.2.1, w.2.2.2.1, w.2.2.2.2]
def encL (f : Nat → Option Rq) : Nat → Nat → List Int32
  | _, 0 => []
  | s, m + 1 => encE (f s) ++ encL f (s + 1) m
def encG (f : Nat → Option Rq) (len : Int32) : List Int32 := len :: encL f 0 (ln len)
def rqL : Option Rq → List Int32
  | none => []
  | some w => [w.1, w.2.1, w.2.2.1, w.2.2.2.1, w.2.2.2.2]
/-- a message as numbers -/
def encM (Y : Yc) (i : Nat) : List Int32 :=
  [yI Y 301 i, if yI Y 302 i = -1 then 255 else yI Y 302 i, if yI Y 301 i = 11 then 16 + yI Y 303 i else yI Y 303 i] ++
  (if yI Y 301 i = 0 then [((yJ Y 304 i) >>> ((32 : Int32).toInt64 &&& 63)).toInt32, yI Y 306 i] ++ rqL (yP Y 307 i)
   else [(yJ Y 304 i).toInt32, ((yJ Y 304 i) >>> ((32 : Int32).toInt64 &&& 63)).toInt32] ++
    (if yI Y 301 i = 5 then encG (yS Y 200 (56 + i)) (yI Y 201 (56 + i))
     else if yI Y 301 i = 8 ∨ yI Y 301 i = 12 then []
     else if yI Y 301 i = 9 then [(yJ Y 305 i).toInt32, ((yJ Y 305 i) >>> ((32 : Int32).toInt64 &&& 63)).toInt32, yI Y 202 (56 + i)] ++ encG (yS Y 200 (56 + i)) (yI Y 201 (56 + i))
     else if yI Y 301 i = 10 then [yI Y 202 (56 + i)] ++ encG (yS Y 200 (56 + i)) (yI Y 201 (56 + i))
     else if yI Y 301 i = 11 then [yI Y 306 i, yI Y 308 i, yI Y 309 i] ++ (if yI Y 309 i = 0 then [] else [yI Y 310 i])
     else [yI Y 306 i] ++ (if yI Y 301 i = 2 then rqL (yP Y 307 i) else [])))
/-- what is so of every message -/
def MOK (n K : Nat) (Y : Yc) (i : Nat) : Prop :=
  Sm 12 (yI Y 301 i) ∧
  (if yI Y 301 i = 0 then yI Y 302 i = -1 else ∃ f, f < n ∧ yI Y 302 i = nI f) ∧
  (if yI Y 301 i = 11 then ∃ t, t < 4 ∧ yI Y 303 i = nI t else ∃ t, t < n ∧ yI Y 303 i = nI t) ∧
  (∃ l e, l ≤ K ∧ e ≤ K ∧ yJ Y 304 i = vw (nI l) (nI e)) ∧
  (yI Y 301 i = 9 → (∃ l e, l ≤ K ∧ e ≤ K ∧ yJ Y 305 i = vw (nI l) (nI e)) ∧ yI Y 302 i ≠ yI Y 303 i) ∧
  Sm K (yI Y 306 i) ∧
  (yI Y 301 i = 0 ∨ yI Y 301 i = 2 → ∃ w, yP Y 307 i = some w ∧ RqOK K w) ∧
  (yI Y 301 i = 2 ∨ yI Y 301 i = 11 → ∃ s, s < 100 ∧ yI Y 306 i = nI (s + 1)) ∧
  (yI Y 301 i = 11 → Sm K (yI Y 308 i) ∧ (yI Y 309 i = 0 ∨ (yI Y 309 i = 1 ∧ yI Y 302 i = md (yJ Y 304 i).toInt32 (nI n)))) ∧
  (yI Y 301 i = 5 ∨ yI Y 301 i = 9 ∨ yI Y 301 i = 10 → Sm 100 (yI Y 201 (56 + i)) ∧ Sm 100 (yI Y 202 (56 + i)) ∧ ∀ s, s < ln (yI Y 201 (56 + i)) → EnOK K (yS Y 200 (56 + i) s))
/-- a list in an array -/
def Row (f : Nat → Int32) (b : Nat) (l : List Int32) : Prop := ∀ j, j < l.length → f (b + j) = l.getD j 0
/-- the message i is what stands in the mail's row m -/
def MS (n K : Nat) (Y : Yc) (X : Xc) (i m : Nat) : Prop := yI Y 300 i = X.2 12 m ∧ X.2 11 m = nI (encM Y i).length ∧ Row (X.2 10) (640 * m) (encM Y i) ∧ MOK n K Y i
/-! The simulation, piece by piece -/
def ScS (n K : Nat) (Y : Yc) (X : Xc) : Prop :=
  (n = 3 ∨ n = 5 ∨ n = 7) ∧ 101 ≤ K ∧ K < 1073741824 ∧ yI Y 400 0 = nI n ∧ X.1 1 = nI n ∧ yI Y 401 0 = nI (n / 2) ∧ X.1 2 = nI (n / 2) ∧
  yI Y 1100 0 = X.1 3 ∧ yI Y 408 0 = X.1 4 ∧ yI Y 406 0 = X.1 7 ∧ yI Y 407 0 = X.1 8 ∧ yI Y 1105 0 = X.1 16 ∧ yI Y 1106 0 = X.1 17 ∧
  yI Y 1107 0 = X.1 18 ∧ yI Y 1108 0 = X.1 19 ∧ yI Y 1110 0 = X.1 81 ∧
  (X.1 16 = 0 ∨ X.1 16 = 1) ∧ Sm K (X.1 17) ∧ Sm K (X.1 18) ∧ Sm K (X.1 81) ∧ (∃ p, p < 9 ∧ X.1 3 = nI p)
def RpS (n K : Nat) (Y : Yc) (X : Xc) (r : Nat) : Prop :=
  yI Y 800 r = nI r ∧ yI Y 803 r = X.2 20 r ∧ yI Y 804 r = X.2 23 r ∧ yJ Y 805 r = vw (X.2 21 r) (X.2 22 r) ∧ yJ Y 806 r = vw (X.2 24 r) (X.2 25 r) ∧
  yI Y 808 r = X.2 28 r ∧ yI Y 809 r = X.2 29 r ∧ yI Y 811 r = X.2 57 r ∧ yI Y 812 r = X.2 58 r ∧ yI Y 813 r = X.2 59 r ∧ yI Y 814 r = X.2 60 r ∧ yI Y 815 r = X.2 61 r ∧
  (X.2 20 r = 0 ∨ X.2 20 r = 1) ∧ Sm 2 (X.2 23 r) ∧ Sm K (X.2 21 r) ∧ Sm K (X.2 22 r) ∧ Sm K (X.2 24 r) ∧ Sm K (X.2 25 r) ∧ Sm K (X.2 28 r)
def LgS (K : Nat) (Y : Yc) (X : Xc) (r : Nat) : Prop :=
  yI Y 201 r = X.2 26 r ∧ yI Y 202 r = X.2 27 r ∧ Sm 100 (X.2 26 r) ∧ Sm 100 (X.2 27 r) ∧
  ∀ s, s < ln (X.2 26 r) → yS Y 200 r s = xE X (100 * r + s) ∧ EnOK K (xE X (100 * r + s))
def HdS (H K : Nat) (Y : Yc) (X : Xc) (r : Nat) : Prop :=
  yI Y 502 r = X.2 36 r ∧ Sm H (X.2 36 r) ∧
  ∀ i, i < ln (X.2 36 r) → yA Y 500 r i = X.2 37 (16 * r + i) ∧ yS Y 501 r i = some (xH X (16 * r + i)) ∧ RqOK K (xH X (16 * r + i))
def CtS (Y : Yc) (X : Xc) (r : Nat) : Prop :=
  yI Y 503 r = X.2 43 r ∧ yI Y 504 r = X.2 45 r ∧ yI Y 505 r = X.2 44 r ∧ Sm 127 (X.2 43 r) ∧ Sm 127 (X.2 45 r)
def TdS (K : Nat) (Y : Yc) (X : Xc) (r q : Nat) : Prop :=
  yB Y r q = vw (X.2 47 (7 * r + q)) (X.2 48 (7 * r + q)) ∧ Sm K (X.2 47 (7 * r + q)) ∧ Sm K (X.2 48 (7 * r + q)) ∧
  yI Y 201 (7 + 7 * r + q) = X.2 50 (7 * r + q) ∧ yI Y 202 (7 + 7 * r + q) = X.2 49 (7 * r + q) ∧ Sm 100 (X.2 50 (7 * r + q)) ∧ Sm 100 (X.2 49 (7 * r + q)) ∧
  ∀ s, s < ln (X.2 50 (7 * r + q)) → yS Y 200 (7 + 7 * r + q) s = xT X (100 * (7 * r + q) + s) ∧ EnOK K (xT X (100 * (7 * r + q) + s))
def ChS (n K : Nat) (Y : Yc) (X : Xc) (r : Nat) : Prop := X.2 23 r = 2 →
  X.2 36 r = 0 ∧ X.2 43 r = 0 ∧ X.2 44 r = 0 ∧ X.2 45 r = 0 ∧ X.2 29 r = 0 ∧ yI Y 506 r = X.2 46 r ∧ Sm 127 (X.2 46 r) ∧ ¬ bt (X.2 46 r) r ∧
  ∀ q, q < n → bt (X.2 46 r) q → TdS K Y X r q
def PlS (K : Nat) (Y : Yc) (X : Xc) (o e : Nat) : Prop :=
  yJ Y 601 o = vw (X.2 76 e) (X.2 77 e) ∧ yI Y 602 o = X.2 78 e ∧ yI Y 603 o = X.2 79 e ∧ yI Y 604 o = X.2 80 e ∧
  Sm K (X.2 76 e) ∧ Sm K (X.2 77 e) ∧ Sm 127 (X.2 79 e) ∧ (∃ s, s < 100 ∧ X.2 78 e = nI (s + 1))
def ClS (K : Nat) (Y : Yc) (X : Xc) (c : Nat) : Prop :=
  yI Y 101 c = X.2 65 c ∧ yI Y 102 c = X.2 66 c ∧ yI Y 103 c = X.2 70 c ∧ (X.2 66 c = 0 ∨ X.2 66 c = 1) ∧ Sm K (X.2 65 c) ∧
  (X.2 66 c = 1 → yP Y 100 c = some (nI c, X.2 65 c, X.2 67 c, X.2 68 c, X.2 69 c) ∧ Sm 2 (X.2 67 c) ∧ Sm 7 (X.2 68 c)) ∧
  yI Y 602 c = X.2 72 c ∧ yJ Y 601 c = vw (X.2 73 c) (X.2 74 c) ∧ yI Y 604 c = X.2 71 c ∧
  yI Y 107 c = X.2 75 c ∧ Sm 64 (X.2 75 c) ∧ (∃ f, f < 64 ∧ yI Y 106 c = nI f ∧
    ∀ i, i < ln (X.2 75 c) → PlS K Y X (4 + 64 * c + (f + i) % 64) (64 * c + i) ∧ (X.2 66 c = 1 → yP Y 600 (4 + 64 * c + (f + i) % 64) = yP Y 100 c))
def KpS (K : Nat) (Y : Yc) (X : Xc) (a : Nat) : Prop :=
  (∃ w, yP Y 600 (260 + a) = some w ∧ w.1 = X.2 82 a ∧ w.2.1 = X.2 83 a ∧ RqOK K w) ∧ yI Y 602 (260 + a) = X.2 84 a ∧ yJ Y 601 (260 + a) = vw (X.2 85 a) (X.2 86 a) ∧
  yI Y 604 (260 + a) = X.2 87 a ∧ (∃ s, s < 100 ∧ X.2 84 a = nI (s + 1))
def ArS (n K : Nat) (Y : Yc) (X : Xc) : Prop :=
  ∃ cnt od : Nat, cnt ≤ 200 ∧ od < 256 ∧ yI Y 405 0 = nI cnt ∧ X.1 6 = nI cnt ∧ yI Y 404 0 = nI od ∧
  (∀ i, i < 256 → yR Y i < 256) ∧ (∀ i j, i < 256 → j < 256 → yR Y i = yR Y j → i = j) ∧
  ∃ f : Nat → Nat, (∀ k, k < cnt → f k < 200 ∧ X.2 5 k = nI (f k) ∧ X.2 9 (f k) = 1 ∧ MS n K Y X (yR Y ((od + k) % 256)) (f k)) ∧
  (∀ j k, j < cnt → k < cnt → f j = f k → j = k) ∧ ∀ m, m < 200 → X.2 9 m ≠ 0 → ∃ k, k < cnt ∧ f k = m
def byt (x : Int32) : Prop := ∃ k, k < 256 ∧ x = nI k
/-- a row of bytes: the class's o at the reference's array a, count c -/
def ByS (Y : Yc) (X : Xc) (o a c : Nat) : Prop := yI Y 1 o = X.1 c ∧ Sm (bl o) (X.1 c) ∧ ∀ i, i < ln (X.1 c) → (yA Y 0 o i &&& 255) = X.2 a i ∧ byt (X.2 a i)
/-- what tells a request from a NOTHING is 0 or 1 -/
def B01 (X : Xc) : Prop := ∀ e, X.2 30 e = 0 ∨ X.2 30 e = 1
def RdS (Y : Yc) (X : Xc) : Prop := B01 X ∧ yI Y 702 0 = X.1 93 ∧ Sm 609 (X.1 93) ∧ yI Y 703 0 = X.1 95 ∧ yI Y 704 0 = X.1 96 ∧ ∀ i, i < ln (X.1 93) → yA Y 701 0 i = X.2 92 i
def Sim (n K : Nat) (Y : Yc) (X : Xc) : Prop :=
  ScS n K Y X ∧ (∀ r, r < n → RpS n K Y X r ∧ LgS K Y X r ∧ HdS 8 K Y X r ∧ CtS Y X r ∧ ChS n K Y X r) ∧ (∀ c, c < 4 → ClS K Y X c) ∧
  (∀ a, a < 200 → a < ln (X.1 81) → KpS K Y X a) ∧ ArS n K Y X ∧ ByS Y X 0 88 89 ∧ ByS Y X 1 90 91 ∧ RdS Y X
