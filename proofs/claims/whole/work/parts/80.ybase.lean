/-! The class's contents: ints and longs by field (100 * class + place) and object, arrays by field, object and place, requests as values -/
abbrev Rq : Type := Int32 × Int32 × Int32 × Int32 × Int32
abbrev Yc : Type := (Nat → Nat → Int32) × (Nat → Nat → Int64) × (Nat → Nat → Nat → Int32) × (Nat → Nat → Int64) × (Nat → Nat → Option Rq) × (Nat → Nat → Nat → Option Rq) × (Nat → Nat)
def yI (Y : Yc) : Nat → Nat → Int32 := Y.1
def yJ (Y : Yc) : Nat → Nat → Int64 := Y.2.1
def yA (Y : Yc) : Nat → Nat → Nat → Int32 := Y.2.2.1
def yB (Y : Yc) : Nat → Nat → Int64 := Y.2.2.2.1
def yP (Y : Yc) : Nat → Nat → Option Rq := Y.2.2.2.2.1
def yS (Y : Yc) : Nat → Nat → Nat → Option Rq := Y.2.2.2.2.2.1
def yR (Y : Yc) : Nat → Nat := Y.2.2.2.2.2.2
def up3 {α : Type} (f : Nat → Nat → Nat → α) (a b k : Nat) (v : α) : Nat → Nat → Nat → α := fun c d j => if c = a ∧ d = b ∧ j = k then v else f c d j
def uI (Y : Yc) (c o : Nat) (v : Int32) : Yc := (up2 Y.1 c o v, Y.2)
def uJ (Y : Yc) (c o : Nat) (v : Int64) : Yc := (Y.1, up2 Y.2.1 c o v, Y.2.2)
def uA (Y : Yc) (c o i : Nat) (v : Int32) : Yc := (Y.1, Y.2.1, up3 Y.2.2.1 c o i v, Y.2.2.2)
def uB (Y : Yc) (o i : Nat) (v : Int64) : Yc := (Y.1, Y.2.1, Y.2.2.1, up2 Y.2.2.2.1 o i v, Y.2.2.2.2)
def uP (Y : Yc) (c o : Nat) (v : Option Rq) : Yc := (Y.1, Y.2.1, Y.2.2.1, Y.2.2.2.1, up2 Y.2.2.2.2.1 c o v, Y.2.2.2.2.2)
def uS (Y : Yc) (c o i : Nat) (v : Option Rq) : Yc := (Y.1, Y.2.1, Y.2.2.1, Y.2.2.2.1, Y.2.2.2.2.1, up3 Y.2.2.2.2.2.1 c o i v, Y.2.2.2.2.2.2)
def uR (Y : Yc) (i : Nat) (v : Nat) : Yc := (Y.1, Y.2.1, Y.2.2.1, Y.2.2.2.1, Y.2.2.2.2.1, Y.2.2.2.2.2.1, va_up Y.2.2.2.2.2.2 i v)
/-- the objects: by class and number -/
def Ob (n : Nat) : Nat → Nat → Prop := fun c o => match c with
  | 0 => o < 2
  | 1 => o < 4
  | 2 => o < n ∨ (∃ r q, r < n ∧ q < n ∧ o = 7 + 7 * r + q) ∨ (56 ≤ o ∧ o < 313)
  | 3 => o < 257
  | 4 => o = 0
  | 5 => o < n
  | 6 => o < 460
  | 7 => o = 0
  | 8 => o < n
  | 10 => o = 0
  | 11 => o = 0
  | _ => False
theorem ob_lt {n c o : Nat} (h : Ob n c o) : c < 12 ∧ c ≠ 9 := by
  unfold Ob at h
  split at h <;> first | exact h.elim | exact ⟨by decide, by decide⟩
/-- kinds of the arrays by field -/
def akd : Nat → Nat := fun x => match x with
  | 0 => 13 | 105 => 20 | 200 => 22 | 402 => 19 | 500 => 14 | 501 => 22 | 507 => 15 | 508 => 18 | 701 => 14
  | 1000 => 14 | 1001 => 14 | 1002 => 14 | 1003 => 16 | 1004 => 14 | 1103 => 21 | 1104 => 17 | 1109 => 20 | _ => 0
def aln (n : Nat) : Nat → Nat → Nat := fun x o => match x with
  | 0 => if o = 0 then 2560 else 1500 | 105 => 64 | 200 => 100 | 402 => 256 | 500 => 9 | 501 => 9 | 507 => n | 508 => n | 701 => 609
  | 1000 => 8 | 1001 => 4 | 1002 => 4 | 1003 => 100 | 1004 => 100 | 1103 => n | 1104 => 4 | 1109 => 200 | _ => 0
theorem akd_in (x : Nat) (h : akd x ≠ 0) : 13 ≤ akd x ∧ akd x < 23 := by
  unfold akd at h ⊢
  split <;> simp_all
/-- fields that never change: which object stands there -/
def lkO : Nat → Nat → Option (Nat × Nat) := fun x o => match x with
  | 104 => some (6, o) | 311 => some (2, 56 + o) | 403 => some (3, 256) | 700 => some (0, 1) | 801 => some (4, 0) | 802 => some (10, 0)
  | 807 => some (2, o) | 810 => some (5, o) | 1101 => some (4, 0) | 1102 => some (10, 0) | 1111 => some (0, 0) | 1112 => some (0, 1) | 1113 => some (7, 0) | _ => none
/-- elements that never change -/
def elO (n : Nat) : Nat → Nat → Nat → Option (Nat × Nat) := fun x o i => match x with
  | 105 => if i < 64 then some (6, 4 + 64 * o + i) else none
  | 508 => if i < n then some (2, 7 + 7 * o + i) else none
  | 1103 => if i < n then some (8, i) else none
  | 1104 => if i < 4 then some (1, i) else none
  | 1109 => if i < 200 then some (6, 260 + i) else none
  | _ => none
abbrev rqf (x : Nat) : Prop := x = 100 ∨ x = 307 ∨ x = 600
def RA (σ : Sto) (a : Nat) (w : Rq) : Prop := sK σ a = 9 ∧ sI σ a 0 = w.1 ∧ sI σ a 1 = w.2.1 ∧ sI σ a 2 = w.2.2.1 ∧ sI σ a 3 = w.2.2.2.1 ∧ sI σ a 4 = w.2.2.2.2
def rq (σ : Sto) (p : Option Nat) (q : Option Rq) : Prop := (p = none ∧ q = none) ∨ ∃ a w, p = some a ∧ q = some w ∧ RA σ a w
theorem rq_nn {σ : Sto} : rq σ none none := Or.inl ⟨rfl, rfl⟩
theorem rq_none {σ : Sto} {p : Option Nat} {q : Option Rq} (h : rq σ p q) (e : p = none) : q = none := by
  rcases h with ⟨_, h⟩ | ⟨a, w, h, _⟩
  · exact h
  · rw [e] at h; cases h
theorem rq_some {σ : Sto} {p : Option Nat} {q : Option Rq} {b : Nat} (h : rq σ p q) (e : p = some b) : ∃ w, q = some w := by
  rcases h with ⟨h, _⟩ | ⟨a, w, h, h2, _⟩
  · rw [e] at h; cases h
  · exact ⟨w, h2⟩
theorem rq_ex {σ : Sto} {p : Option Nat} {q : Option Rq} {w : Rq} (h : rq σ p q) (e : q = some w) : ∃ b, p = some b := by
  rcases h with ⟨_, h⟩ | ⟨a, w, h, h2, _⟩
  · rw [e] at h; cases h
  · exact ⟨a, h⟩
theorem rq_get {σ : Sto} {p : Option Nat} {q : Option Rq} {b : Nat} {w : Rq} (h : rq σ p q) (e : p = some b) (e2 : q = some w) : RA σ b w := by
  rcases h with ⟨h, _⟩ | ⟨a, w', h, h2, h3⟩
  · rw [e] at h; cases h
  · rw [e] at h; cases h; rw [e2] at h2; cases h2; exact h3
theorem rq_K {σ : Sto} {p : Option Nat} {q : Option Rq} {b : Nat} (h : rq σ p q) (e : p = some b) : sK σ b = 9 := by
  obtain ⟨w, e2⟩ := rq_some h e
  exact (rq_get h e e2).1
theorem rq_of {σ : Sto} {p p' : Option Nat} {q q' : Option Rq} (h : rq σ p' q') (e : p = p') (e2 : q = q') : rq σ p q := by subst e; subst e2; exact h
theorem rq_is {σ : Sto} {a : Nat} {w : Rq} (h : RA σ a w) : rq σ (some a) (some w) := Or.inr ⟨a, w, rfl, rfl, h⟩
/-- the class's cells hold the contents Y -/
def HY (n : Nat) (ad aa : Nat → Nat → Nat) (σ : Sto) (Y : Yc) : Prop :=
  (∀ c o, Ob n c o → sK σ (ad c o) = c) ∧
  (∀ c o k, Ob n c o → k < 100 → sI σ (ad c o) k = yI Y (100 * c + k) o) ∧
  (∀ c o k, Ob n c o → k < 100 → sJ σ (ad c o) k = yJ Y (100 * c + k) o) ∧
  (∀ c o k, Ob n c o → k < 100 → ∀ c2 o2, lkO (100 * c + k) o = some (c2, o2) → sP σ (ad c o) k = some (ad c2 o2)) ∧
  (∀ c o k, Ob n c o → k < 100 → akd (100 * c + k) ≠ 0 → sP σ (ad c o) k = some (aa (100 * c + k) o) ∧ sK σ (aa (100 * c + k) o) = akd (100 * c + k) ∧ sN σ (aa (100 * c + k) o) = aln n (100 * c + k) o) ∧
  (∀ c o k, Ob n c o → k < 100 → akd (100 * c + k) ≠ 0 → ∀ i, sI σ (aa (100 * c + k) o) i = yA Y (100 * c + k) o i) ∧
  (∀ o, Ob n 5 o → ∀ i, sJ σ (aa 507 o) i = yB Y o i) ∧
  (∀ c o k, Ob n c o → k < 100 → akd (100 * c + k) ≠ 0 → ∀ i c2 o2, elO n (100 * c + k) o i = some (c2, o2) → sP σ (aa (100 * c + k) o) i = some (ad c2 o2)) ∧
  (∀ i, i < 256 → sP σ (aa 402 0) i = some (ad 3 (yR Y i)) ∧ yR Y i < 257) ∧
  (∀ c o k, Ob n c o → k < 100 → rqf (100 * c + k) → rq σ (sP σ (ad c o) k) (yP Y (100 * c + k) o)) ∧
  (∀ c o k, Ob n c o → k < 100 → akd (100 * c + k) = 22 → ∀ i, rq σ (sP σ (aa (100 * c + k) o) i) (yS Y (100 * c + k) o i)) ∧
  (∀ c o o', Ob n c o → Ob n c o' → ad c o = ad c o' → o = o') ∧
  (∀ c o k c' o' k', Ob n c o → Ob n c' o' → k < 100 → k' < 100 → akd (100 * c + k) ≠ 0 → akd (100 * c' + k') ≠ 0 → aa (100 * c + k) o = aa (100 * c' + k') o' → 100 * c + k = 100 * c' + k' ∧ o = o')
/-- the cells of the class -/
def cg (n : Nat) (ad aa : Nat → Nat → Nat) : Nat → Prop := fun a => (∃ c o, Ob n c o ∧ a = ad c o) ∨ ∃ c o k, Ob n c o ∧ k < 100 ∧ akd (100 * c + k) ≠ 0 ∧ a = aa (100 * c + k) o
/-- other cells stand as they stood -/
def Fy (n : Nat) (ad aa : Nat → Nat → Nat) (σ τ : Sto) : Prop := ∀ a, sK σ a < 23 → ¬ cg n ad aa a → sK τ a = sK σ a ∧ sN τ a = sN σ a ∧ sI τ a = sI σ a ∧ sJ τ a = sJ σ a ∧ sP τ a = sP σ a
theorem Fy.rf {n : Nat} {ad aa : Nat → Nat → Nat} {σ : Sto} : Fy n ad aa σ σ := fun _ _ _ => ⟨rfl, rfl, rfl, rfl, rfl⟩
theorem Fy.trans {n : Nat} {ad aa : Nat → Nat → Nat} {σ τ υ : Sto} (h : Fy n ad aa σ τ) (g : Fy n ad aa τ υ) : Fy n ad aa σ υ := fun a ha hc => by
  obtain ⟨h1, h2, h3, h4, h5⟩ := h a ha hc
  obtain ⟨g1, g2, g3, g4, g5⟩ := g a (by rw [h1]; exact ha) hc
  exact ⟨g1.trans h1, g2.trans h2, g3.trans h3, g4.trans h4, g5.trans h5⟩
theorem HY.nine {n : Nat} {ad aa : Nat → Nat → Nat} {σ : Sto} {Y : Yc} (h : HY n ad aa σ Y) {a : Nat} (ha : sK σ a = 9) : ¬ cg n ad aa a := by
  rintro (⟨c, o, ho, e⟩ | ⟨c, o, k, ho, hk, hx, e⟩)
  · have := h.1 c o ho; rw [← e, ha] at this; exact (ob_lt ho).2 this.symm
  · have := (h.2.2.2.2.1 c o k ho hk hx).2.1; rw [← e, ha] at this; have := (akd_in _ hx).1; omega
theorem RA.mv {n : Nat} {ad aa : Nat → Nat → Nat} {σ τ : Sto} {Y : Yc} (h : HY n ad aa σ Y) (F : Fy n ad aa σ τ) {a : Nat} {w : Rq} (g : RA σ a w) : RA τ a w := by
  obtain ⟨h1, _, h3, _⟩ := F a (by rw [g.1]; decide) (h.nine g.1)
  unfold RA
  rw [h1, h3]; exact g
theorem rq.mv {n : Nat} {ad aa : Nat → Nat → Nat} {σ τ : Sto} {Y : Yc} (h : HY n ad aa σ Y) (F : Fy n ad aa σ τ) {p : Option Nat} {q : Option Rq} (g : rq σ p q) : rq τ p q := by
  rcases g with g | ⟨a, w, e1, e2, g⟩
  · exact Or.inl g
  · exact Or.inr ⟨a, w, e1, e2, g.mv h F⟩
section
variable {n : Nat} {ad aa : Nat → Nat → Nat} {σ : Sto} {Y : Yc}
theorem HY.K (h : HY n ad aa σ Y) {c o : Nat} (ho : Ob n c o) : sK σ (ad c o) = c := h.1 c o ho
theorem HY.I (h : HY n ad aa σ Y) {c o : Nat} (ho : Ob n c o) (k : Nat) {x : Nat} (hk : k < 100) (hx : 100 * c + k = x) : sI σ (ad c o) k = yI Y x o := by subst hx; exact h.2.1 c o k ho hk
theorem HY.J (h : HY n ad aa σ Y) {c o : Nat} (ho : Ob n c o) (k : Nat) {x : Nat} (hk : k < 100) (hx : 100 * c + k = x) : sJ σ (ad c o) k = yJ Y x o := by subst hx; exact h.2.2.1 c o k ho hk
theorem HY.lk (h : HY n ad aa σ Y) {c o : Nat} (ho : Ob n c o) (k : Nat) {c2 o2 : Nat} (hk : k < 100) (hl : lkO (100 * c + k) o = some (c2, o2)) : sP σ (ad c o) k = some (ad c2 o2) := h.2.2.2.1 c o k ho hk c2 o2 hl
theorem HY.ar (h : HY n ad aa σ Y) {c o : Nat} (ho : Ob n c o) (k : Nat) {x : Nat} (hk : k < 100) (hx : 100 * c + k = x) (hz : akd x ≠ 0) : sP σ (ad c o) k = some (aa x o) := by subst hx; exact (h.2.2.2.2.1 c o k ho hk hz).1
theorem HY.arK (h : HY n ad aa σ Y) {c o : Nat} (ho : Ob n c o) (k : Nat) {x : Nat} (hk : k < 100) (hx : 100 * c + k = x) (hz : akd x ≠ 0) : sK σ (aa x o) = akd x := by subst hx; exact (h.2.2.2.2.1 c o k ho hk hz).2.1
theorem HY.arN (h : HY n ad aa σ Y) {c o : Nat} (ho : Ob n c o) (k : Nat) {x : Nat} (hk : k < 100) (hx : 100 * c + k = x) (hz : akd x ≠ 0) : sN σ (aa x o) = aln n x o := by subst hx; exact (h.2.2.2.2.1 c o k ho hk hz).2.2
theorem HY.arV (h : HY n ad aa σ Y) {c o : Nat} (ho : Ob n c o) (k : Nat) {x : Nat} (hk : k < 100) (hx : 100 * c + k = x) (hz : akd x ≠ 0) {i : Int32} (hi : vp_in i (aln n x o)) : vp_in i (sN σ (aa x o)) := by rw [h.arN ho k hk hx hz]; exact hi
theorem HY.A (h : HY n ad aa σ Y) {c o : Nat} (ho : Ob n c o) (k : Nat) {x : Nat} (hk : k < 100) (hx : 100 * c + k = x) (hz : akd x ≠ 0) (i : Nat) : sI σ (aa x o) i = yA Y x o i := by subst hx; exact h.2.2.2.2.2.1 c o k ho hk hz i
theorem HY.B (h : HY n ad aa σ Y) {o : Nat} (ho : Ob n 5 o) (i : Nat) : sJ σ (aa 507 o) i = yB Y o i := h.2.2.2.2.2.2.1 o ho i
theorem HY.el (h : HY n ad aa σ Y) {c o : Nat} (ho : Ob n c o) (k : Nat) {x : Nat} (hk : k < 100) (hx : 100 * c + k = x) (hz : akd x ≠ 0) {i c2 o2 : Nat} (he : elO n x o i = some (c2, o2)) : sP σ (aa x o) i = some (ad c2 o2) := by subst hx; exact h.2.2.2.2.2.2.2.1 c o k ho hk hz i c2 o2 he
theorem HY.rg (h : HY n ad aa σ Y) {i : Nat} (hi : i < 256) : sP σ (aa 402 0) i = some (ad 3 (yR Y i)) := (h.2.2.2.2.2.2.2.2.1 i hi).1
theorem HY.rgO (h : HY n ad aa σ Y) {i : Nat} (hi : i < 256) : Ob n 3 (yR Y i) := (h.2.2.2.2.2.2.2.2.1 i hi).2
theorem HY.P (h : HY n ad aa σ Y) {c o : Nat} (ho : Ob n c o) (k : Nat) {x : Nat} (hk : k < 100) (hx : 100 * c + k = x) (hz : rqf x) : rq σ (sP σ (ad c o) k) (yP Y x o) := by subst hx; exact h.2.2.2.2.2.2.2.2.2.1 c o k ho hk hz
theorem HY.S (h : HY n ad aa σ Y) {c o : Nat} (ho : Ob n c o) (k : Nat) {x : Nat} (hk : k < 100) (hx : 100 * c + k = x) (hz : akd x = 22) (i : Nat) : rq σ (sP σ (aa x o) i) (yS Y x o i) := by subst hx; exact h.2.2.2.2.2.2.2.2.2.2.1 c o k ho hk hz i
theorem vp_lt {i : Int32} {m : Nat} (h : vp_in i m) : i.toNatClampNeg < m := by
  unfold vp_in at h; omega
theorem HY.neA (h : HY n ad aa σ Y) {c o c' o' k : Nat} (ho : Ob n c o) (ho' : Ob n c' o') (hk : k < 100) (hz : akd (100 * c' + k) ≠ 0) : ad c o ≠ aa (100 * c' + k) o' := fun e => by
  have h1 := h.1 c o ho
  have h2 := (h.2.2.2.2.1 c' o' k ho' hk hz).2.1
  have h3 := (akd_in _ hz).1
  have h4 := (ob_lt ho).1
  rw [e, h2] at h1; omega
theorem HY.adI (h : HY n ad aa σ Y) {c o c' o' : Nat} (ho : Ob n c o) (ho' : Ob n c' o') (e : ad c o = ad c' o') : c = c' ∧ o = o' := by
  have h1 := h.1 c o ho
  have h2 := h.1 c' o' ho'
  have h3 : c = c' := by rw [← h1, ← h2, e]
  subst h3
  exact ⟨rfl, h.2.2.2.2.2.2.2.2.2.2.2.1 c o o' ho ho' e⟩
theorem Fy.I {c o k : Nat} {v : Int32} (ho : Ob n c o) : Fy n ad aa σ (stI σ (ad c o) k v) := fun a _ hc => by
  have hn : a ≠ ad c o := fun e => hc (Or.inl ⟨c, o, ho, e⟩)
  exact ⟨rfl, rfl, up2_row _ v hn, rfl, rfl⟩
theorem Fy.J {c o k : Nat} {v : Int64} (ho : Ob n c o) : Fy n ad aa σ (stJ σ (ad c o) k v) := fun a _ hc => by
  have hn : a ≠ ad c o := fun e => hc (Or.inl ⟨c, o, ho, e⟩)
  exact ⟨rfl, rfl, rfl, up2_row _ v hn, rfl⟩
theorem Fy.P {c o k : Nat} {v : Option Nat} (ho : Ob n c o) : Fy n ad aa σ (stP σ (ad c o) k v) := fun a _ hc => by
  have hn : a ≠ ad c o := fun e => hc (Or.inl ⟨c, o, ho, e⟩)
  exact ⟨rfl, rfl, rfl, rfl, up2_row _ v hn⟩
theorem Fy.A {c o k x : Nat} {i : Nat} {v : Int32} (ho : Ob n c o) (hk : k < 100) (hx : 100 * c + k = x) (hz : akd x ≠ 0) : Fy n ad aa σ (stI σ (aa x o) i v) := fun a _ hc => by
  subst hx
  have hn : a ≠ aa (100 * c + k) o := fun e => hc (Or.inr ⟨c, o, k, ho, hk, hz, e⟩)
  exact ⟨rfl, rfl, up2_row _ v hn, rfl, rfl⟩
theorem Fy.B {c o k x : Nat} {i : Nat} {v : Int64} (ho : Ob n c o) (hk : k < 100) (hx : 100 * c + k = x) (hz : akd x ≠ 0) : Fy n ad aa σ (stJ σ (aa x o) i v) := fun a _ hc => by
  subst hx
  have hn : a ≠ aa (100 * c + k) o := fun e => hc (Or.inr ⟨c, o, k, ho, hk, hz, e⟩)
  exact ⟨rfl, rfl, rfl, up2_row _ v hn, rfl⟩
theorem Fy.S {c o k x : Nat} {i : Nat} {v : Option Nat} (ho : Ob n c o) (hk : k < 100) (hx : 100 * c + k = x) (hz : akd x ≠ 0) : Fy n ad aa σ (stP σ (aa x o) i v) := fun a _ hc => by
  subst hx
  have hn : a ≠ aa (100 * c + k) o := fun e => hc (Or.inr ⟨c, o, k, ho, hk, hz, e⟩)
  exact ⟨rfl, rfl, rfl, rfl, up2_row _ v hn⟩
theorem HY.vI (h : HY n ad aa σ Y) {c o : Nat} (ho : Ob n c o) (k : Nat) {x : Nat} (hk : k < 100) (hx : 100 * c + k = x) (v : Int32) : HY n ad aa (stI σ (ad c o) k v) (uI Y x o v) := by
  have hF : Fy n ad aa σ (stI σ (ad c o) k v) := Fy.I ho
  have hrq : ∀ p q, rq σ p q → rq (stI σ (ad c o) k v) p q := fun p q g => g.mv h hF
  subst hx
  refine ⟨h.1, fun c' o' k' ho' hk' => ?_, h.2.2.1, h.2.2.2.1, h.2.2.2.2.1, fun c' o' k' ho' hk' hz i => ?_, h.2.2.2.2.2.2.1, h.2.2.2.2.2.2.2.1, h.2.2.2.2.2.2.2.2.1, fun c' o' k' ho' hk' hz => hrq _ _ (h.2.2.2.2.2.2.2.2.2.1 c' o' k' ho' hk' hz), fun c' o' k' ho' hk' hz i => hrq _ _ (h.2.2.2.2.2.2.2.2.2.2.1 c' o' k' ho' hk' hz i), h.2.2.2.2.2.2.2.2.2.2.2⟩
  · show up2 (sI σ) (ad c o) k v (ad c' o') k' = up2 (yI Y) (100 * c + k) o v (100 * c' + k') o'
    by_cases e : ad c' o' = ad c o ∧ k' = k
    · obtain ⟨e1, e2⟩ := h.adI ho' ho e.1
      subst e1; subst e2; rw [e.2, up2_self, up2_self]
    · have e' : ¬ (100 * c' + k' = 100 * c + k ∧ o' = o) := fun q => e (by
        have q1 : c' = c := by omega
        have q2 : k' = k := by omega
        subst q1; subst q2; exact ⟨by rw [q.2], rfl⟩)
      rw [up2_ne _ v e, up2_ne _ v e']
      exact h.2.1 c' o' k' ho' hk'
  · show up2 (sI σ) (ad c o) k v (aa (100 * c' + k') o') i = _
    rw [up2_ne _ v (fun q => h.neA ho ho' hk' hz q.1.symm)]
    exact h.2.2.2.2.2.1 c' o' k' ho' hk' hz i
theorem HY.vJ (h : HY n ad aa σ Y) {c o : Nat} (ho : Ob n c o) (k : Nat) {x : Nat} (hk : k < 100) (hx : 100 * c + k = x) (v : Int64) : HY n ad aa (stJ σ (ad c o) k v) (uJ Y x o v) := by
  have hF : Fy n ad aa σ (stJ σ (ad c o) k v) := Fy.J ho
  have hrq : ∀ p q, rq σ p q → rq (stJ σ (ad c o) k v) p q := fun p q g => g.mv h hF
  subst hx
  refine ⟨h.1, h.2.1, fun c' o' k' ho' hk' => ?_, h.2.2.2.1, h.2.2.2.2.1, h.2.2.2.2.2.1, fun o' ho' i => ?_, h.2.2.2.2.2.2.2.1, h.2.2.2.2.2.2.2.2.1, fun c' o' k' ho' hk' hz => hrq _ _ (h.2.2.2.2.2.2.2.2.2.1 c' o' k' ho' hk' hz), fun c' o' k' ho' hk' hz i => hrq _ _ (h.2.2.2.2.2.2.2.2.2.2.1 c' o' k' ho' hk' hz i), h.2.2.2.2.2.2.2.2.2.2.2⟩
  · show up2 (sJ σ) (ad c o) k v (ad c' o') k' = up2 (yJ Y) (100 * c + k) o v (100 * c' + k') o'
    by_cases e : ad c' o' = ad c o ∧ k' = k
    · obtain ⟨e1, e2⟩ := h.adI ho' ho e.1
      subst e1; subst e2; rw [e.2, up2_self, up2_self]
    · have e' : ¬ (100 * c' + k' = 100 * c + k ∧ o' = o) := fun q => e (by
        have q1 : c' = c := by omega
        have q2 : k' = k := by omega
        subst q1; subst q2; exact ⟨by rw [q.2], rfl⟩)
      rw [up2_ne _ v e, up2_ne _ v e']
      exact h.2.2.1 c' o' k' ho' hk'
  · show up2 (sJ σ) (ad c o) k v (aa 507 o') i = _
    rw [up2_ne _ v (fun q => h.neA (c' := 5) (k := 7) ho ho' (by decide) (by decide) q.1.symm)]
    exact h.2.2.2.2.2.2.1 o' ho' i
theorem HY.vA (h : HY n ad aa σ Y) {c o : Nat} (ho : Ob n c o) (k : Nat) {x : Nat} (hk : k < 100) (hx : 100 * c + k = x) (hz : akd x ≠ 0) (i : Nat) (v : Int32) : HY n ad aa (stI σ (aa x o) i v) (uA Y x o i v) := by
  have hF : Fy n ad aa σ (stI σ (aa x o) i v) := Fy.A ho hk hx hz
  have hrq : ∀ p q, rq σ p q → rq (stI σ (aa x o) i v) p q := fun p q g => g.mv h hF
  subst hx
  refine ⟨h.1, fun c' o' k' ho' hk' => ?_, h.2.2.1, h.2.2.2.1, h.2.2.2.2.1, fun c' o' k' ho' hk' hz' j => ?_, h.2.2.2.2.2.2.1, h.2.2.2.2.2.2.2.1, h.2.2.2.2.2.2.2.2.1, fun c' o' k' ho' hk' hz => hrq _ _ (h.2.2.2.2.2.2.2.2.2.1 c' o' k' ho' hk' hz), fun c' o' k' ho' hk' hz i => hrq _ _ (h.2.2.2.2.2.2.2.2.2.2.1 c' o' k' ho' hk' hz i), h.2.2.2.2.2.2.2.2.2.2.2⟩
  · show up2 (sI σ) (aa (100 * c + k) o) i v (ad c' o') k' = _
    rw [up2_ne _ v (fun q => h.neA ho' ho hk hz q.1)]
    exact h.2.1 c' o' k' ho' hk'
  · show up2 (sI σ) (aa (100 * c + k) o) i v (aa (100 * c' + k') o') j = up3 (yA Y) (100 * c + k) o i v (100 * c' + k') o' j
    by_cases e : aa (100 * c' + k') o' = aa (100 * c + k) o ∧ j = i
    · obtain ⟨e1, e2⟩ := h.2.2.2.2.2.2.2.2.2.2.2.2 c' o' k' c o k ho' ho hk' hk hz' hz e.1
      rw [e1, e2, e.2, up2_self]; simp [up3]
    · have e' : ¬ (100 * c' + k' = 100 * c + k ∧ o' = o ∧ j = i) := fun q => e ⟨by rw [q.1, q.2.1], q.2.2⟩
      rw [up2_ne _ v e]; simp only [up3, if_neg e']
      exact h.2.2.2.2.2.1 c' o' k' ho' hk' hz' j
theorem HY.vB (h : HY n ad aa σ Y) {o : Nat} (ho : Ob n 5 o) (i : Nat) (v : Int64) : HY n ad aa (stJ σ (aa 507 o) i v) (uB Y o i v) := by
  have hF : Fy n ad aa σ (stJ σ (aa 507 o) i v) := Fy.B (c := 5) (k := 7) ho (by decide) rfl (by decide)
  have hrq : ∀ p q, rq σ p q → rq (stJ σ (aa 507 o) i v) p q := fun p q g => g.mv h hF
  refine ⟨h.1, h.2.1, fun c' o' k' ho' hk' => ?_, h.2.2.2.1, h.2.2.2.2.1, h.2.2.2.2.2.1, fun o' ho' j => ?_, h.2.2.2.2.2.2.2.1, h.2.2.2.2.2.2.2.2.1, fun c' o' k' ho' hk' hz => hrq _ _ (h.2.2.2.2.2.2.2.2.2.1 c' o' k' ho' hk' hz), fun c' o' k' ho' hk' hz i => hrq _ _ (h.2.2.2.2.2.2.2.2.2.2.1 c' o' k' ho' hk' hz i), h.2.2.2.2.2.2.2.2.2.2.2⟩
  · show up2 (sJ σ) (aa 507 o) i v (ad c' o') k' = _
    rw [up2_ne _ v (fun q => h.neA (c' := 5) (k := 7) ho' ho (by decide) (by decide) q.1)]
    exact h.2.2.1 c' o' k' ho' hk'
  · show up2 (sJ σ) (aa 507 o) i v (aa 507 o') j = up2 (yB Y) o i v o' j
    by_cases e : aa 507 o' = aa 507 o ∧ j = i
    · obtain ⟨_, e2⟩ := h.2.2.2.2.2.2.2.2.2.2.2.2 5 o' 7 5 o 7 ho' ho (by decide) (by decide) (by decide) (by decide) e.1
      rw [e2, e.2, up2_self, up2_self]
    · have e' : ¬ (o' = o ∧ j = i) := fun q => e ⟨by rw [q.1], q.2⟩
      rw [up2_ne _ v e, up2_ne _ v e']
      exact h.2.2.2.2.2.2.1 o' ho' j
theorem lk_rq {x o : Nat} (h : rqf x) : lkO x o = none ∧ akd x = 0 := by
  rcases h with rfl | rfl | rfl <;> exact ⟨rfl, rfl⟩
theorem HY.vP (h : HY n ad aa σ Y) {c o : Nat} (ho : Ob n c o) (k : Nat) {x : Nat} (hk : k < 100) (hx : 100 * c + k = x) (hz : rqf x) {p : Option Nat} {q : Option Rq} (hp : rq σ p q) : HY n ad aa (stP σ (ad c o) k p) (uP Y x o q) := by
  have hF : Fy n ad aa σ (stP σ (ad c o) k p) := Fy.P ho
  have hrq : ∀ p' q', rq σ p' q' → rq (stP σ (ad c o) k p) p' q' := fun p q g => g.mv h hF
  subst hx
  have ho_ : ∀ c' o' k', Ob n c' o' → k' < 100 → 100 * c' + k' ≠ 100 * c + k → sP (stP σ (ad c o) k p) (ad c' o') k' = sP σ (ad c' o') k' := fun c' o' k' ho' hk' hne => up2_ne _ p (fun e => hne (by rw [(h.adI ho' ho e.1).1, e.2]))
  have har : ∀ c' o' k', Ob n c' o' → k' < 100 → akd (100 * c' + k') ≠ 0 → ∀ i, sP (stP σ (ad c o) k p) (aa (100 * c' + k') o') i = sP σ (aa (100 * c' + k') o') i := fun c' o' k' ho' hk' hz' i => up2_ne _ p (fun e => h.neA ho ho' hk' hz' e.1.symm)
  refine ⟨h.1, h.2.1, h.2.2.1, fun c' o' k' ho' hk' c2 o2 hl => ?_, fun c' o' k' ho' hk' hz' => ?_, h.2.2.2.2.2.1, h.2.2.2.2.2.2.1, fun c' o' k' ho' hk' hz' i c2 o2 he => ?_, fun i hi => ?_, fun c' o' k' ho' hk' hz' => ?_, fun c' o' k' ho' hk' hz' i => ?_, h.2.2.2.2.2.2.2.2.2.2.2⟩
  · rw [ho_ c' o' k' ho' hk' (fun e => by rw [e, (lk_rq hz).1] at hl; cases hl)]
    exact h.2.2.2.1 c' o' k' ho' hk' c2 o2 hl
  · rw [ho_ c' o' k' ho' hk' (fun e => by rw [e, (lk_rq (o := 0) hz).2] at hz'; exact hz' rfl)]
    exact h.2.2.2.2.1 c' o' k' ho' hk' hz'
  · rw [har c' o' k' ho' hk' hz' i]
    exact h.2.2.2.2.2.2.2.1 c' o' k' ho' hk' hz' i c2 o2 he
  · rw [show (402 : Nat) = 100 * 4 + 2 from rfl, har 4 0 2 rfl (by decide) (by decide) i]
    exact h.2.2.2.2.2.2.2.2.1 i hi
  · refine hrq _ _ ?_
    show rq σ (up2 (sP σ) (ad c o) k p (ad c' o') k') (up2 (yP Y) (100 * c + k) o q (100 * c' + k') o')
    by_cases e : ad c' o' = ad c o ∧ k' = k
    · obtain ⟨e1, e2⟩ := h.adI ho' ho e.1
      subst e1; subst e2; rw [e.2, up2_self, up2_self]; exact hp
    · have e' : ¬ (100 * c' + k' = 100 * c + k ∧ o' = o) := fun q => e (by
        have q1 : c' = c := by omega
        have q2 : k' = k := by omega
        subst q1; subst q2; exact ⟨by rw [q.2], rfl⟩)
      rw [up2_ne _ p e, up2_ne _ q e']
      exact h.2.2.2.2.2.2.2.2.2.1 c' o' k' ho' hk' hz'
  · refine hrq _ _ ?_
    rw [har c' o' k' ho' hk' (by rw [hz']; decide) i]
    exact h.2.2.2.2.2.2.2.2.2.2.1 c' o' k' ho' hk' hz' i
theorem el_22 {n x o i : Nat} (h : akd x = 22) : elO n x o i = none := by
  unfold elO
  split <;> first | rfl | (exact absurd h (by decide))
theorem HY.vS (h : HY n ad aa σ Y) {c o : Nat} (ho : Ob n c o) (k : Nat) {x : Nat} (hk : k < 100) (hx : 100 * c + k = x) (hz : akd x = 22) (i : Nat) {p : Option Nat} {q : Option Rq} (hp : rq σ p q) : HY n ad aa (stP σ (aa x o) i p) (uS Y x o i q) := by
  have hz0 : akd x ≠ 0 := by rw [hz]; decide
  have hF : Fy n ad aa σ (stP σ (aa x o) i p) := Fy.S ho hk hx hz0
  have hrq : ∀ p' q', rq σ p' q' → rq (stP σ (aa x o) i p) p' q' := fun p q g => g.mv h hF
  subst hx
  have ho_ : ∀ c' o' k', Ob n c' o' → sP (stP σ (aa (100 * c + k) o) i p) (ad c' o') k' = sP σ (ad c' o') k' := fun c' o' k' ho' => up2_ne _ p (fun e => h.neA ho' ho hk hz0 e.1)
  have har : ∀ c' o' k', Ob n c' o' → k' < 100 → akd (100 * c' + k') ≠ 0 → 100 * c' + k' ≠ 100 * c + k → ∀ j, sP (stP σ (aa (100 * c + k) o) i p) (aa (100 * c' + k') o') j = sP σ (aa (100 * c' + k') o') j := fun c' o' k' ho' hk' hz' hne j => up2_ne _ p (fun e => hne (h.2.2.2.2.2.2.2.2.2.2.2.2 c' o' k' c o k ho' ho hk' hk hz' hz0 e.1).1)
  refine ⟨h.1, h.2.1, h.2.2.1, fun c' o' k' ho' hk' c2 o2 hl => ?_, fun c' o' k' ho' hk' hz' => ?_, h.2.2.2.2.2.1, h.2.2.2.2.2.2.1, fun c' o' k' ho' hk' hz' j c2 o2 he => ?_, fun j hj => ?_, fun c' o' k' ho' hk' hz' => ?_, fun c' o' k' ho' hk' hz' j => ?_, h.2.2.2.2.2.2.2.2.2.2.2⟩
  · rw [ho_ c' o' k' ho']; exact h.2.2.2.1 c' o' k' ho' hk' c2 o2 hl
  · rw [ho_ c' o' k' ho']; exact h.2.2.2.2.1 c' o' k' ho' hk' hz'
  · rw [har c' o' k' ho' hk' hz' (fun e => by rw [e, el_22 hz] at he; cases he) j]
    exact h.2.2.2.2.2.2.2.1 c' o' k' ho' hk' hz' j c2 o2 he
  · rw [show (402 : Nat) = 100 * 4 + 2 from rfl, har 4 0 2 rfl (by decide) (by decide) (fun e => by rw [← e] at hz; exact absurd hz (by decide)) j]
    exact h.2.2.2.2.2.2.2.2.1 j hj
  · refine hrq _ _ ?_
    rw [ho_ c' o' k' ho']; exact h.2.2.2.2.2.2.2.2.2.1 c' o' k' ho' hk' hz'
  · refine hrq _ _ ?_
    show rq σ (up2 (sP σ) (aa (100 * c + k) o) i p (aa (100 * c' + k') o') j) (up3 (yS Y) (100 * c + k) o i q (100 * c' + k') o' j)
    by_cases e : aa (100 * c' + k') o' = aa (100 * c + k) o ∧ j = i
    · obtain ⟨e1, e2⟩ := h.2.2.2.2.2.2.2.2.2.2.2.2 c' o' k' c o k ho' ho hk' hk (by rw [hz']; decide) hz0 e.1
      rw [e1, e2, e.2, up2_self]; simp only [up3, true_and, if_true]; exact hp
    · have e' : ¬ (100 * c' + k' = 100 * c + k ∧ o' = o ∧ j = i) := fun q => e ⟨by rw [q.1, q.2.1], q.2.2⟩
      rw [up2_ne _ p e]; simp only [up3, if_neg e']
      exact h.2.2.2.2.2.2.2.2.2.2.1 c' o' k' ho' hk' hz' j
theorem HY.vR (h : HY n ad aa σ Y) {i j : Nat} (hj : Ob n 3 j) : HY n ad aa (stP σ (aa 402 0) i (some (ad 3 j))) (uR Y i j) := by
  have h4 : Ob n 4 0 := rfl
  have hF : Fy n ad aa σ (stP σ (aa 402 0) i (some (ad 3 j))) := Fy.S (c := 4) (k := 2) h4 (by decide) rfl (by decide)
  have hrq : ∀ p' q', rq σ p' q' → rq (stP σ (aa 402 0) i (some (ad 3 j))) p' q' := fun p q g => g.mv h hF
  have ho_ : ∀ c' o' k', Ob n c' o' → sP (stP σ (aa 402 0) i (some (ad 3 j))) (ad c' o') k' = sP σ (ad c' o') k' := fun c' o' k' ho' => up2_ne _ _ (fun e => h.neA (c' := 4) (k := 2) ho' h4 (by decide) (by decide) e.1)
  have har : ∀ c' o' k', Ob n c' o' → k' < 100 → akd (100 * c' + k') ≠ 0 → 100 * c' + k' ≠ 402 → ∀ l, sP (stP σ (aa 402 0) i (some (ad 3 j))) (aa (100 * c' + k') o') l = sP σ (aa (100 * c' + k') o') l := fun c' o' k' ho' hk' hz' hne l => up2_ne _ _ (fun e => hne (h.2.2.2.2.2.2.2.2.2.2.2.2 c' o' k' 4 0 2 ho' h4 hk' (by decide) hz' (by decide) e.1).1)
  refine ⟨h.1, h.2.1, h.2.2.1, fun c' o' k' ho' hk' c2 o2 hl => ?_, fun c' o' k' ho' hk' hz' => ?_, h.2.2.2.2.2.1, h.2.2.2.2.2.2.1, fun c' o' k' ho' hk' hz' l c2 o2 he => ?_, fun l hl => ?_, fun c' o' k' ho' hk' hz' => ?_, fun c' o' k' ho' hk' hz' l => ?_, h.2.2.2.2.2.2.2.2.2.2.2⟩
  · rw [ho_ c' o' k' ho']; exact h.2.2.2.1 c' o' k' ho' hk' c2 o2 hl
  · rw [ho_ c' o' k' ho']; exact h.2.2.2.2.1 c' o' k' ho' hk' hz'
  · rw [har c' o' k' ho' hk' hz' (fun e => by rw [e] at he; cases he) l]
    exact h.2.2.2.2.2.2.2.1 c' o' k' ho' hk' hz' l c2 o2 he
  · show up2 (sP σ) (aa 402 0) i (some (ad 3 j)) (aa 402 0) l = some (ad 3 (va_up (yR Y) i j l)) ∧ va_up (yR Y) i j l < 257
    by_cases e : l = i
    · subst e; rw [up2_self, show va_up (yR Y) l j l = j by simp [va_up]]; exact ⟨rfl, hj⟩
    · rw [up2_ne _ _ (fun q => e q.2), va_up_ne _ _ e]; exact h.2.2.2.2.2.2.2.2.1 l hl
  · refine hrq _ _ ?_
    rw [ho_ c' o' k' ho']; exact h.2.2.2.2.2.2.2.2.2.1 c' o' k' ho' hk' hz'
  · refine hrq _ _ ?_
    rw [har c' o' k' ho' hk' (by rw [hz']; decide) (fun e => by rw [e] at hz'; exact absurd hz' (by decide)) l]
    exact h.2.2.2.2.2.2.2.2.2.2.1 c' o' k' ho' hk' hz' l
/-- a cell outside changes, or is made: the class's stand -/
theorem HY.out (h : HY n ad aa σ Y) {τ : Sto} (hc : ∀ a, cg n ad aa a ∨ sK σ a = 9 → sK τ a = sK σ a ∧ sN τ a = sN σ a ∧ sI τ a = sI σ a ∧ sJ τ a = sJ σ a ∧ sP τ a = sP σ a) : HY n ad aa τ Y := by
  have hO : ∀ c o, Ob n c o → _ := fun c o ho => hc (ad c o) (Or.inl (Or.inl ⟨c, o, ho, rfl⟩))
  have hA : ∀ c o k, Ob n c o → k < 100 → akd (100 * c + k) ≠ 0 → _ := fun c o k ho hk hz => hc (aa (100 * c + k) o) (Or.inl (Or.inr ⟨c, o, k, ho, hk, hz, rfl⟩))
  have hrq : ∀ p q, rq σ p q → rq τ p q := fun p q g => by
    rcases g with g | ⟨a, w, e1, e2, g⟩
    · exact Or.inl g
    · refine Or.inr ⟨a, w, e1, e2, ?_⟩
      obtain ⟨h1, _, h3, _⟩ := hc a (Or.inr g.1)
      unfold RA; rw [h1, h3]; exact g
  refine ⟨fun c o ho => by rw [(hO c o ho).1]; exact h.1 c o ho, fun c o k ho hk => by rw [(hO c o ho).2.2.1]; exact h.2.1 c o k ho hk, fun c o k ho hk => by rw [(hO c o ho).2.2.2.1]; exact h.2.2.1 c o k ho hk, fun c o k ho hk c2 o2 hl => by rw [(hO c o ho).2.2.2.2]; exact h.2.2.2.1 c o k ho hk c2 o2 hl, fun c o k ho hk hz => by rw [(hO c o ho).2.2.2.2, (hA c o k ho hk hz).1, (hA c o k ho hk hz).2.1]; exact h.2.2.2.2.1 c o k ho hk hz, fun c o k ho hk hz i => by rw [(hA c o k ho hk hz).2.2.1]; exact h.2.2.2.2.2.1 c o k ho hk hz i, fun o ho i => by rw [(hA 5 o 7 ho (by decide) (by decide)).2.2.2.1]; exact h.2.2.2.2.2.2.1 o ho i, fun c o k ho hk hz i c2 o2 he => by rw [(hA c o k ho hk hz).2.2.2.2]; exact h.2.2.2.2.2.2.2.1 c o k ho hk hz i c2 o2 he, fun i hi => by rw [(hA 4 0 2 rfl (by decide) (by decide)).2.2.2.2]; exact h.2.2.2.2.2.2.2.2.1 i hi, fun c o k ho hk hz => by rw [(hO c o ho).2.2.2.2]; exact hrq _ _ (h.2.2.2.2.2.2.2.2.2.1 c o k ho hk hz), fun c o k ho hk hz i => by rw [(hA c o k ho hk (by rw [hz]; decide)).2.2.2.2]; exact hrq _ _ (h.2.2.2.2.2.2.2.2.2.2.1 c o k ho hk hz i), h.2.2.2.2.2.2.2.2.2.2.2⟩
end
def bl (o : Nat) : Nat := if o = 0 then 2560 else 1500
theorem ob_m256 {n : Nat} : Ob n 3 256 := show 256 < 257 by decide
theorem ob_b0 {n : Nat} : Ob n 0 0 := show 0 < 2 by decide
theorem ob_b1 {n : Nat} : Ob n 0 1 := show 1 < 2 by decide
theorem ob_4 {n : Nat} : Ob n 4 0 := rfl
theorem ob_7 {n : Nat} : Ob n 7 0 := rfl
theorem ob_10 {n : Nat} : Ob n 10 0 := rfl
theorem ob_11 {n : Nat} : Ob n 11 0 := rfl
section
variable {n : Nat} {ad aa : Nat → Nat → Nat} {σ : Sto} {Y : Yc}
theorem HY.wI (h : HY n ad aa σ Y) {c o : Nat} (ho : Ob n c o) (k : Nat) {x : Nat} (hk : k < 100) (hx : 100 * c + k = x) (v : Int32) : HY n ad aa (stI σ (ad c o) k v) (uI Y x o v) ∧ Fy n ad aa σ (stI σ (ad c o) k v) := ⟨h.vI ho k hk hx v, Fy.I ho⟩
theorem HY.wJ (h : HY n ad aa σ Y) {c o : Nat} (ho : Ob n c o) (k : Nat) {x : Nat} (hk : k < 100) (hx : 100 * c + k = x) (v : Int64) : HY n ad aa (stJ σ (ad c o) k v) (uJ Y x o v) ∧ Fy n ad aa σ (stJ σ (ad c o) k v) := ⟨h.vJ ho k hk hx v, Fy.J ho⟩
theorem HY.wP (h : HY n ad aa σ Y) {c o : Nat} (ho : Ob n c o) (k : Nat) {x : Nat} (hk : k < 100) (hx : 100 * c + k = x) (hz : rqf x) {p : Option Nat} {q : Option Rq} (hp : rq σ p q) : HY n ad aa (stP σ (ad c o) k p) (uP Y x o q) ∧ Fy n ad aa σ (stP σ (ad c o) k p) := ⟨h.vP ho k hk hx hz hp, Fy.P ho⟩
theorem HY.wA (h : HY n ad aa σ Y) {c o : Nat} (ho : Ob n c o) (k : Nat) {x : Nat} (hk : k < 100) (hx : 100 * c + k = x) (hz : akd x ≠ 0) (i : Nat) (v : Int32) : HY n ad aa (stI σ (aa x o) i v) (uA Y x o i v) ∧ Fy n ad aa σ (stI σ (aa x o) i v) := ⟨h.vA ho k hk hx hz i v, Fy.A ho hk hx hz⟩
theorem HY.wB (h : HY n ad aa σ Y) {o : Nat} (ho : Ob n 5 o) (i : Nat) (v : Int64) : HY n ad aa (stJ σ (aa 507 o) i v) (uB Y o i v) ∧ Fy n ad aa σ (stJ σ (aa 507 o) i v) := ⟨h.vB ho i v, Fy.B (c := 5) (k := 7) ho (by decide) rfl (by decide)⟩
theorem HY.wS (h : HY n ad aa σ Y) {c o : Nat} (ho : Ob n c o) (k : Nat) {x : Nat} (hk : k < 100) (hx : 100 * c + k = x) (hz : akd x = 22) (i : Nat) {p : Option Nat} {q : Option Rq} (hp : rq σ p q) : HY n ad aa (stP σ (aa x o) i p) (uS Y x o i q) ∧ Fy n ad aa σ (stP σ (aa x o) i p) := ⟨h.vS ho k hk hx hz i hp, Fy.S ho hk hx (by rw [hz]; decide)⟩
theorem HY.wR (h : HY n ad aa σ Y) {i j : Nat} (hj : Ob n 3 j) : HY n ad aa (stP σ (aa 402 0) i (some (ad 3 j))) (uR Y i j) ∧ Fy n ad aa σ (stP σ (aa 402 0) i (some (ad 3 j))) := ⟨h.vR hj, Fy.S (c := 4) (k := 2) ob_4 (by decide) rfl (by decide)⟩
end
theorem ob_311 {n o : Nat} (h : Ob n 3 o) : Ob n 2 (56 + o) := Or.inr (Or.inr ⟨Nat.le_add_right _ _, by have : o < 257 := h; omega⟩)
theorem ob_104 {n o : Nat} (h : Ob n 1 o) : Ob n 6 o := by have : o < 4 := h; show o < 460; omega
theorem ob_807 {n o : Nat} (h : Ob n 8 o) : Ob n 2 o := Or.inl h
theorem ob_810 {n o : Nat} (h : Ob n 8 o) : Ob n 5 o := h
theorem ob_105 {n o : Nat} {i : Int32} (h : Ob n 1 o) (hi : vp_in i 64) : Ob n 6 (4 + 64 * o + i.toNatClampNeg) := by
  have h1 : o < 4 := h
  have h2 := vp_lt hi
  show _ < 460; omega
theorem ob_508 {n o : Nat} {i : Int32} (h : Ob n 5 o) (hi : vp_in i n) : Ob n 2 (7 + 7 * o + i.toNatClampNeg) := Or.inr (Or.inl ⟨o, _, h, vp_lt hi, rfl⟩)
theorem ob_1103 {n : Nat} {i : Int32} (hi : vp_in i n) : Ob n 8 i.toNatClampNeg := vp_lt hi
theorem ob_1104 {n : Nat} {i : Int32} (hi : vp_in i 4) : Ob n 1 i.toNatClampNeg := vp_lt hi
theorem ob_1109 {n : Nat} {i : Int32} (hi : vp_in i 200) : Ob n 6 (260 + i.toNatClampNeg) := by
  have h2 := vp_lt hi
  show _ < 460; omega
theorem el_105 {n o : Nat} {i : Int32} (hi : vp_in i 64) : elO n 105 o i.toNatClampNeg = some (6, 4 + 64 * o + i.toNatClampNeg) := if_pos (vp_lt hi)
theorem el_508 {n o : Nat} {i : Int32} (hi : vp_in i n) : elO n 508 o i.toNatClampNeg = some (2, 7 + 7 * o + i.toNatClampNeg) := if_pos (vp_lt hi)
theorem el_1103 {n o : Nat} {i : Int32} (hi : vp_in i n) : elO n 1103 o i.toNatClampNeg = some (8, i.toNatClampNeg) := if_pos (vp_lt hi)
theorem el_1104 {n o : Nat} {i : Int32} (hi : vp_in i 4) : elO n 1104 o i.toNatClampNeg = some (1, i.toNatClampNeg) := if_pos (vp_lt hi)
theorem el_1109 {n o : Nat} {i : Int32} (hi : vp_in i 200) : elO n 1109 o i.toNatClampNeg = some (6, 260 + i.toNatClampNeg) := if_pos (vp_lt hi)
def LFy {T : Type} (F : (T → Yc → Prop) → T → Yc → Prop) (t : T) (Y : Yc) : Prop := ∀ Rr : T → Yc → Prop, (∀ (t : T) (Y : Yc), F Rr t Y → Rr t Y) → Rr t Y
theorem lfy {T Ty : Type} {F : (T → Sto → Prop) → T → Sto → Prop} {Fv : (Ty → Yc → Prop) → Ty → Yc → Prop} {n : Nat} {ad aa : Nat → Nat → Nat} {σ0 σ : Sto} {t : T} {ty : Ty} {Y : Yc} (Rt : Sto → T → Ty → Prop) (h : LFy Fv ty Y) (hR : HY n ad aa σ Y) (hF : Fy n ad aa σ0 σ) (hT : Rt σ t ty) (step : ∀ (Lv : Ty → Yc → Prop) (L : T → Sto → Prop), (∀ (t : T) (ty : Ty) (σ : Sto) (Y : Yc), Lv ty Y → HY n ad aa σ Y → Fy n ad aa σ0 σ → Rt σ t ty → L t σ) → ∀ (t : T) (ty : Ty) (σ : Sto) (Y : Yc), HY n ad aa σ Y → Fy n ad aa σ0 σ → Rt σ t ty → Fv Lv ty Y → F L t σ) : LF F t σ := by
  intro R hc
  exact h (fun ty Y => ∀ t σ, HY n ad aa σ Y → Fy n ad aa σ0 σ → Rt σ t ty → R t σ) (fun ty Y hx t σ hR hF hT => hc t σ (step _ R (fun t ty σ Y h a b c => h t σ a b c) t ty σ Y hR hF hT hx)) t σ hR hF hT
theorem lfy_m {T : Type} {F : (T → Yc → Prop) → T → Yc → Prop} (I : T → Yc → Prop) (μ : T → Yc → Nat) (hs : ∀ (t : T) (Y : Yc), I t Y → ∀ Rr : T → Yc → Prop, (∀ (t' : T) (Y' : Yc), I t' Y' → μ t' Y' < μ t Y → Rr t' Y') → F Rr t Y) {t : T} {Y : Yc} (h : I t Y) : LFy F t Y := by
  intro Rr hR
  have key : ∀ (n : Nat) (t : T) (Y : Yc), μ t Y < n → I t Y → Rr t Y := by
    intro n
    induction n with
    | zero => intro t Y hn; omega
    | succ n ih => intro t Y hn hI; exact hR t Y (hs t Y hI Rr (fun t' Y' hI' hl => ih t' Y' (by omega) hI'))
  exact key _ t Y (Nat.lt_succ_self _) h
