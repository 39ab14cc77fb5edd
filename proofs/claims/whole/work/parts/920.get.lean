theorem yII (Y : Yc) (c o : Nat) (v : Int32) (c' o' : Nat) : yI (uI Y c o v) c' o' = if c' = c ∧ o' = o then v else yI Y c' o' := rfl
theorem yIJ (Y : Yc) (c o : Nat) (v : Int64) : yI (uJ Y c o v) = yI Y := rfl
theorem yIA (Y : Yc) (c o i : Nat) (v : Int32) : yI (uA Y c o i v) = yI Y := rfl
theorem yIB (Y : Yc) (c o : Nat) (v : Int64) : yI (uB Y c o v) = yI Y := rfl
theorem yIP (Y : Yc) (c o : Nat) (v : Option Rq) : yI (uP Y c o v) = yI Y := rfl
theorem yIS (Y : Yc) (c o i : Nat) (v : Option Rq) : yI (uS Y c o i v) = yI Y := rfl
theorem yIR (Y : Yc) (c : Nat) (v : Nat) : yI (uR Y c v) = yI Y := rfl
theorem yJI (Y : Yc) (c o : Nat) (v : Int32) : yJ (uI Y c o v) = yJ Y := rfl
theorem yJJ (Y : Yc) (c o : Nat) (v : Int64) (c' o' : Nat) : yJ (uJ Y c o v) c' o' = if c' = c ∧ o' = o then v else yJ Y c' o' := rfl
theorem yJA (Y : Yc) (c o i : Nat) (v : Int32) : yJ (uA Y c o i v) = yJ Y := rfl
theorem yJB (Y : Yc) (c o : Nat) (v : Int64) : yJ (uB Y c o v) = yJ Y := rfl
theorem yJP (Y : Yc) (c o : Nat) (v : Option Rq) : yJ (uP Y c o v) = yJ Y := rfl
theorem yJS (Y : Yc) (c o i : Nat) (v : Option Rq) : yJ (uS Y c o i v) = yJ Y := rfl
theorem yJR (Y : Yc) (c : Nat) (v : Nat) : yJ (uR Y c v) = yJ Y := rfl
theorem yAI (Y : Yc) (c o : Nat) (v : Int32) : yA (uI Y c o v) = yA Y := rfl
theorem yAJ (Y : Yc) (c o : Nat) (v : Int64) : yA (uJ Y c o v) = yA Y := rfl
theorem yAA (Y : Yc) (c o i : Nat) (v : Int32) (c' o' i' : Nat) : yA (uA Y c o i v) c' o' i' = if c' = c ∧ o' = o ∧ i' = i then v else yA Y c' o' i' := rfl
theorem yAB (Y : Yc) (c o : Nat) (v : Int64) : yA (uB Y c o v) = yA Y := rfl
theorem yAP (Y : Yc) (c o : Nat) (v : Option Rq) : yA (uP Y c o v) = yA Y := rfl
theorem yAS (Y : Yc) (c o i : Nat) (v : Option Rq) : yA (uS Y c o i v) = yA Y := rfl
theorem yAR (Y : Yc) (c : Nat) (v : Nat) : yA (uR Y c v) = yA Y := rfl
theorem yBI (Y : Yc) (c o : Nat) (v : Int32) : yB (uI Y c o v) = yB Y := rfl
theorem yBJ (Y : Yc) (c o : Nat) (v : Int64) : yB (uJ Y c o v) = yB Y := rfl
theorem yBA (Y : Yc) (c o i : Nat) (v : Int32) : yB (uA Y c o i v) = yB Y := rfl
theorem yBB (Y : Yc) (c o : Nat) (v : Int64) (c' o' : Nat) : yB (uB Y c o v) c' o' = if c' = c ∧ o' = o then v else yB Y c' o' := rfl
theorem yBP (Y : Yc) (c o : Nat) (v : Option Rq) : yB (uP Y c o v) = yB Y := rfl
theorem yBS (Y : Yc) (c o i : Nat) (v : Option Rq) : yB (uS Y c o i v) = yB Y := rfl
theorem yBR (Y : Yc) (c : Nat) (v : Nat) : yB (uR Y c v) = yB Y := rfl
theorem yPI (Y : Yc) (c o : Nat) (v : Int32) : yP (uI Y c o v) = yP Y := rfl
theorem yPJ (Y : Yc) (c o : Nat) (v : Int64) : yP (uJ Y c o v) = yP Y := rfl
theorem yPA (Y : Yc) (c o i : Nat) (v : Int32) : yP (uA Y c o i v) = yP Y := rfl
theorem yPB (Y : Yc) (c o : Nat) (v : Int64) : yP (uB Y c o v) = yP Y := rfl
theorem yPP (Y : Yc) (c o : Nat) (v : Option Rq) (c' o' : Nat) : yP (uP Y c o v) c' o' = if c' = c ∧ o' = o then v else yP Y c' o' := rfl
theorem yPS (Y : Yc) (c o i : Nat) (v : Option Rq) : yP (uS Y c o i v) = yP Y := rfl
theorem yPR (Y : Yc) (c : Nat) (v : Nat) : yP (uR Y c v) = yP Y := rfl
theorem ySI (Y : Yc) (c o : Nat) (v : Int32) : yS (uI Y c o v) = yS Y := rfl
theorem ySJ (Y : Yc) (c o : Nat) (v : Int64) : yS (uJ Y c o v) = yS Y := rfl
theorem ySA (Y : Yc) (c o i : Nat) (v : Int32) : yS (uA Y c o i v) = yS Y := rfl
theorem ySB (Y : Yc) (c o : Nat) (v : Int64) : yS (uB Y c o v) = yS Y := rfl
theorem ySP (Y : Yc) (c o : Nat) (v : Option Rq) : yS (uP Y c o v) = yS Y := rfl
theorem ySS (Y : Yc) (c o i : Nat) (v : Option Rq) (c' o' i' : Nat) : yS (uS Y c o i v) c' o' i' = if c' = c ∧ o' = o ∧ i' = i then v else yS Y c' o' i' := rfl
theorem ySR (Y : Yc) (c : Nat) (v : Nat) : yS (uR Y c v) = yS Y := rfl
theorem yRI (Y : Yc) (c o : Nat) (v : Int32) : yR (uI Y c o v) = yR Y := rfl
theorem yRJ (Y : Yc) (c o : Nat) (v : Int64) : yR (uJ Y c o v) = yR Y := rfl
theorem yRA (Y : Yc) (c o i : Nat) (v : Int32) : yR (uA Y c o i v) = yR Y := rfl
theorem yRB (Y : Yc) (c o : Nat) (v : Int64) : yR (uB Y c o v) = yR Y := rfl
theorem yRP (Y : Yc) (c o : Nat) (v : Option Rq) : yR (uP Y c o v) = yR Y := rfl
theorem yRS (Y : Yc) (c o i : Nat) (v : Option Rq) : yR (uS Y c o i v) = yR Y := rfl
theorem yRR (Y : Yc) (c : Nat) (v : Nat) (c' : Nat) : yR (uR Y c v) c' = if c' = c then v else yR Y c' := rfl
theorem xSS (X : Xc) (k : Nat) (v : Int32) (j : Nat) : (xS X k v).1 j = if j = k then v else X.1 j := rfl
theorem xSA (X : Xc) (k i : Nat) (v : Int32) : (xA X k i v).1 = X.1 := rfl
theorem xAS (X : Xc) (k : Nat) (v : Int32) : (xS X k v).2 = X.2 := rfl
theorem xAA (X : Xc) (k i : Nat) (v : Int32) (k' i' : Nat) : (xA X k i v).2 k' i' = if k' = k ∧ i' = i then v else X.2 k' i' := rfl
