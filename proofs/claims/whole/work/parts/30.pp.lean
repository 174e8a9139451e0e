/-! ===== two blocks of rows, with longs ===== -/
def bk2 {α : Type} (F : Nat → Nat → α) (x n : Nat) (D : Nat → Nat → α) (y l : Nat) (E : Nat → Nat → α) : Nat → Nat → α := fun r => if x ≤ r ∧ r < x + n then D (r - x) else if y ≤ r ∧ r < y + l then E (r - y) else F r
theorem bk2_1 {α : Type} {F D E : Nat → Nat → α} {x n y l f : Nat} (h : f < n) : bk2 F x n D y l E (x + f) = D f := by
  unfold bk2
  rw [if_pos (by omega), show x + f - x = f by omega]
theorem bk2_2 {α : Type} {F D E : Nat → Nat → α} {x n y l f : Nat} (hd : y + l ≤ x ∨ x + n ≤ y) (h : f < l) : bk2 F x n D y l E (y + f) = E f := by
  unfold bk2
  rw [if_neg (by omega), if_pos (by omega), show y + f - y = f by omega]
theorem bk2_o {α : Type} {F D E : Nat → Nat → α} {x n y l r : Nat} (h1 : r < x ∨ x + n ≤ r) (h2 : r < y ∨ y + l ≤ r) : bk2 F x n D y l E r = F r := by
  unfold bk2
  rw [if_neg (by omega), if_neg (by omega)]
theorem bk2_u1 {α : Type} {F D E : Nat → Nat → α} {x n y l f : Nat} {g : Nat → α} (h : f < n) : va_up (bk2 F x n D y l E) (x + f) g = bk2 F x n (va_up D f g) y l E := by
  funext r
  show (if r = x + f then g else bk2 F x n D y l E r) = _
  by_cases e : r = x + f
  · rw [if_pos e, e, bk2_1 h]
    exact (if_pos rfl).symm
  · rw [if_neg e]
    unfold bk2
    split
    · show D (r - x) = if r - x = f then g else D (r - x)
      rw [if_neg (by omega)]
    · rfl
theorem bk2_u2 {α : Type} {F D E : Nat → Nat → α} {x n y l f : Nat} {g : Nat → α} (hd : y + l ≤ x ∨ x + n ≤ y) (h : f < l) : va_up (bk2 F x n D y l E) (y + f) g = bk2 F x n D y l (va_up E f g) := by
  funext r
  show (if r = y + f then g else bk2 F x n D y l E r) = _
  by_cases e : r = y + f
  · rw [if_pos e, e, bk2_2 hd h]
    exact (if_pos rfl).symm
  · rw [if_neg e]
    unfold bk2
    split
    · rfl
    · split
      · show E (r - y) = if r - y = f then g else E (r - y)
        rw [if_neg (by omega)]
      · rfl
def pp (m : Mm) (x n : Nat) (D : Nat → Nat → Int32) (K : Nat → Nat → Int64) (y l : Nat) (E : Nat → Nat → Int32) (L : Nat → Nat → Int64) : Mm := (bk2 m.1 x n D y l E, bk2 m.2.1 x n K y l L, m.2.2)
def udJ (K : Nat → Nat → Int64) (f k : Nat) (v : Int64) : Nat → Nat → Int64 := va_up K f (vp_updL (K f) k v)
theorem udJ_ne {K : Nat → Nat → Int64} {f g k : Nat} {v : Int64} (h : g ≠ f) : udJ K f k v g = K g := if_neg h
theorem udJ_eq {K : Nat → Nat → Int64} {f k : Nat} {v : Int64} : udJ K f k v f = vp_updL (K f) k v := if_pos rfl
theorem updL_e {f : Nat → Int64} {k : Nat} {x : Int64} : vp_updL f k x k = x := if_pos rfl
theorem updL_o {f : Nat → Int64} {k j : Nat} {x : Int64} (h : j ≠ k) : vp_updL f k x j = f j := if_neg h
theorem pp_1 {m : Mm} {x n y l f : Nat} {D E : Nat → Nat → Int32} {K L : Nat → Nat → Int64} (h : f < n) : mI (pp m x n D K y l E L) (x + f) = D f := bk2_1 h
theorem pp_10 {m : Mm} {x n y l : Nat} {D E : Nat → Nat → Int32} {K L : Nat → Nat → Int64} (h : 0 < n) : mI (pp m x n D K y l E L) x = D 0 := bk2_1 (f := 0) h
theorem pp_2 {m : Mm} {x n y l f : Nat} {D E : Nat → Nat → Int32} {K L : Nat → Nat → Int64} (hd : y + l ≤ x ∨ x + n ≤ y) (h : f < l) : mI (pp m x n D K y l E L) (y + f) = E f := bk2_2 hd h
theorem pp_20 {m : Mm} {x n y l : Nat} {D E : Nat → Nat → Int32} {K L : Nat → Nat → Int64} (hd : y + l ≤ x ∨ x + n ≤ y) (h : 0 < l) : mI (pp m x n D K y l E L) y = E 0 := bk2_2 (f := 0) hd h
theorem pp_o {m : Mm} {x n y l : Nat} {D E : Nat → Nat → Int32} {K L : Nat → Nat → Int64} {r : Nat} (h1 : r < x ∨ x + n ≤ r) (h2 : r < y ∨ y + l ≤ r) : mI (pp m x n D K y l E L) r = mI m r := bk2_o h1 h2
theorem pp_J1 {m : Mm} {x n y l f : Nat} {D E : Nat → Nat → Int32} {K L : Nat → Nat → Int64} (h : f < n) : mJ (pp m x n D K y l E L) (x + f) = K f := bk2_1 h
theorem pp_J10 {m : Mm} {x n y l : Nat} {D E : Nat → Nat → Int32} {K L : Nat → Nat → Int64} (h : 0 < n) : mJ (pp m x n D K y l E L) x = K 0 := bk2_1 (f := 0) h
theorem pp_J2 {m : Mm} {x n y l f : Nat} {D E : Nat → Nat → Int32} {K L : Nat → Nat → Int64} (hd : y + l ≤ x ∨ x + n ≤ y) (h : f < l) : mJ (pp m x n D K y l E L) (y + f) = L f := bk2_2 hd h
theorem pp_Jo {m : Mm} {x n y l : Nat} {D E : Nat → Nat → Int32} {K L : Nat → Nat → Int64} {r : Nat} (h1 : r < x ∨ x + n ≤ r) (h2 : r < y ∨ y + l ≤ r) : mJ (pp m x n D K y l E L) r = mJ m r := bk2_o h1 h2
theorem pp_u1 {m : Mm} {x n y l f : Nat} {D E : Nat → Nat → Int32} {K L : Nat → Nat → Int64} {k : Nat} {v : Int32} (h : f < n) : uI (pp m x n D K y l E L) (x + f) k v = pp m x n (ud D f k v) K y l E L := by
  show (va_up (bk2 m.1 x n D y l E) (x + f) (upd (bk2 m.1 x n D y l E (x + f)) k v), _) = (_, _)
  rw [bk2_u1 h, bk2_1 h]
  rfl
theorem pp_u10 {m : Mm} {x n y l : Nat} {D E : Nat → Nat → Int32} {K L : Nat → Nat → Int64} {k : Nat} {v : Int32} (h : 0 < n) : uI (pp m x n D K y l E L) x k v = pp m x n (ud D 0 k v) K y l E L := pp_u1 (f := 0) h
theorem pp_u2 {m : Mm} {x n y l f : Nat} {D E : Nat → Nat → Int32} {K L : Nat → Nat → Int64} {k : Nat} {v : Int32} (hd : y + l ≤ x ∨ x + n ≤ y) (h : f < l) : uI (pp m x n D K y l E L) (y + f) k v = pp m x n D K y l (ud E f k v) L := by
  show (va_up (bk2 m.1 x n D y l E) (y + f) (upd (bk2 m.1 x n D y l E (y + f)) k v), _) = (_, _)
  rw [bk2_u2 hd h, bk2_2 hd h]
  rfl
theorem pp_u20 {m : Mm} {x n y l : Nat} {D E : Nat → Nat → Int32} {K L : Nat → Nat → Int64} {k : Nat} {v : Int32} (hd : y + l ≤ x ∨ x + n ≤ y) (h : 0 < l) : uI (pp m x n D K y l E L) y k v = pp m x n D K y l (ud E 0 k v) L := pp_u2 (f := 0) hd h
theorem pp_v1 {m : Mm} {x n y l f : Nat} {D E : Nat → Nat → Int32} {K L : Nat → Nat → Int64} {k : Nat} {v : Int64} (h : f < n) : uJ (pp m x n D K y l E L) (x + f) k v = pp m x n D (udJ K f k v) y l E L := by
  show (_, va_up (bk2 m.2.1 x n K y l L) (x + f) (vp_updL (bk2 m.2.1 x n K y l L (x + f)) k v), _) = (_, _, _)
  rw [bk2_u1 h, bk2_1 h]
  rfl
theorem pp_v10 {m : Mm} {x n y l : Nat} {D E : Nat → Nat → Int32} {K L : Nat → Nat → Int64} {k : Nat} {v : Int64} (h : 0 < n) : uJ (pp m x n D K y l E L) x k v = pp m x n D (udJ K 0 k v) y l E L := pp_v1 (f := 0) h
theorem pp_v2 {m : Mm} {x n y l f : Nat} {D E : Nat → Nat → Int32} {K L : Nat → Nat → Int64} {k : Nat} {v : Int64} (hd : y + l ≤ x ∨ x + n ≤ y) (h : f < l) : uJ (pp m x n D K y l E L) (y + f) k v = pp m x n D K y l E (udJ L f k v) := by
  show (_, va_up (bk2 m.2.1 x n K y l L) (y + f) (vp_updL (bk2 m.2.1 x n K y l L (y + f)) k v), _) = (_, _, _)
  rw [bk2_u2 hd h, bk2_2 hd h]
  rfl
theorem pp_r1 {m : Mm} {x n y l f : Nat} {D E : Nat → Nat → Int32} {K L : Nat → Nat → Int64} {g : Nat → Int32} (h : f < n) : rI (pp m x n D K y l E L) (x + f) g = pp m x n (va_up D f g) K y l E L := by
  show (va_up (bk2 m.1 x n D y l E) (x + f) g, _) = (_, _)
  rw [bk2_u1 h]
  rfl
theorem pp_r2 {m : Mm} {x n y l f : Nat} {D E : Nat → Nat → Int32} {K L : Nat → Nat → Int64} {g : Nat → Int32} (hd : y + l ≤ x ∨ x + n ≤ y) (h : f < l) : rI (pp m x n D K y l E L) (y + f) g = pp m x n D K y l (va_up E f g) L := by
  show (va_up (bk2 m.1 x n D y l E) (y + f) g, _) = (_, _)
  rw [bk2_u2 hd h]
  rfl
theorem bk2_self {α : Type} {F : Nat → Nat → α} {x n y l : Nat} : bk2 F x n (fun f => F (x + f)) y l (fun f => F (y + f)) = F := by
  funext r
  unfold bk2
  split
  · show F (x + (r - x)) = F r
    rw [show x + (r - x) = r by omega]
  · split
    · show F (y + (r - y)) = F r
      rw [show y + (r - y) = r by omega]
    · rfl
theorem pp_self {m : Mm} {x n y l : Nat} : pp m x n (fun f => mI m (x + f)) (fun f => mJ m (x + f)) y l (fun f => mI m (y + f)) (fun f => mJ m (y + f)) = m := by
  show (bk2 m.1 x n (fun f => m.1 (x + f)) y l (fun f => m.1 (y + f)), bk2 m.2.1 x n (fun f => m.2.1 (x + f)) y l (fun f => m.2.1 (y + f)), m.2.2) = m
  rw [bk2_self, bk2_self]
