def bcF (x : Int32) : Int32 := (((((((x - (((x.toUInt32 >>> ((nI 1).toUInt32 &&& Int32.toUInt32 31)).toInt32) &&& nI 1431655765)) &&& nI 858993459) + ((((x - (((x.toUInt32 >>> ((nI 1).toUInt32 &&& Int32.toUInt32 31)).toInt32) &&& nI 1431655765)).toUInt32 >>> ((nI 2).toUInt32 &&& Int32.toUInt32 31)).toInt32) &&& nI 858993459)) + (((((x - (((x.toUInt32 >>> ((nI 1).toUInt32 &&& Int32.toUInt32 31)).toInt32) &&& nI 1431655765)) &&& nI 858993459) + ((((x - (((x.toUInt32 >>> ((nI 1).toUInt32 &&& Int32.toUInt32 31)).toInt32) &&& nI 1431655765)).toUInt32 >>> ((nI 2).toUInt32 &&& Int32.toUInt32 31)).toInt32) &&& nI 858993459)).toUInt32 >>> ((nI 4).toUInt32 &&& Int32.toUInt32 31)).toInt32)) &&& nI 252645135) + (((((((x - (((x.toUInt32 >>> ((nI 1).toUInt32 &&& Int32.toUInt32 31)).toInt32) &&& nI 1431655765)) &&& nI 858993459) + ((((x - (((x.toUInt32 >>> ((nI 1).toUInt32 &&& Int32.toUInt32 31)).toInt32) &&& nI 1431655765)).toUInt32 >>> ((nI 2).toUInt32 &&& Int32.toUInt32 31)).toInt32) &&& nI 858993459)) + (((((x - (((x.toUInt32 >>> ((nI 1).toUInt32 &&& Int32.toUInt32 31)).toInt32) &&& nI 1431655765)) &&& nI 858993459) + ((((x - (((x.toUInt32 >>> ((nI 1).toUInt32 &&& Int32.toUInt32 31)).toInt32) &&& nI 1431655765)).toUInt32 >>> ((nI 2).toUInt32 &&& Int32.toUInt32 31)).toInt32) &&& nI 858993459)).toUInt32 >>> ((nI 4).toUInt32 &&& Int32.toUInt32 31)).toInt32)) &&& nI 252645135).toUInt32 >>> ((nI 8).toUInt32 &&& Int32.toUInt32 31)).toInt32)) + ((((((((x - (((x.toUInt32 >>> ((nI 1).toUInt32 &&& Int32.toUInt32 31)).toInt32) &&& nI 1431655765)) &&& nI 858993459) + ((((x - (((x.toUInt32 >>> ((nI 1).toUInt32 &&& Int32.toUInt32 31)).toInt32) &&& nI 1431655765)).toUInt32 >>> ((nI 2).toUInt32 &&& Int32.toUInt32 31)).toInt32) &&& nI 858993459)) + (((((x - (((x.toUInt32 >>> ((nI 1).toUInt32 &&& Int32.toUInt32 31)).toInt32) &&& nI 1431655765)) &&& nI 858993459) + ((((x - (((x.toUInt32 >>> ((nI 1).toUInt32 &&& Int32.toUInt32 31)).toInt32) &&& nI 1431655765)).toUInt32 >>> ((nI 2).toUInt32 &&& Int32.toUInt32 31)).toInt32) &&& nI 858993459)).toUInt32 >>> ((nI 4).toUInt32 &&& Int32.toUInt32 31)).toInt32)) &&& nI 252645135) + (((((((x - (((x.toUInt32 >>> ((nI 1).toUInt32 &&& Int32.toUInt32 31)).toInt32) &&& nI 1431655765)) &&& nI 858993459) + ((((x - (((x.toUInt32 >>> ((nI 1).toUInt32 &&& Int32.toUInt32 31)).toInt32) &&& nI 1431655765)).toUInt32 >>> ((nI 2).toUInt32 &&& Int32.toUInt32 31)).toInt32) &&& nI 858993459)) + (((((x - (((x.toUInt32 >>> ((nI 1).toUInt32 &&& Int32.toUInt32 31)).toInt32) &&& nI 1431655765)) &&& nI 858993459) + ((((x - (((x.toUInt32 >>> ((nI 1).toUInt32 &&& Int32.toUInt32 31)).toInt32) &&& nI 1431655765)).toUInt32 >>> ((nI 2).toUInt32 &&& Int32.toUInt32 31)).toInt32) &&& nI 858993459)).toUInt32 >>> ((nI 4).toUInt32 &&& Int32.toUInt32 31)).toInt32)) &&& nI 252645135).toUInt32 >>> ((nI 8).toUInt32 &&& Int32.toUInt32 31)).toInt32)).toUInt32 >>> ((nI 16).toUInt32 &&& Int32.toUInt32 31)).toInt32)) &&& nI 63
theorem C340 {d : Nat} {m : Mm} {Q : Option Value → Mm → Prop} {x : Int32} (hQ : Q (some (.int (bcF x))) m) : Cc d 0 0 340 [.int x] m Q := by
  refine ent (n := 104) z340 (by decide) rfl (by decide) (Nat.le_of_ble_eq_true rfl) (fun sc => ?_)
  refine And.intro ⟨rfl, trivial, Nat.le_refl _, Nat.le_refl _⟩ ?_
  exact hQ
/-- the first n places of a row are x -/
def fiF (f : Nat → Int32) (x : Int32) (n : Nat) : Nat → Int32 := fun j => if j < n then x else f j
theorem fiF_s {f : Nat → Int32} {x : Int32} {n : Nat} : upd (fiF f x n) n x = fiF f x (n + 1) := by
  funext j
  unfold upd fiF
  by_cases h : j = n
  · rw [if_pos h, if_pos (by omega)]
  · rw [if_neg h]
    by_cases h2 : j < n
    · rw [if_pos h2, if_pos (by omega)]
    · rw [if_neg h2, if_neg (by omega)]
theorem fiF_0 {f : Nat → Int32} {x : Int32} : fiF f x 0 = f := by
  funext j
  exact if_neg (by omega)
theorem rI_rI {m : Mm} {a : Nat} {f g : Nat → Int32} : rI (rI m a f) a g = rI m a g := by
  unfold rI
  congr 1
  funext j
  unfold va_up
  dsimp only
  split
  · rfl
  · rename_i h
    first | rfl | exact if_neg h
theorem uI_rI {m : Mm} {a k : Nat} {f : Nat → Int32} {x : Int32} : uI (rI m a f) a k x = rI m a (upd f k x) := by
  unfold uI rI
  congr 1
  funext j
  unfold va_up
  dsimp only
  split
  · rw [if_pos rfl]
  · rename_i h
    first | rfl | exact if_neg h
theorem rI_self {m : Mm} {a : Nat} : rI m a (mI m a) = m := by
  unfold rI mI
  have : va_up m.1 a (m.1 a) = m.1 := by
    funext j
    unfold va_up
    split
    · rename_i h; rw [h]
    · rfl
  rw [this]
theorem lp347 {sc : Nat × (Nat → Int32)} {d : Nat} {m : Mm} {Q : Option Value → Mm → Prop} {a n : Nat} {x : Int32} (ho : oS m a 100) (hn : (mS m a).2 = n) (hn2 : n < 2 ^ 31) (hQ : Q none (rI m a (fiF (mI m a) x n))) : ∀ (j i : Nat), i ≤ n → n + 1 ≤ i + j → Jj sc d 0 0 (mth 347) (pg P347 5).1 [some (.ref a), some (.int x), some (.int (nI i)), some (.int (nI n))] [] (rI m a (fiF (mI m a) x i)) 0 0 Q := by
  intro j
  induction j with
  | zero => intro i h1 h2; omega
  | succ j ih =>
    intro i h1 h2
    refine J_w z347 (i := 5) (by decide) 60 ?_
    refine And.intro (fun cz7 => ?_) (fun cz7 => ?_)
    · have kz7 : n ≤ i := kle (a := n) (b := i) rfl rfl (by omega) (by omega) cz7
      refine And.intro ⟨rfl, rfl, Nat.le_refl _, Nat.le_refl _⟩ ?_
      rw [show i = n by omega]
      exact hQ
    · have kz7 : i < n := knle (a := n) (b := i) rfl rfl (by omega) (by omega) cz7
      refine And.intro ⟨ho, by show vp_in (nI i) (mS m a).2; rw [hn]; exact vp_in_nI kz7 hn2⟩ ?_
      rw [nI_clamp (show i < 2 ^ 31 by omega), uI_rI, fiF_s]
      show Jj sc d 0 0 (mth 347) (pg P347 5).1 [some (.ref a), some (.int x), some (.int (nI i + nI 1)), some (.int (nI n))] [] (rI m a (fiF (mI m a) x (i + 1))) 0 0 Q
      rw [show nI i + nI 1 = nI (i + 1) from by simp only [nI_add]]
      exact ih (i + 1) (by omega) (by omega)
theorem C347 {d : Nat} {m : Mm} {Q : Option Value → Mm → Prop} {a n : Nat} {x : Int32} (ho : oS m a 100) (hn : (mS m a).2 = n) (hn2 : n < 2 ^ 31) (hQ : Q none (rI m a (fiF (mI m a) x n))) : Cc d 0 0 347 [.ref a, .int x] m Q := by
  refine ent (n := 60) z347 (by decide) rfl (by decide) (Nat.le_of_ble_eq_true rfl) (fun sc => ?_)
  refine And.intro ho ?_
  rw [hn]
  show Jj sc d 0 0 (mth 347) (pg P347 5).1 [some (.ref a), some (.int x), some (.int (nI 0)), some (.int (nI n))] [] m 0 0 Q
  have z := lp347 (sc := sc) (d := d) ho hn hn2 hQ (n + 1) 0 (Nat.zero_le _) (by omega)
  rw [fiF_0, rI_self] at z
  exact z
theorem C343 {d : Nat} {m : Mm} {Q : Option Value → Mm → Prop} {i : Nat} (hi : i < sS.length) (hQ : Q (some (.int 0)) m) : Cc d 0 0 343 [.ref (1000000 + i)] m Q := by
  refine ent (n := 60) z343 (by decide) rfl (by decide) (Nat.le_of_ble_eq_true rfl) (fun sc => ?_)
  refine And.intro (fun c => absurd c (by decide)) (fun _ => ?_)
  refine And.intro ⟨Nat.le_add_right _ _, Nat.add_lt_add_left hi _⟩ ?_
  refine And.intro ⟨rfl, rfl, Nat.le_refl _, Nat.le_refl _⟩ ?_
  exact hQ
theorem C344 {d : Nat} {m : Mm} {Q : Option Value → Mm → Prop} {i : Nat} (hi : i < sS.length) (hQ : Q (some (.int (nI 1))) m) : Cc d 0 0 344 [.ref (1000000 + i)] m Q := by
  refine ent (n := 60) z344 (by decide) rfl (by decide) (Nat.le_of_ble_eq_true rfl) (fun sc => ?_)
  refine And.intro (fun c => absurd c (by decide)) (fun _ => ?_)
  refine And.intro ⟨Nat.le_add_right _ _, Nat.add_lt_add_left hi _⟩ ?_
  refine And.intro (fun c => absurd rfl c) (fun _ => ?_)
  refine And.intro ⟨rfl, Or.inr rfl, Nat.le_refl _, Nat.le_refl _⟩ ?_
  exact hQ
theorem C341 {d : Nat} {m : Mm} {Q : Option Value → Mm → Prop} {i : Nat} (hi : i < sS.length) (hd : 1 ≤ d) (hlen : (sBy i).length < 2 ^ 31) (hQ : Q (some (.int (nI (sBy i).length))) m) : Cc d 0 0 341 [.ref (1000000 + i)] m Q := by
  refine ent (n := 60) z341 (by decide) rfl (by decide) (Nat.le_of_ble_eq_true rfl) (fun sc => ?_)
  refine And.intro ⟨Nat.le_add_right _ _, Nat.add_lt_add_left hi _⟩ ?_
  rw [show 1000000 + i + 1000000 = 2000000 + i by omega]
  refine And.intro ⟨Nat.le_add_right _ _, Nat.add_lt_add_left hi _⟩ ?_
  rw [Nat.add_sub_cancel_left]
  refine And.intro ⟨by omega, Nat.le_of_ble_eq_true rfl, Nat.le_refl _, Nat.le_refl _⟩ (And.intro ⟨Nat.le_add_right _ _, Nat.add_lt_add_left hi _⟩ ?_)
  refine C343 hi ?_
  refine And.intro ⟨rfl, trivial, Nat.le_refl _, Nat.le_refl _⟩ ?_
  rw [sc_shr0 hlen]
  exact hQ
theorem C348 {d : Nat} {m : Mm} {Q : Option Value → Mm → Prop} {x n : Nat} (h : x < n) (hn : n < 2 ^ 31) (hQ : Q (some (.int (nI x))) m) : Cc d 0 0 348 [.int (nI x), .int (nI n), .null] m Q := by
  refine ent (n := 60) z348 (by decide) rfl (by decide) (Nat.le_of_ble_eq_true rfl) (fun sc => ?_)
  refine And.intro (fun c => absurd c (nI_pos (show x < 2 ^ 31 by omega))) (fun _ => ?_)
  refine And.intro (fun _ => ?_) (fun c => absurd (nI_lt h hn) c)
  refine And.intro ⟨rfl, trivial, Nat.le_refl _, Nat.le_refl _⟩ ?_
  exact hQ
theorem C348r {d : Nat} {m : Mm} {Q : Option Value → Mm → Prop} {q : Nat} {x n : Nat} (h : x < n) (hn : n < 2 ^ 31) (hQ : Q (some (.int (nI x))) m) : Cc d 0 0 348 [.int (nI x), .int (nI n), .ref q] m Q := by
  refine ent (n := 60) z348 (by decide) rfl (by decide) (Nat.le_of_ble_eq_true rfl) (fun sc => ?_)
  refine And.intro (fun c => absurd c (nI_pos (show x < 2 ^ 31 by omega))) (fun _ => ?_)
  refine And.intro (fun _ => ?_) (fun c => absurd (nI_lt h hn) c)
  refine And.intro ⟨rfl, trivial, Nat.le_refl _, Nat.le_refl _⟩ ?_
  exact hQ
theorem C345 {d : Nat} {m : Mm} {Q : Option Value → Mm → Prop} {x n : Nat} (hd : 1 ≤ d) (h : x < n) (hn : n < 2 ^ 31) (hQ : Q none m) : Cc d 0 0 345 [.int (nI x), .int (nI n)] m Q := by
  refine ent (n := 60) z345 (by decide) rfl (by decide) (Nat.le_of_ble_eq_true rfl) (fun sc => ?_)
  refine And.intro ?_ ?_
  · refine And.intro ⟨by omega, Nat.le_of_ble_eq_true rfl, Nat.le_refl _, Nat.le_refl _⟩ ?_
    refine C348 h hn ?_
    refine And.intro rfl ?_
    exact And.intro ⟨rfl, rfl, Nat.le_refl _, Nat.le_refl _⟩ hQ
  · refine And.intro ⟨by omega, Nat.le_of_ble_eq_true rfl, Nat.le_refl _, Nat.le_refl _⟩ ?_
    refine C348r h hn ?_
    refine And.intro rfl ?_
    exact And.intro ⟨rfl, rfl, Nat.le_refl _, Nat.le_refl _⟩ hQ
theorem C346 {d : Nat} {m : Mm} {Q : Option Value → Mm → Prop} {i : Nat} (hi : i < sS.length) {x : Nat} (hd : 2 ≤ d) (hx : x < (sBy i).length) (hlen : (sBy i).length < 2 ^ 31) (hQ : Q (some (.int ((sBy i).getD x 0 &&& 255))) m) : Cc d 0 0 346 [.ref (2000000 + i), .int (nI x)] m Q := by
  refine ent (n := 60) z346 (by decide) rfl (by decide) (Nat.le_of_ble_eq_true rfl) (fun sc => ?_)
  refine And.intro ⟨Nat.le_add_right _ _, Nat.add_lt_add_left hi _⟩ ?_
  rw [Nat.add_sub_cancel_left]
  refine And.intro ⟨by omega, Nat.le_of_ble_eq_true rfl, Nat.le_refl _, Nat.le_refl _⟩ ?_
  refine C345 (by omega) hx hlen ?_
  refine And.intro ⟨Nat.le_add_right _ _, Nat.add_lt_add_left hi _, by rw [Nat.add_sub_cancel_left]; exact vp_in_nI hx hlen⟩ ?_
  rw [Nat.add_sub_cancel_left, nI_clamp (show x < 2 ^ 31 by omega)]
  refine And.intro ⟨rfl, ?_, Nat.le_refl _, Nat.le_refl _⟩ ?_
  · show narrow .char (.int ((((sBy i).getD x 0 &&& nI 255).toUInt32 % 65536).toInt32)) = _
    exact pk_nc _
  · show Q (some (.int ((((sBy i).getD x 0 &&& 255).toUInt32 % 65536).toInt32))) m
    rw [sc_c2]
    exact hQ
theorem C342 {d : Nat} {m : Mm} {Q : Option Value → Mm → Prop} {i : Nat} (hi : i < sS.length) {x : Nat} (hd : 3 ≤ d) (hx : x < (sBy i).length) (hlen : (sBy i).length < 2 ^ 31) (hQ : Q (some (.int ((sBy i).getD x 0 &&& 255))) m) : Cc d 0 0 342 [.ref (1000000 + i), .int (nI x)] m Q := by
  refine ent (n := 60) z342 (by decide) rfl (by decide) (Nat.le_of_ble_eq_true rfl) (fun sc => ?_)
  refine And.intro ⟨by omega, Nat.le_of_ble_eq_true rfl, Nat.le_refl _, Nat.le_refl _⟩ (And.intro ⟨Nat.le_add_right _ _, Nat.add_lt_add_left hi _⟩ ?_)
  refine C344 hi ?_
  refine And.intro (fun c => absurd c (by decide)) (fun _ => ?_)
  refine And.intro ⟨Nat.le_add_right _ _, Nat.add_lt_add_left hi _⟩ ?_
  rw [show 1000000 + i + 1000000 = 2000000 + i by omega]
  refine And.intro ⟨by omega, Nat.le_of_ble_eq_true rfl, Nat.le_refl _, Nat.le_refl _⟩ ?_
  refine C346 hi (by omega) hx hlen ?_
  refine And.intro ⟨rfl, ?_, Nat.le_refl _, Nat.le_refl _⟩ ?_
  · exact sc_nar _
  · exact hQ
