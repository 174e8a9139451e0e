theorem ent {d mc ms k n : Nat} {P : List (List PE)} {args : List Value} {m : Mm} {Q : Option Value → Mm → Prop} (hP : zall (mth k) P (P.length * 32) = true) (hk : k < 349) (h0 : (pg P 0).1 = 0) (hp : 0 < P.length) (hlen : (args.flatMap fun v => if v.category = 2 then [some v, none] else [some v]).length ≤ (mth k).2.2.2.1) (h : ∀ sc, zw0 sc d mc ms (mth k).2.2.2.2.1 P (KJ sc d mc ms (mth k) P Q) Q n 0 (zE (mth k).2.2.2.1 args) [] m 0 0) : Cc d mc ms k args m Q :=
  Cc_of hk hlen fun sc => by
    have := J_w (L := zE (mth k).2.2.2.1 args) (S := []) (m := m) (c := 0) (s := 0) hP (i := 0) (by omega) n (h sc)
    rw [h0] at this
    exact this
theorem vi {x : Int32} {n N : Nat} (hx : x = nI n) (h : n < N) (hN : N < 2 ^ 31 := by decide) : vp_in x N := by rw [hx]; exact vp_in_nI h hN
theorem vc {x : Int32} {n : Nat} (hx : x = nI n) (h : n < 2 ^ 31) : x.toNatClampNeg = n := by rw [hx]; exact nI_clamp h
/-- a truth as an int -/
noncomputable def bi (p : Prop) : Int32 := @ite Int32 p (Classical.propDecidable p) (nI 1) (nI 0)
theorem bi_t {p : Prop} (h : p) : bi p = nI 1 := by unfold bi; exact if_pos h
theorem bi_f {p : Prop} (h : ¬ p) : bi p = nI 0 := by unfold bi; exact if_neg h
theorem bi_01 {p : Prop} : bi p = 0 ∨ bi p = 1 := by
  by_cases h : p
  · exact Or.inr (bi_t h)
  · exact Or.inl (bi_f h)
theorem bi_eq0 {p : Prop} : bi p = 0 ↔ ¬ p := by
  by_cases h : p
  · rw [bi_t h]
    exact ⟨fun z => absurd z (by decide), fun z => absurd h z⟩
  · rw [bi_f h]
    exact ⟨fun _ => h, fun _ => rfl⟩
theorem bi_ne0 {p : Prop} : ¬ bi p = 0 ↔ p := by
  rw [bi_eq0]
  exact Classical.not_not
theorem bi_eq1 {p : Prop} : bi p = nI 1 ↔ p := by
  by_cases h : p
  · rw [bi_t h]
    exact ⟨fun _ => h, fun _ => rfl⟩
  · rw [bi_f h]
    exact ⟨fun z => absurd z (by decide), fun z => absurd z h⟩
theorem bi_c {p q : Prop} (h : p ↔ q) : bi p = bi q := congrArg bi (propext h)
theorem kle {x y : Int32} {a b : Nat} (hx : x = nI a) (hy : y = nI b) (ha : a < 2 ^ 31) (hb : b < 2 ^ 31) (c : x ≤ y) : a ≤ b := by subst hx; subst hy; exact (nI_leI ha hb).mp c
theorem klt {x y : Int32} {a b : Nat} (hx : x = nI a) (hy : y = nI b) (ha : a < 2 ^ 31) (hb : b < 2 ^ 31) (c : x < y) : a < b := by subst hx; subst hy; exact (nI_ltI ha hb).mp c
theorem knle {x y : Int32} {a b : Nat} (hx : x = nI a) (hy : y = nI b) (ha : a < 2 ^ 31) (hb : b < 2 ^ 31) (c : ¬ x ≤ y) : b < a := by subst hx; subst hy; rw [nI_leI ha hb] at c; omega
theorem knlt {x y : Int32} {a b : Nat} (hx : x = nI a) (hy : y = nI b) (ha : a < 2 ^ 31) (hb : b < 2 ^ 31) (c : ¬ x < y) : b ≤ a := by subst hx; subst hy; rw [nI_ltI ha hb] at c; omega
theorem keq {x y : Int32} {a b : Nat} (hx : x = nI a) (hy : y = nI b) (ha : a < 2 ^ 31) (hb : b < 2 ^ 31) (c : x = y) : a = b := by subst hx; subst hy; exact (nI_eq ha hb).mp c
theorem kne {x y : Int32} {a b : Nat} (hx : x = nI a) (hy : y = nI b) (ha : a < 2 ^ 31) (hb : b < 2 ^ 31) (c : ¬ x = y) : a ≠ b := by subst hx; subst hy; rw [nI_eq ha hb] at c; exact c
/-- a counted fold -/
def fo {α : Type} (f : Nat → α → α) (z : α) (n : Nat) : α := Nat.rec (motive := fun _ => α) z (fun i acc => f i acc) n
theorem fo_0 {α : Type} {f : Nat → α → α} {z : α} : fo f z 0 = z := rfl
theorem fo_s {α : Type} {f : Nat → α → α} {z : α} {n : Nat} : fo f z (n + 1) = f n (fo f z n) := rfl
theorem fo_c {α : Type} {f g : Nat → α → α} {z : α} : ∀ {n : Nat}, (∀ i, i < n → ∀ a, f i a = g i a) → fo f z n = fo g z n
  | 0, _ => rfl
  | n + 1, h => by rw [fo_s, fo_s, fo_c (fun i hi a => h i (by omega) a), h n (by omega)]
def wkL : List (Option Value) → List (Option Value) → Prop
  | [], _ => True
  | none :: r, _ :: q => wkL r q
  | some v :: r, w :: q => w = some v ∧ wkL r q
  | _ :: _, [] => False
theorem wkL_g : ∀ {L' L : List (Option Value)}, wkL L' L → ∀ k v, L'.getD k none = some v → L.getD k none = some v
  | [], _, _, k, v, h => by cases k <;> cases h
  | none :: r, w :: q, hw, k, v, h => by
    cases k with
    | zero => cases h
    | succ k => exact wkL_g (L' := r) (L := q) hw k v h
  | some u :: r, w :: q, hw, k, v, h => by
    cases k with
    | zero => exact hw.1.trans h
    | succ k => exact wkL_g (L' := r) (L := q) hw.2 k v h
  | none :: _, [], hw, _, _, _ => hw.elim
  | some _ :: _, [], hw, _, _, _ => hw.elim
/-- locals that are no longer looked at may be forgotten -/
theorem J_wk {sc : Nat × (Nat → Int32)} {d mc ms : Nat} {X : MT} {pc : Nat} {L L' : List (Option Value)} {S : List Value} {m : Mm} {c s : Nat} {Q : Option Value → Mm → Prop} (hw : wkL L' L) (h : Jj sc d mc ms X pc L' S m c s Q) : Jj sc d mc ms X pc L S m c s Q := by
  intro E p e R st mid args below meth cd H locs ls hC hP hS hl
  refine h E p e R st mid args below meth cd H locs ls hC hP hS (lv_mono hl fun q hq => ?_)
  obtain ⟨v, hv, hq2⟩ := zlv_of hq
  have := zlv_in (E := E) (wkL_g hw q.1 v hv)
  obtain ⟨q1, q2⟩ := q
  dsimp only at hq2 this
  rw [hq2]
  exact this
theorem uJ_I {m : Mm} {a k : Nat} {x : Int64} : mI (uJ m a k x) = mI m := rfl
theorem uI_J {m : Mm} {a k : Nat} {x : Int32} : mJ (uI m a k x) = mJ m := rfl
theorem rI_J {m : Mm} {a : Nat} {f : Nat → Int32} : mJ (rI m a f) = mJ m := rfl
theorem uR_I {m : Mm} {a k : Nat} {x : Option Nat} : mI (uR m a k x) = mI m := rfl
theorem uR_J {m : Mm} {a k : Nat} {x : Option Nat} : mJ (uR m a k x) = mJ m := rfl
theorem upd_eq {f : Nat → Int32} {k : Nat} {x : Int32} : upd f k x k = x := if_pos rfl
theorem upd_ne {f : Nat → Int32} {k j : Nat} {x : Int32} (h : j ≠ k) : upd f k x j = f j := if_neg h
abbrev WR : Type := (Nat → Nat → Option Nat) × (Nat → Nat × Nat) × Nat
def LW (w : WR) (a : Nat) : Prop := a + 19 ≤ w.2.2 ∧ w.2.1 a = (1, 19) ∧ w.2.1 (a + 1) = (100, 13) ∧ w.2.1 (a + 2) = (100, 24) ∧ w.2.1 (a + 3) = (100, 6) ∧ w.2.1 (a + 4) = (100, 6) ∧ w.2.1 (a + 5) = (100, 6) ∧ w.2.1 (a + 6) = (100, 6) ∧ w.2.1 (a + 7) = (100, 180) ∧ w.2.1 (a + 8) = (100, 6) ∧ w.2.1 (a + 9) = (100, 56) ∧ w.2.1 (a + 10) = (100, 8) ∧ w.2.1 (a + 11) = (100, 4) ∧ w.2.1 (a + 12) = (100, 6) ∧ w.2.1 (a + 13) = (100, 6) ∧ w.2.1 (a + 14) = (100, 32) ∧ w.2.1 (a + 15) = (6, 5) ∧ w.2.1 (a + 16) = (100, 6) ∧ w.2.1 (a + 17) = (100, 36) ∧ w.2.1 (a + 18) = (100, 4) ∧ w.1 a 4 = some (a + 1) ∧ w.1 a 5 = some (a + 2) ∧ w.1 a 6 = some (a + 3) ∧ w.1 a 7 = some (a + 4) ∧ w.1 a 8 = some (a + 5) ∧ w.1 a 9 = some (a + 6) ∧ w.1 a 10 = some (a + 7) ∧ w.1 a 11 = some (a + 8) ∧ w.1 a 12 = some (a + 9) ∧ w.1 a 13 = some (a + 10) ∧ w.1 a 14 = some (a + 11) ∧ w.1 a 15 = some (a + 12) ∧ w.1 a 16 = some (a + 13) ∧ w.1 a 17 = some (a + 14) ∧ w.1 a 18 = some (a + 15) ∧ w.1 (a + 15) 2 = some (a + 16) ∧ w.1 (a + 15) 3 = some (a + 17) ∧ w.1 (a + 15) 4 = some (a + 18)
theorem LWo_0 {m : Mm} {a : Nat} (h : LW m.2.2 a) : oS m a 1 := ⟨Nat.lt_of_lt_of_le (by omega) h.1, congrArg Prod.fst h.2.1⟩
theorem LWo_1 {m : Mm} {a : Nat} (h : LW m.2.2 a) : oS m (a + 1) 100 := ⟨Nat.lt_of_lt_of_le (by omega) h.1, congrArg Prod.fst h.2.2.1⟩
theorem LWn_1 {m : Mm} {a : Nat} (h : LW m.2.2 a) : (mS m (a + 1)).2 = 13 := congrArg Prod.snd h.2.2.1
theorem LWi_1 {m : Mm} {a : Nat} {x : Int32} (h : LW m.2.2 a) (hin : vp_in x 13) : oS m (a + 1) 100 ∧ vp_in x (mS m (a + 1)).2 := ⟨LWo_1 h, by rw [LWn_1 h]; exact hin⟩
theorem LWo_2 {m : Mm} {a : Nat} (h : LW m.2.2 a) : oS m (a + 2) 100 := ⟨Nat.lt_of_lt_of_le (by omega) h.1, congrArg Prod.fst h.2.2.2.1⟩
theorem LWn_2 {m : Mm} {a : Nat} (h : LW m.2.2 a) : (mS m (a + 2)).2 = 24 := congrArg Prod.snd h.2.2.2.1
theorem LWi_2 {m : Mm} {a : Nat} {x : Int32} (h : LW m.2.2 a) (hin : vp_in x 24) : oS m (a + 2) 100 ∧ vp_in x (mS m (a + 2)).2 := ⟨LWo_2 h, by rw [LWn_2 h]; exact hin⟩
theorem LWo_3 {m : Mm} {a : Nat} (h : LW m.2.2 a) : oS m (a + 3) 100 := ⟨Nat.lt_of_lt_of_le (by omega) h.1, congrArg Prod.fst h.2.2.2.2.1⟩
theorem LWn_3 {m : Mm} {a : Nat} (h : LW m.2.2 a) : (mS m (a + 3)).2 = 6 := congrArg Prod.snd h.2.2.2.2.1
theorem LWi_3 {m : Mm} {a : Nat} {x : Int32} (h : LW m.2.2 a) (hin : vp_in x 6) : oS m (a + 3) 100 ∧ vp_in x (mS m (a + 3)).2 := ⟨LWo_3 h, by rw [LWn_3 h]; exact hin⟩
theorem LWo_4 {m : Mm} {a : Nat} (h : LW m.2.2 a) : oS m (a + 4) 100 := ⟨Nat.lt_of_lt_of_le (by omega) h.1, congrArg Prod.fst h.2.2.2.2.2.1⟩
theorem LWn_4 {m : Mm} {a : Nat} (h : LW m.2.2 a) : (mS m (a + 4)).2 = 6 := congrArg Prod.snd h.2.2.2.2.2.1
theorem LWi_4 {m : Mm} {a : Nat} {x : Int32} (h : LW m.2.2 a) (hin : vp_in x 6) : oS m (a + 4) 100 ∧ vp_in x (mS m (a + 4)).2 := ⟨LWo_4 h, by rw [LWn_4 h]; exact hin⟩
theorem LWo_5 {m : Mm} {a : Nat} (h : LW m.2.2 a) : oS m (a + 5) 100 := ⟨Nat.lt_of_lt_of_le (by omega) h.1, congrArg Prod.fst h.2.2.2.2.2.2.1⟩
theorem LWn_5 {m : Mm} {a : Nat} (h : LW m.2.2 a) : (mS m (a + 5)).2 = 6 := congrArg Prod.snd h.2.2.2.2.2.2.1
theorem LWi_5 {m : Mm} {a : Nat} {x : Int32} (h : LW m.2.2 a) (hin : vp_in x 6) : oS m (a + 5) 100 ∧ vp_in x (mS m (a + 5)).2 := ⟨LWo_5 h, by rw [LWn_5 h]; exact hin⟩
theorem LWo_6 {m : Mm} {a : Nat} (h : LW m.2.2 a) : oS m (a + 6) 100 := ⟨Nat.lt_of_lt_of_le (by omega) h.1, congrArg Prod.fst h.2.2.2.2.2.2.2.1⟩
theorem LWn_6 {m : Mm} {a : Nat} (h : LW m.2.2 a) : (mS m (a + 6)).2 = 6 := congrArg Prod.snd h.2.2.2.2.2.2.2.1
theorem LWi_6 {m : Mm} {a : Nat} {x : Int32} (h : LW m.2.2 a) (hin : vp_in x 6) : oS m (a + 6) 100 ∧ vp_in x (mS m (a + 6)).2 := ⟨LWo_6 h, by rw [LWn_6 h]; exact hin⟩
theorem LWo_7 {m : Mm} {a : Nat} (h : LW m.2.2 a) : oS m (a + 7) 100 := ⟨Nat.lt_of_lt_of_le (by omega) h.1, congrArg Prod.fst h.2.2.2.2.2.2.2.2.1⟩
theorem LWn_7 {m : Mm} {a : Nat} (h : LW m.2.2 a) : (mS m (a + 7)).2 = 180 := congrArg Prod.snd h.2.2.2.2.2.2.2.2.1
theorem LWi_7 {m : Mm} {a : Nat} {x : Int32} (h : LW m.2.2 a) (hin : vp_in x 180) : oS m (a + 7) 100 ∧ vp_in x (mS m (a + 7)).2 := ⟨LWo_7 h, by rw [LWn_7 h]; exact hin⟩
theorem LWo_8 {m : Mm} {a : Nat} (h : LW m.2.2 a) : oS m (a + 8) 100 := ⟨Nat.lt_of_lt_of_le (by omega) h.1, congrArg Prod.fst h.2.2.2.2.2.2.2.2.2.1⟩
theorem LWn_8 {m : Mm} {a : Nat} (h : LW m.2.2 a) : (mS m (a + 8)).2 = 6 := congrArg Prod.snd h.2.2.2.2.2.2.2.2.2.1
theorem LWi_8 {m : Mm} {a : Nat} {x : Int32} (h : LW m.2.2 a) (hin : vp_in x 6) : oS m (a + 8) 100 ∧ vp_in x (mS m (a + 8)).2 := ⟨LWo_8 h, by rw [LWn_8 h]; exact hin⟩
theorem LWo_9 {m : Mm} {a : Nat} (h : LW m.2.2 a) : oS m (a + 9) 100 := ⟨Nat.lt_of_lt_of_le (by omega) h.1, congrArg Prod.fst h.2.2.2.2.2.2.2.2.2.2.1⟩
theorem LWn_9 {m : Mm} {a : Nat} (h : LW m.2.2 a) : (mS m (a + 9)).2 = 56 := congrArg Prod.snd h.2.2.2.2.2.2.2.2.2.2.1
theorem LWi_9 {m : Mm} {a : Nat} {x : Int32} (h : LW m.2.2 a) (hin : vp_in x 56) : oS m (a + 9) 100 ∧ vp_in x (mS m (a + 9)).2 := ⟨LWo_9 h, by rw [LWn_9 h]; exact hin⟩
theorem LWo_10 {m : Mm} {a : Nat} (h : LW m.2.2 a) : oS m (a + 10) 100 := ⟨Nat.lt_of_lt_of_le (by omega) h.1, congrArg Prod.fst h.2.2.2.2.2.2.2.2.2.2.2.1⟩
theorem LWn_10 {m : Mm} {a : Nat} (h : LW m.2.2 a) : (mS m (a + 10)).2 = 8 := congrArg Prod.snd h.2.2.2.2.2.2.2.2.2.2.2.1
theorem LWi_10 {m : Mm} {a : Nat} {x : Int32} (h : LW m.2.2 a) (hin : vp_in x 8) : oS m (a + 10) 100 ∧ vp_in x (mS m (a + 10)).2 := ⟨LWo_10 h, by rw [LWn_10 h]; exact hin⟩
theorem LWo_11 {m : Mm} {a : Nat} (h : LW m.2.2 a) : oS m (a + 11) 100 := ⟨Nat.lt_of_lt_of_le (by omega) h.1, congrArg Prod.fst h.2.2.2.2.2.2.2.2.2.2.2.2.1⟩
theorem LWn_11 {m : Mm} {a : Nat} (h : LW m.2.2 a) : (mS m (a + 11)).2 = 4 := congrArg Prod.snd h.2.2.2.2.2.2.2.2.2.2.2.2.1
theorem LWi_11 {m : Mm} {a : Nat} {x : Int32} (h : LW m.2.2 a) (hin : vp_in x 4) : oS m (a + 11) 100 ∧ vp_in x (mS m (a + 11)).2 := ⟨LWo_11 h, by rw [LWn_11 h]; exact hin⟩
theorem LWo_12 {m : Mm} {a : Nat} (h : LW m.2.2 a) : oS m (a + 12) 100 := ⟨Nat.lt_of_lt_of_le (by omega) h.1, congrArg Prod.fst h.2.2.2.2.2.2.2.2.2.2.2.2.2.1⟩
theorem LWn_12 {m : Mm} {a : Nat} (h : LW m.2.2 a) : (mS m (a + 12)).2 = 6 := congrArg Prod.snd h.2.2.2.2.2.2.2.2.2.2.2.2.2.1
theorem LWi_12 {m : Mm} {a : Nat} {x : Int32} (h : LW m.2.2 a) (hin : vp_in x 6) : oS m (a + 12) 100 ∧ vp_in x (mS m (a + 12)).2 := ⟨LWo_12 h, by rw [LWn_12 h]; exact hin⟩
theorem LWo_13 {m : Mm} {a : Nat} (h : LW m.2.2 a) : oS m (a + 13) 100 := ⟨Nat.lt_of_lt_of_le (by omega) h.1, congrArg Prod.fst h.2.2.2.2.2.2.2.2.2.2.2.2.2.2.1⟩
theorem LWn_13 {m : Mm} {a : Nat} (h : LW m.2.2 a) : (mS m (a + 13)).2 = 6 := congrArg Prod.snd h.2.2.2.2.2.2.2.2.2.2.2.2.2.2.1
theorem LWi_13 {m : Mm} {a : Nat} {x : Int32} (h : LW m.2.2 a) (hin : vp_in x 6) : oS m (a + 13) 100 ∧ vp_in x (mS m (a + 13)).2 := ⟨LWo_13 h, by rw [LWn_13 h]; exact hin⟩
theorem LWo_14 {m : Mm} {a : Nat} (h : LW m.2.2 a) : oS m (a + 14) 100 := ⟨Nat.lt_of_lt_of_le (by omega) h.1, congrArg Prod.fst h.2.2.2.2.2.2.2.2.2.2.2.2.2.2.2.1⟩
theorem LWn_14 {m : Mm} {a : Nat} (h : LW m.2.2 a) : (mS m (a + 14)).2 = 32 := congrArg Prod.snd h.2.2.2.2.2.2.2.2.2.2.2.2.2.2.2.1
theorem LWi_14 {m : Mm} {a : Nat} {x : Int32} (h : LW m.2.2 a) (hin : vp_in x 32) : oS m (a + 14) 100 ∧ vp_in x (mS m (a + 14)).2 := ⟨LWo_14 h, by rw [LWn_14 h]; exact hin⟩
theorem LWo_15 {m : Mm} {a : Nat} (h : LW m.2.2 a) : oS m (a + 15) 6 := ⟨Nat.lt_of_lt_of_le (by omega) h.1, congrArg Prod.fst h.2.2.2.2.2.2.2.2.2.2.2.2.2.2.2.2.1⟩
theorem LWo_16 {m : Mm} {a : Nat} (h : LW m.2.2 a) : oS m (a + 16) 100 := ⟨Nat.lt_of_lt_of_le (by omega) h.1, congrArg Prod.fst h.2.2.2.2.2.2.2.2.2.2.2.2.2.2.2.2.2.1⟩
theorem LWn_16 {m : Mm} {a : Nat} (h : LW m.2.2 a) : (mS m (a + 16)).2 = 6 := congrArg Prod.snd h.2.2.2.2.2.2.2.2.2.2.2.2.2.2.2.2.2.1
theorem LWi_16 {m : Mm} {a : Nat} {x : Int32} (h : LW m.2.2 a) (hin : vp_in x 6) : oS m (a + 16) 100 ∧ vp_in x (mS m (a + 16)).2 := ⟨LWo_16 h, by rw [LWn_16 h]; exact hin⟩
theorem LWo_17 {m : Mm} {a : Nat} (h : LW m.2.2 a) : oS m (a + 17) 100 := ⟨Nat.lt_of_lt_of_le (by omega) h.1, congrArg Prod.fst h.2.2.2.2.2.2.2.2.2.2.2.2.2.2.2.2.2.2.1⟩
theorem LWn_17 {m : Mm} {a : Nat} (h : LW m.2.2 a) : (mS m (a + 17)).2 = 36 := congrArg Prod.snd h.2.2.2.2.2.2.2.2.2.2.2.2.2.2.2.2.2.2.1
theorem LWi_17 {m : Mm} {a : Nat} {x : Int32} (h : LW m.2.2 a) (hin : vp_in x 36) : oS m (a + 17) 100 ∧ vp_in x (mS m (a + 17)).2 := ⟨LWo_17 h, by rw [LWn_17 h]; exact hin⟩
theorem LWo_18 {m : Mm} {a : Nat} (h : LW m.2.2 a) : oS m (a + 18) 100 := ⟨Nat.lt_of_lt_of_le (by omega) h.1, congrArg Prod.fst h.2.2.2.2.2.2.2.2.2.2.2.2.2.2.2.2.2.2.2.1⟩
theorem LWn_18 {m : Mm} {a : Nat} (h : LW m.2.2 a) : (mS m (a + 18)).2 = 4 := congrArg Prod.snd h.2.2.2.2.2.2.2.2.2.2.2.2.2.2.2.2.2.2.2.1
theorem LWi_18 {m : Mm} {a : Nat} {x : Int32} (h : LW m.2.2 a) (hin : vp_in x 4) : oS m (a + 18) 100 ∧ vp_in x (mS m (a + 18)).2 := ⟨LWo_18 h, by rw [LWn_18 h]; exact hin⟩
theorem LWr_0_4 {m : Mm} {a : Nat} (h : LW m.2.2 a) : va_rf (mR m a 4) = .ref (a + 1) := congrArg va_rf (h.2.2.2.2.2.2.2.2.2.2.2.2.2.2.2.2.2.2.2.2.1)
theorem LWr_0_5 {m : Mm} {a : Nat} (h : LW m.2.2 a) : va_rf (mR m a 5) = .ref (a + 2) := congrArg va_rf (h.2.2.2.2.2.2.2.2.2.2.2.2.2.2.2.2.2.2.2.2.2.1)
theorem LWr_0_6 {m : Mm} {a : Nat} (h : LW m.2.2 a) : va_rf (mR m a 6) = .ref (a + 3) := congrArg va_rf (h.2.2.2.2.2.2.2.2.2.2.2.2.2.2.2.2.2.2.2.2.2.2.1)
theorem LWr_0_7 {m : Mm} {a : Nat} (h : LW m.2.2 a) : va_rf (mR m a 7) = .ref (a + 4) := congrArg va_rf (h.2.2.2.2.2.2.2.2.2.2.2.2.2.2.2.2.2.2.2.2.2.2.2.1)
theorem LWr_0_8 {m : Mm} {a : Nat} (h : LW m.2.2 a) : va_rf (mR m a 8) = .ref (a + 5) := congrArg va_rf (h.2.2.2.2.2.2.2.2.2.2.2.2.2.2.2.2.2.2.2.2.2.2.2.2.1)
theorem LWr_0_9 {m : Mm} {a : Nat} (h : LW m.2.2 a) : va_rf (mR m a 9) = .ref (a + 6) := congrArg va_rf (h.2.2.2.2.2.2.2.2.2.2.2.2.2.2.2.2.2.2.2.2.2.2.2.2.2.1)
theorem LWr_0_10 {m : Mm} {a : Nat} (h : LW m.2.2 a) : va_rf (mR m a 10) = .ref (a + 7) := congrArg va_rf (h.2.2.2.2.2.2.2.2.2.2.2.2.2.2.2.2.2.2.2.2.2.2.2.2.2.2.1)
theorem LWr_0_11 {m : Mm} {a : Nat} (h : LW m.2.2 a) : va_rf (mR m a 11) = .ref (a + 8) := congrArg va_rf (h.2.2.2.2.2.2.2.2.2.2.2.2.2.2.2.2.2.2.2.2.2.2.2.2.2.2.2.1)
theorem LWr_0_12 {m : Mm} {a : Nat} (h : LW m.2.2 a) : va_rf (mR m a 12) = .ref (a + 9) := congrArg va_rf (h.2.2.2.2.2.2.2.2.2.2.2.2.2.2.2.2.2.2.2.2.2.2.2.2.2.2.2.2.1)
theorem LWr_0_13 {m : Mm} {a : Nat} (h : LW m.2.2 a) : va_rf (mR m a 13) = .ref (a + 10) := congrArg va_rf (h.2.2.2.2.2.2.2.2.2.2.2.2.2.2.2.2.2.2.2.2.2.2.2.2.2.2.2.2.2.1)
theorem LWr_0_14 {m : Mm} {a : Nat} (h : LW m.2.2 a) : va_rf (mR m a 14) = .ref (a + 11) := congrArg va_rf (h.2.2.2.2.2.2.2.2.2.2.2.2.2.2.2.2.2.2.2.2.2.2.2.2.2.2.2.2.2.2.1)
theorem LWr_0_15 {m : Mm} {a : Nat} (h : LW m.2.2 a) : va_rf (mR m a 15) = .ref (a + 12) := congrArg va_rf (h.2.2.2.2.2.2.2.2.2.2.2.2.2.2.2.2.2.2.2.2.2.2.2.2.2.2.2.2.2.2.2.1)
theorem LWr_0_16 {m : Mm} {a : Nat} (h : LW m.2.2 a) : va_rf (mR m a 16) = .ref (a + 13) := congrArg va_rf (h.2.2.2.2.2.2.2.2.2.2.2.2.2.2.2.2.2.2.2.2.2.2.2.2.2.2.2.2.2.2.2.2.1)
theorem LWr_0_17 {m : Mm} {a : Nat} (h : LW m.2.2 a) : va_rf (mR m a 17) = .ref (a + 14) := congrArg va_rf (h.2.2.2.2.2.2.2.2.2.2.2.2.2.2.2.2.2.2.2.2.2.2.2.2.2.2.2.2.2.2.2.2.2.1)
theorem LWr_0_18 {m : Mm} {a : Nat} (h : LW m.2.2 a) : va_rf (mR m a 18) = .ref (a + 15) := congrArg va_rf (h.2.2.2.2.2.2.2.2.2.2.2.2.2.2.2.2.2.2.2.2.2.2.2.2.2.2.2.2.2.2.2.2.2.2.1)
theorem LWr_15_2 {m : Mm} {a : Nat} (h : LW m.2.2 a) : va_rf (mR m (a + 15) 2) = .ref (a + 16) := congrArg va_rf (h.2.2.2.2.2.2.2.2.2.2.2.2.2.2.2.2.2.2.2.2.2.2.2.2.2.2.2.2.2.2.2.2.2.2.2.1)
theorem LWr_15_3 {m : Mm} {a : Nat} (h : LW m.2.2 a) : va_rf (mR m (a + 15) 3) = .ref (a + 17) := congrArg va_rf (h.2.2.2.2.2.2.2.2.2.2.2.2.2.2.2.2.2.2.2.2.2.2.2.2.2.2.2.2.2.2.2.2.2.2.2.2.1)
theorem LWr_15_4 {m : Mm} {a : Nat} (h : LW m.2.2 a) : va_rf (mR m (a + 15) 4) = .ref (a + 18) := congrArg va_rf (h.2.2.2.2.2.2.2.2.2.2.2.2.2.2.2.2.2.2.2.2.2.2.2.2.2.2.2.2.2.2.2.2.2.2.2.2.2)
def SW (w : WR) (a : Nat) : Prop := a + 4 ≤ w.2.2 ∧ w.2.1 a = (6, 5) ∧ w.2.1 (a + 1) = (100, 6) ∧ w.2.1 (a + 2) = (100, 36) ∧ w.2.1 (a + 3) = (100, 4) ∧ w.1 a 2 = some (a + 1) ∧ w.1 a 3 = some (a + 2) ∧ w.1 a 4 = some (a + 3)
theorem SWo_0 {m : Mm} {a : Nat} (h : SW m.2.2 a) : oS m a 6 := ⟨Nat.lt_of_lt_of_le (by omega) h.1, congrArg Prod.fst h.2.1⟩
theorem SWo_1 {m : Mm} {a : Nat} (h : SW m.2.2 a) : oS m (a + 1) 100 := ⟨Nat.lt_of_lt_of_le (by omega) h.1, congrArg Prod.fst h.2.2.1⟩
theorem SWn_1 {m : Mm} {a : Nat} (h : SW m.2.2 a) : (mS m (a + 1)).2 = 6 := congrArg Prod.snd h.2.2.1
theorem SWi_1 {m : Mm} {a : Nat} {x : Int32} (h : SW m.2.2 a) (hin : vp_in x 6) : oS m (a + 1) 100 ∧ vp_in x (mS m (a + 1)).2 := ⟨SWo_1 h, by rw [SWn_1 h]; exact hin⟩
theorem SWo_2 {m : Mm} {a : Nat} (h : SW m.2.2 a) : oS m (a + 2) 100 := ⟨Nat.lt_of_lt_of_le (by omega) h.1, congrArg Prod.fst h.2.2.2.1⟩
theorem SWn_2 {m : Mm} {a : Nat} (h : SW m.2.2 a) : (mS m (a + 2)).2 = 36 := congrArg Prod.snd h.2.2.2.1
theorem SWi_2 {m : Mm} {a : Nat} {x : Int32} (h : SW m.2.2 a) (hin : vp_in x 36) : oS m (a + 2) 100 ∧ vp_in x (mS m (a + 2)).2 := ⟨SWo_2 h, by rw [SWn_2 h]; exact hin⟩
theorem SWo_3 {m : Mm} {a : Nat} (h : SW m.2.2 a) : oS m (a + 3) 100 := ⟨Nat.lt_of_lt_of_le (by omega) h.1, congrArg Prod.fst h.2.2.2.2.1⟩
theorem SWn_3 {m : Mm} {a : Nat} (h : SW m.2.2 a) : (mS m (a + 3)).2 = 4 := congrArg Prod.snd h.2.2.2.2.1
theorem SWi_3 {m : Mm} {a : Nat} {x : Int32} (h : SW m.2.2 a) (hin : vp_in x 4) : oS m (a + 3) 100 ∧ vp_in x (mS m (a + 3)).2 := ⟨SWo_3 h, by rw [SWn_3 h]; exact hin⟩
theorem SWr_0_2 {m : Mm} {a : Nat} (h : SW m.2.2 a) : va_rf (mR m a 2) = .ref (a + 1) := congrArg va_rf (h.2.2.2.2.2.1)
theorem SWr_0_3 {m : Mm} {a : Nat} (h : SW m.2.2 a) : va_rf (mR m a 3) = .ref (a + 2) := congrArg va_rf (h.2.2.2.2.2.2.1)
theorem SWr_0_4 {m : Mm} {a : Nat} (h : SW m.2.2 a) : va_rf (mR m a 4) = .ref (a + 3) := congrArg va_rf (h.2.2.2.2.2.2.2)
def DW (w : WR) (a : Nat) : Prop := a + 12 ≤ w.2.2 ∧ w.2.1 a = (0, 12) ∧ w.2.1 (a + 1) = (100, 8) ∧ w.2.1 (a + 2) = (100, 8) ∧ w.2.1 (a + 3) = (100, 8) ∧ w.2.1 (a + 4) = (100, 8) ∧ w.2.1 (a + 5) = (100, 8) ∧ w.2.1 (a + 6) = (100, 8) ∧ w.2.1 (a + 7) = (100, 8) ∧ w.2.1 (a + 8) = (100, 8) ∧ w.2.1 (a + 9) = (100, 8) ∧ w.2.1 (a + 10) = (101, 776) ∧ w.2.1 (a + 11) = (101, 576) ∧ w.1 a 0 = some (a + 1) ∧ w.1 a 1 = some (a + 2) ∧ w.1 a 2 = some (a + 3) ∧ w.1 a 3 = some (a + 4) ∧ w.1 a 4 = some (a + 5) ∧ w.1 a 5 = some (a + 6) ∧ w.1 a 6 = some (a + 7) ∧ w.1 a 7 = some (a + 8) ∧ w.1 a 8 = some (a + 9) ∧ w.1 a 9 = some (a + 10) ∧ w.1 a 10 = some (a + 11)
theorem DWo_0 {m : Mm} {a : Nat} (h : DW m.2.2 a) : oS m a 0 := ⟨Nat.lt_of_lt_of_le (by omega) h.1, congrArg Prod.fst h.2.1⟩
theorem DWo_1 {m : Mm} {a : Nat} (h : DW m.2.2 a) : oS m (a + 1) 100 := ⟨Nat.lt_of_lt_of_le (by omega) h.1, congrArg Prod.fst h.2.2.1⟩
theorem DWn_1 {m : Mm} {a : Nat} (h : DW m.2.2 a) : (mS m (a + 1)).2 = 8 := congrArg Prod.snd h.2.2.1
theorem DWi_1 {m : Mm} {a : Nat} {x : Int32} (h : DW m.2.2 a) (hin : vp_in x 8) : oS m (a + 1) 100 ∧ vp_in x (mS m (a + 1)).2 := ⟨DWo_1 h, by rw [DWn_1 h]; exact hin⟩
theorem DWo_2 {m : Mm} {a : Nat} (h : DW m.2.2 a) : oS m (a + 2) 100 := ⟨Nat.lt_of_lt_of_le (by omega) h.1, congrArg Prod.fst h.2.2.2.1⟩
theorem DWn_2 {m : Mm} {a : Nat} (h : DW m.2.2 a) : (mS m (a + 2)).2 = 8 := congrArg Prod.snd h.2.2.2.1
theorem DWi_2 {m : Mm} {a : Nat} {x : Int32} (h : DW m.2.2 a) (hin : vp_in x 8) : oS m (a + 2) 100 ∧ vp_in x (mS m (a + 2)).2 := ⟨DWo_2 h, by rw [DWn_2 h]; exact hin⟩
theorem DWo_3 {m : Mm} {a : Nat} (h : DW m.2.2 a) : oS m (a + 3) 100 := ⟨Nat.lt_of_lt_of_le (by omega) h.1, congrArg Prod.fst h.2.2.2.2.1⟩
theorem DWn_3 {m : Mm} {a : Nat} (h : DW m.2.2 a) : (mS m (a + 3)).2 = 8 := congrArg Prod.snd h.2.2.2.2.1
theorem DWi_3 {m : Mm} {a : Nat} {x : Int32} (h : DW m.2.2 a) (hin : vp_in x 8) : oS m (a + 3) 100 ∧ vp_in x (mS m (a + 3)).2 := ⟨DWo_3 h, by rw [DWn_3 h]; exact hin⟩
theorem DWo_4 {m : Mm} {a : Nat} (h : DW m.2.2 a) : oS m (a + 4) 100 := ⟨Nat.lt_of_lt_of_le (by omega) h.1, congrArg Prod.fst h.2.2.2.2.2.1⟩
theorem DWn_4 {m : Mm} {a : Nat} (h : DW m.2.2 a) : (mS m (a + 4)).2 = 8 := congrArg Prod.snd h.2.2.2.2.2.1
theorem DWi_4 {m : Mm} {a : Nat} {x : Int32} (h : DW m.2.2 a) (hin : vp_in x 8) : oS m (a + 4) 100 ∧ vp_in x (mS m (a + 4)).2 := ⟨DWo_4 h, by rw [DWn_4 h]; exact hin⟩
theorem DWo_5 {m : Mm} {a : Nat} (h : DW m.2.2 a) : oS m (a + 5) 100 := ⟨Nat.lt_of_lt_of_le (by omega) h.1, congrArg Prod.fst h.2.2.2.2.2.2.1⟩
theorem DWn_5 {m : Mm} {a : Nat} (h : DW m.2.2 a) : (mS m (a + 5)).2 = 8 := congrArg Prod.snd h.2.2.2.2.2.2.1
theorem DWi_5 {m : Mm} {a : Nat} {x : Int32} (h : DW m.2.2 a) (hin : vp_in x 8) : oS m (a + 5) 100 ∧ vp_in x (mS m (a + 5)).2 := ⟨DWo_5 h, by rw [DWn_5 h]; exact hin⟩
theorem DWo_6 {m : Mm} {a : Nat} (h : DW m.2.2 a) : oS m (a + 6) 100 := ⟨Nat.lt_of_lt_of_le (by omega) h.1, congrArg Prod.fst h.2.2.2.2.2.2.2.1⟩
theorem DWn_6 {m : Mm} {a : Nat} (h : DW m.2.2 a) : (mS m (a + 6)).2 = 8 := congrArg Prod.snd h.2.2.2.2.2.2.2.1
theorem DWi_6 {m : Mm} {a : Nat} {x : Int32} (h : DW m.2.2 a) (hin : vp_in x 8) : oS m (a + 6) 100 ∧ vp_in x (mS m (a + 6)).2 := ⟨DWo_6 h, by rw [DWn_6 h]; exact hin⟩
theorem DWo_7 {m : Mm} {a : Nat} (h : DW m.2.2 a) : oS m (a + 7) 100 := ⟨Nat.lt_of_lt_of_le (by omega) h.1, congrArg Prod.fst h.2.2.2.2.2.2.2.2.1⟩
theorem DWn_7 {m : Mm} {a : Nat} (h : DW m.2.2 a) : (mS m (a + 7)).2 = 8 := congrArg Prod.snd h.2.2.2.2.2.2.2.2.1
theorem DWi_7 {m : Mm} {a : Nat} {x : Int32} (h : DW m.2.2 a) (hin : vp_in x 8) : oS m (a + 7) 100 ∧ vp_in x (mS m (a + 7)).2 := ⟨DWo_7 h, by rw [DWn_7 h]; exact hin⟩
theorem DWo_8 {m : Mm} {a : Nat} (h : DW m.2.2 a) : oS m (a + 8) 100 := ⟨Nat.lt_of_lt_of_le (by omega) h.1, congrArg Prod.fst h.2.2.2.2.2.2.2.2.2.1⟩
theorem DWn_8 {m : Mm} {a : Nat} (h : DW m.2.2 a) : (mS m (a + 8)).2 = 8 := congrArg Prod.snd h.2.2.2.2.2.2.2.2.2.1
theorem DWi_8 {m : Mm} {a : Nat} {x : Int32} (h : DW m.2.2 a) (hin : vp_in x 8) : oS m (a + 8) 100 ∧ vp_in x (mS m (a + 8)).2 := ⟨DWo_8 h, by rw [DWn_8 h]; exact hin⟩
theorem DWo_9 {m : Mm} {a : Nat} (h : DW m.2.2 a) : oS m (a + 9) 100 := ⟨Nat.lt_of_lt_of_le (by omega) h.1, congrArg Prod.fst h.2.2.2.2.2.2.2.2.2.2.1⟩
theorem DWn_9 {m : Mm} {a : Nat} (h : DW m.2.2 a) : (mS m (a + 9)).2 = 8 := congrArg Prod.snd h.2.2.2.2.2.2.2.2.2.2.1
theorem DWi_9 {m : Mm} {a : Nat} {x : Int32} (h : DW m.2.2 a) (hin : vp_in x 8) : oS m (a + 9) 100 ∧ vp_in x (mS m (a + 9)).2 := ⟨DWo_9 h, by rw [DWn_9 h]; exact hin⟩
theorem DWo_10 {m : Mm} {a : Nat} (h : DW m.2.2 a) : oS m (a + 10) 101 := ⟨Nat.lt_of_lt_of_le (by omega) h.1, congrArg Prod.fst h.2.2.2.2.2.2.2.2.2.2.2.1⟩
theorem DWn_10 {m : Mm} {a : Nat} (h : DW m.2.2 a) : (mS m (a + 10)).2 = 776 := congrArg Prod.snd h.2.2.2.2.2.2.2.2.2.2.2.1
theorem DWi_10 {m : Mm} {a : Nat} {x : Int32} (h : DW m.2.2 a) (hin : vp_in x 776) : oS m (a + 10) 101 ∧ vp_in x (mS m (a + 10)).2 := ⟨DWo_10 h, by rw [DWn_10 h]; exact hin⟩
theorem DWo_11 {m : Mm} {a : Nat} (h : DW m.2.2 a) : oS m (a + 11) 101 := ⟨Nat.lt_of_lt_of_le (by omega) h.1, congrArg Prod.fst h.2.2.2.2.2.2.2.2.2.2.2.2.1⟩
theorem DWn_11 {m : Mm} {a : Nat} (h : DW m.2.2 a) : (mS m (a + 11)).2 = 576 := congrArg Prod.snd h.2.2.2.2.2.2.2.2.2.2.2.2.1
theorem DWi_11 {m : Mm} {a : Nat} {x : Int32} (h : DW m.2.2 a) (hin : vp_in x 576) : oS m (a + 11) 101 ∧ vp_in x (mS m (a + 11)).2 := ⟨DWo_11 h, by rw [DWn_11 h]; exact hin⟩
theorem DWr_0_0 {m : Mm} {a : Nat} (h : DW m.2.2 a) : va_rf (mR m a 0) = .ref (a + 1) := congrArg va_rf (h.2.2.2.2.2.2.2.2.2.2.2.2.2.1)
theorem DWr_0_1 {m : Mm} {a : Nat} (h : DW m.2.2 a) : va_rf (mR m a 1) = .ref (a + 2) := congrArg va_rf (h.2.2.2.2.2.2.2.2.2.2.2.2.2.2.1)
theorem DWr_0_2 {m : Mm} {a : Nat} (h : DW m.2.2 a) : va_rf (mR m a 2) = .ref (a + 3) := congrArg va_rf (h.2.2.2.2.2.2.2.2.2.2.2.2.2.2.2.1)
theorem DWr_0_3 {m : Mm} {a : Nat} (h : DW m.2.2 a) : va_rf (mR m a 3) = .ref (a + 4) := congrArg va_rf (h.2.2.2.2.2.2.2.2.2.2.2.2.2.2.2.2.1)
theorem DWr_0_4 {m : Mm} {a : Nat} (h : DW m.2.2 a) : va_rf (mR m a 4) = .ref (a + 5) := congrArg va_rf (h.2.2.2.2.2.2.2.2.2.2.2.2.2.2.2.2.2.1)
theorem DWr_0_5 {m : Mm} {a : Nat} (h : DW m.2.2 a) : va_rf (mR m a 5) = .ref (a + 6) := congrArg va_rf (h.2.2.2.2.2.2.2.2.2.2.2.2.2.2.2.2.2.2.1)
theorem DWr_0_6 {m : Mm} {a : Nat} (h : DW m.2.2 a) : va_rf (mR m a 6) = .ref (a + 7) := congrArg va_rf (h.2.2.2.2.2.2.2.2.2.2.2.2.2.2.2.2.2.2.2.1)
theorem DWr_0_7 {m : Mm} {a : Nat} (h : DW m.2.2 a) : va_rf (mR m a 7) = .ref (a + 8) := congrArg va_rf (h.2.2.2.2.2.2.2.2.2.2.2.2.2.2.2.2.2.2.2.2.1)
theorem DWr_0_8 {m : Mm} {a : Nat} (h : DW m.2.2 a) : va_rf (mR m a 8) = .ref (a + 9) := congrArg va_rf (h.2.2.2.2.2.2.2.2.2.2.2.2.2.2.2.2.2.2.2.2.2.1)
theorem DWr_0_9 {m : Mm} {a : Nat} (h : DW m.2.2 a) : va_rf (mR m a 9) = .ref (a + 10) := congrArg va_rf (h.2.2.2.2.2.2.2.2.2.2.2.2.2.2.2.2.2.2.2.2.2.2.1)
theorem DWr_0_10 {m : Mm} {a : Nat} (h : DW m.2.2 a) : va_rf (mR m a 10) = .ref (a + 11) := congrArg va_rf (h.2.2.2.2.2.2.2.2.2.2.2.2.2.2.2.2.2.2.2.2.2.2.2)
def NW (w : WR) (a : Nat) : Prop := a + 29 ≤ w.2.2 ∧ w.2.1 a = (10, 45) ∧ w.2.1 (a + 1) = (100, 24) ∧ w.2.1 (a + 2) = (100, 6) ∧ w.2.1 (a + 3) = (100, 6) ∧ w.2.1 (a + 4) = (100, 6) ∧ w.2.1 (a + 5) = (100, 6) ∧ w.2.1 (a + 6) = (100, 6) ∧ w.2.1 (a + 7) = (100, 180) ∧ w.2.1 (a + 8) = (100, 36) ∧ w.2.1 (a + 9) = (100, 6) ∧ w.2.1 (a + 10) = (100, 8) ∧ w.2.1 (a + 11) = (100, 8) ∧ w.2.1 (a + 12) = (100, 8) ∧ w.2.1 (a + 13) = (100, 8) ∧ w.2.1 (a + 14) = (100, 8) ∧ w.2.1 (a + 15) = (100, 8) ∧ w.2.1 (a + 16) = (100, 8) ∧ w.2.1 (a + 17) = (100, 8) ∧ w.2.1 (a + 18) = (100, 4) ∧ w.2.1 (a + 19) = (100, 4) ∧ w.2.1 (a + 20) = (100, 6) ∧ w.2.1 (a + 21) = (100, 6) ∧ w.2.1 (a + 22) = (100, 8) ∧ w.2.1 (a + 23) = (100, 8) ∧ w.2.1 (a + 24) = (100, 8) ∧ w.2.1 (a + 25) = (102, 8) ∧ w.2.1 (a + 26) = (103, 32) ∧ w.2.1 (a + 27) = (100, 32) ∧ w.2.1 (a + 28) = (100, 32) ∧ w.1 a 17 = some (a + 1) ∧ w.1 a 18 = some (a + 2) ∧ w.1 a 19 = some (a + 3) ∧ w.1 a 20 = some (a + 4) ∧ w.1 a 21 = some (a + 5) ∧ w.1 a 22 = some (a + 6) ∧ w.1 a 23 = some (a + 7) ∧ w.1 a 24 = some (a + 8) ∧ w.1 a 25 = some (a + 9) ∧ w.1 a 26 = some (a + 10) ∧ w.1 a 27 = some (a + 11) ∧ w.1 a 28 = some (a + 12) ∧ w.1 a 29 = some (a + 13) ∧ w.1 a 30 = some (a + 14) ∧ w.1 a 31 = some (a + 15) ∧ w.1 a 32 = some (a + 16) ∧ w.1 a 33 = some (a + 17) ∧ w.1 a 34 = some (a + 18) ∧ w.1 a 35 = some (a + 19) ∧ w.1 a 36 = some (a + 20) ∧ w.1 a 37 = some (a + 21) ∧ w.1 a 38 = some (a + 22) ∧ w.1 a 39 = some (a + 23) ∧ w.1 a 40 = some (a + 24) ∧ w.1 a 41 = some (a + 25) ∧ w.1 a 42 = some (a + 26) ∧ w.1 a 43 = some (a + 27) ∧ w.1 a 44 = some (a + 28)
theorem NWo_0 {m : Mm} {a : Nat} (h : NW m.2.2 a) : oS m a 10 := ⟨Nat.lt_of_lt_of_le (by omega) h.1, congrArg Prod.fst h.2.1⟩
theorem NWo_1 {m : Mm} {a : Nat} (h : NW m.2.2 a) : oS m (a + 1) 100 := ⟨Nat.lt_of_lt_of_le (by omega) h.1, congrArg Prod.fst h.2.2.1⟩
theorem NWn_1 {m : Mm} {a : Nat} (h : NW m.2.2 a) : (mS m (a + 1)).2 = 24 := congrArg Prod.snd h.2.2.1
theorem NWi_1 {m : Mm} {a : Nat} {x : Int32} (h : NW m.2.2 a) (hin : vp_in x 24) : oS m (a + 1) 100 ∧ vp_in x (mS m (a + 1)).2 := ⟨NWo_1 h, by rw [NWn_1 h]; exact hin⟩
theorem NWo_2 {m : Mm} {a : Nat} (h : NW m.2.2 a) : oS m (a + 2) 100 := ⟨Nat.lt_of_lt_of_le (by omega) h.1, congrArg Prod.fst h.2.2.2.1⟩
theorem NWn_2 {m : Mm} {a : Nat} (h : NW m.2.2 a) : (mS m (a + 2)).2 = 6 := congrArg Prod.snd h.2.2.2.1
theorem NWi_2 {m : Mm} {a : Nat} {x : Int32} (h : NW m.2.2 a) (hin : vp_in x 6) : oS m (a + 2) 100 ∧ vp_in x (mS m (a + 2)).2 := ⟨NWo_2 h, by rw [NWn_2 h]; exact hin⟩
theorem NWo_3 {m : Mm} {a : Nat} (h : NW m.2.2 a) : oS m (a + 3) 100 := ⟨Nat.lt_of_lt_of_le (by omega) h.1, congrArg Prod.fst h.2.2.2.2.1⟩
theorem NWn_3 {m : Mm} {a : Nat} (h : NW m.2.2 a) : (mS m (a + 3)).2 = 6 := congrArg Prod.snd h.2.2.2.2.1
theorem NWi_3 {m : Mm} {a : Nat} {x : Int32} (h : NW m.2.2 a) (hin : vp_in x 6) : oS m (a + 3) 100 ∧ vp_in x (mS m (a + 3)).2 := ⟨NWo_3 h, by rw [NWn_3 h]; exact hin⟩
theorem NWo_4 {m : Mm} {a : Nat} (h : NW m.2.2 a) : oS m (a + 4) 100 := ⟨Nat.lt_of_lt_of_le (by omega) h.1, congrArg Prod.fst h.2.2.2.2.2.1⟩
theorem NWn_4 {m : Mm} {a : Nat} (h : NW m.2.2 a) : (mS m (a + 4)).2 = 6 := congrArg Prod.snd h.2.2.2.2.2.1
theorem NWi_4 {m : Mm} {a : Nat} {x : Int32} (h : NW m.2.2 a) (hin : vp_in x 6) : oS m (a + 4) 100 ∧ vp_in x (mS m (a + 4)).2 := ⟨NWo_4 h, by rw [NWn_4 h]; exact hin⟩
theorem NWo_5 {m : Mm} {a : Nat} (h : NW m.2.2 a) : oS m (a + 5) 100 := ⟨Nat.lt_of_lt_of_le (by omega) h.1, congrArg Prod.fst h.2.2.2.2.2.2.1⟩
theorem NWn_5 {m : Mm} {a : Nat} (h : NW m.2.2 a) : (mS m (a + 5)).2 = 6 := congrArg Prod.snd h.2.2.2.2.2.2.1
theorem NWi_5 {m : Mm} {a : Nat} {x : Int32} (h : NW m.2.2 a) (hin : vp_in x 6) : oS m (a + 5) 100 ∧ vp_in x (mS m (a + 5)).2 := ⟨NWo_5 h, by rw [NWn_5 h]; exact hin⟩
theorem NWo_6 {m : Mm} {a : Nat} (h : NW m.2.2 a) : oS m (a + 6) 100 := ⟨Nat.lt_of_lt_of_le (by omega) h.1, congrArg Prod.fst h.2.2.2.2.2.2.2.1⟩
theorem NWn_6 {m : Mm} {a : Nat} (h : NW m.2.2 a) : (mS m (a + 6)).2 = 6 := congrArg Prod.snd h.2.2.2.2.2.2.2.1
theorem NWi_6 {m : Mm} {a : Nat} {x : Int32} (h : NW m.2.2 a) (hin : vp_in x 6) : oS m (a + 6) 100 ∧ vp_in x (mS m (a + 6)).2 := ⟨NWo_6 h, by rw [NWn_6 h]; exact hin⟩
theorem NWo_7 {m : Mm} {a : Nat} (h : NW m.2.2 a) : oS m (a + 7) 100 := ⟨Nat.lt_of_lt_of_le (by omega) h.1, congrArg Prod.fst h.2.2.2.2.2.2.2.2.1⟩
theorem NWn_7 {m : Mm} {a : Nat} (h : NW m.2.2 a) : (mS m (a + 7)).2 = 180 := congrArg Prod.snd h.2.2.2.2.2.2.2.2.1
theorem NWi_7 {m : Mm} {a : Nat} {x : Int32} (h : NW m.2.2 a) (hin : vp_in x 180) : oS m (a + 7) 100 ∧ vp_in x (mS m (a + 7)).2 := ⟨NWo_7 h, by rw [NWn_7 h]; exact hin⟩
theorem NWo_8 {m : Mm} {a : Nat} (h : NW m.2.2 a) : oS m (a + 8) 100 := ⟨Nat.lt_of_lt_of_le (by omega) h.1, congrArg Prod.fst h.2.2.2.2.2.2.2.2.2.1⟩
theorem NWn_8 {m : Mm} {a : Nat} (h : NW m.2.2 a) : (mS m (a + 8)).2 = 36 := congrArg Prod.snd h.2.2.2.2.2.2.2.2.2.1
theorem NWi_8 {m : Mm} {a : Nat} {x : Int32} (h : NW m.2.2 a) (hin : vp_in x 36) : oS m (a + 8) 100 ∧ vp_in x (mS m (a + 8)).2 := ⟨NWo_8 h, by rw [NWn_8 h]; exact hin⟩
theorem NWo_9 {m : Mm} {a : Nat} (h : NW m.2.2 a) : oS m (a + 9) 100 := ⟨Nat.lt_of_lt_of_le (by omega) h.1, congrArg Prod.fst h.2.2.2.2.2.2.2.2.2.2.1⟩
theorem NWn_9 {m : Mm} {a : Nat} (h : NW m.2.2 a) : (mS m (a + 9)).2 = 6 := congrArg Prod.snd h.2.2.2.2.2.2.2.2.2.2.1
theorem NWi_9 {m : Mm} {a : Nat} {x : Int32} (h : NW m.2.2 a) (hin : vp_in x 6) : oS m (a + 9) 100 ∧ vp_in x (mS m (a + 9)).2 := ⟨NWo_9 h, by rw [NWn_9 h]; exact hin⟩
theorem NWo_10 {m : Mm} {a : Nat} (h : NW m.2.2 a) : oS m (a + 10) 100 := ⟨Nat.lt_of_lt_of_le (by omega) h.1, congrArg Prod.fst h.2.2.2.2.2.2.2.2.2.2.2.1⟩
theorem NWn_10 {m : Mm} {a : Nat} (h : NW m.2.2 a) : (mS m (a + 10)).2 = 8 := congrArg Prod.snd h.2.2.2.2.2.2.2.2.2.2.2.1
theorem NWi_10 {m : Mm} {a : Nat} {x : Int32} (h : NW m.2.2 a) (hin : vp_in x 8) : oS m (a + 10) 100 ∧ vp_in x (mS m (a + 10)).2 := ⟨NWo_10 h, by rw [NWn_10 h]; exact hin⟩
theorem NWo_11 {m : Mm} {a : Nat} (h : NW m.2.2 a) : oS m (a + 11) 100 := ⟨Nat.lt_of_lt_of_le (by omega) h.1, congrArg Prod.fst h.2.2.2.2.2.2.2.2.2.2.2.2.1⟩
theorem NWn_11 {m : Mm} {a : Nat} (h : NW m.2.2 a) : (mS m (a + 11)).2 = 8 := congrArg Prod.snd h.2.2.2.2.2.2.2.2.2.2.2.2.1
theorem NWi_11 {m : Mm} {a : Nat} {x : Int32} (h : NW m.2.2 a) (hin : vp_in x 8) : oS m (a + 11) 100 ∧ vp_in x (mS m (a + 11)).2 := ⟨NWo_11 h, by rw [NWn_11 h]; exact hin⟩
theorem NWo_12 {m : Mm} {a : Nat} (h : NW m.2.2 a) : oS m (a + 12) 100 := ⟨Nat.lt_of_lt_of_le (by omega) h.1, congrArg Prod.fst h.2.2.2.2.2.2.2.2.2.2.2.2.2.1⟩
theorem NWn_12 {m : Mm} {a : Nat} (h : NW m.2.2 a) : (mS m (a + 12)).2 = 8 := congrArg Prod.snd h.2.2.2.2.2.2.2.2.2.2.2.2.2.1
theorem NWi_12 {m : Mm} {a : Nat} {x : Int32} (h : NW m.2.2 a) (hin : vp_in x 8) : oS m (a + 12) 100 ∧ vp_in x (mS m (a + 12)).2 := ⟨NWo_12 h, by rw [NWn_12 h]; exact hin⟩
theorem NWo_13 {m : Mm} {a : Nat} (h : NW m.2.2 a) : oS m (a + 13) 100 := ⟨Nat.lt_of_lt_of_le (by omega) h.1, congrArg Prod.fst h.2.2.2.2.2.2.2.2.2.2.2.2.2.2.1⟩
theorem NWn_13 {m : Mm} {a : Nat} (h : NW m.2.2 a) : (mS m (a + 13)).2 = 8 := congrArg Prod.snd h.2.2.2.2.2.2.2.2.2.2.2.2.2.2.1
theorem NWi_13 {m : Mm} {a : Nat} {x : Int32} (h : NW m.2.2 a) (hin : vp_in x 8) : oS m (a + 13) 100 ∧ vp_in x (mS m (a + 13)).2 := ⟨NWo_13 h, by rw [NWn_13 h]; exact hin⟩
theorem NWo_14 {m : Mm} {a : Nat} (h : NW m.2.2 a) : oS m (a + 14) 100 := ⟨Nat.lt_of_lt_of_le (by omega) h.1, congrArg Prod.fst h.2.2.2.2.2.2.2.2.2.2.2.2.2.2.2.1⟩
theorem NWn_14 {m : Mm} {a : Nat} (h : NW m.2.2 a) : (mS m (a + 14)).2 = 8 := congrArg Prod.snd h.2.2.2.2.2.2.2.2.2.2.2.2.2.2.2.1
theorem NWi_14 {m : Mm} {a : Nat} {x : Int32} (h : NW m.2.2 a) (hin : vp_in x 8) : oS m (a + 14) 100 ∧ vp_in x (mS m (a + 14)).2 := ⟨NWo_14 h, by rw [NWn_14 h]; exact hin⟩
theorem NWo_15 {m : Mm} {a : Nat} (h : NW m.2.2 a) : oS m (a + 15) 100 := ⟨Nat.lt_of_lt_of_le (by omega) h.1, congrArg Prod.fst h.2.2.2.2.2.2.2.2.2.2.2.2.2.2.2.2.1⟩
theorem NWn_15 {m : Mm} {a : Nat} (h : NW m.2.2 a) : (mS m (a + 15)).2 = 8 := congrArg Prod.snd h.2.2.2.2.2.2.2.2.2.2.2.2.2.2.2.2.1
theorem NWi_15 {m : Mm} {a : Nat} {x : Int32} (h : NW m.2.2 a) (hin : vp_in x 8) : oS m (a + 15) 100 ∧ vp_in x (mS m (a + 15)).2 := ⟨NWo_15 h, by rw [NWn_15 h]; exact hin⟩
theorem NWo_16 {m : Mm} {a : Nat} (h : NW m.2.2 a) : oS m (a + 16) 100 := ⟨Nat.lt_of_lt_of_le (by omega) h.1, congrArg Prod.fst h.2.2.2.2.2.2.2.2.2.2.2.2.2.2.2.2.2.1⟩
theorem NWn_16 {m : Mm} {a : Nat} (h : NW m.2.2 a) : (mS m (a + 16)).2 = 8 := congrArg Prod.snd h.2.2.2.2.2.2.2.2.2.2.2.2.2.2.2.2.2.1
theorem NWi_16 {m : Mm} {a : Nat} {x : Int32} (h : NW m.2.2 a) (hin : vp_in x 8) : oS m (a + 16) 100 ∧ vp_in x (mS m (a + 16)).2 := ⟨NWo_16 h, by rw [NWn_16 h]; exact hin⟩
theorem NWo_17 {m : Mm} {a : Nat} (h : NW m.2.2 a) : oS m (a + 17) 100 := ⟨Nat.lt_of_lt_of_le (by omega) h.1, congrArg Prod.fst h.2.2.2.2.2.2.2.2.2.2.2.2.2.2.2.2.2.2.1⟩
theorem NWn_17 {m : Mm} {a : Nat} (h : NW m.2.2 a) : (mS m (a + 17)).2 = 8 := congrArg Prod.snd h.2.2.2.2.2.2.2.2.2.2.2.2.2.2.2.2.2.2.1
theorem NWi_17 {m : Mm} {a : Nat} {x : Int32} (h : NW m.2.2 a) (hin : vp_in x 8) : oS m (a + 17) 100 ∧ vp_in x (mS m (a + 17)).2 := ⟨NWo_17 h, by rw [NWn_17 h]; exact hin⟩
theorem NWo_18 {m : Mm} {a : Nat} (h : NW m.2.2 a) : oS m (a + 18) 100 := ⟨Nat.lt_of_lt_of_le (by omega) h.1, congrArg Prod.fst h.2.2.2.2.2.2.2.2.2.2.2.2.2.2.2.2.2.2.2.1⟩
theorem NWn_18 {m : Mm} {a : Nat} (h : NW m.2.2 a) : (mS m (a + 18)).2 = 4 := congrArg Prod.snd h.2.2.2.2.2.2.2.2.2.2.2.2.2.2.2.2.2.2.2.1
theorem NWi_18 {m : Mm} {a : Nat} {x : Int32} (h : NW m.2.2 a) (hin : vp_in x 4) : oS m (a + 18) 100 ∧ vp_in x (mS m (a + 18)).2 := ⟨NWo_18 h, by rw [NWn_18 h]; exact hin⟩
theorem NWo_19 {m : Mm} {a : Nat} (h : NW m.2.2 a) : oS m (a + 19) 100 := ⟨Nat.lt_of_lt_of_le (by omega) h.1, congrArg Prod.fst h.2.2.2.2.2.2.2.2.2.2.2.2.2.2.2.2.2.2.2.2.1⟩
theorem NWn_19 {m : Mm} {a : Nat} (h : NW m.2.2 a) : (mS m (a + 19)).2 = 4 := congrArg Prod.snd h.2.2.2.2.2.2.2.2.2.2.2.2.2.2.2.2.2.2.2.2.1
theorem NWi_19 {m : Mm} {a : Nat} {x : Int32} (h : NW m.2.2 a) (hin : vp_in x 4) : oS m (a + 19) 100 ∧ vp_in x (mS m (a + 19)).2 := ⟨NWo_19 h, by rw [NWn_19 h]; exact hin⟩
theorem NWo_20 {m : Mm} {a : Nat} (h : NW m.2.2 a) : oS m (a + 20) 100 := ⟨Nat.lt_of_lt_of_le (by omega) h.1, congrArg Prod.fst h.2.2.2.2.2.2.2.2.2.2.2.2.2.2.2.2.2.2.2.2.2.1⟩
theorem NWn_20 {m : Mm} {a : Nat} (h : NW m.2.2 a) : (mS m (a + 20)).2 = 6 := congrArg Prod.snd h.2.2.2.2.2.2.2.2.2.2.2.2.2.2.2.2.2.2.2.2.2.1
theorem NWi_20 {m : Mm} {a : Nat} {x : Int32} (h : NW m.2.2 a) (hin : vp_in x 6) : oS m (a + 20) 100 ∧ vp_in x (mS m (a + 20)).2 := ⟨NWo_20 h, by rw [NWn_20 h]; exact hin⟩
theorem NWo_21 {m : Mm} {a : Nat} (h : NW m.2.2 a) : oS m (a + 21) 100 := ⟨Nat.lt_of_lt_of_le (by omega) h.1, congrArg Prod.fst h.2.2.2.2.2.2.2.2.2.2.2.2.2.2.2.2.2.2.2.2.2.2.1⟩
theorem NWn_21 {m : Mm} {a : Nat} (h : NW m.2.2 a) : (mS m (a + 21)).2 = 6 := congrArg Prod.snd h.2.2.2.2.2.2.2.2.2.2.2.2.2.2.2.2.2.2.2.2.2.2.1
theorem NWi_21 {m : Mm} {a : Nat} {x : Int32} (h : NW m.2.2 a) (hin : vp_in x 6) : oS m (a + 21) 100 ∧ vp_in x (mS m (a + 21)).2 := ⟨NWo_21 h, by rw [NWn_21 h]; exact hin⟩
theorem NWo_22 {m : Mm} {a : Nat} (h : NW m.2.2 a) : oS m (a + 22) 100 := ⟨Nat.lt_of_lt_of_le (by omega) h.1, congrArg Prod.fst h.2.2.2.2.2.2.2.2.2.2.2.2.2.2.2.2.2.2.2.2.2.2.2.1⟩
theorem NWn_22 {m : Mm} {a : Nat} (h : NW m.2.2 a) : (mS m (a + 22)).2 = 8 := congrArg Prod.snd h.2.2.2.2.2.2.2.2.2.2.2.2.2.2.2.2.2.2.2.2.2.2.2.1
theorem NWi_22 {m : Mm} {a : Nat} {x : Int32} (h : NW m.2.2 a) (hin : vp_in x 8) : oS m (a + 22) 100 ∧ vp_in x (mS m (a + 22)).2 := ⟨NWo_22 h, by rw [NWn_22 h]; exact hin⟩
theorem NWo_23 {m : Mm} {a : Nat} (h : NW m.2.2 a) : oS m (a + 23) 100 := ⟨Nat.lt_of_lt_of_le (by omega) h.1, congrArg Prod.fst h.2.2.2.2.2.2.2.2.2.2.2.2.2.2.2.2.2.2.2.2.2.2.2.2.1⟩
theorem NWn_23 {m : Mm} {a : Nat} (h : NW m.2.2 a) : (mS m (a + 23)).2 = 8 := congrArg Prod.snd h.2.2.2.2.2.2.2.2.2.2.2.2.2.2.2.2.2.2.2.2.2.2.2.2.1
theorem NWi_23 {m : Mm} {a : Nat} {x : Int32} (h : NW m.2.2 a) (hin : vp_in x 8) : oS m (a + 23) 100 ∧ vp_in x (mS m (a + 23)).2 := ⟨NWo_23 h, by rw [NWn_23 h]; exact hin⟩
theorem NWo_24 {m : Mm} {a : Nat} (h : NW m.2.2 a) : oS m (a + 24) 100 := ⟨Nat.lt_of_lt_of_le (by omega) h.1, congrArg Prod.fst h.2.2.2.2.2.2.2.2.2.2.2.2.2.2.2.2.2.2.2.2.2.2.2.2.2.1⟩
theorem NWn_24 {m : Mm} {a : Nat} (h : NW m.2.2 a) : (mS m (a + 24)).2 = 8 := congrArg Prod.snd h.2.2.2.2.2.2.2.2.2.2.2.2.2.2.2.2.2.2.2.2.2.2.2.2.2.1
theorem NWi_24 {m : Mm} {a : Nat} {x : Int32} (h : NW m.2.2 a) (hin : vp_in x 8) : oS m (a + 24) 100 ∧ vp_in x (mS m (a + 24)).2 := ⟨NWo_24 h, by rw [NWn_24 h]; exact hin⟩
theorem NWo_25 {m : Mm} {a : Nat} (h : NW m.2.2 a) : oS m (a + 25) 102 := ⟨Nat.lt_of_lt_of_le (by omega) h.1, congrArg Prod.fst h.2.2.2.2.2.2.2.2.2.2.2.2.2.2.2.2.2.2.2.2.2.2.2.2.2.2.1⟩
theorem NWn_25 {m : Mm} {a : Nat} (h : NW m.2.2 a) : (mS m (a + 25)).2 = 8 := congrArg Prod.snd h.2.2.2.2.2.2.2.2.2.2.2.2.2.2.2.2.2.2.2.2.2.2.2.2.2.2.1
theorem NWi_25 {m : Mm} {a : Nat} {x : Int32} (h : NW m.2.2 a) (hin : vp_in x 8) : oS m (a + 25) 102 ∧ vp_in x (mS m (a + 25)).2 := ⟨NWo_25 h, by rw [NWn_25 h]; exact hin⟩
theorem NWo_26 {m : Mm} {a : Nat} (h : NW m.2.2 a) : oS m (a + 26) 103 := ⟨Nat.lt_of_lt_of_le (by omega) h.1, congrArg Prod.fst h.2.2.2.2.2.2.2.2.2.2.2.2.2.2.2.2.2.2.2.2.2.2.2.2.2.2.2.1⟩
theorem NWn_26 {m : Mm} {a : Nat} (h : NW m.2.2 a) : (mS m (a + 26)).2 = 32 := congrArg Prod.snd h.2.2.2.2.2.2.2.2.2.2.2.2.2.2.2.2.2.2.2.2.2.2.2.2.2.2.2.1
theorem NWi_26 {m : Mm} {a : Nat} {x : Int32} (h : NW m.2.2 a) (hin : vp_in x 32) : oS m (a + 26) 103 ∧ vp_in x (mS m (a + 26)).2 := ⟨NWo_26 h, by rw [NWn_26 h]; exact hin⟩
theorem NWo_27 {m : Mm} {a : Nat} (h : NW m.2.2 a) : oS m (a + 27) 100 := ⟨Nat.lt_of_lt_of_le (by omega) h.1, congrArg Prod.fst h.2.2.2.2.2.2.2.2.2.2.2.2.2.2.2.2.2.2.2.2.2.2.2.2.2.2.2.2.1⟩
theorem NWn_27 {m : Mm} {a : Nat} (h : NW m.2.2 a) : (mS m (a + 27)).2 = 32 := congrArg Prod.snd h.2.2.2.2.2.2.2.2.2.2.2.2.2.2.2.2.2.2.2.2.2.2.2.2.2.2.2.2.1
theorem NWi_27 {m : Mm} {a : Nat} {x : Int32} (h : NW m.2.2 a) (hin : vp_in x 32) : oS m (a + 27) 100 ∧ vp_in x (mS m (a + 27)).2 := ⟨NWo_27 h, by rw [NWn_27 h]; exact hin⟩
theorem NWo_28 {m : Mm} {a : Nat} (h : NW m.2.2 a) : oS m (a + 28) 100 := ⟨Nat.lt_of_lt_of_le (by omega) h.1, congrArg Prod.fst h.2.2.2.2.2.2.2.2.2.2.2.2.2.2.2.2.2.2.2.2.2.2.2.2.2.2.2.2.2.1⟩
theorem NWn_28 {m : Mm} {a : Nat} (h : NW m.2.2 a) : (mS m (a + 28)).2 = 32 := congrArg Prod.snd h.2.2.2.2.2.2.2.2.2.2.2.2.2.2.2.2.2.2.2.2.2.2.2.2.2.2.2.2.2.1
theorem NWi_28 {m : Mm} {a : Nat} {x : Int32} (h : NW m.2.2 a) (hin : vp_in x 32) : oS m (a + 28) 100 ∧ vp_in x (mS m (a + 28)).2 := ⟨NWo_28 h, by rw [NWn_28 h]; exact hin⟩
theorem NWr_0_17 {m : Mm} {a : Nat} (h : NW m.2.2 a) : va_rf (mR m a 17) = .ref (a + 1) := congrArg va_rf (h.2.2.2.2.2.2.2.2.2.2.2.2.2.2.2.2.2.2.2.2.2.2.2.2.2.2.2.2.2.2.1)
theorem NWr_0_18 {m : Mm} {a : Nat} (h : NW m.2.2 a) : va_rf (mR m a 18) = .ref (a + 2) := congrArg va_rf (h.2.2.2.2.2.2.2.2.2.2.2.2.2.2.2.2.2.2.2.2.2.2.2.2.2.2.2.2.2.2.2.1)
theorem NWr_0_19 {m : Mm} {a : Nat} (h : NW m.2.2 a) : va_rf (mR m a 19) = .ref (a + 3) := congrArg va_rf (h.2.2.2.2.2.2.2.2.2.2.2.2.2.2.2.2.2.2.2.2.2.2.2.2.2.2.2.2.2.2.2.2.1)
theorem NWr_0_20 {m : Mm} {a : Nat} (h : NW m.2.2 a) : va_rf (mR m a 20) = .ref (a + 4) := congrArg va_rf (h.2.2.2.2.2.2.2.2.2.2.2.2.2.2.2.2.2.2.2.2.2.2.2.2.2.2.2.2.2.2.2.2.2.1)
theorem NWr_0_21 {m : Mm} {a : Nat} (h : NW m.2.2 a) : va_rf (mR m a 21) = .ref (a + 5) := congrArg va_rf (h.2.2.2.2.2.2.2.2.2.2.2.2.2.2.2.2.2.2.2.2.2.2.2.2.2.2.2.2.2.2.2.2.2.2.1)
theorem NWr_0_22 {m : Mm} {a : Nat} (h : NW m.2.2 a) : va_rf (mR m a 22) = .ref (a + 6) := congrArg va_rf (h.2.2.2.2.2.2.2.2.2.2.2.2.2.2.2.2.2.2.2.2.2.2.2.2.2.2.2.2.2.2.2.2.2.2.2.1)
theorem NWr_0_23 {m : Mm} {a : Nat} (h : NW m.2.2 a) : va_rf (mR m a 23) = .ref (a + 7) := congrArg va_rf (h.2.2.2.2.2.2.2.2.2.2.2.2.2.2.2.2.2.2.2.2.2.2.2.2.2.2.2.2.2.2.2.2.2.2.2.2.1)
theorem NWr_0_24 {m : Mm} {a : Nat} (h : NW m.2.2 a) : va_rf (mR m a 24) = .ref (a + 8) := congrArg va_rf (h.2.2.2.2.2.2.2.2.2.2.2.2.2.2.2.2.2.2.2.2.2.2.2.2.2.2.2.2.2.2.2.2.2.2.2.2.2.1)
theorem NWr_0_25 {m : Mm} {a : Nat} (h : NW m.2.2 a) : va_rf (mR m a 25) = .ref (a + 9) := congrArg va_rf (h.2.2.2.2.2.2.2.2.2.2.2.2.2.2.2.2.2.2.2.2.2.2.2.2.2.2.2.2.2.2.2.2.2.2.2.2.2.2.1)
theorem NWr_0_26 {m : Mm} {a : Nat} (h : NW m.2.2 a) : va_rf (mR m a 26) = .ref (a + 10) := congrArg va_rf (h.2.2.2.2.2.2.2.2.2.2.2.2.2.2.2.2.2.2.2.2.2.2.2.2.2.2.2.2.2.2.2.2.2.2.2.2.2.2.2.1)
theorem NWr_0_27 {m : Mm} {a : Nat} (h : NW m.2.2 a) : va_rf (mR m a 27) = .ref (a + 11) := congrArg va_rf (h.2.2.2.2.2.2.2.2.2.2.2.2.2.2.2.2.2.2.2.2.2.2.2.2.2.2.2.2.2.2.2.2.2.2.2.2.2.2.2.2.1)
theorem NWr_0_28 {m : Mm} {a : Nat} (h : NW m.2.2 a) : va_rf (mR m a 28) = .ref (a + 12) := congrArg va_rf (h.2.2.2.2.2.2.2.2.2.2.2.2.2.2.2.2.2.2.2.2.2.2.2.2.2.2.2.2.2.2.2.2.2.2.2.2.2.2.2.2.2.1)
theorem NWr_0_29 {m : Mm} {a : Nat} (h : NW m.2.2 a) : va_rf (mR m a 29) = .ref (a + 13) := congrArg va_rf (h.2.2.2.2.2.2.2.2.2.2.2.2.2.2.2.2.2.2.2.2.2.2.2.2.2.2.2.2.2.2.2.2.2.2.2.2.2.2.2.2.2.2.1)
theorem NWr_0_30 {m : Mm} {a : Nat} (h : NW m.2.2 a) : va_rf (mR m a 30) = .ref (a + 14) := congrArg va_rf (h.2.2.2.2.2.2.2.2.2.2.2.2.2.2.2.2.2.2.2.2.2.2.2.2.2.2.2.2.2.2.2.2.2.2.2.2.2.2.2.2.2.2.2.1)
theorem NWr_0_31 {m : Mm} {a : Nat} (h : NW m.2.2 a) : va_rf (mR m a 31) = .ref (a + 15) := congrArg va_rf (h.2.2.2.2.2.2.2.2.2.2.2.2.2.2.2.2.2.2.2.2.2.2.2.2.2.2.2.2.2.2.2.2.2.2.2.2.2.2.2.2.2.2.2.2.1)
theorem NWr_0_32 {m : Mm} {a : Nat} (h : NW m.2.2 a) : va_rf (mR m a 32) = .ref (a + 16) := congrArg va_rf (h.2.2.2.2.2.2.2.2.2.2.2.2.2.2.2.2.2.2.2.2.2.2.2.2.2.2.2.2.2.2.2.2.2.2.2.2.2.2.2.2.2.2.2.2.2.1)
theorem NWr_0_33 {m : Mm} {a : Nat} (h : NW m.2.2 a) : va_rf (mR m a 33) = .ref (a + 17) := congrArg va_rf (h.2.2.2.2.2.2.2.2.2.2.2.2.2.2.2.2.2.2.2.2.2.2.2.2.2.2.2.2.2.2.2.2.2.2.2.2.2.2.2.2.2.2.2.2.2.2.1)
theorem NWr_0_34 {m : Mm} {a : Nat} (h : NW m.2.2 a) : va_rf (mR m a 34) = .ref (a + 18) := congrArg va_rf (h.2.2.2.2.2.2.2.2.2.2.2.2.2.2.2.2.2.2.2.2.2.2.2.2.2.2.2.2.2.2.2.2.2.2.2.2.2.2.2.2.2.2.2.2.2.2.2.1)
theorem NWr_0_35 {m : Mm} {a : Nat} (h : NW m.2.2 a) : va_rf (mR m a 35) = .ref (a + 19) := congrArg va_rf (h.2.2.2.2.2.2.2.2.2.2.2.2.2.2.2.2.2.2.2.2.2.2.2.2.2.2.2.2.2.2.2.2.2.2.2.2.2.2.2.2.2.2.2.2.2.2.2.2.1)
theorem NWr_0_36 {m : Mm} {a : Nat} (h : NW m.2.2 a) : va_rf (mR m a 36) = .ref (a + 20) := congrArg va_rf (h.2.2.2.2.2.2.2.2.2.2.2.2.2.2.2.2.2.2.2.2.2.2.2.2.2.2.2.2.2.2.2.2.2.2.2.2.2.2.2.2.2.2.2.2.2.2.2.2.2.1)
theorem NWr_0_37 {m : Mm} {a : Nat} (h : NW m.2.2 a) : va_rf (mR m a 37) = .ref (a + 21) := congrArg va_rf (h.2.2.2.2.2.2.2.2.2.2.2.2.2.2.2.2.2.2.2.2.2.2.2.2.2.2.2.2.2.2.2.2.2.2.2.2.2.2.2.2.2.2.2.2.2.2.2.2.2.2.1)
theorem NWr_0_38 {m : Mm} {a : Nat} (h : NW m.2.2 a) : va_rf (mR m a 38) = .ref (a + 22) := congrArg va_rf (h.2.2.2.2.2.2.2.2.2.2.2.2.2.2.2.2.2.2.2.2.2.2.2.2.2.2.2.2.2.2.2.2.2.2.2.2.2.2.2.2.2.2.2.2.2.2.2.2.2.2.2.1)
theorem NWr_0_39 {m : Mm} {a : Nat} (h : NW m.2.2 a) : va_rf (mR m a 39) = .ref (a + 23) := congrArg va_rf (h.2.2.2.2.2.2.2.2.2.2.2.2.2.2.2.2.2.2.2.2.2.2.2.2.2.2.2.2.2.2.2.2.2.2.2.2.2.2.2.2.2.2.2.2.2.2.2.2.2.2.2.2.1)
theorem NWr_0_40 {m : Mm} {a : Nat} (h : NW m.2.2 a) : va_rf (mR m a 40) = .ref (a + 24) := congrArg va_rf (h.2.2.2.2.2.2.2.2.2.2.2.2.2.2.2.2.2.2.2.2.2.2.2.2.2.2.2.2.2.2.2.2.2.2.2.2.2.2.2.2.2.2.2.2.2.2.2.2.2.2.2.2.2.1)
theorem NWr_0_41 {m : Mm} {a : Nat} (h : NW m.2.2 a) : va_rf (mR m a 41) = .ref (a + 25) := congrArg va_rf (h.2.2.2.2.2.2.2.2.2.2.2.2.2.2.2.2.2.2.2.2.2.2.2.2.2.2.2.2.2.2.2.2.2.2.2.2.2.2.2.2.2.2.2.2.2.2.2.2.2.2.2.2.2.2.1)
theorem NWr_0_42 {m : Mm} {a : Nat} (h : NW m.2.2 a) : va_rf (mR m a 42) = .ref (a + 26) := congrArg va_rf (h.2.2.2.2.2.2.2.2.2.2.2.2.2.2.2.2.2.2.2.2.2.2.2.2.2.2.2.2.2.2.2.2.2.2.2.2.2.2.2.2.2.2.2.2.2.2.2.2.2.2.2.2.2.2.2.1)
theorem NWr_0_43 {m : Mm} {a : Nat} (h : NW m.2.2 a) : va_rf (mR m a 43) = .ref (a + 27) := congrArg va_rf (h.2.2.2.2.2.2.2.2.2.2.2.2.2.2.2.2.2.2.2.2.2.2.2.2.2.2.2.2.2.2.2.2.2.2.2.2.2.2.2.2.2.2.2.2.2.2.2.2.2.2.2.2.2.2.2.2.1)
theorem NWr_0_44 {m : Mm} {a : Nat} (h : NW m.2.2 a) : va_rf (mR m a 44) = .ref (a + 28) := congrArg va_rf (h.2.2.2.2.2.2.2.2.2.2.2.2.2.2.2.2.2.2.2.2.2.2.2.2.2.2.2.2.2.2.2.2.2.2.2.2.2.2.2.2.2.2.2.2.2.2.2.2.2.2.2.2.2.2.2.2.2)
def shT : List (Nat × Nat) := [(9, 13), (1, 19), (100, 13), (100, 24), (100, 6), (100, 6), (100, 6), (100, 6), (100, 180), (100, 6), (100, 56), (100, 8), (100, 4), (100, 6), (100, 6), (100, 32), (6, 5), (100, 6), (100, 36), (100, 4), (6, 5), (100, 6), (100, 36), (100, 4), (2, 5), (104, 12), (104, 3), (6, 5), (100, 6), (100, 36), (100, 4), (6, 5), (100, 6), (100, 36), (100, 4), (6, 5), (100, 6), (100, 36), (100, 4), (6, 5), (100, 6), (100, 36), (100, 4), (6, 5), (100, 6), (100, 36), (100, 4), (6, 5), (100, 6), (100, 36), (100, 4), (6, 5), (100, 6), (100, 36), (100, 4), (6, 5), (100, 6), (100, 36), (100, 4), (6, 5), (100, 6), (100, 36), (100, 4), (6, 5), (100, 6), (100, 36), (100, 4), (6, 5), (100, 6), (100, 36), (100, 4), (6, 5), (100, 6), (100, 36), (100, 4), (6, 5), (100, 6), (100, 36), (100, 4), (6, 5), (100, 6), (100, 36), (100, 4), (6, 5), (100, 6), (100, 36), (100, 4), (3, 9), (7, 10), (101, 1200), (103, 24), (100, 24), (100, 24), (1, 19), (100, 13), (100, 24), (100, 6), (100, 6), (100, 6), (100, 6), (100, 180), (100, 6), (100, 56), (100, 8), (100, 4), (100, 6), (100, 6), (100, 32), (6, 5), (100, 6), (100, 36), (100, 4), (0, 12), (100, 8), (100, 8), (100, 8), (100, 8), (100, 8), (100, 8), (100, 8), (100, 8), (100, 8), (101, 776), (101, 576), (0, 12), (100, 8), (100, 8), (100, 8), (100, 8), (100, 8), (100, 8), (100, 8), (100, 8), (100, 8), (101, 776), (101, 576), (8, 4), (100, 4), (100, 24), (5, 5), (100, 720), (4, 2), (11, 35), (101, 1200), (100, 8), (100, 48), (100, 576), (100, 144), (100, 8), (100, 8), (100, 8), (100, 8), (100, 8), (100, 8), (100, 800), (100, 4), (100, 720), (103, 1)]
def rfT : List (Nat × Nat × Nat) := [(0, 4, 20), (0, 5, 24), (0, 6, 87), (0, 7, 112), (0, 8, 124), (0, 9, 136), (0, 10, 139), (0, 11, 141), (1, 4, 2), (1, 5, 3), (1, 6, 4), (1, 7, 5), (1, 8, 6), (1, 9, 7), (1, 10, 8), (1, 11, 9), (1, 12, 10), (1, 13, 11), (1, 14, 12), (1, 15, 13), (1, 16, 14), (1, 17, 15), (1, 18, 16), (16, 2, 17), (16, 3, 18), (16, 4, 19), (20, 2, 21), (20, 3, 22), (20, 4, 23), (24, 0, 25), (24, 1, 26), (25, 0, 27), (25, 1, 31), (25, 2, 35), (25, 3, 39), (25, 4, 43), (25, 5, 47), (25, 6, 51), (25, 7, 55), (25, 8, 59), (25, 9, 63), (25, 10, 67), (25, 11, 71), (26, 0, 75), (26, 1, 79), (26, 2, 83), (27, 2, 28), (27, 3, 29), (27, 4, 30), (31, 2, 32), (31, 3, 33), (31, 4, 34), (35, 2, 36), (35, 3, 37), (35, 4, 38), (39, 2, 40), (39, 3, 41), (39, 4, 42), (43, 2, 44), (43, 3, 45), (43, 4, 46), (47, 2, 48), (47, 3, 49), (47, 4, 50), (51, 2, 52), (51, 3, 53), (51, 4, 54), (55, 2, 56), (55, 3, 57), (55, 4, 58), (59, 2, 60), (59, 3, 61), (59, 4, 62), (63, 2, 64), (63, 3, 65), (63, 4, 66), (67, 2, 68), (67, 3, 69), (67, 4, 70), (71, 2, 72), (71, 3, 73), (71, 4, 74), (75, 2, 76), (75, 3, 77), (75, 4, 78), (79, 2, 80), (79, 3, 81), (79, 4, 82), (83, 2, 84), (83, 3, 85), (83, 4, 86), (87, 0, 88), (87, 1, 90), (87, 2, 91), (87, 3, 92), (88, 0, 89), (93, 4, 94), (93, 5, 95), (93, 6, 96), (93, 7, 97), (93, 8, 98), (93, 9, 99), (93, 10, 100), (93, 11, 101), (93, 12, 102), (93, 13, 103), (93, 14, 104), (93, 15, 105), (93, 16, 106), (93, 17, 107), (93, 18, 108), (108, 2, 109), (108, 3, 110), (108, 4, 111), (112, 0, 113), (112, 1, 114), (112, 2, 115), (112, 3, 116), (112, 4, 117), (112, 5, 118), (112, 6, 119), (112, 7, 120), (112, 8, 121), (112, 9, 122), (112, 10, 123), (124, 0, 125), (124, 1, 126), (124, 2, 127), (124, 3, 128), (124, 4, 129), (124, 5, 130), (124, 6, 131), (124, 7, 132), (124, 8, 133), (124, 9, 134), (124, 10, 135), (136, 0, 137), (136, 1, 138), (139, 0, 140), (142, 5, 143), (142, 16, 144), (142, 18, 145), (142, 19, 146), (142, 20, 147), (142, 23, 148), (142, 24, 149), (142, 25, 150), (142, 26, 151), (142, 27, 152), (142, 28, 153), (142, 29, 154), (142, 30, 155), (142, 31, 156)]
def Wd (w : WR) : Prop := 158 ≤ w.2.2 ∧ (∀ k, k < 158 → w.2.1 k = shT.getD k (0, 0)) ∧ ∀ q ∈ rfT, w.1 q.1 q.2.1 = some q.2.2
theorem Wdo_0 {m : Mm} (h : Wd m.2.2) : oS m 0 9 := ⟨Nat.lt_of_lt_of_le (by decide) h.1, congrArg Prod.fst (h.2.1 0 (by decide))⟩
theorem Wdo_24 {m : Mm} (h : Wd m.2.2) : oS m 24 2 := ⟨Nat.lt_of_lt_of_le (by decide) h.1, congrArg Prod.fst (h.2.1 24 (by decide))⟩
theorem Wdo_25 {m : Mm} (h : Wd m.2.2) : oS m 25 104 := ⟨Nat.lt_of_lt_of_le (by decide) h.1, congrArg Prod.fst (h.2.1 25 (by decide))⟩
theorem Wdn_25 {m : Mm} (h : Wd m.2.2) : (mS m 25).2 = 12 := congrArg Prod.snd (h.2.1 25 (by decide))
theorem Wdi_25 {m : Mm} {x : Int32} (h : Wd m.2.2) (hin : vp_in x 12) : oS m 25 104 ∧ vp_in x (mS m 25).2 := ⟨Wdo_25 h, by rw [Wdn_25 h]; exact hin⟩
theorem Wdo_26 {m : Mm} (h : Wd m.2.2) : oS m 26 104 := ⟨Nat.lt_of_lt_of_le (by decide) h.1, congrArg Prod.fst (h.2.1 26 (by decide))⟩
theorem Wdn_26 {m : Mm} (h : Wd m.2.2) : (mS m 26).2 = 3 := congrArg Prod.snd (h.2.1 26 (by decide))
theorem Wdi_26 {m : Mm} {x : Int32} (h : Wd m.2.2) (hin : vp_in x 3) : oS m 26 104 ∧ vp_in x (mS m 26).2 := ⟨Wdo_26 h, by rw [Wdn_26 h]; exact hin⟩
theorem Wdo_87 {m : Mm} (h : Wd m.2.2) : oS m 87 3 := ⟨Nat.lt_of_lt_of_le (by decide) h.1, congrArg Prod.fst (h.2.1 87 (by decide))⟩
theorem Wdo_88 {m : Mm} (h : Wd m.2.2) : oS m 88 7 := ⟨Nat.lt_of_lt_of_le (by decide) h.1, congrArg Prod.fst (h.2.1 88 (by decide))⟩
theorem Wdo_89 {m : Mm} (h : Wd m.2.2) : oS m 89 101 := ⟨Nat.lt_of_lt_of_le (by decide) h.1, congrArg Prod.fst (h.2.1 89 (by decide))⟩
theorem Wdn_89 {m : Mm} (h : Wd m.2.2) : (mS m 89).2 = 1200 := congrArg Prod.snd (h.2.1 89 (by decide))
theorem Wdi_89 {m : Mm} {x : Int32} (h : Wd m.2.2) (hin : vp_in x 1200) : oS m 89 101 ∧ vp_in x (mS m 89).2 := ⟨Wdo_89 h, by rw [Wdn_89 h]; exact hin⟩
theorem Wdo_90 {m : Mm} (h : Wd m.2.2) : oS m 90 103 := ⟨Nat.lt_of_lt_of_le (by decide) h.1, congrArg Prod.fst (h.2.1 90 (by decide))⟩
theorem Wdn_90 {m : Mm} (h : Wd m.2.2) : (mS m 90).2 = 24 := congrArg Prod.snd (h.2.1 90 (by decide))
theorem Wdi_90 {m : Mm} {x : Int32} (h : Wd m.2.2) (hin : vp_in x 24) : oS m 90 103 ∧ vp_in x (mS m 90).2 := ⟨Wdo_90 h, by rw [Wdn_90 h]; exact hin⟩
theorem Wdo_91 {m : Mm} (h : Wd m.2.2) : oS m 91 100 := ⟨Nat.lt_of_lt_of_le (by decide) h.1, congrArg Prod.fst (h.2.1 91 (by decide))⟩
theorem Wdn_91 {m : Mm} (h : Wd m.2.2) : (mS m 91).2 = 24 := congrArg Prod.snd (h.2.1 91 (by decide))
theorem Wdi_91 {m : Mm} {x : Int32} (h : Wd m.2.2) (hin : vp_in x 24) : oS m 91 100 ∧ vp_in x (mS m 91).2 := ⟨Wdo_91 h, by rw [Wdn_91 h]; exact hin⟩
theorem Wdo_92 {m : Mm} (h : Wd m.2.2) : oS m 92 100 := ⟨Nat.lt_of_lt_of_le (by decide) h.1, congrArg Prod.fst (h.2.1 92 (by decide))⟩
theorem Wdn_92 {m : Mm} (h : Wd m.2.2) : (mS m 92).2 = 24 := congrArg Prod.snd (h.2.1 92 (by decide))
theorem Wdi_92 {m : Mm} {x : Int32} (h : Wd m.2.2) (hin : vp_in x 24) : oS m 92 100 ∧ vp_in x (mS m 92).2 := ⟨Wdo_92 h, by rw [Wdn_92 h]; exact hin⟩
theorem Wdo_136 {m : Mm} (h : Wd m.2.2) : oS m 136 8 := ⟨Nat.lt_of_lt_of_le (by decide) h.1, congrArg Prod.fst (h.2.1 136 (by decide))⟩
theorem Wdo_137 {m : Mm} (h : Wd m.2.2) : oS m 137 100 := ⟨Nat.lt_of_lt_of_le (by decide) h.1, congrArg Prod.fst (h.2.1 137 (by decide))⟩
theorem Wdn_137 {m : Mm} (h : Wd m.2.2) : (mS m 137).2 = 4 := congrArg Prod.snd (h.2.1 137 (by decide))
theorem Wdi_137 {m : Mm} {x : Int32} (h : Wd m.2.2) (hin : vp_in x 4) : oS m 137 100 ∧ vp_in x (mS m 137).2 := ⟨Wdo_137 h, by rw [Wdn_137 h]; exact hin⟩
theorem Wdo_138 {m : Mm} (h : Wd m.2.2) : oS m 138 100 := ⟨Nat.lt_of_lt_of_le (by decide) h.1, congrArg Prod.fst (h.2.1 138 (by decide))⟩
theorem Wdn_138 {m : Mm} (h : Wd m.2.2) : (mS m 138).2 = 24 := congrArg Prod.snd (h.2.1 138 (by decide))
theorem Wdi_138 {m : Mm} {x : Int32} (h : Wd m.2.2) (hin : vp_in x 24) : oS m 138 100 ∧ vp_in x (mS m 138).2 := ⟨Wdo_138 h, by rw [Wdn_138 h]; exact hin⟩
theorem Wdo_139 {m : Mm} (h : Wd m.2.2) : oS m 139 5 := ⟨Nat.lt_of_lt_of_le (by decide) h.1, congrArg Prod.fst (h.2.1 139 (by decide))⟩
theorem Wdo_140 {m : Mm} (h : Wd m.2.2) : oS m 140 100 := ⟨Nat.lt_of_lt_of_le (by decide) h.1, congrArg Prod.fst (h.2.1 140 (by decide))⟩
theorem Wdn_140 {m : Mm} (h : Wd m.2.2) : (mS m 140).2 = 720 := congrArg Prod.snd (h.2.1 140 (by decide))
theorem Wdi_140 {m : Mm} {x : Int32} (h : Wd m.2.2) (hin : vp_in x 720) : oS m 140 100 ∧ vp_in x (mS m 140).2 := ⟨Wdo_140 h, by rw [Wdn_140 h]; exact hin⟩
theorem Wdo_141 {m : Mm} (h : Wd m.2.2) : oS m 141 4 := ⟨Nat.lt_of_lt_of_le (by decide) h.1, congrArg Prod.fst (h.2.1 141 (by decide))⟩
theorem Wdo_142 {m : Mm} (h : Wd m.2.2) : oS m 142 11 := ⟨Nat.lt_of_lt_of_le (by decide) h.1, congrArg Prod.fst (h.2.1 142 (by decide))⟩
theorem Wdo_143 {m : Mm} (h : Wd m.2.2) : oS m 143 101 := ⟨Nat.lt_of_lt_of_le (by decide) h.1, congrArg Prod.fst (h.2.1 143 (by decide))⟩
theorem Wdn_143 {m : Mm} (h : Wd m.2.2) : (mS m 143).2 = 1200 := congrArg Prod.snd (h.2.1 143 (by decide))
theorem Wdi_143 {m : Mm} {x : Int32} (h : Wd m.2.2) (hin : vp_in x 1200) : oS m 143 101 ∧ vp_in x (mS m 143).2 := ⟨Wdo_143 h, by rw [Wdn_143 h]; exact hin⟩
theorem Wdo_144 {m : Mm} (h : Wd m.2.2) : oS m 144 100 := ⟨Nat.lt_of_lt_of_le (by decide) h.1, congrArg Prod.fst (h.2.1 144 (by decide))⟩
theorem Wdn_144 {m : Mm} (h : Wd m.2.2) : (mS m 144).2 = 8 := congrArg Prod.snd (h.2.1 144 (by decide))
theorem Wdi_144 {m : Mm} {x : Int32} (h : Wd m.2.2) (hin : vp_in x 8) : oS m 144 100 ∧ vp_in x (mS m 144).2 := ⟨Wdo_144 h, by rw [Wdn_144 h]; exact hin⟩
theorem Wdo_145 {m : Mm} (h : Wd m.2.2) : oS m 145 100 := ⟨Nat.lt_of_lt_of_le (by decide) h.1, congrArg Prod.fst (h.2.1 145 (by decide))⟩
theorem Wdn_145 {m : Mm} (h : Wd m.2.2) : (mS m 145).2 = 48 := congrArg Prod.snd (h.2.1 145 (by decide))
theorem Wdi_145 {m : Mm} {x : Int32} (h : Wd m.2.2) (hin : vp_in x 48) : oS m 145 100 ∧ vp_in x (mS m 145).2 := ⟨Wdo_145 h, by rw [Wdn_145 h]; exact hin⟩
theorem Wdo_146 {m : Mm} (h : Wd m.2.2) : oS m 146 100 := ⟨Nat.lt_of_lt_of_le (by decide) h.1, congrArg Prod.fst (h.2.1 146 (by decide))⟩
theorem Wdn_146 {m : Mm} (h : Wd m.2.2) : (mS m 146).2 = 576 := congrArg Prod.snd (h.2.1 146 (by decide))
theorem Wdi_146 {m : Mm} {x : Int32} (h : Wd m.2.2) (hin : vp_in x 576) : oS m 146 100 ∧ vp_in x (mS m 146).2 := ⟨Wdo_146 h, by rw [Wdn_146 h]; exact hin⟩
theorem Wdo_147 {m : Mm} (h : Wd m.2.2) : oS m 147 100 := ⟨Nat.lt_of_lt_of_le (by decide) h.1, congrArg Prod.fst (h.2.1 147 (by decide))⟩
theorem Wdn_147 {m : Mm} (h : Wd m.2.2) : (mS m 147).2 = 144 := congrArg Prod.snd (h.2.1 147 (by decide))
theorem Wdi_147 {m : Mm} {x : Int32} (h : Wd m.2.2) (hin : vp_in x 144) : oS m 147 100 ∧ vp_in x (mS m 147).2 := ⟨Wdo_147 h, by rw [Wdn_147 h]; exact hin⟩
theorem Wdo_148 {m : Mm} (h : Wd m.2.2) : oS m 148 100 := ⟨Nat.lt_of_lt_of_le (by decide) h.1, congrArg Prod.fst (h.2.1 148 (by decide))⟩
theorem Wdn_148 {m : Mm} (h : Wd m.2.2) : (mS m 148).2 = 8 := congrArg Prod.snd (h.2.1 148 (by decide))
theorem Wdi_148 {m : Mm} {x : Int32} (h : Wd m.2.2) (hin : vp_in x 8) : oS m 148 100 ∧ vp_in x (mS m 148).2 := ⟨Wdo_148 h, by rw [Wdn_148 h]; exact hin⟩
theorem Wdo_149 {m : Mm} (h : Wd m.2.2) : oS m 149 100 := ⟨Nat.lt_of_lt_of_le (by decide) h.1, congrArg Prod.fst (h.2.1 149 (by decide))⟩
theorem Wdn_149 {m : Mm} (h : Wd m.2.2) : (mS m 149).2 = 8 := congrArg Prod.snd (h.2.1 149 (by decide))
theorem Wdi_149 {m : Mm} {x : Int32} (h : Wd m.2.2) (hin : vp_in x 8) : oS m 149 100 ∧ vp_in x (mS m 149).2 := ⟨Wdo_149 h, by rw [Wdn_149 h]; exact hin⟩
theorem Wdo_150 {m : Mm} (h : Wd m.2.2) : oS m 150 100 := ⟨Nat.lt_of_lt_of_le (by decide) h.1, congrArg Prod.fst (h.2.1 150 (by decide))⟩
theorem Wdn_150 {m : Mm} (h : Wd m.2.2) : (mS m 150).2 = 8 := congrArg Prod.snd (h.2.1 150 (by decide))
theorem Wdi_150 {m : Mm} {x : Int32} (h : Wd m.2.2) (hin : vp_in x 8) : oS m 150 100 ∧ vp_in x (mS m 150).2 := ⟨Wdo_150 h, by rw [Wdn_150 h]; exact hin⟩
theorem Wdo_151 {m : Mm} (h : Wd m.2.2) : oS m 151 100 := ⟨Nat.lt_of_lt_of_le (by decide) h.1, congrArg Prod.fst (h.2.1 151 (by decide))⟩
theorem Wdn_151 {m : Mm} (h : Wd m.2.2) : (mS m 151).2 = 8 := congrArg Prod.snd (h.2.1 151 (by decide))
theorem Wdi_151 {m : Mm} {x : Int32} (h : Wd m.2.2) (hin : vp_in x 8) : oS m 151 100 ∧ vp_in x (mS m 151).2 := ⟨Wdo_151 h, by rw [Wdn_151 h]; exact hin⟩
theorem Wdo_152 {m : Mm} (h : Wd m.2.2) : oS m 152 100 := ⟨Nat.lt_of_lt_of_le (by decide) h.1, congrArg Prod.fst (h.2.1 152 (by decide))⟩
theorem Wdn_152 {m : Mm} (h : Wd m.2.2) : (mS m 152).2 = 8 := congrArg Prod.snd (h.2.1 152 (by decide))
theorem Wdi_152 {m : Mm} {x : Int32} (h : Wd m.2.2) (hin : vp_in x 8) : oS m 152 100 ∧ vp_in x (mS m 152).2 := ⟨Wdo_152 h, by rw [Wdn_152 h]; exact hin⟩
theorem Wdo_153 {m : Mm} (h : Wd m.2.2) : oS m 153 100 := ⟨Nat.lt_of_lt_of_le (by decide) h.1, congrArg Prod.fst (h.2.1 153 (by decide))⟩
theorem Wdn_153 {m : Mm} (h : Wd m.2.2) : (mS m 153).2 = 8 := congrArg Prod.snd (h.2.1 153 (by decide))
theorem Wdi_153 {m : Mm} {x : Int32} (h : Wd m.2.2) (hin : vp_in x 8) : oS m 153 100 ∧ vp_in x (mS m 153).2 := ⟨Wdo_153 h, by rw [Wdn_153 h]; exact hin⟩
theorem Wdo_154 {m : Mm} (h : Wd m.2.2) : oS m 154 100 := ⟨Nat.lt_of_lt_of_le (by decide) h.1, congrArg Prod.fst (h.2.1 154 (by decide))⟩
theorem Wdn_154 {m : Mm} (h : Wd m.2.2) : (mS m 154).2 = 800 := congrArg Prod.snd (h.2.1 154 (by decide))
theorem Wdi_154 {m : Mm} {x : Int32} (h : Wd m.2.2) (hin : vp_in x 800) : oS m 154 100 ∧ vp_in x (mS m 154).2 := ⟨Wdo_154 h, by rw [Wdn_154 h]; exact hin⟩
theorem Wdo_155 {m : Mm} (h : Wd m.2.2) : oS m 155 100 := ⟨Nat.lt_of_lt_of_le (by decide) h.1, congrArg Prod.fst (h.2.1 155 (by decide))⟩
theorem Wdn_155 {m : Mm} (h : Wd m.2.2) : (mS m 155).2 = 4 := congrArg Prod.snd (h.2.1 155 (by decide))
theorem Wdi_155 {m : Mm} {x : Int32} (h : Wd m.2.2) (hin : vp_in x 4) : oS m 155 100 ∧ vp_in x (mS m 155).2 := ⟨Wdo_155 h, by rw [Wdn_155 h]; exact hin⟩
theorem Wdo_156 {m : Mm} (h : Wd m.2.2) : oS m 156 100 := ⟨Nat.lt_of_lt_of_le (by decide) h.1, congrArg Prod.fst (h.2.1 156 (by decide))⟩
theorem Wdn_156 {m : Mm} (h : Wd m.2.2) : (mS m 156).2 = 720 := congrArg Prod.snd (h.2.1 156 (by decide))
theorem Wdi_156 {m : Mm} {x : Int32} (h : Wd m.2.2) (hin : vp_in x 720) : oS m 156 100 ∧ vp_in x (mS m 156).2 := ⟨Wdo_156 h, by rw [Wdn_156 h]; exact hin⟩
theorem Wdo_157 {m : Mm} (h : Wd m.2.2) : oS m 157 103 := ⟨Nat.lt_of_lt_of_le (by decide) h.1, congrArg Prod.fst (h.2.1 157 (by decide))⟩
theorem Wdn_157 {m : Mm} (h : Wd m.2.2) : (mS m 157).2 = 1 := congrArg Prod.snd (h.2.1 157 (by decide))
theorem Wdi_157 {m : Mm} {x : Int32} (h : Wd m.2.2) (hin : vp_in x 1) : oS m 157 103 ∧ vp_in x (mS m 157).2 := ⟨Wdo_157 h, by rw [Wdn_157 h]; exact hin⟩
theorem Wdr_0_4 {m : Mm} (h : Wd m.2.2) : va_rf (mR m 0 4) = .ref 20 := congrArg va_rf (h.2.2 (0, 4, 20) (List.mem_of_getElem? (i := 0) rfl))
theorem Wdr_0_5 {m : Mm} (h : Wd m.2.2) : va_rf (mR m 0 5) = .ref 24 := congrArg va_rf (h.2.2 (0, 5, 24) (List.mem_of_getElem? (i := 1) rfl))
theorem Wdr_0_6 {m : Mm} (h : Wd m.2.2) : va_rf (mR m 0 6) = .ref 87 := congrArg va_rf (h.2.2 (0, 6, 87) (List.mem_of_getElem? (i := 2) rfl))
theorem Wdr_0_7 {m : Mm} (h : Wd m.2.2) : va_rf (mR m 0 7) = .ref 112 := congrArg va_rf (h.2.2 (0, 7, 112) (List.mem_of_getElem? (i := 3) rfl))
theorem Wdr_0_8 {m : Mm} (h : Wd m.2.2) : va_rf (mR m 0 8) = .ref 124 := congrArg va_rf (h.2.2 (0, 8, 124) (List.mem_of_getElem? (i := 4) rfl))
theorem Wdr_0_9 {m : Mm} (h : Wd m.2.2) : va_rf (mR m 0 9) = .ref 136 := congrArg va_rf (h.2.2 (0, 9, 136) (List.mem_of_getElem? (i := 5) rfl))
theorem Wdr_0_10 {m : Mm} (h : Wd m.2.2) : va_rf (mR m 0 10) = .ref 139 := congrArg va_rf (h.2.2 (0, 10, 139) (List.mem_of_getElem? (i := 6) rfl))
theorem Wdr_0_11 {m : Mm} (h : Wd m.2.2) : va_rf (mR m 0 11) = .ref 141 := congrArg va_rf (h.2.2 (0, 11, 141) (List.mem_of_getElem? (i := 7) rfl))
theorem Wdr_24_0 {m : Mm} (h : Wd m.2.2) : va_rf (mR m 24 0) = .ref 25 := congrArg va_rf (h.2.2 (24, 0, 25) (List.mem_of_getElem? (i := 29) rfl))
theorem Wdr_24_1 {m : Mm} (h : Wd m.2.2) : va_rf (mR m 24 1) = .ref 26 := congrArg va_rf (h.2.2 (24, 1, 26) (List.mem_of_getElem? (i := 30) rfl))
theorem Wdr_87_0 {m : Mm} (h : Wd m.2.2) : va_rf (mR m 87 0) = .ref 88 := congrArg va_rf (h.2.2 (87, 0, 88) (List.mem_of_getElem? (i := 91) rfl))
theorem Wdr_87_1 {m : Mm} (h : Wd m.2.2) : va_rf (mR m 87 1) = .ref 90 := congrArg va_rf (h.2.2 (87, 1, 90) (List.mem_of_getElem? (i := 92) rfl))
theorem Wdr_87_2 {m : Mm} (h : Wd m.2.2) : va_rf (mR m 87 2) = .ref 91 := congrArg va_rf (h.2.2 (87, 2, 91) (List.mem_of_getElem? (i := 93) rfl))
theorem Wdr_87_3 {m : Mm} (h : Wd m.2.2) : va_rf (mR m 87 3) = .ref 92 := congrArg va_rf (h.2.2 (87, 3, 92) (List.mem_of_getElem? (i := 94) rfl))
theorem Wdr_88_0 {m : Mm} (h : Wd m.2.2) : va_rf (mR m 88 0) = .ref 89 := congrArg va_rf (h.2.2 (88, 0, 89) (List.mem_of_getElem? (i := 95) rfl))
theorem Wdr_136_0 {m : Mm} (h : Wd m.2.2) : va_rf (mR m 136 0) = .ref 137 := congrArg va_rf (h.2.2 (136, 0, 137) (List.mem_of_getElem? (i := 136) rfl))
theorem Wdr_136_1 {m : Mm} (h : Wd m.2.2) : va_rf (mR m 136 1) = .ref 138 := congrArg va_rf (h.2.2 (136, 1, 138) (List.mem_of_getElem? (i := 137) rfl))
theorem Wdr_139_0 {m : Mm} (h : Wd m.2.2) : va_rf (mR m 139 0) = .ref 140 := congrArg va_rf (h.2.2 (139, 0, 140) (List.mem_of_getElem? (i := 138) rfl))
theorem Wdr_142_5 {m : Mm} (h : Wd m.2.2) : va_rf (mR m 142 5) = .ref 143 := congrArg va_rf (h.2.2 (142, 5, 143) (List.mem_of_getElem? (i := 139) rfl))
theorem Wdr_142_16 {m : Mm} (h : Wd m.2.2) : va_rf (mR m 142 16) = .ref 144 := congrArg va_rf (h.2.2 (142, 16, 144) (List.mem_of_getElem? (i := 140) rfl))
theorem Wdr_142_18 {m : Mm} (h : Wd m.2.2) : va_rf (mR m 142 18) = .ref 145 := congrArg va_rf (h.2.2 (142, 18, 145) (List.mem_of_getElem? (i := 141) rfl))
theorem Wdr_142_19 {m : Mm} (h : Wd m.2.2) : va_rf (mR m 142 19) = .ref 146 := congrArg va_rf (h.2.2 (142, 19, 146) (List.mem_of_getElem? (i := 142) rfl))
theorem Wdr_142_20 {m : Mm} (h : Wd m.2.2) : va_rf (mR m 142 20) = .ref 147 := congrArg va_rf (h.2.2 (142, 20, 147) (List.mem_of_getElem? (i := 143) rfl))
theorem Wdr_142_23 {m : Mm} (h : Wd m.2.2) : va_rf (mR m 142 23) = .ref 148 := congrArg va_rf (h.2.2 (142, 23, 148) (List.mem_of_getElem? (i := 144) rfl))
theorem Wdr_142_24 {m : Mm} (h : Wd m.2.2) : va_rf (mR m 142 24) = .ref 149 := congrArg va_rf (h.2.2 (142, 24, 149) (List.mem_of_getElem? (i := 145) rfl))
theorem Wdr_142_25 {m : Mm} (h : Wd m.2.2) : va_rf (mR m 142 25) = .ref 150 := congrArg va_rf (h.2.2 (142, 25, 150) (List.mem_of_getElem? (i := 146) rfl))
theorem Wdr_142_26 {m : Mm} (h : Wd m.2.2) : va_rf (mR m 142 26) = .ref 151 := congrArg va_rf (h.2.2 (142, 26, 151) (List.mem_of_getElem? (i := 147) rfl))
theorem Wdr_142_27 {m : Mm} (h : Wd m.2.2) : va_rf (mR m 142 27) = .ref 152 := congrArg va_rf (h.2.2 (142, 27, 152) (List.mem_of_getElem? (i := 148) rfl))
theorem Wdr_142_28 {m : Mm} (h : Wd m.2.2) : va_rf (mR m 142 28) = .ref 153 := congrArg va_rf (h.2.2 (142, 28, 153) (List.mem_of_getElem? (i := 149) rfl))
theorem Wdr_142_29 {m : Mm} (h : Wd m.2.2) : va_rf (mR m 142 29) = .ref 154 := congrArg va_rf (h.2.2 (142, 29, 154) (List.mem_of_getElem? (i := 150) rfl))
theorem Wdr_142_30 {m : Mm} (h : Wd m.2.2) : va_rf (mR m 142 30) = .ref 155 := congrArg va_rf (h.2.2 (142, 30, 155) (List.mem_of_getElem? (i := 151) rfl))
theorem Wdr_142_31 {m : Mm} (h : Wd m.2.2) : va_rf (mR m 142 31) = .ref 156 := congrArg va_rf (h.2.2 (142, 31, 156) (List.mem_of_getElem? (i := 152) rfl))
theorem Wd_S {w : WR} (h : Wd w) : SW w 20 := ⟨by have := h.1; omega, h.2.1 20 (by decide), h.2.1 21 (by decide), h.2.1 22 (by decide), h.2.1 23 (by decide), h.2.2 (20, 2, 21) (List.mem_of_getElem? (i := 26) rfl), h.2.2 (20, 3, 22) (List.mem_of_getElem? (i := 27) rfl), h.2.2 (20, 4, 23) (List.mem_of_getElem? (i := 28) rfl)⟩
theorem Wd_D1 {w : WR} (h : Wd w) : DW w 112 := ⟨by have := h.1; omega, h.2.1 112 (by decide), h.2.1 113 (by decide), h.2.1 114 (by decide), h.2.1 115 (by decide), h.2.1 116 (by decide), h.2.1 117 (by decide), h.2.1 118 (by decide), h.2.1 119 (by decide), h.2.1 120 (by decide), h.2.1 121 (by decide), h.2.1 122 (by decide), h.2.1 123 (by decide), h.2.2 (112, 0, 113) (List.mem_of_getElem? (i := 114) rfl), h.2.2 (112, 1, 114) (List.mem_of_getElem? (i := 115) rfl), h.2.2 (112, 2, 115) (List.mem_of_getElem? (i := 116) rfl), h.2.2 (112, 3, 116) (List.mem_of_getElem? (i := 117) rfl), h.2.2 (112, 4, 117) (List.mem_of_getElem? (i := 118) rfl), h.2.2 (112, 5, 118) (List.mem_of_getElem? (i := 119) rfl), h.2.2 (112, 6, 119) (List.mem_of_getElem? (i := 120) rfl), h.2.2 (112, 7, 120) (List.mem_of_getElem? (i := 121) rfl), h.2.2 (112, 8, 121) (List.mem_of_getElem? (i := 122) rfl), h.2.2 (112, 9, 122) (List.mem_of_getElem? (i := 123) rfl), h.2.2 (112, 10, 123) (List.mem_of_getElem? (i := 124) rfl)⟩
theorem Wd_D2 {w : WR} (h : Wd w) : DW w 124 := ⟨by have := h.1; omega, h.2.1 124 (by decide), h.2.1 125 (by decide), h.2.1 126 (by decide), h.2.1 127 (by decide), h.2.1 128 (by decide), h.2.1 129 (by decide), h.2.1 130 (by decide), h.2.1 131 (by decide), h.2.1 132 (by decide), h.2.1 133 (by decide), h.2.1 134 (by decide), h.2.1 135 (by decide), h.2.2 (124, 0, 125) (List.mem_of_getElem? (i := 125) rfl), h.2.2 (124, 1, 126) (List.mem_of_getElem? (i := 126) rfl), h.2.2 (124, 2, 127) (List.mem_of_getElem? (i := 127) rfl), h.2.2 (124, 3, 128) (List.mem_of_getElem? (i := 128) rfl), h.2.2 (124, 4, 129) (List.mem_of_getElem? (i := 129) rfl), h.2.2 (124, 5, 130) (List.mem_of_getElem? (i := 130) rfl), h.2.2 (124, 6, 131) (List.mem_of_getElem? (i := 131) rfl), h.2.2 (124, 7, 132) (List.mem_of_getElem? (i := 132) rfl), h.2.2 (124, 8, 133) (List.mem_of_getElem? (i := 133) rfl), h.2.2 (124, 9, 134) (List.mem_of_getElem? (i := 134) rfl), h.2.2 (124, 10, 135) (List.mem_of_getElem? (i := 135) rfl)⟩
theorem Wd_L1 {w : WR} (h : Wd w) : LW w 1 := ⟨by have := h.1; omega, h.2.1 1 (by decide), h.2.1 2 (by decide), h.2.1 3 (by decide), h.2.1 4 (by decide), h.2.1 5 (by decide), h.2.1 6 (by decide), h.2.1 7 (by decide), h.2.1 8 (by decide), h.2.1 9 (by decide), h.2.1 10 (by decide), h.2.1 11 (by decide), h.2.1 12 (by decide), h.2.1 13 (by decide), h.2.1 14 (by decide), h.2.1 15 (by decide), h.2.1 16 (by decide), h.2.1 17 (by decide), h.2.1 18 (by decide), h.2.1 19 (by decide), h.2.2 (1, 4, 2) (List.mem_of_getElem? (i := 8) rfl), h.2.2 (1, 5, 3) (List.mem_of_getElem? (i := 9) rfl), h.2.2 (1, 6, 4) (List.mem_of_getElem? (i := 10) rfl), h.2.2 (1, 7, 5) (List.mem_of_getElem? (i := 11) rfl), h.2.2 (1, 8, 6) (List.mem_of_getElem? (i := 12) rfl), h.2.2 (1, 9, 7) (List.mem_of_getElem? (i := 13) rfl), h.2.2 (1, 10, 8) (List.mem_of_getElem? (i := 14) rfl), h.2.2 (1, 11, 9) (List.mem_of_getElem? (i := 15) rfl), h.2.2 (1, 12, 10) (List.mem_of_getElem? (i := 16) rfl), h.2.2 (1, 13, 11) (List.mem_of_getElem? (i := 17) rfl), h.2.2 (1, 14, 12) (List.mem_of_getElem? (i := 18) rfl), h.2.2 (1, 15, 13) (List.mem_of_getElem? (i := 19) rfl), h.2.2 (1, 16, 14) (List.mem_of_getElem? (i := 20) rfl), h.2.2 (1, 17, 15) (List.mem_of_getElem? (i := 21) rfl), h.2.2 (1, 18, 16) (List.mem_of_getElem? (i := 22) rfl), h.2.2 (16, 2, 17) (List.mem_of_getElem? (i := 23) rfl), h.2.2 (16, 3, 18) (List.mem_of_getElem? (i := 24) rfl), h.2.2 (16, 4, 19) (List.mem_of_getElem? (i := 25) rfl)⟩
theorem Wd_L2 {w : WR} (h : Wd w) : LW w 93 := ⟨by have := h.1; omega, h.2.1 93 (by decide), h.2.1 94 (by decide), h.2.1 95 (by decide), h.2.1 96 (by decide), h.2.1 97 (by decide), h.2.1 98 (by decide), h.2.1 99 (by decide), h.2.1 100 (by decide), h.2.1 101 (by decide), h.2.1 102 (by decide), h.2.1 103 (by decide), h.2.1 104 (by decide), h.2.1 105 (by decide), h.2.1 106 (by decide), h.2.1 107 (by decide), h.2.1 108 (by decide), h.2.1 109 (by decide), h.2.1 110 (by decide), h.2.1 111 (by decide), h.2.2 (93, 4, 94) (List.mem_of_getElem? (i := 96) rfl), h.2.2 (93, 5, 95) (List.mem_of_getElem? (i := 97) rfl), h.2.2 (93, 6, 96) (List.mem_of_getElem? (i := 98) rfl), h.2.2 (93, 7, 97) (List.mem_of_getElem? (i := 99) rfl), h.2.2 (93, 8, 98) (List.mem_of_getElem? (i := 100) rfl), h.2.2 (93, 9, 99) (List.mem_of_getElem? (i := 101) rfl), h.2.2 (93, 10, 100) (List.mem_of_getElem? (i := 102) rfl), h.2.2 (93, 11, 101) (List.mem_of_getElem? (i := 103) rfl), h.2.2 (93, 12, 102) (List.mem_of_getElem? (i := 104) rfl), h.2.2 (93, 13, 103) (List.mem_of_getElem? (i := 105) rfl), h.2.2 (93, 14, 104) (List.mem_of_getElem? (i := 106) rfl), h.2.2 (93, 15, 105) (List.mem_of_getElem? (i := 107) rfl), h.2.2 (93, 16, 106) (List.mem_of_getElem? (i := 108) rfl), h.2.2 (93, 17, 107) (List.mem_of_getElem? (i := 109) rfl), h.2.2 (93, 18, 108) (List.mem_of_getElem? (i := 110) rfl), h.2.2 (108, 2, 109) (List.mem_of_getElem? (i := 111) rfl), h.2.2 (108, 3, 110) (List.mem_of_getElem? (i := 112) rfl), h.2.2 (108, 4, 111) (List.mem_of_getElem? (i := 113) rfl)⟩
theorem Wd_A0 {w : WR} (h : Wd w) : SW w 27 := ⟨by have := h.1; omega, h.2.1 27 (by decide), h.2.1 28 (by decide), h.2.1 29 (by decide), h.2.1 30 (by decide), h.2.2 (27, 2, 28) (List.mem_of_getElem? (i := 46) rfl), h.2.2 (27, 3, 29) (List.mem_of_getElem? (i := 47) rfl), h.2.2 (27, 4, 30) (List.mem_of_getElem? (i := 48) rfl)⟩
theorem Wd_A1 {w : WR} (h : Wd w) : SW w 31 := ⟨by have := h.1; omega, h.2.1 31 (by decide), h.2.1 32 (by decide), h.2.1 33 (by decide), h.2.1 34 (by decide), h.2.2 (31, 2, 32) (List.mem_of_getElem? (i := 49) rfl), h.2.2 (31, 3, 33) (List.mem_of_getElem? (i := 50) rfl), h.2.2 (31, 4, 34) (List.mem_of_getElem? (i := 51) rfl)⟩
theorem Wd_A2 {w : WR} (h : Wd w) : SW w 35 := ⟨by have := h.1; omega, h.2.1 35 (by decide), h.2.1 36 (by decide), h.2.1 37 (by decide), h.2.1 38 (by decide), h.2.2 (35, 2, 36) (List.mem_of_getElem? (i := 52) rfl), h.2.2 (35, 3, 37) (List.mem_of_getElem? (i := 53) rfl), h.2.2 (35, 4, 38) (List.mem_of_getElem? (i := 54) rfl)⟩
theorem Wd_A3 {w : WR} (h : Wd w) : SW w 39 := ⟨by have := h.1; omega, h.2.1 39 (by decide), h.2.1 40 (by decide), h.2.1 41 (by decide), h.2.1 42 (by decide), h.2.2 (39, 2, 40) (List.mem_of_getElem? (i := 55) rfl), h.2.2 (39, 3, 41) (List.mem_of_getElem? (i := 56) rfl), h.2.2 (39, 4, 42) (List.mem_of_getElem? (i := 57) rfl)⟩
theorem Wd_A4 {w : WR} (h : Wd w) : SW w 43 := ⟨by have := h.1; omega, h.2.1 43 (by decide), h.2.1 44 (by decide), h.2.1 45 (by decide), h.2.1 46 (by decide), h.2.2 (43, 2, 44) (List.mem_of_getElem? (i := 58) rfl), h.2.2 (43, 3, 45) (List.mem_of_getElem? (i := 59) rfl), h.2.2 (43, 4, 46) (List.mem_of_getElem? (i := 60) rfl)⟩
theorem Wd_A5 {w : WR} (h : Wd w) : SW w 47 := ⟨by have := h.1; omega, h.2.1 47 (by decide), h.2.1 48 (by decide), h.2.1 49 (by decide), h.2.1 50 (by decide), h.2.2 (47, 2, 48) (List.mem_of_getElem? (i := 61) rfl), h.2.2 (47, 3, 49) (List.mem_of_getElem? (i := 62) rfl), h.2.2 (47, 4, 50) (List.mem_of_getElem? (i := 63) rfl)⟩
theorem Wd_A6 {w : WR} (h : Wd w) : SW w 51 := ⟨by have := h.1; omega, h.2.1 51 (by decide), h.2.1 52 (by decide), h.2.1 53 (by decide), h.2.1 54 (by decide), h.2.2 (51, 2, 52) (List.mem_of_getElem? (i := 64) rfl), h.2.2 (51, 3, 53) (List.mem_of_getElem? (i := 65) rfl), h.2.2 (51, 4, 54) (List.mem_of_getElem? (i := 66) rfl)⟩
theorem Wd_A7 {w : WR} (h : Wd w) : SW w 55 := ⟨by have := h.1; omega, h.2.1 55 (by decide), h.2.1 56 (by decide), h.2.1 57 (by decide), h.2.1 58 (by decide), h.2.2 (55, 2, 56) (List.mem_of_getElem? (i := 67) rfl), h.2.2 (55, 3, 57) (List.mem_of_getElem? (i := 68) rfl), h.2.2 (55, 4, 58) (List.mem_of_getElem? (i := 69) rfl)⟩
theorem Wd_A8 {w : WR} (h : Wd w) : SW w 59 := ⟨by have := h.1; omega, h.2.1 59 (by decide), h.2.1 60 (by decide), h.2.1 61 (by decide), h.2.1 62 (by decide), h.2.2 (59, 2, 60) (List.mem_of_getElem? (i := 70) rfl), h.2.2 (59, 3, 61) (List.mem_of_getElem? (i := 71) rfl), h.2.2 (59, 4, 62) (List.mem_of_getElem? (i := 72) rfl)⟩
theorem Wd_A9 {w : WR} (h : Wd w) : SW w 63 := ⟨by have := h.1; omega, h.2.1 63 (by decide), h.2.1 64 (by decide), h.2.1 65 (by decide), h.2.1 66 (by decide), h.2.2 (63, 2, 64) (List.mem_of_getElem? (i := 73) rfl), h.2.2 (63, 3, 65) (List.mem_of_getElem? (i := 74) rfl), h.2.2 (63, 4, 66) (List.mem_of_getElem? (i := 75) rfl)⟩
theorem Wd_A10 {w : WR} (h : Wd w) : SW w 67 := ⟨by have := h.1; omega, h.2.1 67 (by decide), h.2.1 68 (by decide), h.2.1 69 (by decide), h.2.1 70 (by decide), h.2.2 (67, 2, 68) (List.mem_of_getElem? (i := 76) rfl), h.2.2 (67, 3, 69) (List.mem_of_getElem? (i := 77) rfl), h.2.2 (67, 4, 70) (List.mem_of_getElem? (i := 78) rfl)⟩
theorem Wd_A11 {w : WR} (h : Wd w) : SW w 71 := ⟨by have := h.1; omega, h.2.1 71 (by decide), h.2.1 72 (by decide), h.2.1 73 (by decide), h.2.1 74 (by decide), h.2.2 (71, 2, 72) (List.mem_of_getElem? (i := 79) rfl), h.2.2 (71, 3, 73) (List.mem_of_getElem? (i := 80) rfl), h.2.2 (71, 4, 74) (List.mem_of_getElem? (i := 81) rfl)⟩
theorem Wd_M0 {w : WR} (h : Wd w) : SW w 75 := ⟨by have := h.1; omega, h.2.1 75 (by decide), h.2.1 76 (by decide), h.2.1 77 (by decide), h.2.1 78 (by decide), h.2.2 (75, 2, 76) (List.mem_of_getElem? (i := 82) rfl), h.2.2 (75, 3, 77) (List.mem_of_getElem? (i := 83) rfl), h.2.2 (75, 4, 78) (List.mem_of_getElem? (i := 84) rfl)⟩
theorem Wd_M1 {w : WR} (h : Wd w) : SW w 79 := ⟨by have := h.1; omega, h.2.1 79 (by decide), h.2.1 80 (by decide), h.2.1 81 (by decide), h.2.1 82 (by decide), h.2.2 (79, 2, 80) (List.mem_of_getElem? (i := 85) rfl), h.2.2 (79, 3, 81) (List.mem_of_getElem? (i := 86) rfl), h.2.2 (79, 4, 82) (List.mem_of_getElem? (i := 87) rfl)⟩
theorem Wd_M2 {w : WR} (h : Wd w) : SW w 83 := ⟨by have := h.1; omega, h.2.1 83 (by decide), h.2.1 84 (by decide), h.2.1 85 (by decide), h.2.1 86 (by decide), h.2.2 (83, 2, 84) (List.mem_of_getElem? (i := 88) rfl), h.2.2 (83, 3, 85) (List.mem_of_getElem? (i := 89) rfl), h.2.2 (83, 4, 86) (List.mem_of_getElem? (i := 90) rfl)⟩
theorem Wd_A {w : WR} (h : Wd w) : ∀ i, i < 12 → SW w (27 + 4 * i)
  | 0, _ => Wd_A0 h
  | 1, _ => Wd_A1 h
  | 2, _ => Wd_A2 h
  | 3, _ => Wd_A3 h
  | 4, _ => Wd_A4 h
  | 5, _ => Wd_A5 h
  | 6, _ => Wd_A6 h
  | 7, _ => Wd_A7 h
  | 8, _ => Wd_A8 h
  | 9, _ => Wd_A9 h
  | 10, _ => Wd_A10 h
  | 11, _ => Wd_A11 h
  | n + 12, hn => absurd hn (by omega)
theorem Wd_M {w : WR} (h : Wd w) : ∀ i, i < 3 → SW w (75 + 4 * i)
  | 0, _ => Wd_M0 h
  | 1, _ => Wd_M1 h
  | 2, _ => Wd_M2 h
  | n + 3, hn => absurd hn (by omega)
theorem Wdr_acts {m : Mm} (h : Wd m.2.2) : ∀ i, i < 12 → va_rf (mR m 25 i) = .ref (27 + 4 * i)
  | 0, _ => congrArg va_rf (h.2.2 (25, 0, 27) (List.mem_of_getElem? (i := 31) rfl))
  | 1, _ => congrArg va_rf (h.2.2 (25, 1, 31) (List.mem_of_getElem? (i := 32) rfl))
  | 2, _ => congrArg va_rf (h.2.2 (25, 2, 35) (List.mem_of_getElem? (i := 33) rfl))
  | 3, _ => congrArg va_rf (h.2.2 (25, 3, 39) (List.mem_of_getElem? (i := 34) rfl))
  | 4, _ => congrArg va_rf (h.2.2 (25, 4, 43) (List.mem_of_getElem? (i := 35) rfl))
  | 5, _ => congrArg va_rf (h.2.2 (25, 5, 47) (List.mem_of_getElem? (i := 36) rfl))
  | 6, _ => congrArg va_rf (h.2.2 (25, 6, 51) (List.mem_of_getElem? (i := 37) rfl))
  | 7, _ => congrArg va_rf (h.2.2 (25, 7, 55) (List.mem_of_getElem? (i := 38) rfl))
  | 8, _ => congrArg va_rf (h.2.2 (25, 8, 59) (List.mem_of_getElem? (i := 39) rfl))
  | 9, _ => congrArg va_rf (h.2.2 (25, 9, 63) (List.mem_of_getElem? (i := 40) rfl))
  | 10, _ => congrArg va_rf (h.2.2 (25, 10, 67) (List.mem_of_getElem? (i := 41) rfl))
  | 11, _ => congrArg va_rf (h.2.2 (25, 11, 71) (List.mem_of_getElem? (i := 42) rfl))
  | n + 12, hn => absurd hn (by omega)
theorem Wdr_marks {m : Mm} (h : Wd m.2.2) : ∀ i, i < 3 → va_rf (mR m 26 i) = .ref (75 + 4 * i)
  | 0, _ => congrArg va_rf (h.2.2 (26, 0, 75) (List.mem_of_getElem? (i := 43) rfl))
  | 1, _ => congrArg va_rf (h.2.2 (26, 1, 79) (List.mem_of_getElem? (i := 44) rfl))
  | 2, _ => congrArg va_rf (h.2.2 (26, 2, 83) (List.mem_of_getElem? (i := 45) rfl))
  | n + 3, hn => absurd hn (by omega)
theorem LW_S {w : WR} {a : Nat} (h : LW w a) : SW w (a + 15) := ⟨by have := h.1; omega, h.2.2.2.2.2.2.2.2.2.2.2.2.2.2.2.2.1, h.2.2.2.2.2.2.2.2.2.2.2.2.2.2.2.2.2.1, h.2.2.2.2.2.2.2.2.2.2.2.2.2.2.2.2.2.2.1, h.2.2.2.2.2.2.2.2.2.2.2.2.2.2.2.2.2.2.2.1, h.2.2.2.2.2.2.2.2.2.2.2.2.2.2.2.2.2.2.2.2.2.2.2.2.2.2.2.2.2.2.2.2.2.2.2.1, h.2.2.2.2.2.2.2.2.2.2.2.2.2.2.2.2.2.2.2.2.2.2.2.2.2.2.2.2.2.2.2.2.2.2.2.2.1, h.2.2.2.2.2.2.2.2.2.2.2.2.2.2.2.2.2.2.2.2.2.2.2.2.2.2.2.2.2.2.2.2.2.2.2.2.2⟩
