def rlk : List (Nat × Nat × Nat) → Nat → Nat → Option Nat
  | [], _, _ => none
  | q :: r, x, y => if x = q.1 ∧ y = q.2.1 then some q.2.2 else rlk r x y
/-- a memory while it is made: ints, references as a list, shapes, size -/
def cM (i : Nat → Nat → Int32) (rl : List (Nat × Nat × Nat)) (f : Nat → Nat × Nat) (z : Nat) : Mm := (i, fun _ _ => 0, rlk rl, f, z)
def Fr (i : Nat → Nat → Int32) (rl : List (Nat × Nat × Nat)) (z : Nat) : Prop := ∀ x, z ≤ x → i x = (fun _ => 0) ∧ rlk rl x = fun _ => none
theorem up_id {α : Type} {f : Nat → α} {k : Nat} {v : α} (h : f k = v) : va_up f k v = f := funext fun j => by
  by_cases e : j = k
  · rw [e, up_eq, h]
  · rw [up_ne e]
theorem cA {i : Nat → Nat → Int32} {rl : List (Nat × Nat × Nat)} {f : Nat → Nat × Nat} {z t n : Nat} (h : Fr i rl z) : nA (cM i rl f z) t n = cM i rl (va_up f z (t, n)) (z + 1) := by
  have ez1 : va_up i z (fun _ => 0) = i := up_id (h z (Nat.le_refl _)).1
  have ez2 : va_up (fun (_ _ : Nat) => (0 : Int64)) z (fun _ => 0) = fun _ _ => 0 := up_id rfl
  have ez3 : va_up (rlk rl) z (fun _ => none) = rlk rl := up_id (h z (Nat.le_refl _)).2
  show (va_up i z (fun _ => 0), va_up (fun (_ _ : Nat) => (0 : Int64)) z (fun _ => 0), va_up (rlk rl) z (fun _ => none), va_up f z (t, n), z + 1) = _
  rw [ez1, ez2, ez3]
  rfl
theorem cR {i : Nat → Nat → Int32} {rl : List (Nat × Nat × Nat)} {f : Nat → Nat × Nat} {z a k b : Nat} : uR (cM i rl f z) a k (some b) = cM i ((a, k, b) :: rl) f z := by
  have e : va_up (rlk rl) a (va_up (rlk rl a) k (some b)) = rlk ((a, k, b) :: rl) := funext fun x => funext fun y => by
    show _ = if x = a ∧ y = k then some b else rlk rl x y
    by_cases h : x = a
    · rw [h, up_eq]
      by_cases g : y = k
      · rw [g, up_eq, if_pos ⟨rfl, rfl⟩]
      · rw [up_ne g, if_neg (fun z => g z.2)]
    · rw [up_ne h, if_neg (fun z => h z.1)]
  show (i, (fun (_ _ : Nat) => (0 : Int64)), va_up (rlk rl) a (va_up (rlk rl a) k (some b)), f, z) = _
  rw [e]
  rfl
theorem Fr_s {i : Nat → Nat → Int32} {rl : List (Nat × Nat × Nat)} {z : Nat} (j : Nat) (h : Fr i rl z) : Fr i rl (z + j) := fun x hx => h x (by omega)
theorem Fr_c {i : Nat → Nat → Int32} {rl : List (Nat × Nat × Nat)} {z a k b : Nat} (h : Fr i rl z) (ha : a < z) : Fr i ((a, k, b) :: rl) z := fun x hx => ⟨(h x hx).1, funext fun y => by
  show (if x = a ∧ y = k then some b else rlk rl x y) = none
  rw [if_neg (fun w => by omega), (h x hx).2]⟩
def arF (T : List (Nat × Nat)) (f : Nat → Nat × Nat) (z : Nat) : Nat → Nat → Nat × Nat
  | 0 => f
  | j + 1 => va_up (arF T f z j) (z + j) (T.getD j (0, 0))
def arR (K : List Nat) (b z : Nat) (rl : List (Nat × Nat × Nat)) : Nat → List (Nat × Nat × Nat)
  | 0 => rl
  | j + 1 => (b, K.getD j 0, z + j) :: arR K b z rl j
theorem arF_lo {T : List (Nat × Nat)} {f : Nat → Nat × Nat} {z a : Nat} (ha : a < z) : ∀ j, arF T f z j a = f a
  | 0 => rfl
  | j + 1 => (up_ne (by omega)).trans (arF_lo ha j)
theorem Fr_ar {i : Nat → Nat → Int32} {K : List Nat} {b z : Nat} {rl : List (Nat × Nat × Nat)} (h : Fr i rl z) (hb : b < z) : ∀ j, Fr i (arR K b z rl j) (z + j)
  | 0 => h
  | j + 1 => Fr_c (Fr_s 1 (Fr_ar h hb j)) (by omega)
theorem ar_o {i : Nat → Nat → Int32} {T : List (Nat × Nat)} {f : Nat → Nat × Nat} {z b t : Nat} {q : Nat × Nat} {rl : List (Nat × Nat × Nat)} (hb : b < z) (ht : (f b).1 = t) (j : Nat) : oS (cM i rl (va_up (arF T f z j) (z + j) q) (z + j + 1)) b t := by
  refine ⟨?_, ?_⟩
  · show b < z + j + 1
    omega
  · show (va_up (arF T f z j) (z + j) q b).1 = t
    rw [up_ne (by omega), arF_lo hb j]
    exact ht
def TaX7 : List (Nat × Nat) := [(100, 6), (100, 36), (100, 4)]
def KaX7 : List Nat := [2, 3, 4]
def TaX1 : List (Nat × Nat) := [(100, 13), (100, 24), (100, 6), (100, 6), (100, 6), (100, 6), (100, 180), (100, 6), (100, 56), (100, 8), (100, 4), (100, 6), (100, 6), (100, 32)]
def KaX1 : List Nat := [4, 5, 6, 7, 8, 9, 10, 11, 12, 13, 14, 15, 16, 17]
def TaX8 : List (Nat × Nat) := [(101, 1200)]
def KaX8 : List Nat := [0]
def TaX0 : List (Nat × Nat) := [(100, 8), (100, 8), (100, 8), (100, 8), (100, 8), (100, 8), (100, 8), (100, 8), (100, 8), (101, 776), (101, 576)]
def KaX0 : List Nat := [0, 1, 2, 3, 4, 5, 6, 7, 8, 9, 10]
def TaX9 : List (Nat × Nat) := [(100, 4), (100, 24)]
def KaX9 : List Nat := [0, 1]
def TaX6 : List (Nat × Nat) := [(100, 720)]
def KaX6 : List Nat := [0]
def TaX12 : List (Nat × Nat) := [(101, 1200), (100, 8), (100, 48), (100, 576), (100, 144), (100, 8), (100, 8), (100, 8), (100, 8), (100, 8), (100, 8), (100, 800), (100, 4), (100, 720)]
def KaX12 : List Nat := [5, 16, 18, 19, 20, 23, 24, 25, 26, 27, 28, 29, 30, 31]
theorem K97 {d : Nat} {Q : Option Value → Mm → Prop} {b z : Nat} {i : Nat → Nat → Int32} {rl : List (Nat × Nat × Nat)} {f : Nat → Nat × Nat} (hd : 1 ≤ d) (hb : b < z) (ht : (f b).1 = 6) (hz : z + 3 < 999999) (hF : Fr i rl z) (hQ : Q none (cM i (arR KaX7 b z rl 3) (arF TaX7 f z 3) (z + 3))) : Cc d 3 46 97 [.ref b] (cM i rl f z) Q := by
  refine ent (n := 50) z97 (by decide) rfl (by decide) (Nat.le_of_ble_eq_true rfl) (fun sc => ?_)
  refine And.intro ⟨by omega, Nat.le_of_ble_eq_true rfl⟩ ?_
  refine And.intro ⟨by decide, by decide, by decide, by decide, by show z + 0 < 999999; omega⟩ ?_
  show zw sc d 3 46 (mth 97).2.2.2.2.1 P97 (KJ sc d 3 46 (mth 97) P97 Q) Q 46 5 [some (.ref b)] [.ref (z + 0), .ref b] (nA (cM i (arR KaX7 b z rl 0) (arF TaX7 f z 0) (z + 0)) 100 6) 1 6
  rw [cA (Fr_ar hF hb 0)]
  refine And.intro (ar_o hb ht 0) ?_
  show zw sc d 3 46 (mth 97).2.2.2.2.1 P97 (KJ sc d 3 46 (mth 97) P97 Q) Q 45 6 [some (.ref b)] [] (uR (cM i (arR KaX7 b z rl 0) (va_up (arF TaX7 f z 0) (z + 0) (100, 6)) (z + 0 + 1)) b 2 (some (z + 0))) 1 6
  rw [cR]
  show zw sc d 3 46 (mth 97).2.2.2.2.1 P97 (KJ sc d 3 46 (mth 97) P97 Q) Q 45 6 [some (.ref b)] [] (cM i (arR KaX7 b z rl 1) (arF TaX7 f z 1) (z + 1)) 1 6
  refine And.intro ⟨by decide, by decide, by decide, by decide, by show z + 1 < 999999; omega⟩ ?_
  show zw sc d 3 46 (mth 97).2.2.2.2.1 P97 (KJ sc d 3 46 (mth 97) P97 Q) Q 42 9 [some (.ref b)] [.ref (z + 1), .ref b] (nA (cM i (arR KaX7 b z rl 1) (arF TaX7 f z 1) (z + 1)) 100 36) 2 42
  rw [cA (Fr_ar hF hb 1)]
  refine And.intro (ar_o hb ht 1) ?_
  show zw sc d 3 46 (mth 97).2.2.2.2.1 P97 (KJ sc d 3 46 (mth 97) P97 Q) Q 41 10 [some (.ref b)] [] (uR (cM i (arR KaX7 b z rl 1) (va_up (arF TaX7 f z 1) (z + 1) (100, 36)) (z + 1 + 1)) b 3 (some (z + 1))) 2 42
  rw [cR]
  show zw sc d 3 46 (mth 97).2.2.2.2.1 P97 (KJ sc d 3 46 (mth 97) P97 Q) Q 41 10 [some (.ref b)] [] (cM i (arR KaX7 b z rl 2) (arF TaX7 f z 2) (z + 2)) 2 42
  refine And.intro ⟨by decide, by decide, by decide, by decide, by show z + 2 < 999999; omega⟩ ?_
  show zw sc d 3 46 (mth 97).2.2.2.2.1 P97 (KJ sc d 3 46 (mth 97) P97 Q) Q 38 13 [some (.ref b)] [.ref (z + 2), .ref b] (nA (cM i (arR KaX7 b z rl 2) (arF TaX7 f z 2) (z + 2)) 100 4) 3 46
  rw [cA (Fr_ar hF hb 2)]
  refine And.intro (ar_o hb ht 2) ?_
  show zw sc d 3 46 (mth 97).2.2.2.2.1 P97 (KJ sc d 3 46 (mth 97) P97 Q) Q 37 14 [some (.ref b)] [] (uR (cM i (arR KaX7 b z rl 2) (va_up (arF TaX7 f z 2) (z + 2) (100, 4)) (z + 2 + 1)) b 4 (some (z + 2))) 3 46
  rw [cR]
  show zw sc d 3 46 (mth 97).2.2.2.2.1 P97 (KJ sc d 3 46 (mth 97) P97 Q) Q 37 14 [some (.ref b)] [] (cM i (arR KaX7 b z rl 3) (arF TaX7 f z 3) (z + 3)) 3 46
  exact ⟨⟨rfl, rfl, by decide, by decide⟩, hQ⟩
theorem K105 {d : Nat} {Q : Option Value → Mm → Prop} {b z : Nat} {i : Nat → Nat → Int32} {rl : List (Nat × Nat × Nat)} {f : Nat → Nat × Nat} (hd : 1 ≤ d) (hb : b < z) (ht : (f b).1 = 7) (hz : z + 1 < 999999) (hF : Fr i rl z) (hQ : Q none (cM i (arR KaX8 b z rl 1) (arF TaX8 f z 1) (z + 1))) : Cc d 1 1200 105 [.ref b] (cM i rl f z) Q := by
  refine ent (n := 34) z105 (by decide) rfl (by decide) (Nat.le_of_ble_eq_true rfl) (fun sc => ?_)
  refine And.intro ⟨by omega, Nat.le_of_ble_eq_true rfl⟩ ?_
  refine And.intro ⟨by decide, by decide, by decide, by decide, by show z + 0 < 999999; omega⟩ ?_
  show zw sc d 1 1200 (mth 105).2.2.2.2.1 P105 (KJ sc d 1 1200 (mth 105) P105 Q) Q 30 5 [some (.ref b)] [.ref (z + 0), .ref b] (nA (cM i (arR KaX8 b z rl 0) (arF TaX8 f z 0) (z + 0)) 101 1200) 1 1200
  rw [cA (Fr_ar hF hb 0)]
  refine And.intro (ar_o hb ht 0) ?_
  show zw sc d 1 1200 (mth 105).2.2.2.2.1 P105 (KJ sc d 1 1200 (mth 105) P105 Q) Q 29 6 [some (.ref b)] [] (uR (cM i (arR KaX8 b z rl 0) (va_up (arF TaX8 f z 0) (z + 0) (101, 1200)) (z + 0 + 1)) b 0 (some (z + 0))) 1 1200
  rw [cR]
  show zw sc d 1 1200 (mth 105).2.2.2.2.1 P105 (KJ sc d 1 1200 (mth 105) P105 Q) Q 29 6 [some (.ref b)] [] (cM i (arR KaX8 b z rl 1) (arF TaX8 f z 1) (z + 1)) 1 1200
  exact ⟨⟨rfl, rfl, by decide, by decide⟩, hQ⟩
theorem K0 {d : Nat} {Q : Option Value → Mm → Prop} {b z : Nat} {i : Nat → Nat → Int32} {rl : List (Nat × Nat × Nat)} {f : Nat → Nat × Nat} (hd : 1 ≤ d) (hb : b < z) (ht : (f b).1 = 0) (hz : z + 11 < 999999) (hF : Fr i rl z) (hQ : Q none (cM i (arR KaX0 b z rl 11) (arF TaX0 f z 11) (z + 11))) : Cc d 11 1424 0 [.ref b] (cM i rl f z) Q := by
  refine ent (n := 114) z0 (by decide) rfl (by decide) (Nat.le_of_ble_eq_true rfl) (fun sc => ?_)
  refine And.intro ⟨by omega, Nat.le_of_ble_eq_true rfl⟩ ?_
  refine And.intro ⟨by decide, by decide, by decide, by decide, by show z + 0 < 999999; omega⟩ ?_
  show zw sc d 11 1424 (mth 0).2.2.2.2.1 P0 (KJ sc d 11 1424 (mth 0) P0 Q) Q 110 5 [some (.ref b)] [.ref (z + 0), .ref b] (nA (cM i (arR KaX0 b z rl 0) (arF TaX0 f z 0) (z + 0)) 100 8) 1 8
  rw [cA (Fr_ar hF hb 0)]
  refine And.intro (ar_o hb ht 0) ?_
  show zw sc d 11 1424 (mth 0).2.2.2.2.1 P0 (KJ sc d 11 1424 (mth 0) P0 Q) Q 109 6 [some (.ref b)] [] (uR (cM i (arR KaX0 b z rl 0) (va_up (arF TaX0 f z 0) (z + 0) (100, 8)) (z + 0 + 1)) b 0 (some (z + 0))) 1 8
  rw [cR]
  show zw sc d 11 1424 (mth 0).2.2.2.2.1 P0 (KJ sc d 11 1424 (mth 0) P0 Q) Q 109 6 [some (.ref b)] [] (cM i (arR KaX0 b z rl 1) (arF TaX0 f z 1) (z + 1)) 1 8
  refine And.intro ⟨by decide, by decide, by decide, by decide, by show z + 1 < 999999; omega⟩ ?_
  show zw sc d 11 1424 (mth 0).2.2.2.2.1 P0 (KJ sc d 11 1424 (mth 0) P0 Q) Q 106 9 [some (.ref b)] [.ref (z + 1), .ref b] (nA (cM i (arR KaX0 b z rl 1) (arF TaX0 f z 1) (z + 1)) 100 8) 2 16
  rw [cA (Fr_ar hF hb 1)]
  refine And.intro (ar_o hb ht 1) ?_
  show zw sc d 11 1424 (mth 0).2.2.2.2.1 P0 (KJ sc d 11 1424 (mth 0) P0 Q) Q 105 10 [some (.ref b)] [] (uR (cM i (arR KaX0 b z rl 1) (va_up (arF TaX0 f z 1) (z + 1) (100, 8)) (z + 1 + 1)) b 1 (some (z + 1))) 2 16
  rw [cR]
  show zw sc d 11 1424 (mth 0).2.2.2.2.1 P0 (KJ sc d 11 1424 (mth 0) P0 Q) Q 105 10 [some (.ref b)] [] (cM i (arR KaX0 b z rl 2) (arF TaX0 f z 2) (z + 2)) 2 16
  refine And.intro ⟨by decide, by decide, by decide, by decide, by show z + 2 < 999999; omega⟩ ?_
  show zw sc d 11 1424 (mth 0).2.2.2.2.1 P0 (KJ sc d 11 1424 (mth 0) P0 Q) Q 102 13 [some (.ref b)] [.ref (z + 2), .ref b] (nA (cM i (arR KaX0 b z rl 2) (arF TaX0 f z 2) (z + 2)) 100 8) 3 24
  rw [cA (Fr_ar hF hb 2)]
  refine And.intro (ar_o hb ht 2) ?_
  show zw sc d 11 1424 (mth 0).2.2.2.2.1 P0 (KJ sc d 11 1424 (mth 0) P0 Q) Q 101 14 [some (.ref b)] [] (uR (cM i (arR KaX0 b z rl 2) (va_up (arF TaX0 f z 2) (z + 2) (100, 8)) (z + 2 + 1)) b 2 (some (z + 2))) 3 24
  rw [cR]
  show zw sc d 11 1424 (mth 0).2.2.2.2.1 P0 (KJ sc d 11 1424 (mth 0) P0 Q) Q 101 14 [some (.ref b)] [] (cM i (arR KaX0 b z rl 3) (arF TaX0 f z 3) (z + 3)) 3 24
  refine And.intro ⟨by decide, by decide, by decide, by decide, by show z + 3 < 999999; omega⟩ ?_
  show zw sc d 11 1424 (mth 0).2.2.2.2.1 P0 (KJ sc d 11 1424 (mth 0) P0 Q) Q 98 17 [some (.ref b)] [.ref (z + 3), .ref b] (nA (cM i (arR KaX0 b z rl 3) (arF TaX0 f z 3) (z + 3)) 100 8) 4 32
  rw [cA (Fr_ar hF hb 3)]
  refine And.intro (ar_o hb ht 3) ?_
  show zw sc d 11 1424 (mth 0).2.2.2.2.1 P0 (KJ sc d 11 1424 (mth 0) P0 Q) Q 97 18 [some (.ref b)] [] (uR (cM i (arR KaX0 b z rl 3) (va_up (arF TaX0 f z 3) (z + 3) (100, 8)) (z + 3 + 1)) b 3 (some (z + 3))) 4 32
  rw [cR]
  show zw sc d 11 1424 (mth 0).2.2.2.2.1 P0 (KJ sc d 11 1424 (mth 0) P0 Q) Q 97 18 [some (.ref b)] [] (cM i (arR KaX0 b z rl 4) (arF TaX0 f z 4) (z + 4)) 4 32
  refine And.intro ⟨by decide, by decide, by decide, by decide, by show z + 4 < 999999; omega⟩ ?_
  show zw sc d 11 1424 (mth 0).2.2.2.2.1 P0 (KJ sc d 11 1424 (mth 0) P0 Q) Q 94 21 [some (.ref b)] [.ref (z + 4), .ref b] (nA (cM i (arR KaX0 b z rl 4) (arF TaX0 f z 4) (z + 4)) 100 8) 5 40
  rw [cA (Fr_ar hF hb 4)]
  refine And.intro (ar_o hb ht 4) ?_
  show zw sc d 11 1424 (mth 0).2.2.2.2.1 P0 (KJ sc d 11 1424 (mth 0) P0 Q) Q 93 22 [some (.ref b)] [] (uR (cM i (arR KaX0 b z rl 4) (va_up (arF TaX0 f z 4) (z + 4) (100, 8)) (z + 4 + 1)) b 4 (some (z + 4))) 5 40
  rw [cR]
  show zw sc d 11 1424 (mth 0).2.2.2.2.1 P0 (KJ sc d 11 1424 (mth 0) P0 Q) Q 93 22 [some (.ref b)] [] (cM i (arR KaX0 b z rl 5) (arF TaX0 f z 5) (z + 5)) 5 40
  refine And.intro ⟨by decide, by decide, by decide, by decide, by show z + 5 < 999999; omega⟩ ?_
  show zw sc d 11 1424 (mth 0).2.2.2.2.1 P0 (KJ sc d 11 1424 (mth 0) P0 Q) Q 90 25 [some (.ref b)] [.ref (z + 5), .ref b] (nA (cM i (arR KaX0 b z rl 5) (arF TaX0 f z 5) (z + 5)) 100 8) 6 48
  rw [cA (Fr_ar hF hb 5)]
  refine And.intro (ar_o hb ht 5) ?_
  show zw sc d 11 1424 (mth 0).2.2.2.2.1 P0 (KJ sc d 11 1424 (mth 0) P0 Q) Q 89 26 [some (.ref b)] [] (uR (cM i (arR KaX0 b z rl 5) (va_up (arF TaX0 f z 5) (z + 5) (100, 8)) (z + 5 + 1)) b 5 (some (z + 5))) 6 48
  rw [cR]
  show zw sc d 11 1424 (mth 0).2.2.2.2.1 P0 (KJ sc d 11 1424 (mth 0) P0 Q) Q 89 26 [some (.ref b)] [] (cM i (arR KaX0 b z rl 6) (arF TaX0 f z 6) (z + 6)) 6 48
  refine And.intro ⟨by decide, by decide, by decide, by decide, by show z + 6 < 999999; omega⟩ ?_
  show zw sc d 11 1424 (mth 0).2.2.2.2.1 P0 (KJ sc d 11 1424 (mth 0) P0 Q) Q 86 29 [some (.ref b)] [.ref (z + 6), .ref b] (nA (cM i (arR KaX0 b z rl 6) (arF TaX0 f z 6) (z + 6)) 100 8) 7 56
  rw [cA (Fr_ar hF hb 6)]
  refine And.intro (ar_o hb ht 6) ?_
  show zw sc d 11 1424 (mth 0).2.2.2.2.1 P0 (KJ sc d 11 1424 (mth 0) P0 Q) Q 85 30 [some (.ref b)] [] (uR (cM i (arR KaX0 b z rl 6) (va_up (arF TaX0 f z 6) (z + 6) (100, 8)) (z + 6 + 1)) b 6 (some (z + 6))) 7 56
  rw [cR]
  show zw sc d 11 1424 (mth 0).2.2.2.2.1 P0 (KJ sc d 11 1424 (mth 0) P0 Q) Q 85 30 [some (.ref b)] [] (cM i (arR KaX0 b z rl 7) (arF TaX0 f z 7) (z + 7)) 7 56
  refine And.intro ⟨by decide, by decide, by decide, by decide, by show z + 7 < 999999; omega⟩ ?_
  show zw sc d 11 1424 (mth 0).2.2.2.2.1 P0 (KJ sc d 11 1424 (mth 0) P0 Q) Q 82 33 [some (.ref b)] [.ref (z + 7), .ref b] (nA (cM i (arR KaX0 b z rl 7) (arF TaX0 f z 7) (z + 7)) 100 8) 8 64
  rw [cA (Fr_ar hF hb 7)]
  refine And.intro (ar_o hb ht 7) ?_
  show zw sc d 11 1424 (mth 0).2.2.2.2.1 P0 (KJ sc d 11 1424 (mth 0) P0 Q) Q 81 34 [some (.ref b)] [] (uR (cM i (arR KaX0 b z rl 7) (va_up (arF TaX0 f z 7) (z + 7) (100, 8)) (z + 7 + 1)) b 7 (some (z + 7))) 8 64
  rw [cR]
  show zw sc d 11 1424 (mth 0).2.2.2.2.1 P0 (KJ sc d 11 1424 (mth 0) P0 Q) Q 81 34 [some (.ref b)] [] (cM i (arR KaX0 b z rl 8) (arF TaX0 f z 8) (z + 8)) 8 64
  refine And.intro ⟨by decide, by decide, by decide, by decide, by show z + 8 < 999999; omega⟩ ?_
  show zw sc d 11 1424 (mth 0).2.2.2.2.1 P0 (KJ sc d 11 1424 (mth 0) P0 Q) Q 78 37 [some (.ref b)] [.ref (z + 8), .ref b] (nA (cM i (arR KaX0 b z rl 8) (arF TaX0 f z 8) (z + 8)) 100 8) 9 72
  rw [cA (Fr_ar hF hb 8)]
  refine And.intro (ar_o hb ht 8) ?_
  show zw sc d 11 1424 (mth 0).2.2.2.2.1 P0 (KJ sc d 11 1424 (mth 0) P0 Q) Q 77 38 [some (.ref b)] [] (uR (cM i (arR KaX0 b z rl 8) (va_up (arF TaX0 f z 8) (z + 8) (100, 8)) (z + 8 + 1)) b 8 (some (z + 8))) 9 72
  rw [cR]
  show zw sc d 11 1424 (mth 0).2.2.2.2.1 P0 (KJ sc d 11 1424 (mth 0) P0 Q) Q 77 38 [some (.ref b)] [] (cM i (arR KaX0 b z rl 9) (arF TaX0 f z 9) (z + 9)) 9 72
  refine And.intro ⟨by decide, by decide, by decide, by decide, by show z + 9 < 999999; omega⟩ ?_
  show zw sc d 11 1424 (mth 0).2.2.2.2.1 P0 (KJ sc d 11 1424 (mth 0) P0 Q) Q 74 41 [some (.ref b)] [.ref (z + 9), .ref b] (nA (cM i (arR KaX0 b z rl 9) (arF TaX0 f z 9) (z + 9)) 101 776) 10 848
  rw [cA (Fr_ar hF hb 9)]
  refine And.intro (ar_o hb ht 9) ?_
  show zw sc d 11 1424 (mth 0).2.2.2.2.1 P0 (KJ sc d 11 1424 (mth 0) P0 Q) Q 73 42 [some (.ref b)] [] (uR (cM i (arR KaX0 b z rl 9) (va_up (arF TaX0 f z 9) (z + 9) (101, 776)) (z + 9 + 1)) b 9 (some (z + 9))) 10 848
  rw [cR]
  show zw sc d 11 1424 (mth 0).2.2.2.2.1 P0 (KJ sc d 11 1424 (mth 0) P0 Q) Q 73 42 [some (.ref b)] [] (cM i (arR KaX0 b z rl 10) (arF TaX0 f z 10) (z + 10)) 10 848
  refine And.intro ⟨by decide, by decide, by decide, by decide, by show z + 10 < 999999; omega⟩ ?_
  show zw sc d 11 1424 (mth 0).2.2.2.2.1 P0 (KJ sc d 11 1424 (mth 0) P0 Q) Q 70 45 [some (.ref b)] [.ref (z + 10), .ref b] (nA (cM i (arR KaX0 b z rl 10) (arF TaX0 f z 10) (z + 10)) 101 576) 11 1424
  rw [cA (Fr_ar hF hb 10)]
  refine And.intro (ar_o hb ht 10) ?_
  show zw sc d 11 1424 (mth 0).2.2.2.2.1 P0 (KJ sc d 11 1424 (mth 0) P0 Q) Q 69 46 [some (.ref b)] [] (uR (cM i (arR KaX0 b z rl 10) (va_up (arF TaX0 f z 10) (z + 10) (101, 576)) (z + 10 + 1)) b 10 (some (z + 10))) 11 1424
  rw [cR]
  show zw sc d 11 1424 (mth 0).2.2.2.2.1 P0 (KJ sc d 11 1424 (mth 0) P0 Q) Q 69 46 [some (.ref b)] [] (cM i (arR KaX0 b z rl 11) (arF TaX0 f z 11) (z + 11)) 11 1424
  exact ⟨⟨rfl, rfl, by decide, by decide⟩, hQ⟩
theorem K112 {d : Nat} {Q : Option Value → Mm → Prop} {b z : Nat} {i : Nat → Nat → Int32} {rl : List (Nat × Nat × Nat)} {f : Nat → Nat × Nat} (hd : 1 ≤ d) (hb : b < z) (ht : (f b).1 = 8) (hz : z + 2 < 999999) (hF : Fr i rl z) (hQ : Q none (cM i (arR KaX9 b z rl 2) (arF TaX9 f z 2) (z + 2))) : Cc d 2 28 112 [.ref b] (cM i rl f z) Q := by
  refine ent (n := 42) z112 (by decide) rfl (by decide) (Nat.le_of_ble_eq_true rfl) (fun sc => ?_)
  refine And.intro ⟨by omega, Nat.le_of_ble_eq_true rfl⟩ ?_
  refine And.intro ⟨by decide, by decide, by decide, by decide, by show z + 0 < 999999; omega⟩ ?_
  show zw sc d 2 28 (mth 112).2.2.2.2.1 P112 (KJ sc d 2 28 (mth 112) P112 Q) Q 38 5 [some (.ref b)] [.ref (z + 0), .ref b] (nA (cM i (arR KaX9 b z rl 0) (arF TaX9 f z 0) (z + 0)) 100 4) 1 4
  rw [cA (Fr_ar hF hb 0)]
  refine And.intro (ar_o hb ht 0) ?_
  show zw sc d 2 28 (mth 112).2.2.2.2.1 P112 (KJ sc d 2 28 (mth 112) P112 Q) Q 37 6 [some (.ref b)] [] (uR (cM i (arR KaX9 b z rl 0) (va_up (arF TaX9 f z 0) (z + 0) (100, 4)) (z + 0 + 1)) b 0 (some (z + 0))) 1 4
  rw [cR]
  show zw sc d 2 28 (mth 112).2.2.2.2.1 P112 (KJ sc d 2 28 (mth 112) P112 Q) Q 37 6 [some (.ref b)] [] (cM i (arR KaX9 b z rl 1) (arF TaX9 f z 1) (z + 1)) 1 4
  refine And.intro ⟨by decide, by decide, by decide, by decide, by show z + 1 < 999999; omega⟩ ?_
  show zw sc d 2 28 (mth 112).2.2.2.2.1 P112 (KJ sc d 2 28 (mth 112) P112 Q) Q 34 9 [some (.ref b)] [.ref (z + 1), .ref b] (nA (cM i (arR KaX9 b z rl 1) (arF TaX9 f z 1) (z + 1)) 100 24) 2 28
  rw [cA (Fr_ar hF hb 1)]
  refine And.intro (ar_o hb ht 1) ?_
  show zw sc d 2 28 (mth 112).2.2.2.2.1 P112 (KJ sc d 2 28 (mth 112) P112 Q) Q 33 10 [some (.ref b)] [] (uR (cM i (arR KaX9 b z rl 1) (va_up (arF TaX9 f z 1) (z + 1) (100, 24)) (z + 1 + 1)) b 1 (some (z + 1))) 2 28
  rw [cR]
  show zw sc d 2 28 (mth 112).2.2.2.2.1 P112 (KJ sc d 2 28 (mth 112) P112 Q) Q 33 10 [some (.ref b)] [] (cM i (arR KaX9 b z rl 2) (arF TaX9 f z 2) (z + 2)) 2 28
  exact ⟨⟨rfl, rfl, by decide, by decide⟩, hQ⟩
theorem K90 {d : Nat} {Q : Option Value → Mm → Prop} {b z : Nat} {i : Nat → Nat → Int32} {rl : List (Nat × Nat × Nat)} {f : Nat → Nat × Nat} (hd : 1 ≤ d) (hb : b < z) (ht : (f b).1 = 5) (hz : z + 1 < 999999) (hF : Fr i rl z) (hQ : Q none (cM i (arR KaX6 b z rl 1) (arF TaX6 f z 1) (z + 1))) : Cc d 1 720 90 [.ref b] (cM i rl f z) Q := by
  refine ent (n := 34) z90 (by decide) rfl (by decide) (Nat.le_of_ble_eq_true rfl) (fun sc => ?_)
  refine And.intro ⟨by omega, Nat.le_of_ble_eq_true rfl⟩ ?_
  refine And.intro ⟨by decide, by decide, by decide, by decide, by show z + 0 < 999999; omega⟩ ?_
  show zw sc d 1 720 (mth 90).2.2.2.2.1 P90 (KJ sc d 1 720 (mth 90) P90 Q) Q 30 5 [some (.ref b)] [.ref (z + 0), .ref b] (nA (cM i (arR KaX6 b z rl 0) (arF TaX6 f z 0) (z + 0)) 100 720) 1 720
  rw [cA (Fr_ar hF hb 0)]
  refine And.intro (ar_o hb ht 0) ?_
  show zw sc d 1 720 (mth 90).2.2.2.2.1 P90 (KJ sc d 1 720 (mth 90) P90 Q) Q 29 6 [some (.ref b)] [] (uR (cM i (arR KaX6 b z rl 0) (va_up (arF TaX6 f z 0) (z + 0) (100, 720)) (z + 0 + 1)) b 0 (some (z + 0))) 1 720
  rw [cR]
  show zw sc d 1 720 (mth 90).2.2.2.2.1 P90 (KJ sc d 1 720 (mth 90) P90 Q) Q 29 6 [some (.ref b)] [] (cM i (arR KaX6 b z rl 1) (arF TaX6 f z 1) (z + 1)) 1 720
  exact ⟨⟨rfl, rfl, by decide, by decide⟩, hQ⟩
theorem K86 {d : Nat} {m : Mm} {Q : Option Value → Mm → Prop} {b : Nat} (hd : 1 ≤ d) (hQ : Q none m) : Cc d 0 0 86 [.ref b] m Q := by
  refine ent (n := 26) z86 (by decide) rfl (by decide) (Nat.le_of_ble_eq_true rfl) (fun sc => ?_)
  refine And.intro ⟨by omega, Nat.le_of_ble_eq_true rfl⟩ ?_
  exact ⟨⟨rfl, rfl, by decide, by decide⟩, hQ⟩
def ldR (b z : Nat) (rl : List (Nat × Nat × Nat)) : List (Nat × Nat × Nat) := (b, 18, z + 14) :: arR KaX7 (z + 14) (z + 15) (arR KaX1 b z rl 14) 3
def ldF (f : Nat → Nat × Nat) (z : Nat) : Nat → Nat × Nat := arF TaX7 (va_up (arF TaX1 f z 14) (z + 14) (6, 5)) (z + 15) 3
theorem ldF_lo {f : Nat → Nat × Nat} {z a : Nat} (ha : a < z) : ldF f z a = f a := by
  unfold ldF
  rw [arF_lo (by omega), up_ne (by omega), arF_lo ha]
theorem ld_Fr {i : Nat → Nat → Int32} {b z : Nat} {rl : List (Nat × Nat × Nat)} (h : Fr i rl z) (hb : b < z) : Fr i (ldR b z rl) (z + 18) := Fr_c (Fr_ar (z := z + 15) (Fr_s 1 (Fr_ar h hb 14)) (by omega) 3) (by omega)
theorem K19 {d : Nat} {Q : Option Value → Mm → Prop} {b z : Nat} {i : Nat → Nat → Int32} {rl : List (Nat × Nat × Nat)} {f : Nat → Nat × Nat} (hd : 2 ≤ d) (hb : b < z) (ht : (f b).1 = 1) (hz : z + 20 < 999999) (hF : Fr i rl z) (hQ : Q none (cM i (ldR b z rl) (ldF f z) (z + 18))) : Cc d 18 410 19 [.ref b] (cM i rl f z) Q := by
  refine ent (n := 150) z19 (by decide) rfl (by decide) (Nat.le_of_ble_eq_true rfl) (fun sc => ?_)
  refine And.intro ⟨by omega, Nat.le_of_ble_eq_true rfl⟩ ?_
  refine And.intro rfl ?_
  refine And.intro ⟨by decide, by decide, by decide, by decide, by show z + 0 < 999999; omega⟩ ?_
  show zw sc d 18 410 (mth 19).2.2.2.2.1 P19 (KJ sc d 18 410 (mth 19) P19 Q) Q 145 6 [some (.ref b)] [.ref (z + 0), .ref b] (nA (cM i (arR KaX1 b z rl 0) (arF TaX1 f z 0) (z + 0)) 100 13) 1 13
  rw [cA (Fr_ar hF hb 0)]
  refine And.intro (ar_o hb ht 0) ?_
  show zw sc d 18 410 (mth 19).2.2.2.2.1 P19 (KJ sc d 18 410 (mth 19) P19 Q) Q 144 7 [some (.ref b)] [] (uR (cM i (arR KaX1 b z rl 0) (va_up (arF TaX1 f z 0) (z + 0) (100, 13)) (z + 0 + 1)) b 4 (some (z + 0))) 1 13
  rw [cR]
  show zw sc d 18 410 (mth 19).2.2.2.2.1 P19 (KJ sc d 18 410 (mth 19) P19 Q) Q 144 7 [some (.ref b)] [] (cM i (arR KaX1 b z rl 1) (arF TaX1 f z 1) (z + 1)) 1 13
  refine And.intro ⟨by decide, by decide, by decide, by decide, by show z + 1 < 999999; omega⟩ ?_
  show zw sc d 18 410 (mth 19).2.2.2.2.1 P19 (KJ sc d 18 410 (mth 19) P19 Q) Q 141 10 [some (.ref b)] [.ref (z + 1), .ref b] (nA (cM i (arR KaX1 b z rl 1) (arF TaX1 f z 1) (z + 1)) 100 24) 2 37
  rw [cA (Fr_ar hF hb 1)]
  refine And.intro (ar_o hb ht 1) ?_
  show zw sc d 18 410 (mth 19).2.2.2.2.1 P19 (KJ sc d 18 410 (mth 19) P19 Q) Q 140 11 [some (.ref b)] [] (uR (cM i (arR KaX1 b z rl 1) (va_up (arF TaX1 f z 1) (z + 1) (100, 24)) (z + 1 + 1)) b 5 (some (z + 1))) 2 37
  rw [cR]
  show zw sc d 18 410 (mth 19).2.2.2.2.1 P19 (KJ sc d 18 410 (mth 19) P19 Q) Q 140 11 [some (.ref b)] [] (cM i (arR KaX1 b z rl 2) (arF TaX1 f z 2) (z + 2)) 2 37
  refine And.intro ⟨by decide, by decide, by decide, by decide, by show z + 2 < 999999; omega⟩ ?_
  show zw sc d 18 410 (mth 19).2.2.2.2.1 P19 (KJ sc d 18 410 (mth 19) P19 Q) Q 137 14 [some (.ref b)] [.ref (z + 2), .ref b] (nA (cM i (arR KaX1 b z rl 2) (arF TaX1 f z 2) (z + 2)) 100 6) 3 43
  rw [cA (Fr_ar hF hb 2)]
  refine And.intro (ar_o hb ht 2) ?_
  show zw sc d 18 410 (mth 19).2.2.2.2.1 P19 (KJ sc d 18 410 (mth 19) P19 Q) Q 136 15 [some (.ref b)] [] (uR (cM i (arR KaX1 b z rl 2) (va_up (arF TaX1 f z 2) (z + 2) (100, 6)) (z + 2 + 1)) b 6 (some (z + 2))) 3 43
  rw [cR]
  show zw sc d 18 410 (mth 19).2.2.2.2.1 P19 (KJ sc d 18 410 (mth 19) P19 Q) Q 136 15 [some (.ref b)] [] (cM i (arR KaX1 b z rl 3) (arF TaX1 f z 3) (z + 3)) 3 43
  refine And.intro ⟨by decide, by decide, by decide, by decide, by show z + 3 < 999999; omega⟩ ?_
  show zw sc d 18 410 (mth 19).2.2.2.2.1 P19 (KJ sc d 18 410 (mth 19) P19 Q) Q 133 18 [some (.ref b)] [.ref (z + 3), .ref b] (nA (cM i (arR KaX1 b z rl 3) (arF TaX1 f z 3) (z + 3)) 100 6) 4 49
  rw [cA (Fr_ar hF hb 3)]
  refine And.intro (ar_o hb ht 3) ?_
  show zw sc d 18 410 (mth 19).2.2.2.2.1 P19 (KJ sc d 18 410 (mth 19) P19 Q) Q 132 19 [some (.ref b)] [] (uR (cM i (arR KaX1 b z rl 3) (va_up (arF TaX1 f z 3) (z + 3) (100, 6)) (z + 3 + 1)) b 7 (some (z + 3))) 4 49
  rw [cR]
  show zw sc d 18 410 (mth 19).2.2.2.2.1 P19 (KJ sc d 18 410 (mth 19) P19 Q) Q 132 19 [some (.ref b)] [] (cM i (arR KaX1 b z rl 4) (arF TaX1 f z 4) (z + 4)) 4 49
  refine And.intro ⟨by decide, by decide, by decide, by decide, by show z + 4 < 999999; omega⟩ ?_
  show zw sc d 18 410 (mth 19).2.2.2.2.1 P19 (KJ sc d 18 410 (mth 19) P19 Q) Q 129 22 [some (.ref b)] [.ref (z + 4), .ref b] (nA (cM i (arR KaX1 b z rl 4) (arF TaX1 f z 4) (z + 4)) 100 6) 5 55
  rw [cA (Fr_ar hF hb 4)]
  refine And.intro (ar_o hb ht 4) ?_
  show zw sc d 18 410 (mth 19).2.2.2.2.1 P19 (KJ sc d 18 410 (mth 19) P19 Q) Q 128 23 [some (.ref b)] [] (uR (cM i (arR KaX1 b z rl 4) (va_up (arF TaX1 f z 4) (z + 4) (100, 6)) (z + 4 + 1)) b 8 (some (z + 4))) 5 55
  rw [cR]
  show zw sc d 18 410 (mth 19).2.2.2.2.1 P19 (KJ sc d 18 410 (mth 19) P19 Q) Q 128 23 [some (.ref b)] [] (cM i (arR KaX1 b z rl 5) (arF TaX1 f z 5) (z + 5)) 5 55
  refine And.intro ⟨by decide, by decide, by decide, by decide, by show z + 5 < 999999; omega⟩ ?_
  show zw sc d 18 410 (mth 19).2.2.2.2.1 P19 (KJ sc d 18 410 (mth 19) P19 Q) Q 125 26 [some (.ref b)] [.ref (z + 5), .ref b] (nA (cM i (arR KaX1 b z rl 5) (arF TaX1 f z 5) (z + 5)) 100 6) 6 61
  rw [cA (Fr_ar hF hb 5)]
  refine And.intro (ar_o hb ht 5) ?_
  show zw sc d 18 410 (mth 19).2.2.2.2.1 P19 (KJ sc d 18 410 (mth 19) P19 Q) Q 124 27 [some (.ref b)] [] (uR (cM i (arR KaX1 b z rl 5) (va_up (arF TaX1 f z 5) (z + 5) (100, 6)) (z + 5 + 1)) b 9 (some (z + 5))) 6 61
  rw [cR]
  show zw sc d 18 410 (mth 19).2.2.2.2.1 P19 (KJ sc d 18 410 (mth 19) P19 Q) Q 124 27 [some (.ref b)] [] (cM i (arR KaX1 b z rl 6) (arF TaX1 f z 6) (z + 6)) 6 61
  refine And.intro ⟨by decide, by decide, by decide, by decide, by show z + 6 < 999999; omega⟩ ?_
  show zw sc d 18 410 (mth 19).2.2.2.2.1 P19 (KJ sc d 18 410 (mth 19) P19 Q) Q 121 30 [some (.ref b)] [.ref (z + 6), .ref b] (nA (cM i (arR KaX1 b z rl 6) (arF TaX1 f z 6) (z + 6)) 100 180) 7 241
  rw [cA (Fr_ar hF hb 6)]
  refine And.intro (ar_o hb ht 6) ?_
  show zw sc d 18 410 (mth 19).2.2.2.2.1 P19 (KJ sc d 18 410 (mth 19) P19 Q) Q 120 31 [some (.ref b)] [] (uR (cM i (arR KaX1 b z rl 6) (va_up (arF TaX1 f z 6) (z + 6) (100, 180)) (z + 6 + 1)) b 10 (some (z + 6))) 7 241
  rw [cR]
  show zw sc d 18 410 (mth 19).2.2.2.2.1 P19 (KJ sc d 18 410 (mth 19) P19 Q) Q 120 31 [some (.ref b)] [] (cM i (arR KaX1 b z rl 7) (arF TaX1 f z 7) (z + 7)) 7 241
  refine And.intro ⟨by decide, by decide, by decide, by decide, by show z + 7 < 999999; omega⟩ ?_
  show zw sc d 18 410 (mth 19).2.2.2.2.1 P19 (KJ sc d 18 410 (mth 19) P19 Q) Q 117 34 [some (.ref b)] [.ref (z + 7), .ref b] (nA (cM i (arR KaX1 b z rl 7) (arF TaX1 f z 7) (z + 7)) 100 6) 8 247
  rw [cA (Fr_ar hF hb 7)]
  refine And.intro (ar_o hb ht 7) ?_
  show zw sc d 18 410 (mth 19).2.2.2.2.1 P19 (KJ sc d 18 410 (mth 19) P19 Q) Q 116 35 [some (.ref b)] [] (uR (cM i (arR KaX1 b z rl 7) (va_up (arF TaX1 f z 7) (z + 7) (100, 6)) (z + 7 + 1)) b 11 (some (z + 7))) 8 247
  rw [cR]
  show zw sc d 18 410 (mth 19).2.2.2.2.1 P19 (KJ sc d 18 410 (mth 19) P19 Q) Q 116 35 [some (.ref b)] [] (cM i (arR KaX1 b z rl 8) (arF TaX1 f z 8) (z + 8)) 8 247
  refine And.intro ⟨by decide, by decide, by decide, by decide, by show z + 8 < 999999; omega⟩ ?_
  show zw sc d 18 410 (mth 19).2.2.2.2.1 P19 (KJ sc d 18 410 (mth 19) P19 Q) Q 113 38 [some (.ref b)] [.ref (z + 8), .ref b] (nA (cM i (arR KaX1 b z rl 8) (arF TaX1 f z 8) (z + 8)) 100 56) 9 303
  rw [cA (Fr_ar hF hb 8)]
  refine And.intro (ar_o hb ht 8) ?_
  show zw sc d 18 410 (mth 19).2.2.2.2.1 P19 (KJ sc d 18 410 (mth 19) P19 Q) Q 112 39 [some (.ref b)] [] (uR (cM i (arR KaX1 b z rl 8) (va_up (arF TaX1 f z 8) (z + 8) (100, 56)) (z + 8 + 1)) b 12 (some (z + 8))) 9 303
  rw [cR]
  show zw sc d 18 410 (mth 19).2.2.2.2.1 P19 (KJ sc d 18 410 (mth 19) P19 Q) Q 112 39 [some (.ref b)] [] (cM i (arR KaX1 b z rl 9) (arF TaX1 f z 9) (z + 9)) 9 303
  refine And.intro ⟨by decide, by decide, by decide, by decide, by show z + 9 < 999999; omega⟩ ?_
  show zw sc d 18 410 (mth 19).2.2.2.2.1 P19 (KJ sc d 18 410 (mth 19) P19 Q) Q 109 42 [some (.ref b)] [.ref (z + 9), .ref b] (nA (cM i (arR KaX1 b z rl 9) (arF TaX1 f z 9) (z + 9)) 100 8) 10 311
  rw [cA (Fr_ar hF hb 9)]
  refine And.intro (ar_o hb ht 9) ?_
  show zw sc d 18 410 (mth 19).2.2.2.2.1 P19 (KJ sc d 18 410 (mth 19) P19 Q) Q 108 43 [some (.ref b)] [] (uR (cM i (arR KaX1 b z rl 9) (va_up (arF TaX1 f z 9) (z + 9) (100, 8)) (z + 9 + 1)) b 13 (some (z + 9))) 10 311
  rw [cR]
  show zw sc d 18 410 (mth 19).2.2.2.2.1 P19 (KJ sc d 18 410 (mth 19) P19 Q) Q 108 43 [some (.ref b)] [] (cM i (arR KaX1 b z rl 10) (arF TaX1 f z 10) (z + 10)) 10 311
  refine And.intro ⟨by decide, by decide, by decide, by decide, by show z + 10 < 999999; omega⟩ ?_
  show zw sc d 18 410 (mth 19).2.2.2.2.1 P19 (KJ sc d 18 410 (mth 19) P19 Q) Q 105 46 [some (.ref b)] [.ref (z + 10), .ref b] (nA (cM i (arR KaX1 b z rl 10) (arF TaX1 f z 10) (z + 10)) 100 4) 11 315
  rw [cA (Fr_ar hF hb 10)]
  refine And.intro (ar_o hb ht 10) ?_
  show zw sc d 18 410 (mth 19).2.2.2.2.1 P19 (KJ sc d 18 410 (mth 19) P19 Q) Q 104 47 [some (.ref b)] [] (uR (cM i (arR KaX1 b z rl 10) (va_up (arF TaX1 f z 10) (z + 10) (100, 4)) (z + 10 + 1)) b 14 (some (z + 10))) 11 315
  rw [cR]
  show zw sc d 18 410 (mth 19).2.2.2.2.1 P19 (KJ sc d 18 410 (mth 19) P19 Q) Q 104 47 [some (.ref b)] [] (cM i (arR KaX1 b z rl 11) (arF TaX1 f z 11) (z + 11)) 11 315
  refine And.intro ⟨by decide, by decide, by decide, by decide, by show z + 11 < 999999; omega⟩ ?_
  show zw sc d 18 410 (mth 19).2.2.2.2.1 P19 (KJ sc d 18 410 (mth 19) P19 Q) Q 101 50 [some (.ref b)] [.ref (z + 11), .ref b] (nA (cM i (arR KaX1 b z rl 11) (arF TaX1 f z 11) (z + 11)) 100 6) 12 321
  rw [cA (Fr_ar hF hb 11)]
  refine And.intro (ar_o hb ht 11) ?_
  show zw sc d 18 410 (mth 19).2.2.2.2.1 P19 (KJ sc d 18 410 (mth 19) P19 Q) Q 100 51 [some (.ref b)] [] (uR (cM i (arR KaX1 b z rl 11) (va_up (arF TaX1 f z 11) (z + 11) (100, 6)) (z + 11 + 1)) b 15 (some (z + 11))) 12 321
  rw [cR]
  show zw sc d 18 410 (mth 19).2.2.2.2.1 P19 (KJ sc d 18 410 (mth 19) P19 Q) Q 100 51 [some (.ref b)] [] (cM i (arR KaX1 b z rl 12) (arF TaX1 f z 12) (z + 12)) 12 321
  refine And.intro ⟨by decide, by decide, by decide, by decide, by show z + 12 < 999999; omega⟩ ?_
  show zw sc d 18 410 (mth 19).2.2.2.2.1 P19 (KJ sc d 18 410 (mth 19) P19 Q) Q 97 54 [some (.ref b)] [.ref (z + 12), .ref b] (nA (cM i (arR KaX1 b z rl 12) (arF TaX1 f z 12) (z + 12)) 100 6) 13 327
  rw [cA (Fr_ar hF hb 12)]
  refine And.intro (ar_o hb ht 12) ?_
  show zw sc d 18 410 (mth 19).2.2.2.2.1 P19 (KJ sc d 18 410 (mth 19) P19 Q) Q 96 55 [some (.ref b)] [] (uR (cM i (arR KaX1 b z rl 12) (va_up (arF TaX1 f z 12) (z + 12) (100, 6)) (z + 12 + 1)) b 16 (some (z + 12))) 13 327
  rw [cR]
  show zw sc d 18 410 (mth 19).2.2.2.2.1 P19 (KJ sc d 18 410 (mth 19) P19 Q) Q 96 55 [some (.ref b)] [] (cM i (arR KaX1 b z rl 13) (arF TaX1 f z 13) (z + 13)) 13 327
  refine And.intro ⟨by decide, by decide, by decide, by decide, by show z + 13 < 999999; omega⟩ ?_
  show zw sc d 18 410 (mth 19).2.2.2.2.1 P19 (KJ sc d 18 410 (mth 19) P19 Q) Q 93 58 [some (.ref b)] [.ref (z + 13), .ref b] (nA (cM i (arR KaX1 b z rl 13) (arF TaX1 f z 13) (z + 13)) 100 32) 14 359
  rw [cA (Fr_ar hF hb 13)]
  refine And.intro (ar_o hb ht 13) ?_
  show zw sc d 18 410 (mth 19).2.2.2.2.1 P19 (KJ sc d 18 410 (mth 19) P19 Q) Q 92 59 [some (.ref b)] [] (uR (cM i (arR KaX1 b z rl 13) (va_up (arF TaX1 f z 13) (z + 13) (100, 32)) (z + 13 + 1)) b 17 (some (z + 13))) 14 359
  rw [cR]
  show zw sc d 18 410 (mth 19).2.2.2.2.1 P19 (KJ sc d 18 410 (mth 19) P19 Q) Q 92 59 [some (.ref b)] [] (cM i (arR KaX1 b z rl 14) (arF TaX1 f z 14) (z + 14)) 14 359
  refine And.intro ⟨by decide, by decide, by show z + 14 < 999999; omega⟩ ?_
  refine And.intro rfl ?_
  show zw sc d 18 410 (mth 19).2.2.2.2.1 P19 (KJ sc d 18 410 (mth 19) P19 Q) Q 89 62 [some (.ref b)] [.ref (z + 14), .ref (z + 14), .ref b] (nA (cM i (arR KaX1 b z rl 14) (arF TaX1 f z 14) (z + 14)) 6 5) 15 364
  rw [cA (Fr_ar hF hb 14)]
  refine And.intro ⟨by omega, Nat.le_of_ble_eq_true rfl, by decide, by decide⟩ (And.intro trivial ?_)
  refine K97 (by omega) (by omega) (by rw [up_eq]) (by omega) (Fr_s 1 (Fr_ar hF hb 14)) ?_
  show zw sc d 18 410 (mth 19).2.2.2.2.1 P19 (KJ sc d 18 410 (mth 19) P19 Q) Q 88 63 [some (.ref b)] [.ref (z + 14), .ref b] (cM i (arR KaX7 (z + 14) (z + 15) (arR KaX1 b z rl 14) 3) (ldF f z) (z + 18)) 18 410
  refine And.intro ⟨by show b < z + 18; omega, by show (ldF f z b).1 = 1; rw [ldF_lo hb]; exact ht⟩ ?_
  show zw sc d 18 410 (mth 19).2.2.2.2.1 P19 (KJ sc d 18 410 (mth 19) P19 Q) Q 87 64 [some (.ref b)] [] (uR (cM i (arR KaX7 (z + 14) (z + 15) (arR KaX1 b z rl 14) 3) (ldF f z) (z + 18)) b 18 (some (z + 14))) 18 410
  rw [cR]
  exact ⟨⟨rfl, rfl, by decide, by decide⟩, hQ⟩
def TaX4 : List (Nat × Nat) := [(103, 24), (100, 24), (100, 24)]
def KaX4 : List Nat := [1, 2, 3]
def TaX3 : List (Nat × Nat) := [(104, 12), (104, 3)]
def KaX3 : List Nat := [0, 1]
def rd1R (b z : Nat) (rl : List (Nat × Nat × Nat)) : List (Nat × Nat × Nat) := (b, 0, z) :: arR KaX8 z (z + 1) rl 1
def rd1F (f : Nat → Nat × Nat) (z : Nat) : Nat → Nat × Nat := arF TaX8 (va_up f z (7, 10)) (z + 1) 1
def rdyR (b z : Nat) (rl : List (Nat × Nat × Nat)) : List (Nat × Nat × Nat) := (b, 4, z + 5) :: ldR (z + 5) (z + 6) (arR KaX4 b (z + 2) (rd1R b z rl) 3)
def rdyF (f : Nat → Nat × Nat) (z : Nat) : Nat → Nat × Nat := ldF (va_up (arF TaX4 (rd1F f z) (z + 2) 3) (z + 5) (1, 19)) (z + 6)
theorem rd1F_lo {f : Nat → Nat × Nat} {z a : Nat} (ha : a < z) : rd1F f z a = f a := by
  unfold rd1F
  rw [arF_lo (by omega), up_ne (by omega)]
theorem rd1_Fr {i : Nat → Nat → Int32} {b z : Nat} {rl : List (Nat × Nat × Nat)} (h : Fr i rl z) (hb : b < z) : Fr i (rd1R b z rl) (z + 2) := Fr_c (Fr_ar (z := z + 1) (Fr_s 1 h) (by omega) 1) (by omega)
theorem rdyF_lo {f : Nat → Nat × Nat} {z a : Nat} (ha : a < z) : rdyF f z a = f a := by
  unfold rdyF
  rw [ldF_lo (by omega), up_ne (by omega), arF_lo (by omega), rd1F_lo ha]
theorem K55 {d : Nat} {Q : Option Value → Mm → Prop} {b z : Nat} {i : Nat → Nat → Int32} {rl : List (Nat × Nat × Nat)} {f : Nat → Nat × Nat} (hd : 3 ≤ d) (hb : b < z) (ht : (f b).1 = 3) (hz : z + 30 < 999999) (hF : Fr i rl z) (hQ : Q none (cM i (rdyR b z rl) (rdyF f z) (z + 24))) : Cc d 24 1711 55 [.ref b] (cM i rl f z) Q := by
  refine ent (n := 70) z55 (by decide) rfl (by decide) (Nat.le_of_ble_eq_true rfl) (fun sc => ?_)
  refine And.intro ⟨by omega, Nat.le_of_ble_eq_true rfl⟩ ?_
  refine And.intro ⟨by decide, by decide, by show z < 999999; omega⟩ ?_
  refine And.intro rfl ?_
  show zw sc d 24 1711 (mth 55).2.2.2.2.1 P55 (KJ sc d 24 1711 (mth 55) P55 Q) Q 66 5 [some (.ref b)] [.ref (z), .ref (z), .ref b] (nA (cM i rl f (z)) 7 10) 1 10
  rw [cA hF]
  refine And.intro ⟨by omega, Nat.le_of_ble_eq_true rfl, by decide, by decide⟩ (And.intro trivial ?_)
  refine K105 (by omega) (by omega) (by rw [up_eq]) (by omega) (Fr_s 1 hF) ?_
  show zw sc d 24 1711 (mth 55).2.2.2.2.1 P55 (KJ sc d 24 1711 (mth 55) P55 Q) Q 65 6 [some (.ref b)] [.ref z, .ref b] (cM i (arR KaX8 z (z + 1) rl 1) (rd1F f z) (z + 2)) 2 1210
  refine And.intro ⟨by show b < z + 2; omega, by show (rd1F f z b).1 = 3; rw [rd1F_lo hb]; exact ht⟩ ?_
  show zw sc d 24 1711 (mth 55).2.2.2.2.1 P55 (KJ sc d 24 1711 (mth 55) P55 Q) Q 64 7 [some (.ref b)] [] (uR (cM i (arR KaX8 z (z + 1) rl 1) (rd1F f z) (z + 2)) b 0 (some z)) 2 1210
  rw [cR]
  show zw sc d 24 1711 (mth 55).2.2.2.2.1 P55 (KJ sc d 24 1711 (mth 55) P55 Q) Q 64 7 [some (.ref b)] [] (cM i (rd1R b z rl) (rd1F f z) (z + 2)) 2 1210
  have hb2 : b < z + 2 := by omega
  have ht2 : (rd1F f z b).1 = 3 := by rw [rd1F_lo hb]; exact ht
  refine And.intro ⟨by decide, by decide, by decide, by decide, by show (z + 2) + 0 < 999999; omega⟩ ?_
  show zw sc d 24 1711 (mth 55).2.2.2.2.1 P55 (KJ sc d 24 1711 (mth 55) P55 Q) Q 61 10 [some (.ref b)] [.ref ((z + 2) + 0), .ref b] (nA (cM i (arR KaX4 b (z + 2) (rd1R b z rl) 0) (arF TaX4 (rd1F f z) (z + 2) 0) ((z + 2) + 0)) 103 24) 3 1234
  rw [cA (Fr_ar (rd1_Fr hF hb) hb2 0)]
  refine And.intro (ar_o hb2 ht2 0) ?_
  show zw sc d 24 1711 (mth 55).2.2.2.2.1 P55 (KJ sc d 24 1711 (mth 55) P55 Q) Q 60 11 [some (.ref b)] [] (uR (cM i (arR KaX4 b (z + 2) (rd1R b z rl) 0) (va_up (arF TaX4 (rd1F f z) (z + 2) 0) ((z + 2) + 0) (103, 24)) ((z + 2) + 0 + 1)) b 1 (some ((z + 2) + 0))) 3 1234
  rw [cR]
  show zw sc d 24 1711 (mth 55).2.2.2.2.1 P55 (KJ sc d 24 1711 (mth 55) P55 Q) Q 60 11 [some (.ref b)] [] (cM i (arR KaX4 b (z + 2) (rd1R b z rl) 1) (arF TaX4 (rd1F f z) (z + 2) 1) ((z + 2) + 1)) 3 1234
  refine And.intro ⟨by decide, by decide, by decide, by decide, by show (z + 2) + 1 < 999999; omega⟩ ?_
  show zw sc d 24 1711 (mth 55).2.2.2.2.1 P55 (KJ sc d 24 1711 (mth 55) P55 Q) Q 57 14 [some (.ref b)] [.ref ((z + 2) + 1), .ref b] (nA (cM i (arR KaX4 b (z + 2) (rd1R b z rl) 1) (arF TaX4 (rd1F f z) (z + 2) 1) ((z + 2) + 1)) 100 24) 4 1258
  rw [cA (Fr_ar (rd1_Fr hF hb) hb2 1)]
  refine And.intro (ar_o hb2 ht2 1) ?_
  show zw sc d 24 1711 (mth 55).2.2.2.2.1 P55 (KJ sc d 24 1711 (mth 55) P55 Q) Q 56 15 [some (.ref b)] [] (uR (cM i (arR KaX4 b (z + 2) (rd1R b z rl) 1) (va_up (arF TaX4 (rd1F f z) (z + 2) 1) ((z + 2) + 1) (100, 24)) ((z + 2) + 1 + 1)) b 2 (some ((z + 2) + 1))) 4 1258
  rw [cR]
  show zw sc d 24 1711 (mth 55).2.2.2.2.1 P55 (KJ sc d 24 1711 (mth 55) P55 Q) Q 56 15 [some (.ref b)] [] (cM i (arR KaX4 b (z + 2) (rd1R b z rl) 2) (arF TaX4 (rd1F f z) (z + 2) 2) ((z + 2) + 2)) 4 1258
  refine And.intro ⟨by decide, by decide, by decide, by decide, by show (z + 2) + 2 < 999999; omega⟩ ?_
  show zw sc d 24 1711 (mth 55).2.2.2.2.1 P55 (KJ sc d 24 1711 (mth 55) P55 Q) Q 53 18 [some (.ref b)] [.ref ((z + 2) + 2), .ref b] (nA (cM i (arR KaX4 b (z + 2) (rd1R b z rl) 2) (arF TaX4 (rd1F f z) (z + 2) 2) ((z + 2) + 2)) 100 24) 5 1282
  rw [cA (Fr_ar (rd1_Fr hF hb) hb2 2)]
  refine And.intro (ar_o hb2 ht2 2) ?_
  show zw sc d 24 1711 (mth 55).2.2.2.2.1 P55 (KJ sc d 24 1711 (mth 55) P55 Q) Q 52 19 [some (.ref b)] [] (uR (cM i (arR KaX4 b (z + 2) (rd1R b z rl) 2) (va_up (arF TaX4 (rd1F f z) (z + 2) 2) ((z + 2) + 2) (100, 24)) ((z + 2) + 2 + 1)) b 3 (some ((z + 2) + 2))) 5 1282
  rw [cR]
  show zw sc d 24 1711 (mth 55).2.2.2.2.1 P55 (KJ sc d 24 1711 (mth 55) P55 Q) Q 52 19 [some (.ref b)] [] (cM i (arR KaX4 b (z + 2) (rd1R b z rl) 3) (arF TaX4 (rd1F f z) (z + 2) 3) ((z + 2) + 3)) 5 1282
  refine And.intro ⟨by decide, by decide, by show z + 5 < 999999; omega⟩ ?_
  refine And.intro rfl ?_
  show zw sc d 24 1711 (mth 55).2.2.2.2.1 P55 (KJ sc d 24 1711 (mth 55) P55 Q) Q 49 22 [some (.ref b)] [.ref (z + 5), .ref (z + 5), .ref b] (nA (cM i (arR KaX4 b (z + 2) (rd1R b z rl) 3) (arF TaX4 (rd1F f z) (z + 2) 3) (z + 5)) 1 19) 6 1301
  rw [cA (z := z + 5) (Fr_ar (rd1_Fr hF hb) hb2 3)]
  refine And.intro ⟨by omega, Nat.le_of_ble_eq_true rfl, by decide, by decide⟩ (And.intro trivial ?_)
  refine K19 (by omega) (by omega) (by rw [up_eq]) (by omega) (Fr_s (z := z + 5) 1 (Fr_ar (rd1_Fr hF hb) hb2 3)) ?_
  show zw sc d 24 1711 (mth 55).2.2.2.2.1 P55 (KJ sc d 24 1711 (mth 55) P55 Q) Q 48 23 [some (.ref b)] [.ref (z + 5), .ref b] (cM i (ldR (z + 5) (z + 6) (arR KaX4 b (z + 2) (rd1R b z rl) 3)) (rdyF f z) (z + 24)) 24 1711
  refine And.intro ⟨by show b < z + 24; omega, by show (rdyF f z b).1 = 3; rw [rdyF_lo hb]; exact ht⟩ ?_
  show zw sc d 24 1711 (mth 55).2.2.2.2.1 P55 (KJ sc d 24 1711 (mth 55) P55 Q) Q 47 24 [some (.ref b)] [] (uR (cM i (ldR (z + 5) (z + 6) (arR KaX4 b (z + 2) (rd1R b z rl) 3)) (rdyF f z) (z + 24)) b 4 (some (z + 5))) 24 1711
  rw [cR]
  exact ⟨⟨rfl, rfl, by decide, by decide⟩, hQ⟩
def acR (a y : Nat) (rl : List (Nat × Nat × Nat)) : Nat → List (Nat × Nat × Nat)
  | 0 => rl
  | u + 1 => (a, u, y + 4 * u) :: arR KaX7 (y + 4 * u) (y + 4 * u + 1) (acR a y rl u) 3
def acF (y : Nat) (f : Nat → Nat × Nat) : Nat → Nat → Nat × Nat
  | 0 => f
  | u + 1 => arF TaX7 (va_up (acF y f u) (y + 4 * u) (6, 5)) (y + 4 * u + 1) 3
theorem acF_lo {y x : Nat} {f : Nat → Nat × Nat} (hx : x < y) : ∀ u, acF y f u x = f x
  | 0 => rfl
  | u + 1 => by
    show arF TaX7 _ _ 3 x = _
    rw [arF_lo (by omega), up_ne (by omega)]
    exact acF_lo hx u
theorem ac_Fr {i : Nat → Nat → Int32} {a y : Nat} {rl : List (Nat × Nat × Nat)} (h : Fr i rl y) (ha : a < y) : ∀ u, Fr i (acR a y rl u) (y + 4 * u)
  | 0 => h
  | u + 1 => Fr_c (z := y + 4 * u + 1 + 3) (Fr_ar (z := y + 4 * u + 1) (Fr_s 1 (ac_Fr h ha u)) (by omega) 3) (by omega)
theorem rlk_ne {q : Nat × Nat × Nat} {r : List (Nat × Nat × Nat)} {x y : Nat} (h : x ≠ q.1) : rlk (q :: r) x y = rlk r x y := if_neg (fun z => h z.1)
theorem arR_lo {K : List Nat} {b z x y : Nat} {rl : List (Nat × Nat × Nat)} (hx : x ≠ b) : ∀ j, rlk (arR K b z rl j) x y = rlk rl x y
  | 0 => rfl
  | j + 1 => (rlk_ne hx).trans (arR_lo hx j)
theorem acR_lo {a y x k : Nat} {rl : List (Nat × Nat × Nat)} (hx : x < y) (ha : x ≠ a) : ∀ u, rlk (acR a y rl u) x k = rlk rl x k
  | 0 => rfl
  | u + 1 => by
    show rlk ((a, u, y + 4 * u) :: _) x k = _
    rw [rlk_ne ha, arR_lo (by omega)]
    exact acR_lo hx ha u
theorem ge_u {u n : Nat} (hu : u ≤ n) (hn : n < 2 ^ 31) (h : nI n ≤ nI u) : u = n := by
  rcases Nat.lt_or_ge u n with z | z
  · exact absurd h (Int32.not_le.mpr (nI_lt z hn))
  · omega
theorem lt_u {u n : Nat} (hu : u ≤ n) (hn : n < 2 ^ 31) (h : ¬ nI n ≤ nI u) : u < n := by
  rcases Nat.lt_or_ge u n with z | z
  · exact z
  · exact absurd (nI_le z (by omega)) h
theorem lpm {sc : Nat × (Nat → Int32)} {d : Nat} {Q : Option Value → Mm → Prop} {a b y cz0 s0 : Nat} {i : Nat → Nat → Int32} {rl : List (Nat × Nat × Nat)} {f : Nat → Nat × Nat} (hd : 2 ≤ d) (hb : b < y) (ha : a < y) (hab : b ≠ a) (ht : (f b).1 = 2) (hta : f a = (104, 3)) (hr : rlk rl b 1 = some a) (hz : y + 100 < 999999) (hc : cz0 + 12 ≤ 62) (hs : s0 + 153 ≤ 780) (hF : Fr i rl y) (hk : Q none (cM i (acR a y rl 3) (acF y f 3) (y + 4 * 3))) : ∀ (j u : Nat), u ≤ 3 → 3 + 1 ≤ u + j → Jj sc d 62 780 (mth 49) (pg P49 26).1 [some (.ref b), some (.int (nI u))] [] (cM i (acR a y rl u) (acF y f u) (y + 4 * u)) (cz0 + 4 * u) (s0 + 51 * u) Q := by
  intro j
  induction j with
  | zero => intro u h1 h2; omega
  | succ j ih =>
    intro u h1 h2
    refine J_w z49 (i := 26) (by decide) 98 ?_
    refine And.intro (fun g1 => ?_) (fun g1 => ?_)
    · have eu := ge_u h1 (by decide) g1
      subst eu
      exact ⟨⟨rfl, rfl, by omega, by omega⟩, hk⟩
    have hu := lt_u h1 (by decide) g1
    have ob : ∀ u, oS (cM i (acR a y rl u) (acF y f u) (y + 4 * u)) b 2 := fun u => ⟨by show b < y + 4 * u; omega, by show (acF y f u b).1 = 2; rw [acF_lo hb]; exact ht⟩
    refine And.intro (ob u) (Exists.intro (.ref a) (And.intro (by show va_rf (rlk (acR a y rl u) b 1) = _; rw [acR_lo hb hab, hr]; rfl) ?_))
    refine And.intro ⟨by omega, by omega, by show y + 4 * u < 999999; omega⟩ ?_
    refine And.intro rfl ?_
    show zw sc d 62 780 (mth 49).2.2.2.2.1 P49 (KJ sc d 62 780 (mth 49) P49 Q) Q 91 34 [some (.ref b), some (.int (nI u))] [.ref (y + 4 * u), .ref (y + 4 * u), .int (nI u), .ref a] (nA (cM i (acR a y rl u) (acF y f u) (y + 4 * u)) 6 5) (cz0 + 4 * u + 1) (s0 + 51 * u + 5)
    rw [cA (ac_Fr hF ha u)]
    refine And.intro ⟨by omega, Nat.le_of_ble_eq_true rfl, by omega, by omega⟩ (And.intro trivial ?_)
    refine K97 (by omega) (by omega) (by rw [up_eq]) (by omega) (Fr_s 1 (ac_Fr hF ha u)) ?_
    show zw sc d 62 780 (mth 49).2.2.2.2.1 P49 (KJ sc d 62 780 (mth 49) P49 Q) Q 90 35 [some (.ref b), some (.int (nI u))] [.ref (y + 4 * u), .int (nI u), .ref a] (cM i (arR KaX7 (y + 4 * u) (y + 4 * u + 1) (acR a y rl u) 3) (acF y f (u + 1)) (y + 4 * (u + 1))) (cz0 + 4 * u + 1 + 3) (s0 + 51 * u + 5 + 46)
    refine And.intro ⟨⟨by show a < y + 4 * (u + 1); omega, by show (acF y f (u + 1) a).1 = 104; rw [acF_lo ha, hta]⟩, by show vp_in (nI u) (acF y f (u + 1) a).2; rw [acF_lo ha, hta]; exact vi rfl (by show u < 3; omega), ⟨by show y + 4 * u < y + 4 * (u + 1); omega, by show (arF TaX7 (va_up (acF y f u) (y + 4 * u) (6, 5)) (y + 4 * u + 1) 3 (y + 4 * u)).1 = 6; rw [arF_lo (by omega), up_eq]⟩⟩ ?_
    show Jj sc d 62 780 (mth 49) (pg P49 26).1 [some (.ref b), some (.int (nI u + nI 1))] [] (uR (cM i (arR KaX7 (y + 4 * u) (y + 4 * u + 1) (acR a y rl u) 3) (acF y f (u + 1)) (y + 4 * (u + 1))) a (nI u).toNatClampNeg (some (y + 4 * u))) (cz0 + 4 * u + 1 + 3) (s0 + 51 * u + 5 + 46) Q
    rw [nI_add, nI_clamp (show u < 2 ^ 31 by omega), cR, show cz0 + 4 * u + 1 + 3 = cz0 + 4 * (u + 1) by omega, show s0 + 51 * u + 5 + 46 = s0 + 51 * (u + 1) by omega]
    exact ih (u + 1) (by omega) (by omega)
theorem lpa {sc : Nat × (Nat → Int32)} {d : Nat} {Q : Option Value → Mm → Prop} {a b y cz0 s0 : Nat} {i : Nat → Nat → Int32} {rl : List (Nat × Nat × Nat)} {f : Nat → Nat × Nat} (hd : 2 ≤ d) (hb : b < y) (ha : a < y) (hab : b ≠ a) (ht : (f b).1 = 2) (hta : f a = (104, 12)) (hr : rlk rl b 0 = some a) (hz : y + 100 < 999999) (hc : cz0 + 48 ≤ 62) (hs : s0 + 612 ≤ 780) (hF : Fr i rl y) (hk : Jj sc d 62 780 (mth 49) (pg P49 26).1 [some (.ref b), some (.int (nI 0))] [] (cM i (acR a y rl 12) (acF y f 12) (y + 4 * 12)) (cz0 + 4 * 12) (s0 + 51 * 12) Q) : ∀ (j u : Nat), u ≤ 12 → 12 + 1 ≤ u + j → Jj sc d 62 780 (mth 49) (pg P49 12).1 [some (.ref b), some (.int (nI u))] [] (cM i (acR a y rl u) (acF y f u) (y + 4 * u)) (cz0 + 4 * u) (s0 + 51 * u) Q := by
  intro j
  induction j with
  | zero => intro u h1 h2; omega
  | succ j ih =>
    intro u h1 h2
    refine J_w z49 (i := 12) (by decide) 98 ?_
    refine And.intro (fun g1 => ?_) (fun g1 => ?_)
    · have eu := ge_u h1 (by decide) g1
      subst eu
      exact hk
    have hu := lt_u h1 (by decide) g1
    have ob : ∀ u, oS (cM i (acR a y rl u) (acF y f u) (y + 4 * u)) b 2 := fun u => ⟨by show b < y + 4 * u; omega, by show (acF y f u b).1 = 2; rw [acF_lo hb]; exact ht⟩
    refine And.intro (ob u) (Exists.intro (.ref a) (And.intro (by show va_rf (rlk (acR a y rl u) b 0) = _; rw [acR_lo hb hab, hr]; rfl) ?_))
    refine And.intro ⟨by omega, by omega, by show y + 4 * u < 999999; omega⟩ ?_
    refine And.intro rfl ?_
    show zw sc d 62 780 (mth 49).2.2.2.2.1 P49 (KJ sc d 62 780 (mth 49) P49 Q) Q 91 20 [some (.ref b), some (.int (nI u))] [.ref (y + 4 * u), .ref (y + 4 * u), .int (nI u), .ref a] (nA (cM i (acR a y rl u) (acF y f u) (y + 4 * u)) 6 5) (cz0 + 4 * u + 1) (s0 + 51 * u + 5)
    rw [cA (ac_Fr hF ha u)]
    refine And.intro ⟨by omega, Nat.le_of_ble_eq_true rfl, by omega, by omega⟩ (And.intro trivial ?_)
    refine K97 (by omega) (by omega) (by rw [up_eq]) (by omega) (Fr_s 1 (ac_Fr hF ha u)) ?_
    show zw sc d 62 780 (mth 49).2.2.2.2.1 P49 (KJ sc d 62 780 (mth 49) P49 Q) Q 90 21 [some (.ref b), some (.int (nI u))] [.ref (y + 4 * u), .int (nI u), .ref a] (cM i (arR KaX7 (y + 4 * u) (y + 4 * u + 1) (acR a y rl u) 3) (acF y f (u + 1)) (y + 4 * (u + 1))) (cz0 + 4 * u + 1 + 3) (s0 + 51 * u + 5 + 46)
    refine And.intro ⟨⟨by show a < y + 4 * (u + 1); omega, by show (acF y f (u + 1) a).1 = 104; rw [acF_lo ha, hta]⟩, by show vp_in (nI u) (acF y f (u + 1) a).2; rw [acF_lo ha, hta]; exact vi rfl (by show u < 12; omega), ⟨by show y + 4 * u < y + 4 * (u + 1); omega, by show (arF TaX7 (va_up (acF y f u) (y + 4 * u) (6, 5)) (y + 4 * u + 1) 3 (y + 4 * u)).1 = 6; rw [arF_lo (by omega), up_eq]⟩⟩ ?_
    show Jj sc d 62 780 (mth 49) (pg P49 12).1 [some (.ref b), some (.int (nI u + nI 1))] [] (uR (cM i (arR KaX7 (y + 4 * u) (y + 4 * u + 1) (acR a y rl u) 3) (acF y f (u + 1)) (y + 4 * (u + 1))) a (nI u).toNatClampNeg (some (y + 4 * u))) (cz0 + 4 * u + 1 + 3) (s0 + 51 * u + 5 + 46) Q
    rw [nI_add, nI_clamp (show u < 2 ^ 31 by omega), cR, show cz0 + 4 * u + 1 + 3 = cz0 + 4 * (u + 1) by omega, show s0 + 51 * u + 5 + 46 = s0 + 51 * (u + 1) by omega]
    exact ih (u + 1) (by omega) (by omega)
def psR (b z : Nat) (rl : List (Nat × Nat × Nat)) : List (Nat × Nat × Nat) := acR (z + 1) (z + 50) (acR z (z + 2) (arR KaX3 b z rl 2) 12) 3
def psF (f : Nat → Nat × Nat) (z : Nat) : Nat → Nat × Nat := acF (z + 50) (acF (z + 2) (arF TaX3 f z 2) 12) 3
theorem K49 {d : Nat} {Q : Option Value → Mm → Prop} {b z : Nat} {i : Nat → Nat → Int32} {rl : List (Nat × Nat × Nat)} {f : Nat → Nat × Nat} (hd : 2 ≤ d) (hb : b < z) (ht : (f b).1 = 2) (hz : z + 200 < 999999) (hF : Fr i rl z) (hQ : Q none (cM i (psR b z rl) (psF f z) (z + 62))) : Cc d 62 780 49 [.ref b] (cM i rl f z) Q := by
  refine ent (n := 98) z49 (by decide) rfl (by decide) (Nat.le_of_ble_eq_true rfl) (fun sc => ?_)
  refine And.intro ⟨by omega, Nat.le_of_ble_eq_true rfl⟩ ?_
  refine And.intro ⟨by decide, by decide, by decide, by decide, by show z + 0 < 999999; omega⟩ ?_
  show zw sc d 62 780 (mth 49).2.2.2.2.1 P49 (KJ sc d 62 780 (mth 49) P49 Q) Q 94 5 [some (.ref b), none] [.ref (z + 0), .ref b] (nA (cM i (arR KaX3 b z rl 0) (arF TaX3 f z 0) (z + 0)) 104 12) 1 12
  rw [cA (Fr_ar hF hb 0)]
  refine And.intro (ar_o hb ht 0) ?_
  show zw sc d 62 780 (mth 49).2.2.2.2.1 P49 (KJ sc d 62 780 (mth 49) P49 Q) Q 93 6 [some (.ref b), none] [] (uR (cM i (arR KaX3 b z rl 0) (va_up (arF TaX3 f z 0) (z + 0) (104, 12)) (z + 0 + 1)) b 0 (some (z + 0))) 1 12
  rw [cR]
  show zw sc d 62 780 (mth 49).2.2.2.2.1 P49 (KJ sc d 62 780 (mth 49) P49 Q) Q 93 6 [some (.ref b), none] [] (cM i (arR KaX3 b z rl 1) (arF TaX3 f z 1) (z + 1)) 1 12
  refine And.intro ⟨by decide, by decide, by decide, by decide, by show z + 1 < 999999; omega⟩ ?_
  show zw sc d 62 780 (mth 49).2.2.2.2.1 P49 (KJ sc d 62 780 (mth 49) P49 Q) Q 90 9 [some (.ref b), none] [.ref (z + 1), .ref b] (nA (cM i (arR KaX3 b z rl 1) (arF TaX3 f z 1) (z + 1)) 104 3) 2 15
  rw [cA (Fr_ar hF hb 1)]
  refine And.intro (ar_o hb ht 1) ?_
  show zw sc d 62 780 (mth 49).2.2.2.2.1 P49 (KJ sc d 62 780 (mth 49) P49 Q) Q 89 10 [some (.ref b), none] [] (uR (cM i (arR KaX3 b z rl 1) (va_up (arF TaX3 f z 1) (z + 1) (104, 3)) (z + 1 + 1)) b 1 (some (z + 1))) 2 15
  rw [cR]
  show zw sc d 62 780 (mth 49).2.2.2.2.1 P49 (KJ sc d 62 780 (mth 49) P49 Q) Q 89 10 [some (.ref b), none] [] (cM i (arR KaX3 b z rl 2) (arF TaX3 f z 2) (z + 2)) 2 15
  show Jj sc d 62 780 (mth 49) (pg P49 12).1 [some (.ref b), some (.int (nI 0))] [] (cM i (arR KaX3 b z rl 2) (arF TaX3 f z 2) (z + 2)) 2 15 Q
  have f2 : Fr i (arR KaX3 b z rl 2) (z + 2) := Fr_ar hF hb 2
  have fz : (arF TaX3 f z 2) z = (104, 12) := by show va_up (va_up f (z + 0) (104, 12)) (z + 1) (104, 3) z = _; rw [up_ne (by omega)]; exact up_eq
  have fz1 : (arF TaX3 f z 2) (z + 1) = (104, 3) := up_eq
  have fb : ((arF TaX3 f z 2) b).1 = 2 := by rw [arF_lo hb]; exact ht
  have r0 : rlk (arR KaX3 b z rl 2) b 0 = some z := (if_neg (show ¬ (b = b ∧ 0 = 1) from fun w => absurd w.2 (by decide))).trans (if_pos (show b = b ∧ 0 = 0 from ⟨rfl, rfl⟩))
  have r1 : rlk (arR KaX3 b z rl 2) b 1 = some (z + 1) := if_pos (show b = b ∧ 1 = 1 from ⟨rfl, rfl⟩)
  refine lpa (cz0 := 2) (s0 := 15) (y := z + 2) hd (by omega) (by omega) (by omega) fb fz r0 (by omega) (by decide) (by decide) f2 ?_ 13 0 (by decide) (by decide)
  have g2 : Fr i (acR z (z + 2) (arR KaX3 b z rl 2) 12) (z + 50) := ac_Fr f2 (by omega) 12
  exact lpm (cz0 := 50) (s0 := 627) (y := z + 50) (a := z + 1) hd (by omega) (by omega) (by omega) (by rw [acF_lo (by omega)]; exact fb) (by rw [acF_lo (by omega)]; exact fz1) (by rw [acR_lo (by omega) (by omega)]; exact r1) (by omega) (by decide) (by decide) g2 hQ 4 0 (by decide) (by decide)
theorem Fr_of {i : Nat → Nat → Int32} {rl : List (Nat × Nat × Nat)} {z : Nat} (hi : ∀ x, z ≤ x → i x = fun _ => 0) (h : rl.all (fun q => decide (q.1 < z)) = true) : Fr i rl z := fun x hx => ⟨hi x hx, funext fun y => by
  induction rl with
  | nil => rfl
  | cons q r ih =>
    rw [List.all_cons, Bool.and_eq_true] at h
    have h1 := of_decide_eq_true h.1
    rw [rlk_ne (by omega)]
    exact ih h.2⟩
def gF0 : Nat → Nat × Nat := va_up (fun _ => (0, 0)) 0 (9, 13)
def gR0 : List (Nat × Nat × Nat) := []
def gF1 : Nat → Nat × Nat := ldF (va_up gF0 1 (1, 19)) 2
def gR1 : List (Nat × Nat × Nat) := (0, 3, 1) :: (ldR 1 2 gR0)
def gF2 : Nat → Nat × Nat := arF TaX7 (va_up gF1 20 (6, 5)) 21 3
def gR2 : List (Nat × Nat × Nat) := (0, 4, 20) :: (arR KaX7 20 21 gR1 3)
def gF3 : Nat → Nat × Nat := psF (va_up gF2 24 (2, 5)) 25
def gR3 : List (Nat × Nat × Nat) := (0, 5, 24) :: (psR 24 25 gR2)
def gF4 : Nat → Nat × Nat := rdyF (va_up gF3 87 (3, 9)) 88
def gR4 : List (Nat × Nat × Nat) := (0, 6, 87) :: (rdyR 87 88 gR3)
def gF5 : Nat → Nat × Nat := arF TaX0 (va_up gF4 112 (0, 12)) 113 11
def gR5 : List (Nat × Nat × Nat) := (0, 7, 112) :: (arR KaX0 112 113 gR4 11)
def gF6 : Nat → Nat × Nat := arF TaX0 (va_up gF5 124 (0, 12)) 125 11
def gR6 : List (Nat × Nat × Nat) := (0, 8, 124) :: (arR KaX0 124 125 gR5 11)
def gF7 : Nat → Nat × Nat := arF TaX9 (va_up gF6 136 (8, 4)) 137 2
def gR7 : List (Nat × Nat × Nat) := (0, 9, 136) :: (arR KaX9 136 137 gR6 2)
def gF8 : Nat → Nat × Nat := arF TaX6 (va_up gF7 139 (5, 5)) 140 1
def gR8 : List (Nat × Nat × Nat) := (0, 10, 139) :: (arR KaX6 139 140 gR7 1)
def gF9 : Nat → Nat × Nat := va_up gF8 141 (4, 2)
def gR9 : List (Nat × Nat × Nat) := (0, 11, 141) :: (gR8)
theorem K119 {d : Nat} {Q : Option Value → Mm → Prop} (hd : 4 ≤ d) (hQ : Q none (uI (cM (fun _ _ => 0) gR9 gF9 142) 0 12 (nI 1))) : Cc d 141 6616 119 [.ref 0] (cM (fun _ _ => 0) gR0 gF0 1) Q := by
  refine ent (n := 122) z119 (by decide) rfl (by decide) (Nat.le_of_ble_eq_true rfl) (fun sc => ?_)
  refine And.intro ⟨by omega, Nat.le_of_ble_eq_true rfl⟩ ?_
  refine And.intro ⟨by decide, by decide, by show 1 < 999999; omega⟩ ?_
  refine And.intro rfl ?_
  show zw sc d 141 6616 (mth 119).2.2.2.2.1 P119 (KJ sc d 141 6616 (mth 119) P119 Q) Q 118 5 [some (.ref 0)] [.ref (1), .ref (1), .ref 0] (nA (cM (fun _ _ => 0) gR0 gF0 (1)) 1 19) 1 19
  rw [cA (z := 1) (Fr_of (fun _ _ => rfl) (by decide +kernel))]
  refine And.intro ⟨by omega, Nat.le_of_ble_eq_true rfl, by decide, by decide⟩ (And.intro trivial ?_)
  refine K19 (by omega) (by decide) (by rw [up_eq]) (by decide) (Fr_s (z := 1) 1 (Fr_of (fun _ _ => rfl) (by decide +kernel))) ?_
  show zw sc d 141 6616 (mth 119).2.2.2.2.1 P119 (KJ sc d 141 6616 (mth 119) P119 Q) Q 117 6 [some (.ref 0)] [.ref 1, .ref 0] (cM (fun _ _ => 0) (ldR 1 2 gR0) gF1 20) 19 429
  refine And.intro ⟨by decide, by decide +kernel⟩ ?_
  show zw sc d 141 6616 (mth 119).2.2.2.2.1 P119 (KJ sc d 141 6616 (mth 119) P119 Q) Q 116 7 [some (.ref 0)] [] (uR (cM (fun _ _ => 0) (ldR 1 2 gR0) gF1 20) 0 3 (some 1)) 19 429
  rw [cR]
  show zw sc d 141 6616 (mth 119).2.2.2.2.1 P119 (KJ sc d 141 6616 (mth 119) P119 Q) Q 116 7 [some (.ref 0)] [] (cM (fun _ _ => 0) gR1 gF1 20) 19 429
  refine And.intro ⟨by decide, by decide, by show 20 < 999999; omega⟩ ?_
  refine And.intro rfl ?_
  show zw sc d 141 6616 (mth 119).2.2.2.2.1 P119 (KJ sc d 141 6616 (mth 119) P119 Q) Q 113 10 [some (.ref 0)] [.ref (20), .ref (20), .ref 0] (nA (cM (fun _ _ => 0) gR1 gF1 (20)) 6 5) 20 434
  rw [cA (z := 20) (Fr_of (fun _ _ => rfl) (by decide +kernel))]
  refine And.intro ⟨by omega, Nat.le_of_ble_eq_true rfl, by decide, by decide⟩ (And.intro trivial ?_)
  refine K97 (by omega) (by decide) (by rw [up_eq]) (by decide) (Fr_s (z := 20) 1 (Fr_of (fun _ _ => rfl) (by decide +kernel))) ?_
  show zw sc d 141 6616 (mth 119).2.2.2.2.1 P119 (KJ sc d 141 6616 (mth 119) P119 Q) Q 112 11 [some (.ref 0)] [.ref 20, .ref 0] (cM (fun _ _ => 0) (arR KaX7 20 21 gR1 3) gF2 24) 23 480
  refine And.intro ⟨by decide, by decide +kernel⟩ ?_
  show zw sc d 141 6616 (mth 119).2.2.2.2.1 P119 (KJ sc d 141 6616 (mth 119) P119 Q) Q 111 12 [some (.ref 0)] [] (uR (cM (fun _ _ => 0) (arR KaX7 20 21 gR1 3) gF2 24) 0 4 (some 20)) 23 480
  rw [cR]
  show zw sc d 141 6616 (mth 119).2.2.2.2.1 P119 (KJ sc d 141 6616 (mth 119) P119 Q) Q 111 12 [some (.ref 0)] [] (cM (fun _ _ => 0) gR2 gF2 24) 23 480
  refine And.intro ⟨by decide, by decide, by show 24 < 999999; omega⟩ ?_
  refine And.intro rfl ?_
  show zw sc d 141 6616 (mth 119).2.2.2.2.1 P119 (KJ sc d 141 6616 (mth 119) P119 Q) Q 108 15 [some (.ref 0)] [.ref (24), .ref (24), .ref 0] (nA (cM (fun _ _ => 0) gR2 gF2 (24)) 2 5) 24 485
  rw [cA (z := 24) (Fr_of (fun _ _ => rfl) (by decide +kernel))]
  refine And.intro ⟨by omega, Nat.le_of_ble_eq_true rfl, by decide, by decide⟩ (And.intro trivial ?_)
  refine K49 (by omega) (by decide) (by rw [up_eq]) (by decide) (Fr_s (z := 24) 1 (Fr_of (fun _ _ => rfl) (by decide +kernel))) ?_
  show zw sc d 141 6616 (mth 119).2.2.2.2.1 P119 (KJ sc d 141 6616 (mth 119) P119 Q) Q 107 16 [some (.ref 0)] [.ref 24, .ref 0] (cM (fun _ _ => 0) (psR 24 25 gR2) gF3 87) 86 1265
  refine And.intro ⟨by decide, by decide +kernel⟩ ?_
  show zw sc d 141 6616 (mth 119).2.2.2.2.1 P119 (KJ sc d 141 6616 (mth 119) P119 Q) Q 106 17 [some (.ref 0)] [] (uR (cM (fun _ _ => 0) (psR 24 25 gR2) gF3 87) 0 5 (some 24)) 86 1265
  rw [cR]
  show zw sc d 141 6616 (mth 119).2.2.2.2.1 P119 (KJ sc d 141 6616 (mth 119) P119 Q) Q 106 17 [some (.ref 0)] [] (cM (fun _ _ => 0) gR3 gF3 87) 86 1265
  refine And.intro ⟨by decide, by decide, by show 87 < 999999; omega⟩ ?_
  refine And.intro rfl ?_
  show zw sc d 141 6616 (mth 119).2.2.2.2.1 P119 (KJ sc d 141 6616 (mth 119) P119 Q) Q 103 20 [some (.ref 0)] [.ref (87), .ref (87), .ref 0] (nA (cM (fun _ _ => 0) gR3 gF3 (87)) 3 9) 87 1274
  rw [cA (z := 87) (Fr_of (fun _ _ => rfl) (by decide +kernel))]
  refine And.intro ⟨by omega, Nat.le_of_ble_eq_true rfl, by decide, by decide⟩ (And.intro trivial ?_)
  refine K55 (by omega) (by decide) (by rw [up_eq]) (by decide) (Fr_s (z := 87) 1 (Fr_of (fun _ _ => rfl) (by decide +kernel))) ?_
  show zw sc d 141 6616 (mth 119).2.2.2.2.1 P119 (KJ sc d 141 6616 (mth 119) P119 Q) Q 102 21 [some (.ref 0)] [.ref 87, .ref 0] (cM (fun _ _ => 0) (rdyR 87 88 gR3) gF4 112) 111 2985
  refine And.intro ⟨by decide, by decide +kernel⟩ ?_
  show zw sc d 141 6616 (mth 119).2.2.2.2.1 P119 (KJ sc d 141 6616 (mth 119) P119 Q) Q 101 22 [some (.ref 0)] [] (uR (cM (fun _ _ => 0) (rdyR 87 88 gR3) gF4 112) 0 6 (some 87)) 111 2985
  rw [cR]
  show zw sc d 141 6616 (mth 119).2.2.2.2.1 P119 (KJ sc d 141 6616 (mth 119) P119 Q) Q 101 22 [some (.ref 0)] [] (cM (fun _ _ => 0) gR4 gF4 112) 111 2985
  refine And.intro ⟨by decide, by decide, by show 112 < 999999; omega⟩ ?_
  refine And.intro rfl ?_
  show zw sc d 141 6616 (mth 119).2.2.2.2.1 P119 (KJ sc d 141 6616 (mth 119) P119 Q) Q 98 25 [some (.ref 0)] [.ref (112), .ref (112), .ref 0] (nA (cM (fun _ _ => 0) gR4 gF4 (112)) 0 12) 112 2997
  rw [cA (z := 112) (Fr_of (fun _ _ => rfl) (by decide +kernel))]
  refine And.intro ⟨by omega, Nat.le_of_ble_eq_true rfl, by decide, by decide⟩ (And.intro trivial ?_)
  refine K0 (by omega) (by decide) (by rw [up_eq]) (by decide) (Fr_s (z := 112) 1 (Fr_of (fun _ _ => rfl) (by decide +kernel))) ?_
  show zw sc d 141 6616 (mth 119).2.2.2.2.1 P119 (KJ sc d 141 6616 (mth 119) P119 Q) Q 97 26 [some (.ref 0)] [.ref 112, .ref 0] (cM (fun _ _ => 0) (arR KaX0 112 113 gR4 11) gF5 124) 123 4421
  refine And.intro ⟨by decide, by decide +kernel⟩ ?_
  show zw sc d 141 6616 (mth 119).2.2.2.2.1 P119 (KJ sc d 141 6616 (mth 119) P119 Q) Q 96 27 [some (.ref 0)] [] (uR (cM (fun _ _ => 0) (arR KaX0 112 113 gR4 11) gF5 124) 0 7 (some 112)) 123 4421
  rw [cR]
  show zw sc d 141 6616 (mth 119).2.2.2.2.1 P119 (KJ sc d 141 6616 (mth 119) P119 Q) Q 96 27 [some (.ref 0)] [] (cM (fun _ _ => 0) gR5 gF5 124) 123 4421
  refine And.intro ⟨by decide, by decide, by show 124 < 999999; omega⟩ ?_
  refine And.intro rfl ?_
  show zw sc d 141 6616 (mth 119).2.2.2.2.1 P119 (KJ sc d 141 6616 (mth 119) P119 Q) Q 93 30 [some (.ref 0)] [.ref (124), .ref (124), .ref 0] (nA (cM (fun _ _ => 0) gR5 gF5 (124)) 0 12) 124 4433
  rw [cA (z := 124) (Fr_of (fun _ _ => rfl) (by decide +kernel))]
  refine And.intro ⟨by omega, Nat.le_of_ble_eq_true rfl, by decide, by decide⟩ (And.intro trivial ?_)
  refine K0 (by omega) (by decide) (by rw [up_eq]) (by decide) (Fr_s (z := 124) 1 (Fr_of (fun _ _ => rfl) (by decide +kernel))) ?_
  show zw sc d 141 6616 (mth 119).2.2.2.2.1 P119 (KJ sc d 141 6616 (mth 119) P119 Q) Q 92 31 [some (.ref 0)] [.ref 124, .ref 0] (cM (fun _ _ => 0) (arR KaX0 124 125 gR5 11) gF6 136) 135 5857
  refine And.intro ⟨by decide, by decide +kernel⟩ ?_
  show zw sc d 141 6616 (mth 119).2.2.2.2.1 P119 (KJ sc d 141 6616 (mth 119) P119 Q) Q 91 32 [some (.ref 0)] [] (uR (cM (fun _ _ => 0) (arR KaX0 124 125 gR5 11) gF6 136) 0 8 (some 124)) 135 5857
  rw [cR]
  show zw sc d 141 6616 (mth 119).2.2.2.2.1 P119 (KJ sc d 141 6616 (mth 119) P119 Q) Q 91 32 [some (.ref 0)] [] (cM (fun _ _ => 0) gR6 gF6 136) 135 5857
  refine And.intro ⟨by decide, by decide, by show 136 < 999999; omega⟩ ?_
  refine And.intro rfl ?_
  show zw sc d 141 6616 (mth 119).2.2.2.2.1 P119 (KJ sc d 141 6616 (mth 119) P119 Q) Q 88 35 [some (.ref 0)] [.ref (136), .ref (136), .ref 0] (nA (cM (fun _ _ => 0) gR6 gF6 (136)) 8 4) 136 5861
  rw [cA (z := 136) (Fr_of (fun _ _ => rfl) (by decide +kernel))]
  refine And.intro ⟨by omega, Nat.le_of_ble_eq_true rfl, by decide, by decide⟩ (And.intro trivial ?_)
  refine K112 (by omega) (by decide) (by rw [up_eq]) (by decide) (Fr_s (z := 136) 1 (Fr_of (fun _ _ => rfl) (by decide +kernel))) ?_
  show zw sc d 141 6616 (mth 119).2.2.2.2.1 P119 (KJ sc d 141 6616 (mth 119) P119 Q) Q 87 36 [some (.ref 0)] [.ref 136, .ref 0] (cM (fun _ _ => 0) (arR KaX9 136 137 gR6 2) gF7 139) 138 5889
  refine And.intro ⟨by decide, by decide +kernel⟩ ?_
  show zw sc d 141 6616 (mth 119).2.2.2.2.1 P119 (KJ sc d 141 6616 (mth 119) P119 Q) Q 86 37 [some (.ref 0)] [] (uR (cM (fun _ _ => 0) (arR KaX9 136 137 gR6 2) gF7 139) 0 9 (some 136)) 138 5889
  rw [cR]
  show zw sc d 141 6616 (mth 119).2.2.2.2.1 P119 (KJ sc d 141 6616 (mth 119) P119 Q) Q 86 37 [some (.ref 0)] [] (cM (fun _ _ => 0) gR7 gF7 139) 138 5889
  refine And.intro ⟨by decide, by decide, by show 139 < 999999; omega⟩ ?_
  refine And.intro rfl ?_
  show zw sc d 141 6616 (mth 119).2.2.2.2.1 P119 (KJ sc d 141 6616 (mth 119) P119 Q) Q 83 40 [some (.ref 0)] [.ref (139), .ref (139), .ref 0] (nA (cM (fun _ _ => 0) gR7 gF7 (139)) 5 5) 139 5894
  rw [cA (z := 139) (Fr_of (fun _ _ => rfl) (by decide +kernel))]
  refine And.intro ⟨by omega, Nat.le_of_ble_eq_true rfl, by decide, by decide⟩ (And.intro trivial ?_)
  refine K90 (by omega) (by decide) (by rw [up_eq]) (by decide) (Fr_s (z := 139) 1 (Fr_of (fun _ _ => rfl) (by decide +kernel))) ?_
  show zw sc d 141 6616 (mth 119).2.2.2.2.1 P119 (KJ sc d 141 6616 (mth 119) P119 Q) Q 82 41 [some (.ref 0)] [.ref 139, .ref 0] (cM (fun _ _ => 0) (arR KaX6 139 140 gR7 1) gF8 141) 140 6614
  refine And.intro ⟨by decide, by decide +kernel⟩ ?_
  show zw sc d 141 6616 (mth 119).2.2.2.2.1 P119 (KJ sc d 141 6616 (mth 119) P119 Q) Q 81 42 [some (.ref 0)] [] (uR (cM (fun _ _ => 0) (arR KaX6 139 140 gR7 1) gF8 141) 0 10 (some 139)) 140 6614
  rw [cR]
  show zw sc d 141 6616 (mth 119).2.2.2.2.1 P119 (KJ sc d 141 6616 (mth 119) P119 Q) Q 81 42 [some (.ref 0)] [] (cM (fun _ _ => 0) gR8 gF8 141) 140 6614
  refine And.intro ⟨by decide, by decide, by show 141 < 999999; omega⟩ ?_
  refine And.intro rfl ?_
  show zw sc d 141 6616 (mth 119).2.2.2.2.1 P119 (KJ sc d 141 6616 (mth 119) P119 Q) Q 78 45 [some (.ref 0)] [.ref (141), .ref (141), .ref 0] (nA (cM (fun _ _ => 0) gR8 gF8 (141)) 4 2) 141 6616
  rw [cA (z := 141) (Fr_of (fun _ _ => rfl) (by decide +kernel))]
  refine And.intro ⟨by omega, Nat.le_of_ble_eq_true rfl, by decide, by decide⟩ (And.intro trivial ?_)
  refine K86 (by omega) ?_
  show zw sc d 141 6616 (mth 119).2.2.2.2.1 P119 (KJ sc d 141 6616 (mth 119) P119 Q) Q 77 46 [some (.ref 0)] [.ref 141, .ref 0] (cM (fun _ _ => 0) (gR8) gF9 142) 141 6616
  refine And.intro ⟨by decide, by decide +kernel⟩ ?_
  show zw sc d 141 6616 (mth 119).2.2.2.2.1 P119 (KJ sc d 141 6616 (mth 119) P119 Q) Q 76 47 [some (.ref 0)] [] (uR (cM (fun _ _ => 0) (gR8) gF9 142) 0 11 (some 141)) 141 6616
  rw [cR]
  show zw sc d 141 6616 (mth 119).2.2.2.2.1 P119 (KJ sc d 141 6616 (mth 119) P119 Q) Q 76 47 [some (.ref 0)] [] (cM (fun _ _ => 0) gR9 gF9 142) 141 6616
  refine And.intro ⟨by decide, by decide +kernel⟩ (And.intro (Or.inr rfl) ?_)
  exact ⟨⟨rfl, rfl, by decide, by decide⟩, hQ⟩
theorem Fr_i {i : Nat → Nat → Int32} {rl : List (Nat × Nat × Nat)} {z b k : Nat} {x : Int32} (h : Fr i rl z) (hb : b < z) : Fr (va_up i b (upd (i b) k x)) rl z := fun y hy => ⟨(up_ne (by omega)).trans (h y hy).1, (h y hy).2⟩
theorem K198 {d : Nat} {Q : Option Value → Mm → Prop} {b z : Nat} {i : Nat → Nat → Int32} {rl : List (Nat × Nat × Nat)} {f : Nat → Nat × Nat} (hd : 1 ≤ d) (hb : b < z) (ht : (f b).1 = 11) (hz : z + 14 < 999999) (hF : Fr i rl z) (hQ : Q none (cM (va_up i b (upd (i b) 2 (-nI 1))) (arR KaX12 b z rl 14) (arF TaX12 f z 14) (z + 14))) : Cc d 14 3548 198 [.ref b] (cM i rl f z) Q := by
  refine ent (n := 144) z198 (by decide) rfl (by decide) (Nat.le_of_ble_eq_true rfl) (fun sc => ?_)
  refine And.intro ⟨by omega, Nat.le_of_ble_eq_true rfl⟩ ?_
  refine And.intro ⟨hb, ht⟩ ?_
  refine And.intro ⟨by decide, by decide, by decide, by decide, by show z + 0 < 999999; omega⟩ ?_
  show zw sc d 14 3548 (mth 198).2.2.2.2.1 P198 (KJ sc d 14 3548 (mth 198) P198 Q) Q 137 8 [some (.ref b)] [.ref (z + 0), .ref b] (nA (cM (va_up i b (upd (i b) 2 (-nI 1))) (arR KaX12 b z rl 0) (arF TaX12 f z 0) (z + 0)) 101 1200) 1 1200
  rw [cA (Fr_ar (Fr_i hF hb) hb 0)]
  refine And.intro (ar_o hb ht 0) ?_
  show zw sc d 14 3548 (mth 198).2.2.2.2.1 P198 (KJ sc d 14 3548 (mth 198) P198 Q) Q 136 9 [some (.ref b)] [] (uR (cM (va_up i b (upd (i b) 2 (-nI 1))) (arR KaX12 b z rl 0) (va_up (arF TaX12 f z 0) (z + 0) (101, 1200)) (z + 0 + 1)) b 5 (some (z + 0))) 1 1200
  rw [cR]
  show zw sc d 14 3548 (mth 198).2.2.2.2.1 P198 (KJ sc d 14 3548 (mth 198) P198 Q) Q 136 9 [some (.ref b)] [] (cM (va_up i b (upd (i b) 2 (-nI 1))) (arR KaX12 b z rl 1) (arF TaX12 f z 1) (z + 1)) 1 1200
  refine And.intro ⟨by decide, by decide, by decide, by decide, by show z + 1 < 999999; omega⟩ ?_
  show zw sc d 14 3548 (mth 198).2.2.2.2.1 P198 (KJ sc d 14 3548 (mth 198) P198 Q) Q 133 12 [some (.ref b)] [.ref (z + 1), .ref b] (nA (cM (va_up i b (upd (i b) 2 (-nI 1))) (arR KaX12 b z rl 1) (arF TaX12 f z 1) (z + 1)) 100 8) 2 1208
  rw [cA (Fr_ar (Fr_i hF hb) hb 1)]
  refine And.intro (ar_o hb ht 1) ?_
  show zw sc d 14 3548 (mth 198).2.2.2.2.1 P198 (KJ sc d 14 3548 (mth 198) P198 Q) Q 132 13 [some (.ref b)] [] (uR (cM (va_up i b (upd (i b) 2 (-nI 1))) (arR KaX12 b z rl 1) (va_up (arF TaX12 f z 1) (z + 1) (100, 8)) (z + 1 + 1)) b 16 (some (z + 1))) 2 1208
  rw [cR]
  show zw sc d 14 3548 (mth 198).2.2.2.2.1 P198 (KJ sc d 14 3548 (mth 198) P198 Q) Q 132 13 [some (.ref b)] [] (cM (va_up i b (upd (i b) 2 (-nI 1))) (arR KaX12 b z rl 2) (arF TaX12 f z 2) (z + 2)) 2 1208
  refine And.intro ⟨by decide, by decide, by decide, by decide, by show z + 2 < 999999; omega⟩ ?_
  show zw sc d 14 3548 (mth 198).2.2.2.2.1 P198 (KJ sc d 14 3548 (mth 198) P198 Q) Q 129 16 [some (.ref b)] [.ref (z + 2), .ref b] (nA (cM (va_up i b (upd (i b) 2 (-nI 1))) (arR KaX12 b z rl 2) (arF TaX12 f z 2) (z + 2)) 100 48) 3 1256
  rw [cA (Fr_ar (Fr_i hF hb) hb 2)]
  refine And.intro (ar_o hb ht 2) ?_
  show zw sc d 14 3548 (mth 198).2.2.2.2.1 P198 (KJ sc d 14 3548 (mth 198) P198 Q) Q 128 17 [some (.ref b)] [] (uR (cM (va_up i b (upd (i b) 2 (-nI 1))) (arR KaX12 b z rl 2) (va_up (arF TaX12 f z 2) (z + 2) (100, 48)) (z + 2 + 1)) b 18 (some (z + 2))) 3 1256
  rw [cR]
  show zw sc d 14 3548 (mth 198).2.2.2.2.1 P198 (KJ sc d 14 3548 (mth 198) P198 Q) Q 128 17 [some (.ref b)] [] (cM (va_up i b (upd (i b) 2 (-nI 1))) (arR KaX12 b z rl 3) (arF TaX12 f z 3) (z + 3)) 3 1256
  refine And.intro ⟨by decide, by decide, by decide, by decide, by show z + 3 < 999999; omega⟩ ?_
  show zw sc d 14 3548 (mth 198).2.2.2.2.1 P198 (KJ sc d 14 3548 (mth 198) P198 Q) Q 125 20 [some (.ref b)] [.ref (z + 3), .ref b] (nA (cM (va_up i b (upd (i b) 2 (-nI 1))) (arR KaX12 b z rl 3) (arF TaX12 f z 3) (z + 3)) 100 576) 4 1832
  rw [cA (Fr_ar (Fr_i hF hb) hb 3)]
  refine And.intro (ar_o hb ht 3) ?_
  show zw sc d 14 3548 (mth 198).2.2.2.2.1 P198 (KJ sc d 14 3548 (mth 198) P198 Q) Q 124 21 [some (.ref b)] [] (uR (cM (va_up i b (upd (i b) 2 (-nI 1))) (arR KaX12 b z rl 3) (va_up (arF TaX12 f z 3) (z + 3) (100, 576)) (z + 3 + 1)) b 19 (some (z + 3))) 4 1832
  rw [cR]
  show zw sc d 14 3548 (mth 198).2.2.2.2.1 P198 (KJ sc d 14 3548 (mth 198) P198 Q) Q 124 21 [some (.ref b)] [] (cM (va_up i b (upd (i b) 2 (-nI 1))) (arR KaX12 b z rl 4) (arF TaX12 f z 4) (z + 4)) 4 1832
  refine And.intro ⟨by decide, by decide, by decide, by decide, by show z + 4 < 999999; omega⟩ ?_
  show zw sc d 14 3548 (mth 198).2.2.2.2.1 P198 (KJ sc d 14 3548 (mth 198) P198 Q) Q 121 24 [some (.ref b)] [.ref (z + 4), .ref b] (nA (cM (va_up i b (upd (i b) 2 (-nI 1))) (arR KaX12 b z rl 4) (arF TaX12 f z 4) (z + 4)) 100 144) 5 1976
  rw [cA (Fr_ar (Fr_i hF hb) hb 4)]
  refine And.intro (ar_o hb ht 4) ?_
  show zw sc d 14 3548 (mth 198).2.2.2.2.1 P198 (KJ sc d 14 3548 (mth 198) P198 Q) Q 120 25 [some (.ref b)] [] (uR (cM (va_up i b (upd (i b) 2 (-nI 1))) (arR KaX12 b z rl 4) (va_up (arF TaX12 f z 4) (z + 4) (100, 144)) (z + 4 + 1)) b 20 (some (z + 4))) 5 1976
  rw [cR]
  show zw sc d 14 3548 (mth 198).2.2.2.2.1 P198 (KJ sc d 14 3548 (mth 198) P198 Q) Q 120 25 [some (.ref b)] [] (cM (va_up i b (upd (i b) 2 (-nI 1))) (arR KaX12 b z rl 5) (arF TaX12 f z 5) (z + 5)) 5 1976
  refine And.intro ⟨by decide, by decide, by decide, by decide, by show z + 5 < 999999; omega⟩ ?_
  show zw sc d 14 3548 (mth 198).2.2.2.2.1 P198 (KJ sc d 14 3548 (mth 198) P198 Q) Q 117 28 [some (.ref b)] [.ref (z + 5), .ref b] (nA (cM (va_up i b (upd (i b) 2 (-nI 1))) (arR KaX12 b z rl 5) (arF TaX12 f z 5) (z + 5)) 100 8) 6 1984
  rw [cA (Fr_ar (Fr_i hF hb) hb 5)]
  refine And.intro (ar_o hb ht 5) ?_
  show zw sc d 14 3548 (mth 198).2.2.2.2.1 P198 (KJ sc d 14 3548 (mth 198) P198 Q) Q 116 29 [some (.ref b)] [] (uR (cM (va_up i b (upd (i b) 2 (-nI 1))) (arR KaX12 b z rl 5) (va_up (arF TaX12 f z 5) (z + 5) (100, 8)) (z + 5 + 1)) b 23 (some (z + 5))) 6 1984
  rw [cR]
  show zw sc d 14 3548 (mth 198).2.2.2.2.1 P198 (KJ sc d 14 3548 (mth 198) P198 Q) Q 116 29 [some (.ref b)] [] (cM (va_up i b (upd (i b) 2 (-nI 1))) (arR KaX12 b z rl 6) (arF TaX12 f z 6) (z + 6)) 6 1984
  refine And.intro ⟨by decide, by decide, by decide, by decide, by show z + 6 < 999999; omega⟩ ?_
  show zw sc d 14 3548 (mth 198).2.2.2.2.1 P198 (KJ sc d 14 3548 (mth 198) P198 Q) Q 113 32 [some (.ref b)] [.ref (z + 6), .ref b] (nA (cM (va_up i b (upd (i b) 2 (-nI 1))) (arR KaX12 b z rl 6) (arF TaX12 f z 6) (z + 6)) 100 8) 7 1992
  rw [cA (Fr_ar (Fr_i hF hb) hb 6)]
  refine And.intro (ar_o hb ht 6) ?_
  show zw sc d 14 3548 (mth 198).2.2.2.2.1 P198 (KJ sc d 14 3548 (mth 198) P198 Q) Q 112 33 [some (.ref b)] [] (uR (cM (va_up i b (upd (i b) 2 (-nI 1))) (arR KaX12 b z rl 6) (va_up (arF TaX12 f z 6) (z + 6) (100, 8)) (z + 6 + 1)) b 24 (some (z + 6))) 7 1992
  rw [cR]
  show zw sc d 14 3548 (mth 198).2.2.2.2.1 P198 (KJ sc d 14 3548 (mth 198) P198 Q) Q 112 33 [some (.ref b)] [] (cM (va_up i b (upd (i b) 2 (-nI 1))) (arR KaX12 b z rl 7) (arF TaX12 f z 7) (z + 7)) 7 1992
  refine And.intro ⟨by decide, by decide, by decide, by decide, by show z + 7 < 999999; omega⟩ ?_
  show zw sc d 14 3548 (mth 198).2.2.2.2.1 P198 (KJ sc d 14 3548 (mth 198) P198 Q) Q 109 36 [some (.ref b)] [.ref (z + 7), .ref b] (nA (cM (va_up i b (upd (i b) 2 (-nI 1))) (arR KaX12 b z rl 7) (arF TaX12 f z 7) (z + 7)) 100 8) 8 2000
  rw [cA (Fr_ar (Fr_i hF hb) hb 7)]
  refine And.intro (ar_o hb ht 7) ?_
  show zw sc d 14 3548 (mth 198).2.2.2.2.1 P198 (KJ sc d 14 3548 (mth 198) P198 Q) Q 108 37 [some (.ref b)] [] (uR (cM (va_up i b (upd (i b) 2 (-nI 1))) (arR KaX12 b z rl 7) (va_up (arF TaX12 f z 7) (z + 7) (100, 8)) (z + 7 + 1)) b 25 (some (z + 7))) 8 2000
  rw [cR]
  show zw sc d 14 3548 (mth 198).2.2.2.2.1 P198 (KJ sc d 14 3548 (mth 198) P198 Q) Q 108 37 [some (.ref b)] [] (cM (va_up i b (upd (i b) 2 (-nI 1))) (arR KaX12 b z rl 8) (arF TaX12 f z 8) (z + 8)) 8 2000
  refine And.intro ⟨by decide, by decide, by decide, by decide, by show z + 8 < 999999; omega⟩ ?_
  show zw sc d 14 3548 (mth 198).2.2.2.2.1 P198 (KJ sc d 14 3548 (mth 198) P198 Q) Q 105 40 [some (.ref b)] [.ref (z + 8), .ref b] (nA (cM (va_up i b (upd (i b) 2 (-nI 1))) (arR KaX12 b z rl 8) (arF TaX12 f z 8) (z + 8)) 100 8) 9 2008
  rw [cA (Fr_ar (Fr_i hF hb) hb 8)]
  refine And.intro (ar_o hb ht 8) ?_
  show zw sc d 14 3548 (mth 198).2.2.2.2.1 P198 (KJ sc d 14 3548 (mth 198) P198 Q) Q 104 41 [some (.ref b)] [] (uR (cM (va_up i b (upd (i b) 2 (-nI 1))) (arR KaX12 b z rl 8) (va_up (arF TaX12 f z 8) (z + 8) (100, 8)) (z + 8 + 1)) b 26 (some (z + 8))) 9 2008
  rw [cR]
  show zw sc d 14 3548 (mth 198).2.2.2.2.1 P198 (KJ sc d 14 3548 (mth 198) P198 Q) Q 104 41 [some (.ref b)] [] (cM (va_up i b (upd (i b) 2 (-nI 1))) (arR KaX12 b z rl 9) (arF TaX12 f z 9) (z + 9)) 9 2008
  refine And.intro ⟨by decide, by decide, by decide, by decide, by show z + 9 < 999999; omega⟩ ?_
  show zw sc d 14 3548 (mth 198).2.2.2.2.1 P198 (KJ sc d 14 3548 (mth 198) P198 Q) Q 101 44 [some (.ref b)] [.ref (z + 9), .ref b] (nA (cM (va_up i b (upd (i b) 2 (-nI 1))) (arR KaX12 b z rl 9) (arF TaX12 f z 9) (z + 9)) 100 8) 10 2016
  rw [cA (Fr_ar (Fr_i hF hb) hb 9)]
  refine And.intro (ar_o hb ht 9) ?_
  show zw sc d 14 3548 (mth 198).2.2.2.2.1 P198 (KJ sc d 14 3548 (mth 198) P198 Q) Q 100 45 [some (.ref b)] [] (uR (cM (va_up i b (upd (i b) 2 (-nI 1))) (arR KaX12 b z rl 9) (va_up (arF TaX12 f z 9) (z + 9) (100, 8)) (z + 9 + 1)) b 27 (some (z + 9))) 10 2016
  rw [cR]
  show zw sc d 14 3548 (mth 198).2.2.2.2.1 P198 (KJ sc d 14 3548 (mth 198) P198 Q) Q 100 45 [some (.ref b)] [] (cM (va_up i b (upd (i b) 2 (-nI 1))) (arR KaX12 b z rl 10) (arF TaX12 f z 10) (z + 10)) 10 2016
  refine And.intro ⟨by decide, by decide, by decide, by decide, by show z + 10 < 999999; omega⟩ ?_
  show zw sc d 14 3548 (mth 198).2.2.2.2.1 P198 (KJ sc d 14 3548 (mth 198) P198 Q) Q 97 48 [some (.ref b)] [.ref (z + 10), .ref b] (nA (cM (va_up i b (upd (i b) 2 (-nI 1))) (arR KaX12 b z rl 10) (arF TaX12 f z 10) (z + 10)) 100 8) 11 2024
  rw [cA (Fr_ar (Fr_i hF hb) hb 10)]
  refine And.intro (ar_o hb ht 10) ?_
  show zw sc d 14 3548 (mth 198).2.2.2.2.1 P198 (KJ sc d 14 3548 (mth 198) P198 Q) Q 96 49 [some (.ref b)] [] (uR (cM (va_up i b (upd (i b) 2 (-nI 1))) (arR KaX12 b z rl 10) (va_up (arF TaX12 f z 10) (z + 10) (100, 8)) (z + 10 + 1)) b 28 (some (z + 10))) 11 2024
  rw [cR]
  show zw sc d 14 3548 (mth 198).2.2.2.2.1 P198 (KJ sc d 14 3548 (mth 198) P198 Q) Q 96 49 [some (.ref b)] [] (cM (va_up i b (upd (i b) 2 (-nI 1))) (arR KaX12 b z rl 11) (arF TaX12 f z 11) (z + 11)) 11 2024
  refine And.intro ⟨by decide, by decide, by decide, by decide, by show z + 11 < 999999; omega⟩ ?_
  show zw sc d 14 3548 (mth 198).2.2.2.2.1 P198 (KJ sc d 14 3548 (mth 198) P198 Q) Q 93 52 [some (.ref b)] [.ref (z + 11), .ref b] (nA (cM (va_up i b (upd (i b) 2 (-nI 1))) (arR KaX12 b z rl 11) (arF TaX12 f z 11) (z + 11)) 100 800) 12 2824
  rw [cA (Fr_ar (Fr_i hF hb) hb 11)]
  refine And.intro (ar_o hb ht 11) ?_
  show zw sc d 14 3548 (mth 198).2.2.2.2.1 P198 (KJ sc d 14 3548 (mth 198) P198 Q) Q 92 53 [some (.ref b)] [] (uR (cM (va_up i b (upd (i b) 2 (-nI 1))) (arR KaX12 b z rl 11) (va_up (arF TaX12 f z 11) (z + 11) (100, 800)) (z + 11 + 1)) b 29 (some (z + 11))) 12 2824
  rw [cR]
  show zw sc d 14 3548 (mth 198).2.2.2.2.1 P198 (KJ sc d 14 3548 (mth 198) P198 Q) Q 92 53 [some (.ref b)] [] (cM (va_up i b (upd (i b) 2 (-nI 1))) (arR KaX12 b z rl 12) (arF TaX12 f z 12) (z + 12)) 12 2824
  refine And.intro ⟨by decide, by decide, by decide, by decide, by show z + 12 < 999999; omega⟩ ?_
  show zw sc d 14 3548 (mth 198).2.2.2.2.1 P198 (KJ sc d 14 3548 (mth 198) P198 Q) Q 89 56 [some (.ref b)] [.ref (z + 12), .ref b] (nA (cM (va_up i b (upd (i b) 2 (-nI 1))) (arR KaX12 b z rl 12) (arF TaX12 f z 12) (z + 12)) 100 4) 13 2828
  rw [cA (Fr_ar (Fr_i hF hb) hb 12)]
  refine And.intro (ar_o hb ht 12) ?_
  show zw sc d 14 3548 (mth 198).2.2.2.2.1 P198 (KJ sc d 14 3548 (mth 198) P198 Q) Q 88 57 [some (.ref b)] [] (uR (cM (va_up i b (upd (i b) 2 (-nI 1))) (arR KaX12 b z rl 12) (va_up (arF TaX12 f z 12) (z + 12) (100, 4)) (z + 12 + 1)) b 30 (some (z + 12))) 13 2828
  rw [cR]
  show zw sc d 14 3548 (mth 198).2.2.2.2.1 P198 (KJ sc d 14 3548 (mth 198) P198 Q) Q 88 57 [some (.ref b)] [] (cM (va_up i b (upd (i b) 2 (-nI 1))) (arR KaX12 b z rl 13) (arF TaX12 f z 13) (z + 13)) 13 2828
  refine And.intro ⟨by decide, by decide, by decide, by decide, by show z + 13 < 999999; omega⟩ ?_
  show zw sc d 14 3548 (mth 198).2.2.2.2.1 P198 (KJ sc d 14 3548 (mth 198) P198 Q) Q 85 60 [some (.ref b)] [.ref (z + 13), .ref b] (nA (cM (va_up i b (upd (i b) 2 (-nI 1))) (arR KaX12 b z rl 13) (arF TaX12 f z 13) (z + 13)) 100 720) 14 3548
  rw [cA (Fr_ar (Fr_i hF hb) hb 13)]
  refine And.intro (ar_o hb ht 13) ?_
  show zw sc d 14 3548 (mth 198).2.2.2.2.1 P198 (KJ sc d 14 3548 (mth 198) P198 Q) Q 84 61 [some (.ref b)] [] (uR (cM (va_up i b (upd (i b) 2 (-nI 1))) (arR KaX12 b z rl 13) (va_up (arF TaX12 f z 13) (z + 13) (100, 720)) (z + 13 + 1)) b 31 (some (z + 13))) 14 3548
  rw [cR]
  show zw sc d 14 3548 (mth 198).2.2.2.2.1 P198 (KJ sc d 14 3548 (mth 198) P198 Q) Q 84 61 [some (.ref b)] [] (cM (va_up i b (upd (i b) 2 (-nI 1))) (arR KaX12 b z rl 14) (arF TaX12 f z 14) (z + 14)) 14 3548
  exact ⟨⟨rfl, rfl, by decide, by decide⟩, hQ⟩
