def stp (f : Nat → Int32) (y : Int32) : Int32 := if y = -nI 2 then -nI 2 else f (nv y)
def itF (f : Nat → Int32) (x : Int32) : Nat → Int32
  | 0 => x
  | k + 1 => stp f (itF f x k)
def lpF (f : Nat → Int32) (r : Int32) : Nat → Nat → Int32
  | 0, _ => -nI 2
  | n + 1, i => if itF f r i = r then nI i else lpF f r n (i + 1)
def rgF (f : Nat → Int32) (x : Int32) : Int32 := if itF f x 6 = -nI 2 then -nI 2 else lpF f (itF f x 6) 6 1
def gdv (n : Nat) (y : Int32) : Prop := y = -nI 2 ∨ iR y n
theorem gdv_it {f : Nat → Int32} {n : Nat} {x : Int32} (hn : n ≤ 6) (hf : ∀ g, g < n → gdv n (f g)) (hx : gdv n x) : ∀ k, gdv n (itF f x k)
  | 0 => hx
  | k + 1 => by
    show gdv n (stp f (itF f x k))
    unfold stp
    split
    · exact Or.inl rfl
    · next h =>
      exact hf _ (iR_lt ((gdv_it hn hf hx k).resolve_left h) (by omega))
theorem it_a {f : Nat → Int32} {x : Int32} {a : Nat} : ∀ b, itF f (itF f x a) b = itF f x (a + b)
  | 0 => rfl
  | b + 1 => by
    show stp f (itF f (itF f x a) b) = stp f (itF f x (a + b))
    rw [it_a b]
theorem it_1 {f : Nat → Int32} {x : Int32} {i : Nat} : itF f (itF f x i) 1 = itF f x (i + 1) := rfl
theorem it_d {f : Nat → Int32} {x : Int32} {a : Nat} (h : itF f x a = -nI 2) : ∀ b, itF f x (a + b) = -nI 2
  | 0 => h
  | b + 1 => by
    show stp f (itF f x (a + b)) = -nI 2
    rw [it_d h b]
    exact if_pos rfl
theorem it_sh {f : Nat → Int32} {x : Int32} {a b : Nat} (h : itF f x a = itF f x b) (i : Nat) : itF f x (a + i) = itF f x (b + i) := by
  rw [← it_a, ← it_a, h]
theorem it_m {f : Nat → Int32} {x : Int32} {a p : Nat} (h : itF f x (a + p) = itF f x a) : ∀ N, itF f x (a + N * p) = itF f x a
  | 0 => by rw [Nat.zero_mul]; rfl
  | N + 1 => by
    rw [Nat.succ_mul, Nat.add_comm (N * p) p, ← Nat.add_assoc, it_sh h (N * p)]
    exact it_m h N
theorem it_nn {f : Nat → Int32} {x : Int32} {a p : Nat} (hp : 0 < p) (h : itF f x (a + p) = itF f x a) (h2 : itF f x a ≠ -nI 2) (i : Nat) : itF f x i ≠ -nI 2 := fun z => by
  have h3 := it_m h i
  have h4 : i ≤ a + i * p := Nat.le_trans (Nat.le_mul_of_pos_right i hp) (Nat.le_add_left _ _)
  have h5 := it_d z (a + i * p - i)
  rw [show i + (a + i * p - i) = a + i * p by omega] at h5
  exact h2 (h3.symm.trans h5)
theorem rg_no {f : Nat → Int32} {x : Int32} {k : Nat} (hk : k ≤ 6) (h : itF f x k = -nI 2) : rgF f x = -nI 2 := by
  unfold rgF
  rw [if_pos]
  have := it_d h (6 - k)
  rw [show k + (6 - k) = 6 by omega] at this
  exact this
theorem lp_y {f : Nat → Int32} {r : Int32} {c : Nat} (hc : itF f r c = r) : ∀ n i, i ≤ c → c < i + n → (∀ j, i ≤ j → j < c → itF f r j ≠ r) → lpF f r n i = nI c
  | 0, i, h1, h2, _ => absurd h2 (by omega)
  | n + 1, i, h1, h2, h3 => by
    unfold lpF
    by_cases e : i = c
    · rw [e, if_pos hc]
    · rw [if_neg (h3 i (Nat.le_refl _) (by omega))]
      exact lp_y hc n (i + 1) (by omega) (by omega) (fun j hj hjc => h3 j (by omega) hjc)
theorem rg_p {f : Nat → Int32} {x : Int32} {a p c : Nat} (hp : 0 < p) (h : itF f x (a + p) = itF f x a) (ha : a ≤ 6) : itF f x (6 + c) = itF f x 6 ↔ itF f x (a + c) = itF f x a := by
  refine ⟨fun z => ?_, fun z => ?_⟩
  · have h6 : 6 ≤ 6 * p := Nat.le_mul_of_pos_right 6 hp
    have z1 := it_sh z (a + 6 * p - 6)
    rw [show 6 + c + (a + 6 * p - 6) = a + 6 * p + c by omega, show 6 + (a + 6 * p - 6) = a + 6 * p by omega, it_sh (it_m h 6) c, it_m h 6] at z1
    exact z1
  · have z1 := it_sh z (6 - a)
    rw [show a + c + (6 - a) = 6 + c by omega, show a + (6 - a) = 6 by omega] at z1
    exact z1
theorem rg_yes {f : Nat → Int32} {x : Int32} {a p c : Nat} (hp : 0 < p) (hp6 : p ≤ 6) (h : itF f x (a + p) = itF f x a) (ha : a ≤ 6) (h2 : itF f x a ≠ -nI 2) (hc0 : 0 < c) (hc : itF f x (a + c) = itF f x a) (hm : ∀ i, 0 < i → i < c → itF f x (a + i) ≠ itF f x a) : rgF f x = nI c := by
  unfold rgF
  rw [if_neg (it_nn hp h h2 6)]
  have hcp : c ≤ p := Nat.le_of_not_lt (fun z => hm p hp z h)
  refine lp_y ?_ 6 1 (by omega) (by omega) (fun j hj hjc => ?_)
  · rw [it_a]; exact (rg_p hp h ha).mpr hc
  · rw [it_a]; exact fun z => hm j (by omega) hjc ((rg_p hp h ha).mp z)
theorem vs_1 : ∀ v, v < 64 → ∀ g, g < 6 → ¬ bq (nI v) (nI g) → nv (bcF (nI v)) < 6 ∧ nv (nI v ||| nI 1 <<< (nI g &&& 31)) < 64 ∧ nI v ||| nI 1 <<< (nI g &&& 31) = nI (nv (nI v ||| nI 1 <<< (nI g &&& 31))) ∧ nv (bcF (nI v ||| nI 1 <<< (nI g &&& 31))) = nv (bcF (nI v)) + 1 := by decide +kernel
theorem vs_6 : ∀ v, v < 64 → nv (bcF (nI v)) ≤ 6 := by decide +kernel
/-- gods seen: the first k of the way -/
def vis (f : Nat → Int32) (x : Int32) (v k : Nat) : Prop := v < 64 ∧ nv (bcF (nI v)) = k ∧ ∀ g, g < 6 → (bq (nI v) (nI g) ↔ ∃ i, i < k ∧ itF f x i = nI g)
theorem vis_0 {f : Nat → Int32} {x : Int32} : vis f x 0 0 := ⟨by decide, by decide +kernel, fun g hg => ⟨fun z => absurd z (bq_0 g (by omega)), fun ⟨i, hi, _⟩ => absurd hi (Nat.not_lt_zero _)⟩⟩
theorem vis_s {f : Nat → Int32} {x : Int32} {v k g : Nat} (h : vis f x v k) (hg : g < 6) (e : itF f x k = nI g) (hn : ¬ bq (nI v) (nI g)) : vis f x (nv (nI v ||| nI 1 <<< (nI g &&& 31))) (k + 1) ∧ nI v ||| nI 1 <<< (nI g &&& 31) = nI (nv (nI v ||| nI 1 <<< (nI g &&& 31))) ∧ k < 6 := by
  obtain ⟨a1, a2, a3⟩ := h
  obtain ⟨b1, b2, b3, b4⟩ := vs_1 v a1 g hg hn
  refine ⟨⟨b2, by rw [← b3, b4, a2], fun g2 hg2 => ?_⟩, b3, by omega⟩
  rw [← b3, bq_or (by omega), a3 g2 hg2]
  constructor
  · intro z
    rcases z with ⟨i, hi, ei⟩ | z
    · exact ⟨i, by omega, ei⟩
    · refine ⟨k, by omega, e.trans ?_⟩
      rw [(bq_1 g (by omega) g2 (by omega)).mp z]
  · rintro ⟨i, hi, ei⟩
    rcases Nat.lt_or_ge i k with h9 | h9
    · exact Or.inl ⟨i, h9, ei⟩
    · refine Or.inr ((bq_1 g (by omega) g2 (by omega)).mpr ?_)
      have : i = k := by omega
      rw [this, e] at ei
      exact ((nI_eq (by omega) (by omega)).mp ei).symm
theorem C36y {d : Nat} {m : Mm} {Q : Option Value → Mm → Prop} {a b t : Nat} {y : Int32} (hd : 1 ≤ d) (hL : LW m.2.2 a) (hB : SW m.2.2 b) (hg : iR y 6) (ht : t < 6) (hQ : Q (some (.int (onF (mI m (b + 2)) (mI m (a + 8)) (nv y) t))) m) : Cc d 0 0 36 [.ref a, .int y, .int (nI t), .ref b] m Q := by
  obtain ⟨g, hg, rfl⟩ := hg
  rw [nv_nI (by omega)] at hQ
  exact C36 hd hL hB hg ht hQ
theorem lwk {sc : Nat × (Nat → Int32)} {d : Nat} {m : Mm} {Q : Option Value → Mm → Prop} {a t n : Nat} (hd : 2 ≤ d) (hW : Wd m.2.2) (ha : va_rf (mR m 0 3) = .ref a) (hL : LW m.2.2 a) (ht : t < 6) (hn : n ≤ 6) (hf : ∀ g, g < n → gdv n ((fun g => onF (mI m (20 + 2)) (mI m (a + 8)) g t) g)) {x : Int32} {K : Nat} (hx : gdv n x) (hK : K ≤ 6) (hQ : Q (some (.int (itF (fun g => onF (mI m (20 + 2)) (mI m (a + 8)) g t) x K))) m)  : ∀ (j i : Nat), i ≤ K → K + 1 ≤ i + j → Jj sc d 0 0 (mth 192) (pg P192 4).1 [some (.ref 0), some (.int x), some (.int (nI t)), some (.int (nI K)), some (.int (itF (fun g => onF (mI m (20 + 2)) (mI m (a + 8)) g t) x i)), some (.int (nI i))] [] m 0 0 Q := by
  intro j
  induction j with
  | zero => intro i h1 h2; omega
  | succ j ih =>
    intro i h1 h2
    refine J_w z192 (i := 4) (by decide) 64 ?_
    refine And.intro (fun cz6 => ?_) (fun cz6 => ?_)
    · -- 6 taken: nI K ≤ nI i
      have kz6 : K ≤ i := kle (a := K) (b := i) rfl rfl (by omega) (by omega) cz6
      refine And.intro ⟨rfl, trivial, Nat.le_refl _, Nat.le_refl _⟩ ?_
      rw [show i = K by omega]
      exact hQ
    · -- 6 not: ¬ nI K ≤ nI i
      have kz6 : i < K := knle (a := K) (b := i) rfl rfl (by omega) (by omega) cz6
      refine And.intro (fun cz9 => ?_) (fun cz9 => ?_)
      · -- 9 taken: itF (fun g => onF (mI m (20 + 2)) (mI m (a + 8)) g t) x i = -nI 2
        refine And.intro ⟨rfl, trivial, Nat.le_refl _, Nat.le_refl _⟩ ?_
        have w9 := it_d (f := (fun g => onF (mI m (20 + 2)) (mI m (a + 8)) g t)) (x := x) cz9 (K - i)
        rw [show i + (K - i) = K by omega] at w9
        rw [cz9]
        rw [w9] at hQ
        exact hQ
      · -- 9 not: ¬ itF (fun g => onF (mI m (20 + 2)) (mI m (a + 8)) g t) x i = -nI 2
        refine And.intro (Wdo_0 hW) (Exists.intro _ (And.intro ha ?_))
        refine And.intro (Wdo_0 hW) (Exists.intro _ (And.intro (Wdr_0_4 hW) ?_))
        refine And.intro ⟨by omega, Nat.le_of_ble_eq_true rfl, Nat.le_refl _, Nat.le_refl _⟩ (And.intro (LWo_0 hL) ?_)
        refine C36y (y := itF (fun g => onF (mI m (20 + 2)) (mI m (a + 8)) g t) x i) (t := t) (b := 20) (by omega) hL (Wd_S hW) (iR_m ((gdv_it hn hf hx i).resolve_left cz9) hn) ht ?_
        show Jj sc d 0 0 (mth 192) (pg P192 4).1 [some (.ref 0), some (.int x), some (.int (nI t)), some (.int (nI K)), some (.int (onF (mI m (20 + 2)) (mI m (a + 8)) (nv (itF (fun g => onF (mI m (20 + 2)) (mI m (a + 8)) g t) x i)) t)), some (.int (nI i + nI 1))] [] m 0 0 Q
        rw [show nI i + nI 1 = nI (i + 1) from by simp only [nI_add, pk_mul]]
        have w9 := ih (i + 1) (by omega) (by omega)
        rw [show itF (fun g => onF (mI m (20 + 2)) (mI m (a + 8)) g t) x (i + 1) = onF (mI m (20 + 2)) (mI m (a + 8)) (nv (itF (fun g => onF (mI m (20 + 2)) (mI m (a + 8)) g t) x i)) t from if_neg cz9] at w9
        exact w9
theorem C192 {d : Nat} {m : Mm} {Q : Option Value → Mm → Prop} {a t n : Nat} (hd : 2 ≤ d) (hW : Wd m.2.2) (ha : va_rf (mR m 0 3) = .ref a) (hL : LW m.2.2 a) (ht : t < 6) (hn : n ≤ 6) (hf : ∀ g, g < n → gdv n ((fun g => onF (mI m (20 + 2)) (mI m (a + 8)) g t) g)) {x : Int32} {K : Nat} (hx : gdv n x) (hK : K ≤ 6) (hQ : Q (some (.int (itF (fun g => onF (mI m (20 + 2)) (mI m (a + 8)) g t) x K))) m)  : Cc d 0 0 192 [.ref 0, .int x, .int (nI t), .int (nI K)] m Q := by
  refine ent (n := 64) z192 (by decide) rfl (by decide) (Nat.le_of_ble_eq_true rfl) (fun sc => ?_)
  show Jj sc d 0 0 (mth 192) (pg P192 4).1 [some (.ref 0), some (.int x), some (.int (nI t)), some (.int (nI K)), some (.int (itF (fun g => onF (mI m (20 + 2)) (mI m (a + 8)) g t) x 0)), some (.int (nI 0))] [] m 0 0 Q
  exact lwk (by omega) hW ha hL ht hn hf hx hK hQ (K + 1) 0 (Nat.zero_le _) (by omega)
theorem lrf {sc : Nat × (Nat → Int32)} {d : Nat} {m : Mm} {Q : Option Value → Mm → Prop} {a t n : Nat} (hd : 3 ≤ d) (hW : Wd m.2.2) (ha : va_rf (mR m 0 3) = .ref a) (hL : LW m.2.2 a) (ht : t < 6) (hn : n ≤ 6) (hf : ∀ g, g < n → gdv n ((fun g => onF (mI m (20 + 2)) (mI m (a + 8)) g t) g)) {p s : Nat} (hp : p < 8) (hs : s < n) (et : mI m (a + 9) (p * 7 + 0) = nI t) (es : mI m (a + 9) (p * 7 + 3) = nI s) (hQ : Q (some (.int (rgF (fun g => onF (mI m (20 + 2)) (mI m (a + 8)) g t) (nI s)))) m) {r : Int32} (hr : itF (fun g => onF (mI m (20 + 2)) (mI m (a + 8)) g t) (nI s) 6 = r)  : ∀ (j i : Nat), i ≤ 6 → 6 + 1 ≤ i + j → (rgF (fun g => onF (mI m (20 + 2)) (mI m (a + 8)) g t) (nI s) = lpF (fun g => onF (mI m (20 + 2)) (mI m (a + 8)) g t) r (6 - i) (i + 1)) → Jj sc d 0 0 (mth 191) (pg P191 25).1 [some (.ref 0), some (.int (nI p)), some (.int (nI t)), some (.int r), some (.int (itF (fun g => onF (mI m (20 + 2)) (mI m (a + 8)) g t) r i)), some (.int (nI (i + 1)))] [] m 0 0 Q := by
  intro j
  induction j with
  | zero => intro i h1 h2 hall; omega
  | succ j ih =>
    intro i h1 h2 hall
    refine J_w z191 (i := 25) (by decide) 106 ?_
    refine And.intro (fun cz27 => ?_) (fun cz27 => ?_)
    · -- 27 taken: nI 6 < nI (i + 1)
      have kz27 : 6 < i + 1 := klt (a := 6) (b := i + 1) rfl rfl (by omega) (by omega) cz27
      refine And.intro ⟨rfl, trivial, Nat.le_refl _, Nat.le_refl _⟩ ?_
      rw [hall, show 6 - i = 0 by omega] at hQ
      exact hQ
    · -- 27 not: ¬ nI 6 < nI (i + 1)
      have kz27 : i + 1 ≤ 6 := knlt (a := 6) (b := i + 1) rfl rfl (by omega) (by omega) cz27
      refine And.intro ⟨by omega, Nat.le_of_ble_eq_true rfl, Nat.le_refl _, Nat.le_refl _⟩ (And.intro (Wdo_0 hW) ?_)
      refine C192 (x := itF (fun g => onF (mI m (20 + 2)) (mI m (a + 8)) g t) r i) (K := 1) (by omega) hW ha hL ht hn hf (gdv_it hn hf (hr ▸ gdv_it hn hf (Or.inr ⟨s, hs, rfl⟩) 6) i) (by decide) ?_
      rw [it_1]
      refine And.intro (fun cz36 => ?_) (fun cz36 => ?_)
      · -- 36 taken: ¬ itF (fun g => onF (mI m (20 + 2)) (mI m (a + 8)) g t) r (i + 1) = r
        show Jj sc d 0 0 (mth 191) (pg P191 25).1 [some (.ref 0), some (.int (nI p)), some (.int (nI t)), some (.int r), some (.int (itF (fun g => onF (mI m (20 + 2)) (mI m (a + 8)) g t) r (i + 1))), some (.int ((nI (i + 1)) + nI 1))] [] m 0 0 Q
        rw [show (nI (i + 1)) + nI 1 = nI (i + 1 + 1) from by simp only [nI_add, pk_mul]]
        refine ih (i + 1) (by omega) (by omega) ?_
        rw [hall, show 6 - i = (6 - (i + 1)) + 1 by omega]
        exact if_neg cz36
      · -- 36 not: itF (fun g => onF (mI m (20 + 2)) (mI m (a + 8)) g t) r (i + 1) = r
        refine And.intro ⟨rfl, trivial, Nat.le_refl _, Nat.le_refl _⟩ ?_
        have w9 : lpF (fun g => onF (mI m (20 + 2)) (mI m (a + 8)) g t) r (6 - i) (i + 1) = nI (i + 1) := by
          rw [show 6 - i = (5 - i) + 1 by omega]
          exact if_pos cz36
        rw [hall, w9] at hQ
        exact hQ
theorem C191 {d : Nat} {m : Mm} {Q : Option Value → Mm → Prop} {a t n : Nat} (hd : 3 ≤ d) (hW : Wd m.2.2) (ha : va_rf (mR m 0 3) = .ref a) (hL : LW m.2.2 a) (ht : t < 6) (hn : n ≤ 6) (hf : ∀ g, g < n → gdv n ((fun g => onF (mI m (20 + 2)) (mI m (a + 8)) g t) g)) {p s : Nat} (hp : p < 8) (hs : s < n) (et : mI m (a + 9) (p * 7 + 0) = nI t) (es : mI m (a + 9) (p * 7 + 3) = nI s) (hQ : Q (some (.int (rgF (fun g => onF (mI m (20 + 2)) (mI m (a + 8)) g t) (nI s)))) m)  : Cc d 0 0 191 [.ref 0, .int (nI p)] m Q := by
  refine ent (n := 106) z191 (by decide) rfl (by decide) (Nat.le_of_ble_eq_true rfl) (fun sc => ?_)
  refine And.intro (Wdo_0 hW) (Exists.intro _ (And.intro ha ?_))
  refine And.intro ⟨by omega, Nat.le_of_ble_eq_true rfl, Nat.le_refl _, Nat.le_refl _⟩ (And.intro (LWo_0 hL) ?_)
  refine C27 (p := p) (w := 0) hL (by omega) (by omega) ?_
  rw [et]
  refine And.intro (Wdo_0 hW) (Exists.intro _ (And.intro ha ?_))
  refine And.intro ⟨by omega, Nat.le_of_ble_eq_true rfl, Nat.le_refl _, Nat.le_refl _⟩ (And.intro (LWo_0 hL) ?_)
  refine C27 (p := p) (w := 3) hL (by omega) (by omega) ?_
  rw [es]
  refine And.intro ⟨by omega, Nat.le_of_ble_eq_true rfl, Nat.le_refl _, Nat.le_refl _⟩ (And.intro (Wdo_0 hW) ?_)
  refine C192 (x := nI s) (K := 6) (by omega) hW ha hL ht hn hf (Or.inr ⟨s, hs, rfl⟩) (by decide) ?_
  generalize hr : itF (fun g => onF (mI m (20 + 2)) (mI m (a + 8)) g t) (nI s) 6 = r
  refine And.intro (fun cz18 => ?_) (fun cz18 => ?_)
  · -- 18 taken: ¬ r = -nI 2
    show Jj sc d 0 0 (mth 191) (pg P191 25).1 [some (.ref 0), some (.int (nI p)), some (.int (nI t)), some (.int r), some (.int (itF (fun g => onF (mI m (20 + 2)) (mI m (a + 8)) g t) r 0)), some (.int (nI (0 + 1)))] [] m 0 0 Q
    exact lrf (by omega) hW ha hL ht hn hf hp hs et es hQ hr 7 0 (by decide) (by decide) (by unfold rgF; rw [hr]; exact if_neg cz18)
  · -- 18 not: r = -nI 2
    refine And.intro ⟨rfl, trivial, Nat.le_refl _, Nat.le_refl _⟩ ?_
    unfold rgF at hQ
    rw [hr, if_pos cz18] at hQ
    exact hQ
theorem it_gn {g : Nat} (hg : g < 6) : nI g ≠ -nI 2 := by
  have h : ∀ g, g < 6 → nI g ≠ -nI 2 := by decide
  exact h g hg
theorem lrg_b {sc : Nat × (Nat → Int32)} {d : Nat} {m : Mm} {Q : Option Value → Mm → Prop} {q n t p : Nat} {f : Nat → Int32} {x : Int32} (hd : 3 ≤ d) (hW : Wd m.2.2) (hN : NW m.2.2 q) (hq : va_rf (mR m 142 3) = .ref q) (hn : n ≤ 6) (ht : t < 6) (hp : p < 8) (et : mI m (q + 10) p = nI t) (hf : ∀ g, g < n → f g = onF (fun x => mI m 145 (7 + x)) (mI m (q + 9)) g t) (hv : ∀ g, g < n → gdv n (mI m 145 (7 + (g * 6 + t)))) (hQ : Q (some (.int (rgF f x))) (uI (uI m 142 1 (nI 0)) 142 2 (-nI 1))) {kz9 pp v g0 : Nat} (hg0 : g0 < n) (hp0 : 0 < pp) (hp6 : pp ≤ 6) (hk6 : kz9 ≤ 6) (hpp : itF f x (kz9 + pp) = itF f x kz9) (hne : itF f x kz9 ≠ -nI 2)  : ∀ (j cc : Nat) (g : Nat), cc ≤ 6 → 6 + 1 ≤ cc + j → (g < n ∧ itF f x (kz9 + cc) = nI g ∧ itF f x kz9 = nI g0 ∧ ∀ i, 0 < i → i ≤ cc → itF f x (kz9 + i) ≠ itF f x kz9) → Jj sc d 0 0 (mth 291) (pg P291 66).1 [some (.ref 142), some (.int (nI p)), some (.int (nI v)), some (.int (nI g)), some (.int (nI cc)), some (.int (nI g0))] [] m 0 0 Q := by
  intro j
  induction j with
  | zero => intro cc g h1 h2 hall; omega
  | succ j ih =>
    intro cc g h1 h2 hall
    refine J_w z291 (i := 66) (by decide) 198 ?_
    refine And.intro (Wdo_142 hW) (Exists.intro _ (And.intro (Wdr_142_18 hW) ?_))
    refine And.intro (Wdo_142 hW) (Exists.intro _ (And.intro hq ?_))
    refine And.intro (NWo_0 hN) (Exists.intro _ (And.intro (NWr_0_26 hN) ?_))
    refine And.intro (NWi_10 hN (vi rfl (by omega))) ?_
    rw [nI_clamp (show p < 2 ^ 31 by omega)]
    rw [et]
    have hcc : cc < 6 := Nat.lt_of_not_le (fun z9 => hall.2.2.2 pp hp0 (by omega) hpp)
    refine And.intro (Wdi_145 hW (vi (show nI 7 + nI 6 * nI g + nI t = nI (7 + (g * 6 + t)) by rw [show 7 + (g * 6 + t) = 7 + 6 * g + t by omega]; simp only [nI_add, pk_mul]) (by omega))) ?_
    rw [vc (show nI 7 + nI 6 * nI g + nI t = nI (7 + (g * 6 + t)) by rw [show 7 + (g * 6 + t) = 7 + 6 * g + t by omega]; simp only [nI_add, pk_mul]) (by omega)]
    have hnn := it_nn hp0 hpp hne (kz9 + (cc + 1))
    have hst : itF f x (kz9 + (cc + 1)) = f g := by
      show stp f (itF f x (kz9 + cc)) = f g
      rw [hall.2.1]
      unfold stp
      rw [if_neg (fun z9 => absurd z9 (it_gn (Nat.lt_of_lt_of_le hall.1 hn))), nv_nI (by omega)]
    rw [hst, hf g hall.1] at hnn
    have hraw : f g = mI m 145 (7 + (g * 6 + t)) := by
      rw [hf g hall.1]
      unfold onF at hnn ⊢
      split
      · next h9 => rw [if_pos h9] at hnn; exact absurd rfl hnn
      · next h9 =>
        rw [if_neg h9] at hnn
        split
        · next h8 => rw [if_pos h8] at hnn; exact absurd rfl hnn
        · rfl
    obtain ⟨g2, hg2, eg2⟩ := (hv g hall.1).resolve_left (fun z9 => hnn ((hf g hall.1).symm.trans (hraw.trans z9)))
    have ez2 : itF f x (kz9 + (cc + 1)) = nI g2 := hst.trans (hraw.trans eg2)
    rw [eg2]
    refine And.intro (fun cz84 => ?_) (fun cz84 => ?_)
    · -- 84 taken: ¬ nI g2 = nI g0
      show Jj sc d 0 0 (mth 291) (pg P291 66).1 [some (.ref 142), some (.int (nI p)), some (.int (nI v)), some (.int (nI g2)), some (.int (nI cc + nI 1)), some (.int (nI g0))] [] m 0 0 Q
      rw [show nI cc + nI 1 = nI (cc + 1) from by simp only [nI_add, pk_mul]]
      refine ih (cc + 1) g2 (by omega) (by omega) ⟨hg2, ez2, hall.2.2.1, fun i hi0 hi => ?_⟩
      rcases Nat.lt_or_ge cc i with h9 | h9
      · rw [show i = cc + 1 by omega, ez2, hall.2.2.1]
        exact cz84
      · exact hall.2.2.2 i hi0 h9
    · -- 84 not: nI g2 = nI g0
      refine And.intro ⟨by omega, Nat.le_of_ble_eq_true rfl, Nat.le_refl _, Nat.le_refl _⟩ (And.intro (Wdo_142 hW) ?_)
      refine C202 hW ?_
      refine And.intro ⟨rfl, trivial, Nat.le_refl _, Nat.le_refl _⟩ ?_
      have w9 := rg_yes hp0 hp6 hpp hk6 hne (c := cc + 1) (by omega) (by rw [ez2, hall.2.2.1, cz84]) (fun i hi0 hi => hall.2.2.2 i hi0 (by omega))
      rw [w9] at hQ
      rw [nI_add]
      exact hQ
theorem lrg_a {sc : Nat × (Nat → Int32)} {d : Nat} {m : Mm} {Q : Option Value → Mm → Prop} {q n t p : Nat} {f : Nat → Int32} {x : Int32} (hd : 3 ≤ d) (hW : Wd m.2.2) (hN : NW m.2.2 q) (hq : va_rf (mR m 142 3) = .ref q) (hn : n ≤ 6) (ht : t < 6) (hp : p < 8) (et : mI m (q + 10) p = nI t) (hf : ∀ g, g < n → f g = onF (fun x => mI m 145 (7 + x)) (mI m (q + 9)) g t) (hv : ∀ g, g < n → gdv n (mI m 145 (7 + (g * 6 + t)))) (hQ : Q (some (.int (rgF f x))) (uI (uI m 142 1 (nI 0)) 142 2 (-nI 1)))  : ∀ (j kk9 : Nat) (v g : Nat), kk9 ≤ 6 → 6 + 1 ≤ kk9 + j → (vis f x v kk9 ∧ g < n ∧ itF f x kk9 = nI g) → Jj sc d 0 0 (mth 291) (pg P291 19).1 [some (.ref 142), some (.int (nI p)), some (.int (nI v)), some (.int (nI g)), none, none] [] m 0 0 Q := by
  intro j
  induction j with
  | zero => intro kk9 v g h1 h2 hall; omega
  | succ j ih =>
    intro kk9 v g h1 h2 hall
    refine J_w z291 (i := 19) (by decide) 198 ?_
    refine And.intro ⟨by omega, Nat.le_of_ble_eq_true rfl, Nat.le_refl _, Nat.le_refl _⟩ ?_
    refine C205 ?_
    refine And.intro (fun cz22 => ?_) (fun cz22 => ?_)
    · -- 22 taken: ¬ bi (bq (nI v) (nI g)) = 0
      show Jj sc d 0 0 (mth 291) (pg P291 66).1 [some (.ref 142), some (.int (nI p)), some (.int (nI v)), some (.int (nI g)), some (.int (nI 0)), some (.int (nI g))] [] m 0 0 Q
      obtain ⟨i9, hi9, ei9⟩ := (hall.1.2.2 g (Nat.lt_of_lt_of_le hall.2.1 hn)).mp (bi_ne0.mp cz22)
      have p1 : itF f x (i9 + (kk9 - i9)) = itF f x i9 := by rw [show i9 + (kk9 - i9) = kk9 by omega, ei9, hall.2.2]
      have p2 := it_sh p1 (kk9 - i9)
      rw [show i9 + (kk9 - i9) = kk9 by omega] at p2
      exact lrg_b (by omega) hW hN hq hn ht hp et hf hv hQ (kz9 := kk9) (pp := kk9 - i9) hall.2.1 (by omega) (by omega) h1 p2 (by rw [hall.2.2]; exact it_gn (Nat.lt_of_lt_of_le hall.2.1 hn)) 7 0 g (by decide) (by decide) ⟨hall.2.1, hall.2.2, hall.2.2, fun i a9 b9 => absurd b9 (by omega)⟩
    · -- 22 not: bi (bq (nI v) (nI g)) = 0
      have hst : itF f x (kk9 + 1) = f g := by
        show stp f (itF f x kk9) = f g
        rw [hall.2.2]
        unfold stp
        rw [if_neg (fun z9 => absurd z9 (it_gn (Nat.lt_of_lt_of_le hall.2.1 hn))), nv_nI (by omega)]
      obtain ⟨hv2, ev2, hk5⟩ := vis_s hall.1 (Nat.lt_of_lt_of_le hall.2.1 hn) hall.2.2 (bi_eq0.mp cz22)
      refine And.intro (Wdo_142 hW) (Exists.intro _ (And.intro (Wdr_142_18 hW) ?_))
      refine And.intro (Wdo_142 hW) (Exists.intro _ (And.intro hq ?_))
      refine And.intro (NWo_0 hN) (Exists.intro _ (And.intro (NWr_0_26 hN) ?_))
      refine And.intro (NWi_10 hN (vi rfl (by omega))) ?_
      rw [nI_clamp (show p < 2 ^ 31 by omega)]
      rw [et]
      refine And.intro (Wdi_145 hW (vi (show nI 7 + nI 6 * nI g + nI t = nI (7 + (g * 6 + t)) by rw [show 7 + (g * 6 + t) = 7 + 6 * g + t by omega]; simp only [nI_add, pk_mul]) (by omega))) ?_
      rw [vc (show nI 7 + nI 6 * nI g + nI t = nI (7 + (g * 6 + t)) by rw [show 7 + (g * 6 + t) = 7 + 6 * g + t by omega]; simp only [nI_add, pk_mul]) (by omega)]
      refine And.intro (fun cz46 => ?_) (fun cz46 => ?_)
      · -- 46 taken: mI m 145 ((7 + (g * 6 + t))) = -nI 2
        refine And.intro ⟨by omega, Nat.le_of_ble_eq_true rfl, Nat.le_refl _, Nat.le_refl _⟩ (And.intro (Wdo_142 hW) ?_)
        refine C202 hW ?_
        refine And.intro ⟨rfl, trivial, Nat.le_refl _, Nat.le_refl _⟩ ?_
        have w9 : f g = -nI 2 := (hf g hall.2.1).trans (if_pos cz46)
        rw [rg_no (k := kk9 + 1) (by omega) (hst.trans w9)] at hQ
        exact hQ
      · -- 46 not: ¬ mI m 145 ((7 + (g * 6 + t))) = -nI 2
        refine And.intro (Wdo_142 hW) (Exists.intro _ (And.intro hq ?_))
        refine And.intro (NWo_0 hN) (Exists.intro _ (And.intro (NWr_0_25 hN) ?_))
        refine And.intro (NWi_9 hN (vi rfl (by omega))) ?_
        rw [nI_clamp (show g < 2 ^ 31 by omega)]
        refine And.intro ⟨by omega, Nat.le_of_ble_eq_true rfl, Nat.le_refl _, Nat.le_refl _⟩ ?_
        refine C205 ?_
        refine And.intro (fun cz54 => ?_) (fun cz54 => ?_)
        · -- 54 taken: bi (bq (mI m (q + 9) g) (mI m 145 ((7 + (g * 6 + t))))) = 0
          show Jj sc d 0 0 (mth 291) (pg P291 19).1 [some (.ref 142), some (.int (nI p)), some (.int (nI v ||| (nI 1 <<< (nI g &&& 31)))), some (.int (mI m 145 ((7 + (g * 6 + t))))), some (.int (mI m 145 ((7 + (g * 6 + t))))), none] [] m 0 0 Q
          refine J_wk (L' := [some (.ref 142), some (.int (nI p)), some (.int (nI v ||| (nI 1 <<< (nI g &&& 31)))), some (.int (mI m 145 ((7 + (g * 6 + t))))), none, none]) ⟨rfl, rfl, rfl, rfl, trivial⟩ ?_
          obtain ⟨g2, hg2, eg2⟩ := (hv g hall.2.1).resolve_left cz46
          have w9 : f g = nI g2 := (hf g hall.2.1).trans ((if_neg cz46).trans ((if_neg (bi_eq0.mp cz54)).trans eg2))
          rw [eg2, ev2]
          exact ih (kk9 + 1) _ g2 (by omega) (by omega) ⟨hv2, hg2, hst.trans w9⟩
        · -- 54 not: ¬ bi (bq (mI m (q + 9) g) (mI m 145 ((7 + (g * 6 + t))))) = 0
          refine And.intro ⟨by omega, Nat.le_of_ble_eq_true rfl, Nat.le_refl _, Nat.le_refl _⟩ (And.intro (Wdo_142 hW) ?_)
          refine C202 hW ?_
          refine And.intro ⟨rfl, trivial, Nat.le_refl _, Nat.le_refl _⟩ ?_
          have w9 : f g = -nI 2 := (hf g hall.2.1).trans ((if_neg cz46).trans (if_pos (bi_ne0.mp cz54)))
          rw [rg_no (k := kk9 + 1) (by omega) (hst.trans w9)] at hQ
          exact hQ
theorem on_c {f f2 b b2 : Nat → Int32} {g t : Nat} (h1 : f (g * 6 + t) = f2 (g * 6 + t)) (h2 : b g = b2 g) : onF f b g t = onF f2 b2 g t := by
  unfold onF
  rw [h1, h2]
theorem on_g {snd bar : Nat → Int32} {n g t : Nat} (h : ∀ x, x < 36 → gdv n (snd x)) (hg : g < 6) (ht : t < 6) : gdv n (onF snd bar g t) := by
  unfold onF
  split
  · exact Or.inl rfl
  · split
    · exact Or.inl rfl
    · exact h _ (by omega)
theorem P_ring {d : Nat} {m : Mm} {Q : Option Value → Mm → Prop} {z : Nat} {x : Int32} (hd : 16 ≤ d) (hR : Rel z m) (h : ∀ (r : Int32) m1, Wd m1.2.2 → (∀ Q2 : Option Value → Mm → Prop, (∀ m2, Rel z m2 → Q2 (some (.int r)) m2) → Cc d 0 0 291 [.ref 142, .int x] m1 Q2) → Q (some (.int r)) m1) : Cc d 0 0 145 [.ref 0, .int x] m Q := by
  obtain ⟨hW, hz, hS, a, b, hA, hX⟩ := id hR
  obtain ⟨hL, hLb, hab, ha, hb⟩ := RelA_L hW hA
  obtain ⟨n2r, hn2, bn2, ln2⟩ := RL_n (s := 2) (f := 5) hX.2.2.1 (by decide) (fun _ _ h => h.2.2.2.2.2.1)
  change n2r ≤ 6 at bn2
  obtain ⟨n4r, hn4, bn4, ln4⟩ := RL_n (s := 4) (f := 6) hX.2.2.1 (by decide) (fun _ _ h => h.2.2.2.2.2.2.1)
  change n4r ≤ 6 at bn4
  obtain ⟨n8r, hn8, bn8, ln8⟩ := RL_n (s := 8) (f := 10) hX.2.2.1 (by decide) (fun _ _ h => h.2.2.2.2.2.2.2.2.2.2.1)
  change n8r ≤ 8 at bn8
  obtain ⟨n10r, hn10, bn10, ln10⟩ := RL_n (s := 10) (f := 12) hX.2.2.1 (by decide) (fun _ _ h => h.2.2.2.2.2.2.2.2.2.2.2.2.1)
  change n10r ≤ 4 at bn10
  refine ent (n := 48) z145 (by decide) rfl (by decide) (Nat.le_of_ble_eq_true rfl) (fun sc => ?_)
  refine And.intro ⟨by omega, Nat.le_of_ble_eq_true rfl, Nat.le_refl _, Nat.le_refl _⟩ (And.intro (Wdo_0 hW) ?_)
  refine C185 (by omega) hW ha hL hn8 (by omega) ?_
  refine And.intro (fun cz3 => ?_) (fun cz3 => ?_)
  · -- 3 taken: bi (iR x n8r) = 0
    refine And.intro ⟨by omega, Nat.le_of_ble_eq_true rfl, Nat.le_refl _, Nat.le_refl _⟩ (And.intro (Wdo_0 hW) ?_)
    refine C176 hW ?_
    refine And.intro ⟨rfl, trivial, Nat.le_refl _, Nat.le_refl _⟩ ?_
    refine h _ _ hW (fun Q2 h2 => ?_)
    refine ent (n := 198) z291 (by decide) rfl (by decide) (Nat.le_of_ble_eq_true rfl) (fun sc2 => ?_)
    refine And.intro (Wdo_142 hW) ?_
    refine And.intro ⟨by omega, Nat.le_of_ble_eq_true rfl, Nat.le_refl _, Nat.le_refl _⟩ (And.intro (Wdo_142 hW) ?_)
    refine C249 (m := (uI (uI m 0 0 (nI 1)) 142 0 (nI 0))) (by omega) hW (LN_u (LN_u ln8 (by decide)) (by decide)) (by omega) ?_
    refine And.intro (fun cr6 => False.elim (absurd (bi_ne0.mp cr6) (bi_eq0.mp cz3))) (fun cr6 => ?_)
    refine And.intro ⟨by omega, Nat.le_of_ble_eq_true rfl, Nat.le_refl _, Nat.le_refl _⟩ (And.intro (Wdo_142 hW) ?_)
    refine C200 (m := (uI (uI m 0 0 (nI 1)) 142 0 (nI 0))) hW ?_
    refine And.intro ⟨rfl, trivial, Nat.le_refl _, Nat.le_refl _⟩ ?_
    exact h2 _ (Rel_ans hR (by decide))
  · -- 3 not: ¬ bi (iR x n8r) = 0
    obtain ⟨p, hp, rfl⟩ := bi_ne0.mp cz3
    obtain ⟨q, hq1⟩ := RL_1 (s := 8) hX.2.2.1 (by decide) hn8 (show 0 < n8r by omega) (by omega)
    obtain ⟨hq, w, u, ha0, ha1, hq0, hq1w, hw6, hu4, hwu, hgr⟩ := RL_q hq1
    obtain ⟨h158, hqz, hN, h3, ⟨T, hI⟩, hst, hla, hLQ, hSR⟩ := hq1
    have hq6 : mI m q 6 = nI n4r := hLQ.1.2.2.2.2.2.2.1.trans hn4
    have hq5 : mI m q 5 = nI n2r := hLQ.1.2.2.2.2.2.1.trans hn2
    have v3 := hI.2.2.2.2.2.1 p (show p < nv (mI m (a + 1) 8) by rw [hn8, nv_nI (by omega)]; exact hp)
    obtain ⟨⟨t, ht, et⟩, -, -, ⟨s9, hs9, es⟩, -⟩ := v3
    change mI m (a + 9) (p * 7 + 0) = nI t at et
    change mI m (a + 9) (p * 7 + 3) = nI s9 at es
    change t < nv (mI m (a + 1) 2) at ht
    change s9 < nv (mI m (a + 1) 4) at hs9
    rw [hn2, nv_nI (by omega)] at ht
    rw [hn4, nv_nI (by omega)] at hs9
    have hsd : ∀ x, x < 36 → gdv n4r (mI m (20 + 2) x) := fun x hx => by
      have w9 := hSR.2.2.1 x hx
      rw [show lam m a 1 4 = nI n4r from hn4, nv_nI (by omega)] at w9
      exact w9
    have v8 := hLQ.2.2.2.2.2.2.2.2.1 p (show p < nv (mI m (a + 1) 8) by rw [hn8, nv_nI (by omega)]; exact hp)
    have et2 : mI m (q + 10) p = nI t := v8.1.trans et
    have es2 : mI m (q + 13) p = nI s9 := v8.2.2.2.1.trans es
    have hfF : ∀ g, g < n4r → gdv n4r ((fun g => onF (mI m (20 + 2)) (mI m (a + 8)) g t) g) := fun g hg => on_g hsd (by omega) (by omega)
    have hfR : ∀ g, g < n4r → (fun g => onF (mI m (20 + 2)) (mI m (a + 8)) g t) g = onF (fun x => mI m 145 (7 + x)) (mI m (q + 9)) g t := fun g hg => by
      exact on_c (hX.2.1.2.2.1 _ (by omega)).symm (hLQ.2.2.2.2.2.2.2.1 g (by omega)).symm
    have hvR : ∀ g, g < n4r → gdv n4r (mI m 145 (7 + (g * 6 + t))) := fun g hg => by
      rw [hX.2.1.2.2.1 _ (by omega)]
      exact hsd _ (by omega)
    refine And.intro ⟨by omega, Nat.le_of_ble_eq_true rfl, Nat.le_refl _, Nat.le_refl _⟩ (And.intro (Wdo_0 hW) ?_)
    refine C191 (n := n4r) (t := t) (s := s9) (by omega) hW ha hL (by omega) (by omega) hfF (by omega) hs9 et es ?_
    refine And.intro ⟨by omega, Nat.le_of_ble_eq_true rfl, Nat.le_refl _, Nat.le_refl _⟩ (And.intro (Wdo_0 hW) ?_)
    refine C177 hW ?_
    refine And.intro ⟨rfl, trivial, Nat.le_refl _, Nat.le_refl _⟩ ?_
    refine h _ _ hW (fun Q2 h2 => ?_)
    refine ent (n := 198) z291 (by decide) rfl (by decide) (Nat.le_of_ble_eq_true rfl) (fun sc2 => ?_)
    refine And.intro (Wdo_142 hW) ?_
    refine And.intro ⟨by omega, Nat.le_of_ble_eq_true rfl, Nat.le_refl _, Nat.le_refl _⟩ (And.intro (Wdo_142 hW) ?_)
    refine C249 (m := (uI (uI m 0 0 (nI 0)) 142 0 (nI 0))) (by omega) hW (LN_u (LN_u ln8 (by decide)) (by decide)) (by omega) ?_
    refine And.intro (fun cr6 => ?_) (fun cr6 => False.elim (absurd (bi_ne0.mp cz3) (bi_eq0.mp cr6)))
    refine And.intro (Wdo_142 hW) (Exists.intro _ (And.intro hq ?_))
    refine And.intro (NWo_0 hN) (Exists.intro _ (And.intro (NWr_0_29 hN) ?_))
    refine And.intro (NWi_13 hN (vi rfl (by omega))) ?_
    rw [nI_clamp (show p < 2 ^ 31 by omega)]
    rw [uI_ne (m := (uI m 0 0 (nI 0))) (a := 142) (b := (q + 13)) (by omega)]
    rw [uI_ne (m := m) (a := 0) (b := (q + 13)) (by omega)]
    rw [es2]
    show Jj sc2 d 0 0 (mth 291) (pg P291 19).1 [some (.ref 142), some (.int (nI p)), some (.int (nI 0)), some (.int (nI s9)), none, none] [] (uI (uI m 0 0 (nI 0)) 142 0 (nI 0)) 0 0 Q2
    refine lrg_a (m := (uI (uI m 0 0 (nI 0)) 142 0 (nI 0))) (n := n4r) (t := t) (f := (fun g => onF (mI m (20 + 2)) (mI m (a + 8)) g t)) (x := nI s9) (by omega) hW hN hq (by omega) (by omega) (by omega) (by rw [uI_ne (b := q + 10) (by omega), uI_ne (b := q + 10) (by omega)]; exact et2) (by rw [uI_ne (b := 145) (by omega), uI_ne (b := 145) (by omega), uI_ne (b := q + 9) (by omega), uI_ne (b := q + 9) (by omega)]; exact hfR) (by rw [uI_ne (b := 145) (by omega), uI_ne (b := 145) (by omega)]; exact hvR) ?_ 7 0 0 s9 (by decide) (by decide) ⟨vis_0, hs9, rfl⟩
    exact h2 _ (Rel_ans hR (by decide))
