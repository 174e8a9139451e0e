theorem C37 {d : Nat} {m : Mm} {Q : Option Value → Mm → Prop} {a w h nt n : Nat} (hd : 3 ≤ d) (hL : LW m.2.2 a) (hw : mI m a 0 = nI w) (hh : mI m a 1 = nI h) (hwh : w * h ≤ 24) (hnt : mI m (a + 1) 2 = nI nt) (hnt6 : nt ≤ 6) (hn : mI m (a + 1) 4 = nI n) (hn6 : n ≤ 6) (hQ : Q (some (.int (nI nt * bcF (grF (mI m (a + 2)) (w * h)) * nI 24))) m) : Cc d 0 0 37 [.ref a] m Q := by
  refine ent (n := 38) z37 (by decide) rfl (by decide) (Nat.le_of_ble_eq_true rfl) (fun sc => ?_)
  refine And.intro ⟨by omega, Nat.le_of_ble_eq_true rfl, Nat.le_refl _, Nat.le_refl _⟩ (And.intro (LWo_0 hL) ?_)
  refine C22 hL ?_
  rw [hnt]
  refine And.intro ⟨by omega, Nat.le_of_ble_eq_true rfl, Nat.le_refl _, Nat.le_refl _⟩ (And.intro (LWo_0 hL) ?_)
  refine C28 hL hw hh hwh ?_
  refine And.intro ⟨by omega, Nat.le_of_ble_eq_true rfl, Nat.le_refl _, Nat.le_refl _⟩ ?_
  refine C340 ?_
  refine And.intro ⟨rfl, trivial, Nat.le_refl _, Nat.le_refl _⟩ ?_
  exact hQ
def heS (off : Nat → Int32) (g g2 t : Nat) (gr : Int32) : Nat → Int32 → Int32 := fun s x => if (gr >>> (nI s &&& 31)) &&& nI 1 = nI 1 then x + (bcF ((off ((g * 6 + t) * 5 + s)) &&& (off ((g2 * 6 + t) * 5 + s)))) else x
def heT (off : Nat → Int32) (g g2 : Nat) (gr : Int32) : Nat → Int32 → Int32 := fun t x => fo (heS off g g2 t gr) x 5
/-- how many points both have -/
def heF (off : Nat → Int32) (g g2 : Nat) (gr : Int32) (nt : Nat) : Int32 := fo (heT off g g2 gr) (nI 0) nt
theorem lp38a {sc : Nat × (Nat → Int32)} {d : Nat} {m : Mm} {Q : Option Value → Mm → Prop} {a w h nt n : Nat} (hd : 3 ≤ d) (hL : LW m.2.2 a) (hw : mI m a 0 = nI w) (hh : mI m a 1 = nI h) (hwh : w * h ≤ 24) (hnt : mI m (a + 1) 2 = nI nt) (hnt6 : nt ≤ 6) (hn : mI m (a + 1) 4 = nI n) (hn6 : n ≤ 6) {g g2 t : Nat} {gr x : Int32} (hg : g < 6) (hg2 : g2 < 6) (ht : t < 6) (hk : Jj sc d 0 0 (mth 38) (pg P38 7).1 [some (.ref a), some (.int (nI g)), some (.int (nI g2)), some (.int gr), some (.int (fo (heS (mI m (a + 7)) g g2 t gr) x 5)), some (.int (nI (t + 1))), none] [] m 0 0 Q)  : ∀ (j s : Nat), s ≤ 5 → 5 + 1 ≤ s + j → Jj sc d 0 0 (mth 38) (pg P38 13).1 [some (.ref a), some (.int (nI g)), some (.int (nI g2)), some (.int gr), some (.int (fo (heS (mI m (a + 7)) g g2 t gr) x s)), some (.int (nI t)), some (.int (nI s))] [] m 0 0 Q := by
  intro j
  induction j with
  | zero => intro s h1 h2; omega
  | succ j ih =>
    intro s h1 h2
    refine J_w z38 (i := 13) (by decide) 108 ?_
    refine And.intro (fun cz15 => ?_) (fun cz15 => ?_)
    · -- 15 taken: nI 5 ≤ nI s
      have kz15 : 5 ≤ s := kle (a := 5) (b := s) rfl rfl (by omega) (by omega) cz15
      show Jj sc d 0 0 (mth 38) (pg P38 7).1 [some (.ref a), some (.int (nI g)), some (.int (nI g2)), some (.int gr), some (.int (fo (heS (mI m (a + 7)) g g2 t gr) x s)), some (.int (nI t + nI 1)), some (.int (nI s))] [] m 0 0 Q
      rw [show nI t + nI 1 = nI (t + 1) from by simp only [nI_add, pk_mul]]
      refine J_wk (L' := [some (.ref a), some (.int (nI g)), some (.int (nI g2)), some (.int gr), some (.int (fo (heS (mI m (a + 7)) g g2 t gr) x s)), some (.int (nI (t + 1))), none]) ⟨rfl, rfl, rfl, rfl, rfl, rfl, trivial⟩ ?_
      rw [show s = 5 by omega]
      exact hk
    · -- 15 not: ¬ nI 5 ≤ nI s
      have kz15 : s < 5 := knle (a := 5) (b := s) rfl rfl (by omega) (by omega) cz15
      refine And.intro (fun cz22 => ?_) (fun cz22 => ?_)
      · -- 22 taken: ¬ (gr >>> (nI s &&& 31)) &&& nI 1 = nI 1
        show Jj sc d 0 0 (mth 38) (pg P38 13).1 [some (.ref a), some (.int (nI g)), some (.int (nI g2)), some (.int gr), some (.int (fo (heS (mI m (a + 7)) g g2 t gr) x s)), some (.int (nI t)), some (.int (nI s + nI 1))] [] m 0 0 Q
        rw [show nI s + nI 1 = nI (s + 1) from by simp only [nI_add, pk_mul]]
        have z := ih (s + 1) (by omega) (by omega)
        rw [fo_s] at z
        unfold heS at z ⊢
        rw [if_neg cz22] at z
        exact z
      · -- 22 not: (gr >>> (nI s &&& 31)) &&& nI 1 = nI 1
        refine And.intro ⟨by omega, Nat.le_of_ble_eq_true rfl, Nat.le_refl _, Nat.le_refl _⟩ (And.intro (LWo_0 hL) ?_)
        refine C29 (g := g) (t := t) (s := s) hL (by omega) (by omega) (by omega) ?_
        refine And.intro ⟨by omega, Nat.le_of_ble_eq_true rfl, Nat.le_refl _, Nat.le_refl _⟩ (And.intro (LWo_0 hL) ?_)
        refine C29 (g := g2) (t := t) (s := s) hL (by omega) (by omega) (by omega) ?_
        refine And.intro ⟨by omega, Nat.le_of_ble_eq_true rfl, Nat.le_refl _, Nat.le_refl _⟩ ?_
        refine C340 ?_
        show Jj sc d 0 0 (mth 38) (pg P38 13).1 [some (.ref a), some (.int (nI g)), some (.int (nI g2)), some (.int gr), some (.int ((fo (heS (mI m (a + 7)) g g2 t gr) x s) + (bcF ((mI m (a + 7) ((g * 6 + t) * 5 + s)) &&& (mI m (a + 7) ((g2 * 6 + t) * 5 + s)))))), some (.int (nI t)), some (.int (nI s + nI 1))] [] m 0 0 Q
        rw [show nI s + nI 1 = nI (s + 1) from by simp only [nI_add, pk_mul]]
        have z := ih (s + 1) (by omega) (by omega)
        rw [fo_s] at z
        unfold heS at z ⊢
        rw [if_pos cz22] at z
        exact z
theorem lp38b {sc : Nat × (Nat → Int32)} {d : Nat} {m : Mm} {Q : Option Value → Mm → Prop} {a w h nt n : Nat} (hd : 3 ≤ d) (hL : LW m.2.2 a) (hw : mI m a 0 = nI w) (hh : mI m a 1 = nI h) (hwh : w * h ≤ 24) (hnt : mI m (a + 1) 2 = nI nt) (hnt6 : nt ≤ 6) (hn : mI m (a + 1) 4 = nI n) (hn6 : n ≤ 6) {g g2 : Nat} {gr : Int32} (hg : g < 6) (hg2 : g2 < 6) (hQ : Q (some (.int (heF (mI m (a + 7)) g g2 gr nt))) m)  : ∀ (j t : Nat), t ≤ nt → nt + 1 ≤ t + j → Jj sc d 0 0 (mth 38) (pg P38 7).1 [some (.ref a), some (.int (nI g)), some (.int (nI g2)), some (.int gr), some (.int (heF (mI m (a + 7)) g g2 gr t)), some (.int (nI t)), none] [] m 0 0 Q := by
  intro j
  induction j with
  | zero => intro t h1 h2; omega
  | succ j ih =>
    intro t h1 h2
    refine J_w z38 (i := 7) (by decide) 108 ?_
    refine And.intro ⟨by omega, Nat.le_of_ble_eq_true rfl, Nat.le_refl _, Nat.le_refl _⟩ (And.intro (LWo_0 hL) ?_)
    refine C22 hL ?_
    rw [hnt]
    refine And.intro (fun cz10 => ?_) (fun cz10 => ?_)
    · -- 10 taken: nI nt ≤ nI t
      have kz10 : nt ≤ t := kle (a := nt) (b := t) rfl rfl (by omega) (by omega) cz10
      refine And.intro ⟨rfl, trivial, Nat.le_refl _, Nat.le_refl _⟩ ?_
      rw [show nt = t by omega] at hQ
      exact hQ
    · -- 10 not: ¬ nI nt ≤ nI t
      have kz10 : t < nt := knle (a := nt) (b := t) rfl rfl (by omega) (by omega) cz10
      show Jj sc d 0 0 (mth 38) (pg P38 13).1 [some (.ref a), some (.int (nI g)), some (.int (nI g2)), some (.int gr), some (.int (heF (mI m (a + 7)) g g2 gr t)), some (.int (nI t)), some (.int (nI 0))] [] m 0 0 Q
      exact lp38a hd hL hw hh hwh hnt hnt6 hn hn6 hg hg2 (by omega) (ih (t + 1) (by omega) (by omega)) 6 0 (by decide) (by decide)
theorem C38 {d : Nat} {m : Mm} {Q : Option Value → Mm → Prop} {a w h nt n : Nat} (hd : 3 ≤ d) (hL : LW m.2.2 a) (hw : mI m a 0 = nI w) (hh : mI m a 1 = nI h) (hwh : w * h ≤ 24) (hnt : mI m (a + 1) 2 = nI nt) (hnt6 : nt ≤ 6) (hn : mI m (a + 1) 4 = nI n) (hn6 : n ≤ 6) {g g2 : Nat} (hg : g < 6) (hg2 : g2 < 6) (hQ : Q (some (.int (heF (mI m (a + 7)) g g2 (grF (mI m (a + 2)) (w * h)) nt))) m) : Cc d 0 0 38 [.ref a, .int (nI g), .int (nI g2)] m Q := by
  refine ent (n := 108) z38 (by decide) rfl (by decide) (Nat.le_of_ble_eq_true rfl) (fun sc => ?_)
  refine And.intro ⟨by omega, Nat.le_of_ble_eq_true rfl, Nat.le_refl _, Nat.le_refl _⟩ (And.intro (LWo_0 hL) ?_)
  refine C28 hL hw hh hwh ?_
  show Jj sc d 0 0 (mth 38) (pg P38 7).1 [some (.ref a), some (.int (nI g)), some (.int (nI g2)), some (.int (grF (mI m (a + 2)) (w * h))), some (.int (nI 0)), some (.int (nI 0)), none] [] m 0 0 Q
  exact lp38b hd hL hw hh hwh hnt hnt6 hn hn6 hg hg2 hQ (nt + 1) 0 (Nat.zero_le _) (by omega)
theorem C41 {d : Nat} {m : Mm} {Q : Option Value → Mm → Prop} {x y : Int32} (hd : 1 ≤ d) (hQ : Q (some (.int (bi (y = -nI 2 ∨ bcF x < bcF y)))) m) : Cc d 0 0 41 [.int x, .int y] m Q := by
  refine ent (n := 44) z41 (by decide) rfl (by decide) (Nat.le_of_ble_eq_true rfl) (fun sc => ?_)
  refine And.intro (fun cz2 => ?_) (fun cz2 => ?_)
  · -- 2 taken: y = -nI 2
    refine And.intro ⟨rfl, Or.inr rfl, Nat.le_refl _, Nat.le_refl _⟩ ?_
    rw [bi_t (Or.inl cz2)] at hQ; exact hQ
  · -- 2 not: ¬ y = -nI 2
    refine And.intro ⟨by omega, Nat.le_of_ble_eq_true rfl, Nat.le_refl _, Nat.le_refl _⟩ ?_
    refine C340 ?_
    refine And.intro ⟨by omega, Nat.le_of_ble_eq_true rfl, Nat.le_refl _, Nat.le_refl _⟩ ?_
    refine C340 ?_
    refine And.intro (fun cz7 => ?_) (fun cz7 => ?_)
    · -- 7 taken: bcF y ≤ bcF x
      refine And.intro ⟨rfl, Or.inl rfl, Nat.le_refl _, Nat.le_refl _⟩ ?_
      rw [bi_f (fun z => z.elim cz2 (Int32.not_lt.mpr cz7))] at hQ; exact hQ
    · -- 7 not: ¬ bcF y ≤ bcF x
      refine And.intro ⟨rfl, Or.inr rfl, Nat.le_refl _, Nat.le_refl _⟩ ?_
      rw [bi_t (Or.inr (Int32.not_le.mp cz7))] at hQ; exact hQ
def hbS (off : Nat → Int32) (n t s : Nat) (l : Int32) : Nat → Int32 → Int32 := fun h0 x => if bcF (hoF (off) t s (nI h0) n) < l then x else x + nI 1
def hbM (off : Nat → Int32) (n t : Nat) (gr l : Int32) : Nat → Int32 → Int32 := fun s x => if bq gr (nI s) then fo (hbS off n t s l) x 24 else x
def hbT (off : Nat → Int32) (n : Nat) (gr l : Int32) : Nat → Int32 → Int32 := fun t x => fo (hbM off n t gr l) x 5
/-- how many points so many gods have -/
def hbF (off : Nat → Int32) (n nt : Nat) (gr l : Int32) : Int32 := fo (hbT off n gr l) (nI 0) nt
theorem lp39a {sc : Nat × (Nat → Int32)} {d : Nat} {m : Mm} {Q : Option Value → Mm → Prop} {a w h nt n : Nat} (hd : 3 ≤ d) (hL : LW m.2.2 a) (hw : mI m a 0 = nI w) (hh : mI m a 1 = nI h) (hwh : w * h ≤ 24) (hnt : mI m (a + 1) 2 = nI nt) (hnt6 : nt ≤ 6) (hn : mI m (a + 1) 4 = nI n) (hn6 : n ≤ 6) {t s : Nat} {gr l x : Int32} (ht : t < 6) (hs : s < 5) (hon : bq gr (nI s)) (hk : Jj sc d 0 0 (mth 39) (pg P39 13).1 [some (.ref a), some (.int l), some (.int gr), some (.int (fo (hbS (mI m (a + 7)) n t s l) x 24)), some (.int (nI t)), some (.int (nI (s + 1))), none] [] m 0 0 Q)  : ∀ (j h0 : Nat), h0 ≤ 24 → 24 + 1 ≤ h0 + j → Jj sc d 0 0 (mth 39) (pg P39 18).1 [some (.ref a), some (.int l), some (.int gr), some (.int (fo (hbS (mI m (a + 7)) n t s l) x h0)), some (.int (nI t)), some (.int (nI s)), some (.int (nI h0))] [] m 0 0 Q := by
  intro j
  induction j with
  | zero => intro h0 h1 h2; omega
  | succ j ih =>
    intro h0 h1 h2
    refine J_w z39 (i := 18) (by decide) 110 ?_
    refine And.intro (fun cz20 => ?_) (fun cz20 => ?_)
    · -- 20 taken: nI 24 ≤ nI h0
      have kz20 : 24 ≤ h0 := kle (a := 24) (b := h0) rfl rfl (by omega) (by omega) cz20
      show Jj sc d 0 0 (mth 39) (pg P39 13).1 [some (.ref a), some (.int l), some (.int gr), some (.int (fo (hbS (mI m (a + 7)) n t s l) x h0)), some (.int (nI t)), some (.int (nI s + nI 1)), some (.int (nI h0))] [] m 0 0 Q
      rw [show nI s + nI 1 = nI (s + 1) from by simp only [nI_add, pk_mul]]
      refine J_wk (L' := [some (.ref a), some (.int l), some (.int gr), some (.int (fo (hbS (mI m (a + 7)) n t s l) x h0)), some (.int (nI t)), some (.int (nI (s + 1))), none]) ⟨rfl, rfl, rfl, rfl, rfl, rfl, trivial⟩ ?_
      rw [show h0 = 24 by omega]
      exact hk
    · -- 20 not: ¬ nI 24 ≤ nI h0
      have kz20 : h0 < 24 := knle (a := 24) (b := h0) rfl rfl (by omega) (by omega) cz20
      refine And.intro (fun cz27 => False.elim (cz27 hon)) (fun cz27 => ?_)
      refine And.intro ⟨by omega, Nat.le_of_ble_eq_true rfl, Nat.le_refl _, Nat.le_refl _⟩ (And.intro (LWo_0 hL) ?_)
      refine C32 (t := t) (s := s) (n := n) (by omega) hL (by omega) (by omega) hn hn6 ?_
      refine And.intro ⟨by omega, Nat.le_of_ble_eq_true rfl, Nat.le_refl _, Nat.le_refl _⟩ ?_
      refine C340 ?_
      refine And.intro (fun cz35 => ?_) (fun cz35 => ?_)
      · -- 35 taken: bcF (hoF (mI m (a + 7)) t s (nI h0) n) < l
        show Jj sc d 0 0 (mth 39) (pg P39 18).1 [some (.ref a), some (.int l), some (.int gr), some (.int (fo (hbS (mI m (a + 7)) n t s l) x h0)), some (.int (nI t)), some (.int (nI s)), some (.int (nI h0 + nI 1))] [] m 0 0 Q
        rw [show nI h0 + nI 1 = nI (h0 + 1) from by simp only [nI_add, pk_mul]]
        have z := ih (h0 + 1) (by omega) (by omega)
        rw [fo_s] at z
        unfold hbS at z ⊢
        rw [if_pos cz35] at z
        exact z
      · -- 35 not: ¬ bcF (hoF (mI m (a + 7)) t s (nI h0) n) < l
        show Jj sc d 0 0 (mth 39) (pg P39 18).1 [some (.ref a), some (.int l), some (.int gr), some (.int ((fo (hbS (mI m (a + 7)) n t s l) x h0) + nI 1)), some (.int (nI t)), some (.int (nI s)), some (.int (nI h0 + nI 1))] [] m 0 0 Q
        rw [show nI h0 + nI 1 = nI (h0 + 1) from by simp only [nI_add, pk_mul]]
        have z := ih (h0 + 1) (by omega) (by omega)
        rw [fo_s] at z
        unfold hbS at z ⊢
        rw [if_neg cz35] at z
        exact z
theorem lp39z {sc : Nat × (Nat → Int32)} {d : Nat} {m : Mm} {Q : Option Value → Mm → Prop} {a w h nt n : Nat} (hd : 3 ≤ d) (hL : LW m.2.2 a) (hw : mI m a 0 = nI w) (hh : mI m a 1 = nI h) (hwh : w * h ≤ 24) (hnt : mI m (a + 1) 2 = nI nt) (hnt6 : nt ≤ 6) (hn : mI m (a + 1) 4 = nI n) (hn6 : n ≤ 6) {t s : Nat} {gr l x : Int32} (ht : t < 6) (hs : s < 5) (hoff : ¬ bq gr (nI s)) (hk : Jj sc d 0 0 (mth 39) (pg P39 13).1 [some (.ref a), some (.int l), some (.int gr), some (.int x), some (.int (nI t)), some (.int (nI (s + 1))), none] [] m 0 0 Q)  : Jj sc d 0 0 (mth 39) (pg P39 18).1 [some (.ref a), some (.int l), some (.int gr), some (.int x), some (.int (nI t)), some (.int (nI s)), some (.int (nI 0))] [] m 0 0 Q := by
  refine J_w z39 (i := 18) (by decide) 110 ?_
  refine And.intro (fun cz20 => False.elim (absurd cz20 (by decide))) (fun cz20 => ?_)
  refine And.intro (fun cz27 => ?_) (fun cz27 => False.elim (hoff cz27))
  show Jj sc d 0 0 (mth 39) (pg P39 13).1 [some (.ref a), some (.int l), some (.int gr), some (.int x), some (.int (nI t)), some (.int (nI s + nI 1)), some (.int (nI 0))] [] m 0 0 Q
  rw [show nI s + nI 1 = nI (s + 1) from by simp only [nI_add, pk_mul]]
  refine J_wk (L' := [some (.ref a), some (.int l), some (.int gr), some (.int x), some (.int (nI t)), some (.int (nI (s + 1))), none]) ⟨rfl, rfl, rfl, rfl, rfl, rfl, trivial⟩ ?_
  exact hk
theorem lp39b {sc : Nat × (Nat → Int32)} {d : Nat} {m : Mm} {Q : Option Value → Mm → Prop} {a w h nt n : Nat} (hd : 3 ≤ d) (hL : LW m.2.2 a) (hw : mI m a 0 = nI w) (hh : mI m a 1 = nI h) (hwh : w * h ≤ 24) (hnt : mI m (a + 1) 2 = nI nt) (hnt6 : nt ≤ 6) (hn : mI m (a + 1) 4 = nI n) (hn6 : n ≤ 6) {t : Nat} {gr l x : Int32} (ht : t < 6) (hk : Jj sc d 0 0 (mth 39) (pg P39 7).1 [some (.ref a), some (.int l), some (.int gr), some (.int (fo (hbM (mI m (a + 7)) n t gr l) x 5)), some (.int (nI (t + 1))), none, none] [] m 0 0 Q)  : ∀ (j s : Nat), s ≤ 5 → 5 + 1 ≤ s + j → Jj sc d 0 0 (mth 39) (pg P39 13).1 [some (.ref a), some (.int l), some (.int gr), some (.int (fo (hbM (mI m (a + 7)) n t gr l) x s)), some (.int (nI t)), some (.int (nI s)), none] [] m 0 0 Q := by
  intro j
  induction j with
  | zero => intro s h1 h2; omega
  | succ j ih =>
    intro s h1 h2
    refine J_w z39 (i := 13) (by decide) 110 ?_
    refine And.intro (fun cz15 => ?_) (fun cz15 => ?_)
    · -- 15 taken: nI 5 ≤ nI s
      have kz15 : 5 ≤ s := kle (a := 5) (b := s) rfl rfl (by omega) (by omega) cz15
      show Jj sc d 0 0 (mth 39) (pg P39 7).1 [some (.ref a), some (.int l), some (.int gr), some (.int (fo (hbM (mI m (a + 7)) n t gr l) x s)), some (.int (nI t + nI 1)), some (.int (nI s)), none] [] m 0 0 Q
      rw [show nI t + nI 1 = nI (t + 1) from by simp only [nI_add, pk_mul]]
      refine J_wk (L' := [some (.ref a), some (.int l), some (.int gr), some (.int (fo (hbM (mI m (a + 7)) n t gr l) x s)), some (.int (nI (t + 1))), none, none]) ⟨rfl, rfl, rfl, rfl, rfl, trivial⟩ ?_
      rw [show s = 5 by omega]
      exact hk
    · -- 15 not: ¬ nI 5 ≤ nI s
      have kz15 : s < 5 := knle (a := 5) (b := s) rfl rfl (by omega) (by omega) cz15
      show Jj sc d 0 0 (mth 39) (pg P39 18).1 [some (.ref a), some (.int l), some (.int gr), some (.int (fo (hbM (mI m (a + 7)) n t gr l) x s)), some (.int (nI t)), some (.int (nI s)), some (.int (nI 0))] [] m 0 0 Q
      have z := ih (s + 1) (by omega) (by omega)
      rw [fo_s] at z
      by_cases hon : bq gr (nI s)
      · exact lp39a hd hL hw hh hwh hnt hnt6 hn hn6 (by omega) (by omega) hon (by unfold hbM at z ⊢; rw [if_pos hon] at z; exact z) 25 0 (by decide) (by decide)
      · exact lp39z hd hL hw hh hwh hnt hnt6 hn hn6 (by omega) (by omega) hon (by unfold hbM at z ⊢; rw [if_neg hon] at z; exact z)
theorem lp39c {sc : Nat × (Nat → Int32)} {d : Nat} {m : Mm} {Q : Option Value → Mm → Prop} {a w h nt n : Nat} (hd : 3 ≤ d) (hL : LW m.2.2 a) (hw : mI m a 0 = nI w) (hh : mI m a 1 = nI h) (hwh : w * h ≤ 24) (hnt : mI m (a + 1) 2 = nI nt) (hnt6 : nt ≤ 6) (hn : mI m (a + 1) 4 = nI n) (hn6 : n ≤ 6) {gr l : Int32} (hQ : Q (some (.int (hbF (mI m (a + 7)) n nt gr l))) m)  : ∀ (j t : Nat), t ≤ nt → nt + 1 ≤ t + j → Jj sc d 0 0 (mth 39) (pg P39 7).1 [some (.ref a), some (.int l), some (.int gr), some (.int (fo (hbT (mI m (a + 7)) n gr l) (nI 0) t)), some (.int (nI t)), none, none] [] m 0 0 Q := by
  intro j
  induction j with
  | zero => intro t h1 h2; omega
  | succ j ih =>
    intro t h1 h2
    refine J_w z39 (i := 7) (by decide) 110 ?_
    refine And.intro ⟨by omega, Nat.le_of_ble_eq_true rfl, Nat.le_refl _, Nat.le_refl _⟩ (And.intro (LWo_0 hL) ?_)
    refine C22 hL ?_
    rw [hnt]
    refine And.intro (fun cz10 => ?_) (fun cz10 => ?_)
    · -- 10 taken: nI nt ≤ nI t
      have kz10 : nt ≤ t := kle (a := nt) (b := t) rfl rfl (by omega) (by omega) cz10
      refine And.intro ⟨rfl, trivial, Nat.le_refl _, Nat.le_refl _⟩ ?_
      rw [show nt = t by omega] at hQ
      exact hQ
    · -- 10 not: ¬ nI nt ≤ nI t
      have kz10 : t < nt := knle (a := nt) (b := t) rfl rfl (by omega) (by omega) cz10
      show Jj sc d 0 0 (mth 39) (pg P39 13).1 [some (.ref a), some (.int l), some (.int gr), some (.int (fo (hbT (mI m (a + 7)) n gr l) (nI 0) t)), some (.int (nI t)), some (.int (nI 0)), none] [] m 0 0 Q
      exact lp39b hd hL hw hh hwh hnt hnt6 hn hn6 (by omega) (ih (t + 1) (by omega) (by omega)) 6 0 (by decide) (by decide)
theorem C39 {d : Nat} {m : Mm} {Q : Option Value → Mm → Prop} {a w h nt n : Nat} (hd : 3 ≤ d) (hL : LW m.2.2 a) (hw : mI m a 0 = nI w) (hh : mI m a 1 = nI h) (hwh : w * h ≤ 24) (hnt : mI m (a + 1) 2 = nI nt) (hnt6 : nt ≤ 6) (hn : mI m (a + 1) 4 = nI n) (hn6 : n ≤ 6) {l : Int32} (hQ : Q (some (.int (hbF (mI m (a + 7)) n nt (grF (mI m (a + 2)) (w * h)) l))) m) : Cc d 0 0 39 [.ref a, .int l] m Q := by
  refine ent (n := 110) z39 (by decide) rfl (by decide) (Nat.le_of_ble_eq_true rfl) (fun sc => ?_)
  refine And.intro ⟨by omega, Nat.le_of_ble_eq_true rfl, Nat.le_refl _, Nat.le_refl _⟩ (And.intro (LWo_0 hL) ?_)
  refine C28 hL hw hh hwh ?_
  show Jj sc d 0 0 (mth 39) (pg P39 7).1 [some (.ref a), some (.int l), some (.int (grF (mI m (a + 2)) (w * h))), some (.int (nI 0)), some (.int (nI 0)), none, none] [] m 0 0 Q
  exact lp39c hd hL hw hh hwh hnt hnt6 hn hn6 hQ (nt + 1) 0 (Nat.zero_le _) (by omega)
/-- the hours that the gods before g have; of those in a set -/
def whF (off : Nat → Int32) (t s : Nat) (g : Nat) : Int32 := fo (fun g x => x ||| off ((g * 6 + t) * 5 + s)) (nI 0) g
def wsF (off : Nat → Int32) (b : Int32) (t s : Nat) (g : Nat) : Int32 := fo (fun g x => if bq b (nI g) then x ||| off ((g * 6 + t) * 5 + s) else x) (nI 0) g
/-- the gods of a set have all hours that the n gods have; none twice, if p isn't 0 -/
abbrev haP (off : Nat → Int32) (b p : Int32) (t s n : Nat) : Prop := (∀ g, g < n → bq b (nI g) → ¬ p = 0 → wsF off b t s g &&& off ((g * 6 + t) * 5 + s) = 0) ∧ wsF off b t s n = whF off t s n
theorem lp44 {sc : Nat × (Nat → Int32)} {d : Nat} {m : Mm} {Q : Option Value → Mm → Prop} {a w h nt n : Nat} (hd : 3 ≤ d) (hL : LW m.2.2 a) (hw : mI m a 0 = nI w) (hh : mI m a 1 = nI h) (hwh : w * h ≤ 24) (hnt : mI m (a + 1) 2 = nI nt) (hnt6 : nt ≤ 6) (hn : mI m (a + 1) 4 = nI n) (hn6 : n ≤ 6) {b p : Int32} {t s : Nat} (ht : t < 6) (hs : s < 5) (hQ : Q (some (.int (bi (haP (mI m (a + 7)) b p t s n)))) m)  : ∀ (j g : Nat), g ≤ n → n + 1 ≤ g + j → (∀ g1, g1 < g → bq b (nI g1) → ¬ p = 0 → wsF (mI m (a + 7)) b t s g1 &&& mI m (a + 7) ((g1 * 6 + t) * 5 + s) = 0) → Jj sc d 0 0 (mth 44) (pg P44 6).1 [some (.ref a), some (.int b), some (.int (nI t)), some (.int (nI s)), some (.int p), some (.int (whF (mI m (a + 7)) t s g)), some (.int (wsF (mI m (a + 7)) b t s g)), some (.int (nI g)), none] [] m 0 0 Q := by
  intro j
  induction j with
  | zero => intro g h1 h2 hall; omega
  | succ j ih =>
    intro g h1 h2 hall
    refine J_w z44 (i := 6) (by decide) 116 ?_
    refine And.intro ⟨by omega, Nat.le_of_ble_eq_true rfl, Nat.le_refl _, Nat.le_refl _⟩ (And.intro (LWo_0 hL) ?_)
    refine C23 hL ?_
    rw [hn]
    refine And.intro (fun cz9 => ?_) (fun cz9 => ?_)
    · -- 9 taken: nI n ≤ nI g
      have kz9 : n ≤ g := kle (a := n) (b := g) rfl rfl (by omega) (by omega) cz9
      refine And.intro (fun cz43 => ?_) (fun cz43 => ?_)
      · -- 43 taken: ¬ wsF (mI m (a + 7)) b t s g = whF (mI m (a + 7)) t s g
        refine And.intro ⟨rfl, Or.inl rfl, Nat.le_refl _, Nat.le_refl _⟩ ?_
        rw [show g = n by omega] at cz43 hall
        rw [bi_f (fun z => cz43 z.2)] at hQ; exact hQ
      · -- 43 not: wsF (mI m (a + 7)) b t s g = whF (mI m (a + 7)) t s g
        refine And.intro ⟨rfl, Or.inr rfl, Nat.le_refl _, Nat.le_refl _⟩ ?_
        rw [show g = n by omega] at cz43 hall
        rw [bi_t ⟨hall, cz43⟩] at hQ; exact hQ
    · -- 9 not: ¬ nI n ≤ nI g
      have kz9 : g < n := knle (a := n) (b := g) rfl rfl (by omega) (by omega) cz9
      refine And.intro ⟨by omega, Nat.le_of_ble_eq_true rfl, Nat.le_refl _, Nat.le_refl _⟩ (And.intro (LWo_0 hL) ?_)
      refine C29 (g := g) (t := t) (s := s) hL (by omega) (by omega) (by omega) ?_
      refine And.intro (fun cz26 => ?_) (fun cz26 => ?_)
      · -- 26 taken: ¬ (b >>> (nI g &&& 31)) &&& nI 1 = nI 1
        show Jj sc d 0 0 (mth 44) (pg P44 6).1 [some (.ref a), some (.int b), some (.int (nI t)), some (.int (nI s)), some (.int p), some (.int ((whF (mI m (a + 7)) t s g) ||| (mI m (a + 7) ((g * 6 + t) * 5 + s)))), some (.int (wsF (mI m (a + 7)) b t s g)), some (.int (nI g + nI 1)), some (.int (mI m (a + 7) ((g * 6 + t) * 5 + s)))] [] m 0 0 Q
        rw [show nI g + nI 1 = nI (g + 1) from by simp only [nI_add, pk_mul]]
        refine J_wk (L' := [some (.ref a), some (.int b), some (.int (nI t)), some (.int (nI s)), some (.int p), some (.int ((whF (mI m (a + 7)) t s g) ||| (mI m (a + 7) ((g * 6 + t) * 5 + s)))), some (.int (wsF (mI m (a + 7)) b t s g)), some (.int (nI (g + 1))), none]) ⟨rfl, rfl, rfl, rfl, rfl, rfl, rfl, rfl, trivial⟩ ?_
        have hall2 : ∀ g1, g1 < g + 1 → bq b (nI g1) → ¬ p = 0 → wsF (mI m (a + 7)) b t s g1 &&& mI m (a + 7) ((g1 * 6 + t) * 5 + s) = 0 := by
          intro g1 h9
          rcases Nat.lt_or_ge g1 g with q | q
          · exact hall g1 q
          · have e : g1 = g := by omega
            subst e
            exact fun z => absurd z cz26
        have z := ih (g + 1) (by omega) (by omega) hall2
        unfold whF wsF at z ⊢
        rw [fo_s, fo_s, if_neg cz26] at z
        exact z
      · -- 26 not: (b >>> (nI g &&& 31)) &&& nI 1 = nI 1
        refine And.intro (fun cz28 => ?_) (fun cz28 => ?_)
        · -- 28 taken: p = 0
          show Jj sc d 0 0 (mth 44) (pg P44 6).1 [some (.ref a), some (.int b), some (.int (nI t)), some (.int (nI s)), some (.int p), some (.int ((whF (mI m (a + 7)) t s g) ||| (mI m (a + 7) ((g * 6 + t) * 5 + s)))), some (.int ((wsF (mI m (a + 7)) b t s g) ||| (mI m (a + 7) ((g * 6 + t) * 5 + s)))), some (.int (nI g + nI 1)), some (.int (mI m (a + 7) ((g * 6 + t) * 5 + s)))] [] m 0 0 Q
          rw [show nI g + nI 1 = nI (g + 1) from by simp only [nI_add, pk_mul]]
          refine J_wk (L' := [some (.ref a), some (.int b), some (.int (nI t)), some (.int (nI s)), some (.int p), some (.int ((whF (mI m (a + 7)) t s g) ||| (mI m (a + 7) ((g * 6 + t) * 5 + s)))), some (.int ((wsF (mI m (a + 7)) b t s g) ||| (mI m (a + 7) ((g * 6 + t) * 5 + s)))), some (.int (nI (g + 1))), none]) ⟨rfl, rfl, rfl, rfl, rfl, rfl, rfl, rfl, trivial⟩ ?_
          have hall2 : ∀ g1, g1 < g + 1 → bq b (nI g1) → ¬ p = 0 → wsF (mI m (a + 7)) b t s g1 &&& mI m (a + 7) ((g1 * 6 + t) * 5 + s) = 0 := by
            intro g1 h9
            rcases Nat.lt_or_ge g1 g with q | q
            · exact hall g1 q
            · have e : g1 = g := by omega
              subst e
              exact fun _ z => absurd cz28 z
          have z := ih (g + 1) (by omega) (by omega) hall2
          unfold whF wsF at z ⊢
          rw [fo_s, fo_s, if_pos cz26] at z
          exact z
        · -- 28 not: ¬ p = 0
          refine And.intro (fun cz32 => ?_) (fun cz32 => ?_)
          · -- 32 taken: (wsF (mI m (a + 7)) b t s g) &&& (mI m (a + 7) ((g * 6 + t) * 5 + s)) = 0
            show Jj sc d 0 0 (mth 44) (pg P44 6).1 [some (.ref a), some (.int b), some (.int (nI t)), some (.int (nI s)), some (.int p), some (.int ((whF (mI m (a + 7)) t s g) ||| (mI m (a + 7) ((g * 6 + t) * 5 + s)))), some (.int ((wsF (mI m (a + 7)) b t s g) ||| (mI m (a + 7) ((g * 6 + t) * 5 + s)))), some (.int (nI g + nI 1)), some (.int (mI m (a + 7) ((g * 6 + t) * 5 + s)))] [] m 0 0 Q
            rw [show nI g + nI 1 = nI (g + 1) from by simp only [nI_add, pk_mul]]
            refine J_wk (L' := [some (.ref a), some (.int b), some (.int (nI t)), some (.int (nI s)), some (.int p), some (.int ((whF (mI m (a + 7)) t s g) ||| (mI m (a + 7) ((g * 6 + t) * 5 + s)))), some (.int ((wsF (mI m (a + 7)) b t s g) ||| (mI m (a + 7) ((g * 6 + t) * 5 + s)))), some (.int (nI (g + 1))), none]) ⟨rfl, rfl, rfl, rfl, rfl, rfl, rfl, rfl, trivial⟩ ?_
            have hall2 : ∀ g1, g1 < g + 1 → bq b (nI g1) → ¬ p = 0 → wsF (mI m (a + 7)) b t s g1 &&& mI m (a + 7) ((g1 * 6 + t) * 5 + s) = 0 := by
              intro g1 h9
              rcases Nat.lt_or_ge g1 g with q | q
              · exact hall g1 q
              · have e : g1 = g := by omega
                subst e
                exact fun _ _ => cz32
            have z := ih (g + 1) (by omega) (by omega) hall2
            unfold whF wsF at z ⊢
            rw [fo_s, fo_s, if_pos cz26] at z
            exact z
          · -- 32 not: ¬ (wsF (mI m (a + 7)) b t s g) &&& (mI m (a + 7) ((g * 6 + t) * 5 + s)) = 0
            refine And.intro ⟨rfl, Or.inl rfl, Nat.le_refl _, Nat.le_refl _⟩ ?_
            rw [bi_f (fun z => cz32 (z.1 g (by omega) cz26 cz28))] at hQ; exact hQ
theorem C44 {d : Nat} {m : Mm} {Q : Option Value → Mm → Prop} {a w h nt n : Nat} (hd : 3 ≤ d) (hL : LW m.2.2 a) (hw : mI m a 0 = nI w) (hh : mI m a 1 = nI h) (hwh : w * h ≤ 24) (hnt : mI m (a + 1) 2 = nI nt) (hnt6 : nt ≤ 6) (hn : mI m (a + 1) 4 = nI n) (hn6 : n ≤ 6) {b p : Int32} {t s : Nat} (ht : t < 6) (hs : s < 5) (hQ : Q (some (.int (bi (haP (mI m (a + 7)) b p t s n)))) m) : Cc d 0 0 44 [.ref a, .int b, .int (nI t), .int (nI s), .int p] m Q := by
  refine ent (n := 116) z44 (by decide) rfl (by decide) (Nat.le_of_ble_eq_true rfl) (fun sc => ?_)
  show Jj sc d 0 0 (mth 44) (pg P44 6).1 [some (.ref a), some (.int b), some (.int (nI t)), some (.int (nI s)), some (.int p), some (.int (nI 0)), some (.int (nI 0)), some (.int (nI 0)), none] [] m 0 0 Q
  exact lp44 hd hL hw hh hwh hnt hnt6 hn hn6 ht hs hQ (n + 1) 0 (Nat.zero_le _) (by omega) (fun _ h => absurd h (by omega))
