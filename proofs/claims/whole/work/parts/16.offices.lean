theorem c37 {d : Nat} {m : Mm} {Q : Option Value → Mm → Prop} {a w h nt n : Nat} (hd : 3 ≤ d) (hL : LW m.2.2 a) (hw : mI m a 0 = nI w) (hh : mI m a 1 = nI h) (hwh : w * h ≤ 24) (hnt : mI m (a + 1) 2 = nI nt) (hnt6 : nt ≤ 6) (hn : mI m (a + 1) 4 = nI n) (hn6 : n ≤ 6) (hQ : Q (some (.int (nI nt * bcF (grF (mI m (a + 2)) (w * h)) * nI 24))) m) : Cc d 0 0 37 [.ref a] m Q := by
  refine ent (n := 38) z37 (by decide) rfl (by decide) (Nat.le_of_ble_eq_true rfl) (fun sc => ?_)
  refine And.intro ⟨by omega, Nat.le_of_ble_eq_true rfl, Nat.le_refl _, Nat.le_refl _⟩ (And.intro (LWo_0 hL) ?_)
  refine c22 hL ?_
  rw [hnt]
  refine And.intro ⟨by omega, Nat.le_of_ble_eq_true rfl, Nat.le_refl _, Nat.le_refl _⟩ (And.intro (LWo_0 hL) ?_)
  refine c28 hL hw hh hwh ?_
  refine And.intro ⟨by omega, Nat.le_of_ble_eq_true rfl, Nat.le_refl _, Nat.le_refl _⟩ ?_
  refine c340 ?_
  refine And.intro ⟨rfl, trivial, Nat.le_refl _, Nat.le_refl _⟩ ?_
  exact hQ
def heS (off : Nat → Int32) (g g2 t : Nat) (gr : Int32) : Nat → Int32 → Int32 := fun s x => if (gr >>> (nI s &&& 31)) &&& nI 1 = nI 1 then x + (bcF ((off ((g * 6 + t) * 5 + s)) &&& (off ((g2 * 6 + t) * 5 + s)))) else x
def heT (off : Nat → Int32) (g g2 : Nat) (gr : Int32) : Nat → Int32 → Int32 := fun t x => fo (heS off g g2 t gr) x 5
/-- how many points both have -/
def heF (off : Nat → Int32) (g g2 : Nat) (gr : Int32) (nt : Nat) : Int32 := fo (heT off g g2 gr) (nI 0) nt
theorem lp38a {sc : Nat × (Nat → Int32)} {d : Nat} {m : Mm} {Q : Option Value → Mm → Prop} {a w h nt n : Nat} (hd : 3 ≤ d) (hL : LW m.2.2 a) (hw : mI m a 0 = nI w) (hh : mI m a 1 = nI h) (hwh : w * h ≤ 24) (hnt : mI m (a + 1) 2 = nI nt) (hnt6 : nt ≤ 6) (hn : mI m (a + 1) 4 = nI n) (hn6 : n ≤ 6) {g g2 t : Nat} {gr x : Int32} (hg : g < 6) (hg2 : g2 < 6) (ht : t < 6) (hk : Jj sc d 0 0 (mth 38) (pg P38 7).1 [some (.ref a), some (.int (nI g)), some (.int (nI g2)), some (.int gr), some (.int (fo (heS (mI m (a + 7)) g g2 t gr) x 5)), some (.int (nI (t + 1))), none] [] m 0 0 Q)  : ∀ (j s : Nat), s ≤ 5 → 5 + 1 ≤ s + j → Jj sc d 0 0 (mth 38) (pg P38 13).1 [some (.ref a), some (.int (nI g)), some (.int (nI g2)), some (.int gr), some (.int (fo (heS (mI m (a + 7)) g g2 t gr) x s)), some (.int (nI t)), some (.int (nI s))] [] m 0 0 Q := by
  intro j
  induction j with
  | zero => intro s h1 h2; omega
  | succ j ih =>
    intro s h1 h2
    refine J_w z38 (i := 13) (by decide) 108 ?_
    refine And.intro (fun c15 => ?_) (fun c15 => ?_)
    · -- 15 taken: nI 5 ≤ nI s
      have k15 : 5 ≤ s := kle (a := 5) (b := s) rfl rfl (by omega) (by omega) c15
      show Jj sc d 0 0 (mth 38) (pg P38 7).1 [some (.ref a), some (.int (nI g)), some (.int (nI g2)), some (.int gr), some (.int (fo (heS (mI m (a + 7)) g g2 t gr) x s)), some (.int (nI t + nI 1)), some (.int (nI s))] [] m 0 0 Q
      rw [show nI t + nI 1 = nI (t + 1) from by simp only [nI_add, pk_mul]]
      refine J_wk (L' := [some (.ref a), some (.int (nI g)), some (.int (nI g2)), some (.int gr), some (.int (fo (heS (mI m (a + 7)) g g2 t gr) x s)), some (.int (nI (t + 1))), none]) ⟨rfl, rfl, rfl, rfl, rfl, rfl, trivial⟩ ?_
      rw [show s = 5 by omega]
      exact hk
    · -- 15 not: ¬ nI 5 ≤ nI s
      have k15 : s < 5 := knle (a := 5) (b := s) rfl rfl (by omega) (by omega) c15
      refine And.intro (fun c22 => ?_) (fun c22 => ?_)
      · -- 22 taken: ¬ (gr >>> (nI s &&& 31)) &&& nI 1 = nI 1
        show Jj sc d 0 0 (mth 38) (pg P38 13).1 [some (.ref a), some (.int (nI g)), some (.int (nI g2)), some (.int gr), some (.int (fo (heS (mI m (a + 7)) g g2 t gr) x s)), some (.int (nI t)), some (.int (nI s + nI 1))] [] m 0 0 Q
        rw [show nI s + nI 1 = nI (s + 1) from by simp only [nI_add, pk_mul]]
        have z := ih (s + 1) (by omega) (by omega)
        rw [fo_s] at z
        unfold heS at z ⊢
        rw [if_neg c22] at z
        exact z
      · -- 22 not: (gr >>> (nI s &&& 31)) &&& nI 1 = nI 1
        refine And.intro ⟨by omega, Nat.le_of_ble_eq_true rfl, Nat.le_refl _, Nat.le_refl _⟩ (And.intro (LWo_0 hL) ?_)
        refine c29 (g := g) (t := t) (s := s) hL (by omega) (by omega) (by omega) ?_
        refine And.intro ⟨by omega, Nat.le_of_ble_eq_true rfl, Nat.le_refl _, Nat.le_refl _⟩ (And.intro (LWo_0 hL) ?_)
        refine c29 (g := g2) (t := t) (s := s) hL (by omega) (by omega) (by omega) ?_
        refine And.intro ⟨by omega, Nat.le_of_ble_eq_true rfl, Nat.le_refl _, Nat.le_refl _⟩ ?_
        refine c340 ?_
        show Jj sc d 0 0 (mth 38) (pg P38 13).1 [some (.ref a), some (.int (nI g)), some (.int (nI g2)), some (.int gr), some (.int ((fo (heS (mI m (a + 7)) g g2 t gr) x s) + (bcF ((mI m (a + 7) ((g * 6 + t) * 5 + s)) &&& (mI m (a + 7) ((g2 * 6 + t) * 5 + s)))))), some (.int (nI t)), some (.int (nI s + nI 1))] [] m 0 0 Q
        rw [show nI s + nI 1 = nI (s + 1) from by simp only [nI_add, pk_mul]]
        have z := ih (s + 1) (by omega) (by omega)
        rw [fo_s] at z
        unfold heS at z ⊢
        rw [if_pos c22] at z
        exact z
theorem lp38b {sc : Nat × (Nat → Int32)} {d : Nat} {m : Mm} {Q : Option Value → Mm → Prop} {a w h nt n : Nat} (hd : 3 ≤ d) (hL : LW m.2.2 a) (hw : mI m a 0 = nI w) (hh : mI m a 1 = nI h) (hwh : w * h ≤ 24) (hnt : mI m (a + 1) 2 = nI nt) (hnt6 : nt ≤ 6) (hn : mI m (a + 1) 4 = nI n) (hn6 : n ≤ 6) {g g2 : Nat} {gr : Int32} (hg : g < 6) (hg2 : g2 < 6) (hQ : Q (some (.int (heF (mI m (a + 7)) g g2 gr nt))) m)  : ∀ (j t : Nat), t ≤ nt → nt + 1 ≤ t + j → Jj sc d 0 0 (mth 38) (pg P38 7).1 [some (.ref a), some (.int (nI g)), some (.int (nI g2)), some (.int gr), some (.int (heF (mI m (a + 7)) g g2 gr t)), some (.int (nI t)), none] [] m 0 0 Q := by
  intro j
  induction j with
  | zero => intro t h1 h2; omega
  | succ j ih =>
    intro t h1 h2
    refine J_w z38 (i := 7) (by decide) 108 ?_
    refine And.intro ⟨by omega, Nat.le_of_ble_eq_true rfl, Nat.le_refl _, Nat.le_refl _⟩ (And.intro (LWo_0 hL) ?_)
    refine c22 hL ?_
    rw [hnt]
    refine And.intro (fun c10 => ?_) (fun c10 => ?_)
    · -- 10 taken: nI nt ≤ nI t
      have k10 : nt ≤ t := kle (a := nt) (b := t) rfl rfl (by omega) (by omega) c10
      refine And.intro ⟨rfl, trivial, Nat.le_refl _, Nat.le_refl _⟩ ?_
      rw [show nt = t by omega] at hQ
      exact hQ
    · -- 10 not: ¬ nI nt ≤ nI t
      have k10 : t < nt := knle (a := nt) (b := t) rfl rfl (by omega) (by omega) c10
      show Jj sc d 0 0 (mth 38) (pg P38 13).1 [some (.ref a), some (.int (nI g)), some (.int (nI g2)), some (.int gr), some (.int (heF (mI m (a + 7)) g g2 gr t)), some (.int (nI t)), some (.int (nI 0))] [] m 0 0 Q
      exact lp38a hd hL hw hh hwh hnt hnt6 hn hn6 hg hg2 (by omega) (ih (t + 1) (by omega) (by omega)) 6 0 (by decide) (by decide)
theorem c38 {d : Nat} {m : Mm} {Q : Option Value → Mm → Prop} {a w h nt n : Nat} (hd : 3 ≤ d) (hL : LW m.2.2 a) (hw : mI m a 0 = nI w) (hh : mI m a 1 = nI h) (hwh : w * h ≤ 24) (hnt : mI m (a + 1) 2 = nI nt) (hnt6 : nt ≤ 6) (hn : mI m (a + 1) 4 = nI n) (hn6 : n ≤ 6) {g g2 : Nat} (hg : g < 6) (hg2 : g2 < 6) (hQ : Q (some (.int (heF (mI m (a + 7)) g g2 (grF (mI m (a + 2)) (w * h)) nt))) m) : Cc d 0 0 38 [.ref a, .int (nI g), .int (nI g2)] m Q := by
  refine ent (n := 108) z38 (by decide) rfl (by decide) (Nat.le_of_ble_eq_true rfl) (fun sc => ?_)
  refine And.intro ⟨by omega, Nat.le_of_ble_eq_true rfl, Nat.le_refl _, Nat.le_refl _⟩ (And.intro (LWo_0 hL) ?_)
  refine c28 hL hw hh hwh ?_
  show Jj sc d 0 0 (mth 38) (pg P38 7).1 [some (.ref a), some (.int (nI g)), some (.int (nI g2)), some (.int (grF (mI m (a + 2)) (w * h))), some (.int (nI 0)), some (.int (nI 0)), none] [] m 0 0 Q
  exact lp38b hd hL hw hh hwh hnt hnt6 hn hn6 hg hg2 hQ (nt + 1) 0 (Nat.zero_le _) (by omega)
