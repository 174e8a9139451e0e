/-! ===== spells ===== -/
def caF (so am : Nat → Int32) (p : Nat) (l : Int32) : Int32 := if so p = nI 0 then l + am p else if so p = nI 1 then (if nI 0 < l - am p then l - am p else nI 0) else if so p = nI 2 then l * am p else if am p ≤ 0 then l else l / am p
theorem C96 {d : Nat} {m : Mm} {Q : Option Value → Mm → Prop} {a p : Nat} {l : Int32} (hL : LW m.2.2 a) (hd : 1 ≤ d) (hp : p < 6) (hQ : Q (some (.int (caF (mI m (a + 12)) (mI m (a + 13)) p l))) m) : Cc d 0 0 96 [.ref a, .int (nI p), .int l] m Q := by
  refine ent (n := 84) z96 (by decide) rfl (by decide) (Nat.le_of_ble_eq_true rfl) (fun sc => ?_)
  refine And.intro (LWo_0 hL) (Exists.intro _ (And.intro (LWr_0_16 hL) ?_))
  refine And.intro (LWi_13 hL (vi rfl (by omega))) ?_
  rw [nI_clamp (show p < 2 ^ 31 by omega)]
  refine And.intro (LWo_0 hL) (Exists.intro _ (And.intro (LWr_0_15 hL) ?_))
  refine And.intro (LWi_12 hL (vi rfl (by omega))) ?_
  rw [nI_clamp (show p < 2 ^ 31 by omega)]
  refine And.intro (fun cz9 => ?_) (And.intro (fun cz9 => ?_) (And.intro (fun cz9 => ?_) (And.intro (fun cz9 => ?_) (trivial))))
  · -- case d
    have hs0 : ¬ mI m (a + 12) p = nI 0 := fun z => absurd cz9 (by rw [z]; decide)
    have hs1 : ¬ mI m (a + 12) p = nI 1 := fun z => absurd cz9 (by rw [z]; decide)
    have hs2 : ¬ mI m (a + 12) p = nI 2 := fun z => absurd cz9 (by rw [z]; decide)
    refine And.intro (fun cz25 => ?_) (fun cz25 => ?_)
    · -- 25 taken: mI m (a + 13) p ≤ 0
      refine And.intro ⟨rfl, trivial, Nat.le_refl _, Nat.le_refl _⟩ ?_
      unfold caF at hQ
      rw [if_neg hs0, if_neg hs1, if_neg hs2, if_pos cz25] at hQ
      exact hQ
    · -- 25 not: ¬ mI m (a + 13) p ≤ 0
      refine And.intro (fun z => cz25 (by rw [z]; decide)) ?_
      refine And.intro ⟨rfl, trivial, Nat.le_refl _, Nat.le_refl _⟩ ?_
      unfold caF at hQ
      rw [if_neg hs0, if_neg hs1, if_neg hs2, if_neg cz25] at hQ
      exact hQ
  · -- case 0
    refine And.intro ⟨rfl, trivial, Nat.le_refl _, Nat.le_refl _⟩ ?_
    unfold caF at hQ
    rw [if_pos cz9] at hQ
    exact hQ
  · -- case 1
    refine And.intro ⟨by omega, Nat.le_of_ble_eq_true rfl, Nat.le_refl _, Nat.le_refl _⟩ ?_
    refine And.intro ⟨rfl, trivial, Nat.le_refl _, Nat.le_refl _⟩ ?_
    unfold caF at hQ
    rw [if_neg (show ¬ mI m (a + 12) p = nI 0 by rw [cz9]; decide), if_pos cz9] at hQ
    exact hQ
  · -- case 2
    refine And.intro ⟨rfl, trivial, Nat.le_refl _, Nat.le_refl _⟩ ?_
    unfold caF at hQ
    rw [if_neg (show ¬ mI m (a + 12) p = nI 0 by rw [cz9]; decide), if_neg (show ¬ mI m (a + 12) p = nI 1 by rw [cz9]; decide), if_pos cz9] at hQ
    exact hQ
def ioQ (so am : Nat → Int32) (l : Int32) (p : Nat) : Int32 := fo (fun p y => caF so am p y) l p
theorem ioQ_s {so am : Nat → Int32} {l : Int32} {p : Nat} : ioQ so am l (p + 1) = caF so am p (ioQ so am l p) := fo_s
theorem lq95 {sc : Nat × (Nat → Int32)} {d : Nat} {m : Mm} {Q : Option Value → Mm → Prop} {a ns : Nat} (hL : LW m.2.2 a) (hd : 2 ≤ d) (hns : mI m (a + 1) 11 = nI ns) (hns6 : ns ≤ 6) (hQ : Q (some (.int (ioQ (mI m (a + 12)) (mI m (a + 13)) (mI m a 3) ns))) m)  : ∀ (j p : Nat), p ≤ ns → ns + 1 ≤ p + j → Jj sc d 0 0 (mth 95) (pg P95 5).1 [some (.ref a), some (.int (ioQ (mI m (a + 12)) (mI m (a + 13)) (mI m a 3) p)), some (.int (nI p))] [] m 0 0 Q := by
  intro j
  induction j with
  | zero => intro p h1 h2; omega
  | succ j ih =>
    intro p h1 h2
    refine J_w z95 (i := 5) (by decide) 60 ?_
    refine And.intro (LWo_0 hL) (Exists.intro _ (And.intro (LWr_0_4 hL) ?_))
    refine And.intro (LWi_1 hL (vi rfl (by omega))) ?_
    rw [nI_clamp (show 11 < 2 ^ 31 by omega)]
    rw [hns]
    refine And.intro (fun cz10 => ?_) (fun cz10 => ?_)
    · -- 10 taken: nI ns ≤ nI p
      have kz10 : ns ≤ p := kle (a := ns) (b := p) rfl rfl (by omega) (by omega) cz10
      refine And.intro ⟨rfl, trivial, Nat.le_refl _, Nat.le_refl _⟩ ?_
      rw [show p = ns by omega]
      exact hQ
    · -- 10 not: ¬ nI ns ≤ nI p
      have kz10 : p < ns := knle (a := ns) (b := p) rfl rfl (by omega) (by omega) cz10
      refine And.intro ⟨by omega, Nat.le_of_ble_eq_true rfl, Nat.le_refl _, Nat.le_refl _⟩ ?_
      refine C96 (p := p) hL (by omega) (by omega) ?_
      show Jj sc d 0 0 (mth 95) (pg P95 5).1 [some (.ref a), some (.int (caF (mI m (a + 12)) (mI m (a + 13)) p (ioQ (mI m (a + 12)) (mI m (a + 13)) (mI m a 3) p))), some (.int (nI p + nI 1))] [] m 0 0 Q
      rw [show nI p + nI 1 = nI (p + 1) from by simp only [nI_add, pk_mul]]
      have z := ih (p + 1) (by omega) (by omega)
      rw [ioQ_s] at z
      exact z
theorem C95 {d : Nat} {m : Mm} {Q : Option Value → Mm → Prop} {a ns : Nat} (hL : LW m.2.2 a) (hd : 2 ≤ d) (hns : mI m (a + 1) 11 = nI ns) (hns6 : ns ≤ 6) (hQ : Q (some (.int (ioQ (mI m (a + 12)) (mI m (a + 13)) (mI m a 3) ns))) m) : Cc d 0 0 95 [.ref a] m Q := by
  refine ent (n := 60) z95 (by decide) rfl (by decide) (Nat.le_of_ble_eq_true rfl) (fun sc => ?_)
  refine And.intro (LWo_0 hL) ?_
  show Jj sc d 0 0 (mth 95) (pg P95 5).1 [some (.ref a), some (.int (mI m a 3)), some (.int (nI 0))] [] m 0 0 Q
  exact lq95 hL hd hns hns6 hQ (ns + 1) 0 (Nat.zero_le _) (by omega)
/-- what was noted of the ends S, by c notes -/
def NI (c : Nat) (D : Nat → Nat → Int32) (S : Int32 → Prop) : Prop := ∃ k, k ≤ c ∧ D 0 1 = nI k ∧ (∀ i j, i < k → j < k → D 1 i = D 1 j → i = j) ∧ (∀ v, S v ↔ ∃ i, i < k ∧ D 1 i = v) ∧ (0 < k → (∀ v, S v → D 0 2 ≤ v ∧ v ≤ D 0 3) ∧ S (D 0 2) ∧ S (D 0 3))
def nlo (D : Nat → Nat → Int32) (k : Nat) (v : Int32) : Int32 := if k = 0 then v else if v < D 0 2 then v else D 0 2
def nhi (D : Nat → Nat → Int32) (k : Nat) (v : Int32) : Int32 := if k = 0 then v else if D 0 3 < v then v else D 0 3
def noD (D : Nat → Nat → Int32) (k : Nat) (v : Int32) : Nat → Nat → Int32 := ud (ud D 0 2 (nlo D k v)) 0 3 (nhi D k v)
theorem nlo_le {D : Nat → Nat → Int32} {k : Nat} {v : Int32} : nlo D k v ≤ v := by
  unfold nlo
  split
  · exact Int32.le_refl _
  · split
    · exact Int32.le_refl _
    · rename_i h; exact Int32.not_lt.mp h
theorem nhi_ge {D : Nat → Nat → Int32} {k : Nat} {v : Int32} : v ≤ nhi D k v := by
  unfold nhi
  split
  · exact Int32.le_refl _
  · split
    · exact Int32.le_refl _
    · rename_i h; exact Int32.not_lt.mp h
theorem nlo_o {D : Nat → Nat → Int32} {k : Nat} {v : Int32} (hk : 0 < k) : nlo D k v ≤ D 0 2 := by
  unfold nlo
  rw [if_neg (by omega)]
  split
  · rename_i h; exact Int32.le_of_lt h
  · exact Int32.le_refl _
theorem nhi_o {D : Nat → Nat → Int32} {k : Nat} {v : Int32} (hk : 0 < k) : D 0 3 ≤ nhi D k v := by
  unfold nhi
  rw [if_neg (by omega)]
  split
  · rename_i h; exact Int32.le_of_lt h
  · exact Int32.le_refl _
/-- the bounds behind a note -/
theorem NI_b {D : Nat → Nat → Int32} {k : Nat} {v : Int32} {S : Int32 → Prop} (he : ∀ w, S w ↔ ∃ i, i < k ∧ D 1 i = w) (hb : 0 < k → (∀ w, S w → D 0 2 ≤ w ∧ w ≤ D 0 3) ∧ S (D 0 2) ∧ S (D 0 3)) : (∀ w, (S w ∨ w = v) → nlo D k v ≤ w ∧ w ≤ nhi D k v) ∧ (S (nlo D k v) ∨ nlo D k v = v) ∧ (S (nhi D k v) ∨ nhi D k v = v) := by
  refine ⟨?_, ?_, ?_⟩
  · rintro w (hw | rfl)
    · obtain ⟨i, hi, -⟩ := (he w).mp hw
      have h0 : 0 < k := by omega
      exact ⟨Int32.le_trans (nlo_o h0) ((hb h0).1 w hw).1, Int32.le_trans ((hb h0).1 w hw).2 (nhi_o h0)⟩
    · exact ⟨nlo_le, nhi_ge⟩
  · by_cases h0 : k = 0
    · exact Or.inr (if_pos h0)
    · unfold nlo
      rw [if_neg h0]
      split
      · exact Or.inr rfl
      · exact Or.inl (hb (by omega)).2.1
  · by_cases h0 : k = 0
    · exact Or.inr (if_pos h0)
    · unfold nhi
      rw [if_neg h0]
      split
      · exact Or.inr rfl
      · exact Or.inl (hb (by omega)).2.2
theorem NI_old {D : Nat → Nat → Int32} {c k i : Nat} {v : Int32} {S : Int32 → Prop} (hk : k ≤ c) (h1 : D 0 1 = nI k) (hj : ∀ i j, i < k → j < k → D 1 i = D 1 j → i = j) (he : ∀ w, S w ↔ ∃ i, i < k ∧ D 1 i = w) (hb : 0 < k → (∀ w, S w → D 0 2 ≤ w ∧ w ≤ D 0 3) ∧ S (D 0 2) ∧ S (D 0 3)) (hi : i < k) (hv : D 1 i = v) : NI (c + 1) (noD D k v) (fun w => S w ∨ w = v) := by
  refine ⟨k, by omega, h1, hj, fun w => ?_, fun _ => NI_b he hb⟩
  constructor
  · rintro (h | rfl)
    · exact (he w).mp h
    · exact ⟨i, hi, hv⟩
  · exact fun h => Or.inl ((he w).mpr h)
theorem NI_new {D : Nat → Nat → Int32} {c k : Nat} {v : Int32} {S : Int32 → Prop} (hk : k ≤ c) (hj : ∀ i j, i < k → j < k → D 1 i = D 1 j → i = j) (he : ∀ w, S w ↔ ∃ i, i < k ∧ D 1 i = w) (hb : 0 < k → (∀ w, S w → D 0 2 ≤ w ∧ w ≤ D 0 3) ∧ S (D 0 2) ∧ S (D 0 3)) (hv : ∀ i, i < k → ¬ D 1 i = v) : NI (c + 1) (ud (ud (noD D k v) 1 k v) 0 1 (nI k + nI 1)) (fun w => S w ∨ w = v) := by
  refine ⟨k + 1, by omega, nI_add k 1, fun i j hi hj2 => ?_, fun w => ?_, fun _ => NI_b he hb⟩
  · show upd (D 1) k v i = upd (D 1) k v j → i = j
    by_cases ez1 : i = k
    · by_cases ez2 : j = k
      · intro _; omega
      · rw [ez1, upd_e, upd_o ez2]
        exact fun z => absurd z.symm (hv j (by omega))
    · by_cases ez2 : j = k
      · rw [ez2, upd_e, upd_o ez1]
        exact fun z => absurd z (hv i (by omega))
      · rw [upd_o ez1, upd_o ez2]
        exact hj i j (by omega) (by omega)
  · show (S w ∨ w = v) ↔ ∃ i, i < k + 1 ∧ upd (D 1) k v i = w
    constructor
    · rintro (h | rfl)
      · obtain ⟨i, hi, h2⟩ := (he w).mp h
        exact ⟨i, by omega, by rw [upd_o (by omega)]; exact h2⟩
      · exact ⟨k, by omega, upd_e⟩
    · rintro ⟨i, hi, h2⟩
      by_cases ez1 : i = k
      · rw [ez1, upd_e] at h2
        exact Or.inr h2.symm
      · rw [upd_o ez1] at h2
        exact Or.inl ((he w).mpr ⟨i, by omega, h2⟩)
theorem lq94 {sc : Nat × (Nat → Int32)} {d : Nat} {m : Mm} {Q : Option Value → Mm → Prop} {D : Nat → Nat → Int32} {c k : Nat} {v : Int32} {S : Int32 → Prop} (hW : Wd m.2.2) (hk : k ≤ c) (hc : c < 720) (h01 : D 0 1 = nI k) (hj : ∀ i j, i < k → j < k → D 1 i = D 1 j → i = j) (he : ∀ w, S w ↔ ∃ i, i < k ∧ D 1 i = w) (hb : 0 < k → (∀ w, S w → D 0 2 ≤ w ∧ w ≤ D 0 3) ∧ S (D 0 2) ∧ S (D 0 3)) (hQ : ∀ D1, NI (c + 1) D1 (fun w => S w ∨ w = v) → D1 0 4 = D 0 4 → Q none (bput m 139 2 D1))  : ∀ (j i : Nat), i ≤ k → k + 1 ≤ i + j → (∀ i1, i1 < i → ¬ D 1 i1 = v) → Jj sc d 0 0 (mth 94) (pg P94 24).1 [some (.ref 139), some (.int v), some (.int (nI i))] [] (bput m 139 2 (noD D k v)) 0 0 Q := by
  intro j
  induction j with
  | zero => intro i h1 h2 hall; omega
  | succ j ih =>
    intro i h1 h2 hall
    refine J_w z94 (i := 24) (by decide) 128 ?_
    refine And.intro (Wdo_139 hW) ?_
    rw [bput_0 (x := 139) (by decide)]
    rw [show (noD D k v) 0 1 = nI k from h01]
    refine And.intro (fun cz27 => ?_) (fun cz27 => ?_)
    · -- 27 taken: nI k ≤ nI i
      have kz27 : k ≤ i := kle (a := k) (b := i) rfl rfl (by omega) (by omega) cz27
      refine And.intro (Wdo_139 hW) ?_
      rw [bput_0 (x := 139) (by decide)]
      rw [show (noD D k v) 0 1 = nI k from h01]
      refine And.intro (fun cz40 => ?_) (fun cz40 => ?_)
      · -- 40 taken: nI 720 ≤ nI k
        have kz40 : 720 ≤ k := kle (a := 720) (b := k) rfl rfl (by omega) (by omega) cz40
        refine And.intro ⟨rfl, rfl, Nat.le_refl _, Nat.le_refl _⟩ ?_
        omega
      · -- 40 not: ¬ nI 720 ≤ nI k
        have kz40 : k < 720 := knle (a := 720) (b := k) rfl rfl (by omega) (by omega) cz40
        refine And.intro (Wdo_139 hW) (Exists.intro _ (And.intro (Wdr_139_0 hW) ?_))
        refine And.intro (Wdo_139 hW) ?_
        rw [bput_0 (x := 139) (by decide)]
        rw [show (noD D k v) 0 1 = nI k from h01]
        refine And.intro (Wdi_140 hW (vi rfl (by omega))) ?_
        rw [nI_clamp (show k < 2 ^ 31 by omega)]
        rw [bput_u (x := 139) (f := 1) (by decide)]
        refine And.intro rfl ?_
        refine And.intro (Wdo_139 hW) ?_
        rw [bput_0 (x := 139) (by decide)]
        rw [ud_ne (D := (noD D k v)) (f := 1) (g := 0) (by decide)]
        rw [show (noD D k v) 0 1 = nI k from h01]
        refine And.intro (Wdo_139 hW) ?_
        rw [bput_u0 (x := 139) (by decide)]
        refine And.intro ⟨rfl, rfl, Nat.le_refl _, Nat.le_refl _⟩ ?_
        exact hQ _ (NI_new hk hj he hb (fun i1 h => hall i1 (by omega))) rfl
    · -- 27 not: ¬ nI k ≤ nI i
      have kz27 : i < k := knle (a := k) (b := i) rfl rfl (by omega) (by omega) cz27
      refine And.intro (Wdo_139 hW) (Exists.intro _ (And.intro (Wdr_139_0 hW) ?_))
      refine And.intro (Wdi_140 hW (vi rfl (by omega))) ?_
      rw [nI_clamp (show i < 2 ^ 31 by omega)]
      rw [bput_r (x := 139) (f := 1) (by decide)]
      refine And.intro (fun cz33 => ?_) (fun cz33 => ?_)
      · -- 33 taken: ¬ (noD D k v) 1 i = v
        show Jj sc d 0 0 (mth 94) (pg P94 24).1 [some (.ref 139), some (.int v), some (.int (nI i + nI 1))] [] (bput m 139 2 (noD D k v)) 0 0 Q
        rw [show nI i + nI 1 = nI (i + 1) from by simp only [nI_add, pk_mul]]
        have hall2 : ∀ i1, i1 < i + 1 → ¬ D 1 i1 = v := by
          intro v9 h9
          rcases Nat.lt_or_ge v9 i with q9 | q9
          · exact hall v9 q9
          · have ez9 : v9 = i := by omega
            rw [ez9]
            exact cz33
        exact ih (i + 1) (by omega) (by omega) hall2
      · -- 33 not: (noD D k v) 1 i = v
        refine And.intro ⟨rfl, rfl, Nat.le_refl _, Nat.le_refl _⟩ ?_
        exact hQ _ (NI_old hk h01 hj he hb (by omega) cz33) rfl
theorem D94a {d : Nat} {m : Mm} {Q : Option Value → Mm → Prop} {D : Nat → Nat → Int32} {c k : Nat} {v : Int32} {S : Int32 → Prop} (hW : Wd m.2.2) (hk : k ≤ c) (hc : c < 720) (h01 : D 0 1 = nI k) (hj : ∀ i j, i < k → j < k → D 1 i = D 1 j → i = j) (he : ∀ w, S w ↔ ∃ i, i < k ∧ D 1 i = w) (hb : 0 < k → (∀ w, S w → D 0 2 ≤ w ∧ w ≤ D 0 3) ∧ S (D 0 2) ∧ S (D 0 3)) (hQ : ∀ D1, NI (c + 1) D1 (fun w => S w ∨ w = v) → D1 0 4 = D 0 4 → Q none (bput m 139 2 D1)) (hd : 1 ≤ d) : Cc d 0 0 94 [.ref 139, .int v] (bput m 139 2 D) Q := by
  refine ent (n := 128) z94 (by decide) rfl (by decide) (Nat.le_of_ble_eq_true rfl) (fun sc => ?_)
  refine And.intro (Wdo_139 hW) ?_
  rw [bput_0 (x := 139) (by decide)]
  rw [h01]
  refine And.intro (fun cz3 => ?_) (fun cz3 => ?_)
  · -- 3 taken: ¬ nI k = 0
    have kz3 : k ≠ 0 := kne (a := k) (b := 0) rfl rfl (by omega) (by omega) cz3
    refine And.intro (Wdo_139 hW) ?_
    rw [bput_0 (x := 139) (by decide)]
    refine And.intro ⟨by omega, Nat.le_of_ble_eq_true rfl, Nat.le_refl _, Nat.le_refl _⟩ ?_
    refine And.intro (Wdo_139 hW) ?_
    rw [bput_u0 (x := 139) (by decide)]
    refine And.intro (Wdo_139 hW) ?_
    rw [bput_0 (x := 139) (by decide)]
    rw [show (ud D 0 2 (if v < D 0 2 then v else D 0 2)) 0 1 = nI k from h01]
    refine And.intro (fun cz14 => ?_) (fun cz14 => ?_)
    · -- 14 taken: ¬ nI k = 0
      have kz14 : k ≠ 0 := kne (a := k) (b := 0) rfl rfl (by omega) (by omega) cz14
      refine And.intro (Wdo_139 hW) ?_
      rw [bput_0 (x := 139) (by decide)]
      refine And.intro ⟨by omega, Nat.le_of_ble_eq_true rfl, Nat.le_refl _, Nat.le_refl _⟩ ?_
      refine And.intro (Wdo_139 hW) ?_
      rw [bput_u0 (x := 139) (by decide)]
      show Jj sc d 0 0 (mth 94) (pg P94 24).1 [some (.ref 139), some (.int v), some (.int (nI 0))] [] (bput m 139 2 (ud (ud D 0 2 (if v < D 0 2 then v else D 0 2)) 0 3 (if (ud D 0 2 (if v < D 0 2 then v else D 0 2)) 0 3 < v then v else (ud D 0 2 (if v < D 0 2 then v else D 0 2)) 0 3))) 0 0 Q
      have ez1 : nlo D k v = (if v < D 0 2 then v else D 0 2) := if_neg kz3
      have ez2 : nhi D k v = (if D 0 3 < v then v else D 0 3) := if_neg kz3
      show Jj sc d 0 0 (mth 94) (pg P94 24).1 [some (.ref 139), some (.int v), some (.int (nI 0))] [] (bput m 139 2 (ud (ud D 0 2 (if v < D 0 2 then v else D 0 2)) 0 3 (if D 0 3 < v then v else D 0 3))) 0 0 Q
      have z := lq94 (sc := sc) (d := d) hW hk hc h01 hj he hb hQ (k + 1) 0 (Nat.zero_le _) (by omega) (fun _ h => absurd h (by omega))
      unfold noD at z
      rw [ez1, ez2] at z
      exact z
    · -- 14 not: nI k = 0
      have kz14 : k = 0 := keq (a := k) (b := 0) rfl rfl (by omega) (by omega) cz14
      refine And.intro (Wdo_139 hW) ?_
      rw [bput_u0 (x := 139) (by decide)]
      omega
  · -- 3 not: nI k = 0
    have kz3 : k = 0 := keq (a := k) (b := 0) rfl rfl (by omega) (by omega) cz3
    refine And.intro (Wdo_139 hW) ?_
    rw [bput_u0 (x := 139) (by decide)]
    refine And.intro (Wdo_139 hW) ?_
    rw [bput_0 (x := 139) (by decide)]
    rw [show (ud D 0 2 v) 0 1 = nI k from h01]
    refine And.intro (fun cz14 => ?_) (fun cz14 => ?_)
    · -- 14 taken: ¬ nI k = 0
      have kz14 : k ≠ 0 := kne (a := k) (b := 0) rfl rfl (by omega) (by omega) cz14
      refine And.intro (Wdo_139 hW) ?_
      rw [bput_0 (x := 139) (by decide)]
      refine And.intro ⟨by omega, Nat.le_of_ble_eq_true rfl, Nat.le_refl _, Nat.le_refl _⟩ ?_
      refine And.intro (Wdo_139 hW) ?_
      rw [bput_u0 (x := 139) (by decide)]
      omega
    · -- 14 not: nI k = 0
      have kz14 : k = 0 := keq (a := k) (b := 0) rfl rfl (by omega) (by omega) cz14
      refine And.intro (Wdo_139 hW) ?_
      rw [bput_u0 (x := 139) (by decide)]
      show Jj sc d 0 0 (mth 94) (pg P94 24).1 [some (.ref 139), some (.int v), some (.int (nI 0))] [] (bput m 139 2 (ud (ud D 0 2 v) 0 3 v)) 0 0 Q
      have ez1 : nlo D k v = v := if_pos kz3
      have ez2 : nhi D k v = v := if_pos kz3
      show Jj sc d 0 0 (mth 94) (pg P94 24).1 [some (.ref 139), some (.int v), some (.int (nI 0))] [] (bput m 139 2 (ud (ud D 0 2 v) 0 3 v)) 0 0 Q
      have z := lq94 (sc := sc) (d := d) hW hk hc h01 hj he hb hQ (k + 1) 0 (Nat.zero_le _) (by omega) (fun _ h => absurd h (by omega))
      unfold noD at z
      rw [ez1, ez2] at z
      exact z
theorem D94 {d : Nat} {m : Mm} {Q : Option Value → Mm → Prop} {D : Nat → Nat → Int32} {c : Nat} {v : Int32} {S : Int32 → Prop} (hW : Wd m.2.2) (hd : 1 ≤ d) (hc : c < 720) (hI : NI c D S) (hQ : ∀ D1, NI (c + 1) D1 (fun w => S w ∨ w = v) → D1 0 4 = D 0 4 → Q none (bput m 139 2 D1)) : Cc d 0 0 94 [.ref 139, .int v] (bput m 139 2 D) Q := by
  obtain ⟨k, hk, h01, hj, he, hb⟩ := hI
  exact D94a hW hk hc h01 hj he hb hQ hd
/-! sets of spells as bits -/
abbrev tbit (u i : Nat) : Prop := u / 2 ^ i % 2 = 1
def clb (u i : Nat) : Nat := if tbit u i then u - 2 ^ i else u
def pcl (u i : Nat) : Nat := fo (fun i y => if tbit u i then y + 1 else y) 0 i
theorem pcl_s {u i : Nat} : pcl u (i + 1) = if tbit u i then pcl u i + 1 else pcl u i := fo_s
def fc (n : Nat) : Nat := fo (fun i y => (i + 1) * y) 1 n
theorem fc_s {n : Nat} : fc (n + 1) = (n + 1) * fc n := fo_s
theorem tb_q : ∀ u, u < 64 → ∀ i, i < 6 → (bq (nI u) (nI i) ↔ tbit u i) := by decide +kernel
theorem cl_q : ∀ u, u < 64 → ∀ i, i < 6 → tbit u i → nI u &&& (nI 1 <<< (nI i &&& 31) ^^^ -nI 1) = nI (clb u i) ∧ clb u i < 64 ∧ pcl (clb u i) 6 + 1 = pcl u 6 := by decide +kernel
theorem pc0 : ∀ u, u < 64 → pcl u 6 = 0 → u = 0 := by decide +kernel
theorem pc1 : ∀ u, u < 64 → u ≠ 0 → 0 < pcl u 6 := by decide +kernel
theorem pcl_m {u : Nat} : ∀ {i j : Nat}, i ≤ j → pcl u i ≤ pcl u j
  | i, 0, h => by rw [show i = 0 by omega]; exact Nat.le_refl _
  | i, j + 1, h => by
    by_cases e : i = j + 1
    · rw [e]; exact Nat.le_refl _
    · have := pcl_m (u := u) (i := i) (j := j) (by omega)
      rw [pcl_s]
      split <;> omega
/-- what spells leave, in some order -/
def rc (so am : Nat → Int32) : Nat → Nat → Int32 → Int32 → Prop
  | 0, _, l, v => v = l
  | r + 1, u, l, v => (u = 0 ∧ v = l) ∨ (u ≠ 0 ∧ ∃ p, p < 6 ∧ tbit u p ∧ rc so am r (clb u p) (caF so am p l) v)
def FolP (m : Mm) (a r : Nat) : Prop := ∀ (d u c : Nat) (l : Int32) (D : Nat → Nat → Int32) (S : Int32 → Prop) (Q : Option Value → Mm → Prop), r + 2 ≤ d → u < 64 → pcl u 6 ≤ r → r ≤ 6 → NI c D S → c + fc (pcl u 6) ≤ 720 → (∀ D1, NI (c + fc (pcl u 6)) D1 (fun v => S v ∨ rc (mI m (a + 12)) (mI m (a + 13)) r u l v) → D1 0 4 = D 0 4 → Q none (bput m 139 2 D1)) → Cc d 0 0 93 [.ref 139, .ref a, .int l, .int (nI u), .int (nI (6 - r))] (bput m 139 2 D) Q
theorem NI_c {c c' : Nat} {D : Nat → Nat → Int32} {S S' : Int32 → Prop} (h : NI c D S) (hc : c ≤ c') (hS : ∀ v, S v ↔ S' v) : NI c' D S' := by
  obtain ⟨k, hk, h1, hj, he, hb⟩ := h
  refine ⟨k, by omega, h1, hj, fun v => (hS v).symm.trans (he v), fun h0 => ⟨fun v hv => (hb h0).1 v ((hS v).mpr hv), (hS _).mp (hb h0).2.1, (hS _).mp (hb h0).2.2⟩⟩
theorem lq93 {sc : Nat × (Nat → Int32)} {d : Nat} {m : Mm} {Q : Option Value → Mm → Prop} {a r u c : Nat} {l : Int32} {S : Int32 → Prop} {kn : Int32} (hW : Wd m.2.2) (hL : LW m.2.2 a) (ha : a + 19 ≤ 136) (hd : r + 3 ≤ d) (hu : u < 64) (hu0 : u ≠ 0) (hpr : pcl u 6 ≤ r + 1) (hr : r + 1 ≤ 6) (hc : c + fc (pcl u 6) ≤ 720) (hIH : FolP m a r) (hQ : ∀ D1, NI (c + fc (pcl u 6)) D1 (fun v => S v ∨ rc (mI m (a + 12)) (mI m (a + 13)) (r + 1) u l v) → D1 0 4 = kn → Q none (bput m 139 2 D1))  : ∀ (j i : Nat) (D : Nat → Nat → Int32), i ≤ 6 → 6 + 1 ≤ i + j → (NI (c + pcl u i * fc (pcl u 6 - 1)) D (fun v => S v ∨ ∃ p, p < i ∧ tbit u p ∧ rc (mI m (a + 12)) (mI m (a + 13)) r (clb u p) (caF (mI m (a + 12)) (mI m (a + 13)) p l) v) ∧ D 0 4 = kn) → Jj sc d 0 0 (mth 93) (pg P93 11).1 [some (.ref 139), some (.ref a), some (.int l), some (.int (nI u)), some (.int (nI ((6 - (r + 1))))), some (.int (nI i))] [] (bput m 139 2 D) 0 0 Q := by
  intro j
  induction j with
  | zero => intro i D h1 h2 hall; omega
  | succ j ih =>
    intro i D h1 h2 hall
    refine J_w z93 (i := 11) (by decide) 102 ?_
    refine And.intro (fun cz13 => ?_) (fun cz13 => ?_)
    · -- 13 taken: nI 6 ≤ nI i
      have kz13 : 6 ≤ i := kle (a := 6) (b := i) rfl rfl (by omega) (by omega) cz13
      refine And.intro ⟨rfl, rfl, Nat.le_refl _, Nat.le_refl _⟩ ?_
      rw [show i = 6 by omega] at hall
      have h0 := pc1 u hu hu0
      have ez9 : pcl u 6 * fc (pcl u 6 - 1) = fc (pcl u 6) := by rw [show pcl u 6 = (pcl u 6 - 1) + 1 by omega, fc_s]; simp
      rw [ez9] at hall
      exact hQ D (NI_c hall.1 (Nat.le_refl _) (fun v => or_congr_right ⟨fun z => Or.inr ⟨hu0, z⟩, fun z => (z.resolve_left (fun y => hu0 y.1)).2⟩)) hall.2
    · -- 13 not: ¬ nI 6 ≤ nI i
      have kz13 : i < 6 := knle (a := 6) (b := i) rfl rfl (by omega) (by omega) cz13
      refine And.intro (fun cz20 => ?_) (fun cz20 => ?_)
      · -- 20 taken: ¬ (nI u >>> (nI i &&& 31)) &&& nI 1 = nI 1
        show Jj sc d 0 0 (mth 93) (pg P93 11).1 [some (.ref 139), some (.ref a), some (.int l), some (.int (nI u)), some (.int (nI ((6 - (r + 1))))), some (.int (nI i + nI 1))] [] (bput m 139 2 D) 0 0 Q
        rw [show nI i + nI 1 = nI (i + 1) from by simp only [nI_add, pk_mul]]
        have ht9 : ¬ tbit u i := fun z => cz20 ((tb_q u hu i (by omega)).mpr z)
        refine ih (i + 1) D (by omega) (by omega) ⟨?_, hall.2⟩
        rw [pcl_s, if_neg ht9]
        refine NI_c hall.1 (Nat.le_refl _) (fun v => or_congr_right ⟨fun ⟨p, h1, h2, h3⟩ => ⟨p, by omega, h2, h3⟩, fun ⟨p, h1, h2, h3⟩ => ⟨p, ?_, h2, h3⟩⟩)
        rcases Nat.lt_or_ge p i with q | q
        · exact q
        · exact absurd ((show p = i by omega) ▸ h2) ht9
      · -- 20 not: (nI u >>> (nI i &&& 31)) &&& nI 1 = nI 1
        refine And.intro ⟨by omega, Nat.le_of_ble_eq_true rfl, Nat.le_refl _, Nat.le_refl _⟩ ?_
        refine C96 (m := (bput m 139 2 D)) (p := i) hL (by omega) (by omega) ?_
        rw [bput_lo (m := m) (x := 139) (n := 2) (D := D) (b := (a + 12)) (by omega)]
        rw [bput_lo (m := m) (x := 139) (n := 2) (D := D) (b := (a + 13)) (by omega)]
        refine And.intro ⟨by omega, Nat.le_of_ble_eq_true rfl, Nat.le_refl _, Nat.le_refl _⟩ ?_
        have hcq := cl_q u hu i (by omega) ((tb_q u hu i (by omega)).mp cz20)
        rw [hcq.1, show nI (6 - (r + 1)) + nI 1 = nI (6 - r) by rw [nI_add, show 6 - (r + 1) + 1 = 6 - r by omega]]
        have hm9 := pcl_m (u := u) (i := i + 1) (j := 6) (by omega)
        have ht9 := (tb_q u hu i (by omega)).mp cz20
        rw [pcl_s, if_pos ht9] at hm9
        have ez9 : pcl (clb u i) 6 = pcl u 6 - 1 := by omega
        have h9 : pcl u i * fc (pcl u 6 - 1) + fc (pcl u 6 - 1) ≤ fc (pcl u 6) := by
          have h0 := pc1 u hu hu0
          rw [show fc (pcl u 6) = pcl u 6 * fc (pcl u 6 - 1) by rw [show pcl u 6 = (pcl u 6 - 1) + 1 by omega, fc_s]; simp, ← Nat.succ_mul]
          exact Nat.mul_le_mul_right _ hm9
        refine hIH (d - 1) (clb u i) (c + pcl u i * fc (pcl u 6 - 1)) _ D _ _ (by omega) hcq.2.1 (by omega) (by omega) hall.1 (by rw [ez9]; omega) (fun D1 hN h4 => ?_)
        show Jj sc d 0 0 (mth 93) (pg P93 11).1 [some (.ref 139), some (.ref a), some (.int l), some (.int (nI u)), some (.int (nI ((6 - (r + 1))))), some (.int (nI i + nI 1))] [] (bput m 139 2 D1) 0 0 Q
        rw [show nI i + nI 1 = nI (i + 1) from by simp only [nI_add, pk_mul]]
        refine ih (i + 1) D1 (by omega) (by omega) ⟨?_, h4.trans hall.2⟩
        rw [pcl_s, if_pos ht9]
        refine NI_c hN (by rw [ez9, Nat.succ_mul]; omega) (fun v => ?_)
        constructor
        · rintro ((h | ⟨p, h1, h2, h3⟩) | h)
          · exact Or.inl h
          · exact Or.inr ⟨p, by omega, h2, h3⟩
          · exact Or.inr ⟨i, by omega, ht9, h⟩
        · rintro (h | ⟨p, h1, h2, h3⟩)
          · exact Or.inl (Or.inl h)
          · rcases Nat.lt_or_ge p i with q | q
            · exact Or.inl (Or.inr ⟨p, q, h2, h3⟩)
            · rw [show p = i by omega] at h3; exact Or.inr h3
theorem fc_1 : ∀ n, 1 ≤ fc n
  | 0 => Nat.le_refl _
  | n + 1 => by
    rw [fc_s]
    exact Nat.le_trans (fc_1 n) (Nat.le_mul_of_pos_left _ (by omega))
theorem fol {m : Mm} {a : Nat} (hW : Wd m.2.2) (hL : LW m.2.2 a) (ha : a + 19 ≤ 136) : ∀ r, FolP m a r
  | 0 => by
    intro d u c l D S Q hd hu hpr hr hI hc hQ
    have hf : fc (pcl u 6) = 1 := by rw [show pcl u 6 = 0 by omega]; rfl
    rw [hf] at hQ hc
    refine ent (n := 102) z93 (by decide) rfl (by decide) (Nat.le_of_ble_eq_true rfl) (fun sc => ?_)
    refine And.intro (fun cz1 => ?_) (fun cz1 => ?_)
    · -- 1 taken: nI u = 0
      have kz1 : u = 0 := keq (a := u) (b := 0) rfl rfl (by omega) (by omega) cz1
      have hu0 : u = 0 := kz1
      refine And.intro ⟨by omega, Nat.le_of_ble_eq_true rfl, Nat.le_refl _, Nat.le_refl _⟩ (And.intro (Wdo_139 hW) ?_)
      refine D94 (c := c) hW (by omega) (by omega) hI (fun D1 hN h4 => ?_)
      refine And.intro ⟨rfl, rfl, Nat.le_refl _, Nat.le_refl _⟩ ?_
      exact hQ D1 (NI_c hN (by omega) (fun v => or_congr_right ⟨fun z => z, fun z => z⟩)) h4
    · -- 1 not: ¬ nI u = 0
      have kz1 : u ≠ 0 := kne (a := u) (b := 0) rfl rfl (by omega) (by omega) cz1
      refine And.intro (fun cz4 => False.elim (absurd cz4 (by decide))) (fun cz4 => ?_)
      refine And.intro ⟨by omega, Nat.le_of_ble_eq_true rfl, Nat.le_refl _, Nat.le_refl _⟩ (And.intro (Wdo_139 hW) ?_)
      refine D94 (c := c) hW (by omega) (by omega) hI (fun D1 hN h4 => ?_)
      refine And.intro ⟨rfl, rfl, Nat.le_refl _, Nat.le_refl _⟩ ?_
      exact hQ D1 (NI_c hN (by omega) (fun v => or_congr_right ⟨fun z => z, fun z => z⟩)) h4
  | r + 1 => by
    have hIH := fol hW hL ha r
    intro d u c l D S Q hd hu hpr hr hI hc hQ
    have hp9 : 1 ≤ fc (pcl u 6) := fc_1 _
    refine ent (n := 102) z93 (by decide) rfl (by decide) (Nat.le_of_ble_eq_true rfl) (fun sc => ?_)
    refine And.intro (fun cz1 => ?_) (fun cz1 => ?_)
    · -- 1 taken: nI u = 0
      have kz1 : u = 0 := keq (a := u) (b := 0) rfl rfl (by omega) (by omega) cz1
      have hu0 : u = 0 := kz1
      refine And.intro ⟨by omega, Nat.le_of_ble_eq_true rfl, Nat.le_refl _, Nat.le_refl _⟩ (And.intro (Wdo_139 hW) ?_)
      refine D94 (c := c) hW (by omega) (by omega) hI (fun D1 hN h4 => ?_)
      refine And.intro ⟨rfl, rfl, Nat.le_refl _, Nat.le_refl _⟩ ?_
      exact hQ D1 (NI_c hN (by omega) (fun v => or_congr_right ⟨fun z => Or.inl ⟨hu0, z⟩, fun z => (z.resolve_right (fun y => y.1 hu0)).2⟩)) h4
    · -- 1 not: ¬ nI u = 0
      have kz1 : u ≠ 0 := kne (a := u) (b := 0) rfl rfl (by omega) (by omega) cz1
      refine And.intro (fun cz4 => ?_) (fun cz4 => False.elim (cz4 (nI_lt (by omega) (by decide))))
      show Jj sc d 0 0 (mth 93) (pg P93 11).1 [some (.ref 139), some (.ref a), some (.int l), some (.int (nI u)), some (.int (nI ((6 - (r + 1))))), some (.int (nI 0))] [] (bput m 139 2 D) 0 0 Q
      exact lq93 (kn := D 0 4) hW hL ha hd hu kz1 hpr hr hc hIH hQ 7 0 D (by decide) (by decide) ⟨NI_c hI (by show c ≤ c + 0 * _; omega) (fun v => ⟨fun z => Or.inl z, fun z => z.resolve_right (fun ⟨p, h, _⟩ => absurd h (by omega))⟩), rfl⟩
theorem un_q : ∀ n, n ≤ 6 → nI 1 <<< (nI n &&& 31) - nI 1 = nI (2 ^ n - 1) ∧ 2 ^ n - 1 < 64 ∧ pcl (2 ^ n - 1) 6 = n ∧ fc n ≤ 720 := by
  intro n hn
  match n, hn with
  | 0, _ => decide +kernel
  | 1, _ => decide +kernel
  | 2, _ => decide +kernel
  | 3, _ => decide +kernel
  | 4, _ => decide +kernel
  | 5, _ => decide +kernel
  | 6, _ => decide +kernel
  | n + 7, h => exact absurd h (by omega)
theorem NI_0 {D : Nat → Nat → Int32} : NI 0 (ud D 0 1 (nI 0)) (fun _ => False) := ⟨0, Nat.le_refl _, rfl, fun i j h => absurd h (by omega), fun v => ⟨fun z => z.elim, fun ⟨i, h, _⟩ => absurd h (by omega)⟩, fun h => absurd h (by omega)⟩
theorem D92 {d : Nat} {m : Mm} {Q : Option Value → Mm → Prop} {a ns : Nat} {D : Nat → Nat → Int32} (hW : Wd m.2.2) (hL : LW m.2.2 a) (ha : a + 19 ≤ 136) (hd : 9 ≤ d) (hns : mI m (a + 1) 11 = nI ns) (hns6 : ns ≤ 6) (hK : ¬ D 0 4 = 0 → Q none (bput m 139 2 D)) (hQ : ∀ D1, NI 720 D1 (rc (mI m (a + 12)) (mI m (a + 13)) 6 (2 ^ ns - 1) (mI m a 3)) → D1 0 4 = nI 1 → Q none (bput m 139 2 D1)) : Cc d 0 0 92 [.ref 139, .ref a] (bput m 139 2 D) Q := by
  refine ent (n := 70) z92 (by decide) rfl (by decide) (Nat.le_of_ble_eq_true rfl) (fun sc => ?_)
  refine And.intro (Wdo_139 hW) ?_
  rw [bput_0 (x := 139) (by decide)]
  refine And.intro (fun cz2 => ?_) (fun cz2 => ?_)
  · -- 2 taken: D 0 4 = 0
    refine And.intro (Wdo_139 hW) ?_
    rw [bput_u0 (x := 139) (by decide)]
    refine And.intro (LWo_0 hL) ?_
    rw [bput_lo (m := m) (x := 139) (n := 2) (D := (ud D 0 1 (nI 0))) (b := a) (by omega)]
    refine And.intro (LWo_0 hL) (Exists.intro _ (And.intro (LWr_0_4 hL) ?_))
    refine And.intro (LWi_1 hL (vi rfl (by omega))) ?_
    rw [nI_clamp (show 11 < 2 ^ 31 by omega)]
    rw [bput_lo (m := m) (x := 139) (n := 2) (D := (ud D 0 1 (nI 0))) (b := (a + 1)) (by omega)]
    rw [hns]
    refine And.intro ⟨by omega, Nat.le_of_ble_eq_true rfl, Nat.le_refl _, Nat.le_refl _⟩ ?_
    have hu := un_q ns hns6
    rw [hu.1]
    refine fol hW hL ha 6 (d - 1) (2 ^ ns - 1) 0 _ _ _ _ (by omega) hu.2.1 (by rw [hu.2.2.1]; exact hns6) (Nat.le_refl _) NI_0 (by rw [hu.2.2.1]; have := hu.2.2.2; omega) (fun D1 hN h4 => ?_)
    refine And.intro (Wdo_139 hW) (And.intro (Or.inr rfl) ?_)
    rw [bput_u0 (x := 139) (by decide)]
    refine And.intro ⟨rfl, rfl, Nat.le_refl _, Nat.le_refl _⟩ ?_
    have z9 : NI 720 D1 (rc (mI m (a + 12)) (mI m (a + 13)) 6 (2 ^ ns - 1) (mI m a 3)) := NI_c hN (by rw [hu.2.2.1]; have := hu.2.2.2; omega) (fun v => ⟨fun z => z.resolve_left id, fun z => Or.inr z⟩)
    exact hQ _ z9 rfl
  · -- 2 not: ¬ D 0 4 = 0
    refine And.intro ⟨rfl, rfl, Nat.le_refl _, Nat.le_refl _⟩ ?_
    exact hK cz2
