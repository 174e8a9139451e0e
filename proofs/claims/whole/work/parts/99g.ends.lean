/-- the ends found: k unlike ones in row 14 -/
def EI (c : Nat) (D : Nat → Nat → Int32) (S : Int32 → Prop) : Prop := ∃ k, k ≤ c ∧ D 0 32 = nI k ∧ (∀ i j, i < k → j < k → D 14 i = D 14 j → i = j) ∧ ∀ v, S v ↔ ∃ i, i < k ∧ D 14 i = v
def DF (D1 D : Nat → Nat → Int32) : Prop := (∀ f, f ≠ 0 → f ≠ 14 → D1 f = D f) ∧ ∀ x, x ≠ 32 → D1 0 x = D 0 x
theorem DF_r {D : Nat → Nat → Int32} : DF D D := ⟨fun _ _ _ => rfl, fun _ _ => rfl⟩
theorem DF_t {D1 D2 D : Nat → Nat → Int32} (h : DF D2 D1) (h2 : DF D1 D) : DF D2 D := ⟨fun f a b => (h.1 f a b).trans (h2.1 f a b), fun x a => (h.2 x a).trans (h2.2 x a)⟩
theorem EI_c {c cz2 : Nat} {D : Nat → Nat → Int32} {S S2 : Int32 → Prop} (h : EI c D S) (hc : c ≤ cz2) (hs : ∀ v, S v ↔ S2 v) : EI cz2 D S2 := by
  obtain ⟨k, h1, h2, h3, h4⟩ := h
  exact ⟨k, by omega, h2, h3, fun v => (hs v).symm.trans (h4 v)⟩
theorem EI_old {c i : Nat} {D : Nat → Nat → Int32} {S : Int32 → Prop} {v : Int32} {k : Nat} (h1 : k ≤ c) (h2 : D 0 32 = nI k) (h3 : ∀ i j, i < k → j < k → D 14 i = D 14 j → i = j) (h4 : ∀ v, S v ↔ ∃ i, i < k ∧ D 14 i = v) (hi : i < k) (hv : D 14 i = v) : EI (c + 1) D (fun w => S w ∨ w = v) := by
  refine ⟨k, by omega, h2, h3, fun w => ⟨fun z => ?_, fun z => Or.inl ((h4 w).mpr z)⟩⟩
  rcases z with z | z
  · exact (h4 w).mp z
  · exact ⟨i, hi, hv.trans z.symm⟩
theorem EI_new {c : Nat} {D : Nat → Nat → Int32} {S : Int32 → Prop} {v : Int32} {k : Nat} (h1 : k ≤ c) (h3 : ∀ i j, i < k → j < k → D 14 i = D 14 j → i = j) (h4 : ∀ v, S v ↔ ∃ i, i < k ∧ D 14 i = v) (hn : ∀ i, i < k → ¬ D 14 i = v) : EI (c + 1) (ud (ud D 14 k v) 0 32 (nI k + nI 1)) (fun w => S w ∨ w = v) ∧ DF (ud (ud D 14 k v) 0 32 (nI k + nI 1)) D := by
  have r14 : ud (ud D 14 k v) 0 32 (nI k + nI 1) 14 = upd (D 14) k v := by rw [ud_ne (by decide), ud_eq]
  have r0 : ud (ud D 14 k v) 0 32 (nI k + nI 1) 0 = upd (D 0) 32 (nI k + nI 1) := by rw [ud_eq, ud_ne (by decide)]
  refine ⟨⟨k + 1, by omega, by rw [r0, upd_e, nI_add], ?_, ?_⟩, fun f a b => by rw [ud_ne a, ud_ne b], fun x a => by rw [r0, upd_o a]⟩
  · rw [r14]
    intro i j hi hj he
    by_cases ez1 : i = k
    · by_cases ez2 : j = k
      · rw [ez1, ez2]
      · rw [ez1, upd_e, upd_o ez2] at he
        exact absurd he.symm (hn j (by omega))
    · by_cases ez2 : j = k
      · rw [ez2, upd_e, upd_o ez1] at he
        exact absurd he (hn i (by omega))
      · rw [upd_o ez1, upd_o ez2] at he
        exact h3 i j (by omega) (by omega) he
  · rw [r14]
    refine fun w => ⟨fun z => ?_, fun ⟨i, hi, he⟩ => ?_⟩
    · rcases z with z | z
      · obtain ⟨i, hi, he⟩ := (h4 w).mp z
        exact ⟨i, by omega, by rw [upd_o (by omega)]; exact he⟩
      · exact ⟨k, by omega, by rw [upd_e, z]⟩
    · by_cases ez1 : i = k
      · rw [ez1, upd_e] at he
        exact Or.inr he.symm
      · rw [upd_o ez1] at he
        exact Or.inl ((h4 w).mpr ⟨i, by omega, he⟩)
theorem EI_0 {D : Nat → Nat → Int32} : EI 0 (ud D 0 32 (nI 0)) (fun _ => False) ∧ DF (ud D 0 32 (nI 0)) D := ⟨⟨0, Nat.le_refl _, by rw [ud_eq, upd_e], fun i j h => absurd h (by omega), fun v => ⟨fun z => z.elim, fun ⟨i, h, _⟩ => absurd h (by omega)⟩⟩, fun f a b => by rw [ud_ne a], fun x a => by rw [ud_eq, upd_o a]⟩
/-- the unused (u) and the used (w) -/
def UW (ns u w : Nat) : Prop := u < 64 ∧ w < 64 ∧ ∀ p, p < 6 → (tbit u p ↔ p < ns ∧ ¬ tbit w p)
theorem tb_c0 : ∀ u, u < 64 → ∀ i, i < 6 → ∀ p, p < 6 → (¬ tbit u i ∨ (tbit (clb u i) p ↔ tbit u p ∧ ¬ p = i)) := by decide +kernel
theorem tb_c (u : Nat) (hu : u < 64) (i : Nat) (hi : i < 6) (p : Nat) (hp : p < 6) (h : tbit u i) : tbit (clb u i) p ↔ tbit u p ∧ p ≠ i := (tb_c0 u hu i hi p hp).resolve_left (fun z => z h)
theorem tb_o : ∀ w, w < 64 → ∀ i, i < 6 → ∀ p, p < 6 → (tbit (nv (nI w ||| nI 1 <<< (nI i &&& 31))) p ↔ tbit w p ∨ p = i) := by decide +kernel
theorem pcl_x : ∀ u, u < 64 → ∀ j, j < 7 → (∀ p, p < 6 → j ≤ p → ¬ tbit u p) → ¬ pcl u j < pcl u 6 := by decide +kernel
theorem UW_s {ns u w j : Nat} (h : UW ns u w) (hj : j < 6) (ht : tbit u j) : UW ns (clb u j) (nv (nI w ||| nI 1 <<< (nI j &&& 31))) := by
  refine ⟨(clb_p u h.1 j hj ht).1, (or_64 w h.2.1 j hj).1, fun p hp => ?_⟩
  rw [tb_c u h.1 j hj p hp ht, tb_o w h.2.1 j hj p hp, h.2.2 p hp]
  constructor
  · rintro ⟨⟨a, b⟩, g⟩
    exact ⟨a, fun z => z.elim b g⟩
  · rintro ⟨a, b⟩
    exact ⟨⟨a, fun z => b (Or.inl z)⟩, fun z => b (Or.inr z)⟩
theorem tb_u : ∀ n, n ≤ 6 → ∀ p, p < 6 → (tbit (2 ^ n - 1) p ↔ p < n ∧ ¬ tbit 0 p) := by
  have h : ∀ n, n < 7 → ∀ p, p < 6 → (tbit (2 ^ n - 1) p ↔ p < n ∧ ¬ tbit 0 p) := by decide +kernel
  exact fun n hn => h n (by omega)
theorem UW_j {ns u w j : Nat} (h : UW ns u w) (hj : j ≤ 6) (hp : pcl u j < pcl u 6) : j < ns ∧ j < 6 := by
  by_cases z : j < ns ∧ j < 6
  · exact z
  · refine absurd hp (pcl_x u h.1 j (by omega) (fun p h1 h2 ht => ?_))
    have := (h.2.2 p h1).mp ht
    omega
theorem lfe {sc : Nat × (Nat → Int32)} {d : Nat} {m : Mm} {Q : Option Value → Mm → Prop} {c k : Nat} {D : Nat → Nat → Int32} {S : Int32 → Prop} {v : Int32} (hW : Wd m.2.2) (hc : c < 720) (h1k : k ≤ c) (h2k : D 0 32 = nI k) (h3k : ∀ i j, i < k → j < k → D 14 i = D 14 j → i = j) (h4k : ∀ v, S v ↔ ∃ i, i < k ∧ D 14 i = v) (hQ : ∀ D1, EI (c + 1) D1 (fun w => S w ∨ w = v) → DF D1 D → Q none (bput m 142 15 D1))  : ∀ (j i : Nat), i ≤ k → k + 1 ≤ i + j → (∀ i1, i1 < i → ¬ D 14 i1 = v) → Jj sc d 0 0 (mth 314) (pg P314 2).1 [some (.ref 142), some (.int v), some (.int (nI i))] [] (bput m 142 15 D) 0 0 Q := by
  intro j
  induction j with
  | zero => intro i h1 h2 hall; omega
  | succ j ih =>
    intro i h1 h2 hall
    refine J_w z314 (i := 2) (by decide) 84 ?_
    refine And.intro (Wdo_142 hW) ?_
    rw [bput_0 (x := 142) (by decide)]
    rw [h2k]
    refine And.intro (fun cz5 => ?_) (fun cz5 => ?_)
    · -- 5 taken: nI k ≤ nI i
      have kz5 : k ≤ i := kle (a := k) (b := i) rfl rfl (by omega) (by omega) cz5
      refine And.intro (Wdo_142 hW) ?_
      rw [bput_0 (x := 142) (by decide)]
      rw [h2k]
      refine And.intro (fun cz17 => ?_) (fun cz17 => ?_)
      · -- 17 taken: nI k ≤ nI i
        have kz17 : k ≤ i := kle (a := k) (b := i) rfl rfl (by omega) (by omega) cz17
        refine And.intro (Wdo_142 hW) (Exists.intro _ (And.intro (Wdr_142_31 hW) ?_))
        refine And.intro (Wdo_142 hW) ?_
        rw [bput_0 (x := 142) (by decide)]
        rw [h2k]
        refine And.intro (Wdi_156 hW (vi rfl (by omega))) ?_
        rw [nI_clamp (show k < 2 ^ 31 by omega)]
        rw [bput_u (x := 142) (f := 14) (by decide)]
        refine And.intro rfl ?_
        refine And.intro (Wdo_142 hW) ?_
        rw [bput_0 (x := 142) (by decide)]
        rw [ud_ne (D := D) (f := 14) (g := 0) (by decide)]
        rw [h2k]
        refine And.intro (Wdo_142 hW) ?_
        rw [bput_u0 (x := 142) (by decide)]
        refine And.intro ⟨rfl, rfl, Nat.le_refl _, Nat.le_refl _⟩ ?_
        have w9 := EI_new (v := v) h1k h3k h4k (fun i1 h9 => hall i1 (by omega))
        exact hQ _ w9.1 w9.2
      · -- 17 not: ¬ nI k ≤ nI i
        have kz17 : i < k := knle (a := k) (b := i) rfl rfl (by omega) (by omega) cz17
        exact absurd kz17 (by omega)
    · -- 5 not: ¬ nI k ≤ nI i
      have kz5 : i < k := knle (a := k) (b := i) rfl rfl (by omega) (by omega) cz5
      refine And.intro (Wdo_142 hW) (Exists.intro _ (And.intro (Wdr_142_31 hW) ?_))
      refine And.intro (Wdi_156 hW (vi rfl (by omega))) ?_
      rw [nI_clamp (show i < 2 ^ 31 by omega)]
      rw [bput_r (x := 142) (f := 14) (by decide)]
      refine And.intro (fun cz11 => ?_) (fun cz11 => ?_)
      · -- 11 taken: D 14 i = v
        refine And.intro (Wdo_142 hW) ?_
        rw [bput_0 (x := 142) (by decide)]
        rw [h2k]
        refine And.intro (fun cz17 => ?_) (fun cz17 => ?_)
        · -- 17 taken: nI k ≤ nI i
          have kz17 : k ≤ i := kle (a := k) (b := i) rfl rfl (by omega) (by omega) cz17
          exact absurd kz17 (by omega)
        · -- 17 not: ¬ nI k ≤ nI i
          have kz17 : i < k := knle (a := k) (b := i) rfl rfl (by omega) (by omega) cz17
          refine And.intro ⟨rfl, rfl, Nat.le_refl _, Nat.le_refl _⟩ ?_
          exact hQ _ (EI_old h1k h2k h3k h4k kz17 cz11) DF_r
      · -- 11 not: ¬ D 14 i = v
        show Jj sc d 0 0 (mth 314) (pg P314 2).1 [some (.ref 142), some (.int v), some (.int (nI i + nI 1))] [] (bput m 142 15 D) 0 0 Q
        rw [show nI i + nI 1 = nI (i + 1) from by simp only [nI_add, pk_mul]]
        refine ih (i + 1) (by omega) (by omega) (fun v9 h9 => ?_)
        rcases Nat.lt_or_ge v9 i with q9 | q9
        · exact hall v9 q9
        · rw [show v9 = i by omega]; exact cz11
theorem D314 {d : Nat} {m : Mm} {Q : Option Value → Mm → Prop} {c k : Nat} {D : Nat → Nat → Int32} {S : Int32 → Prop} {v : Int32} (hW : Wd m.2.2) (hc : c < 720) (h1k : k ≤ c) (h2k : D 0 32 = nI k) (h3k : ∀ i j, i < k → j < k → D 14 i = D 14 j → i = j) (h4k : ∀ v, S v ↔ ∃ i, i < k ∧ D 14 i = v) (hQ : ∀ D1, EI (c + 1) D1 (fun w => S w ∨ w = v) → DF D1 D → Q none (bput m 142 15 D1))  : Cc d 0 0 314 [.ref 142, .int v] (bput m 142 15 D) Q := by
  refine ent (n := 84) z314 (by decide) rfl (by decide) (Nat.le_of_ble_eq_true rfl) (fun sc => ?_)
  show Jj sc d 0 0 (mth 314) (pg P314 2).1 [some (.ref 142), some (.int v), some (.int (nI 0))] [] (bput m 142 15 D) 0 0 Q
  exact lfe hW hc h1k h2k h3k h4k hQ (k + 1) 0 (Nat.zero_le _) (by omega) (fun _ h => absurd h (by omega))
