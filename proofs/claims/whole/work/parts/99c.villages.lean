def cnQ (row : Nat → Int32) (g v : Nat) : Int32 := fo (fun v y => if row v = nI g then y + nI 1 else y + nI 0) (nI 0) v
theorem cnQ_s {row : Nat → Int32} {g v : Nat} : cnQ row g (v + 1) = (if row v = nI g then cnQ row g v + nI 1 else cnQ row g v + nI 0) := fo_s
theorem shc_n {row : Nat → Int32} {k g : Nat} (hk : row k = nI g) : ∀ v, ∃ c, c ≤ v ∧ shQ row k g v = nI (1 + c) ∧ cnQ row g v = nI (if k < v then 1 + c else c)
  | 0 => ⟨0, Nat.le_refl _, rfl, rfl⟩
  | v + 1 => by
    obtain ⟨c, h1, h2, h3⟩ := shc_n hk v
    rw [shQ_s, cnQ_s, h2, h3]
    unfold shS
    by_cases e : v = k
    · rw [if_pos e, e, if_pos hk, if_neg (Nat.lt_irrefl k), nI_add]
      exact ⟨c, by omega, rfl, by rw [if_pos (show k < k + 1 by omega), Nat.add_comm c 1]⟩
    · rw [if_neg e]
      have ez2 : (k < v + 1) = (k < v) := propext (by omega)
      by_cases ez1 : row v = nI g
      · rw [if_pos ez1, if_pos ez1, nI_add, nI_add]
        refine ⟨c + 1, by omega, rfl, ?_⟩
        simp only [ez2]
        split <;> rfl
      · rw [if_neg ez1, if_neg ez1, add_z]
        refine ⟨c, by omega, rfl, ?_⟩
        simp only [ez2]
theorem co_cn {row wo : Nat → Int32} {nvl k g : Nat} (hk : k < nvl) (hv : nvl ≤ 4) (hr : row k = nI g) : coF row wo nvl k g = wo (k * 6 + g) / cnQ row g nvl ∧ cnQ row g nvl ≠ 0 ∧ ∃ c, 1 ≤ c ∧ c ≤ 5 ∧ cnQ row g nvl = nI c := by
  obtain ⟨c, h1, h2, h3⟩ := shc_n hr nvl
  rw [if_pos hk] at h3
  unfold coF
  rw [h2, h3]
  refine ⟨?_, nI_ne0 (by omega) (by omega), 1 + c, by omega, by omega, rfl⟩
  rcases Nat.eq_zero_or_pos c with z | z
  · rw [z, if_pos (by decide)]
    exact Int32.div_one.symm
  · rw [if_neg (Int32.not_le.mpr (nI_lt (show 1 < 1 + c by omega) (by omega)))]
theorem ws_r {off : Nat → Int32} {g s : Nat} : ∀ t, t ≤ 6 → ∃ w, w ≤ 32 * t ∧ wsQ off g s t = nI w
  | 0, _ => ⟨0, by omega, rfl⟩
  | t + 1, ht => by
    obtain ⟨w, h1, h2⟩ := ws_r (off := off) (g := g) (s := s) t (by omega)
    have hb := bc_n (x := off ((g * 6 + t) * 5 + s))
    rw [wsQ_s, h2, hb.1, nI_add]
    exact ⟨_, by have := hb.2; omega, rfl⟩
theorem sh_r {row : Nat → Int32} {k g : Nat} : ∀ v, ∃ c, c ≤ v ∧ shQ row k g v = nI (1 + c)
  | 0 => ⟨0, Nat.le_refl _, rfl⟩
  | v + 1 => by
    obtain ⟨c, h1, h2⟩ := sh_r (row := row) (k := k) (g := g) v
    rw [shQ_s, h2]
    unfold shS
    split
    · exact ⟨c, by omega, rfl⟩
    · split
      · rw [nI_add]; exact ⟨c + 1, by omega, rfl⟩
      · exact ⟨c, by omega, rfl⟩
theorem co_r {row wo : Nat → Int32} {nvl k g w : Nat} (hw : wo (k * 6 + g) = nI w) (hw2 : w ≤ 200) (hv : nvl ≤ 4) : iR (coF row wo nvl k g) 201 := by
  obtain ⟨c, h1, h2⟩ := sh_r (row := row) (k := k) (g := g) nvl
  unfold coF
  rw [h2, hw]
  split
  · exact ⟨w, by omega, rfl⟩
  · rw [pk_div (by omega) (by omega) (by omega)]
    exact ⟨_, Nat.lt_of_le_of_lt (Nat.div_le_self _ _) (by omega), rfl⟩
theorem shQ_k {row row2 : Nat → Int32} {k g : Nat} (h : ∀ i, i ≠ k → row2 i = row i) : ∀ v, shQ row2 k g v = shQ row k g v
  | 0 => rfl
  | v + 1 => by
    rw [shQ_s, shQ_s, shQ_k h v]
    unfold shS
    by_cases e : v = k
    · rw [if_pos e, if_pos e]
    · rw [if_neg e, if_neg e, h v e]
theorem coF_k {row row2 wo : Nat → Int32} {nvl k g : Nat} (h : ∀ i, i ≠ k → row2 i = row i) : coF row2 wo nvl k g = coF row wo nvl k g := by
  unfold coF
  rw [shQ_k h]
theorem bf_k {row row2 wo : Nat → Int32} {nvl k n : Nat} (h : ∀ i, i ≠ k → row2 i = row i) : bfQ row2 wo nvl k n = bfQ row wo nvl k n := by
  unfold bfQ
  refine fo_c (fun g hg b => ?_)
  unfold bfS
  rw [coF_k h, coF_k h]
theorem bf_m {row wo : Nat → Int32} {nvl k : Nat} : ∀ n g, g < n → coF row wo nvl k g ≤ coF row wo nvl k (bfQ row wo nvl k n)
  | 0, g, h => absurd h (Nat.not_lt_zero _)
  | n + 1, g, h => by
    rw [bfQ_s]
    unfold bfS
    by_cases e : coF row wo nvl k n ≤ coF row wo nvl k (bfQ row wo nvl k n)
    · rw [if_pos e]
      by_cases ez1 : g = n
      · rw [ez1]; exact e
      · exact bf_m n g (by omega)
    · rw [if_neg e]
      by_cases ez1 : g = n
      · rw [ez1]; exact Int32.le_refl _
      · exact Int32.le_trans (bf_m n g (by omega)) (Int32.le_of_lt (Int32.not_le.mp e))
theorem ud_0 {D : Nat → Nat → Int32} {k : Nat} {x : Int32} : ud D 0 k x 0 = upd (D 0) k x := rfl
theorem lsn {sc : Nat × (Nat → Int32)} {d : Nat} {m : Mm} {Q : Option Value → Mm → Prop} (hW : Wd m.2.2) (hQ : ∀ D, (∀ v, v < 4 → D 0 v = mI m 145 (43 + v)) → Q none (bput m 155 1 D))  : ∀ (j v : Nat) (D : Nat → Nat → Int32), v ≤ 4 → 4 + 1 ≤ v + j → (∀ v1, v1 < v → D 0 v1 = mI m 145 (43 + v1)) → Jj sc d 0 0 (mth 302) (pg P302 2).1 [some (.ref 142), some (.int (nI v))] [] (bput m 155 1 D) 0 0 Q := by
  intro j
  induction j with
  | zero => intro v D h1 h2 hall; omega
  | succ j ih =>
    intro v D h1 h2 hall
    refine J_w z302 (i := 2) (by decide) 56 ?_
    refine And.intro (fun cz4 => ?_) (fun cz4 => ?_)
    · -- 4 taken: nI 4 ≤ nI v
      have kz4 : 4 ≤ v := kle (a := 4) (b := v) rfl rfl (by omega) (by omega) cz4
      refine And.intro ⟨rfl, rfl, Nat.le_refl _, Nat.le_refl _⟩ ?_
      rw [show v = 4 by omega] at hall
      exact hQ D hall
    · -- 4 not: ¬ nI 4 ≤ nI v
      have kz4 : v < 4 := knle (a := 4) (b := v) rfl rfl (by omega) (by omega) cz4
      refine And.intro (Wdo_142 hW) (Exists.intro _ (And.intro (Wdr_142_30 hW) ?_))
      refine And.intro (Wdo_142 hW) (Exists.intro _ (And.intro (Wdr_142_18 hW) ?_))
      have ez13 : nI 43 + nI v = nI (43 + v) := by simp only [nI_add, pk_mul]
      refine And.intro (Wdi_145 hW (vi ez13 (by omega))) ?_
      rw [vc ez13 (by omega)]
      rw [bput_lo (m := m) (x := 155) (n := 1) (D := D) (b := 145) (by omega)]
      refine And.intro (Wdi_155 hW (vi rfl (by omega))) ?_
      rw [nI_clamp (show v < 2 ^ 31 by omega)]
      rw [bput_u0 (x := 155) (by decide)]
      show Jj sc d 0 0 (mth 302) (pg P302 2).1 [some (.ref 142), some (.int (nI v + nI 1))] [] (bput m 155 1 (ud D 0 v (mI m 145 (43 + v)))) 0 0 Q
      rw [show nI v + nI 1 = nI (v + 1) from by simp only [nI_add, pk_mul]]
      refine ih (v + 1) _ (by omega) (by omega) (fun v1 h9 => ?_)
      rw [ud_0]
      by_cases ez9 : v1 = v
      · rw [ez9, upd_e]
      · rw [upd_o ez9]; exact hall v1 (by omega)
theorem D302 {d : Nat} {m : Mm} {Q : Option Value → Mm → Prop} (hW : Wd m.2.2) {D : Nat → Nat → Int32} (hQ : ∀ D, (∀ v, v < 4 → D 0 v = mI m 145 (43 + v)) → Q none (bput m 155 1 D))  : Cc d 0 0 302 [.ref 142] (bput m 155 1 D) Q := by
  refine ent (n := 56) z302 (by decide) rfl (by decide) (Nat.le_of_ble_eq_true rfl) (fun sc => ?_)
  show Jj sc d 0 0 (mth 302) (pg P302 2).1 [some (.ref 142), some (.int (nI 0))] [] (bput m 155 1 D) 0 0 Q
  exact lsn hW hQ 5 0 D (by decide) (by decide) (fun _ h => absurd h (by omega))
theorem lct_b {sc : Nat × (Nat → Int32)} {d : Nat} {m : Mm} {Q : Option Value → Mm → Prop} {q n nt nvl : Nat} {wo : Nat → Int32} (hd : 3 ≤ d) (hW : Wd m.2.2) (hN : NW m.2.2 q) (h158 : 158 ≤ q) (hq : va_rf (mR m 142 3) = .ref q) (hn : mI m q 6 = nI n) (hn6 : n ≤ 6) (hnt : mI m q 5 = nI nt) (hnt6 : nt ≤ 6) (hvl : mI m q 12 = nI nvl) (hv4 : nvl ≤ 4) (hho : ∀ v, v < nvl → iR (mI m (q + 18) v) 24) (hce : ∀ c, c < 24 → iR (mI m (q + 1) c) 5) (hwo : ∀ k, k < nvl → ∀ g, g < n → wo (k * 6 + g) = if bi (mI m (q + 2) g = nI 3 ∨ bq (mI m 145 0) (nI g)) = 0 then wsQ (mI m (q + 7)) g (nv (mI m (q + 1) (nv (mI m (q + 18) k)))) nt else nI 0) {k g : Nat} {D : Nat → Nat → Int32} (hkv : k < nvl) (hg : g < n) (hr : D 0 k = nI g) (hQ : Q (some (.int (coF (D 0) wo nvl k g))) (bput m 155 1 D)) {hh s5 : Nat} (ehh : mI m (q + 18) k = nI hh) (hh24 : hh < 24) (es5 : mI m (q + 1) hh = nI s5) (h55 : s5 < 5) (hns : ¬ (mI m (q + 2) g = nI 3 ∨ bq (mI m 145 0) (nI g)))  : ∀ (j v : Nat), v ≤ nvl → nvl + 1 ≤ v + j → Jj sc d 0 0 (mth 303) (pg P303 44).1 [some (.ref 142), some (.int (nI k)), some (.int (nI g)), some (.int (wsQ (mI m (q + 7)) g s5 nt)), some (.int (cnQ (D 0) g v)), some (.int (nI v))] [] (bput m 155 1 D) 0 0 Q := by
  intro j
  induction j with
  | zero => intro v h1 h2; omega
  | succ j ih =>
    intro v h1 h2
    refine J_w z303 (i := 44) (by decide) 154 ?_
    refine And.intro (Wdo_142 hW) (Exists.intro _ (And.intro hq ?_))
    refine And.intro (NWo_0 hN) ?_
    rw [bput_hi (m := m) (x := 155) (n := 1) (D := D) (b := q) (by omega)]
    rw [hvl]
    refine And.intro (fun cz48 => ?_) (fun cz48 => ?_)
    · -- 48 taken: nI nvl ≤ nI v
      have kz48 : nvl ≤ v := kle (a := nvl) (b := v) rfl rfl (by omega) (by omega) cz48
      refine And.intro (by rw [show v = nvl by omega]; exact (co_cn (wo := wo) hkv hv4 hr).2.1) ?_
      refine And.intro ⟨rfl, trivial, Nat.le_refl _, Nat.le_refl _⟩ ?_
      have hwe : wo (k * 6 + g) = wsQ (mI m (q + 7)) g s5 nt := by rw [hwo k hkv g hg, if_pos (bi_eq0.mpr hns), ehh, nv_nI (by omega), es5, nv_nI (by omega)]
      rw [show v = nvl by omega, ← hwe, ← (co_cn (wo := wo) hkv hv4 hr).1]
      exact hQ
    · -- 48 not: ¬ nI nvl ≤ nI v
      have kz48 : v < nvl := knle (a := nvl) (b := v) rfl rfl (by omega) (by omega) cz48
      refine And.intro (Wdo_142 hW) (Exists.intro _ (And.intro (Wdr_142_30 hW) ?_))
      refine And.intro (Wdi_155 hW (vi rfl (by omega))) ?_
      rw [nI_clamp (show v < 2 ^ 31 by omega)]
      rw [bput_0 (x := 155) (by decide)]
      refine And.intro (fun cz55 => ?_) (fun cz55 => ?_)
      · -- 55 taken: ¬ D 0 v = nI g
        show Jj sc d 0 0 (mth 303) (pg P303 44).1 [some (.ref 142), some (.int (nI k)), some (.int (nI g)), some (.int (wsQ (mI m (q + 7)) g s5 nt)), some (.int ((cnQ (D 0) g v) + nI 0)), some (.int (nI v + nI 1))] [] (bput m 155 1 D) 0 0 Q
        rw [show nI v + nI 1 = nI (v + 1) from by simp only [nI_add, pk_mul]]
        have z9 := ih (v + 1) (by omega) (by omega)
        rw [cnQ_s, if_neg cz55] at z9
        exact z9
      · -- 55 not: D 0 v = nI g
        show Jj sc d 0 0 (mth 303) (pg P303 44).1 [some (.ref 142), some (.int (nI k)), some (.int (nI g)), some (.int (wsQ (mI m (q + 7)) g s5 nt)), some (.int ((cnQ (D 0) g v) + nI 1)), some (.int (nI v + nI 1))] [] (bput m 155 1 D) 0 0 Q
        rw [show nI v + nI 1 = nI (v + 1) from by simp only [nI_add, pk_mul]]
        have z9 := ih (v + 1) (by omega) (by omega)
        rw [cnQ_s, if_pos cz55] at z9
        exact z9
theorem lct_a {sc : Nat × (Nat → Int32)} {d : Nat} {m : Mm} {Q : Option Value → Mm → Prop} {q n nt nvl : Nat} {wo : Nat → Int32} (hd : 3 ≤ d) (hW : Wd m.2.2) (hN : NW m.2.2 q) (h158 : 158 ≤ q) (hq : va_rf (mR m 142 3) = .ref q) (hn : mI m q 6 = nI n) (hn6 : n ≤ 6) (hnt : mI m q 5 = nI nt) (hnt6 : nt ≤ 6) (hvl : mI m q 12 = nI nvl) (hv4 : nvl ≤ 4) (hho : ∀ v, v < nvl → iR (mI m (q + 18) v) 24) (hce : ∀ c, c < 24 → iR (mI m (q + 1) c) 5) (hwo : ∀ k, k < nvl → ∀ g, g < n → wo (k * 6 + g) = if bi (mI m (q + 2) g = nI 3 ∨ bq (mI m 145 0) (nI g)) = 0 then wsQ (mI m (q + 7)) g (nv (mI m (q + 1) (nv (mI m (q + 18) k)))) nt else nI 0) {k g : Nat} {D : Nat → Nat → Int32} (hkv : k < nvl) (hg : g < n) (hr : D 0 k = nI g) (hQ : Q (some (.int (coF (D 0) wo nvl k g))) (bput m 155 1 D)) {hh s5 : Nat} (ehh : mI m (q + 18) k = nI hh) (hh24 : hh < 24) (es5 : mI m (q + 1) hh = nI s5) (h55 : s5 < 5) (hns : ¬ (mI m (q + 2) g = nI 3 ∨ bq (mI m 145 0) (nI g)))  : ∀ (j t : Nat), t ≤ nt → nt + 1 ≤ t + j → Jj sc d 0 0 (mth 303) (pg P303 15).1 [some (.ref 142), some (.int (nI k)), some (.int (nI g)), some (.int (wsQ (mI m (q + 7)) g s5 t)), some (.int (nI t)), none] [] (bput m 155 1 D) 0 0 Q := by
  intro j
  induction j with
  | zero => intro t h1 h2; omega
  | succ j ih =>
    intro t h1 h2
    refine J_w z303 (i := 15) (by decide) 154 ?_
    refine And.intro (Wdo_142 hW) (Exists.intro _ (And.intro hq ?_))
    refine And.intro (NWo_0 hN) ?_
    rw [bput_hi (m := m) (x := 155) (n := 1) (D := D) (b := q) (by omega)]
    rw [hnt]
    refine And.intro (fun cz19 => ?_) (fun cz19 => ?_)
    · -- 19 taken: nI nt ≤ nI t
      have kz19 : nt ≤ t := kle (a := nt) (b := t) rfl rfl (by omega) (by omega) cz19
      show Jj sc d 0 0 (mth 303) (pg P303 44).1 [some (.ref 142), some (.int (nI k)), some (.int (nI g)), some (.int (wsQ (mI m (q + 7)) g s5 t)), some (.int (nI 0)), some (.int (nI 0))] [] (bput m 155 1 D) 0 0 Q
      rw [show t = nt by omega]
      exact lct_b (by omega) hW hN h158 hq hn hn6 hnt hnt6 hvl hv4 hho hce hwo hkv hg hr hQ ehh hh24 es5 h55 hns (nvl + 1) 0 (Nat.zero_le _) (by omega)
    · -- 19 not: ¬ nI nt ≤ nI t
      have kz19 : t < nt := knle (a := nt) (b := t) rfl rfl (by omega) (by omega) cz19
      refine And.intro (Wdo_142 hW) (Exists.intro _ (And.intro hq ?_))
      refine And.intro (Wdo_142 hW) (Exists.intro _ (And.intro hq ?_))
      refine And.intro (NWo_0 hN) (Exists.intro _ (And.intro (NWr_0_17 hN) ?_))
      refine And.intro (Wdo_142 hW) (Exists.intro _ (And.intro hq ?_))
      refine And.intro (NWo_0 hN) (Exists.intro _ (And.intro (NWr_0_34 hN) ?_))
      refine And.intro (NWi_18 hN (vi rfl (by omega))) ?_
      rw [nI_clamp (show k < 2 ^ 31 by omega)]
      rw [bput_hi (m := m) (x := 155) (n := 1) (D := D) (b := (q + 18)) (by omega)]
      rw [ehh]
      refine And.intro (NWi_1 hN (vi rfl (by omega))) ?_
      rw [nI_clamp (show hh < 2 ^ 31 by omega)]
      rw [bput_hi (m := m) (x := 155) (n := 1) (D := D) (b := (q + 1)) (by omega)]
      rw [es5]
      refine And.intro ⟨by omega, Nat.le_of_ble_eq_true rfl, Nat.le_refl _, Nat.le_refl _⟩ (And.intro (NWo_0 hN) ?_)
      refine C197 (m := (bput m 155 1 D)) (g := g) (t := t) (s := s5) hN (by omega) (by omega) (by omega) ?_
      rw [bput_hi (m := m) (x := 155) (n := 1) (D := D) (b := (q + 7)) (by omega)]
      refine And.intro ⟨by omega, Nat.le_of_ble_eq_true rfl, Nat.le_refl _, Nat.le_refl _⟩ ?_
      refine C206 (m := (bput m 155 1 D)) ?_
      show Jj sc d 0 0 (mth 303) (pg P303 15).1 [some (.ref 142), some (.int (nI k)), some (.int (nI g)), some (.int ((wsQ (mI m (q + 7)) g s5 t) + (bcF (mI m (q + 7) ((g * 6 + t) * 5 + s5))))), some (.int (nI t + nI 1)), none] [] (bput m 155 1 D) 0 0 Q
      rw [show nI t + nI 1 = nI (t + 1) from by simp only [nI_add, pk_mul]]
      have z9 := ih (t + 1) (by omega) (by omega)
      rw [wsQ_s] at z9
      exact z9
theorem D303 {d : Nat} {m : Mm} {Q : Option Value → Mm → Prop} {q n nt nvl : Nat} {wo : Nat → Int32} (hd : 3 ≤ d) (hW : Wd m.2.2) (hN : NW m.2.2 q) (h158 : 158 ≤ q) (hq : va_rf (mR m 142 3) = .ref q) (hn : mI m q 6 = nI n) (hn6 : n ≤ 6) (hnt : mI m q 5 = nI nt) (hnt6 : nt ≤ 6) (hvl : mI m q 12 = nI nvl) (hv4 : nvl ≤ 4) (hho : ∀ v, v < nvl → iR (mI m (q + 18) v) 24) (hce : ∀ c, c < 24 → iR (mI m (q + 1) c) 5) (hwo : ∀ k, k < nvl → ∀ g, g < n → wo (k * 6 + g) = if bi (mI m (q + 2) g = nI 3 ∨ bq (mI m 145 0) (nI g)) = 0 then wsQ (mI m (q + 7)) g (nv (mI m (q + 1) (nv (mI m (q + 18) k)))) nt else nI 0) {k g : Nat} {D : Nat → Nat → Int32} (hkv : k < nvl) (hg : g < n) (hr : D 0 k = nI g) (hQ : Q (some (.int (coF (D 0) wo nvl k g))) (bput m 155 1 D))  : Cc d 0 0 303 [.ref 142, .int (nI k)] (bput m 155 1 D) Q := by
  refine ent (n := 154) z303 (by decide) rfl (by decide) (Nat.le_of_ble_eq_true rfl) (fun sc => ?_)
  refine And.intro (Wdo_142 hW) (Exists.intro _ (And.intro (Wdr_142_30 hW) ?_))
  refine And.intro (Wdi_155 hW (vi rfl (by omega))) ?_
  rw [nI_clamp (show k < 2 ^ 31 by omega)]
  rw [bput_0 (x := 155) (by decide)]
  rw [hr]
  refine And.intro ⟨by omega, Nat.le_of_ble_eq_true rfl, Nat.le_refl _, Nat.le_refl _⟩ (And.intro (Wdo_142 hW) ?_)
  refine C253 (m := (bput m 155 1 D)) (g := g) hW hN hq (by omega) (by omega) ?_
  rw [bput_hi (m := m) (x := 155) (n := 1) (D := D) (b := (q + 2)) (by omega)]
  rw [bput_lo (m := m) (x := 155) (n := 1) (D := D) (b := 145) (by omega)]
  refine And.intro (fun cz8 => ?_) (fun cz8 => ?_)
  · -- 8 taken: bi (mI m (q + 2) g = nI 3 ∨ bq (mI m 145 0) (nI g)) = 0
    show Jj sc d 0 0 (mth 303) (pg P303 15).1 [some (.ref 142), some (.int (nI k)), some (.int (nI g)), some (.int (nI 0)), some (.int (nI 0)), none] [] (bput m 155 1 D) 0 0 Q
    obtain ⟨hh, hh24, ehh⟩ := hho k hkv
    obtain ⟨s5, h55, es5⟩ := hce hh hh24
    exact lct_a (by omega) hW hN h158 hq hn hn6 hnt hnt6 hvl hv4 hho hce hwo hkv hg hr hQ ehh hh24 es5 h55 (bi_eq0.mp cz8) (nt + 1) 0 (Nat.zero_le _) (by omega)
  · -- 8 not: ¬ bi (mI m (q + 2) g = nI 3 ∨ bq (mI m 145 0) (nI g)) = 0
    refine And.intro ⟨rfl, trivial, Nat.le_refl _, Nat.le_refl _⟩ ?_
    have w9 := (co_cn (wo := wo) hkv hv4 hr).1
    obtain ⟨cc, g1, g2, g3⟩ := (co_cn (wo := wo) hkv hv4 hr).2.2
    rw [hwo k hkv g hg, if_neg cz8, g3, pk_div (by omega) (by omega) (by omega), Nat.zero_div] at w9
    rw [w9] at hQ
    exact hQ
theorem lt_m1 : ∀ v, v < 201 → -nI 1 < nI v := by decide +kernel
theorem lbf {sc : Nat × (Nat → Int32)} {d : Nat} {m : Mm} {Q : Option Value → Mm → Prop} {q n nt nvl : Nat} {wo : Nat → Int32} (hd : 4 ≤ d) (hW : Wd m.2.2) (hN : NW m.2.2 q) (h158 : 158 ≤ q) (hq : va_rf (mR m 142 3) = .ref q) (hn : mI m q 6 = nI n) (hn6 : n ≤ 6) (hnt : mI m q 5 = nI nt) (hnt6 : nt ≤ 6) (hvl : mI m q 12 = nI nvl) (hv4 : nvl ≤ 4) (hho : ∀ v, v < nvl → iR (mI m (q + 18) v) 24) (hce : ∀ c, c < 24 → iR (mI m (q + 1) c) 5) (hwo : ∀ k, k < nvl → ∀ g, g < n → wo (k * 6 + g) = if bi (mI m (q + 2) g = nI 3 ∨ bq (mI m 145 0) (nI g)) = 0 then wsQ (mI m (q + 7)) g (nv (mI m (q + 1) (nv (mI m (q + 18) k)))) nt else nI 0) (hwr : ∀ k, k < nvl → ∀ g, g < n → ∃ w, w ≤ 200 ∧ wo (k * 6 + g) = nI w) {k : Nat} {R : Nat → Int32} (hkv : k < nvl) (hQ : ∀ D, D 0 = R → Q (some (.int (nI (bfQ R wo nvl k n)))) (bput m 155 1 D)) (hn0 : 0 < n)  : ∀ (j g : Nat) (D : Nat → Nat → Int32) (x y : Int32), g ≤ n → n + 1 ≤ g + j → ((∀ i, i ≠ k → D 0 i = R i) ∧ (g = 0 → x = -nI 1 ∧ y = -nI 1) ∧ (0 < g → x = nI (bfQ R wo nvl k g) ∧ y = coF R wo nvl k (bfQ R wo nvl k g))) → Jj sc d 0 0 (mth 304) (pg P304 11).1 [some (.ref 142), some (.int (nI k)), some (.int (R k)), some (.int x), some (.int y), some (.int (nI g))] [] (bput m 155 1 D) 0 0 Q := by
  intro j
  induction j with
  | zero => intro g D x y h1 h2 hall; omega
  | succ j ih =>
    intro g D x y h1 h2 hall
    refine J_w z304 (i := 11) (by decide) 104 ?_
    refine And.intro (Wdo_142 hW) (Exists.intro _ (And.intro hq ?_))
    refine And.intro (NWo_0 hN) ?_
    rw [bput_hi (m := m) (x := 155) (n := 1) (D := D) (b := q) (by omega)]
    rw [hn]
    refine And.intro (fun cz15 => ?_) (fun cz15 => ?_)
    · -- 15 taken: nI n ≤ nI g
      have kz15 : n ≤ g := kle (a := n) (b := g) rfl rfl (by omega) (by omega) cz15
      refine And.intro (Wdo_142 hW) (Exists.intro _ (And.intro (Wdr_142_30 hW) ?_))
      refine And.intro (Wdi_155 hW (vi rfl (by omega))) ?_
      rw [nI_clamp (show k < 2 ^ 31 by omega)]
      rw [bput_u0 (x := 155) (by decide)]
      refine And.intro ⟨rfl, trivial, Nat.le_refl _, Nat.le_refl _⟩ ?_
      have ez9 : g = n := by omega
      have h9 := (hall.2.2 (by omega)).1
      rw [h9, ez9]
      refine hQ _ (funext fun i => ?_)
      rw [ud_0]
      by_cases z9 : i = k
      · rw [z9, upd_e]
      · rw [upd_o z9]; exact hall.1 i z9
    · -- 15 not: ¬ nI n ≤ nI g
      have kz15 : g < n := knle (a := n) (b := g) rfl rfl (by omega) (by omega) cz15
      refine And.intro (Wdo_142 hW) (Exists.intro _ (And.intro (Wdr_142_30 hW) ?_))
      refine And.intro (Wdi_155 hW (vi rfl (by omega))) ?_
      rw [nI_clamp (show k < 2 ^ 31 by omega)]
      rw [bput_u0 (x := 155) (by decide)]
      refine And.intro ⟨by omega, Nat.le_of_ble_eq_true rfl, Nat.le_refl _, Nat.le_refl _⟩ (And.intro (Wdo_142 hW) ?_)
      refine D303 (k := k) (g := g) (by omega) hW hN h158 hq hn hn6 hnt hnt6 hvl hv4 hho hce hwo hkv kz15 (by rw [ud_0, upd_e]) ?_
      rw [coF_k (row := R) (row2 := ud D 0 k (nI g) 0) (fun i hi => by rw [ud_0, upd_o hi]; exact hall.1 i hi)]
      refine And.intro (fun cz25 => ?_) (fun cz25 => ?_)
      · -- 25 taken: y < coF R wo nvl k g
        refine And.intro ⟨by omega, Nat.le_of_ble_eq_true rfl, Nat.le_refl _, Nat.le_refl _⟩ (And.intro (Wdo_142 hW) ?_)
        refine D303 (k := k) (g := g) (by omega) hW hN h158 hq hn hn6 hnt hnt6 hvl hv4 hho hce hwo hkv kz15 (by rw [ud_0, upd_e]) ?_
        rw [coF_k (row := R) (row2 := ud D 0 k (nI g) 0) (fun i hi => by rw [ud_0, upd_o hi]; exact hall.1 i hi)]
        show Jj sc d 0 0 (mth 304) (pg P304 11).1 [some (.ref 142), some (.int (nI k)), some (.int (R k)), some (.int (nI g)), some (.int (coF R wo nvl k g)), some (.int (nI g + nI 1))] [] (bput m 155 1 (ud D 0 k (nI g))) 0 0 Q
        rw [show nI g + nI 1 = nI (g + 1) from by simp only [nI_add, pk_mul]]
        refine ih (g + 1) _ _ _ (by omega) (by omega) ⟨fun i hi => by rw [ud_0, upd_o hi]; exact hall.1 i hi, fun z9 => absurd z9 (by omega), fun _ => ?_⟩
        rw [bfQ_s]
        unfold bfS
        rcases Nat.eq_zero_or_pos g with z9 | z9
        · have ez9 : bfQ R wo nvl k g = 0 := by rw [z9]; rfl
          rw [ez9, z9, if_pos (Int32.le_refl _)]
          exact ⟨rfl, rfl⟩
        · rw [(hall.2.2 z9).2] at cz25
          rw [if_neg (Int32.not_le.mpr cz25)]
          exact ⟨rfl, rfl⟩
      · -- 25 not: ¬ y < coF R wo nvl k g
        show Jj sc d 0 0 (mth 304) (pg P304 11).1 [some (.ref 142), some (.int (nI k)), some (.int (R k)), some (.int x), some (.int y), some (.int (nI g + nI 1))] [] (bput m 155 1 (ud D 0 k (nI g))) 0 0 Q
        rw [show nI g + nI 1 = nI (g + 1) from by simp only [nI_add, pk_mul]]
        refine ih (g + 1) _ _ _ (by omega) (by omega) ⟨fun i hi => by rw [ud_0, upd_o hi]; exact hall.1 i hi, fun z9 => absurd z9 (by omega), fun _ => ?_⟩
        rw [bfQ_s]
        unfold bfS
        rcases Nat.eq_zero_or_pos g with z9 | z9
        · refine absurd ?_ cz25
          rw [(hall.2.1 z9).2]
          obtain ⟨w9, hw9, ew9⟩ := hwr k hkv g kz15
          obtain ⟨v9, hv9, ev9⟩ := co_r (row := R) ew9 hw9 hv4
          rw [ev9]
          exact lt_m1 v9 hv9
        · have h9 := hall.2.2 z9
          rw [h9.2] at cz25
          rw [if_pos (Int32.not_lt.mp cz25)]
          exact h9
theorem D304 {d : Nat} {m : Mm} {Q : Option Value → Mm → Prop} {q n nt nvl : Nat} {wo : Nat → Int32} (hd : 4 ≤ d) (hW : Wd m.2.2) (hN : NW m.2.2 q) (h158 : 158 ≤ q) (hq : va_rf (mR m 142 3) = .ref q) (hn : mI m q 6 = nI n) (hn6 : n ≤ 6) (hnt : mI m q 5 = nI nt) (hnt6 : nt ≤ 6) (hvl : mI m q 12 = nI nvl) (hv4 : nvl ≤ 4) (hho : ∀ v, v < nvl → iR (mI m (q + 18) v) 24) (hce : ∀ c, c < 24 → iR (mI m (q + 1) c) 5) (hwo : ∀ k, k < nvl → ∀ g, g < n → wo (k * 6 + g) = if bi (mI m (q + 2) g = nI 3 ∨ bq (mI m 145 0) (nI g)) = 0 then wsQ (mI m (q + 7)) g (nv (mI m (q + 1) (nv (mI m (q + 18) k)))) nt else nI 0) (hwr : ∀ k, k < nvl → ∀ g, g < n → ∃ w, w ≤ 200 ∧ wo (k * 6 + g) = nI w) {k : Nat} {R : Nat → Int32} (hkv : k < nvl) (hQ : ∀ D, D 0 = R → Q (some (.int (nI (bfQ R wo nvl k n)))) (bput m 155 1 D)) (hn0 : 0 < n) {D : Nat → Nat → Int32} (hD : D 0 = R) : Cc d 0 0 304 [.ref 142, .int (nI k)] (bput m 155 1 D) Q := by
  refine ent (n := 104) z304 (by decide) rfl (by decide) (Nat.le_of_ble_eq_true rfl) (fun sc => ?_)
  refine And.intro (Wdo_142 hW) (Exists.intro _ (And.intro (Wdr_142_30 hW) ?_))
  refine And.intro (Wdi_155 hW (vi rfl (by omega))) ?_
  rw [nI_clamp (show k < 2 ^ 31 by omega)]
  rw [bput_0 (x := 155) (by decide)]
  rw [hD]
  show Jj sc d 0 0 (mth 304) (pg P304 11).1 [some (.ref 142), some (.int (nI k)), some (.int (R k)), some (.int (-nI 1)), some (.int (-nI 1)), some (.int (nI 0))] [] (bput m 155 1 D) 0 0 Q
  exact lbf (by omega) hW hN h158 hq hn hn6 hnt hnt6 hvl hv4 hho hce hwo hwr hkv hQ hn0 (n + 1) 0 D (-nI 1) (-nI 1) (Nat.zero_le _) (by omega) ⟨fun i _ => by rw [hD], fun _ => ⟨rfl, rfl⟩, fun z9 => absurd z9 (by omega)⟩
theorem lrs {sc : Nat × (Nat → Int32)} {d : Nat} {m : Mm} {Q : Option Value → Mm → Prop} {q n nt nvl : Nat} {wo : Nat → Int32} (hd : 5 ≤ d) (hW : Wd m.2.2) (hN : NW m.2.2 q) (h158 : 158 ≤ q) (hq : va_rf (mR m 142 3) = .ref q) (hn : mI m q 6 = nI n) (hn6 : n ≤ 6) (hnt : mI m q 5 = nI nt) (hnt6 : nt ≤ 6) (hvl : mI m q 12 = nI nvl) (hv4 : nvl ≤ 4) (hho : ∀ v, v < nvl → iR (mI m (q + 18) v) 24) (hce : ∀ c, c < 24 → iR (mI m (q + 1) c) 5) (hwo : ∀ k, k < nvl → ∀ g, g < n → wo (k * 6 + g) = if bi (mI m (q + 2) g = nI 3 ∨ bq (mI m 145 0) (nI g)) = 0 then wsQ (mI m (q + 7)) g (nv (mI m (q + 1) (nv (mI m (q + 18) k)))) nt else nI 0) (hwr : ∀ k, k < nvl → ∀ g, g < n → ∃ w, w ≤ 200 ∧ wo (k * 6 + g) = nI w) {R : Nat → Int32} (hro : ∀ v, v < nvl → iR (R v) n) (hn0 : 0 < n) (hQ : ∀ D, D 0 = R → Q (some (.int (bi (rsP R wo nvl n)))) (bput m 155 1 D))  : ∀ (j v : Nat) (D : Nat → Nat → Int32), v ≤ nvl → nvl + 1 ≤ v + j → (D 0 = R ∧ (∀ v1, v1 < v → rvP R wo nvl n v1)) → Jj sc d 0 0 (mth 305) (pg P305 2).1 [some (.ref 142), some (.int (nI v)), none, none, none] [] (bput m 155 1 D) 0 0 Q := by
  intro j
  induction j with
  | zero => intro v D h1 h2 hall; omega
  | succ j ih =>
    intro v D h1 h2 hall
    refine J_w z305 (i := 2) (by decide) 102 ?_
    refine And.intro (Wdo_142 hW) (Exists.intro _ (And.intro hq ?_))
    refine And.intro (NWo_0 hN) ?_
    rw [bput_hi (m := m) (x := 155) (n := 1) (D := D) (b := q) (by omega)]
    rw [hvl]
    refine And.intro (fun cz6 => ?_) (fun cz6 => ?_)
    · -- 6 taken: nI nvl ≤ nI v
      have kz6 : nvl ≤ v := kle (a := nvl) (b := v) rfl rfl (by omega) (by omega) cz6
      refine And.intro ⟨rfl, Or.inr rfl, Nat.le_refl _, Nat.le_refl _⟩ ?_
      rw [show v = nvl by omega] at hall
      have w9 := hQ D hall.1
      rw [bi_t hall.2] at w9
      exact w9
    · -- 6 not: ¬ nI nvl ≤ nI v
      have kz6 : v < nvl := knle (a := nvl) (b := v) rfl rfl (by omega) (by omega) cz6
      obtain ⟨g9, hg9, eg9⟩ := hro v (by omega)
      refine And.intro ⟨by omega, Nat.le_of_ble_eq_true rfl, Nat.le_refl _, Nat.le_refl _⟩ (And.intro (Wdo_142 hW) ?_)
      refine D303 (k := v) (g := g9) (by omega) hW hN h158 hq hn hn6 hnt hnt6 hvl hv4 hho hce hwo (by omega) hg9 (by rw [hall.1]; exact eg9) ?_
      rw [hall.1]
      refine And.intro (Wdo_142 hW) (Exists.intro _ (And.intro (Wdr_142_30 hW) ?_))
      refine And.intro (Wdi_155 hW (vi rfl (by omega))) ?_
      rw [nI_clamp (show v < 2 ^ 31 by omega)]
      rw [bput_0 (x := 155) (by decide)]
      rw [hall.1]
      refine And.intro (Wdo_142 hW) (Exists.intro _ (And.intro (Wdr_142_30 hW) ?_))
      refine And.intro ⟨by omega, Nat.le_of_ble_eq_true rfl, Nat.le_refl _, Nat.le_refl _⟩ (And.intro (Wdo_142 hW) ?_)
      refine D304 (k := v) (R := R) (by omega) hW hN h158 hq hn hn6 hnt hnt6 hvl hv4 hho hce hwo hwr (by omega) (fun D1 ez1 => ?_) hn0 hall.1
      have hb9 := bfQ_l (row := R) (wor := wo) (nvl := nvl) (k := v) n
      refine And.intro (Wdi_155 hW (vi rfl (by omega))) ?_
      rw [nI_clamp (show v < 2 ^ 31 by omega)]
      rw [bput_u0 (x := 155) (by decide)]
      refine And.intro ⟨by omega, Nat.le_of_ble_eq_true rfl, Nat.le_refl _, Nat.le_refl _⟩ (And.intro (Wdo_142 hW) ?_)
      refine D303 (k := v) (g := bfQ R wo nvl v n) (by omega) hW hN h158 hq hn hn6 hnt hnt6 hvl hv4 hho hce hwo (by omega) (by omega) (by rw [ud_0, upd_e]) ?_
      rw [coF_k (row := R) (row2 := ud D1 0 v (nI (bfQ R wo nvl v n)) 0) (fun i hi => by rw [ud_0, upd_o hi, ez1])]
      refine And.intro (Wdo_142 hW) (Exists.intro _ (And.intro (Wdr_142_30 hW) ?_))
      refine And.intro (Wdi_155 hW (vi rfl (by omega))) ?_
      rw [nI_clamp (show v < 2 ^ 31 by omega)]
      rw [bput_u0 (x := 155) (by decide)]
      refine And.intro (fun cz34 => ?_) (fun cz34 => ?_)
      · -- 34 taken: coF R wo nvl v (bfQ R wo nvl v n) ≤ coF R wo nvl v g9
        show Jj sc d 0 0 (mth 305) (pg P305 2).1 [some (.ref 142), some (.int (nI v + nI 1)), some (.int (coF R wo nvl v g9)), some (.int (R v)), some (.int (coF R wo nvl v (bfQ R wo nvl v n)))] [] (bput m 155 1 (ud (ud D1 0 v (nI (bfQ R wo nvl v n))) 0 v (R v))) 0 0 Q
        rw [show nI v + nI 1 = nI (v + 1) from by simp only [nI_add, pk_mul]]
        refine J_wk (L' := [some (.ref 142), some (.int (nI (v + 1))), none, none, none]) ⟨rfl, rfl, trivial⟩ ?_
        have hD9 : ud (ud D1 0 v (nI (bfQ R wo nvl v n))) 0 v (R v) 0 = R := funext fun i => by
          rw [ud_0, ud_0, ez1]
          by_cases z9 : i = v
          · rw [z9, upd_e]
          · rw [upd_o z9, upd_o z9]
        refine ih (v + 1) _ (by omega) (by omega) ⟨hD9, fun v1 h9 => ?_⟩
        rcases Nat.lt_or_ge v1 v with q9 | q9
        · exact hall.2 v1 q9
        · have ez9 : v1 = v := by omega
          rw [ez9]
          intro g hg
          rw [eg9, nv_nI (by omega)]
          exact Int32.le_trans (bf_m n g hg) cz34
      · -- 34 not: ¬ coF R wo nvl v (bfQ R wo nvl v n) ≤ coF R wo nvl v g9
        refine And.intro ⟨rfl, Or.inl rfl, Nat.le_refl _, Nat.le_refl _⟩ ?_
        have hD9 : ud (ud D1 0 v (nI (bfQ R wo nvl v n))) 0 v (R v) 0 = R := funext fun i => by
          rw [ud_0, ud_0, ez1]
          by_cases z9 : i = v
          · rw [z9, upd_e]
          · rw [upd_o z9, upd_o z9]
        have w9 := hQ _ hD9
        rw [bi_f (fun z9 => cz34 ?_)] at w9
        · exact w9
        · have y9 := z9 v (by omega) (bfQ R wo nvl v n) (by omega)
          rw [eg9, nv_nI (by omega)] at y9
          exact y9
theorem D305 {d : Nat} {m : Mm} {Q : Option Value → Mm → Prop} {q n nt nvl : Nat} {wo : Nat → Int32} (hd : 5 ≤ d) (hW : Wd m.2.2) (hN : NW m.2.2 q) (h158 : 158 ≤ q) (hq : va_rf (mR m 142 3) = .ref q) (hn : mI m q 6 = nI n) (hn6 : n ≤ 6) (hnt : mI m q 5 = nI nt) (hnt6 : nt ≤ 6) (hvl : mI m q 12 = nI nvl) (hv4 : nvl ≤ 4) (hho : ∀ v, v < nvl → iR (mI m (q + 18) v) 24) (hce : ∀ c, c < 24 → iR (mI m (q + 1) c) 5) (hwo : ∀ k, k < nvl → ∀ g, g < n → wo (k * 6 + g) = if bi (mI m (q + 2) g = nI 3 ∨ bq (mI m 145 0) (nI g)) = 0 then wsQ (mI m (q + 7)) g (nv (mI m (q + 1) (nv (mI m (q + 18) k)))) nt else nI 0) (hwr : ∀ k, k < nvl → ∀ g, g < n → ∃ w, w ≤ 200 ∧ wo (k * 6 + g) = nI w) {R : Nat → Int32} (hro : ∀ v, v < nvl → iR (R v) n) (hn0 : 0 < n) (hQ : ∀ D, D 0 = R → Q (some (.int (bi (rsP R wo nvl n)))) (bput m 155 1 D)) {D : Nat → Nat → Int32} (hD : D 0 = R) : Cc d 0 0 305 [.ref 142] (bput m 155 1 D) Q := by
  refine ent (n := 102) z305 (by decide) rfl (by decide) (Nat.le_of_ble_eq_true rfl) (fun sc => ?_)
  show Jj sc d 0 0 (mth 305) (pg P305 2).1 [some (.ref 142), some (.int (nI 0)), none, none, none] [] (bput m 155 1 D) 0 0 Q
  exact lrs (by omega) hW hN h158 hq hn hn6 hnt hnt6 hvl hv4 hho hce hwo hwr hro hn0 hQ (nvl + 1) 0 D (Nat.zero_le _) (by omega) ⟨hD, fun _ h => absurd h (by omega)⟩
