theorem lfd_j {sc : Nat × (Nat → Int32)} {d : Nat} {m : Mm} {Q : Option Value → Mm → Prop} {q ns l : Nat} {so am : Nat → Int32} (hd : 3 ≤ d) (hW : Wd m.2.2) (hN : NW m.2.2 q) (h158 : 158 ≤ q) (hq : va_rf (mR m 142 3) = .ref q) (hns : mI m q 13 = nI ns) (hns6 : ns ≤ 6) (hsp : ∀ i, i < ns → iR (so i) 4 ∧ iR (am i) 10 ∧ nI 1 ≤ am i) (hsr : ∀ i, i < ns → mI m (q + 20) i = so i ∧ mI m (q + 21) i = am i) (hlk : luF (mI m q 16) = nI l) (hl : l ≤ 99) {kz1 rr r w u L c F : Nat} {D : Nat → Nat → Int32} (hUW : UW ns u w) (hpu : pcl u 6 = kz1 + 1) (hr : r < kz1 + 1) (hk6 : kz1 ≤ 6) (hLb : L ≤ 200000000) (hk : ∀ j L2, j < 6 → tbit u j → pcl u j = r → caF so am j (nI L) = nI L2 → L2 ≤ 9 * L + 9 → Jj sc d 0 0 (mth 313) (pg P313 34).1 [some (.ref 142), some (.int (nI F)), some (.int (nI c)), some (.int (nI rr)), some (.int (nI (nv (nI w ||| nI 1 <<< (nI j &&& 31))))), some (.int (nI L2)), some (.int (nI kz1)), none, none] [] (bput m 142 15 D) 0 0 Q)  : ∀ (j jx : Nat), jx ≤ 6 → 6 + 1 ≤ jx + j → (pcl u jx ≤ r) → Jj sc d 0 0 (mth 313) (pg P313 46).1 [some (.ref 142), some (.int (nI F)), some (.int (nI c)), some (.int (nI rr)), some (.int (nI w)), some (.int (nI L)), some (.int (nI (kz1 + 1))), some (.int (nI (r - pcl u jx))), some (.int (nI jx))] [] (bput m 142 15 D) 0 0 Q := by
  intro j
  induction j with
  | zero => intro jx h1 h2 hall; omega
  | succ j ih =>
    intro jx h1 h2 hall
    refine J_w z313 (i := 46) (by decide) 202 ?_
    have hjn := UW_j hUW h1 (show pcl u jx < pcl u 6 by omega)
    have htq := tb_q w hUW.2.1 jx hjn.2
    have huw := hUW.2.2 jx hjn.2
    refine And.intro ⟨by omega, Nat.le_of_ble_eq_true rfl, Nat.le_refl _, Nat.le_refl _⟩ ?_
    refine C205 (m := (bput m 142 15 D)) ?_
    show zw sc d 0 0 (mth 313).2.2.2.2.1 P313 (KJ sc d 0 0 (mth 313) P313 Q) Q 200 49 [some (.ref 142), some (.int (nI F)), some (.int (nI c)), some (.int (nI rr)), some (.int (nI w)), some (.int (nI L)), some (.int (nI (kz1 + 1))), some (.int (nI (r - pcl u jx))), some (.int (nI jx))] [.int (bi (bq (nI w) (nI jx)))] (bput m 142 15 D) 0 0
    refine And.intro (fun cz49 => ?_) (fun cz49 => ?_)
    · -- 49 taken: ¬ bi (bq (nI w) (nI jx)) = 0
      refine And.intro ⟨by omega, Nat.le_of_ble_eq_true rfl, Nat.le_refl _, Nat.le_refl _⟩ ?_
      refine C205 (m := (bput m 142 15 D)) ?_
      show zw sc d 0 0 (mth 313).2.2.2.2.1 P313 (KJ sc d 0 0 (mth 313) P313 Q) Q 195 56 [some (.ref 142), some (.int (nI F)), some (.int (nI c)), some (.int (nI rr)), some (.int (nI w)), some (.int (nI L)), some (.int (nI (kz1 + 1))), some (.int (nI (r - pcl u jx))), some (.int (nI jx))] [.int (bi (bq (nI w) (nI jx))), .int (nI (r - pcl u jx))] (bput m 142 15 D) 0 0
      refine And.intro (fun cz56 => ?_) (fun cz56 => ?_)
      · -- 56 taken: bi (bq (nI w) (nI jx)) = 0
        exact absurd cz56 cz49
      · -- 56 not: ¬ bi (bq (nI w) (nI jx)) = 0
        show Jj sc d 0 0 (mth 313) (pg P313 46).1 [some (.ref 142), some (.int (nI F)), some (.int (nI c)), some (.int (nI rr)), some (.int (nI w)), some (.int (nI L)), some (.int (nI (kz1 + 1))), some (.int ((nI (r - pcl u jx)) - nI 0)), some (.int (nI jx + nI 1))] [] (bput m 142 15 D) 0 0 Q
        rw [show nI jx + nI 1 = nI (jx + 1) from by simp only [nI_add, pk_mul]]
        have ht : ¬ tbit u jx := fun z => (huw.mp z).2 (htq.mp (bi_ne0.mp cz49))
        have hp1 : pcl u (jx + 1) = pcl u jx := by rw [pcl_s, if_neg ht]
        rw [show nI (r - pcl u jx) - nI 0 = nI (r - pcl u (jx + 1)) from by rw [hp1]; exact Int32.sub_zero _]
        exact ih (jx + 1) (by omega) (by omega) (by omega)
    · -- 49 not: bi (bq (nI w) (nI jx)) = 0
      refine And.intro (fun cz51 => ?_) (fun cz51 => ?_)
      · -- 51 taken: nI (r - pcl u jx) ≤ 0
        have kz51 : r - pcl u jx ≤ 0 := kle (a := r - pcl u jx) (b := 0) rfl rfl (by omega) (by omega) cz51
        refine And.intro (Wdo_142 hW) (Exists.intro _ (And.intro hq ?_))
        refine And.intro (NWo_0 hN) (Exists.intro _ (And.intro (NWr_0_36 hN) ?_))
        refine And.intro (NWi_20 hN (vi rfl (by omega))) ?_
        rw [nI_clamp (show jx < 2 ^ 31 by omega)]
        rw [bput_hi (m := m) (x := 142) (n := 15) (D := D) (b := (q + 20)) (by omega)]
        refine And.intro (Wdo_142 hW) (Exists.intro _ (And.intro hq ?_))
        refine And.intro (NWo_0 hN) (Exists.intro _ (And.intro (NWr_0_37 hN) ?_))
        refine And.intro (NWi_21 hN (vi rfl (by omega))) ?_
        rw [nI_clamp (show jx < 2 ^ 31 by omega)]
        rw [bput_hi (m := m) (x := 142) (n := 15) (D := D) (b := (q + 21)) (by omega)]
        refine And.intro ⟨by omega, Nat.le_of_ble_eq_true rfl, Nat.le_refl _, Nat.le_refl _⟩ ?_
        have hv := hsp jx hjn.1
        have hsc := sp_ca (so := so) (am := am) (p := jx) (L := L) hv.1 hv.2.1 hv.2.2 hLb
        obtain ⟨L2, hL2, eL2⟩ := hsc.2
        rw [(hsr jx hjn.1).1, (hsr jx hjn.1).2]
        refine C310 (m := (bput m 142 15 D)) (fun z => absurd hv.2.2 (by rw [z]; decide)) ?_
        rw [hsc.1, eL2]
        show zw sc d 0 0 (mth 313).2.2.2.2.1 P313 (KJ sc d 0 0 (mth 313) P313 Q) Q 179 82 [some (.ref 142), some (.int (nI F)), some (.int (nI c)), some (.int (nI rr)), some (.int (nI w ||| (nI 1 <<< (nI jx &&& 31)))), some (.int (nI L)), some (.int (nI (kz1 + 1))), some (.int (nI (r - pcl u jx))), some (.int (nI jx))] [.int (nI L2)] (bput m 142 15 D) 0 0
        show Jj sc d 0 0 (mth 313) (pg P313 34).1 [some (.ref 142), some (.int (nI F)), some (.int (nI c)), some (.int (nI rr)), some (.int (nI w ||| (nI 1 <<< (nI jx &&& 31)))), some (.int (nI L2)), some (.int ((nI (kz1 + 1)) + -nI 1)), some (.int (nI (r - pcl u jx))), some (.int (nI jx))] [] (bput m 142 15 D) 0 0 Q
        refine J_wk (L' := [some (.ref 142), some (.int (nI F)), some (.int (nI c)), some (.int (nI rr)), some (.int (nI w ||| (nI 1 <<< (nI jx &&& 31)))), some (.int (nI L2)), some (.int ((nI (kz1 + 1)) + -nI 1)), none, none]) ⟨rfl, rfl, rfl, rfl, rfl, rfl, rfl, trivial⟩ ?_
        have ht : tbit u jx := huw.mpr ⟨hjn.1, fun z => bi_eq0.mp cz49 (htq.mpr z)⟩
        rw [(or_64 w hUW.2.1 jx hjn.2).2, show nI (kz1 + 1) + -nI 1 = nI kz1 from by rw [← Int32.sub_eq_add_neg, pk_sub (by omega), Nat.add_sub_cancel]]
        exact hk jx L2 hjn.2 ht (by omega) eL2 hL2
      · -- 51 not: ¬ nI (r - pcl u jx) ≤ 0
        have kz51 : 0 < r - pcl u jx := knle (a := r - pcl u jx) (b := 0) rfl rfl (by omega) (by omega) cz51
        refine And.intro ⟨by omega, Nat.le_of_ble_eq_true rfl, Nat.le_refl _, Nat.le_refl _⟩ ?_
        refine C205 (m := (bput m 142 15 D)) ?_
        show zw sc d 0 0 (mth 313).2.2.2.2.1 P313 (KJ sc d 0 0 (mth 313) P313 Q) Q 193 56 [some (.ref 142), some (.int (nI F)), some (.int (nI c)), some (.int (nI rr)), some (.int (nI w)), some (.int (nI L)), some (.int (nI (kz1 + 1))), some (.int (nI (r - pcl u jx))), some (.int (nI jx))] [.int (bi (bq (nI w) (nI jx))), .int (nI (r - pcl u jx))] (bput m 142 15 D) 0 0
        refine And.intro (fun cz56 => ?_) (fun cz56 => ?_)
        · -- 56 taken: bi (bq (nI w) (nI jx)) = 0
          show Jj sc d 0 0 (mth 313) (pg P313 46).1 [some (.ref 142), some (.int (nI F)), some (.int (nI c)), some (.int (nI rr)), some (.int (nI w)), some (.int (nI L)), some (.int (nI (kz1 + 1))), some (.int ((nI (r - pcl u jx)) - nI 1)), some (.int (nI jx + nI 1))] [] (bput m 142 15 D) 0 0 Q
          rw [show nI jx + nI 1 = nI (jx + 1) from by simp only [nI_add, pk_mul]]
          have ht : tbit u jx := huw.mpr ⟨hjn.1, fun z => bi_eq0.mp cz49 (htq.mpr z)⟩
          have hp1 : pcl u (jx + 1) = pcl u jx + 1 := by rw [pcl_s, if_pos ht]
          rw [show nI (r - pcl u jx) - nI 1 = nI (r - pcl u (jx + 1)) from by rw [pk_sub (by omega), hp1, Nat.sub_sub]]
          exact ih (jx + 1) (by omega) (by omega) (by omega)
        · -- 56 not: ¬ bi (bq (nI w) (nI jx)) = 0
          exact absurd cz49 cz56
theorem lfd_k {sc : Nat × (Nat → Int32)} {d : Nat} {m : Mm} {Q : Option Value → Mm → Prop} {q ns l : Nat} {so am : Nat → Int32} (hd : 3 ≤ d) (hW : Wd m.2.2) (hN : NW m.2.2 q) (h158 : 158 ≤ q) (hq : va_rf (mR m 142 3) = .ref q) (hns : mI m q 13 = nI ns) (hns6 : ns ≤ 6) (hsp : ∀ i, i < ns → iR (so i) 4 ∧ iR (am i) 10 ∧ nI 1 ≤ am i) (hsr : ∀ i, i < ns → mI m (q + 20) i = so i ∧ mI m (q + 21) i = am i) (hlk : luF (mI m q 16) = nI l) (hl : l ≤ 99) {c F : Nat} {D : Nat → Nat → Int32} (hc : c < 720) (hE : EI c D (fun v => ∃ cz1, cz1 < c ∧ dec so am ns cz1 (2 ^ ns - 1) (nI l) v)) (hk : ∀ D1, EI (c + 1) D1 (fun v => ∃ cz1, cz1 < c + 1 ∧ dec so am ns cz1 (2 ^ ns - 1) (nI l) v) → DF D1 D → Jj sc d 0 0 (mth 313) (pg P313 20).1 [some (.ref 142), some (.int (nI F)), some (.int (nI (c + 1))), none, none, none, none, none, none] [] (bput m 142 15 D1) 0 0 Q)  : ∀ (j i : Nat) (kz9 rest w u L : Nat), i ≤ ns → ns + 1 ≤ i + j → (kz9 + i = ns ∧ UW ns u w ∧ pcl u 6 = kz9 ∧ rest ≤ 720 ∧ L ≤ 110 * 10 ^ i ∧ ∀ v, dec so am kz9 rest u (nI L) v → dec so am ns c (2 ^ ns - 1) (nI l) v) → Jj sc d 0 0 (mth 313) (pg P313 34).1 [some (.ref 142), some (.int (nI F)), some (.int (nI c)), some (.int (nI rest)), some (.int (nI w)), some (.int (nI L)), some (.int (nI kz9)), none, none] [] (bput m 142 15 D) 0 0 Q := by
  intro j
  induction j with
  | zero => intro i kz9 rest w u L h1 h2 hall; omega
  | succ j ih =>
    intro i kz9 rest w u L h1 h2 hall
    refine J_w z313 (i := 34) (by decide) 202 ?_
    refine And.intro (fun cz35 => ?_) (fun cz35 => ?_)
    · -- 35 taken: nI kz9 ≤ 0
      have kz35 : kz9 ≤ 0 := kle (a := kz9) (b := 0) rfl rfl (by omega) (by omega) cz35
      refine And.intro ⟨by omega, Nat.le_of_ble_eq_true rfl, Nat.le_refl _, Nat.le_refl _⟩ (And.intro (Wdo_142 hW) ?_)
      obtain ⟨kk, hkk, ez32, hin, hse⟩ := hE
      have hz9 : kz9 = 0 := by omega
      have hd9 := hall.2.2.2.2.2 (nI L) (by rw [hz9]; exact rfl)
      refine D314 (c := c) (k := kk) (S := (fun v => ∃ cz1, cz1 < c ∧ dec so am ns cz1 (2 ^ ns - 1) (nI l) v)) hW hc hkk ez32 hin hse (fun D1 hE1 hF1 => ?_)
      show Jj sc d 0 0 (mth 313) (pg P313 20).1 [some (.ref 142), some (.int (nI F)), some (.int (nI c + nI 1)), some (.int (nI rest)), some (.int (nI w)), some (.int (nI L)), some (.int (nI kz9)), none, none] [] (bput m 142 15 D1) 0 0 Q
      rw [show nI c + nI 1 = nI (c + 1) from by simp only [nI_add, pk_mul]]
      refine J_wk (L' := [some (.ref 142), some (.int (nI F)), some (.int (nI (c + 1))), none, none, none, none, none, none]) ⟨rfl, rfl, rfl, trivial⟩ ?_
      refine hk D1 (EI_c hE1 (Nat.le_refl _) (fun v => ⟨fun z => ?_, fun ⟨g1, hg1, hg2⟩ => ?_⟩)) hF1
      · rcases z with ⟨g1, hg1, hg2⟩ | z
        · exact ⟨g1, by omega, hg2⟩
        · rw [z]
          exact ⟨c, by omega, hd9⟩
      · rcases Nat.lt_or_ge g1 c with h9 | h9
        · exact Or.inl ⟨g1, h9, hg2⟩
        · rw [show g1 = c by omega] at hg2
          exact Or.inr (dec_f (un_q ns hns6).2.1 hg2 hd9)
    · -- 35 not: ¬ nI kz9 ≤ 0
      have kz35 : 0 < kz9 := knle (a := kz9) (b := 0) rfl rfl (by omega) (by omega) cz35
      refine And.intro (nI_ne0 (by omega) (by omega)) ?_
      refine And.intro (nI_ne0 (by omega) (by omega)) ?_
      show Jj sc d 0 0 (mth 313) (pg P313 46).1 [some (.ref 142), some (.int (nI F)), some (.int (nI c)), some (.int (nI rest / nI kz9)), some (.int (nI w)), some (.int (nI L)), some (.int (nI kz9)), some (.int (nI rest - nI rest / nI kz9 * nI kz9)), some (.int (nI 0))] [] (bput m 142 15 D) 0 0 Q
      rw [pk_rem (by omega) (by omega) (by omega), pk_div (by omega) (by omega) (by omega)]
      obtain ⟨kz1, rfl⟩ : ∃ kz1, kz9 = kz1 + 1 := ⟨kz9 - 1, by omega⟩
      have hdv : rest / (kz1 + 1) ≤ rest := Nat.div_le_self _ _
      have z := lfd_j (sc := sc) (D := D) (F := F) (c := c) (by omega) hW hN h158 hq hns hns6 hsp hsr hlk hl (kz1 := kz1) (rr := rest / (kz1 + 1)) (r := rest % (kz1 + 1)) (w := w) (u := u) (L := L) hall.2.1 hall.2.2.1 (Nat.mod_lt _ (by omega)) (by omega) (io_n hall.2.2.2.2.1 (by omega)) (fun j L2 hj ht hp eL hL2 => ih (i + 1) kz1 (rest / (kz1 + 1)) _ (clb u j) L2 (by omega) (by omega) ⟨by omega, UW_s hall.2.1 hj ht, ?_, by omega, ?_, fun v hv => hall.2.2.2.2.2 v ⟨j, hj, ht, hp, by rw [eL]; exact hv⟩⟩) 7 0 (by decide) (by decide) (Nat.zero_le _)
      · rw [show pcl u 0 = 0 from rfl, Nat.sub_zero] at z
        exact z
      · have := (clb_p u hall.2.1.1 j hj ht).2
        omega
      · have h10 : 1 ≤ 10 ^ i := Nat.one_le_pow _ _ (by decide)
        rw [Nat.pow_succ]
        have := hall.2.2.2.2.1
        omega
theorem lfd_c {sc : Nat × (Nat → Int32)} {d : Nat} {m : Mm} {Q : Option Value → Mm → Prop} {q ns l : Nat} {so am : Nat → Int32} (hd : 3 ≤ d) (hW : Wd m.2.2) (hN : NW m.2.2 q) (h158 : 158 ≤ q) (hq : va_rf (mR m 142 3) = .ref q) (hns : mI m q 13 = nI ns) (hns6 : ns ≤ 6) (hsp : ∀ i, i < ns → iR (so i) 4 ∧ iR (am i) 10 ∧ nI 1 ≤ am i) (hsr : ∀ i, i < ns → mI m (q + 20) i = so i ∧ mI m (q + 21) i = am i) (hlk : luF (mI m q 16) = nI l) (hl : l ≤ 99) {D0 : Nat → Nat → Int32} (hQ : ∀ D1, EI 720 D1 (rc so am 6 (2 ^ ns - 1) (nI l)) → DF D1 D0 → Q none (bput m 142 15 D1)) (hF : fc ns ≤ 720)  : ∀ (j c : Nat) (D : Nat → Nat → Int32), c ≤ fc ns → fc ns + 1 ≤ c + j → (EI c D (fun v => ∃ cz1, cz1 < c ∧ dec so am ns cz1 (2 ^ ns - 1) (nI l) v) ∧ DF D D0) → Jj sc d 0 0 (mth 313) (pg P313 20).1 [some (.ref 142), some (.int (nI ((fc ns)))), some (.int (nI c)), none, none, none, none, none, none] [] (bput m 142 15 D) 0 0 Q := by
  intro j
  induction j with
  | zero => intro c D h1 h2 hall; omega
  | succ j ih =>
    intro c D h1 h2 hall
    refine J_w z313 (i := 20) (by decide) 202 ?_
    refine And.intro (fun cz22 => ?_) (fun cz22 => ?_)
    · -- 22 taken: nI ((fc ns)) ≤ nI c
      have kz22 : (fc ns) ≤ c := kle (a := (fc ns)) (b := c) rfl rfl (by omega) (by omega) cz22
      refine And.intro ⟨rfl, rfl, Nat.le_refl _, Nat.le_refl _⟩ ?_
      rw [show c = fc ns by omega] at hall
      have hu := un_q ns hns6
      exact hQ D (EI_c hall.1 hF (fun v => dec_rc ns 6 _ _ hu.2.1 hu.2.2.1 hns6)) hall.2
    · -- 22 not: ¬ nI ((fc ns)) ≤ nI c
      have kz22 : c < (fc ns) := knle (a := (fc ns)) (b := c) rfl rfl (by omega) (by omega) cz22
      refine And.intro ⟨by omega, Nat.le_of_ble_eq_true rfl, Nat.le_refl _, Nat.le_refl _⟩ (And.intro (Wdo_142 hW) ?_)
      refine C311 (m := (bput m 142 15 D)) hW hN hq ?_
      rw [bput_hi (m := m) (x := 142) (n := 15) (D := D) (b := q) (by omega)]
      rw [hlk]
      refine And.intro (Wdo_142 hW) (Exists.intro _ (And.intro hq ?_))
      refine And.intro (NWo_0 hN) ?_
      rw [bput_hi (m := m) (x := 142) (n := 15) (D := D) (b := q) (by omega)]
      rw [hns]
      show Jj sc d 0 0 (mth 313) (pg P313 34).1 [some (.ref 142), some (.int (nI ((fc ns)))), some (.int (nI c)), some (.int (nI c)), some (.int (nI 0)), some (.int (nI l)), some (.int (nI ns)), none, none] [] (bput m 142 15 D) 0 0 Q
      have hu := un_q ns hns6
      exact lfd_k (by omega) hW hN h158 hq hns hns6 hsp hsr hlk hl (c := c) (D := D) (by omega) hall.1 (fun D1 a1 a2 => ih (c + 1) D1 (by omega) (by omega) ⟨a1, DF_t a2 hall.2⟩) (ns + 1) 0 ns c 0 (2 ^ ns - 1) l (Nat.zero_le _) (by omega) ⟨by omega, ⟨hu.2.1, by decide, tb_u ns hns6⟩, hu.2.2.1, by omega, by omega, fun v hv => hv⟩
theorem lfd_f {sc : Nat × (Nat → Int32)} {d : Nat} {m : Mm} {Q : Option Value → Mm → Prop} {q ns l : Nat} {so am : Nat → Int32} (hd : 3 ≤ d) (hW : Wd m.2.2) (hN : NW m.2.2 q) (h158 : 158 ≤ q) (hq : va_rf (mR m 142 3) = .ref q) (hns : mI m q 13 = nI ns) (hns6 : ns ≤ 6) (hsp : ∀ i, i < ns → iR (so i) 4 ∧ iR (am i) 10 ∧ nI 1 ≤ am i) (hsr : ∀ i, i < ns → mI m (q + 20) i = so i ∧ mI m (q + 21) i = am i) (hlk : luF (mI m q 16) = nI l) (hl : l ≤ 99) {D0 : Nat → Nat → Int32} (hQ : ∀ D1, EI 720 D1 (rc so am 6 (2 ^ ns - 1) (nI l)) → DF D1 D0 → Q none (bput m 142 15 D1)) (hF : fc ns ≤ 720) {D : Nat → Nat → Int32} (hE : EI 0 D (fun _ => False)) (hDF : DF D D0)  : ∀ (j v : Nat), v ≤ ns → ns + 1 ≤ v + j → (v + 1 ≤ ns ∨ v = 0) → Jj sc d 0 0 (mth 313) (pg P313 7).1 [some (.ref 142), some (.int (nI (fc (v + 1)))), some (.int (nI (v + 2))), none, none, none, none, none, none] [] (bput m 142 15 D) 0 0 Q := by
  intro j
  induction j with
  | zero => intro v h1 h2 hall; omega
  | succ j ih =>
    intro v h1 h2 hall
    refine J_w z313 (i := 7) (by decide) 202 ?_
    refine And.intro (Wdo_142 hW) (Exists.intro _ (And.intro hq ?_))
    refine And.intro (NWo_0 hN) ?_
    rw [bput_hi (m := m) (x := 142) (n := 15) (D := D) (b := q) (by omega)]
    rw [hns]
    refine And.intro (fun cz11 => ?_) (fun cz11 => ?_)
    · -- 11 taken: nI ns < nI (v + 2)
      have kz11 : ns < v + 2 := klt (a := ns) (b := v + 2) rfl rfl (by omega) (by omega) cz11
      show Jj sc d 0 0 (mth 313) (pg P313 20).1 [some (.ref 142), some (.int (nI (fc (v + 1)))), some (.int (nI 0)), none, none, none, none, none, none] [] (bput m 142 15 D) 0 0 Q
      have ez9 : fc (v + 1) = fc ns := by
        rcases Nat.eq_zero_or_pos ns with z9 | z9
        · rw [z9, show v = 0 by omega]; rfl
        · rw [show v + 1 = ns by omega]
      rw [ez9]
      exact lfd_c (by omega) hW hN h158 hq hns hns6 hsp hsr hlk hl hQ hF (fc ns + 1) 0 D (Nat.zero_le _) (by omega) ⟨EI_c hE (Nat.le_refl _) (fun v => ⟨fun z => z.elim, fun ⟨g1, h9, _⟩ => absurd h9 (by omega)⟩), hDF⟩
    · -- 11 not: ¬ nI ns < nI (v + 2)
      have kz11 : v + 2 ≤ ns := knlt (a := ns) (b := v + 2) rfl rfl (by omega) (by omega) cz11
      show Jj sc d 0 0 (mth 313) (pg P313 7).1 [some (.ref 142), some (.int (nI (fc (v + 1)) * nI (v + 2))), some (.int ((nI (v + 2)) + nI 1)), none, none, none, none, none, none] [] (bput m 142 15 D) 0 0 Q
      rw [show (nI (v + 2)) + nI 1 = nI (v + 2 + 1) from by simp only [nI_add, pk_mul]]
      rw [pk_mul, Nat.mul_comm, ← fc_s]
      exact ih (v + 1) (by omega) (by omega) (Or.inl (by omega))
theorem D313 {d : Nat} {m : Mm} {Q : Option Value → Mm → Prop} {q ns l : Nat} {so am : Nat → Int32} (hd : 3 ≤ d) (hW : Wd m.2.2) (hN : NW m.2.2 q) (h158 : 158 ≤ q) (hq : va_rf (mR m 142 3) = .ref q) (hns : mI m q 13 = nI ns) (hns6 : ns ≤ 6) (hsp : ∀ i, i < ns → iR (so i) 4 ∧ iR (am i) 10 ∧ nI 1 ≤ am i) (hsr : ∀ i, i < ns → mI m (q + 20) i = so i ∧ mI m (q + 21) i = am i) (hlk : luF (mI m q 16) = nI l) (hl : l ≤ 99) {D : Nat → Nat → Int32} (hQ : ∀ D1, EI 720 D1 (rc so am 6 (2 ^ ns - 1) (nI l)) → DF D1 D → Q none (bput m 142 15 D1))  : Cc d 0 0 313 [.ref 142] (bput m 142 15 D) Q := by
  refine ent (n := 202) z313 (by decide) rfl (by decide) (Nat.le_of_ble_eq_true rfl) (fun sc => ?_)
  refine And.intro (Wdo_142 hW) ?_
  rw [bput_u0 (x := 142) (by decide)]
  show Jj sc d 0 0 (mth 313) (pg P313 7).1 [some (.ref 142), some (.int (nI (fc (0 + 1)))), some (.int (nI (0 + 2))), none, none, none, none, none, none] [] (bput m 142 15 (ud D 0 32 (nI 0))) 0 0 Q
  exact lfd_f (by omega) hW hN h158 hq hns hns6 hsp hsr hlk hl hQ (un_q ns hns6).2.2.2 EI_0.1 EI_0.2 (ns + 1) 0 (Nat.zero_le _) (by omega) (Or.inr rfl)
