theorem lg0 {x y : Int64} : lg_cmp x y = 0 ↔ x = y := by
  unfold lg_cmp
  split
  · rename_i h
    exact ⟨fun z => absurd z (by decide), fun z => absurd (z ▸ h) (by rw [GT.gt]; exact Int64.lt_irrefl)⟩
  · split
    · rename_i h
      exact ⟨fun _ => h, fun _ => rfl⟩
    · rename_i h
      exact ⟨fun z => absurd z (by decide), fun z => absurd z h⟩
/-- the codes of words that blanks part; the place of a code -/
def wlC : List Int32 → Int64 → List Int64
  | [], e => [e]
  | c :: r, e => if c &&& 255 = nI 32 then e :: wlC r (lN 0) else wlC r (e * lN 32 + ((c &&& 255) - nI 97 + nI 1).toInt64)
def ixF (c : Int64) : List Int64 → Int32 → Int32
  | [], _ => -nI 1
  | e :: r, x => if e = c then x else ixF c r (x + nI 1)
theorem drop_c {l : List Int32} {i : Nat} (h : i < l.length) : l.drop i = l.getD i 0 :: l.drop (i + 1) := by
  rw [List.drop_eq_getElem_cons h, List.getD_eq_getElem?_getD, List.getElem?_eq_getElem h]
  rfl
theorem drop_e {l : List Int32} {i : Nat} (h : l.length ≤ i) : l.drop i = [] := List.drop_eq_nil_of_le h
theorem lq110 {sc : Nat × (Nat → Int32)} {d : Nat} {m : Mm} {Q : Option Value → Mm → Prop} {b : Nat} {E : Nat → Nat → Int32} {L : Nat → Nat → Int64} (hW : Wd m.2.2) (hB2 : LW m.2.2 b) (hdj : b + 19 ≤ 87 ∨ 87 + 6 ≤ b) {D : Nat → Nat → Int32} {K : Nat → Nat → Int64} {s0 : Nat} (hd : 4 ≤ d) (hs : s0 < sS.length) (hl : (sBy s0).length < 2 ^ 31)  : ∀ (j i : Nat) (ix : Int32) (e : Int64), i ≤ (sBy s0).length → (sBy s0).length + 1 ≤ i + j → (Q (some (.int (ixF (K 1 8) (wlC ((sBy s0).drop i) e) ix))) (pp m 87 6 D K b 19 E L)) → Jj sc d 0 0 (mth 110) (pg P110 12).1 [some (.ref 88), some (.ref (1000000 + s0)), some (.int ix), some (.long e), none, some (.int (nI i)), none] [] (pp m 87 6 D K b 19 E L) 0 0 Q := by
  intro j
  induction j with
  | zero => intro i ix e h1 h2 hall; omega
  | succ j ih =>
    intro i ix e h1 h2 hall
    refine J_w z110 (i := 12) (by decide) 132 ?_
    refine And.intro ⟨by omega, Nat.le_of_ble_eq_true rfl, Nat.le_refl _, Nat.le_refl _⟩ (And.intro ⟨Nat.le_add_right _ _, Nat.add_lt_add_left hs _⟩ ?_)
    refine C341 (m := (pp m 87 6 D K b 19 E L)) hs (by omega) hl ?_
    refine And.intro (fun cz15 => ?_) (fun cz15 => ?_)
    · -- 15 taken: nI ((sBy s0).length) ≤ nI i
      have kz15 : (sBy s0).length ≤ i := kle (a := (sBy s0).length) (b := i) rfl rfl (by omega) (by omega) cz15
      refine And.intro (Wdo_88 hW) ?_
      rw [pp_J1 (x := 87) (f := 1) (by decide)]
      refine And.intro (fun cz51 => ?_) (fun cz51 => ?_)
      · -- 51 taken: ¬ lg_cmp e (K 1 8) = 0
        refine And.intro ⟨rfl, trivial, Nat.le_refl _, Nat.le_refl _⟩ ?_
        rw [drop_e (by omega)] at hall
        unfold wlC ixF at hall
        unfold ixF at hall
        rw [if_neg (fun z => cz51 (lg0.mpr z))] at hall
        exact hall
      · -- 51 not: lg_cmp e (K 1 8) = 0
        refine And.intro ⟨rfl, trivial, Nat.le_refl _, Nat.le_refl _⟩ ?_
        rw [drop_e (by omega)] at hall
        unfold wlC ixF at hall
        unfold ixF at hall
        rw [if_pos (lg0.mp cz51)] at hall
        exact hall
    · -- 15 not: ¬ nI ((sBy s0).length) ≤ nI i
      have kz15 : i < (sBy s0).length := knle (a := (sBy s0).length) (b := i) rfl rfl (by omega) (by omega) cz15
      refine And.intro ⟨by omega, Nat.le_of_ble_eq_true rfl, Nat.le_refl _, Nat.le_refl _⟩ (And.intro ⟨Nat.le_add_right _ _, Nat.add_lt_add_left hs _⟩ ?_)
      refine C342 (m := (pp m 87 6 D K b 19 E L)) hs (x := i) (by omega) (by omega) hl ?_
      refine And.intro (fun cz22 => ?_) (fun cz22 => ?_)
      · -- 22 taken: (sBy s0).getD i 0 &&& 255 = nI 32
        refine And.intro (Wdo_88 hW) ?_
        rw [pp_J1 (x := 87) (f := 1) (by decide)]
        refine And.intro (fun cz39 => ?_) (fun cz39 => ?_)
        · -- 39 taken: ¬ lg_cmp e (K 1 8) = 0
          show Jj sc d 0 0 (mth 110) (pg P110 12).1 [some (.ref 88), some (.ref (1000000 + s0)), some (.int (ix + nI 1)), some (.long (lN 0)), none, some (.int (nI i + nI 1)), some (.int ((sBy s0).getD i 0 &&& 255))] [] (pp m 87 6 D K b 19 E L) 0 0 Q
          rw [show nI i + nI 1 = nI (i + 1) from by simp only [nI_add, pk_mul]]
          refine J_wk (L' := [some (.ref 88), some (.ref (1000000 + s0)), some (.int (ix + nI 1)), some (.long (lN 0)), none, some (.int (nI (i + 1))), none]) ⟨rfl, rfl, rfl, rfl, rfl, trivial⟩ ?_
          refine ih (i + 1) _ _ (by omega) (by omega) ?_
          rw [drop_c (by omega)] at hall
          unfold wlC at hall
          rw [if_pos cz22] at hall
          unfold ixF at hall
          rw [if_neg (fun z => cz39 (lg0.mpr z))] at hall
          exact hall
        · -- 39 not: lg_cmp e (K 1 8) = 0
          refine And.intro ⟨rfl, trivial, Nat.le_refl _, Nat.le_refl _⟩ ?_
          rw [drop_c (by omega)] at hall
          unfold wlC at hall
          rw [if_pos cz22] at hall
          unfold ixF at hall
          rw [if_pos (lg0.mp cz39)] at hall
          exact hall
      · -- 22 not: ¬ (sBy s0).getD i 0 &&& 255 = nI 32
        show Jj sc d 0 0 (mth 110) (pg P110 12).1 [some (.ref 88), some (.ref (1000000 + s0)), some (.int ix), some (.long ((e * (lN 32)) + (((((sBy s0).getD i 0 &&& 255) - nI 97) + nI 1).toInt64))), none, some (.int (nI i + nI 1)), some (.int ((sBy s0).getD i 0 &&& 255))] [] (pp m 87 6 D K b 19 E L) 0 0 Q
        rw [show nI i + nI 1 = nI (i + 1) from by simp only [nI_add, pk_mul]]
        refine J_wk (L' := [some (.ref 88), some (.ref (1000000 + s0)), some (.int ix), some (.long ((e * (lN 32)) + (((((sBy s0).getD i 0 &&& 255) - nI 97) + nI 1).toInt64))), none, some (.int (nI (i + 1))), none]) ⟨rfl, rfl, rfl, rfl, rfl, trivial⟩ ?_
        refine ih (i + 1) _ _ (by omega) (by omega) ?_
        rw [drop_c (by omega)] at hall
        unfold wlC at hall
        rw [if_neg cz22] at hall
        exact hall
theorem D110 {d : Nat} {m : Mm} {Q : Option Value → Mm → Prop} {b : Nat} {E : Nat → Nat → Int32} {L : Nat → Nat → Int64} (hW : Wd m.2.2) (hB2 : LW m.2.2 b) (hdj : b + 19 ≤ 87 ∨ 87 + 6 ≤ b) {D : Nat → Nat → Int32} {K : Nat → Nat → Int64} {s0 : Nat} (hd : 4 ≤ d) (hs : s0 < sS.length) (hl : (sBy s0).length < 2 ^ 31) (hF : ¬ D 1 4 = nI 2 → Q (some (.int (-nI 1))) (pp m 87 6 D K b 19 E L)) (hQ : D 1 4 = nI 2 → Q (some (.int (ixF (K 1 8) (wlC (sBy s0) (lN 0)) (nI 0)))) (pp m 87 6 D K b 19 E L)) : Cc d 0 0 110 [.ref 88, .ref (1000000 + s0)] (pp m 87 6 D K b 19 E L) Q := by
  refine ent (n := 132) z110 (by decide) rfl (by decide) (Nat.le_of_ble_eq_true rfl) (fun sc => ?_)
  refine And.intro (Wdo_88 hW) ?_
  rw [pp_1 (x := 87) (f := 1) (by decide)]
  refine And.intro (fun cz3 => ?_) (fun cz3 => ?_)
  · -- 3 taken: D 1 4 = nI 2
    show Jj sc d 0 0 (mth 110) (pg P110 12).1 [some (.ref 88), some (.ref (1000000 + s0)), some (.int (nI 0)), some (.long (lN 0)), none, some (.int (nI 0)), none] [] (pp m 87 6 D K b 19 E L) 0 0 Q
    exact lq110 hW hB2 hdj hd hs hl ((sBy s0).length + 1) 0 _ _ (Nat.zero_le _) (by omega) (hQ cz3)
  · -- 3 not: ¬ D 1 4 = nI 2
    refine And.intro ⟨rfl, trivial, Nat.le_refl _, Nat.le_refl _⟩ ?_
    exact hF cz3
