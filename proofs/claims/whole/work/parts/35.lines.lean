theorem wl_1 : wlC (sBy 1) (lN 0) = [lN 763013] := by decide +kernel
theorem wl_2 : wlC (sBy 2) (lN 0) = [lN 271592] := by decide +kernel
theorem wl_3 : wlC (sBy 3) (lN 0) = [lN 12343] := by decide +kernel
theorem wl_4 : wlC (sBy 4) (lN 0) = [lN 6605428, lN 238804, lN 464036] := by decide +kernel
theorem wl_5 : wlC (sBy 5) (lN 0) = [lN 17171758, lN 17383076, lN 10906648243, lN 53875888] := by decide +kernel
theorem wl_6 : wlC (sBy 6) (lN 0) = [lN 17376357] := by decide +kernel
theorem wl_7 : wlC (sBy 7) (lN 0) = [lN 643389619] := by decide +kernel
theorem wl_8 : wlC (sBy 8) (lN 0) = [lN 215533] := by decide +kernel
theorem wl_9 : wlC (sBy 9) (lN 0) = [lN 655] := by decide +kernel
theorem wl_10 : wlC (sBy 10) (lN 0) = [lN 1497] := by decide +kernel
theorem wl_12 : wlC (sBy 12) (lN 0) = [lN 52] := by decide +kernel
theorem wl_13 : wlC (sBy 13) (lN 0) = [lN 278194] := by decide +kernel
theorem wl_14 : wlC (sBy 14) (lN 0) = [lN 658557587] := by decide +kernel
theorem wl_15 : wlC (sBy 15) (lN 0) = [lN 238804] := by decide +kernel
theorem wl_16 : wlC (sBy 16) (lN 0) = [lN 464036] := by decide +kernel
theorem wl_17 : wlC (sBy 17) (lN 0) = [lN 19965396] := by decide +kernel
theorem wl_18 : wlC (sBy 18) (lN 0) = [lN 37011, lN 21015731, lN 21279923, lN 645974195] := by decide +kernel
theorem wl_19 : wlC (sBy 19) (lN 0) = [lN 463, lN 25779] := by decide +kernel
/-- names: how many, codes, sorts, numbers -/
abbrev NT : Type := Nat × (Nat → Int64) × (Nat → Int32) × (Nat → Int32)
abbrev LSt : Type := NT × (Nat → Nat → Int32) × Nat
def tUse (T : NT) (so : Nat) (B : Nat → Int32) (n i : Nat) : Rs (Int32 × Nat) := pUse T.2.1 T.2.2.1 T.2.2.2 T.1 (nI so) B n i
def tAdd (T : NT) (c : Int64) (so : Nat) (x : Int32) : NT := (T.1 + 1, vp_updL T.2.1 T.1 c, upd T.2.2.1 T.1 (nI so), upd T.2.2.2 T.1 x)
def tTell (T : NT) (so : Nat) (E : Nat → Nat → Int32) (B : Nat → Int32) (n i : Nat) : Rs (NT × Nat) := rb (pTell T.2.1 T.1 B n i) fun j => .inr (tAdd T (coT B n i) so (E 1 so), j)
def pCell (E : Nat → Nat → Int32) (B : Nat → Int32) (n i : Nat) : Rs (Int32 × Nat) := rb (pWord (lN 52) B n i) fun i => rb (pWhole (nI 0) (E 0 0 - nI 1) B n i) fun x => rb (pSign (nI 44) B n x.2) fun i => rb (pWhole (nI 0) (E 0 1 - nI 1) B n i) fun y => .inr (E 0 0 * y.1 + x.1, y.2)
/-- numbers of names are below a count -/
def TS (T : NT) (so c : Nat) : Prop := ∀ j, j < T.1 → T.2.2.1 j = nI so → iR (T.2.2.2 j) c
theorem TS_u {T : NT} {so c n i j : Nat} {B : Nat → Int32} {x : Int32} (h : TS T so c) (hc : c ≤ 2 ^ 31) (e : tUse T so B n i = .inr (x, j)) : x = nI (nv x) ∧ nv x < c := by
  unfold tUse pUse at e
  split at e
  · split at e
    · rename_i h1 h2
      cases e
      exact iR_e (h _ h2.1 h2.2) hc
    · cases e
  · cases e
theorem TS_a {T : NT} {so so2 c : Nat} {w : Int64} {x : Int32} (h : TS T so c) (hs : so < 2 ^ 31) (hs2 : so2 < 2 ^ 31) (hne : so ≠ so2) : TS (tAdd T w so2 x) so c := by
  intro j hj h1
  change upd T.2.2.1 T.1 (nI so2) j = nI so at h1
  change iR (upd T.2.2.2 T.1 x j) c
  change j < T.1 + 1 at hj
  by_cases e : j = T.1
  · rw [e, upd_e, nI_eq hs2 hs] at h1
    exact absurd h1.symm hne
  · rw [upd_o e] at h1 ⊢
    exact h j (by omega) h1
theorem C103x {d : Nat} {m : Mm} {Q : Option Value → Mm → Prop} {b g t : Nat} {x y : Int32} (hx : x = nI g) (hy : y = nI t) (hB : SW m.2.2 b) (hg : g < 6) (ht : t < 6) (hQ : Q (some (.int (mI m (b + 2) (g * 6 + t)))) m) : Cc d 0 0 103 [.ref b, .int x, .int y] m Q := by
  subst hx; subst hy; exact C103 hB hg ht hQ
theorem C104x {d : Nat} {m : Mm} {Q : Option Value → Mm → Prop} {b g t : Nat} {x y z : Int32} (hx : x = nI g) (hy : y = nI t) (hB : SW m.2.2 b) (hg : g < 6) (ht : t < 6) (hQ : Q none (uI m (b + 2) (g * 6 + t) z)) : Cc d 0 0 104 [.ref b, .int x, .int y, .int z] m Q := by
  subst hx; subst hy; exact C104 hB hg ht hQ
theorem C33x {d : Nat} {m : Mm} {Q : Option Value → Mm → Prop} {a g : Nat} {x y : Int32} (hx : x = nI g) (hL : LW m.2.2 a) (hg : g < 6) (hQ : Q (some (.int (bi (bq (mI m (a + 8) g) y)))) m) : Cc d 0 0 33 [.ref a, .int x, .int y] m Q := by
  subst hx; exact C33 hL hg hQ
def landL (T : NT) (E : Nat → Nat → Int32) (B : Nat → Int32) (n i : Nat) : Rs LSt := rb (pWord (lN 763013) B n i) fun i => rb (pWhole (nI 2) (nI 6) B n i) fun x => rb (pWord (lN 271592) B n x.2) fun i => rb (pWhole (nI 1) (nI 4) B n i) fun y => rb (pWord (lN 12343) B n y.2) fun i => rb (pPick [lN 6605428, lN 238804, lN 464036] B n i) fun z => .inr (T, ud (ud (ud E 0 0 x.1) 0 1 y.1) 0 2 z.1, z.2)
theorem L61 {d : Nat} {m : Mm} {Q : Option Value → Mm → Prop} {b : Nat} {E : Nat → Nat → Int32} {L : Nat → Nat → Int64} (hW : Wd m.2.2) (hB2 : LW m.2.2 b) (hdj : b + 19 ≤ 87 ∨ 87 + 6 ≤ b) {D : Nat → Nat → Int32} {K : Nat → Nat → Int64} {B : Nat → Int32} {n i : Nat} {T : NT} (hd : 10 ≤ d) (hb4 : va_rf (mR m 87 4) = .ref b) (hR : RS B n T.1 i D K) (hTT : T = (T.1, K 3, D 4, D 5)) (hk24 : T.1 ≤ 24) (hF : ∀ D1 K1 E1 f p, landL T E B n i = .inl (f, p) → D1 0 7 = nI f → D1 0 8 = nI p → D1 1 1 = nI 0 → Q (some (.int (nI 0))) (pp m 87 6 D1 K1 b 19 E1 L)) (hO : ∀ (D1 : Nat → Nat → Int32) (K1 : Nat → Nat → Int64) E1 (T1 : NT) j, landL T E B n i = .inr (T1, E1, j) → RS B n T1.1 j D1 K1 → T1 = (T1.1, K1 3, D1 4, D1 5) → Q (some (.int (nI 1))) (pp m 87 6 D1 K1 b 19 E1 L)) : Cc d 0 0 61 [.ref 87] (pp m 87 6 D K b 19 E L) Q := by
  refine ent (n := 118) z61 (by decide) rfl (by decide) (Nat.le_of_ble_eq_true rfl) (fun sc => ?_)
  refine And.intro ⟨by omega, Nat.le_of_ble_eq_true rfl, Nat.le_refl _, Nat.le_refl _⟩ (And.intro (Wdo_87 hW) ?_)
  refine D76 (s0 := 1) (w0 := lN 763013) hW hB2 hdj (by decide) (by decide) wl_1 (by omega) (hR) ?_ ?_
  · -- a way behind the call
    intro D9 K9 f9 p9 ez9 g7 g8 g9
    refine And.intro (fun cz3 => ?_) (fun cz3 => False.elim (absurd cz3 (by decide)))
    refine And.intro ⟨rfl, Or.inl rfl, Nat.le_refl _, Nat.le_refl _⟩ ?_
    exact hF _ _ _ f9 p9 (by simp only [landL, rb, ez9]) g7 g8 g9
  · -- a way behind the call
    intro D2a K2a j2a ep2 su2 vv2
    have nT2 : (T : NT) = ((T).1, K2a 3, D2a 4, D2a 5) := by rw [su2.2.2.2.1, su2.2.1, su2.2.2.1]; exact hTT
    refine And.intro (fun cz3 => False.elim (absurd cz3 (by decide))) (fun cz3 => ?_)
    refine And.intro ⟨by omega, Nat.le_of_ble_eq_true rfl, Nat.le_refl _, Nat.le_refl _⟩ (And.intro (Wdo_87 hW) ?_)
    refine D79 (lo := nI 2) (hi0 := nI 6) hW hB2 hdj (by omega) (su2.1) ?_ ?_
    · -- a way behind the call
      intro D9 K9 f9 p9 ez9 g7 g8 g9
      refine And.intro (fun cz8 => False.elim (absurd cz8 (by decide))) (fun cz8 => ?_)
      refine And.intro ⟨rfl, Or.inl rfl, Nat.le_refl _, Nat.le_refl _⟩ ?_
      exact hF _ _ _ f9 p9 (by simp only [landL, rb, ep2, ez9]) g7 g8 g9
    · -- a way behind the call
      intro D7a K7a x7a j7a ep7 su7 vv7
      have nT7 : (T : NT) = ((T).1, K7a 3, D7a 4, D7a 5) := by rw [su7.2.2.2.1, su7.2.1, su7.2.2.1]; exact nT2
      refine And.intro (fun cz8 => ?_) (fun cz8 => False.elim (absurd cz8 (by decide)))
      refine And.intro (Wdo_87 hW) (Exists.intro _ (And.intro hb4 ?_))
      refine And.intro (Wdo_87 hW) ?_
      rw [pp_10 (x := 87) (by decide)]
      rw [vv7]
      refine And.intro (LWo_0 hB2) ?_
      rw [pp_u20 (y := b) (by omega) (by decide)]
      refine And.intro ⟨by omega, Nat.le_of_ble_eq_true rfl, Nat.le_refl _, Nat.le_refl _⟩ (And.intro (Wdo_87 hW) ?_)
      refine D76 (s0 := 2) (w0 := lN 271592) hW hB2 hdj (by decide) (by decide) wl_2 (by omega) (su7.1) ?_ ?_
      · -- a way behind the call
        intro D9 K9 f9 p9 ez9 g7 g8 g9
        refine And.intro (fun cz19 => ?_) (fun cz19 => False.elim (absurd cz19 (by decide)))
        refine And.intro ⟨rfl, Or.inl rfl, Nat.le_refl _, Nat.le_refl _⟩ ?_
        exact hF _ _ _ f9 p9 (by simp only [landL, rb, ep2, ep7, ez9]) g7 g8 g9
      · -- a way behind the call
        intro D18a K18a j18a ep18 su18 vv18
        have nT18 : (T : NT) = ((T).1, K18a 3, D18a 4, D18a 5) := by rw [su18.2.2.2.1, su18.2.1, su18.2.2.1]; exact nT7
        refine And.intro (fun cz19 => False.elim (absurd cz19 (by decide))) (fun cz19 => ?_)
        refine And.intro ⟨by omega, Nat.le_of_ble_eq_true rfl, Nat.le_refl _, Nat.le_refl _⟩ (And.intro (Wdo_87 hW) ?_)
        refine D79 (lo := nI 1) (hi0 := nI 4) hW hB2 hdj (by omega) (su18.1) ?_ ?_
        · -- a way behind the call
          intro D9 K9 f9 p9 ez9 g7 g8 g9
          refine And.intro (fun cz24 => False.elim (absurd cz24 (by decide))) (fun cz24 => ?_)
          refine And.intro ⟨rfl, Or.inl rfl, Nat.le_refl _, Nat.le_refl _⟩ ?_
          exact hF _ _ _ f9 p9 (by simp only [landL, rb, ep2, ep7, ep18, ez9]) g7 g8 g9
        · -- a way behind the call
          intro D23a K23a x23a j23a ep23 su23 vv23
          have nT23 : (T : NT) = ((T).1, K23a 3, D23a 4, D23a 5) := by rw [su23.2.2.2.1, su23.2.1, su23.2.2.1]; exact nT18
          refine And.intro (fun cz24 => ?_) (fun cz24 => False.elim (absurd cz24 (by decide)))
          refine And.intro (Wdo_87 hW) (Exists.intro _ (And.intro hb4 ?_))
          refine And.intro (Wdo_87 hW) ?_
          rw [pp_10 (x := 87) (by decide)]
          rw [vv23]
          refine And.intro (LWo_0 hB2) ?_
          rw [pp_u20 (y := b) (by omega) (by decide)]
          refine And.intro ⟨by omega, Nat.le_of_ble_eq_true rfl, Nat.le_refl _, Nat.le_refl _⟩ (And.intro (Wdo_87 hW) ?_)
          refine D76 (s0 := 3) (w0 := lN 12343) hW hB2 hdj (by decide) (by decide) wl_3 (by omega) (su23.1) ?_ ?_
          · -- a way behind the call
            intro D9 K9 f9 p9 ez9 g7 g8 g9
            refine And.intro (fun cz35 => ?_) (fun cz35 => False.elim (absurd cz35 (by decide)))
            refine And.intro ⟨rfl, Or.inl rfl, Nat.le_refl _, Nat.le_refl _⟩ ?_
            exact hF _ _ _ f9 p9 (by simp only [landL, rb, ep2, ep7, ep18, ep23, ez9]) g7 g8 g9
          · -- a way behind the call
            intro D34a K34a j34a ep34 su34 vv34
            have nT34 : (T : NT) = ((T).1, K34a 3, D34a 4, D34a 5) := by rw [su34.2.2.2.1, su34.2.1, su34.2.2.1]; exact nT23
            refine And.intro (fun cz35 => False.elim (absurd cz35 (by decide))) (fun cz35 => ?_)
            refine And.intro ⟨by omega, Nat.le_of_ble_eq_true rfl, Nat.le_refl _, Nat.le_refl _⟩ (And.intro (Wdo_87 hW) ?_)
            refine D77 (s0 := 4) (cs := [lN 6605428, lN 238804, lN 464036]) hW hB2 hdj (by decide) (by decide) wl_4 (by omega) (su34.1) ?_ ?_
            · -- a way behind the call
              intro D9 K9 f9 p9 ez9 g7 g8 g9
              refine And.intro (fun cz39 => False.elim (absurd cz39 (by decide))) (fun cz39 => ?_)
              refine And.intro ⟨rfl, Or.inl rfl, Nat.le_refl _, Nat.le_refl _⟩ ?_
              exact hF _ _ _ f9 p9 (by simp only [landL, rb, ep2, ep7, ep18, ep23, ep34, ez9]) g7 g8 g9
            · -- a way behind the call
              intro D38a K38a x38a j38a ep38 su38 vv38
              have nT38 : (T : NT) = ((T).1, K38a 3, D38a 4, D38a 5) := by rw [su38.2.2.2.1, su38.2.1, su38.2.2.1]; exact nT34
              refine And.intro (fun cz39 => ?_) (fun cz39 => False.elim (absurd cz39 (by decide)))
              refine And.intro (Wdo_87 hW) (Exists.intro _ (And.intro hb4 ?_))
              refine And.intro (Wdo_87 hW) ?_
              rw [pp_10 (x := 87) (by decide)]
              rw [vv38]
              refine And.intro (LWo_0 hB2) ?_
              rw [pp_u20 (y := b) (by omega) (by decide)]
              refine And.intro ⟨rfl, Or.inr rfl, Nat.le_refl _, Nat.le_refl _⟩ ?_
              exact hO _ _ _ (T) _ (by simp only [landL, rb, ep2, ep7, ep18, ep23, ep34, ep38]) (su38.1) nT38
def luckL (T : NT) (E : Nat → Nat → Int32) (B : Nat → Int32) (n i : Nat) : Rs LSt := rb (pWhole (nI 0) (nI 99) B n i) fun x => .inr (T, ud E 0 3 x.1, x.2)
theorem L63 {d : Nat} {m : Mm} {Q : Option Value → Mm → Prop} {b : Nat} {E : Nat → Nat → Int32} {L : Nat → Nat → Int64} (hW : Wd m.2.2) (hB2 : LW m.2.2 b) (hdj : b + 19 ≤ 87 ∨ 87 + 6 ≤ b) {D : Nat → Nat → Int32} {K : Nat → Nat → Int64} {B : Nat → Int32} {n i : Nat} {T : NT} (hd : 10 ≤ d) (hb4 : va_rf (mR m 87 4) = .ref b) (hR : RS B n T.1 i D K) (hTT : T = (T.1, K 3, D 4, D 5)) (hk24 : T.1 ≤ 24) (hF : ∀ D1 K1 E1 f p, luckL T E B n i = .inl (f, p) → D1 0 7 = nI f → D1 0 8 = nI p → D1 1 1 = nI 0 → Q (some (.int (nI 0))) (pp m 87 6 D1 K1 b 19 E1 L)) (hO : ∀ (D1 : Nat → Nat → Int32) (K1 : Nat → Nat → Int64) E1 (T1 : NT) j, luckL T E B n i = .inr (T1, E1, j) → RS B n T1.1 j D1 K1 → T1 = (T1.1, K1 3, D1 4, D1 5) → Q (some (.int (nI 1))) (pp m 87 6 D1 K1 b 19 E1 L)) : Cc d 0 0 63 [.ref 87] (pp m 87 6 D K b 19 E L) Q := by
  refine ent (n := 48) z63 (by decide) rfl (by decide) (Nat.le_of_ble_eq_true rfl) (fun sc => ?_)
  refine And.intro ⟨by omega, Nat.le_of_ble_eq_true rfl, Nat.le_refl _, Nat.le_refl _⟩ (And.intro (Wdo_87 hW) ?_)
  refine D79 (lo := nI 0) (hi0 := nI 99) hW hB2 hdj (by omega) (hR) ?_ ?_
  · -- a way behind the call
    intro D9 K9 f9 p9 ez9 g7 g8 g9
    refine And.intro (fun cz4 => False.elim (absurd cz4 (by decide))) (fun cz4 => ?_)
    refine And.intro ⟨rfl, Or.inl rfl, Nat.le_refl _, Nat.le_refl _⟩ ?_
    exact hF _ _ _ f9 p9 (by simp only [luckL, rb, ez9]) g7 g8 g9
  · -- a way behind the call
    intro D3a K3a x3a j3a ep3 su3 vv3
    have nT3 : (T : NT) = ((T).1, K3a 3, D3a 4, D3a 5) := by rw [su3.2.2.2.1, su3.2.1, su3.2.2.1]; exact hTT
    refine And.intro (fun cz4 => ?_) (fun cz4 => False.elim (absurd cz4 (by decide)))
    refine And.intro (Wdo_87 hW) (Exists.intro _ (And.intro hb4 ?_))
    refine And.intro (Wdo_87 hW) ?_
    rw [pp_10 (x := 87) (by decide)]
    rw [vv3]
    refine And.intro (LWo_0 hB2) ?_
    rw [pp_u20 (y := b) (by omega) (by decide)]
    refine And.intro ⟨rfl, Or.inr rfl, Nat.le_refl _, Nat.le_refl _⟩ ?_
    exact hO _ _ _ (T) _ (by simp only [luckL, rb, ep3]) (su3.1) nT3
theorem D74 {d : Nat} {m : Mm} {Q : Option Value → Mm → Prop} {b : Nat} {E : Nat → Nat → Int32} {L : Nat → Nat → Int64} (hW : Wd m.2.2) (hB2 : LW m.2.2 b) (hdj : b + 19 ≤ 87 ∨ 87 + 6 ≤ b) {D : Nat → Nat → Int32} {K : Nat → Nat → Int64} {B : Nat → Int32} {n i : Nat} {T : NT} (hb4 : va_rf (mR m 87 4) = .ref b) (hd : 9 ≤ d) (hTT : T = (T.1, K 3, D 4, D 5)) (hR : RS B n T.1 i D K) (hF : ∀ D1 K1 f p, pCell E B n i = .inl (f, p) → D1 0 7 = nI f → D1 0 8 = nI p → D1 1 1 = nI 0 → Q (some (.int (nI 0))) (pp m 87 6 D1 K1 b 19 E L)) (hO : ∀ (D1 : Nat → Nat → Int32) (K1 : Nat → Nat → Int64) x j, pCell E B n i = .inr (x, j) → RS B n T.1 j D1 K1 → T = (T.1, K1 3, D1 4, D1 5) → D1 0 6 = x → Q (some (.int (nI 1))) (pp m 87 6 D1 K1 b 19 E L)) : Cc d 0 0 74 [.ref 87] (pp m 87 6 D K b 19 E L) Q := by
  refine ent (n := 110) z74 (by decide) rfl (by decide) (Nat.le_of_ble_eq_true rfl) (fun sc => ?_)
  refine And.intro ⟨by omega, Nat.le_of_ble_eq_true rfl, Nat.le_refl _, Nat.le_refl _⟩ (And.intro (Wdo_87 hW) ?_)
  refine D76 (s0 := 12) (w0 := lN 52) hW hB2 hdj (by decide) (by decide) wl_12 (by omega) (hR) ?_ ?_
  · -- a way behind the call
    intro D9 K9 f9 p9 ez9 g7 g8 g9
    refine And.intro (fun cz3 => ?_) (fun cz3 => False.elim (absurd cz3 (by decide)))
    refine And.intro ⟨rfl, Or.inl rfl, Nat.le_refl _, Nat.le_refl _⟩ ?_
    exact hF _ _ f9 p9 (by simp only [pCell, rb, ez9]) g7 g8 g9
  · -- a way behind the call
    intro D2a K2a j2a ep2 su2 vv2
    have nT2 : (T : NT) = ((T).1, K2a 3, D2a 4, D2a 5) := by rw [su2.2.2.2.1, su2.2.1, su2.2.2.1]; exact hTT
    refine And.intro (fun cz3 => False.elim (absurd cz3 (by decide))) (fun cz3 => ?_)
    refine And.intro (Wdo_87 hW) (Exists.intro _ (And.intro hb4 ?_))
    refine And.intro (LWo_0 hB2) ?_
    rw [pp_20 (y := b) (by omega) (by decide)]
    refine And.intro ⟨by omega, Nat.le_of_ble_eq_true rfl, Nat.le_refl _, Nat.le_refl _⟩ (And.intro (Wdo_87 hW) ?_)
    refine D79 (lo := nI 0) (hi0 := (E 0 0) - nI 1) hW hB2 hdj (by omega) (su2.1) ?_ ?_
    · -- a way behind the call
      intro D9 K9 f9 p9 ez9 g7 g8 g9
      refine And.intro (fun cz12 => False.elim (absurd cz12 (by decide))) (fun cz12 => ?_)
      refine And.intro ⟨rfl, Or.inl rfl, Nat.le_refl _, Nat.le_refl _⟩ ?_
      exact hF _ _ f9 p9 (by simp only [pCell, rb, ep2, ez9]) g7 g8 g9
    · -- a way behind the call
      intro D11a K11a x11a j11a ep11 su11 vv11
      have nT11 : (T : NT) = ((T).1, K11a 3, D11a 4, D11a 5) := by rw [su11.2.2.2.1, su11.2.1, su11.2.2.1]; exact nT2
      refine And.intro (fun cz12 => ?_) (fun cz12 => False.elim (absurd cz12 (by decide)))
      refine And.intro (Wdo_87 hW) ?_
      rw [pp_10 (x := 87) (by decide)]
      rw [vv11]
      refine And.intro ⟨by omega, Nat.le_of_ble_eq_true rfl, Nat.le_refl _, Nat.le_refl _⟩ (And.intro (Wdo_87 hW) ?_)
      refine D78 hW hB2 hdj (by omega) (su11.1) ?_ ?_
      · -- a way behind the call
        intro D9 K9 f9 p9 ez9 g7 g8 g9
        refine And.intro (fun cz21 => ?_) (fun cz21 => False.elim (absurd cz21 (by decide)))
        refine And.intro ⟨rfl, Or.inl rfl, Nat.le_refl _, Nat.le_refl _⟩ ?_
        exact hF _ _ f9 p9 (by simp only [pCell, rb, ep2, ep11, ez9]) g7 g8 g9
      · -- a way behind the call
        intro D20a K20a j20a ep20 su20 vv20
        have nT20 : (T : NT) = ((T).1, K20a 3, D20a 4, D20a 5) := by rw [su20.2.2.2.1, su20.2.1, su20.2.2.1]; exact nT11
        refine And.intro (fun cz21 => False.elim (absurd cz21 (by decide))) (fun cz21 => ?_)
        refine And.intro (Wdo_87 hW) (Exists.intro _ (And.intro hb4 ?_))
        refine And.intro (LWo_0 hB2) ?_
        rw [pp_20 (y := b) (by omega) (by decide)]
        refine And.intro ⟨by omega, Nat.le_of_ble_eq_true rfl, Nat.le_refl _, Nat.le_refl _⟩ (And.intro (Wdo_87 hW) ?_)
        refine D79 (lo := nI 0) (hi0 := (E 0 1) - nI 1) hW hB2 hdj (by omega) (su20.1) ?_ ?_
        · -- a way behind the call
          intro D9 K9 f9 p9 ez9 g7 g8 g9
          refine And.intro (fun cz30 => False.elim (absurd cz30 (by decide))) (fun cz30 => ?_)
          refine And.intro ⟨rfl, Or.inl rfl, Nat.le_refl _, Nat.le_refl _⟩ ?_
          exact hF _ _ f9 p9 (by simp only [pCell, rb, ep2, ep11, ep20, ez9]) g7 g8 g9
        · -- a way behind the call
          intro D29a K29a x29a j29a ep29 su29 vv29
          have nT29 : (T : NT) = ((T).1, K29a 3, D29a 4, D29a 5) := by rw [su29.2.2.2.1, su29.2.1, su29.2.2.1]; exact nT20
          refine And.intro (fun cz30 => ?_) (fun cz30 => False.elim (absurd cz30 (by decide)))
          refine And.intro (Wdo_87 hW) (Exists.intro _ (And.intro hb4 ?_))
          refine And.intro (LWo_0 hB2) ?_
          rw [pp_20 (y := b) (by omega) (by decide)]
          refine And.intro (Wdo_87 hW) ?_
          rw [pp_10 (x := 87) (by decide)]
          rw [vv29]
          refine And.intro (Wdo_87 hW) ?_
          rw [pp_u10 (x := 87) (by decide)]
          refine And.intro ⟨rfl, Or.inr rfl, Nat.le_refl _, Nat.le_refl _⟩ ?_
          exact hO _ _ (E 0 0 * x29a + x11a) _ (by simp only [pCell, rb, ep2, ep11, ep20, ep29]) (su29.1) nT29 rfl
def godL (T : NT) (E : Nat → Nat → Int32) (B : Nat → Int32) (n i : Nat) : Rs LSt := rb (tTell T 4 E B n i) fun t => rb (pPick [lN 17171758, lN 17383076, lN 10906648243, lN 53875888] B n t.2) fun a => rb (pWord (lN 17376357) B n a.2) fun i => rb (pWhole (nI 0) (nI 99) B n i) fun p => rb (pWord (lN 643389619) B n p.2) fun i => rb (pWhole (nI 1) (nI 9) B n i) fun s => rb (pWord (lN 215533) B n s.2) fun i => rb (pWhole (nI 0) (nI 23) B n i) fun f => rb (pWord (lN 655) B n f.2) fun i => rb (pWhole (f.1 + nI 1) (nI 24) B n i) fun u => .inr (t.1, ud (ud (ud (ud (ud E 3 (nv (E 1 4)) a.1) 16 (nv (E 1 4)) p.1) 4 (nv (E 1 4)) s.1) 5 (nv (E 1 4)) f.1) 6 (nv (E 1 4)) u.1, u.2)
theorem L64 {d : Nat} {m : Mm} {Q : Option Value → Mm → Prop} {b : Nat} {E : Nat → Nat → Int32} {L : Nat → Nat → Int64} (hW : Wd m.2.2) (hB2 : LW m.2.2 b) (hdj : b + 19 ≤ 87 ∨ 87 + 6 ≤ b) {D : Nat → Nat → Int32} {K : Nat → Nat → Int64} {B : Nat → Int32} {n i : Nat} {T : NT} (hd : 10 ≤ d) (hb4 : va_rf (mR m 87 4) = .ref b) (hR : RS B n T.1 i D K) (hTT : T = (T.1, K 3, D 4, D 5)) (hk24 : T.1 ≤ 24) (hkl : T.1 < 24) (hg : E 1 4 = nI (nv (E 1 4))) (hgl : nv (E 1 4) < 6) (hF : ∀ D1 K1 E1 f p, godL T E B n i = .inl (f, p) → D1 0 7 = nI f → D1 0 8 = nI p → D1 1 1 = nI 0 → Q (some (.int (nI 0))) (pp m 87 6 D1 K1 b 19 E1 L)) (hO : ∀ (D1 : Nat → Nat → Int32) (K1 : Nat → Nat → Int64) E1 (T1 : NT) j, godL T E B n i = .inr (T1, E1, j) → RS B n T1.1 j D1 K1 → T1 = (T1.1, K1 3, D1 4, D1 5) → Q (some (.int (nI 1))) (pp m 87 6 D1 K1 b 19 E1 L)) : Cc d 0 0 64 [.ref 87] (pp m 87 6 D K b 19 E L) Q := by
  refine ent (n := 224) z64 (by decide) rfl (by decide) (Nat.le_of_ble_eq_true rfl) (fun sc => ?_)
  refine And.intro (Wdo_87 hW) (Exists.intro _ (And.intro hb4 ?_))
  refine And.intro ⟨by omega, Nat.le_of_ble_eq_true rfl, Nat.le_refl _, Nat.le_refl _⟩ (And.intro (LWo_0 hB2) ?_)
  refine C23 (m := (pp m 87 6 D K b 19 E L)) hB2 ?_
  rw [pp_2 (y := b) (f := 1) (by omega) (by decide)]
  rw [hg]
  refine And.intro ⟨by omega, Nat.le_of_ble_eq_true rfl, Nat.le_refl _, Nat.le_refl _⟩ (And.intro (Wdo_87 hW) ?_)
  refine D82 (so := 4) hW hB2 hdj (by decide) hb4 (by omega) (hR)  hkl ?_ ?_
  · -- a way behind the call
    intro D9 K9 f9 p9 ez8 g7 g8 g9
    have ez9 : tTell (T) 4 (E) B n (i) = .inl (f9, p9) := by unfold tTell; rw [hTT]; show rb (pTell (K 3) (T).1 B n (i)) _ = _; rw [ez8]; rfl
    refine And.intro (fun cz7 => ?_) (fun cz7 => False.elim (absurd cz7 (by decide)))
    refine And.intro ⟨rfl, Or.inl rfl, Nat.le_refl _, Nat.le_refl _⟩ ?_
    exact hF _ _ _ f9 p9 (by simp only [godL, rb, ez9]) g7 g8 g9
  · -- a way behind the call
    intro D6a K6a j6a ep6 rr6 q36 q46 q56 q96
    have ev6 : tTell (T) 4 (E) B n (i) = .inr ((tAdd (T) (coT B n (i)) 4 (E 1 4)), j6a) := by unfold tTell; rw [show (T).2.1 = K 3 from congrArg (fun z : NT => z.2.1) hTT]; rw [ep6]; rfl
    have nT6 : ((tAdd (T) (coT B n (i)) 4 (E 1 4)) : NT) = ((tAdd (T) (coT B n (i)) 4 (E 1 4)).1, K6a 3, D6a 4, D6a 5) := by rw [q36, q46, q56]; unfold tAdd; rw [hTT]
    refine And.intro (fun cz7 => False.elim (absurd cz7 (by decide))) (fun cz7 => ?_)
    refine And.intro ⟨by omega, Nat.le_of_ble_eq_true rfl, Nat.le_refl _, Nat.le_refl _⟩ (And.intro (Wdo_87 hW) ?_)
    refine D77 (s0 := 5) (cs := [lN 17171758, lN 17383076, lN 10906648243, lN 53875888]) hW hB2 hdj (by decide) (by decide) wl_5 (by omega) (rr6) ?_ ?_
    · -- a way behind the call
      intro D9 K9 f9 p9 ez9 g7 g8 g9
      refine And.intro (fun cz11 => False.elim (absurd cz11 (by decide))) (fun cz11 => ?_)
      refine And.intro ⟨rfl, Or.inl rfl, Nat.le_refl _, Nat.le_refl _⟩ ?_
      exact hF _ _ _ f9 p9 (by simp only [godL, rb, ev6, ez9]) g7 g8 g9
    · -- a way behind the call
      intro D10a K10a x10a j10a ep10 su10 vv10
      have nT10 : ((tAdd (T) (coT B n (i)) 4 (E 1 4)) : NT) = (((tAdd (T) (coT B n (i)) 4 (E 1 4))).1, K10a 3, D10a 4, D10a 5) := by rw [su10.2.2.2.1, su10.2.1, su10.2.2.1]; exact nT6
      refine And.intro (fun cz11 => ?_) (fun cz11 => False.elim (absurd cz11 (by decide)))
      refine And.intro (Wdo_87 hW) (Exists.intro _ (And.intro hb4 ?_))
      refine And.intro (LWo_0 hB2) (Exists.intro _ (And.intro (LWr_0_6 hB2) ?_))
      refine And.intro (Wdo_87 hW) ?_
      rw [pp_10 (x := 87) (by decide)]
      rw [vv10]
      refine And.intro (LWi_3 hB2 (vi rfl (by omega))) ?_
      rw [nI_clamp (show (nv (E 1 4)) < 2 ^ 31 by omega)]
      rw [pp_u2 (y := b) (f := 3) (by omega) (by decide)]
      refine And.intro ⟨by omega, Nat.le_of_ble_eq_true rfl, Nat.le_refl _, Nat.le_refl _⟩ (And.intro (Wdo_87 hW) ?_)
      refine D76 (s0 := 6) (w0 := lN 17376357) hW hB2 hdj (by decide) (by decide) wl_6 (by omega) (su10.1) ?_ ?_
      · -- a way behind the call
        intro D9 K9 f9 p9 ez9 g7 g8 g9
        refine And.intro (fun cz24 => ?_) (fun cz24 => False.elim (absurd cz24 (by decide)))
        refine And.intro ⟨rfl, Or.inl rfl, Nat.le_refl _, Nat.le_refl _⟩ ?_
        exact hF _ _ _ f9 p9 (by simp only [godL, rb, ev6, ep10, ez9]) g7 g8 g9
      · -- a way behind the call
        intro D23a K23a j23a ep23 su23 vv23
        have nT23 : ((tAdd (T) (coT B n (i)) 4 (E 1 4)) : NT) = (((tAdd (T) (coT B n (i)) 4 (E 1 4))).1, K23a 3, D23a 4, D23a 5) := by rw [su23.2.2.2.1, su23.2.1, su23.2.2.1]; exact nT10
        refine And.intro (fun cz24 => False.elim (absurd cz24 (by decide))) (fun cz24 => ?_)
        refine And.intro ⟨by omega, Nat.le_of_ble_eq_true rfl, Nat.le_refl _, Nat.le_refl _⟩ (And.intro (Wdo_87 hW) ?_)
        refine D79 (lo := nI 0) (hi0 := nI 99) hW hB2 hdj (by omega) (su23.1) ?_ ?_
        · -- a way behind the call
          intro D9 K9 f9 p9 ez9 g7 g8 g9
          refine And.intro (fun cz29 => False.elim (absurd cz29 (by decide))) (fun cz29 => ?_)
          refine And.intro ⟨rfl, Or.inl rfl, Nat.le_refl _, Nat.le_refl _⟩ ?_
          exact hF _ _ _ f9 p9 (by simp only [godL, rb, ev6, ep10, ep23, ez9]) g7 g8 g9
        · -- a way behind the call
          intro D28a K28a x28a j28a ep28 su28 vv28
          have nT28 : ((tAdd (T) (coT B n (i)) 4 (E 1 4)) : NT) = (((tAdd (T) (coT B n (i)) 4 (E 1 4))).1, K28a 3, D28a 4, D28a 5) := by rw [su28.2.2.2.1, su28.2.1, su28.2.2.1]; exact nT23
          refine And.intro (fun cz29 => ?_) (fun cz29 => False.elim (absurd cz29 (by decide)))
          refine And.intro (Wdo_87 hW) (Exists.intro _ (And.intro hb4 ?_))
          refine And.intro (LWo_0 hB2) (Exists.intro _ (And.intro (LWr_0_18 hB2) ?_))
          refine And.intro (LWo_15 hB2) (Exists.intro _ (And.intro (LWr_15_2 hB2) ?_))
          refine And.intro (Wdo_87 hW) ?_
          rw [pp_10 (x := 87) (by decide)]
          rw [vv28]
          refine And.intro (LWi_16 hB2 (vi rfl (by omega))) ?_
          rw [nI_clamp (show (nv (E 1 4)) < 2 ^ 31 by omega)]
          rw [pp_u2 (y := b) (f := 16) (by omega) (by decide)]
          refine And.intro ⟨by omega, Nat.le_of_ble_eq_true rfl, Nat.le_refl _, Nat.le_refl _⟩ (And.intro (Wdo_87 hW) ?_)
          refine D76 (s0 := 7) (w0 := lN 643389619) hW hB2 hdj (by decide) (by decide) wl_7 (by omega) (su28.1) ?_ ?_
          · -- a way behind the call
            intro D9 K9 f9 p9 ez9 g7 g8 g9
            refine And.intro (fun cz43 => ?_) (fun cz43 => False.elim (absurd cz43 (by decide)))
            refine And.intro ⟨rfl, Or.inl rfl, Nat.le_refl _, Nat.le_refl _⟩ ?_
            exact hF _ _ _ f9 p9 (by simp only [godL, rb, ev6, ep10, ep23, ep28, ez9]) g7 g8 g9
          · -- a way behind the call
            intro D42a K42a j42a ep42 su42 vv42
            have nT42 : ((tAdd (T) (coT B n (i)) 4 (E 1 4)) : NT) = (((tAdd (T) (coT B n (i)) 4 (E 1 4))).1, K42a 3, D42a 4, D42a 5) := by rw [su42.2.2.2.1, su42.2.1, su42.2.2.1]; exact nT28
            refine And.intro (fun cz43 => False.elim (absurd cz43 (by decide))) (fun cz43 => ?_)
            refine And.intro ⟨by omega, Nat.le_of_ble_eq_true rfl, Nat.le_refl _, Nat.le_refl _⟩ (And.intro (Wdo_87 hW) ?_)
            refine D79 (lo := nI 1) (hi0 := nI 9) hW hB2 hdj (by omega) (su42.1) ?_ ?_
            · -- a way behind the call
              intro D9 K9 f9 p9 ez9 g7 g8 g9
              refine And.intro (fun cz48 => False.elim (absurd cz48 (by decide))) (fun cz48 => ?_)
              refine And.intro ⟨rfl, Or.inl rfl, Nat.le_refl _, Nat.le_refl _⟩ ?_
              exact hF _ _ _ f9 p9 (by simp only [godL, rb, ev6, ep10, ep23, ep28, ep42, ez9]) g7 g8 g9
            · -- a way behind the call
              intro D47a K47a x47a j47a ep47 su47 vv47
              have nT47 : ((tAdd (T) (coT B n (i)) 4 (E 1 4)) : NT) = (((tAdd (T) (coT B n (i)) 4 (E 1 4))).1, K47a 3, D47a 4, D47a 5) := by rw [su47.2.2.2.1, su47.2.1, su47.2.2.1]; exact nT42
              refine And.intro (fun cz48 => ?_) (fun cz48 => False.elim (absurd cz48 (by decide)))
              refine And.intro (Wdo_87 hW) (Exists.intro _ (And.intro hb4 ?_))
              refine And.intro (LWo_0 hB2) (Exists.intro _ (And.intro (LWr_0_7 hB2) ?_))
              refine And.intro (Wdo_87 hW) ?_
              rw [pp_10 (x := 87) (by decide)]
              rw [vv47]
              refine And.intro (LWi_4 hB2 (vi rfl (by omega))) ?_
              rw [nI_clamp (show (nv (E 1 4)) < 2 ^ 31 by omega)]
              rw [pp_u2 (y := b) (f := 4) (by omega) (by decide)]
              refine And.intro ⟨by omega, Nat.le_of_ble_eq_true rfl, Nat.le_refl _, Nat.le_refl _⟩ (And.intro (Wdo_87 hW) ?_)
              refine D76 (s0 := 8) (w0 := lN 215533) hW hB2 hdj (by decide) (by decide) wl_8 (by omega) (su47.1) ?_ ?_
              · -- a way behind the call
                intro D9 K9 f9 p9 ez9 g7 g8 g9
                refine And.intro (fun cz61 => ?_) (fun cz61 => False.elim (absurd cz61 (by decide)))
                refine And.intro ⟨rfl, Or.inl rfl, Nat.le_refl _, Nat.le_refl _⟩ ?_
                exact hF _ _ _ f9 p9 (by simp only [godL, rb, ev6, ep10, ep23, ep28, ep42, ep47, ez9]) g7 g8 g9
              · -- a way behind the call
                intro D60a K60a j60a ep60 su60 vv60
                have nT60 : ((tAdd (T) (coT B n (i)) 4 (E 1 4)) : NT) = (((tAdd (T) (coT B n (i)) 4 (E 1 4))).1, K60a 3, D60a 4, D60a 5) := by rw [su60.2.2.2.1, su60.2.1, su60.2.2.1]; exact nT47
                refine And.intro (fun cz61 => False.elim (absurd cz61 (by decide))) (fun cz61 => ?_)
                refine And.intro ⟨by omega, Nat.le_of_ble_eq_true rfl, Nat.le_refl _, Nat.le_refl _⟩ (And.intro (Wdo_87 hW) ?_)
                refine D79 (lo := nI 0) (hi0 := nI 23) hW hB2 hdj (by omega) (su60.1) ?_ ?_
                · -- a way behind the call
                  intro D9 K9 f9 p9 ez9 g7 g8 g9
                  refine And.intro (fun cz66 => False.elim (absurd cz66 (by decide))) (fun cz66 => ?_)
                  refine And.intro ⟨rfl, Or.inl rfl, Nat.le_refl _, Nat.le_refl _⟩ ?_
                  exact hF _ _ _ f9 p9 (by simp only [godL, rb, ev6, ep10, ep23, ep28, ep42, ep47, ep60, ez9]) g7 g8 g9
                · -- a way behind the call
                  intro D65a K65a x65a j65a ep65 su65 vv65
                  have nT65 : ((tAdd (T) (coT B n (i)) 4 (E 1 4)) : NT) = (((tAdd (T) (coT B n (i)) 4 (E 1 4))).1, K65a 3, D65a 4, D65a 5) := by rw [su65.2.2.2.1, su65.2.1, su65.2.2.1]; exact nT60
                  refine And.intro (fun cz66 => ?_) (fun cz66 => False.elim (absurd cz66 (by decide)))
                  refine And.intro (Wdo_87 hW) (Exists.intro _ (And.intro hb4 ?_))
                  refine And.intro (LWo_0 hB2) (Exists.intro _ (And.intro (LWr_0_8 hB2) ?_))
                  refine And.intro (Wdo_87 hW) ?_
                  rw [pp_10 (x := 87) (by decide)]
                  rw [vv65]
                  refine And.intro (LWi_5 hB2 (vi rfl (by omega))) ?_
                  rw [nI_clamp (show (nv (E 1 4)) < 2 ^ 31 by omega)]
                  rw [pp_u2 (y := b) (f := 5) (by omega) (by decide)]
                  refine And.intro ⟨by omega, Nat.le_of_ble_eq_true rfl, Nat.le_refl _, Nat.le_refl _⟩ (And.intro (Wdo_87 hW) ?_)
                  refine D76 (s0 := 9) (w0 := lN 655) hW hB2 hdj (by decide) (by decide) wl_9 (by omega) (su65.1) ?_ ?_
                  · -- a way behind the call
                    intro D9 K9 f9 p9 ez9 g7 g8 g9
                    refine And.intro (fun cz79 => ?_) (fun cz79 => False.elim (absurd cz79 (by decide)))
                    refine And.intro ⟨rfl, Or.inl rfl, Nat.le_refl _, Nat.le_refl _⟩ ?_
                    exact hF _ _ _ f9 p9 (by simp only [godL, rb, ev6, ep10, ep23, ep28, ep42, ep47, ep60, ep65, ez9]) g7 g8 g9
                  · -- a way behind the call
                    intro D78a K78a j78a ep78 su78 vv78
                    have nT78 : ((tAdd (T) (coT B n (i)) 4 (E 1 4)) : NT) = (((tAdd (T) (coT B n (i)) 4 (E 1 4))).1, K78a 3, D78a 4, D78a 5) := by rw [su78.2.2.2.1, su78.2.1, su78.2.2.1]; exact nT65
                    refine And.intro (fun cz79 => False.elim (absurd cz79 (by decide))) (fun cz79 => ?_)
                    refine And.intro (Wdo_87 hW) (Exists.intro _ (And.intro hb4 ?_))
                    refine And.intro (LWo_0 hB2) (Exists.intro _ (And.intro (LWr_0_8 hB2) ?_))
                    refine And.intro (LWi_5 hB2 (vi rfl (by omega))) ?_
                    rw [nI_clamp (show (nv (E 1 4)) < 2 ^ 31 by omega)]
                    rw [pp_2 (y := b) (f := 5) (by omega) (by decide)]
                    rw [show (ud (ud (ud (ud E 3 ((nv (E 1 4))) x10a) 16 ((nv (E 1 4))) x28a) 4 ((nv (E 1 4))) x47a) 5 ((nv (E 1 4))) x65a) 5 ((nv (E 1 4))) = x65a from upd_e]
                    refine And.intro ⟨by omega, Nat.le_of_ble_eq_true rfl, Nat.le_refl _, Nat.le_refl _⟩ (And.intro (Wdo_87 hW) ?_)
                    refine D79 (lo := x65a + nI 1) (hi0 := nI 24) hW hB2 hdj (by omega) (su78.1) ?_ ?_
                    · -- a way behind the call
                      intro D9 K9 f9 p9 ez9 g7 g8 g9
                      refine And.intro (fun cz90 => False.elim (absurd cz90 (by decide))) (fun cz90 => ?_)
                      refine And.intro ⟨rfl, Or.inl rfl, Nat.le_refl _, Nat.le_refl _⟩ ?_
                      exact hF _ _ _ f9 p9 (by simp only [godL, rb, ev6, ep10, ep23, ep28, ep42, ep47, ep60, ep65, ep78, ez9]) g7 g8 g9
                    · -- a way behind the call
                      intro D89a K89a x89a j89a ep89 su89 vv89
                      have nT89 : ((tAdd (T) (coT B n (i)) 4 (E 1 4)) : NT) = (((tAdd (T) (coT B n (i)) 4 (E 1 4))).1, K89a 3, D89a 4, D89a 5) := by rw [su89.2.2.2.1, su89.2.1, su89.2.2.1]; exact nT78
                      refine And.intro (fun cz90 => ?_) (fun cz90 => False.elim (absurd cz90 (by decide)))
                      refine And.intro (Wdo_87 hW) (Exists.intro _ (And.intro hb4 ?_))
                      refine And.intro (LWo_0 hB2) (Exists.intro _ (And.intro (LWr_0_9 hB2) ?_))
                      refine And.intro (Wdo_87 hW) ?_
                      rw [pp_10 (x := 87) (by decide)]
                      rw [vv89]
                      refine And.intro (LWi_6 hB2 (vi rfl (by omega))) ?_
                      rw [nI_clamp (show (nv (E 1 4)) < 2 ^ 31 by omega)]
                      rw [pp_u2 (y := b) (f := 6) (by omega) (by decide)]
                      refine And.intro ⟨rfl, Or.inr rfl, Nat.le_refl _, Nat.le_refl _⟩ ?_
                      exact hO _ _ _ ((tAdd (T) (coT B n (i)) 4 (E 1 4))) _ (by simp only [godL, rb, ev6, ep10, ep23, ep28, ep42, ep47, ep60, ep65, ep78, ep89]) (su89.1) nT89
def prayerL (T : NT) (E : Nat → Nat → Int32) (B : Nat → Int32) (n i : Nat) : Rs LSt := rb (tTell T 8 E B n i) fun t => rb (tUse t.1 2 B n t.2) fun x => rb (pCell (ud E 9 (nv (E 1 8) * 7 + 0) x.1) B n x.2) fun c => rb (pWord (lN 278194) B n c.2) fun i => rb (pWhole (nI 0) (nI 23) B n i) fun h => rb (pWord (lN 658557587) B n h.2) fun i => rb (tUse t.1 4 B n i) fun g => rb (pWhole (nI 0) (nI 23) B n g.2) fun w => rb (pWord (lN 238804) B n w.2) fun i => rb (pWhole (nI 0) (nI 99) B n i) fun p => rb (pWord (lN 464036) B n p.2) fun i => rb (pWhole (nI 0) (nI 99) B n i) fun q => .inr (t.1, ud (ud (ud (ud (ud (ud (ud E 9 (nv (E 1 8) * 7 + 0) x.1) 9 (nv (E 1 8) * 7 + 1) c.1) 9 (nv (E 1 8) * 7 + 2) h.1) 9 (nv (E 1 8) * 7 + 3) g.1) 9 (nv (E 1 8) * 7 + 4) w.1) 9 (nv (E 1 8) * 7 + 5) p.1) 9 (nv (E 1 8) * 7 + 6) q.1, q.2)
theorem L69 {d : Nat} {m : Mm} {Q : Option Value → Mm → Prop} {b : Nat} {E : Nat → Nat → Int32} {L : Nat → Nat → Int64} (hW : Wd m.2.2) (hB2 : LW m.2.2 b) (hdj : b + 19 ≤ 87 ∨ 87 + 6 ≤ b) {D : Nat → Nat → Int32} {K : Nat → Nat → Int64} {B : Nat → Int32} {n i : Nat} {T : NT} (hd : 10 ≤ d) (hb4 : va_rf (mR m 87 4) = .ref b) (hR : RS B n T.1 i D K) (hTT : T = (T.1, K 3, D 4, D 5)) (hk24 : T.1 ≤ 24) (hkl : T.1 < 24) (hp : E 1 8 = nI (nv (E 1 8))) (hpl : nv (E 1 8) < 8) {nt gn : Nat} (h2 : TS T 2 nt) (hnt : nt ≤ 6) (h4 : TS T 4 gn) (hgn : gn ≤ 6) (hF : ∀ D1 K1 E1 f p, prayerL T E B n i = .inl (f, p) → D1 0 7 = nI f → D1 0 8 = nI p → D1 1 1 = nI 0 → Q (some (.int (nI 0))) (pp m 87 6 D1 K1 b 19 E1 L)) (hO : ∀ (D1 : Nat → Nat → Int32) (K1 : Nat → Nat → Int64) E1 (T1 : NT) j, prayerL T E B n i = .inr (T1, E1, j) → RS B n T1.1 j D1 K1 → T1 = (T1.1, K1 3, D1 4, D1 5) → Q (some (.int (nI 1))) (pp m 87 6 D1 K1 b 19 E1 L)) : Cc d 0 0 69 [.ref 87] (pp m 87 6 D K b 19 E L) Q := by
  refine ent (n := 272) z69 (by decide) rfl (by decide) (Nat.le_of_ble_eq_true rfl) (fun sc => ?_)
  refine And.intro (Wdo_87 hW) (Exists.intro _ (And.intro hb4 ?_))
  refine And.intro ⟨by omega, Nat.le_of_ble_eq_true rfl, Nat.le_refl _, Nat.le_refl _⟩ (And.intro (LWo_0 hB2) ?_)
  refine C24 (m := (pp m 87 6 D K b 19 E L)) hB2 ?_
  rw [pp_2 (y := b) (f := 1) (by omega) (by decide)]
  rw [hp]
  refine And.intro (Wdo_87 hW) (Exists.intro _ (And.intro hb4 ?_))
  refine And.intro (LWo_0 hB2) (Exists.intro _ (And.intro (LWr_0_12 hB2) ?_))
  refine And.intro ⟨by omega, Nat.le_of_ble_eq_true rfl, Nat.le_refl _, Nat.le_refl _⟩ (And.intro (Wdo_87 hW) ?_)
  refine D82 (so := 8) hW hB2 hdj (by decide) hb4 (by omega) (hR)  hkl ?_ ?_
  · -- a way behind the call
    intro D9 K9 f9 p9 ez8 g7 g8 g9
    have ez9 : tTell (T) 8 (E) B n (i) = .inl (f9, p9) := by unfold tTell; rw [hTT]; show rb (pTell (K 3) (T).1 B n (i)) _ = _; rw [ez8]; rfl
    refine And.intro (fun cz13 => ?_) (fun cz13 => False.elim (absurd cz13 (by decide)))
    refine And.intro ⟨rfl, Or.inl rfl, Nat.le_refl _, Nat.le_refl _⟩ ?_
    exact hF _ _ _ f9 p9 (by simp only [prayerL, rb, ez9]) g7 g8 g9
  · -- a way behind the call
    intro D12a K12a j12a ep12 rr12 q312 q412 q512 q912
    have ev12 : tTell (T) 8 (E) B n (i) = .inr ((tAdd (T) (coT B n (i)) 8 (E 1 8)), j12a) := by unfold tTell; rw [show (T).2.1 = K 3 from congrArg (fun z : NT => z.2.1) hTT]; rw [ep12]; rfl
    have nT12 : ((tAdd (T) (coT B n (i)) 8 (E 1 8)) : NT) = ((tAdd (T) (coT B n (i)) 8 (E 1 8)).1, K12a 3, D12a 4, D12a 5) := by rw [q312, q412, q512]; unfold tAdd; rw [hTT]
    refine And.intro (fun cz13 => False.elim (absurd cz13 (by decide))) (fun cz13 => ?_)
    refine And.intro ⟨by omega, Nat.le_of_ble_eq_true rfl, Nat.le_refl _, Nat.le_refl _⟩ (And.intro (Wdo_87 hW) ?_)
    refine D83 (so := nI 2) hW hB2 hdj (by omega) (rr12)  (by show (T : NT).1 + 1 ≤ 24; omega) ?_ ?_
    · -- a way behind the call
      intro D9 K9 f9 p9 ez8 g7 g8 g9
      have ez9 : tUse ((tAdd (T) (coT B n (i)) 8 (E 1 8))) 2 B n (j12a) = .inl (f9, p9) := by rw [nT12]; exact ez8
      refine And.intro (fun cz17 => False.elim (absurd cz17 (by decide))) (fun cz17 => ?_)
      refine And.intro ⟨rfl, Or.inl rfl, Nat.le_refl _, Nat.le_refl _⟩ ?_
      exact hF _ _ _ f9 p9 (by simp only [prayerL, rb, ev12, ez9]) g7 g8 g9
    · -- a way behind the call
      intro D16a K16a x16a j16a ep16 su16 vv16
      have ev16 : tUse ((tAdd (T) (coT B n (i)) 8 (E 1 8))) 2 B n (j12a) = .inr (x16a, j16a) := by rw [nT12]; exact ep16
      have nT16 : ((tAdd (T) (coT B n (i)) 8 (E 1 8)) : NT) = (((tAdd (T) (coT B n (i)) 8 (E 1 8))).1, K16a 3, D16a 4, D16a 5) := by rw [su16.2.2.2.1, su16.2.1, su16.2.2.1]; exact nT12
      have iv16 := TS_u (TS_a h2 (by decide) (by decide) (by decide)) (by omega) ev16
      refine And.intro (fun cz17 => ?_) (fun cz17 => False.elim (absurd cz17 (by decide)))
      refine And.intro (Wdo_87 hW) ?_
      rw [pp_10 (x := 87) (by decide)]
      rw [vv16]
      have ez26 : ((nI ((nv (E 1 8)))) * nI 7) + nI 0 = nI (((nv (E 1 8))) * 7 + 0) := by simp only [nI_add, pk_mul]
      refine And.intro (LWi_9 hB2 (vi ez26 (by omega))) ?_
      rw [vc ez26 (by omega)]
      rw [pp_u2 (y := b) (f := 9) (by omega) (by decide)]
      refine And.intro ⟨by omega, Nat.le_of_ble_eq_true rfl, Nat.le_refl _, Nat.le_refl _⟩ (And.intro (Wdo_87 hW) ?_)
      refine D74 hW hB2 hdj hb4 (by omega) nT16 (su16.1)  ?_ ?_
      · -- a way behind the call
        intro D9 K9 f9 p9 ez9 g7 g8 g9
        refine And.intro (fun cz29 => False.elim (absurd cz29 (by decide))) (fun cz29 => ?_)
        refine And.intro ⟨rfl, Or.inl rfl, Nat.le_refl _, Nat.le_refl _⟩ ?_
        exact hF _ _ _ f9 p9 (by simp only [prayerL, rb, ev12, ev16, ez9]) g7 g8 g9
      · -- a way behind the call
        intro D28a K28a x28a j28a ep28 rr28 nT28 vv28
        refine And.intro (fun cz29 => ?_) (fun cz29 => False.elim (absurd cz29 (by decide)))
        refine And.intro (Wdo_87 hW) ?_
        rw [pp_10 (x := 87) (by decide)]
        rw [vv28]
        have ez38 : ((nI ((nv (E 1 8)))) * nI 7) + nI 1 = nI (((nv (E 1 8))) * 7 + 1) := by simp only [nI_add, pk_mul]
        refine And.intro (LWi_9 hB2 (vi ez38 (by omega))) ?_
        rw [vc ez38 (by omega)]
        rw [pp_u2 (y := b) (f := 9) (by omega) (by decide)]
        refine And.intro ⟨by omega, Nat.le_of_ble_eq_true rfl, Nat.le_refl _, Nat.le_refl _⟩ (And.intro (Wdo_87 hW) ?_)
        refine D76 (s0 := 13) (w0 := lN 278194) hW hB2 hdj (by decide) (by decide) wl_13 (by omega) (rr28) ?_ ?_
        · -- a way behind the call
          intro D9 K9 f9 p9 ez9 g7 g8 g9
          refine And.intro (fun cz42 => ?_) (fun cz42 => False.elim (absurd cz42 (by decide)))
          refine And.intro ⟨rfl, Or.inl rfl, Nat.le_refl _, Nat.le_refl _⟩ ?_
          exact hF _ _ _ f9 p9 (by simp only [prayerL, rb, ev12, ev16, ep28, ez9]) g7 g8 g9
        · -- a way behind the call
          intro D41a K41a j41a ep41 su41 vv41
          have nT41 : ((tAdd (T) (coT B n (i)) 8 (E 1 8)) : NT) = (((tAdd (T) (coT B n (i)) 8 (E 1 8))).1, K41a 3, D41a 4, D41a 5) := by rw [su41.2.2.2.1, su41.2.1, su41.2.2.1]; exact nT28
          refine And.intro (fun cz42 => False.elim (absurd cz42 (by decide))) (fun cz42 => ?_)
          refine And.intro ⟨by omega, Nat.le_of_ble_eq_true rfl, Nat.le_refl _, Nat.le_refl _⟩ (And.intro (Wdo_87 hW) ?_)
          refine D79 (lo := nI 0) (hi0 := nI 23) hW hB2 hdj (by omega) (su41.1) ?_ ?_
          · -- a way behind the call
            intro D9 K9 f9 p9 ez9 g7 g8 g9
            refine And.intro (fun cz47 => False.elim (absurd cz47 (by decide))) (fun cz47 => ?_)
            refine And.intro ⟨rfl, Or.inl rfl, Nat.le_refl _, Nat.le_refl _⟩ ?_
            exact hF _ _ _ f9 p9 (by simp only [prayerL, rb, ev12, ev16, ep28, ep41, ez9]) g7 g8 g9
          · -- a way behind the call
            intro D46a K46a x46a j46a ep46 su46 vv46
            have nT46 : ((tAdd (T) (coT B n (i)) 8 (E 1 8)) : NT) = (((tAdd (T) (coT B n (i)) 8 (E 1 8))).1, K46a 3, D46a 4, D46a 5) := by rw [su46.2.2.2.1, su46.2.1, su46.2.2.1]; exact nT41
            refine And.intro (fun cz47 => ?_) (fun cz47 => False.elim (absurd cz47 (by decide)))
            refine And.intro (Wdo_87 hW) ?_
            rw [pp_10 (x := 87) (by decide)]
            rw [vv46]
            have ez56 : ((nI ((nv (E 1 8)))) * nI 7) + nI 2 = nI (((nv (E 1 8))) * 7 + 2) := by simp only [nI_add, pk_mul]
            refine And.intro (LWi_9 hB2 (vi ez56 (by omega))) ?_
            rw [vc ez56 (by omega)]
            rw [pp_u2 (y := b) (f := 9) (by omega) (by decide)]
            refine And.intro ⟨by omega, Nat.le_of_ble_eq_true rfl, Nat.le_refl _, Nat.le_refl _⟩ (And.intro (Wdo_87 hW) ?_)
            refine D76 (s0 := 14) (w0 := lN 658557587) hW hB2 hdj (by decide) (by decide) wl_14 (by omega) (su46.1) ?_ ?_
            · -- a way behind the call
              intro D9 K9 f9 p9 ez9 g7 g8 g9
              refine And.intro (fun cz60 => ?_) (fun cz60 => False.elim (absurd cz60 (by decide)))
              refine And.intro ⟨rfl, Or.inl rfl, Nat.le_refl _, Nat.le_refl _⟩ ?_
              exact hF _ _ _ f9 p9 (by simp only [prayerL, rb, ev12, ev16, ep28, ep41, ep46, ez9]) g7 g8 g9
            · -- a way behind the call
              intro D59a K59a j59a ep59 su59 vv59
              have nT59 : ((tAdd (T) (coT B n (i)) 8 (E 1 8)) : NT) = (((tAdd (T) (coT B n (i)) 8 (E 1 8))).1, K59a 3, D59a 4, D59a 5) := by rw [su59.2.2.2.1, su59.2.1, su59.2.2.1]; exact nT46
              refine And.intro (fun cz60 => False.elim (absurd cz60 (by decide))) (fun cz60 => ?_)
              refine And.intro ⟨by omega, Nat.le_of_ble_eq_true rfl, Nat.le_refl _, Nat.le_refl _⟩ (And.intro (Wdo_87 hW) ?_)
              refine D83 (so := nI 4) hW hB2 hdj (by omega) (su59.1)  (by show (T : NT).1 + 1 ≤ 24; omega) ?_ ?_
              · -- a way behind the call
                intro D9 K9 f9 p9 ez8 g7 g8 g9
                have ez9 : tUse ((tAdd (T) (coT B n (i)) 8 (E 1 8))) 4 B n (j59a) = .inl (f9, p9) := by rw [nT59]; exact ez8
                refine And.intro (fun cz64 => False.elim (absurd cz64 (by decide))) (fun cz64 => ?_)
                refine And.intro ⟨rfl, Or.inl rfl, Nat.le_refl _, Nat.le_refl _⟩ ?_
                exact hF _ _ _ f9 p9 (by simp only [prayerL, rb, ev12, ev16, ep28, ep41, ep46, ep59, ez9]) g7 g8 g9
              · -- a way behind the call
                intro D63a K63a x63a j63a ep63 su63 vv63
                have ev63 : tUse ((tAdd (T) (coT B n (i)) 8 (E 1 8))) 4 B n (j59a) = .inr (x63a, j63a) := by rw [nT59]; exact ep63
                have nT63 : ((tAdd (T) (coT B n (i)) 8 (E 1 8)) : NT) = (((tAdd (T) (coT B n (i)) 8 (E 1 8))).1, K63a 3, D63a 4, D63a 5) := by rw [su63.2.2.2.1, su63.2.1, su63.2.2.1]; exact nT59
                have iv63 := TS_u (TS_a h4 (by decide) (by decide) (by decide)) (by omega) ev63
                refine And.intro (fun cz64 => ?_) (fun cz64 => False.elim (absurd cz64 (by decide)))
                refine And.intro (Wdo_87 hW) ?_
                rw [pp_10 (x := 87) (by decide)]
                rw [vv63]
                have ez73 : ((nI ((nv (E 1 8)))) * nI 7) + nI 3 = nI (((nv (E 1 8))) * 7 + 3) := by simp only [nI_add, pk_mul]
                refine And.intro (LWi_9 hB2 (vi ez73 (by omega))) ?_
                rw [vc ez73 (by omega)]
                rw [pp_u2 (y := b) (f := 9) (by omega) (by decide)]
                refine And.intro ⟨by omega, Nat.le_of_ble_eq_true rfl, Nat.le_refl _, Nat.le_refl _⟩ (And.intro (Wdo_87 hW) ?_)
                refine D79 (lo := nI 0) (hi0 := nI 23) hW hB2 hdj (by omega) (su63.1) ?_ ?_
                · -- a way behind the call
                  intro D9 K9 f9 p9 ez9 g7 g8 g9
                  refine And.intro (fun cz78 => False.elim (absurd cz78 (by decide))) (fun cz78 => ?_)
                  refine And.intro ⟨rfl, Or.inl rfl, Nat.le_refl _, Nat.le_refl _⟩ ?_
                  exact hF _ _ _ f9 p9 (by simp only [prayerL, rb, ev12, ev16, ep28, ep41, ep46, ep59, ev63, ez9]) g7 g8 g9
                · -- a way behind the call
                  intro D77a K77a x77a j77a ep77 su77 vv77
                  have nT77 : ((tAdd (T) (coT B n (i)) 8 (E 1 8)) : NT) = (((tAdd (T) (coT B n (i)) 8 (E 1 8))).1, K77a 3, D77a 4, D77a 5) := by rw [su77.2.2.2.1, su77.2.1, su77.2.2.1]; exact nT63
                  refine And.intro (fun cz78 => ?_) (fun cz78 => False.elim (absurd cz78 (by decide)))
                  refine And.intro (Wdo_87 hW) ?_
                  rw [pp_10 (x := 87) (by decide)]
                  rw [vv77]
                  have ez87 : ((nI ((nv (E 1 8)))) * nI 7) + nI 4 = nI (((nv (E 1 8))) * 7 + 4) := by simp only [nI_add, pk_mul]
                  refine And.intro (LWi_9 hB2 (vi ez87 (by omega))) ?_
                  rw [vc ez87 (by omega)]
                  rw [pp_u2 (y := b) (f := 9) (by omega) (by decide)]
                  refine And.intro ⟨by omega, Nat.le_of_ble_eq_true rfl, Nat.le_refl _, Nat.le_refl _⟩ (And.intro (Wdo_87 hW) ?_)
                  refine D76 (s0 := 15) (w0 := lN 238804) hW hB2 hdj (by decide) (by decide) wl_15 (by omega) (su77.1) ?_ ?_
                  · -- a way behind the call
                    intro D9 K9 f9 p9 ez9 g7 g8 g9
                    refine And.intro (fun cz91 => ?_) (fun cz91 => False.elim (absurd cz91 (by decide)))
                    refine And.intro ⟨rfl, Or.inl rfl, Nat.le_refl _, Nat.le_refl _⟩ ?_
                    exact hF _ _ _ f9 p9 (by simp only [prayerL, rb, ev12, ev16, ep28, ep41, ep46, ep59, ev63, ep77, ez9]) g7 g8 g9
                  · -- a way behind the call
                    intro D90a K90a j90a ep90 su90 vv90
                    have nT90 : ((tAdd (T) (coT B n (i)) 8 (E 1 8)) : NT) = (((tAdd (T) (coT B n (i)) 8 (E 1 8))).1, K90a 3, D90a 4, D90a 5) := by rw [su90.2.2.2.1, su90.2.1, su90.2.2.1]; exact nT77
                    refine And.intro (fun cz91 => False.elim (absurd cz91 (by decide))) (fun cz91 => ?_)
                    refine And.intro ⟨by omega, Nat.le_of_ble_eq_true rfl, Nat.le_refl _, Nat.le_refl _⟩ (And.intro (Wdo_87 hW) ?_)
                    refine D79 (lo := nI 0) (hi0 := nI 99) hW hB2 hdj (by omega) (su90.1) ?_ ?_
                    · -- a way behind the call
                      intro D9 K9 f9 p9 ez9 g7 g8 g9
                      refine And.intro (fun cz96 => False.elim (absurd cz96 (by decide))) (fun cz96 => ?_)
                      refine And.intro ⟨rfl, Or.inl rfl, Nat.le_refl _, Nat.le_refl _⟩ ?_
                      exact hF _ _ _ f9 p9 (by simp only [prayerL, rb, ev12, ev16, ep28, ep41, ep46, ep59, ev63, ep77, ep90, ez9]) g7 g8 g9
                    · -- a way behind the call
                      intro D95a K95a x95a j95a ep95 su95 vv95
                      have nT95 : ((tAdd (T) (coT B n (i)) 8 (E 1 8)) : NT) = (((tAdd (T) (coT B n (i)) 8 (E 1 8))).1, K95a 3, D95a 4, D95a 5) := by rw [su95.2.2.2.1, su95.2.1, su95.2.2.1]; exact nT90
                      refine And.intro (fun cz96 => ?_) (fun cz96 => False.elim (absurd cz96 (by decide)))
                      refine And.intro (Wdo_87 hW) ?_
                      rw [pp_10 (x := 87) (by decide)]
                      rw [vv95]
                      have ez105 : ((nI ((nv (E 1 8)))) * nI 7) + nI 5 = nI (((nv (E 1 8))) * 7 + 5) := by simp only [nI_add, pk_mul]
                      refine And.intro (LWi_9 hB2 (vi ez105 (by omega))) ?_
                      rw [vc ez105 (by omega)]
                      rw [pp_u2 (y := b) (f := 9) (by omega) (by decide)]
                      refine And.intro ⟨by omega, Nat.le_of_ble_eq_true rfl, Nat.le_refl _, Nat.le_refl _⟩ (And.intro (Wdo_87 hW) ?_)
                      refine D76 (s0 := 16) (w0 := lN 464036) hW hB2 hdj (by decide) (by decide) wl_16 (by omega) (su95.1) ?_ ?_
                      · -- a way behind the call
                        intro D9 K9 f9 p9 ez9 g7 g8 g9
                        refine And.intro (fun cz109 => ?_) (fun cz109 => False.elim (absurd cz109 (by decide)))
                        refine And.intro ⟨rfl, Or.inl rfl, Nat.le_refl _, Nat.le_refl _⟩ ?_
                        exact hF _ _ _ f9 p9 (by simp only [prayerL, rb, ev12, ev16, ep28, ep41, ep46, ep59, ev63, ep77, ep90, ep95, ez9]) g7 g8 g9
                      · -- a way behind the call
                        intro D108a K108a j108a ep108 su108 vv108
                        have nT108 : ((tAdd (T) (coT B n (i)) 8 (E 1 8)) : NT) = (((tAdd (T) (coT B n (i)) 8 (E 1 8))).1, K108a 3, D108a 4, D108a 5) := by rw [su108.2.2.2.1, su108.2.1, su108.2.2.1]; exact nT95
                        refine And.intro (fun cz109 => False.elim (absurd cz109 (by decide))) (fun cz109 => ?_)
                        refine And.intro ⟨by omega, Nat.le_of_ble_eq_true rfl, Nat.le_refl _, Nat.le_refl _⟩ (And.intro (Wdo_87 hW) ?_)
                        refine D79 (lo := nI 0) (hi0 := nI 99) hW hB2 hdj (by omega) (su108.1) ?_ ?_
                        · -- a way behind the call
                          intro D9 K9 f9 p9 ez9 g7 g8 g9
                          refine And.intro (fun cz114 => False.elim (absurd cz114 (by decide))) (fun cz114 => ?_)
                          refine And.intro ⟨rfl, Or.inl rfl, Nat.le_refl _, Nat.le_refl _⟩ ?_
                          exact hF _ _ _ f9 p9 (by simp only [prayerL, rb, ev12, ev16, ep28, ep41, ep46, ep59, ev63, ep77, ep90, ep95, ep108, ez9]) g7 g8 g9
                        · -- a way behind the call
                          intro D113a K113a x113a j113a ep113 su113 vv113
                          have nT113 : ((tAdd (T) (coT B n (i)) 8 (E 1 8)) : NT) = (((tAdd (T) (coT B n (i)) 8 (E 1 8))).1, K113a 3, D113a 4, D113a 5) := by rw [su113.2.2.2.1, su113.2.1, su113.2.2.1]; exact nT108
                          refine And.intro (fun cz114 => ?_) (fun cz114 => False.elim (absurd cz114 (by decide)))
                          refine And.intro (Wdo_87 hW) ?_
                          rw [pp_10 (x := 87) (by decide)]
                          rw [vv113]
                          have ez123 : ((nI ((nv (E 1 8)))) * nI 7) + nI 6 = nI (((nv (E 1 8))) * 7 + 6) := by simp only [nI_add, pk_mul]
                          refine And.intro (LWi_9 hB2 (vi ez123 (by omega))) ?_
                          rw [vc ez123 (by omega)]
                          rw [pp_u2 (y := b) (f := 9) (by omega) (by decide)]
                          refine And.intro ⟨rfl, Or.inr rfl, Nat.le_refl _, Nat.le_refl _⟩ ?_
                          exact hO _ _ _ ((tAdd (T) (coT B n (i)) 8 (E 1 8))) _ (by simp only [prayerL, rb, ev12, ev16, ep28, ep41, ep46, ep59, ev63, ep77, ep90, ep95, ep108, ep113]) (su113.1) nT113
def villL (T : NT) (E : Nat → Nat → Int32) (B : Nat → Int32) (n i : Nat) : Rs LSt := rb (tTell T 10 E B n i) fun t => rb (pCell E B n t.2) fun c => rb (pWord (lN 19965396) B n c.2) fun i => rb (tUse t.1 4 B n i) fun g => .inr (t.1, ud (ud E 11 (nv (E 1 10)) c.1) 18 (nv (E 1 10)) g.1, g.2)
theorem L71 {d : Nat} {m : Mm} {Q : Option Value → Mm → Prop} {b : Nat} {E : Nat → Nat → Int32} {L : Nat → Nat → Int64} (hW : Wd m.2.2) (hB2 : LW m.2.2 b) (hdj : b + 19 ≤ 87 ∨ 87 + 6 ≤ b) {D : Nat → Nat → Int32} {K : Nat → Nat → Int64} {B : Nat → Int32} {n i : Nat} {T : NT} (hd : 10 ≤ d) (hb4 : va_rf (mR m 87 4) = .ref b) (hR : RS B n T.1 i D K) (hTT : T = (T.1, K 3, D 4, D 5)) (hk24 : T.1 ≤ 24) (hkl : T.1 < 24) (hv : E 1 10 = nI (nv (E 1 10))) (hvl : nv (E 1 10) < 4) {nt gn : Nat} (h2 : TS T 2 nt) (hnt : nt ≤ 6) (h4 : TS T 4 gn) (hgn : gn ≤ 6) (hF : ∀ D1 K1 E1 f p, villL T E B n i = .inl (f, p) → D1 0 7 = nI f → D1 0 8 = nI p → D1 1 1 = nI 0 → Q (some (.int (nI 0))) (pp m 87 6 D1 K1 b 19 E1 L)) (hO : ∀ (D1 : Nat → Nat → Int32) (K1 : Nat → Nat → Int64) E1 (T1 : NT) j, villL T E B n i = .inr (T1, E1, j) → RS B n T1.1 j D1 K1 → T1 = (T1.1, K1 3, D1 4, D1 5) → Q (some (.int (nI 1))) (pp m 87 6 D1 K1 b 19 E1 L)) : Cc d 0 0 71 [.ref 87] (pp m 87 6 D K b 19 E L) Q := by
  refine ent (n := 100) z71 (by decide) rfl (by decide) (Nat.le_of_ble_eq_true rfl) (fun sc => ?_)
  refine And.intro (Wdo_87 hW) (Exists.intro _ (And.intro hb4 ?_))
  refine And.intro ⟨by omega, Nat.le_of_ble_eq_true rfl, Nat.le_refl _, Nat.le_refl _⟩ (And.intro (LWo_0 hB2) ?_)
  refine C25 (m := (pp m 87 6 D K b 19 E L)) hB2 ?_
  rw [pp_2 (y := b) (f := 1) (by omega) (by decide)]
  rw [hv]
  refine And.intro ⟨by omega, Nat.le_of_ble_eq_true rfl, Nat.le_refl _, Nat.le_refl _⟩ (And.intro (Wdo_87 hW) ?_)
  refine D82 (so := 10) hW hB2 hdj (by decide) hb4 (by omega) (hR)  hkl ?_ ?_
  · -- a way behind the call
    intro D9 K9 f9 p9 ez8 g7 g8 g9
    have ez9 : tTell (T) 10 (E) B n (i) = .inl (f9, p9) := by unfold tTell; rw [hTT]; show rb (pTell (K 3) (T).1 B n (i)) _ = _; rw [ez8]; rfl
    refine And.intro (fun cz7 => ?_) (fun cz7 => False.elim (absurd cz7 (by decide)))
    refine And.intro ⟨rfl, Or.inl rfl, Nat.le_refl _, Nat.le_refl _⟩ ?_
    exact hF _ _ _ f9 p9 (by simp only [villL, rb, ez9]) g7 g8 g9
  · -- a way behind the call
    intro D6a K6a j6a ep6 rr6 q36 q46 q56 q96
    have ev6 : tTell (T) 10 (E) B n (i) = .inr ((tAdd (T) (coT B n (i)) 10 (E 1 10)), j6a) := by unfold tTell; rw [show (T).2.1 = K 3 from congrArg (fun z : NT => z.2.1) hTT]; rw [ep6]; rfl
    have nT6 : ((tAdd (T) (coT B n (i)) 10 (E 1 10)) : NT) = ((tAdd (T) (coT B n (i)) 10 (E 1 10)).1, K6a 3, D6a 4, D6a 5) := by rw [q36, q46, q56]; unfold tAdd; rw [hTT]
    refine And.intro (fun cz7 => False.elim (absurd cz7 (by decide))) (fun cz7 => ?_)
    refine And.intro ⟨by omega, Nat.le_of_ble_eq_true rfl, Nat.le_refl _, Nat.le_refl _⟩ (And.intro (Wdo_87 hW) ?_)
    refine D74 hW hB2 hdj hb4 (by omega) nT6 (rr6)  ?_ ?_
    · -- a way behind the call
      intro D9 K9 f9 p9 ez9 g7 g8 g9
      refine And.intro (fun cz10 => False.elim (absurd cz10 (by decide))) (fun cz10 => ?_)
      refine And.intro ⟨rfl, Or.inl rfl, Nat.le_refl _, Nat.le_refl _⟩ ?_
      exact hF _ _ _ f9 p9 (by simp only [villL, rb, ev6, ez9]) g7 g8 g9
    · -- a way behind the call
      intro D9a K9a x9a j9a ep9 rr9 nT9 vv9
      refine And.intro (fun cz10 => ?_) (fun cz10 => False.elim (absurd cz10 (by decide)))
      refine And.intro (Wdo_87 hW) (Exists.intro _ (And.intro hb4 ?_))
      refine And.intro (LWo_0 hB2) (Exists.intro _ (And.intro (LWr_0_14 hB2) ?_))
      refine And.intro (Wdo_87 hW) ?_
      rw [pp_10 (x := 87) (by decide)]
      rw [vv9]
      refine And.intro (LWi_11 hB2 (vi rfl (by omega))) ?_
      rw [nI_clamp (show (nv (E 1 10)) < 2 ^ 31 by omega)]
      rw [pp_u2 (y := b) (f := 11) (by omega) (by decide)]
      refine And.intro ⟨by omega, Nat.le_of_ble_eq_true rfl, Nat.le_refl _, Nat.le_refl _⟩ (And.intro (Wdo_87 hW) ?_)
      refine D76 (s0 := 17) (w0 := lN 19965396) hW hB2 hdj (by decide) (by decide) wl_17 (by omega) (rr9) ?_ ?_
      · -- a way behind the call
        intro D9 K9 f9 p9 ez9 g7 g8 g9
        refine And.intro (fun cz23 => ?_) (fun cz23 => False.elim (absurd cz23 (by decide)))
        refine And.intro ⟨rfl, Or.inl rfl, Nat.le_refl _, Nat.le_refl _⟩ ?_
        exact hF _ _ _ f9 p9 (by simp only [villL, rb, ev6, ep9, ez9]) g7 g8 g9
      · -- a way behind the call
        intro D22a K22a j22a ep22 su22 vv22
        have nT22 : ((tAdd (T) (coT B n (i)) 10 (E 1 10)) : NT) = (((tAdd (T) (coT B n (i)) 10 (E 1 10))).1, K22a 3, D22a 4, D22a 5) := by rw [su22.2.2.2.1, su22.2.1, su22.2.2.1]; exact nT9
        refine And.intro (fun cz23 => False.elim (absurd cz23 (by decide))) (fun cz23 => ?_)
        refine And.intro ⟨by omega, Nat.le_of_ble_eq_true rfl, Nat.le_refl _, Nat.le_refl _⟩ (And.intro (Wdo_87 hW) ?_)
        refine D83 (so := nI 4) hW hB2 hdj (by omega) (su22.1)  (by show (T : NT).1 + 1 ≤ 24; omega) ?_ ?_
        · -- a way behind the call
          intro D9 K9 f9 p9 ez8 g7 g8 g9
          have ez9 : tUse ((tAdd (T) (coT B n (i)) 10 (E 1 10))) 4 B n (j22a) = .inl (f9, p9) := by rw [nT22]; exact ez8
          refine And.intro (fun cz27 => False.elim (absurd cz27 (by decide))) (fun cz27 => ?_)
          refine And.intro ⟨rfl, Or.inl rfl, Nat.le_refl _, Nat.le_refl _⟩ ?_
          exact hF _ _ _ f9 p9 (by simp only [villL, rb, ev6, ep9, ep22, ez9]) g7 g8 g9
        · -- a way behind the call
          intro D26a K26a x26a j26a ep26 su26 vv26
          have ev26 : tUse ((tAdd (T) (coT B n (i)) 10 (E 1 10))) 4 B n (j22a) = .inr (x26a, j26a) := by rw [nT22]; exact ep26
          have nT26 : ((tAdd (T) (coT B n (i)) 10 (E 1 10)) : NT) = (((tAdd (T) (coT B n (i)) 10 (E 1 10))).1, K26a 3, D26a 4, D26a 5) := by rw [su26.2.2.2.1, su26.2.1, su26.2.2.1]; exact nT22
          have iv26 := TS_u (TS_a h4 (by decide) (by decide) (by decide)) (by omega) ev26
          refine And.intro (fun cz27 => ?_) (fun cz27 => False.elim (absurd cz27 (by decide)))
          refine And.intro (Wdo_87 hW) (Exists.intro _ (And.intro hb4 ?_))
          refine And.intro (LWo_0 hB2) (Exists.intro _ (And.intro (LWr_0_18 hB2) ?_))
          refine And.intro (LWo_15 hB2) (Exists.intro _ (And.intro (LWr_15_4 hB2) ?_))
          refine And.intro (Wdo_87 hW) ?_
          rw [pp_10 (x := 87) (by decide)]
          rw [vv26]
          refine And.intro (LWi_18 hB2 (vi rfl (by omega))) ?_
          rw [nI_clamp (show (nv (E 1 10)) < 2 ^ 31 by omega)]
          rw [pp_u2 (y := b) (f := 18) (by omega) (by decide)]
          refine And.intro ⟨rfl, Or.inr rfl, Nat.le_refl _, Nat.le_refl _⟩ ?_
          exact hO _ _ _ ((tAdd (T) (coT B n (i)) 10 (E 1 10))) _ (by simp only [villL, rb, ev6, ep9, ep22, ev26]) (su26.1) nT26
def spellL (T : NT) (E : Nat → Nat → Int32) (B : Nat → Int32) (n i : Nat) : Rs LSt := rb (pPick [lN 37011, lN 21015731, lN 21279923, lN 645974195] B n i) fun a => rb (pWhole (nI 1) (nI 9) B n a.2) fun x => .inr (T, ud (ud E 12 (nv (E 1 11)) a.1) 13 (nv (E 1 11)) x.1, x.2)
theorem L72 {d : Nat} {m : Mm} {Q : Option Value → Mm → Prop} {b : Nat} {E : Nat → Nat → Int32} {L : Nat → Nat → Int64} (hW : Wd m.2.2) (hB2 : LW m.2.2 b) (hdj : b + 19 ≤ 87 ∨ 87 + 6 ≤ b) {D : Nat → Nat → Int32} {K : Nat → Nat → Int64} {B : Nat → Int32} {n i : Nat} {T : NT} (hd : 10 ≤ d) (hb4 : va_rf (mR m 87 4) = .ref b) (hR : RS B n T.1 i D K) (hTT : T = (T.1, K 3, D 4, D 5)) (hk24 : T.1 ≤ 24) (hs : E 1 11 = nI (nv (E 1 11))) (hsl : nv (E 1 11) < 6) (hF : ∀ D1 K1 E1 f p, spellL T E B n i = .inl (f, p) → D1 0 7 = nI f → D1 0 8 = nI p → D1 1 1 = nI 0 → Q (some (.int (nI 0))) (pp m 87 6 D1 K1 b 19 E1 L)) (hO : ∀ (D1 : Nat → Nat → Int32) (K1 : Nat → Nat → Int64) E1 (T1 : NT) j, spellL T E B n i = .inr (T1, E1, j) → RS B n T1.1 j D1 K1 → T1 = (T1.1, K1 3, D1 4, D1 5) → Q (some (.int (nI 1))) (pp m 87 6 D1 K1 b 19 E1 L)) : Cc d 0 0 72 [.ref 87] (pp m 87 6 D K b 19 E L) Q := by
  refine ent (n := 90) z72 (by decide) rfl (by decide) (Nat.le_of_ble_eq_true rfl) (fun sc => ?_)
  refine And.intro (Wdo_87 hW) (Exists.intro _ (And.intro hb4 ?_))
  refine And.intro (LWo_0 hB2) (Exists.intro _ (And.intro (LWr_0_4 hB2) ?_))
  refine And.intro (LWi_1 hB2 (vi rfl (by omega))) ?_
  rw [nI_clamp (show 11 < 2 ^ 31 by omega)]
  rw [pp_2 (y := b) (f := 1) (by omega) (by decide)]
  rw [hs]
  refine And.intro ⟨by omega, Nat.le_of_ble_eq_true rfl, Nat.le_refl _, Nat.le_refl _⟩ (And.intro (Wdo_87 hW) ?_)
  refine D77 (s0 := 18) (cs := [lN 37011, lN 21015731, lN 21279923, lN 645974195]) hW hB2 hdj (by decide) (by decide) wl_18 (by omega) (hR) ?_ ?_
  · -- a way behind the call
    intro D9 K9 f9 p9 ez9 g7 g8 g9
    refine And.intro (fun cz9 => False.elim (absurd cz9 (by decide))) (fun cz9 => ?_)
    refine And.intro ⟨rfl, Or.inl rfl, Nat.le_refl _, Nat.le_refl _⟩ ?_
    exact hF _ _ _ f9 p9 (by simp only [spellL, rb, ez9]) g7 g8 g9
  · -- a way behind the call
    intro D8a K8a x8a j8a ep8 su8 vv8
    have nT8 : (T : NT) = ((T).1, K8a 3, D8a 4, D8a 5) := by rw [su8.2.2.2.1, su8.2.1, su8.2.2.1]; exact hTT
    refine And.intro (fun cz9 => ?_) (fun cz9 => False.elim (absurd cz9 (by decide)))
    refine And.intro (Wdo_87 hW) (Exists.intro _ (And.intro hb4 ?_))
    refine And.intro (LWo_0 hB2) (Exists.intro _ (And.intro (LWr_0_15 hB2) ?_))
    refine And.intro (Wdo_87 hW) ?_
    rw [pp_10 (x := 87) (by decide)]
    rw [vv8]
    refine And.intro (LWi_12 hB2 (vi rfl (by omega))) ?_
    rw [nI_clamp (show (nv (E 1 11)) < 2 ^ 31 by omega)]
    rw [pp_u2 (y := b) (f := 12) (by omega) (by decide)]
    refine And.intro ⟨by omega, Nat.le_of_ble_eq_true rfl, Nat.le_refl _, Nat.le_refl _⟩ (And.intro (Wdo_87 hW) ?_)
    refine D79 (lo := nI 1) (hi0 := nI 9) hW hB2 hdj (by omega) (su8.1) ?_ ?_
    · -- a way behind the call
      intro D9 K9 f9 p9 ez9 g7 g8 g9
      refine And.intro (fun cz23 => False.elim (absurd cz23 (by decide))) (fun cz23 => ?_)
      refine And.intro ⟨rfl, Or.inl rfl, Nat.le_refl _, Nat.le_refl _⟩ ?_
      exact hF _ _ _ f9 p9 (by simp only [spellL, rb, ep8, ez9]) g7 g8 g9
    · -- a way behind the call
      intro D22a K22a x22a j22a ep22 su22 vv22
      have nT22 : (T : NT) = ((T).1, K22a 3, D22a 4, D22a 5) := by rw [su22.2.2.2.1, su22.2.1, su22.2.2.1]; exact nT8
      refine And.intro (fun cz23 => ?_) (fun cz23 => False.elim (absurd cz23 (by decide)))
      refine And.intro (Wdo_87 hW) (Exists.intro _ (And.intro hb4 ?_))
      refine And.intro (LWo_0 hB2) (Exists.intro _ (And.intro (LWr_0_16 hB2) ?_))
      refine And.intro (Wdo_87 hW) ?_
      rw [pp_10 (x := 87) (by decide)]
      rw [vv22]
      refine And.intro (LWi_13 hB2 (vi rfl (by omega))) ?_
      rw [nI_clamp (show (nv (E 1 11)) < 2 ^ 31 by omega)]
      rw [pp_u2 (y := b) (f := 13) (by omega) (by decide)]
      refine And.intro ⟨rfl, Or.inr rfl, Nat.le_refl _, Nat.le_refl _⟩ ?_
      exact hO _ _ _ (T) _ (by simp only [spellL, rb, ep8, ep22]) (su22.1) nT22
def sawL (T : NT) (E : Nat → Nat → Int32) (B : Nat → Int32) (n i : Nat) : Rs LSt := rb (tUse T 2 B n i) fun x => rb (pGround (nI 0) B n x.2) fun s => rb (pWhole (nI 0) (nI 23) B n s.2) fun h => rb (pPick [lN 463, lN 25779] B n h.2) fun y => .inr (T, ud (ud (ud (ud E 14 (nv (E 1 12) * 4) x.1) 14 (nv (E 1 12) * 4 + 1) s.1) 14 (nv (E 1 12) * 4 + 2) h.1) 14 (nv (E 1 12) * 4 + 3) y.1, y.2)
theorem L73 {d : Nat} {m : Mm} {Q : Option Value → Mm → Prop} {b : Nat} {E : Nat → Nat → Int32} {L : Nat → Nat → Int64} (hW : Wd m.2.2) (hB2 : LW m.2.2 b) (hdj : b + 19 ≤ 87 ∨ 87 + 6 ≤ b) {D : Nat → Nat → Int32} {K : Nat → Nat → Int64} {B : Nat → Int32} {n i : Nat} {T : NT} (hd : 10 ≤ d) (hb4 : va_rf (mR m 87 4) = .ref b) (hR : RS B n T.1 i D K) (hTT : T = (T.1, K 3, D 4, D 5)) (hk24 : T.1 ≤ 24) (hs : E 1 12 = nI (nv (E 1 12))) (hsl : nv (E 1 12) < 8) {nt gn : Nat} (h2 : TS T 2 nt) (hnt : nt ≤ 6) (h4 : TS T 4 gn) (hgn : gn ≤ 6) (hF : ∀ D1 K1 E1 f p, sawL T E B n i = .inl (f, p) → D1 0 7 = nI f → D1 0 8 = nI p → D1 1 1 = nI 0 → Q (some (.int (nI 0))) (pp m 87 6 D1 K1 b 19 E1 L)) (hO : ∀ (D1 : Nat → Nat → Int32) (K1 : Nat → Nat → Int64) E1 (T1 : NT) j, sawL T E B n i = .inr (T1, E1, j) → RS B n T1.1 j D1 K1 → T1 = (T1.1, K1 3, D1 4, D1 5) → Q (some (.int (nI 1))) (pp m 87 6 D1 K1 b 19 E1 L)) : Cc d 0 0 73 [.ref 87] (pp m 87 6 D K b 19 E L) Q := by
  refine ent (n := 158) z73 (by decide) rfl (by decide) (Nat.le_of_ble_eq_true rfl) (fun sc => ?_)
  refine And.intro (Wdo_87 hW) (Exists.intro _ (And.intro hb4 ?_))
  refine And.intro (LWo_0 hB2) (Exists.intro _ (And.intro (LWr_0_4 hB2) ?_))
  refine And.intro (LWi_1 hB2 (vi rfl (by omega))) ?_
  rw [nI_clamp (show 12 < 2 ^ 31 by omega)]
  rw [pp_2 (y := b) (f := 1) (by omega) (by decide)]
  rw [hs]
  refine And.intro ⟨by omega, Nat.le_of_ble_eq_true rfl, Nat.le_refl _, Nat.le_refl _⟩ (And.intro (Wdo_87 hW) ?_)
  refine D83 (so := nI 2) hW hB2 hdj (by omega) (hR)  hk24 ?_ ?_
  · -- a way behind the call
    intro D9 K9 f9 p9 ez8 g7 g8 g9
    have ez9 : tUse (T) 2 B n (i) = .inl (f9, p9) := by rw [hTT]; exact ez8
    refine And.intro (fun cz11 => False.elim (absurd cz11 (by decide))) (fun cz11 => ?_)
    refine And.intro ⟨rfl, Or.inl rfl, Nat.le_refl _, Nat.le_refl _⟩ ?_
    exact hF _ _ _ f9 p9 (by simp only [sawL, rb, ez9]) g7 g8 g9
  · -- a way behind the call
    intro D10a K10a x10a j10a ep10 su10 vv10
    have ev10 : tUse (T) 2 B n (i) = .inr (x10a, j10a) := by rw [hTT]; exact ep10
    have nT10 : (T : NT) = ((T).1, K10a 3, D10a 4, D10a 5) := by rw [su10.2.2.2.1, su10.2.1, su10.2.2.1]; exact hTT
    have iv10 := TS_u h2 (by omega) ev10
    refine And.intro (fun cz11 => ?_) (fun cz11 => False.elim (absurd cz11 (by decide)))
    refine And.intro (Wdo_87 hW) (Exists.intro _ (And.intro hb4 ?_))
    refine And.intro (LWo_0 hB2) (Exists.intro _ (And.intro (LWr_0_17 hB2) ?_))
    refine And.intro (Wdo_87 hW) ?_
    rw [pp_10 (x := 87) (by decide)]
    rw [vv10]
    have ez20 : (nI ((nv (E 1 12)))) * nI 4 = nI (((nv (E 1 12))) * 4) := by simp only [nI_add, pk_mul]
    refine And.intro (LWi_14 hB2 (vi ez20 (by omega))) ?_
    rw [vc ez20 (by omega)]
    rw [pp_u2 (y := b) (f := 14) (by omega) (by decide)]
    refine And.intro ⟨by omega, Nat.le_of_ble_eq_true rfl, Nat.le_refl _, Nat.le_refl _⟩ (And.intro (Wdo_87 hW) ?_)
    refine D75 hW hB2 hdj (by omega) (su10.1) ?_ ?_
    · -- a way behind the call
      intro D9 K9 f9 p9 ez9 g7 g8 g9
      refine And.intro (fun cz24 => False.elim (absurd cz24 (by decide))) (fun cz24 => ?_)
      refine And.intro ⟨rfl, Or.inl rfl, Nat.le_refl _, Nat.le_refl _⟩ ?_
      exact hF _ _ _ f9 p9 (by simp only [sawL, rb, ev10, ez9]) g7 g8 g9
    · -- a way behind the call
      intro D23a K23a x23a j23a ep23 su23 vv23
      have nT23 : (T : NT) = ((T).1, K23a 3, D23a 4, D23a 5) := by rw [su23.2.2.2.1, su23.2.1, su23.2.2.1]; exact nT10
      refine And.intro (fun cz24 => ?_) (fun cz24 => False.elim (absurd cz24 (by decide)))
      refine And.intro (Wdo_87 hW) (Exists.intro _ (And.intro hb4 ?_))
      refine And.intro (LWo_0 hB2) (Exists.intro _ (And.intro (LWr_0_17 hB2) ?_))
      refine And.intro (Wdo_87 hW) ?_
      rw [pp_10 (x := 87) (by decide)]
      rw [vv23]
      have ez35 : ((nI ((nv (E 1 12)))) * nI 4) + nI 1 = nI (((nv (E 1 12))) * 4 + 1) := by simp only [nI_add, pk_mul]
      refine And.intro (LWi_14 hB2 (vi ez35 (by omega))) ?_
      rw [vc ez35 (by omega)]
      rw [pp_u2 (y := b) (f := 14) (by omega) (by decide)]
      refine And.intro ⟨by omega, Nat.le_of_ble_eq_true rfl, Nat.le_refl _, Nat.le_refl _⟩ (And.intro (Wdo_87 hW) ?_)
      refine D79 (lo := nI 0) (hi0 := nI 23) hW hB2 hdj (by omega) (su23.1) ?_ ?_
      · -- a way behind the call
        intro D9 K9 f9 p9 ez9 g7 g8 g9
        refine And.intro (fun cz40 => False.elim (absurd cz40 (by decide))) (fun cz40 => ?_)
        refine And.intro ⟨rfl, Or.inl rfl, Nat.le_refl _, Nat.le_refl _⟩ ?_
        exact hF _ _ _ f9 p9 (by simp only [sawL, rb, ev10, ep23, ez9]) g7 g8 g9
      · -- a way behind the call
        intro D39a K39a x39a j39a ep39 su39 vv39
        have nT39 : (T : NT) = ((T).1, K39a 3, D39a 4, D39a 5) := by rw [su39.2.2.2.1, su39.2.1, su39.2.2.1]; exact nT23
        refine And.intro (fun cz40 => ?_) (fun cz40 => False.elim (absurd cz40 (by decide)))
        refine And.intro (Wdo_87 hW) (Exists.intro _ (And.intro hb4 ?_))
        refine And.intro (LWo_0 hB2) (Exists.intro _ (And.intro (LWr_0_17 hB2) ?_))
        refine And.intro (Wdo_87 hW) ?_
        rw [pp_10 (x := 87) (by decide)]
        rw [vv39]
        have ez51 : ((nI ((nv (E 1 12)))) * nI 4) + nI 2 = nI (((nv (E 1 12))) * 4 + 2) := by simp only [nI_add, pk_mul]
        refine And.intro (LWi_14 hB2 (vi ez51 (by omega))) ?_
        rw [vc ez51 (by omega)]
        rw [pp_u2 (y := b) (f := 14) (by omega) (by decide)]
        refine And.intro ⟨by omega, Nat.le_of_ble_eq_true rfl, Nat.le_refl _, Nat.le_refl _⟩ (And.intro (Wdo_87 hW) ?_)
        refine D77 (s0 := 19) (cs := [lN 463, lN 25779]) hW hB2 hdj (by decide) (by decide) wl_19 (by omega) (su39.1) ?_ ?_
        · -- a way behind the call
          intro D9 K9 f9 p9 ez9 g7 g8 g9
          refine And.intro (fun cz55 => False.elim (absurd cz55 (by decide))) (fun cz55 => ?_)
          refine And.intro ⟨rfl, Or.inl rfl, Nat.le_refl _, Nat.le_refl _⟩ ?_
          exact hF _ _ _ f9 p9 (by simp only [sawL, rb, ev10, ep23, ep39, ez9]) g7 g8 g9
        · -- a way behind the call
          intro D54a K54a x54a j54a ep54 su54 vv54
          have nT54 : (T : NT) = ((T).1, K54a 3, D54a 4, D54a 5) := by rw [su54.2.2.2.1, su54.2.1, su54.2.2.1]; exact nT39
          refine And.intro (fun cz55 => ?_) (fun cz55 => False.elim (absurd cz55 (by decide)))
          refine And.intro (Wdo_87 hW) (Exists.intro _ (And.intro hb4 ?_))
          refine And.intro (LWo_0 hB2) (Exists.intro _ (And.intro (LWr_0_17 hB2) ?_))
          refine And.intro (Wdo_87 hW) ?_
          rw [pp_10 (x := 87) (by decide)]
          rw [vv54]
          have ez66 : ((nI ((nv (E 1 12)))) * nI 4) + nI 3 = nI (((nv (E 1 12))) * 4 + 3) := by simp only [nI_add, pk_mul]
          refine And.intro (LWi_14 hB2 (vi ez66 (by omega))) ?_
          rw [vc ez66 (by omega)]
          rw [pp_u2 (y := b) (f := 14) (by omega) (by decide)]
          refine And.intro ⟨rfl, Or.inr rfl, Nat.le_refl _, Nat.le_refl _⟩ ?_
          exact hO _ _ _ (T) _ (by simp only [sawL, rb, ev10, ep23, ep39, ep54]) (su54.1) nT54
def barsL (T : NT) (E : Nat → Nat → Int32) (B : Nat → Int32) (n i : Nat) : Rs LSt := rb (tUse T 4 B n i) fun x => rb (tUse T 4 B n x.2) fun y => if y.1 = x.1 then .inl (3, plF B n x.2) else if bq (E 8 (nv x.1)) y.1 then .inl (3, plF B n x.2) else .inr (T, ud E 8 (nv x.1) (E 8 (nv x.1) ||| nI 1 <<< (y.1 &&& 31)), y.2)
theorem L68 {d : Nat} {m : Mm} {Q : Option Value → Mm → Prop} {b : Nat} {E : Nat → Nat → Int32} {L : Nat → Nat → Int64} (hW : Wd m.2.2) (hB2 : LW m.2.2 b) (hdj : b + 19 ≤ 87 ∨ 87 + 6 ≤ b) {D : Nat → Nat → Int32} {K : Nat → Nat → Int64} {B : Nat → Int32} {n i : Nat} {T : NT} (hd : 10 ≤ d) (hb4 : va_rf (mR m 87 4) = .ref b) (hR : RS B n T.1 i D K) (hTT : T = (T.1, K 3, D 4, D 5)) (hk24 : T.1 ≤ 24) {nt gn : Nat} (h2 : TS T 2 nt) (hnt : nt ≤ 6) (h4 : TS T 4 gn) (hgn : gn ≤ 6) (hF : ∀ D1 K1 E1 f p, barsL T E B n i = .inl (f, p) → D1 0 7 = nI f → D1 0 8 = nI p → D1 1 1 = nI 0 → Q (some (.int (nI 0))) (pp m 87 6 D1 K1 b 19 E1 L)) (hO : ∀ (D1 : Nat → Nat → Int32) (K1 : Nat → Nat → Int64) E1 (T1 : NT) j, barsL T E B n i = .inr (T1, E1, j) → RS B n T1.1 j D1 K1 → T1 = (T1.1, K1 3, D1 4, D1 5) → Q (some (.int (nI 1))) (pp m 87 6 D1 K1 b 19 E1 L)) : Cc d 0 0 68 [.ref 87] (pp m 87 6 D K b 19 E L) Q := by
  refine ent (n := 108) z68 (by decide) rfl (by decide) (Nat.le_of_ble_eq_true rfl) (fun sc => ?_)
  refine And.intro ⟨by omega, Nat.le_of_ble_eq_true rfl, Nat.le_refl _, Nat.le_refl _⟩ (And.intro (Wdo_87 hW) ?_)
  refine D83 (so := nI 4) hW hB2 hdj (by omega) (hR)  hk24 ?_ ?_
  · -- a way behind the call
    intro D9 K9 f9 p9 ez8 g7 g8 g9
    have ez9 : tUse (T) 4 B n (i) = .inl (f9, p9) := by rw [hTT]; exact ez8
    refine And.intro (fun cz3 => False.elim (absurd cz3 (by decide))) (fun cz3 => ?_)
    refine And.intro ⟨rfl, Or.inl rfl, Nat.le_refl _, Nat.le_refl _⟩ ?_
    exact hF _ _ _ f9 p9 (by simp only [barsL, rb, ez9]) g7 g8 g9
  · -- a way behind the call
    intro D2a K2a x2a j2a ep2 su2 vv2
    have ev2 : tUse (T) 4 B n (i) = .inr (x2a, j2a) := by rw [hTT]; exact ep2
    have nT2 : (T : NT) = ((T).1, K2a 3, D2a 4, D2a 5) := by rw [su2.2.2.2.1, su2.2.1, su2.2.2.1]; exact hTT
    have iv2 := TS_u h4 (by omega) ev2
    refine And.intro (fun cz3 => ?_) (fun cz3 => False.elim (absurd cz3 (by decide)))
    refine And.intro (Wdo_87 hW) ?_
    rw [pp_10 (x := 87) (by decide)]
    rw [vv2]
    refine And.intro ⟨by omega, Nat.le_of_ble_eq_true rfl, Nat.le_refl _, Nat.le_refl _⟩ (And.intro (Wdo_87 hW) ?_)
    refine D83 (so := nI 4) hW hB2 hdj (by omega) (su2.1)  hk24 ?_ ?_
    · -- a way behind the call
      intro D9 K9 f9 p9 ez8 g7 g8 g9
      have ez9 : tUse (T) 4 B n (j2a) = .inl (f9, p9) := by rw [nT2]; exact ez8
      refine And.intro (fun cz12 => False.elim (absurd cz12 (by decide))) (fun cz12 => ?_)
      refine And.intro ⟨rfl, Or.inl rfl, Nat.le_refl _, Nat.le_refl _⟩ ?_
      exact hF _ _ _ f9 p9 (by simp only [barsL, rb, ev2, ez9]) g7 g8 g9
    · -- a way behind the call
      intro D11a K11a x11a j11a ep11 su11 vv11
      have ev11 : tUse (T) 4 B n (j2a) = .inr (x11a, j11a) := by rw [nT2]; exact ep11
      have nT11 : (T : NT) = ((T).1, K11a 3, D11a 4, D11a 5) := by rw [su11.2.2.2.1, su11.2.1, su11.2.2.1]; exact nT2
      have iv11 := TS_u h4 (by omega) ev11
      refine And.intro (fun cz12 => ?_) (fun cz12 => False.elim (absurd cz12 (by decide)))
      refine And.intro (Wdo_87 hW) ?_
      rw [pp_10 (x := 87) (by decide)]
      rw [vv11]
      refine And.intro (fun cz18 => ?_) (fun cz18 => ?_)
      · -- 18 taken: x11a = x2a
        refine And.intro ⟨by omega, Nat.le_of_ble_eq_true rfl, Nat.le_refl _, Nat.le_refl _⟩ (And.intro (Wdo_87 hW) ?_)
        refine D85 hW hB2 hdj ?_
        refine And.intro ⟨rfl, Or.inl rfl, Nat.le_refl _, Nat.le_refl _⟩ ?_
        exact hF _ _ _ 3 (plF B n j2a) (by simp only [barsL, rb, ev2, ev11, if_pos cz18]) rfl su11.2.2.2.2 su11.1.1.2.2.2.2.2.2.2.2
      · -- 18 not: ¬ x11a = x2a
        refine And.intro (Wdo_87 hW) (Exists.intro _ (And.intro hb4 ?_))
        refine And.intro (Wdo_87 hW) ?_
        rw [pp_10 (x := 87) (by decide)]
        rw [vv11]
        refine And.intro ⟨by omega, Nat.le_of_ble_eq_true rfl, Nat.le_refl _, Nat.le_refl _⟩ (And.intro (LWo_0 hB2) ?_)
        refine C33x iv2.1 hB2 (by omega) ?_
        rw [pp_2 (y := b) (f := 8) (by omega) (by decide)]
        refine And.intro (fun cz25 => ?_) (fun cz25 => ?_)
        · -- 25 taken: bi (bq (E 8 (nv x2a)) x11a) = 0
          refine And.intro (Wdo_87 hW) (Exists.intro _ (And.intro hb4 ?_))
          refine And.intro (LWo_0 hB2) (Exists.intro _ (And.intro (LWr_0_11 hB2) ?_))
          refine And.intro ⟨rfl, rfl⟩ ?_
          refine And.intro (LWi_8 hB2 (vi iv2.1 (by omega))) ?_
          rw [vc iv2.1 (by omega)]
          rw [pp_2 (y := b) (f := 8) (by omega) (by decide)]
          refine And.intro (Wdo_87 hW) ?_
          rw [pp_10 (x := 87) (by decide)]
          rw [vv11]
          refine And.intro (LWi_8 hB2 (vi iv2.1 (by omega))) ?_
          rw [vc iv2.1 (by omega)]
          rw [pp_u2 (y := b) (f := 8) (by omega) (by decide)]
          refine And.intro ⟨rfl, Or.inr rfl, Nat.le_refl _, Nat.le_refl _⟩ ?_
          exact hO _ _ _ (T) _ (by simp only [barsL, rb, ev2, ev11, if_neg cz18, if_neg (bi_eq0.mp cz25)]) (su11.1) nT11
        · -- 25 not: ¬ bi (bq (E 8 (nv x2a)) x11a) = 0
          refine And.intro ⟨by omega, Nat.le_of_ble_eq_true rfl, Nat.le_refl _, Nat.le_refl _⟩ (And.intro (Wdo_87 hW) ?_)
          refine D85 hW hB2 hdj ?_
          refine And.intro ⟨rfl, Or.inl rfl, Nat.le_refl _, Nat.le_refl _⟩ ?_
          exact hF _ _ _ 3 (plF B n j2a) (by simp only [barsL, rb, ev2, ev11, if_neg cz18, if_pos (bi_ne0.mp cz25)]) rfl su11.2.2.2.2 su11.1.1.2.2.2.2.2.2.2.2
def clashL (T : NT) (E : Nat → Nat → Int32) (B : Nat → Int32) (n i : Nat) : Rs LSt := rb (tUse T 8 B n i) fun x => rb (tUse T 8 B n x.2) fun y => if y.1 = x.1 then .inl (3, plF B n x.2) else if bq (E 10 (nv x.1)) y.1 then .inl (3, plF B n x.2) else .inr (T, ud (ud E 10 (nv x.1) (E 10 (nv x.1) ||| nI 1 <<< (y.1 &&& 31))) 10 (nv y.1) ((ud E 10 (nv x.1) (E 10 (nv x.1) ||| nI 1 <<< (y.1 &&& 31))) 10 (nv y.1) ||| nI 1 <<< (x.1 &&& 31)), y.2)
theorem L70 {d : Nat} {m : Mm} {Q : Option Value → Mm → Prop} {b : Nat} {E : Nat → Nat → Int32} {L : Nat → Nat → Int64} (hW : Wd m.2.2) (hB2 : LW m.2.2 b) (hdj : b + 19 ≤ 87 ∨ 87 + 6 ≤ b) {D : Nat → Nat → Int32} {K : Nat → Nat → Int64} {B : Nat → Int32} {n i : Nat} {T : NT} (hd : 10 ≤ d) (hb4 : va_rf (mR m 87 4) = .ref b) (hR : RS B n T.1 i D K) (hTT : T = (T.1, K 3, D 4, D 5)) (hk24 : T.1 ≤ 24) {np : Nat} (h8 : TS T 8 np) (hnp : np ≤ 8) (hF : ∀ D1 K1 E1 f p, clashL T E B n i = .inl (f, p) → D1 0 7 = nI f → D1 0 8 = nI p → D1 1 1 = nI 0 → Q (some (.int (nI 0))) (pp m 87 6 D1 K1 b 19 E1 L)) (hO : ∀ (D1 : Nat → Nat → Int32) (K1 : Nat → Nat → Int64) E1 (T1 : NT) j, clashL T E B n i = .inr (T1, E1, j) → RS B n T1.1 j D1 K1 → T1 = (T1.1, K1 3, D1 4, D1 5) → Q (some (.int (nI 1))) (pp m 87 6 D1 K1 b 19 E1 L)) : Cc d 0 0 70 [.ref 87] (pp m 87 6 D K b 19 E L) Q := by
  refine ent (n := 142) z70 (by decide) rfl (by decide) (Nat.le_of_ble_eq_true rfl) (fun sc => ?_)
  refine And.intro ⟨by omega, Nat.le_of_ble_eq_true rfl, Nat.le_refl _, Nat.le_refl _⟩ (And.intro (Wdo_87 hW) ?_)
  refine D83 (so := nI 8) hW hB2 hdj (by omega) (hR)  hk24 ?_ ?_
  · -- a way behind the call
    intro D9 K9 f9 p9 ez8 g7 g8 g9
    have ez9 : tUse (T) 8 B n (i) = .inl (f9, p9) := by rw [hTT]; exact ez8
    refine And.intro (fun cz3 => False.elim (absurd cz3 (by decide))) (fun cz3 => ?_)
    refine And.intro ⟨rfl, Or.inl rfl, Nat.le_refl _, Nat.le_refl _⟩ ?_
    exact hF _ _ _ f9 p9 (by simp only [clashL, rb, ez9]) g7 g8 g9
  · -- a way behind the call
    intro D2a K2a x2a j2a ep2 su2 vv2
    have ev2 : tUse (T) 8 B n (i) = .inr (x2a, j2a) := by rw [hTT]; exact ep2
    have nT2 : (T : NT) = ((T).1, K2a 3, D2a 4, D2a 5) := by rw [su2.2.2.2.1, su2.2.1, su2.2.2.1]; exact hTT
    have iv2 := TS_u h8 (by omega) ev2
    refine And.intro (fun cz3 => ?_) (fun cz3 => False.elim (absurd cz3 (by decide)))
    refine And.intro (Wdo_87 hW) ?_
    rw [pp_10 (x := 87) (by decide)]
    rw [vv2]
    refine And.intro ⟨by omega, Nat.le_of_ble_eq_true rfl, Nat.le_refl _, Nat.le_refl _⟩ (And.intro (Wdo_87 hW) ?_)
    refine D83 (so := nI 8) hW hB2 hdj (by omega) (su2.1)  hk24 ?_ ?_
    · -- a way behind the call
      intro D9 K9 f9 p9 ez8 g7 g8 g9
      have ez9 : tUse (T) 8 B n (j2a) = .inl (f9, p9) := by rw [nT2]; exact ez8
      refine And.intro (fun cz12 => False.elim (absurd cz12 (by decide))) (fun cz12 => ?_)
      refine And.intro ⟨rfl, Or.inl rfl, Nat.le_refl _, Nat.le_refl _⟩ ?_
      exact hF _ _ _ f9 p9 (by simp only [clashL, rb, ev2, ez9]) g7 g8 g9
    · -- a way behind the call
      intro D11a K11a x11a j11a ep11 su11 vv11
      have ev11 : tUse (T) 8 B n (j2a) = .inr (x11a, j11a) := by rw [nT2]; exact ep11
      have nT11 : (T : NT) = ((T).1, K11a 3, D11a 4, D11a 5) := by rw [su11.2.2.2.1, su11.2.1, su11.2.2.1]; exact nT2
      have iv11 := TS_u h8 (by omega) ev11
      refine And.intro (fun cz12 => ?_) (fun cz12 => False.elim (absurd cz12 (by decide)))
      refine And.intro (Wdo_87 hW) ?_
      rw [pp_10 (x := 87) (by decide)]
      rw [vv11]
      refine And.intro (fun cz18 => ?_) (fun cz18 => ?_)
      · -- 18 taken: x11a = x2a
        refine And.intro ⟨by omega, Nat.le_of_ble_eq_true rfl, Nat.le_refl _, Nat.le_refl _⟩ (And.intro (Wdo_87 hW) ?_)
        refine D85 hW hB2 hdj ?_
        refine And.intro ⟨rfl, Or.inl rfl, Nat.le_refl _, Nat.le_refl _⟩ ?_
        exact hF _ _ _ 3 (plF B n j2a) (by simp only [clashL, rb, ev2, ev11, if_pos cz18]) rfl su11.2.2.2.2 su11.1.1.2.2.2.2.2.2.2.2
      · -- 18 not: ¬ x11a = x2a
        refine And.intro (Wdo_87 hW) (Exists.intro _ (And.intro hb4 ?_))
        refine And.intro (LWo_0 hB2) (Exists.intro _ (And.intro (LWr_0_13 hB2) ?_))
        refine And.intro (LWi_10 hB2 (vi iv2.1 (by omega))) ?_
        rw [vc iv2.1 (by omega)]
        rw [pp_2 (y := b) (f := 10) (by omega) (by decide)]
        refine And.intro (Wdo_87 hW) ?_
        rw [pp_10 (x := 87) (by decide)]
        rw [vv11]
        refine And.intro (fun cz30 => ?_) (fun cz30 => ?_)
        · -- 30 taken: ¬ ((E 10 ((nv x2a))) >>> (x11a &&& 31)) &&& nI 1 = nI 1
          refine And.intro (Wdo_87 hW) (Exists.intro _ (And.intro hb4 ?_))
          refine And.intro (LWo_0 hB2) (Exists.intro _ (And.intro (LWr_0_13 hB2) ?_))
          refine And.intro ⟨rfl, rfl⟩ ?_
          refine And.intro (LWi_10 hB2 (vi iv2.1 (by omega))) ?_
          rw [vc iv2.1 (by omega)]
          rw [pp_2 (y := b) (f := 10) (by omega) (by decide)]
          refine And.intro (Wdo_87 hW) ?_
          rw [pp_10 (x := 87) (by decide)]
          rw [vv11]
          refine And.intro (LWi_10 hB2 (vi iv2.1 (by omega))) ?_
          rw [vc iv2.1 (by omega)]
          rw [pp_u2 (y := b) (f := 10) (by omega) (by decide)]
          refine And.intro (Wdo_87 hW) (Exists.intro _ (And.intro hb4 ?_))
          refine And.intro (LWo_0 hB2) (Exists.intro _ (And.intro (LWr_0_13 hB2) ?_))
          refine And.intro (Wdo_87 hW) ?_
          rw [pp_10 (x := 87) (by decide)]
          rw [vv11]
          refine And.intro ⟨rfl, rfl⟩ ?_
          refine And.intro (LWi_10 hB2 (vi iv11.1 (by omega))) ?_
          rw [vc iv11.1 (by omega)]
          rw [pp_2 (y := b) (f := 10) (by omega) (by decide)]
          refine And.intro (LWi_10 hB2 (vi iv11.1 (by omega))) ?_
          rw [vc iv11.1 (by omega)]
          rw [pp_u2 (y := b) (f := 10) (by omega) (by decide)]
          refine And.intro ⟨rfl, Or.inr rfl, Nat.le_refl _, Nat.le_refl _⟩ ?_
          exact hO _ _ _ (T) _ (by simp only [clashL, rb, ev2, ev11, if_neg cz18, if_neg cz30]) (su11.1) nT11
        · -- 30 not: ((E 10 ((nv x2a))) >>> (x11a &&& 31)) &&& nI 1 = nI 1
          refine And.intro ⟨by omega, Nat.le_of_ble_eq_true rfl, Nat.le_refl _, Nat.le_refl _⟩ (And.intro (Wdo_87 hW) ?_)
          refine D85 hW hB2 hdj ?_
          refine And.intro ⟨rfl, Or.inl rfl, Nat.le_refl _, Nat.le_refl _⟩ ?_
          exact hF _ _ _ 3 (plF B n j2a) (by simp only [clashL, rb, ev2, ev11, if_neg cz18, if_pos cz30]) rfl su11.2.2.2.2 su11.1.1.2.2.2.2.2.2.2.2
def sendsL (T : NT) (E : Nat → Nat → Int32) (B : Nat → Int32) (n i : Nat) : Rs LSt := rb (tUse T 4 B n i) fun x => rb (tUse T 2 B n x.2) fun y => if E 17 (nv x.1 * 6 + nv y.1) = -nI 2 then rb (tUse T 4 B n y.2) fun z => if z.1 = x.1 then .inl (3, plF B n y.2) else .inr (T, ud E 17 (nv x.1 * 6 + nv y.1) z.1, z.2) else .inl (3, plF B n x.2)
theorem L67 {d : Nat} {m : Mm} {Q : Option Value → Mm → Prop} {b : Nat} {E : Nat → Nat → Int32} {L : Nat → Nat → Int64} (hW : Wd m.2.2) (hB2 : LW m.2.2 b) (hdj : b + 19 ≤ 87 ∨ 87 + 6 ≤ b) {D : Nat → Nat → Int32} {K : Nat → Nat → Int64} {B : Nat → Int32} {n i : Nat} {T : NT} (hd : 10 ≤ d) (hb4 : va_rf (mR m 87 4) = .ref b) (hR : RS B n T.1 i D K) (hTT : T = (T.1, K 3, D 4, D 5)) (hk24 : T.1 ≤ 24) {nt gn : Nat} (h2 : TS T 2 nt) (hnt : nt ≤ 6) (h4 : TS T 4 gn) (hgn : gn ≤ 6) (hF : ∀ D1 K1 E1 f p, sendsL T E B n i = .inl (f, p) → D1 0 7 = nI f → D1 0 8 = nI p → D1 1 1 = nI 0 → Q (some (.int (nI 0))) (pp m 87 6 D1 K1 b 19 E1 L)) (hO : ∀ (D1 : Nat → Nat → Int32) (K1 : Nat → Nat → Int64) E1 (T1 : NT) j, sendsL T E B n i = .inr (T1, E1, j) → RS B n T1.1 j D1 K1 → T1 = (T1.1, K1 3, D1 4, D1 5) → Q (some (.int (nI 1))) (pp m 87 6 D1 K1 b 19 E1 L)) : Cc d 0 0 67 [.ref 87] (pp m 87 6 D K b 19 E L) Q := by
  refine ent (n := 128) z67 (by decide) rfl (by decide) (Nat.le_of_ble_eq_true rfl) (fun sc => ?_)
  refine And.intro ⟨by omega, Nat.le_of_ble_eq_true rfl, Nat.le_refl _, Nat.le_refl _⟩ (And.intro (Wdo_87 hW) ?_)
  refine D83 (so := nI 4) hW hB2 hdj (by omega) (hR)  hk24 ?_ ?_
  · -- a way behind the call
    intro D9 K9 f9 p9 ez8 g7 g8 g9
    have ez9 : tUse (T) 4 B n (i) = .inl (f9, p9) := by rw [hTT]; exact ez8
    refine And.intro (fun cz3 => False.elim (absurd cz3 (by decide))) (fun cz3 => ?_)
    refine And.intro ⟨rfl, Or.inl rfl, Nat.le_refl _, Nat.le_refl _⟩ ?_
    exact hF _ _ _ f9 p9 (by simp only [sendsL, rb, ez9]) g7 g8 g9
  · -- a way behind the call
    intro D2a K2a x2a j2a ep2 su2 vv2
    have ev2 : tUse (T) 4 B n (i) = .inr (x2a, j2a) := by rw [hTT]; exact ep2
    have nT2 : (T : NT) = ((T).1, K2a 3, D2a 4, D2a 5) := by rw [su2.2.2.2.1, su2.2.1, su2.2.2.1]; exact hTT
    have iv2 := TS_u h4 (by omega) ev2
    refine And.intro (fun cz3 => ?_) (fun cz3 => False.elim (absurd cz3 (by decide)))
    refine And.intro (Wdo_87 hW) ?_
    rw [pp_10 (x := 87) (by decide)]
    rw [vv2]
    refine And.intro ⟨by omega, Nat.le_of_ble_eq_true rfl, Nat.le_refl _, Nat.le_refl _⟩ (And.intro (Wdo_87 hW) ?_)
    refine D83 (so := nI 2) hW hB2 hdj (by omega) (su2.1)  hk24 ?_ ?_
    · -- a way behind the call
      intro D9 K9 f9 p9 ez8 g7 g8 g9
      have ez9 : tUse (T) 2 B n (j2a) = .inl (f9, p9) := by rw [nT2]; exact ez8
      refine And.intro (fun cz12 => False.elim (absurd cz12 (by decide))) (fun cz12 => ?_)
      refine And.intro ⟨rfl, Or.inl rfl, Nat.le_refl _, Nat.le_refl _⟩ ?_
      exact hF _ _ _ f9 p9 (by simp only [sendsL, rb, ev2, ez9]) g7 g8 g9
    · -- a way behind the call
      intro D11a K11a x11a j11a ep11 su11 vv11
      have ev11 : tUse (T) 2 B n (j2a) = .inr (x11a, j11a) := by rw [nT2]; exact ep11
      have nT11 : (T : NT) = ((T).1, K11a 3, D11a 4, D11a 5) := by rw [su11.2.2.2.1, su11.2.1, su11.2.2.1]; exact nT2
      have iv11 := TS_u h2 (by omega) ev11
      refine And.intro (fun cz12 => ?_) (fun cz12 => False.elim (absurd cz12 (by decide)))
      refine And.intro (Wdo_87 hW) ?_
      rw [pp_10 (x := 87) (by decide)]
      rw [vv11]
      refine And.intro (Wdo_87 hW) (Exists.intro _ (And.intro hb4 ?_))
      refine And.intro (LWo_0 hB2) (Exists.intro _ (And.intro (LWr_0_18 hB2) ?_))
      refine And.intro ⟨by omega, Nat.le_of_ble_eq_true rfl, Nat.le_refl _, Nat.le_refl _⟩ (And.intro (LWo_15 hB2) ?_)
      refine C103x iv2.1 iv11.1 (LW_S hB2) (by omega) (by omega) ?_
      rw [show (b + 15 + 2) = b + 17 from rfl]
      rw [pp_2 (y := b) (f := 17) (by omega) (by decide)]
      refine And.intro (fun cz25 => ?_) (fun cz25 => ?_)
      · -- 25 taken: E 17 (nv x2a * 6 + nv x11a) = -nI 2
        refine And.intro ⟨by omega, Nat.le_of_ble_eq_true rfl, Nat.le_refl _, Nat.le_refl _⟩ (And.intro (Wdo_87 hW) ?_)
        refine D83 (so := nI 4) hW hB2 hdj (by omega) (su11.1)  hk24 ?_ ?_
        · -- a way behind the call
          intro D9 K9 f9 p9 ez8 g7 g8 g9
          have ez9 : tUse (T) 4 B n (j11a) = .inl (f9, p9) := by rw [nT11]; exact ez8
          refine And.intro (fun cz33 => False.elim (absurd cz33 (by decide))) (fun cz33 => ?_)
          refine And.intro ⟨rfl, Or.inl rfl, Nat.le_refl _, Nat.le_refl _⟩ ?_
          exact hF _ _ _ f9 p9 (by simp only [sendsL, rb, ev2, ev11, ez9, if_pos cz25]) g7 g8 g9
        · -- a way behind the call
          intro D32a K32a x32a j32a ep32 su32 vv32
          have ev32 : tUse (T) 4 B n (j11a) = .inr (x32a, j32a) := by rw [nT11]; exact ep32
          have nT32 : (T : NT) = ((T).1, K32a 3, D32a 4, D32a 5) := by rw [su32.2.2.2.1, su32.2.1, su32.2.2.1]; exact nT11
          have iv32 := TS_u h4 (by omega) ev32
          refine And.intro (fun cz33 => ?_) (fun cz33 => False.elim (absurd cz33 (by decide)))
          refine And.intro (Wdo_87 hW) ?_
          rw [pp_10 (x := 87) (by decide)]
          rw [vv32]
          refine And.intro (fun cz39 => ?_) (fun cz39 => ?_)
          · -- 39 taken: ¬ x32a = x2a
            refine And.intro (Wdo_87 hW) (Exists.intro _ (And.intro hb4 ?_))
            refine And.intro (LWo_0 hB2) (Exists.intro _ (And.intro (LWr_0_18 hB2) ?_))
            refine And.intro (Wdo_87 hW) ?_
            rw [pp_10 (x := 87) (by decide)]
            rw [vv32]
            refine And.intro ⟨by omega, Nat.le_of_ble_eq_true rfl, Nat.le_refl _, Nat.le_refl _⟩ (And.intro (LWo_15 hB2) ?_)
            refine C104x iv2.1 iv11.1 (LW_S hB2) (by omega) (by omega) ?_
            rw [show (b + 15 + 2) = b + 17 from rfl]
            rw [pp_u2 (y := b) (f := 17) (by omega) (by decide)]
            refine And.intro ⟨rfl, Or.inr rfl, Nat.le_refl _, Nat.le_refl _⟩ ?_
            exact hO _ _ _ (T) _ (by simp only [sendsL, rb, ev2, ev11, ev32, if_pos cz25, if_neg cz39]) (su32.1) nT32
          · -- 39 not: x32a = x2a
            refine And.intro ⟨by omega, Nat.le_of_ble_eq_true rfl, Nat.le_refl _, Nat.le_refl _⟩ (And.intro (Wdo_87 hW) ?_)
            refine D85 hW hB2 hdj ?_
            refine And.intro ⟨rfl, Or.inl rfl, Nat.le_refl _, Nat.le_refl _⟩ ?_
            exact hF _ _ _ 3 (plF B n j11a) (by simp only [sendsL, rb, ev2, ev11, ev32, if_pos cz25, if_pos cz39]) rfl su32.2.2.2.2 su32.1.1.2.2.2.2.2.2.2.2
      · -- 25 not: ¬ E 17 (nv x2a * 6 + nv x11a) = -nI 2
        refine And.intro ⟨by omega, Nat.le_of_ble_eq_true rfl, Nat.le_refl _, Nat.le_refl _⟩ (And.intro (Wdo_87 hW) ?_)
        refine D85 hW hB2 hdj ?_
        refine And.intro ⟨rfl, Or.inl rfl, Nat.le_refl _, Nat.le_refl _⟩ ?_
        exact hF _ _ _ 3 (plF B n j2a) (by simp only [sendsL, rb, ev2, ev11, if_neg cz25]) rfl su11.2.2.2.2 su11.1.1.2.2.2.2.2.2.2.2
