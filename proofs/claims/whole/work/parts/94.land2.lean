theorem Rel_lF {z f p : Nat} {m g n : Mm} {a b : Nat} (hW : Wd m.2.2) (hz : mZ m = z) (hA : RelA m a b) (hX : RelX m a) (g22 : g.2.2 = m.2.2) (gr : ∀ r, r ≠ 0 → (r < 87 ∨ 93 ≤ r) → (r < b ∨ b + 19 ≤ r) → mI g r = mI m r) (g00 : mI g 0 0 = nI 4) (g01 : mI g 0 1 = nI f) (g02 : mI g 0 2 = nI p) (g12 : mI g 0 12 = mI m 0 12) (g88 : mI g 88 1 = nI 0) (hF : LaF g n z f p) : Rel (z + 29) n := by
  obtain ⟨⟨l1, l2, l3, l4, l5, l6, l7, l8⟩, l9, l10, l11, l12, l13, l14⟩ := hF
  have h158 : 158 ≤ mZ m := hW.1
  have eR : mR g = mR m := congrArg (fun w : WR => w.1) g22
  have eS : mS g = mS m := congrArg (fun w : WR => w.2.1) g22
  have hab := hA.1
  have rn : ∀ r, r < z → r ≠ 0 → r ≠ 142 → r ≠ 144 → (r < 87 ∨ 93 ≤ r) → (r < b ∨ b + 19 ≤ r) → mI n r = mI m r := fun r h0 h1 h2 h3 h4 h5 => by
    by_cases e : r = 145
    · rw [e, l9, gr 145 (by decide) (by decide) (by omega)]
    · rw [l2 r h0 h2 h3 e, gr r h1 h4 h5]
  have n0 : mI n 0 = mI g 0 := l2 0 (by omega) (by decide) (by decide) (by decide)
  refine ⟨l1, l6, ⟨by rw [l11, n0, g00], by rw [l13, n0, g01], by rw [l12, n0, g00, if_pos rfl, g02]⟩, a, b, ⟨hA.1, ?_, ?_⟩, ?_⟩
  · rw [l4 0 (by omega) (by decide), eR]; exact hA.2.1
  · rw [l4 87 (by omega) (by decide), eR]; exact hA.2.2
  · refine RelX_g hA (by rw [hz, l6]; omega) (by rw [l10, eR]) (fun q h1 h2 h3 => NW_t h3 (by rw [hz, l6]; omega) (fun r h4 h5 => by rw [l5 r (by omega), eS]) (by rw [l4 q (by omega) (by omega), eR])) (fun r h1 h2 h3 h4 h5 h6 h7 h8 h9 h10 h11 => rn r (by omega) h2 h3 (fun e => h1 (by unfold scr; omega)) (by omega) (by omega)) h158 (by rw [n0]; exact g12) ⟨0, by decide, ?_, l8, fun j hj => absurd hj (Nat.not_lt_zero _)⟩ ?_ ?_ (fun _ => rn 140 (by omega) (by decide) (by decide) (by decide) (by decide) (by omega)) hX
    · rw [l2 88 (by omega) (by decide) (by decide) (by decide), g88]
    · rw [l14 21 (by decide), gr 142 (by decide) (by decide) (by omega)]
    · rw [l14 22 (by decide), gr 142 (by decide) (by decide) (by omega)]
theorem Rel_lO {z fk : Nat} {m g n : Mm} {a b : Nat} {E1 : Nat → Nat → Int32} {T1 : NT} (h158 : 158 ≤ z) (hab : a = 1 ∧ b = 93 ∨ a = 93 ∧ b = 1) (gW : Wd g.2.2) (gR0 : mR g 0 3 = some b) (gR87 : mR g 87 4 = some a) (gb : ∀ f, f < 19 → mI g (b + f) = E1 f) (cz0 : mI g 20 0 = E1 15 0) (cz1 : mI g 20 1 = E1 15 1) (cz2 : ∀ x, x < 6 → mI g (20 + 1) x = E1 16 x) (cz3 : ∀ x, x < 36 → mI g (20 + 2) x = E1 17 x) (cz4 : ∀ x, x < 4 → mI g (20 + 3) x = E1 18 x) (hfk : fk < 12) (p2 : mI g 24 2 = nI fk) (p3 : mI g 24 3 = nI 0) (p4 : mI g 24 4 = nI 0) (p139 : mI g 139 4 = nI 0) (g00 : mI g 0 0 = nI 0) (g01 : mI g 0 1 = nI 0) (g12 : mI g 0 12 = nI 1) (g88 : mI g 88 1 = nI 0) (hI : LRI T1 E1) (hla : ¬ laP E1) (hp : 0 < nv (E1 1 0)) (hO : LaO g n z E1) : Rel (z + 29) n := by
  obtain ⟨⟨l1, l2, l3, l4, l5, l6, l7, l8⟩, l10, lN, lQ, l11, l12, l13, l14, l15, v0, v1, v2, v3, v4⟩ := hO
  have rn : ∀ r, r < 142 → mI n r = mI g r := fun r h => l2 r (by omega) (by omega) (by omega) (by omega)
  have hlb : ∀ f, f < 19 → lam n b f = E1 f := fun f hf => (rn (b + f) (by omega)).trans (gb f hf)
  have n0 : mI n 0 = mI g 0 := rn 0 (by decide)
  have n24 : mI n 24 = mI g 24 := rn 24 (by decide)
  obtain ⟨hC, hWI, hNN, w1, w2, w3, w4, w5, w6, w7, w8⟩ := hI
  have hp4 : nv (E1 1 4) ≤ 6 := (hC 4 (by decide)).2
  have hp10 : nv (E1 1 10) ≤ 4 := (hC 10 (by decide)).2
  have ez1 := hlb 1 (by decide)
  refine ⟨l1, l6, ⟨by rw [l11, n0, g00], by rw [l13, n0, g01], by rw [l12, n0, g00, if_neg (by decide)]⟩, b, a, ⟨by omega, ?_, ?_⟩, ⟨0, by decide, by rw [rn 88 (by decide), g88], l8, fun j hj => absurd hj (Nat.not_lt_zero _)⟩, ⟨?_, fun x hx => ?_, fun x hx => ?_, fun x hx => ?_, ?_⟩, Or.inr ⟨z, h158, by rw [l6]; exact Nat.le_refl _, lN, l10, ⟨T1, LRI_19 hlb ⟨hC, hWI, hNN, w1, w2, w3, w4, w5, w6, w7, w8⟩⟩, ?_, ?_, LQ_19 hlb lQ, ?_⟩, ⟨fk, 0, 0, hfk, by decide, by decide, by rw [n24]; exact p2, by rw [n24]; exact p3, by rw [n24]; exact p4, l14, l15, fun i hi => absurd hi (Nat.not_lt_zero _), fun i hi => absurd hi (Nat.not_lt_zero _)⟩, Or.inl (by rw [n0]; exact g12), Or.inl (by rw [rn 139 (by decide)]; exact p139)⟩
  · rw [l4 0 (by omega) (by decide)]; exact gR0
  · rw [l4 87 (by omega) (by decide)]; exact gR87
  · rw [v0, rn 20 (by decide), cz1]; exact w8.2.2.2.2.2.symm
  · rw [v1 x hx, rn (20 + 1) (by decide), cz2 x hx]
  · rw [v2 x hx, rn (20 + 2) (by decide), cz3 x hx]
  · rw [v3 x hx, rn (20 + 3) (by decide), cz4 x hx]
  · rw [v4, rn 20 (by decide), cz0]; exact w8.2.2.2.2.1.symm
  · show 0 < nv (lam n b 1 0)
    rw [ez1]; exact hp
  · show ¬ laP (lam n b)
    unfold laP
    rw [hlb 0 (by decide), ez1]
    exact hla
  · unfold SR
    rw [ez1, rn 20 (by decide), rn (20 + 1) (by decide), rn (20 + 2) (by decide), rn (20 + 3) (by decide)]
    refine ⟨by rw [cz0, w8.2.2.2.2.1]; exact ⟨0, by decide, rfl⟩, fun x hx => ?_, fun x hx => ?_, fun x hx => ?_⟩
    · rw [cz2 x (by omega)]; exact (w2 x hx).2.2.2.2
    · rw [cz3 x hx]; exact w7 x hx
    · rw [cz4 x (by omega)]; exact (w4 x hx).2
