theorem led_on0 {sc : Nat × (Nat → Int32)} {d : Nat} {m : Mm} {Q : Option Value → Mm → Prop} {k z z1 c s cz1 s1 : Nat} (hd : 20 ≤ d) (hN : sc.1 ≤ 3072) (hk6 : 6 * k + 6 ≤ sc.1) (hz : z ≤ 20000) (hc : c ≤ 20000) (hs : s ≤ 400000) (hz1 : z1 ≤ z + 30) (hc1 : cz1 ≤ c + 30) (hs1 : s1 ≤ s + 540) {p : Nat} (hW : Wd m.2.2) (href : ∀ Q2 : Option Value → Mm → Prop, (∀ m2, Rel z1 m2 → mI m2 142 0 = nI 0 → mJ m2 157 0 = (nI p).toInt64 → Q2 (some (.int (nI p))) m2) → Cc (d - 1) 0 0 337 [.ref 142, .int (sc.2 (6 * k + 1))] m Q2) (hk : ∀ z2 m2 cz2 s2, z2 ≤ z + 30 → cz2 ≤ c + 30 → s2 ≤ s + 540 → Rel z2 m2 → Jj sc d 601024 7293034 lawX (pg P349 13).1 [some (.ref 3000000), some (.ref 0), some (.ref 142), some (.ref 157), some (.int (nI (6 * (k + 1)))), none, none] [] m2 cz2 s2 Q) : Jj sc d 601024 7293034 lawX (pg P349 1012).1 [some (.ref 3000000), some (.ref 0), some (.ref 142), some (.ref 157), some (.int (nI (6 * k))), none, none] [.int (nI 0)] m cz1 s1 Q := by
  refine J_w zlaw (i := 1012) (by decide +kernel) 2154 ?_
  have q1 : nI (6 * k) + nI 1 = nI (6 * k + 1) := nI_add _ _
  refine And.intro ⟨rfl, vi q1 (by omega) (by omega)⟩ ?_
  rw [vc q1 (by omega)]
  refine And.intro ⟨by omega, Nat.le_of_ble_eq_true rfl, by omega, by omega⟩ (And.intro (Wdo_142 hW) ?_)
  refine href _ (fun m2 hR2 ht2 hj2 => ?_)
  have hW2 := hR2.1
  refine And.intro ⟨by omega, Nat.le_of_ble_eq_true rfl, by omega, by omega⟩ (And.intro (Wdo_142 hW2) ?_)
  refine C199 hW2 ?_
  rw [ht2]
  refine And.intro (fun _ => ?_) (fun w => absurd rfl w)
  refine And.intro (fun w => absurd rfl w) (fun _ => ?_)
  refine And.intro (Wdi_157 hW2 (vi rfl (by decide))) ?_
  rw [nI_clamp (show 0 < 2 ^ 31 by decide), hj2]
  refine And.intro (fun _ => ?_) (fun w => absurd (cmp_s _) w)
  show Jj sc d 601024 7293034 lawX (pg P349 13).1 [some (.ref 3000000), some (.ref 0), some (.ref 142), some (.ref 157), some (.int (nI (6 * k) + nI 6)), some (.int (nI 0)), some (.int (nI p))] [] m2 (cz1 + 0 + 0) (s1 + 0 + 0) Q
  rw [show nI (6 * k) + nI 6 = nI (6 * (k + 1)) from nI_add _ _]
  refine J_wk (L' := [some (.ref 3000000), some (.ref 0), some (.ref 142), some (.ref 157), some (.int (nI (6 * (k + 1)))), none, none]) ⟨rfl, rfl, rfl, rfl, rfl, trivial⟩ ?_
  exact hk z1 m2 _ _ hz1 hc1 hs1 hR2
theorem led_on1 {sc : Nat × (Nat → Int32)} {d : Nat} {m : Mm} {Q : Option Value → Mm → Prop} {k z z1 c s cz1 s1 : Nat} (hd : 20 ≤ d) (hN : sc.1 ≤ 3072) (hk6 : 6 * k + 6 ≤ sc.1) (hz : z ≤ 20000) (hc : c ≤ 20000) (hs : s ≤ 400000) (hz1 : z1 ≤ z + 30) (hc1 : cz1 ≤ c + 30) (hs1 : s1 ≤ s + 540) {p : Nat} (hW : Wd m.2.2) (href : ∀ Q2 : Option Value → Mm → Prop, (∀ m2, Rel z1 m2 → mI m2 142 0 = nI 1 → Q2 (some (.int (nI p))) m2) → Cc (d - 1) 0 0 337 [.ref 142, .int (sc.2 (6 * k + 1))] m Q2) (hk : ∀ z2 m2 cz2 s2, z2 ≤ z + 30 → cz2 ≤ c + 30 → s2 ≤ s + 540 → Rel z2 m2 → Jj sc d 601024 7293034 lawX (pg P349 13).1 [some (.ref 3000000), some (.ref 0), some (.ref 142), some (.ref 157), some (.int (nI (6 * (k + 1)))), none, none] [] m2 cz2 s2 Q) : Jj sc d 601024 7293034 lawX (pg P349 1012).1 [some (.ref 3000000), some (.ref 0), some (.ref 142), some (.ref 157), some (.int (nI (6 * k))), none, none] [.int (nI 1)] m cz1 s1 Q := by
  refine J_w zlaw (i := 1012) (by decide +kernel) 2154 ?_
  have q1 : nI (6 * k) + nI 1 = nI (6 * k + 1) := nI_add _ _
  refine And.intro ⟨rfl, vi q1 (by omega) (by omega)⟩ ?_
  rw [vc q1 (by omega)]
  refine And.intro ⟨by omega, Nat.le_of_ble_eq_true rfl, by omega, by omega⟩ (And.intro (Wdo_142 hW) ?_)
  refine href _ (fun m2 hR2 ht2 => ?_)
  have hW2 := hR2.1
  refine And.intro ⟨by omega, Nat.le_of_ble_eq_true rfl, by omega, by omega⟩ (And.intro (Wdo_142 hW2) ?_)
  refine C199 hW2 ?_
  rw [ht2]
  refine And.intro (fun _ => ?_) (fun w => absurd rfl w)
  refine And.intro (fun _ => ?_) (fun w => absurd w (by decide))
  show Jj sc d 601024 7293034 lawX (pg P349 13).1 [some (.ref 3000000), some (.ref 0), some (.ref 142), some (.ref 157), some (.int (nI (6 * k) + nI 6)), some (.int (nI 1)), some (.int (nI p))] [] m2 (cz1 + 0 + 0) (s1 + 0 + 0) Q
  rw [show nI (6 * k) + nI 6 = nI (6 * (k + 1)) from nI_add _ _]
  refine J_wk (L' := [some (.ref 3000000), some (.ref 0), some (.ref 142), some (.ref 157), some (.int (nI (6 * (k + 1)))), none, none]) ⟨rfl, rfl, rfl, rfl, rfl, trivial⟩ ?_
  exact hk z1 m2 _ _ hz1 hc1 hs1 hR2
theorem led_f {sc : Nat × (Nat → Int32)} {d : Nat} {m : Mm} {Q : Option Value → Mm → Prop} {k z c s : Nat} (hd : 20 ≤ d) (hN : sc.1 ≤ 3072) (hk6 : 6 * k + 6 ≤ sc.1) (hz : z ≤ 20000) (hc : c ≤ 20000) (hs : s ≤ 400000) {a b n np q p0 : Nat} (hR : Rel z m) (hA : RelA m a b) (hX : RelX m a) (hL1 : RelL1 m a q) (hn4 : mI m (a + 1) 4 = nI n) (bn4 : n ≤ 6) (hn8 : mI m (a + 1) 8 = nI np) (bn8 : np ≤ 8) (hn2 : ∃ nt, nt ≤ 6 ∧ mI m (a + 1) 2 = nI nt) (hJ : JE (lam m a) (lam m 20) n np) (hf : FD (curF m a n np 1) (sc.2 (6 * k + 1)) p0) (hk : ∀ z2 m2 cz2 s2, z2 ≤ z + 30 → cz2 ≤ c + 30 → s2 ≤ s + 540 → Rel z2 m2 → Jj sc d 601024 7293034 lawX (pg P349 13).1 [some (.ref 3000000), some (.ref 0), some (.ref 142), some (.ref 157), some (.int (nI (6 * (k + 1)))), none, none] [] m2 cz2 s2 Q) : Jj sc d 601024 7293034 lawX (pg P349 1011).1 [some (.ref 3000000), some (.ref 0), some (.ref 142), some (.ref 157), some (.int (nI (6 * k))), none, none] [.ref 157, .int (sc.2 (6 * k + 1)), .ref 0] m c s Q := by
  have hW := hR.1
  obtain ⟨hL, hLb, hab, ha, hb⟩ := RelA_L hW hA
  have hp : (pg P349 1011).1 = 1713 := by decide +kernel
  rw [hp]
  refine js_callL (as := [.ref 0, .int (sc.2 (6 * k + 1)), .ref 157]) (r := []) (mc' := 0) (ms' := 0) (by decide +kernel) rfl rfl ⟨by omega, by decide, by omega, by omega⟩ ?_
  refine CcL_r (by omega) hW ha hL hab hJ hn4 bn4 hn8 bn8 hf (fun m9 p hCU hfp => ?_)
  have hR9 : Rel z m9 := Rel_cuf hR hA hX hn4 bn4 hn8 bn8 hCU
  have hRj : Rel z (uJ m9 157 0 (nI p).toInt64) := Rel_sc hR9 rfl (fun _ _ _ => rfl) rfl (fun _ _ => rfl)
  have hp2 : (pg P349 1012).1 = 1713 + 3 := by decide +kernel
  rw [← hp2]
  refine led_on0 (z1 := z) (cz1 := c + 0) (s1 := s + 0) (p := p) hd hN hk6 hz hc hs (by omega) (by omega) (by omega) hRj.1 (fun Q2 h2 => ?_) hk
  obtain ⟨-, -, -, a2, b2, hA2, hX2⟩ := id hRj
  have ea : a2 = a := by
    have ez1 : mR (uJ m9 157 0 (nI p).toInt64) = mR m := congrArg (fun w : WR => w.1) hCU.1
    have ez2 := hA2.2.1
    rw [ez1, hA.2.1] at ez2
    exact (Option.some.inj ez2).symm
  subst ea
  have er : ∀ r, (a2 ≤ r ∧ r < a2 + 19) → mI (uJ m9 157 0 (nI p).toInt64) r = mI m r := fun r hr => hCU.2.1 r (by omega) (by omega)
  have hq2 : mR m 142 3 = some q := hL1.2.2.2.1
  have hL2 : RelL1 (uJ m9 157 0 (nI p).toInt64) a2 q := by
    rcases hX2.2.2.1 with h | ⟨q2, h⟩
    · have ez1 : mR (uJ m9 157 0 (nI p).toInt64) = mR m := congrArg (fun w : WR => w.1) hCU.1
      have := h.1
      rw [ez1, hq2] at this
      cases this
    · have ez1 : mR (uJ m9 157 0 (nI p).toInt64) = mR m := congrArg (fun w : WR => w.1) hCU.1
      have ez2 := h.2.2.2.1
      rw [ez1, hq2] at ez2
      cases Option.some.inj ez2
      exact h
  have ec : curF (uJ m9 157 0 (nI p).toInt64) a2 n np 1 = curF m a2 n np 1 := (show curF (uJ m9 157 0 (nI p).toInt64) a2 n np 1 = curF m9 a2 n np 1 from rfl).trans (cur_cuf hCU)
  refine ledR1 (z := z) (n := n) (np := np) (by omega) hRj hA2 hX2 hL2 (by rw [er (a2 + 1) (by omega)]; exact hn4) bn4 (by rw [er (a2 + 1) (by omega)]; exact hn8) bn8 (by rw [er (a2 + 1) (by omega)]; exact hn2) (fun p1 m2 hR2 hj hth hf1 => ?_) (fun m2 _ _ hno => ?_)
  · rw [ec] at hf1
    have ep := FD_u hf1 hfp
    rw [ep]
    refine h2 m2 hR2 hth ?_
    rw [hj]
    show vp_updL (mJ m9 157) 0 (nI p).toInt64 0 = _
    exact if_pos rfl
  · rw [ec] at hno
    exact absurd hfp (hno p)
