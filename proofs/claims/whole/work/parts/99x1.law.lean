theorem law_1 {sc : Nat × (Nat → Int32)} {d : Nat} {m : Mm} {Q : Option Value → Mm → Prop} {k z c s : Nat} (hd : 20 ≤ d) (hN : sc.1 ≤ 3072) (hk6 : 6 * k + 6 ≤ sc.1) (hz : z ≤ 20000) (hc : c ≤ 20000) (hs : s ≤ 400000) (hR : Rel z m) (hk : ∀ z2 m2 cz2 s2, z2 ≤ z + 30 → cz2 ≤ c + 30 → s2 ≤ s + 540 → Rel z2 m2 → Jj sc d 601024 7293034 lawX (pg P349 13).1 [some (.ref 3000000), some (.ref 0), some (.ref 142), some (.ref 157), some (.int (nI (6 * (k + 1)))), none, none] [] m2 cz2 s2 Q) : zw sc d 601024 7293034 lawX.2.2.2.2.1 P349 (KJ sc d 601024 7293034 lawX P349 Q) Q 2143 82 [some (.ref 3000000), some (.ref 0), some (.ref 142), some (.ref 157), some (.int (nI (6 * k))), none, none] [] m c s := by
  have hW := hR.1
  have ez87 : (nI (6 * k)) + nI 1 = nI (6 * k + 1) := by simp only [nI_add, pk_mul]
  refine And.intro ⟨rfl, vi ez87 (by omega) (by omega)⟩ ?_
  rw [vc ez87 (by omega)]
  refine And.intro ⟨by omega, Nat.le_of_ble_eq_true rfl, by omega, by omega⟩ (And.intro (Wdo_0 hW) ?_)
  refine P_land (z := z) (by omega) (by omega) hR (fun rr m1 hW1 h9 => ?_)
  have hW := hW1
  have ez94 : (nI (6 * k)) + nI 1 = nI (6 * k + 1) := by simp only [nI_add, pk_mul]
  refine And.intro ⟨rfl, vi ez94 (by omega) (by omega)⟩ ?_
  rw [vc ez94 (by omega)]
  refine And.intro ⟨by omega, Nat.le_of_ble_eq_true rfl, by omega, by omega⟩ (And.intro (Wdo_142 hW) ?_)
  refine h9 _ (fun z2 m2 hz1 hz2 hR2 => ?_)
  have hW := hR2.1
  refine And.intro (fun cz96 => ?_) (fun cz96 => False.elim (absurd rfl cz96))
  show Jj sc d 601024 7293034 lawX (pg P349 13).1 [some (.ref 3000000), some (.ref 0), some (.ref 142), some (.ref 157), some (.int ((nI (6 * k)) + nI 6)), none, none] [] m2 (c + 0 + 29) (s + 0 + 533) Q
  rw [show nI (6 * k) + nI 6 = nI (6 * (k + 1)) from nI_add _ _]
  exact hk z2 m2 _ _ (by omega) (by omega) (by omega) hR2
theorem law_5 {sc : Nat × (Nat → Int32)} {d : Nat} {m : Mm} {Q : Option Value → Mm → Prop} {k z c s : Nat} (hd : 20 ≤ d) (hN : sc.1 ≤ 3072) (hk6 : 6 * k + 6 ≤ sc.1) (hz : z ≤ 20000) (hc : c ≤ 20000) (hs : s ≤ 400000) (hR : Rel z m) (hk : ∀ z2 m2 cz2 s2, z2 ≤ z + 30 → cz2 ≤ c + 30 → s2 ≤ s + 540 → Rel z2 m2 → Jj sc d 601024 7293034 lawX (pg P349 13).1 [some (.ref 3000000), some (.ref 0), some (.ref 142), some (.ref 157), some (.int (nI (6 * (k + 1)))), none, none] [] m2 cz2 s2 Q) : zw sc d 601024 7293034 lawX.2.2.2.2.1 P349 (KJ sc d 601024 7293034 lawX P349 Q) Q 2143 140 [some (.ref 3000000), some (.ref 0), some (.ref 142), some (.ref 157), some (.int (nI (6 * k))), none, none] [] m c s := by
  have hW := hR.1
  have ez145 : (nI (6 * k)) + nI 1 = nI (6 * k + 1) := by simp only [nI_add, pk_mul]
  refine And.intro ⟨rfl, vi ez145 (by omega) (by omega)⟩ ?_
  rw [vc ez145 (by omega)]
  have ez150 : (nI (6 * k)) + nI 2 = nI (6 * k + 2) := by simp only [nI_add, pk_mul]
  refine And.intro ⟨rfl, vi ez150 (by omega) (by omega)⟩ ?_
  rw [vc ez150 (by omega)]
  have ez155 : (nI (6 * k)) + nI 3 = nI (6 * k + 3) := by simp only [nI_add, pk_mul]
  refine And.intro ⟨rfl, vi ez155 (by omega) (by omega)⟩ ?_
  rw [vc ez155 (by omega)]
  have ez160 : (nI (6 * k)) + nI 4 = nI (6 * k + 4) := by simp only [nI_add, pk_mul]
  refine And.intro ⟨rfl, vi ez160 (by omega) (by omega)⟩ ?_
  rw [vc ez160 (by omega)]
  refine And.intro ⟨by omega, Nat.le_of_ble_eq_true rfl, by omega, by omega⟩ (And.intro (Wdo_0 hW) ?_)
  refine P_has (z := z) (by omega) hR (fun rr m1 hW1 h9 => ?_)
  have hW := hW1
  have ez167 : (nI (6 * k)) + nI 1 = nI (6 * k + 1) := by simp only [nI_add, pk_mul]
  refine And.intro ⟨rfl, vi ez167 (by omega) (by omega)⟩ ?_
  rw [vc ez167 (by omega)]
  have ez172 : (nI (6 * k)) + nI 2 = nI (6 * k + 2) := by simp only [nI_add, pk_mul]
  refine And.intro ⟨rfl, vi ez172 (by omega) (by omega)⟩ ?_
  rw [vc ez172 (by omega)]
  have ez177 : (nI (6 * k)) + nI 3 = nI (6 * k + 3) := by simp only [nI_add, pk_mul]
  refine And.intro ⟨rfl, vi ez177 (by omega) (by omega)⟩ ?_
  rw [vc ez177 (by omega)]
  have ez182 : (nI (6 * k)) + nI 4 = nI (6 * k + 4) := by simp only [nI_add, pk_mul]
  refine And.intro ⟨rfl, vi ez182 (by omega) (by omega)⟩ ?_
  rw [vc ez182 (by omega)]
  refine And.intro ⟨by omega, Nat.le_of_ble_eq_true rfl, by omega, by omega⟩ (And.intro (Wdo_142 hW) ?_)
  refine h9 _ (fun m2 hR2 => ?_)
  have hW := hR2.1
  refine And.intro (fun cz184 => ?_) (fun cz184 => False.elim (absurd rfl cz184))
  show Jj sc d 601024 7293034 lawX (pg P349 13).1 [some (.ref 3000000), some (.ref 0), some (.ref 142), some (.ref 157), some (.int ((nI (6 * k)) + nI 6)), none, none] [] m2 (c + 0 + 0) (s + 0 + 0) Q
  rw [show nI (6 * k) + nI 6 = nI (6 * (k + 1)) from nI_add _ _]
  exact hk z m2 _ _ (by omega) (by omega) (by omega) hR2
theorem law_9 {sc : Nat × (Nat → Int32)} {d : Nat} {m : Mm} {Q : Option Value → Mm → Prop} {k z c s : Nat} (hd : 20 ≤ d) (hN : sc.1 ≤ 3072) (hk6 : 6 * k + 6 ≤ sc.1) (hz : z ≤ 20000) (hc : c ≤ 20000) (hs : s ≤ 400000) (hR : Rel z m) (hk : ∀ z2 m2 cz2 s2, z2 ≤ z + 30 → cz2 ≤ c + 30 → s2 ≤ s + 540 → Rel z2 m2 → Jj sc d 601024 7293034 lawX (pg P349 13).1 [some (.ref 3000000), some (.ref 0), some (.ref 142), some (.ref 157), some (.int (nI (6 * (k + 1)))), none, none] [] m2 cz2 s2 Q) : zw sc d 601024 7293034 lawX.2.2.2.2.1 P349 (KJ sc d 601024 7293034 lawX P349 Q) Q 2143 248 [some (.ref 3000000), some (.ref 0), some (.ref 142), some (.ref 157), some (.int (nI (6 * k))), none, none] [] m c s := by
  have hW := hR.1
  refine And.intro ⟨by omega, Nat.le_of_ble_eq_true rfl, by omega, by omega⟩ (And.intro (Wdo_0 hW) ?_)
  refine P_nobodys (z := z) (by omega) hR (fun rr m1 hW1 h9 => ?_)
  have hW := hW1
  refine And.intro ⟨by omega, Nat.le_of_ble_eq_true rfl, by omega, by omega⟩ (And.intro (Wdo_142 hW) ?_)
  refine h9 _ (fun m2 hR2 => ?_)
  have hW := hR2.1
  refine And.intro (fun cz252 => ?_) (fun cz252 => False.elim (absurd rfl cz252))
  show Jj sc d 601024 7293034 lawX (pg P349 13).1 [some (.ref 3000000), some (.ref 0), some (.ref 142), some (.ref 157), some (.int ((nI (6 * k)) + nI 6)), none, none] [] m2 (c + 0 + 0) (s + 0 + 0) Q
  rw [show nI (6 * k) + nI 6 = nI (6 * (k + 1)) from nI_add _ _]
  exact hk z m2 _ _ (by omega) (by omega) (by omega) hR2
theorem law_13 {sc : Nat × (Nat → Int32)} {d : Nat} {m : Mm} {Q : Option Value → Mm → Prop} {k z c s : Nat} (hd : 20 ≤ d) (hN : sc.1 ≤ 3072) (hk6 : 6 * k + 6 ≤ sc.1) (hz : z ≤ 20000) (hc : c ≤ 20000) (hs : s ≤ 400000) (hR : Rel z m) (hk : ∀ z2 m2 cz2 s2, z2 ≤ z + 30 → cz2 ≤ c + 30 → s2 ≤ s + 540 → Rel z2 m2 → Jj sc d 601024 7293034 lawX (pg P349 13).1 [some (.ref 3000000), some (.ref 0), some (.ref 142), some (.ref 157), some (.int (nI (6 * (k + 1)))), none, none] [] m2 cz2 s2 Q) : zw sc d 601024 7293034 lawX.2.2.2.2.1 P349 (KJ sc d 601024 7293034 lawX P349 Q) Q 2143 296 [some (.ref 3000000), some (.ref 0), some (.ref 142), some (.ref 157), some (.int (nI (6 * k))), none, none] [] m c s := by
  have hW := hR.1
  have ez301 : (nI (6 * k)) + nI 1 = nI (6 * k + 1) := by simp only [nI_add, pk_mul]
  refine And.intro ⟨rfl, vi ez301 (by omega) (by omega)⟩ ?_
  rw [vc ez301 (by omega)]
  have ez306 : (nI (6 * k)) + nI 2 = nI (6 * k + 2) := by simp only [nI_add, pk_mul]
  refine And.intro ⟨rfl, vi ez306 (by omega) (by omega)⟩ ?_
  rw [vc ez306 (by omega)]
  refine And.intro ⟨by omega, Nat.le_of_ble_eq_true rfl, by omega, by omega⟩ (And.intro (Wdo_0 hW) ?_)
  refine P_in (z := z) (by omega) hR (fun rr m1 hW1 h9 => ?_)
  have hW := hW1
  have ez313 : (nI (6 * k)) + nI 1 = nI (6 * k + 1) := by simp only [nI_add, pk_mul]
  refine And.intro ⟨rfl, vi ez313 (by omega) (by omega)⟩ ?_
  rw [vc ez313 (by omega)]
  have ez318 : (nI (6 * k)) + nI 2 = nI (6 * k + 2) := by simp only [nI_add, pk_mul]
  refine And.intro ⟨rfl, vi ez318 (by omega) (by omega)⟩ ?_
  rw [vc ez318 (by omega)]
  refine And.intro ⟨by omega, Nat.le_of_ble_eq_true rfl, by omega, by omega⟩ (And.intro (Wdo_142 hW) ?_)
  refine h9 _ (fun m2 hR2 => ?_)
  have hW := hR2.1
  refine And.intro (fun cz320 => ?_) (fun cz320 => False.elim (absurd rfl cz320))
  show Jj sc d 601024 7293034 lawX (pg P349 13).1 [some (.ref 3000000), some (.ref 0), some (.ref 142), some (.ref 157), some (.int ((nI (6 * k)) + nI 6)), none, none] [] m2 (c + 0 + 0) (s + 0 + 0) Q
  rw [show nI (6 * k) + nI 6 = nI (6 * (k + 1)) from nI_add _ _]
  exact hk z m2 _ _ (by omega) (by omega) (by omega) hR2
theorem law_17 {sc : Nat × (Nat → Int32)} {d : Nat} {m : Mm} {Q : Option Value → Mm → Prop} {k z c s : Nat} (hd : 20 ≤ d) (hN : sc.1 ≤ 3072) (hk6 : 6 * k + 6 ≤ sc.1) (hz : z ≤ 20000) (hc : c ≤ 20000) (hs : s ≤ 400000) (hR : Rel z m) (hk : ∀ z2 m2 cz2 s2, z2 ≤ z + 30 → cz2 ≤ c + 30 → s2 ≤ s + 540 → Rel z2 m2 → Jj sc d 601024 7293034 lawX (pg P349 13).1 [some (.ref 3000000), some (.ref 0), some (.ref 142), some (.ref 157), some (.int (nI (6 * (k + 1)))), none, none] [] m2 cz2 s2 Q) : zw sc d 601024 7293034 lawX.2.2.2.2.1 P349 (KJ sc d 601024 7293034 lawX P349 Q) Q 2143 374 [some (.ref 3000000), some (.ref 0), some (.ref 142), some (.ref 157), some (.int (nI (6 * k))), none, none] [] m c s := by
  have hW := hR.1
  have ez379 : (nI (6 * k)) + nI 1 = nI (6 * k + 1) := by simp only [nI_add, pk_mul]
  refine And.intro ⟨rfl, vi ez379 (by omega) (by omega)⟩ ?_
  rw [vc ez379 (by omega)]
  refine And.intro ⟨by omega, Nat.le_of_ble_eq_true rfl, by omega, by omega⟩ (And.intro (Wdo_0 hW) ?_)
  refine P_waits (z := z) (by omega) hR (fun rr m1 hW1 h9 => ?_)
  have hW := hW1
  have ez386 : (nI (6 * k)) + nI 1 = nI (6 * k + 1) := by simp only [nI_add, pk_mul]
  refine And.intro ⟨rfl, vi ez386 (by omega) (by omega)⟩ ?_
  rw [vc ez386 (by omega)]
  refine And.intro ⟨by omega, Nat.le_of_ble_eq_true rfl, by omega, by omega⟩ (And.intro (Wdo_142 hW) ?_)
  refine h9 _ (fun m2 hR2 => ?_)
  have hW := hR2.1
  refine And.intro (fun cz388 => ?_) (fun cz388 => False.elim (absurd rfl cz388))
  show Jj sc d 601024 7293034 lawX (pg P349 13).1 [some (.ref 3000000), some (.ref 0), some (.ref 142), some (.ref 157), some (.int ((nI (6 * k)) + nI 6)), none, none] [] m2 (c + 0 + 0) (s + 0 + 0) Q
  rw [show nI (6 * k) + nI 6 = nI (6 * (k + 1)) from nI_add _ _]
  exact hk z m2 _ _ (by omega) (by omega) (by omega) hR2
theorem law_21 {sc : Nat × (Nat → Int32)} {d : Nat} {m : Mm} {Q : Option Value → Mm → Prop} {k z c s : Nat} (hd : 20 ≤ d) (hN : sc.1 ≤ 3072) (hk6 : 6 * k + 6 ≤ sc.1) (hz : z ≤ 20000) (hc : c ≤ 20000) (hs : s ≤ 400000) (hR : Rel z m) (hk : ∀ z2 m2 cz2 s2, z2 ≤ z + 30 → cz2 ≤ c + 30 → s2 ≤ s + 540 → Rel z2 m2 → Jj sc d 601024 7293034 lawX (pg P349 13).1 [some (.ref 3000000), some (.ref 0), some (.ref 142), some (.ref 157), some (.int (nI (6 * (k + 1)))), none, none] [] m2 cz2 s2 Q) : zw sc d 601024 7293034 lawX.2.2.2.2.1 P349 (KJ sc d 601024 7293034 lawX P349 Q) Q 2143 452 [some (.ref 3000000), some (.ref 0), some (.ref 142), some (.ref 157), some (.int (nI (6 * k))), none, none] [] m c s := by
  have hW := hR.1
  have ez457 : (nI (6 * k)) + nI 1 = nI (6 * k + 1) := by simp only [nI_add, pk_mul]
  refine And.intro ⟨rfl, vi ez457 (by omega) (by omega)⟩ ?_
  rw [vc ez457 (by omega)]
  have ez462 : (nI (6 * k)) + nI 2 = nI (6 * k + 2) := by simp only [nI_add, pk_mul]
  refine And.intro ⟨rfl, vi ez462 (by omega) (by omega)⟩ ?_
  rw [vc ez462 (by omega)]
  refine And.intro ⟨by omega, Nat.le_of_ble_eq_true rfl, by omega, by omega⟩ (And.intro (Wdo_0 hW) ?_)
  refine P_law (z := z) (by omega) hR (fun rr m1 hW1 h9 => ?_)
  have hW := hW1
  have ez469 : (nI (6 * k)) + nI 1 = nI (6 * k + 1) := by simp only [nI_add, pk_mul]
  refine And.intro ⟨rfl, vi ez469 (by omega) (by omega)⟩ ?_
  rw [vc ez469 (by omega)]
  have ez474 : (nI (6 * k)) + nI 2 = nI (6 * k + 2) := by simp only [nI_add, pk_mul]
  refine And.intro ⟨rfl, vi ez474 (by omega) (by omega)⟩ ?_
  rw [vc ez474 (by omega)]
  refine And.intro ⟨by omega, Nat.le_of_ble_eq_true rfl, by omega, by omega⟩ (And.intro (Wdo_142 hW) ?_)
  refine h9 _ (fun m2 hR2 => ?_)
  have hW := hR2.1
  refine And.intro (fun cz476 => ?_) (fun cz476 => False.elim (absurd rfl cz476))
  show Jj sc d 601024 7293034 lawX (pg P349 13).1 [some (.ref 3000000), some (.ref 0), some (.ref 142), some (.ref 157), some (.int ((nI (6 * k)) + nI 6)), none, none] [] m2 (c + 0 + 0) (s + 0 + 0) Q
  rw [show nI (6 * k) + nI 6 = nI (6 * (k + 1)) from nI_add _ _]
  exact hk z m2 _ _ (by omega) (by omega) (by omega) hR2
theorem law_25 {sc : Nat × (Nat → Int32)} {d : Nat} {m : Mm} {Q : Option Value → Mm → Prop} {k z c s : Nat} (hd : 20 ≤ d) (hN : sc.1 ≤ 3072) (hk6 : 6 * k + 6 ≤ sc.1) (hz : z ≤ 20000) (hc : c ≤ 20000) (hs : s ≤ 400000) (hR : Rel z m) (hk : ∀ z2 m2 cz2 s2, z2 ≤ z + 30 → cz2 ≤ c + 30 → s2 ≤ s + 540 → Rel z2 m2 → Jj sc d 601024 7293034 lawX (pg P349 13).1 [some (.ref 3000000), some (.ref 0), some (.ref 142), some (.ref 157), some (.int (nI (6 * (k + 1)))), none, none] [] m2 cz2 s2 Q) : zw sc d 601024 7293034 lawX.2.2.2.2.1 P349 (KJ sc d 601024 7293034 lawX P349 Q) Q 2143 550 [some (.ref 3000000), some (.ref 0), some (.ref 142), some (.ref 157), some (.int (nI (6 * k))), none, none] [] m c s := by
  have hW := hR.1
  have ez555 : (nI (6 * k)) + nI 1 = nI (6 * k + 1) := by simp only [nI_add, pk_mul]
  refine And.intro ⟨rfl, vi ez555 (by omega) (by omega)⟩ ?_
  rw [vc ez555 (by omega)]
  refine And.intro ⟨by omega, Nat.le_of_ble_eq_true rfl, by omega, by omega⟩ (And.intro (Wdo_0 hW) ?_)
  refine P_ring (z := z) (by omega) hR (fun rr m1 hW1 h9 => ?_)
  have hW := hW1
  have ez562 : (nI (6 * k)) + nI 1 = nI (6 * k + 1) := by simp only [nI_add, pk_mul]
  refine And.intro ⟨rfl, vi ez562 (by omega) (by omega)⟩ ?_
  rw [vc ez562 (by omega)]
  refine And.intro ⟨by omega, Nat.le_of_ble_eq_true rfl, by omega, by omega⟩ (And.intro (Wdo_142 hW) ?_)
  refine h9 _ (fun m2 hR2 => ?_)
  have hW := hR2.1
  refine And.intro (fun cz564 => ?_) (fun cz564 => False.elim (absurd rfl cz564))
  show Jj sc d 601024 7293034 lawX (pg P349 13).1 [some (.ref 3000000), some (.ref 0), some (.ref 142), some (.ref 157), some (.int ((nI (6 * k)) + nI 6)), none, none] [] m2 (c + 0 + 0) (s + 0 + 0) Q
  rw [show nI (6 * k) + nI 6 = nI (6 * (k + 1)) from nI_add _ _]
  exact hk z m2 _ _ (by omega) (by omega) (by omega) hR2
theorem law_29 {sc : Nat × (Nat → Int32)} {d : Nat} {m : Mm} {Q : Option Value → Mm → Prop} {k z c s : Nat} (hd : 20 ≤ d) (hN : sc.1 ≤ 3072) (hk6 : 6 * k + 6 ≤ sc.1) (hz : z ≤ 20000) (hc : c ≤ 20000) (hs : s ≤ 400000) (hR : Rel z m) (hk : ∀ z2 m2 cz2 s2, z2 ≤ z + 30 → cz2 ≤ c + 30 → s2 ≤ s + 540 → Rel z2 m2 → Jj sc d 601024 7293034 lawX (pg P349 13).1 [some (.ref 3000000), some (.ref 0), some (.ref 142), some (.ref 157), some (.int (nI (6 * (k + 1)))), none, none] [] m2 cz2 s2 Q) : zw sc d 601024 7293034 lawX.2.2.2.2.1 P349 (KJ sc d 601024 7293034 lawX P349 Q) Q 2143 588 [some (.ref 3000000), some (.ref 0), some (.ref 142), some (.ref 157), some (.int (nI (6 * k))), none, none] [] m c s := by
  have hW := hR.1
  refine And.intro ⟨by omega, Nat.le_of_ble_eq_true rfl, by omega, by omega⟩ (And.intro (Wdo_0 hW) ?_)
  refine P_once (z := z) (by omega) hR (fun rr m1 hW1 h9 => ?_)
  have hW := hW1
  refine And.intro ⟨by omega, Nat.le_of_ble_eq_true rfl, by omega, by omega⟩ (And.intro (Wdo_142 hW) ?_)
  refine h9 _ (fun m2 hR2 => ?_)
  have hW := hR2.1
  refine And.intro (fun cz592 => ?_) (fun cz592 => False.elim (absurd rfl cz592))
  show Jj sc d 601024 7293034 lawX (pg P349 13).1 [some (.ref 3000000), some (.ref 0), some (.ref 142), some (.ref 157), some (.int ((nI (6 * k)) + nI 6)), none, none] [] m2 (c + 0 + 0) (s + 0 + 0) Q
  rw [show nI (6 * k) + nI 6 = nI (6 * (k + 1)) from nI_add _ _]
  exact hk z m2 _ _ (by omega) (by omega) (by omega) hR2
theorem law_33 {sc : Nat × (Nat → Int32)} {d : Nat} {m : Mm} {Q : Option Value → Mm → Prop} {k z c s : Nat} (hd : 20 ≤ d) (hN : sc.1 ≤ 3072) (hk6 : 6 * k + 6 ≤ sc.1) (hz : z ≤ 20000) (hc : c ≤ 20000) (hs : s ≤ 400000) (hR : Rel z m) (hk : ∀ z2 m2 cz2 s2, z2 ≤ z + 30 → cz2 ≤ c + 30 → s2 ≤ s + 540 → Rel z2 m2 → Jj sc d 601024 7293034 lawX (pg P349 13).1 [some (.ref 3000000), some (.ref 0), some (.ref 142), some (.ref 157), some (.int (nI (6 * (k + 1)))), none, none] [] m2 cz2 s2 Q) : zw sc d 601024 7293034 lawX.2.2.2.2.1 P349 (KJ sc d 601024 7293034 lawX P349 Q) Q 2143 636 [some (.ref 3000000), some (.ref 0), some (.ref 142), some (.ref 157), some (.int (nI (6 * k))), none, none] [] m c s := by
  have hW := hR.1
  refine And.intro ⟨by omega, Nat.le_of_ble_eq_true rfl, by omega, by omega⟩ (And.intro (Wdo_0 hW) ?_)
  refine P_rests (z := z) (by omega) hR (fun rr m1 hW1 h9 => ?_)
  have hW := hW1
  refine And.intro ⟨by omega, Nat.le_of_ble_eq_true rfl, by omega, by omega⟩ (And.intro (Wdo_142 hW) ?_)
  refine h9 _ (fun m2 hR2 => ?_)
  have hW := hR2.1
  refine And.intro (fun cz640 => ?_) (fun cz640 => False.elim (absurd rfl cz640))
  show Jj sc d 601024 7293034 lawX (pg P349 13).1 [some (.ref 3000000), some (.ref 0), some (.ref 142), some (.ref 157), some (.int ((nI (6 * k)) + nI 6)), none, none] [] m2 (c + 0 + 0) (s + 0 + 0) Q
  rw [show nI (6 * k) + nI 6 = nI (6 * (k + 1)) from nI_add _ _]
  exact hk z m2 _ _ (by omega) (by omega) (by omega) hR2
theorem law_37 {sc : Nat × (Nat → Int32)} {d : Nat} {m : Mm} {Q : Option Value → Mm → Prop} {k z c s : Nat} (hd : 20 ≤ d) (hN : sc.1 ≤ 3072) (hk6 : 6 * k + 6 ≤ sc.1) (hz : z ≤ 20000) (hc : c ≤ 20000) (hs : s ≤ 400000) (hR : Rel z m) (hk : ∀ z2 m2 cz2 s2, z2 ≤ z + 30 → cz2 ≤ c + 30 → s2 ≤ s + 540 → Rel z2 m2 → Jj sc d 601024 7293034 lawX (pg P349 13).1 [some (.ref 3000000), some (.ref 0), some (.ref 142), some (.ref 157), some (.int (nI (6 * (k + 1)))), none, none] [] m2 cz2 s2 Q) : zw sc d 601024 7293034 lawX.2.2.2.2.1 P349 (KJ sc d 601024 7293034 lawX P349 Q) Q 2143 674 [some (.ref 3000000), some (.ref 0), some (.ref 142), some (.ref 157), some (.int (nI (6 * k))), none, none] [] m c s := by
  have hW := hR.1
  refine And.intro ⟨by omega, Nat.le_of_ble_eq_true rfl, by omega, by omega⟩ (And.intro (Wdo_0 hW) ?_)
  refine P_ask (z := z) (by omega) hR (fun rr m1 hW1 h9 => ?_)
  have hW := hW1
  refine And.intro ⟨by omega, Nat.le_of_ble_eq_true rfl, by omega, by omega⟩ (And.intro (Wdo_142 hW) ?_)
  refine h9 _ (fun m2 hR2 => ?_)
  have hW := hR2.1
  refine And.intro (fun cz678 => ?_) (fun cz678 => False.elim (absurd rfl cz678))
  show Jj sc d 601024 7293034 lawX (pg P349 13).1 [some (.ref 3000000), some (.ref 0), some (.ref 142), some (.ref 157), some (.int ((nI (6 * k)) + nI 6)), none, none] [] m2 (c + 0 + 0) (s + 0 + 0) Q
  rw [show nI (6 * k) + nI 6 = nI (6 * (k + 1)) from nI_add _ _]
  exact hk z m2 _ _ (by omega) (by omega) (by omega) hR2
theorem law_41 {sc : Nat × (Nat → Int32)} {d : Nat} {m : Mm} {Q : Option Value → Mm → Prop} {k z c s : Nat} (hd : 20 ≤ d) (hN : sc.1 ≤ 3072) (hk6 : 6 * k + 6 ≤ sc.1) (hz : z ≤ 20000) (hc : c ≤ 20000) (hs : s ≤ 400000) (hR : Rel z m) (hk : ∀ z2 m2 cz2 s2, z2 ≤ z + 30 → cz2 ≤ c + 30 → s2 ≤ s + 540 → Rel z2 m2 → Jj sc d 601024 7293034 lawX (pg P349 13).1 [some (.ref 3000000), some (.ref 0), some (.ref 142), some (.ref 157), some (.int (nI (6 * (k + 1)))), none, none] [] m2 cz2 s2 Q) : zw sc d 601024 7293034 lawX.2.2.2.2.1 P349 (KJ sc d 601024 7293034 lawX P349 Q) Q 2143 730 [some (.ref 3000000), some (.ref 0), some (.ref 142), some (.ref 157), some (.int (nI (6 * k))), none, none] [] m c s := by
  have hW := hR.1
  have ez735 : (nI (6 * k)) + nI 1 = nI (6 * k + 1) := by simp only [nI_add, pk_mul]
  refine And.intro ⟨rfl, vi ez735 (by omega) (by omega)⟩ ?_
  rw [vc ez735 (by omega)]
  have ez740 : (nI (6 * k)) + nI 2 = nI (6 * k + 2) := by simp only [nI_add, pk_mul]
  refine And.intro ⟨rfl, vi ez740 (by omega) (by omega)⟩ ?_
  rw [vc ez740 (by omega)]
  refine And.intro ⟨by omega, Nat.le_of_ble_eq_true rfl, by omega, by omega⟩ (And.intro (Wdo_0 hW) ?_)
  refine P_price (z := z) (by omega) hR (fun rr m1 hW1 h9 => ?_)
  have hW := hW1
  have ez747 : (nI (6 * k)) + nI 1 = nI (6 * k + 1) := by simp only [nI_add, pk_mul]
  refine And.intro ⟨rfl, vi ez747 (by omega) (by omega)⟩ ?_
  rw [vc ez747 (by omega)]
  have ez752 : (nI (6 * k)) + nI 2 = nI (6 * k + 2) := by simp only [nI_add, pk_mul]
  refine And.intro ⟨rfl, vi ez752 (by omega) (by omega)⟩ ?_
  rw [vc ez752 (by omega)]
  refine And.intro ⟨by omega, Nat.le_of_ble_eq_true rfl, by omega, by omega⟩ (And.intro (Wdo_142 hW) ?_)
  refine h9 _ (fun m2 hR2 => ?_)
  have hW := hR2.1
  refine And.intro (fun cz754 => ?_) (fun cz754 => False.elim (absurd rfl cz754))
  show Jj sc d 601024 7293034 lawX (pg P349 13).1 [some (.ref 3000000), some (.ref 0), some (.ref 142), some (.ref 157), some (.int ((nI (6 * k)) + nI 6)), none, none] [] m2 (c + 0 + 0) (s + 0 + 0) Q
  rw [show nI (6 * k) + nI 6 = nI (6 * (k + 1)) from nI_add _ _]
  exact hk z m2 _ _ (by omega) (by omega) (by omega) hR2
theorem law_45 {sc : Nat × (Nat → Int32)} {d : Nat} {m : Mm} {Q : Option Value → Mm → Prop} {k z c s : Nat} (hd : 20 ≤ d) (hN : sc.1 ≤ 3072) (hk6 : 6 * k + 6 ≤ sc.1) (hz : z ≤ 20000) (hc : c ≤ 20000) (hs : s ≤ 400000) (hR : Rel z m) (hk : ∀ z2 m2 cz2 s2, z2 ≤ z + 30 → cz2 ≤ c + 30 → s2 ≤ s + 540 → Rel z2 m2 → Jj sc d 601024 7293034 lawX (pg P349 13).1 [some (.ref 3000000), some (.ref 0), some (.ref 142), some (.ref 157), some (.int (nI (6 * (k + 1)))), none, none] [] m2 cz2 s2 Q) : zw sc d 601024 7293034 lawX.2.2.2.2.1 P349 (KJ sc d 601024 7293034 lawX P349 Q) Q 2143 838 [some (.ref 3000000), some (.ref 0), some (.ref 142), some (.ref 157), some (.int (nI (6 * k))), none, none] [] m c s := by
  have hW := hR.1
  refine And.intro ⟨by omega, Nat.le_of_ble_eq_true rfl, by omega, by omega⟩ (And.intro (Wdo_0 hW) ?_)
  refine P_undo (z := z) (by omega) hR (fun rr m1 hW1 h9 => ?_)
  have hW := hW1
  refine And.intro ⟨by omega, Nat.le_of_ble_eq_true rfl, by omega, by omega⟩ (And.intro (Wdo_142 hW) ?_)
  refine h9 _ (fun m2 hR2 => ?_)
  have hW := hR2.1
  refine And.intro (fun cz842 => ?_) (fun cz842 => False.elim (absurd rfl cz842))
  show Jj sc d 601024 7293034 lawX (pg P349 13).1 [some (.ref 3000000), some (.ref 0), some (.ref 142), some (.ref 157), some (.int ((nI (6 * k)) + nI 6)), none, none] [] m2 (c + 0 + 0) (s + 0 + 0) Q
  rw [show nI (6 * k) + nI 6 = nI (6 * (k + 1)) from nI_add _ _]
  exact hk z m2 _ _ (by omega) (by omega) (by omega) hR2
theorem law_49 {sc : Nat × (Nat → Int32)} {d : Nat} {m : Mm} {Q : Option Value → Mm → Prop} {k z c s : Nat} (hd : 20 ≤ d) (hN : sc.1 ≤ 3072) (hk6 : 6 * k + 6 ≤ sc.1) (hz : z ≤ 20000) (hc : c ≤ 20000) (hs : s ≤ 400000) (hR : Rel z m) (hk : ∀ z2 m2 cz2 s2, z2 ≤ z + 30 → cz2 ≤ c + 30 → s2 ≤ s + 540 → Rel z2 m2 → Jj sc d 601024 7293034 lawX (pg P349 13).1 [some (.ref 3000000), some (.ref 0), some (.ref 142), some (.ref 157), some (.int (nI (6 * (k + 1)))), none, none] [] m2 cz2 s2 Q) : zw sc d 601024 7293034 lawX.2.2.2.2.1 P349 (KJ sc d 601024 7293034 lawX P349 Q) Q 2143 896 [some (.ref 3000000), some (.ref 0), some (.ref 142), some (.ref 157), some (.int (nI (6 * k))), none, none] [] m c s := by
  have hW := hR.1
  have ez901 : (nI (6 * k)) + nI 1 = nI (6 * k + 1) := by simp only [nI_add, pk_mul]
  refine And.intro ⟨rfl, vi ez901 (by omega) (by omega)⟩ ?_
  rw [vc ez901 (by omega)]
  have ez906 : (nI (6 * k)) + nI 2 = nI (6 * k + 2) := by simp only [nI_add, pk_mul]
  refine And.intro ⟨rfl, vi ez906 (by omega) (by omega)⟩ ?_
  rw [vc ez906 (by omega)]
  refine And.intro ⟨by omega, Nat.le_of_ble_eq_true rfl, by omega, by omega⟩ (And.intro (Wdo_0 hW) ?_)
  refine P_sends (z := z) (by omega) hR (fun rr m1 hW1 h9 => ?_)
  have hW := hW1
  have ez913 : (nI (6 * k)) + nI 1 = nI (6 * k + 1) := by simp only [nI_add, pk_mul]
  refine And.intro ⟨rfl, vi ez913 (by omega) (by omega)⟩ ?_
  rw [vc ez913 (by omega)]
  have ez918 : (nI (6 * k)) + nI 2 = nI (6 * k + 2) := by simp only [nI_add, pk_mul]
  refine And.intro ⟨rfl, vi ez918 (by omega) (by omega)⟩ ?_
  rw [vc ez918 (by omega)]
  refine And.intro ⟨by omega, Nat.le_of_ble_eq_true rfl, by omega, by omega⟩ (And.intro (Wdo_142 hW) ?_)
  refine h9 _ (fun m2 hR2 => ?_)
  have hW := hR2.1
  refine And.intro (fun cz920 => ?_) (fun cz920 => False.elim (absurd rfl cz920))
  show Jj sc d 601024 7293034 lawX (pg P349 13).1 [some (.ref 3000000), some (.ref 0), some (.ref 142), some (.ref 157), some (.int ((nI (6 * k)) + nI 6)), none, none] [] m2 (c + 0 + 0) (s + 0 + 0) Q
  rw [show nI (6 * k) + nI 6 = nI (6 * (k + 1)) from nI_add _ _]
  exact hk z m2 _ _ (by omega) (by omega) (by omega) hR2
