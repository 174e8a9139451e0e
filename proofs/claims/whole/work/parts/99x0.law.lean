theorem law_0 {sc : Nat × (Nat → Int32)} {d : Nat} {m : Mm} {Q : Option Value → Mm → Prop} {k z c s : Nat} (hd : 20 ≤ d) (hN : sc.1 ≤ 3072) (hk6 : 6 * k + 6 ≤ sc.1) (hz : z ≤ 20000) (hc : c ≤ 20000) (hs : s ≤ 400000) (hR : Rel z m) (hk : ∀ z2 m2 cz2 s2, z2 ≤ z + 30 → cz2 ≤ c + 30 → s2 ≤ s + 540 → Rel z2 m2 → Jj sc d 601024 7293034 lawX (pg P349 13).1 [some (.ref 3000000), some (.ref 0), some (.ref 142), some (.ref 157), some (.int (nI (6 * (k + 1)))), none, none] [] m2 cz2 s2 Q) : zw sc d 601024 7293034 lawX.2.2.2.2.1 P349 (KJ sc d 601024 7293034 lawX P349 Q) Q 2143 25 [some (.ref 3000000), some (.ref 0), some (.ref 142), some (.ref 157), some (.int (nI (6 * k))), none, none] [] m c s := by
  have hW := hR.1
  have ez30 : (nI (6 * k)) + nI 1 = nI (6 * k + 1) := by simp only [nI_add, pk_mul]
  refine And.intro ⟨rfl, vi ez30 (by omega) (by omega)⟩ ?_
  rw [vc ez30 (by omega)]
  have ez35 : (nI (6 * k)) + nI 2 = nI (6 * k + 2) := by simp only [nI_add, pk_mul]
  refine And.intro ⟨rfl, vi ez35 (by omega) (by omega)⟩ ?_
  rw [vc ez35 (by omega)]
  have ez40 : (nI (6 * k)) + nI 3 = nI (6 * k + 3) := by simp only [nI_add, pk_mul]
  refine And.intro ⟨rfl, vi ez40 (by omega) (by omega)⟩ ?_
  rw [vc ez40 (by omega)]
  have ez45 : (nI (6 * k)) + nI 4 = nI (6 * k + 4) := by simp only [nI_add, pk_mul]
  refine And.intro ⟨rfl, vi ez45 (by omega) (by omega)⟩ ?_
  rw [vc ez45 (by omega)]
  have ez50 : (nI (6 * k)) + nI 5 = nI (6 * k + 5) := by simp only [nI_add, pk_mul]
  refine And.intro ⟨rfl, vi ez50 (by omega) (by omega)⟩ ?_
  rw [vc ez50 (by omega)]
  refine And.intro ⟨by omega, Nat.le_of_ble_eq_true rfl, by omega, by omega⟩ (And.intro (Wdo_0 hW) ?_)
  refine P_feed (z := z) (by omega) hR (fun rr m1 hW1 h9 => ?_)
  have hW := hW1
  have ez57 : (nI (6 * k)) + nI 1 = nI (6 * k + 1) := by simp only [nI_add, pk_mul]
  refine And.intro ⟨rfl, vi ez57 (by omega) (by omega)⟩ ?_
  rw [vc ez57 (by omega)]
  have ez62 : (nI (6 * k)) + nI 2 = nI (6 * k + 2) := by simp only [nI_add, pk_mul]
  refine And.intro ⟨rfl, vi ez62 (by omega) (by omega)⟩ ?_
  rw [vc ez62 (by omega)]
  have ez67 : (nI (6 * k)) + nI 3 = nI (6 * k + 3) := by simp only [nI_add, pk_mul]
  refine And.intro ⟨rfl, vi ez67 (by omega) (by omega)⟩ ?_
  rw [vc ez67 (by omega)]
  have ez72 : (nI (6 * k)) + nI 4 = nI (6 * k + 4) := by simp only [nI_add, pk_mul]
  refine And.intro ⟨rfl, vi ez72 (by omega) (by omega)⟩ ?_
  rw [vc ez72 (by omega)]
  have ez77 : (nI (6 * k)) + nI 5 = nI (6 * k + 5) := by simp only [nI_add, pk_mul]
  refine And.intro ⟨rfl, vi ez77 (by omega) (by omega)⟩ ?_
  rw [vc ez77 (by omega)]
  refine And.intro ⟨by omega, Nat.le_of_ble_eq_true rfl, by omega, by omega⟩ (And.intro (Wdo_142 hW) ?_)
  refine h9 _ (fun m2 hR2 => ?_)
  have hW := hR2.1
  refine And.intro (fun cz79 => ?_) (fun cz79 => False.elim (absurd rfl cz79))
  show Jj sc d 601024 7293034 lawX (pg P349 13).1 [some (.ref 3000000), some (.ref 0), some (.ref 142), some (.ref 157), some (.int ((nI (6 * k)) + nI 6)), none, none] [] m2 (c + 0 + 0) (s + 0 + 0) Q
  rw [show nI (6 * k) + nI 6 = nI (6 * (k + 1)) from nI_add _ _]
  exact hk z m2 _ _ (by omega) (by omega) (by omega) hR2
theorem law_4 {sc : Nat × (Nat → Int32)} {d : Nat} {m : Mm} {Q : Option Value → Mm → Prop} {k z c s : Nat} (hd : 20 ≤ d) (hN : sc.1 ≤ 3072) (hk6 : 6 * k + 6 ≤ sc.1) (hz : z ≤ 20000) (hc : c ≤ 20000) (hs : s ≤ 400000) (hR : Rel z m) (hk : ∀ z2 m2 cz2 s2, z2 ≤ z + 30 → cz2 ≤ c + 30 → s2 ≤ s + 540 → Rel z2 m2 → Jj sc d 601024 7293034 lawX (pg P349 13).1 [some (.ref 3000000), some (.ref 0), some (.ref 142), some (.ref 157), some (.int (nI (6 * (k + 1)))), none, none] [] m2 cz2 s2 Q) : zw sc d 601024 7293034 lawX.2.2.2.2.1 P349 (KJ sc d 601024 7293034 lawX P349 Q) Q 2143 113 [some (.ref 3000000), some (.ref 0), some (.ref 142), some (.ref 157), some (.int (nI (6 * k))), none, none] [] m c s := by
  have hW := hR.1
  have ez118 : (nI (6 * k)) + nI 1 = nI (6 * k + 1) := by simp only [nI_add, pk_mul]
  refine And.intro ⟨rfl, vi ez118 (by omega) (by omega)⟩ ?_
  rw [vc ez118 (by omega)]
  have ez123 : (nI (6 * k)) + nI 2 = nI (6 * k + 2) := by simp only [nI_add, pk_mul]
  refine And.intro ⟨rfl, vi ez123 (by omega) (by omega)⟩ ?_
  rw [vc ez123 (by omega)]
  refine And.intro ⟨by omega, Nat.le_of_ble_eq_true rfl, by omega, by omega⟩ (And.intro (Wdo_0 hW) ?_)
  refine P_soil (z := z) (by omega) hR (fun rr m1 hW1 h9 => ?_)
  have hW := hW1
  have ez130 : (nI (6 * k)) + nI 1 = nI (6 * k + 1) := by simp only [nI_add, pk_mul]
  refine And.intro ⟨rfl, vi ez130 (by omega) (by omega)⟩ ?_
  rw [vc ez130 (by omega)]
  have ez135 : (nI (6 * k)) + nI 2 = nI (6 * k + 2) := by simp only [nI_add, pk_mul]
  refine And.intro ⟨rfl, vi ez135 (by omega) (by omega)⟩ ?_
  rw [vc ez135 (by omega)]
  refine And.intro ⟨by omega, Nat.le_of_ble_eq_true rfl, by omega, by omega⟩ (And.intro (Wdo_142 hW) ?_)
  refine h9 _ (fun m2 hR2 => ?_)
  have hW := hR2.1
  refine And.intro (fun cz137 => ?_) (fun cz137 => False.elim (absurd rfl cz137))
  show Jj sc d 601024 7293034 lawX (pg P349 13).1 [some (.ref 3000000), some (.ref 0), some (.ref 142), some (.ref 157), some (.int ((nI (6 * k)) + nI 6)), none, none] [] m2 (c + 0 + 0) (s + 0 + 0) Q
  rw [show nI (6 * k) + nI 6 = nI (6 * (k + 1)) from nI_add _ _]
  exact hk z m2 _ _ (by omega) (by omega) (by omega) hR2
theorem law_8 {sc : Nat × (Nat → Int32)} {d : Nat} {m : Mm} {Q : Option Value → Mm → Prop} {k z c s : Nat} (hd : 20 ≤ d) (hN : sc.1 ≤ 3072) (hk6 : 6 * k + 6 ≤ sc.1) (hz : z ≤ 20000) (hc : c ≤ 20000) (hs : s ≤ 400000) (hR : Rel z m) (hk : ∀ z2 m2 cz2 s2, z2 ≤ z + 30 → cz2 ≤ c + 30 → s2 ≤ s + 540 → Rel z2 m2 → Jj sc d 601024 7293034 lawX (pg P349 13).1 [some (.ref 3000000), some (.ref 0), some (.ref 142), some (.ref 157), some (.int (nI (6 * (k + 1)))), none, none] [] m2 cz2 s2 Q) : zw sc d 601024 7293034 lawX.2.2.2.2.1 P349 (KJ sc d 601024 7293034 lawX P349 Q) Q 2143 241 [some (.ref 3000000), some (.ref 0), some (.ref 142), some (.ref 157), some (.int (nI (6 * k))), none, none] [] m c s := by
  have hW := hR.1
  refine And.intro ⟨by omega, Nat.le_of_ble_eq_true rfl, by omega, by omega⟩ (And.intro (Wdo_0 hW) ?_)
  refine P_points (z := z) (by omega) hR (fun rr m1 hW1 h9 => ?_)
  have hW := hW1
  refine And.intro ⟨by omega, Nat.le_of_ble_eq_true rfl, by omega, by omega⟩ (And.intro (Wdo_142 hW) ?_)
  refine h9 _ (fun m2 hR2 => ?_)
  have hW := hR2.1
  refine And.intro (fun cz245 => ?_) (fun cz245 => False.elim (absurd rfl cz245))
  show Jj sc d 601024 7293034 lawX (pg P349 13).1 [some (.ref 3000000), some (.ref 0), some (.ref 142), some (.ref 157), some (.int ((nI (6 * k)) + nI 6)), none, none] [] m2 (c + 0 + 0) (s + 0 + 0) Q
  rw [show nI (6 * k) + nI 6 = nI (6 * (k + 1)) from nI_add _ _]
  exact hk z m2 _ _ (by omega) (by omega) (by omega) hR2
theorem law_12 {sc : Nat × (Nat → Int32)} {d : Nat} {m : Mm} {Q : Option Value → Mm → Prop} {k z c s : Nat} (hd : 20 ≤ d) (hN : sc.1 ≤ 3072) (hk6 : 6 * k + 6 ≤ sc.1) (hz : z ≤ 20000) (hc : c ≤ 20000) (hs : s ≤ 400000) (hR : Rel z m) (hk : ∀ z2 m2 cz2 s2, z2 ≤ z + 30 → cz2 ≤ c + 30 → s2 ≤ s + 540 → Rel z2 m2 → Jj sc d 601024 7293034 lawX (pg P349 13).1 [some (.ref 3000000), some (.ref 0), some (.ref 142), some (.ref 157), some (.int (nI (6 * (k + 1)))), none, none] [] m2 cz2 s2 Q) : zw sc d 601024 7293034 lawX.2.2.2.2.1 P349 (KJ sc d 601024 7293034 lawX P349 Q) Q 2143 269 [some (.ref 3000000), some (.ref 0), some (.ref 142), some (.ref 157), some (.int (nI (6 * k))), none, none] [] m c s := by
  have hW := hR.1
  have ez274 : (nI (6 * k)) + nI 1 = nI (6 * k + 1) := by simp only [nI_add, pk_mul]
  refine And.intro ⟨rfl, vi ez274 (by omega) (by omega)⟩ ?_
  rw [vc ez274 (by omega)]
  have ez279 : (nI (6 * k)) + nI 2 = nI (6 * k + 2) := by simp only [nI_add, pk_mul]
  refine And.intro ⟨rfl, vi ez279 (by omega) (by omega)⟩ ?_
  rw [vc ez279 (by omega)]
  refine And.intro ⟨by omega, Nat.le_of_ble_eq_true rfl, by omega, by omega⟩ (And.intro (Wdo_0 hW) ?_)
  refine P_shared (z := z) (by omega) hR (fun rr m1 hW1 h9 => ?_)
  have hW := hW1
  have ez286 : (nI (6 * k)) + nI 1 = nI (6 * k + 1) := by simp only [nI_add, pk_mul]
  refine And.intro ⟨rfl, vi ez286 (by omega) (by omega)⟩ ?_
  rw [vc ez286 (by omega)]
  have ez291 : (nI (6 * k)) + nI 2 = nI (6 * k + 2) := by simp only [nI_add, pk_mul]
  refine And.intro ⟨rfl, vi ez291 (by omega) (by omega)⟩ ?_
  rw [vc ez291 (by omega)]
  refine And.intro ⟨by omega, Nat.le_of_ble_eq_true rfl, by omega, by omega⟩ (And.intro (Wdo_142 hW) ?_)
  refine h9 _ (fun m2 hR2 => ?_)
  have hW := hR2.1
  refine And.intro (fun cz293 => ?_) (fun cz293 => False.elim (absurd rfl cz293))
  show Jj sc d 601024 7293034 lawX (pg P349 13).1 [some (.ref 3000000), some (.ref 0), some (.ref 142), some (.ref 157), some (.int ((nI (6 * k)) + nI 6)), none, none] [] m2 (c + 0 + 0) (s + 0 + 0) Q
  rw [show nI (6 * k) + nI 6 = nI (6 * (k + 1)) from nI_add _ _]
  exact hk z m2 _ _ (by omega) (by omega) (by omega) hR2
theorem law_16 {sc : Nat × (Nat → Int32)} {d : Nat} {m : Mm} {Q : Option Value → Mm → Prop} {k z c s : Nat} (hd : 20 ≤ d) (hN : sc.1 ≤ 3072) (hk6 : 6 * k + 6 ≤ sc.1) (hz : z ≤ 20000) (hc : c ≤ 20000) (hs : s ≤ 400000) (hR : Rel z m) (hk : ∀ z2 m2 cz2 s2, z2 ≤ z + 30 → cz2 ≤ c + 30 → s2 ≤ s + 540 → Rel z2 m2 → Jj sc d 601024 7293034 lawX (pg P349 13).1 [some (.ref 3000000), some (.ref 0), some (.ref 142), some (.ref 157), some (.int (nI (6 * (k + 1)))), none, none] [] m2 cz2 s2 Q) : zw sc d 601024 7293034 lawX.2.2.2.2.1 P349 (KJ sc d 601024 7293034 lawX P349 Q) Q 2143 357 [some (.ref 3000000), some (.ref 0), some (.ref 142), some (.ref 157), some (.int (nI (6 * k))), none, none] [] m c s := by
  have hW := hR.1
  have ez362 : (nI (6 * k)) + nI 1 = nI (6 * k + 1) := by simp only [nI_add, pk_mul]
  refine And.intro ⟨rfl, vi ez362 (by omega) (by omega)⟩ ?_
  rw [vc ez362 (by omega)]
  refine And.intro ⟨by omega, Nat.le_of_ble_eq_true rfl, by omega, by omega⟩ (And.intro (Wdo_0 hW) ?_)
  refine P_whom (z := z) (by omega) hR (fun rr m1 hW1 h9 => ?_)
  have hW := hW1
  have ez369 : (nI (6 * k)) + nI 1 = nI (6 * k + 1) := by simp only [nI_add, pk_mul]
  refine And.intro ⟨rfl, vi ez369 (by omega) (by omega)⟩ ?_
  rw [vc ez369 (by omega)]
  refine And.intro ⟨by omega, Nat.le_of_ble_eq_true rfl, by omega, by omega⟩ (And.intro (Wdo_142 hW) ?_)
  refine h9 _ (fun m2 hR2 => ?_)
  have hW := hR2.1
  refine And.intro (fun cz371 => ?_) (fun cz371 => False.elim (absurd rfl cz371))
  show Jj sc d 601024 7293034 lawX (pg P349 13).1 [some (.ref 3000000), some (.ref 0), some (.ref 142), some (.ref 157), some (.int ((nI (6 * k)) + nI 6)), none, none] [] m2 (c + 0 + 0) (s + 0 + 0) Q
  rw [show nI (6 * k) + nI 6 = nI (6 * (k + 1)) from nI_add _ _]
  exact hk z m2 _ _ (by omega) (by omega) (by omega) hR2
theorem law_20 {sc : Nat × (Nat → Int32)} {d : Nat} {m : Mm} {Q : Option Value → Mm → Prop} {k z c s : Nat} (hd : 20 ≤ d) (hN : sc.1 ≤ 3072) (hk6 : 6 * k + 6 ≤ sc.1) (hz : z ≤ 20000) (hc : c ≤ 20000) (hs : s ≤ 400000) (hR : Rel z m) (hk : ∀ z2 m2 cz2 s2, z2 ≤ z + 30 → cz2 ≤ c + 30 → s2 ≤ s + 540 → Rel z2 m2 → Jj sc d 601024 7293034 lawX (pg P349 13).1 [some (.ref 3000000), some (.ref 0), some (.ref 142), some (.ref 157), some (.int (nI (6 * (k + 1)))), none, none] [] m2 cz2 s2 Q) : zw sc d 601024 7293034 lawX.2.2.2.2.1 P349 (KJ sc d 601024 7293034 lawX P349 Q) Q 2143 435 [some (.ref 3000000), some (.ref 0), some (.ref 142), some (.ref 157), some (.int (nI (6 * k))), none, none] [] m c s := by
  have hW := hR.1
  have ez440 : (nI (6 * k)) + nI 1 = nI (6 * k + 1) := by simp only [nI_add, pk_mul]
  refine And.intro ⟨rfl, vi ez440 (by omega) (by omega)⟩ ?_
  rw [vc ez440 (by omega)]
  refine And.intro ⟨by omega, Nat.le_of_ble_eq_true rfl, by omega, by omega⟩ (And.intro (Wdo_0 hW) ?_)
  refine P_late (z := z) (by omega) hR (fun rr m1 hW1 h9 => ?_)
  have hW := hW1
  have ez447 : (nI (6 * k)) + nI 1 = nI (6 * k + 1) := by simp only [nI_add, pk_mul]
  refine And.intro ⟨rfl, vi ez447 (by omega) (by omega)⟩ ?_
  rw [vc ez447 (by omega)]
  refine And.intro ⟨by omega, Nat.le_of_ble_eq_true rfl, by omega, by omega⟩ (And.intro (Wdo_142 hW) ?_)
  refine h9 _ (fun m2 hR2 => ?_)
  have hW := hR2.1
  refine And.intro (fun cz449 => ?_) (fun cz449 => False.elim (absurd rfl cz449))
  show Jj sc d 601024 7293034 lawX (pg P349 13).1 [some (.ref 3000000), some (.ref 0), some (.ref 142), some (.ref 157), some (.int ((nI (6 * k)) + nI 6)), none, none] [] m2 (c + 0 + 0) (s + 0 + 0) Q
  rw [show nI (6 * k) + nI 6 = nI (6 * (k + 1)) from nI_add _ _]
  exact hk z m2 _ _ (by omega) (by omega) (by omega) hR2
theorem law_24 {sc : Nat × (Nat → Int32)} {d : Nat} {m : Mm} {Q : Option Value → Mm → Prop} {k z c s : Nat} (hd : 20 ≤ d) (hN : sc.1 ≤ 3072) (hk6 : 6 * k + 6 ≤ sc.1) (hz : z ≤ 20000) (hc : c ≤ 20000) (hs : s ≤ 400000) (hR : Rel z m) (hk : ∀ z2 m2 cz2 s2, z2 ≤ z + 30 → cz2 ≤ c + 30 → s2 ≤ s + 540 → Rel z2 m2 → Jj sc d 601024 7293034 lawX (pg P349 13).1 [some (.ref 3000000), some (.ref 0), some (.ref 142), some (.ref 157), some (.int (nI (6 * (k + 1)))), none, none] [] m2 cz2 s2 Q) : zw sc d 601024 7293034 lawX.2.2.2.2.1 P349 (KJ sc d 601024 7293034 lawX P349 Q) Q 2143 533 [some (.ref 3000000), some (.ref 0), some (.ref 142), some (.ref 157), some (.int (nI (6 * k))), none, none] [] m c s := by
  have hW := hR.1
  have ez538 : (nI (6 * k)) + nI 1 = nI (6 * k + 1) := by simp only [nI_add, pk_mul]
  refine And.intro ⟨rfl, vi ez538 (by omega) (by omega)⟩ ?_
  rw [vc ez538 (by omega)]
  refine And.intro ⟨by omega, Nat.le_of_ble_eq_true rfl, by omega, by omega⟩ (And.intro (Wdo_0 hW) ?_)
  refine P_start (z := z) (by omega) hR (fun rr m1 hW1 h9 => ?_)
  have hW := hW1
  have ez545 : (nI (6 * k)) + nI 1 = nI (6 * k + 1) := by simp only [nI_add, pk_mul]
  refine And.intro ⟨rfl, vi ez545 (by omega) (by omega)⟩ ?_
  rw [vc ez545 (by omega)]
  refine And.intro ⟨by omega, Nat.le_of_ble_eq_true rfl, by omega, by omega⟩ (And.intro (Wdo_142 hW) ?_)
  refine h9 _ (fun m2 hR2 => ?_)
  have hW := hR2.1
  refine And.intro (fun cz547 => ?_) (fun cz547 => False.elim (absurd rfl cz547))
  show Jj sc d 601024 7293034 lawX (pg P349 13).1 [some (.ref 3000000), some (.ref 0), some (.ref 142), some (.ref 157), some (.int ((nI (6 * k)) + nI 6)), none, none] [] m2 (c + 0 + 0) (s + 0 + 0) Q
  rw [show nI (6 * k) + nI 6 = nI (6 * (k + 1)) from nI_add _ _]
  exact hk z m2 _ _ (by omega) (by omega) (by omega) hR2
theorem law_28 {sc : Nat × (Nat → Int32)} {d : Nat} {m : Mm} {Q : Option Value → Mm → Prop} {k z c s : Nat} (hd : 20 ≤ d) (hN : sc.1 ≤ 3072) (hk6 : 6 * k + 6 ≤ sc.1) (hz : z ≤ 20000) (hc : c ≤ 20000) (hs : s ≤ 400000) (hR : Rel z m) (hk : ∀ z2 m2 cz2 s2, z2 ≤ z + 30 → cz2 ≤ c + 30 → s2 ≤ s + 540 → Rel z2 m2 → Jj sc d 601024 7293034 lawX (pg P349 13).1 [some (.ref 3000000), some (.ref 0), some (.ref 142), some (.ref 157), some (.int (nI (6 * (k + 1)))), none, none] [] m2 cz2 s2 Q) : zw sc d 601024 7293034 lawX.2.2.2.2.1 P349 (KJ sc d 601024 7293034 lawX P349 Q) Q 2143 581 [some (.ref 3000000), some (.ref 0), some (.ref 142), some (.ref 157), some (.int (nI (6 * k))), none, none] [] m c s := by
  have hW := hR.1
  refine And.intro ⟨by omega, Nat.le_of_ble_eq_true rfl, by omega, by omega⟩ (And.intro (Wdo_0 hW) ?_)
  refine P_keep (z := z) (by omega) hR (fun rr m1 hW1 h9 => ?_)
  have hW := hW1
  refine And.intro ⟨by omega, Nat.le_of_ble_eq_true rfl, by omega, by omega⟩ (And.intro (Wdo_142 hW) ?_)
  refine h9 _ (fun m2 hR2 => ?_)
  have hW := hR2.1
  refine And.intro (fun cz585 => ?_) (fun cz585 => False.elim (absurd rfl cz585))
  show Jj sc d 601024 7293034 lawX (pg P349 13).1 [some (.ref 3000000), some (.ref 0), some (.ref 142), some (.ref 157), some (.int ((nI (6 * k)) + nI 6)), none, none] [] m2 (c + 0 + 0) (s + 0 + 0) Q
  rw [show nI (6 * k) + nI 6 = nI (6 * (k + 1)) from nI_add _ _]
  exact hk z m2 _ _ (by omega) (by omega) (by omega) hR2
theorem law_32 {sc : Nat × (Nat → Int32)} {d : Nat} {m : Mm} {Q : Option Value → Mm → Prop} {k z c s : Nat} (hd : 20 ≤ d) (hN : sc.1 ≤ 3072) (hk6 : 6 * k + 6 ≤ sc.1) (hz : z ≤ 20000) (hc : c ≤ 20000) (hs : s ≤ 400000) (hR : Rel z m) (hk : ∀ z2 m2 cz2 s2, z2 ≤ z + 30 → cz2 ≤ c + 30 → s2 ≤ s + 540 → Rel z2 m2 → Jj sc d 601024 7293034 lawX (pg P349 13).1 [some (.ref 3000000), some (.ref 0), some (.ref 142), some (.ref 157), some (.int (nI (6 * (k + 1)))), none, none] [] m2 cz2 s2 Q) : zw sc d 601024 7293034 lawX.2.2.2.2.1 P349 (KJ sc d 601024 7293034 lawX P349 Q) Q 2143 629 [some (.ref 3000000), some (.ref 0), some (.ref 142), some (.ref 157), some (.int (nI (6 * k))), none, none] [] m c s := by
  have hW := hR.1
  refine And.intro ⟨by omega, Nat.le_of_ble_eq_true rfl, by omega, by omega⟩ (And.intro (Wdo_0 hW) ?_)
  refine P_rest (z := z) (by omega) hR (fun rr m1 hW1 h9 => ?_)
  have hW := hW1
  refine And.intro ⟨by omega, Nat.le_of_ble_eq_true rfl, by omega, by omega⟩ (And.intro (Wdo_142 hW) ?_)
  refine h9 _ (fun m2 hR2 => ?_)
  have hW := hR2.1
  refine And.intro (fun cz633 => ?_) (fun cz633 => False.elim (absurd rfl cz633))
  show Jj sc d 601024 7293034 lawX (pg P349 13).1 [some (.ref 3000000), some (.ref 0), some (.ref 142), some (.ref 157), some (.int ((nI (6 * k)) + nI 6)), none, none] [] m2 (c + 0 + 0) (s + 0 + 0) Q
  rw [show nI (6 * k) + nI 6 = nI (6 * (k + 1)) from nI_add _ _]
  exact hk z m2 _ _ (by omega) (by omega) (by omega) hR2
theorem law_36 {sc : Nat × (Nat → Int32)} {d : Nat} {m : Mm} {Q : Option Value → Mm → Prop} {k z c s : Nat} (hd : 20 ≤ d) (hN : sc.1 ≤ 3072) (hk6 : 6 * k + 6 ≤ sc.1) (hz : z ≤ 20000) (hc : c ≤ 20000) (hs : s ≤ 400000) (hR : Rel z m) (hk : ∀ z2 m2 cz2 s2, z2 ≤ z + 30 → cz2 ≤ c + 30 → s2 ≤ s + 540 → Rel z2 m2 → Jj sc d 601024 7293034 lawX (pg P349 13).1 [some (.ref 3000000), some (.ref 0), some (.ref 142), some (.ref 157), some (.int (nI (6 * (k + 1)))), none, none] [] m2 cz2 s2 Q) : zw sc d 601024 7293034 lawX.2.2.2.2.1 P349 (KJ sc d 601024 7293034 lawX P349 Q) Q 2143 667 [some (.ref 3000000), some (.ref 0), some (.ref 142), some (.ref 157), some (.int (nI (6 * k))), none, none] [] m c s := by
  have hW := hR.1
  refine And.intro ⟨by omega, Nat.le_of_ble_eq_true rfl, by omega, by omega⟩ (And.intro (Wdo_0 hW) ?_)
  refine P_fits (z := z) (by omega) hR (fun rr m1 hW1 h9 => ?_)
  have hW := hW1
  refine And.intro ⟨by omega, Nat.le_of_ble_eq_true rfl, by omega, by omega⟩ (And.intro (Wdo_142 hW) ?_)
  refine h9 _ (fun m2 hR2 => ?_)
  have hW := hR2.1
  refine And.intro (fun cz671 => ?_) (fun cz671 => False.elim (absurd rfl cz671))
  show Jj sc d 601024 7293034 lawX (pg P349 13).1 [some (.ref 3000000), some (.ref 0), some (.ref 142), some (.ref 157), some (.int ((nI (6 * k)) + nI 6)), none, none] [] m2 (c + 0 + 0) (s + 0 + 0) Q
  rw [show nI (6 * k) + nI 6 = nI (6 * (k + 1)) from nI_add _ _]
  exact hk z m2 _ _ (by omega) (by omega) (by omega) hR2
theorem law_40 {sc : Nat × (Nat → Int32)} {d : Nat} {m : Mm} {Q : Option Value → Mm → Prop} {k z c s : Nat} (hd : 20 ≤ d) (hN : sc.1 ≤ 3072) (hk6 : 6 * k + 6 ≤ sc.1) (hz : z ≤ 20000) (hc : c ≤ 20000) (hs : s ≤ 400000) (hR : Rel z m) (hk : ∀ z2 m2 cz2 s2, z2 ≤ z + 30 → cz2 ≤ c + 30 → s2 ≤ s + 540 → Rel z2 m2 → Jj sc d 601024 7293034 lawX (pg P349 13).1 [some (.ref 3000000), some (.ref 0), some (.ref 142), some (.ref 157), some (.int (nI (6 * (k + 1)))), none, none] [] m2 cz2 s2 Q) : zw sc d 601024 7293034 lawX.2.2.2.2.1 P349 (KJ sc d 601024 7293034 lawX P349 Q) Q 2143 723 [some (.ref 3000000), some (.ref 0), some (.ref 142), some (.ref 157), some (.int (nI (6 * k))), none, none] [] m c s := by
  have hW := hR.1
  refine And.intro ⟨by omega, Nat.le_of_ble_eq_true rfl, by omega, by omega⟩ (And.intro (Wdo_0 hW) ?_)
  refine P_age (z := z) (by omega) hR (fun rr m1 hW1 h9 => ?_)
  have hW := hW1
  refine And.intro ⟨by omega, Nat.le_of_ble_eq_true rfl, by omega, by omega⟩ (And.intro (Wdo_142 hW) ?_)
  refine h9 _ (fun m2 hR2 => ?_)
  have hW := hR2.1
  refine And.intro (fun cz727 => ?_) (fun cz727 => False.elim (absurd rfl cz727))
  show Jj sc d 601024 7293034 lawX (pg P349 13).1 [some (.ref 3000000), some (.ref 0), some (.ref 142), some (.ref 157), some (.int ((nI (6 * k)) + nI 6)), none, none] [] m2 (c + 0 + 0) (s + 0 + 0) Q
  rw [show nI (6 * k) + nI 6 = nI (6 * (k + 1)) from nI_add _ _]
  exact hk z m2 _ _ (by omega) (by omega) (by omega) hR2
theorem law_44 {sc : Nat × (Nat → Int32)} {d : Nat} {m : Mm} {Q : Option Value → Mm → Prop} {k z c s : Nat} (hd : 20 ≤ d) (hN : sc.1 ≤ 3072) (hk6 : 6 * k + 6 ≤ sc.1) (hz : z ≤ 20000) (hc : c ≤ 20000) (hs : s ≤ 400000) (hR : Rel z m) (hk : ∀ z2 m2 cz2 s2, z2 ≤ z + 30 → cz2 ≤ c + 30 → s2 ≤ s + 540 → Rel z2 m2 → Jj sc d 601024 7293034 lawX (pg P349 13).1 [some (.ref 3000000), some (.ref 0), some (.ref 142), some (.ref 157), some (.int (nI (6 * (k + 1)))), none, none] [] m2 cz2 s2 Q) : zw sc d 601024 7293034 lawX.2.2.2.2.1 P349 (KJ sc d 601024 7293034 lawX P349 Q) Q 2143 821 [some (.ref 3000000), some (.ref 0), some (.ref 142), some (.ref 157), some (.int (nI (6 * k))), none, none] [] m c s := by
  have hW := hR.1
  have ez826 : (nI (6 * k)) + nI 1 = nI (6 * k + 1) := by simp only [nI_add, pk_mul]
  refine And.intro ⟨rfl, vi ez826 (by omega) (by omega)⟩ ?_
  rw [vc ez826 (by omega)]
  refine And.intro ⟨by omega, Nat.le_of_ble_eq_true rfl, by omega, by omega⟩ (And.intro (Wdo_0 hW) ?_)
  refine P_seed (z := z) (by omega) hR (fun rr m1 hW1 h9 => ?_)
  have hW := hW1
  have ez833 : (nI (6 * k)) + nI 1 = nI (6 * k + 1) := by simp only [nI_add, pk_mul]
  refine And.intro ⟨rfl, vi ez833 (by omega) (by omega)⟩ ?_
  rw [vc ez833 (by omega)]
  refine And.intro ⟨by omega, Nat.le_of_ble_eq_true rfl, by omega, by omega⟩ (And.intro (Wdo_142 hW) ?_)
  refine h9 _ (fun m2 hR2 => ?_)
  have hW := hR2.1
  refine And.intro (fun cz835 => ?_) (fun cz835 => False.elim (absurd rfl cz835))
  show Jj sc d 601024 7293034 lawX (pg P349 13).1 [some (.ref 3000000), some (.ref 0), some (.ref 142), some (.ref 157), some (.int ((nI (6 * k)) + nI 6)), none, none] [] m2 (c + 0 + 0) (s + 0 + 0) Q
  rw [show nI (6 * k) + nI 6 = nI (6 * (k + 1)) from nI_add _ _]
  exact hk z m2 _ _ (by omega) (by omega) (by omega) hR2
theorem law_48 {sc : Nat × (Nat → Int32)} {d : Nat} {m : Mm} {Q : Option Value → Mm → Prop} {k z c s : Nat} (hd : 20 ≤ d) (hN : sc.1 ≤ 3072) (hk6 : 6 * k + 6 ≤ sc.1) (hz : z ≤ 20000) (hc : c ≤ 20000) (hs : s ≤ 400000) (hR : Rel z m) (hk : ∀ z2 m2 cz2 s2, z2 ≤ z + 30 → cz2 ≤ c + 30 → s2 ≤ s + 540 → Rel z2 m2 → Jj sc d 601024 7293034 lawX (pg P349 13).1 [some (.ref 3000000), some (.ref 0), some (.ref 142), some (.ref 157), some (.int (nI (6 * (k + 1)))), none, none] [] m2 cz2 s2 Q) : zw sc d 601024 7293034 lawX.2.2.2.2.1 P349 (KJ sc d 601024 7293034 lawX P349 Q) Q 2143 869 [some (.ref 3000000), some (.ref 0), some (.ref 142), some (.ref 157), some (.int (nI (6 * k))), none, none] [] m c s := by
  have hW := hR.1
  have ez874 : (nI (6 * k)) + nI 1 = nI (6 * k + 1) := by simp only [nI_add, pk_mul]
  refine And.intro ⟨rfl, vi ez874 (by omega) (by omega)⟩ ?_
  rw [vc ez874 (by omega)]
  have ez879 : (nI (6 * k)) + nI 2 = nI (6 * k + 2) := by simp only [nI_add, pk_mul]
  refine And.intro ⟨rfl, vi ez879 (by omega) (by omega)⟩ ?_
  rw [vc ez879 (by omega)]
  refine And.intro ⟨by omega, Nat.le_of_ble_eq_true rfl, by omega, by omega⟩ (And.intro (Wdo_0 hW) ?_)
  refine P_god (z := z) (by omega) hR (fun rr m1 hW1 h9 => ?_)
  have hW := hW1
  have ez886 : (nI (6 * k)) + nI 1 = nI (6 * k + 1) := by simp only [nI_add, pk_mul]
  refine And.intro ⟨rfl, vi ez886 (by omega) (by omega)⟩ ?_
  rw [vc ez886 (by omega)]
  have ez891 : (nI (6 * k)) + nI 2 = nI (6 * k + 2) := by simp only [nI_add, pk_mul]
  refine And.intro ⟨rfl, vi ez891 (by omega) (by omega)⟩ ?_
  rw [vc ez891 (by omega)]
  refine And.intro ⟨by omega, Nat.le_of_ble_eq_true rfl, by omega, by omega⟩ (And.intro (Wdo_142 hW) ?_)
  refine h9 _ (fun m2 hR2 => ?_)
  have hW := hR2.1
  refine And.intro (fun cz893 => ?_) (fun cz893 => False.elim (absurd rfl cz893))
  show Jj sc d 601024 7293034 lawX (pg P349 13).1 [some (.ref 3000000), some (.ref 0), some (.ref 142), some (.ref 157), some (.int ((nI (6 * k)) + nI 6)), none, none] [] m2 (c + 0 + 0) (s + 0 + 0) Q
  rw [show nI (6 * k) + nI 6 = nI (6 * (k + 1)) from nI_add _ _]
  exact hk z m2 _ _ (by omega) (by omega) (by omega) hR2
theorem law_52 {sc : Nat × (Nat → Int32)} {d : Nat} {m : Mm} {Q : Option Value → Mm → Prop} {k z c s : Nat} (hd : 20 ≤ d) (hN : sc.1 ≤ 3072) (hk6 : 6 * k + 6 ≤ sc.1) (hz : z ≤ 20000) (hc : c ≤ 20000) (hs : s ≤ 400000) (hR : Rel z m) (hk : ∀ z2 m2 cz2 s2, z2 ≤ z + 30 → cz2 ≤ c + 30 → s2 ≤ s + 540 → Rel z2 m2 → Jj sc d 601024 7293034 lawX (pg P349 13).1 [some (.ref 3000000), some (.ref 0), some (.ref 142), some (.ref 157), some (.int (nI (6 * (k + 1)))), none, none] [] m2 cz2 s2 Q) : zw sc d 601024 7293034 lawX.2.2.2.2.1 P349 (KJ sc d 601024 7293034 lawX P349 Q) Q 2143 977 [some (.ref 3000000), some (.ref 0), some (.ref 142), some (.ref 157), some (.int (nI (6 * k))), none, none] [] m c s := by
  have hW := hR.1
  have ez982 : (nI (6 * k)) + nI 1 = nI (6 * k + 1) := by simp only [nI_add, pk_mul]
  refine And.intro ⟨rfl, vi ez982 (by omega) (by omega)⟩ ?_
  rw [vc ez982 (by omega)]
  have ez987 : (nI (6 * k)) + nI 2 = nI (6 * k + 2) := by simp only [nI_add, pk_mul]
  refine And.intro ⟨rfl, vi ez987 (by omega) (by omega)⟩ ?_
  rw [vc ez987 (by omega)]
  refine And.intro ⟨by omega, Nat.le_of_ble_eq_true rfl, by omega, by omega⟩ (And.intro (Wdo_0 hW) ?_)
  refine P_village (z := z) (by omega) hR (fun rr m1 hW1 h9 => ?_)
  have hW := hW1
  have ez994 : (nI (6 * k)) + nI 1 = nI (6 * k + 1) := by simp only [nI_add, pk_mul]
  refine And.intro ⟨rfl, vi ez994 (by omega) (by omega)⟩ ?_
  rw [vc ez994 (by omega)]
  have ez999 : (nI (6 * k)) + nI 2 = nI (6 * k + 2) := by simp only [nI_add, pk_mul]
  refine And.intro ⟨rfl, vi ez999 (by omega) (by omega)⟩ ?_
  rw [vc ez999 (by omega)]
  refine And.intro ⟨by omega, Nat.le_of_ble_eq_true rfl, by omega, by omega⟩ (And.intro (Wdo_142 hW) ?_)
  refine h9 _ (fun m2 hR2 => ?_)
  have hW := hR2.1
  refine And.intro (fun cz1001 => ?_) (fun cz1001 => False.elim (absurd rfl cz1001))
  show Jj sc d 601024 7293034 lawX (pg P349 13).1 [some (.ref 3000000), some (.ref 0), some (.ref 142), some (.ref 157), some (.int ((nI (6 * k)) + nI 6)), none, none] [] m2 (c + 0 + 0) (s + 0 + 0) Q
  rw [show nI (6 * k) + nI 6 = nI (6 * (k + 1)) from nI_add _ _]
  exact hk z m2 _ _ (by omega) (by omega) (by omega) hR2
