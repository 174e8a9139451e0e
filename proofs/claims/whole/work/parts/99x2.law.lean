theorem law_2 {sc : Nat × (Nat → Int32)} {d : Nat} {m : Mm} {Q : Option Value → Mm → Prop} {k z c s : Nat} (hd : 20 ≤ d) (hN : sc.1 ≤ 3072) (hk6 : 6 * k + 6 ≤ sc.1) (hz : z ≤ 20000) (hc : c ≤ 20000) (hs : s ≤ 400000) (hR : Rel z m) (hk : ∀ z2 m2 cz2 s2, z2 ≤ z + 30 → cz2 ≤ c + 30 → s2 ≤ s + 540 → Rel z2 m2 → Jj sc d 601024 7293034 lawX (pg P349 13).1 [some (.ref 3000000), some (.ref 0), some (.ref 142), some (.ref 157), some (.int (nI (6 * (k + 1)))), none, none] [] m2 cz2 s2 Q) : zw sc d 601024 7293034 lawX.2.2.2.2.1 P349 (KJ sc d 601024 7293034 lawX P349 Q) Q 2143 99 [some (.ref 3000000), some (.ref 0), some (.ref 142), some (.ref 157), some (.int (nI (6 * k))), none, none] [] m c s := by
  have hW := hR.1
  refine And.intro ⟨by omega, Nat.le_of_ble_eq_true rfl, by omega, by omega⟩ (And.intro (Wdo_0 hW) ?_)
  refine P_fault (z := z) (by omega) hR (fun rr m1 hW1 h9 => ?_)
  have hW := hW1
  refine And.intro ⟨by omega, Nat.le_of_ble_eq_true rfl, by omega, by omega⟩ (And.intro (Wdo_142 hW) ?_)
  refine h9 _ (fun m2 hR2 => ?_)
  have hW := hR2.1
  refine And.intro (fun cz103 => ?_) (fun cz103 => False.elim (absurd rfl cz103))
  show Jj sc d 601024 7293034 lawX (pg P349 13).1 [some (.ref 3000000), some (.ref 0), some (.ref 142), some (.ref 157), some (.int ((nI (6 * k)) + nI 6)), none, none] [] m2 (c + 0 + 0) (s + 0 + 0) Q
  rw [show nI (6 * k) + nI 6 = nI (6 * (k + 1)) from nI_add _ _]
  exact hk z m2 _ _ (by omega) (by omega) (by omega) hR2
theorem law_6 {sc : Nat × (Nat → Int32)} {d : Nat} {m : Mm} {Q : Option Value → Mm → Prop} {k z c s : Nat} (hd : 20 ≤ d) (hN : sc.1 ≤ 3072) (hk6 : 6 * k + 6 ≤ sc.1) (hz : z ≤ 20000) (hc : c ≤ 20000) (hs : s ≤ 400000) (hR : Rel z m) (hk : ∀ z2 m2 cz2 s2, z2 ≤ z + 30 → cz2 ≤ c + 30 → s2 ≤ s + 540 → Rel z2 m2 → Jj sc d 601024 7293034 lawX (pg P349 13).1 [some (.ref 3000000), some (.ref 0), some (.ref 142), some (.ref 157), some (.int (nI (6 * (k + 1)))), none, none] [] m2 cz2 s2 Q) : zw sc d 601024 7293034 lawX.2.2.2.2.1 P349 (KJ sc d 601024 7293034 lawX P349 Q) Q 2143 187 [some (.ref 3000000), some (.ref 0), some (.ref 142), some (.ref 157), some (.int (nI (6 * k))), none, none] [] m c s := by
  have hW := hR.1
  have ez192 : (nI (6 * k)) + nI 1 = nI (6 * k + 1) := by simp only [nI_add, pk_mul]
  refine And.intro ⟨rfl, vi ez192 (by omega) (by omega)⟩ ?_
  rw [vc ez192 (by omega)]
  have ez197 : (nI (6 * k)) + nI 2 = nI (6 * k + 2) := by simp only [nI_add, pk_mul]
  refine And.intro ⟨rfl, vi ez197 (by omega) (by omega)⟩ ?_
  rw [vc ez197 (by omega)]
  have ez202 : (nI (6 * k)) + nI 3 = nI (6 * k + 3) := by simp only [nI_add, pk_mul]
  refine And.intro ⟨rfl, vi ez202 (by omega) (by omega)⟩ ?_
  rw [vc ez202 (by omega)]
  refine And.intro ⟨by omega, Nat.le_of_ble_eq_true rfl, by omega, by omega⟩ (And.intro (Wdo_0 hW) ?_)
  refine P_owners (z := z) (by omega) hR (fun rr m1 hW1 h9 => ?_)
  have hW := hW1
  have ez209 : (nI (6 * k)) + nI 1 = nI (6 * k + 1) := by simp only [nI_add, pk_mul]
  refine And.intro ⟨rfl, vi ez209 (by omega) (by omega)⟩ ?_
  rw [vc ez209 (by omega)]
  have ez214 : (nI (6 * k)) + nI 2 = nI (6 * k + 2) := by simp only [nI_add, pk_mul]
  refine And.intro ⟨rfl, vi ez214 (by omega) (by omega)⟩ ?_
  rw [vc ez214 (by omega)]
  have ez219 : (nI (6 * k)) + nI 3 = nI (6 * k + 3) := by simp only [nI_add, pk_mul]
  refine And.intro ⟨rfl, vi ez219 (by omega) (by omega)⟩ ?_
  rw [vc ez219 (by omega)]
  refine And.intro ⟨by omega, Nat.le_of_ble_eq_true rfl, by omega, by omega⟩ (And.intro (Wdo_142 hW) ?_)
  refine h9 _ (fun m2 hR2 => ?_)
  have hW := hR2.1
  refine And.intro (fun cz221 => ?_) (fun cz221 => False.elim (absurd rfl cz221))
  show Jj sc d 601024 7293034 lawX (pg P349 13).1 [some (.ref 3000000), some (.ref 0), some (.ref 142), some (.ref 157), some (.int ((nI (6 * k)) + nI 6)), none, none] [] m2 (c + 0 + 0) (s + 0 + 0) Q
  rw [show nI (6 * k) + nI 6 = nI (6 * (k + 1)) from nI_add _ _]
  exact hk z m2 _ _ (by omega) (by omega) (by omega) hR2
theorem law_10 {sc : Nat × (Nat → Int32)} {d : Nat} {m : Mm} {Q : Option Value → Mm → Prop} {k z c s : Nat} (hd : 20 ≤ d) (hN : sc.1 ≤ 3072) (hk6 : 6 * k + 6 ≤ sc.1) (hz : z ≤ 20000) (hc : c ≤ 20000) (hs : s ≤ 400000) (hR : Rel z m) (hk : ∀ z2 m2 cz2 s2, z2 ≤ z + 30 → cz2 ≤ c + 30 → s2 ≤ s + 540 → Rel z2 m2 → Jj sc d 601024 7293034 lawX (pg P349 13).1 [some (.ref 3000000), some (.ref 0), some (.ref 142), some (.ref 157), some (.int (nI (6 * (k + 1)))), none, none] [] m2 cz2 s2 Q) : zw sc d 601024 7293034 lawX.2.2.2.2.1 P349 (KJ sc d 601024 7293034 lawX P349 Q) Q 2143 255 [some (.ref 3000000), some (.ref 0), some (.ref 142), some (.ref 157), some (.int (nI (6 * k))), none, none] [] m c s := by
  have hW := hR.1
  refine And.intro ⟨by omega, Nat.le_of_ble_eq_true rfl, by omega, by omega⟩ (And.intro (Wdo_0 hW) ?_)
  refine P_firstNobodys (z := z) (by omega) hR (fun rr m1 hW1 h9 => ?_)
  have hW := hW1
  refine And.intro ⟨by omega, Nat.le_of_ble_eq_true rfl, by omega, by omega⟩ (And.intro (Wdo_142 hW) ?_)
  refine h9 _ (fun m2 hR2 => ?_)
  have hW := hR2.1
  refine And.intro (fun cz259 => ?_) (fun cz259 => False.elim (absurd rfl cz259))
  show Jj sc d 601024 7293034 lawX (pg P349 13).1 [some (.ref 3000000), some (.ref 0), some (.ref 142), some (.ref 157), some (.int ((nI (6 * k)) + nI 6)), none, none] [] m2 (c + 0 + 0) (s + 0 + 0) Q
  rw [show nI (6 * k) + nI 6 = nI (6 * (k + 1)) from nI_add _ _]
  exact hk z m2 _ _ (by omega) (by omega) (by omega) hR2
theorem law_14 {sc : Nat × (Nat → Int32)} {d : Nat} {m : Mm} {Q : Option Value → Mm → Prop} {k z c s : Nat} (hd : 20 ≤ d) (hN : sc.1 ≤ 3072) (hk6 : 6 * k + 6 ≤ sc.1) (hz : z ≤ 20000) (hc : c ≤ 20000) (hs : s ≤ 400000) (hR : Rel z m) (hk : ∀ z2 m2 cz2 s2, z2 ≤ z + 30 → cz2 ≤ c + 30 → s2 ≤ s + 540 → Rel z2 m2 → Jj sc d 601024 7293034 lawX (pg P349 13).1 [some (.ref 3000000), some (.ref 0), some (.ref 142), some (.ref 157), some (.int (nI (6 * (k + 1)))), none, none] [] m2 cz2 s2 Q) : zw sc d 601024 7293034 lawX.2.2.2.2.1 P349 (KJ sc d 601024 7293034 lawX P349 Q) Q 2143 323 [some (.ref 3000000), some (.ref 0), some (.ref 142), some (.ref 157), some (.int (nI (6 * k))), none, none] [] m c s := by
  have hW := hR.1
  have ez328 : (nI (6 * k)) + nI 1 = nI (6 * k + 1) := by simp only [nI_add, pk_mul]
  refine And.intro ⟨rfl, vi ez328 (by omega) (by omega)⟩ ?_
  rw [vc ez328 (by omega)]
  refine And.intro ⟨by omega, Nat.le_of_ble_eq_true rfl, by omega, by omega⟩ (And.intro (Wdo_0 hW) ?_)
  refine P_fate (z := z) (by omega) hR (fun rr m1 hW1 h9 => ?_)
  have hW := hW1
  have ez335 : (nI (6 * k)) + nI 1 = nI (6 * k + 1) := by simp only [nI_add, pk_mul]
  refine And.intro ⟨rfl, vi ez335 (by omega) (by omega)⟩ ?_
  rw [vc ez335 (by omega)]
  refine And.intro ⟨by omega, Nat.le_of_ble_eq_true rfl, by omega, by omega⟩ (And.intro (Wdo_142 hW) ?_)
  refine h9 _ (fun m2 hR2 => ?_)
  have hW := hR2.1
  refine And.intro (fun cz337 => ?_) (fun cz337 => False.elim (absurd rfl cz337))
  show Jj sc d 601024 7293034 lawX (pg P349 13).1 [some (.ref 3000000), some (.ref 0), some (.ref 142), some (.ref 157), some (.int ((nI (6 * k)) + nI 6)), none, none] [] m2 (c + 0 + 0) (s + 0 + 0) Q
  rw [show nI (6 * k) + nI 6 = nI (6 * (k + 1)) from nI_add _ _]
  exact hk z m2 _ _ (by omega) (by omega) (by omega) hR2
theorem law_18 {sc : Nat × (Nat → Int32)} {d : Nat} {m : Mm} {Q : Option Value → Mm → Prop} {k z c s : Nat} (hd : 20 ≤ d) (hN : sc.1 ≤ 3072) (hk6 : 6 * k + 6 ≤ sc.1) (hz : z ≤ 20000) (hc : c ≤ 20000) (hs : s ≤ 400000) (hR : Rel z m) (hk : ∀ z2 m2 cz2 s2, z2 ≤ z + 30 → cz2 ≤ c + 30 → s2 ≤ s + 540 → Rel z2 m2 → Jj sc d 601024 7293034 lawX (pg P349 13).1 [some (.ref 3000000), some (.ref 0), some (.ref 142), some (.ref 157), some (.int (nI (6 * (k + 1)))), none, none] [] m2 cz2 s2 Q) : zw sc d 601024 7293034 lawX.2.2.2.2.1 P349 (KJ sc d 601024 7293034 lawX P349 Q) Q 2143 391 [some (.ref 3000000), some (.ref 0), some (.ref 142), some (.ref 157), some (.int (nI (6 * k))), none, none] [] m c s := by
  have hW := hR.1
  have ez396 : (nI (6 * k)) + nI 1 = nI (6 * k + 1) := by simp only [nI_add, pk_mul]
  refine And.intro ⟨rfl, vi ez396 (by omega) (by omega)⟩ ?_
  rw [vc ez396 (by omega)]
  refine And.intro ⟨by omega, Nat.le_of_ble_eq_true rfl, by omega, by omega⟩ (And.intro (Wdo_0 hW) ?_)
  refine P_altars (z := z) (by omega) hR (fun rr m1 hW1 h9 => ?_)
  have hW := hW1
  have ez403 : (nI (6 * k)) + nI 1 = nI (6 * k + 1) := by simp only [nI_add, pk_mul]
  refine And.intro ⟨rfl, vi ez403 (by omega) (by omega)⟩ ?_
  rw [vc ez403 (by omega)]
  refine And.intro ⟨by omega, Nat.le_of_ble_eq_true rfl, by omega, by omega⟩ (And.intro (Wdo_142 hW) ?_)
  refine h9 _ (fun m2 hR2 => ?_)
  have hW := hR2.1
  refine And.intro (fun cz405 => ?_) (fun cz405 => False.elim (absurd rfl cz405))
  show Jj sc d 601024 7293034 lawX (pg P349 13).1 [some (.ref 3000000), some (.ref 0), some (.ref 142), some (.ref 157), some (.int ((nI (6 * k)) + nI 6)), none, none] [] m2 (c + 0 + 0) (s + 0 + 0) Q
  rw [show nI (6 * k) + nI 6 = nI (6 * (k + 1)) from nI_add _ _]
  exact hk z m2 _ _ (by omega) (by omega) (by omega) hR2
theorem law_22 {sc : Nat × (Nat → Int32)} {d : Nat} {m : Mm} {Q : Option Value → Mm → Prop} {k z c s : Nat} (hd : 20 ≤ d) (hN : sc.1 ≤ 3072) (hk6 : 6 * k + 6 ≤ sc.1) (hz : z ≤ 20000) (hc : c ≤ 20000) (hs : s ≤ 400000) (hR : Rel z m) (hk : ∀ z2 m2 cz2 s2, z2 ≤ z + 30 → cz2 ≤ c + 30 → s2 ≤ s + 540 → Rel z2 m2 → Jj sc d 601024 7293034 lawX (pg P349 13).1 [some (.ref 3000000), some (.ref 0), some (.ref 142), some (.ref 157), some (.int (nI (6 * (k + 1)))), none, none] [] m2 cz2 s2 Q) : zw sc d 601024 7293034 lawX.2.2.2.2.1 P349 (KJ sc d 601024 7293034 lawX P349 Q) Q 2143 479 [some (.ref 3000000), some (.ref 0), some (.ref 142), some (.ref 157), some (.int (nI (6 * k))), none, none] [] m c s := by
  have hW := hR.1
  have ez484 : (nI (6 * k)) + nI 1 = nI (6 * k + 1) := by simp only [nI_add, pk_mul]
  refine And.intro ⟨rfl, vi ez484 (by omega) (by omega)⟩ ?_
  rw [vc ez484 (by omega)]
  have ez489 : (nI (6 * k)) + nI 2 = nI (6 * k + 2) := by simp only [nI_add, pk_mul]
  refine And.intro ⟨rfl, vi ez489 (by omega) (by omega)⟩ ?_
  rw [vc ez489 (by omega)]
  refine And.intro ⟨by omega, Nat.le_of_ble_eq_true rfl, by omega, by omega⟩ (And.intro (Wdo_0 hW) ?_)
  refine P_queue (z := z) (by omega) hR (fun rr m1 hW1 h9 => ?_)
  have hW := hW1
  have ez496 : (nI (6 * k)) + nI 1 = nI (6 * k + 1) := by simp only [nI_add, pk_mul]
  refine And.intro ⟨rfl, vi ez496 (by omega) (by omega)⟩ ?_
  rw [vc ez496 (by omega)]
  have ez501 : (nI (6 * k)) + nI 2 = nI (6 * k + 2) := by simp only [nI_add, pk_mul]
  refine And.intro ⟨rfl, vi ez501 (by omega) (by omega)⟩ ?_
  rw [vc ez501 (by omega)]
  refine And.intro ⟨by omega, Nat.le_of_ble_eq_true rfl, by omega, by omega⟩ (And.intro (Wdo_142 hW) ?_)
  refine h9 _ (fun m2 hR2 => ?_)
  have hW := hR2.1
  refine And.intro (fun cz503 => ?_) (fun cz503 => False.elim (absurd rfl cz503))
  show Jj sc d 601024 7293034 lawX (pg P349 13).1 [some (.ref 3000000), some (.ref 0), some (.ref 142), some (.ref 157), some (.int ((nI (6 * k)) + nI 6)), none, none] [] m2 (c + 0 + 0) (s + 0 + 0) Q
  rw [show nI (6 * k) + nI 6 = nI (6 * (k + 1)) from nI_add _ _]
  exact hk z m2 _ _ (by omega) (by omega) (by omega) hR2
theorem law_26 {sc : Nat × (Nat → Int32)} {d : Nat} {m : Mm} {Q : Option Value → Mm → Prop} {k z c s : Nat} (hd : 20 ≤ d) (hN : sc.1 ≤ 3072) (hk6 : 6 * k + 6 ≤ sc.1) (hz : z ≤ 20000) (hc : c ≤ 20000) (hs : s ≤ 400000) (hR : Rel z m) (hk : ∀ z2 m2 cz2 s2, z2 ≤ z + 30 → cz2 ≤ c + 30 → s2 ≤ s + 540 → Rel z2 m2 → Jj sc d 601024 7293034 lawX (pg P349 13).1 [some (.ref 3000000), some (.ref 0), some (.ref 142), some (.ref 157), some (.int (nI (6 * (k + 1)))), none, none] [] m2 cz2 s2 Q) : zw sc d 601024 7293034 lawX.2.2.2.2.1 P349 (KJ sc d 601024 7293034 lawX P349 Q) Q 2143 567 [some (.ref 3000000), some (.ref 0), some (.ref 142), some (.ref 157), some (.int (nI (6 * k))), none, none] [] m c s := by
  have hW := hR.1
  refine And.intro ⟨by omega, Nat.le_of_ble_eq_true rfl, by omega, by omega⟩ (And.intro (Wdo_0 hW) ?_)
  refine P_together (z := z) (by omega) hR (fun rr m1 hW1 h9 => ?_)
  have hW := hW1
  refine And.intro ⟨by omega, Nat.le_of_ble_eq_true rfl, by omega, by omega⟩ (And.intro (Wdo_142 hW) ?_)
  refine h9 _ (fun m2 hR2 => ?_)
  have hW := hR2.1
  refine And.intro (fun cz571 => ?_) (fun cz571 => False.elim (absurd rfl cz571))
  show Jj sc d 601024 7293034 lawX (pg P349 13).1 [some (.ref 3000000), some (.ref 0), some (.ref 142), some (.ref 157), some (.int ((nI (6 * k)) + nI 6)), none, none] [] m2 (c + 0 + 0) (s + 0 + 0) Q
  rw [show nI (6 * k) + nI 6 = nI (6 * (k + 1)) from nI_add _ _]
  exact hk z m2 _ _ (by omega) (by omega) (by omega) hR2
theorem law_30 {sc : Nat × (Nat → Int32)} {d : Nat} {m : Mm} {Q : Option Value → Mm → Prop} {k z c s : Nat} (hd : 20 ≤ d) (hN : sc.1 ≤ 3072) (hk6 : 6 * k + 6 ≤ sc.1) (hz : z ≤ 20000) (hc : c ≤ 20000) (hs : s ≤ 400000) (hR : Rel z m) (hk : ∀ z2 m2 cz2 s2, z2 ≤ z + 30 → cz2 ≤ c + 30 → s2 ≤ s + 540 → Rel z2 m2 → Jj sc d 601024 7293034 lawX (pg P349 13).1 [some (.ref 3000000), some (.ref 0), some (.ref 142), some (.ref 157), some (.int (nI (6 * (k + 1)))), none, none] [] m2 cz2 s2 Q) : zw sc d 601024 7293034 lawX.2.2.2.2.1 P349 (KJ sc d 601024 7293034 lawX P349 Q) Q 2143 595 [some (.ref 3000000), some (.ref 0), some (.ref 142), some (.ref 157), some (.int (nI (6 * k))), none, none] [] m c s := by
  have hW := hR.1
  have ez600 : (nI (6 * k)) + nI 1 = nI (6 * k + 1) := by simp only [nI_add, pk_mul]
  refine And.intro ⟨rfl, vi ez600 (by omega) (by omega)⟩ ?_
  rw [vc ez600 (by omega)]
  refine And.intro ⟨by omega, Nat.le_of_ble_eq_true rfl, by omega, by omega⟩ (And.intro (Wdo_0 hW) ?_)
  refine P_content (z := z) (by omega) hR (fun rr m1 hW1 h9 => ?_)
  have hW := hW1
  have ez607 : (nI (6 * k)) + nI 1 = nI (6 * k + 1) := by simp only [nI_add, pk_mul]
  refine And.intro ⟨rfl, vi ez607 (by omega) (by omega)⟩ ?_
  rw [vc ez607 (by omega)]
  refine And.intro ⟨by omega, Nat.le_of_ble_eq_true rfl, by omega, by omega⟩ (And.intro (Wdo_142 hW) ?_)
  refine h9 _ (fun m2 hR2 => ?_)
  have hW := hR2.1
  refine And.intro (fun cz609 => ?_) (fun cz609 => False.elim (absurd rfl cz609))
  show Jj sc d 601024 7293034 lawX (pg P349 13).1 [some (.ref 3000000), some (.ref 0), some (.ref 142), some (.ref 157), some (.int ((nI (6 * k)) + nI 6)), none, none] [] m2 (c + 0 + 0) (s + 0 + 0) Q
  rw [show nI (6 * k) + nI 6 = nI (6 * (k + 1)) from nI_add _ _]
  exact hk z m2 _ _ (by omega) (by omega) (by omega) hR2
theorem law_34 {sc : Nat × (Nat → Int32)} {d : Nat} {m : Mm} {Q : Option Value → Mm → Prop} {k z c s : Nat} (hd : 20 ≤ d) (hN : sc.1 ≤ 3072) (hk6 : 6 * k + 6 ≤ sc.1) (hz : z ≤ 20000) (hc : c ≤ 20000) (hs : s ≤ 400000) (hR : Rel z m) (hk : ∀ z2 m2 cz2 s2, z2 ≤ z + 30 → cz2 ≤ c + 30 → s2 ≤ s + 540 → Rel z2 m2 → Jj sc d 601024 7293034 lawX (pg P349 13).1 [some (.ref 3000000), some (.ref 0), some (.ref 142), some (.ref 157), some (.int (nI (6 * (k + 1)))), none, none] [] m2 cz2 s2 Q) : zw sc d 601024 7293034 lawX.2.2.2.2.1 P349 (KJ sc d 601024 7293034 lawX P349 Q) Q 2143 643 [some (.ref 3000000), some (.ref 0), some (.ref 142), some (.ref 157), some (.int (nI (6 * k))), none, none] [] m c s := by
  have hW := hR.1
  refine And.intro ⟨by omega, Nat.le_of_ble_eq_true rfl, by omega, by omega⟩ (And.intro (Wdo_0 hW) ?_)
  refine P_left (z := z) (by omega) hR (fun rr m1 hW1 h9 => ?_)
  have hW := hW1
  refine And.intro ⟨by omega, Nat.le_of_ble_eq_true rfl, by omega, by omega⟩ (And.intro (Wdo_142 hW) ?_)
  refine h9 _ (fun m2 hR2 => ?_)
  have hW := hR2.1
  refine And.intro (fun cz647 => ?_) (fun cz647 => False.elim (absurd rfl cz647))
  show Jj sc d 601024 7293034 lawX (pg P349 13).1 [some (.ref 3000000), some (.ref 0), some (.ref 142), some (.ref 157), some (.int ((nI (6 * k)) + nI 6)), none, none] [] m2 (c + 0 + 0) (s + 0 + 0) Q
  rw [show nI (6 * k) + nI 6 = nI (6 * (k + 1)) from nI_add _ _]
  exact hk z m2 _ _ (by omega) (by omega) (by omega) hR2
theorem law_38 {sc : Nat × (Nat → Int32)} {d : Nat} {m : Mm} {Q : Option Value → Mm → Prop} {k z c s : Nat} (hd : 20 ≤ d) (hN : sc.1 ≤ 3072) (hk6 : 6 * k + 6 ≤ sc.1) (hz : z ≤ 20000) (hc : c ≤ 20000) (hs : s ≤ 400000) (hR : Rel z m) (hk : ∀ z2 m2 cz2 s2, z2 ≤ z + 30 → cz2 ≤ c + 30 → s2 ≤ s + 540 → Rel z2 m2 → Jj sc d 601024 7293034 lawX (pg P349 13).1 [some (.ref 3000000), some (.ref 0), some (.ref 142), some (.ref 157), some (.int (nI (6 * (k + 1)))), none, none] [] m2 cz2 s2 Q) : zw sc d 601024 7293034 lawX.2.2.2.2.1 P349 (KJ sc d 601024 7293034 lawX P349 Q) Q 2143 681 [some (.ref 3000000), some (.ref 0), some (.ref 142), some (.ref 157), some (.int (nI (6 * k))), none, none] [] m c s := by
  have hW := hR.1
  refine And.intro ⟨by omega, Nat.le_of_ble_eq_true rfl, by omega, by omega⟩ (And.intro (Wdo_0 hW) ?_)
  refine P_askMost (z := z) (by omega) hR (fun rr m1 hW1 h9 => ?_)
  have hW := hW1
  refine And.intro ⟨by omega, Nat.le_of_ble_eq_true rfl, by omega, by omega⟩ (And.intro (Wdo_142 hW) ?_)
  refine h9 _ (fun m2 hR2 => ?_)
  have hW := hR2.1
  refine And.intro (fun cz685 => ?_) (fun cz685 => False.elim (absurd rfl cz685))
  show Jj sc d 601024 7293034 lawX (pg P349 13).1 [some (.ref 3000000), some (.ref 0), some (.ref 142), some (.ref 157), some (.int ((nI (6 * k)) + nI 6)), none, none] [] m2 (c + 0 + 0) (s + 0 + 0) Q
  rw [show nI (6 * k) + nI 6 = nI (6 * (k + 1)) from nI_add _ _]
  exact hk z m2 _ _ (by omega) (by omega) (by omega) hR2
theorem law_42 {sc : Nat × (Nat → Int32)} {d : Nat} {m : Mm} {Q : Option Value → Mm → Prop} {k z c s : Nat} (hd : 20 ≤ d) (hN : sc.1 ≤ 3072) (hk6 : 6 * k + 6 ≤ sc.1) (hz : z ≤ 20000) (hc : c ≤ 20000) (hs : s ≤ 400000) (hR : Rel z m) (hk : ∀ z2 m2 cz2 s2, z2 ≤ z + 30 → cz2 ≤ c + 30 → s2 ≤ s + 540 → Rel z2 m2 → Jj sc d 601024 7293034 lawX (pg P349 13).1 [some (.ref 3000000), some (.ref 0), some (.ref 142), some (.ref 157), some (.int (nI (6 * (k + 1)))), none, none] [] m2 cz2 s2 Q) : zw sc d 601024 7293034 lawX.2.2.2.2.1 P349 (KJ sc d 601024 7293034 lawX P349 Q) Q 2143 757 [some (.ref 3000000), some (.ref 0), some (.ref 142), some (.ref 157), some (.int (nI (6 * k))), none, none] [] m c s := by
  have hW := hR.1
  have ez762 : (nI (6 * k)) + nI 1 = nI (6 * k + 1) := by simp only [nI_add, pk_mul]
  refine And.intro ⟨rfl, vi ez762 (by omega) (by omega)⟩ ?_
  rw [vc ez762 (by omega)]
  have ez767 : (nI (6 * k)) + nI 2 = nI (6 * k + 2) := by simp only [nI_add, pk_mul]
  refine And.intro ⟨rfl, vi ez767 (by omega) (by omega)⟩ ?_
  rw [vc ez767 (by omega)]
  have ez772 : (nI (6 * k)) + nI 3 = nI (6 * k + 3) := by simp only [nI_add, pk_mul]
  refine And.intro ⟨rfl, vi ez772 (by omega) (by omega)⟩ ?_
  rw [vc ez772 (by omega)]
  refine And.intro ⟨by omega, Nat.le_of_ble_eq_true rfl, by omega, by omega⟩ (And.intro (Wdo_0 hW) ?_)
  refine P_send (z := z) (by omega) hR (fun rr m1 hW1 h9 => ?_)
  have hW := hW1
  have ez779 : (nI (6 * k)) + nI 1 = nI (6 * k + 1) := by simp only [nI_add, pk_mul]
  refine And.intro ⟨rfl, vi ez779 (by omega) (by omega)⟩ ?_
  rw [vc ez779 (by omega)]
  have ez784 : (nI (6 * k)) + nI 2 = nI (6 * k + 2) := by simp only [nI_add, pk_mul]
  refine And.intro ⟨rfl, vi ez784 (by omega) (by omega)⟩ ?_
  rw [vc ez784 (by omega)]
  have ez789 : (nI (6 * k)) + nI 3 = nI (6 * k + 3) := by simp only [nI_add, pk_mul]
  refine And.intro ⟨rfl, vi ez789 (by omega) (by omega)⟩ ?_
  rw [vc ez789 (by omega)]
  refine And.intro ⟨by omega, Nat.le_of_ble_eq_true rfl, by omega, by omega⟩ (And.intro (Wdo_142 hW) ?_)
  refine h9 _ (fun m2 hR2 => ?_)
  have hW := hR2.1
  refine And.intro (fun cz791 => ?_) (fun cz791 => False.elim (absurd rfl cz791))
  show Jj sc d 601024 7293034 lawX (pg P349 13).1 [some (.ref 3000000), some (.ref 0), some (.ref 142), some (.ref 157), some (.int ((nI (6 * k)) + nI 6)), none, none] [] m2 (c + 0 + 0) (s + 0 + 0) Q
  rw [show nI (6 * k) + nI 6 = nI (6 * (k + 1)) from nI_add _ _]
  exact hk z m2 _ _ (by omega) (by omega) (by omega) hR2
theorem law_46 {sc : Nat × (Nat → Int32)} {d : Nat} {m : Mm} {Q : Option Value → Mm → Prop} {k z c s : Nat} (hd : 20 ≤ d) (hN : sc.1 ≤ 3072) (hk6 : 6 * k + 6 ≤ sc.1) (hz : z ≤ 20000) (hc : c ≤ 20000) (hs : s ≤ 400000) (hR : Rel z m) (hk : ∀ z2 m2 cz2 s2, z2 ≤ z + 30 → cz2 ≤ c + 30 → s2 ≤ s + 540 → Rel z2 m2 → Jj sc d 601024 7293034 lawX (pg P349 13).1 [some (.ref 3000000), some (.ref 0), some (.ref 142), some (.ref 157), some (.int (nI (6 * (k + 1)))), none, none] [] m2 cz2 s2 Q) : zw sc d 601024 7293034 lawX.2.2.2.2.1 P349 (KJ sc d 601024 7293034 lawX P349 Q) Q 2143 845 [some (.ref 3000000), some (.ref 0), some (.ref 142), some (.ref 157), some (.int (nI (6 * k))), none, none] [] m c s := by
  have hW := hR.1
  refine And.intro ⟨by omega, Nat.le_of_ble_eq_true rfl, by omega, by omega⟩ (And.intro (Wdo_0 hW) ?_)
  refine P_mark (z := z) (by omega) hR (fun rr m1 hW1 h9 => ?_)
  have hW := hW1
  refine And.intro ⟨by omega, Nat.le_of_ble_eq_true rfl, by omega, by omega⟩ (And.intro (Wdo_142 hW) ?_)
  refine h9 _ (fun m2 hR2 => ?_)
  have hW := hR2.1
  refine And.intro (fun cz849 => ?_) (fun cz849 => False.elim (absurd rfl cz849))
  show Jj sc d 601024 7293034 lawX (pg P349 13).1 [some (.ref 3000000), some (.ref 0), some (.ref 142), some (.ref 157), some (.int ((nI (6 * k)) + nI 6)), none, none] [] m2 (c + 0 + 0) (s + 0 + 0) Q
  rw [show nI (6 * k) + nI 6 = nI (6 * (k + 1)) from nI_add _ _]
  exact hk z m2 _ _ (by omega) (by omega) (by omega) hR2
theorem law_50 {sc : Nat × (Nat → Int32)} {d : Nat} {m : Mm} {Q : Option Value → Mm → Prop} {k z c s : Nat} (hd : 20 ≤ d) (hN : sc.1 ≤ 3072) (hk6 : 6 * k + 6 ≤ sc.1) (hz : z ≤ 20000) (hc : c ≤ 20000) (hs : s ≤ 400000) (hR : Rel z m) (hk : ∀ z2 m2 cz2 s2, z2 ≤ z + 30 → cz2 ≤ c + 30 → s2 ≤ s + 540 → Rel z2 m2 → Jj sc d 601024 7293034 lawX (pg P349 13).1 [some (.ref 3000000), some (.ref 0), some (.ref 142), some (.ref 157), some (.int (nI (6 * (k + 1)))), none, none] [] m2 cz2 s2 Q) : zw sc d 601024 7293034 lawX.2.2.2.2.1 P349 (KJ sc d 601024 7293034 lawX P349 Q) Q 2143 923 [some (.ref 3000000), some (.ref 0), some (.ref 142), some (.ref 157), some (.int (nI (6 * k))), none, none] [] m c s := by
  have hW := hR.1
  have ez928 : (nI (6 * k)) + nI 1 = nI (6 * k + 1) := by simp only [nI_add, pk_mul]
  refine And.intro ⟨rfl, vi ez928 (by omega) (by omega)⟩ ?_
  rw [vc ez928 (by omega)]
  have ez933 : (nI (6 * k)) + nI 2 = nI (6 * k + 2) := by simp only [nI_add, pk_mul]
  refine And.intro ⟨rfl, vi ez933 (by omega) (by omega)⟩ ?_
  rw [vc ez933 (by omega)]
  refine And.intro ⟨by omega, Nat.le_of_ble_eq_true rfl, by omega, by omega⟩ (And.intro (Wdo_0 hW) ?_)
  refine P_bars (z := z) (by omega) hR (fun rr m1 hW1 h9 => ?_)
  have hW := hW1
  have ez940 : (nI (6 * k)) + nI 1 = nI (6 * k + 1) := by simp only [nI_add, pk_mul]
  refine And.intro ⟨rfl, vi ez940 (by omega) (by omega)⟩ ?_
  rw [vc ez940 (by omega)]
  have ez945 : (nI (6 * k)) + nI 2 = nI (6 * k + 2) := by simp only [nI_add, pk_mul]
  refine And.intro ⟨rfl, vi ez945 (by omega) (by omega)⟩ ?_
  rw [vc ez945 (by omega)]
  refine And.intro ⟨by omega, Nat.le_of_ble_eq_true rfl, by omega, by omega⟩ (And.intro (Wdo_142 hW) ?_)
  refine h9 _ (fun m2 hR2 => ?_)
  have hW := hR2.1
  refine And.intro (fun cz947 => ?_) (fun cz947 => False.elim (absurd rfl cz947))
  show Jj sc d 601024 7293034 lawX (pg P349 13).1 [some (.ref 3000000), some (.ref 0), some (.ref 142), some (.ref 157), some (.int ((nI (6 * k)) + nI 6)), none, none] [] m2 (c + 0 + 0) (s + 0 + 0) Q
  rw [show nI (6 * k) + nI 6 = nI (6 * (k + 1)) from nI_add _ _]
  exact hk z m2 _ _ (by omega) (by omega) (by omega) hR2
theorem law_54 {sc : Nat × (Nat → Int32)} {d : Nat} {m : Mm} {Q : Option Value → Mm → Prop} {k z c s : Nat} (hd : 20 ≤ d) (hN : sc.1 ≤ 3072) (hk6 : 6 * k + 6 ≤ sc.1) (hz : z ≤ 20000) (hc : c ≤ 20000) (hs : s ≤ 400000) (hR : Rel z m) (hk : ∀ z2 m2 cz2 s2, z2 ≤ z + 30 → cz2 ≤ c + 30 → s2 ≤ s + 540 → Rel z2 m2 → Jj sc d 601024 7293034 lawX (pg P349 13).1 [some (.ref 3000000), some (.ref 0), some (.ref 142), some (.ref 157), some (.int (nI (6 * (k + 1)))), none, none] [] m2 cz2 s2 Q) : zw sc d 601024 7293034 lawX.2.2.2.2.1 P349 (KJ sc d 601024 7293034 lawX P349 Q) Q 2143 1039 [some (.ref 3000000), some (.ref 0), some (.ref 142), some (.ref 157), some (.int (nI (6 * k))), none, none] [] m c s := by
  have hW := hR.1
  have ez1044 : (nI (6 * k)) + nI 1 = nI (6 * k + 1) := by simp only [nI_add, pk_mul]
  refine And.intro ⟨rfl, vi ez1044 (by omega) (by omega)⟩ ?_
  rw [vc ez1044 (by omega)]
  refine And.intro ⟨by omega, Nat.le_of_ble_eq_true rfl, by omega, by omega⟩ (And.intro (Wdo_0 hW) ?_)
  refine P_size (z := z) (by omega) hR (fun rr m1 hW1 h9 => ?_)
  have hW := hW1
  have ez1051 : (nI (6 * k)) + nI 1 = nI (6 * k + 1) := by simp only [nI_add, pk_mul]
  refine And.intro ⟨rfl, vi ez1051 (by omega) (by omega)⟩ ?_
  rw [vc ez1051 (by omega)]
  refine And.intro ⟨by omega, Nat.le_of_ble_eq_true rfl, by omega, by omega⟩ (And.intro (Wdo_142 hW) ?_)
  refine h9 _ (fun m2 hR2 => ?_)
  have hW := hR2.1
  refine And.intro (fun cz1053 => ?_) (fun cz1053 => False.elim (absurd rfl cz1053))
  show Jj sc d 601024 7293034 lawX (pg P349 13).1 [some (.ref 3000000), some (.ref 0), some (.ref 142), some (.ref 157), some (.int ((nI (6 * k)) + nI 6)), none, none] [] m2 (c + 0 + 0) (s + 0 + 0) Q
  rw [show nI (6 * k) + nI 6 = nI (6 * (k + 1)) from nI_add _ _]
  exact hk z m2 _ _ (by omega) (by omega) (by omega) hR2
