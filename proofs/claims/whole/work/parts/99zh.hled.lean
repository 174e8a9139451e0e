/-! ===== the law's led catches ===== -/
theorem dL_0 : decode cL_led 0 = .ok (.aload_n 2, 1) := by decide +kernel
theorem dL_1 : decode cL_led 1 = .ok (.iconst 0, 1) := by decide +kernel
theorem dL_2 : decode cL_led 2 = .ok (.aload_n 0, 1) := by decide +kernel
theorem dL_3 : decode cL_led 3 = .ok (.iload_n 1, 1) := by decide +kernel
theorem dL_4 : decode cL_led 4 = .ok (.invokevirtual 7, 3) := by decide +kernel
theorem dL_12 : decode cL_led 12 = .ok (.astore_n 3, 1) := by decide +kernel
theorem dL_13 : decode cL_led 13 = .ok (.iconst 1, 1) := by decide +kernel
theorem dL_14 : decode cL_led 14 = .ok (.ireturn, 1) := by decide +kernel
theorem wsT_good : GoodIn BIG wsT := wsM_good (k := 173) (by decide)
theorem wT_l : Cond.methodLink RL 7 yX10_led ∈ BIG := wq_big (t := 6) (i := 84) (by decide +kernel) rfl
theorem wT_m : ∀ w ∈ mwd (mth 173), w ∈ BIG := mth_w (k := 173) (by decide)
theorem wT_i : Cond.initialized RX10 ∈ BIG := wT_m (Cond.initialized RX10) (List.mem_cons_of_mem _ List.mem_cons_self)
theorem wT_n : Cond.instanceMethod yX10_led ∈ BIG := wT_m (Cond.instanceMethod yX10_led) (List.mem_cons_of_mem _ (List.mem_cons_of_mem _ List.mem_cons_self))
theorem wT_s : Cond.selects RX10 yX10_led yX10_led ∈ BIG := wT_m (Cond.selects RX10 yX10_led yX10_led) (List.mem_cons_of_mem _ (List.mem_cons_of_mem _ (List.mem_cons_of_mem _ List.mem_cons_self)))
theorem cw173 {R : Room} {s : State} {args : Array Value} {d : Nat} (hts : ∀ w ∈ BIG, w.before args s = true) (hRR : (rm d 1 6).frames + 1 ≤ R.frames ∧ 8 + (3 + 11) + (rm d 1 6).locals ≤ R.locals) : CallW R s args RL RX10 7 yX10_led cX10_led 3 (some .int) wsT (rm d 1 6) 1 6 1 :=
  ⟨callB_of 1 hts wsT_good rfl rfl rfl (hts _ wT_i) (hts _ wT_l) ⟨by decide, by decide, by decide +kernel⟩ hRR, hts _ wT_n, hts _ wT_s⟩
def tbL (cd : Code) : Prop := cd.exceptionTable.toList = tableOf hhL
def ZL (Q : Option Value → Mm → Prop) : En → List Frame → Array Value → State → State → Prop := fun E below args st => MQ below (QC E Q) args st 1 6 (eA E)
set_option maxHeartbeats 1000000 in
theorem jz_led {sc : Nat × (Nat → Int32)} {d : Nat} {m : Mm} {Q : Option Value → Mm → Prop} {a n np : Nat} (hd : 8 ≤ d) (hz : mZ m < 1000000) (hW : Wd m.2.2) (ha : va_rf (mR m 0 3) = .ref a) (hL : LW m.2.2 a) (hab : a = 1 ∨ a = 93) (hJ : JE (lam m a) (lam m 20) n np) (hn : mI m (a + 1) 4 = nI n) (hn6 : n ≤ 6) (hnp : mI m (a + 1) 8 = nI np) (hnp8 : np ≤ 8) {x : Int32} (hno : ∀ p, ¬ FD (curF m a n np 1) x p) (hQ : ∀ m9, m9 = m ∨ CUF n np m a m9 → Q (some (.int (nI 1))) (jk m9)) : Jz tbL sc d 1 6 ledX 0 [some (.ref 0), some (.int x), some (.ref 157), none] [] m 0 0 (ZL Q) := by
  refine jz_aload_n (k := 2) (x := 157) dL_0 rfl ?_
  refine jz_iconst (v := nI 0) dL_1 (by decide) ?_
  refine jz_aload_n (k := 0) (x := 0) dL_2 rfl ?_
  refine jz_iload_n (k := 1) (x := x) dL_3 rfl ?_
  intro E p e R st mid args below meth cd H locs ls hC htq hP hS hl
  obtain ⟨hx, hb, hml, hrt, hown, hts, hlk, hnm, hT, hB, ⟨hR1, hR2, hR3, hR4⟩, hsc⟩ := id hC
  have hM := thr173 (d := d - 1) (Mx := fun m9 => Q (some (.int (nI 1))) m9) (by omega) hz hW ha hL hab hJ hn hn6 hnp hnp8 hno hQ E
  have hRR : (rm (d - 1) 1 6).frames + 1 ≤ R.frames ∧ 8 + (3 + 11) + (rm (d - 1) 1 6).locals ≤ R.locals := ⟨by show d - 1 + 1 ≤ _; omega, by show 8 + _ + 100 * (d - 1) ≤ _; omega⟩
  have hrun : vx_Run p (eL E) e R st mid args below meth cd H locs 0 0 1 6 (F0 mid 4 ls (([.int x, .ref 0, .int (nI 0), .ref 157] : List Value).map (rv E))) (([.int (nI 0), .ref 157] : List Value).map (rv E)) (QF E (([.ref 0, .int x] : List Value).map (rv E)).toArray) (XCl E (fun m9 => Q (some (.int (nI 1))) m9)) (eA E) :=
    vx_runV (own := RL) (cc := cL_led) (nL := 4) (b := ro E 0) (As := ([.int x] : List Value).map (rv E)) (rest := ([.int (nI 0), .ref 157] : List Value).map (rv E)) ⟨hx, hb, hml, hown, hts⟩ hM (cw173 hts hRR) ⟨Pc_blind _ _ _, recv_at hT hP hS (C := RX10) (Or.inl ⟨9, _, Wdo_0 hW, by decide, rfl, rfl⟩), Pc_at (av := ([.ref 0, .int x] : List Value).map (rv E)) hT hP hS⟩ rfl rfl hl.1 rfl (lv_room (by rw [csum_map]; decide)) dL_4 ⟨by omega, by omega⟩
  refine vx_calli (A0 := eA E) (H0 := st.heap) (A1 := eA E) (AX := eA E) hrun hS (fun _ _ h => h) (fun _ h => h) (fun _ _ h => h) (fun N ce q9 m9 t H1 locs1 ht hal hq9 hb9 hz1 hk1 hS1 hce hcv hcl => ?_) (fun r u t H1 locs1 _ _ hpost => hpost.elim)
  obtain ⟨hN9, hp9⟩ := hb9
  have htab : cd.exceptionTable.toList = [⟨0, 9, 12, 13⟩] := htq
  refine hc_catch (own := RL) (name := NSE) (E := N) hown ⟨0, 9, 12, 13⟩ [] htab (by decide) (by decide) (hts _ nwC) (by rw [hN9]; exact va_Nw.use rfl hT.2.2.2.2.2.2.2.2.2.2.2.2.1) hce hcv hcl ?_
  refine lv_astore_n hx hb dL_12 rfl hl (by decide) rfl (fun ls9 hl9 => ?_)
  refine lv_iconst hx hb dL_13 (v := nI 1) (by decide) ?_
  have hq : ∀ t : State, t.heap = H1 → st.WarmedH t.vm → QC E Q args st (.returned (some (.int (nI 1)))) t := fun t9 ht9 hW9 => ⟨⟨some (.int (nI 1)), m9, rfl, hq9, by rw [ht9]; exact Hp_moved (hal.symm.trans hW9.alike) (by rw [← ht]; exact hp9)⟩, hS1.F ht9⟩
  exact W.iret hx hb hrt hq hS1.2.2 dL_14 hlk
theorem CcL_t {d : Nat} {m : Mm} {Q : Option Value → Mm → Prop} {a n np : Nat} (hd : 8 ≤ d) (hz : mZ m < 1000000) (hW : Wd m.2.2) (ha : va_rf (mR m 0 3) = .ref a) (hL : LW m.2.2 a) (hab : a = 1 ∨ a = 93) (hJ : JE (lam m a) (lam m 20) n np) (hn : mI m (a + 1) 4 = nI n) (hn6 : n ≤ 6) (hnp : mI m (a + 1) 8 = nI np) (hnp8 : np ≤ 8) {x : Int32} (hno : ∀ p, ¬ FD (curF m a n np 1) x p) (hQ : ∀ m9, m9 = m ∨ CUF n np m a m9 → Q (some (.int (nI 1))) (jk m9)) : CcL d 1 6 [.ref 0, .int x, .ref 157] m Q := by
  intro E
  refine va_MetW (cc := cL_led) (maxL := 4) (ret := some .int) (hh := hhL) (by decide) rfl ?_
  intro p e s m1 args1 below meth c s₁ B hml hv
  have hts := atoms_spec (ws := wsL) B.pre
  have htab := vx_table (x := yL_led) B (hts _ List.mem_cons_self)
  obtain ⟨rfl, hT, hP⟩ := hv
  have hl := lv_entry (([.ref 0, .int x, .ref 157] : List Value).map (rv E)) (n := 4) (by rw [sl_len]; exact Nat.le_of_ble_eq_true rfl)
  rw [lg_entry_eq]
  refine jz_led (sc := (eN E, eX E)) hd hz hW ha hL hab hJ hn hn6 hnp hnp8 hno hQ E p e (headSpec wsL (rm d 1 6)).room s m1 _ below meth c s.heap [] _ ⟨B.exec, B.bytes, hml, B.returns, findClass_of_methodNamed B.named, fun w hw => hts w (List.mem_cons_of_mem _ hw), B.notSynchronized, (name_of_methodNamed B.named B.method).1, hT, by rw [hP.1]; exact Nat.le_add_right _ _, ⟨Nat.le_refl _, Nat.le_refl _, Nat.le_refl _, Nat.le_refl _⟩, rfl, rfl⟩ htab hP va_S.rf (lv_mono hl fun q hq => ?_)
  obtain ⟨v, hv, hw⟩ := zlv_of (L := zE 4 [.ref 0, .int x, .ref 157]) hq
  have := zE_sub E [.ref 0, .int x, .ref 157] 0 q.1 v _ hv
  rw [Nat.zero_add] at this
  obtain ⟨q1, q2⟩ := q
  dsimp only at hw this
  rw [hw]
  exact this
theorem led_t {sc : Nat × (Nat → Int32)} {d : Nat} {m : Mm} {Q : Option Value → Mm → Prop} {k z c s : Nat} (hd : 20 ≤ d) (hN : sc.1 ≤ 3072) (hk6 : 6 * k + 6 ≤ sc.1) (hz : z ≤ 20000) (hc : c ≤ 20000) (hs : s ≤ 400000) {a b n np : Nat} (hR : Rel z m) (hA : RelA m a b) (hX : RelX m a) (hn4 : mI m (a + 1) 4 = nI n) (bn4 : n ≤ 6) (hn8 : mI m (a + 1) 8 = nI np) (bn8 : np ≤ 8) (hn2 : ∃ nt, nt ≤ 6 ∧ mI m (a + 1) 2 = nI nt) (hJ : JE (lam m a) (lam m 20) n np) (hno : ∀ p, ¬ FD (curF m a n np 1) (sc.2 (6 * k + 1)) p) (hk : ∀ z2 m2 cz2 s2, z2 ≤ z + 30 → cz2 ≤ c + 30 → s2 ≤ s + 540 → Rel z2 m2 → Jj sc d 601024 7293034 lawX (pg P349 13).1 [some (.ref 3000000), some (.ref 0), some (.ref 142), some (.ref 157), some (.int (nI (6 * (k + 1)))), none, none] [] m2 cz2 s2 Q) : Jj sc d 601024 7293034 lawX (pg P349 1011).1 [some (.ref 3000000), some (.ref 0), some (.ref 142), some (.ref 157), some (.int (nI (6 * k))), none, none] [.ref 157, .int (sc.2 (6 * k + 1)), .ref 0] m c s Q := by
  have hW := hR.1
  obtain ⟨hL, hLb, hab, ha, hb⟩ := RelA_L hW hA
  have hp : (pg P349 1011).1 = 1713 := by decide +kernel
  rw [hp]
  refine js_callL (as := [.ref 0, .int (sc.2 (6 * k + 1)), .ref 157]) (r := []) (mc' := 1) (ms' := 6) (by decide +kernel) rfl rfl ⟨by omega, by decide, by omega, by omega⟩ ?_
  refine CcL_t (by omega) (by rw [hR.2.1]; omega) hW ha hL hab hJ hn4 bn4 hn8 bn8 hno (fun m9 h9 => ?_)
  have hR9 : Rel z m9 := h9.elim (fun g9 => by rw [g9]; exact hR) (fun hCU => Rel_cuf hR hA hX hn4 bn4 hn8 bn8 hCU)
  have g22 : m9.2.2 = m.2.2 := h9.elim (fun g9 => by rw [g9]) (fun h => h.1)
  have gc : curF m9 a n np 1 = curF m a n np 1 := h9.elim (fun g9 => by rw [g9]) cur_cuf
  have gr : ∀ r, (a ≤ r ∧ r < a + 19) → mI m9 r = mI m r := fun r hr => h9.elim (fun g9 => by rw [g9]) (fun h => h.2.1 r (by omega) (by omega))
  have hRj := Rel_jk hR9
  have hp2 : (pg P349 1012).1 = 1713 + 3 := by decide +kernel
  rw [← hp2]
  refine led_on1 (z1 := z + 1) (cz1 := c + 1) (s1 := s + 6) (p := 0) hd hN hk6 hz hc hs (by omega) (by omega) (by omega) hRj.1 (fun Q2 h2 => ?_) hk
  obtain ⟨-, -, -, a2, b2, hA2, hX2⟩ := id hRj
  have ea : a2 = a := by
    have z1 : mR (jk m9) = mR m := (show mR (jk m9) = mR m9 from rfl).trans (show mR m9 = mR m from congrArg (fun w : WR => w.1) g22)
    have z2 := hA2.2.1
    rw [z1, hA.2.1] at z2
    exact (Option.some.inj z2).symm
  subst ea
  have gj : ∀ r, mI (jk m9) r = mI m9 r := fun _ => rfl
  rcases hX2.2.2.1 with h0 | ⟨q, h1⟩
  · exact ledR0 (by omega) hRj h0.1 (fun m2 hR2 ht => h2 m2 hR2 ht)
  · refine ledR1 (z := z + 1) (n := n) (np := np) (by omega) hRj hA2 hX2 h1 (by rw [gj, gr _ (by omega)]; exact hn4) bn4 (by rw [gj, gr _ (by omega)]; exact hn8) bn8 (by rw [gj, gr _ (by omega)]; exact hn2) (fun p1 m2 _ _ _ hf1 => ?_) (fun m2 hR2 ht _ => h2 m2 hR2 ht)
    rw [show curF (jk m9) a2 n np 1 = curF m9 a2 n np 1 from rfl, gc] at hf1
    exact absurd hf1 (hno p1)
theorem hled_all {sc : Nat × (Nat → Int32)} {d : Nat} {Q : Option Value → Mm → Prop} (hd : 20 ≤ d) (hN : sc.1 ≤ 3072) (k z : Nat) (m : Mm) (c s : Nat) (hk6 : 6 * k + 6 ≤ sc.1) (hz : z ≤ 20000) (hc : c ≤ 20000) (hs : s ≤ 400000) (hR : Rel z m) (hk : ∀ z2 m2 cz2 s2, z2 ≤ z + 30 → cz2 ≤ c + 30 → s2 ≤ s + 540 → Rel z2 m2 → Jj sc d 601024 7293034 lawX (pg P349 13).1 [some (.ref 3000000), some (.ref 0), some (.ref 142), some (.ref 157), some (.int (nI (6 * (k + 1)))), none, none] [] m2 cz2 s2 Q) : Jj sc d 601024 7293034 lawX (pg P349 1011).1 [some (.ref 3000000), some (.ref 0), some (.ref 142), some (.ref 157), some (.int (nI (6 * k))), none, none] [.ref 157, .int (sc.2 (6 * k + 1)), .ref 0] m c s Q := by
  obtain ⟨hW, hz9, hS, a, b, hA, hX⟩ := id hR
  rcases hX.2.2.1 with h0 | ⟨q, h1⟩
  · have hn4 : mI m (a + 1) 4 = nI 0 := h0.2.2.2.1 4 (by decide)
    have hn8 : mI m (a + 1) 8 = nI 0 := h0.2.2.2.1 8 (by decide)
    have hn2 : mI m (a + 1) 2 = nI 0 := h0.2.2.2.1 2 (by decide)
    exact led_t (n := 0) (np := 0) hd hN hk6 hz hc hs hR hA hX hn4 (by omega) hn8 (by omega) ⟨0, by omega, hn2⟩ JE_0 (fun p hf => absurd (FD_no JE_0 hn4 (by omega) hn8 (by omega) hX.2.2.2.2.1 hf) (Nat.not_lt_zero _)) hk
  · obtain ⟨n2r, hn2, bn2, -⟩ := RL_n (s := 2) (f := 5) hX.2.2.1 (by decide) (fun _ _ h => h.2.2.2.2.2.1)
    change n2r ≤ 6 at bn2
    obtain ⟨n4r, hn4, bn4, -⟩ := RL_n (s := 4) (f := 6) hX.2.2.1 (by decide) (fun _ _ h => h.2.2.2.2.2.2.1)
    change n4r ≤ 6 at bn4
    obtain ⟨n8r, hn8, bn8, -⟩ := RL_n (s := 8) (f := 10) hX.2.2.1 (by decide) (fun _ _ h => h.2.2.2.2.2.2.2.2.2.2.1)
    change n8r ≤ 8 at bn8
    obtain ⟨h158, hqz, hNq, h3, ⟨T, hI⟩, hst, hla, hLQ, hSR⟩ := id h1
    have hJ := (JE_of hI hSR hn2 bn2 hn4 bn4 hn8 bn8).1
    rcases Classical.em (∃ p, FD (curF m a n4r n8r 1) (sc.2 (6 * k + 1)) p) with ⟨p0, hf⟩ | hno
    · exact led_f hd hN hk6 hz hc hs hR hA hX h1 hn4 bn4 hn8 bn8 ⟨n2r, bn2, hn2⟩ hJ hf hk
    · exact led_t hd hN hk6 hz hc hs hR hA hX hn4 bn4 hn8 bn8 ⟨n2r, bn2, hn2⟩ hJ (fun p hf => hno ⟨p, hf⟩) hk
