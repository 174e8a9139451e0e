def ledX : MT := (RL, yL_led, cL_led, 4, some .int, 1, 3, [])
def PLd : List (List PE) := [[(0, false, .aload_n 2, [], 1), (1, false, .iconst 0, [0, 0], 2), (2, false, .aload_n 0, [], 3), (3, false, .iload_n 1, [], 4), (4, false, .invokevirtual 7, [0, 173, 1, 0, 0, 9, 0, 6, 84], 5), (7, false, .i2l, [], 6), (8, false, .lastore, [], 7), (9, false, .goto 6, [11], 8), (12, false, .astore_n 3, [], 9), (13, false, .iconst 1, [0, 1], 10), (14, false, .ireturn, [], 11), (15, false, .iconst 0, [0, 0], 12), (16, false, .ireturn, [], 13)]]
theorem zLd : zall ledX PLd (PLd.length * 32) = true := by decide +kernel
def hhL : List (Nat × Nat × Nat × Nat) := [(0, 9, 12, 13)]
def wsL : List Cond := Cond.codeWith yL_led cL_led 4 (some .int) hhL :: BIG
/-- the contract of the law's own led -/
def CcL (d mc ms : Nat) (args : List Value) (m : Mm) (Q : Option Value → Mm → Prop) : Prop := ∀ E : En, Met (eL E) yL_led wsL (rm d mc ms) (va_Pc (args.map (rv E)) (fun U => Tb E U U.heap ∧ Hp E m U U.heap)) (QC E Q) mc ms (eA E)
theorem wL_c : Cond.codeWith yL_led cL_led 4 (some .int) hhL ∈ BIG := List.mem_filter.mpr ⟨tb_in 6 _ (List.mem_of_getElem? (i := 82) rfl), rfl⟩
theorem wL_l : Cond.methodLink RL 241 yL_led ∈ BIG := wq_big (t := 6) (i := 80) (by decide +kernel) rfl
theorem wL_s : Cond.static yL_led ∈ BIG := wq_big (t := 6) (i := 81) (by decide +kernel) rfl
theorem wL_i : Cond.initialized RL ∈ BIG := wq_big (t := 1) (i := 0) (by decide +kernel) rfl
theorem wsL_good : GoodIn BIG (va_wsS RL 241 yL_led wsL) := by
  intro w hw
  have key : w ∈ BIG := by
    unfold va_wsS at hw
    rcases List.mem_append.mp hw with h | h
    · rcases List.mem_cons.mp h with e | h
      · rw [e]; exact wL_l
      · rcases List.mem_cons.mp h with e | h
        · rw [e]; exact wL_s
        · rcases List.mem_cons.mp h with e | h
          · rw [e]; exact wL_i
          · cases h
    · rcases List.mem_cons.mp h with e | h
      · rw [e]; exact wL_c
      · exact h
  exact ⟨key, (BIG_good _ key).2⟩
section ZL
variable {sc : Nat × (Nat → Int32)} {d mc ms : Nat} {X : MT} {pc : Nat} {L : List (Option Value)} {S : List Value} {m : Mm} {c s : Nat} {Q : Option Value → Mm → Prop}
set_option maxHeartbeats 1000000 in
theorem js_callL {mc' ms' : Nat} {as r : List Value} (hd : decode X.2.2.1 pc = .ok (.invokestatic 241, 3)) (hX : X.1 = RL) (hlen : as.length = 3) (hbd : 1 ≤ d ∧ csum r ≤ 8 ∧ c + mc' ≤ mc ∧ s + ms' ≤ ms) (h : CcL (d - 1) mc' ms' as m fun v m' => Jj sc d mc ms X (pc + 3) L (v.toList ++ r) m' (c + mc') (s + ms') Q) : Jj sc d mc ms X pc L (as.reverse ++ r) m c s Q := by
  intro E p e R st mid args below meth cd H locs ls hC hP hS hl
  obtain ⟨hx, hb, hml, hrt, hown, hts, hlk, hnm, hT, hB, ⟨hR1, hR2, hR3, hR4⟩, hsc⟩ := id hC
  have hM := h E
  rw [hX] at hown
  have hRR : (rm (d - 1) mc' ms').frames + 1 ≤ R.frames ∧ 8 + (4 + 11) + (rm (d - 1) mc' ms').locals ≤ R.locals := ⟨by show d - 1 + 1 ≤ _; omega, by show 8 + _ + 100 * (d - 1) ≤ _; omega⟩
  have hrun : va_Run p (eL E) e R st mid args below meth cd H locs c s mc' ms' (F0 mid pc ls ((as.reverse ++ r).map (rv E))) (r.map (rv E)) (QC E (fun v m' => Jj sc d mc ms X (pc + 3) L (v.toList ++ r) m' (c + mc') (s + ms') Q) (as.map (rv E)).toArray) (eA E) :=
    vx_runSW (hh := hhL) (bytes := cL_led) (maxL := 4) (ret := some .int) (own := RL) (index := 241) (As := as.map (rv E)) (rest := r.map (rv E)) ⟨hx, hb, hml, hown, hts⟩ hM (vx_cwSW 3 hts wsL_good rfl rfl rfl ⟨by decide, by decide, by decide +kernel⟩ hRR) ⟨Pc_blind _ _ _, Pc_at hT hP hS⟩ rfl (by rw [List.length_map]; exact hlen) hl.1 (by show (as.reverse ++ r).map (rv E) = _; rw [List.map_append, List.map_reverse]) (lv_room (by rw [csum_map]; exact hbd.2.1)) hd ⟨by omega, by omega⟩
  refine run_W hrun hS fun v m' H1 locs1 hq hp hS1 => ?_
  rw [tol_map]
  exact hq E p e R st mid args below meth cd H1 locs1 ls hC hp hS1 hl
theorem CcL_of {args : List Value} (hlen : (args.flatMap fun v => if v.category = 2 then [some v, none] else [some v]).length ≤ 4) (h : ∀ sc, Jj sc d mc ms ledX 0 (zE 4 args) [] m 0 0 Q) : CcL d mc ms args m Q := by
  intro E
  refine va_MetW (cc := cL_led) (maxL := 4) (ret := some .int) (hh := hhL) (by decide) rfl ?_
  intro p e s m1 args1 below meth c s₁ B hml hv
  obtain ⟨rfl, hT, hP⟩ := hv
  have hts := atoms_spec (ws := wsL) B.pre
  have hl := lv_entry (args.map (rv E)) (n := 4) (by rw [sl_len]; exact hlen)
  rw [lg_entry_eq]
  refine h (eN E, eX E) E p e (headSpec wsL (rm d mc ms)).room s m1 _ below meth c s.heap [] _ ⟨B.exec, B.bytes, hml, B.returns, findClass_of_methodNamed B.named, fun w hw => hts w (List.mem_cons_of_mem _ hw), B.notSynchronized, (name_of_methodNamed B.named B.method).1, hT, by rw [hP.1]; exact Nat.le_add_right _ _, ⟨Nat.le_refl _, Nat.le_refl _, Nat.le_refl _, Nat.le_refl _⟩, rfl, rfl⟩ hP va_S.rf (lv_mono hl fun q hq => ?_)
  obtain ⟨v, hv, hw⟩ := zlv_of hq
  have := zE_sub E args 0 q.1 v _ hv
  rw [Nat.zero_add] at this
  obtain ⟨q1, q2⟩ := q
  dsimp only at hw this
  rw [hw]
  exact this
end ZL
/-- it returns -/
theorem CcL_r {d : Nat} {m : Mm} {Q : Option Value → Mm → Prop} {a n np : Nat} (hd : 7 ≤ d) (hW : Wd m.2.2) (ha : va_rf (mR m 0 3) = .ref a) (hL : LW m.2.2 a) (hab : a = 1 ∨ a = 93) (hJ : JE (lam m a) (lam m 20) n np) (hn : mI m (a + 1) 4 = nI n) (hn6 : n ≤ 6) (hnp : mI m (a + 1) 8 = nI np) (hnp8 : np ≤ 8) {x : Int32} {p0 : Nat} (hf : FD (curF m a n np 1) x p0) (hQ : ∀ m9 p, CUF n np m a m9 → FD (curF m a n np 1) x p → Q (some (.int (nI 0))) (uJ m9 157 0 (nI p).toInt64)) : CcL d 0 0 [.ref 0, .int x, .ref 157] m Q := by
  refine CcL_of (Nat.le_of_ble_eq_true rfl) (fun sc => ?_)
  show Jj sc d 0 0 ledX (pg PLd 0).1 [some (.ref 0), some (.int x), some (.ref 157), none] [] m 0 0 Q
  refine J_w zLd (i := 0) (by decide) 30 ?_
  refine And.intro ⟨by omega, Nat.le_of_ble_eq_true rfl, Nat.le_refl _, Nat.le_refl _⟩ (And.intro (Wdo_0 hW) ?_)
  refine C173 (by omega) hW ha hL hab hJ hn hn6 hnp hnp8 hf (fun m9 p hCU hp => ?_)
  have hW9 : Wd m9.2.2 := by rw [hCU.1]; exact hW
  refine And.intro (Wdi_157 hW9 (vi rfl (by decide))) ?_
  refine And.intro ⟨rfl, trivial, Nat.le_refl _, Nat.le_refl _⟩ ?_
  exact hQ m9 p hCU hp
theorem cmp_s (x : Int64) : lg_cmp x x = 0 := by
  unfold lg_cmp
  rw [if_neg (by rw [gt_iff_lt, Int64.lt_iff_toInt_lt]; omega), if_pos rfl]
theorem C199 {d : Nat} {m : Mm} {Q : Option Value → Mm → Prop} (hW : Wd m.2.2) (hQ : Q (some (.int (mI m 142 0))) m) : Cc d 0 0 199 [.ref 142] m Q := by
  refine ent (n := 26) z199 (by decide) rfl (by decide) (Nat.le_of_ble_eq_true rfl) (fun sc => ?_)
  refine And.intro (Wdo_142 hW) ?_
  refine And.intro ⟨rfl, trivial, Nat.le_refl _, Nat.le_refl _⟩ ?_
  exact hQ
