/-! ===== led throws ===== -/
/-- the judgement with an end of its own -/
def Jz (Tq : Code → Prop) (sc : Nat × (Nat → Int32)) (d mc ms : Nat) (X : MT) (pc : Nat) (L : List (Option Value)) (S : List Value) (m : Mm) (c s : Nat) (Zp : En → List Frame → Array Value → State → State → Prop) : Prop :=
  ∀ (E : En) (p : Program) (e : Env) (R : Room) (st : State) (mid : MethodId) (args : Array Value) (below : List Frame) (meth : Method) (cd : Code) (H : Heap) (locs : List Loc) (ls : Array Slot),
    Cx E sc d mc ms X p R st mid args meth cd → Tq cd → Hp E m st H → va_S (eA E) st.heap H locs → lv_has ls X.2.2.2.1 (zlv E L) →
    W p (eL E) e R st mid args below meth cd H locs c s (Zp E below args st) (F0 mid pc ls (S.map (rv E)))
section ZG
variable {Tq : Code → Prop} {sc : Nat × (Nat → Int32)} {d mc ms : Nat} {X : MT} {pc : Nat} {L : List (Option Value)} {S : List Value} {m : Mm} {c s : Nat} {Zp : En → List Frame → Array Value → State → State → Prop}
theorem jz_iconst {n : Int} {v : Int32} (hd : decode X.2.2.1 pc = .ok (.iconst n, 1)) (hv : Int32.ofInt n = v) (h : Jz Tq sc d mc ms X (pc + 1) L (.int v :: S) m c s Zp) : Jz Tq sc d mc ms X pc L S m c s Zp := by
  intro E p e R st mid args below meth cd H locs ls hC ht hP hS hl
  exact lv_iconst hC.1 hC.2.1 hd hv (h E p e R st mid args below meth cd H locs ls hC ht hP hS hl)
theorem jz_iload_n {k : Fin 4} {x : Int32} (hd : decode X.2.2.1 pc = .ok (.iload_n k, 1)) (hk : L.getD k.val none = some (.int x)) (h : Jz Tq sc d mc ms X (pc + 1) L (.int x :: S) m c s Zp) : Jz Tq sc d mc ms X pc L S m c s Zp := by
  intro E p e R st mid args below meth cd H locs ls hC ht hP hS hl
  exact lv_iload_n hC.1 hC.2.1 hd rfl (zl_at hl hk) (h E p e R st mid args below meth cd H locs ls hC ht hP hS hl)
theorem jz_aload_n {k : Fin 4} {x : Nat} (hd : decode X.2.2.1 pc = .ok (.aload_n k, 1)) (hk : L.getD k.val none = some (.ref x)) (h : Jz Tq sc d mc ms X (pc + 1) L (.ref x :: S) m c s Zp) : Jz Tq sc d mc ms X pc L S m c s Zp := by
  intro E p e R st mid args below meth cd H locs ls hC ht hP hS hl
  exact lv_aload_n hC.1 hC.2.1 hd rfl (zl_at hl hk) (h E p e R st mid args below meth cd H locs ls hC ht hP hS hl)
theorem jz_istore_n {k : Fin 4} {x : Int32} {r : List Value} (hd : decode X.2.2.1 pc = .ok (.istore_n k, 1)) (hk : k.val < X.2.2.2.1) (h : Jz Tq sc d mc ms X (pc + 1) (st1 L k.val (.int x)) r m c s Zp) : Jz Tq sc d mc ms X pc L (.int x :: r) m c s Zp := by
  intro E p e R st mid args below meth cd H locs ls hC ht hP hS hl
  exact lv_istore_n hC.1 hC.2.1 hd rfl hl hk rfl (fun ls hl => h E p e R st mid args below meth cd H locs ls hC ht hP hS (lv_mono hl st1_sub))
theorem jz_goto {off : Int} {t : Nat} (hd : decode X.2.2.1 pc = .ok (.goto off, 3)) (ht : (pc : Int) + off = (t : Int)) (h : Jz Tq sc d mc ms X t L S m c s Zp) : Jz Tq sc d mc ms X pc L S m c s Zp := by
  intro E p e R st mid args below meth cd H locs ls hC htq hP hS hl
  exact lv_goto hC.1 hC.2.1 hd ht (h E p e R st mid args below meth cd H locs ls hC htq hP hS hl)
theorem jz_if_ge {off : Int} {t : Nat} {x : Int32} {r : List Value} (hd : decode X.2.2.1 pc = .ok (.ifCond .ge off, 3)) (ht : (pc : Int) + off = (t : Int)) (h1 : 0 ≤ x → Jz Tq sc d mc ms X t L r m c s Zp) (h2 : ¬ 0 ≤ x → Jz Tq sc d mc ms X (pc + 3) L r m c s Zp) : Jz Tq sc d mc ms X pc L (.int x :: r) m c s Zp := by
  intro E p e R st mid args below meth cd H locs ls hC htq hP hS hl
  exact lv_if_ge hC.1 hC.2.1 hd ht (fun z => h1 z E p e R st mid args below meth cd H locs ls hC htq hP hS hl) (fun z => h2 z E p e R st mid args below meth cd H locs ls hC htq hP hS hl)
theorem jz_icmp_ne {off : Int} {t : Nat} {x y : Int32} {r : List Value} (hd : decode X.2.2.1 pc = .ok (.if_icmp .ne off, 3)) (ht : (pc : Int) + off = (t : Int)) (h1 : ¬ x = y → Jz Tq sc d mc ms X t L r m c s Zp) (h2 : x = y → Jz Tq sc d mc ms X (pc + 3) L r m c s Zp) : Jz Tq sc d mc ms X pc L (.int y :: .int x :: r) m c s Zp := by
  intro E p e R st mid args below meth cd H locs ls hC htq hP hS hl
  exact lv_icmp_ne hC.1 hC.2.1 hd ht (fun z => h1 z E p e R st mid args below meth cd H locs ls hC htq hP hS hl) (fun z => h2 z E p e R st mid args below meth cd H locs ls hC htq hP hS hl)
set_option maxHeartbeats 1000000 in
theorem jz_callV {k index b : Nat} {as r : List Value} (hd : decode X.2.2.1 pc = .ok (.invokevirtual index, 3)) (hk : k < 349) (hst : (mth k).2.2.2.2.2.1 = 0) (hl1 : Cond.methodLink X.1 index (mth k).2.1 ∈ BIG) (hlen : as.length = (mth k).2.2.2.2.2.2.1) (hbd : 1 ≤ d ∧ csum r ≤ 8 ∧ c ≤ mc ∧ s ≤ ms) (hre : recv m b (mth k).2.1.cls) (h : Cc (d - 1) 0 0 k (.ref b :: as) m fun v m' => Jz Tq sc d mc ms X (pc + 3) L (v.toList ++ r) m' c s Zp) : Jz Tq sc d mc ms X pc L (as.reverse ++ .ref b :: r) m c s Zp := by
  intro E p e R st mid args below meth cd H locs ls hC htq hP hS hl
  obtain ⟨hx, hb, hml, hrt, hown, hts, hlk, hnm, hT, hB, ⟨hR1, hR2, hR3, hR4⟩, hsc⟩ := id hC
  have hM := h E
  obtain ⟨n1, n2, n3, n4, n5, n6, n7⟩ := mth_n hk
  have hw := mth_w hk
  have hini := hts _ (hw (Cond.initialized (mth k).2.1.cls) (List.mem_cons_of_mem _ List.mem_cons_self))
  have hins := hts _ (hw (Cond.instanceMethod (mth k).2.1) (by unfold mwd; rw [hst]; exact List.mem_cons_of_mem _ (List.mem_cons_of_mem _ List.mem_cons_self)))
  have hsel := hts _ (hw (Cond.selects (mth k).2.1.cls (mth k).2.1 (mth k).2.1) (by unfold mwd; rw [hst]; exact List.mem_cons_of_mem _ (List.mem_cons_of_mem _ (List.mem_cons_of_mem _ List.mem_cons_self))))
  have hRR : (rm (d - 1) 0 0).frames + 1 ≤ R.frames ∧ 8 + ((mth k).2.2.2.1 + 11) + (rm (d - 1) 0 0).locals ≤ R.locals := ⟨by show d - 1 + 1 ≤ _; omega, by show 8 + _ + 100 * (d - 1) ≤ _; omega⟩
  have hrun : va_Run p (eL E) e R st mid args below meth cd H locs c s 0 0 (F0 mid pc ls ((as.reverse ++ .ref b :: r).map (rv E))) (r.map (rv E)) (QC E (fun v m' => Jz Tq sc d mc ms X (pc + 3) L (v.toList ++ r) m' c s Zp) ((Value.ref b :: as).map (rv E)).toArray) (eA E) :=
    va_runV (b := ro E b) (As := as.map (rv E)) (rest := r.map (rv E)) ⟨hx, hb, hml, hown, hts⟩ hM ⟨callB_of (mth k).2.2.2.2.2.2.1 hts (wsM_good hk) rfl rfl rfl hini (hts _ hl1) ⟨n2, n3, n4⟩ hRR, hins, hsel⟩ ⟨Pc_blind _ _ _, recv_at hT hP hS hre, Pc_at (av := (Value.ref b :: as).map (rv E)) hT hP hS⟩ rfl (by rw [List.length_map]; exact hlen) hl.1 (by show (as.reverse ++ .ref b :: r).map (rv E) = _; rw [List.map_append, List.map_reverse]; rfl) (lv_room (by rw [csum_map]; exact hbd.2.1)) hd ⟨by omega, by omega⟩
  refine run_W hrun hS fun v m' H1 locs1 hq hp hS1 => ?_
  rw [tol_map]
  exact hq E p e R st mid args below meth cd H1 locs1 ls hC htq hp hS1 hl
end ZG
/-- a cell more, of no sort -/
def jk (m : Mm) : Mm := (m.1, m.2.1, m.2.2.1, va_up m.2.2.2.1 m.2.2.2.2 (200, 0), m.2.2.2.2 + 1)
theorem jk_S {m : Mm} {b : Nat} (h : b ≠ mZ m) : mS (jk m) b = mS m b := up_ne h
theorem jk_z {m : Mm} : mS (jk m) (mZ m) = (200, 0) := up_eq
theorem Hp_jk {E : En} {m : Mm} {U : State} {H H' : Heap} (h : Hp E m U H) (hz : mZ m < 1000000) (q1 : H'.size = H.size + 1) (o1 : ∀ q, q < H.size → H'[q]? = H[q]?) : Hp E (jk m) U H' := by
  refine ⟨by rw [q1, h.1]; rfl, hz, fun b hb => ?_⟩
  by_cases hab : b = mZ m
  · rw [hab]
    unfold zc
    rw [jk_z]
    rw [if_neg (by decide), if_neg (by decide), if_neg (by decide), if_neg (by decide), if_neg (by decide), if_neg (by decide)]
    trivial
  · have hb' : b < mZ m := by
      have : b < mZ m + 1 := hb
      omega
    exact zc_kept (m := m) rfl rfl rfl (jk_S hab) (o1 _ (by rw [h.1]; omega)) (h.2.2 b hb')
theorem NW_jk {m : Mm} {q : Nat} (h : NW m.2.2 q) : NW (jk m).2.2 q := by
  have hz : q + 29 ≤ mZ m := h.1
  have ej : ∀ b, b < mZ m → (jk m).2.2.2.1 b = m.2.2.2.1 b := fun b hb => jk_S (by omega)
  unfold NW at h ⊢
  rw [ej q (by omega), ej (q + 1) (by omega), ej (q + 2) (by omega), ej (q + 3) (by omega), ej (q + 4) (by omega), ej (q + 5) (by omega), ej (q + 6) (by omega), ej (q + 7) (by omega), ej (q + 8) (by omega), ej (q + 9) (by omega), ej (q + 10) (by omega), ej (q + 11) (by omega), ej (q + 12) (by omega), ej (q + 13) (by omega), ej (q + 14) (by omega), ej (q + 15) (by omega), ej (q + 16) (by omega), ej (q + 17) (by omega), ej (q + 18) (by omega), ej (q + 19) (by omega), ej (q + 20) (by omega), ej (q + 21) (by omega), ej (q + 22) (by omega), ej (q + 23) (by omega), ej (q + 24) (by omega), ej (q + 25) (by omega), ej (q + 26) (by omega), ej (q + 27) (by omega), ej (q + 28) (by omega)]
  exact ⟨Nat.le_succ_of_le hz, h.2⟩
theorem Rel_jk {z : Nat} {m : Mm} (h : Rel z m) : Rel (z + 1) (jk m) := by
  obtain ⟨hW, hz, hS, a, b, hA, hX⟩ := h
  have hz0 : 158 ≤ mZ m := hW.1
  refine ⟨⟨Nat.le_succ_of_le hz0, fun k hk => ?_, hW.2.2⟩, by rw [← hz]; rfl, hS, a, b, hA, ?_⟩
  · show (jk m).2.2.2.1 k = _
    rw [show (jk m).2.2.2.1 k = m.2.2.2.1 k from jk_S (by omega)]
    exact hW.2.1 k hk
  · obtain ⟨hT, hV, hL, hP, hD, hE⟩ := hX
    refine ⟨hT, hV, ?_, hP, hD, hE⟩
    rcases hL with hL | ⟨q, b1, b2, b3, b4⟩
    · exact Or.inl hL
    · exact Or.inr ⟨q, b1, Nat.le_succ_of_le b2, NW_jk b3, b4⟩
def X173 : MT := (RX10, yX10_led, cX10_led, 3, some .int, 0, 1, [])
theorem dl_0 : decode cX10_led 0 = .ok (.iload_n 1, 1) := by decide +kernel
theorem dl_1 : decode cX10_led 1 = .ok (.ifCond .ge 7, 3) := by decide +kernel
theorem dl_4 : decode cX10_led 4 = .ok (.iconst (-1), 1) := by decide +kernel
theorem dl_5 : decode cX10_led 5 = .ok (.goto 11, 3) := by decide +kernel
theorem dl_8 : decode cX10_led 8 = .ok (.aload_n 0, 1) := by decide +kernel
theorem dl_9 : decode cX10_led 9 = .ok (.invokevirtual 190, 3) := by decide +kernel
theorem dl_12 : decode cX10_led 12 = .ok (.iload_n 1, 1) := by decide +kernel
theorem dl_13 : decode cX10_led 13 = .ok (.invokevirtual 357, 3) := by decide +kernel
theorem dl_16 : decode cX10_led 16 = .ok (.istore_n 2, 1) := by decide +kernel
theorem dl_17 : decode cX10_led 17 = .ok (.iload_n 2, 1) := by decide +kernel
theorem dl_18 : decode cX10_led 18 = .ok (.iconst (-1), 1) := by decide +kernel
theorem dl_19 : decode cX10_led 19 = .ok (.if_icmp .ne 14, 3) := by decide +kernel
theorem dl_22 : decode cX10_led 22 = .ok (.new 360, 3) := by decide +kernel
theorem dl_25 : decode cX10_led 25 = .ok (.dup, 1) := by decide +kernel
theorem dl_26 : decode cX10_led 26 = .ok (.ldc_w 362, 3) := by decide +kernel
theorem dl_29 : decode cX10_led 29 = .ok (.invokespecial 364, 3) := by decide +kernel
theorem dl_32 : decode cX10_led 32 = .ok (.athrow, 1) := by decide +kernel
theorem nr_0 : decode prog_30_method_4_code 0 = .ok (.aload_n 0, 1) := by decide +kernel
theorem nr_1 : decode prog_30_method_4_code 1 = .ok (.aload_n 1, 1) := by decide +kernel
theorem nr_2 : decode prog_30_method_4_code 2 = .ok (.invokespecial 13, 3) := by decide +kernel
theorem nr_5 : decode prog_30_method_4_code 5 = .ok (.return_, 1) := by decide +kernel
theorem wz_188 : Cond.methodLink RX10 190 (mth 188).2.1 ∈ BIG := wq_big (t := 4) (i := 139) (by decide +kernel) rfl
theorem wz_18 : Cond.methodLink RX10 357 (mth 18).2.1 ∈ BIG := wq_big (t := 6) (i := 88) (by decide +kernel) rfl
/-- what is thrown, and the memory then -/
def XCl (E : En) (Mx : Mm → Prop) : String → State → State → Prop := vx_X Mx (fun N m9 t => N = NSE ∧ Hp E m9 t t.heap) (eA E)
def QF (E : En) : Array Value → State → Outcome → State → Prop := va_Qi (fun _ (_ : Unit) => False) (fun _ _ => True) (eA E)
def noT (cd : Code) : Prop := ∀ x ∈ cd.exceptionTable.toList, False
def ZT (Mx : Mm → Prop) : En → List Frame → Array Value → State → State → Prop := fun E below args st => vx_MQ below (QF E) (XCl E Mx) args st 1 6 (eA E)
theorem jz_thr {sc : Nat × (Nat → Int32)} {d : Nat} {L : List (Option Value)} {m : Mm} {Mx : Mm → Prop} (hd : 6 ≤ d) (hz : mZ m < 1000000) (hM : Mx (jk m)) : Jz noT sc d 1 6 X173 22 L [] m 0 0 (ZT Mx) := by
  intro E p e R st mid args below meth cd H locs ls hC htq hP hS hl
  obtain ⟨hx, hb, hml, hrt, hown, hts, hlk, hnm, hT, hB, ⟨hR1, hR2, hR3, hR4⟩, hsc⟩ := id hC
  refine nt_throw (own := RX10) (cls := NSE) (Yn := RTE) (names := nsN) (ik := 360) (is := 362) (ic := 364) (ix := 13) (rx := prog_30_method_4_code) (cc := cX10_led) (text := "no such prayer is granted") (sa := eO E (1000000 + 20)) hx hb hT.2.2.2.2.2.2.2.2.2.1 nr_0 nr_1 nr_2 nr_5 hown (by decide +kernel) (by decide +kernel) (by decide +kernel) ?_ ?_ (by rw [hml]; exact hl.1) dl_22 dl_25 dl_26 dl_29 dl_32 (fun x hx => (htq x hx).elim) ?_ ?_ (by omega) (by omega) hlk ?_ hS.2.2 (by omega) (by omega)
  · exact (sOk_at hT (i := 20) (by decide)).1 _ _ _ _ rfl
  · intro s9 h1 h2
    exact nw_all hts (Tb_same h1 (Tb_kept hT hS.2.1)) h1 h2
  · show 1 + 4 < R.frames
    omega
  · show 0 + _ ≤ R.locals
    show 0 + (13 * (1 + 2) + 43) ≤ R.locals
    omega
  · intro t hal h1 h2
    refine ⟨jk m, hM, ⟨rfl, Hp_moved hal (Hp_jk hP hz h1 h2)⟩, ?_, fun q hq hA => ?_⟩
    · have := hS.1
      omega
    · rw [h2 q (Nat.lt_of_lt_of_le hq hS.1)]
      exact hS.2.1 q hq hA
theorem jz_tl {sc : Nat × (Nat → Int32)} {d : Nat} {x : Int32} {m : Mm} {Mx : Mm → Prop} (hd : 6 ≤ d) (hz : mZ m < 1000000) (hM : Mx (jk m)) : Jz noT sc d 1 6 X173 16 [some (.ref 0), some (.int x), none] [.int (-nI 1)] m 0 0 (ZT Mx) := by
  refine jz_istore_n (k := 2) dl_16 (by decide) ?_
  refine jz_iload_n (k := 2) (x := -nI 1) dl_17 rfl ?_
  refine jz_iconst (v := -nI 1) dl_18 (by decide) ?_
  refine jz_icmp_ne (t := 33) dl_19 (by decide) (fun z => absurd rfl z) (fun _ => ?_)
  exact jz_thr hd hz hM
theorem jz_173 {sc : Nat × (Nat → Int32)} {d : Nat} {m : Mm} {a n np : Nat} {Mx : Mm → Prop} (hd : 7 ≤ d) (hz : mZ m < 1000000) (hW : Wd m.2.2) (ha : va_rf (mR m 0 3) = .ref a) (hL : LW m.2.2 a) (hab : a = 1 ∨ a = 93) (hJ : JE (lam m a) (lam m 20) n np) (hn : mI m (a + 1) 4 = nI n) (hn6 : n ≤ 6) (hnp : mI m (a + 1) 8 = nI np) (hnp8 : np ≤ 8) {x : Int32} (hno : ∀ p, ¬ FD (curF m a n np 1) x p) (hM : ∀ m9, m9 = m ∨ CUF n np m a m9 → Mx (jk m9)) : Jz noT sc d 1 6 X173 0 [some (.ref 0), some (.int x), none] [] m 0 0 (ZT Mx) := by
  refine jz_iload_n (k := 1) (x := x) dl_0 rfl ?_
  refine jz_if_ge (t := 8) dl_1 (by decide) (fun _ => ?_) (fun _ => ?_)
  · refine jz_aload_n (k := 0) (x := 0) dl_8 rfl ?_
    refine jz_callV (k := 188) (as := []) (r := []) dl_9 (by decide) rfl wz_188 rfl ⟨by omega, by decide, by omega, by omega⟩ (Or.inl ⟨9, _, Wdo_0 hW, by decide, rfl, rfl⟩) ?_
    refine D188 (n := n) (np := np) (by omega) hW ha hL hab hJ hn hn6 hnp hnp8 (fun m9 hCU => ?_)
    have hW9 : Wd m9.2.2 := by rw [hCU.1]; exact hW
    refine jz_iload_n (k := 1) (x := x) dl_12 rfl ?_
    refine jz_callV (k := 18) (as := [.int x]) (r := []) dl_13 (by decide) rfl wz_18 rfl ⟨by omega, by decide, by omega, by omega⟩ (Or.inl ⟨0, _, DWo_0 (Wd_D1 hW9), by decide, rfl, rfl⟩) ?_
    have er : mI m9 (112 + 1) = curF m a n np 1 := hCU.2.2.2.2.1 1 (by decide)
    refine C18 (x := 112) (Wd_D1 hW9) (fun pp hp8 hp0 hpc => ?_) (fun _ => ?_)
    · rw [er] at hp0 hpc
      exact absurd ⟨hp8, hp0, hpc⟩ (hno pp)
    · exact jz_tl (by omega) (by rw [show mZ m9 = mZ m from congrArg (fun w : WR => w.2.2) hCU.1]; exact hz) (hM m9 (Or.inr hCU))
  · refine jz_iconst (v := -nI 1) dl_4 (by decide) ?_
    refine jz_goto (t := 16) dl_5 (by decide) ?_
    exact jz_tl (by omega) hz (hM m (Or.inl rfl))
def wsT : List Cond := Cond.code yX10_led cX10_led 3 (some .int) :: BIG
/-- the class's led throws -/
theorem thr173 {d : Nat} {m : Mm} {a n np : Nat} {Mx : Mm → Prop} (hd : 7 ≤ d) (hz : mZ m < 1000000) (hW : Wd m.2.2) (ha : va_rf (mR m 0 3) = .ref a) (hL : LW m.2.2 a) (hab : a = 1 ∨ a = 93) (hJ : JE (lam m a) (lam m 20) n np) (hn : mI m (a + 1) 4 = nI n) (hn6 : n ≤ 6) (hnp : mI m (a + 1) 8 = nI np) (hnp8 : np ≤ 8) {x : Int32} (hno : ∀ p, ¬ FD (curF m a n np 1) x p) (hM : ∀ m9, m9 = m ∨ CUF n np m a m9 → Mx (jk m9)) (E : En) :
    vx_Met (eL E) yX10_led wsT (rm d 1 6) (va_Pc (([.ref 0, .int x] : List Value).map (rv E)) (fun U => Tb E U U.heap ∧ Hp E m U U.heap)) (QF E) (XCl E Mx) 1 6 (eA E) := by
  refine vx_ofW (cc := cX10_led) (maxL := 3) (ret := some .int) (by decide) rfl ?_
  intro p e s m1 args1 below meth c s₁ B hml htq hv
  obtain ⟨rfl, hT, hP⟩ := hv
  have hts := atoms_spec (ws := wsT) B.pre
  have hl := lv_entry (([.ref 0, .int x] : List Value).map (rv E)) (n := 3) (by rw [sl_len]; exact Nat.le_of_ble_eq_true rfl)
  rw [lg_entry_eq]
  refine jz_173 (sc := (eN E, eX E)) hd hz hW ha hL hab hJ hn hn6 hnp hnp8 hno hM E p e (headSpec wsT (rm d 1 6)).room s m1 _ below meth c s.heap [] _ ⟨B.exec, B.bytes, hml, B.returns, findClass_of_methodNamed B.named, fun w hw => hts w (List.mem_cons_of_mem _ hw), B.notSynchronized, (name_of_methodNamed B.named B.method).1, hT, by rw [hP.1]; exact Nat.le_add_right _ _, ⟨Nat.le_refl _, Nat.le_refl _, Nat.le_refl _, Nat.le_refl _⟩, rfl, rfl⟩ htq hP va_S.rf (lv_mono hl fun q hq => ?_)
  obtain ⟨v, hv, hw⟩ := zlv_of (L := zE 3 [.ref 0, .int x]) hq
  have := zE_sub E [.ref 0, .int x] 0 q.1 v _ hv
  rw [Nat.zero_add] at this
  obtain ⟨q1, q2⟩ := q
  dsimp only at hw this
  rw [hw]
  exact this
