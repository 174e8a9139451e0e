section Z10
variable {sc : Nat × (Nat → Int32)} {d mc ms : Nat} {X : MT} {P : List (List PE)} {pc nx : Nat} {L : List (Option Value)} {S : List Value} {m : Mm} {c s : Nat} {Q : Option Value → Mm → Prop} {R : Rt} {ex : List Nat}
/-- where R goes, the judgement holds -/
def goes (sc : Nat × (Nat → Int32)) (d mc ms : Nat) (X : MT) (P : List (List PE)) (Q : Option Value → Mm → Prop) (R : Rt) : Prop := ∀ i L S m c s, R i L S m c s → Jj sc d mc ms X (pg P i).1 L S m c s Q
theorem jt_get {index a : Nat} (hR : goes sc d mc ms X P Q R) (hd : decode X.2.2.1 pc = .ok (.getfield index, 3)) (hn : (pg P nx).1 = pc + 3) (hz : gS X index ex = true) (h : zGet R ex nx L a S m c s) : Jj sc d mc ms X pc L (.ref a :: S) m c s Q := by
  have hJ : ∀ S m c s, R nx L S m c s → Jj sc d mc ms X (pc + 3) L S m c s Q := fun S m c s h => by rw [← hn]; exact hR _ _ _ _ _ _ h
  unfold gS at hz
  split at hz
  · obtain ⟨⟨h1, h2⟩, h3⟩ := h
    obtain ⟨i, rfl⟩ : ∃ i, a = 1000000 + i := ⟨a - 1000000, by omega⟩
    have e : 1000000 + i + 1000000 = 2000000 + i := by omega
    rw [e] at h3
    exact js_strV hd (by omega) (wq_big hz rfl) (hJ _ _ _ _ h3)
  · obtain ⟨⟨h1, h2⟩, h3⟩ := h
    obtain ⟨i, rfl⟩ : ∃ i, a = 1000000 + i := ⟨a - 1000000, by omega⟩
    exact js_strC hd (by omega) (wq_big hz rfl) (hJ _ _ _ _ h3)
  · rename_i t k kn ns a' b'
    split at hz
    · rename_i r hr
      simp only [Bool.and_eq_true, decide_eq_true_eq] at hz
      obtain ⟨⟨⟨ht, hk⟩, hkd⟩, hl⟩ := hz
      have hl := lnk_e hl
      unfold zGet at h
      split at h
      · rename_i he; cases he
      · rename_i he; cases he
      · rename_i he
        cases he
        exact js_get hr ht hk hl hd h.1 (v := .int _) (fun E => by unfold fv; rw [hkd]; rfl) (hJ _ _ _ _ h.2)
      · rename_i he
        cases he
        exact js_get hr ht hk hl hd h.1 (v := .long _) (fun E => by unfold fv; rw [hkd]; rfl) (hJ _ _ _ _ h.2)
      · rename_i he
        cases he
        obtain ⟨h1, v, hv, h2⟩ := h
        exact js_get hr ht hk hl hd h1 (v := v) (fun E => by unfold fv; rw [hkd, ← hv, rv_rf]; rfl) (hJ _ _ _ _ h2)
      · rename_i he
        cases he
        exact js_get hr ht hk hl hd h.1 (v := .int _) (fun E => by unfold fv; rw [hkd]; rfl) (hJ _ _ _ _ h.2)
      · exact h.elim
    · cases hz
  · cases hz
theorem fv_uI {E : En} {t a k : Nat} {x : Int32} (h : kd t k = 0 ∨ kd t k = 3) : fv E (uI m a k x) t a = updV (fv E m t a) k (.int x) := by
  funext j
  by_cases hj : j = k
  · subst hj
    unfold updV fv
    rw [if_pos rfl, uI_eq]
    rcases h with h | h <;> (rw [h]; simp [upd])
  · unfold updV fv
    rw [if_neg hj, uI_eq]
    simp only [upd, if_neg hj]
    rfl
theorem fv_uJ {E : En} {t a k : Nat} {x : Int64} (h : kd t k = 1) : fv E (uJ m a k x) t a = updV (fv E m t a) k (.long x) := by
  funext j
  by_cases hj : j = k
  · subst hj
    unfold updV fv
    rw [if_pos rfl, uJ_eq, h]
    simp [vp_updL]
  · unfold updV fv
    rw [if_neg hj, uJ_eq]
    simp only [vp_updL, if_neg hj]
    rfl
theorem fv_uR {E : En} {t a k b : Nat} (h : kd t k = 2) : fv E (uR m a k (some b)) t a = updV (fv E m t a) k (.ref (ro E b)) := by
  funext j
  by_cases hj : j = k
  · subst hj
    unfold updV fv
    rw [if_pos rfl, uR_eq, h]
    simp [va_up, va_rf]
  · unfold updV fv
    rw [if_neg hj, uR_eq]
    simp only [va_up, if_neg hj]
    rfl
theorem jt_put {index : Nat} (hR : goes sc d mc ms X P Q R) (hd : decode X.2.2.1 pc = .ok (.putfield index, 3)) (hn : (pg P nx).1 = pc + 3) (hz : pS X index ex = true) (h : zPut R ex nx L S m c s) : Jj sc d mc ms X pc L S m c s Q := by
  have hJ : ∀ S m c s, R nx L S m c s → Jj sc d mc ms X (pc + 3) L S m c s Q := fun S m c s h => by rw [← hn]; exact hR _ _ _ _ _ _ h
  unfold pS at hz
  split at hz
  · rename_i t k kn ns a' b'
    split at hz
    · rename_i r hr
      simp only [Bool.and_eq_true, Bool.or_eq_true, decide_eq_true_eq] at hz
      obtain ⟨⟨⟨⟨ht, hk⟩, hkd⟩, hl⟩, hf⟩ := hz
      have hl1 := lnk_e hl
      have hf1 : (r.2.1 k).2.2.2 = false ∨ ((r.2.1 k).2.2.2 = true ∧ X.2.1.name = "<init>" ∧ (r.2.1 k).1 = X.1 ∧ Cond.fieldLink X.1 index (r.2.1 k).1 (r.2.1 k).2.1 (r.2.1 k).2.2.1 ∈ BIG) := by
        rcases hf with z | ⟨⟨⟨z1, z2⟩, z3⟩, z4⟩
        · exact Or.inl z
        · exact Or.inr ⟨z1, z2, z3, lnk_0 hl z4⟩
      have hok := (clF t r hr).2.2.2 k hk
      rw [hkd] at hok
      unfold zPut at h
      split at h
      · rename_i he
        cases he
        obtain ⟨x, r1, rfl, h1⟩ := pI_e h
        obtain ⟨a, r2, rfl, ho, h2⟩ := pA_e h1
        have hty : fty t k = .int := by unfold kdOk at hok; split at hok <;> simp_all
        exact js_put hr ht hk hl1 hf1 hd ho (v := .int x) (fun E => by rw [hty]; rfl) (fun E => by rw [hty]; rfl) (fun E => fv_uI (Or.inl hkd)) rfl rfl (fun b hb => ⟨uI_ne hb, rfl, rfl⟩) (hJ _ _ _ _ h2)
      · rename_i he
        cases he
        obtain ⟨x, r1, rfl, h1⟩ := pJ_e h
        obtain ⟨a, r2, rfl, ho, h2⟩ := pA_e h1
        have hty : fty t k = .long := by unfold kdOk at hok; split at hok <;> simp_all
        exact js_put hr ht hk hl1 hf1 hd ho (v := .long x) (fun E => by rw [hty]; rfl) (fun E => by rw [hty]; rfl) (fun E => fv_uJ hkd) rfl rfl (fun b hb => ⟨rfl, uJ_ne hb, rfl⟩) (hJ _ _ _ _ h2)
      · rename_i he
        cases he
        obtain ⟨x, r1, rfl, h1⟩ := pA_e h
        obtain ⟨a, r2, rfl, ho, h2⟩ := pA_e h1
        have hty : (∃ n, fty t k = .object n) ∨ ∃ n, fty t k = .array n := by
          unfold kdOk at hok
          split at hok <;> simp_all
        exact js_put hr ht hk hl1 hf1 hd ho (v := .ref x) (fun E => by rcases hty with ⟨n, hty⟩ | ⟨n, hty⟩ <;> (rw [hty]; rfl)) (fun E => by rcases hty with ⟨n, hty⟩ | ⟨n, hty⟩ <;> (rw [hty]; rfl)) (fun E => fv_uR hkd) rfl rfl (fun b hb => ⟨rfl, rfl, uR_ne hb⟩) (hJ _ _ _ _ h2)
      · rename_i he
        cases he
        obtain ⟨x, r1, rfl, h1⟩ := pI_e h
        obtain ⟨a, r2, rfl, ho, h01, h2⟩ := pA_e h1
        have hty : fty t k = .boolean := by unfold kdOk at hok; split at hok <;> simp_all
        exact js_put hr ht hk hl1 hf1 hd ho (v := .int x) (fun E => by rw [hty]; rcases h01 with rfl | rfl <;> rfl) (fun E => by rw [hty]; rcases h01 with rfl | rfl <;> rfl) (fun E => fv_uI (Or.inr hkd)) rfl rfl (fun b hb => ⟨uI_ne hb, rfl, rfl⟩) (hJ _ _ _ _ h2)
      · exact h.elim
    · cases hz
  · cases hz
theorem jt_callS {index : Nat} (hR : goes sc d mc ms X P Q R) (hd : decode X.2.2.1 pc = .ok (.invokestatic index, 3)) (hn : (pg P nx).1 = pc + 3) (hz : zcS X index ex = true) (h : zCall d mc ms R ex nx L S m c s) : Jj sc d mc ms X pc L S m c s Q := by
  have hJ : ∀ S m c s, R nx L S m c s → Jj sc d mc ms X (pc + 3) L S m c s Q := fun S m c s h => by rw [← hn]; exact hR _ _ _ _ _ _ h
  unfold zcS at hz
  split at hz
  · simp only [Bool.and_eq_true, decide_eq_true_eq] at hz
    obtain ⟨⟨⟨hk, hs⟩, hnp⟩, hl⟩ := hz
    obtain ⟨as, r, rfl, hlen, hb, hc⟩ := spl_e h
    rw [List.append_nil] at hc
    exact js_callS hd hk hs (mln_e hl) (hlen.trans hnp.symm) hb (Cc_m (fun v m' => hJ _ _ _ _) hc)
  · obtain ⟨y, r1, rfl, h1⟩ := pI_e h
    obtain ⟨x, r2, rfl, hb, h2⟩ := pI_e h1
    exact js_max hd (wq_big hz rfl) w_max.1 w_max.2.1 w_max.2.2 hb (hJ _ _ _ _ h2)
  · obtain ⟨y, r1, rfl, h1⟩ := pI_e h
    obtain ⟨x, r2, rfl, hb, h2⟩ := pI_e h1
    exact js_min hd (wq_big hz rfl) w_min.1 w_min.2.1 w_min.2.2 hb (hJ _ _ _ _ h2)
  · obtain ⟨n, r1, rfl, h1⟩ := pI_e h
    obtain ⟨dp, r2, rfl, h2⟩ := pI_e h1
    obtain ⟨b, r3, rfl, h3⟩ := pA_e h2
    obtain ⟨sp, r4, rfl, h4⟩ := pI_e h3
    obtain ⟨a, r5, rfl, hb, ho, hq, h5⟩ := pA_e h4
    exact js_copy hd (wq_big hz rfl) w_cpy.1 w_cpy.2.1 w_cpy.2.2 hb ho hq (hJ _ _ _ _ h5)
  · cases hz
theorem jt_callV {index : Nat} (hR : goes sc d mc ms X P Q R) (hd : decode X.2.2.1 pc = .ok (.invokevirtual index, 3)) (hn : (pg P nx).1 = pc + 3) (hz : zcV X index ex = true) (h : zCall d mc ms R ex nx L S m c s) : Jj sc d mc ms X pc L S m c s Q := by
  have hJ : ∀ S m c s, R nx L S m c s → Jj sc d mc ms X (pc + 3) L S m c s Q := fun S m c s h => by rw [← hn]; exact hR _ _ _ _ _ _ h
  unfold zcV at hz
  split at hz
  · simp only [Bool.and_eq_true, decide_eq_true_eq] at hz
    obtain ⟨⟨⟨⟨hk, hs⟩, hnp⟩, hl⟩, hv⟩ := hz
    obtain ⟨as0, r, rfl, hlen, hb, hh, hc⟩ := spl_e h
    rw [List.append_nil] at hc hh
    obtain ⟨b, as, rfl, ho⟩ := hd_e hh
    split at hv
    · rename_i r' hr'
      simp only [Bool.and_eq_true, decide_eq_true_eq] at hv
      have := js_callV (c := c) (s := s) (Q := Q) (L := L) (r := r) hd hk hs (mln_e hl) (as := as) (by rw [hnp]; simpa using hlen) hb (Or.inl ⟨_, r', ho, hv.1, hr', hv.2⟩) (Cc_m (fun v m' => hJ _ _ _ _) hc)
      rw [List.reverse_cons, List.append_assoc]
      exact this
    · cases hv
  · simp only [Bool.and_eq_true, decide_eq_true_eq] at hz
    obtain ⟨⟨⟨⟨hk, hs⟩, hnp⟩, hl⟩, hv⟩ := hz
    obtain ⟨as0, r, rfl, hlen, hb, hh, hc⟩ := spl_e h
    rw [List.append_nil] at hc hh
    obtain ⟨b, as, rfl, ho⟩ := hd_e hh
    have := js_callV (c := c) (s := s) (Q := Q) (L := L) (r := r) hd hk hs (mln_e hl) (as := as) (by rw [hnp]; simpa using hlen) hb (Or.inr ⟨hv, ho⟩) (Cc_m (fun v m' => hJ _ _ _ _) hc)
    rw [List.reverse_cons, List.append_assoc]
    exact this
  · cases hz
theorem jt_callI {index : Nat} (hR : goes sc d mc ms X P Q R) (hd : decode X.2.2.1 pc = .ok (.invokespecial index, 3)) (hn : (pg P nx).1 = pc + 3) (hz : zcI X index ex = true) (h : zCall d mc ms R ex nx L S m c s) : Jj sc d mc ms X pc L S m c s Q := by
  have hJ : ∀ S m c s, R nx L S m c s → Jj sc d mc ms X (pc + 3) L S m c s Q := fun S m c s h => by rw [← hn]; exact hR _ _ _ _ _ _ h
  unfold zcI at hz
  split at hz
  · simp only [Bool.and_eq_true, decide_eq_true_eq] at hz
    obtain ⟨⟨⟨hk, hs⟩, hnp⟩, hl⟩ := hz
    obtain ⟨as0, r, rfl, hlen, hb, hh, hc⟩ := spl_e h
    rw [List.append_nil] at hc hh
    obtain ⟨b, as, rfl, -⟩ := hd_e hh
    have := js_callI (c := c) (s := s) (Q := Q) (L := L) (r := r) hd hk hs (mln_e hl) (as := as) (by rw [hnp]; simpa using hlen) hb (Cc_m (fun v m' => hJ _ _ _ _) hc)
    rw [List.reverse_cons, List.append_assoc]
    exact this
  · obtain ⟨a, r, rfl, hb, h1⟩ := pA_e h
    exact js_obj hd (wq_big hz rfl) w_obj.1 w_obj.2 hb (hJ _ _ _ _ h1)
  · cases hz
theorem jt_cst {op : Instr} {index ln : Nat} (hR : goes sc d mc ms X P Q R) (hn : (pg P nx).1 = pc + ln) (hz : cS X index ex = true) (hi : ∀ v, Cond.constant X.1 index v ∈ BIG → Jj sc d mc ms X (pc + ln) L (.int v :: S) m c s Q → Jj sc d mc ms X pc L S m c s Q) (hst : ∀ j tx bs, sS[j]? = some (X.1, index, tx, bs) → Jj sc d mc ms X (pc + ln) L (.ref (1000000 + j) :: S) m c s Q → Jj sc d mc ms X pc L S m c s Q) (h : kc ex fun v => R nx L (v :: S) m c s) : Jj sc d mc ms X pc L S m c s Q := by
  have hJ : ∀ S m c s, R nx L S m c s → Jj sc d mc ms X (pc + ln) L S m c s Q := fun S m c s h => by rw [← hn]; exact hR _ _ _ _ _ _ h
  unfold cS at hz
  split at hz
  · rename_i j _ _
    split at hz
    · rename_i o k tx bs hj
      simp only [Bool.and_eq_true, decide_eq_true_eq] at hz
      obtain ⟨rfl, rfl⟩ := hz
      exact hst j tx bs hj (hJ _ _ _ _ h)
    · cases hz
  · exact hi _ (wq_big hz rfl) (hJ _ _ _ _ h)
  · cases hz
set_option maxHeartbeats 4000000 in
theorem J_step {op : Instr} (hR : goes sc d mc ms X P Q R) (hd : isSw op = false → decode X.2.2.1 pc = .ok (op, oplen op)) (hd2 : isSw op = true → ∃ len, decode X.2.2.1 pc = .ok (op, len)) (hn : isEnd op = false → (pg P nx).1 = pc + oplen op) (hz : zs X P pc op ex = true) (h : zx sc d mc ms X.2.2.2.2.1 R op ex nx L S m c s Q) : Jj sc d mc ms X pc L S m c s Q := by
  have hJ : ∀ ln, (pg P nx).1 = pc + ln → ∀ L S m c s, R nx L S m c s → Jj sc d mc ms X (pc + ln) L S m c s Q := fun ln hn L S m c s h => by rw [← hn]; exact hR _ _ _ _ _ _ h
  cases op with
  | iconst n => exact js_iconst (hd rfl) rfl (hJ 1 (hn rfl) _ _ _ _ _ (kc_int (f := fun v => R nx L (v :: S) m c s) hz h))
  | bipush n => exact js_bipush (hd rfl) rfl (hJ 2 (hn rfl) _ _ _ _ _ (kc_int (f := fun v => R nx L (v :: S) m c s) hz h))
  | sipush n => exact js_sipush (hd rfl) rfl (hJ 3 (hn rfl) _ _ _ _ _ (kc_int (f := fun v => R nx L (v :: S) m c s) hz h))
  | lconst n => 
    unfold zs at hz
    dsimp only at hz
    split at hz
    · exact js_lconst (hd rfl) (of_decide_eq_true hz) (hJ 1 (hn rfl) _ _ _ _ _ h)
    · cases hz
  | ldc index => exact jt_cst (op := .ldc index) (ln := 2) hR (hn rfl) hz (fun v hw h => js_ldcI (hd rfl) hw h) (fun j tx bs hw h => js_ldcS (hd rfl) hw h) h
  | ldc_w index => exact jt_cst (op := .ldc_w index) (ln := 3) hR (hn rfl) hz (fun v hw h => js_ldcwI (hd rfl) hw h) (fun j tx bs hw h => js_ldcwS (hd rfl) hw h) h
  | ldc2_w index => 
    unfold zs at hz
    dsimp only at hz
    split at hz
    · exact js_ldc2 (hd rfl) (wq_big hz rfl) (hJ 3 (hn rfl) _ _ _ _ _ h)
    · cases hz
  | iload_n k => exact js_iload_n (hd rfl) (gI_m (fun x => hJ 1 (hn rfl) _ _ _ _ _) h)
  | iload k => exact js_iload (hd rfl) (gI_m (fun x => hJ 2 (hn rfl) _ _ _ _ _) h)
  | lload_n k => exact js_lload_n (hd rfl) (gJ_m (fun x => hJ 1 (hn rfl) _ _ _ _ _) h)
  | lload k => exact js_lload (hd rfl) (gJ_m (fun x => hJ 2 (hn rfl) _ _ _ _ _) h)
  | aload_n k => exact js_aload_n (hd rfl) (gA_m (fun x => hJ 1 (hn rfl) _ _ _ _ _) h)
  | aload k => exact js_aload (hd rfl) (gA_m (fun x => hJ 2 (hn rfl) _ _ _ _ _) h)
  | istore_n k => exact js_istore_n (hd rfl) (of_decide_eq_true hz) (pI_m (fun x r => hJ 1 (hn rfl) _ _ _ _ _) h)
  | istore k => exact js_istore (hd rfl) (of_decide_eq_true hz) (pI_m (fun x r => hJ 2 (hn rfl) _ _ _ _ _) h)
  | lstore_n k => exact js_lstore_n (hd rfl) (of_decide_eq_true hz) (pJ_m (fun x r => hJ 1 (hn rfl) _ _ _ _ _) h)
  | lstore k => exact js_lstore (hd rfl) (of_decide_eq_true hz) (pJ_m (fun x r => hJ 2 (hn rfl) _ _ _ _ _) h)
  | astore_n k => exact js_astore_n (hd rfl) (of_decide_eq_true hz) (pA_m (fun x r => hJ 1 (hn rfl) _ _ _ _ _) h)
  | astore k => exact js_astore (hd rfl) (of_decide_eq_true hz) (pA_m (fun x r => hJ 2 (hn rfl) _ _ _ _ _) h)
  | iinc k n => 
    unfold zs at hz
    dsimp only at hz
    rw [Bool.and_eq_true] at hz
    exact js_iinc (hd rfl) (of_decide_eq_true hz.1) rfl (gI_m (fun x h => hJ 3 (hn rfl) _ _ _ _ _ (ki_int hz.2 h)) h)
  | iadd => exact js_iadd (hd rfl) (pI_m (fun y r => pI_m fun x r => hJ 1 (hn rfl) _ _ _ _ _) h)
  | isub => exact js_isub (hd rfl) (pI_m (fun y r => pI_m fun x r => hJ 1 (hn rfl) _ _ _ _ _) h)
  | imul => exact js_imul (hd rfl) (pI_m (fun y r => pI_m fun x r => hJ 1 (hn rfl) _ _ _ _ _) h)
  | iand => exact js_iand (hd rfl) (pI_m (fun y r => pI_m fun x r => hJ 1 (hn rfl) _ _ _ _ _) h)
  | ior => exact js_ior (hd rfl) (pI_m (fun y r => pI_m fun x r => hJ 1 (hn rfl) _ _ _ _ _) h)
  | ixor => exact js_ixor (hd rfl) (pI_m (fun y r => pI_m fun x r => hJ 1 (hn rfl) _ _ _ _ _) h)
  | ishl => exact js_ishl (hd rfl) (pI_m (fun y r => pI_m fun x r => hJ 1 (hn rfl) _ _ _ _ _) h)
  | ishr => exact js_ishr (hd rfl) (pI_m (fun y r => pI_m fun x r => hJ 1 (hn rfl) _ _ _ _ _) h)
  | iushr => exact js_iushr (hd rfl) (pI_m (fun y r => pI_m fun x r => hJ 1 (hn rfl) _ _ _ _ _) h)
  | idiv => exact js_idiv (hd rfl) (pI_m (fun y r => pI_m fun x r h => ⟨h.1, hJ 1 (hn rfl) _ _ _ _ _ h.2⟩) h)
  | irem => exact js_irem (hd rfl) (pI_m (fun y r => pI_m fun x r h => ⟨h.1, hJ 1 (hn rfl) _ _ _ _ _ h.2⟩) h)
  | ladd => exact js_ladd (hd rfl) (pJ_m (fun y r => pJ_m fun x r => hJ 1 (hn rfl) _ _ _ _ _) h)
  | lmul => exact js_lmul (hd rfl) (pJ_m (fun y r => pJ_m fun x r => hJ 1 (hn rfl) _ _ _ _ _) h)
  | lcmp => exact js_lcmp (hd rfl) (pJ_m (fun y r => pJ_m fun x r => hJ 1 (hn rfl) _ _ _ _ _) h)
  | lrem => exact js_lrem (hd rfl) (pJ_m (fun y r => pJ_m fun x r h => ⟨h.1, hJ 1 (hn rfl) _ _ _ _ _ h.2⟩) h)
  | i2l => exact js_i2l (hd rfl) (pI_m (fun x r => hJ 1 (hn rfl) _ _ _ _ _) h)
  | l2i => exact js_l2i (hd rfl) (pJ_m (fun x r => hJ 1 (hn rfl) _ _ _ _ _) h)
  | i2b => exact js_i2b (hd rfl) (pI_m (fun x r => hJ 1 (hn rfl) _ _ _ _ _) h)
  | i2c => exact js_i2c (hd rfl) (pI_m (fun x r => hJ 1 (hn rfl) _ _ _ _ _) h)
  | dup => 
    unfold zx at h
    dsimp only at h
    split at h
    · exact js_dup (hd rfl) h.1 (hJ 1 (hn rfl) _ _ _ _ _ h.2)
    · exact h.elim
  | dup2 => 
    unfold zx at h
    dsimp only at h
    split at h
    · exact js_dup2 (hd rfl) h.1 (hJ 1 (hn rfl) _ _ _ _ _ h.2)
    · exact h.elim
  | pop => 
    unfold zx at h
    dsimp only at h
    split at h
    · exact js_pop (hd rfl) h.1 (hJ 1 (hn rfl) _ _ _ _ _ h.2)
    · exact h.elim
  | ifCond cn off => 
    have ht := of_decide_eq_true hz
    cases cn with
    | eq => exact js_if_eq (hd rfl) ht (pI_m (fun x r h => ⟨fun z => hR _ _ _ _ _ _ (h.1 z), fun z => hJ 3 (hn rfl) _ _ _ _ _ (h.2 z)⟩) h)
    | ne => exact js_if_ne (hd rfl) ht (pI_m (fun x r h => ⟨fun z => hR _ _ _ _ _ _ (h.1 z), fun z => hJ 3 (hn rfl) _ _ _ _ _ (h.2 z)⟩) h)
    | lt => exact js_if_lt (hd rfl) ht (pI_m (fun x r h => ⟨fun z => hR _ _ _ _ _ _ (h.1 z), fun z => hJ 3 (hn rfl) _ _ _ _ _ (h.2 z)⟩) h)
    | ge => exact js_if_ge (hd rfl) ht (pI_m (fun x r h => ⟨fun z => hR _ _ _ _ _ _ (h.1 z), fun z => hJ 3 (hn rfl) _ _ _ _ _ (h.2 z)⟩) h)
    | gt => exact js_if_gt (hd rfl) ht (pI_m (fun x r h => ⟨fun z => hR _ _ _ _ _ _ (h.1 z), fun z => hJ 3 (hn rfl) _ _ _ _ _ (h.2 z)⟩) h)
    | le => exact js_if_le (hd rfl) ht (pI_m (fun x r h => ⟨fun z => hR _ _ _ _ _ _ (h.1 z), fun z => hJ 3 (hn rfl) _ _ _ _ _ (h.2 z)⟩) h)
  | if_icmp cn off => 
    have ht := of_decide_eq_true hz
    cases cn with
    | eq => exact js_icmp_eq (hd rfl) ht (pI_m (fun y r => pI_m fun x r h => ⟨fun z => hR _ _ _ _ _ _ (h.1 z), fun z => hJ 3 (hn rfl) _ _ _ _ _ (h.2 z)⟩) h)
    | ne => exact js_icmp_ne (hd rfl) ht (pI_m (fun y r => pI_m fun x r h => ⟨fun z => hR _ _ _ _ _ _ (h.1 z), fun z => hJ 3 (hn rfl) _ _ _ _ _ (h.2 z)⟩) h)
    | lt => exact js_icmp_lt (hd rfl) ht (pI_m (fun y r => pI_m fun x r h => ⟨fun z => hR _ _ _ _ _ _ (h.1 z), fun z => hJ 3 (hn rfl) _ _ _ _ _ (h.2 z)⟩) h)
    | ge => exact js_icmp_ge (hd rfl) ht (pI_m (fun y r => pI_m fun x r h => ⟨fun z => hR _ _ _ _ _ _ (h.1 z), fun z => hJ 3 (hn rfl) _ _ _ _ _ (h.2 z)⟩) h)
    | gt => exact js_icmp_gt (hd rfl) ht (pI_m (fun y r => pI_m fun x r h => ⟨fun z => hR _ _ _ _ _ _ (h.1 z), fun z => hJ 3 (hn rfl) _ _ _ _ _ (h.2 z)⟩) h)
    | le => exact js_icmp_le (hd rfl) ht (pI_m (fun y r => pI_m fun x r h => ⟨fun z => hR _ _ _ _ _ _ (h.1 z), fun z => hJ 3 (hn rfl) _ _ _ _ _ (h.2 z)⟩) h)
  | ifnull off => 
    have ht := of_decide_eq_true hz
    unfold zx at h
    dsimp only at h
    split at h
    · exact js_ifnullN (hd rfl) ht (hR _ _ _ _ _ _ h)
    · exact js_ifnullR (hd rfl) (hJ 3 (hn rfl) _ _ _ _ _ h)
    · exact h.elim
  | ifnonnull off => 
    have ht := of_decide_eq_true hz
    unfold zx at h
    dsimp only at h
    split at h
    · exact js_ifnonnullN (hd rfl) (hJ 3 (hn rfl) _ _ _ _ _ h)
    · exact js_ifnonnullR (hd rfl) ht (hR _ _ _ _ _ _ h)
    · exact h.elim
  | goto off => exact js_goto (hd rfl) (of_decide_eq_true hz) (hR _ _ _ _ _ _ h)
  | tableswitch df lo hi offs => 
    obtain ⟨len, hd3⟩ := hd2 rfl
    unfold zs at hz
    simp only [Bool.and_eq_true, decide_eq_true_eq] at hz
    obtain ⟨⟨⟨⟨⟨h1, h2⟩, h3⟩, h4⟩, h5⟩, h6⟩ := hz
    have e : ex.tail.length = ex.length - 1 := List.length_tail
    refine js_tableswitch (ts := ex.tail.map (fun t => (pg P t).1)) hd3 h1 (by rw [List.length_map]; exact h2) h3 (fun k tk hk => ?_) (by rw [List.length_map]; omega) ?_
    · have q : (offs.toList.map (fun o => (pc : Int) + o))[k]? = some (tk : Int) := by
        rw [h4]
        rw [List.getElem?_map] at hk ⊢
        cases hx : ex.tail[k]? with
        | none => rw [hx] at hk; cases hk
        | some t => rw [hx] at hk; cases hk; rfl
      rw [List.getElem?_map] at q
      cases hx : offs.toList[k]? with
      | none => rw [hx] at q; cases q
      | some o =>
        rw [hx] at q
        refine ⟨o, by rw [← Array.getElem?_toList]; exact hx, ?_⟩
        exact Option.some.inj q
    · refine pI_m (fun x r h => ⟨fun z => hR _ _ _ _ _ _ (h.1 (by rw [List.length_map, e] at z; exact z)), ?_⟩) h
      · have hsw : ∀ (ts : List Nat) (j : Nat), swl (fun t => R t L r m c s) ts j x → swl (fun t => Jj sc d mc ms X t L r m c s Q) (ts.map (fun t => (pg P t).1)) j x := by
          intro ts
          induction ts with
          | nil => intro j h; exact h
          | cons a r ih =>
            intro j h
            unfold swl at h
            rw [List.map_cons]
            unfold swl
            exact ⟨fun z => hR _ _ _ _ _ _ (h.1 z), ih _ h.2⟩
        exact hsw _ _ h.2
  | getfield index => 
    obtain ⟨a, r, rfl, h⟩ := pA_e h
    exact jt_get hR (hd rfl) (hn rfl) hz h
  | putfield index => exact jt_put hR (hd rfl) (hn rfl) hz h
  | getstatic index => 
    unfold zs at hz
    dsimp only at hz
    split at hz
    · rw [Bool.and_eq_true] at hz
      exact js_gstRoom (hd rfl) (wq_tab (of_decide_eq_true hz.1) hz.2) (hJ 3 (hn rfl) _ _ _ _ _ h)
    · exact js_gstComp (hd rfl) (wq_big hz rfl) (hJ 3 (hn rfl) _ _ _ _ _ h)
    · exact js_gstForm (hd rfl) (wq_big hz rfl) (hJ 3 (hn rfl) _ _ _ _ _ h.1) (hJ 3 (hn rfl) _ _ _ _ _ h.2)
    · cases hz
  | iaload => 
    obtain ⟨x, r1, rfl, h1⟩ := pI_e h
    obtain ⟨a, r2, rfl, h2⟩ := pA_e h1
    split at h2
    · exact js_iald (hd rfl) h2.1 (hJ 1 (hn rfl) _ _ _ _ _ h2.2)
    · obtain ⟨⟨rfl, h3⟩, h4⟩ := h2
      exact js_scrLd (hd rfl) h3 (hJ 1 (hn rfl) _ _ _ _ _ h4)
    · obtain ⟨⟨rfl, h3⟩, h4⟩ := h2
      exact js_tabLd (hd rfl) h3 (hJ 1 (hn rfl) _ _ _ _ _ h4)
    · exact h2.elim
  | baload => 
    obtain ⟨x, r1, rfl, h1⟩ := pI_e h
    obtain ⟨a, r2, rfl, h2⟩ := pA_e h1
    split at h2
    · exact js_bald (hd rfl) h2.1 (hJ 1 (hn rfl) _ _ _ _ _ h2.2)
    · exact js_zald (hd rfl) h2.1 (hJ 1 (hn rfl) _ _ _ _ _ h2.2)
    · obtain ⟨⟨g1, g2, g3⟩, h4⟩ := h2
      obtain ⟨i, rfl⟩ : ∃ i : Nat, a = 2000000 + i := ⟨a - 2000000, (Nat.add_sub_of_le g1).symm⟩
      rw [Nat.add_sub_cancel_left] at g3 h4
      exact js_strLd (hd rfl) (Nat.lt_of_add_lt_add_left g2) g3 (hJ 1 (hn rfl) _ _ _ _ _ h4)
    · exact h2.elim
  | laload => 
    obtain ⟨x, r1, rfl, h1⟩ := pI_e h
    obtain ⟨a, r2, rfl, h2⟩ := pA_e h1
    exact js_lald (hd rfl) h2.1 (hJ 1 (hn rfl) _ _ _ _ _ h2.2)
  | aaload => 
    obtain ⟨x, r1, rfl, h1⟩ := pI_e h
    obtain ⟨a, r2, rfl, h2, v, hv, h3⟩ := pA_e h1
    exact js_aald (hd rfl) h2 hv (hJ 1 (hn rfl) _ _ _ _ _ h3)
  | iastore => 
    obtain ⟨y, r0, rfl, h0⟩ := pI_e h
    obtain ⟨x, r1, rfl, h1⟩ := pI_e h0
    obtain ⟨a, r2, rfl, h2⟩ := pA_e h1
    exact js_iast (hd rfl) h2.1 (hJ 1 (hn rfl) _ _ _ _ _ h2.2)
  | bastore => 
    obtain ⟨y, r0, rfl, h0⟩ := pI_e h
    obtain ⟨x, r1, rfl, h1⟩ := pI_e h0
    obtain ⟨a, r2, rfl, h2⟩ := pA_e h1
    split at h2
    · exact js_bast (hd rfl) h2.1 (hJ 1 (hn rfl) _ _ _ _ _ h2.2)
    · exact js_zast (hd rfl) h2.1 (hJ 1 (hn rfl) _ _ _ _ _ h2.2)
    · exact h2.elim
  | lastore => 
    obtain ⟨y, r0, rfl, h0⟩ := pJ_e h
    obtain ⟨x, r1, rfl, h1⟩ := pI_e h0
    obtain ⟨a, r2, rfl, h2⟩ := pA_e h1
    exact js_last (hd rfl) h2.1 (hJ 1 (hn rfl) _ _ _ _ _ h2.2)
  | aastore => 
    obtain ⟨y, r0, rfl, h0⟩ := pA_e h
    obtain ⟨x, r1, rfl, h1⟩ := pI_e h0
    obtain ⟨a, r2, rfl, h2⟩ := pA_e h1
    exact js_aast (hd rfl) h2.1 (hJ 1 (hn rfl) _ _ _ _ _ h2.2)
  | arraylength => 
    obtain ⟨a, r2, rfl, h2⟩ := pA_e h
    unfold zs at hz
    dsimp only at hz
    split at h2
    · rcases of_decide_eq_true hz with rfl | rfl | rfl | rfl | rfl
      · exact js_alen100 (hd rfl) h2.1 (hJ 1 (hn rfl) _ _ _ _ _ h2.2)
      · exact js_alen101 (hd rfl) h2.1 (hJ 1 (hn rfl) _ _ _ _ _ h2.2)
      · exact js_alen102 (hd rfl) h2.1 (hJ 1 (hn rfl) _ _ _ _ _ h2.2)
      · exact js_alen103 (hd rfl) h2.1 (hJ 1 (hn rfl) _ _ _ _ _ h2.2)
      · exact js_alen104 (hd rfl) h2.1 (hJ 1 (hn rfl) _ _ _ _ _ h2.2)
    · obtain ⟨rfl, h4⟩ := h2
      exact js_scrLen (hd rfl) (hJ 1 (hn rfl) _ _ _ _ _ h4)
    · obtain ⟨rfl, h4⟩ := h2
      exact js_tabLen (hd rfl) (hJ 1 (hn rfl) _ _ _ _ _ h4)
    · obtain ⟨⟨g1, g2⟩, h4⟩ := h2
      obtain ⟨i, rfl⟩ : ∃ i : Nat, a = 2000000 + i := ⟨a - 2000000, (Nat.add_sub_of_le g1).symm⟩
      rw [Nat.add_sub_cancel_left] at h4
      exact js_strLen (hd rfl) (Nat.lt_of_add_lt_add_left g2) (hJ 1 (hn rfl) _ _ _ _ _ h4)
    · exact h2.elim
  | newarray at_ => 
    obtain ⟨x, r, rfl, h1, h2⟩ := pI_e h
    unfold zs at hz
    dsimp only at hz
    split at hz
    · rw [Bool.and_eq_true] at hz
      rcases of_decide_eq_true hz.1 with ⟨rfl, rfl⟩ | ⟨rfl, rfl⟩ | ⟨rfl, rfl⟩ | ⟨rfl, rfl⟩
      · exact js_newa100 (hd rfl) (wq_big hz.2 rfl) h1 (hJ 2 (hn rfl) _ _ _ _ _ h2)
      · exact js_newa101 (hd rfl) (wq_big hz.2 rfl) h1 (hJ 2 (hn rfl) _ _ _ _ _ h2)
      · exact js_newa102 (hd rfl) (wq_big hz.2 rfl) h1 (hJ 2 (hn rfl) _ _ _ _ _ h2)
      · exact js_newa103 (hd rfl) (wq_big hz.2 rfl) h1 (hJ 2 (hn rfl) _ _ _ _ _ h2)
    · cases hz
  | anewarray index => 
    obtain ⟨x, r, rfl, h1, h2⟩ := pI_e h
    unfold zs at hz
    dsimp only at hz
    split at hz
    · exact js_anew (hd rfl) (wq_big hz rfl) h1 (hJ 3 (hn rfl) _ _ _ _ _ h2)
    · cases hz
  | new index => 
    unfold zs nS at hz
    dsimp only at hz
    split at hz
    · split at hz
      · rename_i r hr
        simp only [Bool.and_eq_true, decide_eq_true_eq] at hz
        obtain ⟨⟨⟨⟨ht, rfl⟩, hw1⟩, hw2⟩, hw3⟩ := hz
        exact js_new hr ht (hd rfl) (wq_big hw1 rfl) (wq_big hw2 rfl) (wq_big hw3 rfl) h.1 (hJ 3 (hn rfl) _ _ _ _ _ h.2)
      · cases hz
    · cases hz
  | invokevirtual index => exact jt_callV hR (hd rfl) (hn rfl) hz h
  | invokespecial index => exact jt_callI hR (hd rfl) (hn rfl) hz h
  | invokestatic index => exact jt_callS hR (hd rfl) (hn rfl) hz h
  | ireturn => 
    obtain ⟨x, r, rfl, ⟨rfl, h1, h2⟩, h3⟩ := pI_e h
    exact js_iret (hd rfl) h1 h2 h3
  | lreturn => 
    obtain ⟨x, r, rfl, ⟨rfl, h1, h2⟩, h3⟩ := pJ_e h
    exact js_lret (hd rfl) h1 h2 h3
  | areturn => 
    obtain ⟨x, r, rfl, ⟨rfl, h2⟩, h3⟩ := pA_e h
    unfold zs at hz
    dsimp only at hz
    split at hz
    · rename_i hr
      exact js_aret (hd rfl) hr h2 h3
    · cases hz
  | return_ => 
    obtain ⟨⟨rfl, h1, h2⟩, h3⟩ := h
    exact js_vret (hd rfl) h1 h2 h3
  | _ => exact h.elim
/-- from an instruction to the next cuts -/
def zw (sc : Nat × (Nat → Int32)) (d mc ms : Nat) (rt : Option FieldType) (P : List (List PE)) (K : Rt) (Q : Option Value → Mm → Prop) (n : Nat) : Rt :=
  Nat.rec (motive := fun _ => Rt) K (fun _ ih => fun i L S m c s => match pg P i with
    | (_, cut, op, ex, nx) => bif cut then K i L S m c s else zx sc d mc ms rt ih op ex nx L S m c s Q) n
def zw0 (sc : Nat × (Nat → Int32)) (d mc ms : Nat) (rt : Option FieldType) (P : List (List PE)) (K : Rt) (Q : Option Value → Mm → Prop) (n : Nat) : Rt := fun i L S m c s => match pg P i with
  | (_, _, op, ex, nx) => zx sc d mc ms rt (zw sc d mc ms rt P K Q n) op ex nx L S m c s Q
def KJ (sc : Nat × (Nat → Int32)) (d mc ms : Nat) (X : MT) (P : List (List PE)) (Q : Option Value → Mm → Prop) : Rt := fun i L S m c s => Jj sc d mc ms X (pg P i).1 L S m c s Q
def zall (X : MT) (P : List (List PE)) (n : Nat) : Bool := (List.range n).all (fun i => zok X P i)
theorem zok_J {i n : Nat} (hP : zall X P n = true) (hi : i < n) (hR : goes sc d mc ms X P Q R) (h : zx sc d mc ms X.2.2.2.2.1 R (pg P i).2.2.1 (pg P i).2.2.2.1 (pg P i).2.2.2.2 L S m c s Q) : Jj sc d mc ms X (pg P i).1 L S m c s Q := by
  have hz := List.all_eq_true.mp hP i (List.mem_range.mpr hi)
  unfold zok at hz
  rw [Bool.or_eq_true, decide_eq_true_eq] at hz
  rcases hz with hz | hz
  · rw [hz] at h
    exact h.elim
  split at hz
  · rename_i op len hdec
    simp only [Bool.and_eq_true, Bool.or_eq_true, decide_eq_true_eq] at hz
    obtain ⟨⟨⟨h1, h2⟩, h3⟩, h4⟩ := hz
    subst h1
    refine J_step hR (fun z => ?_) (fun _ => ⟨len, hdec⟩) (fun z => ?_) h4 h
    · rcases h2 with y | y
      · rw [z] at y; cases y
      · rw [← y]; exact hdec
    · rcases h3 with y | y
      · rw [z] at y; cases y
      · exact y
  · cases hz
theorem pg_out {i : Nat} (h : P.length * 32 ≤ i) : pg P i = (0, true, .nop, [], 0) := by
  unfold pg
  rw [List.getD_eq_getElem?_getD (l := P), List.getElem?_eq_none (by omega)]
  rfl
theorem zw_J (hP : zall X P (P.length * 32) = true) (n : Nat) : goes sc d mc ms X P Q (zw sc d mc ms X.2.2.2.2.1 P (KJ sc d mc ms X P Q) Q n) := by
  induction n with
  | zero => intro i L S m c s h; exact h
  | succ n ih =>
    intro i L S m c s h
    have h' : bif (pg P i).2.1 then KJ sc d mc ms X P Q i L S m c s else zx sc d mc ms X.2.2.2.2.1 (zw sc d mc ms X.2.2.2.2.1 P (KJ sc d mc ms X P Q) Q n) (pg P i).2.2.1 (pg P i).2.2.2.1 (pg P i).2.2.2.2 L S m c s Q := h
    by_cases hi : P.length * 32 ≤ i
    · rw [pg_out hi] at h'
      exact h'
    · cases hb : (pg P i).2.1 with
      | true => rw [hb] at h'; exact h'
      | false =>
        rw [hb] at h'
        exact zok_J hP (by omega) ih h'
/-- THE ROW FOR A STRETCH: from instruction i, n steps at most, up to the next cuts -/
theorem J_w (hP : zall X P (P.length * 32) = true) {i : Nat} (hi : i < P.length * 32) (n : Nat) (h : zw0 sc d mc ms X.2.2.2.2.1 P (KJ sc d mc ms X P Q) Q n i L S m c s) : Jj sc d mc ms X (pg P i).1 L S m c s Q := zok_J hP hi (zw_J hP n) h
end Z10
