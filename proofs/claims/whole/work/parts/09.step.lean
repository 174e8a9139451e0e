/-! what must hold of a printed instruction, by program; then: the judgement out of what 'zx' asks -/
abbrev PE : Type := Nat × Bool × Instr × List Nat × Nat
def pg (P : List (List PE)) (i : Nat) : PE := (P.getD (i / 32) []).getD (i % 32) (0, true, .nop, [], 0)
def wq (t i : Nat) (w : Cond) : Bool := decide ((tb t)[i]? = some w)
def oplen (op : Instr) : Nat := match op with
  | .bipush _ | .ldc _ | .iload _ | .lload _ | .aload _ | .istore _ | .lstore _ | .astore _ | .newarray _ => 2
  | .sipush _ | .ldc_w _ | .ldc2_w _ | .iinc _ _ | .ifCond _ _ | .if_icmp _ _ | .ifnull _ | .ifnonnull _ | .goto _ | .getfield _ | .putfield _ | .getstatic _ | .invokevirtual _ | .invokespecial _ | .invokestatic _ | .new _ | .anewarray _ => 3
  | _ => 1
def ks (ex : List Nat) (v : Int32) : Bool := match ex with
  | [0, k] => decide (v = nI k)
  | [1, k] => decide (v = -nI k)
  | _ => false
def cS (X : MT) (index : Nat) (ex : List Nat) : Bool := match ex with
  | [2, j, _, _] => match sS[j]? with
    | some (o, k, _, _) => decide (o = X.1) && decide (k = index)
    | none => false
  | [4, k, t, i] => wq t i (Cond.constant X.1 index (nI k))
  | _ => false
def lnkB (own : String) (index : Nat) (f : String × String × String × Bool) (ns a b : Nat) : Bool :=
  if ns = 0 then wq a b (Cond.fieldLink own index f.1 f.2.1 f.2.2.1)
  else decide (a ≠ 0) && (wq a b (Cond.fieldLinkNest own index f.1 f.2.1 f.2.2.1 "PrayerWay") || wq a b (Cond.fieldLinkNest own index f.1 f.2.1 f.2.2.1 "PrayerWayModel"))
def mlnB (own : String) (index : Nat) (y : MethodName) (ns a b : Nat) : Bool :=
  if ns = 0 then wq a b (Cond.methodLink own index y)
  else decide (a ≠ 0) && (wq a b (Cond.methodLinkNest own index y "PrayerWay") || wq a b (Cond.methodLinkNest own index y "PrayerWayModel"))
def gS (X : MT) (index : Nat) (ex : List Nat) : Bool := match ex with
  | [300, 0, a, b] => wq a b (Cond.fieldLink X.1 index "java/lang/String" "value" "[B")
  | [301, 0, a, b] => wq a b (Cond.fieldLink X.1 index "java/lang/String" "coder" "B")
  | [t, k, kn, ns, a, b] => match vwCl[t]? with
    | some r => decide (t < 50) && decide (k < r.2.2) && decide (kd t k = kn) && lnkB X.1 index (r.2.1 k) ns a b
    | none => false
  | _ => false
def pS (X : MT) (index : Nat) (ex : List Nat) : Bool := match ex with
  | [t, k, kn, ns, a, b] => match vwCl[t]? with
    | some r => decide (t < 50) && decide (k < r.2.2) && decide (kd t k = kn) && lnkB X.1 index (r.2.1 k) ns a b && (decide ((r.2.1 k).2.2.2 = false) || (decide ((r.2.1 k).2.2.2 = true) && decide (X.2.1.name = "<init>") && decide ((r.2.1 k).1 = X.1) && decide (ns = 0)))
    | none => false
  | _ => false
def zcS (X : MT) (index : Nat) (ex : List Nat) : Bool := match ex with
  | [1, k, n, _, _, ns, a, b] => decide (k < 349) && decide ((mth k).2.2.2.2.2.1 = 1) && decide ((mth k).2.2.2.2.2.2.1 = n) && mlnB X.1 index (mth k).2.1 ns a b
  | [4, a, b] => wq a b (Cond.methodLink X.1 index Lib.Math.max.name)
  | [5, a, b] => wq a b (Cond.methodLink X.1 index Lib.Math.min.name)
  | [6, a, b] => wq a b (Cond.methodLink X.1 index arraycopyName)
  | _ => false
def zcV (X : MT) (index : Nat) (ex : List Nat) : Bool := match ex with
  | [0, k, n, _, _, t, ns, a, b] => decide (k < 349) && decide ((mth k).2.2.2.2.2.1 = 0) && decide ((mth k).2.2.2.2.2.2.1 = n) && mlnB X.1 index (mth k).2.1 ns a b && (match vwCl[t]? with
    | some r => decide (t < 50) && decide (r.1 = (mth k).2.1.cls)
    | none => false)
  | [7, k, n, _, _, a, b] => decide (k < 349) && decide ((mth k).2.2.2.2.2.1 = 0) && decide ((mth k).2.2.2.2.2.2.1 = n) && mlnB X.1 index (mth k).2.1 0 a b && decide ((mth k).2.1.cls = "java/lang/String")
  | _ => false
def zcI (X : MT) (index : Nat) (ex : List Nat) : Bool := match ex with
  | [2, k, n, _, _, ns, a, b] => decide (k < 349) && decide ((mth k).2.2.2.2.2.1 = 2) && decide ((mth k).2.2.2.2.2.2.1 = n) && mlnB X.1 index (mth k).2.1 ns a b
  | [3, a, b] => wq a b (Cond.methodLink X.1 index objectInit)
  | _ => false
def nS (X : MT) (index : Nat) (ex : List Nat) : Bool := match ex with
  | [t, n, a, b, a2, b2, a3, b3] => match vwCl[t]? with
    | some r => decide (t < 50) && decide (r.2.2 = n) && wq a b (Cond.classLink X.1 index r.1) && wq a2 b2 (Cond.instantiable r.1 r.2.2) && wq a3 b3 (Cond.initialized r.1)
    | none => false
  | _ => false
def zs (X : MT) (P : List (List PE)) (pc : Nat) (op : Instr) (ex : List Nat) : Bool := match op with
  | .iconst n => ks ex (Int32.ofInt n)
  | .bipush n => ks ex (Int8.ofInt n).toInt32
  | .sipush n => ks ex (Int16.ofInt n).toInt32
  | .lconst n => match ex with
    | [3, k, _, _] => decide (Int64.ofNat (n : Nat) = lN k)
    | _ => false
  | .ldc index => cS X index ex
  | .ldc_w index => cS X index ex
  | .ldc2_w index => match ex with
    | [3, k, t, i] => wq t i (Cond.constantLong X.1 index (lN k))
    | _ => false
  | .istore_n k => decide (k.val < X.2.2.2.1)
  | .istore k => decide (k < X.2.2.2.1)
  | .astore_n k => decide (k.val < X.2.2.2.1)
  | .astore k => decide (k < X.2.2.2.1)
  | .lstore_n k => decide (k.val + 1 < X.2.2.2.1)
  | .lstore k => decide (k + 1 < X.2.2.2.1)
  | .iinc k n => decide (k < X.2.2.2.1) && ks ex (Int32.ofInt n)
  | .ifCond _ off => decide ((pc : Int) + off = ((pg P (t0 ex)).1 : Int))
  | .if_icmp _ off => decide ((pc : Int) + off = ((pg P (t0 ex)).1 : Int))
  | .ifnull off => decide ((pc : Int) + off = ((pg P (t0 ex)).1 : Int))
  | .ifnonnull off => decide ((pc : Int) + off = ((pg P (t0 ex)).1 : Int))
  | .goto off => decide ((pc : Int) + off = ((pg P (t0 ex)).1 : Int))
  | .tableswitch df lo hi offs => decide (lo = 0) && decide (hi + 1 = (ex.tail.length : Int)) && decide ((pc : Int) + df = ((pg P (t0 ex)).1 : Int)) && decide (offs.toList.map (fun o => (pc : Int) + o) = ex.tail.map (fun t => ((pg P t).1 : Int))) && decide (ex.tail.length < 1000) && decide (ex ≠ [])
  | .getfield index => gS X index ex
  | .putfield index => pS X index ex
  | .getstatic index => match ex with
    | [0, a, b] => decide (a ≠ 0) && wq a b (Cond.fieldLinkNest X.1 index "PrayerWay" "ROOM" "[I" "PrayerWay")
    | [1, a, b] => wq a b (Cond.fieldLink X.1 index "java/lang/String" "COMPACT_STRINGS" "Z")
    | [2, a, b] => wq a b (Cond.fieldLink X.1 index "jdk/internal/util/Preconditions" "SIOOBE_FORMATTER" "Ljava/util/function/BiFunction;")
    | _ => false
  | .arraylength => match ex with
    | [0, t] => decide (t = 100 ∨ t = 101 ∨ t = 102 ∨ t = 103 ∨ t = 104)
    | _ => true
  | .newarray aty => match ex with
    | [t, a, b] => decide ((t = 100 ∧ aty = .int) ∨ (t = 101 ∧ aty = .byte) ∨ (t = 102 ∧ aty = .boolean) ∨ (t = 103 ∧ aty = .long)) && wq a b (Cond.arrayClass (newarray.typeOf aty))
    | _ => false
  | .anewarray index => match ex with
    | [a, b] => wq a b (Cond.classLink X.1 index "PrayerWay$State")
    | _ => false
  | .new index => nS X index ex
  | .invokevirtual index => zcV X index ex
  | .invokespecial index => zcI X index ex
  | .invokestatic index => zcS X index ex
  | .areturn => match X.2.2.2.2.1 with
    | some (.object _) => true
    | _ => false
  | _ => true
def isSw (op : Instr) : Bool := match op with
  | .tableswitch _ _ _ _ => true
  | _ => false
def isEnd (op : Instr) : Bool := match op with
  | .goto _ | .ireturn | .lreturn | .areturn | .return_ | .tableswitch _ _ _ _ => true
  | _ => false
def zok (X : MT) (P : List (List PE)) (i : Nat) : Bool := decide ((pg P i).2.2.1 = .nop) || match decode X.2.2.1 (pg P i).1 with
  | .ok (op, len) => decide (op = (pg P i).2.2.1) && (isSw op || decide (len = oplen op)) && (isEnd op || decide ((pg P (pg P i).2.2.2.2).1 = (pg P i).1 + oplen op)) && zs X P (pg P i).1 (pg P i).2.2.1 (pg P i).2.2.2.1
  | _ => false
theorem wq_big {t i : Nat} {w : Cond} (h : wq t i w = true) (hg : goodWord w = true) : w ∈ BIG := List.mem_filter.mpr ⟨tb_in t w (List.mem_of_getElem? (of_decide_eq_true h)), hg⟩
theorem tb_tab : ∀ (t : Nat) (w : Cond), t ≠ 0 → w ∈ tb t → w ∈ tables_1
  | 0, _, h0, _ => absurd rfl h0
  | 1, _, _, h => List.mem_append_left _ h
  | 2, _, _, h => List.mem_append_right _ (List.mem_append_left _ h)
  | 3, _, _, h => List.mem_append_right _ (List.mem_append_right _ (List.mem_append_left _ h))
  | 4, _, _, h => List.mem_append_right _ (List.mem_append_right _ (List.mem_append_right _ (List.mem_append_left _ h)))
  | 5, _, _, h => List.mem_append_right _ (List.mem_append_right _ (List.mem_append_right _ (List.mem_append_right _ (List.mem_append_left _ h))))
  | 6, _, _, h => List.mem_append_right _ (List.mem_append_right _ (List.mem_append_right _ (List.mem_append_right _ (List.mem_append_right _ (List.mem_append_left _ h)))))
  | 7, _, _, h => List.mem_append_right _ (List.mem_append_right _ (List.mem_append_right _ (List.mem_append_right _ (List.mem_append_right _ (List.mem_append_right _ (List.mem_append_left _ h))))))
  | 8, _, _, h => List.mem_append_right _ (List.mem_append_right _ (List.mem_append_right _ (List.mem_append_right _ (List.mem_append_right _ (List.mem_append_right _ (List.mem_append_right _ (List.mem_append_left _ h)))))))
  | 9, _, _, h => List.mem_append_right _ (List.mem_append_right _ (List.mem_append_right _ (List.mem_append_right _ (List.mem_append_right _ (List.mem_append_right _ (List.mem_append_right _ (List.mem_append_right _ (List.mem_append_left _ h))))))))
  | 10, _, _, h => List.mem_append_right _ (List.mem_append_right _ (List.mem_append_right _ (List.mem_append_right _ (List.mem_append_right _ (List.mem_append_right _ (List.mem_append_right _ (List.mem_append_right _ (List.mem_append_right _ h))))))))
  | n + 11, _, _, h => by
    have e : tb (n + 11) = [] := rfl
    rw [e] at h
    cases h
theorem wq_tab {t i : Nat} {w : Cond} (h0 : t ≠ 0) (h : wq t i w = true) : w ∈ tables_1 := tb_tab t w h0 (List.mem_of_getElem? (of_decide_eq_true h))
theorem lnk_e {own : String} {index ns a b : Nat} {f : String × String × String × Bool} (h : lnkB own index f ns a b = true) : fLink own index f := by
  unfold lnkB at h
  split at h
  · exact Or.inl (wq_big h rfl)
  · rw [Bool.and_eq_true, Bool.or_eq_true] at h
    rcases h.2 with z | z
    · exact Or.inr ⟨_, wq_tab (of_decide_eq_true h.1) z⟩
    · exact Or.inr ⟨_, wq_tab (of_decide_eq_true h.1) z⟩
theorem lnk_0 {own : String} {index ns a b : Nat} {f : String × String × String × Bool} (h : lnkB own index f ns a b = true) (h0 : ns = 0) : Cond.fieldLink own index f.1 f.2.1 f.2.2.1 ∈ BIG := by
  unfold lnkB at h
  rw [if_pos h0] at h
  exact wq_big h rfl
theorem mln_e {own : String} {index ns a b : Nat} {y : MethodName} (h : mlnB own index y ns a b = true) : mLink own index y := by
  unfold mlnB at h
  split at h
  · exact Or.inl (wq_big h rfl)
  · rw [Bool.and_eq_true, Bool.or_eq_true] at h
    rcases h.2 with z | z
    · exact Or.inr ⟨_, wq_tab (of_decide_eq_true h.1) z⟩
    · exact Or.inr ⟨_, wq_tab (of_decide_eq_true h.1) z⟩
theorem kc_int {ex : List Nat} {v : Int32} {f : Value → Prop} (hk : ks ex v = true) (h : kc ex f) : f (.int v) := by
  unfold ks at hk
  split at hk
  · rw [of_decide_eq_true hk]; exact h
  · rw [of_decide_eq_true hk]; exact h
  · cases hk
theorem ki_int {ex : List Nat} {x v : Int32} {f : Int32 → Prop} (hk : ks ex v = true) (h : ki ex x f) : f (x + v) := by
  unfold ks at hk
  split at hk
  · rw [of_decide_eq_true hk]; exact h
  · rw [of_decide_eq_true hk]; exact h
  · cases hk
theorem pI_m {S : List Value} {f g : Int32 → List Value → Prop} (hf : ∀ x r, f x r → g x r) (h : pI S f) : pI S g := by
  obtain ⟨x, r, rfl, h⟩ := pI_e h
  exact hf _ _ h
theorem pJ_m {S : List Value} {f g : Int64 → List Value → Prop} (hf : ∀ x r, f x r → g x r) (h : pJ S f) : pJ S g := by
  obtain ⟨x, r, rfl, h⟩ := pJ_e h
  exact hf _ _ h
theorem pA_m {S : List Value} {f g : Nat → List Value → Prop} (hf : ∀ x r, f x r → g x r) (h : pA S f) : pA S g := by
  obtain ⟨x, r, rfl, h⟩ := pA_e h
  exact hf _ _ h
theorem gI_m {L : List (Option Value)} {k : Nat} {f g : Int32 → Prop} (hf : ∀ x, f x → g x) (h : gI L k f) : gI L k g := by
  obtain ⟨x, hk, h⟩ := gI_e h
  unfold gI
  rw [hk]
  exact hf _ h
theorem gJ_m {L : List (Option Value)} {k : Nat} {f g : Int64 → Prop} (hf : ∀ x, f x → g x) (h : gJ L k f) : gJ L k g := by
  obtain ⟨x, hk, h⟩ := gJ_e h
  unfold gJ
  rw [hk]
  exact hf _ h
theorem gA_m {L : List (Option Value)} {k : Nat} {f g : Nat → Prop} (hf : ∀ x, f x → g x) (h : gA L k f) : gA L k g := by
  obtain ⟨x, hk, h⟩ := gA_e h
  unfold gA
  rw [hk]
  exact hf _ h
theorem swl_m {R R' : Nat → Prop} (hf : ∀ t, R t → R' t) : ∀ {ts : List Nat} {j : Nat} {x : Int32}, swl R ts j x → swl R' ts j x := by
  intro ts
  induction ts with
  | nil => intro j x h; exact h
  | cons a r ih =>
    intro j x h
    unfold swl at h ⊢
    exact ⟨fun z => hf _ (h.1 z), ih h.2⟩
theorem spl_e {f : List Value → List Value → Prop} : ∀ {n : Nat} {S acc : List Value}, spl n S acc f → ∃ as r, S = as.reverse ++ r ∧ as.length = n ∧ f (as ++ acc) r := by
  intro n
  induction n with
  | zero => intro S acc h; exact ⟨[], S, rfl, rfl, h⟩
  | succ n ih =>
    intro S acc h
    unfold spl at h
    split at h
    · rename_i v r
      obtain ⟨as, r', h1, h2, h3⟩ := ih h
      refine ⟨as ++ [v], r', ?_, by rw [List.length_append, h2]; rfl, ?_⟩
      · rw [h1, List.reverse_append]; rfl
      · rw [List.append_assoc]; exact h3
    · exact h.elim
theorem hd_e {l : List Value} {f : Nat → Prop} (h : hd? l f) : ∃ a r, l = .ref a :: r ∧ f a := by
  unfold hd? at h
  split at h
  · exact ⟨_, _, rfl, h⟩
  · exact h.elim
theorem Cc_m {d mc ms k : Nat} {args : List Value} {m : Mm} {Q Q' : Option Value → Mm → Prop} (hQ : ∀ v m', Q v m' → Q' v m') (h : Cc d mc ms k args m Q) : Cc d mc ms k args m Q' := by
  intro E p e h1 h2 h3 s mm a below h4 h5 h6 h7
  obtain ⟨n, o, g1, g2, g3, ⟨⟨r, m', q1, q2, q3⟩, q4⟩, g5⟩ := h E p e h1 h2 h3 s mm a below h4 h5 h6 h7
  exact ⟨n, o, g1, g2, g3, ⟨⟨r, m', q1, hQ _ _ q2, q3⟩, q4⟩, g5⟩
theorem w_obj : Cond.instanceMethod objectInit ∈ BIG ∧ Cond.code objectInit ⟨#[0xb1]⟩ 1 none ∈ BIG := ⟨wq_big (t := 1) (i := 32) (by decide +kernel) rfl, List.mem_filter.mpr ⟨tb_in 1 _ (List.mem_of_getElem? (i := 33) rfl), rfl⟩⟩
theorem w_max : Cond.static Lib.Math.max.name ∈ BIG ∧ Cond.initialized "java/lang/Math" ∈ BIG ∧ Cond.code Lib.Math.max.name Lib.Math.max.code 2 (some .int) ∈ BIG := ⟨wq_big (t := 5) (i := 155) (by decide +kernel) rfl, wq_big (t := 1) (i := 13) (by decide +kernel) rfl, List.mem_filter.mpr ⟨tb_in 5 _ (List.mem_of_getElem? (i := 156) rfl), rfl⟩⟩
theorem w_min : Cond.static Lib.Math.min.name ∈ BIG ∧ Cond.initialized "java/lang/Math" ∈ BIG ∧ Cond.code Lib.Math.min.name Lib.Math.min.code 2 (some .int) ∈ BIG := ⟨wq_big (t := 2) (i := 228) (by decide +kernel) rfl, wq_big (t := 1) (i := 13) (by decide +kernel) rfl, List.mem_filter.mpr ⟨tb_in 2 _ (List.mem_of_getElem? (i := 229) rfl), rfl⟩⟩
theorem w_cpy : Cond.native arraycopyName ∈ BIG ∧ Cond.static arraycopyName ∈ BIG ∧ Cond.initialized "java/lang/System" ∈ BIG := ⟨wq_big (t := 3) (i := 235) (by decide +kernel) rfl, wq_big (t := 3) (i := 234) (by decide +kernel) rfl, wq_big (t := 1) (i := 18) (by decide +kernel) rfl⟩
