/-! the whole sweep, by both -/
theorem beg20 : ∀ (m fuel i : Nat) (gb : Nat → Int32), i + m = 4 → m < fuel → ∃ gb', (∀ K, W_begin_20 K fuel (nI i) gb = K gb') ∧ (∀ j, j < i → gb' j = gb j) ∧ ∀ j, i ≤ j → j < 4 → gb' j = nI 0 := by
  intro m
  induction m with
  | zero =>
    intro fuel i f hi hf
    obtain ⟨n, rfl⟩ : ∃ n, fuel = n + 1 := ⟨fuel - 1, by omega⟩
    refine ⟨f, fun K => ?_, fun _ _ => rfl, fun j a b => by omega⟩
    rw [W_begin_20, if_pos (by rw [L3, n_lt (by omega) (by omega)]; omega)]
  | succ m ih =>
    intro fuel i f hi hf
    obtain ⟨n, rfl⟩ : ∃ n, fuel = n + 1 := ⟨fuel - 1, by omega⟩
    obtain ⟨f', e, a1, a2⟩ := ih n (i + 1) (upd f i (nI 0)) (by omega) (by omega)
    refine ⟨f', fun K => ?_, fun j hj => ?_, fun j hj1 hj2 => ?_⟩
    · rw [← e K, W_begin_20, if_neg (by rw [L3, n_lt (by omega) (by omega)]; omega)]
      simp (disch := omega) only [lt_, Option.bind_some, n_lit, n_lt, n_le, n_eq, n_cl, n_add, n_sub, n_mul, n_shr1, n_and1, n_xor1, n_div2, n_rem2, chk_nI, if_true, if_false, ite_true, ite_false, reduceIte, Nat.not_lt, Nat.not_le, not_true_eq_false, not_false_eq_true, Nat.le_refl, Nat.reduceLeDiff, Nat.reduceLT, Nat.reduceEqDiff, Nat.reduceAdd, Nat.reduceMul, Nat.reduceSub, Nat.reduceDiv, Nat.reduceMod]
    · rw [a1 j (by omega), upd_ne (by omega)]
    · by_cases hji : j = i
      · subst hji; rw [a1 j (by omega), upd_same]
      · exact a2 j (by omega) hj2
theorem beg40 {n : Nat} (hn5 : n ≤ 5) : ∀ (m fuel i : Nat) (fo re : Nat → Int32), i + m = n + 1 → m < fuel → ∃ fo' re', (∀ K, W_begin_40 K (nI n) fuel (nI i) fo re = K fo' re') ∧ (∀ j, j < i → fo' j = fo j ∧ re' j = re j) ∧ ∀ j, i ≤ j → j ≤ n → fo' j = nI (2 * j) ∧ re' j = nI 0 := by
  intro m
  induction m with
  | zero =>
    intro fuel i fo re hi hf
    obtain ⟨k, rfl⟩ : ∃ n, fuel = n + 1 := ⟨fuel - 1, by omega⟩
    refine ⟨fo, re, fun K => ?_, fun _ _ => ⟨rfl, rfl⟩, fun j a b => by omega⟩
    rw [W_begin_40, if_pos (by rw [n_lt (by omega) (by omega)]; omega)]
  | succ m ih =>
    intro fuel i fo re hi hf
    obtain ⟨k, rfl⟩ : ∃ n, fuel = n + 1 := ⟨fuel - 1, by omega⟩
    obtain ⟨fo', re', e, a1, a2⟩ := ih k (i + 1) (upd fo i (nI (2 * i))) (upd re i (nI 0)) (by omega) (by omega)
    refine ⟨fo', re', fun K => ?_, fun j hj => ?_, fun j hj1 hj2 => ?_⟩
    · rw [← e K, W_begin_40, if_neg (by rw [n_lt (by omega) (by omega)]; omega), W_merge_eq (by omega), Option.bind_some]
      simp (disch := omega) only [lt_, Option.bind_some, n_lit, n_lt, n_le, n_eq, n_cl, n_add, n_sub, n_mul, n_shr1, n_and1, n_xor1, n_div2, n_rem2, chk_nI, if_true, if_false, ite_true, ite_false, reduceIte, Nat.not_lt, Nat.not_le, not_true_eq_false, not_false_eq_true, Nat.le_refl, Nat.reduceLeDiff, Nat.reduceLT, Nat.reduceEqDiff, Nat.reduceAdd, Nat.reduceMul, Nat.reduceSub, Nat.reduceDiv, Nat.reduceMod]
    · rw [(a1 j (by omega)).1, (a1 j (by omega)).2, upd_ne (by omega), upd_ne (by omega)]; exact ⟨rfl, rfl⟩
    · by_cases hji : j = i
      · subst hji; rw [(a1 j (by omega)).1, (a1 j (by omega)).2, upd_same, upd_same]; exact ⟨rfl, rfl⟩
      · exact a2 j (by omega) hj2
theorem beg75 {M : MC} (hW : WF M) {pa : Nat → Int32} (hpa : ∀ i, i < np M → pa i = nI (pt M i)) : ∀ (m fuel i : Nat) (rows : Nat → Int32) (pr : Int32), i + m = np M → m < fuel → RR (nn M) i (pt M) rows (nI i) pr rows (nI i) → ∃ rows' pr', (∀ K, W_begin_75 K pa (nI (np M)) fuel (nI i) rows (nI i) pr = K rows' (nI (np M)) pr') ∧ RR (nn M) (np M) (pt M) rows' (nI (np M)) pr' rows' (nI (np M)) := by
  obtain ⟨hn1, hn5⟩ := hW.1
  have hp := pow_n hn1 hn5
  have h12 := hW.2.2.2.2.2.1
  intro m
  induction m with
  | zero =>
    intro fuel i rows pr hi hf hR
    obtain ⟨k, rfl⟩ : ∃ n, fuel = n + 1 := ⟨fuel - 1, by omega⟩
    have ei : i = np M := by omega
    subst ei
    refine ⟨rows, pr, fun K => ?_, hR⟩
    rw [W_begin_75, if_pos (by rw [n_le (by omega) (by omega)]; omega)]
  | succ m ih =>
    intro fuel i rows pr hi hf hR
    obtain ⟨k, rfl⟩ : ∃ n, fuel = n + 1 := ⟨fuel - 1, by omega⟩
    have hpt := hW.2.2.2.2.2.2 i (by omega)
    have ea : W_addRow rows (nI i) pr (nI (pt M i)) = some (upd rows i (nI (pt M i)), nI (i + 1), pr ||| ((1 : Int32) <<< (nI (pt M i) &&& 31))) := by
      unfold W_addRow
      rw [if_neg (by rw [L12, n_le (by omega) (by omega)]; omega), chk_nI (by omega) (by omega)]
      dsimp only [lt_]
      rw [n_cl (by omega), nI_1]
    obtain ⟨rows', pr', e, hR'⟩ := ih k (i + 1) (upd rows i (nI (pt M i))) (pr ||| ((1 : Int32) <<< (nI (pt M i) &&& 31))) (by omega) (by omega) (by
      refine ⟨by omega, rfl, rfl, fun j hj => ?_, fun r hr => ?_⟩
      · unfold upd
        by_cases ej : j = i
        · rw [if_pos ej, ej]; exact ⟨rfl, rfl, hpt⟩
        · rw [if_neg ej]; exact hR.2.2.2.1 j (by omega)
      · rw [b_or, shl_r (pt M i) (by omega) r hr, Bool.or_eq_true, hR.2.2.2.2 r hr, decide_eq_true_iff]
        constructor
        · rintro (⟨j, hj, ej⟩ | ej)
          · exact ⟨j, by omega, ej⟩
          · exact ⟨i, by omega, ej.symm⟩
        · rintro ⟨j, hj, ej⟩
          by_cases e2 : j = i
          · subst e2; exact Or.inr ej.symm
          · exact Or.inl ⟨j, by omega, ej⟩)
    refine ⟨rows', pr', fun K => ?_, hR'⟩
    rw [← e K, W_begin_75, if_neg (by rw [n_le (by omega) (by omega)]; omega), chk_nI (by omega) (by omega), n_cl (by omega), hpa i (by omega), ea, Option.bind_some]
    dsimp only [lt_]
    rw [nI_1]
theorem m17 {M : MC} (hW : WF M) {now : Nat → Int32} (hm : RCm M now) : ∀ (m fuel i : Nat) (rb : Nat → Int32), i + m = np M → m < fuel → ∃ rb', (∀ K, M_sweeps_17 K now (nI (np M)) fuel (nI i) rb = K rb') ∧ (∀ j, j < i → rb' j = rb j) ∧ ∀ j, i ≤ j → j < np M → rb' j = nI (pt M j) := by
  have h12 := hW.2.2.2.2.2.1
  intro m
  induction m with
  | zero =>
    intro fuel i rb hi hf
    obtain ⟨k, rfl⟩ : ∃ n, fuel = n + 1 := ⟨fuel - 1, by omega⟩
    refine ⟨rb, fun K => ?_, fun _ _ => rfl, fun j a b => by omega⟩
    rw [M_sweeps_17, if_pos (by rw [n_le (by omega) (by omega)]; omega)]
  | succ m ih =>
    intro fuel i rb hi hf
    obtain ⟨k, rfl⟩ : ∃ n, fuel = n + 1 := ⟨fuel - 1, by omega⟩
    have hnow := hm.2.2.2.2.2.2 i (by omega)
    obtain ⟨rb', e, a1, a2⟩ := ih k (i + 1) (upd rb i (nI (pt M i))) (by omega) (by omega)
    refine ⟨rb', fun K => ?_, fun j hj => ?_, fun j hj1 hj2 => ?_⟩
    · rw [← e K, M_sweeps_17, if_neg (by rw [n_le (by omega) (by omega)]; omega)]
      simp (disch := omega) only [hnow, lt_, Option.bind_some, n_lit, n_lt, n_le, n_eq, n_cl, n_add, n_sub, n_mul, n_shr1, n_and1, n_xor1, n_div2, n_rem2, chk_nI, if_true, if_false, ite_true, ite_false, reduceIte, Nat.not_lt, Nat.not_le, not_true_eq_false, not_false_eq_true, Nat.le_refl, Nat.reduceLeDiff, Nat.reduceLT, Nat.reduceEqDiff, Nat.reduceAdd, Nat.reduceMul, Nat.reduceSub, Nat.reduceDiv, Nat.reduceMod]
    · rw [a1 j (by omega), upd_ne (by omega)]
    · by_cases hji : j = i
      · subst hji; rw [a1 j (by omega), upd_same]
      · exact a2 j (by omega) hj2
theorem m53 {M : MC} (hW : WF M) {now tb : Nat → Int32} {al : Int32} (hm : RCm M now) {rb lm gm : Nat → Int32} {rm ck : Int32} : ∀ (m fuel i : Nat) (fm wh : Nat → Int32), i + m = nn M + 1 → ∃ fm' wh', (∀ K, M_sweeps_53 K now tb al (fuel + m) (nI i) rb rm fm lm gm wh ck = M_sweeps_53 K now tb al fuel (nI (nn M + 1)) rb rm fm' lm gm wh' ck) ∧ (∀ j, j < i → fm' j = fm j ∧ wh' j = wh j) ∧ ∀ j, i ≤ j → j ≤ nn M → fm' j = nI (2 * j) ∧ wh' j = nI 0 := by
  obtain ⟨hn1, hn5⟩ := hW.1
  have hk48 := hW.2.1.2
  have hkn := hW.2.1.1
  have e0 : now (Int32.toNatClampNeg 0) = nI (nn M) := hm.1
  have e1 : now (Int32.toNatClampNeg 1) = nI (kk M) := hm.2.1
  intro m
  induction m with
  | zero =>
    intro fuel i fm wh hi
    have ei : i = nn M + 1 := by omega
    subst ei
    exact ⟨fm, wh, fun K => rfl, fun _ _ => ⟨rfl, rfl⟩, fun j a b => by omega⟩
  | succ m ih =>
    intro fuel i fm wh hi
    obtain ⟨fm', wh', e, a1, a2⟩ := ih fuel (i + 1) (upd fm i (nI (2 * i))) (upd wh i (nI 0)) (by omega)
    refine ⟨fm', wh', fun K => ?_, fun j hj => ?_, fun j hj1 hj2 => ?_⟩
    · rw [← e K, show fuel + (m + 1) = (fuel + m) + 1 by omega, M_sweeps_53, chk_lit (by decide), e1, if_neg (by rw [n_le (by omega) (by omega)]; omega), chk_lit (by decide), e0, if_neg (by rw [n_lt (by omega) (by omega)]; omega), M_merges_eq (by omega), Option.bind_some]
      dsimp only [lt_]
      rw [nI_1, L2, n_mul]; rfl
    · rw [(a1 j (by omega)).1, (a1 j (by omega)).2, upd_ne (by omega), upd_ne (by omega)]; exact ⟨rfl, rfl⟩
    · by_cases hji : j = i
      · subst hji; rw [(a1 j (by omega)).1, (a1 j (by omega)).2, upd_same, upd_same]; exact ⟨rfl, rfl⟩
      · exact a2 j (by omega) hj2
/-- what the class holds of a sweep, against what the reference gives -/
def Mat (M : MC) (fo re le gr lg rows gb : Nat → Int32) (lc rc cc pr al : Int32) (tb : Nat → Int32) (al' : Int32) (rb : Nat → Int32) (rm : Int32) (fm lm gm wh : Nat → Int32) (ck : Int32) : Prop :=
  IsT M tb ∧ al' = allR (nn M) ∧ al = allR (nn M) ∧ ∃ κ, SA M (kk M) κ fo re le gr lg rows gb lc rc cc pr rb rm fm lm gm wh ck
theorem lt_eq {α β : Type} (x : α) (k : α → β) : lt_ x k = k x := rfl
theorem W_begin_eq {n p : Nat} (hn1 : 1 ≤ n) (hn5 : n ≤ 5) {pa fo re rows gb gb1 fo1 re1 rows1 : Nat → Int32} {lc rc cc pr al pr1 rc1 : Int32} (b1 : ∀ K, W_begin_20 K 1000 (nI 0) gb = K gb1) (b3 : ∀ K, W_begin_40 K (nI n) 1000 (nI 0) fo re = K fo1 re1) (b5 : ∀ K, W_begin_75 K pa (nI p) 1000 (nI 0) rows (nI 0) (nI 0) = K rows1 rc1 pr1) : W_begin pa (nI n) (nI p) fo re rows gb lc rc cc pr al = some (fo1, re1, rows1, gb1, nI 0, rc1, nI 0, pr1, allR n) := by
  unfold W_begin
  rw [C_allRows_eq hn1 hn5, Option.bind_some, L0, b1, b3, b5]
theorem W_run_eq {n k p : Nat} (hn1 : 1 ≤ n) (hn5 : n ≤ 5) {fi se tr pa fo re le gr lg rows gb gb1 fo1 re1 rows1 fo' re' le' gr' lg' rows' gb' : Nat → Int32} {lc rc cc pr al pr1 rc1 lc' rc' cc' pr' : Int32} (hb : W_begin pa (nI n) (nI p) fo re rows gb lc rc cc pr al = some (fo1, re1, rows1, gb1, nI 0, rc1, nI 0, pr1, allR n)) (z1 : ∀ K, W_run_12 K fi se tr (nI n) (nI k) (allR n) 1000 (nI (n + 1)) fo1 re1 le gr lg rows1 gb1 (nI 0) rc1 (nI 0) pr1 = K fo' re' le' gr' lg' rows' gb' lc' rc' cc' pr') : W_run fi se tr pa (nI n) (nI k) (nI p) fo re le gr lg rows gb lc rc cc pr al = some (fo', re', le', gr', lg', rows', gb', lc', rc', cc', pr', allR n) := by
  unfold W_run
  rw [hb, Option.bind_some, lt_eq, nI_1, z1]
theorem M_sweeps_eq {now tb tb' rb rb1 fm lm gm wh rb' fm' lm' gm' wh' : Nat → Int32} {al al1 rm ck rm' ck' : Int32} {p : Nat} (hp : now 112 = nI p) (t1 : M_laysTables now tb al = some (tb', al1)) (c1 : ∀ K, M_sweeps_17 K now (nI p) 1000 (nI 0) rb = K rb1) (z2 : ∀ K, M_sweeps_53 K now tb' al1 1000 (nI 0) rb1 (nI p) fm lm gm wh (nI 0) = K rb' rm' fm' lm' gm' wh' ck') : M_sweeps now tb al rb rm fm lm gm wh ck = some (tb', al1, rb', rm', fm', lm', gm', wh', ck') := by
  unfold M_sweeps
  have e112 : now (Int32.toNatClampNeg 112) = nI p := hp
  rw [t1, Option.bind_some, chk_lit (by decide), e112, lt_eq, L0, c1, z2]
def inT (n j : Nat) : Int32 := if j = 0 then 0 else iT.getD (j - 1) 0 &&& allR n
theorem inT_DF0 : ∀ n, n < 6 → ∀ j, j < 6 → ∀ i, i < 6 → (decide (1 ≤ n) && decide (j ≤ n) && decide (i < j)) = true → (decide (inT n j ^^^ inT n i = 0) || decide (((inT n j ^^^ inT n i) ^^^ (-1)) &&& allR n = 0)) = false := by decide +kernel
theorem inT_DF {n j i : Nat} (h1 : 1 ≤ n) (h5 : n ≤ 5) (hj : j ≤ n) (hi : i < j) : DF n (inT n j) (inT n i) := by
  have h := inT_DF0 n (by omega) j (by omega) i (by omega) (by rw [decide_eq_true h1, decide_eq_true hj, decide_eq_true hi]; rfl)
  rw [Bool.or_eq_false_iff, decide_eq_false_iff_not, decide_eq_false_iff_not] at h
  exact h
set_option maxRecDepth 100000 in
theorem sweep_sim {M : MC} (hW : WF M) {fi se tr lev li co pa : Nat → Int32} {ic nc pc : Int32} (hc : RCc M fi se tr lev li co pa ic nc pc) {now : Nat → Int32} (hm : RCm M now) (fo re le gr lg rows gb : Nat → Int32) (lc rc cc pr al : Int32) (tb : Nat → Int32) (al' : Int32) (rb : Nat → Int32) (rm : Int32) (fm lm gm wh : Nat → Int32) (ck : Int32) :
    ∃ fo' re' le' gr' lg' rows' gb' lc' rc' cc' pr' tb' rb' rm' fm' lm' gm' wh' ck', W_run fi se tr pa ic nc pc fo re le gr lg rows gb lc rc cc pr al = some (fo', re', le', gr', lg', rows', gb', lc', rc', cc', pr', allR (nn M)) ∧ M_sweeps now tb al' rb rm fm lm gm wh ck = some (tb', allR (nn M), rb', rm', fm', lm', gm', wh', ck') ∧ Mat M fo' re' le' gr' lg' rows' gb' lc' rc' cc' pr' (allR (nn M)) tb' (allR (nn M)) rb' rm' fm' lm' gm' wh' ck' := by
  obtain ⟨hn1, hn5⟩ := hW.1
  have hk48 := hW.2.1.2
  have hkn := hW.2.1.1
  have h12 := hW.2.2.2.2.2.1
  obtain ⟨rfl, rfl, h3, h4, -, -, -, rfl, h9⟩ := hc
  obtain ⟨tb', t1, t2⟩ := M_laysTables_eq hW hm tb al'
  obtain ⟨gb1, b1, -, b2⟩ := beg20 4 1000 0 gb (by omega) (by omega)
  obtain ⟨fo1, re1, b3, -, b4⟩ := beg40 hn5 (nn M + 1) 1000 0 fo re (by omega) (by omega)
  obtain ⟨rows1, pr1, b5, b6⟩ := beg75 hW h9 (np M) 1000 0 rows (nI 0) (by omega) (by omega) ⟨Nat.zero_le _, rfl, rfl, fun i hi => absurd hi (Nat.not_lt_zero i), fun r _ => by show (bt 0 r = true ↔ _); rw [b_0]; exact ⟨fun h => absurd h (by decide), fun h => by obtain ⟨i, hi, -⟩ := h; exact absurd hi (Nat.not_lt_zero i)⟩⟩
  obtain ⟨rb1, c1, -, c2⟩ := m17 hW hm (np M) 1000 0 rb (by omega) (by omega)
  obtain ⟨fm1, wh1, d1, -, d2⟩ := m53 hW (tb := tb') (al := allR (nn M)) (rb := rb1) (lm := lm) (gm := gm) (rm := nI (np M)) (ck := nI 0) hm (nn M + 1) (1000 - (nn M + 1)) 0 fm wh (by omega)
  have hRR : RR (nn M) (np M) (pt M) rows1 (nI (np M)) pr1 rb1 (nI (np M)) := ⟨b6.1, rfl, rfl, fun i hi => ⟨(b6.2.2.2.1 i hi).1, c2 i (Nat.zero_le i) hi, (b6.2.2.2.1 i hi).2.2⟩, b6.2.2.2.2⟩
  have hSA : SA M (nn M + 1) (fun _ => 0) fo1 re1 le gr lg rows1 gb1 (nI 0) (nI (np M)) (nI 0) pr1 rb1 (nI (np M)) fm1 lm gm wh1 (nI 0) := by
    have hpl : ∀ j, j < nn M + 1 → pl (nn M) (fun _ => 0) j = false := fun j hj => by unfold pl; simp
    have hpc : ∀ c j, j < nn M + 1 → pc_ (nn M) (fun _ => 0) c j = false := fun c j hj => by unfold pc_; rw [decide_eq_false (by omega)]; rfl
    refine ⟨⟨fun j => 2 * j, fun _ => 0, fun _ => 0, ⟨fun j hj => ?_, fun j hj1 hj2 => by omega⟩, fun t ht => ⟨fun j hj => by show t j = litT (nn M) t (2 * j); unfold litT; rw [if_pos (by omega), show 2 * j / 2 = j by omega], fun j hj1 hj2 => by omega, fun i j hi hj _ _ => ?_⟩⟩, ⟨np M, pt M, hRR⟩, ⟨?_, fun j hj hp => ?_, fun c hc => ?_⟩, rfl⟩
    · have q1 := b4 j (Nat.zero_le j) (by omega)
      have q2 := d2 j (Nat.zero_le j) (by omega)
      exact ⟨q1.1, q2.1, q1.2, q2.2, (by show 2 * j / 2 ≤ j; omega), (by show 0 < 4; omega), rfl, fun _ => rfl, fun _ => rfl⟩
    · have key : ∀ j, j ≤ nn M → t j = inT (nn M) j := fun j hj => by
        unfold inT
        by_cases e : j = 0
        · rw [if_pos e, e]; exact ht.1
        · rw [if_neg e]; exact ht.2.1 j (by omega) hj
      rw [key j (by omega), key i (by omega)]
      exact inT_DF hn1 hn5 (by omega) hi
    · rw [fb_ct_zero.mpr (fun k hk => hpl k hk)]
    · rw [hpl j hj] at hp; cases hp
    · rw [b2 c (Nat.zero_le c) hc, fb_ct_zero.mpr (fun k hk => hpc c k hk)]
  obtain ⟨κ', fo', re', le', gr', lg', rows', gb', lc', rc', cc', pr', rb', rm', fm', lm', gm', wh', z1, z2, z3⟩ := run_sim hW h3 h4 hm t2 (kk M - (nn M + 1)) (nn M + 1) 1000 (1000 - (nn M + 1)) (fun _ => 0) fo1 re1 le gr lg rows1 gb1 (nI 0) (nI (np M)) (nI 0) pr1 rb1 (nI (np M)) fm1 lm gm wh1 (by omega) (by omega) (by omega) (by omega) hSA
  refine ⟨fo', re', le', gr', lg', rows', gb', lc', rc', cc', pr', tb', rb', rm', fm', lm', gm', wh', cc', ?_, ?_, t2, rfl, rfl, κ', z3⟩
  · exact W_run_eq hn1 hn5 (W_begin_eq hn1 hn5 b1 b3 b5) z1
  · refine M_sweeps_eq hm.2.2.2.2.2.1 t1 c1 (fun K => ?_)
    have h1 := d1 K
    rw [show 1000 - (nn M + 1) + (nn M + 1) = 1000 by omega] at h1
    rw [h1, z2]
