/-! pairs of outs, verdict -/
def av (p : Nat → Bool) (i : Nat) : Nat → Bool
  | 0 => true
  | m + 1 => p i && av p (i + 1) m
def b2 (b : Bool) : Nat := if b then 1 else 0
section PAIRS
variable {M : MC} {fi se tr lev li co pa : Nat → Int32} {ic nc pc : Int32} {fo re le gr lg rows gb : Nat → Int32} {lc rc cc pr al : Int32} {yf ys yt yl yi yo yp : Nat → Nat → Int32} {yn yk yq : Nat → Int32} {yw yz : Int32} {now past : Nat → Int32} {stt : Int32} {x0 xb xn xf : Int32} {ref : Nat → Int32} {tb : Nat → Int32} {al2 : Int32} {rb : Nat → Int32} {rm : Int32} {fm lm gm wh : Nat → Int32} {ck : Int32} {φ κ lam gam : Nat → Nat}
theorem hasPair (hW : WF M) (h6 : co 0 = nI (oc M 0) ∧ co 1 = nI (oc M 1)) (hm : RCm M now) (x : Int32) : (C_hasOutPair co x = some 0 ∧ M_areOuts now x = some 0) ∨ ∃ j, j < oc M 0 ∧ j < oc M 1 ∧ x = nI j ∧ C_hasOutPair co x = some 1 ∧ M_areOuts now x = some 1 := by
  have c0 : co (Int32.toNatClampNeg 0) = nI (oc M 0) := h6.1
  have c1 : co (Int32.toNatClampNeg 1) = nI (oc M 1) := h6.2
  have d0 : now (Int32.toNatClampNeg 98) = nI (oc M 0) := hm.2.2.2.1.1
  have d1 : now (Int32.toNatClampNeg 99) = nI (oc M 1) := hm.2.2.2.1.2
  have o0 := hW.2.2.2.1.1
  have o1 := hW.2.2.2.1.2
  unfold C_hasOutPair M_areOuts
  rw [chk_lit (by decide), chk_lit (by decide), chk_lit (by decide), chk_lit (by decide), c0, c1, d0, d1]
  by_cases h : x < 0
  · rw [if_pos h]; exact Or.inl ⟨rfl, rfl⟩
  · rw [if_neg h]
    by_cases h0 : nI (oc M 0) ≤ x
    · rw [if_pos h0]; exact Or.inl ⟨rfl, rfl⟩
    · rw [if_neg h0]
      by_cases h1 : nI (oc M 1) ≤ x
      · rw [if_pos h1]; exact Or.inl ⟨rfl, rfl⟩
      · rw [if_neg h1]
        rcases arg3 x (oc M 0) (by omega) with a | ⟨-, a⟩ | ⟨j, hj, rfl⟩
        · exact absurd a h
        · exact absurd a h0
        · refine Or.inr ⟨j, hj, ?_, rfl, rfl, rfl⟩
          rw [n_le (by omega) (by omega)] at h1; omega
def pp_ (M : MC) (φ : Nat → Nat) : Nat → Bool := fun j => decide (lp φ (ol M 0 j) = lp φ (ol M 1 j))
theorem pair_eq (hW : WF M) (h7 : ∀ s i, s < 2 → i < oc M s → li (s * 6 + i) = nI (ol M s i)) (hm : RCm M now) (hS : SG (nn M) (kk M) φ κ lam gam fo re le gr fm wh lm gm) {j : Nat} (j0 : j < oc M 0) (j1 : j < oc M 1) : C_pairIsAlikeBy li fo (nI j) = some (nI (b2 (pp_ M φ j))) ∧ M_areAlike now fm (nI j) = some (nI (b2 (pp_ M φ j))) := by
  have hk48 := hW.2.1.2
  have o0 := hW.2.2.2.1.1
  have o1 := hW.2.2.2.1.2
  have a0 := hW.2.2.2.2.1 0 j (by omega) j0
  have a1 := hW.2.2.2.2.1 1 j (by omega) j1
  obtain ⟨p1, -⟩ := lp_lt hS a0
  obtain ⟨q1, -⟩ := lp_lt hS a1
  have e : ∀ (A : Int32), (if nI (lp φ (ol M 0 j)) = nI (lp φ (ol M 1 j)) then some (1 : Int32) else some 0) = some (nI (b2 (pp_ M φ j))) := by
    intro _
    unfold b2 pp_
    by_cases hh : lp φ (ol M 0 j) = lp φ (ol M 1 j)
    · rw [if_pos (by rw [hh]), decide_eq_true hh]; rfl
    · rw [if_neg (by rw [n_eq (by omega) (by omega)]; exact hh), decide_eq_false hh]; rfl
  refine ⟨?_, ?_⟩
  · unfold C_pairIsAlikeBy C_outOf
    rw [L0, L1, L6, n_mul, n_mul, n_add, n_add, chk_nI (by omega) (by omega), n_cl (by omega), h7 0 j (by omega) j0, Option.bind_some, W_formOf_eq hS a0 hk48, Option.bind_some, chk_nI (by omega) (by omega), n_cl (by omega), h7 1 j (by omega) j1, Option.bind_some, W_formOf_eq hS a1 hk48, Option.bind_some]
    exact e 0
  · have s0 := hm.2.2.2.2.1 0 j (by omega) j0
    have s1 := hm.2.2.2.2.1 1 j (by omega) j1
    unfold M_areAlike
    rw [show (100 : Int32) + nI j = nI (100 + 6 * 0 + j) from n_add 100 j, show (106 : Int32) + nI j = nI (100 + 6 * 1 + j) from n_add 106 j, chk_nI (by omega) (by omega), n_cl (by omega), s0, M_formOf_eq hS a0 hk48, Option.bind_some, chk_nI (by omega) (by omega), n_cl (by omega), s1, M_formOf_eq hS a1 hk48, Option.bind_some]
    exact e 0
theorem s_alike (hQ : RQ x0 fi se tr lev li co pa ic nc pc fo re le gr lg rows gb lc rc cc pr al yf ys yt yl yi yo yp yn yk yq yw yz now past stt) (hF : RF xb xn xf ref) (x : Int32) :
    ∃ r x0' xb' xn' xf' fo' re' le' gr' lg' rows' gb' lc' rc' cc' pr' al' ref' tb' al2' rb' rm' fm' lm' gm' wh' ck', X_alike x0 xb xn xf fi se tr li co pa ic nc pc fo re le gr lg rows gb lc rc cc pr al x = some (r, x0', xb', xn', xf', fo', re', le', gr', lg', rows', gb', lc', rc', cc', pr', al') ∧ M_alike now ref tb al2 rb rm fm lm gm wh ck x = some (r, ref', tb', al2', rb', rm', fm', lm', gm', wh', ck') ∧ RQ x0' fi se tr lev li co pa ic nc pc fo' re' le' gr' lg' rows' gb' lc' rc' cc' pr' al' yf ys yt yl yi yo yp yn yk yq yw yz now past stt ∧ RF xb' xn' xf' ref' := by
  have hQ' := hQ
  obtain ⟨M, hW, hc, hm, hH, hS⟩ := hQ
  rcases hasPair hW hc.2.2.2.2.2.1 hm x with ⟨h1, h2⟩ | ⟨j, j0, j1, rfl, h1, h2⟩
  · obtain ⟨xb', xn', xf', ref', b1, b2, b3⟩ := ref_bad hF
    refine ⟨-2, x0, xb', xn', xf', fo, re, le, gr, lg, rows, gb, lc, rc, cc, pr, al, ref', tb, al2, rb, rm, fm, lm, gm, wh, ck, ?_, ?_, hQ', b3⟩
    · unfold X_alike; rw [h1, Option.bind_some, if_pos rfl, b1]; rfl
    · unfold M_alike; rw [h2, Option.bind_some, if_pos rfl, b2]; rfl
  · obtain ⟨fo', re', le', gr', lg', rows', gb', lc', rc', cc', pr', al', e1, hS'⟩ := sweepNow_sim hW hc hm hS
    obtain ⟨tb', rb', rm', fm', lm', gm', wh', ck', e2, -, -, -, κ, ⟨φ, lam, gam, hSG, -⟩, -⟩ := hS' now hm tb al2 rb rm fm lm gm wh ck
    obtain ⟨p1, p2⟩ := pair_eq hW hc.2.2.2.2.2.2.1 hm hSG j0 j1
    refine ⟨nI (b2 (pp_ M φ j)), 0, xb, xn, xf, fo', re', le', gr', lg', rows', gb', lc', rc', cc', pr', al', ref, tb', allR (nn M), rb', rm', fm', lm', gm', wh', ck', ?_, ?_, ⟨M, hW, hc, hm, hH, fun _ => hS'⟩, hF⟩
    · unfold X_alike; rw [h1, Option.bind_some, if_neg one_ne, e1, Option.bind_some]; dsimp only; rw [p1, Option.bind_some]
      cases pp_ M φ j <;> rfl
    · unfold M_alike; rw [h2, Option.bind_some, if_neg one_ne, e2, Option.bind_some]; dsimp only; rw [p2, Option.bind_some]
      cases pp_ M φ j <;> rfl
theorem wit_none {n : Nat} (hn1 : 1 ≤ n) (hn5 : n ≤ 5) (e0 : now 0 = nI n) (K : Option (Int32 × (Nat → Int32) × (Nat → Int32) × Int32)) : ∀ (m fuel i : Nat), i + m = 2 ^ n → m < fuel → M_witness_47 K now ref tb al2 0 fuel (nI i) = K := by
  have h32 := (pow_n hn1 hn5).2
  intro m
  induction m with
  | zero =>
    intro fuel i hi hf
    obtain ⟨f, rfl⟩ : ∃ f, fuel = f + 1 := ⟨fuel - 1, by omega⟩
    rw [M_witness_47, M_rows_eq e0 hn1 hn5, Option.bind_some, if_pos (by rw [n_le (by omega) (by omega)]; omega)]
  | succ m ih =>
    intro fuel i hi hf
    obtain ⟨f, rfl⟩ : ∃ f, fuel = f + 1 := ⟨fuel - 1, by omega⟩
    rw [M_witness_47, M_rows_eq e0 hn1 hn5, Option.bind_some, if_neg (by rw [n_le (by omega) (by omega)]; omega), bit1 _ (by omega), b_0, if_neg (by decide), lt_eq, nI_1]
    exact ih f (i + 1) (by omega) (by omega)
theorem wit_some {n : Nat} (hn1 : 1 ≤ n) (hn5 : n ≤ 5) (e0 : now 0 = nI n) (K : Option (Int32 × (Nat → Int32) × (Nat → Int32) × Int32)) {x : Int32} {r : Nat} (hr : r < 2 ^ n) (hb : bt x r = true) (hl : ∀ i, i < r → bt x i = false) : ∀ (m fuel i : Nat), i + m = r → m < fuel → M_witness_47 K now ref tb al2 x fuel (nI i) = some (nI r, ref, tb, al2) := by
  have h32 := (pow_n hn1 hn5).2
  intro m
  induction m with
  | zero =>
    intro fuel i hi hf
    obtain ⟨f, rfl⟩ : ∃ f, fuel = f + 1 := ⟨fuel - 1, by omega⟩
    have ei : i = r := by omega
    subst ei
    rw [M_witness_47, M_rows_eq e0 hn1 hn5, Option.bind_some, if_neg (by rw [n_le (by omega) (by omega)]; omega), bit1 _ (by omega), hb, if_pos (show nI (if true = true then 1 else 0) = 1 from rfl)]
  | succ m ih =>
    intro fuel i hi hf
    obtain ⟨f, rfl⟩ : ∃ f, fuel = f + 1 := ⟨fuel - 1, by omega⟩
    rw [M_witness_47, M_rows_eq e0 hn1 hn5, Option.bind_some, if_neg (by rw [n_le (by omega) (by omega)]; omega), bit1 _ (by omega), hl i (by omega), if_neg (by decide), lt_eq, nI_1]
    exact ih f (i + 1) (by omega) (by omega)
theorem s_witness (hQ : RQ x0 fi se tr lev li co pa ic nc pc fo re le gr lg rows gb lc rc cc pr al yf ys yt yl yi yo yp yn yk yq yw yz now past stt) (hF : RF xb xn xf ref) (x : Int32) :
    ∃ r x0' xb' xn' xf' fo' re' le' gr' lg' rows' gb' lc' rc' cc' pr' al' ref' tb' al2', X_witness x0 xb xn xf fi se tr li co pa ic nc pc fo re le gr lg rows gb lc rc cc pr al x = some (r, x0', xb', xn', xf', fo', re', le', gr', lg', rows', gb', lc', rc', cc', pr', al') ∧ M_witness now ref tb al2 x = some (r, ref', tb', al2') ∧ RQ x0' fi se tr lev li co pa ic nc pc fo' re' le' gr' lg' rows' gb' lc' rc' cc' pr' al' yf ys yt yl yi yo yp yn yk yq yw yz now past stt ∧ RF xb' xn' xf' ref' := by
  have hQ' := hQ
  obtain ⟨M, hW, hc, hm, hH, hS⟩ := hQ
  rcases hasPair hW hc.2.2.2.2.2.1 hm x with ⟨h1, h2⟩ | ⟨j, j0, j1, rfl, h1, h2⟩
  · obtain ⟨xb', xn', xf', ref', b1, b2, b3⟩ := ref_bad hF
    refine ⟨-2, x0, xb', xn', xf', fo, re, le, gr, lg, rows, gb, lc, rc, cc, pr, al, ref', tb, al2, ?_, ?_, hQ', b3⟩
    · unfold X_witness; rw [h1, Option.bind_some, if_pos rfl, b1]; rfl
    · unfold M_witness; rw [h2, Option.bind_some, if_pos rfl, b2]; rfl
  · obtain ⟨hn1, hn5⟩ := hW.1
    have hk48 := hW.2.1.2
    have h32 := (pow_n hn1 hn5).2
    have o0 := hW.2.2.2.1.1
    have o1 := hW.2.2.2.1.2
    have a0 := hW.2.2.2.2.1 0 j (by omega) j0
    have a1 := hW.2.2.2.2.1 1 j (by omega) j1
    obtain ⟨fo', re', le', gr', lg', rows', gb', lc', rc', cc', pr', al', e1, hS'⟩ := sweepNow_sim hW hc hm hS
    obtain ⟨tb1, rb', rm', fm', lm', gm', wh', ck', e2, -, -, -, κ, ⟨φ, lam, gam, hSG, hSM⟩, -⟩ := hS' now hm now 0 now 0 now now now now 0
    obtain ⟨p1, p2⟩ := pair_eq hW hc.2.2.2.2.2.2.1 hm hSG j0 j1
    obtain ⟨t', l1, l2⟩ := M_laysTables_eq hW hm tb al2
    have htr : IsT M tr := hc.2.2.2.1
    have eic : ic = nI (nn M) := hc.1
    have h7 := hc.2.2.2.2.2.2.1
    have ft := forms_tables hn1 hn5 hSG (hSM tr htr) (IsT_mask hW htr) a0 a1
    have mm : M_witness now ref tb al2 (nI j) = M_witness_47 (some (-1, ref, t', allR (nn M))) now ref t' (allR (nn M)) (litT (nn M) tr (ol M 0 j) ^^^ litT (nn M) tr (ol M 1 j)) 1000 (nI 0) := by
      have s0 := hm.2.2.2.2.1 0 j (by omega) j0
      have s1 := hm.2.2.2.2.1 1 j (by omega) j1
      unfold M_witness
      rw [h2, Option.bind_some, if_neg one_ne, l1, Option.bind_some, show (100 : Int32) + nI j = nI (100 + 6 * 0 + j) from n_add 100 j, show (106 : Int32) + nI j = nI (100 + 6 * 1 + j) from n_add 106 j, chk_nI (by omega) (by omega), n_cl (by omega), s0]
      dsimp only
      rw [M_tableOf_eq (by omega), Option.bind_some, chk_nI (by omega) (by omega), n_cl (by omega), s1, M_tableOf_eq (by omega), Option.bind_some, lt_eq, litT_one hW l2 htr a0, litT_one hW l2 htr a1, L0]
    by_cases hp : lp φ (ol M 0 j) = lp φ (ol M 1 j)
    · have pt1 : pp_ M φ j = true := decide_eq_true hp
      rw [pt1] at p1
      refine ⟨-1, 0, xb, xn, xf, fo', re', le', gr', lg', rows', gb', lc', rc', cc', pr', al', ref, t', allR (nn M), ?_, ?_, ⟨M, hW, hc, hm, hH, fun _ => hS'⟩, hF⟩
      · unfold X_witness; rw [h1, Option.bind_some, if_neg one_ne, e1, Option.bind_some]; dsimp only; rw [p1, Option.bind_some, if_neg (by decide)]
      · rw [mm, ft.mpr hp, Int32.xor_self]
        exact wit_none hn1 hn5 hm.1 _ (2 ^ nn M) 1000 0 (by omega) (by omega)
    · have pt1 : pp_ M φ j = false := decide_eq_false hp
      rw [pt1] at p1
      have hx0 : ¬ litT (nn M) tr (ol M 0 j) ^^^ litT (nn M) tr (ol M 1 j) = 0 := fun e => hp (ft.mp (eq_of_xor e))
      obtain ⟨r, hr, hb, hl⟩ := b_least hx0
      have hr2 : r < 2 ^ nn M := xor_mask (litT_mask hn1 hn5 (IsT_mask hW htr _ (by omega))) (litT_mask hn1 hn5 (IsT_mask hW htr _ (by omega))) r hr hb
      have pd : C_pairDifference tr li ic (nI j) = some (litT (nn M) tr (ol M 0 j) ^^^ litT (nn M) tr (ol M 1 j)) := by
        unfold C_pairDifference C_outOf
        rw [eic, L0, L1, L6, n_mul, n_mul, n_add, n_add, chk_nI (by omega) (by omega), n_cl (by omega), h7 0 j (by omega) j0, Option.bind_some, C_truthOf_eq hn1 hn5 (by omega), Option.bind_some, chk_nI (by omega) (by omega), n_cl (by omega), h7 1 j (by omega) j1, Option.bind_some, C_truthOf_eq hn1 hn5 (by omega), Option.bind_some]
      refine ⟨nI r, 0, xb, xn, xf, fo', re', le', gr', lg', rows', gb', lc', rc', cc', pr', al', ref, t', allR (nn M), ?_, ?_, ⟨M, hW, hc, hm, hH, fun _ => hS'⟩, hF⟩
      · unfold X_witness; rw [h1, Option.bind_some, if_neg one_ne, e1, Option.bind_some]; dsimp only; rw [p1, Option.bind_some, if_pos (show nI (b2 false) = 0 from rfl), pd, Option.bind_some, X_leastRow_eq hr hb hl, Option.bind_some]
      · rw [mm]
        exact wit_some hn1 hn5 hm.1 _ hr2 hb hl r 1000 0 (by omega) (by omega)
theorem ver_C (hW : WF M) (h6 : co 0 = nI (oc M 0) ∧ co 1 = nI (oc M 1)) (heq : oc M 0 = oc M 1) (h7 : ∀ s i, s < 2 → i < oc M s → li (s * 6 + i) = nI (ol M s i)) (hm : RCm M now) (hS : SG (nn M) (kk M) φ κ lam gam fo re le gr fm wh lm gm) : ∀ (m fuel i : Nat), i + m = oc M 0 → m < fuel → C_verdictBy_19 (some 1) li co fo fuel (nI i) = some (nI (b2 (av (pp_ M φ) i m))) := by
  have c0 : co (Int32.toNatClampNeg 0) = nI (oc M 0) := h6.1
  have o0 := hW.2.2.2.1.1
  intro m
  induction m with
  | zero =>
    intro fuel i hi hf
    obtain ⟨f, rfl⟩ : ∃ f, fuel = f + 1 := ⟨fuel - 1, by omega⟩
    rw [C_verdictBy_19, chk_lit (by decide), c0, if_pos (by rw [n_le (by omega) (by omega)]; omega)]; rfl
  | succ m ih =>
    intro fuel i hi hf
    obtain ⟨f, rfl⟩ : ∃ f, fuel = f + 1 := ⟨fuel - 1, by omega⟩
    rw [C_verdictBy_19, chk_lit (by decide), c0, if_neg (by rw [n_le (by omega) (by omega)]; omega), (pair_eq hW h7 hm hS (by omega) (by omega)).1, Option.bind_some]
    show _ = some (nI (b2 (pp_ M φ i && av (pp_ M φ) (i + 1) m)))
    cases hp : pp_ M φ i with
    | false => rw [if_pos (show nI (b2 false) = 0 from rfl)]; rfl
    | true => rw [if_neg (show ¬ nI (b2 true) = 0 by decide), lt_eq, nI_1, ih f (i + 1) (by omega) (by omega)]; rfl
theorem ver_M (hW : WF M) (h6 : co 0 = nI (oc M 0) ∧ co 1 = nI (oc M 1)) (h7 : ∀ s i, s < 2 → i < oc M s → li (s * 6 + i) = nI (ol M s i)) (hm : RCm M now) (hS : SG (nn M) (kk M) φ κ lam gam fo re le gr fm wh lm gm) : ∀ (m fuel i : Nat) (b : Bool), i + m = min (oc M 0) (oc M 1) → m < fuel → ∀ K, M_verdictNow_4 K now fm fuel (nI (b2 b)) (nI i) = K (nI (b2 (b && av (pp_ M φ) i m))) := by
  have o0 := hW.2.2.2.1.1
  intro m
  induction m with
  | zero =>
    intro fuel i b hi hf K
    obtain ⟨f, rfl⟩ : ∃ f, fuel = f + 1 := ⟨fuel - 1, by omega⟩
    rcases hasPair hW h6 hm (nI i) with ⟨-, h2⟩ | ⟨j, j0, j1, e, -⟩
    · rw [M_verdictNow_4, h2, Option.bind_some, if_pos rfl]
      show _ = K (nI (b2 (b && true)))
      rw [Bool.and_true]
    · rw [n_eq (by omega) (by omega)] at e; omega
  | succ m ih =>
    intro fuel i b hi hf K
    obtain ⟨f, rfl⟩ : ∃ f, fuel = f + 1 := ⟨fuel - 1, by omega⟩
    have h2 : M_areOuts now (nI i) = some 1 := by
      rcases hasPair hW h6 hm (nI i) with ⟨-, h2⟩ | ⟨j, j0, j1, e, -, h2⟩
      · exfalso
        have d0 : now (Int32.toNatClampNeg 98) = nI (oc M 0) := hm.2.2.2.1.1
        have d1 : now (Int32.toNatClampNeg 99) = nI (oc M 1) := hm.2.2.2.1.2
        have o1 := hW.2.2.2.1.2
        unfold M_areOuts at h2
        rw [chk_lit (by decide), chk_lit (by decide), d0, d1, if_neg (nlt0 i (by omega)), if_neg (by rw [n_le (by omega) (by omega)]; omega), if_neg (by rw [n_le (by omega) (by omega)]; omega)] at h2
        exact absurd (Option.some.inj h2) one_ne
      · exact h2
    rw [M_verdictNow_4, h2, Option.bind_some, if_neg one_ne]
    show _ = K (nI (b2 (b && (pp_ M φ i && av (pp_ M φ) (i + 1) m))))
    cases b with
    | false =>
      rw [if_pos (show nI (b2 false) = 0 from rfl), lt_eq, nI_1]
      exact ih f (i + 1) false (by omega) (by omega) K
    | true =>
      rw [if_neg (show ¬ nI (b2 true) = 0 by decide), (pair_eq hW h7 hm hS (by omega) (by omega)).2, Option.bind_some]
      cases hp : pp_ M φ i with
      | false =>
        rw [if_pos (show nI (b2 false) = 0 from rfl), lt_eq, nI_1]
        exact ih f (i + 1) false (by omega) (by omega) K
      | true =>
        rw [if_neg (show ¬ nI (b2 true) = 0 by decide), lt_eq, nI_1]
        exact ih f (i + 1) true (by omega) (by omega) K
theorem verdict_eq (hW : WF M) (hc : RCc M fi se tr lev li co pa ic nc pc) (hm : RCm M now) (hS : SG (nn M) (kk M) φ κ lam gam fo re le gr fm wh lm gm) : ∃ r, C_verdictBy li co fo = some r ∧ M_verdictNow now fm = some r := by
  have h6 := hc.2.2.2.2.2.1
  have h7 := hc.2.2.2.2.2.2.1
  have c0 : co (Int32.toNatClampNeg 0) = nI (oc M 0) := h6.1
  have c1 : co (Int32.toNatClampNeg 1) = nI (oc M 1) := h6.2
  have d0 : now (Int32.toNatClampNeg 98) = nI (oc M 0) := hm.2.2.2.1.1
  have d1 : now (Int32.toNatClampNeg 99) = nI (oc M 1) := hm.2.2.2.1.2
  have o0 := hW.2.2.2.1.1
  have o1 := hW.2.2.2.1.2
  have vm := ver_M hW h6 h7 hm hS (min (oc M 0) (oc M 1)) 1000 0 true (by omega) (by omega)
  have un : M_verdictNow now fm = (if nI (oc M 0) = nI (oc M 1) then (if nI (b2 (true && av (pp_ M φ) 0 (min (oc M 0) (oc M 1)))) = 0 then some 0 else some 1) else some (-1)) := by
    unfold M_verdictNow
    rw [L0, show (1 : Int32) = nI (b2 true) from rfl, vm, chk_lit (by decide), chk_lit (by decide), d0, d1]
  by_cases heq : oc M 0 = oc M 1
  · refine ⟨nI (b2 (av (pp_ M φ) 0 (oc M 0))), ?_, ?_⟩
    · unfold C_verdictBy
      rw [chk_lit (by decide), chk_lit (by decide), c0, c1, if_pos (by rw [heq]), L0, ver_C hW h6 heq h7 hm hS (oc M 0) 1000 0 (by omega) (by omega)]
    · rw [un, if_pos (by rw [heq]), show min (oc M 0) (oc M 1) = oc M 0 by omega, Bool.true_and]
      cases av (pp_ M φ) 0 (oc M 0) <;> rfl
  · refine ⟨-1, ?_, ?_⟩
    · unfold C_verdictBy
      rw [chk_lit (by decide), chk_lit (by decide), c0, c1, if_neg (by rw [n_eq (by omega) (by omega)]; exact heq)]
    · rw [un, if_neg (by rw [n_eq (by omega) (by omega)]; exact heq)]
theorem s_verdict (hQ : RQ x0 fi se tr lev li co pa ic nc pc fo re le gr lg rows gb lc rc cc pr al yf ys yt yl yi yo yp yn yk yq yw yz now past stt) :
    ∃ r x0' fo' re' le' gr' lg' rows' gb' lc' rc' cc' pr' al' tb' al2' rb' rm' fm' lm' gm' wh' ck', X_verdict x0 fi se tr li co pa ic nc pc fo re le gr lg rows gb lc rc cc pr al = some (r, x0', fo', re', le', gr', lg', rows', gb', lc', rc', cc', pr', al') ∧ M_verdict now tb al2 rb rm fm lm gm wh ck = some (r, tb', al2', rb', rm', fm', lm', gm', wh', ck') ∧ RQ x0' fi se tr lev li co pa ic nc pc fo' re' le' gr' lg' rows' gb' lc' rc' cc' pr' al' yf ys yt yl yi yo yp yn yk yq yw yz now past stt := by
  obtain ⟨M, hW, hc, hm, hH, hS⟩ := hQ
  obtain ⟨fo', re', le', gr', lg', rows', gb', lc', rc', cc', pr', al', e1, hS'⟩ := sweepNow_sim hW hc hm hS
  obtain ⟨tb', rb', rm', fm', lm', gm', wh', ck', e2, -, -, -, κ, ⟨φ, lam, gam, hSG, -⟩, -⟩ := hS' now hm tb al2 rb rm fm lm gm wh ck
  obtain ⟨r, v1, v2⟩ := verdict_eq hW hc hm hSG
  refine ⟨r, 0, fo', re', le', gr', lg', rows', gb', lc', rc', cc', pr', al', tb', allR (nn M), rb', rm', fm', lm', gm', wh', ck', ?_, ?_, ⟨M, hW, hc, hm, hH, fun _ => hS'⟩⟩
  · unfold X_verdict; rw [e1, Option.bind_some]; dsimp only; rw [v1, Option.bind_some]
  · unfold M_verdict; rw [e2, Option.bind_some]; dsimp only; rw [v2, Option.bind_some]
theorem s_settles (hQ : RQ x0 fi se tr lev li co pa ic nc pc fo re le gr lg rows gb lc rc cc pr al yf ys yt yl yi yo yp yn yk yq yw yz now past stt) (nwn nb aside : Nat → Int32) :
    ∃ r fi' se' tr' lev' li' nc' fo' re' le' gr' lg' rows' gb' lc' rc' cc' pr' al' nwn' yf' ys' yt' yl' yi' yo' yp' yn' yk' yq' yw' yz' now' aside' past' stt' tb' al2' rb' rm' fm' lm' gm' wh' ck' nb', X_settles x0 fi se tr lev li co pa ic nc pc fo re le gr lg nwn rows gb lc rc cc pr al yf ys yt yl yi yo yp yn yk yq yw yz = some (r, 1, fi', se', tr', lev', li', nc', fo', re', le', gr', lg', nwn', rows', gb', lc', rc', cc', pr', al', yf', ys', yt', yl', yi', yo', yp', yn', yk', yq', yw', yz') ∧ M_settles now aside past stt ref tb al2 rb rm fm lm gm wh ck nb = some (r, now', aside', past', stt', ref, tb', al2', rb', rm', fm', lm', gm', wh', ck', nb') ∧ RQ 1 fi' se' tr' lev' li' co pa ic nc' pc fo' re' le' gr' lg' rows' gb' lc' rc' cc' pr' al' yf' ys' yt' yl' yi' yo' yp' yn' yk' yq' yw' yz' now' past' stt' := by
  obtain ⟨M, hW, hc, hm, hH, hS⟩ := hQ
  obtain ⟨as', a1, a2⟩ := M_laysAside_eq now aside
  obtain ⟨fo', re', le', gr', lg', rows', gb', lc', rc', cc', pr', al', e1, hS'⟩ := sweepNow_sim hW hc hm hS
  obtain ⟨tb', rb', rm', fm', lm', gm', wh', ck', e2, -, -, -, κ, ⟨φ, lam, gam, hSG, -⟩, -⟩ := hS' now hm tb al2 rb rm fm lm gm wh ck
  obtain ⟨yf', ys', yt', yl', yi', yo', yp', yn', yk', yq', yw', yz', past', stt', k1, k2, k3⟩ := keep_sim hH hW hc (RCm_cong hW a2 hm)
  obtain ⟨M', v, fi', se', tr', lev', li', nc', nwn', now', nb', w1, hv, s1, w2, s2, w3⟩ := settle_sim hW hc hm hSG nwn nb e2
  refine ⟨nI v, fi', se', tr', lev', li', nc', fo', re', le', gr', lg', rows', gb', lc', rc', cc', pr', al', nwn', yf', ys', yt', yl', yi', yo', yp', yn', yk', yq', yw', yz', now', as', past', stt', tb', allR (nn M), rb', rm', fm', lm', gm', wh', ck', nb', ?_, ?_, ⟨M', w1, w2, w3, k3, fun h => absurd h one_ne⟩⟩
  · unfold X_settles; rw [e1, Option.bind_some, k1, Option.bind_some]; dsimp only; rw [s1, Option.bind_some]
  · unfold M_settles M_answers; rw [a1, Option.bind_some, s2, Option.bind_some]; dsimp only; rw [if_neg (nlt0 v (by omega)), k2, Option.bind_some, Option.bind_some]
end PAIRS
