/-! what is told of a sweep -/
section SWN
variable {M : MC} {fi se tr lev li co pa : Nat → Int32} {ic nc pc : Int32} {fo re le gr lg rows gb : Nat → Int32} {lc rc cc pr al : Int32} {yf ys yt yl yi yo yp : Nat → Nat → Int32} {yn yk yq : Nat → Int32} {yw yz : Int32} {now past : Nat → Int32} {stt : Int32} {x0 xb xn xf : Int32} {ref : Nat → Int32} {tb : Nat → Int32} {al2 : Int32} {rb : Nat → Int32} {rm : Int32} {fm lm gm wh : Nat → Int32} {ck : Int32}
theorem sweepNow_sim (hW : WF M) (hc : RCc M fi se tr lev li co pa ic nc pc) (hm : RCm M now) (hS : x0 = 0 → Sw M fo re le gr lg rows gb lc rc cc pr al) : ∃ fo' re' le' gr' lg' rows' gb' lc' rc' cc' pr' al', X_sweepNow x0 fi se tr pa ic nc pc fo re le gr lg rows gb lc rc cc pr al = some (0, fo', re', le', gr', lg', rows', gb', lc', rc', cc', pr', al') ∧ Sw M fo' re' le' gr' lg' rows' gb' lc' rc' cc' pr' al' := by
  by_cases h0 : x0 = 0
  · refine ⟨fo, re, le, gr, lg, rows, gb, lc, rc, cc, pr, al, ?_, hS h0⟩
    unfold X_sweepNow; rw [if_pos h0, h0]
  · obtain ⟨fo', re', le', gr', lg', rows', gb', lc', rc', cc', pr', -, -, -, -, -, -, -, -, e1, -⟩ := sweep_sim hW hc hm fo re le gr lg rows gb lc rc cc pr al now 0 now 0 now now now now 0
    refine ⟨fo', re', le', gr', lg', rows', gb', lc', rc', cc', pr', allR (nn M), ?_, ?_⟩
    · unfold X_sweepNow; rw [if_neg h0, e1, Option.bind_some]
    · intro now2 hm2 tb al2 rb rm fm lm gm wh ck
      obtain ⟨fo2, re2, le2, gr2, lg2, rows2, gb2, lc2, rc2, cc2, pr2, tb', rb', rm', fm', lm', gm', wh', ck', e2, e3, e4⟩ := sweep_sim hW hc hm2 fo re le gr lg rows gb lc rc cc pr al tb al2 rb rm fm lm gm wh ck
      have e5 := e1.symm.trans e2
      simp only [Option.some.injEq, Prod.mk.injEq] at e5
      obtain ⟨rfl, rfl, rfl, rfl, rfl, rfl, rfl, rfl, rfl, rfl, rfl, -⟩ := e5
      exact ⟨tb', rb', rm', fm', lm', gm', wh', ck', e3, e4⟩
theorem merged_loop {n k c : Nat} {φ κ lam gam : Nat → Nat} (h : SG n k φ κ lam gam fo re le gr fm wh lm gm) (hk : k ≤ 48) (e1 : now 1 = nI k) (hc : c < 4) : ∀ (m fuel i : Nat), i + m = k → n < i → m < fuel → ∀ K, M_merged_11 K now wh (nI c) fuel (nI (fb_ct (pc_ n κ c) i)) (nI i) = K (nI (fb_ct (pc_ n κ c) k)) := by
  have e1' : now (Int32.toNatClampNeg 1) = nI k := e1
  intro m
  induction m with
  | zero =>
    intro fuel i hi hn hf K
    obtain ⟨f, rfl⟩ : ∃ f, fuel = f + 1 := ⟨fuel - 1, by omega⟩
    rw [M_merged_11, chk_lit (by decide), e1', if_pos (by rw [n_le (by omega) (by omega)]; omega), show i = k by omega]
  | succ m ih =>
    intro fuel i hi hn hf K
    obtain ⟨f, rfl⟩ : ∃ f, fuel = f + 1 := ⟨fuel - 1, by omega⟩
    obtain ⟨-, -, -, h4, -, h6, -⟩ := h.1 i (by omega)
    rw [← ih f (i + 1) (by omega) (by omega) (by omega) K, M_merged_11, chk_lit (by decide), e1', if_neg (by rw [n_le (by omega) (by omega)]; omega), chk_nI (by omega) (by omega), n_cl (by omega), h4, fb_ct_succ]
    by_cases hcc : κ i = c
    · have : pc_ n κ c i = true := by unfold pc_; rw [decide_eq_true hn, decide_eq_true hcc]; rfl
      rw [if_pos (by rw [hcc]), this, lt_eq, lt_eq, nI_1, nI_1]; rfl
    · have : pc_ n κ c i = false := by unfold pc_; rw [decide_eq_false hcc, Bool.and_false]
      rw [if_neg (by rw [n_eq (by omega) (by omega)]; exact hcc), this, lt_eq, lt_eq, nI_1, L0, n_add]; rfl
theorem merged_eq {n k c : Nat} {φ κ lam gam : Nat → Nat} (h : SG n k φ κ lam gam fo re le gr fm wh lm gm) (hnk : n < k) (hk : k ≤ 48) (e0 : now 0 = nI n) (e1 : now 1 = nI k) (hc : c < 4) : M_merged now wh (nI c) = some (nI (fb_ct (pc_ n κ c) k)) := by
  have e0' : now (Int32.toNatClampNeg 0) = nI n := e0
  have hz : fb_ct (pc_ n κ c) (n + 1) = 0 := fb_ct_zero.mpr (fun j hj => by unfold pc_; rw [decide_eq_false (by omega)]; rfl)
  have := merged_loop h hk e1 hc (k - (n + 1)) 1000 (n + 1) (by omega) (by omega) (by omega) (fun l => some l)
  rw [hz] at this
  unfold M_merged
  rw [chk_lit (by decide), e0', nI_1, lt_eq, L0, this]
theorem ct_sum {n : Nat} (κ : Nat → Nat) : ∀ g, n + 1 ≤ g → fb_ct (pl n κ) g + fb_ct (pc_ n κ 0) g + (n + 1) = g := by
  intro g
  induction g with
  | zero => intro h; omega
  | succ g ih =>
    intro h
    by_cases e : n + 1 ≤ g
    · have := ih e
      rw [fb_ct_succ, fb_ct_succ]
      have hn : n < g := by omega
      by_cases hk : κ g = 0
      · have a : pl n κ g = false := by unfold pl; rw [decide_eq_true hk]; simp
        have b : pc_ n κ 0 g = true := by unfold pc_; rw [decide_eq_true hk, decide_eq_true hn]; rfl
        rw [a, b]; simp only [if_true, Bool.false_eq_true, if_false]; omega
      · have a : pl n κ g = true := by unfold pl; rw [decide_eq_false hk, decide_eq_true hn]; rfl
        have b : pc_ n κ 0 g = false := by unfold pc_; rw [decide_eq_false hk, Bool.and_false]
        rw [a, b]; simp only [if_true, Bool.false_eq_true, if_false]; omega
    · have eg : g = n := by omega
      subst eg
      rw [fb_ct_zero.mpr (fun j hj => by unfold pl; rw [decide_eq_false (by omega)]; rfl), fb_ct_zero.mpr (fun j hj => by unfold pc_; rw [decide_eq_false (by omega)]; rfl)]
      omega
theorem lineAt_loop {n k : Nat} {φ κ lam gam : Nat → Nat} (h : SG n k φ κ lam gam fo re le gr fm wh lm gm) (hk : k ≤ 48) (e1 : now 1 = nI k) (K : Option Int32) (x : Int32) : ∀ (m fuel i : Nat), i + m = k → n < i → m < fuel →
    ((∀ c, fb_ct (pl n κ) i ≤ c → c < fb_ct (pl n κ) k → nI c ≠ x) → M_lineAt_11 K now wh x fuel (nI (fb_ct (pl n κ) i)) (nI i) = K) ∧
    (∀ a, x = nI a → fb_ct (pl n κ) i ≤ a → a < fb_ct (pl n κ) k → ∃ j, j < k ∧ pl n κ j = true ∧ fb_ct (pl n κ) j = a ∧ M_lineAt_11 K now wh x fuel (nI (fb_ct (pl n κ) i)) (nI i) = some (nI j)) := by
  have e1' : now (Int32.toNatClampNeg 1) = nI k := e1
  intro m
  induction m with
  | zero =>
    intro fuel i hi hn hf
    obtain ⟨f, rfl⟩ : ∃ f, fuel = f + 1 := ⟨fuel - 1, by omega⟩
    have ei : i = k := by omega
    subst ei
    refine ⟨fun _ => ?_, fun a _ h1 h2 => by omega⟩
    rw [M_lineAt_11, chk_lit (by decide), e1', if_pos (by rw [n_le (by omega) (by omega)]; omega)]
  | succ m ih =>
    intro fuel i hi hn hf
    obtain ⟨f, rfl⟩ : ∃ f, fuel = f + 1 := ⟨fuel - 1, by omega⟩
    obtain ⟨-, -, -, h4, -, h6, -⟩ := h.1 i (by omega)
    obtain ⟨i1, i2⟩ := ih f (i + 1) (by omega) (by omega) (by omega)
    have hle := fb_ct_le (pl n κ) i
    have st : M_lineAt_11 K now wh x (f + 1) (nI (fb_ct (pl n κ) i)) (nI i) = (if nI (κ i) ≤ 0 then M_lineAt_11 K now wh x f (nI (fb_ct (pl n κ) i)) (nI (i + 1)) else (if nI (fb_ct (pl n κ) i) = x then some (nI i) else M_lineAt_11 K now wh x f (nI (fb_ct (pl n κ) i + 1)) (nI (i + 1)))) := by
      rw [M_lineAt_11, chk_lit (by decide), e1', if_neg (by rw [n_le (by omega) (by omega)]; omega), chk_nI (by omega) (by omega), n_cl (by omega), h4]
      dsimp only [lt_]
      rw [nI_1, nI_1]
    rw [fb_ct_succ] at i1 i2
    by_cases hk0 : κ i = 0
    · have a : pl n κ i = false := by unfold pl; rw [decide_eq_true hk0]; simp
      rw [a] at i1 i2
      simp only [Bool.false_eq_true, if_false, Nat.add_zero] at i1 i2
      rw [st, if_pos (by rw [hk0]; decide)]
      exact ⟨i1, i2⟩
    · have a : pl n κ i = true := by unfold pl; rw [decide_eq_false hk0, decide_eq_true hn]; rfl
      rw [a] at i1 i2
      simp only [if_true] at i1 i2
      have hlt : fb_ct (pl n κ) i < fb_ct (pl n κ) k := by
        have := fb_ct_mono (pl n κ) (show i + 1 ≤ k by omega)
        rw [fb_ct_succ, a] at this
        simp only [if_true] at this
        omega
      rw [st, if_neg (by rw [L0, n_le (by omega) (by omega)]; omega)]
      refine ⟨fun hx => ?_, fun b hb h1 h2 => ?_⟩
      · rw [if_neg (hx _ (Nat.le_refl _) hlt)]
        exact i1 (fun c c1 c2 => hx c (by omega) c2)
      · have hle2 := fb_ct_le (pl n κ) k
        by_cases eb : b = fb_ct (pl n κ) i
        · rw [if_pos (by rw [hb, eb])]
          exact ⟨i, by omega, a, eb.symm, rfl⟩
        · rw [if_neg (by rw [hb, n_eq (by omega) (by omega)]; omega)]
          exact i2 b hb (by omega) h2
theorem lineAt_eq {n k : Nat} {φ κ lam gam : Nat → Nat} (h : SG n k φ κ lam gam fo re le gr fm wh lm gm) (hnk : n < k) (hk : k ≤ 48) (e0 : now 0 = nI n) (e1 : now 1 = nI k) (hL : LN n k κ lg lc gb) {x : Int32} (hx : ¬ x < 0) : (lc ≤ x ∧ M_lineAt now wh x = some (-1)) ∨ (¬ lc ≤ x ∧ ∃ a j, x = nI a ∧ a < 48 ∧ j < k ∧ lg a = nI j ∧ M_lineAt now wh x = some (nI j)) := by
  have e0' : now (Int32.toNatClampNeg 0) = nI n := e0
  have hz : fb_ct (pl n κ) (n + 1) = 0 := fb_ct_zero.mpr (fun j hj => by unfold pl; rw [decide_eq_false (by omega)]; rfl)
  obtain ⟨i1, i2⟩ := lineAt_loop h hk e1 (some (-1)) x (k - (n + 1)) 1000 (n + 1) (by omega) (by omega) (by omega)
  rw [hz] at i1 i2
  have hle2 := fb_ct_le (pl n κ) k
  have un : M_lineAt now wh x = M_lineAt_11 (some (-1)) now wh x 1000 (nI 0) (nI (n + 1)) := by
    unfold M_lineAt
    rw [chk_lit (by decide), e0', nI_1, lt_eq, L0]
  rw [un, hL.1]
  rcases arg3 x (fb_ct (pl n κ) k) (by omega) with h1 | ⟨h1, h2⟩ | ⟨a, ha, rfl⟩
  · exact absurd h1 hx
  · refine Or.inl ⟨h2, i1 (fun c _ c2 e => ?_)⟩
    rw [← e, n_le (by omega) (by omega)] at h2; omega
  · obtain ⟨j, j1, j2, j3, j4⟩ := i2 a rfl (Nat.zero_le a) ha
    refine Or.inr ⟨by rw [n_le (by omega) (by omega)]; omega, a, j, rfl, by omega, j1, ?_, j4⟩
    rw [← j3]; exact hL.2.1 j j1 j2
theorem s_form (hQ : RQ x0 fi se tr lev li co pa ic nc pc fo re le gr lg rows gb lc rc cc pr al yf ys yt yl yi yo yp yn yk yq yw yz now past stt) (hF : RF xb xn xf ref) (x : Int32) :
    ∃ r x0' xb' xn' xf' fo' re' le' gr' lg' rows' gb' lc' rc' cc' pr' al' ref' tb' al2' rb' rm' fm' lm' gm' wh' ck', X_form x0 xb xn xf fi se tr pa ic nc pc fo re le gr lg rows gb lc rc cc pr al x = some (r, x0', xb', xn', xf', fo', re', le', gr', lg', rows', gb', lc', rc', cc', pr', al') ∧ M_form now ref tb al2 rb rm fm lm gm wh ck x = some (r, ref', tb', al2', rb', rm', fm', lm', gm', wh', ck') ∧ RQ x0' fi se tr lev li co pa ic nc pc fo' re' le' gr' lg' rows' gb' lc' rc' cc' pr' al' yf ys yt yl yi yo yp yn yk yq yw yz now past stt ∧ RF xb' xn' xf' ref' := by
  have hQ' := hQ
  obtain ⟨M, hW, hc, hm, hH, hS⟩ := hQ
  have hk48 := hW.2.1.2
  have hk1 := hW.2.1.1
  have enc := hc.2.1
  rcases isNode x (kk M) (by omega) hk48 with ⟨h1, h2⟩ | ⟨j, hj, rfl⟩
  · obtain ⟨xb', xn', xf', ref', b1, b2, b3⟩ := ref_bad hF
    refine ⟨-2, x0, xb', xn', xf', fo, re, le, gr, lg, rows, gb, lc, rc, cc, pr, al, ref', tb, al2, rb, rm, fm, lm, gm, wh, ck, ?_, ?_, hQ', b3⟩
    · unfold X_form; rw [enc, h1, Option.bind_some, if_pos rfl, b1]; rfl
    · unfold M_form; rw [h2 now hm.2.1, Option.bind_some, if_pos rfl, b2]; rfl
  · obtain ⟨fo', re', le', gr', lg', rows', gb', lc', rc', cc', pr', al', e1, hS'⟩ := sweepNow_sim hW hc hm hS
    obtain ⟨tb', rb', rm', fm', lm', gm', wh', ck', e2, -, -, -, κ, ⟨φ, lam, gam, hSG, -⟩, -⟩ := hS' now hm tb al2 rb rm fm lm gm wh ck
    obtain ⟨q1, q2, -⟩ := hSG.1 j hj
    refine ⟨nI (φ j), 0, xb, xn, xf, fo', re', le', gr', lg', rows', gb', lc', rc', cc', pr', al', ref, tb', allR (nn M), rb', rm', fm', lm', gm', wh', ck', ?_, ?_, ⟨M, hW, hc, hm, hH, fun _ => hS'⟩, hF⟩
    · unfold X_form; rw [enc, C_isNode_in hj hk48, Option.bind_some, if_neg one_ne, ← enc, e1, Option.bind_some, chk_nI (by omega) (by omega)]; dsimp only; rw [n_cl (by omega), q1]
    · unfold M_form; rw [M_isNode_in hm.2.1 hj hk48, Option.bind_some, if_neg one_ne, e2, Option.bind_some, chk_nI (by omega) (by omega)]; dsimp only; rw [n_cl (by omega), q2]
theorem s_row (hQ : RQ x0 fi se tr lev li co pa ic nc pc fo re le gr lg rows gb lc rc cc pr al yf ys yt yl yi yo yp yn yk yq yw yz now past stt) (hF : RF xb xn xf ref) (x : Int32) :
    ∃ r x0' xb' xn' xf' fo' re' le' gr' lg' rows' gb' lc' rc' cc' pr' al' ref' tb' al2' rb' rm' fm' lm' gm' wh' ck', X_row x0 xb xn xf fi se tr pa ic nc pc fo re le gr lg rows gb lc rc cc pr al x = some (r, x0', xb', xn', xf', fo', re', le', gr', lg', rows', gb', lc', rc', cc', pr', al') ∧ M_row now ref tb al2 rb rm fm lm gm wh ck x = some (r, ref', tb', al2', rb', rm', fm', lm', gm', wh', ck') ∧ RQ x0' fi se tr lev li co pa ic nc pc fo' re' le' gr' lg' rows' gb' lc' rc' cc' pr' al' yf ys yt yl yi yo yp yn yk yq yw yz now past stt ∧ RF xb' xn' xf' ref' := by
  have hQ' := hQ
  obtain ⟨M, hW, hc, hm, hH, hS⟩ := hQ
  by_cases h0 : 0 ≤ x
  · obtain ⟨fo', re', le', gr', lg', rows', gb', lc', rc', cc', pr', al', e1, hS'⟩ := sweepNow_sim hW hc hm hS
    obtain ⟨tb', rb', rm', fm', lm', gm', wh', ck', e2, -, -, -, κ, -, ⟨m, ρ, hR⟩, -⟩ := hS' now hm tb al2 rb rm fm lm gm wh ck
    obtain ⟨r1, r2, r3, r4, -⟩ := hR
    by_cases hle : nI m ≤ x
    · refine ⟨-1, 0, xb, xn, xf, fo', re', le', gr', lg', rows', gb', lc', rc', cc', pr', al', ref, tb', allR (nn M), rb', rm', fm', lm', gm', wh', ck', ?_, ?_, ⟨M, hW, hc, hm, hH, fun _ => hS'⟩, hF⟩
      · unfold X_row; rw [if_pos h0, e1, Option.bind_some]; dsimp only; rw [r2, if_pos hle]
      · unfold M_row; rw [if_pos h0, e2, Option.bind_some]; dsimp only; rw [r3, if_pos hle]
    · rcases arg3 x m (by omega) with h | ⟨h, h'⟩ | ⟨j, hj, rfl⟩
      · exact absurd h0 (by rw [Int32.not_le]; exact h)
      · exact absurd h' hle
      · obtain ⟨q1, q2, -⟩ := r4 j hj
        refine ⟨nI (ρ j), 0, xb, xn, xf, fo', re', le', gr', lg', rows', gb', lc', rc', cc', pr', al', ref, tb', allR (nn M), rb', rm', fm', lm', gm', wh', ck', ?_, ?_, ⟨M, hW, hc, hm, hH, fun _ => hS'⟩, hF⟩
        · unfold X_row; rw [if_pos h0, e1, Option.bind_some]; dsimp only; rw [r2, if_neg hle, chk_nI (by omega) (by omega), n_cl (by omega), q1]
        · unfold M_row; rw [if_pos h0, e2, Option.bind_some]; dsimp only; rw [r3, if_neg hle, chk_nI (by omega) (by omega), n_cl (by omega), q2]
  · obtain ⟨xb', xn', xf', ref', b1, b2, b3⟩ := ref_bad hF
    refine ⟨-2, x0, xb', xn', xf', fo, re, le, gr, lg, rows, gb, lc, rc, cc, pr, al, ref', tb, al2, rb, rm, fm, lm, gm, wh, ck, ?_, ?_, hQ', b3⟩
    · unfold X_row; rw [if_neg h0, b1]; rfl
    · unfold M_row; rw [if_neg h0, b2]; rfl
theorem tally_eq {n k : Nat} {φ κ lam gam : Nat → Nat} (h : SG n k φ κ lam gam fo re le gr fm wh lm gm) (hnk : n < k) (hk : k ≤ 48) (e0 : now 0 = nI n) (e1 : now 1 = nI k) (hL : LN n k κ lg lc gb) (hrc : rc = rm) (hck : cc = ck) {x : Nat} (hx : x < 6) : ∃ r, W_tallyOf gb rc cc (nI x) = some r ∧ M_sweptOf now rm wh ck (nI x) = some r := by
  subst hrc hck
  by_cases h4 : x < 4
  · refine ⟨nI (fb_ct (pc_ n κ x) k), ?_, ?_⟩
    · unfold W_tallyOf
      rw [if_neg (by rw [L4, n_eq (by omega) (by omega)]; omega), if_neg (by rw [L5, n_eq (by omega) (by omega)]; omega), chk_nI h4 (by omega), n_cl (by omega), hL.2.2 x h4]
    · unfold M_sweptOf
      rw [if_neg (by rw [L4, n_le (by omega) (by omega)]; omega), merged_eq h hnk hk e0 e1 h4, Option.bind_some]
  · rcases (show x = 4 ∨ x = 5 by omega) with rfl | rfl
    · exact ⟨cc, rfl, rfl⟩
    · exact ⟨rc, rfl, rfl⟩
theorem within5 (x : Int32) : (M_within x 0 5 = some 0 ∧ (x < 0 ∨ (¬ x < 0 ∧ ¬ x ≤ 5))) ∨ (M_within x 0 5 = some 1 ∧ ¬ x < 0 ∧ x ≤ 5 ∧ ∃ j, j < 6 ∧ x = nI j) := by
  rcases arg3 x 6 (by omega) with h | ⟨h, h'⟩ | ⟨j, hj, rfl⟩
  · exact Or.inl ⟨within_lo h, Or.inl h⟩
  · have h4 : (5 : Int32) < x := (le_pred (a := 6) (by omega) (by omega)).mp h'
    exact Or.inl ⟨within_hi h4, Or.inr ⟨h, by rw [Int32.not_le]; exact h4⟩⟩
  · refine Or.inr ⟨within_in (nlt0 j (by omega)) (by rw [L5, n_lt (by omega) (by omega)]; omega), nlt0 j (by omega), by rw [L5, n_le (by omega) (by omega)]; omega, j, hj, rfl⟩
theorem s_swept (hQ : RQ x0 fi se tr lev li co pa ic nc pc fo re le gr lg rows gb lc rc cc pr al yf ys yt yl yi yo yp yn yk yq yw yz now past stt) (hF : RF xb xn xf ref) (x : Int32) :
    ∃ r x0' xb' xn' xf' fo' re' le' gr' lg' rows' gb' lc' rc' cc' pr' al' ref' tb' al2' rb' rm' fm' lm' gm' wh' ck', X_swept x0 xb xn xf fi se tr pa ic nc pc fo re le gr lg rows gb lc rc cc pr al x = some (r, x0', xb', xn', xf', fo', re', le', gr', lg', rows', gb', lc', rc', cc', pr', al') ∧ M_swept now ref tb al2 rb rm fm lm gm wh ck x = some (r, ref', tb', al2', rb', rm', fm', lm', gm', wh', ck') ∧ RQ x0' fi se tr lev li co pa ic nc pc fo' re' le' gr' lg' rows' gb' lc' rc' cc' pr' al' yf ys yt yl yi yo yp yn yk yq yw yz now past stt ∧ RF xb' xn' xf' ref' := by
  have hQ' := hQ
  obtain ⟨M, hW, hc, hm, hH, hS⟩ := hQ
  rcases within5 x with ⟨h, h'⟩ | ⟨h, n1, n2, j, hj, rfl⟩
  · obtain ⟨xb', xn', xf', ref', b1, b2, b3⟩ := ref_bad hF
    refine ⟨-2, x0, xb', xn', xf', fo, re, le, gr, lg, rows, gb, lc, rc, cc, pr, al, ref', tb, al2, rb, rm, fm, lm, gm, wh, ck, ?_, ?_, hQ', b3⟩
    · unfold X_swept
      rcases h' with h' | ⟨h', h2⟩
      · rw [if_pos h', b1]; rfl
      · rw [if_neg h', if_neg h2, b1]; rfl
    · unfold M_swept; rw [h, Option.bind_some, if_pos rfl, b2]; rfl
  · obtain ⟨fo', re', le', gr', lg', rows', gb', lc', rc', cc', pr', al', e1, hS'⟩ := sweepNow_sim hW hc hm hS
    obtain ⟨tb', rb', rm', fm', lm', gm', wh', ck', e2, -, -, -, κ, ⟨φ, lam, gam, hSG, -⟩, ⟨m, ρ, hR⟩, hL, hcc⟩ := hS' now hm tb al2 rb rm fm lm gm wh ck
    obtain ⟨r, t1, t2⟩ := tally_eq hSG hW.2.1.1 hW.2.1.2 hm.1 hm.2.1 hL (hR.2.1.trans hR.2.2.1.symm) hcc hj
    refine ⟨r, 0, xb, xn, xf, fo', re', le', gr', lg', rows', gb', lc', rc', cc', pr', al', ref, tb', allR (nn M), rb', rm', fm', lm', gm', wh', ck', ?_, ?_, ⟨M, hW, hc, hm, hH, fun _ => hS'⟩, hF⟩
    · unfold X_swept; rw [if_neg n1, if_pos n2, e1, Option.bind_some]; dsimp only; rw [t1, Option.bind_some]
    · unfold M_swept; rw [h, Option.bind_some, if_neg one_ne, e2, Option.bind_some]; dsimp only; rw [t2, Option.bind_some]
end SWN
