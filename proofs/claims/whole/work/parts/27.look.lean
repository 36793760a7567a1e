/-! checks -/
theorem one_ne : ¬ (1 : Int32) = 0 := by decide
theorem allR_bt {n : Nat} (h1 : 1 ≤ n) (h5 : n ≤ 5) : ∀ r, r < 32 → bt (allR n) r = decide (r < 2 ^ n) := by
  rcases (show n = 1 ∨ n = 2 ∨ n = 3 ∨ n = 4 ∨ n = 5 by omega) with rfl | rfl | rfl | rfl | rfl <;> decide +kernel
theorem mask_and {n : Nat} (h1 : 1 ≤ n) (h5 : n ≤ 5) (x : Int32) : ∀ r, r < 32 → bt (x &&& allR n) r = true → r < 2 ^ n := by
  intro r hr h
  rw [b_and, allR_bt h1 h5 r hr, Bool.and_eq_true, decide_eq_true_iff] at h
  exact h.2
theorem mask_eq {n : Nat} (h1 : 1 ≤ n) (h5 : n ≤ 5) {x : Int32} (h : ∀ r, r < 32 → bt x r = true → r < 2 ^ n) : x &&& allR n = x := by
  apply b_ext
  intro r hr
  rw [b_and, allR_bt h1 h5 r hr]
  cases hb : bt x r with
  | false => rfl
  | true => rw [decide_eq_true (h r hr hb)]; rfl
theorem IsT_mask {M : MC} (hW : WF M) {t : Nat → Int32} (ht : IsT M t) : ∀ j, j < kk M → ∀ r, r < 32 → bt (t j) r = true → r < 2 ^ nn M := by
  obtain ⟨hn1, hn5⟩ := hW.1
  intro j
  induction j using Nat.strongRecOn with
  | _ j ih =>
    intro hj r hr hb
    by_cases h0 : j = 0
    · rw [h0, ht.1, b_0] at hb; cases hb
    · by_cases hn : j ≤ nn M
      · rw [ht.2.1 j (by omega) hn] at hb; exact mask_and hn1 hn5 _ r hr hb
      · have h3 := hW.2.2.1 j (by omega) hj
        rw [ht.2.2 j (by omega) hj, b_and, Bool.and_eq_true] at hb
        have h4 := hb.1
        unfold litT at h4
        by_cases he : ff M j % 2 = 0
        · rw [if_pos he] at h4; exact ih _ (by omega) (by omega) r hr h4
        · rw [if_neg he] at h4; exact mask_and hn1 hn5 _ r hr h4
theorem xor_mask {n : Nat} {x y : Int32} (hx : ∀ r, r < 32 → bt x r = true → r < 2 ^ n) (hy : ∀ r, r < 32 → bt y r = true → r < 2 ^ n) : ∀ r, r < 32 → bt (x ^^^ y) r = true → r < 2 ^ n := by
  intro r hr h
  rw [b_xor] at h
  cases h1 : bt x r with
  | true => exact hx r hr h1
  | false => rw [h1, Bool.false_xor] at h; exact hy r hr h
/-- two tables that differ, turned or not -/
def DF (n : Nat) (x y : Int32) : Prop := ¬ x ^^^ y = 0 ∧ ¬ ((x ^^^ y) ^^^ (-1)) &&& allR n = 0
theorem RR_full {n m : Nat} {ρ : Nat → Nat} {rows : Nat → Int32} {rc pr : Int32} {rb : Nat → Int32} {rm : Int32} (h : RR n m ρ rows rc pr rb rm) (hn1 : 1 ≤ n) (hn5 : n ≤ 5) {d : Int32} (hu : (d ^^^ (-1)) &&& allR n = 0) : d &&& pr = pr := by
  apply b_ext
  intro r hr
  rw [b_and]
  cases hb : bt pr r with
  | false => rw [Bool.and_false]
  | true =>
    obtain ⟨i, hi, e⟩ := (h.2.2.2.2 r hr).mp hb
    have h2 := (h.2.2.2.1 i hi).2.2
    have h3 : bt ((d ^^^ (-1)) &&& allR n) r = false := by rw [hu]; exact b_0 r
    rw [b_and, b_xor, b_m1 r hr, allR_bt hn1 hn5 r hr, decide_eq_true (by omega)] at h3
    cases hd : bt d r with
    | true => rfl
    | false => rw [hd] at h3; cases h3
theorem eq_of_xor {x y : Int32} (h : x ^^^ y = 0) : x = y := by
  apply b_ext
  intro r hr
  have h1 : bt (x ^^^ y) r = false := by rw [h]; exact b_0 r
  rw [b_xor] at h1
  cases hx : bt x r <;> cases hy : bt y r <;> rw [hx, hy] at h1 <;> first | rfl | cases h1
theorem not_of_xor {n : Nat} (hn1 : 1 ≤ n) (hn5 : n ≤ 5) {x y : Int32} (hx : ∀ r, r < 32 → bt x r = true → r < 2 ^ n) (hu : ((x ^^^ y) ^^^ (-1)) &&& allR n = 0) : x = (y ^^^ (-1)) &&& allR n := by
  apply b_ext
  intro r hr
  have h1 : bt (((x ^^^ y) ^^^ (-1)) &&& allR n) r = false := by rw [hu]; exact b_0 r
  rw [b_and, b_xor, b_xor, b_m1 r hr, allR_bt hn1 hn5 r hr] at h1
  rw [b_and, b_xor, b_m1 r hr, allR_bt hn1 hn5 r hr]
  by_cases hr2 : r < 2 ^ n
  · rw [decide_eq_true hr2] at h1 ⊢
    cases hx : bt x r <;> cases hy : bt y r <;> rw [hx, hy] at h1 <;> first | rfl | cases h1
  · rw [decide_eq_false hr2]
    cases hb : bt x r with
    | false => rw [Bool.and_false]
    | true => exact absurd (hx r hr hb) hr2
section LOOK
variable {rows rb : Nat → Int32} {rc pr rm cc : Int32} {tb fo wh : Nat → Int32} {n g v : Nat}
theorem W_check_yes : W_checkHolds rows rc cc pr 0 = some (1, rows, rc, cc + 1, pr) := by unfold W_checkHolds; dsimp only [lt_]; rw [if_pos rfl]
theorem W_check_no {u : Int32} {rows' : Nat → Int32} {rc' pr' : Int32} (hu : ¬ u = 0) (e : Option.bind (X_leastRow u) (fun o3 => W_addRow rows rc pr o3) = some (rows', rc', pr')) : W_checkHolds rows rc cc pr u = some (0, rows', rc', cc + 1, pr') := by
  unfold W_checkHolds
  dsimp only [lt_]
  rw [if_neg hu]
  cases hx : X_leastRow u with
  | none => rw [hx] at e; cases e
  | some r =>
    rw [hx, Option.bind_some] at e
    rw [Option.bind_some, e]; rfl
theorem M_merges_eq {x c : Int32} (hg : g < 48) : M_merges fo wh (nI g) x c = some (upd fo g x, upd wh g c) := by
  unfold M_merges
  dsimp only [lt_]
  rw [chk_nI hg (by omega), chk_nI hg (by omega), n_cl (by omega)]
theorem M_chk0_yes (hg : g < 48) (hv : v < g) {al : Int32} (h0 : (tb g ^^^ tb v) &&& al = 0) : M_checks tb al rb rm fo wh cc (nI g) (nI v) 0 = some (1, rb, rm, upd fo g (nI (2 * v)), upd wh g 3, cc + 1) := by
  unfold M_checks
  dsimp only [lt_]
  rw [if_pos rfl, chk_nI hg (by omega), chk_nI (by omega) (by omega), n_cl (by omega), n_cl (by omega), if_pos h0, M_merges_eq hg, L2, n_mul]; rfl
theorem M_chk0_no (hg : g < 48) (hv : v < g) {al : Int32} (h0 : ¬ (tb g ^^^ tb v) &&& al = 0) {rb' : Nat → Int32} {rm' : Int32} (e : M_comes rb rm ((tb g ^^^ tb v) &&& al) = some (rb', rm')) : M_checks tb al rb rm fo wh cc (nI g) (nI v) 0 = some (0, rb', rm', fo, wh, cc + 1) := by
  unfold M_checks
  dsimp only [lt_]
  rw [if_pos rfl, chk_nI hg (by omega), chk_nI (by omega) (by omega), n_cl (by omega), n_cl (by omega), if_neg h0, e]; rfl
theorem M_chk1_yes (hg : g < 48) (hv : v < g) {al : Int32} (h0 : ((tb g ^^^ tb v) ^^^ (-1)) &&& al = 0) : M_checks tb al rb rm fo wh cc (nI g) (nI v) 1 = some (1, rb, rm, upd fo g (nI (2 * v + 1)), upd wh g 3, cc + 1) := by
  unfold M_checks
  dsimp only [lt_]
  rw [if_neg (by decide), chk_nI hg (by omega), chk_nI (by omega) (by omega), n_cl (by omega), n_cl (by omega), if_pos h0, M_merges_eq hg, L2, n_mul, nI_1]; rfl
theorem M_chk1_no (hg : g < 48) (hv : v < g) {al : Int32} (h0 : ¬ ((tb g ^^^ tb v) ^^^ (-1)) &&& al = 0) {rb' : Nat → Int32} {rm' : Int32} (e : M_comes rb rm (((tb g ^^^ tb v) ^^^ (-1)) &&& al) = some (rb', rm')) : M_checks tb al rb rm fo wh cc (nI g) (nI v) 1 = some (0, rb', rm', fo, wh, cc + 1) := by
  unfold M_checks
  dsimp only [lt_]
  rw [if_neg (by decide), chk_nI hg (by omega), chk_nI (by omega) (by omega), n_cl (by omega), n_cl (by omega), if_neg h0, e]; rfl
theorem M_other_eq {m : Nat} {ρ : Nat → Nat} (h : RR n m ρ rows rc pr rb rm) (hn1 : 1 ≤ n) (hn5 : n ≤ 5) (hg : g < 48) (hv : v < g) : M_otherwise tb rb rm (nI g) (nI v) = some (nI (bv (fun i => bt (tb g ^^^ tb v) (ρ i)) m)) := by
  have hp := pow_n hn1 hn5
  have h12 := h.1
  unfold M_otherwise
  rw [chk_nI hg (by omega), chk_nI (by omega) (by omega), n_cl (by omega), n_cl (by omega), h.2.2.1, L0, M_bitsOf_eq (ρ := ρ) h.1 (by omega) (by omega) (fun i hi => ⟨by rw [Nat.zero_add]; exact (h.2.2.2.1 i hi).2.1, by have := (h.2.2.2.1 i hi).2.2; omega⟩)]; rfl
/-- one kept node is looked at, by both -/
theorem look_sim {tr re : Nat → Int32} {m : Nat} {ρ : Nat → Nat} (h : RR n m ρ rows rc pr rb rm) (hn1 : 1 ≤ n) (hn5 : n ≤ 5) (hg : g < 48) (hv : v < g) (htg : tb g = tr g) (htv : tb v = tr v) (hd : ∀ r, r < 32 → bt (tr g ^^^ tr v) r = true → r < 2 ^ n) (hre : re v = 0) :
    ∃ m' ρ' rows' rc' cc' pr' rb' rm', RR n m' ρ' rows' rc' pr' rb' rm' ∧
      ((DF n (tr g) (tr v) ∧ M_looksAt tb (allR n) rb rm fo wh cc (nI g) (nI v) = some (0, rb', rm', fo, wh, cc') ∧ ∀ K fuel, W_formByChecks_2 K tr re (allR n) (nI g) (fuel + 1) (nI v) rows rc cc pr = W_formByChecks_2 K tr re (allR n) (nI g) fuel (nI (v + 1)) rows' rc' cc' pr') ∨
       (tr g ^^^ tr v = 0 ∧ M_looksAt tb (allR n) rb rm fo wh cc (nI g) (nI v) = some (1, rb', rm', upd fo g (nI (2 * v)), upd wh g 3, cc') ∧ ∀ K fuel, W_formByChecks_2 K tr re (allR n) (nI g) (fuel + 1) (nI v) rows rc cc pr = some (nI (2 * v), rows', rc', cc', pr')) ∨
       (((tr g ^^^ tr v) ^^^ (-1)) &&& allR n = 0 ∧ M_looksAt tb (allR n) rb rm fo wh cc (nI g) (nI v) = some (1, rb', rm', upd fo g (nI (2 * v + 1)), upd wh g 3, cc') ∧ ∀ K fuel, W_formByChecks_2 K tr re (allR n) (nI g) (fuel + 1) (nI v) rows rc cc pr = K (nI v) rows' rc' cc' pr')) := by
  have hdm : (tr g ^^^ tr v) &&& allR n = tr g ^^^ tr v := mask_eq hn1 hn5 hd
  have hum := mask_and hn1 hn5 ((tr g ^^^ tr v) ^^^ (-1))
  have hot : M_otherwise tb rb rm (nI g) (nI v) = some (nI (bv (fun i => bt (tr g ^^^ tr v) (ρ i)) m)) := by rw [M_other_eq h hn1 hn5 hg hv, htg, htv]
  have hrz := RR_zero h hn1 hn5 (tr g ^^^ tr v)
  have hro := RR_ones h hn1 hn5 (tr g ^^^ tr v)
  have hre' : re (Int32.toNatClampNeg (nI v)) = 0 := by rw [n_cl (by omega)]; exact hre
  -- the class's step, up to the patterns
  have start : ∀ K fuel, W_formByChecks_2 K tr re (allR n) (nI g) (fuel + 1) (nI v) rows rc cc pr = (if ((tr g ^^^ tr v) &&& pr) = 0 then (Option.bind (W_checkHolds rows rc cc pr (tr g ^^^ tr v)) (fun o19 => if o19.1 = 0 then (if ((tr g ^^^ tr v) &&& o19.2.2.2.2) = o19.2.2.2.2 then (Option.bind (W_checkHolds o19.2.1 o19.2.2.1 o19.2.2.2.1 o19.2.2.2.2 (((tr g ^^^ tr v) ^^^ (-1)) &&& allR n)) (fun o29 => if o29.1 = 0 then (W_formByChecks_2 K tr re (allR n) (nI g) fuel (nI (v + 1)) o29.2.1 o29.2.2.1 o29.2.2.2.1 o29.2.2.2.2) else (K (nI v) o29.2.1 o29.2.2.1 o29.2.2.2.1 o29.2.2.2.2))) else (W_formByChecks_2 K tr re (allR n) (nI g) fuel (nI (v + 1)) o19.2.1 o19.2.2.1 o19.2.2.2.1 o19.2.2.2.2)) else (some ((2 : Int32) * nI v, o19.2.1, o19.2.2.1, o19.2.2.2.1, o19.2.2.2.2)))) else (if ((tr g ^^^ tr v) &&& pr) = pr then (Option.bind (W_checkHolds rows rc cc pr (((tr g ^^^ tr v) ^^^ (-1)) &&& allR n)) (fun o10 => if o10.1 = 0 then (W_formByChecks_2 K tr re (allR n) (nI g) fuel (nI (v + 1)) o10.2.1 o10.2.2.1 o10.2.2.2.1 o10.2.2.2.2) else (K (nI v) o10.2.1 o10.2.2.1 o10.2.2.2.1 o10.2.2.2.2))) else (W_formByChecks_2 K tr re (allR n) (nI g) fuel (nI (v + 1)) rows rc cc pr))) := by
    intro K fuel
    rw [W_formByChecks_2, if_neg (by rw [n_le (by omega) (by omega)]; omega), chk_nI (by omega) (by omega), hre', if_pos rfl, chk_nI hg (by omega), chk_nI (by omega) (by omega), n_cl (by omega), n_cl (by omega)]
    dsimp only [lt_]
    rw [nI_1]
  by_cases hz : (tr g ^^^ tr v) &&& pr = 0
  · have hb0 := hrz.mp hz
    by_cases hd0 : tr g ^^^ tr v = 0
    · refine ⟨m, ρ, rows, rc, cc + 1, pr, rb, rm, h, Or.inr (Or.inl ⟨hd0, ?_, fun K fuel => ?_⟩)⟩
      · unfold M_looksAt
        rw [hot, Option.bind_some, if_pos hb0, M_chk0_yes hg hv (by rw [htg, htv, hd0]; exact Int32.zero_and), Option.bind_some, if_neg one_ne]
      · rw [start, if_pos hz, hd0, W_check_yes, Option.bind_some, if_neg one_ne, L2, n_mul]
    · obtain ⟨m1, ρ1, rows1, rc1, pr1, rb1, rm1, e1, e2, h1⟩ := come_sim h hn1 hn5 hd0 hd
      have c1 : W_checkHolds rows rc cc pr (tr g ^^^ tr v) = some (0, rows1, rc1, cc + 1, pr1) := W_check_no hd0 e1
      have k1 : M_checks tb (allR n) rb rm fo wh cc (nI g) (nI v) 0 = some (0, rb1, rm1, fo, wh, cc + 1) := M_chk0_no hg hv (by rw [htg, htv, hdm]; exact hd0) (by rw [htg, htv, hdm]; exact e2)
      have hot1 : M_otherwise tb rb1 rm1 (nI g) (nI v) = some (nI (bv (fun i => bt (tr g ^^^ tr v) (ρ1 i)) m1)) := by rw [M_other_eq h1 hn1 hn5 hg hv, htg, htv]
      have hro1 := RR_ones h1 hn1 hn5 (tr g ^^^ tr v)
      by_cases ho : (tr g ^^^ tr v) &&& pr1 = pr1
      · by_cases hu : ((tr g ^^^ tr v) ^^^ (-1)) &&& allR n = 0
        · refine ⟨m1, ρ1, rows1, rc1, cc + 1 + 1, pr1, rb1, rm1, h1, Or.inr (Or.inr ⟨hu, ?_, fun K fuel => ?_⟩)⟩
          · unfold M_looksAt
            rw [hot, Option.bind_some, if_pos hb0, k1, Option.bind_some, if_pos rfl]
            dsimp only
            rw [hot1, Option.bind_some, if_pos (hro1.mp ho), M_chk1_yes hg hv (by rw [htg, htv]; exact hu), Option.bind_some, if_neg one_ne]
          · rw [start, if_pos hz, c1, Option.bind_some, if_pos rfl]
            dsimp only
            rw [if_pos ho, hu, W_check_yes, Option.bind_some, if_neg one_ne]
        · obtain ⟨m2, ρ2, rows2, rc2, pr2, rb2, rm2, e3, e4, h2⟩ := come_sim h1 hn1 hn5 hu hum
          refine ⟨m2, ρ2, rows2, rc2, cc + 1 + 1, pr2, rb2, rm2, h2, Or.inl ⟨⟨hd0, hu⟩, ?_, fun K fuel => ?_⟩⟩
          · unfold M_looksAt
            rw [hot, Option.bind_some, if_pos hb0, k1, Option.bind_some, if_pos rfl]
            dsimp only
            rw [hot1, Option.bind_some, if_pos (hro1.mp ho), M_chk1_no hg hv (by rw [htg, htv]; exact hu) (by rw [htg, htv]; exact e4), Option.bind_some, if_pos rfl]
          · rw [start, if_pos hz, c1, Option.bind_some, if_pos rfl]
            dsimp only
            rw [if_pos ho, W_check_no hu e3, Option.bind_some, if_pos rfl]
      · refine ⟨m1, ρ1, rows1, rc1, cc + 1, pr1, rb1, rm1, h1, Or.inl ⟨⟨hd0, fun hu => ho (RR_full h1 hn1 hn5 hu)⟩, ?_, fun K fuel => ?_⟩⟩
        · unfold M_looksAt
          rw [hot, Option.bind_some, if_pos hb0, k1, Option.bind_some, if_pos rfl]
          dsimp only
          rw [hot1, Option.bind_some, if_neg (fun hh => ho (hro1.mpr hh))]
        · rw [start, if_pos hz, c1, Option.bind_some, if_pos rfl]
          dsimp only
          rw [if_neg ho]
  · have hb0 : ¬ nI (bv (fun i => bt (tr g ^^^ tr v) (ρ i)) m) = 0 := fun hh => hz (hrz.mpr hh)
    by_cases ho : (tr g ^^^ tr v) &&& pr = pr
    · by_cases hu : ((tr g ^^^ tr v) ^^^ (-1)) &&& allR n = 0
      · refine ⟨m, ρ, rows, rc, cc + 1, pr, rb, rm, h, Or.inr (Or.inr ⟨hu, ?_, fun K fuel => ?_⟩)⟩
        · unfold M_looksAt
          rw [hot, Option.bind_some, if_neg hb0, if_pos (hro.mp ho), M_chk1_yes hg hv (by rw [htg, htv]; exact hu), Option.bind_some, if_neg one_ne]
        · rw [start, if_neg hz, if_pos ho, hu, W_check_yes, Option.bind_some, if_neg one_ne]
      · obtain ⟨m2, ρ2, rows2, rc2, pr2, rb2, rm2, e3, e4, h2⟩ := come_sim h hn1 hn5 hu hum
        refine ⟨m2, ρ2, rows2, rc2, cc + 1, pr2, rb2, rm2, h2, Or.inl ⟨⟨fun e => hz (by rw [e]; exact Int32.zero_and), hu⟩, ?_, fun K fuel => ?_⟩⟩
        · unfold M_looksAt
          rw [hot, Option.bind_some, if_neg hb0, if_pos (hro.mp ho), M_chk1_no hg hv (by rw [htg, htv]; exact hu) (by rw [htg, htv]; exact e4), Option.bind_some, if_pos rfl]
        · rw [start, if_neg hz, if_pos ho, W_check_no hu e3, Option.bind_some, if_pos rfl]
    · refine ⟨m, ρ, rows, rc, cc, pr, rb, rm, h, Or.inl ⟨⟨fun e => hz (by rw [e]; exact Int32.zero_and), fun hu => ho (RR_full h hn1 hn5 hu)⟩, ?_, fun K fuel => ?_⟩⟩
      · unfold M_looksAt
        rw [hot, Option.bind_some, if_neg hb0, if_neg (fun hh => ho (hro.mpr hh))]
      · rw [start, if_neg hz, if_neg ho]
/-- all kept nodes ahead are looked at, by both -/
theorem looks_sim {tr re : Nat → Int32} (hn1 : 1 ≤ n) (hn5 : n ≤ 5) (hg : g < 48) (ht : ∀ j, j ≤ g → tb j = tr j) (hd : ∀ j, j ≤ g → ∀ r, r < 32 → bt (tr j) r = true → r < 2 ^ n) (hwr : ∀ j, j < g → wh j = re j) {le gr : Nat → Int32} {x y : Int32} {K' : (Nat → Int32) → Int32 → (Nat → Int32) → (Nat → Int32) → Int32 → Option ((Nat → Int32) × Int32 × (Nat → Int32) × (Nat → Int32) × (Nat → Int32) × (Nat → Int32) × Int32)} : ∀ (k v fu1 fu2 m : Nat) (ρ : Nat → Nat) (rows : Nat → Int32) (rc cc pr : Int32) (rb : Nat → Int32) (rm : Int32), v + k = g → k < fu1 → k < fu2 → RR n m ρ rows rc pr rb rm →
    ∃ m' ρ' rows' rc' cc' pr' rb' rm', RR n m' ρ' rows' rc' pr' rb' rm' ∧
      (((∀ j, v ≤ j → j < g → re j = 0 → DF n (tr g) (tr j)) ∧ W_formByChecks_2 (fun l3_39 w_rows_40 w_rowCount_41 w_checkCount_42 w_patternRows_43 => some (((2 : Int32) * l3_39) + 1, w_rows_40, w_rowCount_41, w_checkCount_42, w_patternRows_43)) tr re (allR n) (nI g) fu1 (nI v) rows rc cc pr = some (-1, rows', rc', cc', pr') ∧ M_sweepsGate_79 K' tb (allR n) le gr (nI g) x y fu2 (nI v) rb rm fo wh cc = K' rb' rm' fo wh cc') ∨
       ∃ f, f < 2 * g ∧ re (f / 2) = 0 ∧ tr g = litT n tr f ∧ W_formByChecks_2 (fun l3_39 w_rows_40 w_rowCount_41 w_checkCount_42 w_patternRows_43 => some (((2 : Int32) * l3_39) + 1, w_rows_40, w_rowCount_41, w_checkCount_42, w_patternRows_43)) tr re (allR n) (nI g) fu1 (nI v) rows rc cc pr = some (nI f, rows', rc', cc', pr') ∧ M_sweepsGate_79 K' tb (allR n) le gr (nI g) x y fu2 (nI v) rb rm fo wh cc = some (rb', rm', upd fo g (nI f), le, gr, upd wh g 3, cc')) := by
  intro k
  induction k with
  | zero =>
    intro v fu1 fu2 m ρ rows rc cc pr rb rm hv hf1 hf2 h
    obtain ⟨f1, rfl⟩ : ∃ f, fu1 = f + 1 := ⟨fu1 - 1, by omega⟩
    obtain ⟨f2, rfl⟩ : ∃ f, fu2 = f + 1 := ⟨fu2 - 1, by omega⟩
    refine ⟨m, ρ, rows, rc, cc, pr, rb, rm, h, Or.inl ⟨fun j h1 h2 => by omega, ?_, ?_⟩⟩
    · rw [W_formByChecks_2, if_pos (by rw [n_le (by omega) (by omega)]; omega)]
    · rw [M_sweepsGate_79, if_pos (by rw [n_le (by omega) (by omega)]; omega)]
  | succ k ih =>
    intro v fu1 fu2 m ρ rows rc cc pr rb rm hv hf1 hf2 h
    obtain ⟨f1, rfl⟩ : ∃ f, fu1 = f + 1 := ⟨fu1 - 1, by omega⟩
    obtain ⟨f2, rfl⟩ : ∃ f, fu2 = f + 1 := ⟨fu2 - 1, by omega⟩
    have hwv : wh (Int32.toNatClampNeg (nI v)) = re v := by rw [n_cl (by omega)]; exact hwr v (by omega)
    have hrv : re (Int32.toNatClampNeg (nI v)) = re v := by rw [n_cl (by omega)]
    by_cases hre : re v = 0
    · obtain ⟨m1, ρ1, rows1, rc1, cc1, pr1, rb1, rm1, h1, hcase⟩ := look_sim (fo := fo) (wh := wh) (cc := cc) (tb := tb) (tr := tr) (re := re) h hn1 hn5 hg (show v < g by omega) (ht g (Nat.le_refl g)) (ht v (by omega)) (xor_mask (hd g (Nat.le_refl g)) (hd v (by omega))) hre
      have mstart : M_sweepsGate_79 K' tb (allR n) le gr (nI g) x y (f2 + 1) (nI v) rb rm fo wh cc = Option.bind (M_looksAt tb (allR n) rb rm fo wh cc (nI g) (nI v)) (fun o5 => if o5.1 = 0 then (M_sweepsGate_79 K' tb (allR n) le gr (nI g) x y f2 (nI (v + 1)) o5.2.1 o5.2.2.1 o5.2.2.2.1 o5.2.2.2.2.1 o5.2.2.2.2.2) else (some (o5.2.1, o5.2.2.1, o5.2.2.2.1, le, gr, o5.2.2.2.2.1, o5.2.2.2.2.2))) := by
        rw [M_sweepsGate_79, if_neg (by rw [n_le (by omega) (by omega)]; omega), chk_nI (by omega) (by omega), hwv, if_pos hre]
        dsimp only [lt_]
        rw [nI_1]
      rcases hcase with ⟨a0, a1, a2⟩ | ⟨a0, a1, a2⟩ | ⟨a0, a1, a2⟩
      · obtain ⟨m2, ρ2, rows2, rc2, cc2, pr2, rb2, rm2, h2, hc2⟩ := ih (v + 1) f1 f2 m1 ρ1 rows1 rc1 cc1 pr1 rb1 rm1 (by omega) (by omega) (by omega) h1
        refine ⟨m2, ρ2, rows2, rc2, cc2, pr2, rb2, rm2, h2, ?_⟩
        rw [a2, mstart, a1, Option.bind_some, if_pos rfl]
        rcases hc2 with ⟨d0, d1, d2⟩ | hc2
        · refine Or.inl ⟨fun j h1 h2 h3 => ?_, d1, d2⟩
          by_cases ej : j = v
          · rw [ej]; exact a0
          · exact d0 j (by omega) h2 h3
        · exact Or.inr hc2
      · refine ⟨m1, ρ1, rows1, rc1, cc1, pr1, rb1, rm1, h1, Or.inr ⟨2 * v, by omega, by rw [show 2 * v / 2 = v by omega]; exact hre, by unfold litT; rw [if_pos (by omega), show 2 * v / 2 = v by omega]; exact eq_of_xor a0, a2 _ _, ?_⟩⟩
        rw [mstart, a1, Option.bind_some, if_neg one_ne]
      · refine ⟨m1, ρ1, rows1, rc1, cc1, pr1, rb1, rm1, h1, Or.inr ⟨2 * v + 1, by omega, by rw [show (2 * v + 1) / 2 = v by omega]; exact hre, by unfold litT; rw [if_neg (by omega), show (2 * v + 1) / 2 = v by omega]; exact not_of_xor hn1 hn5 (hd g (Nat.le_refl g)) a0, ?_, ?_⟩⟩
        · rw [a2, L2, n_mul, nI_1]
        · rw [mstart, a1, Option.bind_some, if_neg one_ne]
    · obtain ⟨m2, ρ2, rows2, rc2, cc2, pr2, rb2, rm2, h2, hc2⟩ := ih (v + 1) f1 f2 m ρ rows rc cc pr rb rm (by omega) (by omega) (by omega) h
      refine ⟨m2, ρ2, rows2, rc2, cc2, pr2, rb2, rm2, h2, ?_⟩
      rw [W_formByChecks_2, if_neg (by rw [n_le (by omega) (by omega)]; omega), chk_nI (by omega) (by omega), hrv, if_neg hre, M_sweepsGate_79, if_neg (by rw [n_le (by omega) (by omega)]; omega), chk_nI (by omega) (by omega), hwv, if_neg hre]
      dsimp only [lt_]
      rw [nI_1]
      rcases hc2 with ⟨d0, d1, d2⟩ | hc2
      · refine Or.inl ⟨fun j h1 h2 h3 => ?_, d1, d2⟩
        by_cases ej : j = v
        · rw [ej] at h3; exact absurd h3 hre
        · exact d0 j (by omega) h2 h3
      · exact Or.inr hc2
end LOOK
