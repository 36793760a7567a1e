/-! tables of the reference -/
def am (i : Nat) : Int32 := if i = 32 then -1 else nI (2 ^ i - 1)
theorem am_step : ∀ i, i < 32 → am i ||| ((nI 1) <<< (nI i &&& nI 31)) = am (i + 1) := by decide +kernel
theorem am_all {n : Nat} (h1 : 1 ≤ n) (h5 : n ≤ 5) : am (2 ^ n) = allR n := by
  rcases (show n = 1 ∨ n = 2 ∨ n = 3 ∨ n = 4 ∨ n = 5 by omega) with rfl | rfl | rfl | rfl | rfl <;> decide +kernel
def bm (g i : Nat) : Int32 := if g = 0 then 0 else iT.getD (g - 1) 0 &&& am i
theorem bm_step : ∀ g, g < 6 → 1 ≤ g → ∀ i, i < 32 → ((nI i >>> (nI (g - 1) &&& nI 31)) &&& nI 1 = nI 1 → bm g i ||| ((nI 1) <<< (nI i &&& nI 31)) = bm g (i + 1)) ∧ (¬ (nI i >>> (nI (g - 1) &&& nI 31)) &&& nI 1 = nI 1 → bm g i ||| nI 0 = bm g (i + 1)) := by decide +kernel
theorem bm_0 : ∀ g, g < 6 → bm g 0 = nI 0 := by decide +kernel
theorem am_0 : am 0 = 0 := by decide
theorem all_loop (K : Int32 → Option ((Nat → Int32) × Int32)) {now : Nat → Int32} {n : Nat} (h : now 0 = nI n) (h1 : 1 ≤ n) (h5 : n ≤ 5) : ∀ (m fuel i : Nat), i + m = 2 ^ n → m < fuel → M_laysTables_7 K now fuel (nI i) (am i) = K (allR n) := by
  have hp := pow_n h1 h5
  intro m
  induction m with
  | zero =>
    intro fuel i hi hf
    obtain ⟨k, rfl⟩ : ∃ k, fuel = k + 1 := ⟨fuel - 1, by omega⟩
    rw [M_laysTables_7, M_rows_eq h h1 h5, Option.bind_some, if_pos (by rw [n_le (by omega) (by omega)]; omega), ← am_all h1 h5, show i = 2 ^ n by omega]
  | succ m ih =>
    intro fuel i hi hf
    obtain ⟨k, rfl⟩ : ∃ k, fuel = k + 1 := ⟨fuel - 1, by omega⟩
    rw [M_laysTables_7, M_rows_eq h h1 h5, Option.bind_some, if_neg (by rw [n_le (by omega) (by omega)]; omega)]
    have := ih k (i + 1) (by omega) (by omega)
    rw [← am_step i (by omega)] at this
    simp (disch := omega) only [lt_, Option.bind_some, n_lit, n_lt, n_le, n_eq, n_cl, n_add, n_sub, n_mul, n_shr1, n_and1, n_xor1, n_div2, n_rem2, chk_nI, if_true, if_false, ite_true, ite_false, reduceIte, Nat.not_lt, Nat.not_le, not_true_eq_false, not_false_eq_true, Nat.le_refl, Nat.reduceLeDiff, Nat.reduceLT, Nat.reduceEqDiff, Nat.reduceAdd, Nat.reduceMul, Nat.reduceSub, Nat.reduceDiv, Nat.reduceMod]
    exact this
theorem inp_loop {now : Nat → Int32} {n g : Nat} (h : now 0 = nI n) (h1 : 1 ≤ n) (h5 : n ≤ 5) (hg : g ≤ n) : ∀ (m fuel i : Nat) (t : Nat → Int32), i + m = 2 ^ n → m < fuel → t g = bm g i → ∃ t', (∀ K : (Nat → Int32) → Option ((Nat → Int32) × Int32), M_laysTables_54 K now (nI g) fuel (nI i) t = K t') ∧ t' g = bm g (2 ^ n) ∧ ∀ j, j ≠ g → t' j = t j := by
  have hp := pow_n h1 h5
  intro m
  induction m with
  | zero =>
    intro fuel i t hi hf ht
    obtain ⟨k, rfl⟩ : ∃ k, fuel = k + 1 := ⟨fuel - 1, by omega⟩
    refine ⟨t, fun K => ?_, by rw [ht, show i = 2 ^ n by omega], fun _ _ => rfl⟩
    rw [M_laysTables_54, M_rows_eq h h1 h5, Option.bind_some, if_pos (by rw [n_le (by omega) (by omega)]; omega)]
  | succ m ih =>
    intro fuel i t hi hf ht
    obtain ⟨k, rfl⟩ : ∃ k, fuel = k + 1 := ⟨fuel - 1, by omega⟩
    have go : ∀ x : Int32, bm g i ||| x = bm g (i + 1) → ∃ t', (∀ K : (Nat → Int32) → Option ((Nat → Int32) × Int32), M_laysTables_54 K now (nI g) k (nI (i + 1)) (upd t g (t g ||| x)) = K t') ∧ t' g = bm g (2 ^ n) ∧ ∀ j, j ≠ g → t' j = t j := by
      intro x hx
      obtain ⟨t', e, a1, a2⟩ := ih k (i + 1) (upd t g (t g ||| x)) (by omega) (by omega) (by rw [upd_same, ht, hx])
      exact ⟨t', e, a1, fun j hj => by rw [a2 j hj, upd_ne hj]⟩
    have e0 : now (Int32.toNatClampNeg 0) = nI n := h
    have start : ∀ K : (Nat → Int32) → Option ((Nat → Int32) × Int32), M_laysTables_54 K now (nI g) (k + 1) (nI i) t = (if nI g ≤ 0 then M_laysTables_54 K now (nI g) k (nI i + 1) (upd t g (t g ||| 0)) else if ((nI i >>> ((nI g - 1) &&& 31)) &&& 1) = 1 then M_laysTables_54 K now (nI g) k (nI i + 1) (upd t g (t g ||| ((1 : Int32) <<< (nI i &&& 31)))) else M_laysTables_54 K now (nI g) k (nI i + 1) (upd t g (t g ||| 0))) := by
      intro K
      rw [M_laysTables_54, M_rows_eq h h1 h5, Option.bind_some, if_neg (by rw [n_le (by omega) (by omega)]; omega), chk_lit (by decide), e0, if_neg (by rw [n_lt (by omega) (by omega)]; omega)]
      simp (disch := omega) only [lt_, chk_nI, n_cl]
    by_cases hg0 : g = 0
    · subst hg0
      obtain ⟨t', e, a⟩ := go (nI 0) (by unfold bm; rw [if_pos rfl, if_pos rfl]; rfl)
      exact ⟨t', fun K => by rw [start K, if_pos (by decide), nI_1]; exact e K, a⟩
    · obtain ⟨b1, b2⟩ := bm_step g (by omega) (by omega) i (by omega)
      have hng : ¬ nI g ≤ 0 := by rw [L0, n_le (by omega) (by omega)]; omega
      have hsub : nI g - 1 = nI (g - 1) := by rw [L1, n_sub (by omega)]
      by_cases hb : (nI i >>> (nI (g - 1) &&& nI 31)) &&& nI 1 = nI 1
      · obtain ⟨t', e, a⟩ := go _ (b1 hb)
        exact ⟨t', fun K => by rw [start K, if_neg hng, hsub, if_pos (show (nI i >>> (nI (g - 1) &&& 31)) &&& 1 = (1 : Int32) from hb), nI_1]; exact e K, a⟩
      · obtain ⟨t', e, a⟩ := go _ (b2 hb)
        exact ⟨t', fun K => by rw [start K, if_neg hng, hsub, if_neg (show ¬ (nI i >>> (nI (g - 1) &&& 31)) &&& 1 = (1 : Int32) from hb), nI_1]; exact e K, a⟩
theorem inp_skip {now : Nat → Int32} {n g : Nat} (h : now 0 = nI n) (h1 : 1 ≤ n) (h5 : n ≤ 5) (hg : n < g) (hg2 : g < 48) (K : (Nat → Int32) → Option ((Nat → Int32) × Int32)) (fuel : Nat) (t : Nat → Int32) : M_laysTables_54 K now (nI g) (fuel + 1) 0 t = K t := by
  have hp := pow_n h1 h5
  have e0 : now (Int32.toNatClampNeg 0) = nI n := h
  rw [M_laysTables_54, M_rows_eq h h1 h5, Option.bind_some, if_neg (by rw [L0, n_le (by omega) (by omega)]; omega), chk_lit (by decide), e0, if_pos (by rw [n_lt (by omega) (by omega)]; omega)]
theorem M_tableOf_eq {n l : Nat} {t : Nat → Int32} (hl : l < 96) : M_tableOf t (allR n) (nI l) = some (litT n t l) := by
  unfold M_tableOf litT
  simp (disch := omega) only [lt_, Option.bind_some, n_lit, n_lt, n_le, n_eq, n_cl, n_add, n_sub, n_mul, n_shr1, n_and1, n_xor1, n_div2, n_rem2, chk_nI, if_true, if_false, ite_true, ite_false, reduceIte, Nat.not_lt, Nat.not_le, not_true_eq_false, not_false_eq_true, Nat.le_refl, Nat.reduceLeDiff, Nat.reduceLT, Nat.reduceEqDiff, Nat.reduceAdd, Nat.reduceMul, Nat.reduceSub, Nat.reduceDiv, Nat.reduceMod]
  by_cases h : l % 2 = 0
  · rw [if_pos h, if_pos h]
  · rw [if_neg h, if_neg h, Int32.and_comm]
/-- tables right below g -/
def IsTp (M : MC) (t : Nat → Int32) (g : Nat) : Prop := (0 < g → t 0 = 0) ∧ (∀ j, 1 ≤ j → j ≤ nn M → j < g → t j = iT.getD (j - 1) 0 &&& allR (nn M)) ∧ ∀ j, nn M < j → j < kk M → j < g → t j = litT (nn M) t (ff M j) &&& litT (nn M) t (gg M j)
theorem IsTp_next {M : MC} (hW : WF M) {t : Nat → Int32} {g : Nat} (h : IsTp M t g) {t' : Nat → Int32} (hs : ∀ j, j ≠ g → t' j = t j) (hg : (g = 0 → t' 0 = 0) ∧ (1 ≤ g → g ≤ nn M → t' g = iT.getD (g - 1) 0 &&& allR (nn M)) ∧ (nn M < g → g < kk M → t' g = litT (nn M) t (ff M g) &&& litT (nn M) t (gg M g))) : IsTp M t' (g + 1) := by
  refine ⟨fun _ => ?_, fun j h1 h2 h3 => ?_, fun j h1 h2 h3 => ?_⟩
  · by_cases e : g = 0
    · exact hg.1 e
    · rw [hs 0 (Ne.symm e)]; exact h.1 (by omega)
  · by_cases e : j = g
    · subst e; exact hg.2.1 h1 h2
    · rw [hs j e]; exact h.2.1 j h1 h2 (by omega)
  · have h4 := hW.2.2.1 j h1 h2
    have c1 : ∀ l, l < 2 * j → litT (nn M) t' l = litT (nn M) t l := fun l hl => litT_cong (hs _ (by omega))
    rw [c1 _ h4.1, c1 _ h4.2]
    by_cases e : j = g
    · subst e; exact hg.2.2 h1 h2
    · rw [hs j e]; exact h.2.2 j h1 h2 (by omega)
set_option maxRecDepth 100000 in
theorem tab_loop (K : (Nat → Int32) → Option ((Nat → Int32) × Int32)) {M : MC} (hW : WF M) {now : Nat → Int32} (hm : RCm M now) : ∀ (m fuel g : Nat) (t : Nat → Int32), g + m = kk M → m < fuel → IsTp M t g → ∃ t', M_laysTables_35 K now (allR (nn M)) fuel (nI g) t = K t' ∧ IsTp M t' (kk M) := by
  obtain ⟨hn1, hn5⟩ := hW.1
  have hk48 := hW.2.1.2
  have hkn := hW.2.1.1
  have e0 : now (Int32.toNatClampNeg 0) = nI (nn M) := hm.1
  have e1 : now (Int32.toNatClampNeg 1) = nI (kk M) := hm.2.1
  intro m
  induction m with
  | zero =>
    intro fuel g t hg hf ht
    obtain ⟨k, rfl⟩ : ∃ k, fuel = k + 1 := ⟨fuel - 1, by omega⟩
    refine ⟨t, ?_, by rw [show kk M = g by omega]; exact ht⟩
    rw [M_laysTables_35, chk_lit (by decide), e1, if_pos (by rw [n_le (by omega) (by omega)]; omega)]
  | succ m ih =>
    intro fuel g t hg hf ht
    obtain ⟨k, rfl⟩ : ∃ k, fuel = k + 1 := ⟨fuel - 1, by omega⟩
    rw [M_laysTables_35, chk_lit (by decide), e1, if_neg (by rw [n_le (by omega) (by omega)]; omega), chk_nI (by omega) (by omega), n_cl (by omega)]
    unfold lt_
    by_cases hgn : g ≤ nn M
    · obtain ⟨t1, f1, a1, a2⟩ := inp_loop (g := g) hm.1 hn1 hn5 hgn (2 ^ nn M) 1000 0 (upd t g (nI 0)) (by omega) (by have := pow_n hn1 hn5; omega) (by rw [upd_same]; exact (bm_0 g (by omega)).symm)
      have q1 : g = 0 → t1 0 = 0 := fun h => by subst h; exact a1
      have q2 : 1 ≤ g → g ≤ nn M → t1 g = iT.getD (g - 1) 0 &&& allR (nn M) := fun h h' => by rw [a1, ← am_all hn1 hn5]; unfold bm; rw [if_neg (by omega)]
      obtain ⟨t', f2, b⟩ := ih k (g + 1) t1 (by omega) (by omega) (IsTp_next hW ht (fun j hj => by rw [a2 j hj, upd_ne hj]) ⟨q1, q2, fun h h' => by omega⟩)
      refine ⟨t', ?_, b⟩
      refine (f1 _).trans ?_
      rw [chk_lit (by decide), e0, if_pos (by rw [n_le (by omega) (by omega)]; omega), L1, n_add]
      exact f2
    · have hgk : g < kk M := by omega
      have hlit := hW.2.2.1 g (by omega) hgk
      have hfg := hm.2.2.1 g (by omega) hgk
      have hne : ∀ j, j ≠ g → upd t g (nI 0) j = t j := fun j hj => upd_ne hj
      have c1 : ∀ l, l < 2 * g → litT (nn M) (upd t g (nI 0)) l = litT (nn M) t l := fun l hl => litT_cong (hne _ (by omega))
      obtain ⟨t', f2, b⟩ := ih k (g + 1) (upd (upd t g (nI 0)) g (litT (nn M) t (ff M g) &&& litT (nn M) t (gg M g))) (by omega) (by omega) (IsTp_next hW ht (fun j hj => by rw [upd_ne hj, upd_ne hj]) ⟨fun h => by omega, fun h h' => by omega, fun _ _ => upd_same⟩)
      refine ⟨t', ?_, b⟩
      rw [← f2]
      have hp := pow_n hn1 hn5
      refine (inp_skip hm.1 hn1 hn5 (by omega) (by omega) _ 999 _).trans ?_
      rw [chk_lit (by decide), e0, if_neg (by rw [n_le (by omega) (by omega)]; omega)]
      simp (disch := omega) only [hfg.1, hfg.2, M_tableOf_eq, c1 _ hlit.1, c1 _ hlit.2, lt_, Option.bind_some, n_lit, n_lt, n_le, n_eq, n_cl, n_add, n_sub, n_mul, n_shr1, n_and1, n_xor1, n_div2, n_rem2, chk_nI, if_true, if_false, ite_true, ite_false, reduceIte, Nat.not_lt, Nat.not_le, not_true_eq_false, not_false_eq_true, Nat.le_refl, Nat.reduceLeDiff, Nat.reduceLT, Nat.reduceEqDiff, Nat.reduceAdd, Nat.reduceMul, Nat.reduceSub, Nat.reduceDiv, Nat.reduceMod]
set_option maxRecDepth 100000 in
theorem M_laysTables_eq {M : MC} (hW : WF M) {now : Nat → Int32} (hm : RCm M now) (t : Nat → Int32) (a : Int32) : ∃ t', M_laysTables now t a = some (t', allR (nn M)) ∧ IsT M t' := by
  obtain ⟨hn1, hn5⟩ := hW.1
  have hp := pow_n hn1 hn5
  have hkn := hW.2.1.1
  have hk48 := hW.2.1.2
  obtain ⟨t', e, h⟩ := tab_loop (fun m_tables_41 => some (m_tables_41, allR (nn M))) hW hm (kk M) 1000 0 t (by omega) (by omega) ⟨fun h => absurd h (Nat.lt_irrefl 0), fun j _ _ h => absurd h (Nat.not_lt_zero j), fun j _ _ h => absurd h (Nat.not_lt_zero j)⟩
  refine ⟨t', ?_, h.1 (by omega), fun j h1 h2 => h.2.1 j h1 h2 (by omega), fun j h1 h2 => h.2.2 j h1 h2 h2⟩
  unfold M_laysTables
  have := all_loop (fun m_all_40 => M_laysTables_35 (fun m_tables_41 => some (m_tables_41, m_all_40)) now m_all_40 1000 0 t) hm.1 hn1 hn5 (2 ^ nn M) 1000 0 (by omega) (by omega)
  rw [am_0] at this
  exact this.trans e
