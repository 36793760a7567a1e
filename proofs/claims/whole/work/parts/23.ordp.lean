theorem shl_n {n : Nat} (h1 : 1 ≤ n) (h5 : n ≤ 5) : (1 : Int32) <<< (nI n &&& 31) = nI (2 ^ n) := by
  rcases (show n = 1 ∨ n = 2 ∨ n = 3 ∨ n = 4 ∨ n = 5 by omega) with rfl | rfl | rfl | rfl | rfl <;> decide
theorem pow_n {n : Nat} (h1 : 1 ≤ n) (h5 : n ≤ 5) : 2 ≤ 2 ^ n ∧ 2 ^ n ≤ 32 := by
  rcases (show n = 1 ∨ n = 2 ∨ n = 3 ∨ n = 4 ∨ n = 5 by omega) with rfl | rfl | rfl | rfl | rfl <;> decide
theorem M_rows_eq {now : Nat → Int32} {n : Nat} (h : now 0 = nI n) (h1 : 1 ≤ n) (h5 : n ≤ 5) : M_rows now = some (nI (2 ^ n)) := by
  unfold M_rows
  have e : now (Int32.toNatClampNeg 0) = nI n := h
  rw [chk_lit (by decide), e, shl_n h1 h5]
theorem isRow (x : Int32) (n : Nat) (h1 : 1 ≤ n) (h5 : n ≤ 5) : (C_isRow (nI n) x = some 0 ∧ M_within x 0 (nI (2 ^ n) - 1) = some 0) ∨ ∃ j, j < 2 ^ n ∧ x = nI j := by
  have hp := pow_n h1 h5
  rcases arg3 x (2 ^ n) (by omega) with h | ⟨h0, h⟩ | h
  · refine Or.inl ⟨by unfold C_isRow; rw [if_pos h], within_lo h⟩
  · refine Or.inl ⟨?_, ?_⟩
    · unfold C_isRow; rw [if_neg h0, shl_n h1 h5, if_pos h]
    · rw [L1, n_sub (by omega)]; exact within_hi ((le_pred (by omega) (by omega)).mp h)
  · exact Or.inr h
theorem C_isRow_in {j n : Nat} (h1 : 1 ≤ n) (h5 : n ≤ 5) (hj : j < 2 ^ n) : C_isRow (nI n) (nI j) = some 1 := by
  have hp := pow_n h1 h5
  unfold C_isRow
  rw [if_neg (nlt0 j (by omega)), shl_n h1 h5, if_neg (by rw [n_le (by omega) (by omega)]; omega)]
theorem M_isRow_in {j n : Nat} (h1 : 1 ≤ n) (h5 : n ≤ 5) (hj : j < 2 ^ n) : M_within (nI j) 0 (nI (2 ^ n) - 1) = some 1 := by
  have hp := pow_n h1 h5
  rw [L1, n_sub (by omega)]
  exact within_in (nlt0 j (by omega)) (by rw [n_lt (by omega) (by omega)]; omega)
def addP (M : MC) (r : Nat) : MC := (nn M, kk M, ff M, gg M, oc M, ol M, np M + 1, upN (pt M) (np M) r)
section ORP
variable {M : MC} {fi se tr le li co pa : Nat → Int32} {ic nc pc : Int32} {now : Nat → Int32}
theorem ord_pattern (hW : WF M) (hc : RCc M fi se tr le li co pa ic nc pc) (hm : RCm M now) (x y z : Int32) : Ord M fi se tr le li co pa ic nc pc now 5 x y z (M_addsPattern now x) := by
  obtain ⟨hn1, hn5⟩ := hW.1
  have hn : ic = nI (nn M) := hc.1
  have hp : pc = nI (np M) := hc.2.2.2.2.2.2.2.1
  have mp : now 112 = nI (np M) := hm.2.2.2.2.2.1
  have hpw := pow_n hn1 hn5
  have hp12 := hW.2.2.2.2.2.1
  have hk48 := hW.2.1.2
  have hoc := hW.2.2.2.1
  rcases isRow x (nn M) hn1 hn5 with ⟨c1, m1⟩ | ⟨r, hr, rfl⟩
  · refine Or.inl ⟨-2, Or.inl rfl, ?_, ?_⟩
    · unfold C_refusalOf; rw [if_neg (by decide), if_neg (by decide), if_neg (by decide), if_neg (by decide), if_neg (by decide), hn, c1]; rfl
    · unfold M_addsPattern; rw [M_rows_eq hm.1 hn1 hn5, Option.bind_some, m1]; rfl
  by_cases hk : np M < 12
  · refine Or.inr ⟨np M + 1, addP M r, fi, se, tr, le, li, co, upd pa (np M) (nI r), ic, nc, nI (np M + 1), upd (upd now (113 + np M) (nI r)) 112 (nI (np M + 1)), by omega, ?_, ?_, ?_, ?_, ?_, ?_⟩
    · unfold C_refusalOf; rw [if_neg (by decide), if_neg (by decide), if_neg (by decide), if_neg (by decide), if_neg (by decide), hn, C_isRow_in hn1 hn5 hr, Option.bind_some, if_neg (by decide), hp]
      simp (disch := omega) only [(show ¬ 12 ≤ np M by omega), lt_, Option.bind_some, n_lit, n_lt, n_le, n_eq, n_cl, n_add, n_sub, n_mul, n_shr1, n_and1, n_xor1, n_div2, n_rem2, chk_nI, if_true, if_false, ite_true, ite_false, reduceIte, Nat.not_lt, Nat.not_le, not_true_eq_false, not_false_eq_true, Nat.le_refl, Nat.reduceLeDiff, Nat.reduceLT, Nat.reduceEqDiff, Nat.reduceAdd, Nat.reduceMul, Nat.reduceSub, Nat.reduceDiv, Nat.reduceMod]
    · unfold C_perform C_addPattern; rw [if_neg (by decide), if_neg (by decide), if_neg (by decide), if_neg (by decide), if_neg (by decide), hp]
      simp (disch := omega) only [lt_, Option.bind_some, n_lit, n_lt, n_le, n_eq, n_cl, n_add, n_sub, n_mul, n_shr1, n_and1, n_xor1, n_div2, n_rem2, chk_nI, if_true, if_false, ite_true, ite_false, reduceIte, Nat.not_lt, Nat.not_le, not_true_eq_false, not_false_eq_true, Nat.le_refl, Nat.reduceLeDiff, Nat.reduceLT, Nat.reduceEqDiff, Nat.reduceAdd, Nat.reduceMul, Nat.reduceSub, Nat.reduceDiv, Nat.reduceMod]
    · unfold M_addsPattern; rw [M_rows_eq hm.1 hn1 hn5, Option.bind_some, M_isRow_in hn1 hn5 hr, Option.bind_some, if_neg (by decide)]
      have e2 : upd now (113 + np M) (nI r) 112 = nI (np M) := by rw [upd_ne (by omega)]; exact mp
      simp (disch := omega) only [mp, e2, upd_same, (show ¬ np M = 12 by omega), lt_, Option.bind_some, n_lit, n_lt, n_le, n_eq, n_cl, n_add, n_sub, n_mul, n_shr1, n_and1, n_xor1, n_div2, n_rem2, chk_nI, if_true, if_false, ite_true, ite_false, reduceIte, Nat.not_lt, Nat.not_le, not_true_eq_false, not_false_eq_true, Nat.le_refl, Nat.reduceLeDiff, Nat.reduceLT, Nat.reduceEqDiff, Nat.reduceAdd, Nat.reduceMul, Nat.reduceSub, Nat.reduceDiv, Nat.reduceMod]
    · refine ⟨hW.1, hW.2.1, hW.2.2.1, hW.2.2.2.1, hW.2.2.2.2.1, ?_, ?_⟩
      · show np M + 1 ≤ 12; omega
      · intro i hi
        show upN (pt M) (np M) r i < 2 ^ nn M
        have hi' : i < np M + 1 := hi
        unfold upN
        by_cases e : i = np M
        · rw [if_pos e]; exact hr
        · rw [if_neg e]; exact hW.2.2.2.2.2.2 i (by omega)
    · refine ⟨hc.1, hc.2.1, hc.2.2.1, hc.2.2.2.1, hc.2.2.2.2.1, hc.2.2.2.2.2.1, hc.2.2.2.2.2.2.1, rfl, fun i hi => ?_⟩
      have hi' : i < np M + 1 := hi
      show upd pa (np M) (nI r) i = nI (upN (pt M) (np M) r i)
      unfold upN upd
      by_cases e : i = np M
      · rw [if_pos e, if_pos e]
      · rw [if_neg e, if_neg e]; exact hc.2.2.2.2.2.2.2.2 i (by omega)
    · refine ⟨?_, ?_, fun j hj1 hj2 => ?_, ⟨?_, ?_⟩, fun s i hs hi => ?_, ?_, fun i hi => ?_⟩
      · rw [upd_ne (by omega), upd_ne (by omega)]; exact hm.1
      · rw [upd_ne (by omega), upd_ne (by omega)]; exact hm.2.1
      · have hj2' : j < kk M := hj2
        refine ⟨?_, ?_⟩
        · rw [upd_ne (by omega), upd_ne (by omega)]; exact (hm.2.2.1 j hj1 hj2).1
        · rw [upd_ne (by omega), upd_ne (by omega)]; exact (hm.2.2.1 j hj1 hj2).2
      · rw [upd_ne (by omega), upd_ne (by omega)]; exact hm.2.2.2.1.1
      · rw [upd_ne (by omega), upd_ne (by omega)]; exact hm.2.2.2.1.2
      · have hi' : i < oc M s := hi
        have ho6 : oc M s ≤ 6 := by rcases (show s = 0 ∨ s = 1 by omega) with rfl | rfl; exact hoc.1; exact hoc.2
        rw [upd_ne (by omega), upd_ne (by omega)]; exact hm.2.2.2.2.1 s i hs hi
      · rw [upd_same]; rfl
      · have hi' : i < np M + 1 := hi
        show _ = nI (upN (pt M) (np M) r i)
        unfold upN
        rw [upd_ne (by omega)]
        by_cases e : i = np M
        · rw [if_pos e, e, upd_same]
        · rw [if_neg e, upd_ne (by omega)]; exact hm.2.2.2.2.2.2 i (by omega)
  · have e12 : np M = 12 := by omega
    refine Or.inl ⟨-4, Or.inr rfl, ?_, ?_⟩
    · unfold C_refusalOf; rw [if_neg (by decide), if_neg (by decide), if_neg (by decide), if_neg (by decide), if_neg (by decide), hn, C_isRow_in hn1 hn5 hr, Option.bind_some, if_neg (by decide), hp]
      simp (disch := omega) only [e12, lt_, Option.bind_some, n_lit, n_lt, n_le, n_eq, n_cl, n_add, n_sub, n_mul, n_shr1, n_and1, n_xor1, n_div2, n_rem2, chk_nI, if_true, if_false, ite_true, ite_false, reduceIte, Nat.not_lt, Nat.not_le, not_true_eq_false, not_false_eq_true, Nat.le_refl, Nat.reduceLeDiff, Nat.reduceLT, Nat.reduceEqDiff, Nat.reduceAdd, Nat.reduceMul, Nat.reduceSub, Nat.reduceDiv, Nat.reduceMod]
    · unfold M_addsPattern; rw [M_rows_eq hm.1 hn1 hn5, Option.bind_some, M_isRow_in hn1 hn5 hr, Option.bind_some, if_neg (by decide)]
      simp (disch := omega) only [mp, e12, lt_, Option.bind_some, n_lit, n_lt, n_le, n_eq, n_cl, n_add, n_sub, n_mul, n_shr1, n_and1, n_xor1, n_div2, n_rem2, chk_nI, if_true, if_false, ite_true, ite_false, reduceIte, Nat.not_lt, Nat.not_le, not_true_eq_false, not_false_eq_true, Nat.le_refl, Nat.reduceLeDiff, Nat.reduceLT, Nat.reduceEqDiff, Nat.reduceAdd, Nat.reduceMul, Nat.reduceSub, Nat.reduceDiv, Nat.reduceMod]
end ORP
/-! inputs -/
def newM (v : Nat) : MC := (v, v + 1, fun _ => 0, fun _ => 0, fun _ => 0, fun _ _ => 0, 0, fun _ => 0)
theorem newM_WF {v : Nat} (h1 : 1 ≤ v) (h5 : v ≤ 5) : WF (newM v) := by
  refine ⟨⟨h1, h5⟩, ⟨Nat.lt_succ_self v, ?_⟩, fun j hj1 hj2 => ?_, ⟨Nat.zero_le _, Nat.zero_le _⟩, fun s i _ hi => ?_, Nat.zero_le _, fun i hi => ?_⟩
  · show v + 1 ≤ 48; omega
  · have a : v < j := hj1
    have b : j < v + 1 := hj2
    omega
  · exact absurd hi (Nat.not_lt_zero i)
  · exact absurd hi (Nat.not_lt_zero i)
theorem restart_loop {v : Nat} (h1 : 1 ≤ v) (h5 : v ≤ 5) (K : (Nat → Int32) → (Nat → Int32) → Option ((Nat → Int32) × (Nat → Int32) × (Nat → Int32) × Int32 × Int32 × Int32)) : ∀ (m fuel i : Nat) (tr le : Nat → Int32), i + m = v + 1 → 1 ≤ i → m < fuel → ∃ tr' le', C_restart_14 K (nI v) (nI v) fuel (nI i) tr le = K tr' le' ∧ (∀ j, j < i → tr' j = tr j ∧ le' j = le j) ∧ ∀ j, i ≤ j → j ≤ v → tr' j = iT.getD (j - 1) 0 &&& allR v ∧ le' j = nI 0 := by
  intro m
  induction m with
  | zero =>
    intro fuel i tr le hi h1i hf
    obtain ⟨n, rfl⟩ : ∃ n, fuel = n + 1 := ⟨fuel - 1, by omega⟩
    refine ⟨tr, le, ?_, fun _ _ => ⟨rfl, rfl⟩, fun j a b => by omega⟩
    rw [C_restart_14, if_pos (by rw [n_lt (by omega) (by omega)]; omega)]
  | succ m ih =>
    intro fuel i tr le hi h1i hf
    obtain ⟨n, rfl⟩ : ∃ n, fuel = n + 1 := ⟨fuel - 1, by omega⟩
    obtain ⟨tr', le', e, a1, a2⟩ := ih n (i + 1) (upd tr i (iT.getD (i - 1) 0 &&& allR v)) (upd le i (nI 0)) (by omega) (by omega) (by omega)
    refine ⟨tr', le', ?_, fun j hj => ?_, fun j hj1 hj2 => ?_⟩
    · rw [← e, C_restart_14, if_neg (by rw [n_lt (by omega) (by omega)]; omega), C_allRows_eq h1 h5, L1, n_sub (by omega)]
      simp (disch := omega) only [lt_, Option.bind_some, n_lit, n_lt, n_le, n_eq, n_cl, n_add, n_sub, n_mul, n_shr1, n_and1, n_xor1, n_div2, n_rem2, chk_nI, if_true, if_false, ite_true, ite_false, reduceIte, Nat.not_lt, Nat.not_le, not_true_eq_false, not_false_eq_true, Nat.le_refl, Nat.reduceLeDiff, Nat.reduceLT, Nat.reduceEqDiff, Nat.reduceAdd, Nat.reduceMul, Nat.reduceSub, Nat.reduceDiv, Nat.reduceMod]
    · rw [(a1 j (by omega)).1, (a1 j (by omega)).2, upd_ne (by omega), upd_ne (by omega)]; exact ⟨rfl, rfl⟩
    · by_cases hji : j = i
      · subst hji
        rw [(a1 j (by omega)).1, (a1 j (by omega)).2, upd_same, upd_same]; exact ⟨rfl, rfl⟩
      · exact a2 j (by omega) hj2
theorem begins_loop {x y : Int32} (K : (Nat → Int32) → Option (Int32 × (Nat → Int32))) : ∀ (m fuel i : Nat) (f : Nat → Int32), i + m = 125 → m < fuel → ∃ f', M_begins_21 K x y fuel (nI i) f = K f' ∧ (∀ j, j < i → f' j = f j) ∧ ∀ j, i ≤ j → j < 125 → f' j = nI 0 := by
  intro m
  induction m with
  | zero =>
    intro fuel i f hi hf
    obtain ⟨n, rfl⟩ : ∃ n, fuel = n + 1 := ⟨fuel - 1, by omega⟩
    refine ⟨f, ?_, fun _ _ => rfl, fun j a b => by omega⟩
    rw [M_begins_21, if_pos (by rw [L125, n_le (by omega) (by omega)]; omega)]
  | succ m ih =>
    intro fuel i f hi hf
    obtain ⟨n, rfl⟩ : ∃ n, fuel = n + 1 := ⟨fuel - 1, by omega⟩
    obtain ⟨f', e, a1, a2⟩ := ih n (i + 1) (upd f i (nI 0)) (by omega) (by omega)
    refine ⟨f', ?_, fun j hj => ?_, fun j hj1 hj2 => ?_⟩
    · rw [← e, M_begins_21, if_neg (by rw [L125, n_le (by omega) (by omega)]; omega)]
      simp (disch := omega) only [lt_, Option.bind_some, n_lit, n_lt, n_le, n_eq, n_cl, n_add, n_sub, n_mul, n_shr1, n_and1, n_xor1, n_div2, n_rem2, chk_nI, if_true, if_false, ite_true, ite_false, reduceIte, Nat.not_lt, Nat.not_le, not_true_eq_false, not_false_eq_true, Nat.le_refl, Nat.reduceLeDiff, Nat.reduceLT, Nat.reduceEqDiff, Nat.reduceAdd, Nat.reduceMul, Nat.reduceSub, Nat.reduceDiv, Nat.reduceMod]
    · rw [a1 j (by omega), upd_ne (by omega)]
    · by_cases hji : j = i
      · subst hji; rw [a1 j (by omega), upd_same]
      · exact a2 j (by omega) hj2
section ORI
variable {M : MC} {fi se tr le li co pa : Nat → Int32} {ic nc pc : Int32} {now : Nat → Int32}
set_option maxRecDepth 100000 in
theorem ord_inputs (hW : WF M) (hc : RCc M fi se tr le li co pa ic nc pc) (hm : RCm M now) (x y z : Int32) : Ord M fi se tr le li co pa ic nc pc now 0 x y z (M_begins now x) := by
  have bad : x < 1 ∨ 5 < x → Ord M fi se tr le li co pa ic nc pc now 0 x y z (M_begins now x) := by
    intro h
    refine Or.inl ⟨-2, Or.inl rfl, ?_, ?_⟩
    · unfold C_refusalOf
      rw [if_pos rfl]
      by_cases h1 : x < 1
      · rw [if_pos h1]
      · rw [if_neg h1, if_pos (h.resolve_left h1)]
    · unfold M_begins
      have : M_within x 1 5 = some 0 := by
        rcases h with h | h
        · exact within_lo h
        · exact within_hi h
      rw [this]; rfl
  by_cases h1 : x < 1
  · exact bad (Or.inl h1)
  by_cases h5 : 5 < x
  · exact bad (Or.inr h5)
  obtain ⟨v, hv1, hv5, rfl⟩ : ∃ v : Nat, 1 ≤ v ∧ v ≤ 5 ∧ x = nI v := by
    have h0 : ¬ x < 0 := fun h => h1 (by rw [fa_lt] at h ⊢; exact Int.lt_trans h (by decide))
    obtain ⟨v, hv, rfl⟩ := nI_of h0
    rw [L1, n_lt hv (by omega)] at h1
    rw [L5, n_lt (by omega) hv] at h5
    exact ⟨v, by omega, by omega, rfl⟩
  obtain ⟨tr', le', e1, a1, a2⟩ := restart_loop hv1 hv5 (fun c_truths_13 c_levels_14 => chk (bnd (0 : Int32) 2) (lt_ (upd co (Int32.toNatClampNeg (0 : Int32)) 0) (fun c_outCounts_16 => chk (bnd (1 : Int32) 2) (lt_ (upd c_outCounts_16 (Int32.toNatClampNeg (1 : Int32)) 0) (fun c_outCounts_18 => some (c_truths_13, c_levels_14, c_outCounts_18, nI v, nI v + 1, 0)))))) v 1000 1 tr le (by omega) (by omega) (by omega)
  obtain ⟨f', e2, b1, b2⟩ := begins_loop (x := nI v) (y := nI (nn M)) (fun m_now_11 => chk (bnd (0 : Int32) 125) (lt_ (upd m_now_11 (Int32.toNatClampNeg (0 : Int32)) (nI v)) (fun m_now_13 => chk (bnd (1 : Int32) 125) (lt_ (upd m_now_13 (Int32.toNatClampNeg (1 : Int32)) (nI v + 1)) (fun m_now_15 => some (nI (nn M), m_now_15)))))) 125 1000 0 now (by omega) (by omega)
  obtain ⟨hn1, hn5⟩ := hW.1
  refine Or.inr ⟨nn M, newM v, fi, se, tr', le', li, upd (upd co 0 0) 1 0, pa, nI v, nI (v + 1), 0, upd (upd f' 0 (nI v)) 1 (nI (v + 1)), by omega, ?_, ?_, ?_, newM_WF hv1 hv5, ?_, ?_⟩
  · unfold C_refusalOf; rw [if_pos rfl, if_neg h1, if_neg h5]
  · unfold C_perform C_changeInputs C_restart
    rw [if_pos rfl]
    show Option.bind (Option.bind (C_restart_14 _ (nI v) (nI v) 1000 (nI 1) tr le) _) _ = _
    rw [e1, hc.1]
    simp (disch := omega) only [lt_, Option.bind_some, n_lit, n_lt, n_le, n_eq, n_cl, n_add, n_sub, n_mul, n_shr1, n_and1, n_xor1, n_div2, n_rem2, chk_nI, if_true, if_false, ite_true, ite_false, reduceIte, Nat.not_lt, Nat.not_le, not_true_eq_false, not_false_eq_true, Nat.le_refl, Nat.reduceLeDiff, Nat.reduceLT, Nat.reduceEqDiff, Nat.reduceAdd, Nat.reduceMul, Nat.reduceSub, Nat.reduceDiv, Nat.reduceMod]
  · unfold M_begins
    have e : M_within (nI v) 1 5 = some 1 := within_in h1 h5
    have e0 : now (Int32.toNatClampNeg 0) = nI (nn M) := hm.1
    rw [e, Option.bind_some, if_neg (by decide), chk_lit (by decide), e0]
    show M_begins_21 _ (nI v) (nI (nn M)) 1000 (nI 0) now = _
    rw [e2]
    simp (disch := omega) only [lt_, Option.bind_some, n_lit, n_lt, n_le, n_eq, n_cl, n_add, n_sub, n_mul, n_shr1, n_and1, n_xor1, n_div2, n_rem2, chk_nI, if_true, if_false, ite_true, ite_false, reduceIte, Nat.not_lt, Nat.not_le, not_true_eq_false, not_false_eq_true, Nat.le_refl, Nat.reduceLeDiff, Nat.reduceLT, Nat.reduceEqDiff, Nat.reduceAdd, Nat.reduceMul, Nat.reduceSub, Nat.reduceDiv, Nat.reduceMod]
  · have hk : kk (newM v) = v + 1 := rfl
    have hnn : nn (newM v) = v := rfl
    refine ⟨rfl, rfl, fun j hj1 hj2 => by omega, ⟨?_, fun j hj1 hj2 => ?_, fun j hj1 hj2 => by omega⟩, ⟨fun _ => 0, ⟨fun _ _ => rfl, fun j hj1 hj2 => by omega⟩, fun j hj => ?_⟩, ⟨rfl, rfl⟩, fun s i _ hi => absurd hi (Nat.not_lt_zero i), rfl, fun i hi => absurd hi (Nat.not_lt_zero i)⟩
    · rw [(a1 0 (by omega)).1]; exact hc.2.2.2.1.1
    · exact (a2 j hj1 (by omega)).1
    · by_cases h0 : j = 0
      · obtain ⟨d, hd, hl⟩ := hc.2.2.2.2.1
        rw [h0, (a1 0 (by omega)).2, hl 0 (by have := hW.2.1.1; omega), hd.1 0 (Nat.zero_le _)]
      · exact (a2 j (by omega) (by omega)).2
  · have hk : kk (newM v) = v + 1 := rfl
    have hnn : nn (newM v) = v := rfl
    refine ⟨?_, ?_, fun j hj1 hj2 => by omega, ⟨?_, ?_⟩, fun s i _ hi => absurd hi (Nat.not_lt_zero i), ?_, fun i hi => absurd hi (Nat.not_lt_zero i)⟩
    · rw [upd_ne (by omega), upd_same]; rfl
    · rw [upd_same]; rfl
    · rw [upd_ne (by omega), upd_ne (by omega), b2 98 (by omega) (by omega)]; rfl
    · rw [upd_ne (by omega), upd_ne (by omega), b2 99 (by omega) (by omega)]; rfl
    · rw [upd_ne (by omega), upd_ne (by omega), b2 112 (by omega) (by omega)]; rfl
end ORI
