/-! PURE LAYER: numbers -/
theorem n_lit (n : Nat) : (OfNat.ofNat n : Int32) = nI (OfNat.ofNat n) := rfl
theorem L0 : (0 : Int32) = nI 0 := rfl
theorem L1 : (1 : Int32) = nI 1 := rfl
theorem L2 : (2 : Int32) = nI 2 := rfl
theorem L3 : (3 : Int32) = nI 3 := rfl
theorem L4 : (4 : Int32) = nI 4 := rfl
theorem L5 : (5 : Int32) = nI 5 := rfl
theorem L6 : (6 : Int32) = nI 6 := rfl
theorem L10 : (10 : Int32) = nI 10 := rfl
theorem L12 : (12 : Int32) = nI 12 := rfl
theorem L30 : (30 : Int32) = nI 30 := rfl
theorem L31 : (31 : Int32) = nI 31 := rfl
theorem L32 : (32 : Int32) = nI 32 := rfl
theorem L48 : (48 : Int32) = nI 48 := rfl
theorem L49 : (49 : Int32) = nI 49 := rfl
theorem L50 : (50 : Int32) = nI 50 := rfl
theorem L57 : (57 : Int32) = nI 57 := rfl
theorem L59 : (59 : Int32) = nI 59 := rfl
theorem L98 : (98 : Int32) = nI 98 := rfl
theorem L99 : (99 : Int32) = nI 99 := rfl
theorem L100 : (100 : Int32) = nI 100 := rfl
theorem L112 : (112 : Int32) = nI 112 := rfl
theorem L113 : (113 : Int32) = nI 113 := rfl
theorem L125 : (125 : Int32) = nI 125 := rfl
theorem L150 : (150 : Int32) = nI 150 := rfl
theorem L500 : (500 : Int32) = nI 500 := rfl
theorem L127 : (127 : Int32) = nI 127 := rfl
theorem L128 : (128 : Int32) = nI 128 := rfl
theorem n_ite {c : Prop} [Decidable c] {a b : Nat} : (if c then nI a else nI b) = nI (if c then a else b) := by split <;> rfl
theorem n_lt {a b : Nat} (ha : a < 2147483648) (hb : b < 2147483648) : (nI a < nI b) = (a < b) := propext (nI_ltI ha hb)
theorem n_le {a b : Nat} (ha : a < 2147483648) (hb : b < 2147483648) : (nI a ≤ nI b) = (a ≤ b) := propext (nI_leI ha hb)
theorem n_eq {a b : Nat} (ha : a < 2147483648) (hb : b < 2147483648) : (nI a = nI b) = (a = b) := propext (nI_eq ha hb)
theorem n_cl {a : Nat} (h : a < 2147483648) : (nI a).toNatClampNeg = a := nI_clamp h
theorem n_add (a b : Nat) : nI a + nI b = nI (a + b) := nI_add a b
theorem n_sub {a b : Nat} (h : b ≤ a) : nI a - nI b = nI (a - b) := pk_sub h
theorem n_mul (a b : Nat) : nI a * nI b = nI (a * b) := pk_mul a b
theorem n_shr1 {a : Nat} (h : a < 2147483648) : nI a >>> (nI 1 &&& nI 31) = nI (a / 2) := pk_shrN h _ 1 (by decide)
theorem n_and1 (a : Nat) : nI a &&& nI 1 = nI (a % 2) := by
  have h := fa_mask a 1
  simpa using h
/-- a literal turned -/
def tw (a : Nat) : Nat := if a % 2 = 0 then a + 1 else a - 1
theorem tw_even {a : Nat} (h : a % 2 = 0) : tw a = a + 1 := if_pos h
theorem tw_odd {a : Nat} (h : a % 2 = 1) : tw a = a - 1 := if_neg (by omega)
theorem tw_xor (a : Nat) : a ^^^ 1 = tw a := by
  rcases Nat.mod_two_eq_zero_or_one a with h | h
  · rw [tw_even h]
    apply Nat.eq_of_testBit_eq
    intro i
    obtain ⟨b, rfl⟩ : ∃ b, a = 2 * b := ⟨a / 2, by omega⟩
    cases i with
    | zero => simp [Nat.testBit_zero]
    | succ i => rw [Nat.testBit_xor, Nat.testBit_succ, Nat.testBit_succ, Nat.testBit_succ]; simp; congr 1; omega
  · rw [tw_odd h]
    apply Nat.eq_of_testBit_eq
    intro i
    obtain ⟨b, rfl⟩ : ∃ b, a = 2 * b + 1 := ⟨a / 2, by omega⟩
    cases i with
    | zero => simp [Nat.testBit_zero]
    | succ i => rw [Nat.testBit_xor, Nat.testBit_succ, Nat.testBit_succ, Nat.testBit_succ]; simp; congr 1; omega
theorem n_xor1 (a : Nat) : nI a ^^^ nI 1 = nI (tw a) := by rw [fb_xorI, tw_xor]
theorem n_div2 {a : Nat} (h : a < 2147483648) : nI a / nI 2 = nI (a / 2) := pk_div h (by decide) (by decide)
theorem n_rem2 (a : Nat) : a - a / 2 * 2 = a % 2 := by omega
theorem chk_nI {α : Type} {a n : Nat} {o : Option α} (h : a < n) (hn : n < 2147483648) : chk (bnd (nI a) n) o = o := by
  unfold chk
  rw [if_pos (bnd_iff.mpr (vp_in_nI h hn))]
theorem chk_lit {α : Type} {i : Int32} {n : Nat} {o : Option α} (h : bnd i n = true) : chk (bnd i n) o = o := by unfold chk; rw [if_pos h]
theorem tw_lt {a k : Nat} (h : a < 2 * k) : tw a < 2 * k := by unfold tw; split <;> omega
theorem tw_half (a : Nat) : tw a / 2 = a / 2 := by unfold tw; split <;> omega
theorem tw_mod (a : Nat) : tw a % 2 = 1 - a % 2 := by unfold tw; split <;> omega
theorem upd_same {f : Nat → Int32} {k : Nat} {x : Int32} : upd f k x k = x := pk_us
theorem upd_ne {f : Nat → Int32} {k j : Nat} {x : Int32} (h : j ≠ k) : upd f k x j = f j := pk_un h
/-- what an int argument may be, against a bound -/
theorem arg3 (x : Int32) (n : Nat) (hn : n < 2147483648) : (x < 0) ∨ (¬ x < 0 ∧ nI n ≤ x) ∨ ∃ j : Nat, j < n ∧ x = nI j := by
  rcases pk_ix x (n := n) hn with h | h | h
  · exact Or.inl h
  · by_cases h0 : x < 0
    · exact Or.inl h0
    · exact Or.inr (Or.inl ⟨h0, h⟩)
  · exact Or.inr (Or.inr h)
/-! circuits -/
abbrev MC : Type := Nat × Nat × (Nat → Nat) × (Nat → Nat) × (Nat → Nat) × (Nat → Nat → Nat) × Nat × (Nat → Nat)
abbrev nn (M : MC) : Nat := M.1
abbrev kk (M : MC) : Nat := M.2.1
abbrev ff (M : MC) : Nat → Nat := M.2.2.1
abbrev gg (M : MC) : Nat → Nat := M.2.2.2.1
abbrev oc (M : MC) : Nat → Nat := M.2.2.2.2.1
abbrev ol (M : MC) : Nat → Nat → Nat := M.2.2.2.2.2.1
abbrev np (M : MC) : Nat := M.2.2.2.2.2.2.1
abbrev pt (M : MC) : Nat → Nat := M.2.2.2.2.2.2.2
def WF (M : MC) : Prop := (1 ≤ nn M ∧ nn M ≤ 5) ∧ (nn M < kk M ∧ kk M ≤ 48) ∧ (∀ j, nn M < j → j < kk M → ff M j < 2 * j ∧ gg M j < 2 * j) ∧ (oc M 0 ≤ 6 ∧ oc M 1 ≤ 6) ∧ (∀ s i, s < 2 → i < oc M s → ol M s i < 2 * kk M) ∧ np M ≤ 12 ∧ ∀ i, i < np M → pt M i < 2 ^ nn M
def allR (n : Nat) : Int32 := if n = 5 then -1 else nI (2 ^ (2 ^ n) - 1)
def litT (n : Nat) (t : Nat → Int32) (l : Nat) : Int32 := if l % 2 = 0 then t (l / 2) else (t (l / 2) ^^^ (-1)) &&& allR n
def IsT (M : MC) (t : Nat → Int32) : Prop := t 0 = 0 ∧ (∀ j, 1 ≤ j → j ≤ nn M → t j = iT.getD (j - 1) 0 &&& allR (nn M)) ∧ ∀ j, nn M < j → j < kk M → t j = litT (nn M) t (ff M j) &&& litT (nn M) t (gg M j)
def IsL (M : MC) (d : Nat → Nat) : Prop := (∀ j, j ≤ nn M → d j = 0) ∧ ∀ j, nn M < j → j < kk M → d j = 1 + max (d (ff M j / 2)) (d (gg M j / 2))
def RCc (M : MC) (fi se tr le li co pa : Nat → Int32) (ic nc pc : Int32) : Prop :=
  ic = nI (nn M) ∧ nc = nI (kk M) ∧ (∀ j, nn M < j → j < kk M → fi j = nI (ff M j) ∧ se j = nI (gg M j)) ∧ IsT M tr ∧ (∃ d, IsL M d ∧ ∀ j, j < kk M → le j = nI (d j)) ∧ (co 0 = nI (oc M 0) ∧ co 1 = nI (oc M 1)) ∧ (∀ s i, s < 2 → i < oc M s → li (s * 6 + i) = nI (ol M s i)) ∧ pc = nI (np M) ∧ ∀ i, i < np M → pa i = nI (pt M i)
def RCm (M : MC) (now : Nat → Int32) : Prop :=
  now 0 = nI (nn M) ∧ now 1 = nI (kk M) ∧ (∀ j, nn M < j → j < kk M → now (2 + j) = nI (ff M j) ∧ now (50 + j) = nI (gg M j)) ∧ (now 98 = nI (oc M 0) ∧ now 99 = nI (oc M 1)) ∧ (∀ s i, s < 2 → i < oc M s → now (100 + 6 * s + i) = nI (ol M s i)) ∧ now 112 = nI (np M) ∧ ∀ i, i < np M → now (113 + i) = nI (pt M i)
theorem IsL_le {M : MC} (hW : WF M) {d : Nat → Nat} (h : IsL M d) : ∀ j, j < kk M → d j ≤ j := by
  intro j
  induction j using Nat.strongRecOn with
  | _ j ih =>
    intro hj
    by_cases hn : j ≤ nn M
    · rw [h.1 j hn]; omega
    · have h1 := hW.2.2.1 j (by omega) hj
      have a1 := ih (ff M j / 2) (by omega) (by omega)
      have a2 := ih (gg M j / 2) (by omega) (by omega)
      rw [h.2 j (by omega) hj]
      omega
theorem IsL_one {M : MC} (hW : WF M) {d d' : Nat → Nat} (h : IsL M d) (h' : IsL M d') : ∀ j, j < kk M → d j = d' j := by
  intro j
  induction j using Nat.strongRecOn with
  | _ j ih =>
    intro hj
    by_cases hn : j ≤ nn M
    · rw [h.1 j hn, h'.1 j hn]
    · have h1 := hW.2.2.1 j (by omega) hj
      rw [h.2 j (by omega) hj, h'.2 j (by omega) hj, ih (ff M j / 2) (by omega) (by omega), ih (gg M j / 2) (by omega) (by omega)]
theorem IsT_one {M : MC} (hW : WF M) {t t' : Nat → Int32} (h : IsT M t) (h' : IsT M t') : ∀ j, j < kk M → t j = t' j := by
  intro j
  induction j using Nat.strongRecOn with
  | _ j ih =>
    intro hj
    by_cases h0 : j = 0
    · rw [h0, h.1, h'.1]
    · by_cases hn : j ≤ nn M
      · rw [h.2.1 j (by omega) hn, h'.2.1 j (by omega) hn]
      · have h1 := hW.2.2.1 j (by omega) hj
        rw [h.2.2 j (by omega) hj, h'.2.2 j (by omega) hj]
        unfold litT
        rw [ih (ff M j / 2) (by omega) (by omega), ih (gg M j / 2) (by omega) (by omega)]
theorem C_allRows_eq {n : Nat} (h1 : 1 ≤ n) (h5 : n ≤ 5) : C_allRows (nI n) = some (allR n) := by
  rcases (show n = 1 ∨ n = 2 ∨ n = 3 ∨ n = 4 ∨ n = 5 by omega) with rfl | rfl | rfl | rfl | rfl <;> decide +kernel
theorem C_truthOf_eq {n l : Nat} {t : Nat → Int32} (h1 : 1 ≤ n) (h5 : n ≤ 5) (hl : l < 96) : C_truthOf t (nI n) (nI l) = some (litT n t l) := by
  unfold C_truthOf litT
  simp (disch := omega) only [C_allRows_eq h1 h5, lt_, Option.bind_some, n_lit, n_lt, n_le, n_eq, n_cl, n_add, n_sub, n_mul, n_shr1, n_and1, n_xor1, n_div2, n_rem2, chk_nI, if_true, if_false, ite_true, ite_false, reduceIte, Nat.not_lt, Nat.not_le, not_true_eq_false, not_false_eq_true, Nat.le_refl, Nat.reduceLeDiff, Nat.reduceLT, Nat.reduceEqDiff, Nat.reduceAdd, Nat.reduceMul, Nat.reduceSub, Nat.reduceDiv, Nat.reduceMod]
  by_cases h : l % 2 = 0
  · rw [if_pos h, if_pos h]
  · rw [if_neg h, if_neg h]
theorem C_levelOf_eq {l : Nat} {v : Nat → Int32} (hl : l < 96) : C_levelOf v (nI l) = some (v (l / 2)) := by
  unfold C_levelOf
  simp (disch := omega) only [lt_, Option.bind_some, n_lit, n_lt, n_le, n_eq, n_cl, n_add, n_sub, n_mul, n_shr1, n_and1, n_xor1, n_div2, n_rem2, chk_nI, if_true, if_false, ite_true, ite_false, reduceIte, Nat.not_lt, Nat.not_le, not_true_eq_false, not_false_eq_true, Nat.le_refl, Nat.reduceLeDiff, Nat.reduceLT, Nat.reduceEqDiff, Nat.reduceAdd, Nat.reduceMul, Nat.reduceSub, Nat.reduceDiv, Nat.reduceMod]
