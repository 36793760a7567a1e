/-! what an argument is, for both -/
theorem le_pred {a : Nat} (h1 : 1 ≤ a) (ha : a < 2147483648) {x : Int32} : nI a ≤ x ↔ nI (a - 1) < x := by
  rw [fa_le, fa_lt, nI_toInt ha, nI_toInt (by omega)]
  omega
theorem nlt0 (j : Nat) (h : j < 2147483648) : ¬ nI j < 0 := nI_pos h
theorem within_lo {x a b : Int32} (h : x < a) : M_within x a b = some 0 := by unfold M_within; rw [if_pos h]
theorem within_hi {x a b : Int32} (h : b < x) : M_within x a b = some 0 := by
  unfold M_within
  by_cases h0 : x < a
  · rw [if_pos h0]
  · rw [if_neg h0, if_pos h]
theorem within_in {x a b : Int32} (h1 : ¬ x < a) (h2 : ¬ b < x) : M_within x a b = some 1 := by unfold M_within; rw [if_neg h1, if_neg h2]
theorem isLit (x : Int32) (k : Nat) (h1 : 1 ≤ k) (h48 : k ≤ 48) : (C_isLiteral (nI k) x = some 0 ∧ ∀ now : Nat → Int32, now 1 = nI k → M_isLiteral now x = some 0) ∨ ∃ j, j < 2 * k ∧ x = nI j := by
  rcases arg3 x (2 * k) (by omega) with h | ⟨h0, h⟩ | h
  · refine Or.inl ⟨by unfold C_isLiteral; rw [if_pos h], fun now e => ?_⟩
    unfold M_isLiteral
    rw [chk_lit (by decide), within_lo h]; rfl
  · refine Or.inl ⟨?_, fun now e => ?_⟩
    · unfold C_isLiteral
      rw [if_neg h0, if_pos (show (2 : Int32) * nI k ≤ x from by rw [L2, n_mul]; exact h)]
    · unfold M_isLiteral
      have e1 : now (Int32.toNatClampNeg 1) = nI k := e
      rw [chk_lit (by decide), e1, L2, L1, n_mul, n_sub (by omega), within_hi ((le_pred (by omega) (by omega)).mp h)]; rfl
  · exact Or.inr h
theorem C_isLit_in {j k : Nat} (hj : j < 2 * k) (h48 : k ≤ 48) : C_isLiteral (nI k) (nI j) = some 1 := by
  unfold C_isLiteral
  rw [if_neg (nlt0 j (by omega)), if_neg]
  rw [L2, n_mul, n_le (by omega) (by omega)]
  omega
theorem M_isLit_in {now : Nat → Int32} {j k : Nat} (e : now 1 = nI k) (hj : j < 2 * k) (h48 : k ≤ 48) : M_isLiteral now (nI j) = some 1 := by
  unfold M_isLiteral
  have e1 : now (Int32.toNatClampNeg 1) = nI k := e
  rw [chk_lit (by decide), e1, L2, L1, n_mul, n_sub (by omega), within_in (nlt0 j (by omega))]
  · rfl
  · rw [n_lt (by omega) (by omega)]; omega
/-! a gate more -/
def upN (f : Nat → Nat) (k x : Nat) : Nat → Nat := fun j => if j = k then x else f j
def addG (M : MC) (a b : Nat) : MC := (nn M, kk M + 1, upN (ff M) (kk M) a, upN (gg M) (kk M) b, oc M, ol M, np M, pt M)
theorem addG_WF {M : MC} (hW : WF M) {a b : Nat} (ha : a < 2 * kk M) (hb : b < 2 * kk M) (hk : kk M < 48) : WF (addG M a b) := by
  obtain ⟨h1, h2, h3, h4, h5, h6, h7⟩ := hW
  refine ⟨h1, ⟨?_, ?_⟩, ?_, h4, ?_, h6, h7⟩
  · show nn M < kk M + 1; omega
  · show kk M + 1 ≤ 48; omega
  · intro j hj1 hj2
    show upN (ff M) (kk M) a j < 2 * j ∧ upN (gg M) (kk M) b j < 2 * j
    unfold upN
    by_cases e : j = kk M
    · rw [if_pos e, if_pos e, e]; exact ⟨ha, hb⟩
    · rw [if_neg e, if_neg e]
      have hj2' : j < kk M + 1 := hj2
      exact h3 j hj1 (by omega)
  · intro s i hs hi
    have := h5 s i hs hi
    show ol M s i < 2 * (kk M + 1)
    omega
theorem litT_cong {n : Nat} {t t' : Nat → Int32} {l : Nat} (h : t (l / 2) = t' (l / 2)) : litT n t l = litT n t' l := by unfold litT; rw [h]
theorem addG_T {M : MC} (hW : WF M) {a b : Nat} {t : Nat → Int32} (ht : IsT M t) (ha : a < 2 * kk M) (hb : b < 2 * kk M) : IsT (addG M a b) (upd t (kk M) (litT (nn M) t a &&& litT (nn M) t b)) := by
  have h1 := hW.2.1.1
  refine ⟨?_, fun j hj1 hj2 => ?_, fun j hj1 hj2 => ?_⟩
  · rw [upd_ne (by omega)]; exact ht.1
  · have hj2' : j ≤ nn M := hj2
    rw [upd_ne (by omega)]; exact ht.2.1 j hj1 hj2
  · have hj2' : j < kk M + 1 := hj2
    have hj1' : nn M < j := hj1
    show upd t (kk M) _ j = litT (nn M) (upd t (kk M) _) (upN (ff M) (kk M) a j) &&& litT (nn M) (upd t (kk M) _) (upN (gg M) (kk M) b j)
    unfold upN
    by_cases e : j = kk M
    · subst e
      rw [upd_same, if_pos rfl, if_pos rfl]
      congr 1
      · exact litT_cong (by rw [upd_ne (by omega)])
      · exact litT_cong (by rw [upd_ne (by omega)])
    · rw [if_neg e, if_neg e, upd_ne e]
      have h3 := hW.2.2.1 j hj1' (by omega)
      rw [ht.2.2 j hj1' (by omega)]
      congr 1
      · exact litT_cong (by rw [upd_ne (by omega)])
      · exact litT_cong (by rw [upd_ne (by omega)])
theorem addG_L {M : MC} (hW : WF M) {a b : Nat} {d : Nat → Nat} (hd : IsL M d) (ha : a < 2 * kk M) (hb : b < 2 * kk M) : IsL (addG M a b) (upN d (kk M) (1 + max (d (a / 2)) (d (b / 2)))) := by
  have h1 := hW.2.1.1
  refine ⟨fun j hj => ?_, fun j hj1 hj2 => ?_⟩
  · have hj' : j ≤ nn M := hj
    unfold upN; rw [if_neg (by omega)]; exact hd.1 j hj
  · have hj2' : j < kk M + 1 := hj2
    have hj1' : nn M < j := hj1
    show upN d (kk M) _ j = 1 + max (upN d (kk M) _ (upN (ff M) (kk M) a j / 2)) (upN d (kk M) _ (upN (gg M) (kk M) b j / 2))
    unfold upN
    by_cases e : j = kk M
    · subst e
      simp only [if_true]
      rw [if_neg (show ¬ a / 2 = kk M by omega), if_neg (show ¬ b / 2 = kk M by omega)]
    · have h3 := hW.2.2.1 j hj1' (by omega)
      rw [if_neg e, if_neg e, if_neg e, if_neg (show ¬ ff M j / 2 = kk M by omega), if_neg (show ¬ gg M j / 2 = kk M by omega)]
      exact hd.2 j hj1' (by omega)
theorem C_addGate_eq {M : MC} (hW : WF M) {fi se tr le li co pa : Nat → Int32} {ic nc pc : Int32} (hc : RCc M fi se tr le li co pa ic nc pc) {a b : Nat} (ha : a < 2 * kk M) (hb : b < 2 * kk M) (hk : kk M < 48) : ∃ fi' se' tr' le', C_addGate fi se tr le ic nc (nI a) (nI b) = some (nI (2 * kk M), fi', se', tr', le', nI (kk M + 1)) ∧ RCc (addG M a b) fi' se' tr' le' li co pa ic (nI (kk M + 1)) pc := by
  obtain ⟨rfl, rfl, h3, h4, ⟨d, hd, h5⟩, h6, h7, h8, h9⟩ := hc
  obtain ⟨hn1, hn5⟩ := hW.1
  have hkn := hW.2.1.1
  refine ⟨upd fi (kk M) (nI a), upd se (kk M) (nI b), upd tr (kk M) (litT (nn M) tr a &&& litT (nn M) tr b), upd le (kk M) (nI (1 + if d (a / 2) < d (b / 2) then d (b / 2) else d (a / 2))), ?_, rfl, rfl, fun j hj1 hj2 => ?_, addG_T hW h4 ha hb, ⟨_, addG_L hW hd ha hb, fun j hj => ?_⟩, h6, h7, h8, h9⟩
  · unfold C_addGate
    have e1 := h5 (a / 2) (by omega)
    have e2 := h5 (b / 2) (by omega)
    have l1 := IsL_le hW hd (a / 2) (by omega)
    have l2 := IsL_le hW hd (b / 2) (by omega)
    simp (disch := omega) only [C_truthOf_eq hn1 hn5, C_levelOf_eq, e1, e2, n_ite, lt_, Option.bind_some, n_lit, n_lt, n_le, n_eq, n_cl, n_add, n_sub, n_mul, n_shr1, n_and1, n_xor1, n_div2, n_rem2, chk_nI, if_true, if_false, ite_true, ite_false, reduceIte, Nat.not_lt, Nat.not_le, not_true_eq_false, not_false_eq_true, Nat.le_refl, Nat.reduceLeDiff, Nat.reduceLT, Nat.reduceEqDiff, Nat.reduceAdd, Nat.reduceMul, Nat.reduceSub, Nat.reduceDiv, Nat.reduceMod]
  · have hj2' : j < kk M + 1 := hj2
    have hj1' : nn M < j := hj1
    show upd fi (kk M) (nI a) j = nI (upN (ff M) (kk M) a j) ∧ upd se (kk M) (nI b) j = nI (upN (gg M) (kk M) b j)
    unfold upd upN
    by_cases e : j = kk M
    · rw [if_pos e, if_pos e, if_pos e, if_pos e]; exact ⟨rfl, rfl⟩
    · rw [if_neg e, if_neg e, if_neg e, if_neg e]; exact h3 j hj1' (by omega)
  · have hj' : j < kk M + 1 := hj
    have l1 := IsL_le hW hd (a / 2) (by omega)
    have l2 := IsL_le hW hd (b / 2) (by omega)
    unfold upd upN
    by_cases e : j = kk M
    · rw [if_pos e, if_pos e]
      congr 2
      by_cases h : d (a / 2) < d (b / 2)
      · rw [if_pos h]; omega
      · rw [if_neg h]; omega
    · rw [if_neg e, if_neg e]; exact h5 j (by omega)
theorem M_adds_eq {M : MC} (hW : WF M) {now : Nat → Int32} (hm : RCm M now) {a b : Nat} (hk : kk M < 48) : ∃ now', M_adds now (nI a) (nI b) = some (nI (2 * kk M), now') ∧ RCm (addG M a b) now' := by
  obtain ⟨h0, h1, h3, h4, h5, h6, h7⟩ := hm
  have hkn := hW.2.1.1
  have hoc := hW.2.2.2.1
  have hnp := hW.2.2.2.2.2.1
  refine ⟨upd (upd (upd now (2 + kk M) (nI a)) (50 + kk M) (nI b)) 1 (nI (kk M + 1)), ?_, ?_, ?_, fun j hj1 hj2 => ?_, ⟨?_, ?_⟩, fun s i hs hi => ?_, ?_, fun i hi => ?_⟩
  · unfold M_adds
    simp (disch := omega) only [h1, upd_same, upd_ne, lt_, Option.bind_some, n_lit, n_lt, n_le, n_eq, n_cl, n_add, n_sub, n_mul, n_shr1, n_and1, n_xor1, n_div2, n_rem2, chk_nI, if_true, if_false, ite_true, ite_false, reduceIte, Nat.not_lt, Nat.not_le, not_true_eq_false, not_false_eq_true, Nat.le_refl, Nat.reduceLeDiff, Nat.reduceLT, Nat.reduceEqDiff, Nat.reduceAdd, Nat.reduceMul, Nat.reduceSub, Nat.reduceDiv, Nat.reduceMod]
    rw [show 2 * (kk M + 1) - 2 = 2 * kk M by omega]
  · rw [upd_ne (by decide), upd_ne (by omega), upd_ne (by omega)]; exact h0
  · rw [upd_same]; rfl
  · have hj2' : j < kk M + 1 := hj2
    have hj1' : nn M < j := hj1
    show _ = nI (upN (ff M) (kk M) a j) ∧ _ = nI (upN (gg M) (kk M) b j)
    unfold upN
    by_cases e : j = kk M
    · subst e
      refine ⟨?_, ?_⟩
      · rw [upd_ne (by omega), upd_ne (by omega), upd_same, if_pos rfl]
      · rw [upd_ne (by omega), upd_same, if_pos rfl]
    · refine ⟨?_, ?_⟩
      · rw [upd_ne (by omega), upd_ne (by omega), upd_ne (by omega), if_neg e]; exact (h3 j hj1' (by omega)).1
      · rw [upd_ne (by omega), upd_ne (by omega), upd_ne (by omega), if_neg e]; exact (h3 j hj1' (by omega)).2
  · rw [upd_ne (by omega), upd_ne (by omega), upd_ne (by omega)]; exact h4.1
  · rw [upd_ne (by omega), upd_ne (by omega), upd_ne (by omega)]; exact h4.2
  · rw [upd_ne (by omega), upd_ne (by omega), upd_ne (by omega)]; exact h5 s i hs hi
  · rw [upd_ne (by omega), upd_ne (by omega), upd_ne (by omega)]; exact h6
  · rw [upd_ne (by omega), upd_ne (by omega), upd_ne (by omega)]; exact h7 i hi
