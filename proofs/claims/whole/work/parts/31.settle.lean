/-! settling -/
def nu (κ : Nat → Nat) : Nat → Nat := fb_ct (fun i => decide (κ i = 0))
theorem nu_succ (κ : Nat → Nat) (j : Nat) : nu κ (j + 1) = nu κ j + (if κ j = 0 then 1 else 0) := by
  unfold nu
  rw [fb_ct_succ]
  by_cases h : κ j = 0
  · rw [if_pos h, decide_eq_true h]; rfl
  · rw [if_neg h, decide_eq_false h]; rfl
theorem nu_le (κ : Nat → Nat) (j : Nat) : nu κ j ≤ j := fb_ct_le _ j
theorem nu_mono (κ : Nat → Nat) {i j : Nat} (h : i ≤ j) : nu κ i ≤ nu κ j := fb_ct_mono _ h
theorem nu_lt (κ : Nat → Nat) {i j : Nat} (h : i < j) (hk : κ i = 0) : nu κ i < nu κ j := by
  have h1 := nu_mono κ (show i + 1 ≤ j by omega)
  rw [nu_succ, if_pos hk] at h1
  omega
theorem nu_inp {κ : Nat → Nat} {n : Nat} (h : ∀ j, j ≤ n → κ j = 0) : ∀ j, j ≤ n + 1 → nu κ j = j
  | 0, _ => rfl
  | j + 1, hj => by rw [nu_succ, if_pos (h j (by omega)), nu_inp h j (by omega)]
def st (κ : Nat → Nat) (l : Nat) : Nat := 2 * nu κ (l / 2) + l % 2
theorem st_lt {κ : Nat → Nat} {l j : Nat} (h : l / 2 < j) (hk : κ (l / 2) = 0) : st κ l < 2 * nu κ j := by
  have := nu_lt κ h hk
  unfold st
  omega
section SET
variable {n k : Nat} {κ : Nat → Nat} {re wh : Nat → Int32}
theorem numKept (hk : k ≤ 48) (hre : ∀ j, j < k → re j = nI (κ j) ∧ κ j < 4) : ∀ (m fuel j : Nat) (nw : Nat → Int32), j + m = k → m < fuel → (∀ i, i < j → κ i = 0 → nw i = nI (nu κ i)) → ∃ nw', (∀ K, W_numberKept_4 K re (nI k) fuel (nI (nu κ j)) (nI j) nw = K nw') ∧ ∀ i, i < k → κ i = 0 → nw' i = nI (nu κ i) := by
  intro m
  induction m with
  | zero =>
    intro fuel j nw hj hf h
    obtain ⟨f, rfl⟩ : ∃ f, fuel = f + 1 := ⟨fuel - 1, by omega⟩
    refine ⟨nw, fun K => ?_, fun i hi hk0 => h i (by omega) hk0⟩
    rw [W_numberKept_4, if_pos (by rw [n_le (by omega) (by omega)]; omega)]
  | succ m ih =>
    intro fuel j nw hj hf h
    obtain ⟨f, rfl⟩ : ∃ f, fuel = f + 1 := ⟨fuel - 1, by omega⟩
    have hn := nu_le κ j
    obtain ⟨h1, h4⟩ := hre j (by omega)
    by_cases h0 : κ j = 0
    · obtain ⟨nw', e, a⟩ := ih f (j + 1) (upd nw j (nI (nu κ j))) (by omega) (by omega) (fun i hi hk0 => by
        by_cases ei : i = j
        · rw [ei, upd_same]
        · rw [upd_ne ei]; exact h i (by omega) hk0)
      refine ⟨nw', fun K => ?_, a⟩
      rw [← e K, W_numberKept_4, if_neg (by rw [n_le (by omega) (by omega)]; omega), nu_succ, if_pos h0]
      rw [chk_nI (by omega) (by omega), n_cl (by omega), h1, if_pos (by rw [h0]; rfl)]
      simp (disch := omega) only [lt_, Option.bind_some, n_lit, n_lt, n_le, n_eq, n_cl, n_add, n_sub, n_mul, n_shr1, n_and1, n_xor1, n_div2, n_rem2, chk_nI, if_true, if_false, ite_true, ite_false, reduceIte, Nat.not_lt, Nat.not_le, not_true_eq_false, not_false_eq_true, Nat.le_refl, Nat.reduceLeDiff, Nat.reduceLT, Nat.reduceEqDiff, Nat.reduceAdd, Nat.reduceMul, Nat.reduceSub, Nat.reduceDiv, Nat.reduceMod]
    · obtain ⟨nw', e, a⟩ := ih f (j + 1) nw (by omega) (by omega) (fun i hi hk0 => by
        by_cases ei : i = j
        · rw [ei] at hk0; exact absurd hk0 h0
        · exact h i (by omega) hk0)
      refine ⟨nw', fun K => ?_, a⟩
      rw [← e K, W_numberKept_4, if_neg (by rw [n_le (by omega) (by omega)]; omega), nu_succ, if_neg h0]
      rw [chk_nI (by omega) (by omega), n_cl (by omega), h1, if_neg (by rw [L0, n_eq (by omega) (by omega)]; exact h0)]
      simp (disch := omega) only [Nat.add_zero, lt_, Option.bind_some, n_lit, n_lt, n_le, n_eq, n_cl, n_add, n_sub, n_mul, n_shr1, n_and1, n_xor1, n_div2, n_rem2, chk_nI, if_true, if_false, ite_true, ite_false, reduceIte, Nat.not_lt, Nat.not_le, not_true_eq_false, not_false_eq_true, Nat.le_refl, Nat.reduceLeDiff, Nat.reduceLT, Nat.reduceEqDiff, Nat.reduceAdd, Nat.reduceMul, Nat.reduceSub, Nat.reduceDiv, Nat.reduceMod]
theorem numAll {now : Nat → Int32} (hk : k ≤ 48) (e1 : now 1 = nI k) (hre : ∀ j, j < k → wh j = nI (κ j) ∧ κ j < 4) : ∀ (m fuel j : Nat) (nb : Nat → Int32), j + m = k → m < fuel → (∀ i, i < j → nb i = nI (nu κ i)) → ∃ nb', (∀ K, M_settlesAll_8 K now wh fuel (nI (nu κ j)) (nI j) nb = K (nI (nu κ k)) nb') ∧ ∀ i, i < k → nb' i = nI (nu κ i) := by
  have e1' : now (Int32.toNatClampNeg 1) = nI k := e1
  intro m
  induction m with
  | zero =>
    intro fuel j nb hj hf h
    obtain ⟨f, rfl⟩ : ∃ f, fuel = f + 1 := ⟨fuel - 1, by omega⟩
    have ej : j = k := by omega
    subst ej
    refine ⟨nb, fun K => ?_, h⟩
    rw [M_settlesAll_8, chk_lit (by decide), e1', if_pos (by rw [n_le (by omega) (by omega)]; omega)]
  | succ m ih =>
    intro fuel j nb hj hf h
    obtain ⟨f, rfl⟩ : ∃ f, fuel = f + 1 := ⟨fuel - 1, by omega⟩
    have hn := nu_le κ j
    obtain ⟨h1, h4⟩ := hre j (by omega)
    obtain ⟨nb', e, a⟩ := ih f (j + 1) (upd nb j (nI (nu κ j))) (by omega) (by omega) (fun i hi => by
      by_cases ei : i = j
      · rw [ei, upd_same]
      · rw [upd_ne ei]; exact h i (by omega))
    refine ⟨nb', fun K => ?_, a⟩
    rw [← e K, M_settlesAll_8, chk_lit (by decide), e1', if_neg (by rw [n_le (by omega) (by omega)]; omega), nu_succ, chk_nI (by omega) (by omega), n_cl (by omega), h1]
    dsimp only [lt_]
    rw [chk_nI (by omega) (by omega)]
    by_cases h0 : κ j = 0
    · rw [if_pos h0, if_pos (by rw [h0]; rfl)]
      simp (disch := omega) only [lt_, Option.bind_some, n_lit, n_lt, n_le, n_eq, n_cl, n_add, n_sub, n_mul, n_shr1, n_and1, n_xor1, n_div2, n_rem2, chk_nI, if_true, if_false, ite_true, ite_false, reduceIte, Nat.not_lt, Nat.not_le, not_true_eq_false, not_false_eq_true, Nat.le_refl, Nat.reduceLeDiff, Nat.reduceLT, Nat.reduceEqDiff, Nat.reduceAdd, Nat.reduceMul, Nat.reduceSub, Nat.reduceDiv, Nat.reduceMod]
    · rw [if_neg h0, if_neg (by rw [L0, n_eq (by omega) (by omega)]; exact h0)]
      simp (disch := omega) only [lt_, Option.bind_some, n_lit, n_lt, n_le, n_eq, n_cl, n_add, n_sub, n_mul, n_shr1, n_and1, n_xor1, n_div2, n_rem2, chk_nI, if_true, if_false, ite_true, ite_false, reduceIte, Nat.not_lt, Nat.not_le, not_true_eq_false, not_false_eq_true, Nat.le_refl, Nat.reduceLeDiff, Nat.reduceLT, Nat.reduceEqDiff, Nat.reduceAdd, Nat.reduceMul, Nat.reduceSub, Nat.reduceDiv, Nat.reduceMod]
theorem W_numbered_eq {nw : Nat → Int32} {l : Nat} (hl : l < 96) (h : nw (l / 2) = nI (nu κ (l / 2))) : W_numbered nw (nI l) = some (nI (st κ l)) := by
  unfold W_numbered st
  simp (disch := omega) only [h, lt_, Option.bind_some, n_lit, n_lt, n_le, n_eq, n_cl, n_add, n_sub, n_mul, n_shr1, n_and1, n_xor1, n_div2, n_rem2, chk_nI, if_true, if_false, ite_true, ite_false, reduceIte, Nat.not_lt, Nat.not_le, not_true_eq_false, not_false_eq_true, Nat.le_refl, Nat.reduceLeDiff, Nat.reduceLT, Nat.reduceEqDiff, Nat.reduceAdd, Nat.reduceMul, Nat.reduceSub, Nat.reduceDiv, Nat.reduceMod]
theorem M_settled_eq {nb : Nat → Int32} {l : Nat} (hl : l < 96) (h : nb (l / 2) = nI (nu κ (l / 2))) : M_settled nb (nI l) = some (nI (st κ l)) := by
  unfold M_settled st
  simp (disch := omega) only [h, lt_, Option.bind_some, n_lit, n_lt, n_le, n_eq, n_cl, n_add, n_sub, n_mul, n_shr1, n_and1, n_xor1, n_div2, n_rem2, chk_nI, if_true, if_false, ite_true, ite_false, reduceIte, Nat.not_lt, Nat.not_le, not_true_eq_false, not_false_eq_true, Nat.le_refl, Nat.reduceLeDiff, Nat.reduceLT, Nat.reduceEqDiff, Nat.reduceAdd, Nat.reduceMul, Nat.reduceSub, Nat.reduceDiv, Nat.reduceMod]
/-- gates of the settled circuit, one after the other, by both -/
theorem setGates {lam gam : Nat → Nat} {le gr lm gm nw nb : Nat → Int32} (hn1 : 1 ≤ n) (hn5 : n ≤ 5) (hnk : n < k) (hk : k ≤ 48) (hin : ∀ j, j ≤ n → κ j = 0) (hre : ∀ j, j < k → re j = nI (κ j) ∧ wh j = nI (κ j) ∧ κ j < 4) (hlg : ∀ j, n < j → j < k → κ j = 0 → le j = nI (lam j) ∧ lm j = nI (lam j) ∧ gr j = nI (gam j) ∧ gm j = nI (gam j) ∧ lam j < 2 * j ∧ gam j < 2 * j ∧ κ (lam j / 2) = 0 ∧ κ (gam j / 2) = 0) (hnw : ∀ i, i < k → κ i = 0 → nw i = nI (nu κ i)) (hnb : ∀ i, i < k → nb i = nI (nu κ i)) :
    ∀ (m fu1 fu2 j : Nat) (M : MC) (fi se tr lev now : Nat → Int32), j + m = k → n < j → m < fu1 → m < fu2 → WF M → nn M = n → kk M = nu κ j → oc M 0 = 0 → oc M 1 = 0 → np M = 0 → RCc M fi se tr lev z0 z0 z0 (nI n) (nI (nu κ j)) 0 → now 1 = nI k → (∀ i, n < i → i < nu κ j → now (2 + i) = nI (ff M i) ∧ now (50 + i) = nI (gg M i)) →
    ∃ M' fi' se' tr' lev' now', WF M' ∧ nn M' = n ∧ kk M' = nu κ k ∧ RCc M' fi' se' tr' lev' z0 z0 z0 (nI n) (nI (nu κ k)) 0 ∧ (∀ K, C_settleBy_27 K (nI n) re le gr nw (nI k) fu1 (nI j) fi se tr lev (nI (nu κ j)) = K fi' se' tr' lev' (nI (nu κ k))) ∧ (∀ x K, M_settlesAll_130 K lm gm wh nb x fu2 (nI j) now = K now') ∧ (∀ i, n < i → i < nu κ k → now' (2 + i) = nI (ff M' i) ∧ now' (50 + i) = nI (gg M' i)) ∧ ∀ i, (i < 2 ∨ 98 ≤ i) → now' i = now i := by
  intro m
  induction m with
  | zero =>
    intro fu1 fu2 j M fi se tr lev now hj hnj hf1 hf2 hW e1 e2 o0 o1 o2 hc h1 hg
    obtain ⟨f1, rfl⟩ : ∃ f, fu1 = f + 1 := ⟨fu1 - 1, by omega⟩
    obtain ⟨f2, rfl⟩ : ∃ f, fu2 = f + 1 := ⟨fu2 - 1, by omega⟩
    have ej : j = k := by omega
    subst ej
    have h1' : now (Int32.toNatClampNeg 1) = nI j := h1
    refine ⟨M, fi, se, tr, lev, now, hW, e1, e2, hc, fun K => ?_, fun x K => ?_, hg, fun _ _ => rfl⟩
    · rw [C_settleBy_27, if_pos (by rw [n_le (by omega) (by omega)]; omega)]
    · rw [M_settlesAll_130, chk_lit (by decide), h1', if_pos (by rw [n_le (by omega) (by omega)]; omega)]
  | succ m ih =>
    intro fu1 fu2 j M fi se tr lev now hj hnj hf1 hf2 hW e1 e2 o0 o1 o2 hc h1 hg
    obtain ⟨f1, rfl⟩ : ∃ f, fu1 = f + 1 := ⟨fu1 - 1, by omega⟩
    obtain ⟨f2, rfl⟩ : ∃ f, fu2 = f + 1 := ⟨fu2 - 1, by omega⟩
    have h1' : now (Int32.toNatClampNeg 1) = nI k := h1
    obtain ⟨r1, r2, r3⟩ := hre j (by omega)
    have hnj2 := nu_le κ j
    have hnn : n + 1 ≤ nu κ j := by have := nu_mono κ (show n + 1 ≤ j by omega); rw [nu_inp hin (n + 1) (Nat.le_refl _)] at this; exact this
    by_cases h0 : κ j = 0
    · obtain ⟨q1, q2, q3, q4, q5, q6, q7, q8⟩ := hlg j hnj (by omega) h0
      have s1 : st κ (lam j) < 2 * kk M := by rw [e2]; exact st_lt (by omega) q7
      have s2 : st κ (gam j) < 2 * kk M := by rw [e2]; exact st_lt (by omega) q8
      have hkM : kk M < 48 := by omega
      obtain ⟨fi1, se1, tr1, lev1, w1, w2⟩ := C_addGate_eq hW hc s1 s2 hkM
      have hW2 := addG_WF hW s1 s2 hkM
      have ek : nu κ (j + 1) = nu κ j + 1 := by rw [nu_succ, if_pos h0]
      have kk2 : kk (addG M (st κ (lam j)) (st κ (gam j))) = nu κ (j + 1) := by rw [ek, ← e2]; rfl
      obtain ⟨M', fi', se', tr', lev', now', z1, z2, z3, z4, z5, z6, z7, z8⟩ := ih f1 f2 (j + 1) (addG M (st κ (lam j)) (st κ (gam j))) fi1 se1 tr1 lev1 (upd (upd now (2 + nu κ j) (nI (st κ (lam j)))) (50 + nu κ j) (nI (st κ (gam j)))) (by omega) (by omega) (by omega) (by omega) hW2 e1 kk2 o0 o1 o2 (by rw [ek, ← e2]; exact w2) (by rw [upd_ne (by omega), upd_ne (by omega)]; exact h1) (fun i hi1 hi2 => by
        show _ = nI (upN (ff M) (kk M) (st κ (lam j)) i) ∧ _ = nI (upN (gg M) (kk M) (st κ (gam j)) i)
        rw [ek] at hi2
        unfold upN
        rw [e2]
        by_cases ei : i = nu κ j
        · subst ei
          refine ⟨?_, ?_⟩
          · rw [upd_ne (by omega), upd_same, if_pos rfl]
          · rw [upd_same, if_pos rfl]
        · refine ⟨?_, ?_⟩
          · rw [upd_ne (by omega), upd_ne (by omega), if_neg ei]; exact (hg i hi1 (by omega)).1
          · rw [upd_ne (by omega), upd_ne (by omega), if_neg ei]; exact (hg i hi1 (by omega)).2)
      refine ⟨M', fi', se', tr', lev', now', z1, z2, z3, z4, fun K => ?_, fun x K => ?_, z7, fun i hi => ?_⟩
      · rw [← z5 K, C_settleBy_27, if_neg (by rw [n_le (by omega) (by omega)]; omega), chk_nI (by omega) (by omega), n_cl (by omega), r1, if_pos (by rw [h0]; rfl), chk_nI (by omega) (by omega), q1, q3, W_numbered_eq (κ := κ) (by omega) (hnw _ (by omega) q7), Option.bind_some, chk_nI (by omega) (by omega), W_numbered_eq (κ := κ) (by omega) (hnw _ (by omega) q8), Option.bind_some, w1, Option.bind_some, ek, ← e2]
        dsimp only [lt_]
        rw [nI_1]
      · rw [← z6 x K, M_settlesAll_130, chk_lit (by decide), h1', if_neg (by rw [n_le (by omega) (by omega)]; omega), chk_nI (by omega) (by omega), n_cl (by omega), r2, if_pos (by rw [h0]; rfl), chk_nI (by omega) (by omega), chk_nI (by omega) (by omega), q2, q4, hnb j (by omega), M_settled_eq (κ := κ) (by omega) (hnb _ (by omega)), Option.bind_some, M_settled_eq (κ := κ) (by omega) (hnb _ (by omega))]
        simp (disch := omega) only [lt_, Option.bind_some, n_lit, n_lt, n_le, n_eq, n_cl, n_add, n_sub, n_mul, n_shr1, n_and1, n_xor1, n_div2, n_rem2, chk_nI, if_true, if_false, ite_true, ite_false, reduceIte, Nat.not_lt, Nat.not_le, not_true_eq_false, not_false_eq_true, Nat.le_refl, Nat.reduceLeDiff, Nat.reduceLT, Nat.reduceEqDiff, Nat.reduceAdd, Nat.reduceMul, Nat.reduceSub, Nat.reduceDiv, Nat.reduceMod]
      · rw [z8 i hi, upd_ne (by omega), upd_ne (by omega)]
    · have ek : nu κ (j + 1) = nu κ j := by rw [nu_succ, if_neg h0, Nat.add_zero]
      have hne : ¬ nI (κ j) = 0 := by rw [L0, n_eq (by omega) (by omega)]; exact h0
      obtain ⟨M', fi', se', tr', lev', now', z1, z2, z3, z4, z5, z6, z7, z8⟩ := ih f1 f2 (j + 1) M fi se tr lev now (by omega) (by omega) (by omega) (by omega) hW e1 (by rw [ek]; exact e2) o0 o1 o2 (by rw [ek]; exact hc) h1 (by rw [ek]; exact hg)
      refine ⟨M', fi', se', tr', lev', now', z1, z2, z3, z4, fun K => ?_, fun x K => ?_, z7, z8⟩
      · rw [← z5 K, C_settleBy_27, if_neg (by rw [n_le (by omega) (by omega)]; omega), chk_nI (by omega) (by omega), n_cl (by omega), r1, if_neg hne, ek]
        dsimp only [lt_]
        rw [nI_1]
      · rw [← z6 x K, M_settlesAll_130, chk_lit (by decide), h1', if_neg (by rw [n_le (by omega) (by omega)]; omega), chk_nI (by omega) (by omega), n_cl (by omega), r2, if_neg hne]
        dsimp only [lt_]
        rw [nI_1]
end SET
