/-! a gate is swept, by both -/
def lp (φ : Nat → Nat) (l : Nat) : Nat := if l % 2 = 0 then φ (l / 2) else tw (φ (l / 2))
/-- forms, reasons, literals of kept gates below g, as both hold them -/
def SG (n g : Nat) (φ κ lam gam : Nat → Nat) (fo re le gr fm wh lm gm : Nat → Int32) : Prop :=
  (∀ j, j < g → fo j = nI (φ j) ∧ fm j = nI (φ j) ∧ re j = nI (κ j) ∧ wh j = nI (κ j) ∧ φ j / 2 ≤ j ∧ κ j < 4 ∧ κ (φ j / 2) = 0 ∧ (κ j = 0 → φ j = 2 * j) ∧ (j ≤ n → κ j = 0)) ∧
  ∀ j, n < j → j < g → κ j = 0 → le j = nI (lam j) ∧ lm j = nI (lam j) ∧ gr j = nI (gam j) ∧ gm j = nI (gam j) ∧ lam j < 2 * j ∧ gam j < 2 * j ∧ κ (lam j / 2) = 0 ∧ κ (gam j / 2) = 0
section GATE
variable {n g : Nat} {φ κ lam gam : Nat → Nat} {fo re le gr fm wh lm gm : Nat → Int32}
theorem lp_lt (h : SG n g φ κ lam gam fo re le gr fm wh lm gm) {l : Nat} (hl : l < 2 * g) : lp φ l < 2 * g ∧ κ (lp φ l / 2) = 0 := by
  obtain ⟨-, -, -, -, h5, -, h7, -, -⟩ := h.1 (l / 2) (by omega)
  unfold lp
  by_cases e : l % 2 = 0
  · rw [if_pos e]; exact ⟨by omega, h7⟩
  · rw [if_neg e, tw_half]; exact ⟨tw_lt (by omega), h7⟩
theorem W_formOf_eq (h : SG n g φ κ lam gam fo re le gr fm wh lm gm) {l : Nat} (hl : l < 2 * g) (hg : g ≤ 48) : W_formOf fo (nI l) = some (nI (lp φ l)) := by
  obtain ⟨h1, -⟩ := h.1 (l / 2) (by omega)
  unfold W_formOf lp
  simp (disch := omega) only [h1, lt_, Option.bind_some, n_lit, n_lt, n_le, n_eq, n_cl, n_add, n_sub, n_mul, n_shr1, n_and1, n_xor1, n_div2, n_rem2, chk_nI, if_true, if_false, ite_true, ite_false, reduceIte, Nat.not_lt, Nat.not_le, not_true_eq_false, not_false_eq_true, Nat.le_refl, Nat.reduceLeDiff, Nat.reduceLT, Nat.reduceEqDiff, Nat.reduceAdd, Nat.reduceMul, Nat.reduceSub, Nat.reduceDiv, Nat.reduceMod]
  by_cases e : l % 2 = 0
  · rw [if_pos e, e, fb_xorI, Nat.xor_zero]
  · rw [if_neg e, show l % 2 = 1 by omega, n_xor1]
theorem M_formOf_eq (h : SG n g φ κ lam gam fo re le gr fm wh lm gm) {l : Nat} (hl : l < 2 * g) (hg : g ≤ 48) : M_formOf fm (nI l) = some (nI (lp φ l)) := by
  obtain ⟨-, h1, -, -, h5, -⟩ := h.1 (l / 2) (by omega)
  unfold M_formOf lp
  simp (disch := omega) only [h1, M_turned_eq, lt_, Option.bind_some, n_lit, n_lt, n_le, n_eq, n_cl, n_add, n_sub, n_mul, n_shr1, n_and1, n_xor1, n_div2, n_rem2, chk_nI, if_true, if_false, ite_true, ite_false, reduceIte, Nat.not_lt, Nat.not_le, not_true_eq_false, not_false_eq_true, Nat.le_refl, Nat.reduceLeDiff, Nat.reduceLT, Nat.reduceEqDiff, Nat.reduceAdd, Nat.reduceMul, Nat.reduceSub, Nat.reduceDiv, Nat.reduceMod]
  by_cases e : l % 2 = 0
  · rw [if_pos e, if_pos e]
  · rw [if_neg e, if_neg e]
/-- by rules, or not -/
theorem rule_sim {a b : Nat} (hab : a ≤ b) (hb : b < 2 * g) (hg : g < 48) : (∃ f, ((a = 0 ∧ f = 0) ∨ (a = 1 ∧ f = b) ∨ (a = b ∧ f = a) ∨ (b = tw a ∧ f = 0)) ∧ W_formByRule (nI a) (nI b) = some (nI f) ∧ M_isByRules fm wh (nI g) (nI a) (nI b) = some (1, upd fm g (nI f), upd wh g 1)) ∨ (W_formByRule (nI a) (nI b) = some (-1) ∧ M_isByRules fm wh (nI g) (nI a) (nI b) = some (0, fm, wh)) := by
  have e0 : (nI a = 0) = (a = 0) := by rw [L0, n_eq (by omega) (by omega)]
  have e1 : (nI a = 1) = (a = 1) := by rw [L1, n_eq (by omega) (by omega)]
  have e2 : (nI a = nI b) = (a = b) := n_eq (by omega) (by omega)
  have e3 : (nI b = nI a ^^^ 1) = (b = tw a) := by rw [L1, n_xor1, n_eq (by omega) (by unfold tw; split <;> omega)]
  have e4 : (nI b = nI a + 1) = (b = a + 1) := by rw [nI_1, n_eq (by omega) (by omega)]
  have e5 : (nI a - nI a / 2 * 2 = 0) = (a % 2 = 0) := by rw [L2, n_div2 (by omega), n_mul, n_sub (by omega), n_rem2, L0, n_eq (by omega) (by omega)]
  unfold W_formByRule M_isByRules
  simp only [e0, e1, e2, e3, e4, e5, M_merges_eq hg, Option.bind_some]
  by_cases h0 : a = 0
  · exact Or.inl ⟨0, Or.inl ⟨h0, rfl⟩, by rw [if_pos h0]; rfl, by rw [if_pos h0]; rfl⟩
  · by_cases h1 : a = 1
    · refine Or.inl ⟨b, Or.inr (Or.inl ⟨h1, rfl⟩), by rw [if_neg h0, if_pos h1], ?_⟩
      rw [if_neg h0]
      by_cases h4 : b = a + 1
      · rw [if_pos h4, if_neg (by omega), if_pos h1]
      · rw [if_neg h4, if_pos h1]
    · by_cases h2 : a = b
      · refine Or.inl ⟨a, Or.inr (Or.inr (Or.inl ⟨h2, rfl⟩)), by rw [if_neg h0, if_neg h1, if_pos h2], ?_⟩
        rw [if_neg h0, if_neg (by omega), if_neg h1, if_pos h2, h2]
      · by_cases h3 : b = tw a
        · have hev : a % 2 = 0 := by
            rcases Nat.mod_two_eq_zero_or_one a with h | h
            · exact h
            · rw [tw_odd h] at h3; omega
          rw [tw_even hev] at h3
          refine Or.inl ⟨0, Or.inr (Or.inr (Or.inr ⟨by rw [tw_even hev]; exact h3, rfl⟩)), by rw [if_neg h0, if_neg h1, if_neg h2, if_pos (by rw [tw_even hev]; exact h3)]; rfl, ?_⟩
          rw [if_neg h0, if_pos h3, if_pos hev]; rfl
        · refine Or.inr ⟨by rw [if_neg h0, if_neg h1, if_neg h2, if_neg h3], ?_⟩
          rw [if_neg h0]
          by_cases h4 : b = a + 1
          · have hod : ¬ a % 2 = 0 := fun h => h3 (by rw [tw_even h]; exact h4)
            rw [if_pos h4, if_neg hod, if_neg h1, if_neg h2]
          · rw [if_neg h4, if_neg h1, if_neg h2]
/-- by a gate that is there, or not -/
theorem same_sim (h : SG n g φ κ lam gam fo re le gr fm wh lm gm) {a b : Nat} (ha : a < 2 * g) (hb : b < 2 * g) (hg : g < 48) {le' gr' : Nat → Int32} (hle : ∀ j, j < g → le' j = le j) (hgr : ∀ j, j < g → gr' j = gr j) (hla : le' g = nI a) (hgb : gr' g = nI b) (K : Int32 → Option (Int32 × (Nat → Int32) × (Nat → Int32))) : ∀ (k v fu1 fu2 : Nat), v + k = g → n < v → k < fu1 → k < fu2 →
    (W_sameGate_4 (some (-1)) re le' gr' (nI g) fu1 (nI v) = some (-1) ∧ M_isThere_10 K fm lm gm wh (nI g) (nI a) (nI b) fu2 (nI v) = some (0, fm, wh)) ∨ ∃ j, n < j ∧ j < g ∧ κ j = 0 ∧ lam j = a ∧ gam j = b ∧ W_sameGate_4 (some (-1)) re le' gr' (nI g) fu1 (nI v) = some (nI j) ∧ M_isThere_10 K fm lm gm wh (nI g) (nI a) (nI b) fu2 (nI v) = K (nI j) := by
  intro k
  induction k with
  | zero =>
    intro v fu1 fu2 hv hnv hf1 hf2
    obtain ⟨f1, rfl⟩ : ∃ f, fu1 = f + 1 := ⟨fu1 - 1, by omega⟩
    obtain ⟨f2, rfl⟩ : ∃ f, fu2 = f + 1 := ⟨fu2 - 1, by omega⟩
    refine Or.inl ⟨?_, ?_⟩
    · rw [W_sameGate_4, if_pos (by rw [n_le (by omega) (by omega)]; omega)]
    · rw [M_isThere_10, if_pos (by rw [n_le (by omega) (by omega)]; omega)]
  | succ k ih =>
    intro v fu1 fu2 hv hnv hf1 hf2
    obtain ⟨f1, rfl⟩ : ∃ f, fu1 = f + 1 := ⟨fu1 - 1, by omega⟩
    obtain ⟨f2, rfl⟩ : ∃ f, fu2 = f + 1 := ⟨fu2 - 1, by omega⟩
    obtain ⟨-, -, h3, h4, -, h6, -⟩ := h.1 v (by omega)
    have hrest := ih (v + 1) f1 f2 (by omega) (by omega) (by omega) (by omega)
    have s1 : W_sameGate_4 (some (-1)) re le' gr' (nI g) (f1 + 1) (nI v) = (if re v = 0 then (if le' v = le' g then (if gr' v = gr' g then some (nI v) else W_sameGate_4 (some (-1)) re le' gr' (nI g) f1 (nI (v + 1))) else W_sameGate_4 (some (-1)) re le' gr' (nI g) f1 (nI (v + 1))) else W_sameGate_4 (some (-1)) re le' gr' (nI g) f1 (nI (v + 1))) := by
      rw [W_sameGate_4, if_neg (by rw [n_le (by omega) (by omega)]; omega)]
      simp (disch := omega) only [lt_, chk_nI, n_cl, nI_1]
    have s2 : M_isThere_10 K fm lm gm wh (nI g) (nI a) (nI b) (f2 + 1) (nI v) = (if wh v = 0 then (if lm v = nI a then (if gm v = nI b then K (nI v) else M_isThere_10 K fm lm gm wh (nI g) (nI a) (nI b) f2 (nI (v + 1))) else M_isThere_10 K fm lm gm wh (nI g) (nI a) (nI b) f2 (nI (v + 1))) else M_isThere_10 K fm lm gm wh (nI g) (nI a) (nI b) f2 (nI (v + 1))) := by
      rw [M_isThere_10, if_neg (by rw [n_le (by omega) (by omega)]; omega)]
      simp (disch := omega) only [lt_, chk_nI, n_cl, nI_1]
    rw [s1, s2, h3, h4]
    by_cases hk : κ v = 0
    · obtain ⟨q1, q2, q3, q4, q5, q6, -⟩ := h.2 v hnv (by omega) hk
      rw [hk, if_pos (show nI 0 = 0 from rfl), if_pos (show nI 0 = 0 from rfl), hle v (by omega), hgr v (by omega), hla, hgb, q1, q2, q3, q4]
      by_cases c1 : nI (lam v) = nI a
      · rw [if_pos c1, if_pos c1]
        by_cases c2 : nI (gam v) = nI b
        · rw [if_pos c2, if_pos c2]
          exact Or.inr ⟨v, hnv, by omega, hk, (nI_eq (by omega) (by omega)).mp c1, (nI_eq (by omega) (by omega)).mp c2, rfl, rfl⟩
        · rw [if_neg c2, if_neg c2]; exact hrest
      · rw [if_neg c1, if_neg c1]; exact hrest
    · have c : ¬ nI (κ v) = 0 := by rw [L0, n_eq (by omega) (by omega)]; exact hk
      rw [if_neg c, if_neg c]; exact hrest
theorem W_merge_eq {x c : Int32} (hg : g < 48) : W_merge fo re (nI g) x c = some (upd fo g x, upd re g c) := by
  unfold W_merge
  dsimp only [lt_]
  rw [chk_nI hg (by omega), chk_nI hg (by omega), n_cl (by omega)]
/-- the state behind a gate that is not kept -/
theorem SG_step (h : SG n g φ κ lam gam fo re le gr fm wh lm gm) (hng : n < g) {le' gr' : Nat → Int32} (hle : ∀ j, j < g → le' j = le j) (hgr : ∀ j, j < g → gr' j = gr j) {f c : Nat} (hf : f < 2 * g) (hfk : κ (f / 2) = 0) (hc : 1 ≤ c) (hc4 : c < 4) : SG n (g + 1) (upN φ g f) (upN κ g c) lam gam (upd fo g (nI f)) (upd re g (nI c)) le' gr' (upd fm g (nI f)) (upd wh g (nI c)) lm gm := by
  refine ⟨fun j hj => ?_, fun j hj1 hj2 hk => ?_⟩
  · unfold upN
    by_cases e : j = g
    · subst e
      rw [upd_same, upd_same, upd_same, upd_same, if_pos rfl, if_pos rfl, if_neg (show ¬ f / 2 = j by omega)]
      exact ⟨rfl, rfl, rfl, rfl, by omega, hc4, hfk, fun h => by omega, fun h => by omega⟩
    · obtain ⟨h1, h2, h3, h4, h5, h6, h7, h8, h9⟩ := h.1 j (by omega)
      rw [upd_ne e, upd_ne e, upd_ne e, upd_ne e, if_neg e, if_neg e, if_neg (show ¬ φ j / 2 = g by omega)]
      exact ⟨h1, h2, h3, h4, h5, h6, h7, h8, h9⟩
  · unfold upN at hk ⊢
    by_cases e : j = g
    · rw [if_pos e] at hk; omega
    · rw [if_neg e] at hk
      obtain ⟨q1, q2, q3, q4, q5, q6, q7, q8⟩ := h.2 j hj1 (by omega) hk
      rw [hle j (by omega), hgr j (by omega), if_neg (show ¬ lam j / 2 = g by omega), if_neg (show ¬ gam j / 2 = g by omega)]
      exact ⟨q1, q2, q3, q4, q5, q6, q7, q8⟩
theorem SG_keep (h : SG n g φ κ lam gam fo re le gr fm wh lm gm) (hng : n < g) {le' gr' : Nat → Int32} (hle : ∀ j, j < g → le' j = le j) (hgr : ∀ j, j < g → gr' j = gr j) {a b : Nat} (hla : le' g = nI a) (hgb : gr' g = nI b) (ha : a < 2 * g) (hb : b < 2 * g) (hka : κ (a / 2) = 0) (hkb : κ (b / 2) = 0) : SG n (g + 1) (upN φ g (2 * g)) (upN κ g 0) (upN lam g a) (upN gam g b) (upd fo g (nI (2 * g))) (upd re g (nI 0)) le' gr' (upd fm g (nI (2 * g))) (upd wh g (nI 0)) (upd lm g (nI a)) (upd gm g (nI b)) := by
  refine ⟨fun j hj => ?_, fun j hj1 hj2 hk => ?_⟩
  · unfold upN
    by_cases e : j = g
    · subst e
      rw [upd_same, upd_same, upd_same, upd_same, if_pos rfl, if_pos rfl, if_pos (show 2 * j / 2 = j by omega)]
      exact ⟨rfl, rfl, rfl, rfl, by omega, by omega, rfl, fun _ => rfl, fun _ => rfl⟩
    · obtain ⟨h1, h2, h3, h4, h5, h6, h7, h8, h9⟩ := h.1 j (by omega)
      rw [upd_ne e, upd_ne e, upd_ne e, upd_ne e, if_neg e, if_neg e, if_neg (show ¬ φ j / 2 = g by omega)]
      exact ⟨h1, h2, h3, h4, h5, h6, h7, h8, h9⟩
  · unfold upN at hk ⊢
    by_cases e : j = g
    · subst e
      rw [hla, hgb, upd_same, upd_same, if_pos rfl, if_pos rfl, if_neg (show ¬ a / 2 = j by omega), if_neg (show ¬ b / 2 = j by omega)]
      exact ⟨rfl, rfl, rfl, rfl, ha, hb, hka, hkb⟩
    · rw [if_neg e] at hk
      obtain ⟨q1, q2, q3, q4, q5, q6, q7, q8⟩ := h.2 j hj1 (by omega) hk
      rw [hle j (by omega), hgr j (by omega), upd_ne e, upd_ne e, if_neg e, if_neg e, if_neg (show ¬ lam j / 2 = g by omega), if_neg (show ¬ gam j / 2 = g by omega)]
      exact ⟨q1, q2, q3, q4, q5, q6, q7, q8⟩
theorem nI_ne_m1 {a : Nat} (h : a < 2147483648) : ¬ nI a = -1 := by
  intro e
  have := nI_pos h
  rw [e] at this
  exact this (by decide)
/-- what forms and kept gates say of the tables -/
def SM (n g : Nat) (t : Nat → Int32) (φ κ lam gam : Nat → Nat) : Prop :=
  (∀ j, j < g → t j = litT n t (φ j)) ∧ (∀ j, n < j → j < g → κ j = 0 → t j = litT n t (lam j) &&& litT n t (gam j)) ∧ ∀ i j, i < j → j < g → κ i = 0 → κ j = 0 → DF n (t j) (t i)
theorem upN_same {f : Nat → Nat} {k x : Nat} : upN f k x k = x := if_pos rfl
theorem upN_ne {f : Nat → Nat} {k x j : Nat} (h : j ≠ k) : upN f k x j = f j := if_neg h
theorem SM_step {t : Nat → Int32} (h : SM n g t φ κ lam gam) {f c : Nat} (hf : t g = litT n t f) (hc : 1 ≤ c) : SM n (g + 1) t (upN φ g f) (upN κ g c) lam gam := by
  refine ⟨fun j hj => ?_, fun j h1 h2 h3 => ?_, fun i j h1 h2 h3 h4 => ?_⟩
  · by_cases e : j = g
    · subst e; rw [upN_same]; exact hf
    · rw [upN_ne e]; exact h.1 j (by omega)
  · by_cases e : j = g
    · subst e; rw [upN_same] at h3; omega
    · rw [upN_ne e] at h3; exact h.2.1 j h1 (by omega) h3
  · by_cases e : j = g
    · subst e; rw [upN_same] at h4; omega
    · rw [upN_ne e] at h4; rw [upN_ne (by omega)] at h3; exact h.2.2 i j h1 (by omega) h3 h4
theorem SM_keep {t : Nat → Int32} (h : SM n g t φ κ lam gam) {a b : Nat} (hT : t g = litT n t a &&& litT n t b) (hD : ∀ j, j < g → κ j = 0 → DF n (t g) (t j)) : SM n (g + 1) t (upN φ g (2 * g)) (upN κ g 0) (upN lam g a) (upN gam g b) := by
  refine ⟨fun j hj => ?_, fun j h1 h2 h3 => ?_, fun i j h1 h2 h3 h4 => ?_⟩
  · by_cases e : j = g
    · subst e; rw [upN_same]; unfold litT; rw [if_pos (by omega), show 2 * j / 2 = j by omega]
    · rw [upN_ne e]; exact h.1 j (by omega)
  · by_cases e : j = g
    · subst e; rw [upN_same, upN_same]; exact hT
    · rw [upN_ne e] at h3; rw [upN_ne e, upN_ne e]; exact h.2.1 j h1 (by omega) h3
  · by_cases e : j = g
    · subst e; rw [upN_ne (by omega)] at h3; exact hD i h1 h3
    · rw [upN_ne e] at h4; rw [upN_ne (by omega)] at h3; exact h.2.2 i j h1 (by omega) h3 h4
theorem litT_mask {t : Nat → Int32} {l : Nat} (hn1 : 1 ≤ n) (hn5 : n ≤ 5) (hd : ∀ r, r < 32 → bt (t (l / 2)) r = true → r < 2 ^ n) : ∀ r, r < 32 → bt (litT n t l) r = true → r < 2 ^ n := by
  unfold litT
  by_cases e : l % 2 = 0
  · rw [if_pos e]; exact hd
  · rw [if_neg e]; exact mask_and hn1 hn5 _
theorem rule_T {t : Nat → Int32} (hn1 : 1 ≤ n) (hn5 : n ≤ 5) (h0 : t 0 = 0) {a b f : Nat} (hdb : ∀ r, r < 32 → bt (t (b / 2)) r = true → r < 2 ^ n) (hf : (a = 0 ∧ f = 0) ∨ (a = 1 ∧ f = b) ∨ (a = b ∧ f = a) ∨ (b = tw a ∧ f = 0)) : litT n t a &&& litT n t b = litT n t f := by
  have z0 : litT n t 0 = 0 := by unfold litT; rw [if_pos rfl]; exact h0
  rcases hf with ⟨rfl, rfl⟩ | ⟨rfl, rfl⟩ | ⟨rfl, rfl⟩ | ⟨rfl, rfl⟩
  · rw [z0]; exact Int32.zero_and
  · have o1 : litT n t 1 = allR n := by
      unfold litT; rw [if_neg (by omega), show 1 / 2 = 0 from rfl, h0]
      apply b_ext; intro r hr; rw [b_and, b_xor, b_0, b_m1 r hr]; rfl
    rw [o1, Int32.and_comm]
    exact mask_eq hn1 hn5 (litT_mask hn1 hn5 hdb)
  · exact Int32.and_self
  · rw [z0]
    unfold litT
    rw [tw_half]
    apply b_ext; intro r hr
    rw [b_0]
    rcases Nat.mod_two_eq_zero_or_one a with e | e
    · rw [if_pos e, if_neg (by rw [tw_mod]; omega), b_and, b_and, b_xor, b_m1 r hr]
      cases bt (t (a / 2)) r <;> rfl
    · rw [if_neg (by omega), if_pos (by rw [tw_mod]; omega), b_and, b_and, b_xor, b_m1 r hr]
      cases bt (t (a / 2)) r <;> cases bt (allR n) r <;> rfl
/-- the core: with the two forms ordered -/
theorem core_sim {tr tb now : Nat → Int32} (h : SG n g φ κ lam gam fo re le gr fm wh lm gm) (hn1 : 1 ≤ n) (hn5 : n ≤ 5) (hng : n < g) (hg : g < 48) (hnow : now 0 = nI n) (ht : ∀ j, j ≤ g → tb j = tr j) (hd : ∀ j, j ≤ g → ∀ r, r < 32 → bt (tr j) r = true → r < 2 ^ n) {m : Nat} {ρ : Nat → Nat} {rows : Nat → Int32} {rc pr : Int32} {rb : Nat → Int32} {rm : Int32} (hR : RR n m ρ rows rc pr rb rm) (cc : Int32) {a b : Nat} (hab : a ≤ b) (hb : b < 2 * g) (hka : κ (a / 2) = 0) (hkb : κ (b / 2) = 0) (hM : SM n g tr φ κ lam gam) (h00 : tr 0 = 0) (hT : tr g = litT n tr a &&& litT n tr b) :
    ∃ c φ' lam' gam' m' ρ' fo' re' rows' rc' cc' pr' rb' rm' fm' lm' gm' wh', c < 4 ∧ W_sweepGate tr (nI n) fo re (upd le g (nI a)) (upd gr g (nI b)) rows rc cc pr (allR n) (nI g) = some (fo', re', rows', rc', cc', pr') ∧
      (Option.bind (M_isByRules fm wh (nI g) (nI a) (nI b)) (fun o23 => if o23.1 = 0 then (Option.bind (M_isThere now o23.2.1 lm gm o23.2.2 (nI g) (nI a) (nI b)) (fun o29 => if o29.1 = 0 then (M_sweepsGate_79 (fun m_rowsBehind_35 m_rowsMany_36 m_forms_37 m_why_38 m_checks_39 => Option.bind (M_merges m_forms_37 m_why_38 (nI g) ((2 : Int32) * nI g) 0) (fun o40 => chk (bnd (nI g) 48) (lt_ (upd lm (Int32.toNatClampNeg (nI g)) (nI a)) (fun m_lesser_45 => chk (bnd (nI g) 48) (lt_ (upd gm (Int32.toNatClampNeg (nI g)) (nI b)) (fun m_greater_47 => some (m_rowsBehind_35, m_rowsMany_36, o40.1, m_lesser_45, m_greater_47, o40.2, m_checks_39))))))) tb (allR n) lm gm (nI g) (nI a) (nI b) 1000 0 rb rm o29.2.1 o29.2.2 cc) else (some (rb, rm, o29.2.1, lm, gm, o29.2.2, cc)))) else (some (rb, rm, o23.2.1, lm, gm, o23.2.2, cc)))) = some (rb', rm', fm', lm', gm', wh', cc') ∧
      SG n (g + 1) φ' (upN κ g c) lam' gam' fo' re' (upd le g (nI a)) (upd gr g (nI b)) fm' wh' lm' gm' ∧ RR n m' ρ' rows' rc' pr' rb' rm' ∧ SM n (g + 1) tr φ' (upN κ g c) lam' gam' := by
  have ha : a < 2 * g := by omega
  have hle : ∀ j, j < g → upd le g (nI a) j = le j := fun j hj => upd_ne (by omega)
  have hgr : ∀ j, j < g → upd gr g (nI b) j = gr j := fun j hj => upd_ne (by omega)
  have e0 : now (Int32.toNatClampNeg 0) = nI n := hnow
  have wst : W_sweepGate tr (nI n) fo re (upd le g (nI a)) (upd gr g (nI b)) rows rc cc pr (allR n) (nI g) = Option.bind (W_formByRule (nI a) (nI b)) (fun o3 => if o3 = (-1) then (Option.bind (W_sameGate re (upd le g (nI a)) (upd gr g (nI b)) (nI g) (nI n)) (fun o6 => if o6 = (-1) then (Option.bind (W_formByChecks tr re rows rc cc pr (allR n) (nI g)) (fun o9 => if o9.1 = (-1) then (Option.bind (W_merge fo re (nI g) ((2 : Int32) * nI g) 0) (fun o16 => some (o16.1, o16.2, o9.2.1, o9.2.2.1, o9.2.2.2.1, o9.2.2.2.2))) else (Option.bind (W_merge fo re (nI g) o9.1 3) (fun o20 => some (o20.1, o20.2, o9.2.1, o9.2.2.1, o9.2.2.2.1, o9.2.2.2.2))))) else (Option.bind (W_merge fo re (nI g) ((2 : Int32) * o6) 2) (fun o24 => some (o24.1, o24.2, rows, rc, cc, pr))))) else (Option.bind (W_merge fo re (nI g) o3 1) (fun o28 => some (o28.1, o28.2, rows, rc, cc, pr)))) := by
    unfold W_sweepGate
    rw [chk_nI hg (by omega), chk_nI hg (by omega), n_cl (by omega), upd_same, upd_same]
  rw [wst]
  rcases rule_sim (fm := fm) (wh := wh) hab hb hg with ⟨f, hf, r1, r2⟩ | ⟨r1, r2⟩
  · have hf2 : f < 2 * g ∧ κ (f / 2) = 0 := by
      rcases hf with ⟨-, rfl⟩ | ⟨-, rfl⟩ | ⟨-, rfl⟩ | ⟨-, rfl⟩
      · exact ⟨by omega, (h.1 0 (by omega)).2.2.2.2.2.2.2.2 (Nat.zero_le n)⟩
      · exact ⟨hb, hkb⟩
      · exact ⟨ha, hka⟩
      · exact ⟨by omega, (h.1 0 (by omega)).2.2.2.2.2.2.2.2 (Nat.zero_le n)⟩
    refine ⟨1, _, lam, gam, m, ρ, upd fo g (nI f), upd re g (nI 1), rows, rc, cc, pr, rb, rm, upd fm g (nI f), lm, gm, upd wh g (nI 1), by omega, ?_, ?_, SG_step h hng hle hgr hf2.1 hf2.2 (by omega) (by omega), hR, SM_step hM (hT.trans (rule_T hn1 hn5 h00 (hd (b / 2) (by omega)) hf)) (by omega)⟩
    · rw [r1, Option.bind_some, if_neg (nI_ne_m1 (by omega)), W_merge_eq hg]; rfl
    · rw [r2, Option.bind_some, if_neg one_ne]; rfl
  · rw [r1, Option.bind_some, if_pos rfl, r2, Option.bind_some, if_pos rfl]
    dsimp only
    have wsame : W_sameGate re (upd le g (nI a)) (upd gr g (nI b)) (nI g) (nI n) = W_sameGate_4 (some (-1)) re (upd le g (nI a)) (upd gr g (nI b)) (nI g) 1000 (nI (n + 1)) := by
      unfold W_sameGate; dsimp only [lt_]; rw [nI_1]
    have mthere : M_isThere now fm lm gm wh (nI g) (nI a) (nI b) = M_isThere_10 (fun l4_13 => Option.bind (M_merges fm wh (nI g) ((2 : Int32) * l4_13) 2) (fun o14 => some (1, o14.1, o14.2))) fm lm gm wh (nI g) (nI a) (nI b) 1000 (nI (n + 1)) := by
      unfold M_isThere; dsimp only [lt_]; rw [chk_lit (by decide), e0, nI_1]
    rw [wsame, mthere]
    rcases same_sim h ha hb hg hle hgr upd_same upd_same (fun l4_13 => Option.bind (M_merges fm wh (nI g) ((2 : Int32) * l4_13) 2) (fun o14 => some (1, o14.1, o14.2))) (g - (n + 1)) (n + 1) 1000 1000 (by omega) (by omega) (by omega) (by omega) with ⟨s1, s2⟩ | ⟨j, hj1, hj2, hj3, hj4, hj5, s1, s2⟩
    · rw [s1, s2, Option.bind_some, if_pos rfl, Option.bind_some, if_pos rfl]
      dsimp only
      obtain ⟨m1, ρ1, rows1, rc1, cc1, pr1, rb1, rm1, hR1, hcase⟩ := looks_sim (fo := fm) (wh := wh) (tb := tb) (tr := tr) (re := re) (le := lm) (gr := gm) (x := nI a) (y := nI b) (K' := fun m_rowsBehind_35 m_rowsMany_36 m_forms_37 m_why_38 m_checks_39 => Option.bind (M_merges m_forms_37 m_why_38 (nI g) ((2 : Int32) * nI g) 0) (fun o40 => chk (bnd (nI g) 48) (lt_ (upd lm (Int32.toNatClampNeg (nI g)) (nI a)) (fun m_lesser_45 => chk (bnd (nI g) 48) (lt_ (upd gm (Int32.toNatClampNeg (nI g)) (nI b)) (fun m_greater_47 => some (m_rowsBehind_35, m_rowsMany_36, o40.1, m_lesser_45, m_greater_47, o40.2, m_checks_39))))))) hn1 hn5 hg ht hd (fun j hj => by rw [(h.1 j hj).2.2.1, (h.1 j hj).2.2.2.1]) g 0 1000 1000 m ρ rows rc cc pr rb rm (by omega) (by omega) (by omega) hR
      rcases hcase with ⟨c0, c1, c2⟩ | ⟨f, hf1, hf2, hf3, c1, c2⟩
      · refine ⟨0, _, _, _, m1, ρ1, upd fo g (nI (2 * g)), upd re g (nI 0), rows1, rc1, cc1, pr1, rb1, rm1, upd fm g (nI (2 * g)), upd lm g (nI a), upd gm g (nI b), upd wh g (nI 0), by omega, ?_, ?_, SG_keep h hng hle hgr upd_same upd_same ha hb hka hkb, hR1, SM_keep hM hT (fun j hj hk => c0 j (Nat.zero_le j) hj (by rw [(h.1 j hj).2.2.1, hk]; rfl))⟩
        · unfold W_formByChecks
          rw [show (0 : Int32) = nI 0 from rfl, c1, Option.bind_some, if_pos rfl, W_merge_eq hg, L2, n_mul]; rfl
        · refine c2.trans ?_
          rw [M_merges_eq hg, Option.bind_some, L2, n_mul, chk_nI hg (by omega)]
          dsimp only [lt_]
          rw [chk_nI hg (by omega), n_cl (by omega)]; rfl
      · have hfk : κ (f / 2) = 0 := by
          obtain ⟨-, -, q3, -, -, q6, -⟩ := h.1 (f / 2) (by omega)
          rw [q3, L0, n_eq (by omega) (by omega)] at hf2; exact hf2
        refine ⟨3, _, lam, gam, m1, ρ1, upd fo g (nI f), upd re g (nI 3), rows1, rc1, cc1, pr1, rb1, rm1, upd fm g (nI f), lm, gm, upd wh g (nI 3), by omega, ?_, ?_, SG_step h hng hle hgr hf1 hfk (by omega) (by omega), hR1, SM_step hM hf3 (by omega)⟩
        · unfold W_formByChecks
          rw [show (0 : Int32) = nI 0 from rfl, c1, Option.bind_some, if_neg (nI_ne_m1 (by omega)), W_merge_eq hg]; rfl
        · exact c2
    · refine ⟨2, _, lam, gam, m, ρ, upd fo g (nI (2 * j)), upd re g (nI 2), rows, rc, cc, pr, rb, rm, upd fm g (nI (2 * j)), lm, gm, upd wh g (nI 2), by omega, ?_, ?_, SG_step h hng hle hgr (show 2 * j < 2 * g by omega) (by rw [show 2 * j / 2 = j by omega]; exact hj3) (by omega) (by omega), hR, SM_step hM (by rw [hT, ← hj4, ← hj5, ← hM.2.1 j hj1 hj2 hj3]; unfold litT; rw [if_pos (by omega), show 2 * j / 2 = j by omega]) (by omega)⟩
      · rw [s1, Option.bind_some, if_neg (nI_ne_m1 (by omega)), W_merge_eq hg, L2, n_mul]; rfl
      · rw [s2, M_merges_eq hg, L2, n_mul, Option.bind_some, Option.bind_some, if_neg one_ne]
end GATE
