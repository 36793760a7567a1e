/-! simple tellers, by both -/
def RF (xb xn xf : Int32) (ref : Nat → Int32) : Prop := ref 0 = xb ∧ ref 1 = xn ∧ ref 2 = xf
section GET
variable {M : MC} {fi se tr lev li co pa : Nat → Int32} {ic nc pc : Int32} {now : Nat → Int32} {xb xn xf : Int32} {ref : Nat → Int32}
theorem ref_bad (h : RF xb xn xf ref) : ∃ xb' xn' xf' ref', X_refuse xb xn xf (-2) = some (-2, xb', xn', xf') ∧ M_bad ref = some (-2, ref') ∧ RF xb' xn' xf' ref' := by
  obtain ⟨rfl, rfl, rfl⟩ := h
  exact ⟨ref 0 + 1, ref 1, ref 2, upd ref 0 (ref 0 + 1), rfl, rfl, upd_same, upd_ne (by decide), upd_ne (by decide)⟩
theorem ref_no (h : RF xb xn xf ref) : ∃ xb' xn' xf' ref', X_refuse xb xn xf (-3) = some (-3, xb', xn', xf') ∧ M_no ref = some (-3, ref') ∧ RF xb' xn' xf' ref' := by
  obtain ⟨rfl, rfl, rfl⟩ := h
  exact ⟨ref 0, ref 1 + 1, ref 2, upd ref 1 (ref 1 + 1), rfl, rfl, upd_ne (by decide), upd_same, upd_ne (by decide)⟩
theorem ref_full (h : RF xb xn xf ref) : ∃ xb' xn' xf' ref', X_refuse xb xn xf (-4) = some (-4, xb', xn', xf') ∧ M_full ref = some (-4, ref') ∧ RF xb' xn' xf' ref' := by
  obtain ⟨rfl, rfl, rfl⟩ := h
  exact ⟨ref 0, ref 1, ref 2 + 1, upd ref 2 (ref 2 + 1), rfl, rfl, upd_ne (by decide), upd_ne (by decide), upd_same⟩
theorem isNode (x : Int32) (k : Nat) (h1 : 1 ≤ k) (h48 : k ≤ 48) : (C_isNode (nI k) x = some 0 ∧ ∀ now : Nat → Int32, now 1 = nI k → M_isNode now x = some 0) ∨ ∃ j, j < k ∧ x = nI j := by
  rcases arg3 x k (by omega) with h | ⟨h, h'⟩ | h
  · refine Or.inl ⟨by unfold C_isNode; rw [if_pos h], fun now e => ?_⟩
    unfold M_isNode
    rw [chk_lit (by decide), within_lo h, Option.bind_some]
  · refine Or.inl ⟨by unfold C_isNode; rw [if_neg h, if_pos h'], fun now e => ?_⟩
    have e' : now (Int32.toNatClampNeg 1) = nI k := e
    unfold M_isNode
    rw [chk_lit (by decide), e', L1, n_sub h1, within_hi ((le_pred h1 (by omega)).mp h'), Option.bind_some]
  · exact Or.inr h
theorem C_isNode_in {j k : Nat} (hj : j < k) (h48 : k ≤ 48) : C_isNode (nI k) (nI j) = some 1 := by
  unfold C_isNode
  rw [if_neg (nlt0 j (by omega)), if_neg (by rw [n_le (by omega) (by omega)]; omega)]
theorem M_isNode_in {now : Nat → Int32} {j k : Nat} (e : now 1 = nI k) (hj : j < k) (h48 : k ≤ 48) : M_isNode now (nI j) = some 1 := by
  have e' : now (Int32.toNatClampNeg 1) = nI k := e
  unfold M_isNode
  rw [chk_lit (by decide), e', L1, n_sub (by omega), within_in (nlt0 j (by omega)) (by rw [n_lt (by omega) (by omega)]; omega), Option.bind_some, L1]
theorem isGate (x : Int32) (n k : Nat) (hnk : n < k) (h48 : k ≤ 48) : (C_isGate (nI n) (nI k) x = some 0 ∧ ∀ now : Nat → Int32, now 0 = nI n → now 1 = nI k → M_isGate now x = some 0) ∨ ∃ j, n < j ∧ j < k ∧ x = nI j := by
  rcases arg3 x k (by omega) with h | ⟨h, h'⟩ | ⟨j, hj, rfl⟩
  · refine Or.inl ⟨?_, fun now e0 e => ?_⟩
    · unfold C_isGate
      rw [if_pos]
      have a : x.toInt < 0 := by rw [Int32.lt_iff_toInt_lt] at h; exact h
      rw [Int32.le_iff_toInt_le, show (nI n).toInt = (n : Int) from nI_toInt (by omega)]
      omega
    · have := (isNode x k (by omega) h48)
      rcases this with ⟨-, b⟩ | ⟨j, hj, rfl⟩
      · unfold M_isGate; rw [b now e, Option.bind_some, if_pos rfl]
      · exact absurd h (nlt0 j (by omega))
  · refine Or.inl ⟨?_, fun now e0 e => ?_⟩
    · unfold C_isGate
      by_cases c : x ≤ nI n
      · rw [if_pos c]
      · rw [if_neg c, if_pos h']
    · have := (isNode x k (by omega) h48)
      rcases this with ⟨-, b⟩ | ⟨j, hj, rfl⟩
      · unfold M_isGate; rw [b now e, Option.bind_some, if_pos rfl]
      · rw [n_le (by omega) (by omega)] at h'; omega
  · by_cases c : n < j
    · exact Or.inr ⟨j, c, hj, rfl⟩
    · refine Or.inl ⟨?_, fun now e0 e => ?_⟩
      · unfold C_isGate; rw [if_pos (by rw [n_le (by omega) (by omega)]; omega)]
      · have e0' : now (Int32.toNatClampNeg 0) = nI n := e0
        unfold M_isGate
        rw [M_isNode_in e hj h48, Option.bind_some, if_neg one_ne, chk_lit (by decide), e0', if_pos (by rw [n_le (by omega) (by omega)]; omega)]
theorem C_isGate_in {j n k : Nat} (hn : n < j) (hj : j < k) (h48 : k ≤ 48) : C_isGate (nI n) (nI k) (nI j) = some 1 := by
  unfold C_isGate
  rw [if_neg (by rw [n_le (by omega) (by omega)]; omega), if_neg (by rw [n_le (by omega) (by omega)]; omega)]
theorem M_isGate_in {now : Nat → Int32} {j n k : Nat} (e0 : now 0 = nI n) (e : now 1 = nI k) (hn : n < j) (hj : j < k) (h48 : k ≤ 48) : M_isGate now (nI j) = some 1 := by
  have e0' : now (Int32.toNatClampNeg 0) = nI n := e0
  unfold M_isGate
  rw [M_isNode_in e hj h48, Option.bind_some, if_neg one_ne, chk_lit (by decide), e0', if_neg (by rw [n_le (by omega) (by omega)]; omega)]
theorem isSide (x : Int32) : (C_isSide x = some 0 ∧ M_isSide x = some 0) ∨ ∃ s, s < 2 ∧ x = nI s ∧ C_isSide x = some 1 ∧ M_isSide x = some 1 := by
  rcases arg3 x 2 (by omega) with h | ⟨h, h'⟩ | ⟨j, hj, rfl⟩
  · refine Or.inl ⟨by unfold C_isSide; rw [if_pos h], ?_⟩
    unfold M_isSide
    rw [if_neg (by rintro rfl; exact absurd h (by decide)), if_neg (by rintro rfl; exact absurd h (by decide))]
  · refine Or.inl ⟨by unfold C_isSide; rw [if_neg h, if_pos (show (2 : Int32) ≤ x from h')], ?_⟩
    unfold M_isSide
    rw [if_neg (by rintro rfl; exact absurd h' (by decide)), if_neg (by rintro rfl; exact absurd h' (by decide))]
  · refine Or.inr ⟨j, hj, rfl, ?_⟩
    rcases (show j = 0 ∨ j = 1 by omega) with rfl | rfl <;> exact ⟨by decide, by decide⟩
theorem g_of (hW : WF M) (hc : RCc M fi se tr lev li co pa ic nc pc) (hm : RCm M now) (hF : RF xb xn xf ref) (x y : Int32) : ∃ r xb' xn' xf' ref', X_of xb xn xf fi se ic nc x y = some (r, xb', xn', xf') ∧ M_of now ref x y = some (r, ref') ∧ RF xb' xn' xf' ref' := by
  have hk48 := hW.2.1.2
  obtain ⟨rfl, rfl, h3, -⟩ := hc
  obtain ⟨xb', xn', xf', ref', b1, b2, b3⟩ := ref_bad hF
  rcases isGate x (nn M) (kk M) hW.2.1.1 hk48 with ⟨h1, h2⟩ | ⟨j, hn, hj, rfl⟩
  · refine ⟨-2, xb', xn', xf', ref', ?_, ?_, b3⟩
    · unfold X_of; rw [h1, Option.bind_some, if_pos rfl, b1]; rfl
    · unfold M_of; rw [h2 now hm.1 hm.2.1, Option.bind_some, if_pos rfl, b2]; rfl
  · rcases isSide y with ⟨h1, h2⟩ | ⟨s, hs, rfl, h1, h2⟩
    · refine ⟨-2, xb', xn', xf', ref', ?_, ?_, b3⟩
      · unfold X_of
        rw [C_isGate_in hn hj hk48, Option.bind_some, if_neg one_ne, b1]
        unfold C_isSide at h1
        by_cases c0 : y < 0
        · rw [if_pos c0]; rfl
        · rw [if_neg c0] at h1 ⊢
          by_cases c1 : y ≤ 1
          · rw [if_neg (by intro hh; exact absurd (Int32.le_trans hh c1) (by decide))] at h1
            exact absurd (Option.some.inj h1) (by decide)
          · rw [if_neg c1]; rfl
      · unfold M_of; rw [M_isGate_in hm.1 hm.2.1 hn hj hk48, Option.bind_some, if_neg one_ne, h2, Option.bind_some, if_pos rfl, b2]; rfl
    · obtain ⟨q1, q2⟩ := h3 j hn hj
      obtain ⟨q3, q4⟩ := hm.2.2.1 j hn hj
      rcases (show s = 0 ∨ s = 1 by omega) with rfl | rfl
      · refine ⟨nI (ff M j), xb, xn, xf, ref, ?_, ?_, hF⟩
        · unfold X_of; rw [C_isGate_in hn hj hk48, Option.bind_some, if_neg one_ne, if_neg (by decide), if_pos (by decide), if_pos (show nI 0 = 0 from rfl), chk_nI (by omega) (by omega), n_cl (by omega), q1]
        · unfold M_of; rw [M_isGate_in hm.1 hm.2.1 hn hj hk48, Option.bind_some, if_neg one_ne, h2, Option.bind_some, if_neg one_ne, if_pos (show nI 0 = 0 from rfl), L2, n_add, chk_nI (by omega) (by omega), n_cl (by omega), q3]
      · refine ⟨nI (gg M j), xb, xn, xf, ref, ?_, ?_, hF⟩
        · unfold X_of; rw [C_isGate_in hn hj hk48, Option.bind_some, if_neg one_ne, if_neg (by decide), if_pos (by decide), if_neg (by decide), chk_nI (by omega) (by omega), n_cl (by omega), q2]
        · unfold M_of; rw [M_isGate_in hm.1 hm.2.1 hn hj hk48, Option.bind_some, if_neg one_ne, h2, Option.bind_some, if_neg one_ne, if_neg (by decide), L50, n_add, chk_nI (by omega) (by omega), n_cl (by omega), q4]
theorem litT_one (hW : WF M) {t t' : Nat → Int32} (h : IsT M t) (h' : IsT M t') {l : Nat} (hl : l < 2 * kk M) : litT (nn M) t l = litT (nn M) t' l := litT_cong (IsT_one hW h h' _ (by omega))
theorem M_tellTable_eq (hW : WF M) (hm : RCm M now) {t : Nat → Int32} (ht : IsT M t) (tb : Nat → Int32) (al : Int32) {l : Nat} (hl : l < 2 * kk M) : ∃ tb', M_tellTable now tb al (nI l) = some (litT (nn M) t l, tb', allR (nn M)) := by
  have hk48 := hW.2.1.2
  obtain ⟨t', a1, a2⟩ := M_laysTables_eq hW hm tb al
  refine ⟨t', ?_⟩
  unfold M_tellTable
  rw [a1, Option.bind_some, M_tableOf_eq (by omega), Option.bind_some, litT_one hW a2 ht hl]
theorem g_table (hW : WF M) (hc : RCc M fi se tr lev li co pa ic nc pc) (hm : RCm M now) (hF : RF xb xn xf ref) (tb : Nat → Int32) (al x : Int32) : ∃ r xb' xn' xf' ref' tb' al', X_table xb xn xf tr ic nc x = some (r, xb', xn', xf') ∧ M_table now ref tb al x = some (r, ref', tb', al') ∧ RF xb' xn' xf' ref' := by
  have hk48 := hW.2.1.2
  have hk1 := hW.2.1.1
  obtain ⟨rfl, rfl, h3, h4, -⟩ := hc
  rcases isLit x (kk M) (by omega) hk48 with ⟨h1, h2⟩ | ⟨j, hj, rfl⟩
  · obtain ⟨xb', xn', xf', ref', b1, b2, b3⟩ := ref_bad hF
    refine ⟨-2, xb', xn', xf', ref', tb, al, ?_, ?_, b3⟩
    · unfold X_table; rw [h1, Option.bind_some, if_pos rfl, b1]; rfl
    · unfold M_table; rw [h2 now hm.2.1, Option.bind_some, if_pos rfl, b2]; rfl
  · obtain ⟨tb', a1⟩ := M_tellTable_eq hW hm h4 tb al hj
    refine ⟨litT (nn M) tr j, xb, xn, xf, ref, tb', allR (nn M), ?_, ?_, hF⟩
    · unfold X_table; rw [C_isLit_in hj hk48, Option.bind_some, if_neg one_ne, C_truthOf_eq hW.1.1 hW.1.2 (by omega), Option.bind_some]
    · unfold M_table; rw [M_isLit_in hm.2.1 hj hk48, Option.bind_some, if_neg one_ne, a1, Option.bind_some]
theorem g_at (hW : WF M) (hc : RCc M fi se tr lev li co pa ic nc pc) (hm : RCm M now) (hF : RF xb xn xf ref) (tb : Nat → Int32) (al x y : Int32) : ∃ r xb' xn' xf' ref' tb' al', X_at xb xn xf tr ic nc x y = some (r, xb', xn', xf') ∧ M_at now ref tb al x y = some (r, ref', tb', al') ∧ RF xb' xn' xf' ref' := by
  have hk48 := hW.2.1.2
  have hk1 := hW.2.1.1
  obtain ⟨rfl, rfl, h3, h4, -⟩ := hc
  obtain ⟨xb', xn', xf', ref', b1, b2, b3⟩ := ref_bad hF
  rcases isLit x (kk M) (by omega) hk48 with ⟨h1, h2⟩ | ⟨j, hj, rfl⟩
  · refine ⟨-2, xb', xn', xf', ref', tb, al, ?_, ?_, b3⟩
    · unfold X_at; rw [h1, Option.bind_some, if_pos rfl, b1]; rfl
    · unfold M_at; rw [h2 now hm.2.1, Option.bind_some, if_pos rfl, b2]; rfl
  · rcases isRow y (nn M) hW.1.1 hW.1.2 with ⟨h1, h2⟩ | ⟨r, hr, rfl⟩
    · refine ⟨-2, xb', xn', xf', ref', tb, al, ?_, ?_, b3⟩
      · unfold X_at; rw [C_isLit_in hj hk48, Option.bind_some, if_neg one_ne, h1, Option.bind_some, if_pos rfl, b1]; rfl
      · unfold M_at; rw [M_isLit_in hm.2.1 hj hk48, Option.bind_some, if_neg one_ne, M_rows_eq hm.1 hW.1.1 hW.1.2, Option.bind_some, h2, Option.bind_some, if_pos rfl, b2]; rfl
    · obtain ⟨tb', a1⟩ := M_tellTable_eq hW hm h4 tb al hj
      have hr32 := (pow_n hW.1.1 hW.1.2).2
      refine ⟨nI (if bt (litT (nn M) tr j) r then 1 else 0), xb, xn, xf, ref, tb', allR (nn M), ?_, ?_, hF⟩
      · unfold X_at; rw [C_isLit_in hj hk48, Option.bind_some, if_neg one_ne, C_isRow_in hW.1.1 hW.1.2 hr, Option.bind_some, if_neg one_ne, C_truthOf_eq hW.1.1 hW.1.2 (by omega), Option.bind_some, bit1u _ (by omega)]
      · unfold M_at; rw [M_isLit_in hm.2.1 hj hk48, Option.bind_some, if_neg one_ne, M_rows_eq hm.1 hW.1.1 hW.1.2, Option.bind_some, M_isRow_in hW.1.1 hW.1.2 hr, Option.bind_some, if_neg one_ne, a1, Option.bind_some]
        dsimp only
        rw [bit1 _ (by omega)]
theorem g_outs (hW : WF M) (hc : RCc M fi se tr lev li co pa ic nc pc) (hm : RCm M now) (hF : RF xb xn xf ref) (x y : Int32) : ∃ r xb' xn' xf' ref', X_outs xb xn xf li co x y = some (r, xb', xn', xf') ∧ M_outs now ref x y = some (r, ref') ∧ RF xb' xn' xf' ref' := by
  obtain ⟨rfl, rfl, h3, h4, h5, h6, h7, -⟩ := hc
  obtain ⟨m1, m2, m3, m4, m5, -⟩ := hm
  obtain ⟨xb', xn', xf', ref', b1, b2, b3⟩ := ref_bad hF
  rcases isSide x with ⟨h1, h2⟩ | ⟨s, hs, rfl, h1, h2⟩
  · refine ⟨-2, xb', xn', xf', ref', ?_, ?_, b3⟩
    · unfold X_outs; rw [h1, Option.bind_some, if_pos rfl, b1]; rfl
    · unfold M_outs; rw [h2, Option.bind_some, if_pos rfl, b2]; rfl
  · by_cases hy : 0 ≤ y
    · have e1 : co s = nI (oc M s) := by
        rcases (show s = 0 ∨ s = 1 by omega) with rfl | rfl
        · exact h6.1
        · exact h6.2
      have e2 : now (98 + s) = nI (oc M s) := by
        rcases (show s = 0 ∨ s = 1 by omega) with rfl | rfl
        · exact m4.1
        · exact m4.2
      have hc6 := oc6 hW hs
      by_cases hlt : nI (oc M s) ≤ y
      · refine ⟨-1, xb, xn, xf, ref, ?_, ?_, hF⟩
        · unfold X_outs; rw [h1, Option.bind_some, if_neg one_ne, if_pos hy, chk_nI (by omega) (by omega), n_cl (by omega), e1, if_pos hlt]
        · unfold M_outs; rw [h2, Option.bind_some, if_neg one_ne, if_pos hy, L98, n_add, chk_nI (by omega) (by omega), n_cl (by omega), e2, if_pos hlt]
      · rcases arg3 y (oc M s) (by omega) with h | ⟨h, h'⟩ | ⟨j, hj, rfl⟩
        · exact absurd hy (by rw [Int32.not_le]; exact h)
        · exact absurd h' hlt
        · refine ⟨nI (ol M s j), xb, xn, xf, ref, ?_, ?_, hF⟩
          · unfold X_outs C_outOf; rw [h1, Option.bind_some, if_neg one_ne, if_pos hy, chk_nI (by omega) (by omega), n_cl (by omega), e1, if_neg hlt, L6, n_mul, n_add, chk_nI (by omega) (by omega), n_cl (by omega), h7 s j hs hj, Option.bind_some]
          · unfold M_outs; rw [h2, Option.bind_some, if_neg one_ne, if_pos hy, L98, L100, L6, n_add, n_mul, n_add, n_add, chk_nI (by omega) (by omega), n_cl (by omega), e2, if_neg hlt, chk_nI (by omega) (by omega), n_cl (by omega), m5 s j hs hj]
    · refine ⟨-2, xb', xn', xf', ref', ?_, ?_, b3⟩
      · unfold X_outs; rw [h1, Option.bind_some, if_neg one_ne, if_neg hy, b1]; rfl
      · unfold M_outs; rw [h2, Option.bind_some, if_neg one_ne, if_neg hy, b2]; rfl
end GET
