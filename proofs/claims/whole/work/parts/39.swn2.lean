/-! lines, pairs of outs, verdict, settling as calls -/
theorem lt_m1 (x : Int32) : x < -1 ∨ x = -1 ∨ (¬ x < 0 ∧ ¬ x < -1 ∧ ¬ x = -1) := by
  rcases Int.lt_trichotomy x.toInt (-1) with h | h | h
  · exact Or.inl (by rw [Int32.lt_iff_toInt_lt]; exact h)
  · exact Or.inr (Or.inl (Int32.toInt_inj.mp h))
  · refine Or.inr (Or.inr ⟨?_, ?_, ?_⟩)
    · rw [Int32.lt_iff_toInt_lt]; show ¬ x.toInt < 0; omega
    · rw [Int32.lt_iff_toInt_lt]; show ¬ x.toInt < -1; omega
    · intro e; rw [e] at h; exact absurd h (by decide)
section SWN2
variable {M : MC} {fi se tr lev li co pa : Nat → Int32} {ic nc pc : Int32} {fo re le gr lg rows gb : Nat → Int32} {lc rc cc pr al : Int32} {yf ys yt yl yi yo yp : Nat → Nat → Int32} {yn yk yq : Nat → Int32} {yw yz : Int32} {now past : Nat → Int32} {stt : Int32} {x0 xb xn xf : Int32} {ref : Nat → Int32} {tb : Nat → Int32} {al2 : Int32} {rb : Nat → Int32} {rm : Int32} {fm lm gm wh : Nat → Int32} {ck : Int32}
theorem s_lines (hQ : RQ x0 fi se tr lev li co pa ic nc pc fo re le gr lg rows gb lc rc cc pr al yf ys yt yl yi yo yp yn yk yq yw yz now past stt) (hF : RF xb xn xf ref) (x y : Int32) :
    ∃ r x0' xb' xn' xf' fo' re' le' gr' lg' rows' gb' lc' rc' cc' pr' al' ref' tb' al2' rb' rm' fm' lm' gm' wh' ck', X_lines x0 xb xn xf fi se tr pa ic nc pc fo re le gr lg rows gb lc rc cc pr al x y = some (r, x0', xb', xn', xf', fo', re', le', gr', lg', rows', gb', lc', rc', cc', pr', al') ∧ M_lines now ref tb al2 rb rm fm lm gm wh ck x y = some (r, ref', tb', al2', rb', rm', fm', lm', gm', wh', ck') ∧ RQ x0' fi se tr lev li co pa ic nc pc fo' re' le' gr' lg' rows' gb' lc' rc' cc' pr' al' yf ys yt yl yi yo yp yn yk yq yw yz now past stt ∧ RF xb' xn' xf' ref' := by
  have hQ' := hQ
  obtain ⟨M, hW, hc, hm, hH, hS⟩ := hQ
  have hk48 := hW.2.1.2
  have hkn := hW.2.1.1
  obtain ⟨xb', xn', xf', ref', b1, b2, b3⟩ := ref_bad hF
  rcases lt_m1 x with h | rfl | ⟨hx, hx2, hx3⟩
  · refine ⟨-2, x0, xb', xn', xf', fo, re, le, gr, lg, rows, gb, lc, rc, cc, pr, al, ref', tb, al2, rb, rm, fm, lm, gm, wh, ck, ?_, ?_, hQ', b3⟩
    · unfold X_lines; rw [if_pos h, b1]; rfl
    · unfold M_lines; rw [if_pos h, b2]; rfl
  · rcases arg3 y 3 (by omega) with hy | ⟨hy, hy'⟩ | ⟨j, hj, rfl⟩
    · refine ⟨-2, x0, xb', xn', xf', fo, re, le, gr, lg, rows, gb, lc, rc, cc, pr, al, ref', tb, al2, rb, rm, fm, lm, gm, wh, ck, ?_, ?_, hQ', b3⟩
      · unfold X_lines; rw [if_neg (by decide), if_pos hy, b1]; rfl
      · unfold M_lines; rw [if_neg (by decide), if_pos rfl, within_lo hy, Option.bind_some, if_pos rfl, b2]; rfl
    · have h2 : (2 : Int32) < y := (le_pred (a := 3) (by omega) (by omega)).mp hy'
      refine ⟨-2, x0, xb', xn', xf', fo, re, le, gr, lg, rows, gb, lc, rc, cc, pr, al, ref', tb, al2, rb, rm, fm, lm, gm, wh, ck, ?_, ?_, hQ', b3⟩
      · unfold X_lines; rw [if_neg (by decide), if_neg hy, if_pos h2, b1]; rfl
      · unfold M_lines; rw [if_neg (by decide), if_pos rfl, within_hi (Int32.lt_trans (show (0 : Int32) < 2 by decide) h2), Option.bind_some, if_pos rfl, b2]; rfl
    · have y1 : ¬ nI j < 0 := nlt0 j (by omega)
      have y2 : ¬ (2 : Int32) < nI j := by rw [L2, n_lt (by omega) (by omega)]; omega
      by_cases hj0 : j = 0
      · subst hj0
        obtain ⟨fo', re', le', gr', lg', rows', gb', lc', rc', cc', pr', al', e1, hS'⟩ := sweepNow_sim hW hc hm hS
        obtain ⟨tb', rb', rm', fm', lm', gm', wh', ck', e2, -, -, -, κ, ⟨φ, lam, gam, hSG, -⟩, -, hL, -⟩ := hS' now hm tb al2 rb rm fm lm gm wh ck
        have hs := ct_sum (n := nn M) κ (kk M) (by omega)
        have e0' : now (Int32.toNatClampNeg 0) = nI (nn M) := hm.1
        have e1' : now (Int32.toNatClampNeg 1) = nI (kk M) := hm.2.1
        refine ⟨nI (fb_ct (pl (nn M) κ) (kk M)), 0, xb, xn, xf, fo', re', le', gr', lg', rows', gb', lc', rc', cc', pr', al', ref, tb', allR (nn M), rb', rm', fm', lm', gm', wh', ck', ?_, ?_, ⟨M, hW, hc, hm, hH, fun _ => hS'⟩, hF⟩
        · unfold X_lines; rw [if_neg (by decide), if_neg y1, if_neg y2, if_pos rfl, if_pos (show nI 0 = 0 from rfl), e1, Option.bind_some]; dsimp only; rw [hL.1]
        · unfold M_lines; rw [if_neg (by decide), if_pos rfl, show M_within (nI 0) 0 0 = some 1 from rfl, Option.bind_some, if_neg one_ne, e2, Option.bind_some, chk_lit (by decide), chk_lit (by decide), e0', e1']; dsimp only; rw [L0, merged_eq hSG hkn hk48 hm.1 hm.2.1 (by omega), Option.bind_some, L1, n_sub (by omega), n_sub (by omega), n_sub (by omega), show kk M - nn M - 1 - fb_ct (pc_ (nn M) κ 0) (kk M) = fb_ct (pl (nn M) κ) (kk M) by omega]
      · refine ⟨-2, x0, xb', xn', xf', fo, re, le, gr, lg, rows, gb, lc, rc, cc, pr, al, ref', tb, al2, rb, rm, fm, lm, gm, wh, ck, ?_, ?_, hQ', b3⟩
        · unfold X_lines; rw [if_neg (by decide), if_neg y1, if_neg y2, if_pos rfl, if_neg (by rw [L0, n_eq (by omega) (by omega)]; exact hj0), b1]; rfl
        · unfold M_lines; rw [if_neg (by decide), if_pos rfl, within_hi (show (0 : Int32) < nI j by rw [L0, n_lt (by omega) (by omega)]; omega), Option.bind_some, if_pos rfl, b2]; rfl
  · rcases arg3 y 3 (by omega) with hy | ⟨hy, hy'⟩ | ⟨j, hj, rfl⟩
    · refine ⟨-2, x0, xb', xn', xf', fo, re, le, gr, lg, rows, gb, lc, rc, cc, pr, al, ref', tb, al2, rb, rm, fm, lm, gm, wh, ck, ?_, ?_, hQ', b3⟩
      · unfold X_lines; rw [if_neg hx2, if_pos hy, b1]; rfl
      · unfold M_lines; rw [if_neg hx2, if_neg hx3, within_lo hy, Option.bind_some, if_pos rfl, b2]; rfl
    · have h2 : (2 : Int32) < y := (le_pred (a := 3) (by omega) (by omega)).mp hy'
      refine ⟨-2, x0, xb', xn', xf', fo, re, le, gr, lg, rows, gb, lc, rc, cc, pr, al, ref', tb, al2, rb, rm, fm, lm, gm, wh, ck, ?_, ?_, hQ', b3⟩
      · unfold X_lines; rw [if_neg hx2, if_neg hy, if_pos h2, b1]; rfl
      · unfold M_lines; rw [if_neg hx2, if_neg hx3, within_hi h2, Option.bind_some, if_pos rfl, b2]; rfl
    · have y1 : ¬ nI j < 0 := nlt0 j (by omega)
      have y2 : ¬ (2 : Int32) < nI j := by rw [L2, n_lt (by omega) (by omega)]; omega
      have y3 : M_within (nI j) 0 2 = some 1 := within_in y1 y2
      obtain ⟨fo', re', le', gr', lg', rows', gb', lc', rc', cc', pr', al', e1, hS'⟩ := sweepNow_sim hW hc hm hS
      obtain ⟨tb', rb', rm', fm', lm', gm', wh', ck', e2, -, -, -, κ, ⟨φ, lam, gam, hSG, -⟩, -, hL, -⟩ := hS' now hm tb al2 rb rm fm lm gm wh ck
      rcases lineAt_eq hSG hkn hk48 hm.1 hm.2.1 hL hx with ⟨l1, l2⟩ | ⟨l1, a, g, rfl, ha, hg, hlg, l2⟩
      · refine ⟨-5, 0, xb, xn, xf, fo', re', le', gr', lg', rows', gb', lc', rc', cc', pr', al', ref, tb', allR (nn M), rb', rm', fm', lm', gm', wh', ck', ?_, ?_, ⟨M, hW, hc, hm, hH, fun _ => hS'⟩, hF⟩
        · unfold X_lines; rw [if_neg hx2, if_neg y1, if_neg y2, if_neg hx3, e1, Option.bind_some]; dsimp only; rw [if_pos l1]
        · unfold M_lines; rw [if_neg hx2, if_neg hx3, y3, Option.bind_some, if_neg one_ne, e2, Option.bind_some]; dsimp only; rw [l2, Option.bind_some, if_pos rfl]
      · obtain ⟨q1, q2, q3, q4, -⟩ := hSG.1 g hg
        have key : ∃ r, W_lineOf fo' re' lg' (nI a) (nI j) = some r ∧ (if nI j = 0 then (some (nI g, ref, tb', allR (nn M), rb', rm', fm', lm', gm', wh', ck')) else (if nI j = 1 then (chk (bnd (nI g) 48) (some (fm' (Int32.toNatClampNeg (nI g)), ref, tb', allR (nn M), rb', rm', fm', lm', gm', wh', ck'))) else (chk (bnd (nI g) 48) (some (wh' (Int32.toNatClampNeg (nI g)), ref, tb', allR (nn M), rb', rm', fm', lm', gm', wh', ck'))))) = some (r, ref, tb', allR (nn M), rb', rm', fm', lm', gm', wh', ck') := by
          unfold W_lineOf
          rw [chk_nI ha (by omega), n_cl (by omega), hlg, lt_eq, chk_nI (by omega) (by omega), chk_nI (by omega) (by omega), chk_nI (by omega) (by omega), chk_nI (by omega) (by omega), n_cl (by omega), q1, q2, q3, q4]
          rcases (show j = 0 ∨ j = 1 ∨ j = 2 by omega) with rfl | rfl | rfl
          · exact ⟨nI g, rfl, rfl⟩
          · exact ⟨nI (φ g), rfl, rfl⟩
          · exact ⟨nI (κ g), rfl, rfl⟩
        obtain ⟨r, k1, k2⟩ := key
        refine ⟨r, 0, xb, xn, xf, fo', re', le', gr', lg', rows', gb', lc', rc', cc', pr', al', ref, tb', allR (nn M), rb', rm', fm', lm', gm', wh', ck', ?_, ?_, ⟨M, hW, hc, hm, hH, fun _ => hS'⟩, hF⟩
        · unfold X_lines; rw [if_neg hx2, if_neg y1, if_neg y2, if_neg hx3, e1, Option.bind_some]; dsimp only; rw [if_neg l1, k1, Option.bind_some]
        · unfold M_lines; rw [if_neg hx2, if_neg hx3, y3, Option.bind_some, if_neg one_ne, e2, Option.bind_some]; dsimp only; rw [l2, Option.bind_some, if_neg (nI_ne_m1 (by omega))]; exact k2
/-- forms are the same just when tables are -/
theorem DF_sym {n : Nat} {x y : Int32} (h : DF n x y) : DF n y x := by
  unfold DF at h ⊢; rw [Int32.xor_comm y x]; exact h
theorem DF_lit {n : Nat} {t : Nat → Int32} (hn1 : 1 ≤ n) (hn5 : n ≤ 5) {f1 f2 : Nat} (m1 : ∀ r, r < 32 → bt (t (f1 / 2)) r = true → r < 2 ^ n) (m2 : ∀ r, r < 32 → bt (t (f2 / 2)) r = true → r < 2 ^ n) (h : DF n (t (f1 / 2)) (t (f2 / 2))) : ¬ litT n t f1 = litT n t f2 := by
  intro e
  unfold litT at e
  have cross : ∀ {x y : Int32}, x = (y ^^^ (-1)) &&& allR n → ((x ^^^ y) ^^^ (-1)) &&& allR n = 0 := by
    intro x y hh
    apply b_ext; intro r hr
    have := congrArg (fun z => bt z r) hh
    rw [b_and, b_xor, b_m1 r hr] at this
    rw [b_0, b_and, b_xor, b_xor, b_m1 r hr, this]
    cases bt y r <;> cases bt (allR n) r <;> rfl
  rcases Nat.mod_two_eq_zero_or_one f1 with c1 | c1 <;> rcases Nat.mod_two_eq_zero_or_one f2 with c2 | c2
  · rw [if_pos c1, if_pos c2] at e
    apply h.1; rw [e]; exact Int32.xor_self
  · rw [if_pos c1, if_neg (by omega)] at e
    exact h.2 (cross e)
  · rw [if_neg (by omega), if_pos c2] at e
    exact (DF_sym h).2 (cross e.symm)
  · rw [if_neg (by omega), if_neg (by omega)] at e
    apply h.1
    apply b_ext; intro r hr
    rw [b_0, b_xor]
    have := congrArg (fun z => bt z r) e
    rw [b_and, b_xor, b_and, b_xor, b_m1 r hr, allR_bt hn1 hn5 r hr] at this
    have a1 := m1 r hr
    have a2 := m2 r hr
    by_cases hr2 : r < 2 ^ n
    · rw [decide_eq_true hr2] at this
      cases hb1 : bt (t (f1 / 2)) r <;> cases hb2 : bt (t (f2 / 2)) r <;> rw [hb1, hb2] at this <;> first | rfl | cases this
    · cases hb1 : bt (t (f1 / 2)) r <;> cases hb2 : bt (t (f2 / 2)) r
      · rfl
      · exact absurd (a2 hb2) hr2
      · exact absurd (a1 hb1) hr2
      · rfl
theorem lit_tw {n : Nat} {t : Nat → Int32} (hn1 : 1 ≤ n) (hn5 : n ≤ 5) {f1 f2 : Nat} (hh : f1 / 2 = f2 / 2) (e : litT n t f1 = litT n t f2) : f1 = f2 := by
  apply Classical.byContradiction
  intro hne
  have h2 := (pow_n hn1 hn5).1
  have key : ∀ x : Int32, ¬ x = (x ^^^ (-1)) &&& allR n := by
    intro x hx
    have := congrArg (fun z => bt z 0) hx
    rw [b_and, b_xor, b_m1 0 (by omega), allR_bt hn1 hn5 0 (by omega), decide_eq_true (by omega)] at this
    cases hb : bt x 0 <;> rw [hb] at this <;> cases this
  unfold litT at e
  rw [hh] at e
  rcases Nat.mod_two_eq_zero_or_one f1 with c1 | c1 <;> rcases Nat.mod_two_eq_zero_or_one f2 with c2 | c2
  · omega
  · rw [if_pos c1, if_neg (by omega)] at e; exact key _ e
  · rw [if_neg (by omega), if_pos c2] at e; exact key _ e.symm
  · omega
theorem forms_tables {n k : Nat} {φ κ lam gam : Nat → Nat} (hn1 : 1 ≤ n) (hn5 : n ≤ 5) (h : SG n k φ κ lam gam fo re le gr fm wh lm gm) {t : Nat → Int32} (hM : SM n k t φ κ lam gam) (hd : ∀ j, j < k → ∀ r, r < 32 → bt (t j) r = true → r < 2 ^ n) {l1 l2 : Nat} (h1 : l1 < 2 * k) (h2 : l2 < 2 * k) : litT n t l1 = litT n t l2 ↔ lp φ l1 = lp φ l2 := by
  have hφ : ∀ j, j < k → φ j / 2 ≤ j := fun j hj => (h.1 j hj).2.2.2.2.1
  rw [← lp_T hn1 hn5 hM hd hφ h1, ← lp_T hn1 hn5 hM hd hφ h2]
  obtain ⟨p1, p2⟩ := lp_lt h h1
  obtain ⟨q1, q2⟩ := lp_lt h h2
  refine ⟨fun e => ?_, fun e => by rw [e]⟩
  by_cases hh : lp φ l1 / 2 = lp φ l2 / 2
  · exact lit_tw hn1 hn5 hh e
  · exfalso
    have a1 := hd (lp φ l1 / 2) (by omega)
    have a2 := hd (lp φ l2 / 2) (by omega)
    rcases Nat.lt_or_gt_of_ne hh with c | c
    · exact DF_lit hn1 hn5 a1 a2 (DF_sym (hM.2.2 _ _ c (by omega) p2 q2)) e
    · exact DF_lit hn1 hn5 a1 a2 (hM.2.2 _ _ c (by omega) q2 p2) e
end SWN2
