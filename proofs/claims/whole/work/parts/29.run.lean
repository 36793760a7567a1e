/-! lines and counts of the class -/
def pl (n : Nat) (κ : Nat → Nat) : Nat → Bool := fun j => decide (n < j) && !decide (κ j = 0)
def pc_ (n : Nat) (κ : Nat → Nat) (c : Nat) : Nat → Bool := fun j => decide (n < j) && decide (κ j = c)
def LN (n g : Nat) (κ : Nat → Nat) (lg : Nat → Int32) (lc : Int32) (gb : Nat → Int32) : Prop :=
  lc = nI (fb_ct (pl n κ) g) ∧ (∀ j, j < g → pl n κ j = true → lg (fb_ct (pl n κ) j) = nI j) ∧ ∀ c, c < 4 → gb c = nI (fb_ct (pc_ n κ c) g)
theorem ct_up (p q : Nat → Bool) {g : Nat} (h : ∀ j, j < g → p j = q j) : ∀ j, j ≤ g → fb_ct p j = fb_ct q j := fun j hj => fb_ct_cong (fun k hk => h k (by omega))
theorem pl_up {n g c : Nat} {κ : Nat → Nat} : ∀ j, j < g → pl n (upN κ g c) j = pl n κ j := by
  intro j hj; unfold pl upN; rw [if_neg (by omega)]
theorem pc_up {n g c d : Nat} {κ : Nat → Nat} : ∀ j, j < g → pc_ n (upN κ g c) d j = pc_ n κ d j := by
  intro j hj; unfold pc_ upN; rw [if_neg (by omega)]
theorem LN_keep {n g : Nat} {κ : Nat → Nat} {lg gb : Nat → Int32} {lc : Int32} (h : LN n g κ lg lc gb) (hng : n < g) : LN n (g + 1) (upN κ g 0) lg lc (upd gb 0 (gb 0 + 1)) := by
  have e1 := ct_up _ _ (pl_up (n := n) (g := g) (c := 0) (κ := κ))
  refine ⟨?_, fun j hj hp => ?_, fun d hd => ?_⟩
  · rw [fb_ct_succ, e1 g (Nat.le_refl g), h.1]
    have : pl n (upN κ g 0) g = false := by unfold pl upN; simp
    rw [this]; rfl
  · by_cases e : j = g
    · subst e
      have : pl n (upN κ j 0) j = false := by unfold pl upN; simp
      rw [this] at hp; cases hp
    · rw [pl_up j (by omega)] at hp
      rw [e1 j (by omega)]
      exact h.2.1 j (by omega) hp
  · have e2 := ct_up _ _ (pc_up (n := n) (g := g) (c := 0) (d := d) (κ := κ))
    rw [fb_ct_succ, e2 g (Nat.le_refl g)]
    by_cases e : d = 0
    · subst e
      have : pc_ n (upN κ g 0) 0 g = true := by unfold pc_ upN; simp [hng]
      rw [this, upd_same, h.2.2 0 hd, nI_1]; rfl
    · have : pc_ n (upN κ g 0) d g = false := by unfold pc_ upN; simp; omega
      rw [this, upd_ne e, h.2.2 d hd]; rfl
theorem LN_line {n g c : Nat} {κ : Nat → Nat} {lg gb : Nat → Int32} {lc : Int32} (h : LN n g κ lg lc gb) (hng : n < g) (hc : 1 ≤ c) : LN n (g + 1) (upN κ g c) (upd lg (fb_ct (pl n κ) g) (nI g)) (nI (fb_ct (pl n κ) g + 1)) (upd gb c (gb c + 1)) := by
  have e1 := ct_up _ _ (pl_up (n := n) (g := g) (c := c) (κ := κ))
  have hg : pl n (upN κ g c) g = true := by unfold pl upN; simp [hng]; omega
  refine ⟨?_, fun j hj hp => ?_, fun d hd => ?_⟩
  · rw [fb_ct_succ, e1 g (Nat.le_refl g), hg]; rfl
  · by_cases e : j = g
    · subst e
      rw [e1 j (Nat.le_refl j), upd_same]
    · rw [pl_up j (by omega)] at hp
      rw [e1 j (by omega), upd_ne, h.2.1 j (by omega) hp]
      have a1 : fb_ct (pl n κ) (j + 1) ≤ fb_ct (pl n κ) g := fb_ct_mono _ (by omega)
      rw [fb_ct_succ, hp] at a1
      simp only [if_true] at a1
      omega
  · have e2 := ct_up _ _ (pc_up (n := n) (g := g) (c := c) (d := d) (κ := κ))
    rw [fb_ct_succ, e2 g (Nat.le_refl g)]
    by_cases e : d = c
    · subst e
      have : pc_ n (upN κ g d) d g = true := by unfold pc_ upN; simp [hng]
      rw [this, upd_same, h.2.2 d hd, nI_1]; rfl
    · have : pc_ n (upN κ g c) d g = false := by unfold pc_ upN; simp; omega
      rw [this, upd_ne e, h.2.2 d hd]; rfl
/-- gates swept so far, all that both hold -/
def SA (M : MC) (g : Nat) (κ : Nat → Nat) (fo re le gr lg rows gb : Nat → Int32) (lc rc cc pr : Int32) (rb : Nat → Int32) (rm : Int32) (fm lm gm wh : Nat → Int32) (ck : Int32) : Prop :=
  (∃ φ lam gam, SG (nn M) g φ κ lam gam fo re le gr fm wh lm gm ∧ ∀ t, IsT M t → SM (nn M) g t φ κ lam gam) ∧ (∃ m ρ, RR (nn M) m ρ rows rc pr rb rm) ∧ LN (nn M) g κ lg lc gb ∧ cc = ck
theorem SM_cong {n g : Nat} {φ κ lam gam : Nat → Nat} {fo re le gr fm wh lm gm : Nat → Int32} (h : SG n g φ κ lam gam fo re le gr fm wh lm gm) {t t' : Nat → Int32} (e : ∀ j, j < g → t' j = t j) (hM : SM n g t φ κ lam gam) : SM n g t' φ κ lam gam := by
  refine ⟨fun j hj => ?_, fun j h1 h2 h3 => ?_, fun i j h1 h2 h3 h4 => ?_⟩
  · have := (h.1 j hj).2.2.2.2.1
    rw [e j hj, hM.1 j hj]; exact litT_cong (e _ (by omega)).symm
  · obtain ⟨-, -, -, -, q5, q6, -⟩ := h.2 j h1 h2 h3
    rw [e j h2, hM.2.1 j h1 h2 h3, litT_cong (n := n) (t := t) (t' := t') (l := lam j) (e _ (by omega)).symm, litT_cong (n := n) (t := t) (t' := t') (l := gam j) (e _ (by omega)).symm]
  · rw [e j h2, e i (by omega)]; exact hM.2.2 i j h1 h2 h3 h4
theorem lp_T {n g : Nat} {φ κ lam gam : Nat → Nat} {t : Nat → Int32} (hn1 : 1 ≤ n) (hn5 : n ≤ 5) (hM : SM n g t φ κ lam gam) (hd : ∀ j, j < g → ∀ r, r < 32 → bt (t j) r = true → r < 2 ^ n) (hφ : ∀ j, j < g → φ j / 2 ≤ j) {l : Nat} (hl : l < 2 * g) : litT n t (lp φ l) = litT n t l := by
  have h1 := hM.1 (l / 2) (by omega)
  have h2 := hφ (l / 2) (by omega)
  unfold lp
  by_cases e : l % 2 = 0
  · rw [if_pos e, ← h1]; unfold litT; rw [if_pos e]
  · rw [if_neg e]
    have hl' : litT n t l = (t (l / 2) ^^^ (-1)) &&& allR n := by unfold litT; rw [if_neg e]
    rw [hl', h1]
    unfold litT
    rw [tw_half]
    rcases Nat.mod_two_eq_zero_or_one (φ (l / 2)) with c | c
    · rw [if_pos c, if_neg (by rw [tw_mod]; omega)]
    · rw [if_pos (show tw (φ (l / 2)) % 2 = 0 by rw [tw_mod]; omega), if_neg (show ¬ φ (l / 2) % 2 = 0 by omega)]
      have hmk := hd (φ (l / 2) / 2) (by omega)
      apply b_ext; intro r hr
      rw [b_and, b_xor, b_and, b_xor, b_m1 r hr, allR_bt hn1 hn5 r hr]
      by_cases hr2 : r < 2 ^ n
      · rw [decide_eq_true hr2]; cases bt (t (φ (l / 2) / 2)) r <;> rfl
      · rw [decide_eq_false hr2]
        cases hb : bt (t (φ (l / 2) / 2)) r with
        | false => rfl
        | true => exact absurd (hmk r hr hb) hr2
theorem run_sim {M : MC} (hW : WF M) {fi se tr : Nat → Int32} (hfs : ∀ j, nn M < j → j < kk M → fi j = nI (ff M j) ∧ se j = nI (gg M j)) (ht : IsT M tr) {now tb : Nat → Int32} (hm : RCm M now) (htb : IsT M tb) : ∀ (m g fu1 fu2 : Nat) (κ : Nat → Nat) (fo re le gr lg rows gb : Nat → Int32) (lc rc cc pr : Int32) (rb : Nat → Int32) (rm : Int32) (fm lm gm wh : Nat → Int32), g + m = kk M → nn M < g → m < fu1 → m < fu2 → SA M g κ fo re le gr lg rows gb lc rc cc pr rb rm fm lm gm wh cc →
    ∃ κ' fo' re' le' gr' lg' rows' gb' lc' rc' cc' pr' rb' rm' fm' lm' gm' wh', (∀ K, W_run_12 K fi se tr (nI (nn M)) (nI (kk M)) (allR (nn M)) fu1 (nI g) fo re le gr lg rows gb lc rc cc pr = K fo' re' le' gr' lg' rows' gb' lc' rc' cc' pr') ∧ (∀ K, M_sweeps_53 K now tb (allR (nn M)) fu2 (nI g) rb rm fm lm gm wh cc = K rb' rm' fm' lm' gm' wh' cc') ∧ SA M (kk M) κ' fo' re' le' gr' lg' rows' gb' lc' rc' cc' pr' rb' rm' fm' lm' gm' wh' cc' := by
  obtain ⟨hn1, hn5⟩ := hW.1
  have hk48 := hW.2.1.2
  have e0 : now (Int32.toNatClampNeg 0) = nI (nn M) := hm.1
  have e1 : now (Int32.toNatClampNeg 1) = nI (kk M) := hm.2.1
  intro m
  induction m with
  | zero =>
    intro g fu1 fu2 κ fo re le gr lg rows gb lc rc cc pr rb rm fm lm gm wh hg hng hf1 hf2 hS
    obtain ⟨f1, rfl⟩ : ∃ f, fu1 = f + 1 := ⟨fu1 - 1, by omega⟩
    obtain ⟨f2, rfl⟩ : ∃ f, fu2 = f + 1 := ⟨fu2 - 1, by omega⟩
    have eg : g = kk M := by omega
    refine ⟨κ, fo, re, le, gr, lg, rows, gb, lc, rc, cc, pr, rb, rm, fm, lm, gm, wh, fun K => ?_, fun K => ?_, by rw [← eg]; exact hS⟩
    · rw [W_run_12, if_pos (by rw [n_le (by omega) (by omega)]; omega)]
    · rw [M_sweeps_53, chk_lit (by decide), e1, if_pos (by rw [n_le (by omega) (by omega)]; omega)]
  | succ m ih =>
    intro g fu1 fu2 κ fo re le gr lg rows gb lc rc cc pr rb rm fm lm gm wh hg hng hf1 hf2 hS
    obtain ⟨f1, rfl⟩ : ∃ f, fu1 = f + 1 := ⟨fu1 - 1, by omega⟩
    obtain ⟨f2, rfl⟩ : ∃ f, fu2 = f + 1 := ⟨fu2 - 1, by omega⟩
    obtain ⟨⟨φ, lam, gam, hSG, hSM⟩, ⟨mm, ρ, hR⟩, hLN, -⟩ := hS
    have hgk : g < kk M := by omega
    have hlit := hW.2.2.1 g hng hgk
    have hfg := hfs g hng hgk
    have hmg := hm.2.2.1 g hng hgk
    have p1 := lp_lt hSG hlit.1
    have p2 := lp_lt hSG hlit.2
    obtain ⟨a, b, hab, hb, hka, hkb, hea, heb, hmod⟩ : ∃ a b : Nat, a ≤ b ∧ b < 2 * g ∧ κ (a / 2) = 0 ∧ κ (b / 2) = 0 ∧ (if nI (lp φ (gg M g)) < nI (lp φ (ff M g)) then nI (lp φ (gg M g)) else nI (lp φ (ff M g))) = nI a ∧ (if nI (lp φ (ff M g)) < nI (lp φ (gg M g)) then nI (lp φ (gg M g)) else nI (lp φ (ff M g))) = nI b ∧ ((nI (lp φ (gg M g)) ≤ nI (lp φ (ff M g)) ∧ a = lp φ (gg M g) ∧ b = lp φ (ff M g)) ∨ (¬ nI (lp φ (gg M g)) ≤ nI (lp φ (ff M g)) ∧ a = lp φ (ff M g) ∧ b = lp φ (gg M g))) := by
      simp (disch := omega) only [n_lt, n_le]
      by_cases hc : lp φ (gg M g) ≤ lp φ (ff M g)
      · refine ⟨lp φ (gg M g), lp φ (ff M g), hc, p1.1, p2.2, p1.2, ?_, ?_, Or.inl ⟨hc, rfl, rfl⟩⟩
        · by_cases h : lp φ (gg M g) < lp φ (ff M g)
          · rw [if_pos h]
          · rw [if_neg h, show lp φ (ff M g) = lp φ (gg M g) by omega]
        · rw [if_neg (by omega)]
      · refine ⟨lp φ (ff M g), lp φ (gg M g), by omega, p2.1, p1.2, p2.2, ?_, ?_, Or.inr ⟨hc, rfl, rfl⟩⟩
        · rw [if_neg (by omega)]
        · rw [if_pos (by omega)]
    have hmask := IsT_mask hW ht
    have htt := IsT_one hW htb ht
    obtain ⟨c, φ', lam', gam', m', ρ', fo', re', rows', rc', cc', pr', rb', rm', fm', lm', gm', wh', hc4, w1, w2, hSG', hR', hSM'⟩ := core_sim (tr := tr) (tb := tb) (now := now) hSG hn1 hn5 hng (by omega) hm.1 (fun j hj => htt j (by omega)) (fun j hj => hmask j (by omega)) hR cc hab hb hka hkb (hSM tr ht) ht.1 (by
      have hφ : ∀ j, j < g → φ j / 2 ≤ j := fun j hj => (hSG.1 j hj).2.2.2.2.1
      have t1 := lp_T hn1 hn5 (hSM tr ht) (fun j hj => hmask j (by omega)) hφ hlit.1
      have t2 := lp_T hn1 hn5 (hSM tr ht) (fun j hj => hmask j (by omega)) hφ hlit.2
      rw [ht.2.2 g hng hgk, ← t1, ← t2]
      rcases hmod with ⟨-, rfl, rfl⟩ | ⟨-, rfl, rfl⟩
      · exact Int32.and_comm _ _
      · rfl)
    have hSM2 : ∀ t, IsT M t → SM (nn M) (g + 1) t φ' (upN κ g c) lam' gam' := fun t htt' => SM_cong hSG' (fun j hj => IsT_one hW htt' ht j (by omega)) hSM'
    have hre' : re' g = nI c := by
      have := (hSG'.1 g (by omega)).2.2.1
      rw [this]; unfold upN; rw [if_pos rfl]
    have wst : ∀ K, W_run_12 K fi se tr (nI (nn M)) (nI (kk M)) (allR (nn M)) (f1 + 1) (nI g) fo re le gr lg rows gb lc rc cc pr = (if nI c = 0 then W_run_12 K fi se tr (nI (nn M)) (nI (kk M)) (allR (nn M)) f1 (nI (g + 1)) fo' re' (upd le g (nI a)) (upd gr g (nI b)) lg rows' (upd gb c (gb c + 1)) lc rc' cc' pr' else chk (bnd lc 48) (W_run_12 K fi se tr (nI (nn M)) (nI (kk M)) (allR (nn M)) f1 (nI (g + 1)) fo' re' (upd le g (nI a)) (upd gr g (nI b)) (upd lg (Int32.toNatClampNeg lc) (nI g)) rows' (upd gb c (gb c + 1)) (lc + 1) rc' cc' pr')) := by
      intro K
      rw [W_run_12, if_neg (by rw [n_le (by omega) (by omega)]; omega), chk_nI (by omega) (by omega), n_cl (by omega), hfg.1, hfg.2, W_formOf_eq hSG hlit.1 (by omega), Option.bind_some, chk_nI (by omega) (by omega), W_formOf_eq hSG hlit.2 (by omega), Option.bind_some, chk_nI (by omega) (by omega)]
      dsimp only [lt_]
      rw [chk_nI (by omega) (by omega), hea, heb, w1, Option.bind_some]
      dsimp only
      simp (disch := omega) only [chk_nI, n_cl, hre', nI_1]
    have mst : ∀ K, M_sweeps_53 K now tb (allR (nn M)) (f2 + 1) (nI g) rb rm fm lm gm wh cc = M_sweeps_53 K now tb (allR (nn M)) f2 (nI (g + 1)) rb' rm' fm' lm' gm' wh' cc' := by
      intro K
      have hx : M_sweepsGate now tb (allR (nn M)) rb rm fm lm gm wh cc (nI g) = some (rb', rm', fm', lm', gm', wh', cc') := by
        rw [← w2]
        unfold M_sweepsGate
        rw [L2, n_add, L50, n_add, chk_nI (by omega) (by omega), n_cl (by omega), n_cl (by omega), hmg.1, hmg.2, M_formOf_eq hSG hlit.1 (by omega), Option.bind_some, chk_nI (by omega) (by omega), M_formOf_eq hSG hlit.2 (by omega), Option.bind_some]
        rcases hmod with ⟨q, rfl, rfl⟩ | ⟨q, rfl, rfl⟩
        · rw [if_pos q]
        · rw [if_neg q]
      rw [M_sweeps_53, chk_lit (by decide), e1, if_neg (by rw [n_le (by omega) (by omega)]; omega), chk_lit (by decide), e0, if_pos (by rw [n_lt (by omega) (by omega)]; omega), hx, Option.bind_some]
      dsimp only [lt_]
      rw [nI_1]
    have hct : fb_ct (pl (nn M) κ) g ≤ g := fb_ct_le _ g
    by_cases hc0 : c = 0
    · subst hc0
      obtain ⟨κ2, fo2, re2, le2, gr2, lg2, rows2, gb2, lc2, rc2, cc2, pr2, rb2, rm2, fm2, lm2, gm2, wh2, z1, z2, z3⟩ := ih (g + 1) f1 f2 (upN κ g 0) fo' re' (upd le g (nI a)) (upd gr g (nI b)) lg rows' (upd gb 0 (gb 0 + 1)) lc rc' cc' pr' rb' rm' fm' lm' gm' wh' (by omega) (by omega) (by omega) (by omega) ⟨⟨φ', lam', gam', hSG', hSM2⟩, ⟨m', ρ', hR'⟩, LN_keep hLN hng, rfl⟩
      exact ⟨κ2, fo2, re2, le2, gr2, lg2, rows2, gb2, lc2, rc2, cc2, pr2, rb2, rm2, fm2, lm2, gm2, wh2, fun K => by rw [wst, if_pos (show nI 0 = 0 from rfl)]; exact z1 K, fun K => by rw [mst]; exact z2 K, z3⟩
    · have hcn : ¬ nI c = 0 := by rw [L0, n_eq (by omega) (by omega)]; exact hc0
      have hlc : lc = nI (fb_ct (pl (nn M) κ) g) := hLN.1
      obtain ⟨κ2, fo2, re2, le2, gr2, lg2, rows2, gb2, lc2, rc2, cc2, pr2, rb2, rm2, fm2, lm2, gm2, wh2, z1, z2, z3⟩ := ih (g + 1) f1 f2 (upN κ g c) fo' re' (upd le g (nI a)) (upd gr g (nI b)) (upd lg (fb_ct (pl (nn M) κ) g) (nI g)) rows' (upd gb c (gb c + 1)) (nI (fb_ct (pl (nn M) κ) g + 1)) rc' cc' pr' rb' rm' fm' lm' gm' wh' (by omega) (by omega) (by omega) (by omega) ⟨⟨φ', lam', gam', hSG', hSM2⟩, ⟨m', ρ', hR'⟩, LN_line hLN hng (by omega), rfl⟩
      refine ⟨κ2, fo2, re2, le2, gr2, lg2, rows2, gb2, lc2, rc2, cc2, pr2, rb2, rm2, fm2, lm2, gm2, wh2, fun K => ?_, fun K => by rw [mst]; exact z2 K, z3⟩
      rw [wst, if_neg hcn, hlc, chk_nI (by omega) (by omega), n_cl (by omega), nI_1]
      exact z1 K
