/-! the digest, by both -/
theorem mix_eq (h : Int64) (x : Int32) : M_mix h x = some (((31 : Int64) * h) + (Int32.toInt64 x)) := rfl
section DIG
variable {M : MC} {fi se tr lev li co pa : Nat → Int32} {ic nc pc : Int32} {fo re le gr lg rows gb : Nat → Int32} {lc rc cc pr al : Int32} {yf ys yt yl yi yo yp : Nat → Nat → Int32} {yn yk yq : Nat → Int32} {yw yz : Int32} {now past : Nat → Int32} {stt : Int32} {x0 xb xn xf : Int32} {ref : Nat → Int32} {tb : Nat → Int32} {al2 : Int32} {rb : Nat → Int32} {rm : Int32} {fm lm gm wh : Nat → Int32} {ck : Int32} {φ κ lam gam : Nat → Nat}
theorem dig_told (hF : RF xb xn xf ref) (sz ln : Int32) : ∀ (m fu i : Nat) (h : Int64), i + m = 5 → m < fu → ∃ h', (∀ K, X_digest_12 K xb xn xf sz ln fu h (nI i) = K h') ∧ ∀ K, M_digest_9 K sz ref ln fu (nI i) h = K h' := by
  intro m
  induction m with
  | zero =>
    intro fu i h hi hf
    obtain ⟨f, rfl⟩ : ∃ f, fu = f + 1 := ⟨fu - 1, by omega⟩
    refine ⟨h, fun K => ?_, fun K => ?_⟩
    · rw [X_digest_12, if_pos (by rw [L4, n_lt (by omega) (by omega)]; omega)]
    · rw [M_digest_9, if_pos (by rw [L5, n_le (by omega) (by omega)]; omega)]
  | succ m ih =>
    intro fu i h hi hf
    obtain ⟨f, rfl⟩ : ∃ f, fu = f + 1 := ⟨fu - 1, by omega⟩
    obtain ⟨r, t1, t2⟩ := toldOf_eq hF sz ln (x := nI i) (by rcases (show i = 0 ∨ i = 1 ∨ i = 2 ∨ i = 3 ∨ i = 4 by omega) with rfl | rfl | rfl | rfl | rfl <;> decide)
    obtain ⟨h', e1, e2⟩ := ih f (i + 1) (((31 : Int64) * h) + (Int32.toInt64 r)) (by omega) (by omega)
    refine ⟨h', fun K => ?_, fun K => ?_⟩
    · rw [← e1 K, X_digest_12, if_neg (by rw [L4, n_lt (by omega) (by omega)]; omega), t1, Option.bind_some, lt_eq, lt_eq, nI_1]
    · rw [← e2 K, M_digest_9, if_neg (by rw [L5, n_le (by omega) (by omega)]; omega), t2, Option.bind_some, mix_eq, Option.bind_some, lt_eq, nI_1]
theorem countOf_eq (hc : RCc M fi se tr lev li co pa ic nc pc) (hm : RCm M now) {i : Nat} (hi : i < 5) : ∃ r, C_countOf co ic nc pc (nI i) = some r ∧ M_countOf now (nI i) = some r := by
  obtain ⟨rfl, rfl, h3, h4, h5, ⟨h6, h6'⟩, h7, rfl, -⟩ := hc
  obtain ⟨m1, m2, m3, ⟨m4, m4'⟩, m5, m6, -⟩ := hm
  rcases (show i = 0 ∨ i = 1 ∨ i = 2 ∨ i = 3 ∨ i = 4 by omega) with rfl | rfl | rfl | rfl | rfl
  · exact ⟨nI (nn M), rfl, congrArg some m1⟩
  · exact ⟨nI (kk M), rfl, congrArg some m2⟩
  · exact ⟨nI (oc M 0), congrArg some h6, congrArg some m4⟩
  · exact ⟨nI (oc M 1), congrArg some h6', congrArg some m4'⟩
  · exact ⟨nI (np M), rfl, congrArg some m6⟩
theorem dig_counts (hc : RCc M fi se tr lev li co pa ic nc pc) (hm : RCm M now) : ∀ (m fu i : Nat) (h : Int64), i + m = 5 → m < fu → ∃ h', (∀ K, C_digestCounts_2 K co ic nc pc fu h (nI i) = K h') ∧ ∀ K, M_digest_31 K now fu (nI i) h = K h' := by
  intro m
  induction m with
  | zero =>
    intro fu i h hi hf
    obtain ⟨f, rfl⟩ : ∃ f, fu = f + 1 := ⟨fu - 1, by omega⟩
    refine ⟨h, fun K => ?_, fun K => ?_⟩
    · rw [C_digestCounts_2, if_pos (by rw [L4, n_lt (by omega) (by omega)]; omega)]
    · rw [M_digest_31, if_pos (by rw [L5, n_le (by omega) (by omega)]; omega)]
  | succ m ih =>
    intro fu i h hi hf
    obtain ⟨f, rfl⟩ : ∃ f, fu = f + 1 := ⟨fu - 1, by omega⟩
    obtain ⟨r, t1, t2⟩ := countOf_eq hc hm (i := i) (by omega)
    obtain ⟨h', e1, e2⟩ := ih f (i + 1) (((31 : Int64) * h) + (Int32.toInt64 r)) (by omega) (by omega)
    refine ⟨h', fun K => ?_, fun K => ?_⟩
    · rw [← e1 K, C_digestCounts_2, if_neg (by rw [L4, n_lt (by omega) (by omega)]; omega), t1, Option.bind_some, lt_eq, lt_eq, nI_1]
    · rw [← e2 K, M_digest_31, if_neg (by rw [L5, n_le (by omega) (by omega)]; omega), t2, Option.bind_some, mix_eq, Option.bind_some, lt_eq, nI_1]
theorem dig_node (hW : WF M) (hc : RCc M fi se tr lev li co pa ic nc pc) (hm : RCm M now) (ht : IsT M tb) (hS : SG (nn M) (kk M) φ κ lam gam fo re le gr fm wh lm gm) {j : Nat} (hj : j < kk M) (h : Int64) : ∃ h', C_digestNode fi se tr pa ic nc pc h (nI j) = some h' ∧ M_mixNode now tb fm h (nI j) = some (((31 : Int64) * h') + (Int32.toInt64 (fo j))) := by
  have hk48 := hW.2.1.2
  have hkn := hW.2.1.1
  obtain ⟨r, s1, s2⟩ := sign_eq hW hc hm ht hj
  have htt := IsT_one hW ht hc.2.2.2.1 j hj
  have e0 : now (Int32.toNatClampNeg 0) = nI (nn M) := hm.1
  obtain ⟨q1, q2, -⟩ := hS.1 j hj
  have eic := hc.1
  have enc := hc.2.1
  by_cases hn : j ≤ nn M
  · have c0 : C_isGate (nI (nn M)) (nI (kk M)) (nI j) = some 0 := by
      unfold C_isGate; rw [if_pos (by rw [n_le (by omega) (by omega)]; omega)]
    refine ⟨((31 : Int64) * (((31 : Int64) * h) + (Int32.toInt64 (tr j)))) + (Int32.toInt64 r), ?_, ?_⟩
    · unfold C_digestNode
      rw [eic, enc, c0, Option.bind_some, if_pos rfl, chk_nI (by omega) (by omega), lt_eq, s1, Option.bind_some, n_cl (by omega)]
    · unfold M_mixNode
      rw [chk_lit (by decide), e0, if_pos (by rw [n_le (by omega) (by omega)]; omega), chk_nI (by omega) (by omega), n_cl (by omega), mix_eq, Option.bind_some, s2, Option.bind_some, mix_eq, Option.bind_some, chk_nI (by omega) (by omega), mix_eq, Option.bind_some, htt, q1, q2]
  · obtain ⟨f1, f2⟩ := hc.2.2.1 j (by omega) hj
    obtain ⟨f3, f4⟩ := hm.2.2.1 j (by omega) hj
    refine ⟨((31 : Int64) * (((31 : Int64) * (((31 : Int64) * (((31 : Int64) * h) + (Int32.toInt64 (nI (ff M j))))) + (Int32.toInt64 (nI (gg M j))))) + (Int32.toInt64 (tr j)))) + (Int32.toInt64 r), ?_, ?_⟩
    · unfold C_digestNode
      rw [eic, enc, C_isGate_in (by omega) hj hk48, Option.bind_some, if_neg one_ne, chk_nI (by omega) (by omega), lt_eq, chk_nI (by omega) (by omega), lt_eq, chk_nI (by omega) (by omega), lt_eq, s1, Option.bind_some, n_cl (by omega), f1, f2]
    · unfold M_mixNode
      rw [chk_lit (by decide), e0, if_neg (by rw [n_le (by omega) (by omega)]; omega), show (2 : Int32) + nI j = nI (2 + j) from n_add 2 j, show (50 : Int32) + nI j = nI (50 + j) from n_add 50 j, chk_nI (by omega) (by omega), n_cl (by omega), n_cl (by omega), f3, mix_eq, Option.bind_some, chk_nI (by omega) (by omega), f4, mix_eq, Option.bind_some, chk_nI (by omega) (by omega), n_cl (by omega), mix_eq, Option.bind_some, s2, Option.bind_some, mix_eq, Option.bind_some, chk_nI (by omega) (by omega), mix_eq, Option.bind_some, htt, q1, q2]
theorem dig_nodes (hW : WF M) (hc : RCc M fi se tr lev li co pa ic nc pc) (hm : RCm M now) (ht : IsT M tb) (hS : SG (nn M) (kk M) φ κ lam gam fo re le gr fm wh lm gm) : ∀ (m fu i : Nat) (h : Int64), i + m = kk M → m < fu → ∃ h', (∀ K, X_digest_50 K fi se tr pa ic nc pc fo fu h (nI i) = K h') ∧ ∀ K, M_digest_57 K now tb fm fu (nI i) h = K h' := by
  have hk48 := hW.2.1.2
  have e1 : now (Int32.toNatClampNeg 1) = nI (kk M) := hm.2.1
  have enc := hc.2.1
  intro m
  induction m with
  | zero =>
    intro fu i h hi hf
    obtain ⟨f, rfl⟩ : ∃ f, fu = f + 1 := ⟨fu - 1, by omega⟩
    refine ⟨h, fun K => ?_, fun K => ?_⟩
    · rw [X_digest_50, if_pos (by rw [enc, n_le (by omega) (by omega)]; omega)]
    · rw [M_digest_57, chk_lit (by decide), e1, if_pos (by rw [n_le (by omega) (by omega)]; omega)]
  | succ m ih =>
    intro fu i h hi hf
    obtain ⟨f, rfl⟩ : ∃ f, fu = f + 1 := ⟨fu - 1, by omega⟩
    obtain ⟨h1, t1, t2⟩ := dig_node hW hc hm ht hS (j := i) (by omega) h
    obtain ⟨h', e2, e3⟩ := ih f (i + 1) (((31 : Int64) * h1) + (Int32.toInt64 (fo i))) (by omega) (by omega)
    refine ⟨h', fun K => ?_, fun K => ?_⟩
    · rw [← e2 K, X_digest_50, if_neg (by rw [enc, n_le (by omega) (by omega)]; omega), t1, Option.bind_some, chk_nI (by omega) (by omega), n_cl (by omega), lt_eq, lt_eq, nI_1]
    · rw [← e3 K, M_digest_57, chk_lit (by decide), e1, if_neg (by rw [n_le (by omega) (by omega)]; omega), t2, Option.bind_some, lt_eq, nI_1]
theorem dig_outs (hW : WF M) (hc : RCc M fi se tr lev li co pa ic nc pc) (hm : RCm M now) {s : Nat} (hs : s < 2) : ∀ (m fu i : Nat) (h : Int64), i + m = oc M s → m < fu → ∃ h', (∀ K, C_digestOuts_10 K li co (nI s) fu h (nI i) = K h') ∧ ∀ K, M_mixOuts_2 K now (nI s) fu (nI i) h = K h' := by
  have hc6 := oc6 hW hs
  have h7 := hc.2.2.2.2.2.2.1
  have ec : co s = nI (oc M s) := by
    rcases (show s = 0 ∨ s = 1 by omega) with rfl | rfl
    · exact hc.2.2.2.2.2.1.1
    · exact hc.2.2.2.2.2.1.2
  have em : now (98 + s) = nI (oc M s) := by
    rcases (show s = 0 ∨ s = 1 by omega) with rfl | rfl
    · exact hm.2.2.2.1.1
    · exact hm.2.2.2.1.2
  intro m
  induction m with
  | zero =>
    intro fu i h hi hf
    obtain ⟨f, rfl⟩ : ∃ f, fu = f + 1 := ⟨fu - 1, by omega⟩
    refine ⟨h, fun K => ?_, fun K => ?_⟩
    · rw [C_digestOuts_10, chk_nI hs (by omega), n_cl (by omega), ec, if_pos (by rw [n_le (by omega) (by omega)]; omega)]
    · rw [M_mixOuts_2, show (98 : Int32) + nI s = nI (98 + s) from n_add 98 s, chk_nI (by omega) (by omega), n_cl (by omega), em, if_pos (by rw [n_le (by omega) (by omega)]; omega)]
  | succ m ih =>
    intro fu i h hi hf
    obtain ⟨f, rfl⟩ : ∃ f, fu = f + 1 := ⟨fu - 1, by omega⟩
    obtain ⟨h', e1, e2⟩ := ih f (i + 1) (((31 : Int64) * h) + (Int32.toInt64 (nI (ol M s i)))) (by omega) (by omega)
    refine ⟨h', fun K => ?_, fun K => ?_⟩
    · rw [← e1 K, C_digestOuts_10, chk_nI hs (by omega), n_cl (by omega), ec, if_neg (by rw [n_le (by omega) (by omega)]; omega), C_outOf, L6, n_mul, n_add, chk_nI (by omega) (by omega), n_cl (by omega), h7 s i hs (by omega), Option.bind_some, lt_eq, lt_eq, nI_1]
    · rw [← e2 K, M_mixOuts_2, show (98 : Int32) + nI s = nI (98 + s) from n_add 98 s, chk_nI (by omega) (by omega), n_cl (by omega), em, if_neg (by rw [n_le (by omega) (by omega)]; omega), show (6 : Int32) * nI s = nI (6 * s) from n_mul 6 s, show (100 : Int32) + nI (6 * s) = nI (100 + 6 * s) from n_add 100 _, n_add, chk_nI (by omega) (by omega), n_cl (by omega), hm.2.2.2.2.1 s i hs (by omega), mix_eq, Option.bind_some, lt_eq, nI_1]
theorem dig_outs2 (hW : WF M) (hc : RCc M fi se tr lev li co pa ic nc pc) (hm : RCm M now) (h : Int64) : ∃ h1 h2, C_digestOuts li co h = some h2 ∧ M_mixOuts now h 0 = some h1 ∧ M_mixOuts now h1 1 = some h2 := by
  have o0 := oc6 hW (s := 0) (by omega)
  have o1 := oc6 hW (s := 1) (by omega)
  obtain ⟨h1, a1, a2⟩ := dig_outs hW hc hm (s := 0) (by omega) (oc M 0) 1000 0 h (by omega) (by omega)
  obtain ⟨h2, b1, b2⟩ := dig_outs hW hc hm (s := 1) (by omega) (oc M 1) 1000 0 h1 (by omega) (by omega)
  refine ⟨h1, h2, ?_, ?_, ?_⟩
  · have key : ∀ f, C_digestOuts_2 (fun l1_10 => some l1_10) li co (f + 3) h (nI 0) = some h2 := by
      intro f
      rw [C_digestOuts_2, if_neg (by decide), L0, a1, lt_eq, nI_1, C_digestOuts_2, if_neg (by decide), L0, b1, lt_eq, nI_1, C_digestOuts_2, if_pos (by decide)]
    unfold C_digestOuts
    rw [L0]
    exact key 997
  · unfold M_mixOuts; rw [L0, a2]
  · unfold M_mixOuts; rw [L0, L1, b2]
theorem dig_rows {n m : Nat} {ρ : Nat → Nat} (hR : RR n m ρ rows rc pr rb rm) : ∀ (q fu i : Nat) (h : Int64), i + q = m → q < fu → ∃ h', (∀ K, W_digestOn_2 K rows rc fu h (nI i) = K h') ∧ ∀ K, M_digest_90 K rb rm fu (nI i) h = K h' := by
  obtain ⟨h12, rfl, rfl, h4, -⟩ := hR
  intro q
  induction q with
  | zero =>
    intro fu i h hi hf
    obtain ⟨f, rfl⟩ : ∃ f, fu = f + 1 := ⟨fu - 1, by omega⟩
    refine ⟨h, fun K => ?_, fun K => ?_⟩
    · rw [W_digestOn_2, if_pos (by rw [n_le (by omega) (by omega)]; omega)]
    · rw [M_digest_90, if_pos (by rw [n_le (by omega) (by omega)]; omega)]
  | succ q ih =>
    intro fu i h hi hf
    obtain ⟨f, rfl⟩ : ∃ f, fu = f + 1 := ⟨fu - 1, by omega⟩
    obtain ⟨r1, r2, -⟩ := h4 i (by omega)
    obtain ⟨h', e1, e2⟩ := ih f (i + 1) (((31 : Int64) * h) + (Int32.toInt64 (nI (ρ i)))) (by omega) (by omega)
    refine ⟨h', fun K => ?_, fun K => ?_⟩
    · rw [← e1 K, W_digestOn_2, if_neg (by rw [n_le (by omega) (by omega)]; omega), chk_nI (by omega) (by omega), n_cl (by omega), r1, lt_eq, lt_eq, nI_1]
    · rw [← e2 K, M_digest_90, if_neg (by rw [n_le (by omega) (by omega)]; omega), chk_nI (by omega) (by omega), n_cl (by omega), r2, mix_eq, Option.bind_some, lt_eq, nI_1]
theorem dig_tally {n k : Nat} (hS : SG n k φ κ lam gam fo re le gr fm wh lm gm) (hnk : n < k) (hk : k ≤ 48) (e0 : now 0 = nI n) (e1 : now 1 = nI k) (hL : LN n k κ lg lc gb) (hrc : rc = rm) (hck : cc = ck) : ∀ (q fu i : Nat) (h : Int64), i + q = 6 → q < fu → ∃ h', (∀ K, W_digestOn_32 K gb rc cc fu h (nI i) = K h') ∧ ∀ K, M_digest_116 K now rm wh ck fu (nI i) h = K h' := by
  intro q
  induction q with
  | zero =>
    intro fu i h hi hf
    obtain ⟨f, rfl⟩ : ∃ f, fu = f + 1 := ⟨fu - 1, by omega⟩
    refine ⟨h, fun K => ?_, fun K => ?_⟩
    · rw [W_digestOn_32, if_pos (by rw [L5, n_lt (by omega) (by omega)]; omega)]
    · rw [M_digest_116, if_pos (by rw [L6, n_le (by omega) (by omega)]; omega)]
  | succ q ih =>
    intro fu i h hi hf
    obtain ⟨f, rfl⟩ : ∃ f, fu = f + 1 := ⟨fu - 1, by omega⟩
    obtain ⟨r, t1, t2⟩ := tally_eq hS hnk hk e0 e1 hL hrc hck (x := i) (by omega)
    obtain ⟨h', a1, a2⟩ := ih f (i + 1) (((31 : Int64) * h) + (Int32.toInt64 r)) (by omega) (by omega)
    refine ⟨h', fun K => ?_, fun K => ?_⟩
    · rw [← a1 K, W_digestOn_32, if_neg (by rw [L5, n_lt (by omega) (by omega)]; omega), t1, Option.bind_some, lt_eq, lt_eq, nI_1]
    · rw [← a2 K, M_digest_116, if_neg (by rw [L6, n_le (by omega) (by omega)]; omega), t2, Option.bind_some, mix_eq, Option.bind_some, lt_eq, nI_1]
theorem dig_line {a g : Nat} (ha : a < 48) (hg : g < 48) (hlg : lg a = nI g) (h : Int64) (K : Int64 → Option Int64) : ∀ f, W_digestOn_69 K fo re lg (nI a) (f + 4) h (nI 0) = K (((31 : Int64) * (((31 : Int64) * (((31 : Int64) * h) + (Int32.toInt64 (nI g)))) + (Int32.toInt64 (fo g)))) + (Int32.toInt64 (re g))) := by
  intro f
  have w : ∀ y : Int32, W_lineOf fo re lg (nI a) y = (if y = 0 then (some (nI g)) else if y = 1 then some (fo g) else some (re g)) := by
    intro y
    unfold W_lineOf
    rw [chk_nI ha (by omega), n_cl (by omega), hlg, lt_eq, chk_nI hg (by omega), chk_nI hg (by omega), n_cl (by omega)]
  rw [W_digestOn_69, if_neg (by decide), w, if_pos (show nI 0 = 0 from rfl), Option.bind_some, lt_eq, lt_eq, nI_1, W_digestOn_69, if_neg (by decide), w, if_neg (by decide), if_pos (show nI (0 + 1) = 1 from rfl), Option.bind_some, lt_eq, lt_eq, nI_1, W_digestOn_69, if_neg (by decide), w, if_neg (by decide), if_neg (by decide), Option.bind_some, lt_eq, lt_eq, nI_1, W_digestOn_69, if_pos (by decide)]
theorem dig_lines {n k : Nat} (hS : SG n k φ κ lam gam fo re le gr fm wh lm gm) (hk : k ≤ 48) (e1 : now 1 = nI k) (hL : LN n k κ lg lc gb) : ∀ (m fu1 fu2 i : Nat) (h : Int64), i + m = k → n < i → m < fu1 → m < fu2 → ∃ h', (∀ K, W_digestOn_58 K fo re lg lc fu1 h (nI (fb_ct (pl n κ) i)) = K h') ∧ ∀ K, M_digest_146 K now fm wh fu2 (nI i) h = K h' := by
  have e1' : now (Int32.toNatClampNeg 1) = nI k := e1
  obtain ⟨rfl, l2, -⟩ := hL
  have hle2 := fb_ct_le (pl n κ) k
  intro m
  induction m with
  | zero =>
    intro fu1 fu2 i h hi hn hf1 hf2
    obtain ⟨f1, rfl⟩ : ∃ f, fu1 = f + 1 := ⟨fu1 - 1, by omega⟩
    obtain ⟨f2, rfl⟩ : ∃ f, fu2 = f + 1 := ⟨fu2 - 1, by omega⟩
    have ei : i = k := by omega
    subst ei
    refine ⟨h, fun K => ?_, fun K => ?_⟩
    · rw [W_digestOn_58, if_pos (by rw [n_le (by omega) (by omega)]; omega)]
    · rw [M_digest_146, chk_lit (by decide), e1', if_pos (by rw [n_le (by omega) (by omega)]; omega)]
  | succ m ih =>
    intro fu1 fu2 i h hi hn hf1 hf2
    obtain ⟨f1, rfl⟩ : ∃ f, fu1 = f + 1 := ⟨fu1 - 1, by omega⟩
    obtain ⟨f2, rfl⟩ : ∃ f, fu2 = f + 1 := ⟨fu2 - 1, by omega⟩
    obtain ⟨q1, q2, q3, q4, -, q6, -⟩ := hS.1 i (by omega)
    by_cases hk0 : κ i = 0
    · have a : pl n κ i = false := by unfold pl; rw [decide_eq_true hk0]; simp
      obtain ⟨h', a1, a2⟩ := ih (f1 + 1) f2 (i + 1) h (by omega) (by omega) (by omega) (by omega)
      rw [fb_ct_succ, a] at a1
      simp only [Bool.false_eq_true, if_false, Nat.add_zero] at a1
      refine ⟨h', a1, fun K => ?_⟩
      rw [← a2 K, M_digest_146, chk_lit (by decide), e1', if_neg (by rw [n_le (by omega) (by omega)]; omega), chk_nI (by omega) (by omega), n_cl (by omega), q4, if_pos (by rw [hk0]; decide), lt_eq, nI_1]
    · have a : pl n κ i = true := by unfold pl; rw [decide_eq_false hk0, decide_eq_true hn]; rfl
      have hlt : fb_ct (pl n κ) i < fb_ct (pl n κ) k := by
        have := fb_ct_mono (pl n κ) (show i + 1 ≤ k by omega)
        rw [fb_ct_succ, a] at this
        simp only [if_true] at this
        omega
      obtain ⟨h', a1, a2⟩ := ih f1 f2 (i + 1) (((31 : Int64) * (((31 : Int64) * (((31 : Int64) * h) + (Int32.toInt64 (nI i)))) + (Int32.toInt64 (fo i)))) + (Int32.toInt64 (re i))) (by omega) (by omega) (by omega) (by omega)
      rw [fb_ct_succ, a] at a1
      simp only [if_true] at a1
      refine ⟨h', fun K => ?_, fun K => ?_⟩
      · have dl := dig_line (fo := fo) (re := re) (lg := lg) (a := fb_ct (pl n κ) i) (g := i) (by omega) (by omega) (l2 i (by omega) a) h (fun l1_16 => lt_ (nI (fb_ct (pl n κ) i) + 1) (fun v17 => W_digestOn_58 K fo re lg (nI (fb_ct (pl n κ) k)) f1 l1_16 v17)) 996
        rw [← a1 K, W_digestOn_58, if_neg (by rw [n_le (by omega) (by omega)]; omega), L0]
        refine dl.trans ?_
        rw [lt_eq, nI_1]
      · rw [← a2 K, M_digest_146, chk_lit (by decide), e1', if_neg (by rw [n_le (by omega) (by omega)]; omega), chk_nI (by omega) (by omega), n_cl (by omega), q4, if_neg (by rw [L0, n_le (by omega) (by omega)]; omega), mix_eq, Option.bind_some, chk_nI (by omega) (by omega), mix_eq, Option.bind_some, chk_nI (by omega) (by omega), mix_eq, Option.bind_some, lt_eq, nI_1, q1, q2, q3]
theorem s_digest (hQ : RQ x0 fi se tr lev li co pa ic nc pc fo re le gr lg rows gb lc rc cc pr al yf ys yt yl yi yo yp yn yk yq yw yz now past stt) (hF : RF xb xn xf ref) (ln : Int32) (hash : Int64) :
    ∃ r x0' fo' re' le' gr' lg' rows' gb' lc' rc' cc' pr' al' tb' al2' rb' rm' fm' lm' gm' wh' ck' hash', X_digest x0 xb xn xf fi se tr li co pa ic nc pc fo re le gr lg rows gb lc rc cc pr al yz ln = some (r, x0', fo', re', le', gr', lg', rows', gb', lc', rc', cc', pr', al') ∧ M_digest now stt ref ln tb al2 rb rm fm lm gm wh ck hash = some (r, tb', al2', rb', rm', fm', lm', gm', wh', ck', hash') ∧ RQ x0' fi se tr lev li co pa ic nc pc fo' re' le' gr' lg' rows' gb' lc' rc' cc' pr' al' yf ys yt yl yi yo yp yn yk yq yw yz now past stt := by
  obtain ⟨M, hW, hc, hm, hH, hS⟩ := hQ
  have hyz : yz = stt := by obtain ⟨z, w, Hs, -, -, e1, e2, -⟩ := hH; rw [e1, e2]
  have hk48 := hW.2.1.2
  have hkn := hW.2.1.1
  have e0 : now (Int32.toNatClampNeg 0) = nI (nn M) := hm.1
  obtain ⟨fo', re', le', gr', lg', rows', gb', lc', rc', cc', pr', al', e1, hS'⟩ := sweepNow_sim hW hc hm hS
  obtain ⟨tb', rb', rm', fm', lm', gm', wh', ck', e2, ht, -, -, κ, ⟨φ, lam, gam, hSG, -⟩, ⟨m, ρ, hR⟩, hL, hcc⟩ := hS' now hm tb al2 rb rm fm lm gm wh ck
  have hz : fb_ct (pl (nn M) κ) (nn M + 1) = 0 := fb_ct_zero.mpr (fun j hj => by unfold pl; rw [decide_eq_false (by omega)]; rfl)
  have h12 := hR.1
  obtain ⟨h1, a1, a2⟩ := dig_told hF stt ln 5 1000 0 1675 (by omega) (by omega)
  obtain ⟨h2, b1, b2⟩ := dig_counts hc hm 5 1000 0 h1 (by omega) (by omega)
  obtain ⟨h3, c1, c2⟩ := dig_nodes hW hc hm ht hSG (kk M) 1000 0 h2 (by omega) (by omega)
  obtain ⟨h4, h5, d1, d2, d3⟩ := dig_outs2 hW hc hm h3
  obtain ⟨h6, f1, f2⟩ := dig_rows hR m 1000 0 h5 (by omega) (by omega)
  obtain ⟨h7, g1, g2⟩ := dig_tally hSG hkn hk48 hm.1 hm.2.1 hL (hR.2.1.trans hR.2.2.1.symm) hcc 6 1000 0 h6 (by omega) (by omega)
  obtain ⟨h8, i1, i2⟩ := dig_lines hSG hk48 hm.2.1 hL (kk M - (nn M + 1)) 1000 1000 (nn M + 1) h7 (by omega) (by omega) (by omega) (by omega)
  rw [hz] at i1
  obtain ⟨v, v1, v2⟩ := verdict_eq hW hc hm hSG
  refine ⟨((31 : Int64) * h8) + (Int32.toInt64 v), 0, fo', re', le', gr', lg', rows', gb', lc', rc', cc', pr', al', tb', allR (nn M), rb', rm', fm', lm', gm', wh', ck', ((31 : Int64) * h8) + (Int32.toInt64 v), ?_, ?_, ⟨M, hW, hc, hm, hH, fun _ => hS'⟩⟩
  · have won : W_digestOn fo' re' lg' rows' gb' lc' rc' cc' h5 = some h8 := by
      unfold W_digestOn; rw [L0, f1, g1, i1]
    have con : C_digestCounts co ic nc pc h1 = some h2 := by
      unfold C_digestCounts; rw [L0, b1]
    unfold X_digest
    rw [e1, Option.bind_some, hyz]
    dsimp only
    rw [L0, a1, con, Option.bind_some, c1, d1, Option.bind_some, won, Option.bind_some, v1, Option.bind_some]
  · unfold M_digest
    rw [show M_mixOuts now = fun a b => M_mixOuts now a b from rfl]
    rw [L0, a2, b2, e2, Option.bind_some]
    dsimp only
    rw [c2, ← L0, d2, Option.bind_some, d3, Option.bind_some, L0, f2, g2, chk_lit (by decide), ← L0, e0, nI_1, lt_eq, i2, v2, Option.bind_some, mix_eq, Option.bind_some]
end DIG
