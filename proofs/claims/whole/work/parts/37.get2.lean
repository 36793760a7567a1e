/-! depth, cone, sign, count, told, type -/
theorem sm64 : ∀ j, j < 64 → (((nI j).toInt64 &&& 63).toBitVec.smod 64).toNat = j := by decide +kernel
theorem us64 : ∀ j, j < 64 → ((Int64.toUInt64 (nI j).toInt64) &&& Int64.toUInt64 63).toNat = j := by decide +kernel
theorem one64 : ∀ i, i < 64 → (1 : Int64).toBitVec.getLsbD i = decide (i = 0) := by decide +kernel
theorem bit64 (x : Int64) {j : Nat} (hj : j < 64) : ((Int64.toUInt64 x >>> (Int64.toUInt64 (Int32.toInt64 (nI j)) &&& Int64.toUInt64 63)).toInt64) &&& 1 = (x >>> (Int32.toInt64 (nI j) &&& 63)) &&& 1 := by
  have e : (Int64.toUInt64 x >>> (Int64.toUInt64 (Int32.toInt64 (nI j)) &&& Int64.toUInt64 63)).toInt64.toBitVec = x.toBitVec >>> j := by
    apply BitVec.eq_of_toNat_eq
    show (Int64.toUInt64 x >>> (Int64.toUInt64 (Int32.toInt64 (nI j)) &&& Int64.toUInt64 63)).toNat = _
    rw [UInt64.toNat_shiftRight, us64 j hj, Nat.mod_eq_of_lt hj, BitVec.toNat_ushiftRight]
    rfl
  apply Int64.toBitVec_inj.mp
  rw [Int64.toBitVec_and, Int64.toBitVec_and, e, Int64.toBitVec_shiftRight, BitVec.sshiftRight_eq', sm64 j hj]
  apply BitVec.eq_of_getLsbD_eq
  intro i hi
  rw [BitVec.getLsbD_and, BitVec.getLsbD_and, one64 i hi]
  by_cases h0 : i = 0
  · subst h0
    rw [BitVec.getLsbD_ushiftRight, BitVec.getLsbD_sshiftRight, if_pos (by omega)]
    simp
  · simp [h0]
theorem n_pred {i : Nat} (h : 1 ≤ i) : nI i + (-1) = nI (i - 1) := by
  rw [show nI i + (-1) = nI i - nI 1 from (Int32.sub_eq_add_neg _ _).symm, n_sub h]
section GET2
variable {M : MC} {fi se tr lev li co pa : Nat → Int32} {ic nc pc : Int32} {now : Nat → Int32} {xb xn xf : Int32} {ref : Nat → Int32}
theorem cone_loop (hW : WF M) (hc : ∀ j, nn M < j → j < kk M → fi j = nI (ff M j) ∧ se j = nI (gg M j)) (hm : RCm M now) : ∀ (m fu i : Nat) (l2 : Int64) (l4 : Int32), i ≤ nn M + m → i < kk M → m < fu → ∃ r, (∀ K, C_gatesBehind_14 K fi se (nI (nn M)) fu l2 l4 (nI i) = K r) ∧ ∀ K, M_coneOf_10 K now fu l2 l4 (nI i) = K r := by
  have hk48 := hW.2.1.2
  have hkn := hW.2.1.1
  have e0 : now (Int32.toNatClampNeg 0) = nI (nn M) := hm.1
  intro m
  induction m with
  | zero =>
    intro fu i l2 l4 hi hik hf
    obtain ⟨f, rfl⟩ : ∃ f, fu = f + 1 := ⟨fu - 1, by omega⟩
    refine ⟨l4, fun K => ?_, fun K => ?_⟩
    · rw [C_gatesBehind_14, if_pos (by rw [n_le (by omega) (by omega)]; omega)]
    · rw [M_coneOf_10, chk_lit (by decide), e0, if_pos (by rw [n_le (by omega) (by omega)]; omega)]
  | succ m ih =>
    intro fu i l2 l4 hi hik hf
    obtain ⟨f, rfl⟩ : ∃ f, fu = f + 1 := ⟨fu - 1, by omega⟩
    by_cases hin : i ≤ nn M
    · refine ⟨l4, fun K => ?_, fun K => ?_⟩
      · rw [C_gatesBehind_14, if_pos (by rw [n_le (by omega) (by omega)]; omega)]
      · rw [M_coneOf_10, chk_lit (by decide), e0, if_pos (by rw [n_le (by omega) (by omega)]; omega)]
    · obtain ⟨q1, q2⟩ := hc i (by omega) hik
      obtain ⟨q3, q4⟩ := hm.2.2.1 i (by omega) hik
      obtain ⟨w1, w2⟩ := hW.2.2.1 i (by omega) hik
      have s1 : fi i >>> ((1 : Int32) &&& 31) = nI (ff M i / 2) := by rw [q1]; exact n_shr1 (by omega)
      have s2 : se i >>> ((1 : Int32) &&& 31) = nI (gg M i / 2) := by rw [q2]; exact n_shr1 (by omega)
      have t1 : now (2 + i) / 2 = nI (ff M i / 2) := by rw [q3]; exact n_div2 (by omega)
      have t2 : now (50 + i) / 2 = nI (gg M i / 2) := by rw [q4]; exact n_div2 (by omega)
      by_cases hb : (lg_cmp ((l2 >>> (Int32.toInt64 (nI i) &&& 63)) &&& 1) 1) = 0
      · obtain ⟨r, e1, e2⟩ := ih f (i - 1) (l2 ||| (((1 : Int64) <<< (Int32.toInt64 (nI (ff M i / 2)) &&& 63)) ||| ((1 : Int64) <<< (Int32.toInt64 (nI (gg M i / 2)) &&& 63)))) (l4 + 1) (by omega) (by omega) (by omega)
        refine ⟨r, fun K => ?_, fun K => ?_⟩
        · rw [← e1 K, C_gatesBehind_14, if_neg (by rw [n_le (by omega) (by omega)]; omega), bit64 _ (by omega), if_pos hb, lt_eq, chk_nI (by omega) (by omega), chk_nI (by omega) (by omega), n_cl (by omega), s1, s2, n_pred (by omega)]
          dsimp only [lt_]
        · rw [← e2 K, M_coneOf_10, chk_lit (by decide), e0, if_neg (by rw [n_le (by omega) (by omega)]; omega), if_pos hb, lt_eq, show (2 : Int32) + nI i = nI (2 + i) from n_add 2 i, show (50 : Int32) + nI i = nI (50 + i) from n_add 50 i, chk_nI (by omega) (by omega), chk_nI (by omega) (by omega), n_cl (by omega), n_cl (by omega), t1, t2, n_pred (by omega)]
          dsimp only [lt_]
      · obtain ⟨r, e1, e2⟩ := ih f (i - 1) l2 l4 (by omega) (by omega) (by omega)
        refine ⟨r, fun K => ?_, fun K => ?_⟩
        · rw [← e1 K, C_gatesBehind_14, if_neg (by rw [n_le (by omega) (by omega)]; omega), bit64 _ (by omega), if_neg hb, n_pred (by omega)]
          dsimp only [lt_]
        · rw [← e2 K, M_coneOf_10, chk_lit (by decide), e0, if_neg (by rw [n_le (by omega) (by omega)]; omega), if_neg hb, n_pred (by omega)]
          dsimp only [lt_]
theorem cone_eq (hW : WF M) (hc : RCc M fi se tr lev li co pa ic nc pc) (hm : RCm M now) {l : Nat} (hl : l < 2 * kk M) : ∃ r, C_gatesBehind fi se ic (nI l) = some r ∧ M_coneOf now (nI (l / 2)) = some r := by
  have hk48 := hW.2.1.2
  have hkn := hW.2.1.1
  obtain ⟨rfl, rfl, h3, -⟩ := hc
  obtain ⟨r, e1, e2⟩ := cone_loop hW h3 hm (kk M) 1000 (l / 2) ((1 : Int64) <<< (Int32.toInt64 (nI (l / 2)) &&& 63)) 0 (by omega) (by omega) (by omega)
  refine ⟨r, ?_, ?_⟩
  · unfold C_gatesBehind
    rw [show nI l >>> ((1 : Int32) &&& 31) = nI (l / 2) from n_shr1 (by omega), lt_eq, lt_eq, e1]
  · unfold M_coneOf
    rw [lt_eq, e2]
theorem g_cone (hW : WF M) (hc : RCc M fi se tr lev li co pa ic nc pc) (hm : RCm M now) (hF : RF xb xn xf ref) (x : Int32) : ∃ r xb' xn' xf' ref', X_cone xb xn xf fi se ic nc x = some (r, xb', xn', xf') ∧ M_cone now ref x = some (r, ref') ∧ RF xb' xn' xf' ref' := by
  have hk48 := hW.2.1.2
  have hk1 := hW.2.1.1
  obtain ⟨xb', xn', xf', ref', b1, b2, b3⟩ := ref_bad hF
  have enc := hc.2.1
  rcases isLit x (kk M) (by omega) hk48 with ⟨h1, h2⟩ | ⟨j, hj, rfl⟩
  · refine ⟨-2, xb', xn', xf', ref', ?_, ?_, b3⟩
    · unfold X_cone; rw [enc, h1, Option.bind_some, if_pos rfl, b1]; rfl
    · unfold M_cone; rw [h2 now hm.2.1, Option.bind_some, if_pos rfl, b2]; rfl
  · obtain ⟨r, e1, e2⟩ := cone_eq hW hc hm hj
    refine ⟨r, xb, xn, xf, ref, ?_, ?_, hF⟩
    · unfold X_cone; rw [enc, C_isLit_in hj hk48, Option.bind_some, if_neg one_ne, e1, Option.bind_some]
    · unfold M_cone; rw [M_isLit_in hm.2.1 hj hk48, Option.bind_some, if_neg one_ne, show nI j / 2 = nI (j / 2) from n_div2 (by omega), e2, Option.bind_some]
/-- depths, laid by the reference -/
theorem depth_loop (hW : WF M) (hm : RCm M now) {d : Nat → Nat} (hd : IsL M d) {a : Nat} (ha : a < kk M) : ∀ (m fu i : Nat) (dep : Nat → Int32), i + m = a + 1 → m < fu → (∀ j, j < i → dep j = nI (d j)) → ∃ dep', (∀ K, M_depthOf_2 K now (nI a) fu (nI i) dep = K dep') ∧ ∀ j, j < a + 1 → dep' j = nI (d j) := by
  have hk48 := hW.2.1.2
  have hkn := hW.2.1.1
  have e0 : now (Int32.toNatClampNeg 0) = nI (nn M) := hm.1
  intro m
  induction m with
  | zero =>
    intro fu i dep hi hf h
    obtain ⟨f, rfl⟩ : ∃ f, fu = f + 1 := ⟨fu - 1, by omega⟩
    refine ⟨dep, fun K => ?_, fun j hj => h j (by omega)⟩
    rw [M_depthOf_2, if_pos (by rw [n_lt (by omega) (by omega)]; omega)]
  | succ m ih =>
    intro fu i dep hi hf h
    obtain ⟨f, rfl⟩ : ∃ f, fu = f + 1 := ⟨fu - 1, by omega⟩
    by_cases hin : i ≤ nn M
    · obtain ⟨dep', e, a1⟩ := ih f (i + 1) (upd dep i 0) (by omega) (by omega) (fun j hj => by
        by_cases ej : j = i
        · subst ej; rw [upd_same, hd.1 j hin]; rfl
        · rw [upd_ne ej]; exact h j (by omega))
      refine ⟨dep', fun K => ?_, a1⟩
      rw [← e K, M_depthOf_2, if_neg (by rw [n_lt (by omega) (by omega)]; omega), chk_nI (by omega) (by omega), n_cl (by omega), lt_eq, chk_lit (by decide), e0, if_pos (by rw [n_le (by omega) (by omega)]; omega), lt_eq, nI_1]
    · obtain ⟨q3, q4⟩ := hm.2.2.1 i (by omega) (by omega)
      obtain ⟨w1, w2⟩ := hW.2.2.1 i (by omega) (by omega)
      have t1 : now (2 + i) / 2 = nI (ff M i / 2) := by rw [q3]; exact n_div2 (by omega)
      have t2 : now (50 + i) / 2 = nI (gg M i / 2) := by rw [q4]; exact n_div2 (by omega)
      have d1 := IsL_le hW hd (ff M i / 2) (by omega)
      have d2 := IsL_le hW hd (gg M i / 2) (by omega)
      have hdi := hd.2 i (by omega) (by omega)
      have u1 : upd dep i 0 (ff M i / 2) = nI (d (ff M i / 2)) := by rw [upd_ne (by omega)]; exact h _ (by omega)
      have u2 : upd dep i 0 (gg M i / 2) = nI (d (gg M i / 2)) := by rw [upd_ne (by omega)]; exact h _ (by omega)
      obtain ⟨dep', e, a1⟩ := ih f (i + 1) (upd (upd dep i 0) i (nI (d i))) (by omega) (by omega) (fun j hj => by
        by_cases ej : j = i
        · subst ej; rw [upd_same]
        · rw [upd_ne ej, upd_ne ej]; exact h j (by omega))
      refine ⟨dep', fun K => ?_, a1⟩
      rw [← e K, M_depthOf_2, if_neg (by rw [n_lt (by omega) (by omega)]; omega), chk_nI (by omega) (by omega), n_cl (by omega), lt_eq, chk_lit (by decide), e0, if_neg (by rw [n_le (by omega) (by omega)]; omega), show (2 : Int32) + nI i = nI (2 + i) from n_add 2 i, show (50 : Int32) + nI i = nI (50 + i) from n_add 50 i, chk_nI (by omega) (by omega), n_cl (by omega), t1, chk_nI (by omega) (by omega), n_cl (by omega), u1, lt_eq, chk_nI (by omega) (by omega), n_cl (by omega), t2, chk_nI (by omega) (by omega), n_cl (by omega), u2, lt_eq]
      by_cases hle : d (ff M i / 2) ≤ d (gg M i / 2)
      · rw [if_pos (by rw [n_le (by omega) (by omega)]; exact hle), chk_nI (by omega) (by omega), lt_eq, lt_eq, nI_1, show (1 : Int32) + nI (d (gg M i / 2)) = nI (1 + d (gg M i / 2)) from n_add 1 _, hdi, show max (d (ff M i / 2)) (d (gg M i / 2)) = d (gg M i / 2) by omega]
      · rw [if_neg (by rw [n_le (by omega) (by omega)]; exact hle), chk_nI (by omega) (by omega), lt_eq, lt_eq, nI_1, show (1 : Int32) + nI (d (ff M i / 2)) = nI (1 + d (ff M i / 2)) from n_add 1 _, hdi, show max (d (ff M i / 2)) (d (gg M i / 2)) = d (ff M i / 2) by omega]
theorem depth_eq (hW : WF M) (hm : RCm M now) {d : Nat → Nat} (hd : IsL M d) {a : Nat} (ha : a < kk M) (dep : Nat → Int32) : ∃ dep', M_depthOf now dep (nI a) = some (nI (d a), dep') := by
  have hk48 := hW.2.1.2
  obtain ⟨dep', e, h⟩ := depth_loop hW hm hd ha (a + 1) 1000 0 dep (by omega) (by omega) (fun j hj => absurd hj (Nat.not_lt_zero j))
  refine ⟨dep', ?_⟩
  unfold M_depthOf
  rw [L0, e, chk_nI (by omega) (by omega), n_cl (by omega), h a (by omega)]
theorem g_depth (hW : WF M) (hc : RCc M fi se tr lev li co pa ic nc pc) (hm : RCm M now) (hF : RF xb xn xf ref) (dep : Nat → Int32) (x : Int32) : ∃ r xb' xn' xf' ref' dep', X_depth xb xn xf lev nc x = some (r, xb', xn', xf') ∧ M_depth now ref dep x = some (r, ref', dep') ∧ RF xb' xn' xf' ref' := by
  have hk48 := hW.2.1.2
  have hk1 := hW.2.1.1
  obtain ⟨xb', xn', xf', ref', b1, b2, b3⟩ := ref_bad hF
  obtain ⟨rfl, rfl, h3, h4, ⟨d, hd, hl⟩, -⟩ := hc
  rcases isLit x (kk M) (by omega) hk48 with ⟨h1, h2⟩ | ⟨j, hj, rfl⟩
  · refine ⟨-2, xb', xn', xf', ref', dep, ?_, ?_, b3⟩
    · unfold X_depth; rw [h1, Option.bind_some, if_pos rfl, b1]; rfl
    · unfold M_depth; rw [h2 now hm.2.1, Option.bind_some, if_pos rfl, b2]; rfl
  · obtain ⟨dep', e1⟩ := depth_eq hW hm hd (a := j / 2) (by omega) dep
    refine ⟨nI (d (j / 2)), xb, xn, xf, ref, dep', ?_, ?_, hF⟩
    · unfold X_depth; rw [C_isLit_in hj hk48, Option.bind_some, if_neg one_ne, C_levelOf_eq (by omega), hl _ (by omega), Option.bind_some]
    · unfold M_depth; rw [M_isLit_in hm.2.1 hj hk48, Option.bind_some, if_neg one_ne, show nI j / 2 = nI (j / 2) from n_div2 (by omega), e1, Option.bind_some]
theorem sign_loop {j m : Nat} {ρ : Nat → Nat} (hj : j < 48) (hm : m ≤ 12) (hrow : ∀ i, i < m → pa i = nI (ρ i) ∧ ρ i < 32) : ∀ (k fuel i : Nat), i + k = m → k < fuel → ∀ K, C_signOf_4 K tr pa (nI m) (nI j) fuel (nI (bv (fun i => bt (tr j) (ρ i)) i)) (nI i) = K (nI (bv (fun i => bt (tr j) (ρ i)) m)) := by
  intro k
  induction k with
  | zero =>
    intro fuel i hi hf K
    obtain ⟨n, rfl⟩ : ∃ n, fuel = n + 1 := ⟨fuel - 1, by omega⟩
    rw [C_signOf_4, if_pos (by rw [n_le (by omega) (by omega)]; omega), show i = m by omega]
  | succ k ih =>
    intro fuel i hi hf K
    obtain ⟨n, rfl⟩ : ∃ n, fuel = n + 1 := ⟨fuel - 1, by omega⟩
    obtain ⟨r1, r2⟩ := hrow i (by omega)
    rw [C_signOf_4, if_neg (by rw [n_le (by omega) (by omega)]; omega), chk_nI (by omega) (by omega), chk_nI (by omega) (by omega), n_cl (by omega), n_cl (by omega), r1, bit1u _ r2]
    unfold lt_
    have e : nI (if bt (tr j) (ρ i) then 1 else 0) <<< (nI i &&& 31) = nI (if bt (tr j) (ρ i) then 2 ^ i else 0) := by
      cases bt (tr j) (ρ i)
      · exact (shl_bit i (by omega)).2
      · exact (shl_bit i (by omega)).1
    rw [e, or_bit (bv_lt _ i), nI_1]
    exact ih n (i + 1) (by omega) (by omega) K
theorem sign_eq (hW : WF M) (hc : RCc M fi se tr lev li co pa ic nc pc) (hm : RCm M now) {tb : Nat → Int32} (ht : IsT M tb) {j : Nat} (hj : j < kk M) : ∃ r, C_signOf tr pa pc (nI j) = some r ∧ M_signOf now tb (nI j) = some r := by
  have hk48 := hW.2.1.2
  have hp12 := hW.2.2.2.2.2.1
  have h32 := (pow_n hW.1.1 hW.1.2).2
  obtain ⟨rfl, rfl, h3, h4, h5, h6, h7, rfl, h9⟩ := hc
  have hpt : ∀ i, i < np M → pt M i < 32 := fun i hi => Nat.lt_of_lt_of_le (hW.2.2.2.2.2.2 i hi) h32
  refine ⟨nI (bv (fun i => bt (tr j) (pt M i)) (np M)), ?_, ?_⟩
  · have := sign_loop (tr := tr) (pa := pa) (j := j) (ρ := pt M) (by omega) hp12 (fun i hi => ⟨h9 i hi, hpt i hi⟩) (np M) 1000 0 (by omega) (by omega) (fun l => some l)
    rw [show bv (fun i => bt (tr j) (pt M i)) 0 = 0 from rfl] at this
    unfold C_signOf
    rw [L0, this]
  · have e112 : now (Int32.toNatClampNeg 112) = nI (np M) := hm.2.2.2.2.2.1
    unfold M_signOf
    rw [chk_nI (by omega) (by omega), chk_lit (by decide), n_cl (by omega), e112, L113, M_bitsOf_eq (ρ := pt M) hp12 (by omega) (by omega) (fun i hi => ⟨hm.2.2.2.2.2.2 i hi, hpt i hi⟩), Option.bind_some, IsT_one hW ht h4 j hj]
theorem g_sign (hW : WF M) (hc : RCc M fi se tr lev li co pa ic nc pc) (hm : RCm M now) (hF : RF xb xn xf ref) (tb : Nat → Int32) (al x : Int32) : ∃ r xb' xn' xf' ref' tb' al', X_sign xb xn xf tr pa nc pc x = some (r, xb', xn', xf') ∧ M_sign now ref tb al x = some (r, ref', tb', al') ∧ RF xb' xn' xf' ref' := by
  have hk48 := hW.2.1.2
  have hk1 := hW.2.1.1
  have enc := hc.2.1
  rcases isNode x (kk M) (by omega) hk48 with ⟨h1, h2⟩ | ⟨j, hj, rfl⟩
  · obtain ⟨xb', xn', xf', ref', b1, b2, b3⟩ := ref_bad hF
    refine ⟨-2, xb', xn', xf', ref', tb, al, ?_, ?_, b3⟩
    · unfold X_sign; rw [enc, h1, Option.bind_some, if_pos rfl, b1]; rfl
    · unfold M_sign; rw [h2 now hm.2.1, Option.bind_some, if_pos rfl, b2]; rfl
  · obtain ⟨t', a1, a2⟩ := M_laysTables_eq hW hm tb al
    obtain ⟨r, e1, e2⟩ := sign_eq hW hc hm a2 hj
    refine ⟨r, xb, xn, xf, ref, t', allR (nn M), ?_, ?_, hF⟩
    · unfold X_sign; rw [enc, C_isNode_in hj hk48, Option.bind_some, if_neg one_ne, e1, Option.bind_some]
    · unfold M_sign; rw [M_isNode_in hm.2.1 hj hk48, Option.bind_some, if_neg one_ne, a1, Option.bind_some, e2, Option.bind_some]
theorem within4 (x : Int32) : (M_within x 0 4 = some 0 ∧ (x < 0 ∨ (¬ x < 0 ∧ ¬ x ≤ 4))) ∨ (M_within x 0 4 = some 1 ∧ ¬ x < 0 ∧ x ≤ 4 ∧ (x = 0 ∨ x = 1 ∨ x = 2 ∨ x = 3 ∨ x = 4)) := by
  rcases arg3 x 5 (by omega) with h | ⟨h, h'⟩ | ⟨j, hj, rfl⟩
  · exact Or.inl ⟨within_lo h, Or.inl h⟩
  · have h4 : (4 : Int32) < x := (le_pred (a := 5) (by omega) (by omega)).mp h'
    exact Or.inl ⟨within_hi h4, Or.inr ⟨h, by rw [Int32.not_le]; exact h4⟩⟩
  · refine Or.inr ?_
    rcases (show j = 0 ∨ j = 1 ∨ j = 2 ∨ j = 3 ∨ j = 4 by omega) with rfl | rfl | rfl | rfl | rfl <;> exact ⟨by decide, by decide, by decide, by decide⟩
theorem g_count (hc : RCc M fi se tr lev li co pa ic nc pc) (hm : RCm M now) (hF : RF xb xn xf ref) (x : Int32) : ∃ r xb' xn' xf' ref', X_count xb xn xf co ic nc pc x = some (r, xb', xn', xf') ∧ M_count now ref x = some (r, ref') ∧ RF xb' xn' xf' ref' := by
  obtain ⟨rfl, rfl, h3, h4, h5, ⟨h6, h6'⟩, h7, rfl, -⟩ := hc
  obtain ⟨m1, m2, m3, ⟨m4, m4'⟩, m5, m6, -⟩ := hm
  rcases within4 x with ⟨h, h'⟩ | ⟨h, n1, n2, h'⟩
  · obtain ⟨xb', xn', xf', ref', b1, b2, b3⟩ := ref_bad hF
    refine ⟨-2, xb', xn', xf', ref', ?_, ?_, b3⟩
    · unfold X_count
      rcases h' with h' | ⟨h', h2⟩
      · rw [if_pos h', b1]; rfl
      · rw [if_neg h', if_neg h2, b1]; rfl
    · unfold M_count; rw [h, Option.bind_some, if_pos rfl, b2]; rfl
  · have key : ∃ r, C_countOf co (nI (nn M)) (nI (kk M)) (nI (np M)) x = some r ∧ M_countOf now x = some r := by
      rcases h' with rfl | rfl | rfl | rfl | rfl
      · exact ⟨nI (nn M), rfl, congrArg some m1⟩
      · exact ⟨nI (kk M), rfl, congrArg some m2⟩
      · exact ⟨nI (oc M 0), congrArg some h6, congrArg some m4⟩
      · exact ⟨nI (oc M 1), congrArg some h6', congrArg some m4'⟩
      · exact ⟨nI (np M), rfl, congrArg some m6⟩
    obtain ⟨r, e1, e2⟩ := key
    refine ⟨r, xb, xn, xf, ref, ?_, ?_, hF⟩
    · unfold X_count; rw [if_neg n1, if_pos n2, e1, Option.bind_some]
    · unfold M_count; rw [h, Option.bind_some, if_neg one_ne, e2, Option.bind_some]
theorem toldOf_eq (hF : RF xb xn xf ref) (sz ln : Int32) {x : Int32} (h' : x = 0 ∨ x = 1 ∨ x = 2 ∨ x = 3 ∨ x = 4) : ∃ r, X_toldOf xb xn xf sz ln x = some r ∧ M_toldOf sz ref ln x = some r := by
  obtain ⟨rfl, rfl, rfl⟩ := hF
  rcases h' with rfl | rfl | rfl | rfl | rfl
  · exact ⟨ref 0, rfl, rfl⟩
  · exact ⟨ref 1, rfl, rfl⟩
  · exact ⟨ref 2, rfl, rfl⟩
  · exact ⟨ln, rfl, rfl⟩
  · exact ⟨sz, rfl, rfl⟩
theorem g_told (hF : RF xb xn xf ref) (sz ln x : Int32) : ∃ r xb' xn' xf' ref', X_told xb xn xf sz ln x = some (r, xb', xn', xf') ∧ M_told sz ref ln x = some (r, ref') ∧ RF xb' xn' xf' ref' := by
  rcases within4 x with ⟨h, h'⟩ | ⟨h, n1, n2, h'⟩
  · obtain ⟨xb', xn', xf', ref', b1, b2, b3⟩ := ref_bad hF
    refine ⟨-2, xb', xn', xf', ref', ?_, ?_, b3⟩
    · unfold X_told
      rcases h' with h' | ⟨h', h2⟩
      · rw [if_pos h', b1]; rfl
      · rw [if_neg h', if_neg h2, b1]; rfl
    · unfold M_told; rw [h, Option.bind_some, if_pos rfl, b2]; rfl
  · obtain ⟨r, e1, e2⟩ := toldOf_eq hF sz ln h'
    refine ⟨r, xb, xn, xf, ref, ?_, ?_, hF⟩
    · unfold X_told; rw [if_neg n1, if_pos n2, e1, Option.bind_some]
    · unfold M_told; rw [h, Option.bind_some, if_neg one_ne, e2, Option.bind_some]
/-- the text, held by both -/
def TX (tby : Nat → Int32) (tln : Int32) (text : Nat → Int32) (len : Int32) : Prop := ∃ z, z ≤ 150 ∧ tln = nI z ∧ len = nI z ∧ ∀ i, i < z → tby i = text i ∧ ∃ c, c < 128 ∧ text i = nI c
theorem g_type {tby text : Nat → Int32} {tln len : Int32} (hT : TX tby tln text len) (hF : RF xb xn xf ref) (x : Int32) : ∃ r xb' xn' xf' tby' tln' ref' text' len', X_type xb xn xf tby tln x = some (r, xb', xn', xf', tby', tln') ∧ M_type ref text len x = some (r, ref', text', len') ∧ RF xb' xn' xf' ref' ∧ TX tby' tln' text' len' := by
  have hT' := hT
  obtain ⟨z, hz, rfl, rfl, h⟩ := hT
  rcases arg3 x 128 (by omega) with hx | ⟨hx, hx'⟩ | ⟨j, hj, rfl⟩
  · obtain ⟨xb', xn', xf', ref', b1, b2, b3⟩ := ref_bad hF
    refine ⟨-2, xb', xn', xf', tby, nI z, ref', text, nI z, ?_, ?_, b3, hT'⟩
    · unfold X_type; rw [if_pos hx, b1]; rfl
    · unfold M_type; rw [within_lo hx, Option.bind_some, if_pos rfl, b2]; rfl
  · obtain ⟨xb', xn', xf', ref', b1, b2, b3⟩ := ref_bad hF
    refine ⟨-2, xb', xn', xf', tby, nI z, ref', text, nI z, ?_, ?_, b3, hT'⟩
    · unfold X_type; rw [if_neg hx, if_neg (by rw [Int32.not_lt]; exact hx'), b1]; rfl
    · unfold M_type; rw [within_hi (show (127 : Int32) < x from (le_pred (a := 128) (by omega) (by omega)).mp hx'), Option.bind_some, if_pos rfl, b2]; rfl
  · have w1 : M_within (nI j) 0 127 = some 1 := within_in (nlt0 j (by omega)) (by rw [L127, n_lt (by omega) (by omega)]; omega)
    by_cases hz2 : z = 150
    · obtain ⟨xb', xn', xf', ref', b1, b2, b3⟩ := ref_full hF
      refine ⟨-4, xb', xn', xf', tby, nI z, ref', text, nI z, ?_, ?_, b3, hT'⟩
      · unfold X_type; rw [if_neg (nlt0 j (by omega)), if_pos (by rw [L128, n_lt (by omega) (by omega)]; omega), if_pos (by rw [L150, n_le (by omega) (by omega)]; omega), b1]; rfl
      · unfold M_type; rw [w1, Option.bind_some, if_neg one_ne, if_pos (by rw [hz2]; rfl), b2]; rfl
    · refine ⟨nI (z + 1), xb, xn, xf, upd tby z (nI j), nI (z + 1), ref, upd text z (nI j), nI (z + 1), ?_, ?_, hF, ⟨z + 1, by omega, rfl, rfl, fun i hi => ?_⟩⟩
      · unfold X_type T_append; rw [if_neg (nlt0 j (by omega)), if_pos (by rw [L128, n_lt (by omega) (by omega)]; omega), if_neg (by rw [L150, n_le (by omega) (by omega)]; omega), chk_nI (by omega) (by omega), n_cl (by omega), lt_eq, nI_1, lt_eq, Option.bind_some]
      · unfold M_type; rw [w1, Option.bind_some, if_neg one_ne, if_neg (by rw [L150, n_eq (by omega) (by omega)]; omega), chk_nI (by omega) (by omega), n_cl (by omega), lt_eq, nI_1, lt_eq]
      · by_cases ei : i = z
        · subst ei; rw [upd_same, upd_same]; exact ⟨rfl, j, hj, rfl⟩
        · rw [upd_ne ei, upd_ne ei]; exact h i (by omega)
end GET2
