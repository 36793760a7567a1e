/-! settling, by both -/
section SETT
variable {n k v : Nat} {fo re le gr fm wh lm gm nw nb : Nat → Int32}
theorem M_settlesAll_eq {now now1 now2 tb rb fm0 lm0 gm0 wh0 tb' rb' nb' : Nat → Int32} {al rm ck al' rm' ck' : Int32} (hs : M_sweeps now tb al rb rm fm0 lm0 gm0 wh0 ck = some (tb', al', rb', rm', fm, lm, gm, wh, ck')) (b1 : ∀ K, M_settlesAll_8 K now wh 1000 (nI 0) (nI 0) nb = K (nI v) nb') (b2 : ∀ x K, M_settlesAll_50 K fm nb' x 1000 (nI 0) now = K now1) (b3 : ∀ x K, M_settlesAll_130 K lm gm wh nb' x 1000 (nI (n + 1)) now1 = K now2) (h0 : now1 0 = nI n) (h1 : now2 1 = nI k) (hv : v ≤ k) : M_settlesAll now tb al rb rm fm0 lm0 gm0 wh0 ck nb = some (nI (k - v), upd now2 1 (nI v), tb', al', rb', rm', fm, lm, gm, wh, ck', nb') := by
  unfold M_settlesAll
  have h1' : now2 (Int32.toNatClampNeg 1) = nI k := h1
  rw [hs, Option.bind_some]
  dsimp only
  rw [L0, b1, b2, chk_nI (by omega) (by omega), n_cl (by omega), h0, nI_1, lt_eq, b3, chk_lit (by decide), h1', n_sub hv, lt_eq, chk_lit (by decide), lt_eq]
  rfl
theorem C_settleBy_eq {fi se tr lev li co fi' se' tr' lev' li' nw' : Nat → Int32} (a1 : ∀ K, W_numberKept_4 K re (nI k) 1000 (nI 0) (nI 0) nw = K nw') (a2 : ∀ K, C_settleBy_27 K (nI n) re le gr nw' (nI k) 1000 (nI (n + 1)) fi se tr lev (nI (n + 1)) = K fi' se' tr' lev' (nI v)) (a3 : ∀ x K, C_settleBy_74 K co fo nw' x 1000 (nI 0) li = K li') (hv : v ≤ k) : C_settleBy fi se tr lev li co (nI n) (nI k) fo re le gr nw = some (nI (k - v), fi', se', tr', lev', li', nI v, nw') := by
  unfold C_settleBy W_numberKept
  rw [L0, a1, Option.bind_some, lt_eq, lt_eq, nI_1, a2, a3, n_sub hv]
theorem sidesC {φ κ lam gam : Nat → Nat} (h : SG n k φ κ lam gam fo re le gr fm wh lm gm) (hk : k ≤ 48) (hnw : ∀ i, i < k → κ i = 0 → nw i = nI (nu κ i)) {co : Nat → Int32} {c : Nat → Nat} (hco : ∀ s, s < 2 → co s = nI (c s)) (hc6 : ∀ s, s < 2 → c s ≤ 6) {o : Nat → Nat → Nat} (ho : ∀ s i, s < 2 → i < c s → o s i < 2 * k) {li : Nat → Int32} (hl : ∀ s j, s < 2 → j < c s → li (s * 6 + j) = nI (o s j)) : ∃ li', (∀ x K, C_settleBy_74 K co fo nw x 1000 (nI 0) li = K li') ∧ ∀ s j, s < 2 → j < c s → li' (s * 6 + j) = nI (st κ (lp φ (o s j))) := by
  have c0 := hc6 0 (by omega)
  have c1 := hc6 1 (by omega)
  obtain ⟨l1, e1, p1, p2⟩ := outsC h hk hnw (s := 0) (by omega) (hco 0 (by omega)) c0 (ho 0 · (by omega)) (c 0) 1000 0 li (by omega) (by omega) (fun j _ hj => hl 0 j (by omega) hj)
  obtain ⟨l2, e2, q1, q2⟩ := outsC h hk hnw (s := 1) (by omega) (hco 1 (by omega)) c1 (ho 1 · (by omega)) (c 1) 1000 0 l1 (by omega) (by omega) (fun j _ hj => by rw [p2 _ (by omega)]; exact hl 1 j (by omega) hj)
  have s1 : C_settleOuts li co fo nw (nI 0) = some l1 := by unfold C_settleOuts; rw [L0, e1]
  have s2 : C_settleOuts l1 co fo nw (nI 1) = some l2 := by unfold C_settleOuts; rw [L0, e2]
  refine ⟨l2, fun x K => ?_, fun s j hs hj => ?_⟩
  · have key : ∀ f, C_settleBy_74 K co fo nw x (f + 3) (nI 0) li = K l2 := by
      intro f
      rw [C_settleBy_74, if_neg (by decide), s1, Option.bind_some, lt_eq, nI_1, C_settleBy_74, if_neg (by decide), s2, Option.bind_some, lt_eq, nI_1, C_settleBy_74, if_pos (by decide)]
    exact key 997
  · rcases (show s = 0 ∨ s = 1 by omega) with rfl | rfl
    · rw [q2 _ (by omega)]; exact p1 j (Nat.zero_le j) hj
    · exact q1 j (Nat.zero_le j) hj
end SETT
set_option maxRecDepth 100000 in
theorem settle_sim {M : MC} (hW : WF M) {fi se tr lev li co pa : Nat → Int32} {ic nc pc : Int32} (hc : RCc M fi se tr lev li co pa ic nc pc) {now : Nat → Int32} (hm : RCm M now) {φ κ lam gam : Nat → Nat} {fo re le gr fm wh lm gm : Nat → Int32} (hS : SG (nn M) (kk M) φ κ lam gam fo re le gr fm wh lm gm) (nw nb : Nat → Int32) {tb rb fm0 lm0 gm0 wh0 tb' rb' : Nat → Int32} {al rm ck al' rm' ck' : Int32} (hs : M_sweeps now tb al rb rm fm0 lm0 gm0 wh0 ck = some (tb', al', rb', rm', fm, lm, gm, wh, ck')) :
    ∃ M' v fi' se' tr' lev' li' nc' nw' now' nb', WF M' ∧ v < 48 ∧ C_settleBy fi se tr lev li co ic nc fo re le gr nw = some (nI v, fi', se', tr', lev', li', nc', nw') ∧ RCc M' fi' se' tr' lev' li' co pa ic nc' pc ∧ M_settlesAll now tb al rb rm fm0 lm0 gm0 wh0 ck nb = some (nI v, now', tb', al', rb', rm', fm, lm, gm, wh, ck', nb') ∧ RCm M' now' := by
  obtain ⟨hn1, hn5⟩ := hW.1
  have hk48 := hW.2.1.2
  have hkn := hW.2.1.1
  obtain ⟨rfl, rfl, h3, h4, ⟨d, hd1, hd2⟩, h6, h7, rfl, h9⟩ := hc
  obtain ⟨m1, m2, m3, m4, m5, m6, m7⟩ := hm
  have hin : ∀ j, j ≤ nn M → κ j = 0 := fun j hj => (hS.1 j (by omega)).2.2.2.2.2.2.2.2 hj
  have hre : ∀ j, j < kk M → re j = nI (κ j) ∧ wh j = nI (κ j) ∧ κ j < 4 := fun j hj => by
    obtain ⟨-, -, a, b, -, c, -⟩ := hS.1 j hj
    exact ⟨a, b, c⟩
  have e0 : nu κ 0 = 0 := rfl
  have hco : ∀ s, s < 2 → co s = nI (oc M s) := fun s hs' => by
    rcases (show s = 0 ∨ s = 1 by omega) with rfl | rfl
    · exact h6.1
    · exact h6.2
  have hno : ∀ s, s < 2 → now (98 + s) = nI (oc M s) := fun s hs' => by
    rcases (show s = 0 ∨ s = 1 by omega) with rfl | rfl
    · exact m4.1
    · exact m4.2
  have hc6 : ∀ s, s < 2 → oc M s ≤ 6 := fun s hs' => oc6 hW hs'
  have ho : ∀ s i, s < 2 → i < oc M s → ol M s i < 2 * kk M := hW.2.2.2.2.1
  obtain ⟨nw', a1, a2⟩ := numKept hk48 (fun j hj => ⟨(hre j hj).1, (hre j hj).2.2⟩) (kk M) 1000 0 nw (by omega) (by omega) (fun i hi => absurd hi (Nat.not_lt_zero i))
  obtain ⟨nb', b1, b2⟩ := numAll hk48 m2 (fun j hj => ⟨(hre j hj).2.1, (hre j hj).2.2⟩) (kk M) 1000 0 nb (by omega) (by omega) (fun i hi => absurd hi (Nat.not_lt_zero i))
  rw [e0] at a1 b1
  obtain ⟨li', c1, c2⟩ := sidesC hS hk48 a2 hco hc6 ho h7
  obtain ⟨now1, o1, o2, o3⟩ := outsM hS hk48 b2 hc6 ho 12 1000 0 now (by omega) (by omega) hno (fun q _ hq h => by
    have := m5 (q / 6) (q - q / 6 * 6) (by omega) h
    rw [show 100 + 6 * (q / 6) + (q - q / 6 * 6) = 100 + q by omega] at this
    exact this)
  have en := nu_inp hin (nn M + 1) (Nat.le_refl _)
  have hnu := nu_le κ (kk M)
  have hnu2 := nu_mono κ (show nn M + 1 ≤ kk M by omega)
  rw [en] at hnu2
  obtain ⟨M1, fi', se', tr', lev', now2, z1, z2, z3, z4, z5, z6, z7, z8⟩ := setGates (re := re) (wh := wh) (nw := nw') (nb := nb') hn1 hn5 hkn hk48 hin hre hS.2 a2 b2 (kk M - (nn M + 1)) 1000 1000 (nn M + 1) (newM (nn M)) fi se tr lev now1 (by omega) (by omega) (by omega) (by omega) (newM_WF hn1 hn5) rfl en.symm rfl rfl rfl (by
    rw [en]
    refine ⟨rfl, rfl, fun j p1 p2 => absurd p2 (by show ¬ j < nn M + 1; have : nn M < j := p1; omega), ⟨h4.1, fun j p1 p2 => h4.2.1 j p1 p2, fun j p1 p2 => absurd p2 (by show ¬ j < nn M + 1; have : nn M < j := p1; omega)⟩, ⟨d, ⟨fun j hj => hd1.1 j hj, fun j p1 p2 => absurd p2 (by show ¬ j < nn M + 1; have : nn M < j := p1; omega)⟩, fun j hj => hd2 j (by have : j < nn M + 1 := hj; omega)⟩, ⟨rfl, rfl⟩, fun s i p1 p2 => absurd p2 (Nat.not_lt_zero i), rfl, fun i hi => absurd hi (Nat.not_lt_zero i)⟩) (by rw [o3 1 (by omega)]; exact m2) (fun i p1 p2 => by omega)
  rw [en] at z5
  obtain ⟨n1, k1, f1, g1, oc1, ol1, np1, pt1⟩ := M1
  dsimp only [nn, kk] at z2 z3
  subst z2 z3
  obtain ⟨-, w1, w2, -⟩ := z1
  obtain ⟨-, -, y3, y4, y5, -⟩ := z4
  refine ⟨(nn M, nu κ (kk M), f1, g1, oc M, fun s i => st κ (lp φ (ol M s i)), np M, pt M), kk M - nu κ (kk M), fi', se', tr', lev', li', nI (nu κ (kk M)), nw', upd now2 1 (nI (nu κ (kk M))), nb', ?_, by omega, C_settleBy_eq a1 z5 c1 hnu, ?_, M_settlesAll_eq (n := nn M) hs b1 o1 (fun x K => z6 x K) (by rw [o3 0 (by omega)]; exact m1) (by rw [z8 1 (by omega), o3 1 (by omega)]; exact m2) hnu, ?_⟩
  · refine ⟨hW.1, w1, w2, hW.2.2.2.1, fun s i p1 p2 => ?_, hW.2.2.2.2.2.1, hW.2.2.2.2.2.2⟩
    obtain ⟨q1, q2⟩ := lp_lt hS (ho s i p1 p2)
    exact st_lt (by omega) q2
  · exact ⟨rfl, rfl, y3, y4, y5, h6, c2, rfl, h9⟩
  · refine ⟨?_, upd_same, fun j p1 p2 => ?_, ⟨?_, ?_⟩, fun s i p1 p2 => ?_, ?_, fun i hi => ?_⟩
    · rw [upd_ne (by omega), z8 0 (by omega), o3 0 (by omega)]; exact m1
    · rw [upd_ne (by omega), upd_ne (by omega)]; exact z7 j p1 p2
    · rw [upd_ne (by omega), z8 98 (by omega), o3 98 (by omega)]; exact m4.1
    · rw [upd_ne (by omega), z8 99 (by omega), o3 99 (by omega)]; exact m4.2
    · have hi6 := hc6 s p1
      have p2' : i < oc M s := p2
      rw [upd_ne (by omega), z8 _ (by omega)]
      have e1 : (6 * s + i) / 6 = s := by omega
      have e2 : 6 * s + i - (6 * s + i) / 6 * 6 = i := by omega
      have := o2 (6 * s + i) (Nat.zero_le _) (by omega) (by rw [e2, e1]; exact p2')
      rw [e2, e1] at this
      rw [show 100 + 6 * s + i = 100 + (6 * s + i) by omega]
      exact this
    · rw [upd_ne (by omega), z8 _ (by omega), o3 112 (by omega)]; exact m6
    · rw [upd_ne (by omega), z8 _ (by omega), o3 _ (by omega)]; exact m7 i hi
