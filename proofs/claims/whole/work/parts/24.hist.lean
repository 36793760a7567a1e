/-! states: rows copied -/
theorem laysAside_loop (K : (Nat → Int32) → Option (Nat → Int32)) {now : Nat → Int32} : ∀ (m fuel i : Nat) (f : Nat → Int32), i + m = 125 → m < fuel → ∃ f', M_laysAside_2 K now fuel (nI i) f = K f' ∧ (∀ j, j < i → f' j = f j) ∧ ∀ j, i ≤ j → j < 125 → f' j = now j := by
  intro m
  induction m with
  | zero =>
    intro fuel i f hi hf
    obtain ⟨n, rfl⟩ : ∃ n, fuel = n + 1 := ⟨fuel - 1, by omega⟩
    refine ⟨f, ?_, fun _ _ => rfl, fun j a b => by omega⟩
    rw [M_laysAside_2, if_pos (by rw [L125, n_le (by omega) (by omega)]; omega)]
  | succ m ih =>
    intro fuel i f hi hf
    obtain ⟨n, rfl⟩ : ∃ n, fuel = n + 1 := ⟨fuel - 1, by omega⟩
    obtain ⟨f', e, a1, a2⟩ := ih n (i + 1) (upd f i (now i)) (by omega) (by omega)
    refine ⟨f', ?_, fun j hj => ?_, fun j hj1 hj2 => ?_⟩
    · rw [← e, M_laysAside_2, if_neg (by rw [L125, n_le (by omega) (by omega)]; omega)]
      simp (disch := omega) only [lt_, Option.bind_some, n_lit, n_lt, n_le, n_eq, n_cl, n_add, n_sub, n_mul, n_shr1, n_and1, n_xor1, n_div2, n_rem2, chk_nI, if_true, if_false, ite_true, ite_false, reduceIte, Nat.not_lt, Nat.not_le, not_true_eq_false, not_false_eq_true, Nat.le_refl, Nat.reduceLeDiff, Nat.reduceLT, Nat.reduceEqDiff, Nat.reduceAdd, Nat.reduceMul, Nat.reduceSub, Nat.reduceDiv, Nat.reduceMod]
    · rw [a1 j (by omega), upd_ne (by omega)]
    · by_cases hji : j = i
      · subst hji; rw [a1 j (by omega), upd_same]
      · exact a2 j (by omega) hj2
theorem M_laysAside_eq (now aside : Nat → Int32) : ∃ a', M_laysAside now aside = some a' ∧ ∀ j, j < 125 → a' j = now j := by
  obtain ⟨f', e, -, a2⟩ := laysAside_loop (fun a => some a) (now := now) 125 1000 0 aside (by omega) (by omega)
  exact ⟨f', e, fun j hj => a2 j (Nat.zero_le j) hj⟩
theorem leaves_shift (K : (Nat → Int32) → Option ((Nat → Int32) × Int32)) : ∀ (m fuel i : Nat) (f : Nat → Int32), i + m = 500 → m < fuel → ∃ f', M_leaves_10 K fuel (nI i) f = K f' ∧ (∀ j, j < i → f' j = f j) ∧ (∀ j, i ≤ j → j < 500 → f' j = f (j + 125)) := by
  intro m
  induction m with
  | zero =>
    intro fuel i f hi hf
    obtain ⟨n, rfl⟩ : ∃ n, fuel = n + 1 := ⟨fuel - 1, by omega⟩
    refine ⟨f, ?_, fun _ _ => rfl, fun j a b => by omega⟩
    rw [M_leaves_10, if_pos (by rw [L500, n_le (by omega) (by omega)]; omega)]
  | succ m ih =>
    intro fuel i f hi hf
    obtain ⟨n, rfl⟩ : ∃ n, fuel = n + 1 := ⟨fuel - 1, by omega⟩
    obtain ⟨f', e, a1, a2⟩ := ih n (i + 1) (upd f i (f (i + 125))) (by omega) (by omega)
    refine ⟨f', ?_, fun j hj => ?_, fun j hj1 hj2 => ?_⟩
    · rw [← e, M_leaves_10, if_neg (by rw [L500, n_le (by omega) (by omega)]; omega)]
      simp (disch := omega) only [lt_, Option.bind_some, n_lit, n_lt, n_le, n_eq, n_cl, n_add, n_sub, n_mul, n_shr1, n_and1, n_xor1, n_div2, n_rem2, chk_nI, if_true, if_false, ite_true, ite_false, reduceIte, Nat.not_lt, Nat.not_le, not_true_eq_false, not_false_eq_true, Nat.le_refl, Nat.reduceLeDiff, Nat.reduceLT, Nat.reduceEqDiff, Nat.reduceAdd, Nat.reduceMul, Nat.reduceSub, Nat.reduceDiv, Nat.reduceMod]
    · rw [a1 j (by omega), upd_ne (by omega)]
    · by_cases hji : j = i
      · subst hji; rw [a1 j (by omega), upd_same]
      · rw [a2 j (by omega) hj2, upd_ne (by omega)]
theorem leaves_put (K : (Nat → Int32) → Option ((Nat → Int32) × Int32)) {aside : Nat → Int32} {z : Nat} (hz : z < 5) : ∀ (m fuel i : Nat) (f : Nat → Int32), i + m = 125 → m < fuel → ∃ f', M_leaves_50 K aside (nI z) fuel (nI i) f = K f' ∧ (∀ j, j < 125 * z + i → f' j = f j) ∧ (∀ j, i ≤ j → j < 125 → f' (125 * z + j) = aside j) := by
  intro m
  induction m with
  | zero =>
    intro fuel i f hi hf
    obtain ⟨n, rfl⟩ : ∃ n, fuel = n + 1 := ⟨fuel - 1, by omega⟩
    refine ⟨f, ?_, fun _ _ => rfl, fun j a b => by omega⟩
    rw [M_leaves_50, if_pos (by rw [L125, n_le (by omega) (by omega)]; omega)]
  | succ m ih =>
    intro fuel i f hi hf
    obtain ⟨n, rfl⟩ : ∃ n, fuel = n + 1 := ⟨fuel - 1, by omega⟩
    obtain ⟨f', e, a1, a2⟩ := ih n (i + 1) (upd f (125 * z + i) (aside i)) (by omega) (by omega)
    refine ⟨f', ?_, fun j hj => ?_, fun j hj1 hj2 => ?_⟩
    · rw [← e, M_leaves_50, if_neg (by rw [L125, n_le (by omega) (by omega)]; omega)]
      simp (disch := omega) only [lt_, Option.bind_some, n_lit, n_lt, n_le, n_eq, n_cl, n_add, n_sub, n_mul, n_shr1, n_and1, n_xor1, n_div2, n_rem2, chk_nI, if_true, if_false, ite_true, ite_false, reduceIte, Nat.not_lt, Nat.not_le, not_true_eq_false, not_false_eq_true, Nat.le_refl, Nat.reduceLeDiff, Nat.reduceLT, Nat.reduceEqDiff, Nat.reduceAdd, Nat.reduceMul, Nat.reduceSub, Nat.reduceDiv, Nat.reduceMod]
    · rw [a1 j (by omega), upd_ne (by omega)]
    · by_cases hji : j = i
      · subst hji; rw [a1 _ (by omega), upd_same]
      · exact a2 j (by omega) hj2
theorem back_loop (K : (Nat → Int32) → Option (Int32 × (Nat → Int32) × Int32 × (Nat → Int32))) {past : Nat → Int32} {z : Nat} (hz : z < 5) : ∀ (m fuel i : Nat) (f : Nat → Int32), i + m = 125 → m < fuel → ∃ f', M_back_24 K past (nI z) fuel (nI i) f = K f' ∧ (∀ j, j < i → f' j = f j) ∧ (∀ j, i ≤ j → j < 125 → f' j = past (125 * z + j)) := by
  intro m
  induction m with
  | zero =>
    intro fuel i f hi hf
    obtain ⟨n, rfl⟩ : ∃ n, fuel = n + 1 := ⟨fuel - 1, by omega⟩
    refine ⟨f, ?_, fun _ _ => rfl, fun j a b => by omega⟩
    rw [M_back_24, if_pos (by rw [L125, n_le (by omega) (by omega)]; omega)]
  | succ m ih =>
    intro fuel i f hi hf
    obtain ⟨n, rfl⟩ : ∃ n, fuel = n + 1 := ⟨fuel - 1, by omega⟩
    obtain ⟨f', e, a1, a2⟩ := ih n (i + 1) (upd f i (past (125 * z + i))) (by omega) (by omega)
    refine ⟨f', ?_, fun j hj => ?_, fun j hj1 hj2 => ?_⟩
    · rw [← e, M_back_24, if_neg (by rw [L125, n_le (by omega) (by omega)]; omega)]
      simp (disch := omega) only [lt_, Option.bind_some, n_lit, n_lt, n_le, n_eq, n_cl, n_add, n_sub, n_mul, n_shr1, n_and1, n_xor1, n_div2, n_rem2, chk_nI, if_true, if_false, ite_true, ite_false, reduceIte, Nat.not_lt, Nat.not_le, not_true_eq_false, not_false_eq_true, Nat.le_refl, Nat.reduceLeDiff, Nat.reduceLT, Nat.reduceEqDiff, Nat.reduceAdd, Nat.reduceMul, Nat.reduceSub, Nat.reduceDiv, Nat.reduceMod]
    · rw [a1 j (by omega), upd_ne (by omega)]
    · by_cases hji : j = i
      · subst hji; rw [a1 j (by omega), upd_same]
      · exact a2 j (by omega) hj2
theorem oc6 {M : MC} (hW : WF M) {s : Nat} (hs : s < 2) : oc M s ≤ 6 := by
  rcases (show s = 0 ∨ s = 1 by omega) with rfl | rfl
  · exact hW.2.2.2.1.1
  · exact hW.2.2.2.1.2
theorem RCm_cong {M : MC} (hW : WF M) {now now' : Nat → Int32} (h : ∀ j, j < 125 → now' j = now j) (hm : RCm M now) : RCm M now' := by
  have hk := hW.2.1.2
  have hp := hW.2.2.2.2.2.1
  refine ⟨?_, ?_, fun j h1 h2 => ⟨?_, ?_⟩, ⟨?_, ?_⟩, fun s i hs hi => ?_, ?_, fun i hi => ?_⟩
  · rw [h 0 (by omega)]; exact hm.1
  · rw [h 1 (by omega)]; exact hm.2.1
  · rw [h _ (by omega)]; exact (hm.2.2.1 j h1 h2).1
  · rw [h _ (by omega)]; exact (hm.2.2.1 j h1 h2).2
  · rw [h _ (by omega)]; exact hm.2.2.2.1.1
  · rw [h _ (by omega)]; exact hm.2.2.2.1.2
  · have := oc6 hW hs
    rw [h _ (by omega)]; exact hm.2.2.2.2.1 s i hs hi
  · rw [h _ (by omega)]; exact hm.2.2.2.2.2.1
  · rw [h _ (by omega)]; exact hm.2.2.2.2.2.2 i hi
theorem IsT_cong {M : MC} (hW : WF M) {t t' : Nat → Int32} (h : ∀ j, j < 48 → t' j = t j) (ht : IsT M t) : IsT M t' := by
  have hk := hW.2.1.2
  have hkn := hW.2.1.1
  refine ⟨by rw [h 0 (by omega)]; exact ht.1, fun j h1 h2 => by rw [h j (by omega)]; exact ht.2.1 j h1 h2, fun j h1 h2 => ?_⟩
  have h3 := hW.2.2.1 j h1 h2
  rw [h j (by omega), ht.2.2 j h1 h2]
  congr 1
  · exact litT_cong (h _ (by omega)).symm
  · exact litT_cong (h _ (by omega)).symm
theorem RCc_cong {M : MC} (hW : WF M) {fi se tr le li co pa fi' se' tr' le' li' co' pa' : Nat → Int32} {ic nc pc : Int32} (h1 : ∀ j, j < 48 → fi' j = fi j) (h2 : ∀ j, j < 48 → se' j = se j) (h3 : ∀ j, j < 48 → tr' j = tr j) (h4 : ∀ j, j < 48 → le' j = le j) (h5 : ∀ j, j < 12 → li' j = li j) (h6 : ∀ j, j < 2 → co' j = co j) (h7 : ∀ j, j < 12 → pa' j = pa j) (hc : RCc M fi se tr le li co pa ic nc pc) : RCc M fi' se' tr' le' li' co' pa' ic nc pc := by
  have hk := hW.2.1.2
  have hp := hW.2.2.2.2.2.1
  obtain ⟨a1, a2, a3, a4, ⟨d, a5, a6⟩, a7, a8, a9, a10⟩ := hc
  refine ⟨a1, a2, fun j b1 b2 => ?_, IsT_cong hW h3 a4, ⟨d, a5, fun j hj => ?_⟩, ⟨?_, ?_⟩, fun s i hs hi => ?_, a9, fun i hi => ?_⟩
  · rw [h1 j (by omega), h2 j (by omega)]; exact a3 j b1 b2
  · rw [h4 j (by omega)]; exact a6 j hj
  · rw [h6 0 (by omega)]; exact a7.1
  · rw [h6 1 (by omega)]; exact a7.2
  · have := oc6 hW hs
    rw [h5 _ (by omega)]; exact a8 s i hs hi
  · rw [h7 i (by omega)]; exact a10 i hi
theorem RCc_cpy {M : MC} (hW : WF M) {fi se tr le li co pa fi' se' tr' le' li' co' pa' : Nat → Int32} {ic nc pc : Int32} (hc : RCc M fi se tr le li co pa ic nc pc) : RCc M (va_cpy fi fi' 0 0 48) (va_cpy se se' 0 0 48) (va_cpy tr tr' 0 0 48) (va_cpy le le' 0 0 48) (va_cpy li li' 0 0 12) (va_cpy co co' 0 0 2) (va_cpy pa pa' 0 0 12) ic nc pc :=
  RCc_cong hW (fun _ h => sb_cpy0 h) (fun _ h => sb_cpy0 h) (fun _ h => sb_cpy0 h) (fun _ h => sb_cpy0 h) (fun _ h => sb_cpy0 h) (fun _ h => sb_cpy0 h) (fun _ h => sb_cpy0 h) hc
/-- the place of the i-th oldest of z states, the newest at w -/
def rg (w z i : Nat) : Nat := (w + 6 + i - z) % 5
def RH (hf hs ht hl hi hc hp : Nat → Nat → Int32) (hn hk hq : Nat → Int32) (nw sz : Int32) (past : Nat → Int32) (st : Int32) : Prop :=
  ∃ (z w : Nat) (Hs : Nat → MC), z ≤ 5 ∧ w < 5 ∧ sz = nI z ∧ st = nI z ∧ nw = nI w ∧ ∀ i, i < z → WF (Hs i) ∧ RCc (Hs i) (hf (rg w z i)) (hs (rg w z i)) (ht (rg w z i)) (hl (rg w z i)) (hi (rg w z i)) (hc (rg w z i)) (hp (rg w z i)) (hn (rg w z i)) (hk (rg w z i)) (hq (rg w z i)) ∧ RCm (Hs i) (fun j => past (125 * i + j))
theorem va_up_eq {α : Type} (f : Nat → α) (k : Nat) (v : α) : va_up f k v k = v := if_pos rfl
theorem va_up_no {α : Type} (f : Nat → α) {k j : Nat} (v : α) (h : j ≠ k) : va_up f k v j = f j := if_neg h
set_option maxRecDepth 100000 in
theorem keep_sim {hf hs ht hl hi hc hp : Nat → Nat → Int32} {hn hk hq : Nat → Int32} {nw sz : Int32} {past : Nat → Int32} {st : Int32} (hH : RH hf hs ht hl hi hc hp hn hk hq nw sz past st) {M : MC} (hW : WF M) {fi se tr le li co pa : Nat → Int32} {ic nc pc : Int32} (hC : RCc M fi se tr le li co pa ic nc pc) {aside : Nat → Int32} (hm : RCm M aside) :
    ∃ hf' hs' ht' hl' hi' hc' hp' hn' hk' hq' nw' sz' past' st', H_keep fi se tr le li co pa ic nc pc hf hs ht hl hi hc hp hn hk hq nw sz = some (hf', hs', ht', hl', hi', hc', hp', hn', hk', hq', nw', sz') ∧ M_leaves aside past st = some (past', st') ∧ RH hf' hs' ht' hl' hi' hc' hp' hn' hk' hq' nw' sz' past' st' := by
  obtain ⟨z, w, Hs, hz, hw, rfl, rfl, rfl, hall⟩ := hH
  obtain ⟨k, hk1, hk2⟩ : ∃ k : Nat, k < 5 ∧ (w = 4 ∧ k = 0 ∨ w < 4 ∧ k = w + 1) := by
    by_cases h : w = 4
    · exact ⟨0, by omega, Or.inl ⟨h, rfl⟩⟩
    · exact ⟨w + 1, by omega, Or.inr ⟨by omega, rfl⟩⟩
  have ek : (if nI w = 4 then (0 : Int32) else nI w + 1) = nI k := by
    rcases hk2 with ⟨h1, h2⟩ | ⟨h1, h2⟩
    · rw [if_pos (by rw [h1]; rfl), h2]; rfl
    · rw [if_neg (by rw [L4, n_eq (by omega) (by omega)]; omega), L1, n_add, h2]
  have eH : H_keep fi se tr le li co pa ic nc pc hf hs ht hl hi hc hp hn hk hq (nI w) (nI z) = some (va_up hf k (va_cpy fi (hf k) 0 0 48), va_up hs k (va_cpy se (hs k) 0 0 48), va_up ht k (va_cpy tr (ht k) 0 0 48), va_up hl k (va_cpy le (hl k) 0 0 48), va_up hi k (va_cpy li (hi k) 0 0 12), va_up hc k (va_cpy co (hc k) 0 0 2), va_up hp k (va_cpy pa (hp k) 0 0 12), va_up hn k ic, va_up hk k nc, va_up hq k pc, nI k, if (5 : Int32) < nI z + 1 then (5 : Int32) else nI z + 1) := by
    simp (disch := omega) only [H_keep, lt_, ek, chk_nI, n_cl]
  by_cases h5 : z = 5
  · subst h5
    obtain ⟨p1, e1, -, a2⟩ := leaves_shift (fun m_past_14 => lt_ ((nI 5) - 1) (fun m_states_15 => M_leaves_50 (fun m_past_16 => lt_ (m_states_15 + 1) (fun m_states_17 => some (m_past_16, m_states_17))) aside m_states_15 1000 0 m_past_14)) 500 1000 0 past (by omega) (by omega)
    obtain ⟨p2, e2, b1, b2⟩ := leaves_put (fun m_past_16 => lt_ (nI 4 + 1) (fun m_states_17 => some (m_past_16, m_states_17))) (aside := aside) (z := 4) (by omega) 125 1000 0 p1 (by omega) (by omega)
    refine ⟨_, _, _, _, _, _, _, _, _, _, _, _, p2, nI 5, eH, ?_, 5, k, fun i => if i = 4 then M else Hs (i + 1), by omega, hk1, by rw [if_pos (by decide)]; rfl, rfl, rfl, fun i hi5 => ?_⟩
    · unfold M_leaves
      rw [if_pos (by decide)]
      exact e1.trans e2
    · by_cases h4 : i = 4
      · have er : rg k 5 i = k := by unfold rg; omega
        rw [er]
        simp only [h4, if_true, va_up_eq]
        exact ⟨hW, RCc_cpy hW hC, RCm_cong hW (fun j hj => b2 j (Nat.zero_le j) hj) hm⟩
      · have er : rg k 5 i = rg w 5 (i + 1) := by unfold rg; omega
        have ne : rg k 5 i ≠ k := by unfold rg; omega
        obtain ⟨c1, c2, c3⟩ := hall (i + 1) (by omega)
        simp only [if_neg h4, va_up_no _ _ ne]
        rw [er]
        refine ⟨c1, c2, RCm_cong c1 (fun j hj => ?_) c3⟩
        rw [b1 _ (by omega), a2 _ (Nat.zero_le _) (by omega)]
        exact congrArg past (by omega)
  · obtain ⟨p2, e2, b1, b2⟩ := leaves_put (fun m_past_12 => lt_ (nI z + 1) (fun m_states_13 => some (m_past_12, m_states_13))) (aside := aside) (z := z) (by omega) 125 1000 0 past (by omega) (by omega)
    refine ⟨_, _, _, _, _, _, _, _, _, _, _, _, p2, nI (z + 1), eH, ?_, z + 1, k, fun i => if i = z then M else Hs i, by omega, hk1, ?_, rfl, rfl, fun i hi5 => ?_⟩
    · unfold M_leaves
      rw [if_neg (by rw [L5, n_eq (by omega) (by omega)]; exact h5)]
      refine e2.trans ?_
      unfold lt_
      rw [L1, n_add]
    · rw [if_neg (by rw [L5, L1, n_add, n_lt (by omega) (by omega)]; omega), L1, n_add]
    · by_cases hiz : i = z
      · have er : rg k (z + 1) i = k := by unfold rg; omega
        rw [er]
        simp only [hiz, if_true, va_up_eq]
        exact ⟨hW, RCc_cpy hW hC, RCm_cong hW (fun j hj => b2 j (Nat.zero_le j) hj) hm⟩
      · have er : rg k (z + 1) i = rg w z i := by unfold rg; omega
        have ne : rg k (z + 1) i ≠ k := by unfold rg; omega
        obtain ⟨c1, c2, c3⟩ := hall i (by omega)
        simp only [if_neg hiz, va_up_no _ _ ne]
        rw [er]
        refine ⟨c1, c2, RCm_cong c1 (fun j hj => ?_) c3⟩
        rw [b1 _ (by have : 125 * i + 125 ≤ 125 * z := by omega
                     omega)]
set_option maxRecDepth 100000 in
theorem back_sim {hf hs ht hl hi hc hp : Nat → Nat → Int32} {hn hk hq : Nat → Int32} {nw sz : Int32} {past : Nat → Int32} {st : Int32} (hH : RH hf hs ht hl hi hc hp hn hk hq nw sz past st) {fi se tr le li co pa : Nat → Int32} {ic nc pc : Int32} {now ref : Nat → Int32} :
    (sz = 0 ∧ st = 0) ∨ (¬ sz = 0 ∧ ∃ M fi' se' tr' le' li' co' pa' ic' nc' pc' nw' sz' now', H_restore fi se tr le li co pa ic nc pc hf hs ht hl hi hc hp hn hk hq nw sz = some (fi', se', tr', le', li', co', pa', ic', nc', pc', nw', sz') ∧ M_back now past st ref = some (sz', now', sz', ref) ∧ WF M ∧ RCc M fi' se' tr' le' li' co' pa' ic' nc' pc' ∧ RCm M now' ∧ RH hf hs ht hl hi hc hp hn hk hq nw' sz' past sz') := by
  obtain ⟨z, w, Hs, hz, hw, rfl, rfl, rfl, hall⟩ := hH
  by_cases h0 : z = 0
  · subst h0; exact Or.inl ⟨rfl, rfl⟩
  · have hne : ¬ nI z = 0 := by rw [L0, n_eq (by omega) (by omega)]; exact h0
    obtain ⟨k, hk1, hk2⟩ : ∃ k : Nat, k < 5 ∧ (w = 0 ∧ k = 4 ∨ 0 < w ∧ k = w - 1) := by
      by_cases h : w = 0
      · exact ⟨4, by omega, Or.inl ⟨h, rfl⟩⟩
      · exact ⟨w - 1, by omega, Or.inr ⟨by omega, rfl⟩⟩
    have ek : (if nI w = 0 then (4 : Int32) else nI w - 1) = nI k := by
      rcases hk2 with ⟨h1, h2⟩ | ⟨h1, h2⟩
      · rw [if_pos (by rw [h1]; rfl), h2]; rfl
      · rw [if_neg (by rw [L0, n_eq (by omega) (by omega)]; omega), L1, n_sub (by omega), h2]
    obtain ⟨c1, c2, c3⟩ := hall (z - 1) (by omega)
    have er : rg w z (z - 1) = w := by unfold rg; omega
    rw [er] at c2
    obtain ⟨f', e1, -, a2⟩ := back_loop (fun m_now_8 => some (nI (z - 1), m_now_8, nI (z - 1), ref)) (past := past) (z := z - 1) (by omega) 125 1000 0 now (by omega) (by omega)
    refine Or.inr ⟨hne, Hs (z - 1), va_cpy (hf w) fi 0 0 48, va_cpy (hs w) se 0 0 48, va_cpy (ht w) tr 0 0 48, va_cpy (hl w) le 0 0 48, va_cpy (hi w) li 0 0 12, va_cpy (hc w) co 0 0 2, va_cpy (hp w) pa 0 0 12, hn w, hk w, hq w, nI k, nI (z - 1), f', ?_, ?_, c1, RCc_cpy c1 c2, RCm_cong c1 (fun j hj => a2 j (Nat.zero_le j) hj) c3, z - 1, k, Hs, by omega, hk1, rfl, rfl, rfl, fun i hi5 => ?_⟩
    · unfold H_restore
      rw [chk_nI hw (by omega), n_cl (by omega), ek, L1, n_sub (by omega)]
      rfl
    · unfold M_back
      rw [if_neg hne, L1, n_sub (by omega)]
      exact e1
    · have er2 : rg k (z - 1) i = rg w z i := by unfold rg; omega
      rw [er2]
      exact hall i (by omega)
