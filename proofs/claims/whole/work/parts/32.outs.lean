/-! settled outs -/
theorem n_div6 {a : Nat} (h : a < 2147483648) : nI a / nI 6 = nI (a / 6) := pk_div h (by decide) (by decide)
section OUTS
variable {n k : Nat} {φ κ lam gam : Nat → Nat} {fo re le gr fm wh lm gm nw nb : Nat → Int32}
theorem outsC (h : SG n k φ κ lam gam fo re le gr fm wh lm gm) (hk : k ≤ 48) (hnw : ∀ i, i < k → κ i = 0 → nw i = nI (nu κ i)) {co : Nat → Int32} {s c : Nat} (hs : s < 2) (hco : co s = nI c) (hc6 : c ≤ 6) {o : Nat → Nat} (ho : ∀ i, i < c → o i < 2 * k) : ∀ (m fuel i : Nat) (li : Nat → Int32), i + m = c → m < fuel → (∀ j, i ≤ j → j < c → li (s * 6 + j) = nI (o j)) → ∃ li', (∀ K, C_settleOuts_2 K co fo nw (nI s) fuel (nI i) li = K li') ∧ (∀ j, i ≤ j → j < c → li' (s * 6 + j) = nI (st κ (lp φ (o j)))) ∧ ∀ j, (j < s * 6 + i ∨ s * 6 + c ≤ j) → li' j = li j := by
  intro m
  induction m with
  | zero =>
    intro fuel i li hi hf hl
    obtain ⟨f, rfl⟩ : ∃ f, fuel = f + 1 := ⟨fuel - 1, by omega⟩
    refine ⟨li, fun K => ?_, fun j a b => by omega, fun j _ => rfl⟩
    rw [C_settleOuts_2, chk_nI (by omega) (by omega), n_cl (by omega), hco, if_pos (by rw [n_le (by omega) (by omega)]; omega)]
  | succ m ih =>
    intro fuel i li hi hf hl
    obtain ⟨f, rfl⟩ : ∃ f, fuel = f + 1 := ⟨fuel - 1, by omega⟩
    have ho' := ho i (by omega)
    obtain ⟨p1, p2⟩ := lp_lt h ho'
    obtain ⟨li', e, a1, a2⟩ := ih f (i + 1) (upd li (s * 6 + i) (nI (st κ (lp φ (o i))))) (by omega) (by omega) (fun j h1 h2 => by
      rw [upd_ne (by omega)]; exact hl j (by omega) h2)
    refine ⟨li', fun K => ?_, fun j h1 h2 => ?_, fun j hj => ?_⟩
    · rw [← e K, C_settleOuts_2, chk_nI (by omega) (by omega), n_cl (by omega), hco, if_neg (by rw [n_le (by omega) (by omega)]; omega), C_outOf, L6, n_mul, n_add, chk_nI (by omega) (by omega), n_cl (by omega), hl i (Nat.le_refl i) (by omega), Option.bind_some, W_formOf_eq h ho' hk, Option.bind_some, W_numbered_eq (κ := κ) (by omega) (hnw _ (by omega) p2), Option.bind_some, chk_nI (by omega) (by omega)]
      dsimp only [lt_]
      rw [nI_1]
    · by_cases ej : j = i
      · subst ej; rw [a2 _ (Or.inl (by omega)), upd_same]
      · exact a1 j (by omega) h2
    · rw [a2 j (by omega), upd_ne (by omega)]
theorem outsM (h : SG n k φ κ lam gam fo re le gr fm wh lm gm) (hk : k ≤ 48) (hnb : ∀ i, i < k → nb i = nI (nu κ i)) {c : Nat → Nat} (hc6 : ∀ s, s < 2 → c s ≤ 6) {o : Nat → Nat → Nat} (ho : ∀ s i, s < 2 → i < c s → o s i < 2 * k) : ∀ (m fuel p : Nat) (now : Nat → Int32), p + m = 12 → m < fuel → (∀ s, s < 2 → now (98 + s) = nI (c s)) → (∀ q, p ≤ q → q < 12 → q - q / 6 * 6 < c (q / 6) → now (100 + q) = nI (o (q / 6) (q - q / 6 * 6))) → ∃ now', (∀ x K, M_settlesAll_50 K fm nb x fuel (nI p) now = K now') ∧ (∀ q, p ≤ q → q < 12 → q - q / 6 * 6 < c (q / 6) → now' (100 + q) = nI (st κ (lp φ (o (q / 6) (q - q / 6 * 6))))) ∧ ∀ i, (i < 100 + p ∨ 112 ≤ i) → now' i = now i := by
  intro m
  induction m with
  | zero =>
    intro fuel p now hp hf hc hl
    obtain ⟨f, rfl⟩ : ∃ f, fuel = f + 1 := ⟨fuel - 1, by omega⟩
    refine ⟨now, fun x K => ?_, fun q a b => by omega, fun j _ => rfl⟩
    rw [M_settlesAll_50, if_pos (by rw [L12, n_le (by omega) (by omega)]; omega)]
  | succ m ih =>
    intro fuel p now hp hf hc hl
    obtain ⟨f, rfl⟩ : ∃ f, fuel = f + 1 := ⟨fuel - 1, by omega⟩
    have hs : p / 6 < 2 := by omega
    have hcs := hc6 (p / 6) hs
    by_cases hlt : p - p / 6 * 6 < c (p / 6)
    · have ho' := ho (p / 6) _ hs hlt
      obtain ⟨p1, p2⟩ := lp_lt h ho'
      obtain ⟨now', e, a1, a2⟩ := ih f (p + 1) (upd now (100 + p) (nI (st κ (lp φ (o (p / 6) (p - p / 6 * 6)))))) (by omega) (by omega) (fun s hs' => by rw [upd_ne (by omega)]; exact hc s hs') (fun q h1 h2 h3 => by rw [upd_ne (by omega)]; exact hl q (by omega) h2 h3)
      refine ⟨now', fun x K => ?_, fun q h1 h2 h3 => ?_, fun j hj => ?_⟩
      · rw [← e x K, M_settlesAll_50, if_neg (by rw [L12, n_le (by omega) (by omega)]; omega), L6, L98, L100, n_div6 (by omega), n_mul, n_sub (by omega), n_add, n_add, chk_nI (by omega) (by omega), n_cl (by omega), hc _ hs, if_neg (by rw [n_le (by omega) (by omega)]; omega), chk_nI (by omega) (by omega), n_cl (by omega), hl p (Nat.le_refl p) (by omega) hlt, M_formOf_eq h ho' hk, Option.bind_some, M_settled_eq (κ := κ) (by omega) (hnb _ (by omega)), Option.bind_some, chk_nI (by omega) (by omega)]
        dsimp only [lt_]
        rw [nI_1]
      · by_cases eq : q = p
        · subst eq; rw [a2 _ (Or.inl (by omega)), upd_same]
        · exact a1 q (by omega) h2 h3
      · rw [a2 j (by omega), upd_ne (by omega)]
    · obtain ⟨now', e, a1, a2⟩ := ih f (p + 1) (upd now (100 + p) 0) (by omega) (by omega) (fun s hs' => by rw [upd_ne (by omega)]; exact hc s hs') (fun q h1 h2 h3 => by rw [upd_ne (by omega)]; exact hl q (by omega) h2 h3)
      refine ⟨now', fun x K => ?_, fun q h1 h2 h3 => ?_, fun j hj => ?_⟩
      · rw [← e x K, M_settlesAll_50, if_neg (by rw [L12, n_le (by omega) (by omega)]; omega), L6, L98, L100, n_div6 (by omega), n_mul, n_sub (by omega), n_add, n_add, chk_nI (by omega) (by omega), n_cl (by omega), hc _ hs, if_pos (by rw [n_le (by omega) (by omega)]; omega), chk_nI (by omega) (by omega), n_cl (by omega)]
        dsimp only [lt_]
        rw [nI_1]
      · by_cases eq : q = p
        · subst eq; exact absurd h3 hlt
        · exact a1 q (by omega) h2 h3
      · rw [a2 j (by omega), upd_ne (by omega)]
end OUTS
