/-! bits: one bit of a table; patterns as a mask and as a row -/
theorem b_one : ∀ i, i < 32 → bt 1 i = decide (i = 0) := by decide +kernel
theorem bit_of {y : Int32} {c : Bool} (h0 : bt y 0 = c) : y &&& 1 = nI (if c then 1 else 0) := by
  apply b_ext
  intro i hi
  rw [b_and, b_one i hi]
  by_cases e : i = 0
  · subst e
    rw [h0]
    cases c <;> decide
  · cases c
    · have : bt (nI (if (false : Bool) = true then 1 else 0)) i = false := b_0 i
      rw [this]; simp [e]
    · have : bt (nI (if (true : Bool) = true then 1 else 0)) i = decide (i = 0) := b_one i hi
      rw [this]; simp [e]
theorem bit1 (x : Int32) {r : Nat} (hr : r < 32) : (x >>> (nI r &&& 31)) &&& 1 = nI (if bt x r then 1 else 0) := by
  refine bit_of ?_
  rw [b_sshr r hr x (by omega), if_pos (by omega)]; rfl
theorem bit1u (x : Int32) {r : Nat} (hr : r < 32) : ((Int32.toUInt32 x >>> (Int32.toUInt32 (nI r) &&& Int32.toUInt32 31)).toInt32) &&& 1 = nI (if bt x r then 1 else 0) := by
  refine bit_of ?_
  exact b_ushr r hr x 0
theorem b_ne0 {x : Int32} (h : ¬ x = 0) : ∃ r, r < 32 ∧ bt x r = true := by
  apply Classical.byContradiction
  intro hn
  apply h
  apply b_ext
  intro i hi
  rw [b_0]
  cases hb : bt x i with
  | false => rfl
  | true => exact absurd ⟨i, hi, hb⟩ hn
theorem b_least {x : Int32} (h : ¬ x = 0) : ∃ r, r < 32 ∧ bt x r = true ∧ ∀ i, i < r → bt x i = false := by
  obtain ⟨r, hr, hb⟩ := b_ne0 h
  obtain ⟨k, ⟨hk1, hk2⟩, hk3⟩ := pk_least (fun i => i < 32 ∧ bt x i = true) ⟨r, hr, hb⟩
  refine ⟨k, hk1, hk2, fun i hi => ?_⟩
  cases hb : bt x i with
  | false => rfl
  | true => exact absurd ⟨by omega, hb⟩ (hk3 i hi)
/-! the least row, by both -/
theorem least_loop {x : Int32} {r : Nat} (hr : r < 32) (hb : bt x r = true) (hl : ∀ i, i < r → bt x i = false) : ∀ (m fuel i : Nat), i + m = r → m + 1 < fuel → X_leastRow_2 (some 31) x fuel (nI i) = some (nI r) := by
  intro m
  induction m with
  | zero =>
    intro fuel i hi hf
    obtain ⟨n, rfl⟩ : ∃ n, fuel = n + 1 := ⟨fuel - 1, by omega⟩
    have e : i = r := by omega
    subst e
    rw [X_leastRow_2, bit1u x hr, hb]
    by_cases h31 : i = 31
    · subst h31; rw [if_pos (by decide)]; rfl
    · rw [if_neg (by rw [L31, n_le (by omega) (by omega)]; omega), if_pos (by decide)]
  | succ m ih =>
    intro fuel i hi hf
    obtain ⟨n, rfl⟩ : ∃ n, fuel = n + 1 := ⟨fuel - 1, by omega⟩
    rw [X_leastRow_2, bit1u x (by omega), hl i (by omega), if_neg (by rw [L31, n_le (by omega) (by omega)]; omega), if_neg (by decide)]
    unfold lt_
    rw [L1, n_add]
    exact ih n (i + 1) (by omega) (by omega)
theorem X_leastRow_eq {x : Int32} {r : Nat} (hr : r < 32) (hb : bt x r = true) (hl : ∀ i, i < r → bt x i = false) : X_leastRow x = some (nI r) := least_loop hr hb hl r 1000 0 (by omega) (by omega)
theorem comes_loop (K : Int32 → Option ((Nat → Int32) × Int32)) {x : Int32} {r : Nat} (hr : r < 32) (hb : bt x r = true) (hl : ∀ i, i < r → bt x i = false) : ∀ (m fuel i : Nat), i + m = r → m < fuel → M_comes_11 K x fuel (nI i) = K (nI r) := by
  intro m
  induction m with
  | zero =>
    intro fuel i hi hf
    obtain ⟨n, rfl⟩ : ∃ n, fuel = n + 1 := ⟨fuel - 1, by omega⟩
    have e : i = r := by omega
    subst e
    rw [M_comes_11, bit1 x hr, hb, if_neg (by decide)]
  | succ m ih =>
    intro fuel i hi hf
    obtain ⟨n, rfl⟩ : ∃ n, fuel = n + 1 := ⟨fuel - 1, by omega⟩
    rw [M_comes_11, bit1 x (by omega), hl i (by omega), if_pos (by decide)]
    unfold lt_
    rw [L1, n_add]
    exact ih n (i + 1) (by omega) (by omega)
/-- patterns, as the class and the reference hold them -/
def RR (n m : Nat) (ρ : Nat → Nat) (rows : Nat → Int32) (rc pr : Int32) (rb : Nat → Int32) (rm : Int32) : Prop :=
  m ≤ 12 ∧ rc = nI m ∧ rm = nI m ∧ (∀ i, i < m → rows i = nI (ρ i) ∧ rb i = nI (ρ i) ∧ ρ i < 2 ^ n) ∧ ∀ r, r < 32 → (bt pr r = true ↔ ∃ i, i < m ∧ ρ i = r)
theorem shl_r : ∀ r, r < 32 → ∀ i, i < 32 → bt ((1 : Int32) <<< (nI r &&& 31)) i = decide (i = r) := by decide +kernel
theorem RR_add {n m : Nat} {ρ : Nat → Nat} {rows : Nat → Int32} {rc pr : Int32} {rb : Nat → Int32} {rm : Int32} (h : RR n m ρ rows rc pr rb rm) (hn1 : 1 ≤ n) (hn5 : n ≤ 5) {r : Nat} (hr : r < 2 ^ n) :
    ∃ m' ρ' rows' rc' pr' rb' rm', W_addRow rows rc pr (nI r) = some (rows', rc', pr') ∧ (if (12 : Int32) ≤ rm then (some (rb, rm)) else (chk (bnd rm 12) (lt_ (upd rb (Int32.toNatClampNeg rm) (nI r)) (fun m_rowsBehind_6 => lt_ (rm + 1) (fun m_rowsMany_7 => some (m_rowsBehind_6, m_rowsMany_7)))))) = some (rb', rm') ∧ RR n m' ρ' rows' rc' pr' rb' rm' := by
  obtain ⟨h1, rfl, rfl, h2, h3⟩ := h
  have hp := pow_n hn1 hn5
  by_cases h12 : m = 12
  · subst h12
    refine ⟨12, ρ, rows, nI 12, pr, rb, nI 12, ?_, ?_, h1, rfl, rfl, h2, h3⟩
    · unfold W_addRow; rw [if_pos (by decide)]
    · rw [if_pos (by decide)]
  · refine ⟨m + 1, upN ρ m r, upd rows m (nI r), nI (m + 1), pr ||| ((1 : Int32) <<< (nI r &&& 31)), upd rb m (nI r), nI (m + 1), ?_, ?_, by omega, rfl, rfl, fun i hi => ?_, fun q hq => ?_⟩
    · unfold W_addRow
      rw [if_neg (by rw [L12, n_le (by omega) (by omega)]; omega), chk_nI (by omega) (by omega)]
      unfold lt_
      rw [n_cl (by omega), nI_1]
    · rw [if_neg (by rw [L12, n_le (by omega) (by omega)]; omega), chk_nI (by omega) (by omega)]
      unfold lt_
      rw [n_cl (by omega), nI_1]
    · unfold upd upN
      by_cases e : i = m
      · rw [if_pos e, if_pos e, if_pos e]; exact ⟨rfl, rfl, hr⟩
      · rw [if_neg e, if_neg e, if_neg e]; exact h2 i (by omega)
    · rw [b_or, shl_r r (by omega) q hq, Bool.or_eq_true, h3 q hq, decide_eq_true_iff]
      constructor
      · rintro (⟨i, hi, e⟩ | e)
        · exact ⟨i, by omega, by unfold upN; rw [if_neg (by omega)]; exact e⟩
        · exact ⟨m, by omega, by unfold upN; rw [if_pos rfl]; exact e.symm⟩
      · rintro ⟨i, hi, e⟩
        unfold upN at e
        by_cases e2 : i = m
        · rw [if_pos e2] at e; exact Or.inr e.symm
        · rw [if_neg e2] at e; exact Or.inl ⟨i, by omega, e⟩
/-- a check that does not hold: its least row comes -/
theorem come_sim {n m : Nat} {ρ : Nat → Nat} {rows : Nat → Int32} {rc pr : Int32} {rb : Nat → Int32} {rm : Int32} (h : RR n m ρ rows rc pr rb rm) (hn1 : 1 ≤ n) (hn5 : n ≤ 5) {u : Int32} (hu : ¬ u = 0) (hmask : ∀ r, r < 32 → bt u r = true → r < 2 ^ n) :
    ∃ m' ρ' rows' rc' pr' rb' rm', Option.bind (X_leastRow u) (fun o3 => W_addRow rows rc pr o3) = some (rows', rc', pr') ∧ M_comes rb rm u = some (rb', rm') ∧ RR n m' ρ' rows' rc' pr' rb' rm' := by
  obtain ⟨r, hr, hb, hl⟩ := b_least hu
  obtain ⟨m', ρ', rows', rc', pr', rb', rm', e1, e2, e3⟩ := RR_add h hn1 hn5 (hmask r hr hb)
  refine ⟨m', ρ', rows', rc', pr', rb', rm', ?_, ?_, e3⟩
  · rw [X_leastRow_eq hr hb hl, Option.bind_some]; exact e1
  · rw [← e2]
    unfold M_comes
    by_cases h12 : (12 : Int32) ≤ rm
    · rw [if_pos h12, if_pos h12]
    · rw [if_neg h12, if_neg h12]
      exact comes_loop _ hr hb hl r 1000 0 (by omega) (by omega)
/-! two ways to ask the patterns -/
def bv (p : Nat → Bool) : Nat → Nat
  | 0 => 0
  | i + 1 => bv p i + (if p i then 2 ^ i else 0)
theorem bv_lt (p : Nat → Bool) : ∀ i, bv p i < 2 ^ i
  | 0 => by show 0 < 1; omega
  | i + 1 => by
    have h := bv_lt p i
    unfold bv
    rw [Nat.pow_succ]
    split <;> omega
theorem bv_0 (p : Nat → Bool) : ∀ m, bv p m = 0 ↔ ∀ i, i < m → p i = false
  | 0 => ⟨fun _ i h => absurd h (Nat.not_lt_zero i), fun _ => rfl⟩
  | m + 1 => by
    have ih := bv_0 p m
    have hp : 0 < 2 ^ m := Nat.pow_pos (by decide)
    constructor
    · intro h i hi
      unfold bv at h
      by_cases e : i = m
      · subst e
        cases hb : p i with
        | false => rfl
        | true => rw [hb] at h; simp at h
      · exact ih.mp (by omega) i (by omega)
    · intro h
      unfold bv
      rw [ih.mpr (fun i hi => h i (by omega)), h m (by omega)]; rfl
theorem bv_1 (p : Nat → Bool) : ∀ m, bv p m = 2 ^ m - 1 ↔ ∀ i, i < m → p i = true
  | 0 => ⟨fun _ i h => absurd h (Nat.not_lt_zero i), fun _ => rfl⟩
  | m + 1 => by
    have ih := bv_1 p m
    have hlt := bv_lt p m
    have hp : 0 < 2 ^ m := Nat.pow_pos (by decide)
    constructor
    · intro h i hi
      unfold bv at h
      rw [Nat.pow_succ] at h
      cases hb : p m with
      | false => rw [hb] at h; simp at h; omega
      | true =>
        rw [hb] at h
        simp only [if_true] at h
        by_cases e : i = m
        · subst e; exact hb
        · exact ih.mp (by omega) i (by omega)
    · intro h
      unfold bv
      rw [ih.mpr (fun i hi => h i (by omega)), h m (by omega), Nat.pow_succ]
      simp only [if_true]
      omega
theorem bv_cong {p q : Nat → Bool} : ∀ {m : Nat}, (∀ i, i < m → p i = q i) → bv p m = bv q m
  | 0, _ => rfl
  | m + 1, h => by
    unfold bv
    rw [bv_cong (fun i hi => h i (by omega)), h m (by omega)]
theorem shl_bit : ∀ i, i < 31 → (nI 1 <<< (nI i &&& 31) = nI (2 ^ i)) ∧ (nI 0 <<< (nI i &&& 31) = nI 0) := by decide +kernel
theorem or_bit {a i : Nat} (h : a < 2 ^ i) (b : Bool) : nI a ||| nI (if b then 2 ^ i else 0) = nI (a + if b then 2 ^ i else 0) := by
  cases b
  · rw [fa_or]; simp
  · have := fa_or_sum (a := a) (k := i) 1 h
    rw [Nat.mul_one] at this
    rw [fa_or] at this ⊢
    simp only [if_true]
    rw [Nat.or_comm, this, Nat.add_comm]
theorem bits_loop (K : Int32 → Option Int32) {nz from' : Nat} {row : Nat → Int32} {x : Int32} {m : Nat} {ρ : Nat → Nat} (hm : m ≤ 12) (hz : from' + m ≤ nz) (hz2 : nz < 1000) (hrow : ∀ i, i < m → row (from' + i) = nI (ρ i) ∧ ρ i < 32) : ∀ (k fuel i : Nat), i + k = m → k < fuel → M_bitsOf_6 K nz row x (nI m) (nI from') fuel (nI (bv (fun i => bt x (ρ i)) i)) (nI i) = K (nI (bv (fun i => bt x (ρ i)) m)) := by
  intro k
  induction k with
  | zero =>
    intro fuel i hi hf
    obtain ⟨n, rfl⟩ : ∃ n, fuel = n + 1 := ⟨fuel - 1, by omega⟩
    rw [M_bitsOf_6, if_pos (by rw [n_le (by omega) (by omega)]; omega), show i = m by omega]
  | succ k ih =>
    intro fuel i hi hf
    obtain ⟨n, rfl⟩ : ∃ n, fuel = n + 1 := ⟨fuel - 1, by omega⟩
    obtain ⟨r1, r2⟩ := hrow i (by omega)
    rw [M_bitsOf_6, if_neg (by rw [n_le (by omega) (by omega)]; omega), n_add, chk_nI (by omega) (by omega), n_cl (by omega), r1, bit1 x r2]
    unfold lt_
    have e : nI (if bt x (ρ i) then 1 else 0) <<< (nI i &&& 31) = nI (if bt x (ρ i) then 2 ^ i else 0) := by
      cases bt x (ρ i)
      · exact (shl_bit i (by omega)).2
      · exact (shl_bit i (by omega)).1
    rw [e, or_bit (bv_lt _ i), nI_1]
    exact ih n (i + 1) (by omega) (by omega)
theorem M_bitsOf_eq {nz from' : Nat} {row : Nat → Int32} {x : Int32} {m : Nat} {ρ : Nat → Nat} (hm : m ≤ 12) (hz : from' + m ≤ nz) (hz2 : nz < 1000) (hrow : ∀ i, i < m → row (from' + i) = nI (ρ i) ∧ ρ i < 32) : M_bitsOf nz row x (nI m) (nI from') = some (nI (bv (fun i => bt x (ρ i)) m)) :=
  bits_loop (fun l => some l) hm hz hz2 hrow m 1000 0 (by omega) (by omega)
theorem ones_m : ∀ m, m < 13 → ((1 : Int32) <<< (nI m &&& 31)) - 1 = nI (2 ^ m - 1) := by decide +kernel
theorem pow12 {m : Nat} (h : m ≤ 12) : 2 ^ m ≤ 4096 := by
  have := Nat.pow_le_pow_right (n := 2) (by decide) h
  exact this
theorem RR_zero {n m : Nat} {ρ : Nat → Nat} {rows : Nat → Int32} {rc pr : Int32} {rb : Nat → Int32} {rm : Int32} (h : RR n m ρ rows rc pr rb rm) (hn1 : 1 ≤ n) (hn5 : n ≤ 5) (d : Int32) : (d &&& pr = 0) ↔ nI (bv (fun i => bt d (ρ i)) m) = 0 := by
  have hp := pow_n hn1 hn5
  have hlt := bv_lt (fun i => bt d (ρ i)) m
  have h12 := pow12 h.1
  rw [L0, n_eq (by omega) (by omega), bv_0]
  constructor
  · intro he i hi
    have hr : ρ i < 32 := by have := (h.2.2.2.1 i hi).2.2; omega
    have hb : bt pr (ρ i) = true := (h.2.2.2.2 _ hr).mpr ⟨i, hi, rfl⟩
    have h0 : bt (d &&& pr) (ρ i) = false := by rw [he]; exact b_0 _
    rw [b_and, hb, Bool.and_true] at h0
    exact h0
  · intro hall
    apply b_ext
    intro r hr
    rw [b_and]
    show _ = bt 0 r
    rw [b_0]
    cases hb : bt pr r with
    | false => rw [Bool.and_false]
    | true =>
      obtain ⟨i, hi, e⟩ := (h.2.2.2.2 r hr).mp hb
      have := hall i hi
      rw [← e, this]; rfl
theorem RR_ones {n m : Nat} {ρ : Nat → Nat} {rows : Nat → Int32} {rc pr : Int32} {rb : Nat → Int32} {rm : Int32} (h : RR n m ρ rows rc pr rb rm) (hn1 : 1 ≤ n) (hn5 : n ≤ 5) (d : Int32) : (d &&& pr = pr) ↔ nI (bv (fun i => bt d (ρ i)) m) = ((1 : Int32) <<< (rm &&& 31)) - 1 := by
  have hp := pow_n hn1 hn5
  have hlt := bv_lt (fun i => bt d (ρ i)) m
  have h12 := pow12 h.1
  rw [h.2.2.1, ones_m m (by have := h.1; omega), n_eq (by omega) (by omega), bv_1]
  constructor
  · intro he i hi
    have hr : ρ i < 32 := by have := (h.2.2.2.1 i hi).2.2; omega
    have hb : bt pr (ρ i) = true := (h.2.2.2.2 _ hr).mpr ⟨i, hi, rfl⟩
    have h0 : bt (d &&& pr) (ρ i) = true := by rw [he]; exact hb
    rw [b_and, hb, Bool.and_true] at h0
    exact h0
  · intro hall
    apply b_ext
    intro r hr
    rw [b_and]
    cases hb : bt pr r with
    | false => rw [Bool.and_false]
    | true =>
      obtain ⟨i, hi, e⟩ := (h.2.2.2.2 r hr).mp hb
      have := hall i hi
      rw [← e, this]; rfl
