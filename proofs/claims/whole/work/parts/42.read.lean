/-! the script is read, by both -/
abbrev FA := Nat → Int32
abbrev TR := Option (Int32 × FA × FA × Int32 × Int32 × Int32 × Int32)
def K0 (z : Nat) : FA → FA → Int32 → Int32 → Int32 → Int32 → TR := fun ks ns o ok gv fg => if ok = (-1) then (if o ≤ 0 then (some (nI z, ks, ns, o, ok, gv, fg)) else (some ((-1), ks, ns, o, ok, gv, fg))) else (some (nI z, ks, ns, o, ok, gv, fg))
def CF (q : Nat) (r : TR) : Prop := ∃ ks ns o ok gv fg, r = some (nI q, ks, ns, o, ok, gv, fg)
def NM (k : Nat) : Nat := [1, 2, 2, 3, 2, 1].getD k 0
def LT_ (k : Nat) : Nat := [105, 103, 120, 109, 111, 112].getD k 0
theorem NM_b : ∀ k, k < 6 → 1 ≤ NM k ∧ NM k ≤ 3 ∧ oN.getD k 0 = nI (NM k) := by decide +kernel
theorem letter : ∀ c, c < 128 → (sIdx ((Int32.toUInt32 (nI c) % 65536).toInt32) < 0 ∧ M_manyOf (nI c) = some 0) ∨ ((sIdx ((Int32.toUInt32 (nI c) % 65536).toInt32)).toNatClampNeg < 6 ∧ sIdx ((Int32.toUInt32 (nI c) % 65536).toInt32) = nI (sIdx ((Int32.toUInt32 (nI c) % 65536).toInt32)).toNatClampNeg ∧ c = LT_ (sIdx ((Int32.toUInt32 (nI c) % 65536).toInt32)).toNatClampNeg ∧ M_manyOf (nI c) = some (nI (NM (sIdx ((Int32.toUInt32 (nI c) % 65536).toInt32)).toNatClampNeg))) := by decide +kernel
theorem LT_b : ∀ k, k < 6 → LT_ k < 128 ∧ LT_ k ≠ 32 := by decide +kernel
theorem CF_K0 {z kd : Nat} (hk : kd < 6) {ks ns : FA} {o gv fg : Int32} : CF z (K0 z ks ns o (nI kd) gv fg) := by
  unfold K0
  rw [if_neg (nI_ne_m1 (by omega))]
  exact ⟨ks, ns, o, nI kd, gv, fg, rfl⟩
section READ
variable {z : Nat} {tby text : FA}
theorem T_end {K : FA → FA → Int32 → Int32 → Int32 → Int32 → TR} (hz : z ≤ 150) {fu : Nat} {ks ns : FA} {o ok gv fg : Int32} (hf : 0 < fu) : T_readFault_12 K tby (nI z) fu (nI z) ks ns o ok gv fg = K ks ns o ok gv fg := by
  obtain ⟨f, rfl⟩ : ∃ f, fu = f + 1 := ⟨fu - 1, by omega⟩
  rw [T_readFault_12, if_pos (by rw [n_le (by omega) (by omega)]; omega)]
theorem T_next {K : FA → FA → Int32 → Int32 → Int32 → Int32 → TR} (hz : z ≤ 150) {f s : Nat} (hs : s < z) {ks ns ks' ns' : FA} {o ok gv fg o' ok' gv' fg' : Int32} (e : T_takes ks ns o ok gv fg (tby s) = some (1, ks', ns', o', ok', gv', fg')) : T_readFault_12 K tby (nI z) (f + 1) (nI s) ks ns o ok gv fg = T_readFault_12 K tby (nI z) f (nI (s + 1)) ks' ns' o' ok' gv' fg' := by
  rw [T_readFault_12, if_neg (by rw [n_le (by omega) (by omega)]; omega), chk_nI (by omega) (by omega), n_cl (by omega), e, Option.bind_some, if_neg one_ne, lt_eq, nI_1]
theorem T_stop {K : FA → FA → Int32 → Int32 → Int32 → Int32 → TR} (hz : z ≤ 150) {f s : Nat} (hs : s < z) {ks ns ks' ns' : FA} {o ok gv fg o' ok' gv' fg' : Int32} (e : T_takes ks ns o ok gv fg (tby s) = some (0, ks', ns', o', ok', gv', fg')) : CF s (T_readFault_12 K tby (nI z) (f + 1) (nI s) ks ns o ok gv fg) := by
  rw [T_readFault_12, if_neg (by rw [n_le (by omega) (by omega)]; omega), chk_nI (by omega) (by omega), n_cl (by omega), e, Option.bind_some, if_pos rfl]
  exact ⟨ks', ns', o', ok', gv', fg', rfl⟩
theorem isAt_end {a b : Int32} (hz : z ≤ 150) : M_isAt text (nI z) (nI z) a b = some 0 := by
  unfold M_isAt; rw [if_pos (by rw [n_le (by omega) (by omega)]; omega)]
theorem isAt_yes (hz : z ≤ 150) {s c a b : Nat} (hs : s < z) (hc : text s = nI c) (hc2 : c < 128) (ha : a < 128) (hb : b < 128) (h1 : a ≤ c) (h2 : c ≤ b) : M_isAt text (nI z) (nI s) (nI a) (nI b) = some 1 := by
  unfold M_isAt
  rw [if_neg (by rw [n_le (by omega) (by omega)]; omega), chk_nI (by omega) (by omega), n_cl (by omega), hc, within_in (by rw [n_lt (by omega) (by omega)]; omega) (by rw [n_lt (by omega) (by omega)]; omega), Option.bind_some, if_neg one_ne]
theorem isAt_no (hz : z ≤ 150) {s c a b : Nat} (hs : s < z) (hc : text s = nI c) (hc2 : c < 128) (ha : a < 128) (hb : b < 128) (h1 : c < a ∨ b < c) : M_isAt text (nI z) (nI s) (nI a) (nI b) = some 0 := by
  unfold M_isAt
  rw [if_neg (by rw [n_le (by omega) (by omega)]; omega), chk_nI (by omega) (by omega), n_cl (by omega), hc]
  rcases h1 with h1 | h1
  · rw [within_lo (by rw [n_lt (by omega) (by omega)]; omega), Option.bind_some, if_pos rfl]
  · rw [within_hi (by rw [n_lt (by omega) (by omega)]; omega), Option.bind_some, if_pos rfl]
/-- blanks -/
theorem bl_loop (hz : z ≤ 150) (ht : ∀ i, i < z → tby i = text i ∧ ∃ c, c < 128 ∧ text i = nI c) : ∀ (m s fuel : Nat), s + m = z → m < fuel → ∃ e, s ≤ e ∧ e ≤ z ∧ (e < z → ¬ text e = nI 32) ∧ (∀ K, M_blanks_0 K text (nI z) fuel (nI s) = K (nI e)) ∧ ∀ K fu ks ns o ok gv fg, z - s < fu → ∃ fu' fg', z - e < fu' ∧ (fg' = 0 ∨ (e = s ∧ fg' = fg)) ∧ T_readFault_12 K tby (nI z) fu (nI s) ks ns o ok gv fg = T_readFault_12 K tby (nI z) fu' (nI e) ks ns o ok gv fg' := by
  intro m
  induction m with
  | zero =>
    intro s fuel hs hf
    obtain ⟨f, rfl⟩ : ∃ f, fuel = f + 1 := ⟨fuel - 1, by omega⟩
    have es : s = z := by omega
    subst es
    refine ⟨s, Nat.le_refl s, Nat.le_refl s, fun h => by omega, fun K => ?_, fun K fu ks ns o ok gv fg hfu => ⟨fu, fg, hfu, Or.inr ⟨rfl, rfl⟩, rfl⟩⟩
    rw [M_blanks_0, isAt_end hz, Option.bind_some, if_pos rfl]
  | succ m ih =>
    intro s fuel hs hf
    obtain ⟨f, rfl⟩ : ∃ f, fuel = f + 1 := ⟨fuel - 1, by omega⟩
    obtain ⟨t1, c, hc, t2⟩ := ht s (by omega)
    by_cases h32 : c = 32
    · subst h32
      obtain ⟨e, e1, e2, e3, e4, e5⟩ := ih (s + 1) f (by omega) (by omega)
      refine ⟨e, by omega, e2, e3, fun K => ?_, fun K fu ks ns o ok gv fg hfu => ?_⟩
      · rw [← e4 K, M_blanks_0, show (32 : Int32) = nI 32 from rfl, isAt_yes hz (by omega) t2 (by omega) (by omega) (by omega) (by omega) (by omega), Option.bind_some, if_neg one_ne, lt_eq, nI_1]
      · obtain ⟨f2, rfl⟩ : ∃ f, fu = f + 1 := ⟨fu - 1, by omega⟩
        have tk : T_takes ks ns o ok gv fg (tby s) = some (1, ks, ns, o, ok, gv, 0) := by
          unfold T_takes; rw [t1, t2, if_pos (show nI 32 = 32 from rfl)]
        rw [T_next hz (by omega) tk]
        obtain ⟨fu', fg', k1, k2, k3⟩ := e5 K f2 ks ns o ok gv 0 (by omega)
        refine ⟨fu', fg', k1, Or.inl ?_, k3⟩
        rcases k2 with k2 | ⟨-, k2⟩ <;> exact k2
    · refine ⟨s, Nat.le_refl s, by omega, fun _ => by rw [t2, n_eq (by omega) (by omega)]; exact h32, fun K => ?_, fun K fu ks ns o ok gv fg hfu => ⟨fu, fg, hfu, Or.inr ⟨rfl, rfl⟩, rfl⟩⟩
      rw [M_blanks_0, show (32 : Int32) = nI 32 from rfl, isAt_no hz (by omega) t2 hc (by omega) (by omega) (by omega), Option.bind_some, if_pos rfl]
theorem bl_sim (hz : z ≤ 150) (ht : ∀ i, i < z → tby i = text i ∧ ∃ c, c < 128 ∧ text i = nI c) {s : Nat} (hs : s ≤ z) : ∃ e, s ≤ e ∧ e ≤ z ∧ (e < z → ¬ text e = nI 32) ∧ M_blanks text (nI z) (nI s) = some (nI e) ∧ ∀ K fu ks ns o ok gv fg, z - s < fu → ∃ fu' fg', z - e < fu' ∧ (fg' = 0 ∨ (e = s ∧ fg' = fg)) ∧ T_readFault_12 K tby (nI z) fu (nI s) ks ns o ok gv fg = T_readFault_12 K tby (nI z) fu' (nI e) ks ns o ok gv fg' := by
  obtain ⟨e, e1, e2, e3, e4, e5⟩ := bl_loop hz ht (z - s) s 1000 (by omega) (by omega)
  refine ⟨e, e1, e2, e3, ?_, e5⟩
  unfold M_blanks
  rw [e4]
/-- a figure is taken by the class -/
theorem takes_fig0 {kd gv o d : Nat} (hk : kd < 6) (hg : gv < NM kd) (ho : o < 50) (hd : d < 10) {ks ns : FA} : T_takes ks ns (nI o) (nI kd) (nI gv) 0 (nI (48 + d)) = some (1, ks, upd ns (o * 3 + gv) (nI d), nI o, nI kd, nI (gv + 1), 1) := by
  obtain ⟨n1, n2, n3⟩ := NM_b kd hk
  have tf : T_takesFigure ns (nI o) (nI kd) (nI gv) 0 (nI d) = some (1, upd ns (o * 3 + gv) (nI d), nI (gv + 1), 1) := by
    unfold T_takesFigure
    rw [show nI o * 3 = nI (o * 3) from n_mul o 3, n_add, lt_eq, if_pos rfl, chk_nI hk (by omega), n_cl (by omega), n3, if_neg (by rw [n_le (by omega) (by omega)]; omega), chk_nI (by omega) (by omega), n_cl (by omega), lt_eq, nI_1, lt_eq]
  unfold T_takes
  rw [if_neg (by rw [L32, n_eq (by omega) (by omega)]; omega), if_neg (nI_ne_m1 (by omega)), if_neg (by rw [L59, n_eq (by omega) (by omega)]; omega), if_neg (by rw [L48, n_lt (by omega) (by omega)]; omega), if_neg (by rw [L57, n_lt (by omega) (by omega)]; omega), L48, n_sub (by omega), show 48 + d - 48 = d by omega, tf, Option.bind_some, if_neg one_ne]
theorem takes_fig1 {kd gv o d v : Nat} (hk : kd < 6) (hg1 : 1 ≤ gv) (hg : gv ≤ NM kd) (ho : o < 50) (hd : d < 10) {ks ns : FA} (hv : ns (o * 3 + gv - 1) = nI v) (hv2 : v < 10) : T_takes ks ns (nI o) (nI kd) (nI gv) 1 (nI (48 + d)) = some (1, ks, upd ns (o * 3 + gv - 1) (nI (10 * v + d)), nI o, nI kd, nI gv, 2) := by
  obtain ⟨n1, n2, n3⟩ := NM_b kd hk
  have tf : T_takesFigure ns (nI o) (nI kd) (nI gv) 1 (nI d) = some (1, upd ns (o * 3 + gv - 1) (nI (10 * v + d)), nI gv, 2) := by
    unfold T_takesFigure
    rw [show nI o * 3 = nI (o * 3) from n_mul o 3, n_add, lt_eq, if_neg one_ne, if_pos rfl, show nI (o * 3 + gv) - 1 = nI (o * 3 + gv - 1) from n_sub (a := o * 3 + gv) (b := 1) (by omega), chk_nI (by omega) (by omega), chk_nI (by omega) (by omega), n_cl (by omega), hv, show (10 : Int32) * nI v = nI (10 * v) from n_mul 10 v, n_add, lt_eq]
  unfold T_takes
  rw [if_neg (by rw [L32, n_eq (by omega) (by omega)]; omega), if_neg (nI_ne_m1 (by omega)), if_neg (by rw [L59, n_eq (by omega) (by omega)]; omega), if_neg (by rw [L48, n_lt (by omega) (by omega)]; omega), if_neg (by rw [L57, n_lt (by omega) (by omega)]; omega), L48, n_sub (by omega), show 48 + d - 48 = d by omega, tf, Option.bind_some, if_neg one_ne]
theorem takes_fig2 {kd d : Nat} {o gv : Int32} (hk : kd < 6) (hd : d < 10) {ks ns : FA} : T_takes ks ns o (nI kd) gv 2 (nI (48 + d)) = some (0, ks, ns, o, nI kd, gv, 2) := by
  have tf : T_takesFigure ns o (nI kd) gv 2 (nI d) = some (0, ns, gv, 2) := by
    unfold T_takesFigure
    rw [lt_eq, if_neg (by decide), if_neg (by decide)]
  unfold T_takes
  rw [if_neg (by rw [L32, n_eq (by omega) (by omega)]; omega), if_neg (nI_ne_m1 (by omega)), if_neg (by rw [L59, n_eq (by omega) (by omega)]; omega), if_neg (by rw [L48, n_lt (by omega) (by omega)]; omega), if_neg (by rw [L57, n_lt (by omega) (by omega)]; omega), L48, n_sub (by omega), show 48 + d - 48 = d by omega, tf, Option.bind_some, if_pos rfl]
/-- within an order, what is neither a blank, nor a figure, nor an end stops the class; so does an end too early -/
theorem takes_other {kd c : Nat} {o gv fg : Int32} (hk : kd < 6) (hc : c < 128) (h1 : c ≠ 32) (h2 : c ≠ 59) (h3 : c < 48 ∨ 57 < c) {ks ns : FA} : T_takes ks ns o (nI kd) gv fg (nI c) = some (0, ks, ns, o, nI kd, gv, fg) := by
  unfold T_takes
  rw [if_neg (by rw [L32, n_eq (by omega) (by omega)]; omega), if_neg (nI_ne_m1 (by omega)), if_neg (by rw [L59, n_eq (by omega) (by omega)]; omega)]
  by_cases h : c < 48
  · rw [if_pos (by rw [L48, n_lt (by omega) (by omega)]; omega)]
  · rw [if_neg (by rw [L48, n_lt (by omega) (by omega)]; omega), if_pos (by rw [L57, n_lt (by omega) (by omega)]; omega)]
theorem takes_early {kd gv : Nat} {o fg : Int32} (hk : kd < 6) (hg : gv < NM kd) {ks ns : FA} : T_takes ks ns o (nI kd) (nI gv) fg (nI 59) = some (0, ks, ns, o, nI kd, nI gv, fg) := by
  obtain ⟨n1, n2, n3⟩ := NM_b kd hk
  unfold T_takes T_endsOrder
  rw [if_neg (by decide), if_neg (nI_ne_m1 (by omega)), if_pos (show nI 59 = 59 from rfl), chk_nI hk (by omega), n_cl (by omega), n3, if_neg (by rw [n_le (by omega) (by omega)]; omega), Option.bind_some]
theorem takes_end {kd o : Nat} {fg : Int32} (hk : kd < 6) (ho : o < 50) {ks ns : FA} : T_takes ks ns (nI o) (nI kd) (nI (NM kd)) fg (nI 59) = some (1, upd ks o (nI kd), ns, nI (o + 1), -1, nI (NM kd), fg) := by
  obtain ⟨n1, n2, n3⟩ := NM_b kd hk
  unfold T_takes T_endsOrder
  rw [if_neg (by decide), if_neg (nI_ne_m1 (by omega)), if_pos (show nI 59 = 59 from rfl), chk_nI hk (by omega), n_cl (by omega), n3, if_pos (by rw [n_le (by omega) (by omega)]; omega), chk_nI ho (by omega), n_cl (by omega), lt_eq, nI_1, lt_eq, Option.bind_some]
theorem takes_more {kd d : Nat} {o : Int32} (hk : kd < 6) (hd : d < 10) {ks ns : FA} : T_takes ks ns o (nI kd) (nI (NM kd)) 0 (nI (48 + d)) = some (0, ks, ns, o, nI kd, nI (NM kd), 0) := by
  obtain ⟨n1, n2, n3⟩ := NM_b kd hk
  have tf : T_takesFigure ns o (nI kd) (nI (NM kd)) 0 (nI d) = some (0, ns, nI (NM kd), 0) := by
    unfold T_takesFigure
    rw [lt_eq, if_pos rfl, chk_nI hk (by omega), n_cl (by omega), n3, if_pos (by rw [n_le (by omega) (by omega)]; omega), if_neg (by decide)]
  unfold T_takes
  rw [if_neg (by rw [L32, n_eq (by omega) (by omega)]; omega), if_neg (nI_ne_m1 (by omega)), if_neg (by rw [L59, n_eq (by omega) (by omega)]; omega), if_neg (by rw [L48, n_lt (by omega) (by omega)]; omega), if_neg (by rw [L57, n_lt (by omega) (by omega)]; omega), L48, n_sub (by omega), show 48 + d - 48 = d by omega, tf, Option.bind_some, if_pos rfl]
end READ
