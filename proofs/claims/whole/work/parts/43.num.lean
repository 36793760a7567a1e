/-! a number is read, by both -/
section NUM
variable {z : Nat} {tby text : FA}
theorem num_step {K : Int32 → Int32 → Int32 → Option (Int32 × Int32 × Int32)} (hz : z ≤ 150) {s d v j f : Nat} (hs : s < z) (hc : text s = nI (48 + d)) (hd : d < 10) (hj : j < 2) : M_number_28 K text (nI z) (f + 1) (nI v) (nI j) (nI s) 0 = M_number_28 K text (nI z) f (nI (10 * v + d)) (nI (j + 1)) (nI (s + 1)) 0 := by
  rw [M_number_28, if_pos rfl, show (57 : Int32) = nI 57 from rfl, show (48 : Int32) = nI 48 from rfl, isAt_yes hz hs hc (by omega) (by omega) (by omega) (by omega) (by omega), Option.bind_some, if_neg one_ne, nI_1, lt_eq, if_pos (by rw [L2, n_le (by omega) (by omega)]; omega), chk_nI (by omega) (by omega), n_cl (by omega), hc, show (10 : Int32) * nI v = nI (10 * v) from n_mul 10 v, n_add, n_sub (by omega), lt_eq, lt_eq, nI_1, show 10 * v + (48 + d) - 48 = 10 * v + d by omega]
theorem num_done {K : Int32 → Int32 → Int32 → Option (Int32 × Int32 × Int32)} (hz : z ≤ 150) {s f : Nat} {v j : Int32} (hs : s ≤ z) (hc : s < z → ∃ c, c < 128 ∧ text s = nI c ∧ (c < 48 ∨ 57 < c)) : M_number_28 K text (nI z) (f + 1) v j (nI s) 0 = K v (nI s) 0 := by
  have h0 : M_isAt text (nI z) (nI s) 48 57 = some 0 := by
    by_cases h : s < z
    · obtain ⟨c, c1, c2, c3⟩ := hc h
      exact isAt_no (a := 48) (b := 57) hz h c2 c1 (by omega) (by omega) c3
    · rw [show s = z by omega]; exact isAt_end hz
  rw [M_number_28, if_pos rfl, h0, Option.bind_some, if_pos rfl]
theorem num_over {K : Int32 → Int32 → Int32 → Option (Int32 × Int32 × Int32)} (hz : z ≤ 150) {s d v f : Nat} (hs : s < z) (hc : text s = nI (48 + d)) (hd : d < 10) : M_number_28 K text (nI z) (f + 2) (nI v) (nI 2) (nI s) 0 = K (nI v) (nI s) 1 := by
  rw [M_number_28, if_pos rfl, show (57 : Int32) = nI 57 from rfl, show (48 : Int32) = nI 48 from rfl, isAt_yes hz hs hc (by omega) (by omega) (by omega) (by omega) (by omega), Option.bind_some, if_neg one_ne, nI_1, lt_eq, if_neg (by rw [L2, n_le (by omega) (by omega)]; omega), L0, n_add, Nat.add_zero, lt_eq, M_number_28, if_neg one_ne]
/-- what lies at a place -/
theorem at_place (ht : ∀ i, i < z → tby i = text i ∧ ∃ c, c < 128 ∧ text i = nI c) {s : Nat} (hs : s < z) : (∃ d, d < 10 ∧ text s = nI (48 + d)) ∨ ∃ c, c < 128 ∧ text s = nI c ∧ (c < 48 ∨ 57 < c) := by
  obtain ⟨-, c, hc, e⟩ := ht s hs
  by_cases h : c < 48 ∨ 57 < c
  · exact Or.inr ⟨c, hc, e, h⟩
  · exact Or.inl ⟨c - 48, by omega, by rw [e, show 48 + (c - 48) = c by omega]⟩
def ND (z : Nat) (text : FA) (s : Nat) : Prop := s < z → ∃ c, c < 128 ∧ text s = nI c ∧ (c < 48 ∨ 57 < c)
theorem num_sim (hz : z ≤ 150) (ht : ∀ i, i < z → tby i = text i ∧ ∃ c, c < 128 ∧ text i = nI c) {s kd gv o : Nat} (hs : s ≤ z) (hk : kd < 6) (hg : gv < NM kd) (ho : o < 50) {fg : Int32} (hfg : fg = 0 ∨ ND z text s) (isF : Int32) :
    ∃ q v, q ≤ z ∧ ((M_number text (nI z) (nI s) isF = some (nI v, nI q, 1) ∧ ∀ fu ks ns, z - s < fu → CF q (T_readFault_12 (K0 z) tby (nI z) fu (nI s) ks ns (nI o) (nI kd) (nI gv) fg)) ∨
      (s < q ∧ M_number text (nI z) (nI s) isF = some (nI v, nI q, 0) ∧ ND z text q ∧ ∀ fu ks ns, z - s < fu → ∃ fu' ns' fg', z - q < fu' ∧ ns' (o * 3 + gv) = nI v ∧ (∀ j, j ≠ o * 3 + gv → ns' j = ns j) ∧ T_readFault_12 (K0 z) tby (nI z) fu (nI s) ks ns (nI o) (nI kd) (nI gv) fg = T_readFault_12 (K0 z) tby (nI z) fu' (nI q) ks ns' (nI o) (nI kd) (nI (gv + 1)) fg')) := by
  obtain ⟨e, e1, e2, e3, e4, e5⟩ := bl_sim hz ht hs
  by_cases hez : e < z
  · rcases at_place ht hez with ⟨d, hd, hcd⟩ | ⟨c, hc, hce, hcc⟩
    · -- a figure
      have isy : M_isAt text (nI z) (nI e) 48 57 = some 1 := isAt_yes (a := 48) (b := 57) hz hez hcd (by omega) (by omega) (by omega) (by omega) (by omega)
      have hfg0 : ∀ fg' : Int32, (fg' = 0 ∨ (e = s ∧ fg' = fg)) → fg' = 0 := by
        intro fg' h
        rcases h with h | ⟨h1, h2⟩
        · exact h
        · rcases hfg with h | h
          · rw [h2, h]
          · rw [← h1] at h
            obtain ⟨c, c1, c2, c3⟩ := h hez
            rw [hcd, n_eq (by omega) (by omega)] at c2; omega
      have te := (ht e hez).1
      have num : M_number text (nI z) (nI s) isF = M_number_28 (fun l1_23 m_spot_24 m_isFaulty_25 => some (l1_23, m_spot_24, m_isFaulty_25)) text (nI z) 999 (nI d) (nI 1) (nI (e + 1)) 0 := by
        unfold M_number
        rw [e4, Option.bind_some, isy, Option.bind_some, if_neg one_ne]
        have := num_step (K := fun l1_23 m_spot_24 m_isFaulty_25 => some (l1_23, m_spot_24, m_isFaulty_25)) hz (v := 0) (j := 0) (f := 999) hez hcd hd (by omega)
        rw [show 10 * 0 + d = d by omega] at this
        exact this
      -- the class takes the first figure
      have cls1 : ∀ fu ks ns, z - s < fu → ∃ fu', z - e < fu' + 1 ∧ T_readFault_12 (K0 z) tby (nI z) fu (nI s) ks ns (nI o) (nI kd) (nI gv) fg = T_readFault_12 (K0 z) tby (nI z) fu' (nI (e + 1)) ks (upd ns (o * 3 + gv) (nI d)) (nI o) (nI kd) (nI (gv + 1)) 1 := by
        intro fu ks ns hfu
        obtain ⟨fu', fg', k1, k2, k3⟩ := e5 (K0 z) fu ks ns (nI o) (nI kd) (nI gv) fg hfu
        rw [hfg0 fg' k2] at k3
        obtain ⟨f, rfl⟩ : ∃ f, fu' = f + 1 := ⟨fu' - 1, by omega⟩
        refine ⟨f, k1, ?_⟩
        rw [k3, T_next hz hez (by rw [te, hcd]; exact takes_fig0 hk hg ho hd)]
      by_cases h1z : e + 1 < z
      · rcases at_place ht h1z with ⟨d2, hd2, hcd2⟩ | nd
        · have te2 := (ht (e + 1) h1z).1
          have num2 : M_number text (nI z) (nI s) isF = M_number_28 (fun l1_23 m_spot_24 m_isFaulty_25 => some (l1_23, m_spot_24, m_isFaulty_25)) text (nI z) 998 (nI (10 * d + d2)) (nI 2) (nI (e + 1 + 1)) 0 := by
            rw [num]
            exact num_step hz (v := d) (j := 1) (f := 998) h1z hcd2 hd2 (by omega)
          have cls2 : ∀ fu ks ns, z - s < fu → ∃ fu', z - e < fu' + 2 ∧ T_readFault_12 (K0 z) tby (nI z) fu (nI s) ks ns (nI o) (nI kd) (nI gv) fg = T_readFault_12 (K0 z) tby (nI z) fu' (nI (e + 1 + 1)) ks (upd (upd ns (o * 3 + gv) (nI d)) (o * 3 + gv) (nI (10 * d + d2))) (nI o) (nI kd) (nI (gv + 1)) 2 := by
            intro fu ks ns hfu
            obtain ⟨fu', k1, k3⟩ := cls1 fu ks ns hfu
            obtain ⟨f, rfl⟩ : ∃ f, fu' = f + 1 := ⟨fu' - 1, by omega⟩
            refine ⟨f, by omega, ?_⟩
            have tk := takes_fig1 (ks := ks) (ns := upd ns (o * 3 + gv) (nI d)) (gv := gv + 1) (o := o) (v := d) hk (by omega) (by omega) ho hd2 (by rw [show o * 3 + (gv + 1) - 1 = o * 3 + gv by omega]; exact upd_same) hd
            rw [show o * 3 + (gv + 1) - 1 = o * 3 + gv by omega] at tk
            rw [k3, T_next hz h1z (by rw [te2, hcd2]; exact tk)]
          by_cases h2z : e + 1 + 1 < z
          · rcases at_place ht h2z with ⟨d3, hd3, hcd3⟩ | nd
            · have te3 := (ht (e + 1 + 1) h2z).1
              refine ⟨e + 1 + 1, 10 * d + d2, by omega, Or.inl ⟨?_, fun fu ks ns hfu => ?_⟩⟩
              · rw [num2]; exact num_over (f := 996) hz h2z hcd3 hd3
              · obtain ⟨fu', k1, k3⟩ := cls2 fu ks ns hfu
                obtain ⟨f, rfl⟩ : ∃ f, fu' = f + 1 := ⟨fu' - 1, by omega⟩
                rw [k3]
                exact T_stop hz h2z (by rw [te3, hcd3]; exact takes_fig2 hk hd3)
            · refine ⟨e + 1 + 1, 10 * d + d2, by omega, Or.inr ⟨by omega, ?_, fun _ => nd, fun fu ks ns hfu => ?_⟩⟩
              · rw [num2]; exact num_done (f := 997) hz (by omega) (fun _ => nd)
              · obtain ⟨fu', k1, k3⟩ := cls2 fu ks ns hfu
                exact ⟨fu', _, 2, by omega, upd_same, fun j hj => by rw [upd_ne hj, upd_ne hj], k3⟩
          · refine ⟨e + 1 + 1, 10 * d + d2, by omega, Or.inr ⟨by omega, ?_, fun h => absurd h h2z, fun fu ks ns hfu => ?_⟩⟩
            · rw [num2]; exact num_done (f := 997) hz (by omega) (fun h => absurd h h2z)
            · obtain ⟨fu', k1, k3⟩ := cls2 fu ks ns hfu
              exact ⟨fu', _, 2, by omega, upd_same, fun j hj => by rw [upd_ne hj, upd_ne hj], k3⟩
        · refine ⟨e + 1, d, by omega, Or.inr ⟨by omega, ?_, fun _ => nd, fun fu ks ns hfu => ?_⟩⟩
          · rw [num]; exact num_done (f := 998) hz (by omega) (fun _ => nd)
          · obtain ⟨fu', k1, k3⟩ := cls1 fu ks ns hfu
            exact ⟨fu', _, 1, by omega, upd_same, fun j hj => upd_ne hj, k3⟩
      · refine ⟨e + 1, d, by omega, Or.inr ⟨by omega, ?_, fun h => absurd h h1z, fun fu ks ns hfu => ?_⟩⟩
        · rw [num]; exact num_done (f := 998) hz (by omega) (fun h => absurd h h1z)
        · obtain ⟨fu', k1, k3⟩ := cls1 fu ks ns hfu
          exact ⟨fu', _, 1, by omega, upd_same, fun j hj => upd_ne hj, k3⟩
    · -- no figure
      have isn : M_isAt text (nI z) (nI e) 48 57 = some 0 := isAt_no (a := 48) (b := 57) hz hez hce hc (by omega) (by omega) hcc
      have te := (ht e hez).1
      refine ⟨e, 0, e2, Or.inl ⟨?_, fun fu ks ns hfu => ?_⟩⟩
      · unfold M_number
        rw [e4, Option.bind_some, isn, Option.bind_some, if_pos rfl]
        have key : ∀ f, M_number_28 (fun l1_26 m_spot_27 m_isFaulty_28 => some (l1_26, m_spot_27, m_isFaulty_28)) text (nI z) (f + 1) 0 0 (nI e) 1 = some (nI 0, nI e, 1) := by
          intro f; rw [M_number_28, if_neg one_ne]; rfl
        exact key 999
      · obtain ⟨fu', fg', k1, k2, k3⟩ := e5 (K0 z) fu ks ns (nI o) (nI kd) (nI gv) fg hfu
        obtain ⟨f, rfl⟩ : ∃ f, fu' = f + 1 := ⟨fu' - 1, by omega⟩
        rw [k3]
        have h32 := e3 hez
        rw [hce, n_eq (by omega) (by omega)] at h32
        by_cases h59 : c = 59
        · exact T_stop hz hez (by rw [te, hce, h59]; exact takes_early hk hg)
        · exact T_stop hz hez (by rw [te, hce]; exact takes_other hk hc h32 h59 hcc)
  · have ee : e = z := by omega
    refine ⟨e, 0, e2, Or.inl ⟨?_, fun fu ks ns hfu => ?_⟩⟩
    · unfold M_number
      rw [e4, Option.bind_some, ee, isAt_end hz, Option.bind_some, if_pos rfl]
      have key : ∀ f, M_number_28 (fun l1_26 m_spot_27 m_isFaulty_28 => some (l1_26, m_spot_27, m_isFaulty_28)) text (nI z) (f + 1) 0 0 (nI z) 1 = some (nI 0, nI z, 1) := by
        intro f; rw [M_number_28, if_neg one_ne]; rfl
      exact key 999
    · obtain ⟨fu', fg', k1, k2, k3⟩ := e5 (K0 z) fu ks ns (nI o) (nI kd) (nI gv) fg hfu
      rw [k3, ee, T_end hz (by omega)]
      exact CF_K0 hk
end NUM
