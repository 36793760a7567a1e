/-! an order is read, by both -/
section ORDR
variable {z : Nat} {tby text : FA}
theorem nums_sim (hz : z ≤ 150) (ht : ∀ i, i < z → tby i = text i ∧ ∃ c, c < 128 ∧ text i = nI c) {kd o : Nat} (hk : kd < 6) (ho : o < 50) (x : Int32) : ∀ (m gv s fu2 : Nat) (fg : Int32), gv + m = NM kd → s ≤ z → m + 1 < fu2 → (fg = 0 ∨ ND z text s) → ∀ parts : FA,
    ∃ q parts', q ≤ z ∧ (((∀ K, M_readsOrder_51 K text (nI z) (nI o) x (nI (NM kd)) fu2 (nI gv) (nI s) 0 parts = K (nI q) 1 parts') ∧ ∀ fu ks ns, z - s < fu → CF q (T_readFault_12 (K0 z) tby (nI z) fu (nI s) ks ns (nI o) (nI kd) (nI gv) fg)) ∨
      (s + m ≤ q ∧ (∀ K, M_readsOrder_51 K text (nI z) (nI o) x (nI (NM kd)) fu2 (nI gv) (nI s) 0 parts = K (nI q) 0 parts') ∧ (∀ j, j < o * 3 + gv → parts' j = parts j) ∧ ∀ fu ks ns, z - s < fu → ∃ fu' ns' fg', z - q < fu' ∧ (fg' = 0 ∨ ND z text q) ∧ (∀ j, gv ≤ j → j < NM kd → ns' (o * 3 + j) = parts' (o * 3 + j)) ∧ (∀ j, j < o * 3 + gv → ns' j = ns j) ∧ T_readFault_12 (K0 z) tby (nI z) fu (nI s) ks ns (nI o) (nI kd) (nI gv) fg = T_readFault_12 (K0 z) tby (nI z) fu' (nI q) ks ns' (nI o) (nI kd) (nI (NM kd)) fg')) := by
  obtain ⟨n1, n2, n3⟩ := NM_b kd hk
  intro m
  induction m with
  | zero =>
    intro gv s fu2 fg hgv hs hf2 hfg parts
    obtain ⟨f2, rfl⟩ : ∃ f, fu2 = f + 1 := ⟨fu2 - 1, by omega⟩
    have eg : gv = NM kd := by omega
    subst eg
    refine ⟨s, parts, hs, Or.inr ⟨by omega, fun K => ?_, fun j _ => rfl, fun fu ks ns hfu => ⟨fu, ns, fg, hfu, hfg, fun j a b => by omega, fun j _ => rfl, rfl⟩⟩⟩
    rw [M_readsOrder_51, if_pos (by rw [n_le (by omega) (by omega)]; omega)]
  | succ m ih =>
    intro gv s fu2 fg hgv hs hf2 hfg parts
    obtain ⟨f2, rfl⟩ : ∃ f, fu2 = f + 1 := ⟨fu2 - 1, by omega⟩
    obtain ⟨q, v, hq, hcase⟩ := num_sim hz ht hs hk (show gv < NM kd by omega) ho hfg 0
    have st : ∀ (w : Int32) K, M_number text (nI z) (nI s) 0 = some (nI v, nI q, w) → M_readsOrder_51 K text (nI z) (nI o) x (nI (NM kd)) (f2 + 1) (nI gv) (nI s) 0 parts = M_readsOrder_51 K text (nI z) (nI o) x (nI (NM kd)) f2 (nI (gv + 1)) (nI q) w (upd parts (o * 3 + gv) (nI v)) := by
      intro w K e
      rw [M_readsOrder_51, if_neg (by rw [n_le (by omega) (by omega)]; omega), if_pos rfl, e, Option.bind_some, show (3 : Int32) * nI o = nI (3 * o) from n_mul 3 o, n_add, chk_nI (by omega) (by omega), n_cl (by omega), lt_eq, lt_eq, nI_1, show 3 * o + gv = o * 3 + gv by omega]
    rcases hcase with ⟨e1, e2⟩ | ⟨hsq, e1, hnd, e2⟩
    · refine ⟨q, upd parts (o * 3 + gv) (nI v), hq, Or.inl ⟨fun K => ?_, e2⟩⟩
      rw [st 1 K e1]
      obtain ⟨f3, rfl⟩ : ∃ f, f2 = f + 1 := ⟨f2 - 1, by omega⟩
      rw [M_readsOrder_51]
      by_cases hle : nI (NM kd) ≤ nI (gv + 1)
      · rw [if_pos hle]
      · rw [if_neg hle, if_neg one_ne]
    · obtain ⟨q2, parts2, hq2, hc2⟩ := ih (gv + 1) q f2 2 (by omega) hq (by omega) (Or.inr hnd) (upd parts (o * 3 + gv) (nI v))
      have any : ∀ fg' : Int32, ∃ q2 parts2, q2 ≤ z ∧ True := fun _ => ⟨q2, parts2, hq2, trivial⟩
      clear any hc2 hq2 parts2 q2
      -- the figures left behind do not matter: the next place bears none
      have gen := fun fg' => ih (gv + 1) q f2 fg' (by omega) hq (by omega) (Or.inr hnd) (upd parts (o * 3 + gv) (nI v))
      obtain ⟨q2, parts2, hq2, hc2⟩ := gen 2
      rcases hc2 with ⟨a1, a2⟩ | ⟨a0, a1, a2, a3⟩
      · refine ⟨q2, parts2, hq2, Or.inl ⟨fun K => by rw [st 0 K e1, a1], fun fu ks ns hfu => ?_⟩⟩
        obtain ⟨fu', ns', fg', k1, k2, k3, k4⟩ := e2 fu ks ns hfu
        rw [k4]
        obtain ⟨q3, parts3, hq3, hc3⟩ := gen fg'
        rcases hc3 with ⟨b1, b2⟩ | ⟨b0, b1, -⟩
        · have := (a1 (fun s f _ => some (s, f, 0, parts, parts))).symm.trans (b1 (fun s f _ => some (s, f, 0, parts, parts)))
          have e := Option.some.inj this
          have e' : nI q2 = nI q3 := congrArg (fun t => t.1) e
          rw [n_eq (by omega) (by omega)] at e'
          rw [e']
          exact b2 fu' ks ns' k1
        · have := (a1 (fun s f _ => some (s, f, 0, parts, parts))).symm.trans (b1 (fun s f _ => some (s, f, 0, parts, parts)))
          have e' : (1 : Int32) = 0 := congrArg (fun t => t.2.1) (Option.some.inj this)
          exact absurd e' one_ne
      · refine ⟨q2, parts2, hq2, Or.inr ⟨by omega, fun K => by rw [st 0 K e1, a1], fun j hj => by rw [a2 j (by omega), upd_ne (by omega)], fun fu ks ns hfu => ?_⟩⟩
        obtain ⟨fu', ns', fg', k1, k2, k3, k4⟩ := e2 fu ks ns hfu
        obtain ⟨q3, parts3, hq3, hc3⟩ := gen fg'
        rcases hc3 with ⟨b1, -⟩ | ⟨b0, b1, b2, b3⟩
        · have := (a1 (fun s f _ => some (s, f, 0, parts, parts))).symm.trans (b1 (fun s f _ => some (s, f, 0, parts, parts)))
          have e' : (0 : Int32) = 1 := congrArg (fun t => t.2.1) (Option.some.inj this)
          exact absurd e'.symm one_ne
        · have := (a1 (fun s f p => some (s, f, 0, p, p))).symm.trans (b1 (fun s f p => some (s, f, 0, p, p)))
          have e := Option.some.inj this
          have e' : nI q2 = nI q3 := congrArg (fun t => t.1) e
          have e'' : parts2 = parts3 := congrArg (fun t => t.2.2.2.1) e
          rw [n_eq (by omega) (by omega)] at e'
          subst e' e''
          obtain ⟨fu3, ns3, fg3, m1, m2, m3, m4, m5⟩ := b3 fu' ks ns' k1
          refine ⟨fu3, ns3, fg3, m1, m2, fun j j1 j2 => ?_, fun j hj => ?_, by rw [k4, m5]⟩
          · by_cases ej : j = gv
            · subst ej
              rw [m4 _ (by omega), k2, a2 _ (by omega), upd_same]
            · exact m3 j (by omega) j2
          · rw [m4 j (by omega), k3 j (by omega)]
theorem order_read (hz : z ≤ 150) (ht : ∀ i, i < z → tby i = text i ∧ ∃ c, c < 128 ∧ text i = nI c) {s o : Nat} (hs : s < z) (hb : ¬ text s = nI 32) (ho : 3 * o ≤ s) (letters parts : FA) :
    ∃ q, q ≤ z ∧ ((∃ o' letters' parts', M_readsOrder text (nI z) (nI s) 0 (nI o) letters parts = some (nI q, 1, o', letters', parts') ∧ ∀ fu ks ns gv fg, z - s < fu → CF q (T_readFault_12 (K0 z) tby (nI z) fu (nI s) ks ns (nI o) (-1) gv fg)) ∨
      (∃ kd parts', kd < 6 ∧ s + 3 ≤ q ∧ M_readsOrder text (nI z) (nI s) 0 (nI o) letters parts = some (nI q, 0, nI (o + 1), upd letters o (nI (LT_ kd)), parts') ∧ (∀ j, j < o * 3 → parts' j = parts j) ∧ ∀ fu ks ns gv fg, z - s < fu → ∃ fu' ns' gv' fg', z - q < fu' ∧ (∀ j, j < NM kd → ns' (o * 3 + j) = parts' (o * 3 + j)) ∧ (∀ j, j < o * 3 → ns' j = ns j) ∧ T_readFault_12 (K0 z) tby (nI z) fu (nI s) ks ns (nI o) (-1) gv fg = T_readFault_12 (K0 z) tby (nI z) fu' (nI q) (upd ks o (nI kd)) ns' (nI (o + 1)) (-1) gv' fg')) := by
  obtain ⟨t1, c, hc, t2⟩ := ht s hs
  have hc32 : c ≠ 32 := by rw [t2, n_eq (by omega) (by omega)] at hb; exact hb
  rcases letter c hc with ⟨l1, l2⟩ | ⟨hk, l1, l2, l3⟩
  · refine ⟨s, by omega, Or.inl ⟨nI o, letters, parts, ?_, fun fu ks ns gv fg hfu => ?_⟩⟩
    · unfold M_readsOrder
      rw [chk_nI (by omega) (by omega), n_cl (by omega), t2, lt_eq, l2, Option.bind_some, if_pos rfl, show nI s + 0 = nI s from by rw [L0, n_add, Nat.add_zero], lt_eq]
      have key : ∀ f K, M_readsOrder_51 K text (nI z) (nI o) (nI c) 0 (f + 1) 0 (nI s) 1 parts = K (nI s) 1 parts := by
        intro f K; rw [M_readsOrder_51, if_pos (by decide)]
      rw [show (1000 : Nat) = 999 + 1 from rfl, key 999, if_neg one_ne]
    · obtain ⟨f, rfl⟩ : ∃ f, fu = f + 1 := ⟨fu - 1, by omega⟩
      have tk : T_takes ks ns (nI o) (-1) gv fg (tby s) = some (0, ks, ns, nI o, -1, gv, fg) := by
        unfold T_takes T_opensOrder
        rw [t1, t2, if_neg (by rw [L32, n_eq (by omega) (by omega)]; exact hc32), if_pos rfl, lt_eq, if_pos l1, Option.bind_some]
      exact T_stop hz hs tk
  · generalize (sIdx ((Int32.toUInt32 (nI c) % 65536).toInt32)).toNatClampNeg = kd at hk l1 l2 l3
    obtain ⟨n1, n2, n3⟩ := NM_b kd hk
    have opn : ∀ fu ks ns gv fg, z - s < fu → ∃ f, fu = f + 1 ∧ T_readFault_12 (K0 z) tby (nI z) fu (nI s) ks ns (nI o) (-1) gv fg = T_readFault_12 (K0 z) tby (nI z) f (nI (s + 1)) ks ns (nI o) (nI kd) (nI 0) 0 := by
      intro fu ks ns gv fg hfu
      obtain ⟨f, rfl⟩ : ∃ f, fu = f + 1 := ⟨fu - 1, by omega⟩
      refine ⟨f, rfl, T_next hz hs ?_⟩
      unfold T_takes T_opensOrder
      rw [t1, t2, if_neg (by rw [L32, n_eq (by omega) (by omega)]; exact hc32), if_pos rfl, lt_eq, l1, if_neg (nlt0 kd (by omega)), if_pos (by rw [L50, n_lt (by omega) (by omega)]; omega), Option.bind_some]
      rfl
    obtain ⟨q, parts', hq, hcase⟩ := nums_sim hz ht hk (show o < 50 by omega) (nI c) (NM kd) 0 (s + 1) 1000 0 (by omega) (by omega) (by omega) (Or.inl rfl) parts
    have mst : M_readsOrder text (nI z) (nI s) 0 (nI o) letters parts = M_readsOrder_51 (fun m_spot_17 m_isFaulty_18 m_parts_19 => if m_isFaulty_18 = 0 then (Option.bind (M_blanks text (nI z) m_spot_17) (fun o22 => Option.bind (M_isAt text (nI z) o22 59 59) (fun o25 => if o25 = 0 then (lt_ (o22 + 0) (fun m_spot_36 => some (m_spot_36, 1, nI o, letters, m_parts_19))) else (lt_ (o22 + 1) (fun m_spot_30 => chk (bnd (nI o) 51) (lt_ (upd letters (Int32.toNatClampNeg (nI o)) (nI c)) (fun m_letters_33 => lt_ (nI o + 1) (fun m_orders_34 => some (m_spot_30, 0, m_orders_34, m_letters_33, m_parts_19))))))))) else (some (m_spot_17, m_isFaulty_18, nI o, letters, m_parts_19))) text (nI z) (nI o) (nI c) (nI (NM kd)) 1000 (nI 0) (nI (s + 1)) 0 parts := by
      unfold M_readsOrder
      rw [chk_nI (by omega) (by omega), n_cl (by omega), t2, lt_eq, l3, Option.bind_some, if_neg (by rw [L0, n_eq (by omega) (by omega)]; omega), nI_1, lt_eq]
      rfl
    rcases hcase with ⟨a1, a2⟩ | ⟨a0, a1, a2, a3⟩
    · refine ⟨q, hq, Or.inl ⟨nI o, letters, parts', ?_, fun fu ks ns gv fg hfu => ?_⟩⟩
      · rw [mst, a1, if_neg one_ne]
      · obtain ⟨f, rfl, k⟩ := opn fu ks ns gv fg hfu
        rw [k]
        exact a2 f ks ns (by omega)
    · obtain ⟨e, e1, e2, e3, e4, e5⟩ := bl_sim hz ht hq
      have run : ∀ fu ks ns gv fg, z - s < fu → ∃ fu' ns' fg', z - e < fu' ∧ (fg' = 0 ∨ ND z text e) ∧ (∀ j, j < NM kd → ns' (o * 3 + j) = parts' (o * 3 + j)) ∧ (∀ j, j < o * 3 → ns' j = ns j) ∧ T_readFault_12 (K0 z) tby (nI z) fu (nI s) ks ns (nI o) (-1) gv fg = T_readFault_12 (K0 z) tby (nI z) fu' (nI e) ks ns' (nI o) (nI kd) (nI (NM kd)) fg' := by
        intro fu ks ns gv fg hfu
        obtain ⟨f, rfl, k⟩ := opn fu ks ns gv fg hfu
        obtain ⟨fu', ns', fg', m1, m2, m3, m4, m5⟩ := a3 f ks ns (by omega)
        obtain ⟨fu2, fg2, p1, p2, p3⟩ := e5 (K0 z) fu' ks ns' (nI o) (nI kd) (nI (NM kd)) fg' m1
        refine ⟨fu2, ns', fg2, p1, ?_, fun j hj => m3 j (Nat.zero_le j) hj, fun j hj => m4 j (by omega), by rw [k, m5, p3]⟩
        rcases p2 with p2 | ⟨p2, p4⟩
        · exact Or.inl p2
        · rcases m2 with m2 | m2
          · exact Or.inl (by rw [p4, m2])
          · exact Or.inr (by rw [p2]; exact m2)
      by_cases hez : e < z
      · obtain ⟨te, ce, hce, hte⟩ := ht e hez
        by_cases h59 : ce = 59
        · subst h59
          refine ⟨e + 1, by omega, Or.inr ⟨kd, parts', hk, by omega, ?_, fun j hj => a2 j (by omega), fun fu ks ns gv fg hfu => ?_⟩⟩
          · rw [mst, a1, if_pos rfl, e4, Option.bind_some, show (59 : Int32) = nI 59 from rfl, isAt_yes hz hez hte (by omega) (by omega) (by omega) (by omega) (by omega), Option.bind_some, if_neg one_ne, nI_1, lt_eq, chk_nI (by omega) (by omega), n_cl (by omega), lt_eq, nI_1, lt_eq, l2]
          · obtain ⟨fu', ns', fg', r1, r2, r3, r4, r5⟩ := run fu ks ns gv fg hfu
            obtain ⟨f, rfl⟩ : ∃ f, fu' = f + 1 := ⟨fu' - 1, by omega⟩
            refine ⟨f, ns', nI (NM kd), fg', by omega, r3, r4, ?_⟩
            rw [r5, T_next hz hez (by rw [te, hte]; exact takes_end hk (by omega))]
        · refine ⟨e, e2, Or.inl ⟨nI o, letters, parts', ?_, fun fu ks ns gv fg hfu => ?_⟩⟩
          · rw [mst, a1, if_pos rfl, e4, Option.bind_some, show (59 : Int32) = nI 59 from rfl, isAt_no hz hez hte hce (by omega) (by omega) (by omega), Option.bind_some, if_pos rfl, L0, n_add, Nat.add_zero, lt_eq]
          · obtain ⟨fu', ns', fg', r1, r2, r3, r4, r5⟩ := run fu ks ns gv fg hfu
            obtain ⟨f, rfl⟩ : ∃ f, fu' = f + 1 := ⟨fu' - 1, by omega⟩
            rw [r5]
            have h32 := e3 hez
            rw [hte, n_eq (by omega) (by omega)] at h32
            by_cases hd : ce < 48 ∨ 57 < ce
            · exact T_stop hz hez (by rw [te, hte]; exact takes_other hk hce h32 h59 hd)
            · have hf0 : fg' = 0 := by
                rcases r2 with h | h
                · exact h
                · obtain ⟨c', c1, c2, c3⟩ := h hez
                  rw [hte, n_eq (by omega) (by omega)] at c2; omega
              rw [hf0]
              have tk := takes_more (ks := ks) (ns := ns') (o := nI o) (d := ce - 48) hk (by omega)
              rw [show 48 + (ce - 48) = ce by omega] at tk
              exact T_stop hz hez (by rw [te, hte]; exact tk)
      · have ee : e = z := by omega
        refine ⟨e, e2, Or.inl ⟨nI o, letters, parts', ?_, fun fu ks ns gv fg hfu => ?_⟩⟩
        · rw [mst, a1, if_pos rfl, e4, Option.bind_some, ee, isAt_end hz, Option.bind_some, if_pos rfl, L0, n_add, Nat.add_zero, lt_eq]
        · obtain ⟨fu', ns', fg', r1, r2, r3, r4, r5⟩ := run fu ks ns gv fg hfu
          rw [r5, ee, T_end hz (by omega)]
          exact CF_K0 hk
end ORDR
