/-! the script is done, by both -/
def OR_ (o : Nat) (ks ns letters parts : FA) : Prop := ∀ i, i < o → ∃ kd, kd < 6 ∧ ks i = nI kd ∧ letters i = nI (LT_ kd) ∧ ∀ j, j < NM kd → ns (i * 3 + j) = parts (i * 3 + j)
section READS
variable {z : Nat} {tby text : FA}
theorem reads_loop (hz : z ≤ 150) (ht : ∀ i, i < z → tby i = text i ∧ ∃ c, c < 128 ∧ text i = nI c) : ∀ (m s fu2 o : Nat) (letters parts : FA), z - s ≤ m → s ≤ z → (s < z → ¬ text s = nI 32) → 3 * o ≤ s → m + 2 < fu2 →
    ∃ q, q ≤ z ∧ ((∃ o' l' p', (∀ K, M_reads_34 K text (nI z) fu2 (nI s) 0 (nI o) letters parts = K (nI q) 1 o' l' p') ∧ ∀ fu ks ns gv fg, z - s < fu → CF q (T_readFault_12 (K0 z) tby (nI z) fu (nI s) ks ns (nI o) (-1) gv fg)) ∨
      (∃ o' l' p', o ≤ o' ∧ o' ≤ 50 ∧ (s < z → 1 ≤ o') ∧ (∀ K, M_reads_34 K text (nI z) fu2 (nI s) 0 (nI o) letters parts = K (nI z) 0 (nI o') l' p') ∧ ∀ fu ks ns gv fg, z - s < fu → OR_ o ks ns letters parts → ∃ ks' ns' gv' fg', OR_ o' ks' ns' l' p' ∧ T_readFault_12 (K0 z) tby (nI z) fu (nI s) ks ns (nI o) (-1) gv fg = K0 z ks' ns' (nI o') (-1) gv' fg')) := by
  intro m
  induction m with
  | zero =>
    intro s fu2 o letters parts hm hs hb ho hf2
    obtain ⟨f2, rfl⟩ : ∃ f, fu2 = f + 1 := ⟨fu2 - 1, by omega⟩
    have es : s = z := by omega
    subst es
    refine ⟨s, hs, Or.inr ⟨o, letters, parts, Nat.le_refl o, by omega, fun h => by omega, fun K => ?_, fun fu ks ns gv fg hfu hO => ⟨ks, ns, gv, fg, hO, T_end hz (by omega)⟩⟩⟩
    rw [M_reads_34, if_pos rfl, if_pos (by rw [n_le (by omega) (by omega)]; omega)]
  | succ m ih =>
    intro s fu2 o letters parts hm hs hb ho hf2
    obtain ⟨f2, rfl⟩ : ∃ f, fu2 = f + 1 := ⟨fu2 - 1, by omega⟩
    by_cases hsz : s < z
    · obtain ⟨q, hq, hcase⟩ := order_read hz ht hsz (hb hsz) ho letters parts
      rcases hcase with ⟨o', l', p', a1, a2⟩ | ⟨kd, p', hk, hq3, a1, a2, a3⟩
      · refine ⟨q, hq, Or.inl ⟨o', l', p', fun K => ?_, a2⟩⟩
        obtain ⟨f3, rfl⟩ : ∃ f, f2 = f + 1 := ⟨f2 - 1, by omega⟩
        rw [M_reads_34, if_pos rfl, if_neg (by rw [n_le (by omega) (by omega)]; omega), a1, Option.bind_some, if_neg one_ne]
        dsimp only
        rw [M_reads_34, if_neg one_ne]
      · obtain ⟨e, e1, e2, e3, e4, e5⟩ := bl_sim hz ht hq
        obtain ⟨q2, hq2, hc2⟩ := ih e f2 (o + 1) (upd letters o (nI (LT_ kd))) p' (by omega) e2 e3 (by omega) (by omega)
        have mst : ∀ K, M_reads_34 K text (nI z) (f2 + 1) (nI s) 0 (nI o) letters parts = M_reads_34 K text (nI z) f2 (nI e) 0 (nI (o + 1)) (upd letters o (nI (LT_ kd))) p' := by
          intro K
          rw [M_reads_34, if_pos rfl, if_neg (by rw [n_le (by omega) (by omega)]; omega), a1, Option.bind_some, if_pos rfl]
          dsimp only
          rw [e4, Option.bind_some]
        rcases hc2 with ⟨o', l', p2, b1, b2⟩ | ⟨o', l', p2, b0, b50, -, b1, b2⟩
        · refine ⟨q2, hq2, Or.inl ⟨o', l', p2, fun K => by rw [mst, b1], fun fu ks ns gv fg hfu => ?_⟩⟩
          obtain ⟨fu', ns', gv', fg', k1, -, -, k4⟩ := a3 fu ks ns gv fg hfu
          obtain ⟨fu3, fg3, p1, -, p3⟩ := e5 (K0 z) fu' (upd ks o (nI kd)) ns' (nI (o + 1)) (-1) gv' fg' k1
          rw [k4, p3]
          exact b2 fu3 _ _ _ _ p1
        · refine ⟨q2, hq2, Or.inr ⟨o', l', p2, by omega, b50, fun _ => by omega, fun K => by rw [mst, b1], fun fu ks ns gv fg hfu hO => ?_⟩⟩
          obtain ⟨fu', ns', gv', fg', k1, k2, k3, k4⟩ := a3 fu ks ns gv fg hfu
          obtain ⟨fu3, fg3, p1, -, p3⟩ := e5 (K0 z) fu' (upd ks o (nI kd)) ns' (nI (o + 1)) (-1) gv' fg' k1
          have hO' : OR_ (o + 1) (upd ks o (nI kd)) ns' (upd letters o (nI (LT_ kd))) p' := by
            intro i hi
            by_cases ei : i = o
            · subst ei
              exact ⟨kd, hk, upd_same, upd_same, k2⟩
            · obtain ⟨kd', c1, c2, c3, c4⟩ := hO i (by omega)
              have n2 := (NM_b kd' c1).2.1
              refine ⟨kd', c1, by rw [upd_ne ei]; exact c2, by rw [upd_ne ei]; exact c3, fun j hj => ?_⟩
              rw [k3 _ (by omega), a2 _ (by omega)]; exact c4 j hj
          obtain ⟨ks2, ns2, gv2, fg2, d1, d2⟩ := b2 fu3 _ _ _ _ p1 hO'
          exact ⟨ks2, ns2, gv2, fg2, d1, by rw [k4, p3, d2]⟩
    · have es : s = z := by omega
      subst es
      refine ⟨s, hs, Or.inr ⟨o, letters, parts, Nat.le_refl o, by omega, fun h => by omega, fun K => ?_, fun fu ks ns gv fg hfu hO => ⟨ks, ns, gv, fg, hO, T_end hz (by omega)⟩⟩⟩
      rw [M_reads_34, if_pos rfl, if_pos (by rw [n_le (by omega) (by omega)]; omega)]
theorem reads_sim (hz : z ≤ 150) (ht : ∀ i, i < z → tby i = text i ∧ ∃ c, c < 128 ∧ text i = nI c) (ks ns : FA) (ocn okn gvn fgn spot flt ords : Int32) (lets prts : FA) :
    (∃ q f' o' l' p', q ≤ z ∧ CF q (T_readFault tby ks ns (nI z) ocn okn gvn fgn) ∧ M_reads text (nI z) spot flt ords lets prts = some (0, nI q, f', o', l', p')) ∨
    (∃ o ks' ns' gv' fg' l' p', 1 ≤ o ∧ o ≤ 50 ∧ OR_ o ks' ns' l' p' ∧ T_readFault tby ks ns (nI z) ocn okn gvn fgn = some (-1, ks', ns', nI o, -1, gv', fg') ∧ M_reads text (nI z) spot flt ords lets prts = some (1, nI z, 0, nI o, l', p')) := by
  obtain ⟨e, e1, e2, e3, e4, e5⟩ := bl_sim hz ht (Nat.zero_le z)
  have tst : T_readFault tby ks ns (nI z) ocn okn gvn fgn = T_readFault_12 (K0 z) tby (nI z) 1000 (nI 0) ks ns (nI 0) (-1) gvn fgn := by
    unfold T_readFault; rfl
  obtain ⟨fu', fg', k1, -, k3⟩ := e5 (K0 z) 1000 ks ns (nI 0) (-1) gvn fgn (by omega)
  by_cases hez : e < z
  · obtain ⟨q, hq, hcase⟩ := reads_loop hz ht 150 e 1000 0 lets prts (by omega) e2 e3 (by omega) (by omega)
    have mst : M_reads text (nI z) spot flt ords lets prts = M_reads_34 (fun m_spot_18 m_isFaulty_19 m_orders_20 m_letters_21 m_parts_22 => if m_isFaulty_19 = 0 then (some (1, m_spot_18, m_isFaulty_19, m_orders_20, m_letters_21, m_parts_22)) else (some (0, m_spot_18, m_isFaulty_19, m_orders_20, m_letters_21, m_parts_22))) text (nI z) 1000 (nI e) 0 (nI 0) lets prts := by
      unfold M_reads
      rw [show M_blanks text (nI z) 0 = some (nI e) from e4, Option.bind_some, if_neg (by rw [n_eq (by omega) (by omega)]; omega)]
      rfl
    rcases hcase with ⟨o', l', p', a1, a2⟩ | ⟨o', l', p', -, b50, b1, a1, a2⟩
    · refine Or.inl ⟨q, 1, o', l', p', hq, ?_, ?_⟩
      · rw [tst, k3]; exact a2 fu' _ _ _ _ k1
      · rw [mst, a1, if_neg one_ne]
    · obtain ⟨ks', ns', gv', fg'', d1, d2⟩ := a2 fu' ks ns gvn fg' k1 (fun i hi => absurd hi (Nat.not_lt_zero i))
      have b1' := b1 hez
      refine Or.inr ⟨o', ks', ns', gv', fg'', l', p', b1', b50, d1, ?_, ?_⟩
      · rw [tst, k3, d2]
        unfold K0
        rw [if_pos rfl, if_neg (by rw [L0, n_le (by omega) (by omega)]; omega)]
      · rw [mst, a1, if_pos rfl]
  · have ee : e = z := by omega
    refine Or.inl ⟨z, 1, 0, lets, prts, Nat.le_refl z, ?_, ?_⟩
    · rw [tst, k3, ee, T_end hz (by omega)]
      unfold K0
      rw [if_pos rfl, if_pos (by decide)]
      exact ⟨_, _, _, _, _, _, rfl⟩
    · unfold M_reads
      rw [show M_blanks text (nI z) 0 = some (nI e) from e4, Option.bind_some, if_pos (by rw [ee]), ee]
      have key : ∀ f K, M_reads_34 K text (nI z) (f + 1) (nI z) 1 0 lets prts = K (nI z) 1 0 lets prts := by
        intro f K; rw [M_reads_34, if_neg one_ne]
      rw [show (1000 : Nat) = 999 + 1 from rfl, key 999, if_neg one_ne]
end READS
theorem bind_eta {α β : Type} (o : Option (α × β)) : Option.bind o (fun x => some (x.1, x.2)) = o := by cases o <;> rfl
section DOES
variable {M : MC} {fi se tr lev li co pa : Nat → Int32} {ic nc pc : Int32} {ufi use utr ulev uli uco upa : Nat → Int32} {uic unc upc : Int32} {fo re le gr lg rows gb : Nat → Int32} {lc rc cc pr al : Int32} {yf ys yt yl yi yo yp : Nat → Nat → Int32} {yn yk yq : Nat → Int32} {yw yz : Int32} {now past : Nat → Int32} {stt : Int32} {x0 xb xn xf : Int32} {ref : Nat → Int32}
/-- one order of the list -/
theorem one_order (hW : WF M) (hc : RCc M fi se tr lev li co pa ic nc pc) (hm : RCm M now) {o i : Nat} (hi : i < o) (ho : o ≤ 50) {ks ns lets prts : FA} (hO : OR_ o ks ns lets prts) :
    (X_orderIsDone fi se tr lev li co pa ic nc pc ks ns (nI i) = some (0, fi, se, tr, lev, li, co, pa, ic, nc, pc) ∧ ∃ ρ now', ¬ (0 : Int32) ≤ ρ ∧ M_doesOrder now lets prts (nI i) = some (ρ, now')) ∨
    (∃ M' fi' se' tr' lev' li' co' pa' ic' nc' pc' now' r, WF M' ∧ RCc M' fi' se' tr' lev' li' co' pa' ic' nc' pc' ∧ RCm M' now' ∧ X_orderIsDone fi se tr lev li co pa ic nc pc ks ns (nI i) = some (1, fi', se', tr', lev', li', co', pa', ic', nc', pc') ∧ (0 : Int32) ≤ r ∧ M_doesOrder now lets prts (nI i) = some (r, now')) := by
  obtain ⟨kd, hk, k1, k2, k3⟩ := hO i hi
  have xst : X_orderIsDone fi se tr lev li co pa ic nc pc ks ns (nI i) = Option.bind (C_refusalOf co ic nc pc (nI kd) (ns (i * 3)) (ns (i * 3 + 1)) (ns (i * 3 + 2))) (fun o9 => if o9 = 0 then (Option.bind (C_perform fi se tr lev li co pa ic nc pc (nI kd) (ns (i * 3)) (ns (i * 3 + 1)) (ns (i * 3 + 2))) (fun o12 => some (1, o12.2.1, o12.2.2.1, o12.2.2.2.1, o12.2.2.2.2.1, o12.2.2.2.2.2.1, o12.2.2.2.2.2.2.1, o12.2.2.2.2.2.2.2.1, o12.2.2.2.2.2.2.2.2.1, o12.2.2.2.2.2.2.2.2.2.1, o12.2.2.2.2.2.2.2.2.2.2))) else (some (0, fi, se, tr, lev, li, co, pa, ic, nc, pc))) := by
    unfold X_orderIsDone T_numberOf
    rw [chk_nI (by omega) (by omega), n_cl (by omega), k1, lt_eq, show nI i * 3 = nI (i * 3) from n_mul i 3, show nI (i * 3) + 0 = nI (i * 3) from n_add (i * 3) 0, show nI (i * 3) + 1 = nI (i * 3 + 1) from n_add (i * 3) 1, show nI (i * 3) + 2 = nI (i * 3 + 2) from n_add (i * 3) 2, chk_nI (by omega) (by omega), Option.bind_some, chk_nI (by omega) (by omega), Option.bind_some, chk_nI (by omega) (by omega), Option.bind_some, n_cl (by omega), n_cl (by omega), n_cl (by omega)]
  have mst : ∃ mo, M_doesOrder now lets prts (nI i) = mo ∧ Ord M fi se tr lev li co pa ic nc pc now (nI kd) (ns (i * 3)) (ns (i * 3 + 1)) (ns (i * 3 + 2)) mo := by
    refine ⟨_, rfl, ?_⟩
    unfold M_doesOrder
    rw [show (3 : Int32) * nI i = nI (i * 3) from by rw [L3, n_mul, Nat.mul_comm], show nI (i * 3) + 1 = nI (i * 3 + 1) from n_add (i * 3) 1, show nI (i * 3) + 2 = nI (i * 3 + 2) from n_add (i * 3) 2, chk_nI (by omega) (by omega), lt_eq, chk_nI (by omega) (by omega), lt_eq, chk_nI (by omega) (by omega), chk_nI (by omega) (by omega), n_cl (by omega), n_cl (by omega), n_cl (by omega), n_cl (by omega), k2, bind_eta, bind_eta, bind_eta, bind_eta, bind_eta, bind_eta]
    rcases (show kd = 0 ∨ kd = 1 ∨ kd = 2 ∨ kd = 3 ∨ kd = 4 ∨ kd = 5 by omega) with rfl | rfl | rfl | rfl | rfl | rfl
    · rw [if_neg (by decide), if_pos (by decide), ← show ns (i * 3) = prts (i * 3) from k3 0 (by decide)]
      exact ord_inputs hW hc hm _ _ _
    · rw [if_pos (by decide), ← show ns (i * 3) = prts (i * 3) from k3 0 (by decide), ← k3 1 (by decide)]
      exact ord_gate hW hc hm _ _ _
    · rw [if_neg (by decide), if_neg (by decide), if_neg (by decide), if_neg (by decide), if_pos (by decide), ← show ns (i * 3) = prts (i * 3) from k3 0 (by decide), ← k3 1 (by decide)]
      exact ord_xor hW hc hm _ _ _
    · rw [if_neg (by decide), if_neg (by decide), if_pos (by decide), ← show ns (i * 3) = prts (i * 3) from k3 0 (by decide), ← k3 1 (by decide), ← k3 2 (by decide)]
      exact ord_mux hW hc hm _ _ _
    · rw [if_neg (by decide), if_neg (by decide), if_neg (by decide), if_pos (by decide), ← show ns (i * 3) = prts (i * 3) from k3 0 (by decide), ← k3 1 (by decide)]
      exact ord_out hW hc hm _ _ _
    · rw [if_neg (by decide), if_neg (by decide), if_neg (by decide), if_neg (by decide), if_neg (by decide), ← show ns (i * 3) = prts (i * 3) from k3 0 (by decide)]
      exact ord_pattern hW hc hm _ _ _
  obtain ⟨mo, m1, m2⟩ := mst
  rcases m2 with ⟨ρ, hρ, r1, r2⟩ | ⟨r, M', fi', se', tr', lev', li', co', pa', ic', nc', pc', now', hr, r0, r1, r2, w1, w2, w3⟩
  · refine Or.inl ⟨?_, ρ, now, ?_, by rw [m1, r2]⟩
    · rw [xst, r1, Option.bind_some]
      rcases hρ with rfl | rfl
      · rw [if_neg (by decide)]
      · rw [if_neg (by decide)]
    · rcases hρ with rfl | rfl <;> decide
  · refine Or.inr ⟨M', fi', se', tr', lev', li', co', pa', ic', nc', pc', now', nI r, w1, w2, w3, ?_, ?_, by rw [m1, r2]⟩
    · rw [xst, r0, Option.bind_some, if_pos rfl, r1, Option.bind_some]
    · rw [L0, n_le (by omega) (by omega)]; omega
end DOES
