/-! the list of orders is done, by both -/
section DOES2
variable {M : MC} {fi se tr lev li co pa : Nat → Int32} {ic nc pc : Int32} {ufi use utr ulev uli uco upa : Nat → Int32} {uic unc upc : Int32} {fo re le gr lg rows gb : Nat → Int32} {lc rc cc pr al : Int32} {yf ys yt yl yi yo yp : Nat → Nat → Int32} {yn yk yq : Nat → Int32} {yw yz : Int32} {now past : Nat → Int32} {stt : Int32} {x0 xb xn xf : Int32} {ref : Nat → Int32}
theorem copy_eq : C_copyFrom fi se tr lev li co pa ic nc pc ufi use utr ulev uli uco upa uic unc upc = some (va_cpy ufi fi 0 0 48, va_cpy use se 0 0 48, va_cpy utr tr 0 0 48, va_cpy ulev lev 0 0 48, va_cpy uli li 0 0 12, va_cpy uco co 0 0 2, va_cpy upa pa 0 0 12, uic, unc, upc) := rfl
theorem does_loop {o : Nat} (ho : o ≤ 50) {ks ns lets prts aside : FA} (hO : OR_ o ks ns lets prts) {okn gvn fgn sp fl : Int32} : ∀ (m fu i : Nat) (M : MC) (fi se tr lev li co pa : Nat → Int32) (ic nc pc : Int32) (now : Nat → Int32), i + m = o → m < fu → WF M → RCc M fi se tr lev li co pa ic nc pc → RCm M now →
    (∃ M' fi' se' tr' lev' li' co' pa' ic' nc' pc' now', WF M' ∧ RCc M' fi' se' tr' lev' li' co' pa' ic' nc' pc' ∧ RCm M' now' ∧ (∀ K, X_does_31 K x0 ufi use utr ulev uli uco upa uic unc upc yf ys yt yl yi yo yp yn yk yq yw yz ks ns (nI o) okn gvn fgn fu (nI i) fi se tr lev li co pa ic nc pc = K fi' se' tr' lev' li' co' pa' ic' nc' pc') ∧ ∀ K, M_does_21 K aside past stt sp fl (nI o) lets prts fu (nI i) now = Option.bind (M_leaves aside past stt) (fun o2 => some (nI o, now', aside, o2.1, o2.2, sp, fl, nI o, lets, prts))) ∨
    (∃ j fi' se' tr' lev' li' co' pa' ic' nc' pc' now', (∀ K, X_does_31 K x0 ufi use utr ulev uli uco upa uic unc upc yf ys yt yl yi yo yp yn yk yq yw yz ks ns (nI o) okn gvn fgn fu (nI i) fi se tr lev li co pa ic nc pc = Option.bind (C_copyFrom fi' se' tr' lev' li' co' pa' ic' nc' pc' ufi use utr ulev uli uco upa uic unc upc) (fun o17 => some ((-1000 : Int32) - nI j, x0, o17.1, o17.2.1, o17.2.2.1, o17.2.2.2.1, o17.2.2.2.2.1, o17.2.2.2.2.2.1, o17.2.2.2.2.2.2.1, o17.2.2.2.2.2.2.2.1, o17.2.2.2.2.2.2.2.2.1, o17.2.2.2.2.2.2.2.2.2, ufi, use, utr, ulev, uli, uco, upa, uic, unc, upc, yf, ys, yt, yl, yi, yo, yp, yn, yk, yq, yw, yz, ks, ns, nI o, okn, gvn, fgn))) ∧ ∀ K, M_does_21 K aside past stt sp fl (nI o) lets prts fu (nI i) now = K (nI j) now') := by
  intro m
  induction m with
  | zero =>
    intro fu i M fi se tr lev li co pa ic nc pc now hi hf hW hc hm
    obtain ⟨f, rfl⟩ : ∃ f, fu = f + 1 := ⟨fu - 1, by omega⟩
    refine Or.inl ⟨M, fi, se, tr, lev, li, co, pa, ic, nc, pc, now, hW, hc, hm, fun K => ?_, fun K => ?_⟩
    · rw [X_does_31, if_pos (by rw [n_le (by omega) (by omega)]; omega)]
    · rw [M_does_21, if_pos (by rw [n_le (by omega) (by omega)]; omega)]
  | succ m ih =>
    intro fu i M fi se tr lev li co pa ic nc pc now hi hf hW hc hm
    obtain ⟨f, rfl⟩ : ∃ f, fu = f + 1 := ⟨fu - 1, by omega⟩
    rcases one_order hW hc hm (show i < o by omega) ho hO with ⟨a1, ρ, now', a2, a3⟩ | ⟨M', fi', se', tr', lev', li', co', pa', ic', nc', pc', now', r, w1, w2, w3, a1, a2, a3⟩
    · refine Or.inr ⟨i, fi, se, tr, lev, li, co, pa, ic, nc, pc, now', fun K => ?_, fun K => ?_⟩
      · rw [X_does_31, if_neg (by rw [n_le (by omega) (by omega)]; omega), a1, Option.bind_some, if_pos rfl]
      · rw [M_does_21, if_neg (by rw [n_le (by omega) (by omega)]; omega), a3, Option.bind_some, if_neg a2]
    · have hrest := ih f (i + 1) M' fi' se' tr' lev' li' co' pa' ic' nc' pc' now' (by omega) (by omega) w1 w2 w3
      have x1 : ∀ K, X_does_31 K x0 ufi use utr ulev uli uco upa uic unc upc yf ys yt yl yi yo yp yn yk yq yw yz ks ns (nI o) okn gvn fgn (f + 1) (nI i) fi se tr lev li co pa ic nc pc = X_does_31 K x0 ufi use utr ulev uli uco upa uic unc upc yf ys yt yl yi yo yp yn yk yq yw yz ks ns (nI o) okn gvn fgn f (nI (i + 1)) fi' se' tr' lev' li' co' pa' ic' nc' pc' := by
        intro K
        rw [X_does_31, if_neg (by rw [n_le (by omega) (by omega)]; omega), a1, Option.bind_some, if_neg one_ne, lt_eq, nI_1]
      have m1 : ∀ K, M_does_21 K aside past stt sp fl (nI o) lets prts (f + 1) (nI i) now = M_does_21 K aside past stt sp fl (nI o) lets prts f (nI (i + 1)) now' := by
        intro K
        rw [M_does_21, if_neg (by rw [n_le (by omega) (by omega)]; omega), a3, Option.bind_some, if_pos a2, lt_eq, nI_1]
      rcases hrest with ⟨M2, fi2, se2, tr2, lev2, li2, co2, pa2, ic2, nc2, pc2, now2, b1, b2, b3, b4, b5⟩ | ⟨j, fi2, se2, tr2, lev2, li2, co2, pa2, ic2, nc2, pc2, now2, b4, b5⟩
      · exact Or.inl ⟨M2, fi2, se2, tr2, lev2, li2, co2, pa2, ic2, nc2, pc2, now2, b1, b2, b3, fun K => by rw [x1]; exact b4 K, fun K => by rw [m1]; exact b5 K⟩
      · exact Or.inr ⟨j, fi2, se2, tr2, lev2, li2, co2, pa2, ic2, nc2, pc2, now2, fun K => by rw [x1]; exact b4 K, fun K => by rw [m1]; exact b5 K⟩
theorem does_back {aside : FA} {x : Int32} : ∀ (m fuel i : Nat) (f : FA), i + m = 125 → m < fuel → ∃ f', (∀ K, M_does_39 K aside x fuel (nI i) f = K f') ∧ (∀ j, j < i → f' j = f j) ∧ ∀ j, i ≤ j → j < 125 → f' j = aside j := by
  intro m
  induction m with
  | zero =>
    intro fuel i f hi hf
    obtain ⟨n, rfl⟩ : ∃ n, fuel = n + 1 := ⟨fuel - 1, by omega⟩
    refine ⟨f, fun K => ?_, fun _ _ => rfl, fun j a b => by omega⟩
    rw [M_does_39, if_pos (by rw [L125, n_le (by omega) (by omega)]; omega)]
  | succ m ih =>
    intro fuel i f hi hf
    obtain ⟨n, rfl⟩ : ∃ n, fuel = n + 1 := ⟨fuel - 1, by omega⟩
    obtain ⟨f', e, a1, a2⟩ := ih n (i + 1) (upd f i (aside i)) (by omega) (by omega)
    refine ⟨f', fun K => ?_, fun j hj => ?_, fun j j1 j2 => ?_⟩
    · rw [← e K, M_does_39, if_neg (by rw [L125, n_le (by omega) (by omega)]; omega), chk_nI (by omega) (by omega), chk_nI (by omega) (by omega), n_cl (by omega), lt_eq, lt_eq, nI_1]
    · rw [a1 j (by omega), upd_ne (by omega)]
    · by_cases ej : j = i
      · subst ej; rw [a1 j (by omega), upd_same]
      · exact a2 j (by omega) j2
theorem s_does {tby text : FA} {tln len : Int32} (hT : TX tby tln text len) (hQ : RQ x0 fi se tr lev li co pa ic nc pc fo re le gr lg rows gb lc rc cc pr al yf ys yt yl yi yo yp yn yk yq yw yz now past stt) (ks ns : FA) (ocn okn gvn fgn : Int32) (aside : FA) (spot flt ords : Int32) (lets prts : FA) :
    ∃ r x0' fi' se' tr' lev' li' co' pa' ic' nc' pc' ufi' use' utr' ulev' uli' uco' upa' uic' unc' upc' yf' ys' yt' yl' yi' yo' yp' yn' yk' yq' yw' yz' ks' ns' ocn' okn' gvn' fgn' now' aside' past' stt' spot' flt' ords' lets' prts', X_does x0 fi se tr lev li co pa ic nc pc ufi use utr ulev uli uco upa uic unc upc yf ys yt yl yi yo yp yn yk yq yw yz tby ks ns tln ocn okn gvn fgn = some (r, x0', fi', se', tr', lev', li', co', pa', ic', nc', pc', ufi', use', utr', ulev', uli', uco', upa', uic', unc', upc', yf', ys', yt', yl', yi', yo', yp', yn', yk', yq', yw', yz', ks', ns', ocn', okn', gvn', fgn') ∧ M_does now aside past stt text len spot flt ords lets prts = some (r, now', aside', past', stt', spot', flt', ords', lets', prts') ∧ RQ x0' fi' se' tr' lev' li' co' pa' ic' nc' pc' fo re le gr lg rows gb lc rc cc pr al yf' ys' yt' yl' yi' yo' yp' yn' yk' yq' yw' yz' now' past' stt' := by
  have hQ' := hQ
  obtain ⟨z, hz, rfl, rfl, ht⟩ := hT
  obtain ⟨M, hW, hc, hm, hH, hS⟩ := hQ
  rcases reads_sim hz ht ks ns ocn okn gvn fgn spot flt ords lets prts with ⟨q, f', o', l', p', hq, ⟨ks', ns', a1, a2, a3, a4, hcf⟩, hmr⟩ | ⟨o, ks', ns', gv', fg', l', p', h1, h50, hO, hcf, hmr⟩
  · refine ⟨(-10 : Int32) - nI q, x0, fi, se, tr, lev, li, co, pa, ic, nc, pc, ufi, use, utr, ulev, uli, uco, upa, uic, unc, upc, yf, ys, yt, yl, yi, yo, yp, yn, yk, yq, yw, yz, ks', ns', a1, a2, a3, a4, now, aside, past, stt, nI q, f', o', l', p', ?_, ?_, hQ'⟩
    · unfold X_does; rw [hcf, Option.bind_some, if_neg (nI_ne_m1 (by omega))]
    · unfold M_does; rw [hmr, Option.bind_some, if_pos rfl]
  · obtain ⟨as', b1, b2⟩ := M_laysAside_eq now aside
    have hmA := RCm_cong hW b2 hm
    have hcS : RCc M (va_cpy fi ufi 0 0 48) (va_cpy se use 0 0 48) (va_cpy tr utr 0 0 48) (va_cpy lev ulev 0 0 48) (va_cpy li uli 0 0 12) (va_cpy co uco 0 0 2) (va_cpy pa upa 0 0 12) ic nc pc := RCc_cpy hW hc
    have cpS : C_copyFrom ufi use utr ulev uli uco upa uic unc upc fi se tr lev li co pa ic nc pc = some (va_cpy fi ufi 0 0 48, va_cpy se use 0 0 48, va_cpy tr utr 0 0 48, va_cpy lev ulev 0 0 48, va_cpy li uli 0 0 12, va_cpy co uco 0 0 2, va_cpy pa upa 0 0 12, ic, nc, pc) := copy_eq
    generalize va_cpy fi ufi 0 0 48 = ufi' at hcS cpS
    generalize va_cpy se use 0 0 48 = use' at hcS cpS
    generalize va_cpy tr utr 0 0 48 = utr' at hcS cpS
    generalize va_cpy lev ulev 0 0 48 = ulev' at hcS cpS
    generalize va_cpy li uli 0 0 12 = uli' at hcS cpS
    generalize va_cpy co uco 0 0 2 = uco' at hcS cpS
    generalize va_cpy pa upa 0 0 12 = upa' at hcS cpS
    rcases does_loop (x0 := x0) (ufi := ufi') (use := use') (utr := utr') (ulev := ulev') (uli := uli') (uco := uco') (upa := upa') (uic := ic) (unc := nc) (upc := pc) (yf := yf) (ys := ys) (yt := yt) (yl := yl) (yi := yi) (yo := yo) (yp := yp) (yn := yn) (yk := yk) (yq := yq) (yw := yw) (yz := yz) (past := past) (stt := stt) (aside := as') (okn := -1) (gvn := gv') (fgn := fg') (sp := nI z) (fl := nI 0) h50 hO o 1000 0 M fi se tr lev li co pa ic nc pc now (by omega) (by omega) hW hc hm with ⟨M', fi', se', tr', lev', li', co', pa', ic', nc', pc', now', w1, w2, w3, x1, m1⟩ | ⟨j, fi2, se2, tr2, lev2, li2, co2, pa2, ic2, nc2, pc2, now2, x1, m1⟩
    · obtain ⟨yf', ys', yt', yl', yi', yo', yp', yn', yk', yq', yw', yz', past', stt', k1, k2, k3⟩ := keep_sim hH hW hcS hmA
      refine ⟨nI o, 1, fi', se', tr', lev', li', co', pa', ic', nc', pc', ufi', use', utr', ulev', uli', uco', upa', ic, nc, pc, yf', ys', yt', yl', yi', yo', yp', yn', yk', yq', yw', yz', ks', ns', nI o, -1, gv', fg', now', as', past', stt', nI z, 0, nI o, l', p', ?_, ?_, ⟨M', w1, w2, w3, k3, fun h => absurd h one_ne⟩⟩
      · unfold X_does
        rw [hcf, Option.bind_some, if_pos rfl, cpS, Option.bind_some]
        dsimp only
        rw [L0, x1, k1, Option.bind_some]
      · unfold M_does
        rw [hmr, Option.bind_some, if_neg one_ne, b1, Option.bind_some]
        dsimp only
        rw [L0, m1, k2, Option.bind_some]
    · obtain ⟨now3, d1, -, d2⟩ := does_back (aside := as') (x := nI j) 125 1000 0 now2 (by omega) (by omega)
      have hcB : RCc M (va_cpy ufi' fi2 0 0 48) (va_cpy use' se2 0 0 48) (va_cpy utr' tr2 0 0 48) (va_cpy ulev' lev2 0 0 48) (va_cpy uli' li2 0 0 12) (va_cpy uco' co2 0 0 2) (va_cpy upa' pa2 0 0 12) ic nc pc := RCc_cpy hW hcS
      refine ⟨(-1000 : Int32) - nI j, x0, va_cpy ufi' fi2 0 0 48, va_cpy use' se2 0 0 48, va_cpy utr' tr2 0 0 48, va_cpy ulev' lev2 0 0 48, va_cpy uli' li2 0 0 12, va_cpy uco' co2 0 0 2, va_cpy upa' pa2 0 0 12, ic, nc, pc, ufi', use', utr', ulev', uli', uco', upa', ic, nc, pc, yf, ys, yt, yl, yi, yo, yp, yn, yk, yq, yw, yz, ks', ns', nI o, -1, gv', fg', now3, as', past, stt, nI z, 0, nI o, l', p', ?_, ?_, ⟨M, hW, hcB, RCm_cong hW (fun j hj => d2 j (Nat.zero_le j) hj) hmA, hH, hS⟩⟩
      · unfold X_does
        rw [hcf, Option.bind_some, if_pos rfl, cpS, Option.bind_some]
        dsimp only
        rw [L0, x1, copy_eq, Option.bind_some]
      · unfold M_does
        rw [hmr, Option.bind_some, if_neg one_ne, b1, Option.bind_some]
        dsimp only
        rw [L0, m1, d1]
end DOES2
