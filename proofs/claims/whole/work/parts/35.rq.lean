/-! what both hold; orders and the way back -/
def Sw (M : MC) (fo re le gr lg rows gb : Nat → Int32) (lc rc cc pr al : Int32) : Prop :=
  ∀ now, RCm M now → ∀ (tb : Nat → Int32) (al2 : Int32) (rb : Nat → Int32) (rm : Int32) (fm lm gm wh : Nat → Int32) (ck : Int32), ∃ tb' rb' rm' fm' lm' gm' wh' ck', M_sweeps now tb al2 rb rm fm lm gm wh ck = some (tb', allR (nn M), rb', rm', fm', lm', gm', wh', ck') ∧ Mat M fo re le gr lg rows gb lc rc cc pr al tb' (allR (nn M)) rb' rm' fm' lm' gm' wh' ck'
def RQ (x0 : Int32) (fi se tr lev li co pa : Nat → Int32) (ic nc pc : Int32) (fo re le gr lg rows gb : Nat → Int32) (lc rc cc pr al : Int32) (yf ys yt yl yi yo yp : Nat → Nat → Int32) (yn yk yq : Nat → Int32) (yw yz : Int32) (now past : Nat → Int32) (stt : Int32) : Prop :=
  ∃ M, WF M ∧ RCc M fi se tr lev li co pa ic nc pc ∧ RCm M now ∧ RH yf ys yt yl yi yo yp yn yk yq yw yz past stt ∧ (x0 = 0 → Sw M fo re le gr lg rows gb lc rc cc pr al)
section RQS
variable {M : MC} {fi se tr lev li co pa : Nat → Int32} {ic nc pc : Int32} {fo re le gr lg rows gb : Nat → Int32} {lc rc cc pr al : Int32} {yf ys yt yl yi yo yp : Nat → Nat → Int32} {yn yk yq : Nat → Int32} {yw yz : Int32} {now past : Nat → Int32} {stt : Int32} {x0 xb xn xf : Int32} {ref : Nat → Int32}
theorem order_sim (hQ : RQ x0 fi se tr lev li co pa ic nc pc fo re le gr lg rows gb lc rc cc pr al yf ys yt yl yi yo yp yn yk yq yw yz now past stt) (hF : RF xb xn xf ref) (kd x y z : Int32) {F : (Nat → Int32) → Option (Int32 × (Nat → Int32))} (hO : ∀ M, WF M → RCc M fi se tr lev li co pa ic nc pc → RCm M now → Ord M fi se tr lev li co pa ic nc pc now kd x y z (F now)) (aside : Nat → Int32) :
    ∃ r x0' xb' xn' xf' fi' se' tr' lev' li' co' pa' ic' nc' pc' yf' ys' yt' yl' yi' yo' yp' yn' yk' yq' yw' yz' now' aside' past' stt' ref', X_order x0 xb xn xf fi se tr lev li co pa ic nc pc yf ys yt yl yi yo yp yn yk yq yw yz kd x y z = some (r, x0', xb', xn', xf', fi', se', tr', lev', li', co', pa', ic', nc', pc', yf', ys', yt', yl', yi', yo', yp', yn', yk', yq', yw', yz') ∧ Option.bind (M_laysAside now aside) (fun o1 => Option.bind (F now) (fun o4 => Option.bind (M_answers o1 past stt ref o4.1) (fun o7 => some (o7.1, o4.2, o1, o7.2.1, o7.2.2.1, o7.2.2.2)))) = some (r, now', aside', past', stt', ref') ∧ RQ x0' fi' se' tr' lev' li' co' pa' ic' nc' pc' fo re le gr lg rows gb lc rc cc pr al yf' ys' yt' yl' yi' yo' yp' yn' yk' yq' yw' yz' now' past' stt' ∧ RF xb' xn' xf' ref' := by
  obtain ⟨M, hW, hc, hm, hH, hS⟩ := hQ
  obtain ⟨as', a1, a2⟩ := M_laysAside_eq now aside
  rcases hO M hW hc hm with ⟨ρ, hρ, r1, r2⟩ | ⟨r, M', fi', se', tr', lev', li', co', pa', ic', nc', pc', now', hr, r0, r1, r2, w1, w2, w3⟩
  · rcases hρ with rfl | rfl
    · obtain ⟨xb', xn', xf', ref', b1, b2, b3⟩ := ref_bad hF
      refine ⟨-2, x0, xb', xn', xf', fi, se, tr, lev, li, co, pa, ic, nc, pc, yf, ys, yt, yl, yi, yo, yp, yn, yk, yq, yw, yz, now, as', past, stt, ref', ?_, ?_, ⟨M, hW, hc, hm, hH, hS⟩, b3⟩
      · unfold X_order; rw [r1, Option.bind_some, if_neg (by decide), b1]; rfl
      · unfold M_answers; rw [a1, Option.bind_some, r2, Option.bind_some, if_pos (show (-2 : Int32) < 0 by decide), if_neg (show ¬ (-2 : Int32) = -4 by decide), b2]; rfl
    · obtain ⟨xb', xn', xf', ref', b1, b2, b3⟩ := ref_full hF
      refine ⟨-4, x0, xb', xn', xf', fi, se, tr, lev, li, co, pa, ic, nc, pc, yf, ys, yt, yl, yi, yo, yp, yn, yk, yq, yw, yz, now, as', past, stt, ref', ?_, ?_, ⟨M, hW, hc, hm, hH, hS⟩, b3⟩
      · unfold X_order; rw [r1, Option.bind_some, if_neg (by decide), b1]; rfl
      · unfold M_answers; rw [a1, Option.bind_some, r2, Option.bind_some, if_pos (show (-4 : Int32) < 0 by decide), if_pos rfl, b2]; rfl
  · obtain ⟨yf', ys', yt', yl', yi', yo', yp', yn', yk', yq', yw', yz', past', stt', k1, k2, k3⟩ := keep_sim hH hW hc (RCm_cong hW a2 hm)
    refine ⟨nI r, 1, xb, xn, xf, fi', se', tr', lev', li', co', pa', ic', nc', pc', yf', ys', yt', yl', yi', yo', yp', yn', yk', yq', yw', yz', now', as', past', stt', ref, ?_, ?_, ⟨M', w1, w2, w3, k3, fun h => absurd h one_ne⟩, hF⟩
    · unfold X_order; rw [r0, Option.bind_some, if_pos rfl, k1, Option.bind_some, r1, Option.bind_some]
    · unfold M_answers; rw [a1, Option.bind_some, r2, Option.bind_some, if_neg (nlt0 r (by omega)), k2]; rfl
theorem back_op (hQ : RQ x0 fi se tr lev li co pa ic nc pc fo re le gr lg rows gb lc rc cc pr al yf ys yt yl yi yo yp yn yk yq yw yz now past stt) (hF : RF xb xn xf ref) :
    ∃ r x0' xb' xn' xf' fi' se' tr' lev' li' co' pa' ic' nc' pc' yw' yz' now' stt' ref', X_back x0 xb xn xf fi se tr lev li co pa ic nc pc yf ys yt yl yi yo yp yn yk yq yw yz = some (r, x0', xb', xn', xf', fi', se', tr', lev', li', co', pa', ic', nc', pc', yw', yz') ∧ M_back now past stt ref = some (r, now', stt', ref') ∧ RQ x0' fi' se' tr' lev' li' co' pa' ic' nc' pc' fo re le gr lg rows gb lc rc cc pr al yf ys yt yl yi yo yp yn yk yq yw' yz' now' past stt' ∧ RF xb' xn' xf' ref' := by
  obtain ⟨M, hW, hc, hm, hH, hS⟩ := hQ
  rcases back_sim hH (fi := fi) (se := se) (tr := tr) (le := lev) (li := li) (co := co) (pa := pa) (ic := ic) (nc := nc) (pc := pc) (now := now) (ref := ref) with ⟨h1, h2⟩ | ⟨h0, M', fi', se', tr', lev', li', co', pa', ic', nc', pc', yw', yz', now', k1, k2, w1, w2, w3, k3⟩
  · obtain ⟨xb', xn', xf', ref', b1, b2, b3⟩ := ref_no hF
    refine ⟨-3, x0, xb', xn', xf', fi, se, tr, lev, li, co, pa, ic, nc, pc, yw, yz, now, stt, ref', ?_, ?_, ⟨M, hW, hc, hm, hH, hS⟩, b3⟩
    · unfold X_back; rw [if_pos h1, b1]; rfl
    · unfold M_back; rw [if_pos h2, b2]; rfl
  · refine ⟨yz', 1, xb, xn, xf, fi', se', tr', lev', li', co', pa', ic', nc', pc', yw', yz', now', yz', ref, ?_, k2, ⟨M', w1, w2, w3, k3, fun h => absurd h one_ne⟩, hF⟩
    unfold X_back; rw [if_neg h0, k1]; rfl
end RQS
