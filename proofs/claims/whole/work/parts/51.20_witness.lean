section LAWO
variable {p : Program} {l : Launch} {e : Env} {s : State} {m : MethodId} {below : List Frame} {meth : Method} {c : Code} {D : va_G} {cI cC : ClassId} {A : Nat → Prop} {ncl nsl : Nat} {Q : State → Prop} {b L : Nat} {xs : Nat → Int32} {q_x q_c q_s q_w q_h : Nat → Nat} {qs_h : Nat → Nat → Nat} {q_t q_m : Nat → Nat} {ws : va_W}
set_option maxRecDepth 100000 in
set_option maxHeartbeats 4000000 in
theorem l_witness (C : Cx p room_1 s m #[Value.ref b] meth c cL_law 4 R_law ret D cI cC A ncl nsl) (hX : va_X b L xs s s.heap) (hbl : b < s.heap.size) (hbA : ¬ A b) {z : Int32} (h1 : vp_in (z + 1) L) (hI : LI cI cC q_x q_c q_s q_w q_h qs_h q_t q_m ws) (k : ∀ ws', LI cI cC q_x q_c q_s q_w q_h qs_h q_t q_m ws' → V p l e room_1 s m #[Value.ref b] below meth c D A 4 ncl nsl Q ws' [(0, .ref b), (1, .ref (q_x 0)), (2, .ref (q_m 0)), (3, .int z)] 835 []) : V p l e room_1 s m #[Value.ref b] below meth c D A 4 ncl nsl Q ws [(0, .ref b), (1, .ref (q_x 0)), (2, .ref (q_m 0)), (3, .int z)] 700 [] := by
  obtain ⟨x0, xb, xn, xf, fi, se, tr, lev, li, co, pa, ic, nc, pc, ufi, use, utr, ulev, uli, uco, upa, uic, unc, upc, fo, re, le, gr, lg, nwn, rows, gb, lc, rc, cc, pr, al, yf, ys, yt, yl, yi, yo, yp, yn, yk, yq, yw, yz, tby, ks, ns, tln, ocn, okn, gvn, fgn, now, aside, past, stt, ref, text, len, tb, al2, rb, rm, fm, lm, gm, wh, ck, nb, dep, spot, flt, ords, lets, prts, hash, rfl, hQ, hF, hT⟩ := hI
  obtain ⟨r, x0', xb', xn', xf', fo', re', le', gr', lg', rows', gb', lc', rc', cc', pr', al', ref', tb', al2', e1, e2, hQ', hF'⟩ := s_witness (tb := tb) (al2 := al2) hQ hF (xs (Int32.toNatClampNeg (z + 1)))
  refine V_aload_n (pc := 700) C 1 dL_law_700 rfl rfl ?_
  refine V_aload_n (pc := 701) C 0 dL_law_701 rfl rfl ?_
  refine V_iload_n (pc := 702) C 3 dL_law_702 rfl rfl ?_
  refine V_iconst (pc := 703) C dL_law_703 ki_1 ?_
  refine V_iadd (pc := 704) C dL_law_704 ?_
  refine V_sld (pc := 705) C hX hbl hbA h1 dL_law_705 ?_
  refine V_cutVi (pc := 706) (As := [.int (xs (Int32.toNatClampNeg (z + 1)))]) (st := []) (w0 := ((wX q_x q_c q_s q_w q_h q_t x0 xb xn xf) ++ ((wC cI q_c fi se tr lev li co pa ic nc pc) ++ ((wC cI q_s ufi use utr ulev uli uco upa uic unc upc) ++ ((wS cI q_w fo re le gr lg nwn rows gb lc rc cc pr al) ++ ((wH cI cC q_h qs_h yf ys yt yl yi yo yp yn yk yq yw yz) ++ (wT cI q_t tby ks ns tln ocn okn gvn fgn))))))) (wr := (wM cI q_m now aside past stt ref text len tb al2 rb rm fm lm gm wh ck nb dep spot flt ords lets prts hash)) C (c_X_witness (post := fun a => a = (r, x0', xb', xn', xf', fo', re', le', gr', lg', rows', gb', lc', rc', cc', pr', al')) ⟨_, e1, rfl⟩) mk_X4_witness wd_441 dL_law_706 0 rfl rfl rfl ⟨Nat.le_of_ble_eq_true rfl, Nat.le_of_ble_eq_true rfl⟩ iX iM iN (cutX rfl rfl) ndN (fun u => joinX rfl rfl) (Nat.le_of_ble_eq_true rfl) rfl (fun r2 u hw => ?_)
  have hw : (r2, u) = (r, x0', xb', xn', xf', fo', re', le', gr', lg', rows', gb', lc', rc', cc', pr', al') := hw
  obtain ⟨hr2, hu2⟩ := Prod.mk.inj hw
  clear hw
  have hu2 := hu2.symm
  subst hr2 hu2
  show V p l e room_1 s m #[Value.ref b] below meth c D A 4 ncl nsl Q (((wX q_x q_c q_s q_w q_h q_t (x0') (xb') (xn') (xf')) ++ ((wC cI q_c fi se tr lev li co pa ic nc pc) ++ ((wC cI q_s ufi use utr ulev uli uco upa uic unc upc) ++ ((wS cI q_w (fo') (re') (le') (gr') (lg') nwn (rows') (gb') (lc') (rc') (cc') (pr') (al')) ++ ((wH cI cC q_h qs_h yf ys yt yl yi yo yp yn yk yq yw yz) ++ (wT cI q_t tby ks ns tln ocn okn gvn fgn)))))) ++ (wM cI q_m now aside past stt ref text len tb al2 rb rm fm lm gm wh ck nb dep spot flt ords lets prts hash)) [(0, .ref b), (1, .ref (q_x 0)), (2, .ref (q_m 0)), (3, .int z)] 709 [.int r2]
  refine V_aload_n (pc := 709) C 2 dL_law_709 rfl rfl ?_
  refine V_aload_n (pc := 710) C 0 dL_law_710 rfl rfl ?_
  refine V_iload_n (pc := 711) C 3 dL_law_711 rfl rfl ?_
  refine V_iconst (pc := 712) C dL_law_712 ki_1 ?_
  refine V_iadd (pc := 713) C dL_law_713 ?_
  refine V_sld (pc := 714) C hX hbl hbA h1 dL_law_714 ?_
  refine V_cutVi (pc := 715) (As := [.int (xs (Int32.toNatClampNeg (z + 1)))]) (st := [.int r2]) (w0 := (wM cI q_m now aside past stt ref text len tb al2 rb rm fm lm gm wh ck nb dep spot flt ords lets prts hash)) (wr := ((wX q_x q_c q_s q_w q_h q_t (x0') (xb') (xn') (xf')) ++ ((wC cI q_c fi se tr lev li co pa ic nc pc) ++ ((wC cI q_s ufi use utr ulev uli uco upa uic unc upc) ++ ((wS cI q_w (fo') (re') (le') (gr') (lg') nwn (rows') (gb') (lc') (rc') (cc') (pr') (al')) ++ ((wH cI cC q_h qs_h yf ys yt yl yi yo yp yn yk yq yw yz) ++ (wT cI q_t tby ks ns tln ocn okn gvn fgn))))))) C (c_M_witness (post := fun a => a = (r2, ref', tb', al2')) ⟨_, e2, rfl⟩) mk_X5_witness wd_835 dL_law_715 72 rfl rfl rfl ⟨Nat.le_of_ble_eq_true rfl, Nat.le_of_ble_eq_true rfl⟩ iM iX iMM (cutM rfl rfl) ndM (fun u => joinM rfl rfl) (Nat.le_of_ble_eq_true rfl) rfl (fun r3 u hw => ?_)
  have hw : (r3, u) = (r2, ref', tb', al2') := hw
  obtain ⟨hr2, hu2⟩ := Prod.mk.inj hw
  clear hw
  have hu2 := hu2.symm
  subst hr2 hu2
  show V p l e room_1 s m #[Value.ref b] below meth c D A 4 ncl nsl Q (((wX q_x q_c q_s q_w q_h q_t (x0') (xb') (xn') (xf')) ++ ((wC cI q_c fi se tr lev li co pa ic nc pc) ++ ((wC cI q_s ufi use utr ulev uli uco upa uic unc upc) ++ ((wS cI q_w (fo') (re') (le') (gr') (lg') nwn (rows') (gb') (lc') (rc') (cc') (pr') (al')) ++ ((wH cI cC q_h qs_h yf ys yt yl yi yo yp yn yk yq yw yz) ++ (wT cI q_t tby ks ns tln ocn okn gvn fgn)))))) ++ (wM cI q_m now aside past stt (ref') text len (tb') (al2') rb rm fm lm gm wh ck nb dep spot flt ords lets prts hash)) [(0, .ref b), (1, .ref (q_x 0)), (2, .ref (q_m 0)), (3, .int z)] 718 [.int r3, .int r3]
  exact V_icmp_eq (pc := 718) (tgt := 835) C dL_law_718 rfl (fun _ => k _ ⟨x0', xb', xn', xf', fi, se, tr, lev, li, co, pa, ic, nc, pc, ufi, use, utr, ulev, uli, uco, upa, uic, unc, upc, fo', re', le', gr', lg', nwn, rows', gb', lc', rc', cc', pr', al', yf, ys, yt, yl, yi, yo, yp, yn, yk, yq, yw, yz, tby, ks, ns, tln, ocn, okn, gvn, fgn, now, aside, past, stt, ref', text, len, tb', al2', rb, rm, fm, lm, gm, wh, ck, nb, dep, spot, flt, ords, lets, prts, hash, rfl, hQ', hF', hT⟩) (fun h => absurd rfl h)
end LAWO
