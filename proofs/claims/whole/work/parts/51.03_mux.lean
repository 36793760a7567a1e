section LAWO
variable {p : Program} {l : Launch} {e : Env} {s : State} {m : MethodId} {below : List Frame} {meth : Method} {c : Code} {D : va_G} {cI cC : ClassId} {A : Nat → Prop} {ncl nsl : Nat} {Q : State → Prop} {b L : Nat} {xs : Nat → Int32} {q_x q_c q_s q_w q_h : Nat → Nat} {qs_h : Nat → Nat → Nat} {q_t q_m : Nat → Nat} {ws : va_W}
set_option maxRecDepth 100000 in
set_option maxHeartbeats 4000000 in
theorem l_mux (C : Cx p room_1 s m #[Value.ref b] meth c cL_law 4 R_law ret D cI cC A ncl nsl) (hX : va_X b L xs s s.heap) (hbl : b < s.heap.size) (hbA : ¬ A b) {z : Int32} (h1 : vp_in (z + 1) L) (h2 : vp_in (z + 2) L) (h3 : vp_in (z + 3) L) (hI : LI cI cC q_x q_c q_s q_w q_h qs_h q_t q_m ws) (k : ∀ ws', LI cI cC q_x q_c q_s q_w q_h qs_h q_t q_m ws' → V p l e room_1 s m #[Value.ref b] below meth c D A 4 ncl nsl Q ws' [(0, .ref b), (1, .ref (q_x 0)), (2, .ref (q_m 0)), (3, .int z)] 835 []) : V p l e room_1 s m #[Value.ref b] below meth c D A 4 ncl nsl Q ws [(0, .ref b), (1, .ref (q_x 0)), (2, .ref (q_m 0)), (3, .int z)] 249 [] := by
  obtain ⟨x0, xb, xn, xf, fi, se, tr, lev, li, co, pa, ic, nc, pc, ufi, use, utr, ulev, uli, uco, upa, uic, unc, upc, fo, re, le, gr, lg, nwn, rows, gb, lc, rc, cc, pr, al, yf, ys, yt, yl, yi, yo, yp, yn, yk, yq, yw, yz, tby, ks, ns, tln, ocn, okn, gvn, fgn, now, aside, past, stt, ref, text, len, tb, al2, rb, rm, fm, lm, gm, wh, ck, nb, dep, spot, flt, ords, lets, prts, hash, rfl, hQ, hF, hT⟩ := hI
  obtain ⟨r, x0', xb', xn', xf', fi', se', tr', lev', li', co', pa', ic', nc', pc', yf', ys', yt', yl', yi', yo', yp', yn', yk', yq', yw', yz', now', aside', past', stt', ref', e1, e2, hQ', hF'⟩ := s_mux hQ hF (xs (Int32.toNatClampNeg (z + 1))) (xs (Int32.toNatClampNeg (z + 2))) (xs (Int32.toNatClampNeg (z + 3))) aside
  refine V_aload_n (pc := 249) C 1 dL_law_249 rfl rfl ?_
  refine V_aload_n (pc := 250) C 0 dL_law_250 rfl rfl ?_
  refine V_iload_n (pc := 251) C 3 dL_law_251 rfl rfl ?_
  refine V_iconst (pc := 252) C dL_law_252 ki_1 ?_
  refine V_iadd (pc := 253) C dL_law_253 ?_
  refine V_sld (pc := 254) C hX hbl hbA h1 dL_law_254 ?_
  refine V_aload_n (pc := 255) C 0 dL_law_255 rfl rfl ?_
  refine V_iload_n (pc := 256) C 3 dL_law_256 rfl rfl ?_
  refine V_iconst (pc := 257) C dL_law_257 ki_2 ?_
  refine V_iadd (pc := 258) C dL_law_258 ?_
  refine V_sld (pc := 259) C hX hbl hbA h2 dL_law_259 ?_
  refine V_aload_n (pc := 260) C 0 dL_law_260 rfl rfl ?_
  refine V_iload_n (pc := 261) C 3 dL_law_261 rfl rfl ?_
  refine V_iconst (pc := 262) C dL_law_262 ki_3 ?_
  refine V_iadd (pc := 263) C dL_law_263 ?_
  refine V_sld (pc := 264) C hX hbl hbA h3 dL_law_264 ?_
  refine V_cutVi (pc := 265) (As := [.int (xs (Int32.toNatClampNeg (z + 1))), .int (xs (Int32.toNatClampNeg (z + 2))), .int (xs (Int32.toNatClampNeg (z + 3)))]) (st := []) (w0 := ((wX q_x q_c q_s q_w q_h q_t x0 xb xn xf) ++ ((wC cI q_c fi se tr lev li co pa ic nc pc) ++ ((wC cI q_s ufi use utr ulev uli uco upa uic unc upc) ++ ((wS cI q_w fo re le gr lg nwn rows gb lc rc cc pr al) ++ ((wH cI cC q_h qs_h yf ys yt yl yi yo yp yn yk yq yw yz) ++ (wT cI q_t tby ks ns tln ocn okn gvn fgn))))))) (wr := (wM cI q_m now aside past stt ref text len tb al2 rb rm fm lm gm wh ck nb dep spot flt ords lets prts hash)) C (c_X_mux (post := fun a => a = (r, x0', xb', xn', xf', fi', se', tr', lev', li', co', pa', ic', nc', pc', yf', ys', yt', yl', yi', yo', yp', yn', yk', yq', yw', yz')) ⟨_, e1, rfl⟩) mk_X4_mux wd_262 dL_law_265 0 rfl rfl rfl ⟨Nat.le_of_ble_eq_true rfl, Nat.le_of_ble_eq_true rfl⟩ iX iM iN (cutX rfl rfl) ndN (fun u => joinX rfl rfl) (Nat.le_of_ble_eq_true rfl) rfl (fun r2 u hw => ?_)
  have hw : (r2, u) = (r, x0', xb', xn', xf', fi', se', tr', lev', li', co', pa', ic', nc', pc', yf', ys', yt', yl', yi', yo', yp', yn', yk', yq', yw', yz') := hw
  obtain ⟨hr2, hu2⟩ := Prod.mk.inj hw
  clear hw
  have hu2 := hu2.symm
  subst hr2 hu2
  show V p l e room_1 s m #[Value.ref b] below meth c D A 4 ncl nsl Q (((wX q_x q_c q_s q_w q_h q_t (x0') (xb') (xn') (xf')) ++ ((wC cI q_c (fi') (se') (tr') (lev') (li') (co') (pa') (ic') (nc') (pc')) ++ ((wC cI q_s ufi use utr ulev uli uco upa uic unc upc) ++ ((wS cI q_w fo re le gr lg nwn rows gb lc rc cc pr al) ++ ((wH cI cC q_h qs_h (yf') (ys') (yt') (yl') (yi') (yo') (yp') (yn') (yk') (yq') (yw') (yz')) ++ (wT cI q_t tby ks ns tln ocn okn gvn fgn)))))) ++ (wM cI q_m now aside past stt ref text len tb al2 rb rm fm lm gm wh ck nb dep spot flt ords lets prts hash)) [(0, .ref b), (1, .ref (q_x 0)), (2, .ref (q_m 0)), (3, .int z)] 268 [.int r2]
  refine V_aload_n (pc := 268) C 2 dL_law_268 rfl rfl ?_
  refine V_aload_n (pc := 269) C 0 dL_law_269 rfl rfl ?_
  refine V_iload_n (pc := 270) C 3 dL_law_270 rfl rfl ?_
  refine V_iconst (pc := 271) C dL_law_271 ki_1 ?_
  refine V_iadd (pc := 272) C dL_law_272 ?_
  refine V_sld (pc := 273) C hX hbl hbA h1 dL_law_273 ?_
  refine V_aload_n (pc := 274) C 0 dL_law_274 rfl rfl ?_
  refine V_iload_n (pc := 275) C 3 dL_law_275 rfl rfl ?_
  refine V_iconst (pc := 276) C dL_law_276 ki_2 ?_
  refine V_iadd (pc := 277) C dL_law_277 ?_
  refine V_sld (pc := 278) C hX hbl hbA h2 dL_law_278 ?_
  refine V_aload_n (pc := 279) C 0 dL_law_279 rfl rfl ?_
  refine V_iload_n (pc := 280) C 3 dL_law_280 rfl rfl ?_
  refine V_iconst (pc := 281) C dL_law_281 ki_3 ?_
  refine V_iadd (pc := 282) C dL_law_282 ?_
  refine V_sld (pc := 283) C hX hbl hbA h3 dL_law_283 ?_
  refine V_cutVi (pc := 284) (As := [.int (xs (Int32.toNatClampNeg (z + 1))), .int (xs (Int32.toNatClampNeg (z + 2))), .int (xs (Int32.toNatClampNeg (z + 3)))]) (st := [.int r2]) (w0 := (wM cI q_m now aside past stt ref text len tb al2 rb rm fm lm gm wh ck nb dep spot flt ords lets prts hash)) (wr := ((wX q_x q_c q_s q_w q_h q_t (x0') (xb') (xn') (xf')) ++ ((wC cI q_c (fi') (se') (tr') (lev') (li') (co') (pa') (ic') (nc') (pc')) ++ ((wC cI q_s ufi use utr ulev uli uco upa uic unc upc) ++ ((wS cI q_w fo re le gr lg nwn rows gb lc rc cc pr al) ++ ((wH cI cC q_h qs_h (yf') (ys') (yt') (yl') (yi') (yo') (yp') (yn') (yk') (yq') (yw') (yz')) ++ (wT cI q_t tby ks ns tln ocn okn gvn fgn))))))) C (c_M_mux (post := fun a => a = (r2, now', aside', past', stt', ref')) ⟨_, e2, rfl⟩) mk_X5_mux wd_671 dL_law_284 72 rfl rfl rfl ⟨Nat.le_of_ble_eq_true rfl, Nat.le_of_ble_eq_true rfl⟩ iM iX iMM (cutM rfl rfl) ndM (fun u => joinM rfl rfl) (Nat.le_of_ble_eq_true rfl) rfl (fun r3 u hw => ?_)
  have hw : (r3, u) = (r2, now', aside', past', stt', ref') := hw
  obtain ⟨hr2, hu2⟩ := Prod.mk.inj hw
  clear hw
  have hu2 := hu2.symm
  subst hr2 hu2
  show V p l e room_1 s m #[Value.ref b] below meth c D A 4 ncl nsl Q (((wX q_x q_c q_s q_w q_h q_t (x0') (xb') (xn') (xf')) ++ ((wC cI q_c (fi') (se') (tr') (lev') (li') (co') (pa') (ic') (nc') (pc')) ++ ((wC cI q_s ufi use utr ulev uli uco upa uic unc upc) ++ ((wS cI q_w fo re le gr lg nwn rows gb lc rc cc pr al) ++ ((wH cI cC q_h qs_h (yf') (ys') (yt') (yl') (yi') (yo') (yp') (yn') (yk') (yq') (yw') (yz')) ++ (wT cI q_t tby ks ns tln ocn okn gvn fgn)))))) ++ (wM cI q_m (now') (aside') (past') (stt') (ref') text len tb al2 rb rm fm lm gm wh ck nb dep spot flt ords lets prts hash)) [(0, .ref b), (1, .ref (q_x 0)), (2, .ref (q_m 0)), (3, .int z)] 287 [.int r3, .int r3]
  exact V_icmp_eq (pc := 287) (tgt := 835) C dL_law_287 rfl (fun _ => k _ ⟨x0', xb', xn', xf', fi', se', tr', lev', li', co', pa', ic', nc', pc', ufi, use, utr, ulev, uli, uco, upa, uic, unc, upc, fo, re, le, gr, lg, nwn, rows, gb, lc, rc, cc, pr, al, yf', ys', yt', yl', yi', yo', yp', yn', yk', yq', yw', yz', tby, ks, ns, tln, ocn, okn, gvn, fgn, now', aside', past', stt', ref', text, len, tb, al2, rb, rm, fm, lm, gm, wh, ck, nb, dep, spot, flt, ords, lets, prts, hash, rfl, hQ', hF', hT⟩) (fun h => absurd rfl h)
end LAWO
