section LAWO
variable {p : Program} {l : Launch} {e : Env} {s : State} {m : MethodId} {below : List Frame} {meth : Method} {c : Code} {D : va_G} {cI cC : ClassId} {A : Nat → Prop} {ncl nsl : Nat} {Q : State → Prop} {b L : Nat} {xs : Nat → Int32} {q_x q_c q_s q_w q_h : Nat → Nat} {qs_h : Nat → Nat → Nat} {q_t q_m : Nat → Nat} {ws : va_W}
set_option maxRecDepth 100000 in
set_option maxHeartbeats 4000000 in
theorem l_told (C : Cx p room_1 s m #[Value.ref b] meth c cL_law 4 R_law ret D cI cC A ncl nsl) (hX : va_X b L xs s s.heap) (hbl : b < s.heap.size) (hbA : ¬ A b) {z : Int32} (h1 : vp_in (z + 1) L) (hI : LI cI cC q_x q_c q_s q_w q_h qs_h q_t q_m ws) (k : ∀ ws', LI cI cC q_x q_c q_s q_w q_h qs_h q_t q_m ws' → V p l e room_1 s m #[Value.ref b] below meth c D A 4 ncl nsl Q ws' [(0, .ref b), (1, .ref (q_x 0)), (2, .ref (q_m 0)), (3, .int z)] 835 []) : V p l e room_1 s m #[Value.ref b] below meth c D A 4 ncl nsl Q ws [(0, .ref b), (1, .ref (q_x 0)), (2, .ref (q_m 0)), (3, .int z)] 798 [] := by
  obtain ⟨x0, xb, xn, xf, fi, se, tr, lev, li, co, pa, ic, nc, pc, ufi, use, utr, ulev, uli, uco, upa, uic, unc, upc, fo, re, le, gr, lg, nwn, rows, gb, lc, rc, cc, pr, al, yf, ys, yt, yl, yi, yo, yp, yn, yk, yq, yw, yz, tby, ks, ns, tln, ocn, okn, gvn, fgn, now, aside, past, stt, ref, text, len, tb, al2, rb, rm, fm, lm, gm, wh, ck, nb, dep, spot, flt, ords, lets, prts, hash, rfl, hQ, hF, hT⟩ := hI
  have hyz : yz = stt := by obtain ⟨-, -, -, -, ⟨z1, w1, Hs, -, -, e1, e2, -⟩, -⟩ := hQ; rw [e1, e2]
  have hln : tln = len := by obtain ⟨z1, -, e1, e2, -⟩ := hT; rw [e1, e2]
  subst hyz hln
  obtain ⟨r, xb', xn', xf', ref', e1, e2, hF'⟩ := g_told hF yz tln (xs (Int32.toNatClampNeg (z + 1)))
  refine V_aload_n (pc := 798) C 1 dL_law_798 rfl rfl ?_
  refine V_aload_n (pc := 799) C 0 dL_law_799 rfl rfl ?_
  refine V_iload_n (pc := 800) C 3 dL_law_800 rfl rfl ?_
  refine V_iconst (pc := 801) C dL_law_801 ki_1 ?_
  refine V_iadd (pc := 802) C dL_law_802 ?_
  refine V_sld (pc := 803) C hX hbl hbA h1 dL_law_803 ?_
  refine V_cutVi (pc := 804) (As := [.int (xs (Int32.toNatClampNeg (z + 1)))]) (st := []) (w0 := ((wX q_x q_c q_s q_w q_h q_t x0 xb xn xf) ++ ((wC cI q_c fi se tr lev li co pa ic nc pc) ++ ((wC cI q_s ufi use utr ulev uli uco upa uic unc upc) ++ ((wS cI q_w fo re le gr lg nwn rows gb lc rc cc pr al) ++ ((wH cI cC q_h qs_h yf ys yt yl yi yo yp yn yk yq yw yz) ++ (wT cI q_t tby ks ns tln ocn okn gvn fgn))))))) (wr := (wM cI q_m now aside past yz ref text tln tb al2 rb rm fm lm gm wh ck nb dep spot flt ords lets prts hash)) C (c_X_told (post := fun a => a = (r, xb', xn', xf')) ⟨_, e1, rfl⟩) mk_X4_told wd_547 dL_law_804 0 rfl rfl rfl ⟨Nat.le_of_ble_eq_true rfl, Nat.le_of_ble_eq_true rfl⟩ iX iM iN (cutX rfl rfl) ndN (fun u => joinX rfl rfl) (Nat.le_of_ble_eq_true rfl) rfl (fun r2 u hw => ?_)
  have hw : (r2, u) = (r, xb', xn', xf') := hw
  obtain ⟨hr2, hu2⟩ := Prod.mk.inj hw
  clear hw
  have hu2 := hu2.symm
  subst hr2 hu2
  show V p l e room_1 s m #[Value.ref b] below meth c D A 4 ncl nsl Q (((wX q_x q_c q_s q_w q_h q_t x0 (xb') (xn') (xf')) ++ ((wC cI q_c fi se tr lev li co pa ic nc pc) ++ ((wC cI q_s ufi use utr ulev uli uco upa uic unc upc) ++ ((wS cI q_w fo re le gr lg nwn rows gb lc rc cc pr al) ++ ((wH cI cC q_h qs_h yf ys yt yl yi yo yp yn yk yq yw yz) ++ (wT cI q_t tby ks ns tln ocn okn gvn fgn)))))) ++ (wM cI q_m now aside past yz ref text tln tb al2 rb rm fm lm gm wh ck nb dep spot flt ords lets prts hash)) [(0, .ref b), (1, .ref (q_x 0)), (2, .ref (q_m 0)), (3, .int z)] 807 [.int r2]
  refine V_aload_n (pc := 807) C 2 dL_law_807 rfl rfl ?_
  refine V_aload_n (pc := 808) C 0 dL_law_808 rfl rfl ?_
  refine V_iload_n (pc := 809) C 3 dL_law_809 rfl rfl ?_
  refine V_iconst (pc := 810) C dL_law_810 ki_1 ?_
  refine V_iadd (pc := 811) C dL_law_811 ?_
  refine V_sld (pc := 812) C hX hbl hbA h1 dL_law_812 ?_
  refine V_cutVi (pc := 813) (As := [.int (xs (Int32.toNatClampNeg (z + 1)))]) (st := [.int r2]) (w0 := (wM cI q_m now aside past yz ref text tln tb al2 rb rm fm lm gm wh ck nb dep spot flt ords lets prts hash)) (wr := ((wX q_x q_c q_s q_w q_h q_t x0 (xb') (xn') (xf')) ++ ((wC cI q_c fi se tr lev li co pa ic nc pc) ++ ((wC cI q_s ufi use utr ulev uli uco upa uic unc upc) ++ ((wS cI q_w fo re le gr lg nwn rows gb lc rc cc pr al) ++ ((wH cI cC q_h qs_h yf ys yt yl yi yo yp yn yk yq yw yz) ++ (wT cI q_t tby ks ns tln ocn okn gvn fgn))))))) C (c_M_told (post := fun a => a = (r2, ref')) ⟨_, e2, rfl⟩) mk_X5_told wd_879 dL_law_813 72 rfl rfl rfl ⟨Nat.le_of_ble_eq_true rfl, Nat.le_of_ble_eq_true rfl⟩ iM iX iMM (cutM rfl rfl) ndM (fun u => joinM rfl rfl) (Nat.le_of_ble_eq_true rfl) rfl (fun r3 u hw => ?_)
  have hw : (r3, u) = (r2, ref') := hw
  obtain ⟨hr2, hu2⟩ := Prod.mk.inj hw
  clear hw
  have hu2 := hu2.symm
  subst hr2 hu2
  show V p l e room_1 s m #[Value.ref b] below meth c D A 4 ncl nsl Q (((wX q_x q_c q_s q_w q_h q_t x0 (xb') (xn') (xf')) ++ ((wC cI q_c fi se tr lev li co pa ic nc pc) ++ ((wC cI q_s ufi use utr ulev uli uco upa uic unc upc) ++ ((wS cI q_w fo re le gr lg nwn rows gb lc rc cc pr al) ++ ((wH cI cC q_h qs_h yf ys yt yl yi yo yp yn yk yq yw yz) ++ (wT cI q_t tby ks ns tln ocn okn gvn fgn)))))) ++ (wM cI q_m now aside past yz (ref') text tln tb al2 rb rm fm lm gm wh ck nb dep spot flt ords lets prts hash)) [(0, .ref b), (1, .ref (q_x 0)), (2, .ref (q_m 0)), (3, .int z)] 816 [.int r3, .int r3]
  exact V_icmp_eq (pc := 816) (tgt := 835) C dL_law_816 rfl (fun _ => k _ ⟨x0, xb', xn', xf', fi, se, tr, lev, li, co, pa, ic, nc, pc, ufi, use, utr, ulev, uli, uco, upa, uic, unc, upc, fo, re, le, gr, lg, nwn, rows, gb, lc, rc, cc, pr, al, yf, ys, yt, yl, yi, yo, yp, yn, yk, yq, yw, yz, tby, ks, ns, tln, ocn, okn, gvn, fgn, now, aside, past, yz, ref', text, tln, tb, al2, rb, rm, fm, lm, gm, wh, ck, nb, dep, spot, flt, ords, lets, prts, hash, rfl, hQ, hF', hT⟩) (fun h => absurd rfl h)
end LAWO
