/-! the law: its cells, its cases -/
def LI (cI cC : ClassId) (q_x q_c q_s q_w q_h : Nat → Nat) (qs_h : Nat → Nat → Nat) (q_t q_m : Nat → Nat) (ws : va_W) : Prop := ∃ (x0 : Int32) (xb : Int32) (xn : Int32) (xf : Int32) (fi : Nat → Int32) (se : Nat → Int32) (tr : Nat → Int32) (lev : Nat → Int32) (li : Nat → Int32) (co : Nat → Int32) (pa : Nat → Int32) (ic : Int32) (nc : Int32) (pc : Int32) (ufi : Nat → Int32) (use : Nat → Int32) (utr : Nat → Int32) (ulev : Nat → Int32) (uli : Nat → Int32) (uco : Nat → Int32) (upa : Nat → Int32) (uic : Int32) (unc : Int32) (upc : Int32) (fo : Nat → Int32) (re : Nat → Int32) (le : Nat → Int32) (gr : Nat → Int32) (lg : Nat → Int32) (nwn : Nat → Int32) (rows : Nat → Int32) (gb : Nat → Int32) (lc : Int32) (rc : Int32) (cc : Int32) (pr : Int32) (al : Int32) (yf : Nat → Nat → Int32) (ys : Nat → Nat → Int32) (yt : Nat → Nat → Int32) (yl : Nat → Nat → Int32) (yi : Nat → Nat → Int32) (yo : Nat → Nat → Int32) (yp : Nat → Nat → Int32) (yn : Nat → Int32) (yk : Nat → Int32) (yq : Nat → Int32) (yw : Int32) (yz : Int32) (tby : Nat → Int32) (ks : Nat → Int32) (ns : Nat → Int32) (tln : Int32) (ocn : Int32) (okn : Int32) (gvn : Int32) (fgn : Int32) (now : Nat → Int32) (aside : Nat → Int32) (past : Nat → Int32) (stt : Int32) (ref : Nat → Int32) (text : Nat → Int32) (len : Int32) (tb : Nat → Int32) (al2 : Int32) (rb : Nat → Int32) (rm : Int32) (fm : Nat → Int32) (lm : Nat → Int32) (gm : Nat → Int32) (wh : Nat → Int32) (ck : Int32) (nb : Nat → Int32) (dep : Nat → Int32) (spot : Int32) (flt : Int32) (ords : Int32) (lets : Nat → Int32) (prts : Nat → Int32) (hash : Int64), ws = ((wX q_x q_c q_s q_w q_h q_t x0 xb xn xf) ++ ((wC cI q_c fi se tr lev li co pa ic nc pc) ++ ((wC cI q_s ufi use utr ulev uli uco upa uic unc upc) ++ ((wS cI q_w fo re le gr lg nwn rows gb lc rc cc pr al) ++ ((wH cI cC q_h qs_h yf ys yt yl yi yo yp yn yk yq yw yz) ++ (wT cI q_t tby ks ns tln ocn okn gvn fgn)))))) ++ (wM cI q_m now aside past stt ref text len tb al2 rb rm fm lm gm wh ck nb dep spot flt ords lets prts hash) ∧ RQ x0 fi se tr lev li co pa ic nc pc fo re le gr lg rows gb lc rc cc pr al yf ys yt yl yi yo yp yn yk yq yw yz now past stt ∧ RF xb xn xf ref ∧ TX tby tln text len
theorem rng_map (A B : va_W) {n : Nat} (hA : A.length = n) : (List.range n).map (fun i => (A ++ B)[i]?) = A.map some := by
  apply List.ext_getElem?
  intro j
  rw [List.getElem?_map, List.getElem?_map]
  by_cases h : j < n
  · rw [List.getElem?_range h, List.getElem?_eq_getElem (by omega)]
    simp only [Option.map_some]
    rw [List.getElem?_append_left (by omega), List.getElem?_eq_getElem (by omega)]
  · rw [List.getElem?_eq_none (by simp; omega), List.getElem?_eq_none (by omega)]; rfl
theorem rng_map2 (A B : va_W) {n m : Nat} (hA : A.length = n) (hB : B.length = m) : ((List.range m).map (fun i => n + i)).map (fun i => (A ++ B)[i]?) = B.map some := by
  apply List.ext_getElem?
  intro j
  rw [List.map_map, List.getElem?_map, List.getElem?_map]
  by_cases h : j < m
  · rw [List.getElem?_range h, List.getElem?_eq_getElem (by omega)]
    simp only [Option.map_some, Function.comp]
    rw [List.getElem?_append_right (by omega), show n + j - A.length = j by omega, List.getElem?_eq_getElem (by omega)]
  · rw [List.getElem?_eq_none (by simp; omega), List.getElem?_eq_none (by omega)]; rfl
abbrev iX : List Nat := List.range 72
abbrev iM : List Nat := (List.range 16).map (fun i => 72 + i)
abbrev iN : List Nat := (List.range 72).map (fun i => 16 + i) ++ List.range 16
theorem cutX {A B : va_W} (hA : A.length = 72) (hB : B.length = 16) : Cut (A ++ B) A B iX iM := ⟨rng_map A B hA, rng_map2 A B hA hB, by decide +kernel, by decide +kernel, by decide +kernel⟩
theorem cutM {A B : va_W} (hA : A.length = 72) (hB : B.length = 16) : Cut (A ++ B) B A iM iX := ⟨rng_map2 A B hA hB, rng_map A B hA, by decide +kernel, by decide +kernel, by decide +kernel⟩
theorem ndN : va_nd iN = true := by decide +kernel
theorem joinX {A B : va_W} (hA : A.length = 72) (hB : B.length = 16) : iN.map (fun i => (B ++ A)[i]?) = (A ++ B).map some := by
  rw [List.map_append, List.map_append, rng_map2 B A hB hA, rng_map B A hB]
abbrev iMM : List Nat := List.range 88
theorem ndM : va_nd iMM = true := by decide +kernel
theorem joinM {A B : va_W} (hA : A.length = 72) (hB : B.length = 16) : iMM.map (fun i => (A ++ B)[i]?) = (A ++ B).map some := by
  have := rng_map (A ++ B) [] (n := 88) (by rw [List.length_append, hA, hB])
  rw [List.append_nil] at this
  exact this
section LAWC
variable {p : Program} {l : Launch} {e : Env} {R : Room} {s : State} {m : MethodId} {args : Array Value} {below : List Frame} {meth : Method} {c : Code} {cc : ByteArray} {nL : Nat} {own : String} {ret : Option FieldType} {D : va_G} {cI cC : ClassId} {A : Nat → Prop} {kc ks : Nat} {Q : State → Prop} {ws : va_W} {lv : List (Nat × Value)} {pc : Nat} {st : List Value}
theorem V_sld (C : Cx p R s m args meth c cc nL own ret D cI cC A kc ks) {b L : Nat} {xs : Nat → Int32} (hX : va_X b L xs s s.heap) (hbl : b < s.heap.size) (hbA : ¬ A b) {i : Int32} (hin : vp_in i L) (d : decode cc pc = .ok (.iaload, 1)) (k : V p l e R s m args below meth c D A nL kc ks Q ws lv (pc + 1) (.int (xs i.toNatClampNeg) :: st)) : V p l e R s m args below meth c D A nL kc ks Q ws lv pc (.int i :: .ref b :: st) :=
  fun H locs ls hP hD hS hl => va_sld C.1 C.2.1 hX hbl hbA hS hin d (k H locs ls hP hD hS hl)
theorem V_slen (C : Cx p R s m args meth c cc nL own ret D cI cC A kc ks) {b L : Nat} {xs : Nat → Int32} (hX : va_X b L xs s s.heap) (hbl : b < s.heap.size) (hbA : ¬ A b) (d : decode cc pc = .ok (.arraylength, 1)) (k : V p l e R s m args below meth c D A nL kc ks Q ws lv (pc + 1) (.int (Int32.ofNat L) :: st)) : V p l e R s m args below meth c D A nL kc ks Q ws lv pc (.ref b :: st) :=
  fun H locs ls hP hD hS hl => va_slen C.1 C.2.1 hX hbl hbA hS d (k H locs ls hP hD hS hl)
end LAWC
section LAWO
variable {p : Program} {l : Launch} {e : Env} {s : State} {m : MethodId} {below : List Frame} {meth : Method} {c : Code} {D : va_G} {cI cC : ClassId} {A : Nat → Prop} {kc ks : Nat} {Q : State → Prop} {b L : Nat} {xs : Nat → Int32} {q_x q_c q_s q_w q_h : Nat → Nat} {qs_h : Nat → Nat → Nat} {q_t q_m : Nat → Nat} {ws : va_W}
set_option maxRecDepth 100000 in
set_option maxHeartbeats 4000000 in
theorem l_inputs (C : Cx p room_1 s m #[Value.ref b] meth c cL_law 4 R_law ret D cI cC A kc ks) (hX : va_X b L xs s s.heap) (hbl : b < s.heap.size) (hbA : ¬ A b) {z : Int32} (h1 : vp_in (z + 1) L) (hI : LI cI cC q_x q_c q_s q_w q_h qs_h q_t q_m ws) (k : ∀ ws', LI cI cC q_x q_c q_s q_w q_h qs_h q_t q_m ws' → V p l e room_1 s m #[Value.ref b] below meth c D A 4 kc ks Q ws' [(0, .ref b), (1, .ref (q_x 0)), (2, .ref (q_m 0)), (3, .int z)] 835 []) : V p l e room_1 s m #[Value.ref b] below meth c D A 4 kc ks Q ws [(0, .ref b), (1, .ref (q_x 0)), (2, .ref (q_m 0)), (3, .int z)] 160 [] := by
  obtain ⟨x0, xb, xn, xf, fi, se, tr, lev, li, co, pa, ic, nc, pc, ufi, use, utr, ulev, uli, uco, upa, uic, unc, upc, fo, re, le, gr, lg, nwn, rows, gb, lc, rc, cc, pr, al, yf, ys, yt, yl, yi, yo, yp, yn, yk, yq, yw, yz, tby, ks, ns, tln, ocn, okn, gvn, fgn, now, aside, past, stt, ref, text, len, tb, al2, rb, rm, fm, lm, gm, wh, ck, nb, dep, spot, flt, ords, lets, prts, hash, rfl, hQ, hF, hT⟩ := hI
  obtain ⟨r, x0', xb', xn', xf', fi', se', tr', lev', li', co', pa', ic', nc', pc', yf', ys', yt', yl', yi', yo', yp', yn', yk', yq', yw', yz', now', aside', past', stt', ref', e1, e2, hQ', hF'⟩ := s_inputs hQ hF (xs (Int32.toNatClampNeg (z + 1))) aside
  refine V_aload_n (pc := 160) C 1 dL_law_160 rfl rfl ?_
  refine V_aload_n (pc := 161) C 0 dL_law_161 rfl rfl ?_
  refine V_iload_n (pc := 162) C 3 dL_law_162 rfl rfl ?_
  refine V_iconst (pc := 163) C dL_law_163 ki_1 ?_
  refine V_iadd (pc := 164) C dL_law_164 ?_
  refine V_sld (pc := 165) C hX hbl hbA h1 dL_law_165 ?_
  refine V_cutVi (pc := 166) (As := [.int (xs (Int32.toNatClampNeg (z + 1)))]) (st := []) (wr := (wM cI q_m now aside past stt ref text len tb al2 rb rm fm lm gm wh ck nb dep spot flt ords lets prts hash)) C (c_X_inputs (post := fun a => a = (r, x0', xb', xn', xf', fi', se', tr', lev', li', co', pa', ic', nc', pc', yf', ys', yt', yl', yi', yo', yp', yn', yk', yq', yw', yz')) ⟨_, e1, rfl⟩) mk_X4_inputs wd_175 dL_law_166 0 rfl rfl rfl ⟨Nat.le_of_ble_eq_true rfl, Nat.le_of_ble_eq_true rfl⟩ iX iM iN (cutX rfl rfl) ndN (fun u => joinX rfl rfl) (Nat.le_of_ble_eq_true rfl) rfl (fun r2 u hw => ?_)
  have hw : (r2, u) = (r, x0', xb', xn', xf', fi', se', tr', lev', li', co', pa', ic', nc', pc', yf', ys', yt', yl', yi', yo', yp', yn', yk', yq', yw', yz') := hw
  obtain ⟨rfl, rfl⟩ := Prod.mk.inj hw
  clear hw
  show V p l e room_1 s m #[Value.ref b] below meth c D A 4 kc ks Q (((wX q_x q_c q_s q_w q_h q_t (x0') (xb') (xn') (xf')) ++ ((wC cI q_c (fi') (se') (tr') (lev') (li') (co') (pa') (ic') (nc') (pc')) ++ ((wC cI q_s ufi use utr ulev uli uco upa uic unc upc) ++ ((wS cI q_w fo re le gr lg nwn rows gb lc rc cc pr al) ++ ((wH cI cC q_h qs_h (yf') (ys') (yt') (yl') (yi') (yo') (yp') (yn') (yk') (yq') (yw') (yz')) ++ (wT cI q_t tby ks ns tln ocn okn gvn fgn)))))) ++ (wM cI q_m now aside past stt ref text len tb al2 rb rm fm lm gm wh ck nb dep spot flt ords lets prts hash)) [(0, .ref b), (1, .ref (q_x 0)), (2, .ref (q_m 0)), (3, .int z)] 169 [.int r2]
  refine V_aload_n (pc := 169) C 2 dL_law_169 rfl rfl ?_
  refine V_aload_n (pc := 170) C 0 dL_law_170 rfl rfl ?_
  refine V_iload_n (pc := 171) C 3 dL_law_171 rfl rfl ?_
  refine V_iconst (pc := 172) C dL_law_172 ki_1 ?_
  refine V_iadd (pc := 173) C dL_law_173 ?_
  refine V_sld (pc := 174) C hX hbl hbA h1 dL_law_174 ?_
  refine V_cutVi (pc := 175) (As := [.int (xs (Int32.toNatClampNeg (z + 1)))]) (st := [.int r2]) (wr := ((wX q_x q_c q_s q_w q_h q_t (x0') (xb') (xn') (xf')) ++ ((wC cI q_c (fi') (se') (tr') (lev') (li') (co') (pa') (ic') (nc') (pc')) ++ ((wC cI q_s ufi use utr ulev uli uco upa uic unc upc) ++ ((wS cI q_w fo re le gr lg nwn rows gb lc rc cc pr al) ++ ((wH cI cC q_h qs_h (yf') (ys') (yt') (yl') (yi') (yo') (yp') (yn') (yk') (yq') (yw') (yz')) ++ (wT cI q_t tby ks ns tln ocn okn gvn fgn))))))) C (c_M_inputs (post := fun a => a = (r2, now', aside', past', stt', ref')) ⟨_, e2, rfl⟩) mk_X5_inputs wd_620 dL_law_175 72 rfl rfl rfl ⟨Nat.le_of_ble_eq_true rfl, Nat.le_of_ble_eq_true rfl⟩ iM iX iMM (cutM rfl rfl) ndM (fun u => joinM rfl rfl) (Nat.le_of_ble_eq_true rfl) rfl (fun r3 u hw => ?_)
  have hw : (r3, u) = (r2, now', aside', past', stt', ref') := hw
  obtain ⟨rfl, rfl⟩ := Prod.mk.inj hw
  clear hw
  show V p l e room_1 s m #[Value.ref b] below meth c D A 4 kc ks Q (((wX q_x q_c q_s q_w q_h q_t (x0') (xb') (xn') (xf')) ++ ((wC cI q_c (fi') (se') (tr') (lev') (li') (co') (pa') (ic') (nc') (pc')) ++ ((wC cI q_s ufi use utr ulev uli uco upa uic unc upc) ++ ((wS cI q_w fo re le gr lg nwn rows gb lc rc cc pr al) ++ ((wH cI cC q_h qs_h (yf') (ys') (yt') (yl') (yi') (yo') (yp') (yn') (yk') (yq') (yw') (yz')) ++ (wT cI q_t tby ks ns tln ocn okn gvn fgn)))))) ++ (wM cI q_m (now') (aside') (past') (stt') (ref') text len tb al2 rb rm fm lm gm wh ck nb dep spot flt ords lets prts hash)) [(0, .ref b), (1, .ref (q_x 0)), (2, .ref (q_m 0)), (3, .int z)] 178 [.int r3, .int r3]
  exact V_icmp_eq (pc := 178) (tgt := 835) C dL_law_178 rfl (fun _ => k _ ⟨x0', xb', xn', xf', fi', se', tr', lev', li', co', pa', ic', nc', pc', ufi, use, utr, ulev, uli, uco, upa, uic, unc, upc, fo, re, le, gr, lg, nwn, rows, gb, lc, rc, cc, pr, al, yf', ys', yt', yl', yi', yo', yp', yn', yk', yq', yw', yz', tby, ks, ns, tln, ocn, okn, gvn, fgn, now', aside', past', stt', ref', text, len, tb, al2, rb, rm, fm, lm, gm, wh, ck, nb, dep, spot, flt, ords, lets, prts, hash, rfl, hQ', hF', hT⟩) (fun h => absurd rfl h)
set_option maxRecDepth 100000 in
set_option maxHeartbeats 4000000 in
theorem l_gate (C : Cx p room_1 s m #[Value.ref b] meth c cL_law 4 R_law ret D cI cC A kc ks) (hX : va_X b L xs s s.heap) (hbl : b < s.heap.size) (hbA : ¬ A b) {z : Int32} (h1 : vp_in (z + 1) L) (h2 : vp_in (z + 2) L) (hI : LI cI cC q_x q_c q_s q_w q_h qs_h q_t q_m ws) (k : ∀ ws', LI cI cC q_x q_c q_s q_w q_h qs_h q_t q_m ws' → V p l e room_1 s m #[Value.ref b] below meth c D A 4 kc ks Q ws' [(0, .ref b), (1, .ref (q_x 0)), (2, .ref (q_m 0)), (3, .int z)] 835 []) : V p l e room_1 s m #[Value.ref b] below meth c D A 4 kc ks Q ws [(0, .ref b), (1, .ref (q_x 0)), (2, .ref (q_m 0)), (3, .int z)] 183 [] := by
  obtain ⟨x0, xb, xn, xf, fi, se, tr, lev, li, co, pa, ic, nc, pc, ufi, use, utr, ulev, uli, uco, upa, uic, unc, upc, fo, re, le, gr, lg, nwn, rows, gb, lc, rc, cc, pr, al, yf, ys, yt, yl, yi, yo, yp, yn, yk, yq, yw, yz, tby, ks, ns, tln, ocn, okn, gvn, fgn, now, aside, past, stt, ref, text, len, tb, al2, rb, rm, fm, lm, gm, wh, ck, nb, dep, spot, flt, ords, lets, prts, hash, rfl, hQ, hF, hT⟩ := hI
  obtain ⟨r, x0', xb', xn', xf', fi', se', tr', lev', li', co', pa', ic', nc', pc', yf', ys', yt', yl', yi', yo', yp', yn', yk', yq', yw', yz', now', aside', past', stt', ref', e1, e2, hQ', hF'⟩ := s_gate hQ hF (xs (Int32.toNatClampNeg (z + 1))) (xs (Int32.toNatClampNeg (z + 2))) aside
  refine V_aload_n (pc := 183) C 1 dL_law_183 rfl rfl ?_
  refine V_aload_n (pc := 184) C 0 dL_law_184 rfl rfl ?_
  refine V_iload_n (pc := 185) C 3 dL_law_185 rfl rfl ?_
  refine V_iconst (pc := 186) C dL_law_186 ki_1 ?_
  refine V_iadd (pc := 187) C dL_law_187 ?_
  refine V_sld (pc := 188) C hX hbl hbA h1 dL_law_188 ?_
  refine V_aload_n (pc := 189) C 0 dL_law_189 rfl rfl ?_
  refine V_iload_n (pc := 190) C 3 dL_law_190 rfl rfl ?_
  refine V_iconst (pc := 191) C dL_law_191 ki_2 ?_
  refine V_iadd (pc := 192) C dL_law_192 ?_
  refine V_sld (pc := 193) C hX hbl hbA h2 dL_law_193 ?_
  refine V_cutVi (pc := 194) (As := [.int (xs (Int32.toNatClampNeg (z + 1))), .int (xs (Int32.toNatClampNeg (z + 2)))]) (st := []) (wr := (wM cI q_m now aside past stt ref text len tb al2 rb rm fm lm gm wh ck nb dep spot flt ords lets prts hash)) C (c_X_gate (post := fun a => a = (r, x0', xb', xn', xf', fi', se', tr', lev', li', co', pa', ic', nc', pc', yf', ys', yt', yl', yi', yo', yp', yn', yk', yq', yw', yz')) ⟨_, e1, rfl⟩) mk_X4_gate wd_254 dL_law_194 0 rfl rfl rfl ⟨Nat.le_of_ble_eq_true rfl, Nat.le_of_ble_eq_true rfl⟩ iX iM iN (cutX rfl rfl) ndN (fun u => joinX rfl rfl) (Nat.le_of_ble_eq_true rfl) rfl (fun r2 u hw => ?_)
  have hw : (r2, u) = (r, x0', xb', xn', xf', fi', se', tr', lev', li', co', pa', ic', nc', pc', yf', ys', yt', yl', yi', yo', yp', yn', yk', yq', yw', yz') := hw
  obtain ⟨rfl, rfl⟩ := Prod.mk.inj hw
  clear hw
  show V p l e room_1 s m #[Value.ref b] below meth c D A 4 kc ks Q (((wX q_x q_c q_s q_w q_h q_t (x0') (xb') (xn') (xf')) ++ ((wC cI q_c (fi') (se') (tr') (lev') (li') (co') (pa') (ic') (nc') (pc')) ++ ((wC cI q_s ufi use utr ulev uli uco upa uic unc upc) ++ ((wS cI q_w fo re le gr lg nwn rows gb lc rc cc pr al) ++ ((wH cI cC q_h qs_h (yf') (ys') (yt') (yl') (yi') (yo') (yp') (yn') (yk') (yq') (yw') (yz')) ++ (wT cI q_t tby ks ns tln ocn okn gvn fgn)))))) ++ (wM cI q_m now aside past stt ref text len tb al2 rb rm fm lm gm wh ck nb dep spot flt ords lets prts hash)) [(0, .ref b), (1, .ref (q_x 0)), (2, .ref (q_m 0)), (3, .int z)] 197 [.int r2]
  refine V_aload_n (pc := 197) C 2 dL_law_197 rfl rfl ?_
  refine V_aload_n (pc := 198) C 0 dL_law_198 rfl rfl ?_
  refine V_iload_n (pc := 199) C 3 dL_law_199 rfl rfl ?_
  refine V_iconst (pc := 200) C dL_law_200 ki_1 ?_
  refine V_iadd (pc := 201) C dL_law_201 ?_
  refine V_sld (pc := 202) C hX hbl hbA h1 dL_law_202 ?_
  refine V_aload_n (pc := 203) C 0 dL_law_203 rfl rfl ?_
  refine V_iload_n (pc := 204) C 3 dL_law_204 rfl rfl ?_
  refine V_iconst (pc := 205) C dL_law_205 ki_2 ?_
  refine V_iadd (pc := 206) C dL_law_206 ?_
  refine V_sld (pc := 207) C hX hbl hbA h2 dL_law_207 ?_
  refine V_cutVi (pc := 208) (As := [.int (xs (Int32.toNatClampNeg (z + 1))), .int (xs (Int32.toNatClampNeg (z + 2)))]) (st := [.int r2]) (wr := ((wX q_x q_c q_s q_w q_h q_t (x0') (xb') (xn') (xf')) ++ ((wC cI q_c (fi') (se') (tr') (lev') (li') (co') (pa') (ic') (nc') (pc')) ++ ((wC cI q_s ufi use utr ulev uli uco upa uic unc upc) ++ ((wS cI q_w fo re le gr lg nwn rows gb lc rc cc pr al) ++ ((wH cI cC q_h qs_h (yf') (ys') (yt') (yl') (yi') (yo') (yp') (yn') (yk') (yq') (yw') (yz')) ++ (wT cI q_t tby ks ns tln ocn okn gvn fgn))))))) C (c_M_gate (post := fun a => a = (r2, now', aside', past', stt', ref')) ⟨_, e2, rfl⟩) mk_X5_gate wd_645 dL_law_208 72 rfl rfl rfl ⟨Nat.le_of_ble_eq_true rfl, Nat.le_of_ble_eq_true rfl⟩ iM iX iMM (cutM rfl rfl) ndM (fun u => joinM rfl rfl) (Nat.le_of_ble_eq_true rfl) rfl (fun r3 u hw => ?_)
  have hw : (r3, u) = (r2, now', aside', past', stt', ref') := hw
  obtain ⟨rfl, rfl⟩ := Prod.mk.inj hw
  clear hw
  show V p l e room_1 s m #[Value.ref b] below meth c D A 4 kc ks Q (((wX q_x q_c q_s q_w q_h q_t (x0') (xb') (xn') (xf')) ++ ((wC cI q_c (fi') (se') (tr') (lev') (li') (co') (pa') (ic') (nc') (pc')) ++ ((wC cI q_s ufi use utr ulev uli uco upa uic unc upc) ++ ((wS cI q_w fo re le gr lg nwn rows gb lc rc cc pr al) ++ ((wH cI cC q_h qs_h (yf') (ys') (yt') (yl') (yi') (yo') (yp') (yn') (yk') (yq') (yw') (yz')) ++ (wT cI q_t tby ks ns tln ocn okn gvn fgn)))))) ++ (wM cI q_m (now') (aside') (past') (stt') (ref') text len tb al2 rb rm fm lm gm wh ck nb dep spot flt ords lets prts hash)) [(0, .ref b), (1, .ref (q_x 0)), (2, .ref (q_m 0)), (3, .int z)] 211 [.int r3, .int r3]
  exact V_icmp_eq (pc := 211) (tgt := 835) C dL_law_211 rfl (fun _ => k _ ⟨x0', xb', xn', xf', fi', se', tr', lev', li', co', pa', ic', nc', pc', ufi, use, utr, ulev, uli, uco, upa, uic, unc, upc, fo, re, le, gr, lg, nwn, rows, gb, lc, rc, cc, pr, al, yf', ys', yt', yl', yi', yo', yp', yn', yk', yq', yw', yz', tby, ks, ns, tln, ocn, okn, gvn, fgn, now', aside', past', stt', ref', text, len, tb, al2, rb, rm, fm, lm, gm, wh, ck, nb, dep, spot, flt, ords, lets, prts, hash, rfl, hQ', hF', hT⟩) (fun h => absurd rfl h)
set_option maxRecDepth 100000 in
set_option maxHeartbeats 4000000 in
theorem l_xor (C : Cx p room_1 s m #[Value.ref b] meth c cL_law 4 R_law ret D cI cC A kc ks) (hX : va_X b L xs s s.heap) (hbl : b < s.heap.size) (hbA : ¬ A b) {z : Int32} (h1 : vp_in (z + 1) L) (h2 : vp_in (z + 2) L) (hI : LI cI cC q_x q_c q_s q_w q_h qs_h q_t q_m ws) (k : ∀ ws', LI cI cC q_x q_c q_s q_w q_h qs_h q_t q_m ws' → V p l e room_1 s m #[Value.ref b] below meth c D A 4 kc ks Q ws' [(0, .ref b), (1, .ref (q_x 0)), (2, .ref (q_m 0)), (3, .int z)] 835 []) : V p l e room_1 s m #[Value.ref b] below meth c D A 4 kc ks Q ws [(0, .ref b), (1, .ref (q_x 0)), (2, .ref (q_m 0)), (3, .int z)] 216 [] := by
  obtain ⟨x0, xb, xn, xf, fi, se, tr, lev, li, co, pa, ic, nc, pc, ufi, use, utr, ulev, uli, uco, upa, uic, unc, upc, fo, re, le, gr, lg, nwn, rows, gb, lc, rc, cc, pr, al, yf, ys, yt, yl, yi, yo, yp, yn, yk, yq, yw, yz, tby, ks, ns, tln, ocn, okn, gvn, fgn, now, aside, past, stt, ref, text, len, tb, al2, rb, rm, fm, lm, gm, wh, ck, nb, dep, spot, flt, ords, lets, prts, hash, rfl, hQ, hF, hT⟩ := hI
  obtain ⟨r, x0', xb', xn', xf', fi', se', tr', lev', li', co', pa', ic', nc', pc', yf', ys', yt', yl', yi', yo', yp', yn', yk', yq', yw', yz', now', aside', past', stt', ref', e1, e2, hQ', hF'⟩ := s_xor hQ hF (xs (Int32.toNatClampNeg (z + 1))) (xs (Int32.toNatClampNeg (z + 2))) aside
  refine V_aload_n (pc := 216) C 1 dL_law_216 rfl rfl ?_
  refine V_aload_n (pc := 217) C 0 dL_law_217 rfl rfl ?_
  refine V_iload_n (pc := 218) C 3 dL_law_218 rfl rfl ?_
  refine V_iconst (pc := 219) C dL_law_219 ki_1 ?_
  refine V_iadd (pc := 220) C dL_law_220 ?_
  refine V_sld (pc := 221) C hX hbl hbA h1 dL_law_221 ?_
  refine V_aload_n (pc := 222) C 0 dL_law_222 rfl rfl ?_
  refine V_iload_n (pc := 223) C 3 dL_law_223 rfl rfl ?_
  refine V_iconst (pc := 224) C dL_law_224 ki_2 ?_
  refine V_iadd (pc := 225) C dL_law_225 ?_
  refine V_sld (pc := 226) C hX hbl hbA h2 dL_law_226 ?_
  refine V_cutVi (pc := 227) (As := [.int (xs (Int32.toNatClampNeg (z + 1))), .int (xs (Int32.toNatClampNeg (z + 2)))]) (st := []) (wr := (wM cI q_m now aside past stt ref text len tb al2 rb rm fm lm gm wh ck nb dep spot flt ords lets prts hash)) C (c_X_xor (post := fun a => a = (r, x0', xb', xn', xf', fi', se', tr', lev', li', co', pa', ic', nc', pc', yf', ys', yt', yl', yi', yo', yp', yn', yk', yq', yw', yz')) ⟨_, e1, rfl⟩) mk_X4_xor wd_258 dL_law_227 0 rfl rfl rfl ⟨Nat.le_of_ble_eq_true rfl, Nat.le_of_ble_eq_true rfl⟩ iX iM iN (cutX rfl rfl) ndN (fun u => joinX rfl rfl) (Nat.le_of_ble_eq_true rfl) rfl (fun r2 u hw => ?_)
  have hw : (r2, u) = (r, x0', xb', xn', xf', fi', se', tr', lev', li', co', pa', ic', nc', pc', yf', ys', yt', yl', yi', yo', yp', yn', yk', yq', yw', yz') := hw
  obtain ⟨rfl, rfl⟩ := Prod.mk.inj hw
  clear hw
  show V p l e room_1 s m #[Value.ref b] below meth c D A 4 kc ks Q (((wX q_x q_c q_s q_w q_h q_t (x0') (xb') (xn') (xf')) ++ ((wC cI q_c (fi') (se') (tr') (lev') (li') (co') (pa') (ic') (nc') (pc')) ++ ((wC cI q_s ufi use utr ulev uli uco upa uic unc upc) ++ ((wS cI q_w fo re le gr lg nwn rows gb lc rc cc pr al) ++ ((wH cI cC q_h qs_h (yf') (ys') (yt') (yl') (yi') (yo') (yp') (yn') (yk') (yq') (yw') (yz')) ++ (wT cI q_t tby ks ns tln ocn okn gvn fgn)))))) ++ (wM cI q_m now aside past stt ref text len tb al2 rb rm fm lm gm wh ck nb dep spot flt ords lets prts hash)) [(0, .ref b), (1, .ref (q_x 0)), (2, .ref (q_m 0)), (3, .int z)] 230 [.int r2]
  refine V_aload_n (pc := 230) C 2 dL_law_230 rfl rfl ?_
  refine V_aload_n (pc := 231) C 0 dL_law_231 rfl rfl ?_
  refine V_iload_n (pc := 232) C 3 dL_law_232 rfl rfl ?_
  refine V_iconst (pc := 233) C dL_law_233 ki_1 ?_
  refine V_iadd (pc := 234) C dL_law_234 ?_
  refine V_sld (pc := 235) C hX hbl hbA h1 dL_law_235 ?_
  refine V_aload_n (pc := 236) C 0 dL_law_236 rfl rfl ?_
  refine V_iload_n (pc := 237) C 3 dL_law_237 rfl rfl ?_
  refine V_iconst (pc := 238) C dL_law_238 ki_2 ?_
  refine V_iadd (pc := 239) C dL_law_239 ?_
  refine V_sld (pc := 240) C hX hbl hbA h2 dL_law_240 ?_
  refine V_cutVi (pc := 241) (As := [.int (xs (Int32.toNatClampNeg (z + 1))), .int (xs (Int32.toNatClampNeg (z + 2)))]) (st := [.int r2]) (wr := ((wX q_x q_c q_s q_w q_h q_t (x0') (xb') (xn') (xf')) ++ ((wC cI q_c (fi') (se') (tr') (lev') (li') (co') (pa') (ic') (nc') (pc')) ++ ((wC cI q_s ufi use utr ulev uli uco upa uic unc upc) ++ ((wS cI q_w fo re le gr lg nwn rows gb lc rc cc pr al) ++ ((wH cI cC q_h qs_h (yf') (ys') (yt') (yl') (yi') (yo') (yp') (yn') (yk') (yq') (yw') (yz')) ++ (wT cI q_t tby ks ns tln ocn okn gvn fgn))))))) C (c_M_xor (post := fun a => a = (r2, now', aside', past', stt', ref')) ⟨_, e2, rfl⟩) mk_X5_xor wd_658 dL_law_241 72 rfl rfl rfl ⟨Nat.le_of_ble_eq_true rfl, Nat.le_of_ble_eq_true rfl⟩ iM iX iMM (cutM rfl rfl) ndM (fun u => joinM rfl rfl) (Nat.le_of_ble_eq_true rfl) rfl (fun r3 u hw => ?_)
  have hw : (r3, u) = (r2, now', aside', past', stt', ref') := hw
  obtain ⟨rfl, rfl⟩ := Prod.mk.inj hw
  clear hw
  show V p l e room_1 s m #[Value.ref b] below meth c D A 4 kc ks Q (((wX q_x q_c q_s q_w q_h q_t (x0') (xb') (xn') (xf')) ++ ((wC cI q_c (fi') (se') (tr') (lev') (li') (co') (pa') (ic') (nc') (pc')) ++ ((wC cI q_s ufi use utr ulev uli uco upa uic unc upc) ++ ((wS cI q_w fo re le gr lg nwn rows gb lc rc cc pr al) ++ ((wH cI cC q_h qs_h (yf') (ys') (yt') (yl') (yi') (yo') (yp') (yn') (yk') (yq') (yw') (yz')) ++ (wT cI q_t tby ks ns tln ocn okn gvn fgn)))))) ++ (wM cI q_m (now') (aside') (past') (stt') (ref') text len tb al2 rb rm fm lm gm wh ck nb dep spot flt ords lets prts hash)) [(0, .ref b), (1, .ref (q_x 0)), (2, .ref (q_m 0)), (3, .int z)] 244 [.int r3, .int r3]
  exact V_icmp_eq (pc := 244) (tgt := 835) C dL_law_244 rfl (fun _ => k _ ⟨x0', xb', xn', xf', fi', se', tr', lev', li', co', pa', ic', nc', pc', ufi, use, utr, ulev, uli, uco, upa, uic, unc, upc, fo, re, le, gr, lg, nwn, rows, gb, lc, rc, cc, pr, al, yf', ys', yt', yl', yi', yo', yp', yn', yk', yq', yw', yz', tby, ks, ns, tln, ocn, okn, gvn, fgn, now', aside', past', stt', ref', text, len, tb, al2, rb, rm, fm, lm, gm, wh, ck, nb, dep, spot, flt, ords, lets, prts, hash, rfl, hQ', hF', hT⟩) (fun h => absurd rfl h)
set_option maxRecDepth 100000 in
set_option maxHeartbeats 4000000 in
theorem l_mux (C : Cx p room_1 s m #[Value.ref b] meth c cL_law 4 R_law ret D cI cC A kc ks) (hX : va_X b L xs s s.heap) (hbl : b < s.heap.size) (hbA : ¬ A b) {z : Int32} (h1 : vp_in (z + 1) L) (h2 : vp_in (z + 2) L) (h3 : vp_in (z + 3) L) (hI : LI cI cC q_x q_c q_s q_w q_h qs_h q_t q_m ws) (k : ∀ ws', LI cI cC q_x q_c q_s q_w q_h qs_h q_t q_m ws' → V p l e room_1 s m #[Value.ref b] below meth c D A 4 kc ks Q ws' [(0, .ref b), (1, .ref (q_x 0)), (2, .ref (q_m 0)), (3, .int z)] 835 []) : V p l e room_1 s m #[Value.ref b] below meth c D A 4 kc ks Q ws [(0, .ref b), (1, .ref (q_x 0)), (2, .ref (q_m 0)), (3, .int z)] 249 [] := by
  obtain ⟨x0, xb, xn, xf, fi, se, tr, lev, li, co, pa, ic, nc, pc, ufi, use, utr, ulev, uli, uco, upa, uic, unc, upc, fo, re, le, gr, lg, nwn, rows, gb, lc, rc, cc, pr, al, yf, ys, yt, yl, yi, yo, yp, yn, yk, yq, yw, yz, tby, ks, ns, tln, ocn, okn, gvn, fgn, now, aside, past, stt, ref, text, len, tb, al2, rb, rm, fm, lm, gm, wh, ck, nb, dep, spot, flt, ords, lets, prts, hash, rfl, hQ, hF, hT⟩ := hI
  obtain ⟨r, x0', xb', xn', xf', fi', se', tr', lev', li', co', pa', ic', nc', pc', yf', ys', yt', yl', yi', yo', yp', yn', yk', yq', yw', yz', now', aside', past', stt', ref', e1, e2, hQ', hF'⟩ := s_mux hQ hF (xs (Int32.toNatClampNeg (z + 1))) (xs (Int32.toNatClampNeg (z + 2))) (xs (Int32.toNatClampNeg (z + 3))) aside
  refine V_aload_n (pc := 249) C 1 dL_law_249 rfl rfl ?_
  refine V_aload_n (pc := 250) C 0 dL_law_250 rfl rfl ?_
  refine V_iload_n (pc := 251) C 3 dL_law_251 rfl rfl ?_
  refine V_iconst (pc := 252) C dL_law_252 ki_1 ?_
  refine V_iadd (pc := 253) C dL_law_253 ?_
  refine V_sld (pc := 254) C hX hbl hbA h1 dL_law_254 ?_
  refine V_aload_n (pc := 255) C 0 dL_law_255 rfl rfl ?_
  refine V_iload_n (pc := 256) C 3 dL_law_256 rfl rfl ?_
  refine V_iconst (pc := 257) C dL_law_257 ki_2 ?_
  refine V_iadd (pc := 258) C dL_law_258 ?_
  refine V_sld (pc := 259) C hX hbl hbA h2 dL_law_259 ?_
  refine V_aload_n (pc := 260) C 0 dL_law_260 rfl rfl ?_
  refine V_iload_n (pc := 261) C 3 dL_law_261 rfl rfl ?_
  refine V_iconst (pc := 262) C dL_law_262 ki_3 ?_
  refine V_iadd (pc := 263) C dL_law_263 ?_
  refine V_sld (pc := 264) C hX hbl hbA h3 dL_law_264 ?_
  refine V_cutVi (pc := 265) (As := [.int (xs (Int32.toNatClampNeg (z + 1))), .int (xs (Int32.toNatClampNeg (z + 2))), .int (xs (Int32.toNatClampNeg (z + 3)))]) (st := []) (wr := (wM cI q_m now aside past stt ref text len tb al2 rb rm fm lm gm wh ck nb dep spot flt ords lets prts hash)) C (c_X_mux (post := fun a => a = (r, x0', xb', xn', xf', fi', se', tr', lev', li', co', pa', ic', nc', pc', yf', ys', yt', yl', yi', yo', yp', yn', yk', yq', yw', yz')) ⟨_, e1, rfl⟩) mk_X4_mux wd_262 dL_law_265 0 rfl rfl rfl ⟨Nat.le_of_ble_eq_true rfl, Nat.le_of_ble_eq_true rfl⟩ iX iM iN (cutX rfl rfl) ndN (fun u => joinX rfl rfl) (Nat.le_of_ble_eq_true rfl) rfl (fun r2 u hw => ?_)
  have hw : (r2, u) = (r, x0', xb', xn', xf', fi', se', tr', lev', li', co', pa', ic', nc', pc', yf', ys', yt', yl', yi', yo', yp', yn', yk', yq', yw', yz') := hw
  obtain ⟨rfl, rfl⟩ := Prod.mk.inj hw
  clear hw
  show V p l e room_1 s m #[Value.ref b] below meth c D A 4 kc ks Q (((wX q_x q_c q_s q_w q_h q_t (x0') (xb') (xn') (xf')) ++ ((wC cI q_c (fi') (se') (tr') (lev') (li') (co') (pa') (ic') (nc') (pc')) ++ ((wC cI q_s ufi use utr ulev uli uco upa uic unc upc) ++ ((wS cI q_w fo re le gr lg nwn rows gb lc rc cc pr al) ++ ((wH cI cC q_h qs_h (yf') (ys') (yt') (yl') (yi') (yo') (yp') (yn') (yk') (yq') (yw') (yz')) ++ (wT cI q_t tby ks ns tln ocn okn gvn fgn)))))) ++ (wM cI q_m now aside past stt ref text len tb al2 rb rm fm lm gm wh ck nb dep spot flt ords lets prts hash)) [(0, .ref b), (1, .ref (q_x 0)), (2, .ref (q_m 0)), (3, .int z)] 268 [.int r2]
  refine V_aload_n (pc := 268) C 2 dL_law_268 rfl rfl ?_
  refine V_aload_n (pc := 269) C 0 dL_law_269 rfl rfl ?_
  refine V_iload_n (pc := 270) C 3 dL_law_270 rfl rfl ?_
  refine V_iconst (pc := 271) C dL_law_271 ki_1 ?_
  refine V_iadd (pc := 272) C dL_law_272 ?_
  refine V_sld (pc := 273) C hX hbl hbA h1 dL_law_273 ?_
  refine V_aload_n (pc := 274) C 0 dL_law_274 rfl rfl ?_
  refine V_iload_n (pc := 275) C 3 dL_law_275 rfl rfl ?_
  refine V_iconst (pc := 276) C dL_law_276 ki_2 ?_
  refine V_iadd (pc := 277) C dL_law_277 ?_
  refine V_sld (pc := 278) C hX hbl hbA h2 dL_law_278 ?_
  refine V_aload_n (pc := 279) C 0 dL_law_279 rfl rfl ?_
  refine V_iload_n (pc := 280) C 3 dL_law_280 rfl rfl ?_
  refine V_iconst (pc := 281) C dL_law_281 ki_3 ?_
  refine V_iadd (pc := 282) C dL_law_282 ?_
  refine V_sld (pc := 283) C hX hbl hbA h3 dL_law_283 ?_
  refine V_cutVi (pc := 284) (As := [.int (xs (Int32.toNatClampNeg (z + 1))), .int (xs (Int32.toNatClampNeg (z + 2))), .int (xs (Int32.toNatClampNeg (z + 3)))]) (st := [.int r2]) (wr := ((wX q_x q_c q_s q_w q_h q_t (x0') (xb') (xn') (xf')) ++ ((wC cI q_c (fi') (se') (tr') (lev') (li') (co') (pa') (ic') (nc') (pc')) ++ ((wC cI q_s ufi use utr ulev uli uco upa uic unc upc) ++ ((wS cI q_w fo re le gr lg nwn rows gb lc rc cc pr al) ++ ((wH cI cC q_h qs_h (yf') (ys') (yt') (yl') (yi') (yo') (yp') (yn') (yk') (yq') (yw') (yz')) ++ (wT cI q_t tby ks ns tln ocn okn gvn fgn))))))) C (c_M_mux (post := fun a => a = (r2, now', aside', past', stt', ref')) ⟨_, e2, rfl⟩) mk_X5_mux wd_671 dL_law_284 72 rfl rfl rfl ⟨Nat.le_of_ble_eq_true rfl, Nat.le_of_ble_eq_true rfl⟩ iM iX iMM (cutM rfl rfl) ndM (fun u => joinM rfl rfl) (Nat.le_of_ble_eq_true rfl) rfl (fun r3 u hw => ?_)
  have hw : (r3, u) = (r2, now', aside', past', stt', ref') := hw
  obtain ⟨rfl, rfl⟩ := Prod.mk.inj hw
  clear hw
  show V p l e room_1 s m #[Value.ref b] below meth c D A 4 kc ks Q (((wX q_x q_c q_s q_w q_h q_t (x0') (xb') (xn') (xf')) ++ ((wC cI q_c (fi') (se') (tr') (lev') (li') (co') (pa') (ic') (nc') (pc')) ++ ((wC cI q_s ufi use utr ulev uli uco upa uic unc upc) ++ ((wS cI q_w fo re le gr lg nwn rows gb lc rc cc pr al) ++ ((wH cI cC q_h qs_h (yf') (ys') (yt') (yl') (yi') (yo') (yp') (yn') (yk') (yq') (yw') (yz')) ++ (wT cI q_t tby ks ns tln ocn okn gvn fgn)))))) ++ (wM cI q_m (now') (aside') (past') (stt') (ref') text len tb al2 rb rm fm lm gm wh ck nb dep spot flt ords lets prts hash)) [(0, .ref b), (1, .ref (q_x 0)), (2, .ref (q_m 0)), (3, .int z)] 287 [.int r3, .int r3]
  exact V_icmp_eq (pc := 287) (tgt := 835) C dL_law_287 rfl (fun _ => k _ ⟨x0', xb', xn', xf', fi', se', tr', lev', li', co', pa', ic', nc', pc', ufi, use, utr, ulev, uli, uco, upa, uic, unc, upc, fo, re, le, gr, lg, nwn, rows, gb, lc, rc, cc, pr, al, yf', ys', yt', yl', yi', yo', yp', yn', yk', yq', yw', yz', tby, ks, ns, tln, ocn, okn, gvn, fgn, now', aside', past', stt', ref', text, len, tb, al2, rb, rm, fm, lm, gm, wh, ck, nb, dep, spot, flt, ords, lets, prts, hash, rfl, hQ', hF', hT⟩) (fun h => absurd rfl h)
set_option maxRecDepth 100000 in
set_option maxHeartbeats 4000000 in
theorem l_out (C : Cx p room_1 s m #[Value.ref b] meth c cL_law 4 R_law ret D cI cC A kc ks) (hX : va_X b L xs s s.heap) (hbl : b < s.heap.size) (hbA : ¬ A b) {z : Int32} (h1 : vp_in (z + 1) L) (h2 : vp_in (z + 2) L) (hI : LI cI cC q_x q_c q_s q_w q_h qs_h q_t q_m ws) (k : ∀ ws', LI cI cC q_x q_c q_s q_w q_h qs_h q_t q_m ws' → V p l e room_1 s m #[Value.ref b] below meth c D A 4 kc ks Q ws' [(0, .ref b), (1, .ref (q_x 0)), (2, .ref (q_m 0)), (3, .int z)] 835 []) : V p l e room_1 s m #[Value.ref b] below meth c D A 4 kc ks Q ws [(0, .ref b), (1, .ref (q_x 0)), (2, .ref (q_m 0)), (3, .int z)] 292 [] := by
  obtain ⟨x0, xb, xn, xf, fi, se, tr, lev, li, co, pa, ic, nc, pc, ufi, use, utr, ulev, uli, uco, upa, uic, unc, upc, fo, re, le, gr, lg, nwn, rows, gb, lc, rc, cc, pr, al, yf, ys, yt, yl, yi, yo, yp, yn, yk, yq, yw, yz, tby, ks, ns, tln, ocn, okn, gvn, fgn, now, aside, past, stt, ref, text, len, tb, al2, rb, rm, fm, lm, gm, wh, ck, nb, dep, spot, flt, ords, lets, prts, hash, rfl, hQ, hF, hT⟩ := hI
  obtain ⟨r, x0', xb', xn', xf', fi', se', tr', lev', li', co', pa', ic', nc', pc', yf', ys', yt', yl', yi', yo', yp', yn', yk', yq', yw', yz', now', aside', past', stt', ref', e1, e2, hQ', hF'⟩ := s_out hQ hF (xs (Int32.toNatClampNeg (z + 1))) (xs (Int32.toNatClampNeg (z + 2))) aside
  refine V_aload_n (pc := 292) C 1 dL_law_292 rfl rfl ?_
  refine V_aload_n (pc := 293) C 0 dL_law_293 rfl rfl ?_
  refine V_iload_n (pc := 294) C 3 dL_law_294 rfl rfl ?_
  refine V_iconst (pc := 295) C dL_law_295 ki_1 ?_
  refine V_iadd (pc := 296) C dL_law_296 ?_
  refine V_sld (pc := 297) C hX hbl hbA h1 dL_law_297 ?_
  refine V_aload_n (pc := 298) C 0 dL_law_298 rfl rfl ?_
  refine V_iload_n (pc := 299) C 3 dL_law_299 rfl rfl ?_
  refine V_iconst (pc := 300) C dL_law_300 ki_2 ?_
  refine V_iadd (pc := 301) C dL_law_301 ?_
  refine V_sld (pc := 302) C hX hbl hbA h2 dL_law_302 ?_
  refine V_cutVi (pc := 303) (As := [.int (xs (Int32.toNatClampNeg (z + 1))), .int (xs (Int32.toNatClampNeg (z + 2)))]) (st := []) (wr := (wM cI q_m now aside past stt ref text len tb al2 rb rm fm lm gm wh ck nb dep spot flt ords lets prts hash)) C (c_X_out (post := fun a => a = (r, x0', xb', xn', xf', fi', se', tr', lev', li', co', pa', ic', nc', pc', yf', ys', yt', yl', yi', yo', yp', yn', yk', yq', yw', yz')) ⟨_, e1, rfl⟩) mk_X4_out wd_266 dL_law_303 0 rfl rfl rfl ⟨Nat.le_of_ble_eq_true rfl, Nat.le_of_ble_eq_true rfl⟩ iX iM iN (cutX rfl rfl) ndN (fun u => joinX rfl rfl) (Nat.le_of_ble_eq_true rfl) rfl (fun r2 u hw => ?_)
  have hw : (r2, u) = (r, x0', xb', xn', xf', fi', se', tr', lev', li', co', pa', ic', nc', pc', yf', ys', yt', yl', yi', yo', yp', yn', yk', yq', yw', yz') := hw
  obtain ⟨rfl, rfl⟩ := Prod.mk.inj hw
  clear hw
  show V p l e room_1 s m #[Value.ref b] below meth c D A 4 kc ks Q (((wX q_x q_c q_s q_w q_h q_t (x0') (xb') (xn') (xf')) ++ ((wC cI q_c (fi') (se') (tr') (lev') (li') (co') (pa') (ic') (nc') (pc')) ++ ((wC cI q_s ufi use utr ulev uli uco upa uic unc upc) ++ ((wS cI q_w fo re le gr lg nwn rows gb lc rc cc pr al) ++ ((wH cI cC q_h qs_h (yf') (ys') (yt') (yl') (yi') (yo') (yp') (yn') (yk') (yq') (yw') (yz')) ++ (wT cI q_t tby ks ns tln ocn okn gvn fgn)))))) ++ (wM cI q_m now aside past stt ref text len tb al2 rb rm fm lm gm wh ck nb dep spot flt ords lets prts hash)) [(0, .ref b), (1, .ref (q_x 0)), (2, .ref (q_m 0)), (3, .int z)] 306 [.int r2]
  refine V_aload_n (pc := 306) C 2 dL_law_306 rfl rfl ?_
  refine V_aload_n (pc := 307) C 0 dL_law_307 rfl rfl ?_
  refine V_iload_n (pc := 308) C 3 dL_law_308 rfl rfl ?_
  refine V_iconst (pc := 309) C dL_law_309 ki_1 ?_
  refine V_iadd (pc := 310) C dL_law_310 ?_
  refine V_sld (pc := 311) C hX hbl hbA h1 dL_law_311 ?_
  refine V_aload_n (pc := 312) C 0 dL_law_312 rfl rfl ?_
  refine V_iload_n (pc := 313) C 3 dL_law_313 rfl rfl ?_
  refine V_iconst (pc := 314) C dL_law_314 ki_2 ?_
  refine V_iadd (pc := 315) C dL_law_315 ?_
  refine V_sld (pc := 316) C hX hbl hbA h2 dL_law_316 ?_
  refine V_cutVi (pc := 317) (As := [.int (xs (Int32.toNatClampNeg (z + 1))), .int (xs (Int32.toNatClampNeg (z + 2)))]) (st := [.int r2]) (wr := ((wX q_x q_c q_s q_w q_h q_t (x0') (xb') (xn') (xf')) ++ ((wC cI q_c (fi') (se') (tr') (lev') (li') (co') (pa') (ic') (nc') (pc')) ++ ((wC cI q_s ufi use utr ulev uli uco upa uic unc upc) ++ ((wS cI q_w fo re le gr lg nwn rows gb lc rc cc pr al) ++ ((wH cI cC q_h qs_h (yf') (ys') (yt') (yl') (yi') (yo') (yp') (yn') (yk') (yq') (yw') (yz')) ++ (wT cI q_t tby ks ns tln ocn okn gvn fgn))))))) C (c_M_out (post := fun a => a = (r2, now', aside', past', stt', ref')) ⟨_, e2, rfl⟩) mk_X5_out wd_678 dL_law_317 72 rfl rfl rfl ⟨Nat.le_of_ble_eq_true rfl, Nat.le_of_ble_eq_true rfl⟩ iM iX iMM (cutM rfl rfl) ndM (fun u => joinM rfl rfl) (Nat.le_of_ble_eq_true rfl) rfl (fun r3 u hw => ?_)
  have hw : (r3, u) = (r2, now', aside', past', stt', ref') := hw
  obtain ⟨rfl, rfl⟩ := Prod.mk.inj hw
  clear hw
  show V p l e room_1 s m #[Value.ref b] below meth c D A 4 kc ks Q (((wX q_x q_c q_s q_w q_h q_t (x0') (xb') (xn') (xf')) ++ ((wC cI q_c (fi') (se') (tr') (lev') (li') (co') (pa') (ic') (nc') (pc')) ++ ((wC cI q_s ufi use utr ulev uli uco upa uic unc upc) ++ ((wS cI q_w fo re le gr lg nwn rows gb lc rc cc pr al) ++ ((wH cI cC q_h qs_h (yf') (ys') (yt') (yl') (yi') (yo') (yp') (yn') (yk') (yq') (yw') (yz')) ++ (wT cI q_t tby ks ns tln ocn okn gvn fgn)))))) ++ (wM cI q_m (now') (aside') (past') (stt') (ref') text len tb al2 rb rm fm lm gm wh ck nb dep spot flt ords lets prts hash)) [(0, .ref b), (1, .ref (q_x 0)), (2, .ref (q_m 0)), (3, .int z)] 320 [.int r3, .int r3]
  exact V_icmp_eq (pc := 320) (tgt := 835) C dL_law_320 rfl (fun _ => k _ ⟨x0', xb', xn', xf', fi', se', tr', lev', li', co', pa', ic', nc', pc', ufi, use, utr, ulev, uli, uco, upa, uic, unc, upc, fo, re, le, gr, lg, nwn, rows, gb, lc, rc, cc, pr, al, yf', ys', yt', yl', yi', yo', yp', yn', yk', yq', yw', yz', tby, ks, ns, tln, ocn, okn, gvn, fgn, now', aside', past', stt', ref', text, len, tb, al2, rb, rm, fm, lm, gm, wh, ck, nb, dep, spot, flt, ords, lets, prts, hash, rfl, hQ', hF', hT⟩) (fun h => absurd rfl h)
set_option maxRecDepth 100000 in
set_option maxHeartbeats 4000000 in
theorem l_pattern (C : Cx p room_1 s m #[Value.ref b] meth c cL_law 4 R_law ret D cI cC A kc ks) (hX : va_X b L xs s s.heap) (hbl : b < s.heap.size) (hbA : ¬ A b) {z : Int32} (h1 : vp_in (z + 1) L) (hI : LI cI cC q_x q_c q_s q_w q_h qs_h q_t q_m ws) (k : ∀ ws', LI cI cC q_x q_c q_s q_w q_h qs_h q_t q_m ws' → V p l e room_1 s m #[Value.ref b] below meth c D A 4 kc ks Q ws' [(0, .ref b), (1, .ref (q_x 0)), (2, .ref (q_m 0)), (3, .int z)] 835 []) : V p l e room_1 s m #[Value.ref b] below meth c D A 4 kc ks Q ws [(0, .ref b), (1, .ref (q_x 0)), (2, .ref (q_m 0)), (3, .int z)] 325 [] := by
  obtain ⟨x0, xb, xn, xf, fi, se, tr, lev, li, co, pa, ic, nc, pc, ufi, use, utr, ulev, uli, uco, upa, uic, unc, upc, fo, re, le, gr, lg, nwn, rows, gb, lc, rc, cc, pr, al, yf, ys, yt, yl, yi, yo, yp, yn, yk, yq, yw, yz, tby, ks, ns, tln, ocn, okn, gvn, fgn, now, aside, past, stt, ref, text, len, tb, al2, rb, rm, fm, lm, gm, wh, ck, nb, dep, spot, flt, ords, lets, prts, hash, rfl, hQ, hF, hT⟩ := hI
  obtain ⟨r, x0', xb', xn', xf', fi', se', tr', lev', li', co', pa', ic', nc', pc', yf', ys', yt', yl', yi', yo', yp', yn', yk', yq', yw', yz', now', aside', past', stt', ref', e1, e2, hQ', hF'⟩ := s_pattern hQ hF (xs (Int32.toNatClampNeg (z + 1))) aside
  refine V_aload_n (pc := 325) C 1 dL_law_325 rfl rfl ?_
  refine V_aload_n (pc := 326) C 0 dL_law_326 rfl rfl ?_
  refine V_iload_n (pc := 327) C 3 dL_law_327 rfl rfl ?_
  refine V_iconst (pc := 328) C dL_law_328 ki_1 ?_
  refine V_iadd (pc := 329) C dL_law_329 ?_
  refine V_sld (pc := 330) C hX hbl hbA h1 dL_law_330 ?_
  refine V_cutVi (pc := 331) (As := [.int (xs (Int32.toNatClampNeg (z + 1)))]) (st := []) (wr := (wM cI q_m now aside past stt ref text len tb al2 rb rm fm lm gm wh ck nb dep spot flt ords lets prts hash)) C (c_X_pattern (post := fun a => a = (r, x0', xb', xn', xf', fi', se', tr', lev', li', co', pa', ic', nc', pc', yf', ys', yt', yl', yi', yo', yp', yn', yk', yq', yw', yz')) ⟨_, e1, rfl⟩) mk_X4_pattern wd_270 dL_law_331 0 rfl rfl rfl ⟨Nat.le_of_ble_eq_true rfl, Nat.le_of_ble_eq_true rfl⟩ iX iM iN (cutX rfl rfl) ndN (fun u => joinX rfl rfl) (Nat.le_of_ble_eq_true rfl) rfl (fun r2 u hw => ?_)
  have hw : (r2, u) = (r, x0', xb', xn', xf', fi', se', tr', lev', li', co', pa', ic', nc', pc', yf', ys', yt', yl', yi', yo', yp', yn', yk', yq', yw', yz') := hw
  obtain ⟨rfl, rfl⟩ := Prod.mk.inj hw
  clear hw
  show V p l e room_1 s m #[Value.ref b] below meth c D A 4 kc ks Q (((wX q_x q_c q_s q_w q_h q_t (x0') (xb') (xn') (xf')) ++ ((wC cI q_c (fi') (se') (tr') (lev') (li') (co') (pa') (ic') (nc') (pc')) ++ ((wC cI q_s ufi use utr ulev uli uco upa uic unc upc) ++ ((wS cI q_w fo re le gr lg nwn rows gb lc rc cc pr al) ++ ((wH cI cC q_h qs_h (yf') (ys') (yt') (yl') (yi') (yo') (yp') (yn') (yk') (yq') (yw') (yz')) ++ (wT cI q_t tby ks ns tln ocn okn gvn fgn)))))) ++ (wM cI q_m now aside past stt ref text len tb al2 rb rm fm lm gm wh ck nb dep spot flt ords lets prts hash)) [(0, .ref b), (1, .ref (q_x 0)), (2, .ref (q_m 0)), (3, .int z)] 334 [.int r2]
  refine V_aload_n (pc := 334) C 2 dL_law_334 rfl rfl ?_
  refine V_aload_n (pc := 335) C 0 dL_law_335 rfl rfl ?_
  refine V_iload_n (pc := 336) C 3 dL_law_336 rfl rfl ?_
  refine V_iconst (pc := 337) C dL_law_337 ki_1 ?_
  refine V_iadd (pc := 338) C dL_law_338 ?_
  refine V_sld (pc := 339) C hX hbl hbA h1 dL_law_339 ?_
  refine V_cutVi (pc := 340) (As := [.int (xs (Int32.toNatClampNeg (z + 1)))]) (st := [.int r2]) (wr := ((wX q_x q_c q_s q_w q_h q_t (x0') (xb') (xn') (xf')) ++ ((wC cI q_c (fi') (se') (tr') (lev') (li') (co') (pa') (ic') (nc') (pc')) ++ ((wC cI q_s ufi use utr ulev uli uco upa uic unc upc) ++ ((wS cI q_w fo re le gr lg nwn rows gb lc rc cc pr al) ++ ((wH cI cC q_h qs_h (yf') (ys') (yt') (yl') (yi') (yo') (yp') (yn') (yk') (yq') (yw') (yz')) ++ (wT cI q_t tby ks ns tln ocn okn gvn fgn))))))) C (c_M_pattern (post := fun a => a = (r2, now', aside', past', stt', ref')) ⟨_, e2, rfl⟩) mk_X5_pattern wd_688 dL_law_340 72 rfl rfl rfl ⟨Nat.le_of_ble_eq_true rfl, Nat.le_of_ble_eq_true rfl⟩ iM iX iMM (cutM rfl rfl) ndM (fun u => joinM rfl rfl) (Nat.le_of_ble_eq_true rfl) rfl (fun r3 u hw => ?_)
  have hw : (r3, u) = (r2, now', aside', past', stt', ref') := hw
  obtain ⟨rfl, rfl⟩ := Prod.mk.inj hw
  clear hw
  show V p l e room_1 s m #[Value.ref b] below meth c D A 4 kc ks Q (((wX q_x q_c q_s q_w q_h q_t (x0') (xb') (xn') (xf')) ++ ((wC cI q_c (fi') (se') (tr') (lev') (li') (co') (pa') (ic') (nc') (pc')) ++ ((wC cI q_s ufi use utr ulev uli uco upa uic unc upc) ++ ((wS cI q_w fo re le gr lg nwn rows gb lc rc cc pr al) ++ ((wH cI cC q_h qs_h (yf') (ys') (yt') (yl') (yi') (yo') (yp') (yn') (yk') (yq') (yw') (yz')) ++ (wT cI q_t tby ks ns tln ocn okn gvn fgn)))))) ++ (wM cI q_m (now') (aside') (past') (stt') (ref') text len tb al2 rb rm fm lm gm wh ck nb dep spot flt ords lets prts hash)) [(0, .ref b), (1, .ref (q_x 0)), (2, .ref (q_m 0)), (3, .int z)] 343 [.int r3, .int r3]
  exact V_icmp_eq (pc := 343) (tgt := 835) C dL_law_343 rfl (fun _ => k _ ⟨x0', xb', xn', xf', fi', se', tr', lev', li', co', pa', ic', nc', pc', ufi, use, utr, ulev, uli, uco, upa, uic, unc, upc, fo, re, le, gr, lg, nwn, rows, gb, lc, rc, cc, pr, al, yf', ys', yt', yl', yi', yo', yp', yn', yk', yq', yw', yz', tby, ks, ns, tln, ocn, okn, gvn, fgn, now', aside', past', stt', ref', text, len, tb, al2, rb, rm, fm, lm, gm, wh, ck, nb, dep, spot, flt, ords, lets, prts, hash, rfl, hQ', hF', hT⟩) (fun h => absurd rfl h)
set_option maxRecDepth 100000 in
set_option maxHeartbeats 4000000 in
theorem l_settles (C : Cx p room_1 s m #[Value.ref b] meth c cL_law 4 R_law ret D cI cC A kc ks) (hX : va_X b L xs s s.heap) (hbl : b < s.heap.size) (hbA : ¬ A b) {z : Int32}  (hI : LI cI cC q_x q_c q_s q_w q_h qs_h q_t q_m ws) (k : ∀ ws', LI cI cC q_x q_c q_s q_w q_h qs_h q_t q_m ws' → V p l e room_1 s m #[Value.ref b] below meth c D A 4 kc ks Q ws' [(0, .ref b), (1, .ref (q_x 0)), (2, .ref (q_m 0)), (3, .int z)] 835 []) : V p l e room_1 s m #[Value.ref b] below meth c D A 4 kc ks Q ws [(0, .ref b), (1, .ref (q_x 0)), (2, .ref (q_m 0)), (3, .int z)] 348 [] := by
  obtain ⟨x0, xb, xn, xf, fi, se, tr, lev, li, co, pa, ic, nc, pc, ufi, use, utr, ulev, uli, uco, upa, uic, unc, upc, fo, re, le, gr, lg, nwn, rows, gb, lc, rc, cc, pr, al, yf, ys, yt, yl, yi, yo, yp, yn, yk, yq, yw, yz, tby, ks, ns, tln, ocn, okn, gvn, fgn, now, aside, past, stt, ref, text, len, tb, al2, rb, rm, fm, lm, gm, wh, ck, nb, dep, spot, flt, ords, lets, prts, hash, rfl, hQ, hF, hT⟩ := hI
  obtain ⟨r, fi', se', tr', lev', li', nc', fo', re', le', gr', lg', rows', gb', lc', rc', cc', pr', al', nwn', yf', ys', yt', yl', yi', yo', yp', yn', yk', yq', yw', yz', now', aside', past', stt', tb', al2', rb', rm', fm', lm', gm', wh', ck', nb', e1, e2, hQ'⟩ := s_settles (ref := ref) (tb := tb) (al2 := al2) (rb := rb) (rm := rm) (fm := fm) (lm := lm) (gm := gm) (wh := wh) (ck := ck) hQ nwn nb aside
  refine V_aload_n (pc := 348) C 1 dL_law_348 rfl rfl ?_
  refine V_cutVi (pc := 349) (As := []) (st := []) (wr := (wM cI q_m now aside past stt ref text len tb al2 rb rm fm lm gm wh ck nb dep spot flt ords lets prts hash)) C (c_X_settles (post := fun a => a = (r, 1, fi', se', tr', lev', li', nc', fo', re', le', gr', lg', nwn', rows', gb', lc', rc', cc', pr', al', yf', ys', yt', yl', yi', yo', yp', yn', yk', yq', yw', yz')) ⟨_, e1, rfl⟩) mk_X4_settles wd_274 dL_law_349 0 rfl rfl rfl ⟨Nat.le_of_ble_eq_true rfl, Nat.le_of_ble_eq_true rfl⟩ iX iM iN (cutX rfl rfl) ndN (fun u => joinX rfl rfl) (Nat.le_of_ble_eq_true rfl) rfl (fun r2 u hw => ?_)
  have hw : (r2, u) = (r, 1, fi', se', tr', lev', li', nc', fo', re', le', gr', lg', nwn', rows', gb', lc', rc', cc', pr', al', yf', ys', yt', yl', yi', yo', yp', yn', yk', yq', yw', yz') := hw
  obtain ⟨rfl, rfl⟩ := Prod.mk.inj hw
  clear hw
  show V p l e room_1 s m #[Value.ref b] below meth c D A 4 kc ks Q (((wX q_x q_c q_s q_w q_h q_t 1 xb xn xf) ++ ((wC cI q_c (fi') (se') (tr') (lev') (li') co pa ic (nc') pc) ++ ((wC cI q_s ufi use utr ulev uli uco upa uic unc upc) ++ ((wS cI q_w (fo') (re') (le') (gr') (lg') (nwn') (rows') (gb') (lc') (rc') (cc') (pr') (al')) ++ ((wH cI cC q_h qs_h (yf') (ys') (yt') (yl') (yi') (yo') (yp') (yn') (yk') (yq') (yw') (yz')) ++ (wT cI q_t tby ks ns tln ocn okn gvn fgn)))))) ++ (wM cI q_m now aside past stt ref text len tb al2 rb rm fm lm gm wh ck nb dep spot flt ords lets prts hash)) [(0, .ref b), (1, .ref (q_x 0)), (2, .ref (q_m 0)), (3, .int z)] 352 [.int r2]
  refine V_aload_n (pc := 352) C 2 dL_law_352 rfl rfl ?_
  refine V_cutVi (pc := 353) (As := []) (st := [.int r2]) (wr := ((wX q_x q_c q_s q_w q_h q_t 1 xb xn xf) ++ ((wC cI q_c (fi') (se') (tr') (lev') (li') co pa ic (nc') pc) ++ ((wC cI q_s ufi use utr ulev uli uco upa uic unc upc) ++ ((wS cI q_w (fo') (re') (le') (gr') (lg') (nwn') (rows') (gb') (lc') (rc') (cc') (pr') (al')) ++ ((wH cI cC q_h qs_h (yf') (ys') (yt') (yl') (yi') (yo') (yp') (yn') (yk') (yq') (yw') (yz')) ++ (wT cI q_t tby ks ns tln ocn okn gvn fgn))))))) C (c_M_settles (post := fun a => a = (r2, now', aside', past', stt', ref, tb', al2', rb', rm', fm', lm', gm', wh', ck', nb')) ⟨_, e2, rfl⟩) mk_X5_settles wd_698 dL_law_353 72 rfl rfl rfl ⟨Nat.le_of_ble_eq_true rfl, Nat.le_of_ble_eq_true rfl⟩ iM iX iMM (cutM rfl rfl) ndM (fun u => joinM rfl rfl) (Nat.le_of_ble_eq_true rfl) rfl (fun r3 u hw => ?_)
  have hw : (r3, u) = (r2, now', aside', past', stt', ref, tb', al2', rb', rm', fm', lm', gm', wh', ck', nb') := hw
  obtain ⟨rfl, rfl⟩ := Prod.mk.inj hw
  clear hw
  show V p l e room_1 s m #[Value.ref b] below meth c D A 4 kc ks Q (((wX q_x q_c q_s q_w q_h q_t 1 xb xn xf) ++ ((wC cI q_c (fi') (se') (tr') (lev') (li') co pa ic (nc') pc) ++ ((wC cI q_s ufi use utr ulev uli uco upa uic unc upc) ++ ((wS cI q_w (fo') (re') (le') (gr') (lg') (nwn') (rows') (gb') (lc') (rc') (cc') (pr') (al')) ++ ((wH cI cC q_h qs_h (yf') (ys') (yt') (yl') (yi') (yo') (yp') (yn') (yk') (yq') (yw') (yz')) ++ (wT cI q_t tby ks ns tln ocn okn gvn fgn)))))) ++ (wM cI q_m (now') (aside') (past') (stt') ref text len (tb') (al2') (rb') (rm') (fm') (lm') (gm') (wh') (ck') (nb') dep spot flt ords lets prts hash)) [(0, .ref b), (1, .ref (q_x 0)), (2, .ref (q_m 0)), (3, .int z)] 356 [.int r3, .int r3]
  exact V_icmp_eq (pc := 356) (tgt := 835) C dL_law_356 rfl (fun _ => k _ ⟨1, xb, xn, xf, fi', se', tr', lev', li', co, pa, ic, nc', pc, ufi, use, utr, ulev, uli, uco, upa, uic, unc, upc, fo', re', le', gr', lg', nwn', rows', gb', lc', rc', cc', pr', al', yf', ys', yt', yl', yi', yo', yp', yn', yk', yq', yw', yz', tby, ks, ns, tln, ocn, okn, gvn, fgn, now', aside', past', stt', ref, text, len, tb', al2', rb', rm', fm', lm', gm', wh', ck', nb', dep, spot, flt, ords, lets, prts, hash, rfl, hQ', hF, hT⟩) (fun h => absurd rfl h)
set_option maxRecDepth 100000 in
set_option maxHeartbeats 4000000 in
theorem l_of (C : Cx p room_1 s m #[Value.ref b] meth c cL_law 4 R_law ret D cI cC A kc ks) (hX : va_X b L xs s s.heap) (hbl : b < s.heap.size) (hbA : ¬ A b) {z : Int32} (h1 : vp_in (z + 1) L) (h2 : vp_in (z + 2) L) (hI : LI cI cC q_x q_c q_s q_w q_h qs_h q_t q_m ws) (k : ∀ ws', LI cI cC q_x q_c q_s q_w q_h qs_h q_t q_m ws' → V p l e room_1 s m #[Value.ref b] below meth c D A 4 kc ks Q ws' [(0, .ref b), (1, .ref (q_x 0)), (2, .ref (q_m 0)), (3, .int z)] 835 []) : V p l e room_1 s m #[Value.ref b] below meth c D A 4 kc ks Q ws [(0, .ref b), (1, .ref (q_x 0)), (2, .ref (q_m 0)), (3, .int z)] 361 [] := by
  obtain ⟨x0, xb, xn, xf, fi, se, tr, lev, li, co, pa, ic, nc, pc, ufi, use, utr, ulev, uli, uco, upa, uic, unc, upc, fo, re, le, gr, lg, nwn, rows, gb, lc, rc, cc, pr, al, yf, ys, yt, yl, yi, yo, yp, yn, yk, yq, yw, yz, tby, ks, ns, tln, ocn, okn, gvn, fgn, now, aside, past, stt, ref, text, len, tb, al2, rb, rm, fm, lm, gm, wh, ck, nb, dep, spot, flt, ords, lets, prts, hash, rfl, hQ, hF, hT⟩ := hI
  have hQ0 := hQ
  obtain ⟨M, hW, hc, hm, hH, hS⟩ := hQ
  have hQ := hQ0
  obtain ⟨r, xb', xn', xf', ref', e1, e2, hF'⟩ := g_of hW hc hm hF (xs (Int32.toNatClampNeg (z + 1))) (xs (Int32.toNatClampNeg (z + 2)))
  refine V_aload_n (pc := 361) C 1 dL_law_361 rfl rfl ?_
  refine V_aload_n (pc := 362) C 0 dL_law_362 rfl rfl ?_
  refine V_iload_n (pc := 363) C 3 dL_law_363 rfl rfl ?_
  refine V_iconst (pc := 364) C dL_law_364 ki_1 ?_
  refine V_iadd (pc := 365) C dL_law_365 ?_
  refine V_sld (pc := 366) C hX hbl hbA h1 dL_law_366 ?_
  refine V_aload_n (pc := 367) C 0 dL_law_367 rfl rfl ?_
  refine V_iload_n (pc := 368) C 3 dL_law_368 rfl rfl ?_
  refine V_iconst (pc := 369) C dL_law_369 ki_2 ?_
  refine V_iadd (pc := 370) C dL_law_370 ?_
  refine V_sld (pc := 371) C hX hbl hbA h2 dL_law_371 ?_
  refine V_cutVi (pc := 372) (As := [.int (xs (Int32.toNatClampNeg (z + 1))), .int (xs (Int32.toNatClampNeg (z + 2)))]) (st := []) (wr := (wM cI q_m now aside past stt ref text len tb al2 rb rm fm lm gm wh ck nb dep spot flt ords lets prts hash)) C (c_X_of (post := fun a => a = (r, xb', xn', xf')) ⟨_, e1, rfl⟩) mk_X4_of wd_347 dL_law_372 0 rfl rfl rfl ⟨Nat.le_of_ble_eq_true rfl, Nat.le_of_ble_eq_true rfl⟩ iX iM iN (cutX rfl rfl) ndN (fun u => joinX rfl rfl) (Nat.le_of_ble_eq_true rfl) rfl (fun r2 u hw => ?_)
  have hw : (r2, u) = (r, xb', xn', xf') := hw
  obtain ⟨rfl, rfl⟩ := Prod.mk.inj hw
  clear hw
  show V p l e room_1 s m #[Value.ref b] below meth c D A 4 kc ks Q (((wX q_x q_c q_s q_w q_h q_t x0 (xb') (xn') (xf')) ++ ((wC cI q_c fi se tr lev li co pa ic nc pc) ++ ((wC cI q_s ufi use utr ulev uli uco upa uic unc upc) ++ ((wS cI q_w fo re le gr lg nwn rows gb lc rc cc pr al) ++ ((wH cI cC q_h qs_h yf ys yt yl yi yo yp yn yk yq yw yz) ++ (wT cI q_t tby ks ns tln ocn okn gvn fgn)))))) ++ (wM cI q_m now aside past stt ref text len tb al2 rb rm fm lm gm wh ck nb dep spot flt ords lets prts hash)) [(0, .ref b), (1, .ref (q_x 0)), (2, .ref (q_m 0)), (3, .int z)] 375 [.int r2]
  refine V_aload_n (pc := 375) C 2 dL_law_375 rfl rfl ?_
  refine V_aload_n (pc := 376) C 0 dL_law_376 rfl rfl ?_
  refine V_iload_n (pc := 377) C 3 dL_law_377 rfl rfl ?_
  refine V_iconst (pc := 378) C dL_law_378 ki_1 ?_
  refine V_iadd (pc := 379) C dL_law_379 ?_
  refine V_sld (pc := 380) C hX hbl hbA h1 dL_law_380 ?_
  refine V_aload_n (pc := 381) C 0 dL_law_381 rfl rfl ?_
  refine V_iload_n (pc := 382) C 3 dL_law_382 rfl rfl ?_
  refine V_iconst (pc := 383) C dL_law_383 ki_2 ?_
  refine V_iadd (pc := 384) C dL_law_384 ?_
  refine V_sld (pc := 385) C hX hbl hbA h2 dL_law_385 ?_
  refine V_cutVi (pc := 386) (As := [.int (xs (Int32.toNatClampNeg (z + 1))), .int (xs (Int32.toNatClampNeg (z + 2)))]) (st := [.int r2]) (wr := ((wX q_x q_c q_s q_w q_h q_t x0 (xb') (xn') (xf')) ++ ((wC cI q_c fi se tr lev li co pa ic nc pc) ++ ((wC cI q_s ufi use utr ulev uli uco upa uic unc upc) ++ ((wS cI q_w fo re le gr lg nwn rows gb lc rc cc pr al) ++ ((wH cI cC q_h qs_h yf ys yt yl yi yo yp yn yk yq yw yz) ++ (wT cI q_t tby ks ns tln ocn okn gvn fgn))))))) C (c_M_of (post := fun a => a = (r2, ref')) ⟨_, e2, rfl⟩) mk_X5_of wd_747 dL_law_386 72 rfl rfl rfl ⟨Nat.le_of_ble_eq_true rfl, Nat.le_of_ble_eq_true rfl⟩ iM iX iMM (cutM rfl rfl) ndM (fun u => joinM rfl rfl) (Nat.le_of_ble_eq_true rfl) rfl (fun r3 u hw => ?_)
  have hw : (r3, u) = (r2, ref') := hw
  obtain ⟨rfl, rfl⟩ := Prod.mk.inj hw
  clear hw
  show V p l e room_1 s m #[Value.ref b] below meth c D A 4 kc ks Q (((wX q_x q_c q_s q_w q_h q_t x0 (xb') (xn') (xf')) ++ ((wC cI q_c fi se tr lev li co pa ic nc pc) ++ ((wC cI q_s ufi use utr ulev uli uco upa uic unc upc) ++ ((wS cI q_w fo re le gr lg nwn rows gb lc rc cc pr al) ++ ((wH cI cC q_h qs_h yf ys yt yl yi yo yp yn yk yq yw yz) ++ (wT cI q_t tby ks ns tln ocn okn gvn fgn)))))) ++ (wM cI q_m now aside past stt (ref') text len tb al2 rb rm fm lm gm wh ck nb dep spot flt ords lets prts hash)) [(0, .ref b), (1, .ref (q_x 0)), (2, .ref (q_m 0)), (3, .int z)] 389 [.int r3, .int r3]
  exact V_icmp_eq (pc := 389) (tgt := 835) C dL_law_389 rfl (fun _ => k _ ⟨x0, xb', xn', xf', fi, se, tr, lev, li, co, pa, ic, nc, pc, ufi, use, utr, ulev, uli, uco, upa, uic, unc, upc, fo, re, le, gr, lg, nwn, rows, gb, lc, rc, cc, pr, al, yf, ys, yt, yl, yi, yo, yp, yn, yk, yq, yw, yz, tby, ks, ns, tln, ocn, okn, gvn, fgn, now, aside, past, stt, ref', text, len, tb, al2, rb, rm, fm, lm, gm, wh, ck, nb, dep, spot, flt, ords, lets, prts, hash, rfl, hQ, hF', hT⟩) (fun h => absurd rfl h)
set_option maxRecDepth 100000 in
set_option maxHeartbeats 4000000 in
theorem l_table (C : Cx p room_1 s m #[Value.ref b] meth c cL_law 4 R_law ret D cI cC A kc ks) (hX : va_X b L xs s s.heap) (hbl : b < s.heap.size) (hbA : ¬ A b) {z : Int32} (h1 : vp_in (z + 1) L) (hI : LI cI cC q_x q_c q_s q_w q_h qs_h q_t q_m ws) (k : ∀ ws', LI cI cC q_x q_c q_s q_w q_h qs_h q_t q_m ws' → V p l e room_1 s m #[Value.ref b] below meth c D A 4 kc ks Q ws' [(0, .ref b), (1, .ref (q_x 0)), (2, .ref (q_m 0)), (3, .int z)] 835 []) : V p l e room_1 s m #[Value.ref b] below meth c D A 4 kc ks Q ws [(0, .ref b), (1, .ref (q_x 0)), (2, .ref (q_m 0)), (3, .int z)] 394 [] := by
  obtain ⟨x0, xb, xn, xf, fi, se, tr, lev, li, co, pa, ic, nc, pc, ufi, use, utr, ulev, uli, uco, upa, uic, unc, upc, fo, re, le, gr, lg, nwn, rows, gb, lc, rc, cc, pr, al, yf, ys, yt, yl, yi, yo, yp, yn, yk, yq, yw, yz, tby, ks, ns, tln, ocn, okn, gvn, fgn, now, aside, past, stt, ref, text, len, tb, al2, rb, rm, fm, lm, gm, wh, ck, nb, dep, spot, flt, ords, lets, prts, hash, rfl, hQ, hF, hT⟩ := hI
  have hQ0 := hQ
  obtain ⟨M, hW, hc, hm, hH, hS⟩ := hQ
  have hQ := hQ0
  obtain ⟨r, xb', xn', xf', ref', tb', al2', e1, e2, hF'⟩ := g_table hW hc hm hF tb al2 (xs (Int32.toNatClampNeg (z + 1)))
  refine V_aload_n (pc := 394) C 1 dL_law_394 rfl rfl ?_
  refine V_aload_n (pc := 395) C 0 dL_law_395 rfl rfl ?_
  refine V_iload_n (pc := 396) C 3 dL_law_396 rfl rfl ?_
  refine V_iconst (pc := 397) C dL_law_397 ki_1 ?_
  refine V_iadd (pc := 398) C dL_law_398 ?_
  refine V_sld (pc := 399) C hX hbl hbA h1 dL_law_399 ?_
  refine V_cutVi (pc := 400) (As := [.int (xs (Int32.toNatClampNeg (z + 1)))]) (st := []) (wr := (wM cI q_m now aside past stt ref text len tb al2 rb rm fm lm gm wh ck nb dep spot flt ords lets prts hash)) C (c_X_table (post := fun a => a = (r, xb', xn', xf')) ⟨_, e1, rfl⟩) mk_X4_table wd_355 dL_law_400 0 rfl rfl rfl ⟨Nat.le_of_ble_eq_true rfl, Nat.le_of_ble_eq_true rfl⟩ iX iM iN (cutX rfl rfl) ndN (fun u => joinX rfl rfl) (Nat.le_of_ble_eq_true rfl) rfl (fun r2 u hw => ?_)
  have hw : (r2, u) = (r, xb', xn', xf') := hw
  obtain ⟨rfl, rfl⟩ := Prod.mk.inj hw
  clear hw
  show V p l e room_1 s m #[Value.ref b] below meth c D A 4 kc ks Q (((wX q_x q_c q_s q_w q_h q_t x0 (xb') (xn') (xf')) ++ ((wC cI q_c fi se tr lev li co pa ic nc pc) ++ ((wC cI q_s ufi use utr ulev uli uco upa uic unc upc) ++ ((wS cI q_w fo re le gr lg nwn rows gb lc rc cc pr al) ++ ((wH cI cC q_h qs_h yf ys yt yl yi yo yp yn yk yq yw yz) ++ (wT cI q_t tby ks ns tln ocn okn gvn fgn)))))) ++ (wM cI q_m now aside past stt ref text len tb al2 rb rm fm lm gm wh ck nb dep spot flt ords lets prts hash)) [(0, .ref b), (1, .ref (q_x 0)), (2, .ref (q_m 0)), (3, .int z)] 403 [.int r2]
  refine V_aload_n (pc := 403) C 2 dL_law_403 rfl rfl ?_
  refine V_aload_n (pc := 404) C 0 dL_law_404 rfl rfl ?_
  refine V_iload_n (pc := 405) C 3 dL_law_405 rfl rfl ?_
  refine V_iconst (pc := 406) C dL_law_406 ki_1 ?_
  refine V_iadd (pc := 407) C dL_law_407 ?_
  refine V_sld (pc := 408) C hX hbl hbA h1 dL_law_408 ?_
  refine V_cutVi (pc := 409) (As := [.int (xs (Int32.toNatClampNeg (z + 1)))]) (st := [.int r2]) (wr := ((wX q_x q_c q_s q_w q_h q_t x0 (xb') (xn') (xf')) ++ ((wC cI q_c fi se tr lev li co pa ic nc pc) ++ ((wC cI q_s ufi use utr ulev uli uco upa uic unc upc) ++ ((wS cI q_w fo re le gr lg nwn rows gb lc rc cc pr al) ++ ((wH cI cC q_h qs_h yf ys yt yl yi yo yp yn yk yq yw yz) ++ (wT cI q_t tby ks ns tln ocn okn gvn fgn))))))) C (c_M_table (post := fun a => a = (r2, ref', tb', al2')) ⟨_, e2, rfl⟩) mk_X5_table wd_757 dL_law_409 72 rfl rfl rfl ⟨Nat.le_of_ble_eq_true rfl, Nat.le_of_ble_eq_true rfl⟩ iM iX iMM (cutM rfl rfl) ndM (fun u => joinM rfl rfl) (Nat.le_of_ble_eq_true rfl) rfl (fun r3 u hw => ?_)
  have hw : (r3, u) = (r2, ref', tb', al2') := hw
  obtain ⟨rfl, rfl⟩ := Prod.mk.inj hw
  clear hw
  show V p l e room_1 s m #[Value.ref b] below meth c D A 4 kc ks Q (((wX q_x q_c q_s q_w q_h q_t x0 (xb') (xn') (xf')) ++ ((wC cI q_c fi se tr lev li co pa ic nc pc) ++ ((wC cI q_s ufi use utr ulev uli uco upa uic unc upc) ++ ((wS cI q_w fo re le gr lg nwn rows gb lc rc cc pr al) ++ ((wH cI cC q_h qs_h yf ys yt yl yi yo yp yn yk yq yw yz) ++ (wT cI q_t tby ks ns tln ocn okn gvn fgn)))))) ++ (wM cI q_m now aside past stt (ref') text len (tb') (al2') rb rm fm lm gm wh ck nb dep spot flt ords lets prts hash)) [(0, .ref b), (1, .ref (q_x 0)), (2, .ref (q_m 0)), (3, .int z)] 412 [.int r3, .int r3]
  exact V_icmp_eq (pc := 412) (tgt := 835) C dL_law_412 rfl (fun _ => k _ ⟨x0, xb', xn', xf', fi, se, tr, lev, li, co, pa, ic, nc, pc, ufi, use, utr, ulev, uli, uco, upa, uic, unc, upc, fo, re, le, gr, lg, nwn, rows, gb, lc, rc, cc, pr, al, yf, ys, yt, yl, yi, yo, yp, yn, yk, yq, yw, yz, tby, ks, ns, tln, ocn, okn, gvn, fgn, now, aside, past, stt, ref', text, len, tb', al2', rb, rm, fm, lm, gm, wh, ck, nb, dep, spot, flt, ords, lets, prts, hash, rfl, hQ, hF', hT⟩) (fun h => absurd rfl h)
set_option maxRecDepth 100000 in
set_option maxHeartbeats 4000000 in
theorem l_at (C : Cx p room_1 s m #[Value.ref b] meth c cL_law 4 R_law ret D cI cC A kc ks) (hX : va_X b L xs s s.heap) (hbl : b < s.heap.size) (hbA : ¬ A b) {z : Int32} (h1 : vp_in (z + 1) L) (h2 : vp_in (z + 2) L) (hI : LI cI cC q_x q_c q_s q_w q_h qs_h q_t q_m ws) (k : ∀ ws', LI cI cC q_x q_c q_s q_w q_h qs_h q_t q_m ws' → V p l e room_1 s m #[Value.ref b] below meth c D A 4 kc ks Q ws' [(0, .ref b), (1, .ref (q_x 0)), (2, .ref (q_m 0)), (3, .int z)] 835 []) : V p l e room_1 s m #[Value.ref b] below meth c D A 4 kc ks Q ws [(0, .ref b), (1, .ref (q_x 0)), (2, .ref (q_m 0)), (3, .int z)] 417 [] := by
  obtain ⟨x0, xb, xn, xf, fi, se, tr, lev, li, co, pa, ic, nc, pc, ufi, use, utr, ulev, uli, uco, upa, uic, unc, upc, fo, re, le, gr, lg, nwn, rows, gb, lc, rc, cc, pr, al, yf, ys, yt, yl, yi, yo, yp, yn, yk, yq, yw, yz, tby, ks, ns, tln, ocn, okn, gvn, fgn, now, aside, past, stt, ref, text, len, tb, al2, rb, rm, fm, lm, gm, wh, ck, nb, dep, spot, flt, ords, lets, prts, hash, rfl, hQ, hF, hT⟩ := hI
  have hQ0 := hQ
  obtain ⟨M, hW, hc, hm, hH, hS⟩ := hQ
  have hQ := hQ0
  obtain ⟨r, xb', xn', xf', ref', tb', al2', e1, e2, hF'⟩ := g_at hW hc hm hF tb al2 (xs (Int32.toNatClampNeg (z + 1))) (xs (Int32.toNatClampNeg (z + 2)))
  refine V_aload_n (pc := 417) C 1 dL_law_417 rfl rfl ?_
  refine V_aload_n (pc := 418) C 0 dL_law_418 rfl rfl ?_
  refine V_iload_n (pc := 419) C 3 dL_law_419 rfl rfl ?_
  refine V_iconst (pc := 420) C dL_law_420 ki_1 ?_
  refine V_iadd (pc := 421) C dL_law_421 ?_
  refine V_sld (pc := 422) C hX hbl hbA h1 dL_law_422 ?_
  refine V_aload_n (pc := 423) C 0 dL_law_423 rfl rfl ?_
  refine V_iload_n (pc := 424) C 3 dL_law_424 rfl rfl ?_
  refine V_iconst (pc := 425) C dL_law_425 ki_2 ?_
  refine V_iadd (pc := 426) C dL_law_426 ?_
  refine V_sld (pc := 427) C hX hbl hbA h2 dL_law_427 ?_
  refine V_cutVi (pc := 428) (As := [.int (xs (Int32.toNatClampNeg (z + 1))), .int (xs (Int32.toNatClampNeg (z + 2)))]) (st := []) (wr := (wM cI q_m now aside past stt ref text len tb al2 rb rm fm lm gm wh ck nb dep spot flt ords lets prts hash)) C (c_X_at (post := fun a => a = (r, xb', xn', xf')) ⟨_, e1, rfl⟩) mk_X4_at wd_361 dL_law_428 0 rfl rfl rfl ⟨Nat.le_of_ble_eq_true rfl, Nat.le_of_ble_eq_true rfl⟩ iX iM iN (cutX rfl rfl) ndN (fun u => joinX rfl rfl) (Nat.le_of_ble_eq_true rfl) rfl (fun r2 u hw => ?_)
  have hw : (r2, u) = (r, xb', xn', xf') := hw
  obtain ⟨rfl, rfl⟩ := Prod.mk.inj hw
  clear hw
  show V p l e room_1 s m #[Value.ref b] below meth c D A 4 kc ks Q (((wX q_x q_c q_s q_w q_h q_t x0 (xb') (xn') (xf')) ++ ((wC cI q_c fi se tr lev li co pa ic nc pc) ++ ((wC cI q_s ufi use utr ulev uli uco upa uic unc upc) ++ ((wS cI q_w fo re le gr lg nwn rows gb lc rc cc pr al) ++ ((wH cI cC q_h qs_h yf ys yt yl yi yo yp yn yk yq yw yz) ++ (wT cI q_t tby ks ns tln ocn okn gvn fgn)))))) ++ (wM cI q_m now aside past stt ref text len tb al2 rb rm fm lm gm wh ck nb dep spot flt ords lets prts hash)) [(0, .ref b), (1, .ref (q_x 0)), (2, .ref (q_m 0)), (3, .int z)] 431 [.int r2]
  refine V_aload_n (pc := 431) C 2 dL_law_431 rfl rfl ?_
  refine V_aload_n (pc := 432) C 0 dL_law_432 rfl rfl ?_
  refine V_iload_n (pc := 433) C 3 dL_law_433 rfl rfl ?_
  refine V_iconst (pc := 434) C dL_law_434 ki_1 ?_
  refine V_iadd (pc := 435) C dL_law_435 ?_
  refine V_sld (pc := 436) C hX hbl hbA h1 dL_law_436 ?_
  refine V_aload_n (pc := 437) C 0 dL_law_437 rfl rfl ?_
  refine V_iload_n (pc := 438) C 3 dL_law_438 rfl rfl ?_
  refine V_iconst (pc := 439) C dL_law_439 ki_2 ?_
  refine V_iadd (pc := 440) C dL_law_440 ?_
  refine V_sld (pc := 441) C hX hbl hbA h2 dL_law_441 ?_
  refine V_cutVi (pc := 442) (As := [.int (xs (Int32.toNatClampNeg (z + 1))), .int (xs (Int32.toNatClampNeg (z + 2)))]) (st := [.int r2]) (wr := ((wX q_x q_c q_s q_w q_h q_t x0 (xb') (xn') (xf')) ++ ((wC cI q_c fi se tr lev li co pa ic nc pc) ++ ((wC cI q_s ufi use utr ulev uli uco upa uic unc upc) ++ ((wS cI q_w fo re le gr lg nwn rows gb lc rc cc pr al) ++ ((wH cI cC q_h qs_h yf ys yt yl yi yo yp yn yk yq yw yz) ++ (wT cI q_t tby ks ns tln ocn okn gvn fgn))))))) C (c_M_at (post := fun a => a = (r2, ref', tb', al2')) ⟨_, e2, rfl⟩) mk_X5_at wd_764 dL_law_442 72 rfl rfl rfl ⟨Nat.le_of_ble_eq_true rfl, Nat.le_of_ble_eq_true rfl⟩ iM iX iMM (cutM rfl rfl) ndM (fun u => joinM rfl rfl) (Nat.le_of_ble_eq_true rfl) rfl (fun r3 u hw => ?_)
  have hw : (r3, u) = (r2, ref', tb', al2') := hw
  obtain ⟨rfl, rfl⟩ := Prod.mk.inj hw
  clear hw
  show V p l e room_1 s m #[Value.ref b] below meth c D A 4 kc ks Q (((wX q_x q_c q_s q_w q_h q_t x0 (xb') (xn') (xf')) ++ ((wC cI q_c fi se tr lev li co pa ic nc pc) ++ ((wC cI q_s ufi use utr ulev uli uco upa uic unc upc) ++ ((wS cI q_w fo re le gr lg nwn rows gb lc rc cc pr al) ++ ((wH cI cC q_h qs_h yf ys yt yl yi yo yp yn yk yq yw yz) ++ (wT cI q_t tby ks ns tln ocn okn gvn fgn)))))) ++ (wM cI q_m now aside past stt (ref') text len (tb') (al2') rb rm fm lm gm wh ck nb dep spot flt ords lets prts hash)) [(0, .ref b), (1, .ref (q_x 0)), (2, .ref (q_m 0)), (3, .int z)] 445 [.int r3, .int r3]
  exact V_icmp_eq (pc := 445) (tgt := 835) C dL_law_445 rfl (fun _ => k _ ⟨x0, xb', xn', xf', fi, se, tr, lev, li, co, pa, ic, nc, pc, ufi, use, utr, ulev, uli, uco, upa, uic, unc, upc, fo, re, le, gr, lg, nwn, rows, gb, lc, rc, cc, pr, al, yf, ys, yt, yl, yi, yo, yp, yn, yk, yq, yw, yz, tby, ks, ns, tln, ocn, okn, gvn, fgn, now, aside, past, stt, ref', text, len, tb', al2', rb, rm, fm, lm, gm, wh, ck, nb, dep, spot, flt, ords, lets, prts, hash, rfl, hQ, hF', hT⟩) (fun h => absurd rfl h)
set_option maxRecDepth 100000 in
set_option maxHeartbeats 4000000 in
theorem l_depth (C : Cx p room_1 s m #[Value.ref b] meth c cL_law 4 R_law ret D cI cC A kc ks) (hX : va_X b L xs s s.heap) (hbl : b < s.heap.size) (hbA : ¬ A b) {z : Int32} (h1 : vp_in (z + 1) L) (hI : LI cI cC q_x q_c q_s q_w q_h qs_h q_t q_m ws) (k : ∀ ws', LI cI cC q_x q_c q_s q_w q_h qs_h q_t q_m ws' → V p l e room_1 s m #[Value.ref b] below meth c D A 4 kc ks Q ws' [(0, .ref b), (1, .ref (q_x 0)), (2, .ref (q_m 0)), (3, .int z)] 835 []) : V p l e room_1 s m #[Value.ref b] below meth c D A 4 kc ks Q ws [(0, .ref b), (1, .ref (q_x 0)), (2, .ref (q_m 0)), (3, .int z)] 450 [] := by
  obtain ⟨x0, xb, xn, xf, fi, se, tr, lev, li, co, pa, ic, nc, pc, ufi, use, utr, ulev, uli, uco, upa, uic, unc, upc, fo, re, le, gr, lg, nwn, rows, gb, lc, rc, cc, pr, al, yf, ys, yt, yl, yi, yo, yp, yn, yk, yq, yw, yz, tby, ks, ns, tln, ocn, okn, gvn, fgn, now, aside, past, stt, ref, text, len, tb, al2, rb, rm, fm, lm, gm, wh, ck, nb, dep, spot, flt, ords, lets, prts, hash, rfl, hQ, hF, hT⟩ := hI
  have hQ0 := hQ
  obtain ⟨M, hW, hc, hm, hH, hS⟩ := hQ
  have hQ := hQ0
  obtain ⟨r, xb', xn', xf', ref', dep', e1, e2, hF'⟩ := g_depth hW hc hm hF dep (xs (Int32.toNatClampNeg (z + 1)))
  refine V_aload_n (pc := 450) C 1 dL_law_450 rfl rfl ?_
  refine V_aload_n (pc := 451) C 0 dL_law_451 rfl rfl ?_
  refine V_iload_n (pc := 452) C 3 dL_law_452 rfl rfl ?_
  refine V_iconst (pc := 453) C dL_law_453 ki_1 ?_
  refine V_iadd (pc := 454) C dL_law_454 ?_
  refine V_sld (pc := 455) C hX hbl hbA h1 dL_law_455 ?_
  refine V_cutVi (pc := 456) (As := [.int (xs (Int32.toNatClampNeg (z + 1)))]) (st := []) (wr := (wM cI q_m now aside past stt ref text len tb al2 rb rm fm lm gm wh ck nb dep spot flt ords lets prts hash)) C (c_X_depth (post := fun a => a = (r, xb', xn', xf')) ⟨_, e1, rfl⟩) mk_X4_depth wd_366 dL_law_456 0 rfl rfl rfl ⟨Nat.le_of_ble_eq_true rfl, Nat.le_of_ble_eq_true rfl⟩ iX iM iN (cutX rfl rfl) ndN (fun u => joinX rfl rfl) (Nat.le_of_ble_eq_true rfl) rfl (fun r2 u hw => ?_)
  have hw : (r2, u) = (r, xb', xn', xf') := hw
  obtain ⟨rfl, rfl⟩ := Prod.mk.inj hw
  clear hw
  show V p l e room_1 s m #[Value.ref b] below meth c D A 4 kc ks Q (((wX q_x q_c q_s q_w q_h q_t x0 (xb') (xn') (xf')) ++ ((wC cI q_c fi se tr lev li co pa ic nc pc) ++ ((wC cI q_s ufi use utr ulev uli uco upa uic unc upc) ++ ((wS cI q_w fo re le gr lg nwn rows gb lc rc cc pr al) ++ ((wH cI cC q_h qs_h yf ys yt yl yi yo yp yn yk yq yw yz) ++ (wT cI q_t tby ks ns tln ocn okn gvn fgn)))))) ++ (wM cI q_m now aside past stt ref text len tb al2 rb rm fm lm gm wh ck nb dep spot flt ords lets prts hash)) [(0, .ref b), (1, .ref (q_x 0)), (2, .ref (q_m 0)), (3, .int z)] 459 [.int r2]
  refine V_aload_n (pc := 459) C 2 dL_law_459 rfl rfl ?_
  refine V_aload_n (pc := 460) C 0 dL_law_460 rfl rfl ?_
  refine V_iload_n (pc := 461) C 3 dL_law_461 rfl rfl ?_
  refine V_iconst (pc := 462) C dL_law_462 ki_1 ?_
  refine V_iadd (pc := 463) C dL_law_463 ?_
  refine V_sld (pc := 464) C hX hbl hbA h1 dL_law_464 ?_
  refine V_cutVi (pc := 465) (As := [.int (xs (Int32.toNatClampNeg (z + 1)))]) (st := [.int r2]) (wr := ((wX q_x q_c q_s q_w q_h q_t x0 (xb') (xn') (xf')) ++ ((wC cI q_c fi se tr lev li co pa ic nc pc) ++ ((wC cI q_s ufi use utr ulev uli uco upa uic unc upc) ++ ((wS cI q_w fo re le gr lg nwn rows gb lc rc cc pr al) ++ ((wH cI cC q_h qs_h yf ys yt yl yi yo yp yn yk yq yw yz) ++ (wT cI q_t tby ks ns tln ocn okn gvn fgn))))))) C (c_M_depth (post := fun a => a = (r2, ref', dep')) ⟨_, e2, rfl⟩) mk_X5_depth wd_768 dL_law_465 72 rfl rfl rfl ⟨Nat.le_of_ble_eq_true rfl, Nat.le_of_ble_eq_true rfl⟩ iM iX iMM (cutM rfl rfl) ndM (fun u => joinM rfl rfl) (Nat.le_of_ble_eq_true rfl) rfl (fun r3 u hw => ?_)
  have hw : (r3, u) = (r2, ref', dep') := hw
  obtain ⟨rfl, rfl⟩ := Prod.mk.inj hw
  clear hw
  show V p l e room_1 s m #[Value.ref b] below meth c D A 4 kc ks Q (((wX q_x q_c q_s q_w q_h q_t x0 (xb') (xn') (xf')) ++ ((wC cI q_c fi se tr lev li co pa ic nc pc) ++ ((wC cI q_s ufi use utr ulev uli uco upa uic unc upc) ++ ((wS cI q_w fo re le gr lg nwn rows gb lc rc cc pr al) ++ ((wH cI cC q_h qs_h yf ys yt yl yi yo yp yn yk yq yw yz) ++ (wT cI q_t tby ks ns tln ocn okn gvn fgn)))))) ++ (wM cI q_m now aside past stt (ref') text len tb al2 rb rm fm lm gm wh ck nb (dep') spot flt ords lets prts hash)) [(0, .ref b), (1, .ref (q_x 0)), (2, .ref (q_m 0)), (3, .int z)] 468 [.int r3, .int r3]
  exact V_icmp_eq (pc := 468) (tgt := 835) C dL_law_468 rfl (fun _ => k _ ⟨x0, xb', xn', xf', fi, se, tr, lev, li, co, pa, ic, nc, pc, ufi, use, utr, ulev, uli, uco, upa, uic, unc, upc, fo, re, le, gr, lg, nwn, rows, gb, lc, rc, cc, pr, al, yf, ys, yt, yl, yi, yo, yp, yn, yk, yq, yw, yz, tby, ks, ns, tln, ocn, okn, gvn, fgn, now, aside, past, stt, ref', text, len, tb, al2, rb, rm, fm, lm, gm, wh, ck, nb, dep', spot, flt, ords, lets, prts, hash, rfl, hQ, hF', hT⟩) (fun h => absurd rfl h)
set_option maxRecDepth 100000 in
set_option maxHeartbeats 4000000 in
theorem l_cone (C : Cx p room_1 s m #[Value.ref b] meth c cL_law 4 R_law ret D cI cC A kc ks) (hX : va_X b L xs s s.heap) (hbl : b < s.heap.size) (hbA : ¬ A b) {z : Int32} (h1 : vp_in (z + 1) L) (hI : LI cI cC q_x q_c q_s q_w q_h qs_h q_t q_m ws) (k : ∀ ws', LI cI cC q_x q_c q_s q_w q_h qs_h q_t q_m ws' → V p l e room_1 s m #[Value.ref b] below meth c D A 4 kc ks Q ws' [(0, .ref b), (1, .ref (q_x 0)), (2, .ref (q_m 0)), (3, .int z)] 835 []) : V p l e room_1 s m #[Value.ref b] below meth c D A 4 kc ks Q ws [(0, .ref b), (1, .ref (q_x 0)), (2, .ref (q_m 0)), (3, .int z)] 473 [] := by
  obtain ⟨x0, xb, xn, xf, fi, se, tr, lev, li, co, pa, ic, nc, pc, ufi, use, utr, ulev, uli, uco, upa, uic, unc, upc, fo, re, le, gr, lg, nwn, rows, gb, lc, rc, cc, pr, al, yf, ys, yt, yl, yi, yo, yp, yn, yk, yq, yw, yz, tby, ks, ns, tln, ocn, okn, gvn, fgn, now, aside, past, stt, ref, text, len, tb, al2, rb, rm, fm, lm, gm, wh, ck, nb, dep, spot, flt, ords, lets, prts, hash, rfl, hQ, hF, hT⟩ := hI
  have hQ0 := hQ
  obtain ⟨M, hW, hc, hm, hH, hS⟩ := hQ
  have hQ := hQ0
  obtain ⟨r, xb', xn', xf', ref', e1, e2, hF'⟩ := g_cone hW hc hm hF (xs (Int32.toNatClampNeg (z + 1)))
  refine V_aload_n (pc := 473) C 1 dL_law_473 rfl rfl ?_
  refine V_aload_n (pc := 474) C 0 dL_law_474 rfl rfl ?_
  refine V_iload_n (pc := 475) C 3 dL_law_475 rfl rfl ?_
  refine V_iconst (pc := 476) C dL_law_476 ki_1 ?_
  refine V_iadd (pc := 477) C dL_law_477 ?_
  refine V_sld (pc := 478) C hX hbl hbA h1 dL_law_478 ?_
  refine V_cutVi (pc := 479) (As := [.int (xs (Int32.toNatClampNeg (z + 1)))]) (st := []) (wr := (wM cI q_m now aside past stt ref text len tb al2 rb rm fm lm gm wh ck nb dep spot flt ords lets prts hash)) C (c_X_cone (post := fun a => a = (r, xb', xn', xf')) ⟨_, e1, rfl⟩) mk_X4_cone wd_371 dL_law_479 0 rfl rfl rfl ⟨Nat.le_of_ble_eq_true rfl, Nat.le_of_ble_eq_true rfl⟩ iX iM iN (cutX rfl rfl) ndN (fun u => joinX rfl rfl) (Nat.le_of_ble_eq_true rfl) rfl (fun r2 u hw => ?_)
  have hw : (r2, u) = (r, xb', xn', xf') := hw
  obtain ⟨rfl, rfl⟩ := Prod.mk.inj hw
  clear hw
  show V p l e room_1 s m #[Value.ref b] below meth c D A 4 kc ks Q (((wX q_x q_c q_s q_w q_h q_t x0 (xb') (xn') (xf')) ++ ((wC cI q_c fi se tr lev li co pa ic nc pc) ++ ((wC cI q_s ufi use utr ulev uli uco upa uic unc upc) ++ ((wS cI q_w fo re le gr lg nwn rows gb lc rc cc pr al) ++ ((wH cI cC q_h qs_h yf ys yt yl yi yo yp yn yk yq yw yz) ++ (wT cI q_t tby ks ns tln ocn okn gvn fgn)))))) ++ (wM cI q_m now aside past stt ref text len tb al2 rb rm fm lm gm wh ck nb dep spot flt ords lets prts hash)) [(0, .ref b), (1, .ref (q_x 0)), (2, .ref (q_m 0)), (3, .int z)] 482 [.int r2]
  refine V_aload_n (pc := 482) C 2 dL_law_482 rfl rfl ?_
  refine V_aload_n (pc := 483) C 0 dL_law_483 rfl rfl ?_
  refine V_iload_n (pc := 484) C 3 dL_law_484 rfl rfl ?_
  refine V_iconst (pc := 485) C dL_law_485 ki_1 ?_
  refine V_iadd (pc := 486) C dL_law_486 ?_
  refine V_sld (pc := 487) C hX hbl hbA h1 dL_law_487 ?_
  refine V_cutVi (pc := 488) (As := [.int (xs (Int32.toNatClampNeg (z + 1)))]) (st := [.int r2]) (wr := ((wX q_x q_c q_s q_w q_h q_t x0 (xb') (xn') (xf')) ++ ((wC cI q_c fi se tr lev li co pa ic nc pc) ++ ((wC cI q_s ufi use utr ulev uli uco upa uic unc upc) ++ ((wS cI q_w fo re le gr lg nwn rows gb lc rc cc pr al) ++ ((wH cI cC q_h qs_h yf ys yt yl yi yo yp yn yk yq yw yz) ++ (wT cI q_t tby ks ns tln ocn okn gvn fgn))))))) C (c_M_cone (post := fun a => a = (r2, ref')) ⟨_, e2, rfl⟩) mk_X5_cone wd_775 dL_law_488 72 rfl rfl rfl ⟨Nat.le_of_ble_eq_true rfl, Nat.le_of_ble_eq_true rfl⟩ iM iX iMM (cutM rfl rfl) ndM (fun u => joinM rfl rfl) (Nat.le_of_ble_eq_true rfl) rfl (fun r3 u hw => ?_)
  have hw : (r3, u) = (r2, ref') := hw
  obtain ⟨rfl, rfl⟩ := Prod.mk.inj hw
  clear hw
  show V p l e room_1 s m #[Value.ref b] below meth c D A 4 kc ks Q (((wX q_x q_c q_s q_w q_h q_t x0 (xb') (xn') (xf')) ++ ((wC cI q_c fi se tr lev li co pa ic nc pc) ++ ((wC cI q_s ufi use utr ulev uli uco upa uic unc upc) ++ ((wS cI q_w fo re le gr lg nwn rows gb lc rc cc pr al) ++ ((wH cI cC q_h qs_h yf ys yt yl yi yo yp yn yk yq yw yz) ++ (wT cI q_t tby ks ns tln ocn okn gvn fgn)))))) ++ (wM cI q_m now aside past stt (ref') text len tb al2 rb rm fm lm gm wh ck nb dep spot flt ords lets prts hash)) [(0, .ref b), (1, .ref (q_x 0)), (2, .ref (q_m 0)), (3, .int z)] 491 [.int r3, .int r3]
  exact V_icmp_eq (pc := 491) (tgt := 835) C dL_law_491 rfl (fun _ => k _ ⟨x0, xb', xn', xf', fi, se, tr, lev, li, co, pa, ic, nc, pc, ufi, use, utr, ulev, uli, uco, upa, uic, unc, upc, fo, re, le, gr, lg, nwn, rows, gb, lc, rc, cc, pr, al, yf, ys, yt, yl, yi, yo, yp, yn, yk, yq, yw, yz, tby, ks, ns, tln, ocn, okn, gvn, fgn, now, aside, past, stt, ref', text, len, tb, al2, rb, rm, fm, lm, gm, wh, ck, nb, dep, spot, flt, ords, lets, prts, hash, rfl, hQ, hF', hT⟩) (fun h => absurd rfl h)
set_option maxRecDepth 100000 in
set_option maxHeartbeats 4000000 in
theorem l_outs (C : Cx p room_1 s m #[Value.ref b] meth c cL_law 4 R_law ret D cI cC A kc ks) (hX : va_X b L xs s s.heap) (hbl : b < s.heap.size) (hbA : ¬ A b) {z : Int32} (h1 : vp_in (z + 1) L) (h2 : vp_in (z + 2) L) (hI : LI cI cC q_x q_c q_s q_w q_h qs_h q_t q_m ws) (k : ∀ ws', LI cI cC q_x q_c q_s q_w q_h qs_h q_t q_m ws' → V p l e room_1 s m #[Value.ref b] below meth c D A 4 kc ks Q ws' [(0, .ref b), (1, .ref (q_x 0)), (2, .ref (q_m 0)), (3, .int z)] 835 []) : V p l e room_1 s m #[Value.ref b] below meth c D A 4 kc ks Q ws [(0, .ref b), (1, .ref (q_x 0)), (2, .ref (q_m 0)), (3, .int z)] 496 [] := by
  obtain ⟨x0, xb, xn, xf, fi, se, tr, lev, li, co, pa, ic, nc, pc, ufi, use, utr, ulev, uli, uco, upa, uic, unc, upc, fo, re, le, gr, lg, nwn, rows, gb, lc, rc, cc, pr, al, yf, ys, yt, yl, yi, yo, yp, yn, yk, yq, yw, yz, tby, ks, ns, tln, ocn, okn, gvn, fgn, now, aside, past, stt, ref, text, len, tb, al2, rb, rm, fm, lm, gm, wh, ck, nb, dep, spot, flt, ords, lets, prts, hash, rfl, hQ, hF, hT⟩ := hI
  have hQ0 := hQ
  obtain ⟨M, hW, hc, hm, hH, hS⟩ := hQ
  have hQ := hQ0
  obtain ⟨r, xb', xn', xf', ref', e1, e2, hF'⟩ := g_outs hW hc hm hF (xs (Int32.toNatClampNeg (z + 1))) (xs (Int32.toNatClampNeg (z + 2)))
  refine V_aload_n (pc := 496) C 1 dL_law_496 rfl rfl ?_
  refine V_aload_n (pc := 497) C 0 dL_law_497 rfl rfl ?_
  refine V_iload_n (pc := 498) C 3 dL_law_498 rfl rfl ?_
  refine V_iconst (pc := 499) C dL_law_499 ki_1 ?_
  refine V_iadd (pc := 500) C dL_law_500 ?_
  refine V_sld (pc := 501) C hX hbl hbA h1 dL_law_501 ?_
  refine V_aload_n (pc := 502) C 0 dL_law_502 rfl rfl ?_
  refine V_iload_n (pc := 503) C 3 dL_law_503 rfl rfl ?_
  refine V_iconst (pc := 504) C dL_law_504 ki_2 ?_
  refine V_iadd (pc := 505) C dL_law_505 ?_
  refine V_sld (pc := 506) C hX hbl hbA h2 dL_law_506 ?_
  refine V_cutVi (pc := 507) (As := [.int (xs (Int32.toNatClampNeg (z + 1))), .int (xs (Int32.toNatClampNeg (z + 2)))]) (st := []) (wr := (wM cI q_m now aside past stt ref text len tb al2 rb rm fm lm gm wh ck nb dep spot flt ords lets prts hash)) C (c_X_outs (post := fun a => a = (r, xb', xn', xf')) ⟨_, e1, rfl⟩) mk_X4_outs wd_379 dL_law_507 0 rfl rfl rfl ⟨Nat.le_of_ble_eq_true rfl, Nat.le_of_ble_eq_true rfl⟩ iX iM iN (cutX rfl rfl) ndN (fun u => joinX rfl rfl) (Nat.le_of_ble_eq_true rfl) rfl (fun r2 u hw => ?_)
  have hw : (r2, u) = (r, xb', xn', xf') := hw
  obtain ⟨rfl, rfl⟩ := Prod.mk.inj hw
  clear hw
  show V p l e room_1 s m #[Value.ref b] below meth c D A 4 kc ks Q (((wX q_x q_c q_s q_w q_h q_t x0 (xb') (xn') (xf')) ++ ((wC cI q_c fi se tr lev li co pa ic nc pc) ++ ((wC cI q_s ufi use utr ulev uli uco upa uic unc upc) ++ ((wS cI q_w fo re le gr lg nwn rows gb lc rc cc pr al) ++ ((wH cI cC q_h qs_h yf ys yt yl yi yo yp yn yk yq yw yz) ++ (wT cI q_t tby ks ns tln ocn okn gvn fgn)))))) ++ (wM cI q_m now aside past stt ref text len tb al2 rb rm fm lm gm wh ck nb dep spot flt ords lets prts hash)) [(0, .ref b), (1, .ref (q_x 0)), (2, .ref (q_m 0)), (3, .int z)] 510 [.int r2]
  refine V_aload_n (pc := 510) C 2 dL_law_510 rfl rfl ?_
  refine V_aload_n (pc := 511) C 0 dL_law_511 rfl rfl ?_
  refine V_iload_n (pc := 512) C 3 dL_law_512 rfl rfl ?_
  refine V_iconst (pc := 513) C dL_law_513 ki_1 ?_
  refine V_iadd (pc := 514) C dL_law_514 ?_
  refine V_sld (pc := 515) C hX hbl hbA h1 dL_law_515 ?_
  refine V_aload_n (pc := 516) C 0 dL_law_516 rfl rfl ?_
  refine V_iload_n (pc := 517) C 3 dL_law_517 rfl rfl ?_
  refine V_iconst (pc := 518) C dL_law_518 ki_2 ?_
  refine V_iadd (pc := 519) C dL_law_519 ?_
  refine V_sld (pc := 520) C hX hbl hbA h2 dL_law_520 ?_
  refine V_cutVi (pc := 521) (As := [.int (xs (Int32.toNatClampNeg (z + 1))), .int (xs (Int32.toNatClampNeg (z + 2)))]) (st := [.int r2]) (wr := ((wX q_x q_c q_s q_w q_h q_t x0 (xb') (xn') (xf')) ++ ((wC cI q_c fi se tr lev li co pa ic nc pc) ++ ((wC cI q_s ufi use utr ulev uli uco upa uic unc upc) ++ ((wS cI q_w fo re le gr lg nwn rows gb lc rc cc pr al) ++ ((wH cI cC q_h qs_h yf ys yt yl yi yo yp yn yk yq yw yz) ++ (wT cI q_t tby ks ns tln ocn okn gvn fgn))))))) C (c_M_outs (post := fun a => a = (r2, ref')) ⟨_, e2, rfl⟩) mk_X5_outs wd_782 dL_law_521 72 rfl rfl rfl ⟨Nat.le_of_ble_eq_true rfl, Nat.le_of_ble_eq_true rfl⟩ iM iX iMM (cutM rfl rfl) ndM (fun u => joinM rfl rfl) (Nat.le_of_ble_eq_true rfl) rfl (fun r3 u hw => ?_)
  have hw : (r3, u) = (r2, ref') := hw
  obtain ⟨rfl, rfl⟩ := Prod.mk.inj hw
  clear hw
  show V p l e room_1 s m #[Value.ref b] below meth c D A 4 kc ks Q (((wX q_x q_c q_s q_w q_h q_t x0 (xb') (xn') (xf')) ++ ((wC cI q_c fi se tr lev li co pa ic nc pc) ++ ((wC cI q_s ufi use utr ulev uli uco upa uic unc upc) ++ ((wS cI q_w fo re le gr lg nwn rows gb lc rc cc pr al) ++ ((wH cI cC q_h qs_h yf ys yt yl yi yo yp yn yk yq yw yz) ++ (wT cI q_t tby ks ns tln ocn okn gvn fgn)))))) ++ (wM cI q_m now aside past stt (ref') text len tb al2 rb rm fm lm gm wh ck nb dep spot flt ords lets prts hash)) [(0, .ref b), (1, .ref (q_x 0)), (2, .ref (q_m 0)), (3, .int z)] 524 [.int r3, .int r3]
  exact V_icmp_eq (pc := 524) (tgt := 835) C dL_law_524 rfl (fun _ => k _ ⟨x0, xb', xn', xf', fi, se, tr, lev, li, co, pa, ic, nc, pc, ufi, use, utr, ulev, uli, uco, upa, uic, unc, upc, fo, re, le, gr, lg, nwn, rows, gb, lc, rc, cc, pr, al, yf, ys, yt, yl, yi, yo, yp, yn, yk, yq, yw, yz, tby, ks, ns, tln, ocn, okn, gvn, fgn, now, aside, past, stt, ref', text, len, tb, al2, rb, rm, fm, lm, gm, wh, ck, nb, dep, spot, flt, ords, lets, prts, hash, rfl, hQ, hF', hT⟩) (fun h => absurd rfl h)
set_option maxRecDepth 100000 in
set_option maxHeartbeats 4000000 in
theorem l_count (C : Cx p room_1 s m #[Value.ref b] meth c cL_law 4 R_law ret D cI cC A kc ks) (hX : va_X b L xs s s.heap) (hbl : b < s.heap.size) (hbA : ¬ A b) {z : Int32} (h1 : vp_in (z + 1) L) (hI : LI cI cC q_x q_c q_s q_w q_h qs_h q_t q_m ws) (k : ∀ ws', LI cI cC q_x q_c q_s q_w q_h qs_h q_t q_m ws' → V p l e room_1 s m #[Value.ref b] below meth c D A 4 kc ks Q ws' [(0, .ref b), (1, .ref (q_x 0)), (2, .ref (q_m 0)), (3, .int z)] 835 []) : V p l e room_1 s m #[Value.ref b] below meth c D A 4 kc ks Q ws [(0, .ref b), (1, .ref (q_x 0)), (2, .ref (q_m 0)), (3, .int z)] 529 [] := by
  obtain ⟨x0, xb, xn, xf, fi, se, tr, lev, li, co, pa, ic, nc, pc, ufi, use, utr, ulev, uli, uco, upa, uic, unc, upc, fo, re, le, gr, lg, nwn, rows, gb, lc, rc, cc, pr, al, yf, ys, yt, yl, yi, yo, yp, yn, yk, yq, yw, yz, tby, ks, ns, tln, ocn, okn, gvn, fgn, now, aside, past, stt, ref, text, len, tb, al2, rb, rm, fm, lm, gm, wh, ck, nb, dep, spot, flt, ords, lets, prts, hash, rfl, hQ, hF, hT⟩ := hI
  have hQ0 := hQ
  obtain ⟨M, hW, hc, hm, hH, hS⟩ := hQ
  have hQ := hQ0
  obtain ⟨r, xb', xn', xf', ref', e1, e2, hF'⟩ := g_count hc hm hF (xs (Int32.toNatClampNeg (z + 1)))
  refine V_aload_n (pc := 529) C 1 dL_law_529 rfl rfl ?_
  refine V_aload_n (pc := 530) C 0 dL_law_530 rfl rfl ?_
  refine V_iload_n (pc := 531) C 3 dL_law_531 rfl rfl ?_
  refine V_iconst (pc := 532) C dL_law_532 ki_1 ?_
  refine V_iadd (pc := 533) C dL_law_533 ?_
  refine V_sld (pc := 534) C hX hbl hbA h1 dL_law_534 ?_
  refine V_cutVi (pc := 535) (As := [.int (xs (Int32.toNatClampNeg (z + 1)))]) (st := []) (wr := (wM cI q_m now aside past stt ref text len tb al2 rb rm fm lm gm wh ck nb dep spot flt ords lets prts hash)) C (c_X_count (post := fun a => a = (r, xb', xn', xf')) ⟨_, e1, rfl⟩) mk_X4_count wd_385 dL_law_535 0 rfl rfl rfl ⟨Nat.le_of_ble_eq_true rfl, Nat.le_of_ble_eq_true rfl⟩ iX iM iN (cutX rfl rfl) ndN (fun u => joinX rfl rfl) (Nat.le_of_ble_eq_true rfl) rfl (fun r2 u hw => ?_)
  have hw : (r2, u) = (r, xb', xn', xf') := hw
  obtain ⟨rfl, rfl⟩ := Prod.mk.inj hw
  clear hw
  show V p l e room_1 s m #[Value.ref b] below meth c D A 4 kc ks Q (((wX q_x q_c q_s q_w q_h q_t x0 (xb') (xn') (xf')) ++ ((wC cI q_c fi se tr lev li co pa ic nc pc) ++ ((wC cI q_s ufi use utr ulev uli uco upa uic unc upc) ++ ((wS cI q_w fo re le gr lg nwn rows gb lc rc cc pr al) ++ ((wH cI cC q_h qs_h yf ys yt yl yi yo yp yn yk yq yw yz) ++ (wT cI q_t tby ks ns tln ocn okn gvn fgn)))))) ++ (wM cI q_m now aside past stt ref text len tb al2 rb rm fm lm gm wh ck nb dep spot flt ords lets prts hash)) [(0, .ref b), (1, .ref (q_x 0)), (2, .ref (q_m 0)), (3, .int z)] 538 [.int r2]
  refine V_aload_n (pc := 538) C 2 dL_law_538 rfl rfl ?_
  refine V_aload_n (pc := 539) C 0 dL_law_539 rfl rfl ?_
  refine V_iload_n (pc := 540) C 3 dL_law_540 rfl rfl ?_
  refine V_iconst (pc := 541) C dL_law_541 ki_1 ?_
  refine V_iadd (pc := 542) C dL_law_542 ?_
  refine V_sld (pc := 543) C hX hbl hbA h1 dL_law_543 ?_
  refine V_cutVi (pc := 544) (As := [.int (xs (Int32.toNatClampNeg (z + 1)))]) (st := [.int r2]) (wr := ((wX q_x q_c q_s q_w q_h q_t x0 (xb') (xn') (xf')) ++ ((wC cI q_c fi se tr lev li co pa ic nc pc) ++ ((wC cI q_s ufi use utr ulev uli uco upa uic unc upc) ++ ((wS cI q_w fo re le gr lg nwn rows gb lc rc cc pr al) ++ ((wH cI cC q_h qs_h yf ys yt yl yi yo yp yn yk yq yw yz) ++ (wT cI q_t tby ks ns tln ocn okn gvn fgn))))))) C (c_M_count (post := fun a => a = (r2, ref')) ⟨_, e2, rfl⟩) mk_X5_count wd_786 dL_law_544 72 rfl rfl rfl ⟨Nat.le_of_ble_eq_true rfl, Nat.le_of_ble_eq_true rfl⟩ iM iX iMM (cutM rfl rfl) ndM (fun u => joinM rfl rfl) (Nat.le_of_ble_eq_true rfl) rfl (fun r3 u hw => ?_)
  have hw : (r3, u) = (r2, ref') := hw
  obtain ⟨rfl, rfl⟩ := Prod.mk.inj hw
  clear hw
  show V p l e room_1 s m #[Value.ref b] below meth c D A 4 kc ks Q (((wX q_x q_c q_s q_w q_h q_t x0 (xb') (xn') (xf')) ++ ((wC cI q_c fi se tr lev li co pa ic nc pc) ++ ((wC cI q_s ufi use utr ulev uli uco upa uic unc upc) ++ ((wS cI q_w fo re le gr lg nwn rows gb lc rc cc pr al) ++ ((wH cI cC q_h qs_h yf ys yt yl yi yo yp yn yk yq yw yz) ++ (wT cI q_t tby ks ns tln ocn okn gvn fgn)))))) ++ (wM cI q_m now aside past stt (ref') text len tb al2 rb rm fm lm gm wh ck nb dep spot flt ords lets prts hash)) [(0, .ref b), (1, .ref (q_x 0)), (2, .ref (q_m 0)), (3, .int z)] 547 [.int r3, .int r3]
  exact V_icmp_eq (pc := 547) (tgt := 835) C dL_law_547 rfl (fun _ => k _ ⟨x0, xb', xn', xf', fi, se, tr, lev, li, co, pa, ic, nc, pc, ufi, use, utr, ulev, uli, uco, upa, uic, unc, upc, fo, re, le, gr, lg, nwn, rows, gb, lc, rc, cc, pr, al, yf, ys, yt, yl, yi, yo, yp, yn, yk, yq, yw, yz, tby, ks, ns, tln, ocn, okn, gvn, fgn, now, aside, past, stt, ref', text, len, tb, al2, rb, rm, fm, lm, gm, wh, ck, nb, dep, spot, flt, ords, lets, prts, hash, rfl, hQ, hF', hT⟩) (fun h => absurd rfl h)
set_option maxRecDepth 100000 in
set_option maxHeartbeats 4000000 in
theorem l_sign (C : Cx p room_1 s m #[Value.ref b] meth c cL_law 4 R_law ret D cI cC A kc ks) (hX : va_X b L xs s s.heap) (hbl : b < s.heap.size) (hbA : ¬ A b) {z : Int32} (h1 : vp_in (z + 1) L) (hI : LI cI cC q_x q_c q_s q_w q_h qs_h q_t q_m ws) (k : ∀ ws', LI cI cC q_x q_c q_s q_w q_h qs_h q_t q_m ws' → V p l e room_1 s m #[Value.ref b] below meth c D A 4 kc ks Q ws' [(0, .ref b), (1, .ref (q_x 0)), (2, .ref (q_m 0)), (3, .int z)] 835 []) : V p l e room_1 s m #[Value.ref b] below meth c D A 4 kc ks Q ws [(0, .ref b), (1, .ref (q_x 0)), (2, .ref (q_m 0)), (3, .int z)] 552 [] := by
  obtain ⟨x0, xb, xn, xf, fi, se, tr, lev, li, co, pa, ic, nc, pc, ufi, use, utr, ulev, uli, uco, upa, uic, unc, upc, fo, re, le, gr, lg, nwn, rows, gb, lc, rc, cc, pr, al, yf, ys, yt, yl, yi, yo, yp, yn, yk, yq, yw, yz, tby, ks, ns, tln, ocn, okn, gvn, fgn, now, aside, past, stt, ref, text, len, tb, al2, rb, rm, fm, lm, gm, wh, ck, nb, dep, spot, flt, ords, lets, prts, hash, rfl, hQ, hF, hT⟩ := hI
  have hQ0 := hQ
  obtain ⟨M, hW, hc, hm, hH, hS⟩ := hQ
  have hQ := hQ0
  obtain ⟨r, xb', xn', xf', ref', tb', al2', e1, e2, hF'⟩ := g_sign hW hc hm hF tb al2 (xs (Int32.toNatClampNeg (z + 1)))
  refine V_aload_n (pc := 552) C 1 dL_law_552 rfl rfl ?_
  refine V_aload_n (pc := 553) C 0 dL_law_553 rfl rfl ?_
  refine V_iload_n (pc := 554) C 3 dL_law_554 rfl rfl ?_
  refine V_iconst (pc := 555) C dL_law_555 ki_1 ?_
  refine V_iadd (pc := 556) C dL_law_556 ?_
  refine V_sld (pc := 557) C hX hbl hbA h1 dL_law_557 ?_
  refine V_cutVi (pc := 558) (As := [.int (xs (Int32.toNatClampNeg (z + 1)))]) (st := []) (wr := (wM cI q_m now aside past stt ref text len tb al2 rb rm fm lm gm wh ck nb dep spot flt ords lets prts hash)) C (c_X_sign (post := fun a => a = (r, xb', xn', xf')) ⟨_, e1, rfl⟩) mk_X4_sign wd_393 dL_law_558 0 rfl rfl rfl ⟨Nat.le_of_ble_eq_true rfl, Nat.le_of_ble_eq_true rfl⟩ iX iM iN (cutX rfl rfl) ndN (fun u => joinX rfl rfl) (Nat.le_of_ble_eq_true rfl) rfl (fun r2 u hw => ?_)
  have hw : (r2, u) = (r, xb', xn', xf') := hw
  obtain ⟨rfl, rfl⟩ := Prod.mk.inj hw
  clear hw
  show V p l e room_1 s m #[Value.ref b] below meth c D A 4 kc ks Q (((wX q_x q_c q_s q_w q_h q_t x0 (xb') (xn') (xf')) ++ ((wC cI q_c fi se tr lev li co pa ic nc pc) ++ ((wC cI q_s ufi use utr ulev uli uco upa uic unc upc) ++ ((wS cI q_w fo re le gr lg nwn rows gb lc rc cc pr al) ++ ((wH cI cC q_h qs_h yf ys yt yl yi yo yp yn yk yq yw yz) ++ (wT cI q_t tby ks ns tln ocn okn gvn fgn)))))) ++ (wM cI q_m now aside past stt ref text len tb al2 rb rm fm lm gm wh ck nb dep spot flt ords lets prts hash)) [(0, .ref b), (1, .ref (q_x 0)), (2, .ref (q_m 0)), (3, .int z)] 561 [.int r2]
  refine V_aload_n (pc := 561) C 2 dL_law_561 rfl rfl ?_
  refine V_aload_n (pc := 562) C 0 dL_law_562 rfl rfl ?_
  refine V_iload_n (pc := 563) C 3 dL_law_563 rfl rfl ?_
  refine V_iconst (pc := 564) C dL_law_564 ki_1 ?_
  refine V_iadd (pc := 565) C dL_law_565 ?_
  refine V_sld (pc := 566) C hX hbl hbA h1 dL_law_566 ?_
  refine V_cutVi (pc := 567) (As := [.int (xs (Int32.toNatClampNeg (z + 1)))]) (st := [.int r2]) (wr := ((wX q_x q_c q_s q_w q_h q_t x0 (xb') (xn') (xf')) ++ ((wC cI q_c fi se tr lev li co pa ic nc pc) ++ ((wC cI q_s ufi use utr ulev uli uco upa uic unc upc) ++ ((wS cI q_w fo re le gr lg nwn rows gb lc rc cc pr al) ++ ((wH cI cC q_h qs_h yf ys yt yl yi yo yp yn yk yq yw yz) ++ (wT cI q_t tby ks ns tln ocn okn gvn fgn))))))) C (c_M_sign (post := fun a => a = (r2, ref', tb', al2')) ⟨_, e2, rfl⟩) mk_X5_sign wd_793 dL_law_567 72 rfl rfl rfl ⟨Nat.le_of_ble_eq_true rfl, Nat.le_of_ble_eq_true rfl⟩ iM iX iMM (cutM rfl rfl) ndM (fun u => joinM rfl rfl) (Nat.le_of_ble_eq_true rfl) rfl (fun r3 u hw => ?_)
  have hw : (r3, u) = (r2, ref', tb', al2') := hw
  obtain ⟨rfl, rfl⟩ := Prod.mk.inj hw
  clear hw
  show V p l e room_1 s m #[Value.ref b] below meth c D A 4 kc ks Q (((wX q_x q_c q_s q_w q_h q_t x0 (xb') (xn') (xf')) ++ ((wC cI q_c fi se tr lev li co pa ic nc pc) ++ ((wC cI q_s ufi use utr ulev uli uco upa uic unc upc) ++ ((wS cI q_w fo re le gr lg nwn rows gb lc rc cc pr al) ++ ((wH cI cC q_h qs_h yf ys yt yl yi yo yp yn yk yq yw yz) ++ (wT cI q_t tby ks ns tln ocn okn gvn fgn)))))) ++ (wM cI q_m now aside past stt (ref') text len (tb') (al2') rb rm fm lm gm wh ck nb dep spot flt ords lets prts hash)) [(0, .ref b), (1, .ref (q_x 0)), (2, .ref (q_m 0)), (3, .int z)] 570 [.int r3, .int r3]
  exact V_icmp_eq (pc := 570) (tgt := 835) C dL_law_570 rfl (fun _ => k _ ⟨x0, xb', xn', xf', fi, se, tr, lev, li, co, pa, ic, nc, pc, ufi, use, utr, ulev, uli, uco, upa, uic, unc, upc, fo, re, le, gr, lg, nwn, rows, gb, lc, rc, cc, pr, al, yf, ys, yt, yl, yi, yo, yp, yn, yk, yq, yw, yz, tby, ks, ns, tln, ocn, okn, gvn, fgn, now, aside, past, stt, ref', text, len, tb', al2', rb, rm, fm, lm, gm, wh, ck, nb, dep, spot, flt, ords, lets, prts, hash, rfl, hQ, hF', hT⟩) (fun h => absurd rfl h)
set_option maxRecDepth 100000 in
set_option maxHeartbeats 4000000 in
theorem l_form (C : Cx p room_1 s m #[Value.ref b] meth c cL_law 4 R_law ret D cI cC A kc ks) (hX : va_X b L xs s s.heap) (hbl : b < s.heap.size) (hbA : ¬ A b) {z : Int32} (h1 : vp_in (z + 1) L) (hI : LI cI cC q_x q_c q_s q_w q_h qs_h q_t q_m ws) (k : ∀ ws', LI cI cC q_x q_c q_s q_w q_h qs_h q_t q_m ws' → V p l e room_1 s m #[Value.ref b] below meth c D A 4 kc ks Q ws' [(0, .ref b), (1, .ref (q_x 0)), (2, .ref (q_m 0)), (3, .int z)] 835 []) : V p l e room_1 s m #[Value.ref b] below meth c D A 4 kc ks Q ws [(0, .ref b), (1, .ref (q_x 0)), (2, .ref (q_m 0)), (3, .int z)] 575 [] := by
  obtain ⟨x0, xb, xn, xf, fi, se, tr, lev, li, co, pa, ic, nc, pc, ufi, use, utr, ulev, uli, uco, upa, uic, unc, upc, fo, re, le, gr, lg, nwn, rows, gb, lc, rc, cc, pr, al, yf, ys, yt, yl, yi, yo, yp, yn, yk, yq, yw, yz, tby, ks, ns, tln, ocn, okn, gvn, fgn, now, aside, past, stt, ref, text, len, tb, al2, rb, rm, fm, lm, gm, wh, ck, nb, dep, spot, flt, ords, lets, prts, hash, rfl, hQ, hF, hT⟩ := hI
  obtain ⟨r, x0', xb', xn', xf', fo', re', le', gr', lg', rows', gb', lc', rc', cc', pr', al', ref', tb', al2', rb', rm', fm', lm', gm', wh', ck', e1, e2, hQ', hF'⟩ := s_form (tb := tb) (al2 := al2) (rb := rb) (rm := rm) (fm := fm) (lm := lm) (gm := gm) (wh := wh) (ck := ck) hQ hF (xs (Int32.toNatClampNeg (z + 1)))
  refine V_aload_n (pc := 575) C 1 dL_law_575 rfl rfl ?_
  refine V_aload_n (pc := 576) C 0 dL_law_576 rfl rfl ?_
  refine V_iload_n (pc := 577) C 3 dL_law_577 rfl rfl ?_
  refine V_iconst (pc := 578) C dL_law_578 ki_1 ?_
  refine V_iadd (pc := 579) C dL_law_579 ?_
  refine V_sld (pc := 580) C hX hbl hbA h1 dL_law_580 ?_
  refine V_cutVi (pc := 581) (As := [.int (xs (Int32.toNatClampNeg (z + 1)))]) (st := []) (wr := (wM cI q_m now aside past stt ref text len tb al2 rb rm fm lm gm wh ck nb dep spot flt ords lets prts hash)) C (c_X_form (post := fun a => a = (r, x0', xb', xn', xf', fo', re', le', gr', lg', rows', gb', lc', rc', cc', pr', al')) ⟨_, e1, rfl⟩) mk_X4_form wd_405 dL_law_581 0 rfl rfl rfl ⟨Nat.le_of_ble_eq_true rfl, Nat.le_of_ble_eq_true rfl⟩ iX iM iN (cutX rfl rfl) ndN (fun u => joinX rfl rfl) (Nat.le_of_ble_eq_true rfl) rfl (fun r2 u hw => ?_)
  have hw : (r2, u) = (r, x0', xb', xn', xf', fo', re', le', gr', lg', rows', gb', lc', rc', cc', pr', al') := hw
  obtain ⟨rfl, rfl⟩ := Prod.mk.inj hw
  clear hw
  show V p l e room_1 s m #[Value.ref b] below meth c D A 4 kc ks Q (((wX q_x q_c q_s q_w q_h q_t (x0') (xb') (xn') (xf')) ++ ((wC cI q_c fi se tr lev li co pa ic nc pc) ++ ((wC cI q_s ufi use utr ulev uli uco upa uic unc upc) ++ ((wS cI q_w (fo') (re') (le') (gr') (lg') nwn (rows') (gb') (lc') (rc') (cc') (pr') (al')) ++ ((wH cI cC q_h qs_h yf ys yt yl yi yo yp yn yk yq yw yz) ++ (wT cI q_t tby ks ns tln ocn okn gvn fgn)))))) ++ (wM cI q_m now aside past stt ref text len tb al2 rb rm fm lm gm wh ck nb dep spot flt ords lets prts hash)) [(0, .ref b), (1, .ref (q_x 0)), (2, .ref (q_m 0)), (3, .int z)] 584 [.int r2]
  refine V_aload_n (pc := 584) C 2 dL_law_584 rfl rfl ?_
  refine V_aload_n (pc := 585) C 0 dL_law_585 rfl rfl ?_
  refine V_iload_n (pc := 586) C 3 dL_law_586 rfl rfl ?_
  refine V_iconst (pc := 587) C dL_law_587 ki_1 ?_
  refine V_iadd (pc := 588) C dL_law_588 ?_
  refine V_sld (pc := 589) C hX hbl hbA h1 dL_law_589 ?_
  refine V_cutVi (pc := 590) (As := [.int (xs (Int32.toNatClampNeg (z + 1)))]) (st := [.int r2]) (wr := ((wX q_x q_c q_s q_w q_h q_t (x0') (xb') (xn') (xf')) ++ ((wC cI q_c fi se tr lev li co pa ic nc pc) ++ ((wC cI q_s ufi use utr ulev uli uco upa uic unc upc) ++ ((wS cI q_w (fo') (re') (le') (gr') (lg') nwn (rows') (gb') (lc') (rc') (cc') (pr') (al')) ++ ((wH cI cC q_h qs_h yf ys yt yl yi yo yp yn yk yq yw yz) ++ (wT cI q_t tby ks ns tln ocn okn gvn fgn))))))) C (c_M_form (post := fun a => a = (r2, ref', tb', al2', rb', rm', fm', lm', gm', wh', ck')) ⟨_, e2, rfl⟩) mk_X5_form wd_800 dL_law_590 72 rfl rfl rfl ⟨Nat.le_of_ble_eq_true rfl, Nat.le_of_ble_eq_true rfl⟩ iM iX iMM (cutM rfl rfl) ndM (fun u => joinM rfl rfl) (Nat.le_of_ble_eq_true rfl) rfl (fun r3 u hw => ?_)
  have hw : (r3, u) = (r2, ref', tb', al2', rb', rm', fm', lm', gm', wh', ck') := hw
  obtain ⟨rfl, rfl⟩ := Prod.mk.inj hw
  clear hw
  show V p l e room_1 s m #[Value.ref b] below meth c D A 4 kc ks Q (((wX q_x q_c q_s q_w q_h q_t (x0') (xb') (xn') (xf')) ++ ((wC cI q_c fi se tr lev li co pa ic nc pc) ++ ((wC cI q_s ufi use utr ulev uli uco upa uic unc upc) ++ ((wS cI q_w (fo') (re') (le') (gr') (lg') nwn (rows') (gb') (lc') (rc') (cc') (pr') (al')) ++ ((wH cI cC q_h qs_h yf ys yt yl yi yo yp yn yk yq yw yz) ++ (wT cI q_t tby ks ns tln ocn okn gvn fgn)))))) ++ (wM cI q_m now aside past stt (ref') text len (tb') (al2') (rb') (rm') (fm') (lm') (gm') (wh') (ck') nb dep spot flt ords lets prts hash)) [(0, .ref b), (1, .ref (q_x 0)), (2, .ref (q_m 0)), (3, .int z)] 593 [.int r3, .int r3]
  exact V_icmp_eq (pc := 593) (tgt := 835) C dL_law_593 rfl (fun _ => k _ ⟨x0', xb', xn', xf', fi, se, tr, lev, li, co, pa, ic, nc, pc, ufi, use, utr, ulev, uli, uco, upa, uic, unc, upc, fo', re', le', gr', lg', nwn, rows', gb', lc', rc', cc', pr', al', yf, ys, yt, yl, yi, yo, yp, yn, yk, yq, yw, yz, tby, ks, ns, tln, ocn, okn, gvn, fgn, now, aside, past, stt, ref', text, len, tb', al2', rb', rm', fm', lm', gm', wh', ck', nb, dep, spot, flt, ords, lets, prts, hash, rfl, hQ', hF', hT⟩) (fun h => absurd rfl h)
set_option maxRecDepth 100000 in
set_option maxHeartbeats 4000000 in
theorem l_lines (C : Cx p room_1 s m #[Value.ref b] meth c cL_law 4 R_law ret D cI cC A kc ks) (hX : va_X b L xs s s.heap) (hbl : b < s.heap.size) (hbA : ¬ A b) {z : Int32} (h1 : vp_in (z + 1) L) (h2 : vp_in (z + 2) L) (hI : LI cI cC q_x q_c q_s q_w q_h qs_h q_t q_m ws) (k : ∀ ws', LI cI cC q_x q_c q_s q_w q_h qs_h q_t q_m ws' → V p l e room_1 s m #[Value.ref b] below meth c D A 4 kc ks Q ws' [(0, .ref b), (1, .ref (q_x 0)), (2, .ref (q_m 0)), (3, .int z)] 835 []) : V p l e room_1 s m #[Value.ref b] below meth c D A 4 kc ks Q ws [(0, .ref b), (1, .ref (q_x 0)), (2, .ref (q_m 0)), (3, .int z)] 598 [] := by
  obtain ⟨x0, xb, xn, xf, fi, se, tr, lev, li, co, pa, ic, nc, pc, ufi, use, utr, ulev, uli, uco, upa, uic, unc, upc, fo, re, le, gr, lg, nwn, rows, gb, lc, rc, cc, pr, al, yf, ys, yt, yl, yi, yo, yp, yn, yk, yq, yw, yz, tby, ks, ns, tln, ocn, okn, gvn, fgn, now, aside, past, stt, ref, text, len, tb, al2, rb, rm, fm, lm, gm, wh, ck, nb, dep, spot, flt, ords, lets, prts, hash, rfl, hQ, hF, hT⟩ := hI
  obtain ⟨r, x0', xb', xn', xf', fo', re', le', gr', lg', rows', gb', lc', rc', cc', pr', al', ref', tb', al2', rb', rm', fm', lm', gm', wh', ck', e1, e2, hQ', hF'⟩ := s_lines (tb := tb) (al2 := al2) (rb := rb) (rm := rm) (fm := fm) (lm := lm) (gm := gm) (wh := wh) (ck := ck) hQ hF (xs (Int32.toNatClampNeg (z + 1))) (xs (Int32.toNatClampNeg (z + 2)))
  refine V_aload_n (pc := 598) C 1 dL_law_598 rfl rfl ?_
  refine V_aload_n (pc := 599) C 0 dL_law_599 rfl rfl ?_
  refine V_iload_n (pc := 600) C 3 dL_law_600 rfl rfl ?_
  refine V_iconst (pc := 601) C dL_law_601 ki_1 ?_
  refine V_iadd (pc := 602) C dL_law_602 ?_
  refine V_sld (pc := 603) C hX hbl hbA h1 dL_law_603 ?_
  refine V_aload_n (pc := 604) C 0 dL_law_604 rfl rfl ?_
  refine V_iload_n (pc := 605) C 3 dL_law_605 rfl rfl ?_
  refine V_iconst (pc := 606) C dL_law_606 ki_2 ?_
  refine V_iadd (pc := 607) C dL_law_607 ?_
  refine V_sld (pc := 608) C hX hbl hbA h2 dL_law_608 ?_
  refine V_cutVi (pc := 609) (As := [.int (xs (Int32.toNatClampNeg (z + 1))), .int (xs (Int32.toNatClampNeg (z + 2)))]) (st := []) (wr := (wM cI q_m now aside past stt ref text len tb al2 rb rm fm lm gm wh ck nb dep spot flt ords lets prts hash)) C (c_X_lines (post := fun a => a = (r, x0', xb', xn', xf', fo', re', le', gr', lg', rows', gb', lc', rc', cc', pr', al')) ⟨_, e1, rfl⟩) mk_X4_lines wd_409 dL_law_609 0 rfl rfl rfl ⟨Nat.le_of_ble_eq_true rfl, Nat.le_of_ble_eq_true rfl⟩ iX iM iN (cutX rfl rfl) ndN (fun u => joinX rfl rfl) (Nat.le_of_ble_eq_true rfl) rfl (fun r2 u hw => ?_)
  have hw : (r2, u) = (r, x0', xb', xn', xf', fo', re', le', gr', lg', rows', gb', lc', rc', cc', pr', al') := hw
  obtain ⟨rfl, rfl⟩ := Prod.mk.inj hw
  clear hw
  show V p l e room_1 s m #[Value.ref b] below meth c D A 4 kc ks Q (((wX q_x q_c q_s q_w q_h q_t (x0') (xb') (xn') (xf')) ++ ((wC cI q_c fi se tr lev li co pa ic nc pc) ++ ((wC cI q_s ufi use utr ulev uli uco upa uic unc upc) ++ ((wS cI q_w (fo') (re') (le') (gr') (lg') nwn (rows') (gb') (lc') (rc') (cc') (pr') (al')) ++ ((wH cI cC q_h qs_h yf ys yt yl yi yo yp yn yk yq yw yz) ++ (wT cI q_t tby ks ns tln ocn okn gvn fgn)))))) ++ (wM cI q_m now aside past stt ref text len tb al2 rb rm fm lm gm wh ck nb dep spot flt ords lets prts hash)) [(0, .ref b), (1, .ref (q_x 0)), (2, .ref (q_m 0)), (3, .int z)] 612 [.int r2]
  refine V_aload_n (pc := 612) C 2 dL_law_612 rfl rfl ?_
  refine V_aload_n (pc := 613) C 0 dL_law_613 rfl rfl ?_
  refine V_iload_n (pc := 614) C 3 dL_law_614 rfl rfl ?_
  refine V_iconst (pc := 615) C dL_law_615 ki_1 ?_
  refine V_iadd (pc := 616) C dL_law_616 ?_
  refine V_sld (pc := 617) C hX hbl hbA h1 dL_law_617 ?_
  refine V_aload_n (pc := 618) C 0 dL_law_618 rfl rfl ?_
  refine V_iload_n (pc := 619) C 3 dL_law_619 rfl rfl ?_
  refine V_iconst (pc := 620) C dL_law_620 ki_2 ?_
  refine V_iadd (pc := 621) C dL_law_621 ?_
  refine V_sld (pc := 622) C hX hbl hbA h2 dL_law_622 ?_
  refine V_cutVi (pc := 623) (As := [.int (xs (Int32.toNatClampNeg (z + 1))), .int (xs (Int32.toNatClampNeg (z + 2)))]) (st := [.int r2]) (wr := ((wX q_x q_c q_s q_w q_h q_t (x0') (xb') (xn') (xf')) ++ ((wC cI q_c fi se tr lev li co pa ic nc pc) ++ ((wC cI q_s ufi use utr ulev uli uco upa uic unc upc) ++ ((wS cI q_w (fo') (re') (le') (gr') (lg') nwn (rows') (gb') (lc') (rc') (cc') (pr') (al')) ++ ((wH cI cC q_h qs_h yf ys yt yl yi yo yp yn yk yq yw yz) ++ (wT cI q_t tby ks ns tln ocn okn gvn fgn))))))) C (c_M_lines (post := fun a => a = (r2, ref', tb', al2', rb', rm', fm', lm', gm', wh', ck')) ⟨_, e2, rfl⟩) mk_X5_lines wd_804 dL_law_623 72 rfl rfl rfl ⟨Nat.le_of_ble_eq_true rfl, Nat.le_of_ble_eq_true rfl⟩ iM iX iMM (cutM rfl rfl) ndM (fun u => joinM rfl rfl) (Nat.le_of_ble_eq_true rfl) rfl (fun r3 u hw => ?_)
  have hw : (r3, u) = (r2, ref', tb', al2', rb', rm', fm', lm', gm', wh', ck') := hw
  obtain ⟨rfl, rfl⟩ := Prod.mk.inj hw
  clear hw
  show V p l e room_1 s m #[Value.ref b] below meth c D A 4 kc ks Q (((wX q_x q_c q_s q_w q_h q_t (x0') (xb') (xn') (xf')) ++ ((wC cI q_c fi se tr lev li co pa ic nc pc) ++ ((wC cI q_s ufi use utr ulev uli uco upa uic unc upc) ++ ((wS cI q_w (fo') (re') (le') (gr') (lg') nwn (rows') (gb') (lc') (rc') (cc') (pr') (al')) ++ ((wH cI cC q_h qs_h yf ys yt yl yi yo yp yn yk yq yw yz) ++ (wT cI q_t tby ks ns tln ocn okn gvn fgn)))))) ++ (wM cI q_m now aside past stt (ref') text len (tb') (al2') (rb') (rm') (fm') (lm') (gm') (wh') (ck') nb dep spot flt ords lets prts hash)) [(0, .ref b), (1, .ref (q_x 0)), (2, .ref (q_m 0)), (3, .int z)] 626 [.int r3, .int r3]
  exact V_icmp_eq (pc := 626) (tgt := 835) C dL_law_626 rfl (fun _ => k _ ⟨x0', xb', xn', xf', fi, se, tr, lev, li, co, pa, ic, nc, pc, ufi, use, utr, ulev, uli, uco, upa, uic, unc, upc, fo', re', le', gr', lg', nwn, rows', gb', lc', rc', cc', pr', al', yf, ys, yt, yl, yi, yo, yp, yn, yk, yq, yw, yz, tby, ks, ns, tln, ocn, okn, gvn, fgn, now, aside, past, stt, ref', text, len, tb', al2', rb', rm', fm', lm', gm', wh', ck', nb, dep, spot, flt, ords, lets, prts, hash, rfl, hQ', hF', hT⟩) (fun h => absurd rfl h)
set_option maxRecDepth 100000 in
set_option maxHeartbeats 4000000 in
theorem l_swept (C : Cx p room_1 s m #[Value.ref b] meth c cL_law 4 R_law ret D cI cC A kc ks) (hX : va_X b L xs s s.heap) (hbl : b < s.heap.size) (hbA : ¬ A b) {z : Int32} (h1 : vp_in (z + 1) L) (hI : LI cI cC q_x q_c q_s q_w q_h qs_h q_t q_m ws) (k : ∀ ws', LI cI cC q_x q_c q_s q_w q_h qs_h q_t q_m ws' → V p l e room_1 s m #[Value.ref b] below meth c D A 4 kc ks Q ws' [(0, .ref b), (1, .ref (q_x 0)), (2, .ref (q_m 0)), (3, .int z)] 835 []) : V p l e room_1 s m #[Value.ref b] below meth c D A 4 kc ks Q ws [(0, .ref b), (1, .ref (q_x 0)), (2, .ref (q_m 0)), (3, .int z)] 631 [] := by
  obtain ⟨x0, xb, xn, xf, fi, se, tr, lev, li, co, pa, ic, nc, pc, ufi, use, utr, ulev, uli, uco, upa, uic, unc, upc, fo, re, le, gr, lg, nwn, rows, gb, lc, rc, cc, pr, al, yf, ys, yt, yl, yi, yo, yp, yn, yk, yq, yw, yz, tby, ks, ns, tln, ocn, okn, gvn, fgn, now, aside, past, stt, ref, text, len, tb, al2, rb, rm, fm, lm, gm, wh, ck, nb, dep, spot, flt, ords, lets, prts, hash, rfl, hQ, hF, hT⟩ := hI
  obtain ⟨r, x0', xb', xn', xf', fo', re', le', gr', lg', rows', gb', lc', rc', cc', pr', al', ref', tb', al2', rb', rm', fm', lm', gm', wh', ck', e1, e2, hQ', hF'⟩ := s_swept (tb := tb) (al2 := al2) (rb := rb) (rm := rm) (fm := fm) (lm := lm) (gm := gm) (wh := wh) (ck := ck) hQ hF (xs (Int32.toNatClampNeg (z + 1)))
  refine V_aload_n (pc := 631) C 1 dL_law_631 rfl rfl ?_
  refine V_aload_n (pc := 632) C 0 dL_law_632 rfl rfl ?_
  refine V_iload_n (pc := 633) C 3 dL_law_633 rfl rfl ?_
  refine V_iconst (pc := 634) C dL_law_634 ki_1 ?_
  refine V_iadd (pc := 635) C dL_law_635 ?_
  refine V_sld (pc := 636) C hX hbl hbA h1 dL_law_636 ?_
  refine V_cutVi (pc := 637) (As := [.int (xs (Int32.toNatClampNeg (z + 1)))]) (st := []) (wr := (wM cI q_m now aside past stt ref text len tb al2 rb rm fm lm gm wh ck nb dep spot flt ords lets prts hash)) C (c_X_swept (post := fun a => a = (r, x0', xb', xn', xf', fo', re', le', gr', lg', rows', gb', lc', rc', cc', pr', al')) ⟨_, e1, rfl⟩) mk_X4_swept wd_417 dL_law_637 0 rfl rfl rfl ⟨Nat.le_of_ble_eq_true rfl, Nat.le_of_ble_eq_true rfl⟩ iX iM iN (cutX rfl rfl) ndN (fun u => joinX rfl rfl) (Nat.le_of_ble_eq_true rfl) rfl (fun r2 u hw => ?_)
  have hw : (r2, u) = (r, x0', xb', xn', xf', fo', re', le', gr', lg', rows', gb', lc', rc', cc', pr', al') := hw
  obtain ⟨rfl, rfl⟩ := Prod.mk.inj hw
  clear hw
  show V p l e room_1 s m #[Value.ref b] below meth c D A 4 kc ks Q (((wX q_x q_c q_s q_w q_h q_t (x0') (xb') (xn') (xf')) ++ ((wC cI q_c fi se tr lev li co pa ic nc pc) ++ ((wC cI q_s ufi use utr ulev uli uco upa uic unc upc) ++ ((wS cI q_w (fo') (re') (le') (gr') (lg') nwn (rows') (gb') (lc') (rc') (cc') (pr') (al')) ++ ((wH cI cC q_h qs_h yf ys yt yl yi yo yp yn yk yq yw yz) ++ (wT cI q_t tby ks ns tln ocn okn gvn fgn)))))) ++ (wM cI q_m now aside past stt ref text len tb al2 rb rm fm lm gm wh ck nb dep spot flt ords lets prts hash)) [(0, .ref b), (1, .ref (q_x 0)), (2, .ref (q_m 0)), (3, .int z)] 640 [.int r2]
  refine V_aload_n (pc := 640) C 2 dL_law_640 rfl rfl ?_
  refine V_aload_n (pc := 641) C 0 dL_law_641 rfl rfl ?_
  refine V_iload_n (pc := 642) C 3 dL_law_642 rfl rfl ?_
  refine V_iconst (pc := 643) C dL_law_643 ki_1 ?_
  refine V_iadd (pc := 644) C dL_law_644 ?_
  refine V_sld (pc := 645) C hX hbl hbA h1 dL_law_645 ?_
  refine V_cutVi (pc := 646) (As := [.int (xs (Int32.toNatClampNeg (z + 1)))]) (st := [.int r2]) (wr := ((wX q_x q_c q_s q_w q_h q_t (x0') (xb') (xn') (xf')) ++ ((wC cI q_c fi se tr lev li co pa ic nc pc) ++ ((wC cI q_s ufi use utr ulev uli uco upa uic unc upc) ++ ((wS cI q_w (fo') (re') (le') (gr') (lg') nwn (rows') (gb') (lc') (rc') (cc') (pr') (al')) ++ ((wH cI cC q_h qs_h yf ys yt yl yi yo yp yn yk yq yw yz) ++ (wT cI q_t tby ks ns tln ocn okn gvn fgn))))))) C (c_M_swept (post := fun a => a = (r2, ref', tb', al2', rb', rm', fm', lm', gm', wh', ck')) ⟨_, e2, rfl⟩) mk_X5_swept wd_814 dL_law_646 72 rfl rfl rfl ⟨Nat.le_of_ble_eq_true rfl, Nat.le_of_ble_eq_true rfl⟩ iM iX iMM (cutM rfl rfl) ndM (fun u => joinM rfl rfl) (Nat.le_of_ble_eq_true rfl) rfl (fun r3 u hw => ?_)
  have hw : (r3, u) = (r2, ref', tb', al2', rb', rm', fm', lm', gm', wh', ck') := hw
  obtain ⟨rfl, rfl⟩ := Prod.mk.inj hw
  clear hw
  show V p l e room_1 s m #[Value.ref b] below meth c D A 4 kc ks Q (((wX q_x q_c q_s q_w q_h q_t (x0') (xb') (xn') (xf')) ++ ((wC cI q_c fi se tr lev li co pa ic nc pc) ++ ((wC cI q_s ufi use utr ulev uli uco upa uic unc upc) ++ ((wS cI q_w (fo') (re') (le') (gr') (lg') nwn (rows') (gb') (lc') (rc') (cc') (pr') (al')) ++ ((wH cI cC q_h qs_h yf ys yt yl yi yo yp yn yk yq yw yz) ++ (wT cI q_t tby ks ns tln ocn okn gvn fgn)))))) ++ (wM cI q_m now aside past stt (ref') text len (tb') (al2') (rb') (rm') (fm') (lm') (gm') (wh') (ck') nb dep spot flt ords lets prts hash)) [(0, .ref b), (1, .ref (q_x 0)), (2, .ref (q_m 0)), (3, .int z)] 649 [.int r3, .int r3]
  exact V_icmp_eq (pc := 649) (tgt := 835) C dL_law_649 rfl (fun _ => k _ ⟨x0', xb', xn', xf', fi, se, tr, lev, li, co, pa, ic, nc, pc, ufi, use, utr, ulev, uli, uco, upa, uic, unc, upc, fo', re', le', gr', lg', nwn, rows', gb', lc', rc', cc', pr', al', yf, ys, yt, yl, yi, yo, yp, yn, yk, yq, yw, yz, tby, ks, ns, tln, ocn, okn, gvn, fgn, now, aside, past, stt, ref', text, len, tb', al2', rb', rm', fm', lm', gm', wh', ck', nb, dep, spot, flt, ords, lets, prts, hash, rfl, hQ', hF', hT⟩) (fun h => absurd rfl h)
set_option maxRecDepth 100000 in
set_option maxHeartbeats 4000000 in
theorem l_row (C : Cx p room_1 s m #[Value.ref b] meth c cL_law 4 R_law ret D cI cC A kc ks) (hX : va_X b L xs s s.heap) (hbl : b < s.heap.size) (hbA : ¬ A b) {z : Int32} (h1 : vp_in (z + 1) L) (hI : LI cI cC q_x q_c q_s q_w q_h qs_h q_t q_m ws) (k : ∀ ws', LI cI cC q_x q_c q_s q_w q_h qs_h q_t q_m ws' → V p l e room_1 s m #[Value.ref b] below meth c D A 4 kc ks Q ws' [(0, .ref b), (1, .ref (q_x 0)), (2, .ref (q_m 0)), (3, .int z)] 835 []) : V p l e room_1 s m #[Value.ref b] below meth c D A 4 kc ks Q ws [(0, .ref b), (1, .ref (q_x 0)), (2, .ref (q_m 0)), (3, .int z)] 654 [] := by
  obtain ⟨x0, xb, xn, xf, fi, se, tr, lev, li, co, pa, ic, nc, pc, ufi, use, utr, ulev, uli, uco, upa, uic, unc, upc, fo, re, le, gr, lg, nwn, rows, gb, lc, rc, cc, pr, al, yf, ys, yt, yl, yi, yo, yp, yn, yk, yq, yw, yz, tby, ks, ns, tln, ocn, okn, gvn, fgn, now, aside, past, stt, ref, text, len, tb, al2, rb, rm, fm, lm, gm, wh, ck, nb, dep, spot, flt, ords, lets, prts, hash, rfl, hQ, hF, hT⟩ := hI
  obtain ⟨r, x0', xb', xn', xf', fo', re', le', gr', lg', rows', gb', lc', rc', cc', pr', al', ref', tb', al2', rb', rm', fm', lm', gm', wh', ck', e1, e2, hQ', hF'⟩ := s_row (tb := tb) (al2 := al2) (rb := rb) (rm := rm) (fm := fm) (lm := lm) (gm := gm) (wh := wh) (ck := ck) hQ hF (xs (Int32.toNatClampNeg (z + 1)))
  refine V_aload_n (pc := 654) C 1 dL_law_654 rfl rfl ?_
  refine V_aload_n (pc := 655) C 0 dL_law_655 rfl rfl ?_
  refine V_iload_n (pc := 656) C 3 dL_law_656 rfl rfl ?_
  refine V_iconst (pc := 657) C dL_law_657 ki_1 ?_
  refine V_iadd (pc := 658) C dL_law_658 ?_
  refine V_sld (pc := 659) C hX hbl hbA h1 dL_law_659 ?_
  refine V_cutVi (pc := 660) (As := [.int (xs (Int32.toNatClampNeg (z + 1)))]) (st := []) (wr := (wM cI q_m now aside past stt ref text len tb al2 rb rm fm lm gm wh ck nb dep spot flt ords lets prts hash)) C (c_X_row (post := fun a => a = (r, x0', xb', xn', xf', fo', re', le', gr', lg', rows', gb', lc', rc', cc', pr', al')) ⟨_, e1, rfl⟩) mk_X4_row wd_425 dL_law_660 0 rfl rfl rfl ⟨Nat.le_of_ble_eq_true rfl, Nat.le_of_ble_eq_true rfl⟩ iX iM iN (cutX rfl rfl) ndN (fun u => joinX rfl rfl) (Nat.le_of_ble_eq_true rfl) rfl (fun r2 u hw => ?_)
  have hw : (r2, u) = (r, x0', xb', xn', xf', fo', re', le', gr', lg', rows', gb', lc', rc', cc', pr', al') := hw
  obtain ⟨rfl, rfl⟩ := Prod.mk.inj hw
  clear hw
  show V p l e room_1 s m #[Value.ref b] below meth c D A 4 kc ks Q (((wX q_x q_c q_s q_w q_h q_t (x0') (xb') (xn') (xf')) ++ ((wC cI q_c fi se tr lev li co pa ic nc pc) ++ ((wC cI q_s ufi use utr ulev uli uco upa uic unc upc) ++ ((wS cI q_w (fo') (re') (le') (gr') (lg') nwn (rows') (gb') (lc') (rc') (cc') (pr') (al')) ++ ((wH cI cC q_h qs_h yf ys yt yl yi yo yp yn yk yq yw yz) ++ (wT cI q_t tby ks ns tln ocn okn gvn fgn)))))) ++ (wM cI q_m now aside past stt ref text len tb al2 rb rm fm lm gm wh ck nb dep spot flt ords lets prts hash)) [(0, .ref b), (1, .ref (q_x 0)), (2, .ref (q_m 0)), (3, .int z)] 663 [.int r2]
  refine V_aload_n (pc := 663) C 2 dL_law_663 rfl rfl ?_
  refine V_aload_n (pc := 664) C 0 dL_law_664 rfl rfl ?_
  refine V_iload_n (pc := 665) C 3 dL_law_665 rfl rfl ?_
  refine V_iconst (pc := 666) C dL_law_666 ki_1 ?_
  refine V_iadd (pc := 667) C dL_law_667 ?_
  refine V_sld (pc := 668) C hX hbl hbA h1 dL_law_668 ?_
  refine V_cutVi (pc := 669) (As := [.int (xs (Int32.toNatClampNeg (z + 1)))]) (st := [.int r2]) (wr := ((wX q_x q_c q_s q_w q_h q_t (x0') (xb') (xn') (xf')) ++ ((wC cI q_c fi se tr lev li co pa ic nc pc) ++ ((wC cI q_s ufi use utr ulev uli uco upa uic unc upc) ++ ((wS cI q_w (fo') (re') (le') (gr') (lg') nwn (rows') (gb') (lc') (rc') (cc') (pr') (al')) ++ ((wH cI cC q_h qs_h yf ys yt yl yi yo yp yn yk yq yw yz) ++ (wT cI q_t tby ks ns tln ocn okn gvn fgn))))))) C (c_M_row (post := fun a => a = (r2, ref', tb', al2', rb', rm', fm', lm', gm', wh', ck')) ⟨_, e2, rfl⟩) mk_X5_row wd_821 dL_law_669 72 rfl rfl rfl ⟨Nat.le_of_ble_eq_true rfl, Nat.le_of_ble_eq_true rfl⟩ iM iX iMM (cutM rfl rfl) ndM (fun u => joinM rfl rfl) (Nat.le_of_ble_eq_true rfl) rfl (fun r3 u hw => ?_)
  have hw : (r3, u) = (r2, ref', tb', al2', rb', rm', fm', lm', gm', wh', ck') := hw
  obtain ⟨rfl, rfl⟩ := Prod.mk.inj hw
  clear hw
  show V p l e room_1 s m #[Value.ref b] below meth c D A 4 kc ks Q (((wX q_x q_c q_s q_w q_h q_t (x0') (xb') (xn') (xf')) ++ ((wC cI q_c fi se tr lev li co pa ic nc pc) ++ ((wC cI q_s ufi use utr ulev uli uco upa uic unc upc) ++ ((wS cI q_w (fo') (re') (le') (gr') (lg') nwn (rows') (gb') (lc') (rc') (cc') (pr') (al')) ++ ((wH cI cC q_h qs_h yf ys yt yl yi yo yp yn yk yq yw yz) ++ (wT cI q_t tby ks ns tln ocn okn gvn fgn)))))) ++ (wM cI q_m now aside past stt (ref') text len (tb') (al2') (rb') (rm') (fm') (lm') (gm') (wh') (ck') nb dep spot flt ords lets prts hash)) [(0, .ref b), (1, .ref (q_x 0)), (2, .ref (q_m 0)), (3, .int z)] 672 [.int r3, .int r3]
  exact V_icmp_eq (pc := 672) (tgt := 835) C dL_law_672 rfl (fun _ => k _ ⟨x0', xb', xn', xf', fi, se, tr, lev, li, co, pa, ic, nc, pc, ufi, use, utr, ulev, uli, uco, upa, uic, unc, upc, fo', re', le', gr', lg', nwn, rows', gb', lc', rc', cc', pr', al', yf, ys, yt, yl, yi, yo, yp, yn, yk, yq, yw, yz, tby, ks, ns, tln, ocn, okn, gvn, fgn, now, aside, past, stt, ref', text, len, tb', al2', rb', rm', fm', lm', gm', wh', ck', nb, dep, spot, flt, ords, lets, prts, hash, rfl, hQ', hF', hT⟩) (fun h => absurd rfl h)
set_option maxRecDepth 100000 in
set_option maxHeartbeats 4000000 in
theorem l_alike (C : Cx p room_1 s m #[Value.ref b] meth c cL_law 4 R_law ret D cI cC A kc ks) (hX : va_X b L xs s s.heap) (hbl : b < s.heap.size) (hbA : ¬ A b) {z : Int32} (h1 : vp_in (z + 1) L) (hI : LI cI cC q_x q_c q_s q_w q_h qs_h q_t q_m ws) (k : ∀ ws', LI cI cC q_x q_c q_s q_w q_h qs_h q_t q_m ws' → V p l e room_1 s m #[Value.ref b] below meth c D A 4 kc ks Q ws' [(0, .ref b), (1, .ref (q_x 0)), (2, .ref (q_m 0)), (3, .int z)] 835 []) : V p l e room_1 s m #[Value.ref b] below meth c D A 4 kc ks Q ws [(0, .ref b), (1, .ref (q_x 0)), (2, .ref (q_m 0)), (3, .int z)] 677 [] := by
  obtain ⟨x0, xb, xn, xf, fi, se, tr, lev, li, co, pa, ic, nc, pc, ufi, use, utr, ulev, uli, uco, upa, uic, unc, upc, fo, re, le, gr, lg, nwn, rows, gb, lc, rc, cc, pr, al, yf, ys, yt, yl, yi, yo, yp, yn, yk, yq, yw, yz, tby, ks, ns, tln, ocn, okn, gvn, fgn, now, aside, past, stt, ref, text, len, tb, al2, rb, rm, fm, lm, gm, wh, ck, nb, dep, spot, flt, ords, lets, prts, hash, rfl, hQ, hF, hT⟩ := hI
  obtain ⟨r, x0', xb', xn', xf', fo', re', le', gr', lg', rows', gb', lc', rc', cc', pr', al', ref', tb', al2', rb', rm', fm', lm', gm', wh', ck', e1, e2, hQ', hF'⟩ := s_alike (tb := tb) (al2 := al2) (rb := rb) (rm := rm) (fm := fm) (lm := lm) (gm := gm) (wh := wh) (ck := ck) hQ hF (xs (Int32.toNatClampNeg (z + 1)))
  refine V_aload_n (pc := 677) C 1 dL_law_677 rfl rfl ?_
  refine V_aload_n (pc := 678) C 0 dL_law_678 rfl rfl ?_
  refine V_iload_n (pc := 679) C 3 dL_law_679 rfl rfl ?_
  refine V_iconst (pc := 680) C dL_law_680 ki_1 ?_
  refine V_iadd (pc := 681) C dL_law_681 ?_
  refine V_sld (pc := 682) C hX hbl hbA h1 dL_law_682 ?_
  refine V_cutVi (pc := 683) (As := [.int (xs (Int32.toNatClampNeg (z + 1)))]) (st := []) (wr := (wM cI q_m now aside past stt ref text len tb al2 rb rm fm lm gm wh ck nb dep spot flt ords lets prts hash)) C (c_X_alike (post := fun a => a = (r, x0', xb', xn', xf', fo', re', le', gr', lg', rows', gb', lc', rc', cc', pr', al')) ⟨_, e1, rfl⟩) mk_X4_alike wd_429 dL_law_683 0 rfl rfl rfl ⟨Nat.le_of_ble_eq_true rfl, Nat.le_of_ble_eq_true rfl⟩ iX iM iN (cutX rfl rfl) ndN (fun u => joinX rfl rfl) (Nat.le_of_ble_eq_true rfl) rfl (fun r2 u hw => ?_)
  have hw : (r2, u) = (r, x0', xb', xn', xf', fo', re', le', gr', lg', rows', gb', lc', rc', cc', pr', al') := hw
  obtain ⟨rfl, rfl⟩ := Prod.mk.inj hw
  clear hw
  show V p l e room_1 s m #[Value.ref b] below meth c D A 4 kc ks Q (((wX q_x q_c q_s q_w q_h q_t (x0') (xb') (xn') (xf')) ++ ((wC cI q_c fi se tr lev li co pa ic nc pc) ++ ((wC cI q_s ufi use utr ulev uli uco upa uic unc upc) ++ ((wS cI q_w (fo') (re') (le') (gr') (lg') nwn (rows') (gb') (lc') (rc') (cc') (pr') (al')) ++ ((wH cI cC q_h qs_h yf ys yt yl yi yo yp yn yk yq yw yz) ++ (wT cI q_t tby ks ns tln ocn okn gvn fgn)))))) ++ (wM cI q_m now aside past stt ref text len tb al2 rb rm fm lm gm wh ck nb dep spot flt ords lets prts hash)) [(0, .ref b), (1, .ref (q_x 0)), (2, .ref (q_m 0)), (3, .int z)] 686 [.int r2]
  refine V_aload_n (pc := 686) C 2 dL_law_686 rfl rfl ?_
  refine V_aload_n (pc := 687) C 0 dL_law_687 rfl rfl ?_
  refine V_iload_n (pc := 688) C 3 dL_law_688 rfl rfl ?_
  refine V_iconst (pc := 689) C dL_law_689 ki_1 ?_
  refine V_iadd (pc := 690) C dL_law_690 ?_
  refine V_sld (pc := 691) C hX hbl hbA h1 dL_law_691 ?_
  refine V_cutVi (pc := 692) (As := [.int (xs (Int32.toNatClampNeg (z + 1)))]) (st := [.int r2]) (wr := ((wX q_x q_c q_s q_w q_h q_t (x0') (xb') (xn') (xf')) ++ ((wC cI q_c fi se tr lev li co pa ic nc pc) ++ ((wC cI q_s ufi use utr ulev uli uco upa uic unc upc) ++ ((wS cI q_w (fo') (re') (le') (gr') (lg') nwn (rows') (gb') (lc') (rc') (cc') (pr') (al')) ++ ((wH cI cC q_h qs_h yf ys yt yl yi yo yp yn yk yq yw yz) ++ (wT cI q_t tby ks ns tln ocn okn gvn fgn))))))) C (c_M_alike (post := fun a => a = (r2, ref', tb', al2', rb', rm', fm', lm', gm', wh', ck')) ⟨_, e2, rfl⟩) mk_X5_alike wd_825 dL_law_692 72 rfl rfl rfl ⟨Nat.le_of_ble_eq_true rfl, Nat.le_of_ble_eq_true rfl⟩ iM iX iMM (cutM rfl rfl) ndM (fun u => joinM rfl rfl) (Nat.le_of_ble_eq_true rfl) rfl (fun r3 u hw => ?_)
  have hw : (r3, u) = (r2, ref', tb', al2', rb', rm', fm', lm', gm', wh', ck') := hw
  obtain ⟨rfl, rfl⟩ := Prod.mk.inj hw
  clear hw
  show V p l e room_1 s m #[Value.ref b] below meth c D A 4 kc ks Q (((wX q_x q_c q_s q_w q_h q_t (x0') (xb') (xn') (xf')) ++ ((wC cI q_c fi se tr lev li co pa ic nc pc) ++ ((wC cI q_s ufi use utr ulev uli uco upa uic unc upc) ++ ((wS cI q_w (fo') (re') (le') (gr') (lg') nwn (rows') (gb') (lc') (rc') (cc') (pr') (al')) ++ ((wH cI cC q_h qs_h yf ys yt yl yi yo yp yn yk yq yw yz) ++ (wT cI q_t tby ks ns tln ocn okn gvn fgn)))))) ++ (wM cI q_m now aside past stt (ref') text len (tb') (al2') (rb') (rm') (fm') (lm') (gm') (wh') (ck') nb dep spot flt ords lets prts hash)) [(0, .ref b), (1, .ref (q_x 0)), (2, .ref (q_m 0)), (3, .int z)] 695 [.int r3, .int r3]
  exact V_icmp_eq (pc := 695) (tgt := 835) C dL_law_695 rfl (fun _ => k _ ⟨x0', xb', xn', xf', fi, se, tr, lev, li, co, pa, ic, nc, pc, ufi, use, utr, ulev, uli, uco, upa, uic, unc, upc, fo', re', le', gr', lg', nwn, rows', gb', lc', rc', cc', pr', al', yf, ys, yt, yl, yi, yo, yp, yn, yk, yq, yw, yz, tby, ks, ns, tln, ocn, okn, gvn, fgn, now, aside, past, stt, ref', text, len, tb', al2', rb', rm', fm', lm', gm', wh', ck', nb, dep, spot, flt, ords, lets, prts, hash, rfl, hQ', hF', hT⟩) (fun h => absurd rfl h)
set_option maxRecDepth 100000 in
set_option maxHeartbeats 4000000 in
theorem l_witness (C : Cx p room_1 s m #[Value.ref b] meth c cL_law 4 R_law ret D cI cC A kc ks) (hX : va_X b L xs s s.heap) (hbl : b < s.heap.size) (hbA : ¬ A b) {z : Int32} (h1 : vp_in (z + 1) L) (hI : LI cI cC q_x q_c q_s q_w q_h qs_h q_t q_m ws) (k : ∀ ws', LI cI cC q_x q_c q_s q_w q_h qs_h q_t q_m ws' → V p l e room_1 s m #[Value.ref b] below meth c D A 4 kc ks Q ws' [(0, .ref b), (1, .ref (q_x 0)), (2, .ref (q_m 0)), (3, .int z)] 835 []) : V p l e room_1 s m #[Value.ref b] below meth c D A 4 kc ks Q ws [(0, .ref b), (1, .ref (q_x 0)), (2, .ref (q_m 0)), (3, .int z)] 700 [] := by
  obtain ⟨x0, xb, xn, xf, fi, se, tr, lev, li, co, pa, ic, nc, pc, ufi, use, utr, ulev, uli, uco, upa, uic, unc, upc, fo, re, le, gr, lg, nwn, rows, gb, lc, rc, cc, pr, al, yf, ys, yt, yl, yi, yo, yp, yn, yk, yq, yw, yz, tby, ks, ns, tln, ocn, okn, gvn, fgn, now, aside, past, stt, ref, text, len, tb, al2, rb, rm, fm, lm, gm, wh, ck, nb, dep, spot, flt, ords, lets, prts, hash, rfl, hQ, hF, hT⟩ := hI
  obtain ⟨r, x0', xb', xn', xf', fo', re', le', gr', lg', rows', gb', lc', rc', cc', pr', al', ref', tb', al2', e1, e2, hQ', hF'⟩ := s_witness (tb := tb) (al2 := al2) hQ hF (xs (Int32.toNatClampNeg (z + 1)))
  refine V_aload_n (pc := 700) C 1 dL_law_700 rfl rfl ?_
  refine V_aload_n (pc := 701) C 0 dL_law_701 rfl rfl ?_
  refine V_iload_n (pc := 702) C 3 dL_law_702 rfl rfl ?_
  refine V_iconst (pc := 703) C dL_law_703 ki_1 ?_
  refine V_iadd (pc := 704) C dL_law_704 ?_
  refine V_sld (pc := 705) C hX hbl hbA h1 dL_law_705 ?_
  refine V_cutVi (pc := 706) (As := [.int (xs (Int32.toNatClampNeg (z + 1)))]) (st := []) (wr := (wM cI q_m now aside past stt ref text len tb al2 rb rm fm lm gm wh ck nb dep spot flt ords lets prts hash)) C (c_X_witness (post := fun a => a = (r, x0', xb', xn', xf', fo', re', le', gr', lg', rows', gb', lc', rc', cc', pr', al')) ⟨_, e1, rfl⟩) mk_X4_witness wd_441 dL_law_706 0 rfl rfl rfl ⟨Nat.le_of_ble_eq_true rfl, Nat.le_of_ble_eq_true rfl⟩ iX iM iN (cutX rfl rfl) ndN (fun u => joinX rfl rfl) (Nat.le_of_ble_eq_true rfl) rfl (fun r2 u hw => ?_)
  have hw : (r2, u) = (r, x0', xb', xn', xf', fo', re', le', gr', lg', rows', gb', lc', rc', cc', pr', al') := hw
  obtain ⟨rfl, rfl⟩ := Prod.mk.inj hw
  clear hw
  show V p l e room_1 s m #[Value.ref b] below meth c D A 4 kc ks Q (((wX q_x q_c q_s q_w q_h q_t (x0') (xb') (xn') (xf')) ++ ((wC cI q_c fi se tr lev li co pa ic nc pc) ++ ((wC cI q_s ufi use utr ulev uli uco upa uic unc upc) ++ ((wS cI q_w (fo') (re') (le') (gr') (lg') nwn (rows') (gb') (lc') (rc') (cc') (pr') (al')) ++ ((wH cI cC q_h qs_h yf ys yt yl yi yo yp yn yk yq yw yz) ++ (wT cI q_t tby ks ns tln ocn okn gvn fgn)))))) ++ (wM cI q_m now aside past stt ref text len tb al2 rb rm fm lm gm wh ck nb dep spot flt ords lets prts hash)) [(0, .ref b), (1, .ref (q_x 0)), (2, .ref (q_m 0)), (3, .int z)] 709 [.int r2]
  refine V_aload_n (pc := 709) C 2 dL_law_709 rfl rfl ?_
  refine V_aload_n (pc := 710) C 0 dL_law_710 rfl rfl ?_
  refine V_iload_n (pc := 711) C 3 dL_law_711 rfl rfl ?_
  refine V_iconst (pc := 712) C dL_law_712 ki_1 ?_
  refine V_iadd (pc := 713) C dL_law_713 ?_
  refine V_sld (pc := 714) C hX hbl hbA h1 dL_law_714 ?_
  refine V_cutVi (pc := 715) (As := [.int (xs (Int32.toNatClampNeg (z + 1)))]) (st := [.int r2]) (wr := ((wX q_x q_c q_s q_w q_h q_t (x0') (xb') (xn') (xf')) ++ ((wC cI q_c fi se tr lev li co pa ic nc pc) ++ ((wC cI q_s ufi use utr ulev uli uco upa uic unc upc) ++ ((wS cI q_w (fo') (re') (le') (gr') (lg') nwn (rows') (gb') (lc') (rc') (cc') (pr') (al')) ++ ((wH cI cC q_h qs_h yf ys yt yl yi yo yp yn yk yq yw yz) ++ (wT cI q_t tby ks ns tln ocn okn gvn fgn))))))) C (c_M_witness (post := fun a => a = (r2, ref', tb', al2')) ⟨_, e2, rfl⟩) mk_X5_witness wd_835 dL_law_715 72 rfl rfl rfl ⟨Nat.le_of_ble_eq_true rfl, Nat.le_of_ble_eq_true rfl⟩ iM iX iMM (cutM rfl rfl) ndM (fun u => joinM rfl rfl) (Nat.le_of_ble_eq_true rfl) rfl (fun r3 u hw => ?_)
  have hw : (r3, u) = (r2, ref', tb', al2') := hw
  obtain ⟨rfl, rfl⟩ := Prod.mk.inj hw
  clear hw
  show V p l e room_1 s m #[Value.ref b] below meth c D A 4 kc ks Q (((wX q_x q_c q_s q_w q_h q_t (x0') (xb') (xn') (xf')) ++ ((wC cI q_c fi se tr lev li co pa ic nc pc) ++ ((wC cI q_s ufi use utr ulev uli uco upa uic unc upc) ++ ((wS cI q_w (fo') (re') (le') (gr') (lg') nwn (rows') (gb') (lc') (rc') (cc') (pr') (al')) ++ ((wH cI cC q_h qs_h yf ys yt yl yi yo yp yn yk yq yw yz) ++ (wT cI q_t tby ks ns tln ocn okn gvn fgn)))))) ++ (wM cI q_m now aside past stt (ref') text len (tb') (al2') rb rm fm lm gm wh ck nb dep spot flt ords lets prts hash)) [(0, .ref b), (1, .ref (q_x 0)), (2, .ref (q_m 0)), (3, .int z)] 718 [.int r3, .int r3]
  exact V_icmp_eq (pc := 718) (tgt := 835) C dL_law_718 rfl (fun _ => k _ ⟨x0', xb', xn', xf', fi, se, tr, lev, li, co, pa, ic, nc, pc, ufi, use, utr, ulev, uli, uco, upa, uic, unc, upc, fo', re', le', gr', lg', nwn, rows', gb', lc', rc', cc', pr', al', yf, ys, yt, yl, yi, yo, yp, yn, yk, yq, yw, yz, tby, ks, ns, tln, ocn, okn, gvn, fgn, now, aside, past, stt, ref', text, len, tb', al2', rb, rm, fm, lm, gm, wh, ck, nb, dep, spot, flt, ords, lets, prts, hash, rfl, hQ', hF', hT⟩) (fun h => absurd rfl h)
set_option maxRecDepth 100000 in
set_option maxHeartbeats 4000000 in
theorem l_verdict (C : Cx p room_1 s m #[Value.ref b] meth c cL_law 4 R_law ret D cI cC A kc ks) (hX : va_X b L xs s s.heap) (hbl : b < s.heap.size) (hbA : ¬ A b) {z : Int32}  (hI : LI cI cC q_x q_c q_s q_w q_h qs_h q_t q_m ws) (k : ∀ ws', LI cI cC q_x q_c q_s q_w q_h qs_h q_t q_m ws' → V p l e room_1 s m #[Value.ref b] below meth c D A 4 kc ks Q ws' [(0, .ref b), (1, .ref (q_x 0)), (2, .ref (q_m 0)), (3, .int z)] 835 []) : V p l e room_1 s m #[Value.ref b] below meth c D A 4 kc ks Q ws [(0, .ref b), (1, .ref (q_x 0)), (2, .ref (q_m 0)), (3, .int z)] 723 [] := by
  obtain ⟨x0, xb, xn, xf, fi, se, tr, lev, li, co, pa, ic, nc, pc, ufi, use, utr, ulev, uli, uco, upa, uic, unc, upc, fo, re, le, gr, lg, nwn, rows, gb, lc, rc, cc, pr, al, yf, ys, yt, yl, yi, yo, yp, yn, yk, yq, yw, yz, tby, ks, ns, tln, ocn, okn, gvn, fgn, now, aside, past, stt, ref, text, len, tb, al2, rb, rm, fm, lm, gm, wh, ck, nb, dep, spot, flt, ords, lets, prts, hash, rfl, hQ, hF, hT⟩ := hI
  obtain ⟨r, x0', fo', re', le', gr', lg', rows', gb', lc', rc', cc', pr', al', tb', al2', rb', rm', fm', lm', gm', wh', ck', e1, e2, hQ'⟩ := s_verdict (tb := tb) (al2 := al2) (rb := rb) (rm := rm) (fm := fm) (lm := lm) (gm := gm) (wh := wh) (ck := ck) hQ
  refine V_aload_n (pc := 723) C 1 dL_law_723 rfl rfl ?_
  refine V_cutVi (pc := 724) (As := []) (st := []) (wr := (wM cI q_m now aside past stt ref text len tb al2 rb rm fm lm gm wh ck nb dep spot flt ords lets prts hash)) C (c_X_verdict (post := fun a => a = (r, x0', fo', re', le', gr', lg', rows', gb', lc', rc', cc', pr', al')) ⟨_, e1, rfl⟩) mk_X4_verdict wd_450 dL_law_724 0 rfl rfl rfl ⟨Nat.le_of_ble_eq_true rfl, Nat.le_of_ble_eq_true rfl⟩ iX iM iN (cutX rfl rfl) ndN (fun u => joinX rfl rfl) (Nat.le_of_ble_eq_true rfl) rfl (fun r2 u hw => ?_)
  have hw : (r2, u) = (r, x0', fo', re', le', gr', lg', rows', gb', lc', rc', cc', pr', al') := hw
  obtain ⟨rfl, rfl⟩ := Prod.mk.inj hw
  clear hw
  show V p l e room_1 s m #[Value.ref b] below meth c D A 4 kc ks Q (((wX q_x q_c q_s q_w q_h q_t (x0') xb xn xf) ++ ((wC cI q_c fi se tr lev li co pa ic nc pc) ++ ((wC cI q_s ufi use utr ulev uli uco upa uic unc upc) ++ ((wS cI q_w (fo') (re') (le') (gr') (lg') nwn (rows') (gb') (lc') (rc') (cc') (pr') (al')) ++ ((wH cI cC q_h qs_h yf ys yt yl yi yo yp yn yk yq yw yz) ++ (wT cI q_t tby ks ns tln ocn okn gvn fgn)))))) ++ (wM cI q_m now aside past stt ref text len tb al2 rb rm fm lm gm wh ck nb dep spot flt ords lets prts hash)) [(0, .ref b), (1, .ref (q_x 0)), (2, .ref (q_m 0)), (3, .int z)] 727 [.int r2]
  refine V_aload_n (pc := 727) C 2 dL_law_727 rfl rfl ?_
  refine V_cutVi (pc := 728) (As := []) (st := [.int r2]) (wr := ((wX q_x q_c q_s q_w q_h q_t (x0') xb xn xf) ++ ((wC cI q_c fi se tr lev li co pa ic nc pc) ++ ((wC cI q_s ufi use utr ulev uli uco upa uic unc upc) ++ ((wS cI q_w (fo') (re') (le') (gr') (lg') nwn (rows') (gb') (lc') (rc') (cc') (pr') (al')) ++ ((wH cI cC q_h qs_h yf ys yt yl yi yo yp yn yk yq yw yz) ++ (wT cI q_t tby ks ns tln ocn okn gvn fgn))))))) C (c_M_verdict (post := fun a => a = (r2, tb', al2', rb', rm', fm', lm', gm', wh', ck')) ⟨_, e2, rfl⟩) mk_X5_verdict wd_839 dL_law_728 72 rfl rfl rfl ⟨Nat.le_of_ble_eq_true rfl, Nat.le_of_ble_eq_true rfl⟩ iM iX iMM (cutM rfl rfl) ndM (fun u => joinM rfl rfl) (Nat.le_of_ble_eq_true rfl) rfl (fun r3 u hw => ?_)
  have hw : (r3, u) = (r2, tb', al2', rb', rm', fm', lm', gm', wh', ck') := hw
  obtain ⟨rfl, rfl⟩ := Prod.mk.inj hw
  clear hw
  show V p l e room_1 s m #[Value.ref b] below meth c D A 4 kc ks Q (((wX q_x q_c q_s q_w q_h q_t (x0') xb xn xf) ++ ((wC cI q_c fi se tr lev li co pa ic nc pc) ++ ((wC cI q_s ufi use utr ulev uli uco upa uic unc upc) ++ ((wS cI q_w (fo') (re') (le') (gr') (lg') nwn (rows') (gb') (lc') (rc') (cc') (pr') (al')) ++ ((wH cI cC q_h qs_h yf ys yt yl yi yo yp yn yk yq yw yz) ++ (wT cI q_t tby ks ns tln ocn okn gvn fgn)))))) ++ (wM cI q_m now aside past stt ref text len (tb') (al2') (rb') (rm') (fm') (lm') (gm') (wh') (ck') nb dep spot flt ords lets prts hash)) [(0, .ref b), (1, .ref (q_x 0)), (2, .ref (q_m 0)), (3, .int z)] 731 [.int r3, .int r3]
  exact V_icmp_eq (pc := 731) (tgt := 835) C dL_law_731 rfl (fun _ => k _ ⟨x0', xb, xn, xf, fi, se, tr, lev, li, co, pa, ic, nc, pc, ufi, use, utr, ulev, uli, uco, upa, uic, unc, upc, fo', re', le', gr', lg', nwn, rows', gb', lc', rc', cc', pr', al', yf, ys, yt, yl, yi, yo, yp, yn, yk, yq, yw, yz, tby, ks, ns, tln, ocn, okn, gvn, fgn, now, aside, past, stt, ref, text, len, tb', al2', rb', rm', fm', lm', gm', wh', ck', nb, dep, spot, flt, ords, lets, prts, hash, rfl, hQ', hF, hT⟩) (fun h => absurd rfl h)
set_option maxRecDepth 100000 in
set_option maxHeartbeats 4000000 in
theorem l_type (C : Cx p room_1 s m #[Value.ref b] meth c cL_law 4 R_law ret D cI cC A kc ks) (hX : va_X b L xs s s.heap) (hbl : b < s.heap.size) (hbA : ¬ A b) {z : Int32} (h1 : vp_in (z + 1) L) (hI : LI cI cC q_x q_c q_s q_w q_h qs_h q_t q_m ws) (k : ∀ ws', LI cI cC q_x q_c q_s q_w q_h qs_h q_t q_m ws' → V p l e room_1 s m #[Value.ref b] below meth c D A 4 kc ks Q ws' [(0, .ref b), (1, .ref (q_x 0)), (2, .ref (q_m 0)), (3, .int z)] 835 []) : V p l e room_1 s m #[Value.ref b] below meth c D A 4 kc ks Q ws [(0, .ref b), (1, .ref (q_x 0)), (2, .ref (q_m 0)), (3, .int z)] 736 [] := by
  obtain ⟨x0, xb, xn, xf, fi, se, tr, lev, li, co, pa, ic, nc, pc, ufi, use, utr, ulev, uli, uco, upa, uic, unc, upc, fo, re, le, gr, lg, nwn, rows, gb, lc, rc, cc, pr, al, yf, ys, yt, yl, yi, yo, yp, yn, yk, yq, yw, yz, tby, ks, ns, tln, ocn, okn, gvn, fgn, now, aside, past, stt, ref, text, len, tb, al2, rb, rm, fm, lm, gm, wh, ck, nb, dep, spot, flt, ords, lets, prts, hash, rfl, hQ, hF, hT⟩ := hI
  obtain ⟨r, xb', xn', xf', tby', tln', ref', text', len', e1, e2, hF', hT'⟩ := g_type hT hF (xs (Int32.toNatClampNeg (z + 1)))
  refine V_aload_n (pc := 736) C 1 dL_law_736 rfl rfl ?_
  refine V_aload_n (pc := 737) C 0 dL_law_737 rfl rfl ?_
  refine V_iload_n (pc := 738) C 3 dL_law_738 rfl rfl ?_
  refine V_iconst (pc := 739) C dL_law_739 ki_1 ?_
  refine V_iadd (pc := 740) C dL_law_740 ?_
  refine V_sld (pc := 741) C hX hbl hbA h1 dL_law_741 ?_
  refine V_cutVi (pc := 742) (As := [.int (xs (Int32.toNatClampNeg (z + 1)))]) (st := []) (wr := (wM cI q_m now aside past stt ref text len tb al2 rb rm fm lm gm wh ck nb dep spot flt ords lets prts hash)) C (c_X_type (post := fun a => a = (r, xb', xn', xf', tby', tln')) ⟨_, e1, rfl⟩) mk_X4_type wd_459 dL_law_742 0 rfl rfl rfl ⟨Nat.le_of_ble_eq_true rfl, Nat.le_of_ble_eq_true rfl⟩ iX iM iN (cutX rfl rfl) ndN (fun u => joinX rfl rfl) (Nat.le_of_ble_eq_true rfl) rfl (fun r2 u hw => ?_)
  have hw : (r2, u) = (r, xb', xn', xf', tby', tln') := hw
  obtain ⟨rfl, rfl⟩ := Prod.mk.inj hw
  clear hw
  show V p l e room_1 s m #[Value.ref b] below meth c D A 4 kc ks Q (((wX q_x q_c q_s q_w q_h q_t x0 (xb') (xn') (xf')) ++ ((wC cI q_c fi se tr lev li co pa ic nc pc) ++ ((wC cI q_s ufi use utr ulev uli uco upa uic unc upc) ++ ((wS cI q_w fo re le gr lg nwn rows gb lc rc cc pr al) ++ ((wH cI cC q_h qs_h yf ys yt yl yi yo yp yn yk yq yw yz) ++ (wT cI q_t (tby') ks ns (tln') ocn okn gvn fgn)))))) ++ (wM cI q_m now aside past stt ref text len tb al2 rb rm fm lm gm wh ck nb dep spot flt ords lets prts hash)) [(0, .ref b), (1, .ref (q_x 0)), (2, .ref (q_m 0)), (3, .int z)] 745 [.int r2]
  refine V_aload_n (pc := 745) C 2 dL_law_745 rfl rfl ?_
  refine V_aload_n (pc := 746) C 0 dL_law_746 rfl rfl ?_
  refine V_iload_n (pc := 747) C 3 dL_law_747 rfl rfl ?_
  refine V_iconst (pc := 748) C dL_law_748 ki_1 ?_
  refine V_iadd (pc := 749) C dL_law_749 ?_
  refine V_sld (pc := 750) C hX hbl hbA h1 dL_law_750 ?_
  refine V_cutVi (pc := 751) (As := [.int (xs (Int32.toNatClampNeg (z + 1)))]) (st := [.int r2]) (wr := ((wX q_x q_c q_s q_w q_h q_t x0 (xb') (xn') (xf')) ++ ((wC cI q_c fi se tr lev li co pa ic nc pc) ++ ((wC cI q_s ufi use utr ulev uli uco upa uic unc upc) ++ ((wS cI q_w fo re le gr lg nwn rows gb lc rc cc pr al) ++ ((wH cI cC q_h qs_h yf ys yt yl yi yo yp yn yk yq yw yz) ++ (wT cI q_t (tby') ks ns (tln') ocn okn gvn fgn))))))) C (c_M_type (post := fun a => a = (r2, ref', text', len')) ⟨_, e2, rfl⟩) mk_X5_type wd_846 dL_law_751 72 rfl rfl rfl ⟨Nat.le_of_ble_eq_true rfl, Nat.le_of_ble_eq_true rfl⟩ iM iX iMM (cutM rfl rfl) ndM (fun u => joinM rfl rfl) (Nat.le_of_ble_eq_true rfl) rfl (fun r3 u hw => ?_)
  have hw : (r3, u) = (r2, ref', text', len') := hw
  obtain ⟨rfl, rfl⟩ := Prod.mk.inj hw
  clear hw
  show V p l e room_1 s m #[Value.ref b] below meth c D A 4 kc ks Q (((wX q_x q_c q_s q_w q_h q_t x0 (xb') (xn') (xf')) ++ ((wC cI q_c fi se tr lev li co pa ic nc pc) ++ ((wC cI q_s ufi use utr ulev uli uco upa uic unc upc) ++ ((wS cI q_w fo re le gr lg nwn rows gb lc rc cc pr al) ++ ((wH cI cC q_h qs_h yf ys yt yl yi yo yp yn yk yq yw yz) ++ (wT cI q_t (tby') ks ns (tln') ocn okn gvn fgn)))))) ++ (wM cI q_m now aside past stt (ref') (text') (len') tb al2 rb rm fm lm gm wh ck nb dep spot flt ords lets prts hash)) [(0, .ref b), (1, .ref (q_x 0)), (2, .ref (q_m 0)), (3, .int z)] 754 [.int r3, .int r3]
  exact V_icmp_eq (pc := 754) (tgt := 835) C dL_law_754 rfl (fun _ => k _ ⟨x0, xb', xn', xf', fi, se, tr, lev, li, co, pa, ic, nc, pc, ufi, use, utr, ulev, uli, uco, upa, uic, unc, upc, fo, re, le, gr, lg, nwn, rows, gb, lc, rc, cc, pr, al, yf, ys, yt, yl, yi, yo, yp, yn, yk, yq, yw, yz, tby', ks, ns, tln', ocn, okn, gvn, fgn, now, aside, past, stt, ref', text', len', tb, al2, rb, rm, fm, lm, gm, wh, ck, nb, dep, spot, flt, ords, lets, prts, hash, rfl, hQ, hF', hT'⟩) (fun h => absurd rfl h)
set_option maxRecDepth 100000 in
set_option maxHeartbeats 4000000 in
theorem l_clear (C : Cx p room_1 s m #[Value.ref b] meth c cL_law 4 R_law ret D cI cC A kc ks) (hX : va_X b L xs s s.heap) (hbl : b < s.heap.size) (hbA : ¬ A b) {z : Int32}  (hI : LI cI cC q_x q_c q_s q_w q_h qs_h q_t q_m ws) (k : ∀ ws', LI cI cC q_x q_c q_s q_w q_h qs_h q_t q_m ws' → V p l e room_1 s m #[Value.ref b] below meth c D A 4 kc ks Q ws' [(0, .ref b), (1, .ref (q_x 0)), (2, .ref (q_m 0)), (3, .int z)] 835 []) : V p l e room_1 s m #[Value.ref b] below meth c D A 4 kc ks Q ws [(0, .ref b), (1, .ref (q_x 0)), (2, .ref (q_m 0)), (3, .int z)] 759 [] := by
  obtain ⟨x0, xb, xn, xf, fi, se, tr, lev, li, co, pa, ic, nc, pc, ufi, use, utr, ulev, uli, uco, upa, uic, unc, upc, fo, re, le, gr, lg, nwn, rows, gb, lc, rc, cc, pr, al, yf, ys, yt, yl, yi, yo, yp, yn, yk, yq, yw, yz, tby, ks, ns, tln, ocn, okn, gvn, fgn, now, aside, past, stt, ref, text, len, tb, al2, rb, rm, fm, lm, gm, wh, ck, nb, dep, spot, flt, ords, lets, prts, hash, rfl, hQ, hF, hT⟩ := hI
  have hyz : yz = stt := by obtain ⟨-, -, -, -, ⟨z1, w1, Hs, -, -, e1, e2, -⟩, -⟩ := hQ; rw [e1, e2]
  have hln : tln = len := by obtain ⟨z1, -, e1, e2, -⟩ := hT; rw [e1, e2]
  subst hyz hln
  have e1 : X_clear tln = some (tln, 0) := rfl
  have e2 : M_clear tln = some (tln, 0) := rfl
  obtain ⟨r, hr⟩ : ∃ r, r = tln := ⟨_, rfl⟩
  rw [← hr] at e2
  have e1 : X_clear tln = some (r, 0) := by rw [hr]; rfl
  obtain ⟨tln', htl⟩ : ∃ t : Int32, t = 0 := ⟨_, rfl⟩
  rw [← htl] at e1 e2
  have hT' : TX tby tln' text tln' := ⟨0, by omega, htl, htl, fun i hi => absurd hi (Nat.not_lt_zero i)⟩
  refine V_aload_n (pc := 759) C 1 dL_law_759 rfl rfl ?_
  refine V_cutVi (pc := 760) (As := []) (st := []) (wr := (wM cI q_m now aside past yz ref text tln tb al2 rb rm fm lm gm wh ck nb dep spot flt ords lets prts hash)) C (c_X_clear (post := fun a => a = (r, tln')) ⟨_, e1, rfl⟩) mk_X4_clear wd_467 dL_law_760 0 rfl rfl rfl ⟨Nat.le_of_ble_eq_true rfl, Nat.le_of_ble_eq_true rfl⟩ iX iM iN (cutX rfl rfl) ndN (fun u => joinX rfl rfl) (Nat.le_of_ble_eq_true rfl) rfl (fun r2 u hw => ?_)
  have hw : (r2, u) = (r, tln') := hw
  obtain ⟨rfl, rfl⟩ := Prod.mk.inj hw
  clear hw
  show V p l e room_1 s m #[Value.ref b] below meth c D A 4 kc ks Q (((wX q_x q_c q_s q_w q_h q_t x0 xb xn xf) ++ ((wC cI q_c fi se tr lev li co pa ic nc pc) ++ ((wC cI q_s ufi use utr ulev uli uco upa uic unc upc) ++ ((wS cI q_w fo re le gr lg nwn rows gb lc rc cc pr al) ++ ((wH cI cC q_h qs_h yf ys yt yl yi yo yp yn yk yq yw yz) ++ (wT cI q_t tby ks ns (tln') ocn okn gvn fgn)))))) ++ (wM cI q_m now aside past yz ref text tln tb al2 rb rm fm lm gm wh ck nb dep spot flt ords lets prts hash)) [(0, .ref b), (1, .ref (q_x 0)), (2, .ref (q_m 0)), (3, .int z)] 763 [.int r2]
  refine V_aload_n (pc := 763) C 2 dL_law_763 rfl rfl ?_
  refine V_cutVi (pc := 764) (As := []) (st := [.int r2]) (wr := ((wX q_x q_c q_s q_w q_h q_t x0 xb xn xf) ++ ((wC cI q_c fi se tr lev li co pa ic nc pc) ++ ((wC cI q_s ufi use utr ulev uli uco upa uic unc upc) ++ ((wS cI q_w fo re le gr lg nwn rows gb lc rc cc pr al) ++ ((wH cI cC q_h qs_h yf ys yt yl yi yo yp yn yk yq yw yz) ++ (wT cI q_t tby ks ns (tln') ocn okn gvn fgn))))))) C (c_M_clear (post := fun a => a = (r2, tln')) ⟨_, e2, rfl⟩) mk_X5_clear wd_850 dL_law_764 72 rfl rfl rfl ⟨Nat.le_of_ble_eq_true rfl, Nat.le_of_ble_eq_true rfl⟩ iM iX iMM (cutM rfl rfl) ndM (fun u => joinM rfl rfl) (Nat.le_of_ble_eq_true rfl) rfl (fun r3 u hw => ?_)
  have hw : (r3, u) = (r2, tln') := hw
  obtain ⟨rfl, rfl⟩ := Prod.mk.inj hw
  clear hw
  show V p l e room_1 s m #[Value.ref b] below meth c D A 4 kc ks Q (((wX q_x q_c q_s q_w q_h q_t x0 xb xn xf) ++ ((wC cI q_c fi se tr lev li co pa ic nc pc) ++ ((wC cI q_s ufi use utr ulev uli uco upa uic unc upc) ++ ((wS cI q_w fo re le gr lg nwn rows gb lc rc cc pr al) ++ ((wH cI cC q_h qs_h yf ys yt yl yi yo yp yn yk yq yw yz) ++ (wT cI q_t tby ks ns (tln') ocn okn gvn fgn)))))) ++ (wM cI q_m now aside past yz ref text (tln') tb al2 rb rm fm lm gm wh ck nb dep spot flt ords lets prts hash)) [(0, .ref b), (1, .ref (q_x 0)), (2, .ref (q_m 0)), (3, .int z)] 767 [.int r3, .int r3]
  exact V_icmp_eq (pc := 767) (tgt := 835) C dL_law_767 rfl (fun _ => k _ ⟨x0, xb, xn, xf, fi, se, tr, lev, li, co, pa, ic, nc, pc, ufi, use, utr, ulev, uli, uco, upa, uic, unc, upc, fo, re, le, gr, lg, nwn, rows, gb, lc, rc, cc, pr, al, yf, ys, yt, yl, yi, yo, yp, yn, yk, yq, yw, yz, tby, ks, ns, tln', ocn, okn, gvn, fgn, now, aside, past, yz, ref, text, tln', tb, al2, rb, rm, fm, lm, gm, wh, ck, nb, dep, spot, flt, ords, lets, prts, hash, rfl, hQ, hF, hT'⟩) (fun h => absurd rfl h)
set_option maxRecDepth 100000 in
set_option maxHeartbeats 4000000 in
theorem l_does (C : Cx p room_1 s m #[Value.ref b] meth c cL_law 4 R_law ret D cI cC A kc ks) (hX : va_X b L xs s s.heap) (hbl : b < s.heap.size) (hbA : ¬ A b) {z : Int32}  (hI : LI cI cC q_x q_c q_s q_w q_h qs_h q_t q_m ws) (k : ∀ ws', LI cI cC q_x q_c q_s q_w q_h qs_h q_t q_m ws' → V p l e room_1 s m #[Value.ref b] below meth c D A 4 kc ks Q ws' [(0, .ref b), (1, .ref (q_x 0)), (2, .ref (q_m 0)), (3, .int z)] 835 []) : V p l e room_1 s m #[Value.ref b] below meth c D A 4 kc ks Q ws [(0, .ref b), (1, .ref (q_x 0)), (2, .ref (q_m 0)), (3, .int z)] 772 [] := by
  obtain ⟨x0, xb, xn, xf, fi, se, tr, lev, li, co, pa, ic, nc, pc, ufi, use, utr, ulev, uli, uco, upa, uic, unc, upc, fo, re, le, gr, lg, nwn, rows, gb, lc, rc, cc, pr, al, yf, ys, yt, yl, yi, yo, yp, yn, yk, yq, yw, yz, tby, ks, ns, tln, ocn, okn, gvn, fgn, now, aside, past, stt, ref, text, len, tb, al2, rb, rm, fm, lm, gm, wh, ck, nb, dep, spot, flt, ords, lets, prts, hash, rfl, hQ, hF, hT⟩ := hI
  obtain ⟨r, x0', fi', se', tr', lev', li', co', pa', ic', nc', pc', ufi', use', utr', ulev', uli', uco', upa', uic', unc', upc', yf', ys', yt', yl', yi', yo', yp', yn', yk', yq', yw', yz', ks', ns', ocn', okn', gvn', fgn', now', aside', past', stt', spot', flt', ords', lets', prts', e1, e2, hQ'⟩ := s_does (ufi := ufi) (use := use) (utr := utr) (ulev := ulev) (uli := uli) (uco := uco) (upa := upa) (uic := uic) (unc := unc) (upc := upc) hT hQ ks ns ocn okn gvn fgn aside spot flt ords lets prts
  refine V_aload_n (pc := 772) C 1 dL_law_772 rfl rfl ?_
  refine V_cutVi (pc := 773) (As := []) (st := []) (wr := (wM cI q_m now aside past stt ref text len tb al2 rb rm fm lm gm wh ck nb dep spot flt ords lets prts hash)) C (c_X_does (post := fun a => a = (r, x0', fi', se', tr', lev', li', co', pa', ic', nc', pc', ufi', use', utr', ulev', uli', uco', upa', uic', unc', upc', yf', ys', yt', yl', yi', yo', yp', yn', yk', yq', yw', yz', ks', ns', ocn', okn', gvn', fgn')) ⟨_, e1, rfl⟩) mk_X4_does wd_471 dL_law_773 0 rfl rfl rfl ⟨Nat.le_of_ble_eq_true rfl, Nat.le_of_ble_eq_true rfl⟩ iX iM iN (cutX rfl rfl) ndN (fun u => joinX rfl rfl) (Nat.le_of_ble_eq_true rfl) rfl (fun r2 u hw => ?_)
  have hw : (r2, u) = (r, x0', fi', se', tr', lev', li', co', pa', ic', nc', pc', ufi', use', utr', ulev', uli', uco', upa', uic', unc', upc', yf', ys', yt', yl', yi', yo', yp', yn', yk', yq', yw', yz', ks', ns', ocn', okn', gvn', fgn') := hw
  obtain ⟨rfl, rfl⟩ := Prod.mk.inj hw
  clear hw
  show V p l e room_1 s m #[Value.ref b] below meth c D A 4 kc ks Q (((wX q_x q_c q_s q_w q_h q_t (x0') xb xn xf) ++ ((wC cI q_c (fi') (se') (tr') (lev') (li') (co') (pa') (ic') (nc') (pc')) ++ ((wC cI q_s (ufi') (use') (utr') (ulev') (uli') (uco') (upa') (uic') (unc') (upc')) ++ ((wS cI q_w fo re le gr lg nwn rows gb lc rc cc pr al) ++ ((wH cI cC q_h qs_h (yf') (ys') (yt') (yl') (yi') (yo') (yp') (yn') (yk') (yq') (yw') (yz')) ++ (wT cI q_t tby (ks') (ns') tln (ocn') (okn') (gvn') (fgn'))))))) ++ (wM cI q_m now aside past stt ref text len tb al2 rb rm fm lm gm wh ck nb dep spot flt ords lets prts hash)) [(0, .ref b), (1, .ref (q_x 0)), (2, .ref (q_m 0)), (3, .int z)] 776 [.int r2]
  refine V_aload_n (pc := 776) C 2 dL_law_776 rfl rfl ?_
  refine V_cutVi (pc := 777) (As := []) (st := [.int r2]) (wr := ((wX q_x q_c q_s q_w q_h q_t (x0') xb xn xf) ++ ((wC cI q_c (fi') (se') (tr') (lev') (li') (co') (pa') (ic') (nc') (pc')) ++ ((wC cI q_s (ufi') (use') (utr') (ulev') (uli') (uco') (upa') (uic') (unc') (upc')) ++ ((wS cI q_w fo re le gr lg nwn rows gb lc rc cc pr al) ++ ((wH cI cC q_h qs_h (yf') (ys') (yt') (yl') (yi') (yo') (yp') (yn') (yk') (yq') (yw') (yz')) ++ (wT cI q_t tby (ks') (ns') tln (ocn') (okn') (gvn') (fgn')))))))) C (c_M_does (post := fun a => a = (r2, now', aside', past', stt', spot', flt', ords', lets', prts')) ⟨_, e2, rfl⟩) mk_X5_does wd_854 dL_law_777 72 rfl rfl rfl ⟨Nat.le_of_ble_eq_true rfl, Nat.le_of_ble_eq_true rfl⟩ iM iX iMM (cutM rfl rfl) ndM (fun u => joinM rfl rfl) (Nat.le_of_ble_eq_true rfl) rfl (fun r3 u hw => ?_)
  have hw : (r3, u) = (r2, now', aside', past', stt', spot', flt', ords', lets', prts') := hw
  obtain ⟨rfl, rfl⟩ := Prod.mk.inj hw
  clear hw
  show V p l e room_1 s m #[Value.ref b] below meth c D A 4 kc ks Q (((wX q_x q_c q_s q_w q_h q_t (x0') xb xn xf) ++ ((wC cI q_c (fi') (se') (tr') (lev') (li') (co') (pa') (ic') (nc') (pc')) ++ ((wC cI q_s (ufi') (use') (utr') (ulev') (uli') (uco') (upa') (uic') (unc') (upc')) ++ ((wS cI q_w fo re le gr lg nwn rows gb lc rc cc pr al) ++ ((wH cI cC q_h qs_h (yf') (ys') (yt') (yl') (yi') (yo') (yp') (yn') (yk') (yq') (yw') (yz')) ++ (wT cI q_t tby (ks') (ns') tln (ocn') (okn') (gvn') (fgn'))))))) ++ (wM cI q_m (now') (aside') (past') (stt') ref text len tb al2 rb rm fm lm gm wh ck nb dep (spot') (flt') (ords') (lets') (prts') hash)) [(0, .ref b), (1, .ref (q_x 0)), (2, .ref (q_m 0)), (3, .int z)] 780 [.int r3, .int r3]
  exact V_icmp_eq (pc := 780) (tgt := 835) C dL_law_780 rfl (fun _ => k _ ⟨x0', xb, xn, xf, fi', se', tr', lev', li', co', pa', ic', nc', pc', ufi', use', utr', ulev', uli', uco', upa', uic', unc', upc', fo, re, le, gr, lg, nwn, rows, gb, lc, rc, cc, pr, al, yf', ys', yt', yl', yi', yo', yp', yn', yk', yq', yw', yz', tby, ks', ns', tln, ocn', okn', gvn', fgn', now', aside', past', stt', ref, text, len, tb, al2, rb, rm, fm, lm, gm, wh, ck, nb, dep, spot', flt', ords', lets', prts', hash, rfl, hQ', hF, hT⟩) (fun h => absurd rfl h)
set_option maxRecDepth 100000 in
set_option maxHeartbeats 4000000 in
theorem l_back (C : Cx p room_1 s m #[Value.ref b] meth c cL_law 4 R_law ret D cI cC A kc ks) (hX : va_X b L xs s s.heap) (hbl : b < s.heap.size) (hbA : ¬ A b) {z : Int32}  (hI : LI cI cC q_x q_c q_s q_w q_h qs_h q_t q_m ws) (k : ∀ ws', LI cI cC q_x q_c q_s q_w q_h qs_h q_t q_m ws' → V p l e room_1 s m #[Value.ref b] below meth c D A 4 kc ks Q ws' [(0, .ref b), (1, .ref (q_x 0)), (2, .ref (q_m 0)), (3, .int z)] 835 []) : V p l e room_1 s m #[Value.ref b] below meth c D A 4 kc ks Q ws [(0, .ref b), (1, .ref (q_x 0)), (2, .ref (q_m 0)), (3, .int z)] 785 [] := by
  obtain ⟨x0, xb, xn, xf, fi, se, tr, lev, li, co, pa, ic, nc, pc, ufi, use, utr, ulev, uli, uco, upa, uic, unc, upc, fo, re, le, gr, lg, nwn, rows, gb, lc, rc, cc, pr, al, yf, ys, yt, yl, yi, yo, yp, yn, yk, yq, yw, yz, tby, ks, ns, tln, ocn, okn, gvn, fgn, now, aside, past, stt, ref, text, len, tb, al2, rb, rm, fm, lm, gm, wh, ck, nb, dep, spot, flt, ords, lets, prts, hash, rfl, hQ, hF, hT⟩ := hI
  obtain ⟨r, x0', xb', xn', xf', fi', se', tr', lev', li', co', pa', ic', nc', pc', yw', yz', now', stt', ref', e1, e2, hQ', hF'⟩ := back_op hQ hF
  refine V_aload_n (pc := 785) C 1 dL_law_785 rfl rfl ?_
  refine V_cutVi (pc := 786) (As := []) (st := []) (wr := (wM cI q_m now aside past stt ref text len tb al2 rb rm fm lm gm wh ck nb dep spot flt ords lets prts hash)) C (c_X_back (post := fun a => a = (r, x0', xb', xn', xf', fi', se', tr', lev', li', co', pa', ic', nc', pc', yw', yz')) ⟨_, e1, rfl⟩) mk_X4_back wd_539 dL_law_786 0 rfl rfl rfl ⟨Nat.le_of_ble_eq_true rfl, Nat.le_of_ble_eq_true rfl⟩ iX iM iN (cutX rfl rfl) ndN (fun u => joinX rfl rfl) (Nat.le_of_ble_eq_true rfl) rfl (fun r2 u hw => ?_)
  have hw : (r2, u) = (r, x0', xb', xn', xf', fi', se', tr', lev', li', co', pa', ic', nc', pc', yw', yz') := hw
  obtain ⟨rfl, rfl⟩ := Prod.mk.inj hw
  clear hw
  show V p l e room_1 s m #[Value.ref b] below meth c D A 4 kc ks Q (((wX q_x q_c q_s q_w q_h q_t (x0') (xb') (xn') (xf')) ++ ((wC cI q_c (fi') (se') (tr') (lev') (li') (co') (pa') (ic') (nc') (pc')) ++ ((wC cI q_s ufi use utr ulev uli uco upa uic unc upc) ++ ((wS cI q_w fo re le gr lg nwn rows gb lc rc cc pr al) ++ ((wH cI cC q_h qs_h yf ys yt yl yi yo yp yn yk yq (yw') (yz')) ++ (wT cI q_t tby ks ns tln ocn okn gvn fgn)))))) ++ (wM cI q_m now aside past stt ref text len tb al2 rb rm fm lm gm wh ck nb dep spot flt ords lets prts hash)) [(0, .ref b), (1, .ref (q_x 0)), (2, .ref (q_m 0)), (3, .int z)] 789 [.int r2]
  refine V_aload_n (pc := 789) C 2 dL_law_789 rfl rfl ?_
  refine V_cutVi (pc := 790) (As := []) (st := [.int r2]) (wr := ((wX q_x q_c q_s q_w q_h q_t (x0') (xb') (xn') (xf')) ++ ((wC cI q_c (fi') (se') (tr') (lev') (li') (co') (pa') (ic') (nc') (pc')) ++ ((wC cI q_s ufi use utr ulev uli uco upa uic unc upc) ++ ((wS cI q_w fo re le gr lg nwn rows gb lc rc cc pr al) ++ ((wH cI cC q_h qs_h yf ys yt yl yi yo yp yn yk yq (yw') (yz')) ++ (wT cI q_t tby ks ns tln ocn okn gvn fgn))))))) C (c_M_back (post := fun a => a = (r2, now', stt', ref')) ⟨_, e2, rfl⟩) mk_X5_back wd_613 dL_law_790 72 rfl rfl rfl ⟨Nat.le_of_ble_eq_true rfl, Nat.le_of_ble_eq_true rfl⟩ iM iX iMM (cutM rfl rfl) ndM (fun u => joinM rfl rfl) (Nat.le_of_ble_eq_true rfl) rfl (fun r3 u hw => ?_)
  have hw : (r3, u) = (r2, now', stt', ref') := hw
  obtain ⟨rfl, rfl⟩ := Prod.mk.inj hw
  clear hw
  show V p l e room_1 s m #[Value.ref b] below meth c D A 4 kc ks Q (((wX q_x q_c q_s q_w q_h q_t (x0') (xb') (xn') (xf')) ++ ((wC cI q_c (fi') (se') (tr') (lev') (li') (co') (pa') (ic') (nc') (pc')) ++ ((wC cI q_s ufi use utr ulev uli uco upa uic unc upc) ++ ((wS cI q_w fo re le gr lg nwn rows gb lc rc cc pr al) ++ ((wH cI cC q_h qs_h yf ys yt yl yi yo yp yn yk yq (yw') (yz')) ++ (wT cI q_t tby ks ns tln ocn okn gvn fgn)))))) ++ (wM cI q_m (now') aside past (stt') (ref') text len tb al2 rb rm fm lm gm wh ck nb dep spot flt ords lets prts hash)) [(0, .ref b), (1, .ref (q_x 0)), (2, .ref (q_m 0)), (3, .int z)] 793 [.int r3, .int r3]
  exact V_icmp_eq (pc := 793) (tgt := 835) C dL_law_793 rfl (fun _ => k _ ⟨x0', xb', xn', xf', fi', se', tr', lev', li', co', pa', ic', nc', pc', ufi, use, utr, ulev, uli, uco, upa, uic, unc, upc, fo, re, le, gr, lg, nwn, rows, gb, lc, rc, cc, pr, al, yf, ys, yt, yl, yi, yo, yp, yn, yk, yq, yw', yz', tby, ks, ns, tln, ocn, okn, gvn, fgn, now', aside, past, stt', ref', text, len, tb, al2, rb, rm, fm, lm, gm, wh, ck, nb, dep, spot, flt, ords, lets, prts, hash, rfl, hQ', hF', hT⟩) (fun h => absurd rfl h)
set_option maxRecDepth 100000 in
set_option maxHeartbeats 4000000 in
theorem l_told (C : Cx p room_1 s m #[Value.ref b] meth c cL_law 4 R_law ret D cI cC A kc ks) (hX : va_X b L xs s s.heap) (hbl : b < s.heap.size) (hbA : ¬ A b) {z : Int32} (h1 : vp_in (z + 1) L) (hI : LI cI cC q_x q_c q_s q_w q_h qs_h q_t q_m ws) (k : ∀ ws', LI cI cC q_x q_c q_s q_w q_h qs_h q_t q_m ws' → V p l e room_1 s m #[Value.ref b] below meth c D A 4 kc ks Q ws' [(0, .ref b), (1, .ref (q_x 0)), (2, .ref (q_m 0)), (3, .int z)] 835 []) : V p l e room_1 s m #[Value.ref b] below meth c D A 4 kc ks Q ws [(0, .ref b), (1, .ref (q_x 0)), (2, .ref (q_m 0)), (3, .int z)] 798 [] := by
  obtain ⟨x0, xb, xn, xf, fi, se, tr, lev, li, co, pa, ic, nc, pc, ufi, use, utr, ulev, uli, uco, upa, uic, unc, upc, fo, re, le, gr, lg, nwn, rows, gb, lc, rc, cc, pr, al, yf, ys, yt, yl, yi, yo, yp, yn, yk, yq, yw, yz, tby, ks, ns, tln, ocn, okn, gvn, fgn, now, aside, past, stt, ref, text, len, tb, al2, rb, rm, fm, lm, gm, wh, ck, nb, dep, spot, flt, ords, lets, prts, hash, rfl, hQ, hF, hT⟩ := hI
  have hyz : yz = stt := by obtain ⟨-, -, -, -, ⟨z1, w1, Hs, -, -, e1, e2, -⟩, -⟩ := hQ; rw [e1, e2]
  have hln : tln = len := by obtain ⟨z1, -, e1, e2, -⟩ := hT; rw [e1, e2]
  subst hyz hln
  obtain ⟨r, xb', xn', xf', ref', e1, e2, hF'⟩ := g_told hF yz tln (xs (Int32.toNatClampNeg (z + 1)))
  refine V_aload_n (pc := 798) C 1 dL_law_798 rfl rfl ?_
  refine V_aload_n (pc := 799) C 0 dL_law_799 rfl rfl ?_
  refine V_iload_n (pc := 800) C 3 dL_law_800 rfl rfl ?_
  refine V_iconst (pc := 801) C dL_law_801 ki_1 ?_
  refine V_iadd (pc := 802) C dL_law_802 ?_
  refine V_sld (pc := 803) C hX hbl hbA h1 dL_law_803 ?_
  refine V_cutVi (pc := 804) (As := [.int (xs (Int32.toNatClampNeg (z + 1)))]) (st := []) (wr := (wM cI q_m now aside past yz ref text tln tb al2 rb rm fm lm gm wh ck nb dep spot flt ords lets prts hash)) C (c_X_told (post := fun a => a = (r, xb', xn', xf')) ⟨_, e1, rfl⟩) mk_X4_told wd_547 dL_law_804 0 rfl rfl rfl ⟨Nat.le_of_ble_eq_true rfl, Nat.le_of_ble_eq_true rfl⟩ iX iM iN (cutX rfl rfl) ndN (fun u => joinX rfl rfl) (Nat.le_of_ble_eq_true rfl) rfl (fun r2 u hw => ?_)
  have hw : (r2, u) = (r, xb', xn', xf') := hw
  obtain ⟨rfl, rfl⟩ := Prod.mk.inj hw
  clear hw
  show V p l e room_1 s m #[Value.ref b] below meth c D A 4 kc ks Q (((wX q_x q_c q_s q_w q_h q_t x0 (xb') (xn') (xf')) ++ ((wC cI q_c fi se tr lev li co pa ic nc pc) ++ ((wC cI q_s ufi use utr ulev uli uco upa uic unc upc) ++ ((wS cI q_w fo re le gr lg nwn rows gb lc rc cc pr al) ++ ((wH cI cC q_h qs_h yf ys yt yl yi yo yp yn yk yq yw yz) ++ (wT cI q_t tby ks ns tln ocn okn gvn fgn)))))) ++ (wM cI q_m now aside past yz ref text tln tb al2 rb rm fm lm gm wh ck nb dep spot flt ords lets prts hash)) [(0, .ref b), (1, .ref (q_x 0)), (2, .ref (q_m 0)), (3, .int z)] 807 [.int r2]
  refine V_aload_n (pc := 807) C 2 dL_law_807 rfl rfl ?_
  refine V_aload_n (pc := 808) C 0 dL_law_808 rfl rfl ?_
  refine V_iload_n (pc := 809) C 3 dL_law_809 rfl rfl ?_
  refine V_iconst (pc := 810) C dL_law_810 ki_1 ?_
  refine V_iadd (pc := 811) C dL_law_811 ?_
  refine V_sld (pc := 812) C hX hbl hbA h1 dL_law_812 ?_
  refine V_cutVi (pc := 813) (As := [.int (xs (Int32.toNatClampNeg (z + 1)))]) (st := [.int r2]) (wr := ((wX q_x q_c q_s q_w q_h q_t x0 (xb') (xn') (xf')) ++ ((wC cI q_c fi se tr lev li co pa ic nc pc) ++ ((wC cI q_s ufi use utr ulev uli uco upa uic unc upc) ++ ((wS cI q_w fo re le gr lg nwn rows gb lc rc cc pr al) ++ ((wH cI cC q_h qs_h yf ys yt yl yi yo yp yn yk yq yw yz) ++ (wT cI q_t tby ks ns tln ocn okn gvn fgn))))))) C (c_M_told (post := fun a => a = (r2, ref')) ⟨_, e2, rfl⟩) mk_X5_told wd_879 dL_law_813 72 rfl rfl rfl ⟨Nat.le_of_ble_eq_true rfl, Nat.le_of_ble_eq_true rfl⟩ iM iX iMM (cutM rfl rfl) ndM (fun u => joinM rfl rfl) (Nat.le_of_ble_eq_true rfl) rfl (fun r3 u hw => ?_)
  have hw : (r3, u) = (r2, ref') := hw
  obtain ⟨rfl, rfl⟩ := Prod.mk.inj hw
  clear hw
  show V p l e room_1 s m #[Value.ref b] below meth c D A 4 kc ks Q (((wX q_x q_c q_s q_w q_h q_t x0 (xb') (xn') (xf')) ++ ((wC cI q_c fi se tr lev li co pa ic nc pc) ++ ((wC cI q_s ufi use utr ulev uli uco upa uic unc upc) ++ ((wS cI q_w fo re le gr lg nwn rows gb lc rc cc pr al) ++ ((wH cI cC q_h qs_h yf ys yt yl yi yo yp yn yk yq yw yz) ++ (wT cI q_t tby ks ns tln ocn okn gvn fgn)))))) ++ (wM cI q_m now aside past yz (ref') text tln tb al2 rb rm fm lm gm wh ck nb dep spot flt ords lets prts hash)) [(0, .ref b), (1, .ref (q_x 0)), (2, .ref (q_m 0)), (3, .int z)] 816 [.int r3, .int r3]
  exact V_icmp_eq (pc := 816) (tgt := 835) C dL_law_816 rfl (fun _ => k _ ⟨x0, xb', xn', xf', fi, se, tr, lev, li, co, pa, ic, nc, pc, ufi, use, utr, ulev, uli, uco, upa, uic, unc, upc, fo, re, le, gr, lg, nwn, rows, gb, lc, rc, cc, pr, al, yf, ys, yt, yl, yi, yo, yp, yn, yk, yq, yw, yz, tby, ks, ns, tln, ocn, okn, gvn, fgn, now, aside, past, yz, ref', text, tln, tb, al2, rb, rm, fm, lm, gm, wh, ck, nb, dep, spot, flt, ords, lets, prts, hash, rfl, hQ, hF', hT⟩) (fun h => absurd rfl h)
set_option maxRecDepth 100000 in
set_option maxHeartbeats 4000000 in
theorem l_digest (C : Cx p room_1 s m #[Value.ref b] meth c cL_law 4 R_law ret D cI cC A kc ks) (hX : va_X b L xs s s.heap) (hbl : b < s.heap.size) (hbA : ¬ A b) {z : Int32}  (hI : LI cI cC q_x q_c q_s q_w q_h qs_h q_t q_m ws) (k : ∀ ws', LI cI cC q_x q_c q_s q_w q_h qs_h q_t q_m ws' → V p l e room_1 s m #[Value.ref b] below meth c D A 4 kc ks Q ws' [(0, .ref b), (1, .ref (q_x 0)), (2, .ref (q_m 0)), (3, .int z)] 835 []) : V p l e room_1 s m #[Value.ref b] below meth c D A 4 kc ks Q ws [(0, .ref b), (1, .ref (q_x 0)), (2, .ref (q_m 0)), (3, .int z)] 821 [] := by
  obtain ⟨x0, xb, xn, xf, fi, se, tr, lev, li, co, pa, ic, nc, pc, ufi, use, utr, ulev, uli, uco, upa, uic, unc, upc, fo, re, le, gr, lg, nwn, rows, gb, lc, rc, cc, pr, al, yf, ys, yt, yl, yi, yo, yp, yn, yk, yq, yw, yz, tby, ks, ns, tln, ocn, okn, gvn, fgn, now, aside, past, stt, ref, text, len, tb, al2, rb, rm, fm, lm, gm, wh, ck, nb, dep, spot, flt, ords, lets, prts, hash, rfl, hQ, hF, hT⟩ := hI
  have hyz : yz = stt := by obtain ⟨-, -, -, -, ⟨z1, w1, Hs, -, -, e1, e2, -⟩, -⟩ := hQ; rw [e1, e2]
  have hln : tln = len := by obtain ⟨z1, -, e1, e2, -⟩ := hT; rw [e1, e2]
  subst hyz hln
  obtain ⟨r, x0', fo', re', le', gr', lg', rows', gb', lc', rc', cc', pr', al', tb', al2', rb', rm', fm', lm', gm', wh', ck', hash', e1, e2, hQ'⟩ := s_digest (tb := tb) (al2 := al2) (rb := rb) (rm := rm) (fm := fm) (lm := lm) (gm := gm) (wh := wh) (ck := ck) hQ hF tln hash
  refine V_aload_n (pc := 821) C 1 dL_law_821 rfl rfl ?_
  refine V_cutVl (pc := 822) (As := []) (st := []) (wr := (wM cI q_m now aside past yz ref text tln tb al2 rb rm fm lm gm wh ck nb dep spot flt ords lets prts hash)) C (c_X_digest (post := fun a => a = (r, x0', fo', re', le', gr', lg', rows', gb', lc', rc', cc', pr', al')) ⟨_, e1, rfl⟩) mk_X4_digest wd_554 dL_law_822 0 rfl rfl rfl ⟨Nat.le_of_ble_eq_true rfl, Nat.le_of_ble_eq_true rfl⟩ iX iM iN (cutX rfl rfl) ndN (fun u => joinX rfl rfl) (Nat.le_of_ble_eq_true rfl) rfl (fun r2 u hw => ?_)
  have hw : (r2, u) = (r, x0', fo', re', le', gr', lg', rows', gb', lc', rc', cc', pr', al') := hw
  obtain ⟨rfl, rfl⟩ := Prod.mk.inj hw
  clear hw
  show V p l e room_1 s m #[Value.ref b] below meth c D A 4 kc ks Q (((wX q_x q_c q_s q_w q_h q_t (x0') xb xn xf) ++ ((wC cI q_c fi se tr lev li co pa ic nc pc) ++ ((wC cI q_s ufi use utr ulev uli uco upa uic unc upc) ++ ((wS cI q_w (fo') (re') (le') (gr') (lg') nwn (rows') (gb') (lc') (rc') (cc') (pr') (al')) ++ ((wH cI cC q_h qs_h yf ys yt yl yi yo yp yn yk yq yw yz) ++ (wT cI q_t tby ks ns tln ocn okn gvn fgn)))))) ++ (wM cI q_m now aside past yz ref text tln tb al2 rb rm fm lm gm wh ck nb dep spot flt ords lets prts hash)) [(0, .ref b), (1, .ref (q_x 0)), (2, .ref (q_m 0)), (3, .int z)] 825 [.long r2]
  refine V_aload_n (pc := 825) C 2 dL_law_825 rfl rfl ?_
  refine V_cutVl (pc := 826) (As := []) (st := [.long r2]) (wr := ((wX q_x q_c q_s q_w q_h q_t (x0') xb xn xf) ++ ((wC cI q_c fi se tr lev li co pa ic nc pc) ++ ((wC cI q_s ufi use utr ulev uli uco upa uic unc upc) ++ ((wS cI q_w (fo') (re') (le') (gr') (lg') nwn (rows') (gb') (lc') (rc') (cc') (pr') (al')) ++ ((wH cI cC q_h qs_h yf ys yt yl yi yo yp yn yk yq yw yz) ++ (wT cI q_t tby ks ns tln ocn okn gvn fgn))))))) C (c_M_digest (post := fun a => a = (r2, tb', al2', rb', rm', fm', lm', gm', wh', ck', hash')) ⟨_, e2, rfl⟩) mk_X5_digest wd_886 dL_law_826 72 rfl rfl rfl ⟨Nat.le_of_ble_eq_true rfl, Nat.le_of_ble_eq_true rfl⟩ iM iX iMM (cutM rfl rfl) ndM (fun u => joinM rfl rfl) (Nat.le_of_ble_eq_true rfl) rfl (fun r3 u hw => ?_)
  have hw : (r3, u) = (r2, tb', al2', rb', rm', fm', lm', gm', wh', ck', hash') := hw
  obtain ⟨rfl, rfl⟩ := Prod.mk.inj hw
  clear hw
  show V p l e room_1 s m #[Value.ref b] below meth c D A 4 kc ks Q (((wX q_x q_c q_s q_w q_h q_t (x0') xb xn xf) ++ ((wC cI q_c fi se tr lev li co pa ic nc pc) ++ ((wC cI q_s ufi use utr ulev uli uco upa uic unc upc) ++ ((wS cI q_w (fo') (re') (le') (gr') (lg') nwn (rows') (gb') (lc') (rc') (cc') (pr') (al')) ++ ((wH cI cC q_h qs_h yf ys yt yl yi yo yp yn yk yq yw yz) ++ (wT cI q_t tby ks ns tln ocn okn gvn fgn)))))) ++ (wM cI q_m now aside past yz ref text tln (tb') (al2') (rb') (rm') (fm') (lm') (gm') (wh') (ck') nb dep spot flt ords lets prts (hash'))) [(0, .ref b), (1, .ref (q_x 0)), (2, .ref (q_m 0)), (3, .int z)] 829 [.long r3, .long r3]
  refine V_lcmp (pc := 829) C dL_law_829 ?_
  exact V_if_eq (pc := 830) (tgt := 835) C dL_law_830 rfl (fun _ => k _ ⟨x0', xb, xn, xf, fi, se, tr, lev, li, co, pa, ic, nc, pc, ufi, use, utr, ulev, uli, uco, upa, uic, unc, upc, fo', re', le', gr', lg', nwn, rows', gb', lc', rc', cc', pr', al', yf, ys, yt, yl, yi, yo, yp, yn, yk, yq, yw, yz, tby, ks, ns, tln, ocn, okn, gvn, fgn, now, aside, past, yz, ref, text, tln, tb', al2', rb', rm', fm', lm', gm', wh', ck', nb, dep, spot, flt, ords, lets, prts, hash', rfl, hQ', hF, hT⟩) (fun h => absurd ((lg_cmp_eq _ _).mpr rfl) h)
end LAWO
