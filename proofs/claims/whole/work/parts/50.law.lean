/-! the law: its cells, its cases -/
def LI (cI cC : ClassId) (q_x q_c q_s q_w q_h : Nat → Nat) (qs_h : Nat → Nat → Nat) (q_t q_m : Nat → Nat) (ws : va_W) : Prop := ∃ (x0 : Int32) (xb : Int32) (xn : Int32) (xf : Int32) (fi : Nat → Int32) (se : Nat → Int32) (tr : Nat → Int32) (lev : Nat → Int32) (li : Nat → Int32) (co : Nat → Int32) (pa : Nat → Int32) (ic : Int32) (nc : Int32) (pc : Int32) (ufi : Nat → Int32) (use : Nat → Int32) (utr : Nat → Int32) (ulev : Nat → Int32) (uli : Nat → Int32) (uco : Nat → Int32) (upa : Nat → Int32) (uic : Int32) (unc : Int32) (upc : Int32) (fo : Nat → Int32) (re : Nat → Int32) (le : Nat → Int32) (gr : Nat → Int32) (lg : Nat → Int32) (nwn : Nat → Int32) (rows : Nat → Int32) (gb : Nat → Int32) (lc : Int32) (rc : Int32) (cc : Int32) (pr : Int32) (al : Int32) (yf : Nat → Nat → Int32) (ys : Nat → Nat → Int32) (yt : Nat → Nat → Int32) (yl : Nat → Nat → Int32) (yi : Nat → Nat → Int32) (yo : Nat → Nat → Int32) (yp : Nat → Nat → Int32) (yn : Nat → Int32) (yk : Nat → Int32) (yq : Nat → Int32) (yw : Int32) (yz : Int32) (tby : Nat → Int32) (ks : Nat → Int32) (ns : Nat → Int32) (tln : Int32) (ocn : Int32) (okn : Int32) (gvn : Int32) (fgn : Int32) (now : Nat → Int32) (aside : Nat → Int32) (past : Nat → Int32) (stt : Int32) (ref : Nat → Int32) (text : Nat → Int32) (len : Int32) (tb : Nat → Int32) (al2 : Int32) (rb : Nat → Int32) (rm : Int32) (fm : Nat → Int32) (lm : Nat → Int32) (gm : Nat → Int32) (wh : Nat → Int32) (ck : Int32) (nb : Nat → Int32) (dep : Nat → Int32) (spot : Int32) (flt : Int32) (ords : Int32) (lets : Nat → Int32) (prts : Nat → Int32) (hash : Int64), ws = ((wX q_x q_c q_s q_w q_h q_t x0 xb xn xf) ++ ((wC cI q_c fi se tr lev li co pa ic nc pc) ++ ((wC cI q_s ufi use utr ulev uli uco upa uic unc upc) ++ ((wS cI q_w fo re le gr lg nwn rows gb lc rc cc pr al) ++ ((wH cI cC q_h qs_h yf ys yt yl yi yo yp yn yk yq yw yz) ++ (wT cI q_t tby ks ns tln ocn okn gvn fgn)))))) ++ (wM cI q_m now aside past stt ref text len tb al2 rb rm fm lm gm wh ck nb dep spot flt ords lets prts hash) ∧ RQ x0 fi se tr lev li co pa ic nc pc fo re le gr lg rows gb lc rc cc pr al yf ys yt yl yi yo yp yn yk yq yw yz now past stt ∧ RF xb xn xf ref ∧ TX tby tln text len
theorem rng_map (A B : va_W) {n : Nat} (hA : A.length = n) : (List.range n).map (fun i => (A ++ B)[i]?) = A.map some := by
  apply List.ext_getElem?
  intro j
  rw [List.getElem?_map, List.getElem?_map]
  by_cases h : j < n
  · rw [List.getElem?_range h, List.getElem?_eq_getElem (by omega)]
    simp only [Option.map_some]
    rw [List.getElem?_append_left (by omega), List.getElem?_eq_getElem (by omega)]
  · rw [List.getElem?_eq_none (by simp; omega), List.getElem?_eq_none (by omega)]; rfl
theorem rng_map2 (A B : va_W) {n m : Nat} (hA : A.length = n) (hB : B.length = m) : ((List.range m).map (fun i => n + i)).map (fun i => (A ++ B)[i]?) = B.map some := by
  apply List.ext_getElem?
  intro j
  rw [List.map_map, List.getElem?_map, List.getElem?_map]
  by_cases h : j < m
  · rw [List.getElem?_range h, List.getElem?_eq_getElem (by omega)]
    simp only [Option.map_some, Function.comp]
    rw [List.getElem?_append_right (by omega), show n + j - A.length = j by omega, List.getElem?_eq_getElem (by omega)]
  · rw [List.getElem?_eq_none (by simp; omega), List.getElem?_eq_none (by omega)]; rfl
abbrev iX : List Nat := List.range 72
abbrev iM : List Nat := (List.range 16).map (fun i => 72 + i)
abbrev iN : List Nat := (List.range 72).map (fun i => 16 + i) ++ List.range 16
theorem cutX {A B : va_W} (hA : A.length = 72) (hB : B.length = 16) : Cut (A ++ B) A B iX iM := ⟨rng_map A B hA, rng_map2 A B hA hB, by decide +kernel, by decide +kernel, by decide +kernel⟩
theorem cutM {A B : va_W} (hA : A.length = 72) (hB : B.length = 16) : Cut (A ++ B) B A iM iX := ⟨rng_map2 A B hA hB, rng_map A B hA, by decide +kernel, by decide +kernel, by decide +kernel⟩
theorem ndN : va_nd iN = true := by decide +kernel
theorem joinX {A B : va_W} (hA : A.length = 72) (hB : B.length = 16) : iN.map (fun i => (B ++ A)[i]?) = (A ++ B).map some := by
  rw [List.map_append, List.map_append, rng_map2 B A hB hA, rng_map B A hB]
abbrev iMM : List Nat := List.range 88
theorem ndM : va_nd iMM = true := by decide +kernel
theorem joinM {A B : va_W} (hA : A.length = 72) (hB : B.length = 16) : iMM.map (fun i => (A ++ B)[i]?) = (A ++ B).map some := by
  have := rng_map (A ++ B) [] (n := 88) (by rw [List.length_append, hA, hB])
  rw [List.append_nil] at this
  exact this
section LAWC
variable {p : Program} {l : Launch} {e : Env} {R : Room} {s : State} {m : MethodId} {args : Array Value} {below : List Frame} {meth : Method} {c : Code} {cc : ByteArray} {nL : Nat} {own : String} {ret : Option FieldType} {D : va_G} {cI cC : ClassId} {A : Nat → Prop} {kc ks : Nat} {Q : State → Prop} {ws : va_W} {lv : List (Nat × Value)} {pc : Nat} {st : List Value}
theorem V_sld (C : Cx p R s m args meth c cc nL own ret D cI cC A kc ks) {b L : Nat} {xs : Nat → Int32} (hX : va_X b L xs s s.heap) (hbl : b < s.heap.size) (hbA : ¬ A b) {i : Int32} (hin : vp_in i L) (d : decode cc pc = .ok (.iaload, 1)) (k : V p l e R s m args below meth c D A nL kc ks Q ws lv (pc + 1) (.int (xs i.toNatClampNeg) :: st)) : V p l e R s m args below meth c D A nL kc ks Q ws lv pc (.int i :: .ref b :: st) :=
  fun H locs ls hP hD hS hl => va_sld C.1 C.2.1 hX hbl hbA hS hin d (k H locs ls hP hD hS hl)
theorem V_slen (C : Cx p R s m args meth c cc nL own ret D cI cC A kc ks) {b L : Nat} {xs : Nat → Int32} (hX : va_X b L xs s s.heap) (hbl : b < s.heap.size) (hbA : ¬ A b) (d : decode cc pc = .ok (.arraylength, 1)) (k : V p l e R s m args below meth c D A nL kc ks Q ws lv (pc + 1) (.int (Int32.ofNat L) :: st)) : V p l e R s m args below meth c D A nL kc ks Q ws lv pc (.ref b :: st) :=
  fun H locs ls hP hD hS hl => va_slen C.1 C.2.1 hX hbl hbA hS d (k H locs ls hP hD hS hl)
end LAWC
