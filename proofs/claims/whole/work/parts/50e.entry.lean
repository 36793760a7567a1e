/-! the law's entry -/
set_option maxRecDepth 20000 in
theorem te_nwC : nwC ∈ lw_tbl := List.mem_of_getElem? (i := 90) (by decide +kernel)
set_option maxRecDepth 20000 in
theorem te_nwI : nwI ∈ lw_tbl := List.mem_of_getElem? (i := 141) (by decide +kernel)
set_option maxRecDepth 20000 in
theorem te_nwJ : nwJ ∈ lw_tbl := List.mem_of_getElem? (i := 214) (by decide +kernel)
set_option maxRecDepth 20000 in
theorem te_nwM : nwM ∈ lw_tbl := List.mem_of_getElem? (i := 426) (by decide +kernel)
set_option maxRecDepth 20000 in
theorem te_nwS : nwS ∈ lw_tbl := List.mem_of_getElem? (i := 677) (by decide +kernel)
set_option maxRecDepth 20000 in
theorem te_it : Cond.laysStatic RX4 "INPUT_TRUTHS" "[I" ∈ lw_tbl := List.mem_of_getElem? (i := 91) (by decide +kernel)
set_option maxRecDepth 20000 in
theorem te_on : Cond.laysStatic RX4 "ORDER_NUMBERS" "[I" ∈ lw_tbl := List.mem_of_getElem? (i := 678) (by decide +kernel)
set_option maxRecDepth 20000 in
theorem te_cs : Cond.laysStatic "java/lang/String" "COMPACT_STRINGS" "Z" ∈ lw_tbl := List.mem_of_getElem? (i := 604) (by decide +kernel)
set_option maxRecDepth 20000 in
theorem te_ao : Cond.arrayOver (.object RX0) ∈ lw_tbl := List.mem_of_getElem? (i := 199) (by decide +kernel)
set_option maxRecDepth 20000 in
theorem te_sr : Cond.stringRef RX2 48 "igxmop" ∈ lw_tbl := List.mem_of_getElem? (i := 590) (by decide +kernel)
set_option maxRecDepth 20000 in
theorem te_js : Cond.initialized "java/lang/String" ∈ lw_tbl := List.mem_of_getElem? (i := 67) (by decide +kernel)
set_option maxRecDepth 20000 in
theorem te_x4 : Cond.initialized RX4 ∈ lw_tbl := List.mem_of_getElem? (i := 59) (by decide +kernel)
abbrev tmI : Term := .static RX4 "INPUT_TRUTHS" "[I"
abbrev tmO : Term := .static RX4 "ORDER_NUMBERS" "[I"
abbrev tmS : Term := .string RX2 48
abbrev tmV : Term := .field tmS "java/lang/String" "value" "[B"
section ENT
variable {p : Program} {s : State} {m : MethodId} {meth : Method} {c : Code} {b L : Nat} {xs : Nat → Int32} {args : Array Value}
theorem en_K (hts : ∀ w ∈ lw_tbl, w.before args s = true) : ∃ (d1 : Nat → ClassId) (d2 : Nat → Nat → Nat) (cI cC : ClassId), ∀ d3 : Nat → Nat → Nat, va_K (d1, fun k => if k < 6 then d2 k else d3 k) vwCl (tyG cI cC) s := by
  have hlw : ∀ w ∈ LW, w.before args s = true := fun w h => hts w (LW_tbl w h)
  obtain ⟨c0, i0, k0⟩ := u_known (C := RX0) (T := TX0) (N := 10) (n := 10) hlw inX0 (hlw _ wd_78)
  obtain ⟨c1, i1, k1⟩ := u_known (C := RX1) (T := TX1) (N := 3) (n := 3) hlw inX1 (hlw _ wd_139)
  obtain ⟨c2, i2, k2⟩ := u_known (C := RX2) (T := TX2) (N := 8) (n := 8) hlw inX2 (hlw _ wd_151)
  obtain ⟨c3, i3, k3⟩ := u_known (C := RX3) (T := TX3) (N := 13) (n := 13) hlw inX3 (hlw _ wd_114)
  obtain ⟨c4, i4, k4⟩ := u_known (C := RX4) (T := TX4) (N := 9) (n := 9) hlw inX4 (hlw _ wd_70)
  obtain ⟨c5, i5, k5⟩ := u_known (C := RX5) (T := TX5) (N := 24) (n := 24) hlw inX5 (hlw _ wd_584)
  obtain ⟨cI, kI, cmI, a1, a2, a3⟩ := Cond.arrayClass_spec (hlw _ wd_112)
  obtain ⟨cmC, cC, kC, b1, b2, b3, b4, b5⟩ := Cond.arrayOver_spec (hts _ te_ao)
  refine ⟨fun k => if k = 0 then c0 else if k = 1 then c1 else if k = 2 then c2 else if k = 3 then c3 else if k = 4 then c4 else c5, fun k => if k = 0 then i0 else if k = 1 then i1 else if k = 2 then i2 else if k = 3 then i3 else if k = 4 then i4 else i5, cI, cC, fun d3 => ⟨?_, ?_⟩⟩
  · intro k q hq
    match k, hq with
    | 0, hq => cases hq; exact k0
    | 1, hq => cases hq; exact k1
    | 2, hq => cases hq; exact k2
    | 3, hq => cases hq; exact k3
    | 4, hq => cases hq; exact k4
    | 5, hq => cases hq; exact k5
    | k + 6, hq => simp [vwCl] at hq
  · intro k q hq
    match k, hq with
    | 0, hq => cases hq; exact ⟨fun n z => ⟨(fun k h => by cases h), kI, a2, cmI, a3⟩, a1⟩
    | 1, hq => cases hq; exact ⟨fun n z => ⟨(fun k h => by cases h), kC, b3, cmC, b4⟩, kC, cmC, b3, b4, b1, b5⟩
    | k + 2, hq => simp [tyG] at hq
set_option maxRecDepth 20000 in
theorem en_I (hgv : (Jvm.Cond.and given_1 narrow_1).before args s = true) (hts : ∀ w ∈ lw_tbl, w.before args s = true) {A : Nat → Prop} (hA : ∀ a : Nat, a < s.heap.size → ¬ A a) : ∃ t : Nat, va_Z RX4 "INPUT_TRUTHS" "[I" (.ref t) A s s.heap ∧ va_T .int t 5 (fun j => .int (iT.getD j 0)) A s s.heap := by
  have hn := flat_of_before _ hgv
  obtain ⟨t, h1, h2⟩ := va_Tof (tm := tmI) (ty := .int) (N := 5) (f := fun j => .int (iT.getD j 0)) (A := A) (by decide) (hn _ (by decide +kernel)) (va_eqt (hn _ (by decide +kernel))) (fun j hj => by
    rcases (show j = 0 ∨ j = 1 ∨ j = 2 ∨ j = 3 ∨ j = 4 by omega) with rfl | rfl | rfl | rfl | rfl <;> exact va_eqt (hn _ (by decide +kernel))) hA
  exact ⟨t, va_Zof (hts _ te_it) (hts _ te_x4) h1 hA, h2⟩
set_option maxRecDepth 20000 in
theorem en_O (hgv : (Jvm.Cond.and given_1 narrow_1).before args s = true) (hts : ∀ w ∈ lw_tbl, w.before args s = true) {A : Nat → Prop} (hA : ∀ a : Nat, a < s.heap.size → ¬ A a) : ∃ t : Nat, va_Z RX4 "ORDER_NUMBERS" "[I" (.ref t) A s s.heap ∧ va_T .int t 6 (fun j => .int (oN.getD j 0)) A s s.heap := by
  have hn := flat_of_before _ hgv
  obtain ⟨t, h1, h2⟩ := va_Tof (tm := tmO) (ty := .int) (N := 6) (f := fun j => .int (oN.getD j 0)) (A := A) (by decide) (hn _ (by decide +kernel)) (va_eqt (hn _ (by decide +kernel))) (fun j hj => by
    rcases (show j = 0 ∨ j = 1 ∨ j = 2 ∨ j = 3 ∨ j = 4 ∨ j = 5 by omega) with rfl | rfl | rfl | rfl | rfl | rfl <;> exact va_eqt (hn _ (by decide +kernel))) hA
  exact ⟨t, va_Zof (hts _ te_on) (hts _ te_x4) h1 hA, h2⟩
set_option maxRecDepth 20000 in
theorem en_S (hgv : (Jvm.Cond.and given_1 narrow_1).before args s = true) (hts : ∀ w ∈ lw_tbl, w.before args s = true) {A : Nat → Prop} (hA : ∀ a : Nat, a < s.heap.size → ¬ A a) : ∃ aK aV : Nat, vk_R RX2 48 "igxmop" aK s ∧ va_O "java/lang/String" aK A s s.heap ∧ va_OF "java/lang/String" "coder" "B" (.int 0) aK A s s.heap ∧ va_OF "java/lang/String" "value" "[B" (.ref aV) aK A s s.heap ∧ va_T .byte aV 6 (fun j => .int (oL.getD j 0)) A s s.heap := by
  have hn := flat_of_before _ hgv
  have hex : (Cond.exactly tmS "java/lang/String").before args s = true := hn _ (by decide +kernel)
  obtain ⟨aV, h1, h2⟩ := va_Tof (tm := tmV) (ty := .byte) (N := 6) (f := fun j => .int (oL.getD j 0)) (A := A) (by decide) (hn _ (by decide +kernel)) (va_eqt (hn _ (by decide +kernel))) (fun j hj => by
    rcases (show j = 0 ∨ j = 1 ∨ j = 2 ∨ j = 3 ∨ j = 4 ∨ j = 5 by omega) with rfl | rfl | rfl | rfl | rfl | rfl <;> exact va_eqt (hn _ (by decide +kernel))) hA
  obtain ⟨aK, c, cA, kA, q1, q2, q3, q4, q5, q6, -⟩ := Cond.exactly_spec (args := args) (first := s) (o := none) (s := s) (idx := []) (t := tmS) (cls := "java/lang/String") hex
  exact ⟨aK, aV, vk_R.of (hts _ te_sr) q1, va_Oof hex q1 hA, vk_OFof q1 (va_eqt (hn _ (by decide +kernel))) hA, vk_OFof q1 h1 hA, h2⟩
set_option maxRecDepth 20000 in
theorem law_cx (C0 : lw_At p s m meth c b L xs) : ∃ (D : va_G) (cI cC : ClassId), Cx p room_1 s m #[Value.ref b] meth c cL_law 4 R_law ret D cI cC (fun q => s.heap.size ≤ q) 0 0 := by
  obtain ⟨hx, hb, hr, hml, hown, hts, hX, hbl, hlocks, hgv⟩ := C0
  have hA : ∀ a : Nat, a < s.heap.size → ¬ (fun q : Nat => s.heap.size ≤ q) a := fun a h => Nat.not_le.mpr h
  have hn := flat_of_before _ hgv
  obtain ⟨d1, d2, cI, cC, hK⟩ := en_K hts
  obtain ⟨aK, aV, hS⟩ := en_S hgv hts hA
  refine ⟨(d1, fun k => if k < 6 then d2 k else fun j => if j = 0 then aK else aV), cI, cC, hx, hb, hml, hown, fun w h => hts w (LW_tbl w h), hK (fun _ j => if j = 0 then aK else aV), fun _ h => h, ?_, hr, hlocks, Nat.zero_le _, Nat.zero_le _⟩
  exact ⟨va_Nw.of rfl (hts _ te_nwM), va_Nw.of rfl (hts _ te_nwS), va_Nw.of rfl (hts _ te_nwC), en_I hgv hts hA, en_O hgv hts hA, hS, va_Zof (hts _ te_cs) (hts _ te_js) (va_eqi (hn _ (by decide +kernel))) hA, va_Nw.of rfl (hts _ te_nwI), va_Nw.of rfl (hts _ te_nwJ), va_AO.of (hts _ te_ao)⟩
end ENT
/-! the first LI -/
theorem iv_t0 : iv.1 0 = 0 := by decide +kernel
theorem iv_t1 : iv.1 1 = iT.getD 0 0 &&& allR 3 := by decide +kernel
theorem iv_t2 : iv.1 2 = iT.getD 1 0 &&& allR 3 := by decide +kernel
theorem iv_t3 : iv.1 3 = iT.getD 2 0 &&& allR 3 := by decide +kernel
theorem iv_l0 : iv.2.1 0 = nI 0 := by decide +kernel
theorem iv_l1 : iv.2.1 1 = nI 0 := by decide +kernel
theorem iv_l2 : iv.2.1 2 = nI 0 := by decide +kernel
theorem iv_l3 : iv.2.1 3 = nI 0 := by decide +kernel
theorem iv_c0 : iv.2.2.1 0 = nI 0 := by decide +kernel
theorem iv_c1 : iv.2.2.1 1 = nI 0 := by decide +kernel
theorem iv_i : iv.2.2.2.1 = nI 3 := by decide +kernel
theorem iv_n : iv.2.2.2.2.1 = nI 4 := by decide +kernel
theorem iv_p : iv.2.2.2.2.2 = nI 0 := by decide +kernel
theorem first_c : RCc (newM 3) z0 z0 iv.1 iv.2.1 z0 iv.2.2.1 z0 iv.2.2.2.1 iv.2.2.2.2.1 iv.2.2.2.2.2 := by
  have hk : kk (newM 3) = 4 := rfl
  have hn : nn (newM 3) = 3 := rfl
  refine ⟨iv_i, iv_n, fun j a b => by omega, ⟨iv_t0, fun j a b => ?_, fun j a b => by omega⟩, ⟨fun _ => 0, ⟨fun _ _ => rfl, fun j a b => by omega⟩, fun j a => ?_⟩, ⟨iv_c0, iv_c1⟩, fun s i _ hi => absurd hi (Nat.not_lt_zero i), iv_p, fun i hi => absurd hi (Nat.not_lt_zero i)⟩
  · rw [hn] at b ⊢
    rcases (show j = 1 ∨ j = 2 ∨ j = 3 by omega) with rfl | rfl | rfl
    · exact iv_t1
    · exact iv_t2
    · exact iv_t3
  · rw [hk] at a
    rcases (show j = 0 ∨ j = 1 ∨ j = 2 ∨ j = 3 by omega) with rfl | rfl | rfl | rfl
    · exact iv_l0
    · exact iv_l1
    · exact iv_l2
    · exact iv_l3
theorem first_m : RCm (newM 3) nowI := by
  have hk : kk (newM 3) = 4 := rfl
  have hn : nn (newM 3) = 3 := rfl
  refine ⟨by decide +kernel, by decide +kernel, fun j a b => by omega, ⟨by decide +kernel, by decide +kernel⟩, fun s i _ hi => absurd hi (Nat.not_lt_zero i), by decide +kernel, fun i hi => absurd hi (Nat.not_lt_zero i)⟩
theorem first_RQ (fo re le gr lg rows gb : Nat → Int32) (lc rc cc pr al : Int32) (yf ys yt yl yi yo yp : Nat → Nat → Int32) (yn yk yq : Nat → Int32) (past : Nat → Int32) : RQ 1 z0 z0 iv.1 iv.2.1 z0 iv.2.2.1 z0 iv.2.2.2.1 iv.2.2.2.2.1 iv.2.2.2.2.2 fo re le gr lg rows gb lc rc cc pr al yf ys yt yl yi yo yp yn yk yq 0 0 nowI past 0 :=
  ⟨newM 3, newM_WF (by decide) (by decide), first_c, first_m, ⟨0, 0, fun _ => newM 3, by decide, by decide, rfl, rfl, rfl, fun i hi => absurd hi (Nat.not_lt_zero i)⟩, fun h => absurd h one_ne⟩
theorem first_TX : TX z0 0 z0 0 := ⟨0, by decide, rfl, rfl, fun i hi => absurd hi (Nat.not_lt_zero i)⟩
section ENTV
variable {p : Program} {l : Launch} {e : Env} {s : State} {m : MethodId} {below : List Frame} {meth : Method} {c : Code} {D : va_G} {cI cC : ClassId} {A : Nat → Prop} {Q : State → Prop} {b : Nat}
set_option maxRecDepth 100000 in
set_option maxHeartbeats 4000000 in
theorem law_entry (C : Cx p room_1 s m #[Value.ref b] meth c cL_law 4 R_law ret D cI cC A 0 0) (k : ∀ (q_x q_c q_s q_w q_h : Nat → Nat) (qs_h : Nat → Nat → Nat) (q_t q_m : Nat → Nat) (ws : va_W), LI cI cC q_x q_c q_s q_w q_h qs_h q_t q_m ws → V p l e room_1 s m #[Value.ref b] below meth c D A 4 88 3892 Q ws [(0, .ref b), (1, .ref (q_x 0)), (2, .ref (q_m 0)), (3, .int 0)] 18 []) : V p l e room_1 s m #[Value.ref b] below meth c D A 4 0 0 Q [] [(0, .ref b)] 0 [] := by
  refine V_new (pc := 0) C [.null, .null, .null, .null, .null, .int 0, .int 0, .int 0, .int 0] inX4 tyX4_ok wd_69 wd_70 wd_59 (ci := 4) rfl (fun j hj => by rcases (show j = 0 ∨ j = 1 ∨ j = 2 ∨ j = 3 ∨ j = 4 ∨ j = 5 ∨ j = 6 ∨ j = 7 ∨ j = 8 by omega) with rfl | rfl | rfl | rfl | rfl | rfl | rfl | rfl | rfl <;> rfl) dL_law_0 (Nat.le_of_ble_eq_true rfl) (Nat.le_of_ble_eq_true rfl) (fun q1 => ?_)
  refine V_ws (ws' := [(q1, .inr (4, [.null, .null, .null, .null, .null, .int 0, .int 0, .int 0, .int 0]))]) rfl ?_
  refine V_kk (kc := _) (ks := _) 1 9 rfl rfl ?_
  refine V_dup (pc := 3) (C.up (k' := 1) (n' := 9) (Nat.le_of_ble_eq_true rfl) (Nat.le_of_ble_eq_true rfl)) dL_law_3 rfl ?_
  refine V_callK (pc := 4) (st := [.ref q1]) (wr := []) (C.up (k' := 1) (n' := 9) (Nat.le_of_ble_eq_true rfl) (Nat.le_of_ble_eq_true rfl)) (c_X4_init (h0 := q1)) mk_X4_init (Or.inl wd_71) dL_law_4 ⟨(Nat.le_of_ble_eq_true rfl), (Nat.le_of_ble_eq_true rfl)⟩ [0] [] ⟨rfl, rfl, by decide +kernel, by decide +kernel, by decide +kernel⟩ (Nat.le_of_ble_eq_true rfl) (Nat.le_of_ble_eq_true rfl) (Nat.le_of_ble_eq_true rfl) (fun u hu => ?_)
  subst hu
  refine V_ws (ws' := (wX u.1 u.2.1 u.2.2.1 u.2.2.2.1 u.2.2.2.2.1.1 u.2.2.2.2.2 1 0 0 0 ++ (wC0 cI u.2.1 ++ (wC0 cI u.2.2.1 ++ (wS cI u.2.2.2.1 z0 z0 z0 z0 z0 z0 z0 z0 0 0 0 0 0 ++ (wH cI cC u.2.2.2.2.1.1 u.2.2.2.2.1.2 (fun _ => z0) (fun _ => z0) (fun _ => iv.1) (fun _ => iv.2.1) (fun _ => z0) (fun _ => iv.2.2.1) (fun _ => z0) (fun _ => iv.2.2.2.1) (fun _ => iv.2.2.2.2.1) (fun _ => iv.2.2.2.2.2) 0 0 ++ wT cI u.2.2.2.2.2 z0 z0 z0 0 0 0 0 0)))))) rfl ?_
  refine V_kk (kc := _) (ks := _) 72 2288 rfl rfl ?_
  refine V_astore_n (pc := 7) (lv' := [(0, .ref b), (1, .ref (u.1 0))]) (C.up (k' := 72) (n' := 2288) (Nat.le_of_ble_eq_true rfl) (Nat.le_of_ble_eq_true rfl)) dL_law_7 rfl [1, 0] (by decide) rfl ?_
  refine V_new (pc := 8) (C.up (k' := 72) (n' := 2288) (Nat.le_of_ble_eq_true rfl) (Nat.le_of_ble_eq_true rfl)) [.null, .null, .null, .int 0, .null, .null, .int 0, .null, .int 0, .null, .int 0, .null, .null, .null, .null, .int 0, .null, .null, .int 0, .int 0, .int 0, .null, .null, .long 0] inX5 tyX5_ok wd_583 wd_584 wd_64 (ci := 5) rfl (fun j hj => by rcases (show j = 0 ∨ j = 1 ∨ j = 2 ∨ j = 3 ∨ j = 4 ∨ j = 5 ∨ j = 6 ∨ j = 7 ∨ j = 8 ∨ j = 9 ∨ j = 10 ∨ j = 11 ∨ j = 12 ∨ j = 13 ∨ j = 14 ∨ j = 15 ∨ j = 16 ∨ j = 17 ∨ j = 18 ∨ j = 19 ∨ j = 20 ∨ j = 21 ∨ j = 22 ∨ j = 23 by omega) with rfl | rfl | rfl | rfl | rfl | rfl | rfl | rfl | rfl | rfl | rfl | rfl | rfl | rfl | rfl | rfl | rfl | rfl | rfl | rfl | rfl | rfl | rfl | rfl <;> rfl) dL_law_8 (Nat.le_of_ble_eq_true rfl) (Nat.le_of_ble_eq_true rfl) (fun q2 => ?_)
  refine V_kk (kc := _) (ks := _) 73 2312 rfl rfl ?_
  refine V_dup (pc := 11) (C.up (k' := 73) (n' := 2312) (Nat.le_of_ble_eq_true rfl) (Nat.le_of_ble_eq_true rfl)) dL_law_11 rfl ?_
  refine V_callK (pc := 12) (st := [.ref q2]) (w0 := [(q2, .inr (5, [.null, .null, .null, .int 0, .null, .null, .int 0, .null, .int 0, .null, .int 0, .null, .null, .null, .null, .int 0, .null, .null, .int 0, .int 0, .int 0, .null, .null, .long 0]))]) (wr := (wX u.1 u.2.1 u.2.2.1 u.2.2.2.1 u.2.2.2.2.1.1 u.2.2.2.2.2 1 0 0 0 ++ (wC0 cI u.2.1 ++ (wC0 cI u.2.2.1 ++ (wS cI u.2.2.2.1 z0 z0 z0 z0 z0 z0 z0 z0 0 0 0 0 0 ++ (wH cI cC u.2.2.2.2.1.1 u.2.2.2.2.1.2 (fun _ => z0) (fun _ => z0) (fun _ => iv.1) (fun _ => iv.2.1) (fun _ => z0) (fun _ => iv.2.2.1) (fun _ => z0) (fun _ => iv.2.2.2.1) (fun _ => iv.2.2.2.2.1) (fun _ => iv.2.2.2.2.2) 0 0 ++ wT cI u.2.2.2.2.2 z0 z0 z0 0 0 0 0 0)))))) (C.up (k' := 73) (n' := 2312) (Nat.le_of_ble_eq_true rfl) (Nat.le_of_ble_eq_true rfl)) (c_X5_init (h0 := q2)) mk_X5_init (Or.inl wd_585) dL_law_12 ⟨(Nat.le_of_ble_eq_true rfl), (Nat.le_of_ble_eq_true rfl)⟩ [72] iX ⟨rng_map2 (n := 72) (m := 1) _ _ rfl rfl, rng_map _ _ rfl, by decide +kernel, by decide +kernel, by decide +kernel⟩ (Nat.le_of_ble_eq_true rfl) (Nat.le_of_ble_eq_true rfl) (Nat.le_of_ble_eq_true rfl) (fun v hv => ?_)
  subst hv
  refine V_kk (kc := _) (ks := _) 88 3892 rfl rfl ?_
  refine V_astore_n (pc := 15) (lv' := [(0, .ref b), (1, .ref (u.1 0)), (2, .ref (v 0))]) (C.up (k' := 88) (n' := 3892) (Nat.le_of_ble_eq_true rfl) (Nat.le_of_ble_eq_true rfl)) dL_law_15 rfl [1, 2, 0] (by decide) rfl ?_
  refine V_iconst (pc := 16) (C.up (k' := 88) (n' := 3892) (Nat.le_of_ble_eq_true rfl) (Nat.le_of_ble_eq_true rfl)) dL_law_16 ki_0 ?_
  refine V_istore_n (pc := 17) (lv' := [(0, .ref b), (1, .ref (u.1 0)), (2, .ref (v 0)), (3, .int 0)]) (C.up (k' := 88) (n' := 3892) (Nat.le_of_ble_eq_true rfl) (Nat.le_of_ble_eq_true rfl)) dL_law_17 rfl [1, 2, 3, 0] (by decide) rfl ?_
  exact k u.1 u.2.1 u.2.2.1 u.2.2.2.1 u.2.2.2.2.1.1 u.2.2.2.2.1.2 u.2.2.2.2.2 v _ ⟨1, 0, 0, 0, z0, z0, iv.1, iv.2.1, z0, iv.2.2.1, z0, iv.2.2.2.1, iv.2.2.2.2.1, iv.2.2.2.2.2, z0, z0, iv.1, iv.2.1, z0, iv.2.2.1, z0, iv.2.2.2.1, iv.2.2.2.2.1, iv.2.2.2.2.2, z0, z0, z0, z0, z0, z0, z0, z0, 0, 0, 0, 0, 0, fun _ => z0, fun _ => z0, fun _ => iv.1, fun _ => iv.2.1, fun _ => z0, fun _ => iv.2.2.1, fun _ => z0, fun _ => iv.2.2.2.1, fun _ => iv.2.2.2.2.1, fun _ => iv.2.2.2.2.2, 0, 0, z0, z0, z0, 0, 0, 0, 0, 0, nowI, z0, z0, 0, z0, z0, 0, z0, 0, z0, 0, z0, z0, z0, z0, 0, z0, z0, 0, 0, 0, z0, z0, 0, rfl, first_RQ _ _ _ _ _ _ _ _ _ _ _ _ _ _ _ _ _ _ _ _ _ _ _, ⟨rfl, rfl, rfl⟩, first_TX⟩
end ENTV
