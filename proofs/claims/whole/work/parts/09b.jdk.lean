theorem mk_J0_indexOf_0f7a4 : MW yJ0_indexOf_0f7a4 cJ0_indexOf_0f7a4 2 (some .int) 1 := ⟨wd_488, wd_489, wd_67, wd_490, by decide, by decide, by decide +kernel⟩
theorem mk_J0_indexOf_7cf53 : MW yJ0_indexOf_7cf53 cJ0_indexOf_7cf53 3 (some .int) 2 := ⟨wd_492, wd_493, wd_67, wd_494, by decide, by decide, by decide +kernel⟩
theorem mk_J0_isLatin1_aae02 : MW yJ0_isLatin1_aae02 cJ0_isLatin1_aae02 1 (some .boolean) 0 := ⟨wd_496, wd_497, wd_67, wd_498, by decide, by decide, by decide +kernel⟩
theorem mk_J0_length_8abf5 : MW yJ0_length_8abf5 cJ0_length_8abf5 1 (some .int) 0 := ⟨wd_501, wd_502, wd_67, wd_503, by decide, by decide, by decide +kernel⟩
theorem mk_J0_coder_7d493 : MW yJ0_coder_7d493 cJ0_coder_7d493 1 (some .byte) 0 := ⟨wd_505, wd_506, wd_67, wd_507, by decide, by decide, by decide +kernel⟩
theorem mk_J1_indexOf_4cfef : MS yJ1_indexOf_4cfef cJ1_indexOf_4cfef 4 (some .int) 4 := ⟨wd_509, wd_68, wd_510, by decide, by decide, by decide +kernel⟩
theorem mk_J1_canEncode_9a6ad : MS yJ1_canEncode_9a6ad cJ1_canEncode_9a6ad 1 (some .boolean) 1 := ⟨wd_512, wd_68, wd_513, by decide, by decide, by decide +kernel⟩
theorem mk_J1_indexOfChar_4cfef : MS yJ1_indexOfChar_4cfef cJ1_indexOfChar_4cfef 6 (some .int) 4 := ⟨wd_517, wd_68, wd_518, by decide, by decide, by decide +kernel⟩
section VJ
variable {p : Program} {l : Launch} {e : Env} {R : Room} {s : State} {m : MethodId} {args : Array Value} {below : List Frame} {meth : Method} {c : Code} {cc : ByteArray} {nL : Nat} {own : String} {ret : Option FieldType} {D : va_G} {cI cC : ClassId} {A : Nat → Prop} {kc ks : Nat} {Q : State → Prop} {ws ws' : va_W} {lv lv' : List (Nat × Value)} {pc tgt : Nat} {st : List Value}
theorem V_i2b (C : Cx p R s m args meth c cc nL own ret D cI cC A kc ks) {x : Int32} (d : decode cc pc = .ok (.i2b, 1)) (k : V p l e R s m args below meth c D A nL kc ks Q ws lv (pc + 1) (.int x.toInt8.toInt32 :: st)) : V p l e R s m args below meth c D A nL kc ks Q ws lv pc (.int x :: st) := fun H locs ls hP hD hS hl => lv_i2b C.1 C.2.1 d rfl (k H locs ls hP hD hS hl)
theorem V_sVal (C : Cx p R s m args meth c cc nL own ret D cI cC A kc ks) {i : Nat} (hk : Cond.fieldLink own i "java/lang/String" "value" "[B" ∈ LW) (d : decode cc pc = .ok (.getfield i, 3)) (k : V p l e R s m args below meth c D A nL kc ks Q ws lv (pc + 3) (.ref (sV D) :: st)) : V p l e R s m args below meth c D A nL kc ks Q ws lv pc (.ref (sK D) :: st) := fun H locs ls hP hD hS hl => vk_getf C.1 C.2.1 C.2.2.2.2.2.2.2.1.2.2.2.2.2.1.2.2.2.1 hS C.2.2.2.1 (C.2.2.2.2.1 _ hk) (fun _ h => h) d (k H locs ls hP hD hS hl)
theorem V_sCod (C : Cx p R s m args meth c cc nL own ret D cI cC A kc ks) {i : Nat} (hk : Cond.fieldLink own i "java/lang/String" "coder" "B" ∈ LW) (d : decode cc pc = .ok (.getfield i, 3)) (k : V p l e R s m args below meth c D A nL kc ks Q ws lv (pc + 3) (.int 0 :: st)) : V p l e R s m args below meth c D A nL kc ks Q ws lv pc (.ref (sK D) :: st) := fun H locs ls hP hD hS hl => vk_getf C.1 C.2.1 C.2.2.2.2.2.2.2.1.2.2.2.2.2.1.2.2.1 hS C.2.2.2.1 (C.2.2.2.2.1 _ hk) (fun _ h => h) d (k H locs ls hP hD hS hl)
theorem V_sCmp (C : Cx p R s m args meth c cc nL own ret D cI cC A kc ks) {i : Nat} (hk : Cond.fieldLink own i "java/lang/String" "COMPACT_STRINGS" "Z" ∈ LW) (d : decode cc pc = .ok (.getstatic i, 3)) (k : V p l e R s m args below meth c D A nL kc ks Q ws lv (pc + 3) (.int 1 :: st)) : V p l e R s m args below meth c D A nL kc ks Q ws lv pc st := fun H locs ls hP hD hS hl => va_gets C.1 C.2.1 C.2.2.2.2.2.2.2.1.2.2.2.2.2.2.1 hS C.2.2.2.1 (C.2.2.2.2.1 _ hk) (fun _ h => h) d (k H locs ls hP hD hS hl)
theorem V_sLen (C : Cx p R s m args meth c cc nL own ret D cI cC A kc ks) (d : decode cc pc = .ok (.arraylength, 1)) (k : V p l e R s m args below meth c D A nL kc ks Q ws lv (pc + 1) (.int 6 :: st)) : V p l e R s m args below meth c D A nL kc ks Q ws lv pc (.ref (sV D) :: st) := fun H locs ls hP hD hS hl => va_tlen C.1 C.2.1 C.2.2.2.2.2.2.2.1.2.2.2.2.2.1.2.2.2.2 hS rfl d (k H locs ls hP hD hS hl)
theorem V_sByte (C : Cx p R s m args meth c cc nL own ret D cI cC A kc ks) {i v : Int32} (d : decode cc pc = .ok (.baload, 1)) (hb : vp_in i 6) (hv : oL.getD i.toNatClampNeg 0 = v) (k : V p l e R s m args below meth c D A nL kc ks Q ws lv (pc + 1) (.int v :: st)) : V p l e R s m args below meth c D A nL kc ks Q ws lv pc (.int i :: .ref (sV D) :: st) := fun H locs ls hP hD hS hl => va_tb C.1 C.2.1 C.2.2.2.2.2.2.2.1.2.2.2.2.2.1.2.2.2.2 hS hb (by rw [hv]) d (k H locs ls hP hD hS hl)
theorem V_str (C : Cx p R s m args meth c cc nL own ret D cI cC A kc ks) (d : decode cc pc = .ok (.ldc 48, 2)) (ho : own = RX2) (k : V p l e R s m args below meth c D A nL kc ks Q ws lv (pc + 2) (.ref (sK D) :: st)) : V p l e R s m args below meth c D A nL kc ks Q ws lv pc st := by
  subst ho
  exact fun H locs ls hP hD hS hl => va_ldcS C.1 C.2.1 C.2.2.2.1 C.2.2.2.2.2.2.2.1.2.2.2.2.2.1.1 d (k H locs ls hP hD hS hl)
theorem V_runJ (C : Cx p R s m args meth c cc nL own ret D cI cC A kc ks) {y : MethodName} {bytes : ByteArray} {maxL n index fr lo : Nat} {ret' : Option FieldType} {w0 : va_W} {Qf : (Nat → Prop) → Array Value → State → Outcome → State → Prop} {As : List Value} (hM : Cn l y bytes maxL ret' fr lo D cI cC (.ref (sK D) :: As) w0 Qf) (mk : MW y bytes maxL ret' n) (hy : y.cls = "java/lang/String") (hlk : Cond.methodLink own index y ∈ LW) (d : decode cc pc = .ok (.invokevirtual index, 3)) (hn : As.length = n) (hR : fr + 1 ≤ R.frames ∧ 8 + (maxL + 11) + lo ≤ R.locals) (hst : (st.map fun v => v.category).sum ≤ 8) {H : Heap} {locs : List Loc} {ls : Array Slot} (hS : va_S A s.heap H locs) (hl : lv_has ls nL lv) (hU : ∀ U : State, U.heap = H → s.WarmedH U.vm → Pq D cI cC H.size (.ref (sK D) :: As) w0 (Value.ref (sK D) :: As).toArray U) :
    va_Run p l e R s m args below meth c H locs kc ks 0 0 (F0 m pc ls (As.reverse ++ .ref (sK D) :: st)) st (Qf (va_A w0 H.size) (Value.ref (sK D) :: As).toArray) (va_A w0 H.size) := by
  obtain ⟨cell, h1, h2, h3, -⟩ := C.2.2.2.2.2.2.2.1.2.2.2.2.2.1.2.1.kept hS.2.1
  exact va_runV (As := As) (rest := st) ⟨C.1, C.2.1, C.2.2.1, C.2.2.2.1, C.2.2.2.2.1⟩ (hM H.size) (cwV n C.2.2.2.2.1 (mk.good hlk) rfl rfl rfl ⟨rfl, mk.2.2.2.2⟩ hR) ⟨Pq.blind D cI cC H.size _ w0, ⟨cell, h1, h2, by rw [hy]; exact h3⟩, hU⟩ rfl hn hl.1 rfl (lv_room hst) d ⟨C.2.2.2.2.2.2.2.2.2.2.1, C.2.2.2.2.2.2.2.2.2.2.2⟩
theorem MS.goodT {y : MethodName} {cc : ByteArray} {nL n idx : Nat} {ret : Option FieldType} {own : String} (h : MS y cc nL ret n) (hl : Cond.methodLink own idx y ∈ LW) : GoodIn LW (va_wsS own idx y (.code y cc nL ret :: LW)) := by
  intro x hx
  rcases List.mem_append.mp hx with hx | hx
  · simp only [List.mem_cons, List.not_mem_nil, or_false] at hx
    rcases hx with rfl | rfl | rfl
    · exact LW_self _ hl
    · exact LW_self _ h.1
    · exact LW_self _ h.2.1
  · exact LW_cons h.2.2.1 x hx
theorem V_callJi (C : Cx p R s m args meth c cc nL own ret D cI cC A kc ks) {y : MethodName} {bytes : ByteArray} {maxL n index fr lo : Nat} {ret' : Option FieldType} {As : List Value} {S : Type} {w1 : S → va_W} {post : Int32 → S → Prop} {stk : List Value} (hM : Cn l y bytes maxL ret' fr lo D cI cC (.ref (sK D) :: As) ws (QI D cI cC w1 post)) (mk : MW y bytes maxL ret' n) (hy : y.cls = "java/lang/String") (hlk : Cond.methodLink own index y ∈ LW) (d : decode cc pc = .ok (.invokevirtual index, 3)) (hn : As.length = n) (hR : fr + 1 ≤ R.frames ∧ 8 + (maxL + 11) + lo ≤ R.locals) (hst : (st.map fun v => v.category).sum ≤ 8) (hstk : stk = As.reverse ++ .ref (sK D) :: st) (k : ∀ (r : Int32) (u : S), post r u → V p l e R s m args below meth c D A nL kc ks Q (w1 u) lv (pc + 3) (.int r :: st)) : V p l e R s m args below meth c D A nL kc ks Q ws lv pc stk := by
  subst hstk
  intro H locs ls hP hD hS hl
  obtain ⟨hF, hU⟩ := V_preS (av := (.ref (sK D) :: As)) C hP hD hS
  refine va_calli (V_runJ C hM mk hy hlk d hn hR hst hS hl hU) hS (fun q _ h => hF q h) hF (fun r u t H1 locs1 ht hvm hw hB hz1 hk1 hS1 => ?_)
  obtain ⟨hP2, hD2⟩ := V_postS hF ht hB
  exact k r u hw H1 locs1 ls hP2 hD2 hS1 hl
theorem V_callTi (C : Cx p R s m args meth c cc nL own ret D cI cC A kc ks) {y : MethodName} {bytes : ByteArray} {maxL n index fr lo : Nat} {ret' : Option FieldType} {As : List Value} {S : Type} {w1 : S → va_W} {post : Int32 → S → Prop} {stk : List Value} (hM : Cn l y bytes maxL ret' fr lo D cI cC As ws (QI D cI cC w1 post)) (mk : MS y bytes maxL ret' n) (hlk : Cond.methodLink own index y ∈ LW) (d : decode cc pc = .ok (.invokestatic index, 3)) (hn : As.length = n) (hR : fr + 1 ≤ R.frames ∧ 8 + (maxL + 11) + lo ≤ R.locals) (hst : (st.map fun v => v.category).sum ≤ 8) (hstk : stk = As.reverse ++ st) (k : ∀ (r : Int32) (u : S), post r u → V p l e R s m args below meth c D A nL kc ks Q (w1 u) lv (pc + 3) (.int r :: st)) : V p l e R s m args below meth c D A nL kc ks Q ws lv pc stk := by
  subst hstk
  intro H locs ls hP hD hS hl
  obtain ⟨hF, hU⟩ := V_preS (av := As) C hP hD hS
  refine va_calli (va_runS (As := As) (rest := st) ⟨C.1, C.2.1, C.2.2.1, C.2.2.2.1, C.2.2.2.2.1⟩ (hM H.size) (va_cwS n C.2.2.2.2.1 (mk.goodT hlk) rfl rfl rfl mk.2.2.2 hR) ⟨Pq.blind D cI cC H.size _ ws, hU⟩ rfl hn hl.1 rfl (lv_room hst) d ⟨C.2.2.2.2.2.2.2.2.2.2.1, C.2.2.2.2.2.2.2.2.2.2.2⟩) hS (fun q _ h => hF q h) hF (fun r u t H1 locs1 ht hvm hw hB hz1 hk1 hS1 => ?_)
  obtain ⟨hP2, hD2⟩ := V_postS hF ht hB
  exact k r u hw H1 locs1 ls hP2 hD2 hS1 hl
end VJ
set_option maxRecDepth 100000 in
set_option maxHeartbeats 4000000 in
theorem c_J_isLatin1 {l : Launch} {D : va_G} {cI cC : ClassId}  : Cn l yJ0_isLatin1_aae02 cJ0_isLatin1_aae02 1 (some .boolean) 0 0 D cI cC [.ref (sK D)] [] (QI D cI cC (S := Unit) (fun _ => []) (fun r _ => r = 1)) := by
  refine Cn.ofV (own := RJ0) (lv0 := [(0, .ref (sK D))]) rfl (by decide) (Nat.le_of_ble_eq_true rfl) rfl ?_
  intro p e s m below meth c A args Q hQ C
  refine V_sCmp (pc := 0) C wd_499 dJ0_isLatin1_aae02_0 ?_
  refine V_if_eq (pc := 3) (tgt := 17) C dJ0_isLatin1_aae02_3 (by decide) (fun h => absurd h (by decide)) (fun _ => ?_)
  refine V_aload_n (pc := 6) C 0 dJ0_isLatin1_aae02_6 rfl rfl ?_
  refine V_sCod (pc := 7) C wd_901 dJ0_isLatin1_aae02_7 ?_
  refine V_if_ne (pc := 10) (tgt := 17) C dJ0_isLatin1_aae02_10 (by decide) (fun h => absurd rfl h) (fun _ => ?_)
  refine V_iconst (pc := 13) C dJ0_isLatin1_aae02_13 ki_1 ?_
  refine V_goto (pc := 14) (tgt := 18) C dJ0_isLatin1_aae02_14 (by decide) ?_
  exact V_iret (pc := 18) C hQ () dJ0_isLatin1_aae02_18 rfl rfl rfl
set_option maxRecDepth 100000 in
set_option maxHeartbeats 4000000 in
theorem c_J_coder {l : Launch} {D : va_G} {cI cC : ClassId}  : Cn l yJ0_coder_7d493 cJ0_coder_7d493 1 (some .byte) 0 0 D cI cC [.ref (sK D)] [] (QI D cI cC (S := Unit) (fun _ => []) (fun r _ => r = 0)) := by
  refine Cn.ofV (own := RJ0) (lv0 := [(0, .ref (sK D))]) rfl (by decide) (Nat.le_of_ble_eq_true rfl) rfl ?_
  intro p e s m below meth c A args Q hQ C
  refine V_sCmp (pc := 0) C wd_499 dJ0_coder_7d493_0 ?_
  refine V_if_eq (pc := 3) (tgt := 13) C dJ0_coder_7d493_3 (by decide) (fun h => absurd h (by decide)) (fun _ => ?_)
  refine V_aload_n (pc := 6) C 0 dJ0_coder_7d493_6 rfl rfl ?_
  refine V_sCod (pc := 7) C wd_901 dJ0_coder_7d493_7 ?_
  refine V_goto (pc := 10) (tgt := 14) C dJ0_coder_7d493_10 (by decide) ?_
  exact V_iret (pc := 14) C hQ () dJ0_coder_7d493_14 rfl rfl rfl
set_option maxRecDepth 100000 in
set_option maxHeartbeats 4000000 in
theorem c_J_length {l : Launch} {D : va_G} {cI cC : ClassId}  : Cn l yJ0_length_8abf5 cJ0_length_8abf5 1 (some .int) 1 20 D cI cC [.ref (sK D)] [] (QI D cI cC (S := Unit) (fun _ => []) (fun r _ => r = 6)) := by
  refine Cn.ofV (own := RJ0) (lv0 := [(0, .ref (sK D))]) rfl (by decide) (Nat.le_of_ble_eq_true rfl) rfl ?_
  intro p e s m below meth c A args Q hQ C
  refine V_aload_n (pc := 0) C 0 dJ0_length_8abf5_0 rfl rfl ?_
  refine V_sVal (pc := 1) C wd_902 dJ0_length_8abf5_1 ?_
  refine V_sLen (pc := 4) C dJ0_length_8abf5_4 ?_
  refine V_aload_n (pc := 5) C 0 dJ0_length_8abf5_5 rfl rfl ?_
  refine V_callJi (pc := 6) (As := []) (st := [.int 6]) C c_J_coder mk_J0_coder_7d493 rfl wd_504 dJ0_length_8abf5_6 rfl ⟨Nat.le_of_ble_eq_true rfl, Nat.le_of_ble_eq_true rfl⟩ (Nat.le_of_ble_eq_true rfl) rfl (fun r u hr => ?_)
  subst hr
  refine V_ishr (pc := 9) C dJ0_length_8abf5_9 ?_
  exact V_iret (pc := 10) C hQ () dJ0_length_8abf5_10 (vp_nar_int _) rfl (by decide)
set_option maxRecDepth 100000 in
set_option maxHeartbeats 4000000 in
theorem c_J_canEncode {l : Launch} {D : va_G} {cI cC : ClassId} {a0 : Int32} : Cn l yJ1_canEncode_9a6ad cJ1_canEncode_9a6ad 1 (some .boolean) 0 0 D cI cC [.int a0] [] (QI D cI cC (S := Unit) (fun _ => []) (fun r _ => r = (if a0 < 0 then 0 else if 255 < a0 then 0 else 1))) := by
  refine Cn.ofV (own := RJ1) (lv0 := [(0, .int a0)]) rfl (by decide) (Nat.le_of_ble_eq_true rfl) rfl ?_
  intro p e s m below meth c A args Q hQ C
  refine V_iload_n (pc := 0) C 0 dJ1_canEncode_9a6ad_0 rfl rfl ?_
  refine V_if_lt (pc := 1) (tgt := 15) C dJ1_canEncode_9a6ad_1 (by decide) (fun c1 => ?_) (fun c1 => ?_)
  · refine V_iconst (pc := 15) C dJ1_canEncode_9a6ad_15 ki_0 ?_
    exact V_iret (pc := 16) C hQ () dJ1_canEncode_9a6ad_16 rfl rfl (by rw [if_pos c1])
  · refine V_iload_n (pc := 4) C 0 dJ1_canEncode_9a6ad_4 rfl rfl ?_
    refine V_sipush (pc := 5) (v := 255) C dJ1_canEncode_9a6ad_5 (by decide) ?_
    refine V_icmp_gt (pc := 8) (tgt := 15) C dJ1_canEncode_9a6ad_8 (by decide) (fun c2 => ?_) (fun c2 => ?_)
    · refine V_iconst (pc := 15) C dJ1_canEncode_9a6ad_15 ki_0 ?_
      exact V_iret (pc := 16) C hQ () dJ1_canEncode_9a6ad_16 rfl rfl (by rw [if_neg c1, if_pos c2])
    · refine V_iconst (pc := 11) C dJ1_canEncode_9a6ad_11 ki_1 ?_
      refine V_goto (pc := 12) (tgt := 16) C dJ1_canEncode_9a6ad_12 (by decide) ?_
      exact V_iret (pc := 16) C hQ () dJ1_canEncode_9a6ad_16 rfl rfl (by rw [if_neg c1, if_neg c2])
theorem sIdxB_one {x : Int32} (hx : ¬ x < 0) (hx2 : ¬ 255 < x) {n : Nat} (hn : n < 128) : (nI n = x.toInt8.toInt32) ↔ x = nI n := by
  obtain ⟨j, hj, rfl⟩ := nI_of hx
  have h2 : j ≤ 255 := by
    rcases Nat.lt_or_ge 255 j with q | q
    · exact absurd (show (255 : Int32) < nI j from nI_lt (a := 255) q hj) hx2
    · exact q
  have key : ∀ j, j < 256 → ∀ n, n < 128 → ((nI n = (nI j).toInt8.toInt32) ↔ nI j = nI n) := by decide +kernel
  exact key j (by omega) n hn
theorem sIdxB {x : Int32} (hx : ¬ x < 0) (hx2 : ¬ 255 < x) : sIdx x = (if 105 = x.toInt8.toInt32 then 0 else if 103 = x.toInt8.toInt32 then 1 else if 120 = x.toInt8.toInt32 then 2 else if 109 = x.toInt8.toInt32 then 3 else if 111 = x.toInt8.toInt32 then 4 else if 112 = x.toInt8.toInt32 then 5 else -1) := by
  have h := fun n hn => @sIdxB_one x hx hx2 n hn
  have e1 := h 105 (by decide); have e2 := h 103 (by decide); have e3 := h 120 (by decide); have e4 := h 109 (by decide); have e5 := h 111 (by decide); have e6 := h 112 (by decide)
  unfold sIdx
  rw [show (105 : Int32) = nI 105 from rfl, show (103 : Int32) = nI 103 from rfl, show (120 : Int32) = nI 120 from rfl, show (109 : Int32) = nI 109 from rfl, show (111 : Int32) = nI 111 from rfl, show (112 : Int32) = nI 112 from rfl]
  simp only [e1, e2, e3, e4, e5, e6]
theorem sIdx_out {x : Int32} (h : x < 0 ∨ 255 < x) : sIdx x = -1 := by
  have ne : ∀ v : Int32, ¬ v < 0 → ¬ 255 < v → ¬ x = v := fun v h1 h2 e => by subst e; exact h.elim h1 h2
  unfold sIdx
  rw [if_neg (ne 105 (by decide) (by decide)), if_neg (ne 103 (by decide) (by decide)), if_neg (ne 120 (by decide) (by decide)), if_neg (ne 109 (by decide) (by decide)), if_neg (ne 111 (by decide) (by decide)), if_neg (ne 112 (by decide) (by decide))]
set_option maxRecDepth 100000 in
set_option maxHeartbeats 4000000 in
theorem c_J_indexOfChar {l : Launch} {D : va_G} {cI cC : ClassId} {x : Int32} (hx : ¬ x < 0) (hx2 : ¬ 255 < x) : Cn l yJ1_indexOfChar_4cfef cJ1_indexOfChar_4cfef 6 (some .int) 0 0 D cI cC [.ref (sV D), .int x, .int 0, .int 6] [] (QI D cI cC (S := Unit) (fun _ => []) (fun r _ => r = sIdx x)) := by
  refine Cn.ofV (own := RJ1) (lv0 := [(0, .ref (sV D)), (1, .int x), (2, .int 0), (3, .int 6)]) rfl (by decide) (Nat.le_of_ble_eq_true rfl) rfl ?_
  intro p e s m below meth c A args Q hQ C
  refine V_iload_n (pc := 0) C 1 dJ1_indexOfChar_4cfef_0 rfl rfl ?_
  refine V_i2b (pc := 1) C dJ1_indexOfChar_4cfef_1 ?_
  refine V_istore (pc := 2) (lv' := [(0, .ref (sV D)), (1, .int x), (2, .int 0), (3, .int 6), (4, .int x.toInt8.toInt32)]) C dJ1_indexOfChar_4cfef_2 [1, 2, 3, 4, 0] (by decide) rfl ?_
  refine V_iload_n (pc := 4) C 2 dJ1_indexOfChar_4cfef_4 rfl rfl ?_
  refine V_istore (pc := 5) (lv' := [(0, .ref (sV D)), (1, .int x), (2, .int 0), (3, .int 6), (4, .int x.toInt8.toInt32), (5, .int 0)]) C dJ1_indexOfChar_4cfef_5 [1, 2, 3, 4, 5, 0] (by decide) rfl ?_
  refine V_iload (pc := 7) C 5 dJ1_indexOfChar_4cfef_7 rfl ?_
  refine V_iload_n (pc := 9) C 3 dJ1_indexOfChar_4cfef_9 rfl rfl ?_
  refine V_icmp_ge (pc := 10) (tgt := 31) C dJ1_indexOfChar_4cfef_10 (by decide) (fun h => absurd h (by decide)) (fun _ => ?_)
  refine V_aload_n (pc := 13) C 0 dJ1_indexOfChar_4cfef_13 rfl rfl ?_
  refine V_iload (pc := 14) C 5 dJ1_indexOfChar_4cfef_14 rfl ?_
  refine V_sByte (pc := 16) (v := 105) C dJ1_indexOfChar_4cfef_16 (bnd_iff.mp (by decide)) (by decide) ?_
  refine V_iload (pc := 17) C 4 dJ1_indexOfChar_4cfef_17 rfl ?_
  refine V_icmp_ne (pc := 19) (tgt := 25) C dJ1_indexOfChar_4cfef_19 (by decide) (fun n0 => ?_) (fun n0 => ?_)
  rotate_left
  · refine V_iload (pc := 22) C 5 dJ1_indexOfChar_4cfef_22 rfl ?_
    exact V_iret (pc := 24) C hQ () dJ1_indexOfChar_4cfef_24 (vp_nar_int _) rfl (by rw [sIdxB hx hx2, if_pos n0])
  refine V_iinc (pc := 25) (v := 1) (lv' := [(0, .ref (sV D)), (1, .int x), (2, .int 0), (3, .int 6), (4, .int x.toInt8.toInt32), (5, .int 1)]) (j := 5) C dJ1_indexOfChar_4cfef_25 rfl (by decide) [1, 2, 3, 4, 5, 0] (by decide) rfl ?_
  refine V_goto (pc := 28) (tgt := 7) C dJ1_indexOfChar_4cfef_28 (by decide) ?_
  refine V_iload (pc := 7) C 5 dJ1_indexOfChar_4cfef_7 rfl ?_
  refine V_iload_n (pc := 9) C 3 dJ1_indexOfChar_4cfef_9 rfl rfl ?_
  refine V_icmp_ge (pc := 10) (tgt := 31) C dJ1_indexOfChar_4cfef_10 (by decide) (fun h => absurd h (by decide)) (fun _ => ?_)
  refine V_aload_n (pc := 13) C 0 dJ1_indexOfChar_4cfef_13 rfl rfl ?_
  refine V_iload (pc := 14) C 5 dJ1_indexOfChar_4cfef_14 rfl ?_
  refine V_sByte (pc := 16) (v := 103) C dJ1_indexOfChar_4cfef_16 (bnd_iff.mp (by decide)) (by decide) ?_
  refine V_iload (pc := 17) C 4 dJ1_indexOfChar_4cfef_17 rfl ?_
  refine V_icmp_ne (pc := 19) (tgt := 25) C dJ1_indexOfChar_4cfef_19 (by decide) (fun n1 => ?_) (fun n1 => ?_)
  rotate_left
  · refine V_iload (pc := 22) C 5 dJ1_indexOfChar_4cfef_22 rfl ?_
    exact V_iret (pc := 24) C hQ () dJ1_indexOfChar_4cfef_24 (vp_nar_int _) rfl (by rw [sIdxB hx hx2, if_neg n0, if_pos n1])
  refine V_iinc (pc := 25) (v := 2) (lv' := [(0, .ref (sV D)), (1, .int x), (2, .int 0), (3, .int 6), (4, .int x.toInt8.toInt32), (5, .int 2)]) (j := 5) C dJ1_indexOfChar_4cfef_25 rfl (by decide) [1, 2, 3, 4, 5, 0] (by decide) rfl ?_
  refine V_goto (pc := 28) (tgt := 7) C dJ1_indexOfChar_4cfef_28 (by decide) ?_
  refine V_iload (pc := 7) C 5 dJ1_indexOfChar_4cfef_7 rfl ?_
  refine V_iload_n (pc := 9) C 3 dJ1_indexOfChar_4cfef_9 rfl rfl ?_
  refine V_icmp_ge (pc := 10) (tgt := 31) C dJ1_indexOfChar_4cfef_10 (by decide) (fun h => absurd h (by decide)) (fun _ => ?_)
  refine V_aload_n (pc := 13) C 0 dJ1_indexOfChar_4cfef_13 rfl rfl ?_
  refine V_iload (pc := 14) C 5 dJ1_indexOfChar_4cfef_14 rfl ?_
  refine V_sByte (pc := 16) (v := 120) C dJ1_indexOfChar_4cfef_16 (bnd_iff.mp (by decide)) (by decide) ?_
  refine V_iload (pc := 17) C 4 dJ1_indexOfChar_4cfef_17 rfl ?_
  refine V_icmp_ne (pc := 19) (tgt := 25) C dJ1_indexOfChar_4cfef_19 (by decide) (fun n2 => ?_) (fun n2 => ?_)
  rotate_left
  · refine V_iload (pc := 22) C 5 dJ1_indexOfChar_4cfef_22 rfl ?_
    exact V_iret (pc := 24) C hQ () dJ1_indexOfChar_4cfef_24 (vp_nar_int _) rfl (by rw [sIdxB hx hx2, if_neg n0, if_neg n1, if_pos n2])
  refine V_iinc (pc := 25) (v := 3) (lv' := [(0, .ref (sV D)), (1, .int x), (2, .int 0), (3, .int 6), (4, .int x.toInt8.toInt32), (5, .int 3)]) (j := 5) C dJ1_indexOfChar_4cfef_25 rfl (by decide) [1, 2, 3, 4, 5, 0] (by decide) rfl ?_
  refine V_goto (pc := 28) (tgt := 7) C dJ1_indexOfChar_4cfef_28 (by decide) ?_
  refine V_iload (pc := 7) C 5 dJ1_indexOfChar_4cfef_7 rfl ?_
  refine V_iload_n (pc := 9) C 3 dJ1_indexOfChar_4cfef_9 rfl rfl ?_
  refine V_icmp_ge (pc := 10) (tgt := 31) C dJ1_indexOfChar_4cfef_10 (by decide) (fun h => absurd h (by decide)) (fun _ => ?_)
  refine V_aload_n (pc := 13) C 0 dJ1_indexOfChar_4cfef_13 rfl rfl ?_
  refine V_iload (pc := 14) C 5 dJ1_indexOfChar_4cfef_14 rfl ?_
  refine V_sByte (pc := 16) (v := 109) C dJ1_indexOfChar_4cfef_16 (bnd_iff.mp (by decide)) (by decide) ?_
  refine V_iload (pc := 17) C 4 dJ1_indexOfChar_4cfef_17 rfl ?_
  refine V_icmp_ne (pc := 19) (tgt := 25) C dJ1_indexOfChar_4cfef_19 (by decide) (fun n3 => ?_) (fun n3 => ?_)
  rotate_left
  · refine V_iload (pc := 22) C 5 dJ1_indexOfChar_4cfef_22 rfl ?_
    exact V_iret (pc := 24) C hQ () dJ1_indexOfChar_4cfef_24 (vp_nar_int _) rfl (by rw [sIdxB hx hx2, if_neg n0, if_neg n1, if_neg n2, if_pos n3])
  refine V_iinc (pc := 25) (v := 4) (lv' := [(0, .ref (sV D)), (1, .int x), (2, .int 0), (3, .int 6), (4, .int x.toInt8.toInt32), (5, .int 4)]) (j := 5) C dJ1_indexOfChar_4cfef_25 rfl (by decide) [1, 2, 3, 4, 5, 0] (by decide) rfl ?_
  refine V_goto (pc := 28) (tgt := 7) C dJ1_indexOfChar_4cfef_28 (by decide) ?_
  refine V_iload (pc := 7) C 5 dJ1_indexOfChar_4cfef_7 rfl ?_
  refine V_iload_n (pc := 9) C 3 dJ1_indexOfChar_4cfef_9 rfl rfl ?_
  refine V_icmp_ge (pc := 10) (tgt := 31) C dJ1_indexOfChar_4cfef_10 (by decide) (fun h => absurd h (by decide)) (fun _ => ?_)
  refine V_aload_n (pc := 13) C 0 dJ1_indexOfChar_4cfef_13 rfl rfl ?_
  refine V_iload (pc := 14) C 5 dJ1_indexOfChar_4cfef_14 rfl ?_
  refine V_sByte (pc := 16) (v := 111) C dJ1_indexOfChar_4cfef_16 (bnd_iff.mp (by decide)) (by decide) ?_
  refine V_iload (pc := 17) C 4 dJ1_indexOfChar_4cfef_17 rfl ?_
  refine V_icmp_ne (pc := 19) (tgt := 25) C dJ1_indexOfChar_4cfef_19 (by decide) (fun n4 => ?_) (fun n4 => ?_)
  rotate_left
  · refine V_iload (pc := 22) C 5 dJ1_indexOfChar_4cfef_22 rfl ?_
    exact V_iret (pc := 24) C hQ () dJ1_indexOfChar_4cfef_24 (vp_nar_int _) rfl (by rw [sIdxB hx hx2, if_neg n0, if_neg n1, if_neg n2, if_neg n3, if_pos n4])
  refine V_iinc (pc := 25) (v := 5) (lv' := [(0, .ref (sV D)), (1, .int x), (2, .int 0), (3, .int 6), (4, .int x.toInt8.toInt32), (5, .int 5)]) (j := 5) C dJ1_indexOfChar_4cfef_25 rfl (by decide) [1, 2, 3, 4, 5, 0] (by decide) rfl ?_
  refine V_goto (pc := 28) (tgt := 7) C dJ1_indexOfChar_4cfef_28 (by decide) ?_
  refine V_iload (pc := 7) C 5 dJ1_indexOfChar_4cfef_7 rfl ?_
  refine V_iload_n (pc := 9) C 3 dJ1_indexOfChar_4cfef_9 rfl rfl ?_
  refine V_icmp_ge (pc := 10) (tgt := 31) C dJ1_indexOfChar_4cfef_10 (by decide) (fun h => absurd h (by decide)) (fun _ => ?_)
  refine V_aload_n (pc := 13) C 0 dJ1_indexOfChar_4cfef_13 rfl rfl ?_
  refine V_iload (pc := 14) C 5 dJ1_indexOfChar_4cfef_14 rfl ?_
  refine V_sByte (pc := 16) (v := 112) C dJ1_indexOfChar_4cfef_16 (bnd_iff.mp (by decide)) (by decide) ?_
  refine V_iload (pc := 17) C 4 dJ1_indexOfChar_4cfef_17 rfl ?_
  refine V_icmp_ne (pc := 19) (tgt := 25) C dJ1_indexOfChar_4cfef_19 (by decide) (fun n5 => ?_) (fun n5 => ?_)
  rotate_left
  · refine V_iload (pc := 22) C 5 dJ1_indexOfChar_4cfef_22 rfl ?_
    exact V_iret (pc := 24) C hQ () dJ1_indexOfChar_4cfef_24 (vp_nar_int _) rfl (by rw [sIdxB hx hx2, if_neg n0, if_neg n1, if_neg n2, if_neg n3, if_neg n4, if_pos n5])
  refine V_iinc (pc := 25) (v := 6) (lv' := [(0, .ref (sV D)), (1, .int x), (2, .int 0), (3, .int 6), (4, .int x.toInt8.toInt32), (5, .int 6)]) (j := 5) C dJ1_indexOfChar_4cfef_25 rfl (by decide) [1, 2, 3, 4, 5, 0] (by decide) rfl ?_
  refine V_goto (pc := 28) (tgt := 7) C dJ1_indexOfChar_4cfef_28 (by decide) ?_
  refine V_iload (pc := 7) C 5 dJ1_indexOfChar_4cfef_7 rfl ?_
  refine V_iload_n (pc := 9) C 3 dJ1_indexOfChar_4cfef_9 rfl rfl ?_
  refine V_icmp_ge (pc := 10) (tgt := 31) C dJ1_indexOfChar_4cfef_10 (by decide) (fun _ => ?_) (fun h => absurd (by decide) h)
  refine V_iconst (pc := 31) C dJ1_indexOfChar_4cfef_31 ki_m1 ?_
  exact V_iret (pc := 32) C hQ () dJ1_indexOfChar_4cfef_32 (vp_nar_int _) rfl (by rw [sIdxB hx hx2, if_neg n0, if_neg n1, if_neg n2, if_neg n3, if_neg n4, if_neg n5])
set_option maxRecDepth 100000 in
set_option maxHeartbeats 4000000 in
theorem c_J_indexOf4 {l : Launch} {D : va_G} {cI cC : ClassId} {x : Int32} : Cn l yJ1_indexOf_4cfef cJ1_indexOf_4cfef 4 (some .int) 1 30 D cI cC [.ref (sV D), .int x, .int 0, .int 6] [] (QI D cI cC (S := Unit) (fun _ => []) (fun r _ => r = sIdx x)) := by
  refine Cn.ofV (own := RJ1) (lv0 := [(0, .ref (sV D)), (1, .int x), (2, .int 0), (3, .int 6)]) rfl (by decide) (Nat.le_of_ble_eq_true rfl) rfl ?_
  intro p e s m below meth c A args Q hQ C
  refine V_iload_n (pc := 0) C 1 dJ1_indexOf_4cfef_0 rfl rfl ?_
  refine V_callTi (pc := 1) (As := [.int x]) (st := []) C c_J_canEncode mk_J1_canEncode_9a6ad wd_511 dJ1_indexOf_4cfef_1 rfl ⟨Nat.le_of_ble_eq_true rfl, Nat.le_of_ble_eq_true rfl⟩ (Nat.le_of_ble_eq_true rfl) rfl (fun r u hr => ?_)
  refine V_if_ne (pc := 4) (tgt := 9) C dJ1_indexOf_4cfef_4 (by decide) (fun c1 => ?_) (fun c1 => ?_)
  rotate_left
  · refine V_iconst (pc := 7) C dJ1_indexOf_4cfef_7 ki_m1 ?_
    refine V_iret (pc := 8) C hQ () dJ1_indexOf_4cfef_8 (vp_nar_int _) rfl ?_
    rw [c1] at hr
    refine (sIdx_out ?_).symm
    by_cases h1 : x < 0
    · exact Or.inl h1
    · rw [if_neg h1] at hr
      by_cases h2 : 255 < x
      · exact Or.inr h2
      · rw [if_neg h2] at hr; exact absurd hr (by decide)
  have h1 : ¬ x < 0 := fun h => c1 (by rw [hr, if_pos h])
  have h2 : ¬ 255 < x := fun h => c1 (by rw [hr, if_neg h1, if_pos h])
  refine V_iload_n (pc := 9) C 2 dJ1_indexOf_4cfef_9 rfl rfl ?_
  refine V_iconst (pc := 10) C dJ1_indexOf_4cfef_10 ki_0 ?_
  refine V_mmax (pc := 11) (x := 0) (y := 0) C wd_514 dJ1_indexOf_4cfef_11 (by decide) (Nat.le_of_ble_eq_true rfl) ?_
  refine V_istore_n (pc := 14) (lv' := [(0, .ref (sV D)), (1, .int x), (2, .int 0), (3, .int 6)]) C dJ1_indexOf_4cfef_14 rfl [1, 2, 0, 3] (by decide) rfl ?_
  refine V_iload_n (pc := 15) C 3 dJ1_indexOf_4cfef_15 rfl rfl ?_
  refine V_aload_n (pc := 16) C 0 dJ1_indexOf_4cfef_16 rfl rfl ?_
  refine V_sLen (pc := 17) C dJ1_indexOf_4cfef_17 ?_
  refine V_mmin (pc := 18) (x := 6) (y := 6) C wd_515 dJ1_indexOf_4cfef_18 (by decide) (Nat.le_of_ble_eq_true rfl) ?_
  refine V_istore_n (pc := 21) (lv' := [(0, .ref (sV D)), (1, .int x), (2, .int 0), (3, .int 6)]) C dJ1_indexOf_4cfef_21 rfl [1, 2, 3, 0] (by decide) rfl ?_
  refine V_iload_n (pc := 22) C 2 dJ1_indexOf_4cfef_22 rfl rfl ?_
  refine V_iload_n (pc := 23) C 3 dJ1_indexOf_4cfef_23 rfl rfl ?_
  refine V_icmp_lt (pc := 24) (tgt := 29) C dJ1_indexOf_4cfef_24 (by decide) (fun _ => ?_) (fun h => absurd (by decide) h)
  refine V_aload_n (pc := 29) C 0 dJ1_indexOf_4cfef_29 rfl rfl ?_
  refine V_iload_n (pc := 30) C 1 dJ1_indexOf_4cfef_30 rfl rfl ?_
  refine V_iload_n (pc := 31) C 2 dJ1_indexOf_4cfef_31 rfl rfl ?_
  refine V_iload_n (pc := 32) C 3 dJ1_indexOf_4cfef_32 rfl rfl ?_
  refine V_callTi (pc := 33) (As := [.ref (sV D), .int x, .int 0, .int 6]) (st := []) C (c_J_indexOfChar h1 h2) mk_J1_indexOfChar_4cfef wd_516 dJ1_indexOf_4cfef_33 rfl ⟨Nat.le_of_ble_eq_true rfl, Nat.le_of_ble_eq_true rfl⟩ (Nat.le_of_ble_eq_true rfl) rfl (fun r u hr => ?_)
  exact V_iret (pc := 36) C hQ () dJ1_indexOf_4cfef_36 (vp_nar_int _) rfl hr
set_option maxRecDepth 100000 in
set_option maxHeartbeats 4000000 in
theorem c_J_indexOf2 {l : Launch} {D : va_G} {cI cC : ClassId} {x : Int32} : Cn l yJ0_indexOf_7cf53 cJ0_indexOf_7cf53 3 (some .int) 2 60 D cI cC [.ref (sK D), .int x, .int 0] [] (QI D cI cC (S := Unit) (fun _ => []) (fun r _ => r = sIdx x)) := by
  refine Cn.ofV (own := RJ0) (lv0 := [(0, .ref (sK D)), (1, .int x), (2, .int 0)]) rfl (by decide) (Nat.le_of_ble_eq_true rfl) rfl ?_
  intro p e s m below meth c A args Q hQ C
  refine V_aload_n (pc := 0) C 0 dJ0_indexOf_7cf53_0 rfl rfl ?_
  refine V_callJi (pc := 1) (As := []) (st := []) C c_J_isLatin1 mk_J0_isLatin1_aae02 rfl wd_495 dJ0_indexOf_7cf53_1 rfl ⟨Nat.le_of_ble_eq_true rfl, Nat.le_of_ble_eq_true rfl⟩ (Nat.le_of_ble_eq_true rfl) rfl (fun r u hr => ?_)
  subst hr
  refine V_if_eq (pc := 4) (tgt := 23) C dJ0_indexOf_7cf53_4 (by decide) (fun h => absurd h (by decide)) (fun _ => ?_)
  refine V_aload_n (pc := 7) C 0 dJ0_indexOf_7cf53_7 rfl rfl ?_
  refine V_sVal (pc := 8) C wd_902 dJ0_indexOf_7cf53_8 ?_
  refine V_iload_n (pc := 11) C 1 dJ0_indexOf_7cf53_11 rfl rfl ?_
  refine V_iload_n (pc := 12) C 2 dJ0_indexOf_7cf53_12 rfl rfl ?_
  refine V_aload_n (pc := 13) C 0 dJ0_indexOf_7cf53_13 rfl rfl ?_
  refine V_callJi (pc := 14) (As := []) (st := [.int 0, .int x, .ref (sV D)]) C c_J_length mk_J0_length_8abf5 rfl wd_500 dJ0_indexOf_7cf53_14 rfl ⟨Nat.le_of_ble_eq_true rfl, Nat.le_of_ble_eq_true rfl⟩ (Nat.le_of_ble_eq_true rfl) rfl (fun r u hr => ?_)
  subst hr
  refine V_callTi (pc := 17) (As := [.ref (sV D), .int x, .int 0, .int 6]) (st := []) C c_J_indexOf4 mk_J1_indexOf_4cfef wd_508 dJ0_indexOf_7cf53_17 rfl ⟨Nat.le_of_ble_eq_true rfl, Nat.le_of_ble_eq_true rfl⟩ (Nat.le_of_ble_eq_true rfl) rfl (fun r u hr => ?_)
  refine V_goto (pc := 20) (tgt := 36) C dJ0_indexOf_7cf53_20 (by decide) ?_
  exact V_iret (pc := 36) C hQ () dJ0_indexOf_7cf53_36 (vp_nar_int _) rfl hr
set_option maxRecDepth 100000 in
set_option maxHeartbeats 4000000 in
theorem c_J_indexOf1 {l : Launch} {D : va_G} {cI cC : ClassId} {x : Int32} : Cn l yJ0_indexOf_0f7a4 cJ0_indexOf_0f7a4 2 (some .int) 3 90 D cI cC [.ref (sK D), .int x] [] (QI D cI cC (S := Unit) (fun _ => []) (fun r _ => r = sIdx x)) := by
  refine Cn.ofV (own := RJ0) (lv0 := [(0, .ref (sK D)), (1, .int x)]) rfl (by decide) (Nat.le_of_ble_eq_true rfl) rfl ?_
  intro p e s m below meth c A args Q hQ C
  refine V_aload_n (pc := 0) C 0 dJ0_indexOf_0f7a4_0 rfl rfl ?_
  refine V_iload_n (pc := 1) C 1 dJ0_indexOf_0f7a4_1 rfl rfl ?_
  refine V_iconst (pc := 2) C dJ0_indexOf_0f7a4_2 ki_0 ?_
  refine V_callJi (pc := 3) (As := [.int x, .int 0]) (st := []) C c_J_indexOf2 mk_J0_indexOf_7cf53 rfl wd_491 dJ0_indexOf_0f7a4_3 rfl ⟨Nat.le_of_ble_eq_true rfl, Nat.le_of_ble_eq_true rfl⟩ (Nat.le_of_ble_eq_true rfl) rfl (fun r u hr => ?_)
  exact V_iret (pc := 6) C hQ () dJ0_indexOf_0f7a4_6 (vp_nar_int _) rfl hr
theorem V_indexOf {p : Program} {l : Launch} {e : Env} {R : Room} {s : State} {m : MethodId} {args : Array Value} {below : List Frame} {meth : Method} {c : Code} {cc : ByteArray} {nL : Nat} {own : String} {ret : Option FieldType} {D : va_G} {cI cC : ClassId} {A : Nat → Prop} {kc ks : Nat} {Q : State → Prop} {ws : va_W} {lv : List (Nat × Value)} {pc index : Nat} {st : List Value} (C : Cx p R s m args meth c cc nL own ret D cI cC A kc ks) {x : Int32} (hlk : Cond.methodLink own index yJ0_indexOf_0f7a4 ∈ LW) (d : decode cc pc = .ok (.invokevirtual index, 3)) (hR : 4 ≤ R.frames ∧ 111 ≤ R.locals) (hst : (st.map fun v => v.category).sum ≤ 8) (k : V p l e R s m args below meth c D A nL kc ks Q ws lv (pc + 3) (.int (sIdx x) :: st)) : V p l e R s m args below meth c D A nL kc ks Q ws lv pc (.int x :: .ref (sK D) :: st) := by
  intro H locs ls hP hD hS hl
  obtain ⟨hF, hU⟩ := V_pre (w0 := []) (av := [.ref (sK D), .int x]) C hP hD hS [] rfl rfl
  refine va_calli (V_runJ (As := [.int x]) (st := st) C c_J_indexOf1 mk_J0_indexOf_0f7a4 rfl hlk d rfl hR hst hS hl hU) hS (fun q _ h => hF q h) hF (fun r u t H1 locs1 ht hvm hw hB hz1 hk1 hS1 => ?_)
  subst hw
  refine k H1 locs1 ls (fun i q hq => (hP i q hq).kept (hk1 q.1 (hP i q hq).lt (fun h => ?_))) hD hS1 hl
  rcases h with ⟨k0, e0, h⟩ | h
  · simp at h
  · have := (hP i q hq).lt
    omega
theorem V_manyOf {p : Program} {l : Launch} {e : Env} {R : Room} {s : State} {m : MethodId} {args : Array Value} {below : List Frame} {meth : Method} {c : Code} {cc : ByteArray} {nL : Nat} {own : String} {ret : Option FieldType} {D : va_G} {cI cC : ClassId} {A : Nat → Prop} {kc ks : Nat} {Q : State → Prop} {ws : va_W} {lv : List (Nat × Value)} {st : List Value} (C : Cx p R s m args meth c cc nL own ret D cI cC A kc ks) {x : Int32} (d : decode cc 1 = .ok (.tableswitch 93 103 120 #[89, 93, 87, 93, 93, 93, 91, 93, 89, 87, 93, 93, 93, 93, 93, 93, 93, 89], 87)) (h1 : ¬ x = 103) (h2 : ¬ x = 105) (h3 : ¬ x = 109) (h4 : ¬ x = 111) (h5 : ¬ x = 112) (h6 : ¬ x = 120) (k : V p l e R s m args below meth c D A nL kc ks Q ws lv 94 st) : V p l e R s m args below meth c D A nL kc ks Q ws lv 1 (.int x :: st) := by
  have n1 := sw_ne h1 (z := 103) (by decide); have n2 := sw_ne h2 (z := 105) (by decide); have n3 := sw_ne h3 (z := 109) (by decide); have n4 := sw_ne h4 (z := 111) (by decide); have n5 := sw_ne h5 (z := 112) (by decide); have n6 := sw_ne h6 (z := 120) (by decide)
  by_cases ho : x.toInt < 103 ∨ 120 < x.toInt
  · exact V_tableOut (tgt := 94) C d ho (by decide) k
  · have hc : x.toInt = 104 ∨ x.toInt = 106 ∨ x.toInt = 107 ∨ x.toInt = 108 ∨ x.toInt = 110 ∨ x.toInt = 113 ∨ x.toInt = 114 ∨ x.toInt = 115 ∨ x.toInt = 116 ∨ x.toInt = 117 ∨ x.toInt = 118 ∨ x.toInt = 119 := by omega
    rcases hc with e | e | e | e | e | e | e | e | e | e | e | e <;> exact V_tableIn (tgt := 94) (off := 93) C d (by omega) (by omega) (by rw [e]; rfl) (by decide) k
