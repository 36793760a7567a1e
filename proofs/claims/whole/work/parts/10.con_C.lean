set_option maxRecDepth 100000 in
set_option maxHeartbeats 4000000 in
theorem c_C_allRows {l : Launch} {D : va_G} {cI cC : ClassId} {q_c : Nat → Nat} {c_firsts : Nat → Int32} {c_seconds : Nat → Int32} {c_truths : Nat → Int32} {c_levels : Nat → Int32} {c_outLiterals : Nat → Int32} {c_outCounts : Nat → Int32} {c_patterns : Nat → Int32} {c_inputCount : Int32} {c_nodeCount : Int32} {c_patternCount : Int32} {post : Int32 → Prop} (h : wpO (C_allRows c_inputCount) post) : Cn l yX0_allRows cX0_allRows 1 (some .int) 0 0 D cI cC [.ref (q_c 0)] (wC cI q_c c_firsts c_seconds c_truths c_levels c_outLiterals c_outCounts c_patterns c_inputCount c_nodeCount c_patternCount) (QI D cI cC (S := Unit) (fun u => (wC cI q_c c_firsts c_seconds c_truths c_levels c_outLiterals c_outCounts c_patterns c_inputCount c_nodeCount c_patternCount)) (fun r u => post r)) := by
  refine Cn.ofV (own := RX0) (lv0 := [(0, .ref (q_c 0))]) rfl (by decide) (Nat.le_of_ble_eq_true rfl) rfl ?_
  intro p e s m below meth c A args Q hQ C
  unfold C_allRows at h
  refine V_aload_n (pc := 0) C 0 dX0_allRows_0 rfl rfl ?_
  refine V_get (pc := 1) C 0 7 inX0 wd_105 dX0_allRows_1 rfl rfl (by decide) rfl rfl ?_
  refine V_iconst (pc := 4) C dX0_allRows_4 ki_5 ?_
  refine V_icmp_ne (pc := 5) (tgt := 12) C dX0_allRows_5 (by decide) (fun c1 => ?_) (fun c1 => ?_)
  · replace h := wp_f h c1
    refine V_iconst (pc := 12) C dX0_allRows_12 ki_1 ?_
    refine V_iconst (pc := 13) C dX0_allRows_13 ki_1 ?_
    refine V_aload_n (pc := 14) C 0 dX0_allRows_14 rfl rfl ?_
    refine V_get (pc := 15) C 0 7 inX0 wd_105 dX0_allRows_15 rfl rfl (by decide) rfl rfl ?_
    refine V_ishl (pc := 18) C dX0_allRows_18 ?_
    refine V_ishl (pc := 19) C dX0_allRows_19 ?_
    refine V_iconst (pc := 20) C dX0_allRows_20 ki_1 ?_
    refine V_isub (pc := 21) C dX0_allRows_21 ?_
    exact V_iret (pc := 22) C hQ () dX0_allRows_22 (vp_nar_int _) rfl (wp_s h)
  · replace h := wp_t h c1
    refine V_iconst (pc := 8) C dX0_allRows_8 ki_m1 ?_
    refine V_goto (pc := 9) (tgt := 22) C dX0_allRows_9 (by decide) ?_
    exact V_iret (pc := 22) C hQ () dX0_allRows_22 (vp_nar_int _) rfl (wp_s h)
set_option maxRecDepth 100000 in
set_option maxHeartbeats 4000000 in
theorem c_C_restart {l : Launch} {D : va_G} {cI cC : ClassId} {q_c : Nat → Nat} {c_firsts : Nat → Int32} {c_seconds : Nat → Int32} {c_truths : Nat → Int32} {c_levels : Nat → Int32} {c_outLiterals : Nat → Int32} {c_outCounts : Nat → Int32} {c_patterns : Nat → Int32} {c_inputCount : Int32} {c_nodeCount : Int32} {c_patternCount : Int32} {a0 : Int32} {post : (Nat → Int32) × (Nat → Int32) × (Nat → Int32) × Int32 × Int32 × Int32 → Prop} (h : wpO (C_restart c_truths c_levels c_outCounts c_inputCount c_nodeCount c_patternCount a0) post) : Cn l yX0_restart cX0_restart 3 none 1 20 D cI cC [.ref (q_c 0), .int a0] (wC cI q_c c_firsts c_seconds c_truths c_levels c_outLiterals c_outCounts c_patterns c_inputCount c_nodeCount c_patternCount) (QV D cI cC (S := (Nat → Int32) × (Nat → Int32) × (Nat → Int32) × Int32 × Int32 × Int32) (fun u => (wC cI q_c c_firsts c_seconds u.1 u.2.1 c_outLiterals u.2.2.1 c_patterns u.2.2.2.1 u.2.2.2.2.1 u.2.2.2.2.2)) (fun u => post u)) := by
  refine Cn.ofV (own := RX0) (lv0 := [(0, .ref (q_c 0)), (1, .int a0)]) rfl (by decide) (Nat.le_of_ble_eq_true rfl) rfl ?_
  intro p e s m below meth c A args Q hQ C
  have hL_14 : ∀ (K : (Nat → Int32) → (Nat → Int32) → Option ((Nat → Int32) × (Nat → Int32) × (Nat → Int32) × Int32 × Int32 × Int32)) (c_outCounts : Nat → Int32) (c_inputCount : Int32) (c_nodeCount : Int32) (c_patternCount : Int32) (l1 : Int32), (∀ (c_truths : Nat → Int32) (c_levels : Nat → Int32), wpO (K c_truths c_levels) post → V p l e (rmC 1 20) s m args below meth c D A 3 0 0 Q (wC cI q_c c_firsts c_seconds c_truths c_levels c_outLiterals c_outCounts c_patterns c_inputCount c_nodeCount c_patternCount) [(0, .ref (q_c 0))] 50 []) → ∀ (n : Nat) (l2 : Int32) (c_truths : Nat → Int32) (c_levels : Nat → Int32), wpO (C_restart_14 K c_inputCount l1 n l2 c_truths c_levels) post → V p l e (rmC 1 20) s m args below meth c D A 3 0 0 Q (wC cI q_c c_firsts c_seconds c_truths c_levels c_outLiterals c_outCounts c_patterns c_inputCount c_nodeCount c_patternCount) [(0, .ref (q_c 0)), (1, .int l1), (2, .int l2)] 14 [] := by
    intro K c_outCounts c_inputCount c_nodeCount c_patternCount l1 hK n
    induction n with
    | zero => intro l2 c_truths c_levels h; rw [C_restart_14] at h; exact (wp_n h).elim
    | succ n ih =>
      intro l2 c_truths c_levels h
      rw [C_restart_14] at h
      refine V_iload_n (pc := 14) C 2 dX0_restart_14 rfl rfl ?_
      refine V_iload_n (pc := 15) C 1 dX0_restart_15 rfl rfl ?_
      refine V_icmp_gt (pc := 16) (tgt := 50) C dX0_restart_16 (by decide) (fun c1 => ?_) (fun c1 => ?_)
      · replace h := wp_t h c1
        refine V_lv (pc := 50) [0] rfl ?_
        exact hK _ _ h
      · replace h := wp_f h c1
        refine V_aload_n (pc := 19) C 0 dX0_restart_19 rfl rfl ?_
        refine V_get (pc := 20) C 0 2 inX0 wd_97 dX0_restart_20 rfl rfl (by decide) rfl rfl ?_
        refine V_iload_n (pc := 23) C 2 dX0_restart_23 rfl rfl ?_
        refine V_iT (pc := 24) C dX0_restart_24 rfl (fun t2 ht3 => ?_)
        refine V_iload_n (pc := 27) C 2 dX0_restart_27 rfl rfl ?_
        refine V_iconst (pc := 28) C dX0_restart_28 ki_1 ?_
        refine V_isub (pc := 29) C dX0_restart_29 ?_
        obtain ⟨b4, h⟩ := wp_c h
        refine V_tald (pc := 30) C ht3 dX0_restart_30 b4 ?_
        refine V_aload_n (pc := 31) C 0 dX0_restart_31 rfl rfl ?_
        refine V_callVi (pc := 32) (As := []) (st := [.int (iT.getD (Int32.toNatClampNeg (l2 - 1)) 0), .int l2, .ref (q_c 3)]) C (c_C_allRows (wp_b h)) mk_X0_allRows wd_87 dX0_restart_32 0 rfl rfl rfl ⟨Nat.le_of_ble_eq_true rfl, Nat.le_of_ble_eq_true rfl⟩ (Nat.le_of_ble_eq_true rfl) rfl (fun r6 u hw => ?_)
        have h := hw
        try dsimp only at h
        try dsimp only
        refine V_iand (pc := 35) C dX0_restart_35 ?_
        obtain ⟨b7, h⟩ := wp_c h
        obtain ⟨c_truths_8, ec_truths_8, h⟩ := wp_l h
        refine V_iast (pc := 36) (ws' := (wC cI q_c c_firsts c_seconds c_truths_8 c_levels c_outLiterals c_outCounts c_patterns c_inputCount c_nodeCount c_patternCount)) C 3 dX0_restart_36 rfl b7 ec_truths_8 rfl ?_
        refine V_aload_n (pc := 37) C 0 dX0_restart_37 rfl rfl ?_
        refine V_get (pc := 38) C 0 3 inX0 wd_99 dX0_restart_38 rfl rfl (by decide) rfl rfl ?_
        refine V_iload_n (pc := 41) C 2 dX0_restart_41 rfl rfl ?_
        refine V_iconst (pc := 42) C dX0_restart_42 ki_0 ?_
        obtain ⟨b9, h⟩ := wp_c h
        obtain ⟨c_levels_10, ec_levels_10, h⟩ := wp_l h
        refine V_iast (pc := 43) (ws' := (wC cI q_c c_firsts c_seconds c_truths_8 c_levels_10 c_outLiterals c_outCounts c_patterns c_inputCount c_nodeCount c_patternCount)) C 4 dX0_restart_43 rfl b9 ec_levels_10 rfl ?_
        obtain ⟨v11, ev11, h⟩ := wp_l h
        refine V_iinc (pc := 44) (v := v11) (lv' := [(0, .ref (q_c 0)), (1, .int l1), (2, .int v11)]) (j := 2) C dX0_restart_44 rfl (by rw [ev11]; rfl) [1, 2, 0] (by decide) rfl ?_
        refine V_goto (pc := 47) (tgt := 14) C dX0_restart_47 (by decide) ?_
        exact ih _ _ _ h
  unfold C_restart at h
  refine V_aload_n (pc := 0) C 0 dX0_restart_0 rfl rfl ?_
  refine V_iload_n (pc := 1) C 1 dX0_restart_1 rfl rfl ?_
  refine V_put (pc := 2) (ws' := (wC cI q_c c_firsts c_seconds c_truths c_levels c_outLiterals c_outCounts c_patterns a0 c_nodeCount c_patternCount)) C 0 7 inX0 tyX0_ok nmX0 wd_105 dX0_restart_2 rfl rfl (by decide) rfl rfl rfl rfl rfl (Nat.le_of_ble_eq_true rfl) rfl ?_
  refine V_aload_n (pc := 5) C 0 dX0_restart_5 rfl rfl ?_
  refine V_iload_n (pc := 6) C 1 dX0_restart_6 rfl rfl ?_
  refine V_iconst (pc := 7) C dX0_restart_7 ki_1 ?_
  refine V_iadd (pc := 8) C dX0_restart_8 ?_
  obtain ⟨c_nodeCount_12, ec_nodeCount_12, h⟩ := wp_l h
  refine V_topi (pc := 9) ec_nodeCount_12 ?_
  refine V_put (pc := 9) (ws' := (wC cI q_c c_firsts c_seconds c_truths c_levels c_outLiterals c_outCounts c_patterns a0 c_nodeCount_12 c_patternCount)) C 0 8 inX0 tyX0_ok nmX0 wd_107 dX0_restart_9 rfl rfl (by decide) rfl rfl rfl rfl rfl (Nat.le_of_ble_eq_true rfl) rfl ?_
  refine V_iconst (pc := 12) C dX0_restart_12 ki_1 ?_
  refine V_istore_n (pc := 13) (lv' := [(0, .ref (q_c 0)), (1, .int a0), (2, .int 1)]) C dX0_restart_13 rfl [1, 2, 0] (by decide) rfl ?_
  refine hL_14 _ _ _ _ _ _ (fun c_truths_13 c_levels_14 h => ?_) 1000 _ _ _ h
  try dsimp only at h
  refine V_aload_n (pc := 50) C 0 dX0_restart_50 rfl rfl ?_
  refine V_get (pc := 51) C 0 5 inX0 wd_101 dX0_restart_51 rfl rfl (by decide) rfl rfl ?_
  refine V_iconst (pc := 54) C dX0_restart_54 ki_0 ?_
  refine V_iconst (pc := 55) C dX0_restart_55 ki_0 ?_
  obtain ⟨b15, h⟩ := wp_c h
  obtain ⟨c_outCounts_16, ec_outCounts_16, h⟩ := wp_l h
  refine V_iast (pc := 56) (ws' := (wC cI q_c c_firsts c_seconds c_truths_13 c_levels_14 c_outLiterals c_outCounts_16 c_patterns a0 c_nodeCount_12 c_patternCount)) C 6 dX0_restart_56 rfl b15 ec_outCounts_16 rfl ?_
  refine V_aload_n (pc := 57) C 0 dX0_restart_57 rfl rfl ?_
  refine V_get (pc := 58) C 0 5 inX0 wd_101 dX0_restart_58 rfl rfl (by decide) rfl rfl ?_
  refine V_iconst (pc := 61) C dX0_restart_61 ki_1 ?_
  refine V_iconst (pc := 62) C dX0_restart_62 ki_0 ?_
  obtain ⟨b17, h⟩ := wp_c h
  obtain ⟨c_outCounts_18, ec_outCounts_18, h⟩ := wp_l h
  refine V_iast (pc := 63) (ws' := (wC cI q_c c_firsts c_seconds c_truths_13 c_levels_14 c_outLiterals c_outCounts_18 c_patterns a0 c_nodeCount_12 c_patternCount)) C 6 dX0_restart_63 rfl b17 ec_outCounts_18 rfl ?_
  refine V_aload_n (pc := 64) C 0 dX0_restart_64 rfl rfl ?_
  refine V_iconst (pc := 65) C dX0_restart_65 ki_0 ?_
  refine V_put (pc := 66) (ws' := (wC cI q_c c_firsts c_seconds c_truths_13 c_levels_14 c_outLiterals c_outCounts_18 c_patterns a0 c_nodeCount_12 0)) C 0 9 inX0 tyX0_ok nmX0 wd_110 dX0_restart_66 rfl rfl (by decide) rfl rfl rfl rfl rfl (Nat.le_of_ble_eq_true rfl) rfl ?_
  exact V_vret (pc := 69) C hQ (c_truths_13, c_levels_14, c_outCounts_18, a0, c_nodeCount_12, 0) dX0_restart_69 rfl (wp_s h)
set_option maxRecDepth 100000 in
set_option maxHeartbeats 4000000 in
theorem c_C_copyFrom {l : Launch} {D : va_G} {cI cC : ClassId} {q_c : Nat → Nat} {q_o : Nat → Nat} {c_firsts : Nat → Int32} {c_seconds : Nat → Int32} {c_truths : Nat → Int32} {c_levels : Nat → Int32} {c_outLiterals : Nat → Int32} {c_outCounts : Nat → Int32} {c_patterns : Nat → Int32} {c_inputCount : Int32} {c_nodeCount : Int32} {c_patternCount : Int32} {o_firsts : Nat → Int32} {o_seconds : Nat → Int32} {o_truths : Nat → Int32} {o_levels : Nat → Int32} {o_outLiterals : Nat → Int32} {o_outCounts : Nat → Int32} {o_patterns : Nat → Int32} {o_inputCount : Int32} {o_nodeCount : Int32} {o_patternCount : Int32} {post : (Nat → Int32) × (Nat → Int32) × (Nat → Int32) × (Nat → Int32) × (Nat → Int32) × (Nat → Int32) × (Nat → Int32) × Int32 × Int32 × Int32 → Prop} (h : wpO (C_copyFrom c_firsts c_seconds c_truths c_levels c_outLiterals c_outCounts c_patterns c_inputCount c_nodeCount c_patternCount o_firsts o_seconds o_truths o_levels o_outLiterals o_outCounts o_patterns o_inputCount o_nodeCount o_patternCount) post) : Cn l yX0_copyFrom cX0_copyFrom 2 none 1 59 D cI cC [.ref (q_c 0), .ref (q_o 0)] ((wC cI q_c c_firsts c_seconds c_truths c_levels c_outLiterals c_outCounts c_patterns c_inputCount c_nodeCount c_patternCount) ++ (wC cI q_o o_firsts o_seconds o_truths o_levels o_outLiterals o_outCounts o_patterns o_inputCount o_nodeCount o_patternCount)) (QV D cI cC (S := (Nat → Int32) × (Nat → Int32) × (Nat → Int32) × (Nat → Int32) × (Nat → Int32) × (Nat → Int32) × (Nat → Int32) × Int32 × Int32 × Int32) (fun u => ((wC cI q_c u.1 u.2.1 u.2.2.1 u.2.2.2.1 u.2.2.2.2.1 u.2.2.2.2.2.1 u.2.2.2.2.2.2.1 u.2.2.2.2.2.2.2.1 u.2.2.2.2.2.2.2.2.1 u.2.2.2.2.2.2.2.2.2) ++ (wC cI q_o o_firsts o_seconds o_truths o_levels o_outLiterals o_outCounts o_patterns o_inputCount o_nodeCount o_patternCount))) (fun u => post u)) := by
  refine Cn.ofV (own := RX0) (lv0 := [(0, .ref (q_c 0)), (1, .ref (q_o 0))]) rfl (by decide) (Nat.le_of_ble_eq_true rfl) rfl ?_
  intro p e s m below meth c A args Q hQ C
  unfold C_copyFrom at h
  refine V_aload_n (pc := 0) C 1 dX0_copyFrom_0 rfl rfl ?_
  refine V_get (pc := 1) C 8 0 inX0 wd_91 dX0_copyFrom_1 rfl rfl (by decide) rfl rfl ?_
  refine V_iconst (pc := 4) C dX0_copyFrom_4 ki_0 ?_
  refine V_aload_n (pc := 5) C 0 dX0_copyFrom_5 rfl rfl ?_
  refine V_get (pc := 6) C 0 0 inX0 wd_91 dX0_copyFrom_6 rfl rfl (by decide) rfl rfl ?_
  refine V_iconst (pc := 9) C dX0_copyFrom_9 ki_0 ?_
  refine V_bipush (pc := 10) C dX0_copyFrom_10 kb_48 ?_
  obtain ⟨c_firsts_1, ec_firsts_1, h⟩ := wp_l h
  refine V_copy (pc := 12) (ws' := ((wC cI q_c c_firsts_1 c_seconds c_truths c_levels c_outLiterals c_outCounts c_patterns c_inputCount c_nodeCount c_patternCount) ++ (wC cI q_o o_firsts o_seconds o_truths o_levels o_outLiterals o_outCounts o_patterns o_inputCount o_nodeCount o_patternCount))) C 9 1 48 wd_213 dX0_copyFrom_12 rfl rfl rfl (by decide) (by decide) (by decide) ec_firsts_1 rfl (by decide) (Nat.le_of_ble_eq_true rfl) ?_
  refine V_aload_n (pc := 15) C 1 dX0_copyFrom_15 rfl rfl ?_
  refine V_get (pc := 16) C 8 1 inX0 wd_94 dX0_copyFrom_16 rfl rfl (by decide) rfl rfl ?_
  refine V_iconst (pc := 19) C dX0_copyFrom_19 ki_0 ?_
  refine V_aload_n (pc := 20) C 0 dX0_copyFrom_20 rfl rfl ?_
  refine V_get (pc := 21) C 0 1 inX0 wd_94 dX0_copyFrom_21 rfl rfl (by decide) rfl rfl ?_
  refine V_iconst (pc := 24) C dX0_copyFrom_24 ki_0 ?_
  refine V_bipush (pc := 25) C dX0_copyFrom_25 kb_48 ?_
  obtain ⟨c_seconds_2, ec_seconds_2, h⟩ := wp_l h
  refine V_copy (pc := 27) (ws' := ((wC cI q_c c_firsts_1 c_seconds_2 c_truths c_levels c_outLiterals c_outCounts c_patterns c_inputCount c_nodeCount c_patternCount) ++ (wC cI q_o o_firsts o_seconds o_truths o_levels o_outLiterals o_outCounts o_patterns o_inputCount o_nodeCount o_patternCount))) C 10 2 48 wd_213 dX0_copyFrom_27 rfl rfl rfl (by decide) (by decide) (by decide) ec_seconds_2 rfl (by decide) (Nat.le_of_ble_eq_true rfl) ?_
  refine V_aload_n (pc := 30) C 1 dX0_copyFrom_30 rfl rfl ?_
  refine V_get (pc := 31) C 8 2 inX0 wd_97 dX0_copyFrom_31 rfl rfl (by decide) rfl rfl ?_
  refine V_iconst (pc := 34) C dX0_copyFrom_34 ki_0 ?_
  refine V_aload_n (pc := 35) C 0 dX0_copyFrom_35 rfl rfl ?_
  refine V_get (pc := 36) C 0 2 inX0 wd_97 dX0_copyFrom_36 rfl rfl (by decide) rfl rfl ?_
  refine V_iconst (pc := 39) C dX0_copyFrom_39 ki_0 ?_
  refine V_bipush (pc := 40) C dX0_copyFrom_40 kb_48 ?_
  obtain ⟨c_truths_3, ec_truths_3, h⟩ := wp_l h
  refine V_copy (pc := 42) (ws' := ((wC cI q_c c_firsts_1 c_seconds_2 c_truths_3 c_levels c_outLiterals c_outCounts c_patterns c_inputCount c_nodeCount c_patternCount) ++ (wC cI q_o o_firsts o_seconds o_truths o_levels o_outLiterals o_outCounts o_patterns o_inputCount o_nodeCount o_patternCount))) C 11 3 48 wd_213 dX0_copyFrom_42 rfl rfl rfl (by decide) (by decide) (by decide) ec_truths_3 rfl (by decide) (Nat.le_of_ble_eq_true rfl) ?_
  refine V_aload_n (pc := 45) C 1 dX0_copyFrom_45 rfl rfl ?_
  refine V_get (pc := 46) C 8 3 inX0 wd_99 dX0_copyFrom_46 rfl rfl (by decide) rfl rfl ?_
  refine V_iconst (pc := 49) C dX0_copyFrom_49 ki_0 ?_
  refine V_aload_n (pc := 50) C 0 dX0_copyFrom_50 rfl rfl ?_
  refine V_get (pc := 51) C 0 3 inX0 wd_99 dX0_copyFrom_51 rfl rfl (by decide) rfl rfl ?_
  refine V_iconst (pc := 54) C dX0_copyFrom_54 ki_0 ?_
  refine V_bipush (pc := 55) C dX0_copyFrom_55 kb_48 ?_
  obtain ⟨c_levels_4, ec_levels_4, h⟩ := wp_l h
  refine V_copy (pc := 57) (ws' := ((wC cI q_c c_firsts_1 c_seconds_2 c_truths_3 c_levels_4 c_outLiterals c_outCounts c_patterns c_inputCount c_nodeCount c_patternCount) ++ (wC cI q_o o_firsts o_seconds o_truths o_levels o_outLiterals o_outCounts o_patterns o_inputCount o_nodeCount o_patternCount))) C 12 4 48 wd_213 dX0_copyFrom_57 rfl rfl rfl (by decide) (by decide) (by decide) ec_levels_4 rfl (by decide) (Nat.le_of_ble_eq_true rfl) ?_
  refine V_aload_n (pc := 60) C 1 dX0_copyFrom_60 rfl rfl ?_
  refine V_get (pc := 61) C 8 4 inX0 wd_100 dX0_copyFrom_61 rfl rfl (by decide) rfl rfl ?_
  refine V_iconst (pc := 64) C dX0_copyFrom_64 ki_0 ?_
  refine V_aload_n (pc := 65) C 0 dX0_copyFrom_65 rfl rfl ?_
  refine V_get (pc := 66) C 0 4 inX0 wd_100 dX0_copyFrom_66 rfl rfl (by decide) rfl rfl ?_
  refine V_iconst (pc := 69) C dX0_copyFrom_69 ki_0 ?_
  refine V_bipush (pc := 70) C dX0_copyFrom_70 kb_12 ?_
  obtain ⟨c_outLiterals_5, ec_outLiterals_5, h⟩ := wp_l h
  refine V_copy (pc := 72) (ws' := ((wC cI q_c c_firsts_1 c_seconds_2 c_truths_3 c_levels_4 c_outLiterals_5 c_outCounts c_patterns c_inputCount c_nodeCount c_patternCount) ++ (wC cI q_o o_firsts o_seconds o_truths o_levels o_outLiterals o_outCounts o_patterns o_inputCount o_nodeCount o_patternCount))) C 13 5 12 wd_213 dX0_copyFrom_72 rfl rfl rfl (by decide) (by decide) (by decide) ec_outLiterals_5 rfl (by decide) (Nat.le_of_ble_eq_true rfl) ?_
  refine V_aload_n (pc := 75) C 1 dX0_copyFrom_75 rfl rfl ?_
  refine V_get (pc := 76) C 8 5 inX0 wd_101 dX0_copyFrom_76 rfl rfl (by decide) rfl rfl ?_
  refine V_iconst (pc := 79) C dX0_copyFrom_79 ki_0 ?_
  refine V_aload_n (pc := 80) C 0 dX0_copyFrom_80 rfl rfl ?_
  refine V_get (pc := 81) C 0 5 inX0 wd_101 dX0_copyFrom_81 rfl rfl (by decide) rfl rfl ?_
  refine V_iconst (pc := 84) C dX0_copyFrom_84 ki_0 ?_
  refine V_iconst (pc := 85) C dX0_copyFrom_85 ki_2 ?_
  obtain ⟨c_outCounts_6, ec_outCounts_6, h⟩ := wp_l h
  refine V_copy (pc := 86) (ws' := ((wC cI q_c c_firsts_1 c_seconds_2 c_truths_3 c_levels_4 c_outLiterals_5 c_outCounts_6 c_patterns c_inputCount c_nodeCount c_patternCount) ++ (wC cI q_o o_firsts o_seconds o_truths o_levels o_outLiterals o_outCounts o_patterns o_inputCount o_nodeCount o_patternCount))) C 14 6 2 wd_213 dX0_copyFrom_86 rfl rfl rfl (by decide) (by decide) (by decide) ec_outCounts_6 rfl (by decide) (Nat.le_of_ble_eq_true rfl) ?_
  refine V_aload_n (pc := 89) C 1 dX0_copyFrom_89 rfl rfl ?_
  refine V_get (pc := 90) C 8 6 inX0 wd_103 dX0_copyFrom_90 rfl rfl (by decide) rfl rfl ?_
  refine V_iconst (pc := 93) C dX0_copyFrom_93 ki_0 ?_
  refine V_aload_n (pc := 94) C 0 dX0_copyFrom_94 rfl rfl ?_
  refine V_get (pc := 95) C 0 6 inX0 wd_103 dX0_copyFrom_95 rfl rfl (by decide) rfl rfl ?_
  refine V_iconst (pc := 98) C dX0_copyFrom_98 ki_0 ?_
  refine V_bipush (pc := 99) C dX0_copyFrom_99 kb_12 ?_
  obtain ⟨c_patterns_7, ec_patterns_7, h⟩ := wp_l h
  refine V_copy (pc := 101) (ws' := ((wC cI q_c c_firsts_1 c_seconds_2 c_truths_3 c_levels_4 c_outLiterals_5 c_outCounts_6 c_patterns_7 c_inputCount c_nodeCount c_patternCount) ++ (wC cI q_o o_firsts o_seconds o_truths o_levels o_outLiterals o_outCounts o_patterns o_inputCount o_nodeCount o_patternCount))) C 15 7 12 wd_213 dX0_copyFrom_101 rfl rfl rfl (by decide) (by decide) (by decide) ec_patterns_7 rfl (by decide) (Nat.le_of_ble_eq_true rfl) ?_
  refine V_aload_n (pc := 104) C 0 dX0_copyFrom_104 rfl rfl ?_
  refine V_aload_n (pc := 105) C 1 dX0_copyFrom_105 rfl rfl ?_
  refine V_get (pc := 106) C 8 7 inX0 wd_105 dX0_copyFrom_106 rfl rfl (by decide) rfl rfl ?_
  refine V_put (pc := 109) (ws' := ((wC cI q_c c_firsts_1 c_seconds_2 c_truths_3 c_levels_4 c_outLiterals_5 c_outCounts_6 c_patterns_7 o_inputCount c_nodeCount c_patternCount) ++ (wC cI q_o o_firsts o_seconds o_truths o_levels o_outLiterals o_outCounts o_patterns o_inputCount o_nodeCount o_patternCount))) C 0 7 inX0 tyX0_ok nmX0 wd_105 dX0_copyFrom_109 rfl rfl (by decide) rfl rfl rfl rfl rfl (Nat.le_of_ble_eq_true rfl) rfl ?_
  refine V_aload_n (pc := 112) C 0 dX0_copyFrom_112 rfl rfl ?_
  refine V_aload_n (pc := 113) C 1 dX0_copyFrom_113 rfl rfl ?_
  refine V_get (pc := 114) C 8 8 inX0 wd_107 dX0_copyFrom_114 rfl rfl (by decide) rfl rfl ?_
  refine V_put (pc := 117) (ws' := ((wC cI q_c c_firsts_1 c_seconds_2 c_truths_3 c_levels_4 c_outLiterals_5 c_outCounts_6 c_patterns_7 o_inputCount o_nodeCount c_patternCount) ++ (wC cI q_o o_firsts o_seconds o_truths o_levels o_outLiterals o_outCounts o_patterns o_inputCount o_nodeCount o_patternCount))) C 0 8 inX0 tyX0_ok nmX0 wd_107 dX0_copyFrom_117 rfl rfl (by decide) rfl rfl rfl rfl rfl (Nat.le_of_ble_eq_true rfl) rfl ?_
  refine V_aload_n (pc := 120) C 0 dX0_copyFrom_120 rfl rfl ?_
  refine V_aload_n (pc := 121) C 1 dX0_copyFrom_121 rfl rfl ?_
  refine V_get (pc := 122) C 8 9 inX0 wd_110 dX0_copyFrom_122 rfl rfl (by decide) rfl rfl ?_
  refine V_put (pc := 125) (ws' := ((wC cI q_c c_firsts_1 c_seconds_2 c_truths_3 c_levels_4 c_outLiterals_5 c_outCounts_6 c_patterns_7 o_inputCount o_nodeCount o_patternCount) ++ (wC cI q_o o_firsts o_seconds o_truths o_levels o_outLiterals o_outCounts o_patterns o_inputCount o_nodeCount o_patternCount))) C 0 9 inX0 tyX0_ok nmX0 wd_110 dX0_copyFrom_125 rfl rfl (by decide) rfl rfl rfl rfl rfl (Nat.le_of_ble_eq_true rfl) rfl ?_
  exact V_vret (pc := 128) C hQ (c_firsts_1, c_seconds_2, c_truths_3, c_levels_4, c_outLiterals_5, c_outCounts_6, c_patterns_7, o_inputCount, o_nodeCount, o_patternCount) dX0_copyFrom_128 rfl (wp_s h)
set_option maxRecDepth 100000 in
set_option maxHeartbeats 4000000 in
theorem c_C_isNode {l : Launch} {D : va_G} {cI cC : ClassId} {q_c : Nat → Nat} {c_firsts : Nat → Int32} {c_seconds : Nat → Int32} {c_truths : Nat → Int32} {c_levels : Nat → Int32} {c_outLiterals : Nat → Int32} {c_outCounts : Nat → Int32} {c_patterns : Nat → Int32} {c_inputCount : Int32} {c_nodeCount : Int32} {c_patternCount : Int32} {a0 : Int32} {post : Int32 → Prop} (h : wpO (C_isNode c_nodeCount a0) post) : Cn l yX0_isNode cX0_isNode 2 (some .boolean) 0 0 D cI cC [.ref (q_c 0), .int a0] (wC cI q_c c_firsts c_seconds c_truths c_levels c_outLiterals c_outCounts c_patterns c_inputCount c_nodeCount c_patternCount) (QI D cI cC (S := Unit) (fun u => (wC cI q_c c_firsts c_seconds c_truths c_levels c_outLiterals c_outCounts c_patterns c_inputCount c_nodeCount c_patternCount)) (fun r u => post r ∧ narrow .boolean (.int r) = .int r)) := by
  refine Cn.ofV (own := RX0) (lv0 := [(0, .ref (q_c 0)), (1, .int a0)]) rfl (by decide) (Nat.le_of_ble_eq_true rfl) rfl ?_
  intro p e s m below meth c A args Q hQ C
  unfold C_isNode at h
  refine V_iload_n (pc := 0) C 1 dX0_isNode_0 rfl rfl ?_
  refine V_if_lt (pc := 1) (tgt := 16) C dX0_isNode_1 (by decide) (fun c1 => ?_) (fun c1 => ?_)
  · replace h := wp_t h c1
    refine V_iconst (pc := 16) C dX0_isNode_16 ki_0 ?_
    exact V_iret (pc := 17) C hQ () dX0_isNode_17 rfl rfl ⟨wp_s h, rfl⟩
  · replace h := wp_f h c1
    refine V_iload_n (pc := 4) C 1 dX0_isNode_4 rfl rfl ?_
    refine V_aload_n (pc := 5) C 0 dX0_isNode_5 rfl rfl ?_
    refine V_get (pc := 6) C 0 8 inX0 wd_107 dX0_isNode_6 rfl rfl (by decide) rfl rfl ?_
    refine V_icmp_ge (pc := 9) (tgt := 16) C dX0_isNode_9 (by decide) (fun c2 => ?_) (fun c2 => ?_)
    · replace h := wp_t h c2
      refine V_iconst (pc := 16) C dX0_isNode_16 ki_0 ?_
      exact V_iret (pc := 17) C hQ () dX0_isNode_17 rfl rfl ⟨wp_s h, rfl⟩
    · replace h := wp_f h c2
      refine V_iconst (pc := 12) C dX0_isNode_12 ki_1 ?_
      refine V_goto (pc := 13) (tgt := 17) C dX0_isNode_13 (by decide) ?_
      exact V_iret (pc := 17) C hQ () dX0_isNode_17 rfl rfl ⟨wp_s h, rfl⟩
set_option maxRecDepth 100000 in
set_option maxHeartbeats 4000000 in
theorem c_C_isGate {l : Launch} {D : va_G} {cI cC : ClassId} {q_c : Nat → Nat} {c_firsts : Nat → Int32} {c_seconds : Nat → Int32} {c_truths : Nat → Int32} {c_levels : Nat → Int32} {c_outLiterals : Nat → Int32} {c_outCounts : Nat → Int32} {c_patterns : Nat → Int32} {c_inputCount : Int32} {c_nodeCount : Int32} {c_patternCount : Int32} {a0 : Int32} {post : Int32 → Prop} (h : wpO (C_isGate c_inputCount c_nodeCount a0) post) : Cn l yX0_isGate cX0_isGate 2 (some .boolean) 0 0 D cI cC [.ref (q_c 0), .int a0] (wC cI q_c c_firsts c_seconds c_truths c_levels c_outLiterals c_outCounts c_patterns c_inputCount c_nodeCount c_patternCount) (QI D cI cC (S := Unit) (fun u => (wC cI q_c c_firsts c_seconds c_truths c_levels c_outLiterals c_outCounts c_patterns c_inputCount c_nodeCount c_patternCount)) (fun r u => post r ∧ narrow .boolean (.int r) = .int r)) := by
  refine Cn.ofV (own := RX0) (lv0 := [(0, .ref (q_c 0)), (1, .int a0)]) rfl (by decide) (Nat.le_of_ble_eq_true rfl) rfl ?_
  intro p e s m below meth c A args Q hQ C
  unfold C_isGate at h
  refine V_iload_n (pc := 0) C 1 dX0_isGate_0 rfl rfl ?_
  refine V_aload_n (pc := 1) C 0 dX0_isGate_1 rfl rfl ?_
  refine V_get (pc := 2) C 0 7 inX0 wd_105 dX0_isGate_2 rfl rfl (by decide) rfl rfl ?_
  refine V_icmp_le (pc := 5) (tgt := 20) C dX0_isGate_5 (by decide) (fun c1 => ?_) (fun c1 => ?_)
  · replace h := wp_t h c1
    refine V_iconst (pc := 20) C dX0_isGate_20 ki_0 ?_
    exact V_iret (pc := 21) C hQ () dX0_isGate_21 rfl rfl ⟨wp_s h, rfl⟩
  · replace h := wp_f h c1
    refine V_iload_n (pc := 8) C 1 dX0_isGate_8 rfl rfl ?_
    refine V_aload_n (pc := 9) C 0 dX0_isGate_9 rfl rfl ?_
    refine V_get (pc := 10) C 0 8 inX0 wd_107 dX0_isGate_10 rfl rfl (by decide) rfl rfl ?_
    refine V_icmp_ge (pc := 13) (tgt := 20) C dX0_isGate_13 (by decide) (fun c2 => ?_) (fun c2 => ?_)
    · replace h := wp_t h c2
      refine V_iconst (pc := 20) C dX0_isGate_20 ki_0 ?_
      exact V_iret (pc := 21) C hQ () dX0_isGate_21 rfl rfl ⟨wp_s h, rfl⟩
    · replace h := wp_f h c2
      refine V_iconst (pc := 16) C dX0_isGate_16 ki_1 ?_
      refine V_goto (pc := 17) (tgt := 21) C dX0_isGate_17 (by decide) ?_
      exact V_iret (pc := 21) C hQ () dX0_isGate_21 rfl rfl ⟨wp_s h, rfl⟩
set_option maxRecDepth 100000 in
set_option maxHeartbeats 4000000 in
theorem c_C_isLiteral {l : Launch} {D : va_G} {cI cC : ClassId} {q_c : Nat → Nat} {c_firsts : Nat → Int32} {c_seconds : Nat → Int32} {c_truths : Nat → Int32} {c_levels : Nat → Int32} {c_outLiterals : Nat → Int32} {c_outCounts : Nat → Int32} {c_patterns : Nat → Int32} {c_inputCount : Int32} {c_nodeCount : Int32} {c_patternCount : Int32} {a0 : Int32} {post : Int32 → Prop} (h : wpO (C_isLiteral c_nodeCount a0) post) : Cn l yX0_isLiteral cX0_isLiteral 2 (some .boolean) 0 0 D cI cC [.ref (q_c 0), .int a0] (wC cI q_c c_firsts c_seconds c_truths c_levels c_outLiterals c_outCounts c_patterns c_inputCount c_nodeCount c_patternCount) (QI D cI cC (S := Unit) (fun u => (wC cI q_c c_firsts c_seconds c_truths c_levels c_outLiterals c_outCounts c_patterns c_inputCount c_nodeCount c_patternCount)) (fun r u => post r ∧ narrow .boolean (.int r) = .int r)) := by
  refine Cn.ofV (own := RX0) (lv0 := [(0, .ref (q_c 0)), (1, .int a0)]) rfl (by decide) (Nat.le_of_ble_eq_true rfl) rfl ?_
  intro p e s m below meth c A args Q hQ C
  unfold C_isLiteral at h
  refine V_iload_n (pc := 0) C 1 dX0_isLiteral_0 rfl rfl ?_
  refine V_if_lt (pc := 1) (tgt := 18) C dX0_isLiteral_1 (by decide) (fun c1 => ?_) (fun c1 => ?_)
  · replace h := wp_t h c1
    refine V_iconst (pc := 18) C dX0_isLiteral_18 ki_0 ?_
    exact V_iret (pc := 19) C hQ () dX0_isLiteral_19 rfl rfl ⟨wp_s h, rfl⟩
  · replace h := wp_f h c1
    refine V_iload_n (pc := 4) C 1 dX0_isLiteral_4 rfl rfl ?_
    refine V_iconst (pc := 5) C dX0_isLiteral_5 ki_2 ?_
    refine V_aload_n (pc := 6) C 0 dX0_isLiteral_6 rfl rfl ?_
    refine V_get (pc := 7) C 0 8 inX0 wd_107 dX0_isLiteral_7 rfl rfl (by decide) rfl rfl ?_
    refine V_imul (pc := 10) C dX0_isLiteral_10 ?_
    refine V_icmp_ge (pc := 11) (tgt := 18) C dX0_isLiteral_11 (by decide) (fun c2 => ?_) (fun c2 => ?_)
    · replace h := wp_t h c2
      refine V_iconst (pc := 18) C dX0_isLiteral_18 ki_0 ?_
      exact V_iret (pc := 19) C hQ () dX0_isLiteral_19 rfl rfl ⟨wp_s h, rfl⟩
    · replace h := wp_f h c2
      refine V_iconst (pc := 14) C dX0_isLiteral_14 ki_1 ?_
      refine V_goto (pc := 15) (tgt := 19) C dX0_isLiteral_15 (by decide) ?_
      exact V_iret (pc := 19) C hQ () dX0_isLiteral_19 rfl rfl ⟨wp_s h, rfl⟩
set_option maxRecDepth 100000 in
set_option maxHeartbeats 4000000 in
theorem c_C_isSide {l : Launch} {D : va_G} {cI cC : ClassId} {q_c : Nat → Nat} {c_firsts : Nat → Int32} {c_seconds : Nat → Int32} {c_truths : Nat → Int32} {c_levels : Nat → Int32} {c_outLiterals : Nat → Int32} {c_outCounts : Nat → Int32} {c_patterns : Nat → Int32} {c_inputCount : Int32} {c_nodeCount : Int32} {c_patternCount : Int32} {a0 : Int32} {post : Int32 → Prop} (h : wpO (C_isSide a0) post) : Cn l yX0_isSide cX0_isSide 2 (some .boolean) 0 0 D cI cC [.ref (q_c 0), .int a0] (wC cI q_c c_firsts c_seconds c_truths c_levels c_outLiterals c_outCounts c_patterns c_inputCount c_nodeCount c_patternCount) (QI D cI cC (S := Unit) (fun u => (wC cI q_c c_firsts c_seconds c_truths c_levels c_outLiterals c_outCounts c_patterns c_inputCount c_nodeCount c_patternCount)) (fun r u => post r ∧ narrow .boolean (.int r) = .int r)) := by
  refine Cn.ofV (own := RX0) (lv0 := [(0, .ref (q_c 0)), (1, .int a0)]) rfl (by decide) (Nat.le_of_ble_eq_true rfl) rfl ?_
  intro p e s m below meth c A args Q hQ C
  unfold C_isSide at h
  refine V_iload_n (pc := 0) C 1 dX0_isSide_0 rfl rfl ?_
  refine V_if_lt (pc := 1) (tgt := 13) C dX0_isSide_1 (by decide) (fun c1 => ?_) (fun c1 => ?_)
  · replace h := wp_t h c1
    refine V_iconst (pc := 13) C dX0_isSide_13 ki_0 ?_
    exact V_iret (pc := 14) C hQ () dX0_isSide_14 rfl rfl ⟨wp_s h, rfl⟩
  · replace h := wp_f h c1
    refine V_iload_n (pc := 4) C 1 dX0_isSide_4 rfl rfl ?_
    refine V_iconst (pc := 5) C dX0_isSide_5 ki_2 ?_
    refine V_icmp_ge (pc := 6) (tgt := 13) C dX0_isSide_6 (by decide) (fun c2 => ?_) (fun c2 => ?_)
    · replace h := wp_t h c2
      refine V_iconst (pc := 13) C dX0_isSide_13 ki_0 ?_
      exact V_iret (pc := 14) C hQ () dX0_isSide_14 rfl rfl ⟨wp_s h, rfl⟩
    · replace h := wp_f h c2
      refine V_iconst (pc := 9) C dX0_isSide_9 ki_1 ?_
      refine V_goto (pc := 10) (tgt := 14) C dX0_isSide_10 (by decide) ?_
      exact V_iret (pc := 14) C hQ () dX0_isSide_14 rfl rfl ⟨wp_s h, rfl⟩
set_option maxRecDepth 100000 in
set_option maxHeartbeats 4000000 in
theorem c_C_isRow {l : Launch} {D : va_G} {cI cC : ClassId} {q_c : Nat → Nat} {c_firsts : Nat → Int32} {c_seconds : Nat → Int32} {c_truths : Nat → Int32} {c_levels : Nat → Int32} {c_outLiterals : Nat → Int32} {c_outCounts : Nat → Int32} {c_patterns : Nat → Int32} {c_inputCount : Int32} {c_nodeCount : Int32} {c_patternCount : Int32} {a0 : Int32} {post : Int32 → Prop} (h : wpO (C_isRow c_inputCount a0) post) : Cn l yX0_isRow cX0_isRow 2 (some .boolean) 0 0 D cI cC [.ref (q_c 0), .int a0] (wC cI q_c c_firsts c_seconds c_truths c_levels c_outLiterals c_outCounts c_patterns c_inputCount c_nodeCount c_patternCount) (QI D cI cC (S := Unit) (fun u => (wC cI q_c c_firsts c_seconds c_truths c_levels c_outLiterals c_outCounts c_patterns c_inputCount c_nodeCount c_patternCount)) (fun r u => post r ∧ narrow .boolean (.int r) = .int r)) := by
  refine Cn.ofV (own := RX0) (lv0 := [(0, .ref (q_c 0)), (1, .int a0)]) rfl (by decide) (Nat.le_of_ble_eq_true rfl) rfl ?_
  intro p e s m below meth c A args Q hQ C
  unfold C_isRow at h
  refine V_iload_n (pc := 0) C 1 dX0_isRow_0 rfl rfl ?_
  refine V_if_lt (pc := 1) (tgt := 18) C dX0_isRow_1 (by decide) (fun c1 => ?_) (fun c1 => ?_)
  · replace h := wp_t h c1
    refine V_iconst (pc := 18) C dX0_isRow_18 ki_0 ?_
    exact V_iret (pc := 19) C hQ () dX0_isRow_19 rfl rfl ⟨wp_s h, rfl⟩
  · replace h := wp_f h c1
    refine V_iload_n (pc := 4) C 1 dX0_isRow_4 rfl rfl ?_
    refine V_iconst (pc := 5) C dX0_isRow_5 ki_1 ?_
    refine V_aload_n (pc := 6) C 0 dX0_isRow_6 rfl rfl ?_
    refine V_get (pc := 7) C 0 7 inX0 wd_105 dX0_isRow_7 rfl rfl (by decide) rfl rfl ?_
    refine V_ishl (pc := 10) C dX0_isRow_10 ?_
    refine V_icmp_ge (pc := 11) (tgt := 18) C dX0_isRow_11 (by decide) (fun c2 => ?_) (fun c2 => ?_)
    · replace h := wp_t h c2
      refine V_iconst (pc := 18) C dX0_isRow_18 ki_0 ?_
      exact V_iret (pc := 19) C hQ () dX0_isRow_19 rfl rfl ⟨wp_s h, rfl⟩
    · replace h := wp_f h c2
      refine V_iconst (pc := 14) C dX0_isRow_14 ki_1 ?_
      refine V_goto (pc := 15) (tgt := 19) C dX0_isRow_15 (by decide) ?_
      exact V_iret (pc := 19) C hQ () dX0_isRow_19 rfl rfl ⟨wp_s h, rfl⟩
set_option maxRecDepth 100000 in
set_option maxHeartbeats 4000000 in
theorem c_C_hasOutPair {l : Launch} {D : va_G} {cI cC : ClassId} {q_c : Nat → Nat} {c_firsts : Nat → Int32} {c_seconds : Nat → Int32} {c_truths : Nat → Int32} {c_levels : Nat → Int32} {c_outLiterals : Nat → Int32} {c_outCounts : Nat → Int32} {c_patterns : Nat → Int32} {c_inputCount : Int32} {c_nodeCount : Int32} {c_patternCount : Int32} {a0 : Int32} {post : Int32 → Prop} (h : wpO (C_hasOutPair c_outCounts a0) post) : Cn l yX0_hasOutPair cX0_hasOutPair 2 (some .boolean) 0 0 D cI cC [.ref (q_c 0), .int a0] (wC cI q_c c_firsts c_seconds c_truths c_levels c_outLiterals c_outCounts c_patterns c_inputCount c_nodeCount c_patternCount) (QI D cI cC (S := Unit) (fun u => (wC cI q_c c_firsts c_seconds c_truths c_levels c_outLiterals c_outCounts c_patterns c_inputCount c_nodeCount c_patternCount)) (fun r u => post r ∧ narrow .boolean (.int r) = .int r)) := by
  refine Cn.ofV (own := RX0) (lv0 := [(0, .ref (q_c 0)), (1, .int a0)]) rfl (by decide) (Nat.le_of_ble_eq_true rfl) rfl ?_
  intro p e s m below meth c A args Q hQ C
  unfold C_hasOutPair at h
  refine V_iload_n (pc := 0) C 1 dX0_hasOutPair_0 rfl rfl ?_
  refine V_if_lt (pc := 1) (tgt := 28) C dX0_hasOutPair_1 (by decide) (fun c1 => ?_) (fun c1 => ?_)
  · replace h := wp_t h c1
    refine V_iconst (pc := 28) C dX0_hasOutPair_28 ki_0 ?_
    exact V_iret (pc := 29) C hQ () dX0_hasOutPair_29 rfl rfl ⟨wp_s h, rfl⟩
  · replace h := wp_f h c1
    refine V_iload_n (pc := 4) C 1 dX0_hasOutPair_4 rfl rfl ?_
    refine V_aload_n (pc := 5) C 0 dX0_hasOutPair_5 rfl rfl ?_
    refine V_get (pc := 6) C 0 5 inX0 wd_101 dX0_hasOutPair_6 rfl rfl (by decide) rfl rfl ?_
    refine V_iconst (pc := 9) C dX0_hasOutPair_9 ki_0 ?_
    obtain ⟨b2, h⟩ := wp_c h
    refine V_iald (pc := 10) C 6 dX0_hasOutPair_10 rfl b2 ?_
    refine V_icmp_ge (pc := 11) (tgt := 28) C dX0_hasOutPair_11 (by decide) (fun c3 => ?_) (fun c3 => ?_)
    · replace h := wp_t h c3
      refine V_iconst (pc := 28) C dX0_hasOutPair_28 ki_0 ?_
      exact V_iret (pc := 29) C hQ () dX0_hasOutPair_29 rfl rfl ⟨wp_s h, rfl⟩
    · replace h := wp_f h c3
      refine V_iload_n (pc := 14) C 1 dX0_hasOutPair_14 rfl rfl ?_
      refine V_aload_n (pc := 15) C 0 dX0_hasOutPair_15 rfl rfl ?_
      refine V_get (pc := 16) C 0 5 inX0 wd_101 dX0_hasOutPair_16 rfl rfl (by decide) rfl rfl ?_
      refine V_iconst (pc := 19) C dX0_hasOutPair_19 ki_1 ?_
      obtain ⟨b4, h⟩ := wp_c h
      refine V_iald (pc := 20) C 6 dX0_hasOutPair_20 rfl b4 ?_
      refine V_icmp_ge (pc := 21) (tgt := 28) C dX0_hasOutPair_21 (by decide) (fun c5 => ?_) (fun c5 => ?_)
      · replace h := wp_t h c5
        refine V_iconst (pc := 28) C dX0_hasOutPair_28 ki_0 ?_
        exact V_iret (pc := 29) C hQ () dX0_hasOutPair_29 rfl rfl ⟨wp_s h, rfl⟩
      · replace h := wp_f h c5
        refine V_iconst (pc := 24) C dX0_hasOutPair_24 ki_1 ?_
        refine V_goto (pc := 25) (tgt := 29) C dX0_hasOutPair_25 (by decide) ?_
        exact V_iret (pc := 29) C hQ () dX0_hasOutPair_29 rfl rfl ⟨wp_s h, rfl⟩
set_option maxRecDepth 100000 in
set_option maxHeartbeats 4000000 in
theorem c_C_truthOf {l : Launch} {D : va_G} {cI cC : ClassId} {q_c : Nat → Nat} {c_firsts : Nat → Int32} {c_seconds : Nat → Int32} {c_truths : Nat → Int32} {c_levels : Nat → Int32} {c_outLiterals : Nat → Int32} {c_outCounts : Nat → Int32} {c_patterns : Nat → Int32} {c_inputCount : Int32} {c_nodeCount : Int32} {c_patternCount : Int32} {a0 : Int32} {post : Int32 → Prop} (h : wpO (C_truthOf c_truths c_inputCount a0) post) : Cn l yX0_truthOf cX0_truthOf 3 (some .int) 1 20 D cI cC [.ref (q_c 0), .int a0] (wC cI q_c c_firsts c_seconds c_truths c_levels c_outLiterals c_outCounts c_patterns c_inputCount c_nodeCount c_patternCount) (QI D cI cC (S := Unit) (fun u => (wC cI q_c c_firsts c_seconds c_truths c_levels c_outLiterals c_outCounts c_patterns c_inputCount c_nodeCount c_patternCount)) (fun r u => post r)) := by
  refine Cn.ofV (own := RX0) (lv0 := [(0, .ref (q_c 0)), (1, .int a0)]) rfl (by decide) (Nat.le_of_ble_eq_true rfl) rfl ?_
  intro p e s m below meth c A args Q hQ C
  unfold C_truthOf at h
  refine V_aload_n (pc := 0) C 0 dX0_truthOf_0 rfl rfl ?_
  refine V_get (pc := 1) C 0 2 inX0 wd_97 dX0_truthOf_1 rfl rfl (by decide) rfl rfl ?_
  refine V_iload_n (pc := 4) C 1 dX0_truthOf_4 rfl rfl ?_
  refine V_iconst (pc := 5) C dX0_truthOf_5 ki_1 ?_
  refine V_ishr (pc := 6) C dX0_truthOf_6 ?_
  obtain ⟨b1, h⟩ := wp_c h
  refine V_iald (pc := 7) C 3 dX0_truthOf_7 rfl b1 ?_
  obtain ⟨v2, ev2, h⟩ := wp_l h
  refine V_topi (pc := 8) ev2 ?_
  refine V_istore_n (pc := 8) (lv' := [(0, .ref (q_c 0)), (1, .int a0), (2, .int v2)]) C dX0_truthOf_8 rfl [1, 2, 0] (by decide) rfl ?_
  refine V_iload_n (pc := 9) C 1 dX0_truthOf_9 rfl rfl ?_
  refine V_iconst (pc := 10) C dX0_truthOf_10 ki_1 ?_
  refine V_iand (pc := 11) C dX0_truthOf_11 ?_
  refine V_if_ne (pc := 12) (tgt := 19) C dX0_truthOf_12 (by decide) (fun c3 => ?_) (fun c3 => ?_)
  · replace h := wp_f h c3
    refine V_iload_n (pc := 19) C 2 dX0_truthOf_19 rfl rfl ?_
    refine V_iconst (pc := 20) C dX0_truthOf_20 ki_m1 ?_
    refine V_ixor (pc := 21) C dX0_truthOf_21 ?_
    refine V_aload_n (pc := 22) C 0 dX0_truthOf_22 rfl rfl ?_
    refine V_callVi (pc := 23) (As := []) (st := [.int (v2 ^^^ (-1))]) C (c_C_allRows (wp_b h)) mk_X0_allRows wd_87 dX0_truthOf_23 0 rfl rfl rfl ⟨Nat.le_of_ble_eq_true rfl, Nat.le_of_ble_eq_true rfl⟩ (Nat.le_of_ble_eq_true rfl) rfl (fun r5 u hw => ?_)
    have h := hw
    try dsimp only at h
    try dsimp only
    refine V_iand (pc := 26) C dX0_truthOf_26 ?_
    exact V_iret (pc := 27) C hQ () dX0_truthOf_27 (vp_nar_int _) rfl (wp_s h)
  · replace h := wp_t h c3
    refine V_iload_n (pc := 15) C 2 dX0_truthOf_15 rfl rfl ?_
    refine V_goto (pc := 16) (tgt := 27) C dX0_truthOf_16 (by decide) ?_
    exact V_iret (pc := 27) C hQ () dX0_truthOf_27 (vp_nar_int _) rfl (wp_s h)
set_option maxRecDepth 100000 in
set_option maxHeartbeats 4000000 in
theorem c_C_levelOf {l : Launch} {D : va_G} {cI cC : ClassId} {q_c : Nat → Nat} {c_firsts : Nat → Int32} {c_seconds : Nat → Int32} {c_truths : Nat → Int32} {c_levels : Nat → Int32} {c_outLiterals : Nat → Int32} {c_outCounts : Nat → Int32} {c_patterns : Nat → Int32} {c_inputCount : Int32} {c_nodeCount : Int32} {c_patternCount : Int32} {a0 : Int32} {post : Int32 → Prop} (h : wpO (C_levelOf c_levels a0) post) : Cn l yX0_levelOf cX0_levelOf 2 (some .int) 0 0 D cI cC [.ref (q_c 0), .int a0] (wC cI q_c c_firsts c_seconds c_truths c_levels c_outLiterals c_outCounts c_patterns c_inputCount c_nodeCount c_patternCount) (QI D cI cC (S := Unit) (fun u => (wC cI q_c c_firsts c_seconds c_truths c_levels c_outLiterals c_outCounts c_patterns c_inputCount c_nodeCount c_patternCount)) (fun r u => post r)) := by
  refine Cn.ofV (own := RX0) (lv0 := [(0, .ref (q_c 0)), (1, .int a0)]) rfl (by decide) (Nat.le_of_ble_eq_true rfl) rfl ?_
  intro p e s m below meth c A args Q hQ C
  unfold C_levelOf at h
  refine V_aload_n (pc := 0) C 0 dX0_levelOf_0 rfl rfl ?_
  refine V_get (pc := 1) C 0 3 inX0 wd_99 dX0_levelOf_1 rfl rfl (by decide) rfl rfl ?_
  refine V_iload_n (pc := 4) C 1 dX0_levelOf_4 rfl rfl ?_
  refine V_iconst (pc := 5) C dX0_levelOf_5 ki_1 ?_
  refine V_ishr (pc := 6) C dX0_levelOf_6 ?_
  obtain ⟨b1, h⟩ := wp_c h
  refine V_iald (pc := 7) C 4 dX0_levelOf_7 rfl b1 ?_
  exact V_iret (pc := 8) C hQ () dX0_levelOf_8 (vp_nar_int _) rfl (wp_s h)
set_option maxRecDepth 100000 in
set_option maxHeartbeats 4000000 in
theorem c_C_outOf {l : Launch} {D : va_G} {cI cC : ClassId} {q_c : Nat → Nat} {c_firsts : Nat → Int32} {c_seconds : Nat → Int32} {c_truths : Nat → Int32} {c_levels : Nat → Int32} {c_outLiterals : Nat → Int32} {c_outCounts : Nat → Int32} {c_patterns : Nat → Int32} {c_inputCount : Int32} {c_nodeCount : Int32} {c_patternCount : Int32} {a0 : Int32} {a1 : Int32} {post : Int32 → Prop} (h : wpO (C_outOf c_outLiterals a0 a1) post) : Cn l yX0_outOf cX0_outOf 3 (some .int) 0 0 D cI cC [.ref (q_c 0), .int a0, .int a1] (wC cI q_c c_firsts c_seconds c_truths c_levels c_outLiterals c_outCounts c_patterns c_inputCount c_nodeCount c_patternCount) (QI D cI cC (S := Unit) (fun u => (wC cI q_c c_firsts c_seconds c_truths c_levels c_outLiterals c_outCounts c_patterns c_inputCount c_nodeCount c_patternCount)) (fun r u => post r)) := by
  refine Cn.ofV (own := RX0) (lv0 := [(0, .ref (q_c 0)), (1, .int a0), (2, .int a1)]) rfl (by decide) (Nat.le_of_ble_eq_true rfl) rfl ?_
  intro p e s m below meth c A args Q hQ C
  unfold C_outOf at h
  refine V_aload_n (pc := 0) C 0 dX0_outOf_0 rfl rfl ?_
  refine V_get (pc := 1) C 0 4 inX0 wd_100 dX0_outOf_1 rfl rfl (by decide) rfl rfl ?_
  refine V_iload_n (pc := 4) C 1 dX0_outOf_4 rfl rfl ?_
  refine V_bipush (pc := 5) C dX0_outOf_5 kb_6 ?_
  refine V_imul (pc := 7) C dX0_outOf_7 ?_
  refine V_iload_n (pc := 8) C 2 dX0_outOf_8 rfl rfl ?_
  refine V_iadd (pc := 9) C dX0_outOf_9 ?_
  obtain ⟨b1, h⟩ := wp_c h
  refine V_iald (pc := 10) C 5 dX0_outOf_10 rfl b1 ?_
  exact V_iret (pc := 11) C hQ () dX0_outOf_11 (vp_nar_int _) rfl (wp_s h)
set_option maxRecDepth 100000 in
set_option maxHeartbeats 4000000 in
theorem c_C_pairDifference {l : Launch} {D : va_G} {cI cC : ClassId} {q_c : Nat → Nat} {c_firsts : Nat → Int32} {c_seconds : Nat → Int32} {c_truths : Nat → Int32} {c_levels : Nat → Int32} {c_outLiterals : Nat → Int32} {c_outCounts : Nat → Int32} {c_patterns : Nat → Int32} {c_inputCount : Int32} {c_nodeCount : Int32} {c_patternCount : Int32} {a0 : Int32} {post : Int32 → Prop} (h : wpO (C_pairDifference c_truths c_outLiterals c_inputCount a0) post) : Cn l yX0_pairDifference cX0_pairDifference 2 (some .int) 2 42 D cI cC [.ref (q_c 0), .int a0] (wC cI q_c c_firsts c_seconds c_truths c_levels c_outLiterals c_outCounts c_patterns c_inputCount c_nodeCount c_patternCount) (QI D cI cC (S := Unit) (fun u => (wC cI q_c c_firsts c_seconds c_truths c_levels c_outLiterals c_outCounts c_patterns c_inputCount c_nodeCount c_patternCount)) (fun r u => post r)) := by
  refine Cn.ofV (own := RX0) (lv0 := [(0, .ref (q_c 0)), (1, .int a0)]) rfl (by decide) (Nat.le_of_ble_eq_true rfl) rfl ?_
  intro p e s m below meth c A args Q hQ C
  unfold C_pairDifference at h
  refine V_aload_n (pc := 0) C 0 dX0_pairDifference_0 rfl rfl ?_
  refine V_aload_n (pc := 1) C 0 dX0_pairDifference_1 rfl rfl ?_
  refine V_iconst (pc := 2) C dX0_pairDifference_2 ki_0 ?_
  refine V_iload_n (pc := 3) C 1 dX0_pairDifference_3 rfl rfl ?_
  refine V_callVi (pc := 4) (As := [.int 0, .int a0]) (st := [.ref (q_c 0)]) C (c_C_outOf (wp_b h)) mk_X0_outOf wd_342 dX0_pairDifference_4 0 rfl rfl rfl ⟨Nat.le_of_ble_eq_true rfl, Nat.le_of_ble_eq_true rfl⟩ (Nat.le_of_ble_eq_true rfl) rfl (fun r2 u hw => ?_)
  have h := hw
  try dsimp only at h
  try dsimp only
  refine V_callVi (pc := 7) (As := [.int r2]) (st := []) C (c_C_truthOf (wp_b h)) mk_X0_truthOf wd_231 dX0_pairDifference_7 0 rfl rfl rfl ⟨Nat.le_of_ble_eq_true rfl, Nat.le_of_ble_eq_true rfl⟩ (Nat.le_of_ble_eq_true rfl) rfl (fun r4 u hw => ?_)
  have h := hw
  try dsimp only at h
  try dsimp only
  refine V_aload_n (pc := 10) C 0 dX0_pairDifference_10 rfl rfl ?_
  refine V_aload_n (pc := 11) C 0 dX0_pairDifference_11 rfl rfl ?_
  refine V_iconst (pc := 12) C dX0_pairDifference_12 ki_1 ?_
  refine V_iload_n (pc := 13) C 1 dX0_pairDifference_13 rfl rfl ?_
  refine V_callVi (pc := 14) (As := [.int 1, .int a0]) (st := [.ref (q_c 0), .int r4]) C (c_C_outOf (wp_b h)) mk_X0_outOf wd_342 dX0_pairDifference_14 0 rfl rfl rfl ⟨Nat.le_of_ble_eq_true rfl, Nat.le_of_ble_eq_true rfl⟩ (Nat.le_of_ble_eq_true rfl) rfl (fun r6 u hw => ?_)
  have h := hw
  try dsimp only at h
  try dsimp only
  refine V_callVi (pc := 17) (As := [.int r6]) (st := [.int r4]) C (c_C_truthOf (wp_b h)) mk_X0_truthOf wd_231 dX0_pairDifference_17 0 rfl rfl rfl ⟨Nat.le_of_ble_eq_true rfl, Nat.le_of_ble_eq_true rfl⟩ (Nat.le_of_ble_eq_true rfl) rfl (fun r8 u hw => ?_)
  have h := hw
  try dsimp only at h
  try dsimp only
  refine V_ixor (pc := 20) C dX0_pairDifference_20 ?_
  exact V_iret (pc := 21) C hQ () dX0_pairDifference_21 (vp_nar_int _) rfl (wp_s h)
set_option maxRecDepth 100000 in
set_option maxHeartbeats 4000000 in
theorem c_W_formOf {l : Launch} {D : va_G} {cI cC : ClassId} {q_w : Nat → Nat} {w_forms : Nat → Int32} {w_reasons : Nat → Int32} {w_lessers : Nat → Int32} {w_greaters : Nat → Int32} {w_lineGates : Nat → Int32} {w_newNumbers : Nat → Int32} {w_rows : Nat → Int32} {w_gatesBy : Nat → Int32} {w_lineCount : Int32} {w_rowCount : Int32} {w_checkCount : Int32} {w_patternRows : Int32} {w_allRows : Int32} {a0 : Int32} {post : Int32 → Prop} (h : wpO (W_formOf w_forms a0) post) : Cn l yX3_formOf cX3_formOf 2 (some .int) 0 0 D cI cC [.ref (q_w 0), .int a0] (wS cI q_w w_forms w_reasons w_lessers w_greaters w_lineGates w_newNumbers w_rows w_gatesBy w_lineCount w_rowCount w_checkCount w_patternRows w_allRows) (QI D cI cC (S := Unit) (fun u => (wS cI q_w w_forms w_reasons w_lessers w_greaters w_lineGates w_newNumbers w_rows w_gatesBy w_lineCount w_rowCount w_checkCount w_patternRows w_allRows)) (fun r u => post r)) := by
  refine Cn.ofV (own := RX3) (lv0 := [(0, .ref (q_w 0)), (1, .int a0)]) rfl (by decide) (Nat.le_of_ble_eq_true rfl) rfl ?_
  intro p e s m below meth c A args Q hQ C
  unfold W_formOf at h
  refine V_aload_n (pc := 0) C 0 dX3_formOf_0 rfl rfl ?_
  refine V_get (pc := 1) C 0 0 inX3 wd_118 dX3_formOf_1 rfl rfl (by decide) rfl rfl ?_
  refine V_iload_n (pc := 4) C 1 dX3_formOf_4 rfl rfl ?_
  refine V_iconst (pc := 5) C dX3_formOf_5 ki_1 ?_
  refine V_ishr (pc := 6) C dX3_formOf_6 ?_
  obtain ⟨b1, h⟩ := wp_c h
  refine V_iald (pc := 7) C 1 dX3_formOf_7 rfl b1 ?_
  refine V_iload_n (pc := 8) C 1 dX3_formOf_8 rfl rfl ?_
  refine V_iconst (pc := 9) C dX3_formOf_9 ki_1 ?_
  refine V_iand (pc := 10) C dX3_formOf_10 ?_
  refine V_ixor (pc := 11) C dX3_formOf_11 ?_
  exact V_iret (pc := 12) C hQ () dX3_formOf_12 (vp_nar_int _) rfl (wp_s h)
set_option maxRecDepth 100000 in
set_option maxHeartbeats 4000000 in
theorem c_C_pairIsAlikeBy {l : Launch} {D : va_G} {cI cC : ClassId} {q_c : Nat → Nat} {q_w : Nat → Nat} {c_firsts : Nat → Int32} {c_seconds : Nat → Int32} {c_truths : Nat → Int32} {c_levels : Nat → Int32} {c_outLiterals : Nat → Int32} {c_outCounts : Nat → Int32} {c_patterns : Nat → Int32} {c_inputCount : Int32} {c_nodeCount : Int32} {c_patternCount : Int32} {w_forms : Nat → Int32} {w_reasons : Nat → Int32} {w_lessers : Nat → Int32} {w_greaters : Nat → Int32} {w_lineGates : Nat → Int32} {w_newNumbers : Nat → Int32} {w_rows : Nat → Int32} {w_gatesBy : Nat → Int32} {w_lineCount : Int32} {w_rowCount : Int32} {w_checkCount : Int32} {w_patternRows : Int32} {w_allRows : Int32} {a1 : Int32} {post : Int32 → Prop} (h : wpO (C_pairIsAlikeBy c_outLiterals w_forms a1) post) : Cn l yX0_pairIsAlikeBy cX0_pairIsAlikeBy 3 (some .boolean) 1 22 D cI cC [.ref (q_c 0), .ref (q_w 0), .int a1] ((wC cI q_c c_firsts c_seconds c_truths c_levels c_outLiterals c_outCounts c_patterns c_inputCount c_nodeCount c_patternCount) ++ (wS cI q_w w_forms w_reasons w_lessers w_greaters w_lineGates w_newNumbers w_rows w_gatesBy w_lineCount w_rowCount w_checkCount w_patternRows w_allRows)) (QI D cI cC (S := Unit) (fun u => ((wC cI q_c c_firsts c_seconds c_truths c_levels c_outLiterals c_outCounts c_patterns c_inputCount c_nodeCount c_patternCount) ++ (wS cI q_w w_forms w_reasons w_lessers w_greaters w_lineGates w_newNumbers w_rows w_gatesBy w_lineCount w_rowCount w_checkCount w_patternRows w_allRows))) (fun r u => post r ∧ narrow .boolean (.int r) = .int r)) := by
  refine Cn.ofV (own := RX0) (lv0 := [(0, .ref (q_c 0)), (1, .ref (q_w 0)), (2, .int a1)]) rfl (by decide) (Nat.le_of_ble_eq_true rfl) rfl ?_
  intro p e s m below meth c A args Q hQ C
  unfold C_pairIsAlikeBy at h
  refine V_aload_n (pc := 0) C 1 dX0_pairIsAlikeBy_0 rfl rfl ?_
  refine V_aload_n (pc := 1) C 0 dX0_pairIsAlikeBy_1 rfl rfl ?_
  refine V_iconst (pc := 2) C dX0_pairIsAlikeBy_2 ki_0 ?_
  refine V_iload_n (pc := 3) C 2 dX0_pairIsAlikeBy_3 rfl rfl ?_
  refine V_cutVi (pc := 4) (As := [.int 0, .int a1]) (st := [.ref (q_w 0)]) (w0 := (wC cI q_c c_firsts c_seconds c_truths c_levels c_outLiterals c_outCounts c_patterns c_inputCount c_nodeCount c_patternCount)) (wr := (wS cI q_w w_forms w_reasons w_lessers w_greaters w_lineGates w_newNumbers w_rows w_gatesBy w_lineCount w_rowCount w_checkCount w_patternRows w_allRows)) (w2 := fun u => ((wC cI q_c c_firsts c_seconds c_truths c_levels c_outLiterals c_outCounts c_patterns c_inputCount c_nodeCount c_patternCount) ++ (wS cI q_w w_forms w_reasons w_lessers w_greaters w_lineGates w_newNumbers w_rows w_gatesBy w_lineCount w_rowCount w_checkCount w_patternRows w_allRows))) C (c_C_outOf (wp_b h)) mk_X0_outOf wd_342 dX0_pairIsAlikeBy_4 0 rfl rfl rfl ⟨Nat.le_of_ble_eq_true rfl, Nat.le_of_ble_eq_true rfl⟩ [0, 1, 2, 3, 4, 5, 6, 7] [8, 9, 10, 11, 12, 13, 14, 15, 16] [9, 10, 11, 12, 13, 14, 15, 16, 0, 1, 2, 3, 4, 5, 6, 7, 8] ⟨rfl, rfl, by decide +kernel, by decide +kernel, by decide +kernel⟩ (by decide +kernel) (fun u => rfl) (Nat.le_of_ble_eq_true rfl) rfl (fun r2 u hw => ?_)
  have h := hw
  try dsimp only at h
  try dsimp only
  refine V_cutVi (pc := 7) (As := [.int r2]) (st := []) (w0 := (wS cI q_w w_forms w_reasons w_lessers w_greaters w_lineGates w_newNumbers w_rows w_gatesBy w_lineCount w_rowCount w_checkCount w_patternRows w_allRows)) (wr := (wC cI q_c c_firsts c_seconds c_truths c_levels c_outLiterals c_outCounts c_patterns c_inputCount c_nodeCount c_patternCount)) (w2 := fun u => ((wC cI q_c c_firsts c_seconds c_truths c_levels c_outLiterals c_outCounts c_patterns c_inputCount c_nodeCount c_patternCount) ++ (wS cI q_w w_forms w_reasons w_lessers w_greaters w_lineGates w_newNumbers w_rows w_gatesBy w_lineCount w_rowCount w_checkCount w_patternRows w_allRows))) C (c_W_formOf (wp_b h)) mk_X3_formOf wd_346 dX0_pairIsAlikeBy_7 8 rfl rfl rfl ⟨Nat.le_of_ble_eq_true rfl, Nat.le_of_ble_eq_true rfl⟩ [8, 9, 10, 11, 12, 13, 14, 15, 16] [0, 1, 2, 3, 4, 5, 6, 7] [0, 1, 2, 3, 4, 5, 6, 7, 8, 9, 10, 11, 12, 13, 14, 15, 16] ⟨rfl, rfl, by decide +kernel, by decide +kernel, by decide +kernel⟩ (by decide +kernel) (fun u => rfl) (Nat.le_of_ble_eq_true rfl) rfl (fun r4 u hw => ?_)
  have h := hw
  try dsimp only at h
  try dsimp only
  refine V_aload_n (pc := 10) C 1 dX0_pairIsAlikeBy_10 rfl rfl ?_
  refine V_aload_n (pc := 11) C 0 dX0_pairIsAlikeBy_11 rfl rfl ?_
  refine V_iconst (pc := 12) C dX0_pairIsAlikeBy_12 ki_1 ?_
  refine V_iload_n (pc := 13) C 2 dX0_pairIsAlikeBy_13 rfl rfl ?_
  refine V_cutVi (pc := 14) (As := [.int 1, .int a1]) (st := [.ref (q_w 0), .int r4]) (w0 := (wC cI q_c c_firsts c_seconds c_truths c_levels c_outLiterals c_outCounts c_patterns c_inputCount c_nodeCount c_patternCount)) (wr := (wS cI q_w w_forms w_reasons w_lessers w_greaters w_lineGates w_newNumbers w_rows w_gatesBy w_lineCount w_rowCount w_checkCount w_patternRows w_allRows)) (w2 := fun u => ((wC cI q_c c_firsts c_seconds c_truths c_levels c_outLiterals c_outCounts c_patterns c_inputCount c_nodeCount c_patternCount) ++ (wS cI q_w w_forms w_reasons w_lessers w_greaters w_lineGates w_newNumbers w_rows w_gatesBy w_lineCount w_rowCount w_checkCount w_patternRows w_allRows))) C (c_C_outOf (wp_b h)) mk_X0_outOf wd_342 dX0_pairIsAlikeBy_14 0 rfl rfl rfl ⟨Nat.le_of_ble_eq_true rfl, Nat.le_of_ble_eq_true rfl⟩ [0, 1, 2, 3, 4, 5, 6, 7] [8, 9, 10, 11, 12, 13, 14, 15, 16] [9, 10, 11, 12, 13, 14, 15, 16, 0, 1, 2, 3, 4, 5, 6, 7, 8] ⟨rfl, rfl, by decide +kernel, by decide +kernel, by decide +kernel⟩ (by decide +kernel) (fun u => rfl) (Nat.le_of_ble_eq_true rfl) rfl (fun r6 u hw => ?_)
  have h := hw
  try dsimp only at h
  try dsimp only
  refine V_cutVi (pc := 17) (As := [.int r6]) (st := [.int r4]) (w0 := (wS cI q_w w_forms w_reasons w_lessers w_greaters w_lineGates w_newNumbers w_rows w_gatesBy w_lineCount w_rowCount w_checkCount w_patternRows w_allRows)) (wr := (wC cI q_c c_firsts c_seconds c_truths c_levels c_outLiterals c_outCounts c_patterns c_inputCount c_nodeCount c_patternCount)) (w2 := fun u => ((wC cI q_c c_firsts c_seconds c_truths c_levels c_outLiterals c_outCounts c_patterns c_inputCount c_nodeCount c_patternCount) ++ (wS cI q_w w_forms w_reasons w_lessers w_greaters w_lineGates w_newNumbers w_rows w_gatesBy w_lineCount w_rowCount w_checkCount w_patternRows w_allRows))) C (c_W_formOf (wp_b h)) mk_X3_formOf wd_346 dX0_pairIsAlikeBy_17 8 rfl rfl rfl ⟨Nat.le_of_ble_eq_true rfl, Nat.le_of_ble_eq_true rfl⟩ [8, 9, 10, 11, 12, 13, 14, 15, 16] [0, 1, 2, 3, 4, 5, 6, 7] [0, 1, 2, 3, 4, 5, 6, 7, 8, 9, 10, 11, 12, 13, 14, 15, 16] ⟨rfl, rfl, by decide +kernel, by decide +kernel, by decide +kernel⟩ (by decide +kernel) (fun u => rfl) (Nat.le_of_ble_eq_true rfl) rfl (fun r8 u hw => ?_)
  have h := hw
  try dsimp only at h
  try dsimp only
  refine V_icmp_ne (pc := 20) (tgt := 27) C dX0_pairIsAlikeBy_20 (by decide) (fun c9 => ?_) (fun c9 => ?_)
  · replace h := wp_f h c9
    refine V_iconst (pc := 27) C dX0_pairIsAlikeBy_27 ki_0 ?_
    exact V_iret (pc := 28) C hQ () dX0_pairIsAlikeBy_28 rfl rfl ⟨wp_s h, rfl⟩
  · replace h := wp_t h c9
    refine V_iconst (pc := 23) C dX0_pairIsAlikeBy_23 ki_1 ?_
    refine V_goto (pc := 24) (tgt := 28) C dX0_pairIsAlikeBy_24 (by decide) ?_
    exact V_iret (pc := 28) C hQ () dX0_pairIsAlikeBy_28 rfl rfl ⟨wp_s h, rfl⟩
set_option maxRecDepth 100000 in
set_option maxHeartbeats 4000000 in
theorem c_C_verdictBy {l : Launch} {D : va_G} {cI cC : ClassId} {q_c : Nat → Nat} {q_w : Nat → Nat} {c_firsts : Nat → Int32} {c_seconds : Nat → Int32} {c_truths : Nat → Int32} {c_levels : Nat → Int32} {c_outLiterals : Nat → Int32} {c_outCounts : Nat → Int32} {c_patterns : Nat → Int32} {c_inputCount : Int32} {c_nodeCount : Int32} {c_patternCount : Int32} {w_forms : Nat → Int32} {w_reasons : Nat → Int32} {w_lessers : Nat → Int32} {w_greaters : Nat → Int32} {w_lineGates : Nat → Int32} {w_newNumbers : Nat → Int32} {w_rows : Nat → Int32} {w_gatesBy : Nat → Int32} {w_lineCount : Int32} {w_rowCount : Int32} {w_checkCount : Int32} {w_patternRows : Int32} {w_allRows : Int32} {post : Int32 → Prop} (h : wpO (C_verdictBy c_outLiterals c_outCounts w_forms) post) : Cn l yX0_verdictBy cX0_verdictBy 3 (some .int) 2 44 D cI cC [.ref (q_c 0), .ref (q_w 0)] ((wC cI q_c c_firsts c_seconds c_truths c_levels c_outLiterals c_outCounts c_patterns c_inputCount c_nodeCount c_patternCount) ++ (wS cI q_w w_forms w_reasons w_lessers w_greaters w_lineGates w_newNumbers w_rows w_gatesBy w_lineCount w_rowCount w_checkCount w_patternRows w_allRows)) (QI D cI cC (S := Unit) (fun u => ((wC cI q_c c_firsts c_seconds c_truths c_levels c_outLiterals c_outCounts c_patterns c_inputCount c_nodeCount c_patternCount) ++ (wS cI q_w w_forms w_reasons w_lessers w_greaters w_lineGates w_newNumbers w_rows w_gatesBy w_lineCount w_rowCount w_checkCount w_patternRows w_allRows))) (fun r u => post r)) := by
  refine Cn.ofV (own := RX0) (lv0 := [(0, .ref (q_c 0)), (1, .ref (q_w 0))]) rfl (by decide) (Nat.le_of_ble_eq_true rfl) rfl ?_
  intro p e s m below meth c A args Q hQ C
  have hL_19 : ∀ (K : Option (Int32)), (wpO (K) post → V p l e (rmC 2 44) s m args below meth c D A 3 0 0 Q ((wC cI q_c c_firsts c_seconds c_truths c_levels c_outLiterals c_outCounts c_patterns c_inputCount c_nodeCount c_patternCount) ++ (wS cI q_w w_forms w_reasons w_lessers w_greaters w_lineGates w_newNumbers w_rows w_gatesBy w_lineCount w_rowCount w_checkCount w_patternRows w_allRows)) [] 46 []) → ∀ (n : Nat) (l2 : Int32), wpO (C_verdictBy_19 K c_outLiterals c_outCounts w_forms n l2) post → V p l e (rmC 2 44) s m args below meth c D A 3 0 0 Q ((wC cI q_c c_firsts c_seconds c_truths c_levels c_outLiterals c_outCounts c_patterns c_inputCount c_nodeCount c_patternCount) ++ (wS cI q_w w_forms w_reasons w_lessers w_greaters w_lineGates w_newNumbers w_rows w_gatesBy w_lineCount w_rowCount w_checkCount w_patternRows w_allRows)) [(0, .ref (q_c 0)), (1, .ref (q_w 0)), (2, .int l2)] 19 [] := by
    intro K   hK n
    induction n with
    | zero => intro l2 h; rw [C_verdictBy_19] at h; exact (wp_n h).elim
    | succ n ih =>
      intro l2 h
      rw [C_verdictBy_19] at h
      refine V_iload_n (pc := 19) C 2 dX0_verdictBy_19 rfl rfl ?_
      refine V_aload_n (pc := 20) C 0 dX0_verdictBy_20 rfl rfl ?_
      refine V_get (pc := 21) C 0 5 inX0 wd_101 dX0_verdictBy_21 rfl rfl (by decide) rfl rfl ?_
      refine V_iconst (pc := 24) C dX0_verdictBy_24 ki_0 ?_
      obtain ⟨b1, h⟩ := wp_c h
      refine V_iald (pc := 25) C 6 dX0_verdictBy_25 rfl b1 ?_
      refine V_icmp_ge (pc := 26) (tgt := 46) C dX0_verdictBy_26 (by decide) (fun c2 => ?_) (fun c2 => ?_)
      · replace h := wp_t h c2
        refine V_lv (pc := 46) [] rfl ?_
        exact hK h
      · replace h := wp_f h c2
        refine V_aload_n (pc := 29) C 0 dX0_verdictBy_29 rfl rfl ?_
        refine V_aload_n (pc := 30) C 1 dX0_verdictBy_30 rfl rfl ?_
        refine V_iload_n (pc := 31) C 2 dX0_verdictBy_31 rfl rfl ?_
        refine V_callVi (pc := 32) (As := [.ref (q_w 0), .int l2]) (st := []) C (c_C_pairIsAlikeBy (wp_b h)) mk_X0_pairIsAlikeBy wd_458 dX0_verdictBy_32 0 rfl rfl rfl ⟨Nat.le_of_ble_eq_true rfl, Nat.le_of_ble_eq_true rfl⟩ (Nat.le_of_ble_eq_true rfl) rfl (fun r4 u hw => ?_)
        obtain ⟨h, z5⟩ := hw
        try dsimp only at h
        try dsimp only
        refine V_if_ne (pc := 35) (tgt := 40) C dX0_verdictBy_35 (by decide) (fun c6 => ?_) (fun c6 => ?_)
        · replace h := wp_f h c6
          obtain ⟨v7, ev7, h⟩ := wp_l h
          refine V_iinc (pc := 40) (v := v7) (lv' := [(0, .ref (q_c 0)), (1, .ref (q_w 0)), (2, .int v7)]) (j := 2) C dX0_verdictBy_40 rfl (by rw [ev7]; rfl) [1, 2, 0] (by decide) rfl ?_
          refine V_goto (pc := 43) (tgt := 19) C dX0_verdictBy_43 (by decide) ?_
          exact ih _ h
        · replace h := wp_t h c6
          refine V_iconst (pc := 38) C dX0_verdictBy_38 ki_0 ?_
          exact V_iret (pc := 39) C hQ () dX0_verdictBy_39 (vp_nar_int _) rfl (wp_s h)
  unfold C_verdictBy at h
  refine V_aload_n (pc := 0) C 0 dX0_verdictBy_0 rfl rfl ?_
  refine V_get (pc := 1) C 0 5 inX0 wd_101 dX0_verdictBy_1 rfl rfl (by decide) rfl rfl ?_
  refine V_iconst (pc := 4) C dX0_verdictBy_4 ki_0 ?_
  obtain ⟨b8, h⟩ := wp_c h
  refine V_iald (pc := 5) C 6 dX0_verdictBy_5 rfl b8 ?_
  refine V_aload_n (pc := 6) C 0 dX0_verdictBy_6 rfl rfl ?_
  refine V_get (pc := 7) C 0 5 inX0 wd_101 dX0_verdictBy_7 rfl rfl (by decide) rfl rfl ?_
  refine V_iconst (pc := 10) C dX0_verdictBy_10 ki_1 ?_
  obtain ⟨b9, h⟩ := wp_c h
  refine V_iald (pc := 11) C 6 dX0_verdictBy_11 rfl b9 ?_
  refine V_icmp_eq (pc := 12) (tgt := 17) C dX0_verdictBy_12 (by decide) (fun c10 => ?_) (fun c10 => ?_)
  · replace h := wp_t h c10
    refine V_iconst (pc := 17) C dX0_verdictBy_17 ki_0 ?_
    refine V_istore_n (pc := 18) (lv' := [(0, .ref (q_c 0)), (1, .ref (q_w 0)), (2, .int 0)]) C dX0_verdictBy_18 rfl [1, 2, 0] (by decide) rfl ?_
    refine hL_19 _ (fun h => ?_) 1000 _ h
    try dsimp only at h
    refine V_iconst (pc := 46) C dX0_verdictBy_46 ki_1 ?_
    exact V_iret (pc := 47) C hQ () dX0_verdictBy_47 (vp_nar_int _) rfl (wp_s h)
  · replace h := wp_f h c10
    refine V_iconst (pc := 15) C dX0_verdictBy_15 ki_m1 ?_
    exact V_iret (pc := 16) C hQ () dX0_verdictBy_16 (vp_nar_int _) rfl (wp_s h)
set_option maxRecDepth 100000 in
set_option maxHeartbeats 4000000 in
theorem c_C_countOf {l : Launch} {D : va_G} {cI cC : ClassId} {q_c : Nat → Nat} {c_firsts : Nat → Int32} {c_seconds : Nat → Int32} {c_truths : Nat → Int32} {c_levels : Nat → Int32} {c_outLiterals : Nat → Int32} {c_outCounts : Nat → Int32} {c_patterns : Nat → Int32} {c_inputCount : Int32} {c_nodeCount : Int32} {c_patternCount : Int32} {a0 : Int32} {post : Int32 → Prop} (h : wpO (C_countOf c_outCounts c_inputCount c_nodeCount c_patternCount a0) post) : Cn l yX0_countOf cX0_countOf 2 (some .int) 0 0 D cI cC [.ref (q_c 0), .int a0] (wC cI q_c c_firsts c_seconds c_truths c_levels c_outLiterals c_outCounts c_patterns c_inputCount c_nodeCount c_patternCount) (QI D cI cC (S := Unit) (fun u => (wC cI q_c c_firsts c_seconds c_truths c_levels c_outLiterals c_outCounts c_patterns c_inputCount c_nodeCount c_patternCount)) (fun r u => post r)) := by
  refine Cn.ofV (own := RX0) (lv0 := [(0, .ref (q_c 0)), (1, .int a0)]) rfl (by decide) (Nat.le_of_ble_eq_true rfl) rfl ?_
  intro p e s m below meth c A args Q hQ C
  unfold C_countOf at h
  refine V_iload_n (pc := 0) C 1 dX0_countOf_0 rfl rfl ?_
  by_cases c1 : a0 = 0
  · replace h := wp_t h c1
    refine V_topi (pc := 1) (y := 0) c1.symm ?_
    refine V_tableIn (pc := 1) (tgt := 32) C dX0_countOf_1 (by decide) (by decide) rfl (by decide) ?_
    refine V_aload_n (pc := 32) C 0 dX0_countOf_32 rfl rfl ?_
    refine V_get (pc := 33) C 0 7 inX0 wd_105 dX0_countOf_33 rfl rfl (by decide) rfl rfl ?_
    exact V_iret (pc := 36) C hQ () dX0_countOf_36 (vp_nar_int _) rfl (wp_s h)
  · replace h := wp_f h c1
    by_cases c2 : a0 = 1
    · replace h := wp_t h c2
      refine V_topi (pc := 1) (y := 1) c2.symm ?_
      refine V_tableIn (pc := 1) (tgt := 37) C dX0_countOf_1 (by decide) (by decide) rfl (by decide) ?_
      refine V_aload_n (pc := 37) C 0 dX0_countOf_37 rfl rfl ?_
      refine V_get (pc := 38) C 0 8 inX0 wd_107 dX0_countOf_38 rfl rfl (by decide) rfl rfl ?_
      exact V_iret (pc := 41) C hQ () dX0_countOf_41 (vp_nar_int _) rfl (wp_s h)
    · replace h := wp_f h c2
      by_cases c3 : a0 = 2
      · replace h := wp_t h c3
        refine V_topi (pc := 1) (y := 2) c3.symm ?_
        refine V_tableIn (pc := 1) (tgt := 42) C dX0_countOf_1 (by decide) (by decide) rfl (by decide) ?_
        refine V_aload_n (pc := 42) C 0 dX0_countOf_42 rfl rfl ?_
        refine V_get (pc := 43) C 0 5 inX0 wd_101 dX0_countOf_43 rfl rfl (by decide) rfl rfl ?_
        refine V_iconst (pc := 46) C dX0_countOf_46 ki_0 ?_
        obtain ⟨b4, h⟩ := wp_c h
        refine V_iald (pc := 47) C 6 dX0_countOf_47 rfl b4 ?_
        exact V_iret (pc := 48) C hQ () dX0_countOf_48 (vp_nar_int _) rfl (wp_s h)
      · replace h := wp_f h c3
        by_cases c5 : a0 = 3
        · replace h := wp_t h c5
          refine V_topi (pc := 1) (y := 3) c5.symm ?_
          refine V_tableIn (pc := 1) (tgt := 49) C dX0_countOf_1 (by decide) (by decide) rfl (by decide) ?_
          refine V_aload_n (pc := 49) C 0 dX0_countOf_49 rfl rfl ?_
          refine V_get (pc := 50) C 0 5 inX0 wd_101 dX0_countOf_50 rfl rfl (by decide) rfl rfl ?_
          refine V_iconst (pc := 53) C dX0_countOf_53 ki_1 ?_
          obtain ⟨b6, h⟩ := wp_c h
          refine V_iald (pc := 54) C 6 dX0_countOf_54 rfl b6 ?_
          exact V_iret (pc := 55) C hQ () dX0_countOf_55 (vp_nar_int _) rfl (wp_s h)
        · replace h := wp_f h c5
          refine V_tableOut (pc := 1) (tgt := 56) C dX0_countOf_1 (by have nc1 := sw_ne c1 (z := 0) (by decide); have nc2 := sw_ne c2 (z := 1) (by decide); have nc3 := sw_ne c3 (z := 2) (by decide); have nc5 := sw_ne c5 (z := 3) (by decide); omega) (by decide) ?_
          refine V_aload_n (pc := 56) C 0 dX0_countOf_56 rfl rfl ?_
          refine V_get (pc := 57) C 0 9 inX0 wd_110 dX0_countOf_57 rfl rfl (by decide) rfl rfl ?_
          exact V_iret (pc := 60) C hQ () dX0_countOf_60 (vp_nar_int _) rfl (wp_s h)
set_option maxRecDepth 100000 in
set_option maxHeartbeats 4000000 in
theorem c_C_signOf {l : Launch} {D : va_G} {cI cC : ClassId} {q_c : Nat → Nat} {c_firsts : Nat → Int32} {c_seconds : Nat → Int32} {c_truths : Nat → Int32} {c_levels : Nat → Int32} {c_outLiterals : Nat → Int32} {c_outCounts : Nat → Int32} {c_patterns : Nat → Int32} {c_inputCount : Int32} {c_nodeCount : Int32} {c_patternCount : Int32} {a0 : Int32} {post : Int32 → Prop} (h : wpO (C_signOf c_truths c_patterns c_patternCount a0) post) : Cn l yX0_signOf cX0_signOf 4 (some .int) 0 0 D cI cC [.ref (q_c 0), .int a0] (wC cI q_c c_firsts c_seconds c_truths c_levels c_outLiterals c_outCounts c_patterns c_inputCount c_nodeCount c_patternCount) (QI D cI cC (S := Unit) (fun u => (wC cI q_c c_firsts c_seconds c_truths c_levels c_outLiterals c_outCounts c_patterns c_inputCount c_nodeCount c_patternCount)) (fun r u => post r)) := by
  refine Cn.ofV (own := RX0) (lv0 := [(0, .ref (q_c 0)), (1, .int a0)]) rfl (by decide) (Nat.le_of_ble_eq_true rfl) rfl ?_
  intro p e s m below meth c A args Q hQ C
  have hL_4 : ∀ (K : Int32 → Option (Int32)) (l1 : Int32), (∀ (l2 : Int32), wpO (K l2) post → V p l e (rmC 0 0) s m args below meth c D A 4 0 0 Q (wC cI q_c c_firsts c_seconds c_truths c_levels c_outLiterals c_outCounts c_patterns c_inputCount c_nodeCount c_patternCount) [(2, .int l2)] 38 []) → ∀ (n : Nat) (l2 : Int32) (l3 : Int32), wpO (C_signOf_4 K c_truths c_patterns c_patternCount l1 n l2 l3) post → V p l e (rmC 0 0) s m args below meth c D A 4 0 0 Q (wC cI q_c c_firsts c_seconds c_truths c_levels c_outLiterals c_outCounts c_patterns c_inputCount c_nodeCount c_patternCount) [(0, .ref (q_c 0)), (1, .int l1), (2, .int l2), (3, .int l3)] 4 [] := by
    intro K  l1 hK n
    induction n with
    | zero => intro l2 l3 h; rw [C_signOf_4] at h; exact (wp_n h).elim
    | succ n ih =>
      intro l2 l3 h
      rw [C_signOf_4] at h
      refine V_iload_n (pc := 4) C 3 dX0_signOf_4 rfl rfl ?_
      refine V_aload_n (pc := 5) C 0 dX0_signOf_5 rfl rfl ?_
      refine V_get (pc := 6) C 0 9 inX0 wd_110 dX0_signOf_6 rfl rfl (by decide) rfl rfl ?_
      refine V_icmp_ge (pc := 9) (tgt := 38) C dX0_signOf_9 (by decide) (fun c1 => ?_) (fun c1 => ?_)
      · replace h := wp_t h c1
        refine V_lv (pc := 38) [2] rfl ?_
        exact hK _ h
      · replace h := wp_f h c1
        refine V_iload_n (pc := 12) C 2 dX0_signOf_12 rfl rfl ?_
        refine V_aload_n (pc := 13) C 0 dX0_signOf_13 rfl rfl ?_
        refine V_get (pc := 14) C 0 2 inX0 wd_97 dX0_signOf_14 rfl rfl (by decide) rfl rfl ?_
        refine V_iload_n (pc := 17) C 1 dX0_signOf_17 rfl rfl ?_
        obtain ⟨b2, h⟩ := wp_c h
        refine V_iald (pc := 18) C 3 dX0_signOf_18 rfl b2 ?_
        refine V_aload_n (pc := 19) C 0 dX0_signOf_19 rfl rfl ?_
        refine V_get (pc := 20) C 0 6 inX0 wd_103 dX0_signOf_20 rfl rfl (by decide) rfl rfl ?_
        refine V_iload_n (pc := 23) C 3 dX0_signOf_23 rfl rfl ?_
        obtain ⟨b3, h⟩ := wp_c h
        refine V_iald (pc := 24) C 7 dX0_signOf_24 rfl b3 ?_
        refine V_iushr (pc := 25) C dX0_signOf_25 ?_
        refine V_iconst (pc := 26) C dX0_signOf_26 ki_1 ?_
        refine V_iand (pc := 27) C dX0_signOf_27 ?_
        refine V_iload_n (pc := 28) C 3 dX0_signOf_28 rfl rfl ?_
        refine V_ishl (pc := 29) C dX0_signOf_29 ?_
        refine V_ior (pc := 30) C dX0_signOf_30 ?_
        obtain ⟨v4, ev4, h⟩ := wp_l h
        refine V_topi (pc := 31) ev4 ?_
        refine V_istore_n (pc := 31) (lv' := [(0, .ref (q_c 0)), (1, .int l1), (2, .int v4), (3, .int l3)]) C dX0_signOf_31 rfl [1, 2, 0, 3] (by decide) rfl ?_
        obtain ⟨v5, ev5, h⟩ := wp_l h
        refine V_iinc (pc := 32) (v := v5) (lv' := [(0, .ref (q_c 0)), (1, .int l1), (2, .int v4), (3, .int v5)]) (j := 3) C dX0_signOf_32 rfl (by rw [ev5]; rfl) [1, 2, 3, 0] (by decide) rfl ?_
        refine V_goto (pc := 35) (tgt := 4) C dX0_signOf_35 (by decide) ?_
        exact ih _ _ h
  unfold C_signOf at h
  refine V_iconst (pc := 0) C dX0_signOf_0 ki_0 ?_
  refine V_istore_n (pc := 1) (lv' := [(0, .ref (q_c 0)), (1, .int a0), (2, .int 0)]) C dX0_signOf_1 rfl [1, 2, 0] (by decide) rfl ?_
  refine V_iconst (pc := 2) C dX0_signOf_2 ki_0 ?_
  refine V_istore_n (pc := 3) (lv' := [(0, .ref (q_c 0)), (1, .int a0), (2, .int 0), (3, .int 0)]) C dX0_signOf_3 rfl [1, 2, 3, 0] (by decide) rfl ?_
  refine hL_4 _ _ (fun l2_6 h => ?_) 1000 _ _ h
  try dsimp only at h
  refine V_iload_n (pc := 38) C 0 dX0_signOf_38 rfl rfl ?_
  exact V_iret (pc := 39) C hQ () dX0_signOf_39 (vp_nar_int _) rfl (wp_s h)
set_option maxRecDepth 100000 in
set_option maxHeartbeats 4000000 in
theorem c_C_gatesBehind {l : Launch} {D : va_G} {cI cC : ClassId} {q_c : Nat → Nat} {c_firsts : Nat → Int32} {c_seconds : Nat → Int32} {c_truths : Nat → Int32} {c_levels : Nat → Int32} {c_outLiterals : Nat → Int32} {c_outCounts : Nat → Int32} {c_patterns : Nat → Int32} {c_inputCount : Int32} {c_nodeCount : Int32} {c_patternCount : Int32} {a0 : Int32} {post : Int32 → Prop} (h : wpO (C_gatesBehind c_firsts c_seconds c_inputCount a0) post) : Cn l yX0_gatesBehind cX0_gatesBehind 6 (some .int) 0 0 D cI cC [.ref (q_c 0), .int a0] (wC cI q_c c_firsts c_seconds c_truths c_levels c_outLiterals c_outCounts c_patterns c_inputCount c_nodeCount c_patternCount) (QI D cI cC (S := Unit) (fun u => (wC cI q_c c_firsts c_seconds c_truths c_levels c_outLiterals c_outCounts c_patterns c_inputCount c_nodeCount c_patternCount)) (fun r u => post r)) := by
  refine Cn.ofV (own := RX0) (lv0 := [(0, .ref (q_c 0)), (1, .int a0)]) rfl (by decide) (Nat.le_of_ble_eq_true rfl) rfl ?_
  intro p e s m below meth c A args Q hQ C
  have hL_14 : ∀ (K : Int32 → Option (Int32)), (∀ (l4 : Int32), wpO (K l4) post → V p l e (rmC 0 0) s m args below meth c D A 6 0 0 Q (wC cI q_c c_firsts c_seconds c_truths c_levels c_outLiterals c_outCounts c_patterns c_inputCount c_nodeCount c_patternCount) [(4, .int l4)] 69 []) → ∀ (n : Nat) (l2 : Int64) (l4 : Int32) (l5 : Int32), wpO (C_gatesBehind_14 K c_firsts c_seconds c_inputCount n l2 l4 l5) post → V p l e (rmC 0 0) s m args below meth c D A 6 0 0 Q (wC cI q_c c_firsts c_seconds c_truths c_levels c_outLiterals c_outCounts c_patterns c_inputCount c_nodeCount c_patternCount) [(0, .ref (q_c 0)), (2, .long l2), (4, .int l4), (5, .int l5)] 14 [] := by
    intro K   hK n
    induction n with
    | zero => intro l2 l4 l5 h; rw [C_gatesBehind_14] at h; exact (wp_n h).elim
    | succ n ih =>
      intro l2 l4 l5 h
      rw [C_gatesBehind_14] at h
      refine V_iload (pc := 14) C 3 dX0_gatesBehind_14 rfl ?_
      refine V_aload_n (pc := 16) C 0 dX0_gatesBehind_16 rfl rfl ?_
      refine V_get (pc := 17) C 0 7 inX0 wd_105 dX0_gatesBehind_17 rfl rfl (by decide) rfl rfl ?_
      refine V_icmp_le (pc := 20) (tgt := 69) C dX0_gatesBehind_20 (by decide) (fun c1 => ?_) (fun c1 => ?_)
      · replace h := wp_t h c1
        refine V_lv (pc := 69) [2] rfl ?_
        exact hK _ h
      · replace h := wp_f h c1
        refine V_lload_n (pc := 23) C 1 dX0_gatesBehind_23 rfl rfl ?_
        refine V_iload (pc := 24) C 3 dX0_gatesBehind_24 rfl ?_
        refine V_lushr (pc := 26) C dX0_gatesBehind_26 ?_
        refine V_lconst (pc := 27) (v := 1) C dX0_gatesBehind_27 rfl ?_
        refine V_land (pc := 28) C dX0_gatesBehind_28 ?_
        refine V_lconst (pc := 29) (v := 1) C dX0_gatesBehind_29 rfl ?_
        refine V_lcmp (pc := 30) C dX0_gatesBehind_30 ?_
        refine V_if_ne (pc := 31) (tgt := 63) C dX0_gatesBehind_31 (by decide) (fun c2 => ?_) (fun c2 => ?_)
        · replace h := wp_f h c2
          obtain ⟨v3, ev3, h⟩ := wp_l h
          refine V_iinc (pc := 63) (v := v3) (lv' := [(0, .ref (q_c 0)), (2, .long l2), (4, .int l4), (5, .int v3)]) (j := 3) C dX0_gatesBehind_63 rfl (by rw [ev3]; rfl) [1, 2, 3, 0] (by decide) rfl ?_
          refine V_goto (pc := 66) (tgt := 14) C dX0_gatesBehind_66 (by decide) ?_
          exact ih _ _ _ h
        · replace h := wp_t h c2
          obtain ⟨v4, ev4, h⟩ := wp_l h
          refine V_iinc (pc := 34) (v := v4) (lv' := [(0, .ref (q_c 0)), (2, .long l2), (4, .int v4), (5, .int l5)]) (j := 2) C dX0_gatesBehind_34 rfl (by rw [ev4]; rfl) [1, 2, 0, 3] (by decide) rfl ?_
          refine V_lload_n (pc := 37) C 1 dX0_gatesBehind_37 rfl rfl ?_
          refine V_lconst (pc := 38) (v := 1) C dX0_gatesBehind_38 rfl ?_
          refine V_aload_n (pc := 39) C 0 dX0_gatesBehind_39 rfl rfl ?_
          refine V_get (pc := 40) C 0 0 inX0 wd_91 dX0_gatesBehind_40 rfl rfl (by decide) rfl rfl ?_
          refine V_iload (pc := 43) C 3 dX0_gatesBehind_43 rfl ?_
          obtain ⟨b5, h⟩ := wp_c h
          refine V_iald (pc := 45) C 1 dX0_gatesBehind_45 rfl b5 ?_
          refine V_iconst (pc := 46) C dX0_gatesBehind_46 ki_1 ?_
          refine V_ishr (pc := 47) C dX0_gatesBehind_47 ?_
          refine V_lshl (pc := 48) C dX0_gatesBehind_48 ?_
          refine V_lconst (pc := 49) (v := 1) C dX0_gatesBehind_49 rfl ?_
          refine V_aload_n (pc := 50) C 0 dX0_gatesBehind_50 rfl rfl ?_
          refine V_get (pc := 51) C 0 1 inX0 wd_94 dX0_gatesBehind_51 rfl rfl (by decide) rfl rfl ?_
          refine V_iload (pc := 54) C 3 dX0_gatesBehind_54 rfl ?_
          obtain ⟨b6, h⟩ := wp_c h
          refine V_iald (pc := 56) C 2 dX0_gatesBehind_56 rfl b6 ?_
          refine V_iconst (pc := 57) C dX0_gatesBehind_57 ki_1 ?_
          refine V_ishr (pc := 58) C dX0_gatesBehind_58 ?_
          refine V_lshl (pc := 59) C dX0_gatesBehind_59 ?_
          refine V_lor (pc := 60) C dX0_gatesBehind_60 ?_
          refine V_lor (pc := 61) C dX0_gatesBehind_61 ?_
          obtain ⟨v7, ev7, h⟩ := wp_l h
          refine V_topl (pc := 62) ev7 ?_
          refine V_lstore_n (pc := 62) (lv' := [(0, .ref (q_c 0)), (2, .long v7), (4, .int v4), (5, .int l5)]) C dX0_gatesBehind_62 rfl [1, 0, 2, 3] (by decide) rfl ?_
          obtain ⟨v8, ev8, h⟩ := wp_l h
          refine V_iinc (pc := 63) (v := v8) (lv' := [(0, .ref (q_c 0)), (2, .long v7), (4, .int v4), (5, .int v8)]) (j := 3) C dX0_gatesBehind_63 rfl (by rw [ev8]; rfl) [1, 2, 3, 0] (by decide) rfl ?_
          refine V_goto (pc := 66) (tgt := 14) C dX0_gatesBehind_66 (by decide) ?_
          exact ih _ _ _ h
  unfold C_gatesBehind at h
  refine V_lconst (pc := 0) (v := 1) C dX0_gatesBehind_0 rfl ?_
  refine V_iload_n (pc := 1) C 1 dX0_gatesBehind_1 rfl rfl ?_
  refine V_iconst (pc := 2) C dX0_gatesBehind_2 ki_1 ?_
  refine V_ishr (pc := 3) C dX0_gatesBehind_3 ?_
  refine V_lshl (pc := 4) C dX0_gatesBehind_4 ?_
  obtain ⟨v9, ev9, h⟩ := wp_l h
  refine V_topl (pc := 5) ev9 ?_
  refine V_lstore_n (pc := 5) (lv' := [(0, .ref (q_c 0)), (1, .int a0), (2, .long v9)]) C dX0_gatesBehind_5 rfl [1, 2, 0] (by decide) rfl ?_
  refine V_iconst (pc := 6) C dX0_gatesBehind_6 ki_0 ?_
  refine V_istore (pc := 7) (lv' := [(0, .ref (q_c 0)), (1, .int a0), (2, .long v9), (4, .int 0)]) C dX0_gatesBehind_7 [1, 2, 3, 0] (by decide) rfl ?_
  refine V_iload_n (pc := 9) C 1 dX0_gatesBehind_9 rfl rfl ?_
  refine V_iconst (pc := 10) C dX0_gatesBehind_10 ki_1 ?_
  refine V_ishr (pc := 11) C dX0_gatesBehind_11 ?_
  obtain ⟨v10, ev10, h⟩ := wp_l h
  refine V_topi (pc := 12) ev10 ?_
  refine V_istore (pc := 12) (lv' := [(0, .ref (q_c 0)), (1, .int a0), (2, .long v9), (4, .int 0), (5, .int v10)]) C dX0_gatesBehind_12 [1, 2, 3, 4, 0] (by decide) rfl ?_
  refine V_lv (pc := 14) [0, 2, 3, 4] rfl ?_
  refine hL_14 _ (fun l4_11 h => ?_) 1000 _ _ _ h
  try dsimp only at h
  refine V_iload (pc := 69) C 0 dX0_gatesBehind_69 rfl ?_
  exact V_iret (pc := 71) C hQ () dX0_gatesBehind_71 (vp_nar_int _) rfl (wp_s h)
set_option maxRecDepth 100000 in
set_option maxHeartbeats 4000000 in
theorem c_C_roomFor {l : Launch} {D : va_G} {cI cC : ClassId} {q_c : Nat → Nat} {c_firsts : Nat → Int32} {c_seconds : Nat → Int32} {c_truths : Nat → Int32} {c_levels : Nat → Int32} {c_outLiterals : Nat → Int32} {c_outCounts : Nat → Int32} {c_patterns : Nat → Int32} {c_inputCount : Int32} {c_nodeCount : Int32} {c_patternCount : Int32} {a0 : Int32} {post : Int32 → Prop} (h : wpO (C_roomFor c_nodeCount a0) post) : Cn l yX0_roomFor cX0_roomFor 2 (some .int) 0 0 D cI cC [.ref (q_c 0), .int a0] (wC cI q_c c_firsts c_seconds c_truths c_levels c_outLiterals c_outCounts c_patterns c_inputCount c_nodeCount c_patternCount) (QI D cI cC (S := Unit) (fun u => (wC cI q_c c_firsts c_seconds c_truths c_levels c_outLiterals c_outCounts c_patterns c_inputCount c_nodeCount c_patternCount)) (fun r u => post r)) := by
  refine Cn.ofV (own := RX0) (lv0 := [(0, .ref (q_c 0)), (1, .int a0)]) rfl (by decide) (Nat.le_of_ble_eq_true rfl) rfl ?_
  intro p e s m below meth c A args Q hQ C
  unfold C_roomFor at h
  refine V_aload_n (pc := 0) C 0 dX0_roomFor_0 rfl rfl ?_
  refine V_get (pc := 1) C 0 8 inX0 wd_107 dX0_roomFor_1 rfl rfl (by decide) rfl rfl ?_
  refine V_iload_n (pc := 4) C 1 dX0_roomFor_4 rfl rfl ?_
  refine V_iadd (pc := 5) C dX0_roomFor_5 ?_
  refine V_bipush (pc := 6) C dX0_roomFor_6 kb_48 ?_
  refine V_icmp_gt (pc := 8) (tgt := 15) C dX0_roomFor_8 (by decide) (fun c1 => ?_) (fun c1 => ?_)
  · replace h := wp_t h c1
    refine V_bipush (pc := 15) C dX0_roomFor_15 kb_m4 ?_
    exact V_iret (pc := 17) C hQ () dX0_roomFor_17 (vp_nar_int _) rfl (wp_s h)
  · replace h := wp_f h c1
    refine V_iconst (pc := 11) C dX0_roomFor_11 ki_0 ?_
    refine V_goto (pc := 12) (tgt := 17) C dX0_roomFor_12 (by decide) ?_
    exact V_iret (pc := 17) C hQ () dX0_roomFor_17 (vp_nar_int _) rfl (wp_s h)
set_option maxRecDepth 100000 in
set_option maxHeartbeats 4000000 in
theorem c_C_refusalOf {l : Launch} {D : va_G} {cI cC : ClassId} {q_c : Nat → Nat} {c_firsts : Nat → Int32} {c_seconds : Nat → Int32} {c_truths : Nat → Int32} {c_levels : Nat → Int32} {c_outLiterals : Nat → Int32} {c_outCounts : Nat → Int32} {c_patterns : Nat → Int32} {c_inputCount : Int32} {c_nodeCount : Int32} {c_patternCount : Int32} {a0 : Int32} {a1 : Int32} {a2 : Int32} {a3 : Int32} {post : Int32 → Prop} (h : wpO (C_refusalOf c_outCounts c_inputCount c_nodeCount c_patternCount a0 a1 a2 a3) post) : Cn l yX0_refusalOf cX0_refusalOf 5 (some .int) 1 21 D cI cC [.ref (q_c 0), .int a0, .int a1, .int a2, .int a3] (wC cI q_c c_firsts c_seconds c_truths c_levels c_outLiterals c_outCounts c_patterns c_inputCount c_nodeCount c_patternCount) (QI D cI cC (S := Unit) (fun u => (wC cI q_c c_firsts c_seconds c_truths c_levels c_outLiterals c_outCounts c_patterns c_inputCount c_nodeCount c_patternCount)) (fun r u => post r)) := by
  refine Cn.ofV (own := RX0) (lv0 := [(0, .ref (q_c 0)), (1, .int a0), (2, .int a1), (3, .int a2), (4, .int a3)]) rfl (by decide) (Nat.le_of_ble_eq_true rfl) rfl ?_
  intro p e s m below meth c A args Q hQ C
  unfold C_refusalOf at h
  refine V_iload_n (pc := 0) C 1 dX0_refusalOf_0 rfl rfl ?_
  by_cases c1 : a0 = 0
  · replace h := wp_t h c1
    refine V_topi (pc := 1) (y := 0) c1.symm ?_
    refine V_tableIn (pc := 1) (tgt := 36) C dX0_refusalOf_1 (by decide) (by decide) rfl (by decide) ?_
    refine V_iload_n (pc := 36) C 2 dX0_refusalOf_36 rfl rfl ?_
    refine V_iconst (pc := 37) C dX0_refusalOf_37 ki_1 ?_
    refine V_icmp_lt (pc := 38) (tgt := 50) C dX0_refusalOf_38 (by decide) (fun c2 => ?_) (fun c2 => ?_)
    · replace h := wp_t h c2
      refine V_bipush (pc := 50) C dX0_refusalOf_50 kb_m2 ?_
      exact V_iret (pc := 52) C hQ () dX0_refusalOf_52 (vp_nar_int _) rfl (wp_s h)
    · replace h := wp_f h c2
      refine V_iload_n (pc := 41) C 2 dX0_refusalOf_41 rfl rfl ?_
      refine V_iconst (pc := 42) C dX0_refusalOf_42 ki_5 ?_
      refine V_icmp_gt (pc := 43) (tgt := 50) C dX0_refusalOf_43 (by decide) (fun c3 => ?_) (fun c3 => ?_)
      · replace h := wp_t h c3
        refine V_bipush (pc := 50) C dX0_refusalOf_50 kb_m2 ?_
        exact V_iret (pc := 52) C hQ () dX0_refusalOf_52 (vp_nar_int _) rfl (wp_s h)
      · replace h := wp_f h c3
        refine V_iconst (pc := 46) C dX0_refusalOf_46 ki_0 ?_
        refine V_goto (pc := 47) (tgt := 52) C dX0_refusalOf_47 (by decide) ?_
        exact V_iret (pc := 52) C hQ () dX0_refusalOf_52 (vp_nar_int _) rfl (wp_s h)
  · replace h := wp_f h c1
    by_cases c4 : a0 = 1
    · replace h := wp_t h c4
      refine V_topi (pc := 1) (y := 1) c4.symm ?_
      refine V_tableIn (pc := 1) (tgt := 53) C dX0_refusalOf_1 (by decide) (by decide) rfl (by decide) ?_
      refine V_aload_n (pc := 53) C 0 dX0_refusalOf_53 rfl rfl ?_
      refine V_iload_n (pc := 54) C 2 dX0_refusalOf_54 rfl rfl ?_
      refine V_callVi (pc := 55) (As := [.int a1]) (st := []) C (c_C_isLiteral (wp_b h)) mk_X0_isLiteral wd_186 dX0_refusalOf_55 0 rfl rfl rfl ⟨Nat.le_of_ble_eq_true rfl, Nat.le_of_ble_eq_true rfl⟩ (Nat.le_of_ble_eq_true rfl) rfl (fun r6 u hw => ?_)
      obtain ⟨h, z7⟩ := hw
      try dsimp only at h
      try dsimp only
      refine V_if_eq (pc := 58) (tgt := 77) C dX0_refusalOf_58 (by decide) (fun c8 => ?_) (fun c8 => ?_)
      · replace h := wp_t h c8
        refine V_bipush (pc := 77) C dX0_refusalOf_77 kb_m2 ?_
        exact V_iret (pc := 79) C hQ () dX0_refusalOf_79 (vp_nar_int _) rfl (wp_s h)
      · replace h := wp_f h c8
        refine V_aload_n (pc := 61) C 0 dX0_refusalOf_61 rfl rfl ?_
        refine V_iload_n (pc := 62) C 3 dX0_refusalOf_62 rfl rfl ?_
        refine V_callVi (pc := 63) (As := [.int a2]) (st := []) C (c_C_isLiteral (wp_b h)) mk_X0_isLiteral wd_186 dX0_refusalOf_63 0 rfl rfl rfl ⟨Nat.le_of_ble_eq_true rfl, Nat.le_of_ble_eq_true rfl⟩ (Nat.le_of_ble_eq_true rfl) rfl (fun r10 u hw => ?_)
        obtain ⟨h, z11⟩ := hw
        try dsimp only at h
        try dsimp only
        refine V_if_eq (pc := 66) (tgt := 77) C dX0_refusalOf_66 (by decide) (fun c12 => ?_) (fun c12 => ?_)
        · replace h := wp_t h c12
          refine V_bipush (pc := 77) C dX0_refusalOf_77 kb_m2 ?_
          exact V_iret (pc := 79) C hQ () dX0_refusalOf_79 (vp_nar_int _) rfl (wp_s h)
        · replace h := wp_f h c12
          refine V_aload_n (pc := 69) C 0 dX0_refusalOf_69 rfl rfl ?_
          refine V_iconst (pc := 70) C dX0_refusalOf_70 ki_1 ?_
          refine V_callVi (pc := 71) (As := [.int 1]) (st := []) C (c_C_roomFor (wp_b h)) mk_X0_roomFor wd_190 dX0_refusalOf_71 0 rfl rfl rfl ⟨Nat.le_of_ble_eq_true rfl, Nat.le_of_ble_eq_true rfl⟩ (Nat.le_of_ble_eq_true rfl) rfl (fun r14 u hw => ?_)
          have h := hw
          try dsimp only at h
          try dsimp only
          refine V_goto (pc := 74) (tgt := 79) C dX0_refusalOf_74 (by decide) ?_
          exact V_iret (pc := 79) C hQ () dX0_refusalOf_79 (vp_nar_int _) rfl (wp_s h)
    · replace h := wp_f h c4
      by_cases c15 : a0 = 2
      · replace h := wp_t h c15
        refine V_topi (pc := 1) (y := 2) c15.symm ?_
        refine V_tableIn (pc := 1) (tgt := 80) C dX0_refusalOf_1 (by decide) (by decide) rfl (by decide) ?_
        refine V_aload_n (pc := 80) C 0 dX0_refusalOf_80 rfl rfl ?_
        refine V_iload_n (pc := 81) C 2 dX0_refusalOf_81 rfl rfl ?_
        refine V_callVi (pc := 82) (As := [.int a1]) (st := []) C (c_C_isLiteral (wp_b h)) mk_X0_isLiteral wd_186 dX0_refusalOf_82 0 rfl rfl rfl ⟨Nat.le_of_ble_eq_true rfl, Nat.le_of_ble_eq_true rfl⟩ (Nat.le_of_ble_eq_true rfl) rfl (fun r17 u hw => ?_)
        obtain ⟨h, z18⟩ := hw
        try dsimp only at h
        try dsimp only
        refine V_if_eq (pc := 85) (tgt := 104) C dX0_refusalOf_85 (by decide) (fun c19 => ?_) (fun c19 => ?_)
        · replace h := wp_t h c19
          refine V_bipush (pc := 104) C dX0_refusalOf_104 kb_m2 ?_
          exact V_iret (pc := 106) C hQ () dX0_refusalOf_106 (vp_nar_int _) rfl (wp_s h)
        · replace h := wp_f h c19
          refine V_aload_n (pc := 88) C 0 dX0_refusalOf_88 rfl rfl ?_
          refine V_iload_n (pc := 89) C 3 dX0_refusalOf_89 rfl rfl ?_
          refine V_callVi (pc := 90) (As := [.int a2]) (st := []) C (c_C_isLiteral (wp_b h)) mk_X0_isLiteral wd_186 dX0_refusalOf_90 0 rfl rfl rfl ⟨Nat.le_of_ble_eq_true rfl, Nat.le_of_ble_eq_true rfl⟩ (Nat.le_of_ble_eq_true rfl) rfl (fun r21 u hw => ?_)
          obtain ⟨h, z22⟩ := hw
          try dsimp only at h
          try dsimp only
          refine V_if_eq (pc := 93) (tgt := 104) C dX0_refusalOf_93 (by decide) (fun c23 => ?_) (fun c23 => ?_)
          · replace h := wp_t h c23
            refine V_bipush (pc := 104) C dX0_refusalOf_104 kb_m2 ?_
            exact V_iret (pc := 106) C hQ () dX0_refusalOf_106 (vp_nar_int _) rfl (wp_s h)
          · replace h := wp_f h c23
            refine V_aload_n (pc := 96) C 0 dX0_refusalOf_96 rfl rfl ?_
            refine V_iconst (pc := 97) C dX0_refusalOf_97 ki_3 ?_
            refine V_callVi (pc := 98) (As := [.int 3]) (st := []) C (c_C_roomFor (wp_b h)) mk_X0_roomFor wd_190 dX0_refusalOf_98 0 rfl rfl rfl ⟨Nat.le_of_ble_eq_true rfl, Nat.le_of_ble_eq_true rfl⟩ (Nat.le_of_ble_eq_true rfl) rfl (fun r25 u hw => ?_)
            have h := hw
            try dsimp only at h
            try dsimp only
            refine V_goto (pc := 101) (tgt := 106) C dX0_refusalOf_101 (by decide) ?_
            exact V_iret (pc := 106) C hQ () dX0_refusalOf_106 (vp_nar_int _) rfl (wp_s h)
      · replace h := wp_f h c15
        by_cases c26 : a0 = 3
        · replace h := wp_t h c26
          refine V_topi (pc := 1) (y := 3) c26.symm ?_
          refine V_tableIn (pc := 1) (tgt := 107) C dX0_refusalOf_1 (by decide) (by decide) rfl (by decide) ?_
          refine V_aload_n (pc := 107) C 0 dX0_refusalOf_107 rfl rfl ?_
          refine V_iload_n (pc := 108) C 2 dX0_refusalOf_108 rfl rfl ?_
          refine V_callVi (pc := 109) (As := [.int a1]) (st := []) C (c_C_isLiteral (wp_b h)) mk_X0_isLiteral wd_186 dX0_refusalOf_109 0 rfl rfl rfl ⟨Nat.le_of_ble_eq_true rfl, Nat.le_of_ble_eq_true rfl⟩ (Nat.le_of_ble_eq_true rfl) rfl (fun r28 u hw => ?_)
          obtain ⟨h, z29⟩ := hw
          try dsimp only at h
          try dsimp only
          refine V_if_eq (pc := 112) (tgt := 140) C dX0_refusalOf_112 (by decide) (fun c30 => ?_) (fun c30 => ?_)
          · replace h := wp_t h c30
            refine V_bipush (pc := 140) C dX0_refusalOf_140 kb_m2 ?_
            exact V_iret (pc := 142) C hQ () dX0_refusalOf_142 (vp_nar_int _) rfl (wp_s h)
          · replace h := wp_f h c30
            refine V_aload_n (pc := 115) C 0 dX0_refusalOf_115 rfl rfl ?_
            refine V_iload_n (pc := 116) C 3 dX0_refusalOf_116 rfl rfl ?_
            refine V_callVi (pc := 117) (As := [.int a2]) (st := []) C (c_C_isLiteral (wp_b h)) mk_X0_isLiteral wd_186 dX0_refusalOf_117 0 rfl rfl rfl ⟨Nat.le_of_ble_eq_true rfl, Nat.le_of_ble_eq_true rfl⟩ (Nat.le_of_ble_eq_true rfl) rfl (fun r32 u hw => ?_)
            obtain ⟨h, z33⟩ := hw
            try dsimp only at h
            try dsimp only
            refine V_if_eq (pc := 120) (tgt := 140) C dX0_refusalOf_120 (by decide) (fun c34 => ?_) (fun c34 => ?_)
            · replace h := wp_t h c34
              refine V_bipush (pc := 140) C dX0_refusalOf_140 kb_m2 ?_
              exact V_iret (pc := 142) C hQ () dX0_refusalOf_142 (vp_nar_int _) rfl (wp_s h)
            · replace h := wp_f h c34
              refine V_aload_n (pc := 123) C 0 dX0_refusalOf_123 rfl rfl ?_
              refine V_iload (pc := 124) C 4 dX0_refusalOf_124 rfl ?_
              refine V_callVi (pc := 126) (As := [.int a3]) (st := []) C (c_C_isLiteral (wp_b h)) mk_X0_isLiteral wd_186 dX0_refusalOf_126 0 rfl rfl rfl ⟨Nat.le_of_ble_eq_true rfl, Nat.le_of_ble_eq_true rfl⟩ (Nat.le_of_ble_eq_true rfl) rfl (fun r36 u hw => ?_)
              obtain ⟨h, z37⟩ := hw
              try dsimp only at h
              try dsimp only
              refine V_if_eq (pc := 129) (tgt := 140) C dX0_refusalOf_129 (by decide) (fun c38 => ?_) (fun c38 => ?_)
              · replace h := wp_t h c38
                refine V_bipush (pc := 140) C dX0_refusalOf_140 kb_m2 ?_
                exact V_iret (pc := 142) C hQ () dX0_refusalOf_142 (vp_nar_int _) rfl (wp_s h)
              · replace h := wp_f h c38
                refine V_aload_n (pc := 132) C 0 dX0_refusalOf_132 rfl rfl ?_
                refine V_iconst (pc := 133) C dX0_refusalOf_133 ki_3 ?_
                refine V_callVi (pc := 134) (As := [.int 3]) (st := []) C (c_C_roomFor (wp_b h)) mk_X0_roomFor wd_190 dX0_refusalOf_134 0 rfl rfl rfl ⟨Nat.le_of_ble_eq_true rfl, Nat.le_of_ble_eq_true rfl⟩ (Nat.le_of_ble_eq_true rfl) rfl (fun r40 u hw => ?_)
                have h := hw
                try dsimp only at h
                try dsimp only
                refine V_goto (pc := 137) (tgt := 142) C dX0_refusalOf_137 (by decide) ?_
                exact V_iret (pc := 142) C hQ () dX0_refusalOf_142 (vp_nar_int _) rfl (wp_s h)
        · replace h := wp_f h c26
          by_cases c41 : a0 = 4
          · replace h := wp_t h c41
            refine V_topi (pc := 1) (y := 4) c41.symm ?_
            refine V_tableIn (pc := 1) (tgt := 143) C dX0_refusalOf_1 (by decide) (by decide) rfl (by decide) ?_
            refine V_aload_n (pc := 143) C 0 dX0_refusalOf_143 rfl rfl ?_
            refine V_iload_n (pc := 144) C 2 dX0_refusalOf_144 rfl rfl ?_
            refine V_callVi (pc := 145) (As := [.int a1]) (st := []) C (c_C_isSide (wp_b h)) mk_X0_isSide wd_194 dX0_refusalOf_145 0 rfl rfl rfl ⟨Nat.le_of_ble_eq_true rfl, Nat.le_of_ble_eq_true rfl⟩ (Nat.le_of_ble_eq_true rfl) rfl (fun r43 u hw => ?_)
            obtain ⟨h, z44⟩ := hw
            try dsimp only at h
            try dsimp only
            refine V_if_eq (pc := 148) (tgt := 159) C dX0_refusalOf_148 (by decide) (fun c45 => ?_) (fun c45 => ?_)
            · replace h := wp_t h c45
              refine V_bipush (pc := 159) C dX0_refusalOf_159 kb_m2 ?_
              exact V_iret (pc := 161) C hQ () dX0_refusalOf_161 (vp_nar_int _) rfl (wp_s h)
            · replace h := wp_f h c45
              refine V_aload_n (pc := 151) C 0 dX0_refusalOf_151 rfl rfl ?_
              refine V_iload_n (pc := 152) C 3 dX0_refusalOf_152 rfl rfl ?_
              refine V_callVi (pc := 153) (As := [.int a2]) (st := []) C (c_C_isLiteral (wp_b h)) mk_X0_isLiteral wd_186 dX0_refusalOf_153 0 rfl rfl rfl ⟨Nat.le_of_ble_eq_true rfl, Nat.le_of_ble_eq_true rfl⟩ (Nat.le_of_ble_eq_true rfl) rfl (fun r47 u hw => ?_)
              obtain ⟨h, z48⟩ := hw
              try dsimp only at h
              try dsimp only
              refine V_if_ne (pc := 156) (tgt := 162) C dX0_refusalOf_156 (by decide) (fun c49 => ?_) (fun c49 => ?_)
              · replace h := wp_f h c49
                refine V_aload_n (pc := 162) C 0 dX0_refusalOf_162 rfl rfl ?_
                refine V_get (pc := 163) C 0 5 inX0 wd_101 dX0_refusalOf_163 rfl rfl (by decide) rfl rfl ?_
                refine V_iload_n (pc := 166) C 2 dX0_refusalOf_166 rfl rfl ?_
                obtain ⟨b50, h⟩ := wp_c h
                refine V_iald (pc := 167) C 6 dX0_refusalOf_167 rfl b50 ?_
                refine V_bipush (pc := 168) C dX0_refusalOf_168 kb_6 ?_
                refine V_icmp_ge (pc := 170) (tgt := 177) C dX0_refusalOf_170 (by decide) (fun c51 => ?_) (fun c51 => ?_)
                · replace h := wp_t h c51
                  refine V_bipush (pc := 177) C dX0_refusalOf_177 kb_m4 ?_
                  exact V_iret (pc := 179) C hQ () dX0_refusalOf_179 (vp_nar_int _) rfl (wp_s h)
                · replace h := wp_f h c51
                  refine V_iconst (pc := 173) C dX0_refusalOf_173 ki_0 ?_
                  refine V_goto (pc := 174) (tgt := 179) C dX0_refusalOf_174 (by decide) ?_
                  exact V_iret (pc := 179) C hQ () dX0_refusalOf_179 (vp_nar_int _) rfl (wp_s h)
              · replace h := wp_t h c49
                refine V_bipush (pc := 159) C dX0_refusalOf_159 kb_m2 ?_
                exact V_iret (pc := 161) C hQ () dX0_refusalOf_161 (vp_nar_int _) rfl (wp_s h)
          · replace h := wp_f h c41
            refine V_tableOut (pc := 1) (tgt := 180) C dX0_refusalOf_1 (by have nc1 := sw_ne c1 (z := 0) (by decide); have nc4 := sw_ne c4 (z := 1) (by decide); have nc15 := sw_ne c15 (z := 2) (by decide); have nc26 := sw_ne c26 (z := 3) (by decide); have nc41 := sw_ne c41 (z := 4) (by decide); omega) (by decide) ?_
            refine V_aload_n (pc := 180) C 0 dX0_refusalOf_180 rfl rfl ?_
            refine V_iload_n (pc := 181) C 2 dX0_refusalOf_181 rfl rfl ?_
            refine V_callVi (pc := 182) (As := [.int a1]) (st := []) C (c_C_isRow (wp_b h)) mk_X0_isRow wd_198 dX0_refusalOf_182 0 rfl rfl rfl ⟨Nat.le_of_ble_eq_true rfl, Nat.le_of_ble_eq_true rfl⟩ (Nat.le_of_ble_eq_true rfl) rfl (fun r53 u hw => ?_)
            obtain ⟨h, z54⟩ := hw
            try dsimp only at h
            try dsimp only
            refine V_if_ne (pc := 185) (tgt := 191) C dX0_refusalOf_185 (by decide) (fun c55 => ?_) (fun c55 => ?_)
            · replace h := wp_f h c55
              refine V_aload_n (pc := 191) C 0 dX0_refusalOf_191 rfl rfl ?_
              refine V_get (pc := 192) C 0 9 inX0 wd_110 dX0_refusalOf_192 rfl rfl (by decide) rfl rfl ?_
              refine V_bipush (pc := 195) C dX0_refusalOf_195 kb_12 ?_
              refine V_icmp_ge (pc := 197) (tgt := 204) C dX0_refusalOf_197 (by decide) (fun c56 => ?_) (fun c56 => ?_)
              · replace h := wp_t h c56
                refine V_bipush (pc := 204) C dX0_refusalOf_204 kb_m4 ?_
                exact V_iret (pc := 206) C hQ () dX0_refusalOf_206 (vp_nar_int _) rfl (wp_s h)
              · replace h := wp_f h c56
                refine V_iconst (pc := 200) C dX0_refusalOf_200 ki_0 ?_
                refine V_goto (pc := 201) (tgt := 206) C dX0_refusalOf_201 (by decide) ?_
                exact V_iret (pc := 206) C hQ () dX0_refusalOf_206 (vp_nar_int _) rfl (wp_s h)
            · replace h := wp_t h c55
              refine V_bipush (pc := 188) C dX0_refusalOf_188 kb_m2 ?_
              exact V_iret (pc := 190) C hQ () dX0_refusalOf_190 (vp_nar_int _) rfl (wp_s h)
set_option maxRecDepth 100000 in
set_option maxHeartbeats 4000000 in
theorem c_C_changeInputs {l : Launch} {D : va_G} {cI cC : ClassId} {q_c : Nat → Nat} {c_firsts : Nat → Int32} {c_seconds : Nat → Int32} {c_truths : Nat → Int32} {c_levels : Nat → Int32} {c_outLiterals : Nat → Int32} {c_outCounts : Nat → Int32} {c_patterns : Nat → Int32} {c_inputCount : Int32} {c_nodeCount : Int32} {c_patternCount : Int32} {a0 : Int32} {post : Int32 × (Nat → Int32) × (Nat → Int32) × (Nat → Int32) × Int32 × Int32 × Int32 → Prop} (h : wpO (C_changeInputs c_truths c_levels c_outCounts c_inputCount c_nodeCount c_patternCount a0) post) : Cn l yX0_changeInputs cX0_changeInputs 3 (some .int) 2 42 D cI cC [.ref (q_c 0), .int a0] (wC cI q_c c_firsts c_seconds c_truths c_levels c_outLiterals c_outCounts c_patterns c_inputCount c_nodeCount c_patternCount) (QI D cI cC (S := (Nat → Int32) × (Nat → Int32) × (Nat → Int32) × Int32 × Int32 × Int32) (fun u => (wC cI q_c c_firsts c_seconds u.1 u.2.1 c_outLiterals u.2.2.1 c_patterns u.2.2.2.1 u.2.2.2.2.1 u.2.2.2.2.2)) (fun r u => post (r, u))) := by
  refine Cn.ofV (own := RX0) (lv0 := [(0, .ref (q_c 0)), (1, .int a0)]) rfl (by decide) (Nat.le_of_ble_eq_true rfl) rfl ?_
  intro p e s m below meth c A args Q hQ C
  unfold C_changeInputs at h
  refine V_aload_n (pc := 0) C 0 dX0_changeInputs_0 rfl rfl ?_
  refine V_get (pc := 1) C 0 7 inX0 wd_105 dX0_changeInputs_1 rfl rfl (by decide) rfl rfl ?_
  refine V_istore_n (pc := 4) (lv' := [(0, .ref (q_c 0)), (1, .int a0), (2, .int c_inputCount)]) C dX0_changeInputs_4 rfl [1, 2, 0] (by decide) rfl ?_
  refine V_aload_n (pc := 5) C 0 dX0_changeInputs_5 rfl rfl ?_
  refine V_iload_n (pc := 6) C 1 dX0_changeInputs_6 rfl rfl ?_
  refine V_callVv (pc := 7) (As := [.int a0]) (st := []) C (c_C_restart (wp_b h)) mk_X0_restart wd_83 dX0_changeInputs_7 0 rfl rfl rfl ⟨Nat.le_of_ble_eq_true rfl, Nat.le_of_ble_eq_true rfl⟩ (Nat.le_of_ble_eq_true rfl) rfl (fun u hw => ?_)
  obtain ⟨c_truths_3, c_levels_4, c_outCounts_5, c_inputCount_6, c_nodeCount_7, c_patternCount_8⟩ := u
  have h := hw
  try dsimp only at h
  try dsimp only
  refine V_iload_n (pc := 10) C 2 dX0_changeInputs_10 rfl rfl ?_
  exact V_iret (pc := 11) C hQ (c_truths_3, c_levels_4, c_outCounts_5, c_inputCount_6, c_nodeCount_7, c_patternCount_8) dX0_changeInputs_11 (vp_nar_int _) rfl (wp_s h)
set_option maxRecDepth 100000 in
set_option maxHeartbeats 4000000 in
theorem c_C_addGate {l : Launch} {D : va_G} {cI cC : ClassId} {q_c : Nat → Nat} {c_firsts : Nat → Int32} {c_seconds : Nat → Int32} {c_truths : Nat → Int32} {c_levels : Nat → Int32} {c_outLiterals : Nat → Int32} {c_outCounts : Nat → Int32} {c_patterns : Nat → Int32} {c_inputCount : Int32} {c_nodeCount : Int32} {c_patternCount : Int32} {a0 : Int32} {a1 : Int32} {post : Int32 × (Nat → Int32) × (Nat → Int32) × (Nat → Int32) × (Nat → Int32) × Int32 → Prop} (h : wpO (C_addGate c_firsts c_seconds c_truths c_levels c_inputCount c_nodeCount a0 a1) post) : Cn l yX0_addGate cX0_addGate 4 (some .int) 2 42 D cI cC [.ref (q_c 0), .int a0, .int a1] (wC cI q_c c_firsts c_seconds c_truths c_levels c_outLiterals c_outCounts c_patterns c_inputCount c_nodeCount c_patternCount) (QI D cI cC (S := (Nat → Int32) × (Nat → Int32) × (Nat → Int32) × (Nat → Int32) × Int32) (fun u => (wC cI q_c u.1 u.2.1 u.2.2.1 u.2.2.2.1 c_outLiterals c_outCounts c_patterns c_inputCount u.2.2.2.2 c_patternCount)) (fun r u => post (r, u))) := by
  refine Cn.ofV (own := RX0) (lv0 := [(0, .ref (q_c 0)), (1, .int a0), (2, .int a1)]) rfl (by decide) (Nat.le_of_ble_eq_true rfl) rfl ?_
  intro p e s m below meth c A args Q hQ C
  unfold C_addGate at h
  refine V_aload_n (pc := 0) C 0 dX0_addGate_0 rfl rfl ?_
  refine V_get (pc := 1) C 0 8 inX0 wd_107 dX0_addGate_1 rfl rfl (by decide) rfl rfl ?_
  refine V_istore_n (pc := 4) (lv' := [(0, .ref (q_c 0)), (1, .int a0), (2, .int a1), (3, .int c_nodeCount)]) C dX0_addGate_4 rfl [1, 2, 3, 0] (by decide) rfl ?_
  refine V_aload_n (pc := 5) C 0 dX0_addGate_5 rfl rfl ?_
  refine V_get (pc := 6) C 0 0 inX0 wd_91 dX0_addGate_6 rfl rfl (by decide) rfl rfl ?_
  refine V_iload_n (pc := 9) C 3 dX0_addGate_9 rfl rfl ?_
  refine V_iload_n (pc := 10) C 1 dX0_addGate_10 rfl rfl ?_
  obtain ⟨b1, h⟩ := wp_c h
  obtain ⟨c_firsts_2, ec_firsts_2, h⟩ := wp_l h
  refine V_iast (pc := 11) (ws' := (wC cI q_c c_firsts_2 c_seconds c_truths c_levels c_outLiterals c_outCounts c_patterns c_inputCount c_nodeCount c_patternCount)) C 1 dX0_addGate_11 rfl b1 ec_firsts_2 rfl ?_
  refine V_aload_n (pc := 12) C 0 dX0_addGate_12 rfl rfl ?_
  refine V_get (pc := 13) C 0 1 inX0 wd_94 dX0_addGate_13 rfl rfl (by decide) rfl rfl ?_
  refine V_iload_n (pc := 16) C 3 dX0_addGate_16 rfl rfl ?_
  refine V_iload_n (pc := 17) C 2 dX0_addGate_17 rfl rfl ?_
  obtain ⟨b3, h⟩ := wp_c h
  obtain ⟨c_seconds_4, ec_seconds_4, h⟩ := wp_l h
  refine V_iast (pc := 18) (ws' := (wC cI q_c c_firsts_2 c_seconds_4 c_truths c_levels c_outLiterals c_outCounts c_patterns c_inputCount c_nodeCount c_patternCount)) C 2 dX0_addGate_18 rfl b3 ec_seconds_4 rfl ?_
  refine V_aload_n (pc := 19) C 0 dX0_addGate_19 rfl rfl ?_
  refine V_get (pc := 20) C 0 2 inX0 wd_97 dX0_addGate_20 rfl rfl (by decide) rfl rfl ?_
  refine V_iload_n (pc := 23) C 3 dX0_addGate_23 rfl rfl ?_
  refine V_aload_n (pc := 24) C 0 dX0_addGate_24 rfl rfl ?_
  refine V_iload_n (pc := 25) C 1 dX0_addGate_25 rfl rfl ?_
  refine V_callVi (pc := 26) (As := [.int a0]) (st := [.int c_nodeCount, .ref (q_c 3)]) C (c_C_truthOf (wp_b h)) mk_X0_truthOf wd_231 dX0_addGate_26 0 rfl rfl rfl ⟨Nat.le_of_ble_eq_true rfl, Nat.le_of_ble_eq_true rfl⟩ (Nat.le_of_ble_eq_true rfl) rfl (fun r6 u hw => ?_)
  have h := hw
  try dsimp only at h
  try dsimp only
  refine V_aload_n (pc := 29) C 0 dX0_addGate_29 rfl rfl ?_
  refine V_iload_n (pc := 30) C 2 dX0_addGate_30 rfl rfl ?_
  refine V_callVi (pc := 31) (As := [.int a1]) (st := [.int r6, .int c_nodeCount, .ref (q_c 3)]) C (c_C_truthOf (wp_b h)) mk_X0_truthOf wd_231 dX0_addGate_31 0 rfl rfl rfl ⟨Nat.le_of_ble_eq_true rfl, Nat.le_of_ble_eq_true rfl⟩ (Nat.le_of_ble_eq_true rfl) rfl (fun r8 u hw => ?_)
  have h := hw
  try dsimp only at h
  try dsimp only
  refine V_iand (pc := 34) C dX0_addGate_34 ?_
  obtain ⟨b9, h⟩ := wp_c h
  obtain ⟨c_truths_10, ec_truths_10, h⟩ := wp_l h
  refine V_iast (pc := 35) (ws' := (wC cI q_c c_firsts_2 c_seconds_4 c_truths_10 c_levels c_outLiterals c_outCounts c_patterns c_inputCount c_nodeCount c_patternCount)) C 3 dX0_addGate_35 rfl b9 ec_truths_10 rfl ?_
  refine V_aload_n (pc := 36) C 0 dX0_addGate_36 rfl rfl ?_
  refine V_get (pc := 37) C 0 3 inX0 wd_99 dX0_addGate_37 rfl rfl (by decide) rfl rfl ?_
  refine V_iload_n (pc := 40) C 3 dX0_addGate_40 rfl rfl ?_
  refine V_iconst (pc := 41) C dX0_addGate_41 ki_1 ?_
  refine V_aload_n (pc := 42) C 0 dX0_addGate_42 rfl rfl ?_
  refine V_iload_n (pc := 43) C 1 dX0_addGate_43 rfl rfl ?_
  refine V_callVi (pc := 44) (As := [.int a0]) (st := [.int 1, .int c_nodeCount, .ref (q_c 4)]) C (c_C_levelOf (wp_b h)) mk_X0_levelOf wd_235 dX0_addGate_44 0 rfl rfl rfl ⟨Nat.le_of_ble_eq_true rfl, Nat.le_of_ble_eq_true rfl⟩ (Nat.le_of_ble_eq_true rfl) rfl (fun r12 u hw => ?_)
  have h := hw
  try dsimp only at h
  try dsimp only
  refine V_aload_n (pc := 47) C 0 dX0_addGate_47 rfl rfl ?_
  refine V_iload_n (pc := 48) C 2 dX0_addGate_48 rfl rfl ?_
  refine V_callVi (pc := 49) (As := [.int a1]) (st := [.int r12, .int 1, .int c_nodeCount, .ref (q_c 4)]) C (c_C_levelOf (wp_b h)) mk_X0_levelOf wd_235 dX0_addGate_49 0 rfl rfl rfl ⟨Nat.le_of_ble_eq_true rfl, Nat.le_of_ble_eq_true rfl⟩ (Nat.le_of_ble_eq_true rfl) rfl (fun r14 u hw => ?_)
  have h := hw
  try dsimp only at h
  try dsimp only
  refine V_mmax (pc := 52) C wd_239 dX0_addGate_52 (by decide) (Nat.le_of_ble_eq_true rfl) ?_
  refine V_iadd (pc := 55) C dX0_addGate_55 ?_
  obtain ⟨b15, h⟩ := wp_c h
  obtain ⟨c_levels_16, ec_levels_16, h⟩ := wp_l h
  refine V_iast (pc := 56) (ws' := (wC cI q_c c_firsts_2 c_seconds_4 c_truths_10 c_levels_16 c_outLiterals c_outCounts c_patterns c_inputCount c_nodeCount c_patternCount)) C 4 dX0_addGate_56 rfl b15 ec_levels_16 rfl ?_
  refine V_aload_n (pc := 57) C 0 dX0_addGate_57 rfl rfl ?_
  refine V_iload_n (pc := 58) C 3 dX0_addGate_58 rfl rfl ?_
  refine V_iconst (pc := 59) C dX0_addGate_59 ki_1 ?_
  refine V_iadd (pc := 60) C dX0_addGate_60 ?_
  obtain ⟨c_nodeCount_17, ec_nodeCount_17, h⟩ := wp_l h
  refine V_topi (pc := 61) ec_nodeCount_17 ?_
  refine V_put (pc := 61) (ws' := (wC cI q_c c_firsts_2 c_seconds_4 c_truths_10 c_levels_16 c_outLiterals c_outCounts c_patterns c_inputCount c_nodeCount_17 c_patternCount)) C 0 8 inX0 tyX0_ok nmX0 wd_107 dX0_addGate_61 rfl rfl (by decide) rfl rfl rfl rfl rfl (Nat.le_of_ble_eq_true rfl) rfl ?_
  refine V_iconst (pc := 64) C dX0_addGate_64 ki_2 ?_
  refine V_iload_n (pc := 65) C 3 dX0_addGate_65 rfl rfl ?_
  refine V_imul (pc := 66) C dX0_addGate_66 ?_
  exact V_iret (pc := 67) C hQ (c_firsts_2, c_seconds_4, c_truths_10, c_levels_16, c_nodeCount_17) dX0_addGate_67 (vp_nar_int _) rfl (wp_s h)
set_option maxRecDepth 100000 in
set_option maxHeartbeats 4000000 in
theorem c_C_addEither {l : Launch} {D : va_G} {cI cC : ClassId} {q_c : Nat → Nat} {c_firsts : Nat → Int32} {c_seconds : Nat → Int32} {c_truths : Nat → Int32} {c_levels : Nat → Int32} {c_outLiterals : Nat → Int32} {c_outCounts : Nat → Int32} {c_patterns : Nat → Int32} {c_inputCount : Int32} {c_nodeCount : Int32} {c_patternCount : Int32} {a0 : Int32} {a1 : Int32} {a2 : Int32} {a3 : Int32} {post : Int32 × (Nat → Int32) × (Nat → Int32) × (Nat → Int32) × (Nat → Int32) × Int32 → Prop} (h : wpO (C_addEither c_firsts c_seconds c_truths c_levels c_inputCount c_nodeCount a0 a1 a2 a3) post) : Cn l yX0_addEither cX0_addEither 7 (some .int) 3 65 D cI cC [.ref (q_c 0), .int a0, .int a1, .int a2, .int a3] (wC cI q_c c_firsts c_seconds c_truths c_levels c_outLiterals c_outCounts c_patterns c_inputCount c_nodeCount c_patternCount) (QI D cI cC (S := (Nat → Int32) × (Nat → Int32) × (Nat → Int32) × (Nat → Int32) × Int32) (fun u => (wC cI q_c u.1 u.2.1 u.2.2.1 u.2.2.2.1 c_outLiterals c_outCounts c_patterns c_inputCount u.2.2.2.2 c_patternCount)) (fun r u => post (r, u))) := by
  refine Cn.ofV (own := RX0) (lv0 := [(0, .ref (q_c 0)), (1, .int a0), (2, .int a1), (3, .int a2), (4, .int a3)]) rfl (by decide) (Nat.le_of_ble_eq_true rfl) rfl ?_
  intro p e s m below meth c A args Q hQ C
  unfold C_addEither at h
  refine V_aload_n (pc := 0) C 0 dX0_addEither_0 rfl rfl ?_
  refine V_iload_n (pc := 1) C 1 dX0_addEither_1 rfl rfl ?_
  refine V_iload_n (pc := 2) C 2 dX0_addEither_2 rfl rfl ?_
  refine V_callVi (pc := 3) (As := [.int a0, .int a1]) (st := []) C (c_C_addGate (wp_b h)) mk_X0_addGate wd_227 dX0_addEither_3 0 rfl rfl rfl ⟨Nat.le_of_ble_eq_true rfl, Nat.le_of_ble_eq_true rfl⟩ (Nat.le_of_ble_eq_true rfl) rfl (fun r2 u hw => ?_)
  obtain ⟨c_firsts_3, c_seconds_4, c_truths_5, c_levels_6, c_nodeCount_7⟩ := u
  have h := hw
  try dsimp only at h
  try dsimp only
  refine V_istore (pc := 6) (lv' := [(0, .ref (q_c 0)), (1, .int a0), (2, .int a1), (3, .int a2), (4, .int a3), (5, .int r2)]) C dX0_addEither_6 [1, 2, 3, 4, 5, 0] (by decide) rfl ?_
  refine V_aload_n (pc := 8) C 0 dX0_addEither_8 rfl rfl ?_
  refine V_iload_n (pc := 9) C 3 dX0_addEither_9 rfl rfl ?_
  refine V_iload (pc := 10) C 4 dX0_addEither_10 rfl ?_
  refine V_callVi (pc := 12) (As := [.int a2, .int a3]) (st := []) C (c_C_addGate (wp_b h)) mk_X0_addGate wd_227 dX0_addEither_12 0 rfl rfl rfl ⟨Nat.le_of_ble_eq_true rfl, Nat.le_of_ble_eq_true rfl⟩ (Nat.le_of_ble_eq_true rfl) rfl (fun r9 u hw => ?_)
  obtain ⟨c_firsts_10, c_seconds_11, c_truths_12, c_levels_13, c_nodeCount_14⟩ := u
  have h := hw
  try dsimp only at h
  try dsimp only
  refine V_istore (pc := 15) (lv' := [(0, .ref (q_c 0)), (1, .int a0), (2, .int a1), (3, .int a2), (4, .int a3), (5, .int r2), (6, .int r9)]) C dX0_addEither_15 [1, 2, 3, 4, 5, 6, 0] (by decide) rfl ?_
  refine V_aload_n (pc := 17) C 0 dX0_addEither_17 rfl rfl ?_
  refine V_iload (pc := 18) C 5 dX0_addEither_18 rfl ?_
  refine V_iconst (pc := 20) C dX0_addEither_20 ki_1 ?_
  refine V_ixor (pc := 21) C dX0_addEither_21 ?_
  refine V_iload (pc := 22) C 6 dX0_addEither_22 rfl ?_
  refine V_iconst (pc := 24) C dX0_addEither_24 ki_1 ?_
  refine V_ixor (pc := 25) C dX0_addEither_25 ?_
  refine V_callVi (pc := 26) (As := [.int (r2 ^^^ 1), .int (r9 ^^^ 1)]) (st := []) C (c_C_addGate (wp_b h)) mk_X0_addGate wd_227 dX0_addEither_26 0 rfl rfl rfl ⟨Nat.le_of_ble_eq_true rfl, Nat.le_of_ble_eq_true rfl⟩ (Nat.le_of_ble_eq_true rfl) rfl (fun r16 u hw => ?_)
  obtain ⟨c_firsts_17, c_seconds_18, c_truths_19, c_levels_20, c_nodeCount_21⟩ := u
  have h := hw
  try dsimp only at h
  try dsimp only
  refine V_iconst (pc := 29) C dX0_addEither_29 ki_1 ?_
  refine V_ixor (pc := 30) C dX0_addEither_30 ?_
  exact V_iret (pc := 31) C hQ (c_firsts_17, c_seconds_18, c_truths_19, c_levels_20, c_nodeCount_21) dX0_addEither_31 (vp_nar_int _) rfl (wp_s h)
set_option maxRecDepth 100000 in
set_option maxHeartbeats 4000000 in
theorem c_C_addOut {l : Launch} {D : va_G} {cI cC : ClassId} {q_c : Nat → Nat} {c_firsts : Nat → Int32} {c_seconds : Nat → Int32} {c_truths : Nat → Int32} {c_levels : Nat → Int32} {c_outLiterals : Nat → Int32} {c_outCounts : Nat → Int32} {c_patterns : Nat → Int32} {c_inputCount : Int32} {c_nodeCount : Int32} {c_patternCount : Int32} {a0 : Int32} {a1 : Int32} {post : Int32 × (Nat → Int32) × (Nat → Int32) → Prop} (h : wpO (C_addOut c_outLiterals c_outCounts a0 a1) post) : Cn l yX0_addOut cX0_addOut 4 (some .int) 0 0 D cI cC [.ref (q_c 0), .int a0, .int a1] (wC cI q_c c_firsts c_seconds c_truths c_levels c_outLiterals c_outCounts c_patterns c_inputCount c_nodeCount c_patternCount) (QI D cI cC (S := (Nat → Int32) × (Nat → Int32)) (fun u => (wC cI q_c c_firsts c_seconds c_truths c_levels u.1 u.2 c_patterns c_inputCount c_nodeCount c_patternCount)) (fun r u => post (r, u))) := by
  refine Cn.ofV (own := RX0) (lv0 := [(0, .ref (q_c 0)), (1, .int a0), (2, .int a1)]) rfl (by decide) (Nat.le_of_ble_eq_true rfl) rfl ?_
  intro p e s m below meth c A args Q hQ C
  unfold C_addOut at h
  refine V_aload_n (pc := 0) C 0 dX0_addOut_0 rfl rfl ?_
  refine V_get (pc := 1) C 0 5 inX0 wd_101 dX0_addOut_1 rfl rfl (by decide) rfl rfl ?_
  refine V_iload_n (pc := 4) C 1 dX0_addOut_4 rfl rfl ?_
  obtain ⟨b1, h⟩ := wp_c h
  refine V_iald (pc := 5) C 6 dX0_addOut_5 rfl b1 ?_
  obtain ⟨v2, ev2, h⟩ := wp_l h
  refine V_topi (pc := 6) ev2 ?_
  refine V_istore_n (pc := 6) (lv' := [(0, .ref (q_c 0)), (1, .int a0), (2, .int a1), (3, .int v2)]) C dX0_addOut_6 rfl [1, 2, 3, 0] (by decide) rfl ?_
  refine V_aload_n (pc := 7) C 0 dX0_addOut_7 rfl rfl ?_
  refine V_get (pc := 8) C 0 4 inX0 wd_100 dX0_addOut_8 rfl rfl (by decide) rfl rfl ?_
  refine V_iload_n (pc := 11) C 1 dX0_addOut_11 rfl rfl ?_
  refine V_bipush (pc := 12) C dX0_addOut_12 kb_6 ?_
  refine V_imul (pc := 14) C dX0_addOut_14 ?_
  refine V_iload_n (pc := 15) C 3 dX0_addOut_15 rfl rfl ?_
  refine V_iadd (pc := 16) C dX0_addOut_16 ?_
  refine V_iload_n (pc := 17) C 2 dX0_addOut_17 rfl rfl ?_
  obtain ⟨b3, h⟩ := wp_c h
  obtain ⟨c_outLiterals_4, ec_outLiterals_4, h⟩ := wp_l h
  refine V_iast (pc := 18) (ws' := (wC cI q_c c_firsts c_seconds c_truths c_levels c_outLiterals_4 c_outCounts c_patterns c_inputCount c_nodeCount c_patternCount)) C 5 dX0_addOut_18 rfl b3 ec_outLiterals_4 rfl ?_
  refine V_aload_n (pc := 19) C 0 dX0_addOut_19 rfl rfl ?_
  refine V_get (pc := 20) C 0 5 inX0 wd_101 dX0_addOut_20 rfl rfl (by decide) rfl rfl ?_
  refine V_iload_n (pc := 23) C 1 dX0_addOut_23 rfl rfl ?_
  refine V_iload_n (pc := 24) C 3 dX0_addOut_24 rfl rfl ?_
  refine V_iconst (pc := 25) C dX0_addOut_25 ki_1 ?_
  refine V_iadd (pc := 26) C dX0_addOut_26 ?_
  obtain ⟨b5, h⟩ := wp_c h
  obtain ⟨c_outCounts_6, ec_outCounts_6, h⟩ := wp_l h
  refine V_iast (pc := 27) (ws' := (wC cI q_c c_firsts c_seconds c_truths c_levels c_outLiterals_4 c_outCounts_6 c_patterns c_inputCount c_nodeCount c_patternCount)) C 6 dX0_addOut_27 rfl b5 ec_outCounts_6 rfl ?_
  refine V_iload_n (pc := 28) C 3 dX0_addOut_28 rfl rfl ?_
  exact V_iret (pc := 29) C hQ (c_outLiterals_4, c_outCounts_6) dX0_addOut_29 (vp_nar_int _) rfl (wp_s h)
set_option maxRecDepth 100000 in
set_option maxHeartbeats 4000000 in
theorem c_C_addPattern {l : Launch} {D : va_G} {cI cC : ClassId} {q_c : Nat → Nat} {c_firsts : Nat → Int32} {c_seconds : Nat → Int32} {c_truths : Nat → Int32} {c_levels : Nat → Int32} {c_outLiterals : Nat → Int32} {c_outCounts : Nat → Int32} {c_patterns : Nat → Int32} {c_inputCount : Int32} {c_nodeCount : Int32} {c_patternCount : Int32} {a0 : Int32} {post : Int32 × (Nat → Int32) × Int32 → Prop} (h : wpO (C_addPattern c_patterns c_patternCount a0) post) : Cn l yX0_addPattern cX0_addPattern 2 (some .int) 0 0 D cI cC [.ref (q_c 0), .int a0] (wC cI q_c c_firsts c_seconds c_truths c_levels c_outLiterals c_outCounts c_patterns c_inputCount c_nodeCount c_patternCount) (QI D cI cC (S := (Nat → Int32) × Int32) (fun u => (wC cI q_c c_firsts c_seconds c_truths c_levels c_outLiterals c_outCounts u.1 c_inputCount c_nodeCount u.2)) (fun r u => post (r, u))) := by
  refine Cn.ofV (own := RX0) (lv0 := [(0, .ref (q_c 0)), (1, .int a0)]) rfl (by decide) (Nat.le_of_ble_eq_true rfl) rfl ?_
  intro p e s m below meth c A args Q hQ C
  unfold C_addPattern at h
  refine V_aload_n (pc := 0) C 0 dX0_addPattern_0 rfl rfl ?_
  refine V_get (pc := 1) C 0 6 inX0 wd_103 dX0_addPattern_1 rfl rfl (by decide) rfl rfl ?_
  refine V_aload_n (pc := 4) C 0 dX0_addPattern_4 rfl rfl ?_
  refine V_get (pc := 5) C 0 9 inX0 wd_110 dX0_addPattern_5 rfl rfl (by decide) rfl rfl ?_
  refine V_iload_n (pc := 8) C 1 dX0_addPattern_8 rfl rfl ?_
  obtain ⟨b1, h⟩ := wp_c h
  obtain ⟨c_patterns_2, ec_patterns_2, h⟩ := wp_l h
  refine V_iast (pc := 9) (ws' := (wC cI q_c c_firsts c_seconds c_truths c_levels c_outLiterals c_outCounts c_patterns_2 c_inputCount c_nodeCount c_patternCount)) C 7 dX0_addPattern_9 rfl b1 ec_patterns_2 rfl ?_
  refine V_aload_n (pc := 10) C 0 dX0_addPattern_10 rfl rfl ?_
  refine V_dup (pc := 11) C dX0_addPattern_11 rfl ?_
  refine V_get (pc := 12) C 0 9 inX0 wd_110 dX0_addPattern_12 rfl rfl (by decide) rfl rfl ?_
  refine V_iconst (pc := 15) C dX0_addPattern_15 ki_1 ?_
  refine V_iadd (pc := 16) C dX0_addPattern_16 ?_
  obtain ⟨c_patternCount_3, ec_patternCount_3, h⟩ := wp_l h
  refine V_topi (pc := 17) ec_patternCount_3 ?_
  refine V_put (pc := 17) (ws' := (wC cI q_c c_firsts c_seconds c_truths c_levels c_outLiterals c_outCounts c_patterns_2 c_inputCount c_nodeCount c_patternCount_3)) C 0 9 inX0 tyX0_ok nmX0 wd_110 dX0_addPattern_17 rfl rfl (by decide) rfl rfl rfl rfl rfl (Nat.le_of_ble_eq_true rfl) rfl ?_
  refine V_aload_n (pc := 20) C 0 dX0_addPattern_20 rfl rfl ?_
  refine V_get (pc := 21) C 0 9 inX0 wd_110 dX0_addPattern_21 rfl rfl (by decide) rfl rfl ?_
  exact V_iret (pc := 24) C hQ (c_patterns_2, c_patternCount_3) dX0_addPattern_24 (vp_nar_int _) rfl (wp_s h)
set_option maxRecDepth 100000 in
set_option maxHeartbeats 4000000 in
theorem c_C_perform {l : Launch} {D : va_G} {cI cC : ClassId} {q_c : Nat → Nat} {c_firsts : Nat → Int32} {c_seconds : Nat → Int32} {c_truths : Nat → Int32} {c_levels : Nat → Int32} {c_outLiterals : Nat → Int32} {c_outCounts : Nat → Int32} {c_patterns : Nat → Int32} {c_inputCount : Int32} {c_nodeCount : Int32} {c_patternCount : Int32} {a0 : Int32} {a1 : Int32} {a2 : Int32} {a3 : Int32} {post : Int32 × (Nat → Int32) × (Nat → Int32) × (Nat → Int32) × (Nat → Int32) × (Nat → Int32) × (Nat → Int32) × (Nat → Int32) × Int32 × Int32 × Int32 → Prop} (h : wpO (C_perform c_firsts c_seconds c_truths c_levels c_outLiterals c_outCounts c_patterns c_inputCount c_nodeCount c_patternCount a0 a1 a2 a3) post) : Cn l yX0_perform cX0_perform 5 (some .int) 4 91 D cI cC [.ref (q_c 0), .int a0, .int a1, .int a2, .int a3] (wC cI q_c c_firsts c_seconds c_truths c_levels c_outLiterals c_outCounts c_patterns c_inputCount c_nodeCount c_patternCount) (QI D cI cC (S := (Nat → Int32) × (Nat → Int32) × (Nat → Int32) × (Nat → Int32) × (Nat → Int32) × (Nat → Int32) × (Nat → Int32) × Int32 × Int32 × Int32) (fun u => (wC cI q_c u.1 u.2.1 u.2.2.1 u.2.2.2.1 u.2.2.2.2.1 u.2.2.2.2.2.1 u.2.2.2.2.2.2.1 u.2.2.2.2.2.2.2.1 u.2.2.2.2.2.2.2.2.1 u.2.2.2.2.2.2.2.2.2)) (fun r u => post (r, u))) := by
  refine Cn.ofV (own := RX0) (lv0 := [(0, .ref (q_c 0)), (1, .int a0), (2, .int a1), (3, .int a2), (4, .int a3)]) rfl (by decide) (Nat.le_of_ble_eq_true rfl) rfl ?_
  intro p e s m below meth c A args Q hQ C
  unfold C_perform at h
  refine V_iload_n (pc := 0) C 1 dX0_perform_0 rfl rfl ?_
  by_cases c1 : a0 = 0
  · replace h := wp_t h c1
    refine V_topi (pc := 1) (y := 0) c1.symm ?_
    refine V_tableIn (pc := 1) (tgt := 36) C dX0_perform_1 (by decide) (by decide) rfl (by decide) ?_
    refine V_aload_n (pc := 36) C 0 dX0_perform_36 rfl rfl ?_
    refine V_iload_n (pc := 37) C 2 dX0_perform_37 rfl rfl ?_
    refine V_callVi (pc := 38) (As := [.int a1]) (st := []) C (c_C_changeInputs (wp_b h)) mk_X0_changeInputs wd_223 dX0_perform_38 0 rfl rfl rfl ⟨Nat.le_of_ble_eq_true rfl, Nat.le_of_ble_eq_true rfl⟩ (Nat.le_of_ble_eq_true rfl) rfl (fun r3 u hw => ?_)
    obtain ⟨c_truths_4, c_levels_5, c_outCounts_6, c_inputCount_7, c_nodeCount_8, c_patternCount_9⟩ := u
    have h := hw
    try dsimp only at h
    try dsimp only
    exact V_iret (pc := 41) C hQ (c_firsts, c_seconds, c_truths_4, c_levels_5, c_outLiterals, c_outCounts_6, c_patterns, c_inputCount_7, c_nodeCount_8, c_patternCount_9) dX0_perform_41 (vp_nar_int _) rfl (wp_s h)
  · replace h := wp_f h c1
    by_cases c10 : a0 = 1
    · replace h := wp_t h c10
      refine V_topi (pc := 1) (y := 1) c10.symm ?_
      refine V_tableIn (pc := 1) (tgt := 42) C dX0_perform_1 (by decide) (by decide) rfl (by decide) ?_
      refine V_aload_n (pc := 42) C 0 dX0_perform_42 rfl rfl ?_
      refine V_iload_n (pc := 43) C 2 dX0_perform_43 rfl rfl ?_
      refine V_iload_n (pc := 44) C 3 dX0_perform_44 rfl rfl ?_
      refine V_callVi (pc := 45) (As := [.int a1, .int a2]) (st := []) C (c_C_addGate (wp_b h)) mk_X0_addGate wd_227 dX0_perform_45 0 rfl rfl rfl ⟨Nat.le_of_ble_eq_true rfl, Nat.le_of_ble_eq_true rfl⟩ (Nat.le_of_ble_eq_true rfl) rfl (fun r12 u hw => ?_)
      obtain ⟨c_firsts_13, c_seconds_14, c_truths_15, c_levels_16, c_nodeCount_17⟩ := u
      have h := hw
      try dsimp only at h
      try dsimp only
      exact V_iret (pc := 48) C hQ (c_firsts_13, c_seconds_14, c_truths_15, c_levels_16, c_outLiterals, c_outCounts, c_patterns, c_inputCount, c_nodeCount_17, c_patternCount) dX0_perform_48 (vp_nar_int _) rfl (wp_s h)
    · replace h := wp_f h c10
      by_cases c18 : a0 = 2
      · replace h := wp_t h c18
        refine V_topi (pc := 1) (y := 2) c18.symm ?_
        refine V_tableIn (pc := 1) (tgt := 49) C dX0_perform_1 (by decide) (by decide) rfl (by decide) ?_
        refine V_aload_n (pc := 49) C 0 dX0_perform_49 rfl rfl ?_
        refine V_iload_n (pc := 50) C 2 dX0_perform_50 rfl rfl ?_
        refine V_iload_n (pc := 51) C 3 dX0_perform_51 rfl rfl ?_
        refine V_iconst (pc := 52) C dX0_perform_52 ki_1 ?_
        refine V_ixor (pc := 53) C dX0_perform_53 ?_
        refine V_iload_n (pc := 54) C 2 dX0_perform_54 rfl rfl ?_
        refine V_iconst (pc := 55) C dX0_perform_55 ki_1 ?_
        refine V_ixor (pc := 56) C dX0_perform_56 ?_
        refine V_iload_n (pc := 57) C 3 dX0_perform_57 rfl rfl ?_
        refine V_callVi (pc := 58) (As := [.int a1, .int (a2 ^^^ 1), .int (a1 ^^^ 1), .int a2]) (st := []) C (c_C_addEither (wp_b h)) mk_X0_addEither wd_242 dX0_perform_58 0 rfl rfl rfl ⟨Nat.le_of_ble_eq_true rfl, Nat.le_of_ble_eq_true rfl⟩ (Nat.le_of_ble_eq_true rfl) rfl (fun r20 u hw => ?_)
        obtain ⟨c_firsts_21, c_seconds_22, c_truths_23, c_levels_24, c_nodeCount_25⟩ := u
        have h := hw
        try dsimp only at h
        try dsimp only
        exact V_iret (pc := 61) C hQ (c_firsts_21, c_seconds_22, c_truths_23, c_levels_24, c_outLiterals, c_outCounts, c_patterns, c_inputCount, c_nodeCount_25, c_patternCount) dX0_perform_61 (vp_nar_int _) rfl (wp_s h)
      · replace h := wp_f h c18
        by_cases c26 : a0 = 3
        · replace h := wp_t h c26
          refine V_topi (pc := 1) (y := 3) c26.symm ?_
          refine V_tableIn (pc := 1) (tgt := 62) C dX0_perform_1 (by decide) (by decide) rfl (by decide) ?_
          refine V_aload_n (pc := 62) C 0 dX0_perform_62 rfl rfl ?_
          refine V_iload_n (pc := 63) C 2 dX0_perform_63 rfl rfl ?_
          refine V_iload_n (pc := 64) C 3 dX0_perform_64 rfl rfl ?_
          refine V_iload_n (pc := 65) C 2 dX0_perform_65 rfl rfl ?_
          refine V_iconst (pc := 66) C dX0_perform_66 ki_1 ?_
          refine V_ixor (pc := 67) C dX0_perform_67 ?_
          refine V_iload (pc := 68) C 4 dX0_perform_68 rfl ?_
          refine V_callVi (pc := 70) (As := [.int a1, .int a2, .int (a1 ^^^ 1), .int a3]) (st := []) C (c_C_addEither (wp_b h)) mk_X0_addEither wd_242 dX0_perform_70 0 rfl rfl rfl ⟨Nat.le_of_ble_eq_true rfl, Nat.le_of_ble_eq_true rfl⟩ (Nat.le_of_ble_eq_true rfl) rfl (fun r28 u hw => ?_)
          obtain ⟨c_firsts_29, c_seconds_30, c_truths_31, c_levels_32, c_nodeCount_33⟩ := u
          have h := hw
          try dsimp only at h
          try dsimp only
          exact V_iret (pc := 73) C hQ (c_firsts_29, c_seconds_30, c_truths_31, c_levels_32, c_outLiterals, c_outCounts, c_patterns, c_inputCount, c_nodeCount_33, c_patternCount) dX0_perform_73 (vp_nar_int _) rfl (wp_s h)
        · replace h := wp_f h c26
          by_cases c34 : a0 = 4
          · replace h := wp_t h c34
            refine V_topi (pc := 1) (y := 4) c34.symm ?_
            refine V_tableIn (pc := 1) (tgt := 74) C dX0_perform_1 (by decide) (by decide) rfl (by decide) ?_
            refine V_aload_n (pc := 74) C 0 dX0_perform_74 rfl rfl ?_
            refine V_iload_n (pc := 75) C 2 dX0_perform_75 rfl rfl ?_
            refine V_iload_n (pc := 76) C 3 dX0_perform_76 rfl rfl ?_
            refine V_callVi (pc := 77) (As := [.int a1, .int a2]) (st := []) C (c_C_addOut (wp_b h)) mk_X0_addOut wd_246 dX0_perform_77 0 rfl rfl rfl ⟨Nat.le_of_ble_eq_true rfl, Nat.le_of_ble_eq_true rfl⟩ (Nat.le_of_ble_eq_true rfl) rfl (fun r36 u hw => ?_)
            obtain ⟨c_outLiterals_37, c_outCounts_38⟩ := u
            have h := hw
            try dsimp only at h
            try dsimp only
            exact V_iret (pc := 80) C hQ (c_firsts, c_seconds, c_truths, c_levels, c_outLiterals_37, c_outCounts_38, c_patterns, c_inputCount, c_nodeCount, c_patternCount) dX0_perform_80 (vp_nar_int _) rfl (wp_s h)
          · replace h := wp_f h c34
            refine V_tableOut (pc := 1) (tgt := 81) C dX0_perform_1 (by have nc1 := sw_ne c1 (z := 0) (by decide); have nc10 := sw_ne c10 (z := 1) (by decide); have nc18 := sw_ne c18 (z := 2) (by decide); have nc26 := sw_ne c26 (z := 3) (by decide); have nc34 := sw_ne c34 (z := 4) (by decide); omega) (by decide) ?_
            refine V_aload_n (pc := 81) C 0 dX0_perform_81 rfl rfl ?_
            refine V_iload_n (pc := 82) C 2 dX0_perform_82 rfl rfl ?_
            refine V_callVi (pc := 83) (As := [.int a1]) (st := []) C (c_C_addPattern (wp_b h)) mk_X0_addPattern wd_250 dX0_perform_83 0 rfl rfl rfl ⟨Nat.le_of_ble_eq_true rfl, Nat.le_of_ble_eq_true rfl⟩ (Nat.le_of_ble_eq_true rfl) rfl (fun r40 u hw => ?_)
            obtain ⟨c_patterns_41, c_patternCount_42⟩ := u
            have h := hw
            try dsimp only at h
            try dsimp only
            exact V_iret (pc := 86) C hQ (c_firsts, c_seconds, c_truths, c_levels, c_outLiterals, c_outCounts, c_patterns_41, c_inputCount, c_nodeCount, c_patternCount_42) dX0_perform_86 (vp_nar_int _) rfl (wp_s h)
set_option maxRecDepth 100000 in
set_option maxHeartbeats 4000000 in
theorem c_W_numberKept {l : Launch} {D : va_G} {cI cC : ClassId} {q_w : Nat → Nat} {w_forms : Nat → Int32} {w_reasons : Nat → Int32} {w_lessers : Nat → Int32} {w_greaters : Nat → Int32} {w_lineGates : Nat → Int32} {w_newNumbers : Nat → Int32} {w_rows : Nat → Int32} {w_gatesBy : Nat → Int32} {w_lineCount : Int32} {w_rowCount : Int32} {w_checkCount : Int32} {w_patternRows : Int32} {w_allRows : Int32} {a0 : Int32} {post : (Nat → Int32) → Prop} (h : wpO (W_numberKept w_reasons w_newNumbers a0) post) : Cn l yX3_numberKept cX3_numberKept 4 none 0 0 D cI cC [.ref (q_w 0), .int a0] (wS cI q_w w_forms w_reasons w_lessers w_greaters w_lineGates w_newNumbers w_rows w_gatesBy w_lineCount w_rowCount w_checkCount w_patternRows w_allRows) (QV D cI cC (S := (Nat → Int32)) (fun u => (wS cI q_w w_forms w_reasons w_lessers w_greaters w_lineGates u w_rows w_gatesBy w_lineCount w_rowCount w_checkCount w_patternRows w_allRows)) (fun u => post u)) := by
  refine Cn.ofV (own := RX3) (lv0 := [(0, .ref (q_w 0)), (1, .int a0)]) rfl (by decide) (Nat.le_of_ble_eq_true rfl) rfl ?_
  intro p e s m below meth c A args Q hQ C
  have hL_4 : ∀ (K : (Nat → Int32) → Option ((Nat → Int32))) (l1 : Int32), (∀ (w_newNumbers : Nat → Int32), wpO (K w_newNumbers) post → V p l e (rmC 0 0) s m args below meth c D A 4 0 0 Q (wS cI q_w w_forms w_reasons w_lessers w_greaters w_lineGates w_newNumbers w_rows w_gatesBy w_lineCount w_rowCount w_checkCount w_patternRows w_allRows) [] 34 []) → ∀ (n : Nat) (l2 : Int32) (l3 : Int32) (w_newNumbers : Nat → Int32), wpO (W_numberKept_4 K w_reasons l1 n l2 l3 w_newNumbers) post → V p l e (rmC 0 0) s m args below meth c D A 4 0 0 Q (wS cI q_w w_forms w_reasons w_lessers w_greaters w_lineGates w_newNumbers w_rows w_gatesBy w_lineCount w_rowCount w_checkCount w_patternRows w_allRows) [(0, .ref (q_w 0)), (1, .int l1), (2, .int l2), (3, .int l3)] 4 [] := by
    intro K  l1 hK n
    induction n with
    | zero => intro l2 l3 w_newNumbers h; rw [W_numberKept_4] at h; exact (wp_n h).elim
    | succ n ih =>
      intro l2 l3 w_newNumbers h
      rw [W_numberKept_4] at h
      refine V_iload_n (pc := 4) C 3 dX3_numberKept_4 rfl rfl ?_
      refine V_iload_n (pc := 5) C 1 dX3_numberKept_5 rfl rfl ?_
      refine V_icmp_ge (pc := 6) (tgt := 34) C dX3_numberKept_6 (by decide) (fun c1 => ?_) (fun c1 => ?_)
      · replace h := wp_t h c1
        refine V_lv (pc := 34) [] rfl ?_
        exact hK _ h
      · replace h := wp_f h c1
        refine V_aload_n (pc := 9) C 0 dX3_numberKept_9 rfl rfl ?_
        refine V_get (pc := 10) C 0 1 inX3 wd_120 dX3_numberKept_10 rfl rfl (by decide) rfl rfl ?_
        refine V_iload_n (pc := 13) C 3 dX3_numberKept_13 rfl rfl ?_
        obtain ⟨b2, h⟩ := wp_c h
        refine V_iald (pc := 14) C 2 dX3_numberKept_14 rfl b2 ?_
        refine V_if_ne (pc := 15) (tgt := 28) C dX3_numberKept_15 (by decide) (fun c3 => ?_) (fun c3 => ?_)
        · replace h := wp_f h c3
          obtain ⟨v4, ev4, h⟩ := wp_l h
          refine V_iinc (pc := 28) (v := v4) (lv' := [(0, .ref (q_w 0)), (1, .int l1), (2, .int l2), (3, .int v4)]) (j := 3) C dX3_numberKept_28 rfl (by rw [ev4]; rfl) [1, 2, 3, 0] (by decide) rfl ?_
          refine V_goto (pc := 31) (tgt := 4) C dX3_numberKept_31 (by decide) ?_
          exact ih _ _ _ h
        · replace h := wp_t h c3
          refine V_aload_n (pc := 18) C 0 dX3_numberKept_18 rfl rfl ?_
          refine V_get (pc := 19) C 0 5 inX3 wd_127 dX3_numberKept_19 rfl rfl (by decide) rfl rfl ?_
          refine V_iload_n (pc := 22) C 3 dX3_numberKept_22 rfl rfl ?_
          refine V_iload_n (pc := 23) C 2 dX3_numberKept_23 rfl rfl ?_
          obtain ⟨b5, h⟩ := wp_c h
          obtain ⟨w_newNumbers_6, ew_newNumbers_6, h⟩ := wp_l h
          refine V_iast (pc := 24) (ws' := (wS cI q_w w_forms w_reasons w_lessers w_greaters w_lineGates w_newNumbers_6 w_rows w_gatesBy w_lineCount w_rowCount w_checkCount w_patternRows w_allRows)) C 6 dX3_numberKept_24 rfl b5 ew_newNumbers_6 rfl ?_
          obtain ⟨v7, ev7, h⟩ := wp_l h
          refine V_iinc (pc := 25) (v := v7) (lv' := [(0, .ref (q_w 0)), (1, .int l1), (2, .int v7), (3, .int l3)]) (j := 2) C dX3_numberKept_25 rfl (by rw [ev7]; rfl) [1, 2, 0, 3] (by decide) rfl ?_
          obtain ⟨v8, ev8, h⟩ := wp_l h
          refine V_iinc (pc := 28) (v := v8) (lv' := [(0, .ref (q_w 0)), (1, .int l1), (2, .int v7), (3, .int v8)]) (j := 3) C dX3_numberKept_28 rfl (by rw [ev8]; rfl) [1, 2, 3, 0] (by decide) rfl ?_
          refine V_goto (pc := 31) (tgt := 4) C dX3_numberKept_31 (by decide) ?_
          exact ih _ _ _ h
  unfold W_numberKept at h
  refine V_iconst (pc := 0) C dX3_numberKept_0 ki_0 ?_
  refine V_istore_n (pc := 1) (lv' := [(0, .ref (q_w 0)), (1, .int a0), (2, .int 0)]) C dX3_numberKept_1 rfl [1, 2, 0] (by decide) rfl ?_
  refine V_iconst (pc := 2) C dX3_numberKept_2 ki_0 ?_
  refine V_istore_n (pc := 3) (lv' := [(0, .ref (q_w 0)), (1, .int a0), (2, .int 0), (3, .int 0)]) C dX3_numberKept_3 rfl [1, 2, 3, 0] (by decide) rfl ?_
  refine hL_4 _ _ (fun w_newNumbers_9 h => ?_) 1000 _ _ _ h
  try dsimp only at h
  exact V_vret (pc := 34) C hQ w_newNumbers_9 dX3_numberKept_34 rfl (wp_s h)
set_option maxRecDepth 100000 in
set_option maxHeartbeats 4000000 in
theorem c_W_numbered {l : Launch} {D : va_G} {cI cC : ClassId} {q_w : Nat → Nat} {w_forms : Nat → Int32} {w_reasons : Nat → Int32} {w_lessers : Nat → Int32} {w_greaters : Nat → Int32} {w_lineGates : Nat → Int32} {w_newNumbers : Nat → Int32} {w_rows : Nat → Int32} {w_gatesBy : Nat → Int32} {w_lineCount : Int32} {w_rowCount : Int32} {w_checkCount : Int32} {w_patternRows : Int32} {w_allRows : Int32} {a0 : Int32} {post : Int32 → Prop} (h : wpO (W_numbered w_newNumbers a0) post) : Cn l yX3_numbered cX3_numbered 2 (some .int) 0 0 D cI cC [.ref (q_w 0), .int a0] (wS cI q_w w_forms w_reasons w_lessers w_greaters w_lineGates w_newNumbers w_rows w_gatesBy w_lineCount w_rowCount w_checkCount w_patternRows w_allRows) (QI D cI cC (S := Unit) (fun u => (wS cI q_w w_forms w_reasons w_lessers w_greaters w_lineGates w_newNumbers w_rows w_gatesBy w_lineCount w_rowCount w_checkCount w_patternRows w_allRows)) (fun r u => post r)) := by
  refine Cn.ofV (own := RX3) (lv0 := [(0, .ref (q_w 0)), (1, .int a0)]) rfl (by decide) (Nat.le_of_ble_eq_true rfl) rfl ?_
  intro p e s m below meth c A args Q hQ C
  unfold W_numbered at h
  refine V_iconst (pc := 0) C dX3_numbered_0 ki_2 ?_
  refine V_aload_n (pc := 1) C 0 dX3_numbered_1 rfl rfl ?_
  refine V_get (pc := 2) C 0 5 inX3 wd_127 dX3_numbered_2 rfl rfl (by decide) rfl rfl ?_
  refine V_iload_n (pc := 5) C 1 dX3_numbered_5 rfl rfl ?_
  refine V_iconst (pc := 6) C dX3_numbered_6 ki_1 ?_
  refine V_ishr (pc := 7) C dX3_numbered_7 ?_
  obtain ⟨b1, h⟩ := wp_c h
  refine V_iald (pc := 8) C 6 dX3_numbered_8 rfl b1 ?_
  refine V_imul (pc := 9) C dX3_numbered_9 ?_
  refine V_iload_n (pc := 10) C 1 dX3_numbered_10 rfl rfl ?_
  refine V_iconst (pc := 11) C dX3_numbered_11 ki_1 ?_
  refine V_iand (pc := 12) C dX3_numbered_12 ?_
  refine V_iadd (pc := 13) C dX3_numbered_13 ?_
  exact V_iret (pc := 14) C hQ () dX3_numbered_14 (vp_nar_int _) rfl (wp_s h)
set_option maxRecDepth 100000 in
set_option maxHeartbeats 4000000 in
theorem c_C_settleOuts {l : Launch} {D : va_G} {cI cC : ClassId} {q_c : Nat → Nat} {q_w : Nat → Nat} {c_firsts : Nat → Int32} {c_seconds : Nat → Int32} {c_truths : Nat → Int32} {c_levels : Nat → Int32} {c_outLiterals : Nat → Int32} {c_outCounts : Nat → Int32} {c_patterns : Nat → Int32} {c_inputCount : Int32} {c_nodeCount : Int32} {c_patternCount : Int32} {w_forms : Nat → Int32} {w_reasons : Nat → Int32} {w_lessers : Nat → Int32} {w_greaters : Nat → Int32} {w_lineGates : Nat → Int32} {w_newNumbers : Nat → Int32} {w_rows : Nat → Int32} {w_gatesBy : Nat → Int32} {w_lineCount : Int32} {w_rowCount : Int32} {w_checkCount : Int32} {w_patternRows : Int32} {w_allRows : Int32} {a0 : Int32} {post : (Nat → Int32) → Prop} (h : wpO (C_settleOuts c_outLiterals c_outCounts w_forms w_newNumbers a0) post) : Cn l yX0_settleOuts cX0_settleOuts 4 none 1 22 D cI cC [.ref (q_c 0), .int a0, .ref (q_w 0)] ((wC cI q_c c_firsts c_seconds c_truths c_levels c_outLiterals c_outCounts c_patterns c_inputCount c_nodeCount c_patternCount) ++ (wS cI q_w w_forms w_reasons w_lessers w_greaters w_lineGates w_newNumbers w_rows w_gatesBy w_lineCount w_rowCount w_checkCount w_patternRows w_allRows)) (QV D cI cC (S := (Nat → Int32)) (fun u => ((wC cI q_c c_firsts c_seconds c_truths c_levels u c_outCounts c_patterns c_inputCount c_nodeCount c_patternCount) ++ (wS cI q_w w_forms w_reasons w_lessers w_greaters w_lineGates w_newNumbers w_rows w_gatesBy w_lineCount w_rowCount w_checkCount w_patternRows w_allRows))) (fun u => post u)) := by
  refine Cn.ofV (own := RX0) (lv0 := [(0, .ref (q_c 0)), (1, .int a0), (2, .ref (q_w 0))]) rfl (by decide) (Nat.le_of_ble_eq_true rfl) rfl ?_
  intro p e s m below meth c A args Q hQ C
  have hL_2 : ∀ (K : (Nat → Int32) → Option ((Nat → Int32))) (l1 : Int32), (∀ (c_outLiterals : Nat → Int32), wpO (K c_outLiterals) post → V p l e (rmC 1 22) s m args below meth c D A 4 0 0 Q ((wC cI q_c c_firsts c_seconds c_truths c_levels c_outLiterals c_outCounts c_patterns c_inputCount c_nodeCount c_patternCount) ++ (wS cI q_w w_forms w_reasons w_lessers w_greaters w_lineGates w_newNumbers w_rows w_gatesBy w_lineCount w_rowCount w_checkCount w_patternRows w_allRows)) [] 43 []) → ∀ (n : Nat) (l3 : Int32) (c_outLiterals : Nat → Int32), wpO (C_settleOuts_2 K c_outCounts w_forms w_newNumbers l1 n l3 c_outLiterals) post → V p l e (rmC 1 22) s m args below meth c D A 4 0 0 Q ((wC cI q_c c_firsts c_seconds c_truths c_levels c_outLiterals c_outCounts c_patterns c_inputCount c_nodeCount c_patternCount) ++ (wS cI q_w w_forms w_reasons w_lessers w_greaters w_lineGates w_newNumbers w_rows w_gatesBy w_lineCount w_rowCount w_checkCount w_patternRows w_allRows)) [(0, .ref (q_c 0)), (1, .int l1), (2, .ref (q_w 0)), (3, .int l3)] 2 [] := by
    intro K  l1 hK n
    induction n with
    | zero => intro l3 c_outLiterals h; rw [C_settleOuts_2] at h; exact (wp_n h).elim
    | succ n ih =>
      intro l3 c_outLiterals h
      rw [C_settleOuts_2] at h
      refine V_iload_n (pc := 2) C 3 dX0_settleOuts_2 rfl rfl ?_
      refine V_aload_n (pc := 3) C 0 dX0_settleOuts_3 rfl rfl ?_
      refine V_get (pc := 4) C 0 5 inX0 wd_101 dX0_settleOuts_4 rfl rfl (by decide) rfl rfl ?_
      refine V_iload_n (pc := 7) C 1 dX0_settleOuts_7 rfl rfl ?_
      obtain ⟨b1, h⟩ := wp_c h
      refine V_iald (pc := 8) C 6 dX0_settleOuts_8 rfl b1 ?_
      refine V_icmp_ge (pc := 9) (tgt := 43) C dX0_settleOuts_9 (by decide) (fun c2 => ?_) (fun c2 => ?_)
      · replace h := wp_t h c2
        refine V_lv (pc := 43) [] rfl ?_
        exact hK _ h
      · replace h := wp_f h c2
        refine V_aload_n (pc := 12) C 0 dX0_settleOuts_12 rfl rfl ?_
        refine V_get (pc := 13) C 0 4 inX0 wd_100 dX0_settleOuts_13 rfl rfl (by decide) rfl rfl ?_
        refine V_iload_n (pc := 16) C 1 dX0_settleOuts_16 rfl rfl ?_
        refine V_bipush (pc := 17) C dX0_settleOuts_17 kb_6 ?_
        refine V_imul (pc := 19) C dX0_settleOuts_19 ?_
        refine V_iload_n (pc := 20) C 3 dX0_settleOuts_20 rfl rfl ?_
        refine V_iadd (pc := 21) C dX0_settleOuts_21 ?_
        refine V_aload_n (pc := 22) C 2 dX0_settleOuts_22 rfl rfl ?_
        refine V_aload_n (pc := 23) C 2 dX0_settleOuts_23 rfl rfl ?_
        refine V_aload_n (pc := 24) C 0 dX0_settleOuts_24 rfl rfl ?_
        refine V_iload_n (pc := 25) C 1 dX0_settleOuts_25 rfl rfl ?_
        refine V_iload_n (pc := 26) C 3 dX0_settleOuts_26 rfl rfl ?_
        refine V_cutVi (pc := 27) (As := [.int l1, .int l3]) (st := [.ref (q_w 0), .ref (q_w 0), .int ((l1 * 6) + l3), .ref (q_c 5)]) (w0 := (wC cI q_c c_firsts c_seconds c_truths c_levels c_outLiterals c_outCounts c_patterns c_inputCount c_nodeCount c_patternCount)) (wr := (wS cI q_w w_forms w_reasons w_lessers w_greaters w_lineGates w_newNumbers w_rows w_gatesBy w_lineCount w_rowCount w_checkCount w_patternRows w_allRows)) (w2 := fun u => ((wC cI q_c c_firsts c_seconds c_truths c_levels c_outLiterals c_outCounts c_patterns c_inputCount c_nodeCount c_patternCount) ++ (wS cI q_w w_forms w_reasons w_lessers w_greaters w_lineGates w_newNumbers w_rows w_gatesBy w_lineCount w_rowCount w_checkCount w_patternRows w_allRows))) C (c_C_outOf (wp_b h)) mk_X0_outOf wd_342 dX0_settleOuts_27 0 rfl rfl rfl ⟨Nat.le_of_ble_eq_true rfl, Nat.le_of_ble_eq_true rfl⟩ [0, 1, 2, 3, 4, 5, 6, 7] [8, 9, 10, 11, 12, 13, 14, 15, 16] [9, 10, 11, 12, 13, 14, 15, 16, 0, 1, 2, 3, 4, 5, 6, 7, 8] ⟨rfl, rfl, by decide +kernel, by decide +kernel, by decide +kernel⟩ (by decide +kernel) (fun u => rfl) (Nat.le_of_ble_eq_true rfl) rfl (fun r4 u hw => ?_)
        have h := hw
        try dsimp only at h
        try dsimp only
        refine V_cutVi (pc := 30) (As := [.int r4]) (st := [.ref (q_w 0), .int ((l1 * 6) + l3), .ref (q_c 5)]) (w0 := (wS cI q_w w_forms w_reasons w_lessers w_greaters w_lineGates w_newNumbers w_rows w_gatesBy w_lineCount w_rowCount w_checkCount w_patternRows w_allRows)) (wr := (wC cI q_c c_firsts c_seconds c_truths c_levels c_outLiterals c_outCounts c_patterns c_inputCount c_nodeCount c_patternCount)) (w2 := fun u => ((wC cI q_c c_firsts c_seconds c_truths c_levels c_outLiterals c_outCounts c_patterns c_inputCount c_nodeCount c_patternCount) ++ (wS cI q_w w_forms w_reasons w_lessers w_greaters w_lineGates w_newNumbers w_rows w_gatesBy w_lineCount w_rowCount w_checkCount w_patternRows w_allRows))) C (c_W_formOf (wp_b h)) mk_X3_formOf wd_346 dX0_settleOuts_30 8 rfl rfl rfl ⟨Nat.le_of_ble_eq_true rfl, Nat.le_of_ble_eq_true rfl⟩ [8, 9, 10, 11, 12, 13, 14, 15, 16] [0, 1, 2, 3, 4, 5, 6, 7] [0, 1, 2, 3, 4, 5, 6, 7, 8, 9, 10, 11, 12, 13, 14, 15, 16] ⟨rfl, rfl, by decide +kernel, by decide +kernel, by decide +kernel⟩ (by decide +kernel) (fun u => rfl) (Nat.le_of_ble_eq_true rfl) rfl (fun r6 u hw => ?_)
        have h := hw
        try dsimp only at h
        try dsimp only
        refine V_cutVi (pc := 33) (As := [.int r6]) (st := [.int ((l1 * 6) + l3), .ref (q_c 5)]) (w0 := (wS cI q_w w_forms w_reasons w_lessers w_greaters w_lineGates w_newNumbers w_rows w_gatesBy w_lineCount w_rowCount w_checkCount w_patternRows w_allRows)) (wr := (wC cI q_c c_firsts c_seconds c_truths c_levels c_outLiterals c_outCounts c_patterns c_inputCount c_nodeCount c_patternCount)) (w2 := fun u => ((wC cI q_c c_firsts c_seconds c_truths c_levels c_outLiterals c_outCounts c_patterns c_inputCount c_nodeCount c_patternCount) ++ (wS cI q_w w_forms w_reasons w_lessers w_greaters w_lineGates w_newNumbers w_rows w_gatesBy w_lineCount w_rowCount w_checkCount w_patternRows w_allRows))) C (c_W_numbered (wp_b h)) mk_X3_numbered wd_334 dX0_settleOuts_33 8 rfl rfl rfl ⟨Nat.le_of_ble_eq_true rfl, Nat.le_of_ble_eq_true rfl⟩ [8, 9, 10, 11, 12, 13, 14, 15, 16] [0, 1, 2, 3, 4, 5, 6, 7] [0, 1, 2, 3, 4, 5, 6, 7, 8, 9, 10, 11, 12, 13, 14, 15, 16] ⟨rfl, rfl, by decide +kernel, by decide +kernel, by decide +kernel⟩ (by decide +kernel) (fun u => rfl) (Nat.le_of_ble_eq_true rfl) rfl (fun r8 u hw => ?_)
        have h := hw
        try dsimp only at h
        try dsimp only
        obtain ⟨b9, h⟩ := wp_c h
        obtain ⟨c_outLiterals_10, ec_outLiterals_10, h⟩ := wp_l h
        refine V_iast (pc := 36) (ws' := ((wC cI q_c c_firsts c_seconds c_truths c_levels c_outLiterals_10 c_outCounts c_patterns c_inputCount c_nodeCount c_patternCount) ++ (wS cI q_w w_forms w_reasons w_lessers w_greaters w_lineGates w_newNumbers w_rows w_gatesBy w_lineCount w_rowCount w_checkCount w_patternRows w_allRows))) C 5 dX0_settleOuts_36 rfl b9 ec_outLiterals_10 rfl ?_
        obtain ⟨v11, ev11, h⟩ := wp_l h
        refine V_iinc (pc := 37) (v := v11) (lv' := [(0, .ref (q_c 0)), (1, .int l1), (2, .ref (q_w 0)), (3, .int v11)]) (j := 3) C dX0_settleOuts_37 rfl (by rw [ev11]; rfl) [1, 2, 3, 0] (by decide) rfl ?_
        refine V_goto (pc := 40) (tgt := 2) C dX0_settleOuts_40 (by decide) ?_
        exact ih _ _ h
  unfold C_settleOuts at h
  refine V_iconst (pc := 0) C dX0_settleOuts_0 ki_0 ?_
  refine V_istore_n (pc := 1) (lv' := [(0, .ref (q_c 0)), (1, .int a0), (2, .ref (q_w 0)), (3, .int 0)]) C dX0_settleOuts_1 rfl [1, 2, 3, 0] (by decide) rfl ?_
  refine hL_2 _ _ (fun c_outLiterals_12 h => ?_) 1000 _ _ h
  try dsimp only at h
  exact V_vret (pc := 43) C hQ c_outLiterals_12 dX0_settleOuts_43 rfl (wp_s h)
set_option maxRecDepth 100000 in
set_option maxHeartbeats 4000000 in
theorem c_C_settleBy {l : Launch} {D : va_G} {cI cC : ClassId} {q_c : Nat → Nat} {q_w : Nat → Nat} {c_firsts : Nat → Int32} {c_seconds : Nat → Int32} {c_truths : Nat → Int32} {c_levels : Nat → Int32} {c_outLiterals : Nat → Int32} {c_outCounts : Nat → Int32} {c_patterns : Nat → Int32} {c_inputCount : Int32} {c_nodeCount : Int32} {c_patternCount : Int32} {w_forms : Nat → Int32} {w_reasons : Nat → Int32} {w_lessers : Nat → Int32} {w_greaters : Nat → Int32} {w_lineGates : Nat → Int32} {w_newNumbers : Nat → Int32} {w_rows : Nat → Int32} {w_gatesBy : Nat → Int32} {w_lineCount : Int32} {w_rowCount : Int32} {w_checkCount : Int32} {w_patternRows : Int32} {w_allRows : Int32} {post : Int32 × (Nat → Int32) × (Nat → Int32) × (Nat → Int32) × (Nat → Int32) × (Nat → Int32) × Int32 × (Nat → Int32) → Prop} (h : wpO (C_settleBy c_firsts c_seconds c_truths c_levels c_outLiterals c_outCounts c_inputCount c_nodeCount w_forms w_reasons w_lessers w_greaters w_newNumbers) post) : Cn l yX0_settleBy cX0_settleBy 4 (some .int) 3 65 D cI cC [.ref (q_c 0), .ref (q_w 0)] ((wC cI q_c c_firsts c_seconds c_truths c_levels c_outLiterals c_outCounts c_patterns c_inputCount c_nodeCount c_patternCount) ++ (wS cI q_w w_forms w_reasons w_lessers w_greaters w_lineGates w_newNumbers w_rows w_gatesBy w_lineCount w_rowCount w_checkCount w_patternRows w_allRows)) (QI D cI cC (S := (Nat → Int32) × (Nat → Int32) × (Nat → Int32) × (Nat → Int32) × (Nat → Int32) × Int32 × (Nat → Int32)) (fun u => ((wC cI q_c u.1 u.2.1 u.2.2.1 u.2.2.2.1 u.2.2.2.2.1 c_outCounts c_patterns c_inputCount u.2.2.2.2.2.1 c_patternCount) ++ (wS cI q_w w_forms w_reasons w_lessers w_greaters w_lineGates u.2.2.2.2.2.2 w_rows w_gatesBy w_lineCount w_rowCount w_checkCount w_patternRows w_allRows))) (fun r u => post (r, u))) := by
  refine Cn.ofV (own := RX0) (lv0 := [(0, .ref (q_c 0)), (1, .ref (q_w 0))]) rfl (by decide) (Nat.le_of_ble_eq_true rfl) rfl ?_
  intro p e s m below meth c A args Q hQ C
  have hL_74 : ∀ (K : (Nat → Int32) → Option (Int32 × (Nat → Int32) × (Nat → Int32) × (Nat → Int32) × (Nat → Int32) × (Nat → Int32) × Int32 × (Nat → Int32))) (c_firsts : Nat → Int32) (c_seconds : Nat → Int32) (c_truths : Nat → Int32) (c_levels : Nat → Int32) (c_nodeCount : Int32) (w_newNumbers : Nat → Int32) (l2 : Int32), (∀ (c_outLiterals : Nat → Int32), wpO (K c_outLiterals) post → V p l e (rmC 3 65) s m args below meth c D A 4 0 0 Q ((wC cI q_c c_firsts c_seconds c_truths c_levels c_outLiterals c_outCounts c_patterns c_inputCount c_nodeCount c_patternCount) ++ (wS cI q_w w_forms w_reasons w_lessers w_greaters w_lineGates w_newNumbers w_rows w_gatesBy w_lineCount w_rowCount w_checkCount w_patternRows w_allRows)) [(0, .ref (q_c 0)), (2, .int l2)] 91 []) → ∀ (n : Nat) (l3 : Int32) (c_outLiterals : Nat → Int32), wpO (C_settleBy_74 K c_outCounts w_forms w_newNumbers l2 n l3 c_outLiterals) post → V p l e (rmC 3 65) s m args below meth c D A 4 0 0 Q ((wC cI q_c c_firsts c_seconds c_truths c_levels c_outLiterals c_outCounts c_patterns c_inputCount c_nodeCount c_patternCount) ++ (wS cI q_w w_forms w_reasons w_lessers w_greaters w_lineGates w_newNumbers w_rows w_gatesBy w_lineCount w_rowCount w_checkCount w_patternRows w_allRows)) [(0, .ref (q_c 0)), (1, .ref (q_w 0)), (2, .int l2), (3, .int l3)] 74 [] := by
    intro K c_firsts c_seconds c_truths c_levels c_nodeCount w_newNumbers l2 hK n
    induction n with
    | zero => intro l3 c_outLiterals h; rw [C_settleBy_74] at h; exact (wp_n h).elim
    | succ n ih =>
      intro l3 c_outLiterals h
      rw [C_settleBy_74] at h
      refine V_iload_n (pc := 74) C 3 dX0_settleBy_74 rfl rfl ?_
      refine V_iconst (pc := 75) C dX0_settleBy_75 ki_2 ?_
      refine V_icmp_ge (pc := 76) (tgt := 91) C dX0_settleBy_76 (by decide) (fun c1 => ?_) (fun c1 => ?_)
      · replace h := wp_t h c1
        refine V_lv (pc := 91) [0, 2] rfl ?_
        exact hK _ h
      · replace h := wp_f h c1
        refine V_aload_n (pc := 79) C 0 dX0_settleBy_79 rfl rfl ?_
        refine V_iload_n (pc := 80) C 3 dX0_settleBy_80 rfl rfl ?_
        refine V_aload_n (pc := 81) C 1 dX0_settleBy_81 rfl rfl ?_
        refine V_callVv (pc := 82) (As := [.int l3, .ref (q_w 0)]) (st := []) C (c_C_settleOuts (wp_b h)) mk_X0_settleOuts wd_338 dX0_settleBy_82 0 rfl rfl rfl ⟨Nat.le_of_ble_eq_true rfl, Nat.le_of_ble_eq_true rfl⟩ (Nat.le_of_ble_eq_true rfl) rfl (fun c_outLiterals_4 hw => ?_)
        have h := hw
        try dsimp only at h
        try dsimp only
        obtain ⟨v5, ev5, h⟩ := wp_l h
        refine V_iinc (pc := 85) (v := v5) (lv' := [(0, .ref (q_c 0)), (1, .ref (q_w 0)), (2, .int l2), (3, .int v5)]) (j := 3) C dX0_settleBy_85 rfl (by rw [ev5]; rfl) [1, 2, 3, 0] (by decide) rfl ?_
        refine V_goto (pc := 88) (tgt := 74) C dX0_settleBy_88 (by decide) ?_
        exact ih _ _ h
  have hL_27 : ∀ (K : (Nat → Int32) → (Nat → Int32) → (Nat → Int32) → (Nat → Int32) → Int32 → Option (Int32 × (Nat → Int32) × (Nat → Int32) × (Nat → Int32) × (Nat → Int32) × (Nat → Int32) × Int32 × (Nat → Int32))) (c_outLiterals : Nat → Int32) (w_newNumbers : Nat → Int32) (l2 : Int32), (∀ (c_firsts : Nat → Int32) (c_seconds : Nat → Int32) (c_truths : Nat → Int32) (c_levels : Nat → Int32) (c_nodeCount : Int32), wpO (K c_firsts c_seconds c_truths c_levels c_nodeCount) post → V p l e (rmC 3 65) s m args below meth c D A 4 0 0 Q ((wC cI q_c c_firsts c_seconds c_truths c_levels c_outLiterals c_outCounts c_patterns c_inputCount c_nodeCount c_patternCount) ++ (wS cI q_w w_forms w_reasons w_lessers w_greaters w_lineGates w_newNumbers w_rows w_gatesBy w_lineCount w_rowCount w_checkCount w_patternRows w_allRows)) [(0, .ref (q_c 0)), (1, .ref (q_w 0)), (2, .int l2)] 72 []) → ∀ (n : Nat) (l3 : Int32) (c_firsts : Nat → Int32) (c_seconds : Nat → Int32) (c_truths : Nat → Int32) (c_levels : Nat → Int32) (c_nodeCount : Int32), wpO (C_settleBy_27 K c_inputCount w_reasons w_lessers w_greaters w_newNumbers l2 n l3 c_firsts c_seconds c_truths c_levels c_nodeCount) post → V p l e (rmC 3 65) s m args below meth c D A 4 0 0 Q ((wC cI q_c c_firsts c_seconds c_truths c_levels c_outLiterals c_outCounts c_patterns c_inputCount c_nodeCount c_patternCount) ++ (wS cI q_w w_forms w_reasons w_lessers w_greaters w_lineGates w_newNumbers w_rows w_gatesBy w_lineCount w_rowCount w_checkCount w_patternRows w_allRows)) [(0, .ref (q_c 0)), (1, .ref (q_w 0)), (2, .int l2), (3, .int l3)] 27 [] := by
    intro K c_outLiterals w_newNumbers l2 hK n
    induction n with
    | zero => intro l3 c_firsts c_seconds c_truths c_levels c_nodeCount h; rw [C_settleBy_27] at h; exact (wp_n h).elim
    | succ n ih =>
      intro l3 c_firsts c_seconds c_truths c_levels c_nodeCount h
      rw [C_settleBy_27] at h
      refine V_iload_n (pc := 27) C 3 dX0_settleBy_27 rfl rfl ?_
      refine V_iload_n (pc := 28) C 2 dX0_settleBy_28 rfl rfl ?_
      refine V_icmp_ge (pc := 29) (tgt := 72) C dX0_settleBy_29 (by decide) (fun c6 => ?_) (fun c6 => ?_)
      · replace h := wp_t h c6
        refine V_lv (pc := 72) [0, 1, 2] rfl ?_
        exact hK _ _ _ _ _ h
      · replace h := wp_f h c6
        refine V_aload_n (pc := 32) C 1 dX0_settleBy_32 rfl rfl ?_
        refine V_get (pc := 33) C 8 1 inX3 wd_121 dX0_settleBy_33 rfl rfl (by decide) rfl rfl ?_
        refine V_iload_n (pc := 36) C 3 dX0_settleBy_36 rfl rfl ?_
        obtain ⟨b7, h⟩ := wp_c h
        refine V_iald (pc := 37) C 10 dX0_settleBy_37 rfl b7 ?_
        refine V_if_ne (pc := 38) (tgt := 66) C dX0_settleBy_38 (by decide) (fun c8 => ?_) (fun c8 => ?_)
        · replace h := wp_f h c8
          obtain ⟨v9, ev9, h⟩ := wp_l h
          refine V_iinc (pc := 66) (v := v9) (lv' := [(0, .ref (q_c 0)), (1, .ref (q_w 0)), (2, .int l2), (3, .int v9)]) (j := 3) C dX0_settleBy_66 rfl (by rw [ev9]; rfl) [1, 2, 3, 0] (by decide) rfl ?_
          refine V_goto (pc := 69) (tgt := 27) C dX0_settleBy_69 (by decide) ?_
          exact ih _ _ _ _ _ _ h
        · replace h := wp_t h c8
          refine V_aload_n (pc := 41) C 0 dX0_settleBy_41 rfl rfl ?_
          refine V_aload_n (pc := 42) C 1 dX0_settleBy_42 rfl rfl ?_
          refine V_aload_n (pc := 43) C 1 dX0_settleBy_43 rfl rfl ?_
          refine V_get (pc := 44) C 8 2 inX3 wd_123 dX0_settleBy_44 rfl rfl (by decide) rfl rfl ?_
          refine V_iload_n (pc := 47) C 3 dX0_settleBy_47 rfl rfl ?_
          obtain ⟨b10, h⟩ := wp_c h
          refine V_iald (pc := 48) C 11 dX0_settleBy_48 rfl b10 ?_
          refine V_cutVi (pc := 49) (As := [.int (w_lessers (Int32.toNatClampNeg l3))]) (st := [.ref (q_c 0)]) (w0 := (wS cI q_w w_forms w_reasons w_lessers w_greaters w_lineGates w_newNumbers w_rows w_gatesBy w_lineCount w_rowCount w_checkCount w_patternRows w_allRows)) (wr := (wC cI q_c c_firsts c_seconds c_truths c_levels c_outLiterals c_outCounts c_patterns c_inputCount c_nodeCount c_patternCount)) (w2 := fun u => ((wC cI q_c c_firsts c_seconds c_truths c_levels c_outLiterals c_outCounts c_patterns c_inputCount c_nodeCount c_patternCount) ++ (wS cI q_w w_forms w_reasons w_lessers w_greaters w_lineGates w_newNumbers w_rows w_gatesBy w_lineCount w_rowCount w_checkCount w_patternRows w_allRows))) C (c_W_numbered (wp_b h)) mk_X3_numbered wd_334 dX0_settleBy_49 8 rfl rfl rfl ⟨Nat.le_of_ble_eq_true rfl, Nat.le_of_ble_eq_true rfl⟩ [8, 9, 10, 11, 12, 13, 14, 15, 16] [0, 1, 2, 3, 4, 5, 6, 7] [0, 1, 2, 3, 4, 5, 6, 7, 8, 9, 10, 11, 12, 13, 14, 15, 16] ⟨rfl, rfl, by decide +kernel, by decide +kernel, by decide +kernel⟩ (by decide +kernel) (fun u => rfl) (Nat.le_of_ble_eq_true rfl) rfl (fun r12 u hw => ?_)
          have h := hw
          try dsimp only at h
          try dsimp only
          refine V_aload_n (pc := 52) C 1 dX0_settleBy_52 rfl rfl ?_
          refine V_aload_n (pc := 53) C 1 dX0_settleBy_53 rfl rfl ?_
          refine V_get (pc := 54) C 8 3 inX3 wd_125 dX0_settleBy_54 rfl rfl (by decide) rfl rfl ?_
          refine V_iload_n (pc := 57) C 3 dX0_settleBy_57 rfl rfl ?_
          obtain ⟨b13, h⟩ := wp_c h
          refine V_iald (pc := 58) C 12 dX0_settleBy_58 rfl b13 ?_
          refine V_cutVi (pc := 59) (As := [.int (w_greaters (Int32.toNatClampNeg l3))]) (st := [.int r12, .ref (q_c 0)]) (w0 := (wS cI q_w w_forms w_reasons w_lessers w_greaters w_lineGates w_newNumbers w_rows w_gatesBy w_lineCount w_rowCount w_checkCount w_patternRows w_allRows)) (wr := (wC cI q_c c_firsts c_seconds c_truths c_levels c_outLiterals c_outCounts c_patterns c_inputCount c_nodeCount c_patternCount)) (w2 := fun u => ((wC cI q_c c_firsts c_seconds c_truths c_levels c_outLiterals c_outCounts c_patterns c_inputCount c_nodeCount c_patternCount) ++ (wS cI q_w w_forms w_reasons w_lessers w_greaters w_lineGates w_newNumbers w_rows w_gatesBy w_lineCount w_rowCount w_checkCount w_patternRows w_allRows))) C (c_W_numbered (wp_b h)) mk_X3_numbered wd_334 dX0_settleBy_59 8 rfl rfl rfl ⟨Nat.le_of_ble_eq_true rfl, Nat.le_of_ble_eq_true rfl⟩ [8, 9, 10, 11, 12, 13, 14, 15, 16] [0, 1, 2, 3, 4, 5, 6, 7] [0, 1, 2, 3, 4, 5, 6, 7, 8, 9, 10, 11, 12, 13, 14, 15, 16] ⟨rfl, rfl, by decide +kernel, by decide +kernel, by decide +kernel⟩ (by decide +kernel) (fun u => rfl) (Nat.le_of_ble_eq_true rfl) rfl (fun r15 u hw => ?_)
          have h := hw
          try dsimp only at h
          try dsimp only
          refine V_cutVi (pc := 62) (As := [.int r12, .int r15]) (st := []) (w0 := (wC cI q_c c_firsts c_seconds c_truths c_levels c_outLiterals c_outCounts c_patterns c_inputCount c_nodeCount c_patternCount)) (wr := (wS cI q_w w_forms w_reasons w_lessers w_greaters w_lineGates w_newNumbers w_rows w_gatesBy w_lineCount w_rowCount w_checkCount w_patternRows w_allRows)) (w2 := fun u => ((wC cI q_c u.1 u.2.1 u.2.2.1 u.2.2.2.1 c_outLiterals c_outCounts c_patterns c_inputCount u.2.2.2.2 c_patternCount) ++ (wS cI q_w w_forms w_reasons w_lessers w_greaters w_lineGates w_newNumbers w_rows w_gatesBy w_lineCount w_rowCount w_checkCount w_patternRows w_allRows))) C (c_C_addGate (wp_b h)) mk_X0_addGate wd_227 dX0_settleBy_62 0 rfl rfl rfl ⟨Nat.le_of_ble_eq_true rfl, Nat.le_of_ble_eq_true rfl⟩ [0, 1, 2, 3, 4, 5, 6, 7] [8, 9, 10, 11, 12, 13, 14, 15, 16] [9, 10, 11, 12, 13, 14, 15, 16, 0, 1, 2, 3, 4, 5, 6, 7, 8] ⟨rfl, rfl, by decide +kernel, by decide +kernel, by decide +kernel⟩ (by decide +kernel) (fun u => rfl) (Nat.le_of_ble_eq_true rfl) rfl (fun r17 u hw => ?_)
          obtain ⟨c_firsts_18, c_seconds_19, c_truths_20, c_levels_21, c_nodeCount_22⟩ := u
          have h := hw
          try dsimp only at h
          try dsimp only
          refine V_pop (pc := 65) C dX0_settleBy_65 rfl ?_
          obtain ⟨v23, ev23, h⟩ := wp_l h
          refine V_iinc (pc := 66) (v := v23) (lv' := [(0, .ref (q_c 0)), (1, .ref (q_w 0)), (2, .int l2), (3, .int v23)]) (j := 3) C dX0_settleBy_66 rfl (by rw [ev23]; rfl) [1, 2, 3, 0] (by decide) rfl ?_
          refine V_goto (pc := 69) (tgt := 27) C dX0_settleBy_69 (by decide) ?_
          exact ih _ _ _ _ _ _ h
  unfold C_settleBy at h
  refine V_aload_n (pc := 0) C 0 dX0_settleBy_0 rfl rfl ?_
  refine V_get (pc := 1) C 0 8 inX0 wd_107 dX0_settleBy_1 rfl rfl (by decide) rfl rfl ?_
  refine V_istore_n (pc := 4) (lv' := [(0, .ref (q_c 0)), (1, .ref (q_w 0)), (2, .int c_nodeCount)]) C dX0_settleBy_4 rfl [1, 2, 0] (by decide) rfl ?_
  refine V_aload_n (pc := 5) C 1 dX0_settleBy_5 rfl rfl ?_
  refine V_iload_n (pc := 6) C 2 dX0_settleBy_6 rfl rfl ?_
  refine V_cutVv (pc := 7) (As := [.int c_nodeCount]) (st := []) (w0 := (wS cI q_w w_forms w_reasons w_lessers w_greaters w_lineGates w_newNumbers w_rows w_gatesBy w_lineCount w_rowCount w_checkCount w_patternRows w_allRows)) (wr := (wC cI q_c c_firsts c_seconds c_truths c_levels c_outLiterals c_outCounts c_patterns c_inputCount c_nodeCount c_patternCount)) (w2 := fun u => ((wC cI q_c c_firsts c_seconds c_truths c_levels c_outLiterals c_outCounts c_patterns c_inputCount c_nodeCount c_patternCount) ++ (wS cI q_w w_forms w_reasons w_lessers w_greaters w_lineGates u w_rows w_gatesBy w_lineCount w_rowCount w_checkCount w_patternRows w_allRows))) C (c_W_numberKept (wp_b h)) mk_X3_numberKept wd_330 dX0_settleBy_7 8 rfl rfl rfl ⟨Nat.le_of_ble_eq_true rfl, Nat.le_of_ble_eq_true rfl⟩ [8, 9, 10, 11, 12, 13, 14, 15, 16] [0, 1, 2, 3, 4, 5, 6, 7] [0, 1, 2, 3, 4, 5, 6, 7, 8, 9, 10, 11, 12, 13, 14, 15, 16] ⟨rfl, rfl, by decide +kernel, by decide +kernel, by decide +kernel⟩ (by decide +kernel) (fun u => rfl) (Nat.le_of_ble_eq_true rfl) rfl (fun w_newNumbers_26 hw => ?_)
  have h := hw
  try dsimp only at h
  try dsimp only
  refine V_aload_n (pc := 10) C 0 dX0_settleBy_10 rfl rfl ?_
  refine V_aload_n (pc := 11) C 0 dX0_settleBy_11 rfl rfl ?_
  refine V_get (pc := 12) C 0 7 inX0 wd_105 dX0_settleBy_12 rfl rfl (by decide) rfl rfl ?_
  refine V_iconst (pc := 15) C dX0_settleBy_15 ki_1 ?_
  refine V_iadd (pc := 16) C dX0_settleBy_16 ?_
  obtain ⟨c_nodeCount_27, ec_nodeCount_27, h⟩ := wp_l h
  refine V_topi (pc := 17) ec_nodeCount_27 ?_
  refine V_put (pc := 17) (ws' := ((wC cI q_c c_firsts c_seconds c_truths c_levels c_outLiterals c_outCounts c_patterns c_inputCount c_nodeCount_27 c_patternCount) ++ (wS cI q_w w_forms w_reasons w_lessers w_greaters w_lineGates w_newNumbers_26 w_rows w_gatesBy w_lineCount w_rowCount w_checkCount w_patternRows w_allRows))) C 0 8 inX0 tyX0_ok nmX0 wd_107 dX0_settleBy_17 rfl rfl (by decide) rfl rfl rfl rfl rfl (Nat.le_of_ble_eq_true rfl) rfl ?_
  refine V_aload_n (pc := 20) C 0 dX0_settleBy_20 rfl rfl ?_
  refine V_get (pc := 21) C 0 7 inX0 wd_105 dX0_settleBy_21 rfl rfl (by decide) rfl rfl ?_
  refine V_iconst (pc := 24) C dX0_settleBy_24 ki_1 ?_
  refine V_iadd (pc := 25) C dX0_settleBy_25 ?_
  obtain ⟨v28, ev28, h⟩ := wp_l h
  refine V_topi (pc := 26) ev28 ?_
  refine V_istore_n (pc := 26) (lv' := [(0, .ref (q_c 0)), (1, .ref (q_w 0)), (2, .int c_nodeCount), (3, .int v28)]) C dX0_settleBy_26 rfl [1, 2, 3, 0] (by decide) rfl ?_
  refine hL_27 _ _ _ _ (fun c_firsts_29 c_seconds_30 c_truths_31 c_levels_32 c_nodeCount_33 h => ?_) 1000 _ _ _ _ _ _ h
  try dsimp only at h
  refine V_iconst (pc := 72) C dX0_settleBy_72 ki_0 ?_
  refine V_istore_n (pc := 73) (lv' := [(0, .ref (q_c 0)), (1, .ref (q_w 0)), (2, .int c_nodeCount), (3, .int 0)]) C dX0_settleBy_73 rfl [1, 2, 3, 0] (by decide) rfl ?_
  refine hL_74 _ _ _ _ _ _ _ _ (fun c_outLiterals_34 h => ?_) 1000 _ _ h
  try dsimp only at h
  refine V_iload_n (pc := 91) C 1 dX0_settleBy_91 rfl rfl ?_
  refine V_aload_n (pc := 92) C 0 dX0_settleBy_92 rfl rfl ?_
  refine V_get (pc := 93) C 0 8 inX0 wd_107 dX0_settleBy_93 rfl rfl (by decide) rfl rfl ?_
  refine V_isub (pc := 96) C dX0_settleBy_96 ?_
  exact V_iret (pc := 97) C hQ (c_firsts_29, c_seconds_30, c_truths_31, c_levels_32, c_outLiterals_34, c_nodeCount_33, w_newNumbers_26) dX0_settleBy_97 (vp_nar_int _) rfl (wp_s h)
set_option maxRecDepth 100000 in
set_option maxHeartbeats 4000000 in
theorem c_C_digestCounts {l : Launch} {D : va_G} {cI cC : ClassId} {q_c : Nat → Nat} {c_firsts : Nat → Int32} {c_seconds : Nat → Int32} {c_truths : Nat → Int32} {c_levels : Nat → Int32} {c_outLiterals : Nat → Int32} {c_outCounts : Nat → Int32} {c_patterns : Nat → Int32} {c_inputCount : Int32} {c_nodeCount : Int32} {c_patternCount : Int32} {a0 : Int64} {post : Int64 → Prop} (h : wpO (C_digestCounts c_outCounts c_inputCount c_nodeCount c_patternCount a0) post) : Cn l yX0_digestCounts cX0_digestCounts 4 (some .long) 1 21 D cI cC [.ref (q_c 0), .long a0] (wC cI q_c c_firsts c_seconds c_truths c_levels c_outLiterals c_outCounts c_patterns c_inputCount c_nodeCount c_patternCount) (QL D cI cC (S := Unit) (fun u => (wC cI q_c c_firsts c_seconds c_truths c_levels c_outLiterals c_outCounts c_patterns c_inputCount c_nodeCount c_patternCount)) (fun r u => post r)) := by
  refine Cn.ofV (own := RX0) (lv0 := [(0, .ref (q_c 0)), (1, .long a0)]) rfl (by decide) (Nat.le_of_ble_eq_true rfl) rfl ?_
  intro p e s m below meth c A args Q hQ C
  have hL_2 : ∀ (K : Int64 → Option (Int64)), (∀ (l1 : Int64), wpO (K l1) post → V p l e (rmC 1 21) s m args below meth c D A 4 0 0 Q (wC cI q_c c_firsts c_seconds c_truths c_levels c_outLiterals c_outCounts c_patterns c_inputCount c_nodeCount c_patternCount) [(1, .long l1)] 26 []) → ∀ (n : Nat) (l1 : Int64) (l3 : Int32), wpO (C_digestCounts_2 K c_outCounts c_inputCount c_nodeCount c_patternCount n l1 l3) post → V p l e (rmC 1 21) s m args below meth c D A 4 0 0 Q (wC cI q_c c_firsts c_seconds c_truths c_levels c_outLiterals c_outCounts c_patterns c_inputCount c_nodeCount c_patternCount) [(0, .ref (q_c 0)), (1, .long l1), (3, .int l3)] 2 [] := by
    intro K   hK n
    induction n with
    | zero => intro l1 l3 h; rw [C_digestCounts_2] at h; exact (wp_n h).elim
    | succ n ih =>
      intro l1 l3 h
      rw [C_digestCounts_2] at h
      refine V_iload_n (pc := 2) C 2 dX0_digestCounts_2 rfl rfl ?_
      refine V_iconst (pc := 3) C dX0_digestCounts_3 ki_4 ?_
      refine V_icmp_gt (pc := 4) (tgt := 26) C dX0_digestCounts_4 (by decide) (fun c1 => ?_) (fun c1 => ?_)
      · replace h := wp_t h c1
        refine V_lv (pc := 26) [1] rfl ?_
        exact hK _ h
      · replace h := wp_f h c1
        refine V_ldc2 (pc := 7) C wd_564 dX0_digestCounts_7 ?_
        refine V_lload_n (pc := 10) C 1 dX0_digestCounts_10 rfl rfl ?_
        refine V_lmul (pc := 11) C dX0_digestCounts_11 ?_
        refine V_aload_n (pc := 12) C 0 dX0_digestCounts_12 rfl rfl ?_
        refine V_iload_n (pc := 13) C 2 dX0_digestCounts_13 rfl rfl ?_
        refine V_callVi (pc := 14) (As := [.int l3]) (st := [.long ((31 : Int64) * l1)]) C (c_C_countOf (wp_b h)) mk_X0_countOf wd_565 dX0_digestCounts_14 0 rfl rfl rfl ⟨Nat.le_of_ble_eq_true rfl, Nat.le_of_ble_eq_true rfl⟩ (Nat.le_of_ble_eq_true rfl) rfl (fun r3 u hw => ?_)
        have h := hw
        try dsimp only at h
        try dsimp only
        refine V_i2l (pc := 17) C dX0_digestCounts_17 ?_
        refine V_ladd (pc := 18) C dX0_digestCounts_18 ?_
        obtain ⟨v4, ev4, h⟩ := wp_l h
        refine V_topl (pc := 19) ev4 ?_
        refine V_lstore_n (pc := 19) (lv' := [(0, .ref (q_c 0)), (1, .long v4), (3, .int l3)]) C dX0_digestCounts_19 rfl [1, 0, 2] (by decide) rfl ?_
        obtain ⟨v5, ev5, h⟩ := wp_l h
        refine V_iinc (pc := 20) (v := v5) (lv' := [(0, .ref (q_c 0)), (1, .long v4), (3, .int v5)]) (j := 2) C dX0_digestCounts_20 rfl (by rw [ev5]; rfl) [1, 2, 0] (by decide) rfl ?_
        refine V_goto (pc := 23) (tgt := 2) C dX0_digestCounts_23 (by decide) ?_
        exact ih _ _ h
  unfold C_digestCounts at h
  refine V_iconst (pc := 0) C dX0_digestCounts_0 ki_0 ?_
  refine V_istore_n (pc := 1) (lv' := [(0, .ref (q_c 0)), (1, .long a0), (3, .int 0)]) C dX0_digestCounts_1 rfl [1, 2, 0] (by decide) rfl ?_
  refine hL_2 _ (fun l1_6 h => ?_) 1000 _ _ h
  try dsimp only at h
  refine V_lload_n (pc := 26) C 0 dX0_digestCounts_26 rfl rfl ?_
  exact V_lret (pc := 27) C hQ () dX0_digestCounts_27 rfl (wp_s h)
set_option maxRecDepth 100000 in
set_option maxHeartbeats 4000000 in
theorem c_C_digestNode {l : Launch} {D : va_G} {cI cC : ClassId} {q_c : Nat → Nat} {c_firsts : Nat → Int32} {c_seconds : Nat → Int32} {c_truths : Nat → Int32} {c_levels : Nat → Int32} {c_outLiterals : Nat → Int32} {c_outCounts : Nat → Int32} {c_patterns : Nat → Int32} {c_inputCount : Int32} {c_nodeCount : Int32} {c_patternCount : Int32} {a0 : Int64} {a1 : Int32} {post : Int64 → Prop} (h : wpO (C_digestNode c_firsts c_seconds c_truths c_patterns c_inputCount c_nodeCount c_patternCount a0 a1) post) : Cn l yX0_digestNode cX0_digestNode 4 (some .long) 1 23 D cI cC [.ref (q_c 0), .long a0, .int a1] (wC cI q_c c_firsts c_seconds c_truths c_levels c_outLiterals c_outCounts c_patterns c_inputCount c_nodeCount c_patternCount) (QL D cI cC (S := Unit) (fun u => (wC cI q_c c_firsts c_seconds c_truths c_levels c_outLiterals c_outCounts c_patterns c_inputCount c_nodeCount c_patternCount)) (fun r u => post r)) := by
  refine Cn.ofV (own := RX0) (lv0 := [(0, .ref (q_c 0)), (1, .long a0), (3, .int a1)]) rfl (by decide) (Nat.le_of_ble_eq_true rfl) rfl ?_
  intro p e s m below meth c A args Q hQ C
  unfold C_digestNode at h
  refine V_aload_n (pc := 0) C 0 dX0_digestNode_0 rfl rfl ?_
  refine V_iload_n (pc := 1) C 2 dX0_digestNode_1 rfl rfl ?_
  refine V_callVi (pc := 2) (As := [.int a1]) (st := []) C (c_C_isGate (wp_b h)) mk_X0_isGate wd_570 dX0_digestNode_2 0 rfl rfl rfl ⟨Nat.le_of_ble_eq_true rfl, Nat.le_of_ble_eq_true rfl⟩ (Nat.le_of_ble_eq_true rfl) rfl (fun r2 u hw => ?_)
  obtain ⟨h, z3⟩ := hw
  try dsimp only at h
  try dsimp only
  refine V_if_eq (pc := 5) (tgt := 36) C dX0_digestNode_5 (by decide) (fun c4 => ?_) (fun c4 => ?_)
  · replace h := wp_t h c4
    refine V_ldc2 (pc := 36) C wd_564 dX0_digestNode_36 ?_
    refine V_lload_n (pc := 39) C 1 dX0_digestNode_39 rfl rfl ?_
    refine V_lmul (pc := 40) C dX0_digestNode_40 ?_
    refine V_aload_n (pc := 41) C 0 dX0_digestNode_41 rfl rfl ?_
    refine V_get (pc := 42) C 0 2 inX0 wd_97 dX0_digestNode_42 rfl rfl (by decide) rfl rfl ?_
    refine V_iload_n (pc := 45) C 2 dX0_digestNode_45 rfl rfl ?_
    obtain ⟨b5, h⟩ := wp_c h
    refine V_iald (pc := 46) C 3 dX0_digestNode_46 rfl b5 ?_
    refine V_i2l (pc := 47) C dX0_digestNode_47 ?_
    refine V_ladd (pc := 48) C dX0_digestNode_48 ?_
    obtain ⟨v6, ev6, h⟩ := wp_l h
    refine V_topl (pc := 49) ev6 ?_
    refine V_lstore_n (pc := 49) (lv' := [(0, .ref (q_c 0)), (1, .long v6), (3, .int a1)]) C dX0_digestNode_49 rfl [1, 0, 2] (by decide) rfl ?_
    refine V_ldc2 (pc := 50) C wd_564 dX0_digestNode_50 ?_
    refine V_lload_n (pc := 53) C 1 dX0_digestNode_53 rfl rfl ?_
    refine V_lmul (pc := 54) C dX0_digestNode_54 ?_
    refine V_aload_n (pc := 55) C 0 dX0_digestNode_55 rfl rfl ?_
    refine V_iload_n (pc := 56) C 2 dX0_digestNode_56 rfl rfl ?_
    refine V_callVi (pc := 57) (As := [.int a1]) (st := [.long ((31 : Int64) * v6)]) C (c_C_signOf (wp_b h)) mk_X0_signOf wd_571 dX0_digestNode_57 0 rfl rfl rfl ⟨Nat.le_of_ble_eq_true rfl, Nat.le_of_ble_eq_true rfl⟩ (Nat.le_of_ble_eq_true rfl) rfl (fun r8 u hw => ?_)
    have h := hw
    try dsimp only at h
    try dsimp only
    refine V_i2l (pc := 60) C dX0_digestNode_60 ?_
    refine V_ladd (pc := 61) C dX0_digestNode_61 ?_
    exact V_lret (pc := 62) C hQ () dX0_digestNode_62 rfl (wp_s h)
  · replace h := wp_f h c4
    refine V_ldc2 (pc := 8) C wd_564 dX0_digestNode_8 ?_
    refine V_lload_n (pc := 11) C 1 dX0_digestNode_11 rfl rfl ?_
    refine V_lmul (pc := 12) C dX0_digestNode_12 ?_
    refine V_aload_n (pc := 13) C 0 dX0_digestNode_13 rfl rfl ?_
    refine V_get (pc := 14) C 0 0 inX0 wd_91 dX0_digestNode_14 rfl rfl (by decide) rfl rfl ?_
    refine V_iload_n (pc := 17) C 2 dX0_digestNode_17 rfl rfl ?_
    obtain ⟨b9, h⟩ := wp_c h
    refine V_iald (pc := 18) C 1 dX0_digestNode_18 rfl b9 ?_
    refine V_i2l (pc := 19) C dX0_digestNode_19 ?_
    refine V_ladd (pc := 20) C dX0_digestNode_20 ?_
    obtain ⟨v10, ev10, h⟩ := wp_l h
    refine V_topl (pc := 21) ev10 ?_
    refine V_lstore_n (pc := 21) (lv' := [(0, .ref (q_c 0)), (1, .long v10), (3, .int a1)]) C dX0_digestNode_21 rfl [1, 0, 2] (by decide) rfl ?_
    refine V_ldc2 (pc := 22) C wd_564 dX0_digestNode_22 ?_
    refine V_lload_n (pc := 25) C 1 dX0_digestNode_25 rfl rfl ?_
    refine V_lmul (pc := 26) C dX0_digestNode_26 ?_
    refine V_aload_n (pc := 27) C 0 dX0_digestNode_27 rfl rfl ?_
    refine V_get (pc := 28) C 0 1 inX0 wd_94 dX0_digestNode_28 rfl rfl (by decide) rfl rfl ?_
    refine V_iload_n (pc := 31) C 2 dX0_digestNode_31 rfl rfl ?_
    obtain ⟨b11, h⟩ := wp_c h
    refine V_iald (pc := 32) C 2 dX0_digestNode_32 rfl b11 ?_
    refine V_i2l (pc := 33) C dX0_digestNode_33 ?_
    refine V_ladd (pc := 34) C dX0_digestNode_34 ?_
    obtain ⟨v12, ev12, h⟩ := wp_l h
    refine V_topl (pc := 35) ev12 ?_
    refine V_lstore_n (pc := 35) (lv' := [(0, .ref (q_c 0)), (1, .long v12), (3, .int a1)]) C dX0_digestNode_35 rfl [1, 0, 2] (by decide) rfl ?_
    refine V_ldc2 (pc := 36) C wd_564 dX0_digestNode_36 ?_
    refine V_lload_n (pc := 39) C 1 dX0_digestNode_39 rfl rfl ?_
    refine V_lmul (pc := 40) C dX0_digestNode_40 ?_
    refine V_aload_n (pc := 41) C 0 dX0_digestNode_41 rfl rfl ?_
    refine V_get (pc := 42) C 0 2 inX0 wd_97 dX0_digestNode_42 rfl rfl (by decide) rfl rfl ?_
    refine V_iload_n (pc := 45) C 2 dX0_digestNode_45 rfl rfl ?_
    obtain ⟨b13, h⟩ := wp_c h
    refine V_iald (pc := 46) C 3 dX0_digestNode_46 rfl b13 ?_
    refine V_i2l (pc := 47) C dX0_digestNode_47 ?_
    refine V_ladd (pc := 48) C dX0_digestNode_48 ?_
    obtain ⟨v14, ev14, h⟩ := wp_l h
    refine V_topl (pc := 49) ev14 ?_
    refine V_lstore_n (pc := 49) (lv' := [(0, .ref (q_c 0)), (1, .long v14), (3, .int a1)]) C dX0_digestNode_49 rfl [1, 0, 2] (by decide) rfl ?_
    refine V_ldc2 (pc := 50) C wd_564 dX0_digestNode_50 ?_
    refine V_lload_n (pc := 53) C 1 dX0_digestNode_53 rfl rfl ?_
    refine V_lmul (pc := 54) C dX0_digestNode_54 ?_
    refine V_aload_n (pc := 55) C 0 dX0_digestNode_55 rfl rfl ?_
    refine V_iload_n (pc := 56) C 2 dX0_digestNode_56 rfl rfl ?_
    refine V_callVi (pc := 57) (As := [.int a1]) (st := [.long ((31 : Int64) * v14)]) C (c_C_signOf (wp_b h)) mk_X0_signOf wd_571 dX0_digestNode_57 0 rfl rfl rfl ⟨Nat.le_of_ble_eq_true rfl, Nat.le_of_ble_eq_true rfl⟩ (Nat.le_of_ble_eq_true rfl) rfl (fun r16 u hw => ?_)
    have h := hw
    try dsimp only at h
    try dsimp only
    refine V_i2l (pc := 60) C dX0_digestNode_60 ?_
    refine V_ladd (pc := 61) C dX0_digestNode_61 ?_
    exact V_lret (pc := 62) C hQ () dX0_digestNode_62 rfl (wp_s h)
set_option maxRecDepth 100000 in
set_option maxHeartbeats 4000000 in
theorem c_C_digestOuts {l : Launch} {D : va_G} {cI cC : ClassId} {q_c : Nat → Nat} {c_firsts : Nat → Int32} {c_seconds : Nat → Int32} {c_truths : Nat → Int32} {c_levels : Nat → Int32} {c_outLiterals : Nat → Int32} {c_outCounts : Nat → Int32} {c_patterns : Nat → Int32} {c_inputCount : Int32} {c_nodeCount : Int32} {c_patternCount : Int32} {a0 : Int64} {post : Int64 → Prop} (h : wpO (C_digestOuts c_outLiterals c_outCounts a0) post) : Cn l yX0_digestOuts cX0_digestOuts 5 (some .long) 1 22 D cI cC [.ref (q_c 0), .long a0] (wC cI q_c c_firsts c_seconds c_truths c_levels c_outLiterals c_outCounts c_patterns c_inputCount c_nodeCount c_patternCount) (QL D cI cC (S := Unit) (fun u => (wC cI q_c c_firsts c_seconds c_truths c_levels c_outLiterals c_outCounts c_patterns c_inputCount c_nodeCount c_patternCount)) (fun r u => post r)) := by
  refine Cn.ofV (own := RX0) (lv0 := [(0, .ref (q_c 0)), (1, .long a0)]) rfl (by decide) (Nat.le_of_ble_eq_true rfl) rfl ?_
  intro p e s m below meth c A args Q hQ C
  have hL_10 : ∀ (K : Int64 → Option (Int64)) (l3 : Int32), (∀ (l1 : Int64), wpO (K l1) post → V p l e (rmC 1 22) s m args below meth c D A 5 0 0 Q (wC cI q_c c_firsts c_seconds c_truths c_levels c_outLiterals c_outCounts c_patterns c_inputCount c_nodeCount c_patternCount) [(0, .ref (q_c 0)), (1, .long l1), (3, .int l3)] 42 []) → ∀ (n : Nat) (l1 : Int64) (l4 : Int32), wpO (C_digestOuts_10 K c_outLiterals c_outCounts l3 n l1 l4) post → V p l e (rmC 1 22) s m args below meth c D A 5 0 0 Q (wC cI q_c c_firsts c_seconds c_truths c_levels c_outLiterals c_outCounts c_patterns c_inputCount c_nodeCount c_patternCount) [(0, .ref (q_c 0)), (1, .long l1), (3, .int l3), (4, .int l4)] 10 [] := by
    intro K  l3 hK n
    induction n with
    | zero => intro l1 l4 h; rw [C_digestOuts_10] at h; exact (wp_n h).elim
    | succ n ih =>
      intro l1 l4 h
      rw [C_digestOuts_10] at h
      refine V_iload (pc := 10) C 3 dX0_digestOuts_10 rfl ?_
      refine V_aload_n (pc := 12) C 0 dX0_digestOuts_12 rfl rfl ?_
      refine V_get (pc := 13) C 0 5 inX0 wd_101 dX0_digestOuts_13 rfl rfl (by decide) rfl rfl ?_
      refine V_iload_n (pc := 16) C 2 dX0_digestOuts_16 rfl rfl ?_
      obtain ⟨b1, h⟩ := wp_c h
      refine V_iald (pc := 17) C 6 dX0_digestOuts_17 rfl b1 ?_
      refine V_icmp_ge (pc := 18) (tgt := 42) C dX0_digestOuts_18 (by decide) (fun c2 => ?_) (fun c2 => ?_)
      · replace h := wp_t h c2
        refine V_lv (pc := 42) [0, 1, 2] rfl ?_
        exact hK _ h
      · replace h := wp_f h c2
        refine V_ldc2 (pc := 21) C wd_564 dX0_digestOuts_21 ?_
        refine V_lload_n (pc := 24) C 1 dX0_digestOuts_24 rfl rfl ?_
        refine V_lmul (pc := 25) C dX0_digestOuts_25 ?_
        refine V_aload_n (pc := 26) C 0 dX0_digestOuts_26 rfl rfl ?_
        refine V_iload_n (pc := 27) C 2 dX0_digestOuts_27 rfl rfl ?_
        refine V_iload (pc := 28) C 3 dX0_digestOuts_28 rfl ?_
        refine V_callVi (pc := 30) (As := [.int l3, .int l4]) (st := [.long ((31 : Int64) * l1)]) C (c_C_outOf (wp_b h)) mk_X0_outOf wd_342 dX0_digestOuts_30 0 rfl rfl rfl ⟨Nat.le_of_ble_eq_true rfl, Nat.le_of_ble_eq_true rfl⟩ (Nat.le_of_ble_eq_true rfl) rfl (fun r4 u hw => ?_)
        have h := hw
        try dsimp only at h
        try dsimp only
        refine V_i2l (pc := 33) C dX0_digestOuts_33 ?_
        refine V_ladd (pc := 34) C dX0_digestOuts_34 ?_
        obtain ⟨v5, ev5, h⟩ := wp_l h
        refine V_topl (pc := 35) ev5 ?_
        refine V_lstore_n (pc := 35) (lv' := [(0, .ref (q_c 0)), (1, .long v5), (3, .int l3), (4, .int l4)]) C dX0_digestOuts_35 rfl [1, 0, 2, 3] (by decide) rfl ?_
        obtain ⟨v6, ev6, h⟩ := wp_l h
        refine V_iinc (pc := 36) (v := v6) (lv' := [(0, .ref (q_c 0)), (1, .long v5), (3, .int l3), (4, .int v6)]) (j := 3) C dX0_digestOuts_36 rfl (by rw [ev6]; rfl) [1, 2, 3, 0] (by decide) rfl ?_
        refine V_goto (pc := 39) (tgt := 10) C dX0_digestOuts_39 (by decide) ?_
        exact ih _ _ h
  have hL_2 : ∀ (K : Int64 → Option (Int64)), (∀ (l1 : Int64), wpO (K l1) post → V p l e (rmC 1 22) s m args below meth c D A 5 0 0 Q (wC cI q_c c_firsts c_seconds c_truths c_levels c_outLiterals c_outCounts c_patterns c_inputCount c_nodeCount c_patternCount) [(1, .long l1)] 48 []) → ∀ (n : Nat) (l1 : Int64) (l3 : Int32), wpO (C_digestOuts_2 K c_outLiterals c_outCounts n l1 l3) post → V p l e (rmC 1 22) s m args below meth c D A 5 0 0 Q (wC cI q_c c_firsts c_seconds c_truths c_levels c_outLiterals c_outCounts c_patterns c_inputCount c_nodeCount c_patternCount) [(0, .ref (q_c 0)), (1, .long l1), (3, .int l3)] 2 [] := by
    intro K   hK n
    induction n with
    | zero => intro l1 l3 h; rw [C_digestOuts_2] at h; exact (wp_n h).elim
    | succ n ih =>
      intro l1 l3 h
      rw [C_digestOuts_2] at h
      refine V_iload_n (pc := 2) C 2 dX0_digestOuts_2 rfl rfl ?_
      refine V_iconst (pc := 3) C dX0_digestOuts_3 ki_2 ?_
      refine V_icmp_ge (pc := 4) (tgt := 48) C dX0_digestOuts_4 (by decide) (fun c7 => ?_) (fun c7 => ?_)
      · replace h := wp_t h c7
        refine V_lv (pc := 48) [1] rfl ?_
        exact hK _ h
      · replace h := wp_f h c7
        refine V_iconst (pc := 7) C dX0_digestOuts_7 ki_0 ?_
        refine V_istore (pc := 8) (lv' := [(0, .ref (q_c 0)), (1, .long l1), (3, .int l3), (4, .int 0)]) C dX0_digestOuts_8 [1, 2, 3, 0] (by decide) rfl ?_
        refine hL_10 _ _ (fun l1_8 h => ?_) 1000 _ _ h
        try dsimp only at h
        obtain ⟨v9, ev9, h⟩ := wp_l h
        refine V_iinc (pc := 42) (v := v9) (lv' := [(0, .ref (q_c 0)), (1, .long l1_8), (3, .int v9)]) (j := 2) C dX0_digestOuts_42 rfl (by rw [ev9]; rfl) [1, 2, 0] (by decide) rfl ?_
        refine V_goto (pc := 45) (tgt := 2) C dX0_digestOuts_45 (by decide) ?_
        exact ih _ _ h
  unfold C_digestOuts at h
  refine V_iconst (pc := 0) C dX0_digestOuts_0 ki_0 ?_
  refine V_istore_n (pc := 1) (lv' := [(0, .ref (q_c 0)), (1, .long a0), (3, .int 0)]) C dX0_digestOuts_1 rfl [1, 2, 0] (by decide) rfl ?_
  refine hL_2 _ (fun l1_10 h => ?_) 1000 _ _ h
  try dsimp only at h
  refine V_lload_n (pc := 48) C 0 dX0_digestOuts_48 rfl rfl ?_
  exact V_lret (pc := 49) C hQ () dX0_digestOuts_49 rfl (wp_s h)
set_option maxRecDepth 100000 in
set_option maxHeartbeats 4000000 in
theorem c_W_merge {l : Launch} {D : va_G} {cI cC : ClassId} {q_w : Nat → Nat} {w_forms : Nat → Int32} {w_reasons : Nat → Int32} {w_lessers : Nat → Int32} {w_greaters : Nat → Int32} {w_lineGates : Nat → Int32} {w_newNumbers : Nat → Int32} {w_rows : Nat → Int32} {w_gatesBy : Nat → Int32} {w_lineCount : Int32} {w_rowCount : Int32} {w_checkCount : Int32} {w_patternRows : Int32} {w_allRows : Int32} {a0 : Int32} {a1 : Int32} {a2 : Int32} {post : (Nat → Int32) × (Nat → Int32) → Prop} (h : wpO (W_merge w_forms w_reasons a0 a1 a2) post) : Cn l yX3_merge cX3_merge 4 none 0 0 D cI cC [.ref (q_w 0), .int a0, .int a1, .int a2] (wS cI q_w w_forms w_reasons w_lessers w_greaters w_lineGates w_newNumbers w_rows w_gatesBy w_lineCount w_rowCount w_checkCount w_patternRows w_allRows) (QV D cI cC (S := (Nat → Int32) × (Nat → Int32)) (fun u => (wS cI q_w u.1 u.2 w_lessers w_greaters w_lineGates w_newNumbers w_rows w_gatesBy w_lineCount w_rowCount w_checkCount w_patternRows w_allRows)) (fun u => post u)) := by
  refine Cn.ofV (own := RX3) (lv0 := [(0, .ref (q_w 0)), (1, .int a0), (2, .int a1), (3, .int a2)]) rfl (by decide) (Nat.le_of_ble_eq_true rfl) rfl ?_
  intro p e s m below meth c A args Q hQ C
  unfold W_merge at h
  refine V_aload_n (pc := 0) C 0 dX3_merge_0 rfl rfl ?_
  refine V_get (pc := 1) C 0 0 inX3 wd_118 dX3_merge_1 rfl rfl (by decide) rfl rfl ?_
  refine V_iload_n (pc := 4) C 1 dX3_merge_4 rfl rfl ?_
  refine V_iload_n (pc := 5) C 2 dX3_merge_5 rfl rfl ?_
  obtain ⟨b1, h⟩ := wp_c h
  obtain ⟨w_forms_2, ew_forms_2, h⟩ := wp_l h
  refine V_iast (pc := 6) (ws' := (wS cI q_w w_forms_2 w_reasons w_lessers w_greaters w_lineGates w_newNumbers w_rows w_gatesBy w_lineCount w_rowCount w_checkCount w_patternRows w_allRows)) C 1 dX3_merge_6 rfl b1 ew_forms_2 rfl ?_
  refine V_aload_n (pc := 7) C 0 dX3_merge_7 rfl rfl ?_
  refine V_get (pc := 8) C 0 1 inX3 wd_120 dX3_merge_8 rfl rfl (by decide) rfl rfl ?_
  refine V_iload_n (pc := 11) C 1 dX3_merge_11 rfl rfl ?_
  refine V_iload_n (pc := 12) C 3 dX3_merge_12 rfl rfl ?_
  obtain ⟨b3, h⟩ := wp_c h
  obtain ⟨w_reasons_4, ew_reasons_4, h⟩ := wp_l h
  refine V_iast (pc := 13) (ws' := (wS cI q_w w_forms_2 w_reasons_4 w_lessers w_greaters w_lineGates w_newNumbers w_rows w_gatesBy w_lineCount w_rowCount w_checkCount w_patternRows w_allRows)) C 2 dX3_merge_13 rfl b3 ew_reasons_4 rfl ?_
  exact V_vret (pc := 14) C hQ (w_forms_2, w_reasons_4) dX3_merge_14 rfl (wp_s h)
set_option maxRecDepth 100000 in
set_option maxHeartbeats 4000000 in
theorem c_W_addRow {l : Launch} {D : va_G} {cI cC : ClassId} {q_w : Nat → Nat} {w_forms : Nat → Int32} {w_reasons : Nat → Int32} {w_lessers : Nat → Int32} {w_greaters : Nat → Int32} {w_lineGates : Nat → Int32} {w_newNumbers : Nat → Int32} {w_rows : Nat → Int32} {w_gatesBy : Nat → Int32} {w_lineCount : Int32} {w_rowCount : Int32} {w_checkCount : Int32} {w_patternRows : Int32} {w_allRows : Int32} {a0 : Int32} {post : (Nat → Int32) × Int32 × Int32 → Prop} (h : wpO (W_addRow w_rows w_rowCount w_patternRows a0) post) : Cn l yX3_addRow cX3_addRow 2 none 0 0 D cI cC [.ref (q_w 0), .int a0] (wS cI q_w w_forms w_reasons w_lessers w_greaters w_lineGates w_newNumbers w_rows w_gatesBy w_lineCount w_rowCount w_checkCount w_patternRows w_allRows) (QV D cI cC (S := (Nat → Int32) × Int32 × Int32) (fun u => (wS cI q_w w_forms w_reasons w_lessers w_greaters w_lineGates w_newNumbers u.1 w_gatesBy w_lineCount u.2.1 w_checkCount u.2.2 w_allRows)) (fun u => post u)) := by
  refine Cn.ofV (own := RX3) (lv0 := [(0, .ref (q_w 0)), (1, .int a0)]) rfl (by decide) (Nat.le_of_ble_eq_true rfl) rfl ?_
  intro p e s m below meth c A args Q hQ C
  unfold W_addRow at h
  refine V_aload_n (pc := 0) C 0 dX3_addRow_0 rfl rfl ?_
  refine V_get (pc := 1) C 0 9 inX3 wd_133 dX3_addRow_1 rfl rfl (by decide) rfl rfl ?_
  refine V_bipush (pc := 4) C dX3_addRow_4 kb_12 ?_
  refine V_icmp_ge (pc := 6) (tgt := 41) C dX3_addRow_6 (by decide) (fun c1 => ?_) (fun c1 => ?_)
  · replace h := wp_t h c1
    exact V_vret (pc := 41) C hQ (w_rows, w_rowCount, w_patternRows) dX3_addRow_41 rfl (wp_s h)
  · replace h := wp_f h c1
    refine V_aload_n (pc := 9) C 0 dX3_addRow_9 rfl rfl ?_
    refine V_get (pc := 10) C 0 6 inX3 wd_128 dX3_addRow_10 rfl rfl (by decide) rfl rfl ?_
    refine V_aload_n (pc := 13) C 0 dX3_addRow_13 rfl rfl ?_
    refine V_get (pc := 14) C 0 9 inX3 wd_133 dX3_addRow_14 rfl rfl (by decide) rfl rfl ?_
    refine V_iload_n (pc := 17) C 1 dX3_addRow_17 rfl rfl ?_
    obtain ⟨b2, h⟩ := wp_c h
    obtain ⟨w_rows_3, ew_rows_3, h⟩ := wp_l h
    refine V_iast (pc := 18) (ws' := (wS cI q_w w_forms w_reasons w_lessers w_greaters w_lineGates w_newNumbers w_rows_3 w_gatesBy w_lineCount w_rowCount w_checkCount w_patternRows w_allRows)) C 7 dX3_addRow_18 rfl b2 ew_rows_3 rfl ?_
    refine V_aload_n (pc := 19) C 0 dX3_addRow_19 rfl rfl ?_
    refine V_dup (pc := 20) C dX3_addRow_20 rfl ?_
    refine V_get (pc := 21) C 0 9 inX3 wd_133 dX3_addRow_21 rfl rfl (by decide) rfl rfl ?_
    refine V_iconst (pc := 24) C dX3_addRow_24 ki_1 ?_
    refine V_iadd (pc := 25) C dX3_addRow_25 ?_
    obtain ⟨w_rowCount_4, ew_rowCount_4, h⟩ := wp_l h
    refine V_topi (pc := 26) ew_rowCount_4 ?_
    refine V_put (pc := 26) (ws' := (wS cI q_w w_forms w_reasons w_lessers w_greaters w_lineGates w_newNumbers w_rows_3 w_gatesBy w_lineCount w_rowCount_4 w_checkCount w_patternRows w_allRows)) C 0 9 inX3 tyX3_ok nmX3 wd_133 dX3_addRow_26 rfl rfl (by decide) rfl rfl rfl rfl rfl (Nat.le_of_ble_eq_true rfl) rfl ?_
    refine V_aload_n (pc := 29) C 0 dX3_addRow_29 rfl rfl ?_
    refine V_dup (pc := 30) C dX3_addRow_30 rfl ?_
    refine V_get (pc := 31) C 0 11 inX3 wd_136 dX3_addRow_31 rfl rfl (by decide) rfl rfl ?_
    refine V_iconst (pc := 34) C dX3_addRow_34 ki_1 ?_
    refine V_iload_n (pc := 35) C 1 dX3_addRow_35 rfl rfl ?_
    refine V_ishl (pc := 36) C dX3_addRow_36 ?_
    refine V_ior (pc := 37) C dX3_addRow_37 ?_
    obtain ⟨w_patternRows_5, ew_patternRows_5, h⟩ := wp_l h
    refine V_topi (pc := 38) ew_patternRows_5 ?_
    refine V_put (pc := 38) (ws' := (wS cI q_w w_forms w_reasons w_lessers w_greaters w_lineGates w_newNumbers w_rows_3 w_gatesBy w_lineCount w_rowCount_4 w_checkCount w_patternRows_5 w_allRows)) C 0 11 inX3 tyX3_ok nmX3 wd_136 dX3_addRow_38 rfl rfl (by decide) rfl rfl rfl rfl rfl (Nat.le_of_ble_eq_true rfl) rfl ?_
    exact V_vret (pc := 41) C hQ (w_rows_3, w_rowCount_4, w_patternRows_5) dX3_addRow_41 rfl (wp_s h)
set_option maxRecDepth 100000 in
set_option maxHeartbeats 4000000 in
theorem c_W_begin {l : Launch} {D : va_G} {cI cC : ClassId} {q_w : Nat → Nat} {q_c : Nat → Nat} {w_forms : Nat → Int32} {w_reasons : Nat → Int32} {w_lessers : Nat → Int32} {w_greaters : Nat → Int32} {w_lineGates : Nat → Int32} {w_newNumbers : Nat → Int32} {w_rows : Nat → Int32} {w_gatesBy : Nat → Int32} {w_lineCount : Int32} {w_rowCount : Int32} {w_checkCount : Int32} {w_patternRows : Int32} {w_allRows : Int32} {c_firsts : Nat → Int32} {c_seconds : Nat → Int32} {c_truths : Nat → Int32} {c_levels : Nat → Int32} {c_outLiterals : Nat → Int32} {c_outCounts : Nat → Int32} {c_patterns : Nat → Int32} {c_inputCount : Int32} {c_nodeCount : Int32} {c_patternCount : Int32} {post : (Nat → Int32) × (Nat → Int32) × (Nat → Int32) × (Nat → Int32) × Int32 × Int32 × Int32 × Int32 × Int32 → Prop} (h : wpO (W_begin c_patterns c_inputCount c_patternCount w_forms w_reasons w_rows w_gatesBy w_lineCount w_rowCount w_checkCount w_patternRows w_allRows) post) : Cn l yX3_begin cX3_begin 3 none 1 23 D cI cC [.ref (q_w 0), .ref (q_c 0)] ((wS cI q_w w_forms w_reasons w_lessers w_greaters w_lineGates w_newNumbers w_rows w_gatesBy w_lineCount w_rowCount w_checkCount w_patternRows w_allRows) ++ (wC cI q_c c_firsts c_seconds c_truths c_levels c_outLiterals c_outCounts c_patterns c_inputCount c_nodeCount c_patternCount)) (QV D cI cC (S := (Nat → Int32) × (Nat → Int32) × (Nat → Int32) × (Nat → Int32) × Int32 × Int32 × Int32 × Int32 × Int32) (fun u => ((wS cI q_w u.1 u.2.1 w_lessers w_greaters w_lineGates w_newNumbers u.2.2.1 u.2.2.2.1 u.2.2.2.2.1 u.2.2.2.2.2.1 u.2.2.2.2.2.2.1 u.2.2.2.2.2.2.2.1 u.2.2.2.2.2.2.2.2) ++ (wC cI q_c c_firsts c_seconds c_truths c_levels c_outLiterals c_outCounts c_patterns c_inputCount c_nodeCount c_patternCount))) (fun u => post u)) := by
  refine Cn.ofV (own := RX3) (lv0 := [(0, .ref (q_w 0)), (1, .ref (q_c 0))]) rfl (by decide) (Nat.le_of_ble_eq_true rfl) rfl ?_
  intro p e s m below meth c A args Q hQ C
  have hL_20 : ∀ (K : (Nat → Int32) → Option ((Nat → Int32) × (Nat → Int32) × (Nat → Int32) × (Nat → Int32) × Int32 × Int32 × Int32 × Int32 × Int32)) (w_forms : Nat → Int32) (w_reasons : Nat → Int32) (w_rows : Nat → Int32) (w_lineCount : Int32) (w_rowCount : Int32) (w_checkCount : Int32) (w_patternRows : Int32) (w_allRows : Int32), (∀ (w_gatesBy : Nat → Int32), wpO (K w_gatesBy) post → V p l e (rmC 1 23) s m args below meth c D A 3 0 0 Q ((wS cI q_w w_forms w_reasons w_lessers w_greaters w_lineGates w_newNumbers w_rows w_gatesBy w_lineCount w_rowCount w_checkCount w_patternRows w_allRows) ++ (wC cI q_c c_firsts c_seconds c_truths c_levels c_outLiterals c_outCounts c_patterns c_inputCount c_nodeCount c_patternCount)) [(0, .ref (q_w 0)), (1, .ref (q_c 0))] 38 []) → ∀ (n : Nat) (l2 : Int32) (w_gatesBy : Nat → Int32), wpO (W_begin_20 K n l2 w_gatesBy) post → V p l e (rmC 1 23) s m args below meth c D A 3 0 0 Q ((wS cI q_w w_forms w_reasons w_lessers w_greaters w_lineGates w_newNumbers w_rows w_gatesBy w_lineCount w_rowCount w_checkCount w_patternRows w_allRows) ++ (wC cI q_c c_firsts c_seconds c_truths c_levels c_outLiterals c_outCounts c_patterns c_inputCount c_nodeCount c_patternCount)) [(0, .ref (q_w 0)), (1, .ref (q_c 0)), (2, .int l2)] 20 [] := by
    intro K w_forms w_reasons w_rows w_lineCount w_rowCount w_checkCount w_patternRows w_allRows  hK n
    induction n with
    | zero => intro l2 w_gatesBy h; rw [W_begin_20] at h; exact (wp_n h).elim
    | succ n ih =>
      intro l2 w_gatesBy h
      rw [W_begin_20] at h
      refine V_iload_n (pc := 20) C 2 dX3_begin_20 rfl rfl ?_
      refine V_iconst (pc := 21) C dX3_begin_21 ki_3 ?_
      refine V_icmp_gt (pc := 22) (tgt := 38) C dX3_begin_22 (by decide) (fun c1 => ?_) (fun c1 => ?_)
      · replace h := wp_t h c1
        refine V_lv (pc := 38) [0, 1] rfl ?_
        exact hK _ h
      · replace h := wp_f h c1
        refine V_aload_n (pc := 25) C 0 dX3_begin_25 rfl rfl ?_
        refine V_get (pc := 26) C 0 7 inX3 wd_130 dX3_begin_26 rfl rfl (by decide) rfl rfl ?_
        refine V_iload_n (pc := 29) C 2 dX3_begin_29 rfl rfl ?_
        refine V_iconst (pc := 30) C dX3_begin_30 ki_0 ?_
        obtain ⟨b2, h⟩ := wp_c h
        obtain ⟨w_gatesBy_3, ew_gatesBy_3, h⟩ := wp_l h
        refine V_iast (pc := 31) (ws' := ((wS cI q_w w_forms w_reasons w_lessers w_greaters w_lineGates w_newNumbers w_rows w_gatesBy_3 w_lineCount w_rowCount w_checkCount w_patternRows w_allRows) ++ (wC cI q_c c_firsts c_seconds c_truths c_levels c_outLiterals c_outCounts c_patterns c_inputCount c_nodeCount c_patternCount))) C 8 dX3_begin_31 rfl b2 ew_gatesBy_3 rfl ?_
        obtain ⟨v4, ev4, h⟩ := wp_l h
        refine V_iinc (pc := 32) (v := v4) (lv' := [(0, .ref (q_w 0)), (1, .ref (q_c 0)), (2, .int v4)]) (j := 2) C dX3_begin_32 rfl (by rw [ev4]; rfl) [1, 2, 0] (by decide) rfl ?_
        refine V_goto (pc := 35) (tgt := 20) C dX3_begin_35 (by decide) ?_
        exact ih _ _ h
  have hL_75 : ∀ (K : (Nat → Int32) → Int32 → Int32 → Option ((Nat → Int32) × (Nat → Int32) × (Nat → Int32) × (Nat → Int32) × Int32 × Int32 × Int32 × Int32 × Int32)) (w_forms : Nat → Int32) (w_reasons : Nat → Int32) (w_gatesBy : Nat → Int32) (w_lineCount : Int32) (w_checkCount : Int32) (w_allRows : Int32), (∀ (w_rows : Nat → Int32) (w_rowCount : Int32) (w_patternRows : Int32), wpO (K w_rows w_rowCount w_patternRows) post → V p l e (rmC 1 23) s m args below meth c D A 3 0 0 Q ((wS cI q_w w_forms w_reasons w_lessers w_greaters w_lineGates w_newNumbers w_rows w_gatesBy w_lineCount w_rowCount w_checkCount w_patternRows w_allRows) ++ (wC cI q_c c_firsts c_seconds c_truths c_levels c_outLiterals c_outCounts c_patterns c_inputCount c_nodeCount c_patternCount)) [] 99 []) → ∀ (n : Nat) (l2 : Int32) (w_rows : Nat → Int32) (w_rowCount : Int32) (w_patternRows : Int32), wpO (W_begin_75 K c_patterns c_patternCount n l2 w_rows w_rowCount w_patternRows) post → V p l e (rmC 1 23) s m args below meth c D A 3 0 0 Q ((wS cI q_w w_forms w_reasons w_lessers w_greaters w_lineGates w_newNumbers w_rows w_gatesBy w_lineCount w_rowCount w_checkCount w_patternRows w_allRows) ++ (wC cI q_c c_firsts c_seconds c_truths c_levels c_outLiterals c_outCounts c_patterns c_inputCount c_nodeCount c_patternCount)) [(0, .ref (q_w 0)), (1, .ref (q_c 0)), (2, .int l2)] 75 [] := by
    intro K w_forms w_reasons w_gatesBy w_lineCount w_checkCount w_allRows  hK n
    induction n with
    | zero => intro l2 w_rows w_rowCount w_patternRows h; rw [W_begin_75] at h; exact (wp_n h).elim
    | succ n ih =>
      intro l2 w_rows w_rowCount w_patternRows h
      rw [W_begin_75] at h
      refine V_iload_n (pc := 75) C 2 dX3_begin_75 rfl rfl ?_
      refine V_aload_n (pc := 76) C 1 dX3_begin_76 rfl rfl ?_
      refine V_get (pc := 77) C 9 9 inX0 wd_111 dX3_begin_77 rfl rfl (by decide) rfl rfl ?_
      refine V_icmp_ge (pc := 80) (tgt := 99) C dX3_begin_80 (by decide) (fun c5 => ?_) (fun c5 => ?_)
      · replace h := wp_t h c5
        refine V_lv (pc := 99) [] rfl ?_
        exact hK _ _ _ h
      · replace h := wp_f h c5
        refine V_aload_n (pc := 83) C 0 dX3_begin_83 rfl rfl ?_
        refine V_aload_n (pc := 84) C 1 dX3_begin_84 rfl rfl ?_
        refine V_get (pc := 85) C 9 6 inX0 wd_104 dX3_begin_85 rfl rfl (by decide) rfl rfl ?_
        refine V_iload_n (pc := 88) C 2 dX3_begin_88 rfl rfl ?_
        obtain ⟨b6, h⟩ := wp_c h
        refine V_iald (pc := 89) C 16 dX3_begin_89 rfl b6 ?_
        refine V_cutVv (pc := 90) (As := [.int (c_patterns (Int32.toNatClampNeg l2))]) (st := []) (w0 := (wS cI q_w w_forms w_reasons w_lessers w_greaters w_lineGates w_newNumbers w_rows w_gatesBy w_lineCount w_rowCount w_checkCount w_patternRows w_allRows)) (wr := (wC cI q_c c_firsts c_seconds c_truths c_levels c_outLiterals c_outCounts c_patterns c_inputCount c_nodeCount c_patternCount)) (w2 := fun u => ((wS cI q_w w_forms w_reasons w_lessers w_greaters w_lineGates w_newNumbers u.1 w_gatesBy w_lineCount u.2.1 w_checkCount u.2.2 w_allRows) ++ (wC cI q_c c_firsts c_seconds c_truths c_levels c_outLiterals c_outCounts c_patterns c_inputCount c_nodeCount c_patternCount))) C (c_W_addRow (wp_b h)) mk_X3_addRow wd_294 dX3_begin_90 0 rfl rfl rfl ⟨Nat.le_of_ble_eq_true rfl, Nat.le_of_ble_eq_true rfl⟩ [0, 1, 2, 3, 4, 5, 6, 7, 8] [9, 10, 11, 12, 13, 14, 15, 16] [8, 9, 10, 11, 12, 13, 14, 15, 16, 0, 1, 2, 3, 4, 5, 6, 7] ⟨rfl, rfl, by decide +kernel, by decide +kernel, by decide +kernel⟩ (by decide +kernel) (fun u => rfl) (Nat.le_of_ble_eq_true rfl) rfl (fun u hw => ?_)
        obtain ⟨w_rows_9, w_rowCount_10, w_patternRows_11⟩ := u
        have h := hw
        try dsimp only at h
        try dsimp only
        obtain ⟨v12, ev12, h⟩ := wp_l h
        refine V_iinc (pc := 93) (v := v12) (lv' := [(0, .ref (q_w 0)), (1, .ref (q_c 0)), (2, .int v12)]) (j := 2) C dX3_begin_93 rfl (by rw [ev12]; rfl) [1, 2, 0] (by decide) rfl ?_
        refine V_goto (pc := 96) (tgt := 75) C dX3_begin_96 (by decide) ?_
        exact ih _ _ _ _ h
  have hL_40 : ∀ (K : (Nat → Int32) → (Nat → Int32) → Option ((Nat → Int32) × (Nat → Int32) × (Nat → Int32) × (Nat → Int32) × Int32 × Int32 × Int32 × Int32 × Int32)) (w_rows : Nat → Int32) (w_gatesBy : Nat → Int32) (w_lineCount : Int32) (w_rowCount : Int32) (w_checkCount : Int32) (w_patternRows : Int32) (w_allRows : Int32), (∀ (w_forms : Nat → Int32) (w_reasons : Nat → Int32), wpO (K w_forms w_reasons) post → V p l e (rmC 1 23) s m args below meth c D A 3 0 0 Q ((wS cI q_w w_forms w_reasons w_lessers w_greaters w_lineGates w_newNumbers w_rows w_gatesBy w_lineCount w_rowCount w_checkCount w_patternRows w_allRows) ++ (wC cI q_c c_firsts c_seconds c_truths c_levels c_outLiterals c_outCounts c_patterns c_inputCount c_nodeCount c_patternCount)) [(0, .ref (q_w 0)), (1, .ref (q_c 0))] 63 []) → ∀ (n : Nat) (l2 : Int32) (w_forms : Nat → Int32) (w_reasons : Nat → Int32), wpO (W_begin_40 K c_inputCount n l2 w_forms w_reasons) post → V p l e (rmC 1 23) s m args below meth c D A 3 0 0 Q ((wS cI q_w w_forms w_reasons w_lessers w_greaters w_lineGates w_newNumbers w_rows w_gatesBy w_lineCount w_rowCount w_checkCount w_patternRows w_allRows) ++ (wC cI q_c c_firsts c_seconds c_truths c_levels c_outLiterals c_outCounts c_patterns c_inputCount c_nodeCount c_patternCount)) [(0, .ref (q_w 0)), (1, .ref (q_c 0)), (2, .int l2)] 40 [] := by
    intro K w_rows w_gatesBy w_lineCount w_rowCount w_checkCount w_patternRows w_allRows  hK n
    induction n with
    | zero => intro l2 w_forms w_reasons h; rw [W_begin_40] at h; exact (wp_n h).elim
    | succ n ih =>
      intro l2 w_forms w_reasons h
      rw [W_begin_40] at h
      refine V_iload_n (pc := 40) C 2 dX3_begin_40 rfl rfl ?_
      refine V_aload_n (pc := 41) C 1 dX3_begin_41 rfl rfl ?_
      refine V_get (pc := 42) C 9 7 inX0 wd_106 dX3_begin_42 rfl rfl (by decide) rfl rfl ?_
      refine V_icmp_gt (pc := 45) (tgt := 63) C dX3_begin_45 (by decide) (fun c13 => ?_) (fun c13 => ?_)
      · replace h := wp_t h c13
        refine V_lv (pc := 63) [0, 1] rfl ?_
        exact hK _ _ h
      · replace h := wp_f h c13
        refine V_aload_n (pc := 48) C 0 dX3_begin_48 rfl rfl ?_
        refine V_iload_n (pc := 49) C 2 dX3_begin_49 rfl rfl ?_
        refine V_iconst (pc := 50) C dX3_begin_50 ki_2 ?_
        refine V_iload_n (pc := 51) C 2 dX3_begin_51 rfl rfl ?_
        refine V_imul (pc := 52) C dX3_begin_52 ?_
        refine V_iconst (pc := 53) C dX3_begin_53 ki_0 ?_
        refine V_cutVv (pc := 54) (As := [.int l2, .int ((2 : Int32) * l2), .int 0]) (st := []) (w0 := (wS cI q_w w_forms w_reasons w_lessers w_greaters w_lineGates w_newNumbers w_rows w_gatesBy w_lineCount w_rowCount w_checkCount w_patternRows w_allRows)) (wr := (wC cI q_c c_firsts c_seconds c_truths c_levels c_outLiterals c_outCounts c_patterns c_inputCount c_nodeCount c_patternCount)) (w2 := fun u => ((wS cI q_w u.1 u.2 w_lessers w_greaters w_lineGates w_newNumbers w_rows w_gatesBy w_lineCount w_rowCount w_checkCount w_patternRows w_allRows) ++ (wC cI q_c c_firsts c_seconds c_truths c_levels c_outLiterals c_outCounts c_patterns c_inputCount c_nodeCount c_patternCount))) C (c_W_merge (wp_b h)) mk_X3_merge wd_290 dX3_begin_54 0 rfl rfl rfl ⟨Nat.le_of_ble_eq_true rfl, Nat.le_of_ble_eq_true rfl⟩ [0, 1, 2, 3, 4, 5, 6, 7, 8] [9, 10, 11, 12, 13, 14, 15, 16] [8, 9, 10, 11, 12, 13, 14, 15, 16, 0, 1, 2, 3, 4, 5, 6, 7] ⟨rfl, rfl, by decide +kernel, by decide +kernel, by decide +kernel⟩ (by decide +kernel) (fun u => rfl) (Nat.le_of_ble_eq_true rfl) rfl (fun u hw => ?_)
        obtain ⟨w_forms_16, w_reasons_17⟩ := u
        have h := hw
        try dsimp only at h
        try dsimp only
        obtain ⟨v18, ev18, h⟩ := wp_l h
        refine V_iinc (pc := 57) (v := v18) (lv' := [(0, .ref (q_w 0)), (1, .ref (q_c 0)), (2, .int v18)]) (j := 2) C dX3_begin_57 rfl (by rw [ev18]; rfl) [1, 2, 0] (by decide) rfl ?_
        refine V_goto (pc := 60) (tgt := 40) C dX3_begin_60 (by decide) ?_
        exact ih _ _ _ h
  unfold W_begin at h
  refine V_aload_n (pc := 0) C 0 dX3_begin_0 rfl rfl ?_
  refine V_iconst (pc := 1) C dX3_begin_1 ki_0 ?_
  refine V_put (pc := 2) (ws' := ((wS cI q_w w_forms w_reasons w_lessers w_greaters w_lineGates w_newNumbers w_rows w_gatesBy 0 w_rowCount w_checkCount w_patternRows w_allRows) ++ (wC cI q_c c_firsts c_seconds c_truths c_levels c_outLiterals c_outCounts c_patterns c_inputCount c_nodeCount c_patternCount))) C 0 8 inX3 tyX3_ok nmX3 wd_131 dX3_begin_2 rfl rfl (by decide) rfl rfl rfl rfl rfl (Nat.le_of_ble_eq_true rfl) rfl ?_
  refine V_aload_n (pc := 5) C 0 dX3_begin_5 rfl rfl ?_
  refine V_iconst (pc := 6) C dX3_begin_6 ki_0 ?_
  refine V_put (pc := 7) (ws' := ((wS cI q_w w_forms w_reasons w_lessers w_greaters w_lineGates w_newNumbers w_rows w_gatesBy 0 w_rowCount 0 w_patternRows w_allRows) ++ (wC cI q_c c_firsts c_seconds c_truths c_levels c_outLiterals c_outCounts c_patterns c_inputCount c_nodeCount c_patternCount))) C 0 10 inX3 tyX3_ok nmX3 wd_135 dX3_begin_7 rfl rfl (by decide) rfl rfl rfl rfl rfl (Nat.le_of_ble_eq_true rfl) rfl ?_
  refine V_aload_n (pc := 10) C 0 dX3_begin_10 rfl rfl ?_
  refine V_aload_n (pc := 11) C 1 dX3_begin_11 rfl rfl ?_
  refine V_cutVi (pc := 12) (As := []) (st := [.ref (q_w 0)]) (w0 := (wC cI q_c c_firsts c_seconds c_truths c_levels c_outLiterals c_outCounts c_patterns c_inputCount c_nodeCount c_patternCount)) (wr := (wS cI q_w w_forms w_reasons w_lessers w_greaters w_lineGates w_newNumbers w_rows w_gatesBy 0 w_rowCount 0 w_patternRows w_allRows)) (w2 := fun u => ((wS cI q_w w_forms w_reasons w_lessers w_greaters w_lineGates w_newNumbers w_rows w_gatesBy 0 w_rowCount 0 w_patternRows w_allRows) ++ (wC cI q_c c_firsts c_seconds c_truths c_levels c_outLiterals c_outCounts c_patterns c_inputCount c_nodeCount c_patternCount))) C (c_C_allRows (wp_b h)) mk_X0_allRows wd_289 dX3_begin_12 9 rfl rfl rfl ⟨Nat.le_of_ble_eq_true rfl, Nat.le_of_ble_eq_true rfl⟩ [9, 10, 11, 12, 13, 14, 15, 16] [0, 1, 2, 3, 4, 5, 6, 7, 8] [0, 1, 2, 3, 4, 5, 6, 7, 8, 9, 10, 11, 12, 13, 14, 15, 16] ⟨rfl, rfl, by decide +kernel, by decide +kernel, by decide +kernel⟩ (by decide +kernel) (fun u => rfl) (Nat.le_of_ble_eq_true rfl) rfl (fun r20 u hw => ?_)
  have h := hw
  try dsimp only at h
  try dsimp only
  refine V_put (pc := 15) (ws' := ((wS cI q_w w_forms w_reasons w_lessers w_greaters w_lineGates w_newNumbers w_rows w_gatesBy 0 w_rowCount 0 w_patternRows r20) ++ (wC cI q_c c_firsts c_seconds c_truths c_levels c_outLiterals c_outCounts c_patterns c_inputCount c_nodeCount c_patternCount))) C 0 12 inX3 tyX3_ok nmX3 wd_137 dX3_begin_15 rfl rfl (by decide) rfl rfl rfl rfl rfl (Nat.le_of_ble_eq_true rfl) rfl ?_
  refine V_iconst (pc := 18) C dX3_begin_18 ki_0 ?_
  refine V_istore_n (pc := 19) (lv' := [(0, .ref (q_w 0)), (1, .ref (q_c 0)), (2, .int 0)]) C dX3_begin_19 rfl [1, 2, 0] (by decide) rfl ?_
  refine hL_20 _ _ _ _ _ _ _ _ _ (fun w_gatesBy_21 h => ?_) 1000 _ _ h
  try dsimp only at h
  refine V_iconst (pc := 38) C dX3_begin_38 ki_0 ?_
  refine V_istore_n (pc := 39) (lv' := [(0, .ref (q_w 0)), (1, .ref (q_c 0)), (2, .int 0)]) C dX3_begin_39 rfl [1, 2, 0] (by decide) rfl ?_
  refine hL_40 _ _ _ _ _ _ _ _ (fun w_forms_22 w_reasons_23 h => ?_) 1000 _ _ _ h
  try dsimp only at h
  refine V_aload_n (pc := 63) C 0 dX3_begin_63 rfl rfl ?_
  refine V_iconst (pc := 64) C dX3_begin_64 ki_0 ?_
  refine V_put (pc := 65) (ws' := ((wS cI q_w w_forms_22 w_reasons_23 w_lessers w_greaters w_lineGates w_newNumbers w_rows w_gatesBy_21 0 0 0 w_patternRows r20) ++ (wC cI q_c c_firsts c_seconds c_truths c_levels c_outLiterals c_outCounts c_patterns c_inputCount c_nodeCount c_patternCount))) C 0 9 inX3 tyX3_ok nmX3 wd_133 dX3_begin_65 rfl rfl (by decide) rfl rfl rfl rfl rfl (Nat.le_of_ble_eq_true rfl) rfl ?_
  refine V_aload_n (pc := 68) C 0 dX3_begin_68 rfl rfl ?_
  refine V_iconst (pc := 69) C dX3_begin_69 ki_0 ?_
  refine V_put (pc := 70) (ws' := ((wS cI q_w w_forms_22 w_reasons_23 w_lessers w_greaters w_lineGates w_newNumbers w_rows w_gatesBy_21 0 0 0 0 r20) ++ (wC cI q_c c_firsts c_seconds c_truths c_levels c_outLiterals c_outCounts c_patterns c_inputCount c_nodeCount c_patternCount))) C 0 11 inX3 tyX3_ok nmX3 wd_136 dX3_begin_70 rfl rfl (by decide) rfl rfl rfl rfl rfl (Nat.le_of_ble_eq_true rfl) rfl ?_
  refine V_iconst (pc := 73) C dX3_begin_73 ki_0 ?_
  refine V_istore_n (pc := 74) (lv' := [(0, .ref (q_w 0)), (1, .ref (q_c 0)), (2, .int 0)]) C dX3_begin_74 rfl [1, 2, 0] (by decide) rfl ?_
  refine hL_75 _ _ _ _ _ _ _ (fun w_rows_24 w_rowCount_25 w_patternRows_26 h => ?_) 1000 _ _ _ _ h
  try dsimp only at h
  exact V_vret (pc := 99) C hQ (w_forms_22, w_reasons_23, w_rows_24, w_gatesBy_21, 0, w_rowCount_25, 0, w_patternRows_26, r20) dX3_begin_99 rfl (wp_s h)
set_option maxRecDepth 100000 in
set_option maxHeartbeats 4000000 in
theorem c_W_formByRule {l : Launch} {D : va_G} {cI cC : ClassId} {q_w : Nat → Nat} {w_forms : Nat → Int32} {w_reasons : Nat → Int32} {w_lessers : Nat → Int32} {w_greaters : Nat → Int32} {w_lineGates : Nat → Int32} {w_newNumbers : Nat → Int32} {w_rows : Nat → Int32} {w_gatesBy : Nat → Int32} {w_lineCount : Int32} {w_rowCount : Int32} {w_checkCount : Int32} {w_patternRows : Int32} {w_allRows : Int32} {a0 : Int32} {a1 : Int32} {post : Int32 → Prop} (h : wpO (W_formByRule a0 a1) post) : Cn l yX3_formByRule cX3_formByRule 3 (some .int) 0 0 D cI cC [.ref (q_w 0), .int a0, .int a1] (wS cI q_w w_forms w_reasons w_lessers w_greaters w_lineGates w_newNumbers w_rows w_gatesBy w_lineCount w_rowCount w_checkCount w_patternRows w_allRows) (QI D cI cC (S := Unit) (fun u => (wS cI q_w w_forms w_reasons w_lessers w_greaters w_lineGates w_newNumbers w_rows w_gatesBy w_lineCount w_rowCount w_checkCount w_patternRows w_allRows)) (fun r u => post r)) := by
  refine Cn.ofV (own := RX3) (lv0 := [(0, .ref (q_w 0)), (1, .int a0), (2, .int a1)]) rfl (by decide) (Nat.le_of_ble_eq_true rfl) rfl ?_
  intro p e s m below meth c A args Q hQ C
  unfold W_formByRule at h
  refine V_iload_n (pc := 0) C 1 dX3_formByRule_0 rfl rfl ?_
  refine V_if_ne (pc := 1) (tgt := 6) C dX3_formByRule_1 (by decide) (fun c1 => ?_) (fun c1 => ?_)
  · replace h := wp_f h c1
    refine V_iload_n (pc := 6) C 1 dX3_formByRule_6 rfl rfl ?_
    refine V_iconst (pc := 7) C dX3_formByRule_7 ki_1 ?_
    refine V_icmp_ne (pc := 8) (tgt := 13) C dX3_formByRule_8 (by decide) (fun c2 => ?_) (fun c2 => ?_)
    · replace h := wp_f h c2
      refine V_iload_n (pc := 13) C 1 dX3_formByRule_13 rfl rfl ?_
      refine V_iload_n (pc := 14) C 2 dX3_formByRule_14 rfl rfl ?_
      refine V_icmp_ne (pc := 15) (tgt := 20) C dX3_formByRule_15 (by decide) (fun c3 => ?_) (fun c3 => ?_)
      · replace h := wp_f h c3
        refine V_iload_n (pc := 20) C 2 dX3_formByRule_20 rfl rfl ?_
        refine V_iload_n (pc := 21) C 1 dX3_formByRule_21 rfl rfl ?_
        refine V_iconst (pc := 22) C dX3_formByRule_22 ki_1 ?_
        refine V_ixor (pc := 23) C dX3_formByRule_23 ?_
        refine V_icmp_ne (pc := 24) (tgt := 31) C dX3_formByRule_24 (by decide) (fun c4 => ?_) (fun c4 => ?_)
        · replace h := wp_f h c4
          refine V_iconst (pc := 31) C dX3_formByRule_31 ki_m1 ?_
          exact V_iret (pc := 32) C hQ () dX3_formByRule_32 (vp_nar_int _) rfl (wp_s h)
        · replace h := wp_t h c4
          refine V_iconst (pc := 27) C dX3_formByRule_27 ki_0 ?_
          refine V_goto (pc := 28) (tgt := 32) C dX3_formByRule_28 (by decide) ?_
          exact V_iret (pc := 32) C hQ () dX3_formByRule_32 (vp_nar_int _) rfl (wp_s h)
      · replace h := wp_t h c3
        refine V_iload_n (pc := 18) C 1 dX3_formByRule_18 rfl rfl ?_
        exact V_iret (pc := 19) C hQ () dX3_formByRule_19 (vp_nar_int _) rfl (wp_s h)
    · replace h := wp_t h c2
      refine V_iload_n (pc := 11) C 2 dX3_formByRule_11 rfl rfl ?_
      exact V_iret (pc := 12) C hQ () dX3_formByRule_12 (vp_nar_int _) rfl (wp_s h)
  · replace h := wp_t h c1
    refine V_iconst (pc := 4) C dX3_formByRule_4 ki_0 ?_
    exact V_iret (pc := 5) C hQ () dX3_formByRule_5 (vp_nar_int _) rfl (wp_s h)
set_option maxRecDepth 100000 in
set_option maxHeartbeats 4000000 in
theorem c_W_sameGate {l : Launch} {D : va_G} {cI cC : ClassId} {q_w : Nat → Nat} {w_forms : Nat → Int32} {w_reasons : Nat → Int32} {w_lessers : Nat → Int32} {w_greaters : Nat → Int32} {w_lineGates : Nat → Int32} {w_newNumbers : Nat → Int32} {w_rows : Nat → Int32} {w_gatesBy : Nat → Int32} {w_lineCount : Int32} {w_rowCount : Int32} {w_checkCount : Int32} {w_patternRows : Int32} {w_allRows : Int32} {a0 : Int32} {a1 : Int32} {post : Int32 → Prop} (h : wpO (W_sameGate w_reasons w_lessers w_greaters a0 a1) post) : Cn l yX3_sameGate cX3_sameGate 4 (some .int) 0 0 D cI cC [.ref (q_w 0), .int a0, .int a1] (wS cI q_w w_forms w_reasons w_lessers w_greaters w_lineGates w_newNumbers w_rows w_gatesBy w_lineCount w_rowCount w_checkCount w_patternRows w_allRows) (QI D cI cC (S := Unit) (fun u => (wS cI q_w w_forms w_reasons w_lessers w_greaters w_lineGates w_newNumbers w_rows w_gatesBy w_lineCount w_rowCount w_checkCount w_patternRows w_allRows)) (fun r u => post r)) := by
  refine Cn.ofV (own := RX3) (lv0 := [(0, .ref (q_w 0)), (1, .int a0), (2, .int a1)]) rfl (by decide) (Nat.le_of_ble_eq_true rfl) rfl ?_
  intro p e s m below meth c A args Q hQ C
  have hL_4 : ∀ (K : Option (Int32)) (l1 : Int32), (wpO (K) post → V p l e (rmC 0 0) s m args below meth c D A 4 0 0 Q (wS cI q_w w_forms w_reasons w_lessers w_greaters w_lineGates w_newNumbers w_rows w_gatesBy w_lineCount w_rowCount w_checkCount w_patternRows w_allRows) [] 56 []) → ∀ (n : Nat) (l3 : Int32), wpO (W_sameGate_4 K w_reasons w_lessers w_greaters l1 n l3) post → V p l e (rmC 0 0) s m args below meth c D A 4 0 0 Q (wS cI q_w w_forms w_reasons w_lessers w_greaters w_lineGates w_newNumbers w_rows w_gatesBy w_lineCount w_rowCount w_checkCount w_patternRows w_allRows) [(0, .ref (q_w 0)), (1, .int l1), (3, .int l3)] 4 [] := by
    intro K  l1 hK n
    induction n with
    | zero => intro l3 h; rw [W_sameGate_4] at h; exact (wp_n h).elim
    | succ n ih =>
      intro l3 h
      rw [W_sameGate_4] at h
      refine V_iload_n (pc := 4) C 2 dX3_sameGate_4 rfl rfl ?_
      refine V_iload_n (pc := 5) C 1 dX3_sameGate_5 rfl rfl ?_
      refine V_icmp_ge (pc := 6) (tgt := 56) C dX3_sameGate_6 (by decide) (fun c1 => ?_) (fun c1 => ?_)
      · replace h := wp_t h c1
        refine V_lv (pc := 56) [] rfl ?_
        exact hK h
      · replace h := wp_f h c1
        refine V_aload_n (pc := 9) C 0 dX3_sameGate_9 rfl rfl ?_
        refine V_get (pc := 10) C 0 1 inX3 wd_120 dX3_sameGate_10 rfl rfl (by decide) rfl rfl ?_
        refine V_iload_n (pc := 13) C 2 dX3_sameGate_13 rfl rfl ?_
        obtain ⟨b2, h⟩ := wp_c h
        refine V_iald (pc := 14) C 2 dX3_sameGate_14 rfl b2 ?_
        refine V_if_ne (pc := 15) (tgt := 50) C dX3_sameGate_15 (by decide) (fun c3 => ?_) (fun c3 => ?_)
        · replace h := wp_f h c3
          obtain ⟨v4, ev4, h⟩ := wp_l h
          refine V_iinc (pc := 50) (v := v4) (lv' := [(0, .ref (q_w 0)), (1, .int l1), (3, .int v4)]) (j := 2) C dX3_sameGate_50 rfl (by rw [ev4]; rfl) [1, 2, 0] (by decide) rfl ?_
          refine V_goto (pc := 53) (tgt := 4) C dX3_sameGate_53 (by decide) ?_
          exact ih _ h
        · replace h := wp_t h c3
          refine V_aload_n (pc := 18) C 0 dX3_sameGate_18 rfl rfl ?_
          refine V_get (pc := 19) C 0 2 inX3 wd_122 dX3_sameGate_19 rfl rfl (by decide) rfl rfl ?_
          refine V_iload_n (pc := 22) C 2 dX3_sameGate_22 rfl rfl ?_
          obtain ⟨b5, h⟩ := wp_c h
          refine V_iald (pc := 23) C 3 dX3_sameGate_23 rfl b5 ?_
          refine V_aload_n (pc := 24) C 0 dX3_sameGate_24 rfl rfl ?_
          refine V_get (pc := 25) C 0 2 inX3 wd_122 dX3_sameGate_25 rfl rfl (by decide) rfl rfl ?_
          refine V_iload_n (pc := 28) C 1 dX3_sameGate_28 rfl rfl ?_
          obtain ⟨b6, h⟩ := wp_c h
          refine V_iald (pc := 29) C 3 dX3_sameGate_29 rfl b6 ?_
          refine V_icmp_ne (pc := 30) (tgt := 50) C dX3_sameGate_30 (by decide) (fun c7 => ?_) (fun c7 => ?_)
          · replace h := wp_f h c7
            obtain ⟨v8, ev8, h⟩ := wp_l h
            refine V_iinc (pc := 50) (v := v8) (lv' := [(0, .ref (q_w 0)), (1, .int l1), (3, .int v8)]) (j := 2) C dX3_sameGate_50 rfl (by rw [ev8]; rfl) [1, 2, 0] (by decide) rfl ?_
            refine V_goto (pc := 53) (tgt := 4) C dX3_sameGate_53 (by decide) ?_
            exact ih _ h
          · replace h := wp_t h c7
            refine V_aload_n (pc := 33) C 0 dX3_sameGate_33 rfl rfl ?_
            refine V_get (pc := 34) C 0 3 inX3 wd_124 dX3_sameGate_34 rfl rfl (by decide) rfl rfl ?_
            refine V_iload_n (pc := 37) C 2 dX3_sameGate_37 rfl rfl ?_
            obtain ⟨b9, h⟩ := wp_c h
            refine V_iald (pc := 38) C 4 dX3_sameGate_38 rfl b9 ?_
            refine V_aload_n (pc := 39) C 0 dX3_sameGate_39 rfl rfl ?_
            refine V_get (pc := 40) C 0 3 inX3 wd_124 dX3_sameGate_40 rfl rfl (by decide) rfl rfl ?_
            refine V_iload_n (pc := 43) C 1 dX3_sameGate_43 rfl rfl ?_
            obtain ⟨b10, h⟩ := wp_c h
            refine V_iald (pc := 44) C 4 dX3_sameGate_44 rfl b10 ?_
            refine V_icmp_ne (pc := 45) (tgt := 50) C dX3_sameGate_45 (by decide) (fun c11 => ?_) (fun c11 => ?_)
            · replace h := wp_f h c11
              obtain ⟨v12, ev12, h⟩ := wp_l h
              refine V_iinc (pc := 50) (v := v12) (lv' := [(0, .ref (q_w 0)), (1, .int l1), (3, .int v12)]) (j := 2) C dX3_sameGate_50 rfl (by rw [ev12]; rfl) [1, 2, 0] (by decide) rfl ?_
              refine V_goto (pc := 53) (tgt := 4) C dX3_sameGate_53 (by decide) ?_
              exact ih _ h
            · replace h := wp_t h c11
              refine V_iload_n (pc := 48) C 2 dX3_sameGate_48 rfl rfl ?_
              exact V_iret (pc := 49) C hQ () dX3_sameGate_49 (vp_nar_int _) rfl (wp_s h)
  unfold W_sameGate at h
  refine V_iload_n (pc := 0) C 2 dX3_sameGate_0 rfl rfl ?_
  refine V_iconst (pc := 1) C dX3_sameGate_1 ki_1 ?_
  refine V_iadd (pc := 2) C dX3_sameGate_2 ?_
  obtain ⟨v13, ev13, h⟩ := wp_l h
  refine V_topi (pc := 3) ev13 ?_
  refine V_istore_n (pc := 3) (lv' := [(0, .ref (q_w 0)), (1, .int a0), (2, .int a1), (3, .int v13)]) C dX3_sameGate_3 rfl [1, 2, 3, 0] (by decide) rfl ?_
  refine V_lv (pc := 4) [0, 1, 3] rfl ?_
  refine hL_4 _ _ (fun h => ?_) 1000 _ h
  try dsimp only at h
  refine V_iconst (pc := 56) C dX3_sameGate_56 ki_m1 ?_
  exact V_iret (pc := 57) C hQ () dX3_sameGate_57 (vp_nar_int _) rfl (wp_s h)
set_option maxRecDepth 100000 in
set_option maxHeartbeats 4000000 in
theorem c_X_leastRow {l : Launch} {D : va_G} {cI cC : ClassId} {a0 : Int32} {post : Int32 → Prop} (h : wpO (X_leastRow a0) post) : Cn l yX4_leastRow cX4_leastRow 2 (some .int) 0 0 D cI cC [.int a0] ([] : va_W) (QI D cI cC (S := Unit) (fun u => ([] : va_W)) (fun r u => post r)) := by
  refine Cn.ofV (own := RX4) (lv0 := [(0, .int a0)]) rfl (by decide) (Nat.le_of_ble_eq_true rfl) rfl ?_
  intro p e s m below meth c A args Q hQ C
  have hL_2 : ∀ (K : Option (Int32)) (l0 : Int32), (wpO (K) post → V p l e (rmC 0 0) s m args below meth c D A 2 0 0 Q ([] : va_W) [] 25 []) → ∀ (n : Nat) (l1 : Int32), wpO (X_leastRow_2 K l0 n l1) post → V p l e (rmC 0 0) s m args below meth c D A 2 0 0 Q ([] : va_W) [(0, .int l0), (1, .int l1)] 2 [] := by
    intro K  l0 hK n
    induction n with
    | zero => intro l1 h; rw [X_leastRow_2] at h; exact (wp_n h).elim
    | succ n ih =>
      intro l1 h
      rw [X_leastRow_2] at h
      refine V_iload_n (pc := 2) C 1 dX4_leastRow_2 rfl rfl ?_
      refine V_bipush (pc := 3) C dX4_leastRow_3 kb_31 ?_
      refine V_icmp_ge (pc := 5) (tgt := 25) C dX4_leastRow_5 (by decide) (fun c1 => ?_) (fun c1 => ?_)
      · replace h := wp_t h c1
        refine V_lv (pc := 25) [] rfl ?_
        exact hK h
      · replace h := wp_f h c1
        refine V_iload_n (pc := 8) C 0 dX4_leastRow_8 rfl rfl ?_
        refine V_iload_n (pc := 9) C 1 dX4_leastRow_9 rfl rfl ?_
        refine V_iushr (pc := 10) C dX4_leastRow_10 ?_
        refine V_iconst (pc := 11) C dX4_leastRow_11 ki_1 ?_
        refine V_iand (pc := 12) C dX4_leastRow_12 ?_
        refine V_iconst (pc := 13) C dX4_leastRow_13 ki_1 ?_
        refine V_icmp_ne (pc := 14) (tgt := 19) C dX4_leastRow_14 (by decide) (fun c2 => ?_) (fun c2 => ?_)
        · replace h := wp_f h c2
          obtain ⟨v3, ev3, h⟩ := wp_l h
          refine V_iinc (pc := 19) (v := v3) (lv' := [(0, .int l0), (1, .int v3)]) (j := 1) C dX4_leastRow_19 rfl (by rw [ev3]; rfl) [1, 0] (by decide) rfl ?_
          refine V_goto (pc := 22) (tgt := 2) C dX4_leastRow_22 (by decide) ?_
          exact ih _ h
        · replace h := wp_t h c2
          refine V_iload_n (pc := 17) C 1 dX4_leastRow_17 rfl rfl ?_
          exact V_iret (pc := 18) C hQ () dX4_leastRow_18 (vp_nar_int _) rfl (wp_s h)
  unfold X_leastRow at h
  refine V_iconst (pc := 0) C dX4_leastRow_0 ki_0 ?_
  refine V_istore_n (pc := 1) (lv' := [(0, .int a0), (1, .int 0)]) C dX4_leastRow_1 rfl [1, 0] (by decide) rfl ?_
  refine hL_2 _ _ (fun h => ?_) 1000 _ h
  try dsimp only at h
  refine V_bipush (pc := 25) C dX4_leastRow_25 kb_31 ?_
  exact V_iret (pc := 27) C hQ () dX4_leastRow_27 (vp_nar_int _) rfl (wp_s h)
set_option maxRecDepth 100000 in
set_option maxHeartbeats 4000000 in
theorem c_W_checkHolds {l : Launch} {D : va_G} {cI cC : ClassId} {q_w : Nat → Nat} {w_forms : Nat → Int32} {w_reasons : Nat → Int32} {w_lessers : Nat → Int32} {w_greaters : Nat → Int32} {w_lineGates : Nat → Int32} {w_newNumbers : Nat → Int32} {w_rows : Nat → Int32} {w_gatesBy : Nat → Int32} {w_lineCount : Int32} {w_rowCount : Int32} {w_checkCount : Int32} {w_patternRows : Int32} {w_allRows : Int32} {a0 : Int32} {post : Int32 × (Nat → Int32) × Int32 × Int32 × Int32 → Prop} (h : wpO (W_checkHolds w_rows w_rowCount w_checkCount w_patternRows a0) post) : Cn l yX3_checkHolds cX3_checkHolds 2 (some .boolean) 1 21 D cI cC [.ref (q_w 0), .int a0] (wS cI q_w w_forms w_reasons w_lessers w_greaters w_lineGates w_newNumbers w_rows w_gatesBy w_lineCount w_rowCount w_checkCount w_patternRows w_allRows) (QI D cI cC (S := (Nat → Int32) × Int32 × Int32 × Int32) (fun u => (wS cI q_w w_forms w_reasons w_lessers w_greaters w_lineGates w_newNumbers u.1 w_gatesBy w_lineCount u.2.1 u.2.2.1 u.2.2.2 w_allRows)) (fun r u => post (r, u) ∧ narrow .boolean (.int r) = .int r)) := by
  refine Cn.ofV (own := RX3) (lv0 := [(0, .ref (q_w 0)), (1, .int a0)]) rfl (by decide) (Nat.le_of_ble_eq_true rfl) rfl ?_
  intro p e s m below meth c A args Q hQ C
  unfold W_checkHolds at h
  refine V_aload_n (pc := 0) C 0 dX3_checkHolds_0 rfl rfl ?_
  refine V_dup (pc := 1) C dX3_checkHolds_1 rfl ?_
  refine V_get (pc := 2) C 0 10 inX3 wd_135 dX3_checkHolds_2 rfl rfl (by decide) rfl rfl ?_
  refine V_iconst (pc := 5) C dX3_checkHolds_5 ki_1 ?_
  refine V_iadd (pc := 6) C dX3_checkHolds_6 ?_
  obtain ⟨w_checkCount_1, ew_checkCount_1, h⟩ := wp_l h
  refine V_topi (pc := 7) ew_checkCount_1 ?_
  refine V_put (pc := 7) (ws' := (wS cI q_w w_forms w_reasons w_lessers w_greaters w_lineGates w_newNumbers w_rows w_gatesBy w_lineCount w_rowCount w_checkCount_1 w_patternRows w_allRows)) C 0 10 inX3 tyX3_ok nmX3 wd_135 dX3_checkHolds_7 rfl rfl (by decide) rfl rfl rfl rfl rfl (Nat.le_of_ble_eq_true rfl) rfl ?_
  refine V_iload_n (pc := 10) C 1 dX3_checkHolds_10 rfl rfl ?_
  refine V_if_ne (pc := 11) (tgt := 16) C dX3_checkHolds_11 (by decide) (fun c2 => ?_) (fun c2 => ?_)
  · replace h := wp_f h c2
    refine V_aload_n (pc := 16) C 0 dX3_checkHolds_16 rfl rfl ?_
    refine V_iload_n (pc := 17) C 1 dX3_checkHolds_17 rfl rfl ?_
    refine V_cutNi (pc := 18) (As := [.int a0]) (st := [.ref (q_w 0)]) (w0 := ([] : va_W)) (wr := (wS cI q_w w_forms w_reasons w_lessers w_greaters w_lineGates w_newNumbers w_rows w_gatesBy w_lineCount w_rowCount w_checkCount_1 w_patternRows w_allRows)) (w2 := fun u => (wS cI q_w w_forms w_reasons w_lessers w_greaters w_lineGates w_newNumbers w_rows w_gatesBy w_lineCount w_rowCount w_checkCount_1 w_patternRows w_allRows)) C (c_X_leastRow (wp_b h)) mk_X4_leastRow dX3_checkHolds_18 rfl rfl ⟨Nat.le_of_ble_eq_true rfl, Nat.le_of_ble_eq_true rfl⟩ [] [0, 1, 2, 3, 4, 5, 6, 7, 8] [0, 1, 2, 3, 4, 5, 6, 7, 8] ⟨rfl, rfl, by decide +kernel, by decide +kernel, by decide +kernel⟩ (by decide +kernel) (fun u => rfl) (Nat.le_of_ble_eq_true rfl) rfl (fun r4 u hw => ?_)
    have h := hw
    try dsimp only at h
    try dsimp only
    refine V_callVv (pc := 21) (As := [.int r4]) (st := []) C (c_W_addRow (wp_b h)) mk_X3_addRow wd_294 dX3_checkHolds_21 0 rfl rfl rfl ⟨Nat.le_of_ble_eq_true rfl, Nat.le_of_ble_eq_true rfl⟩ (Nat.le_of_ble_eq_true rfl) rfl (fun u hw => ?_)
    obtain ⟨w_rows_7, w_rowCount_8, w_patternRows_9⟩ := u
    have h := hw
    try dsimp only at h
    try dsimp only
    refine V_iconst (pc := 24) C dX3_checkHolds_24 ki_0 ?_
    exact V_iret (pc := 25) C hQ (w_rows_7, w_rowCount_8, w_checkCount_1, w_patternRows_9) dX3_checkHolds_25 rfl rfl ⟨wp_s h, rfl⟩
  · replace h := wp_t h c2
    refine V_iconst (pc := 14) C dX3_checkHolds_14 ki_1 ?_
    exact V_iret (pc := 15) C hQ (w_rows, w_rowCount, w_checkCount_1, w_patternRows) dX3_checkHolds_15 rfl rfl ⟨wp_s h, rfl⟩
set_option maxRecDepth 100000 in
set_option maxHeartbeats 4000000 in
theorem c_W_formByChecks {l : Launch} {D : va_G} {cI cC : ClassId} {q_w : Nat → Nat} {q_c : Nat → Nat} {w_forms : Nat → Int32} {w_reasons : Nat → Int32} {w_lessers : Nat → Int32} {w_greaters : Nat → Int32} {w_lineGates : Nat → Int32} {w_newNumbers : Nat → Int32} {w_rows : Nat → Int32} {w_gatesBy : Nat → Int32} {w_lineCount : Int32} {w_rowCount : Int32} {w_checkCount : Int32} {w_patternRows : Int32} {w_allRows : Int32} {c_firsts : Nat → Int32} {c_seconds : Nat → Int32} {c_truths : Nat → Int32} {c_levels : Nat → Int32} {c_outLiterals : Nat → Int32} {c_outCounts : Nat → Int32} {c_patterns : Nat → Int32} {c_inputCount : Int32} {c_nodeCount : Int32} {c_patternCount : Int32} {a0 : Int32} {post : Int32 × (Nat → Int32) × Int32 × Int32 × Int32 → Prop} (h : wpO (W_formByChecks c_truths w_reasons w_rows w_rowCount w_checkCount w_patternRows w_allRows a0) post) : Cn l yX3_formByChecks cX3_formByChecks 5 (some .int) 2 42 D cI cC [.ref (q_w 0), .int a0, .ref (q_c 0)] ((wS cI q_w w_forms w_reasons w_lessers w_greaters w_lineGates w_newNumbers w_rows w_gatesBy w_lineCount w_rowCount w_checkCount w_patternRows w_allRows) ++ (wC cI q_c c_firsts c_seconds c_truths c_levels c_outLiterals c_outCounts c_patterns c_inputCount c_nodeCount c_patternCount)) (QI D cI cC (S := (Nat → Int32) × Int32 × Int32 × Int32) (fun u => ((wS cI q_w w_forms w_reasons w_lessers w_greaters w_lineGates w_newNumbers u.1 w_gatesBy w_lineCount u.2.1 u.2.2.1 u.2.2.2 w_allRows) ++ (wC cI q_c c_firsts c_seconds c_truths c_levels c_outLiterals c_outCounts c_patterns c_inputCount c_nodeCount c_patternCount))) (fun r u => post (r, u))) := by
  refine Cn.ofV (own := RX3) (lv0 := [(0, .ref (q_w 0)), (1, .int a0), (2, .ref (q_c 0))]) rfl (by decide) (Nat.le_of_ble_eq_true rfl) rfl ?_
  intro p e s m below meth c A args Q hQ C
  have hL_2 : ∀ (K : Int32 → (Nat → Int32) → Int32 → Int32 → Int32 → Option (Int32 × (Nat → Int32) × Int32 × Int32 × Int32)) (l1 : Int32), (∀ (l3 : Int32) (w_rows : Nat → Int32) (w_rowCount : Int32) (w_checkCount : Int32) (w_patternRows : Int32), wpO (K l3 w_rows w_rowCount w_checkCount w_patternRows) post → V p l e (rmC 2 42) s m args below meth c D A 5 0 0 Q ((wS cI q_w w_forms w_reasons w_lessers w_greaters w_lineGates w_newNumbers w_rows w_gatesBy w_lineCount w_rowCount w_checkCount w_patternRows w_allRows) ++ (wC cI q_c c_firsts c_seconds c_truths c_levels c_outLiterals c_outCounts c_patterns c_inputCount c_nodeCount c_patternCount)) [(3, .int l3)] 87 []) → ∀ (n : Nat) (l3 : Int32) (w_rows : Nat → Int32) (w_rowCount : Int32) (w_checkCount : Int32) (w_patternRows : Int32), wpO (W_formByChecks_2 K c_truths w_reasons w_allRows l1 n l3 w_rows w_rowCount w_checkCount w_patternRows) post → V p l e (rmC 2 42) s m args below meth c D A 5 0 0 Q ((wS cI q_w w_forms w_reasons w_lessers w_greaters w_lineGates w_newNumbers w_rows w_gatesBy w_lineCount w_rowCount w_checkCount w_patternRows w_allRows) ++ (wC cI q_c c_firsts c_seconds c_truths c_levels c_outLiterals c_outCounts c_patterns c_inputCount c_nodeCount c_patternCount)) [(0, .ref (q_w 0)), (1, .int l1), (2, .ref (q_c 0)), (3, .int l3)] 2 [] := by
    intro K  l1 hK n
    induction n with
    | zero => intro l3 w_rows w_rowCount w_checkCount w_patternRows h; rw [W_formByChecks_2] at h; exact (wp_n h).elim
    | succ n ih =>
      intro l3 w_rows w_rowCount w_checkCount w_patternRows h
      rw [W_formByChecks_2] at h
      refine V_iload_n (pc := 2) C 3 dX3_formByChecks_2 rfl rfl ?_
      refine V_iload_n (pc := 3) C 1 dX3_formByChecks_3 rfl rfl ?_
      refine V_icmp_ge (pc := 4) (tgt := 99) C dX3_formByChecks_4 (by decide) (fun c1 => ?_) (fun c1 => ?_)
      · replace h := wp_t h c1
        refine V_iconst (pc := 99) C dX3_formByChecks_99 ki_m1 ?_
        exact V_iret (pc := 100) C hQ (w_rows, w_rowCount, w_checkCount, w_patternRows) dX3_formByChecks_100 (vp_nar_int _) rfl (wp_s h)
      · replace h := wp_f h c1
        refine V_aload_n (pc := 7) C 0 dX3_formByChecks_7 rfl rfl ?_
        refine V_get (pc := 8) C 0 1 inX3 wd_120 dX3_formByChecks_8 rfl rfl (by decide) rfl rfl ?_
        refine V_iload_n (pc := 11) C 3 dX3_formByChecks_11 rfl rfl ?_
        obtain ⟨b2, h⟩ := wp_c h
        refine V_iald (pc := 12) C 2 dX3_formByChecks_12 rfl b2 ?_
        refine V_if_eq (pc := 13) (tgt := 19) C dX3_formByChecks_13 (by decide) (fun c3 => ?_) (fun c3 => ?_)
        · replace h := wp_t h c3
          refine V_aload_n (pc := 19) C 2 dX3_formByChecks_19 rfl rfl ?_
          refine V_get (pc := 20) C 9 2 inX0 wd_98 dX3_formByChecks_20 rfl rfl (by decide) rfl rfl ?_
          refine V_iload_n (pc := 23) C 1 dX3_formByChecks_23 rfl rfl ?_
          obtain ⟨b4, h⟩ := wp_c h
          refine V_iald (pc := 24) C 12 dX3_formByChecks_24 rfl b4 ?_
          refine V_aload_n (pc := 25) C 2 dX3_formByChecks_25 rfl rfl ?_
          refine V_get (pc := 26) C 9 2 inX0 wd_98 dX3_formByChecks_26 rfl rfl (by decide) rfl rfl ?_
          refine V_iload_n (pc := 29) C 3 dX3_formByChecks_29 rfl rfl ?_
          obtain ⟨b5, h⟩ := wp_c h
          refine V_iald (pc := 30) C 12 dX3_formByChecks_30 rfl b5 ?_
          refine V_ixor (pc := 31) C dX3_formByChecks_31 ?_
          obtain ⟨v6, ev6, h⟩ := wp_l h
          refine V_topi (pc := 32) ev6 ?_
          refine V_istore (pc := 32) (lv' := [(0, .ref (q_w 0)), (1, .int l1), (2, .ref (q_c 0)), (3, .int l3), (4, .int v6)]) C dX3_formByChecks_32 [1, 2, 3, 4, 0] (by decide) rfl ?_
          refine V_iload (pc := 34) C 4 dX3_formByChecks_34 rfl ?_
          refine V_aload_n (pc := 36) C 0 dX3_formByChecks_36 rfl rfl ?_
          refine V_get (pc := 37) C 0 11 inX3 wd_136 dX3_formByChecks_37 rfl rfl (by decide) rfl rfl ?_
          refine V_iand (pc := 40) C dX3_formByChecks_40 ?_
          refine V_if_ne (pc := 41) (tgt := 57) C dX3_formByChecks_41 (by decide) (fun c7 => ?_) (fun c7 => ?_)
          · replace h := wp_f h c7
            refine V_iload (pc := 57) C 4 dX3_formByChecks_57 rfl ?_
            refine V_aload_n (pc := 59) C 0 dX3_formByChecks_59 rfl rfl ?_
            refine V_get (pc := 60) C 0 11 inX3 wd_136 dX3_formByChecks_60 rfl rfl (by decide) rfl rfl ?_
            refine V_iand (pc := 63) C dX3_formByChecks_63 ?_
            refine V_aload_n (pc := 64) C 0 dX3_formByChecks_64 rfl rfl ?_
            refine V_get (pc := 65) C 0 11 inX3 wd_136 dX3_formByChecks_65 rfl rfl (by decide) rfl rfl ?_
            refine V_icmp_ne (pc := 68) (tgt := 93) C dX3_formByChecks_68 (by decide) (fun c8 => ?_) (fun c8 => ?_)
            · replace h := wp_f h c8
              obtain ⟨v9, ev9, h⟩ := wp_l h
              refine V_iinc (pc := 93) (v := v9) (lv' := [(0, .ref (q_w 0)), (1, .int l1), (2, .ref (q_c 0)), (3, .int v9), (4, .int v6)]) (j := 3) C dX3_formByChecks_93 rfl (by rw [ev9]; rfl) [1, 2, 3, 0, 4] (by decide) rfl ?_
              refine V_goto (pc := 96) (tgt := 2) C dX3_formByChecks_96 (by decide) ?_
              refine V_lv (pc := 2) [0, 1, 2, 3] rfl ?_
              exact ih _ _ _ _ _ h
            · replace h := wp_t h c8
              refine V_aload_n (pc := 71) C 0 dX3_formByChecks_71 rfl rfl ?_
              refine V_iload (pc := 72) C 4 dX3_formByChecks_72 rfl ?_
              refine V_iconst (pc := 74) C dX3_formByChecks_74 ki_m1 ?_
              refine V_ixor (pc := 75) C dX3_formByChecks_75 ?_
              refine V_aload_n (pc := 76) C 0 dX3_formByChecks_76 rfl rfl ?_
              refine V_get (pc := 77) C 0 12 inX3 wd_137 dX3_formByChecks_77 rfl rfl (by decide) rfl rfl ?_
              refine V_iand (pc := 80) C dX3_formByChecks_80 ?_
              refine V_cutVi (pc := 81) (As := [.int ((v6 ^^^ (-1)) &&& w_allRows)]) (st := []) (w0 := (wS cI q_w w_forms w_reasons w_lessers w_greaters w_lineGates w_newNumbers w_rows w_gatesBy w_lineCount w_rowCount w_checkCount w_patternRows w_allRows)) (wr := (wC cI q_c c_firsts c_seconds c_truths c_levels c_outLiterals c_outCounts c_patterns c_inputCount c_nodeCount c_patternCount)) (w2 := fun u => ((wS cI q_w w_forms w_reasons w_lessers w_greaters w_lineGates w_newNumbers u.1 w_gatesBy w_lineCount u.2.1 u.2.2.1 u.2.2.2 w_allRows) ++ (wC cI q_c c_firsts c_seconds c_truths c_levels c_outLiterals c_outCounts c_patterns c_inputCount c_nodeCount c_patternCount))) C (c_W_checkHolds (wp_b h)) mk_X3_checkHolds wd_320 dX3_formByChecks_81 0 rfl rfl rfl ⟨Nat.le_of_ble_eq_true rfl, Nat.le_of_ble_eq_true rfl⟩ [0, 1, 2, 3, 4, 5, 6, 7, 8] [9, 10, 11, 12, 13, 14, 15, 16] [8, 9, 10, 11, 12, 13, 14, 15, 16, 0, 1, 2, 3, 4, 5, 6, 7] ⟨rfl, rfl, by decide +kernel, by decide +kernel, by decide +kernel⟩ (by decide +kernel) (fun u => rfl) (Nat.le_of_ble_eq_true rfl) rfl (fun r11 u hw => ?_)
              obtain ⟨w_rows_12, w_rowCount_13, w_checkCount_14, w_patternRows_15⟩ := u
              obtain ⟨h, z16⟩ := hw
              try dsimp only at h
              try dsimp only
              refine V_if_eq (pc := 84) (tgt := 93) C dX3_formByChecks_84 (by decide) (fun c17 => ?_) (fun c17 => ?_)
              · replace h := wp_t h c17
                obtain ⟨v18, ev18, h⟩ := wp_l h
                refine V_iinc (pc := 93) (v := v18) (lv' := [(0, .ref (q_w 0)), (1, .int l1), (2, .ref (q_c 0)), (3, .int v18), (4, .int v6)]) (j := 3) C dX3_formByChecks_93 rfl (by rw [ev18]; rfl) [1, 2, 3, 0, 4] (by decide) rfl ?_
                refine V_goto (pc := 96) (tgt := 2) C dX3_formByChecks_96 (by decide) ?_
                refine V_lv (pc := 2) [0, 1, 2, 3] rfl ?_
                exact ih _ _ _ _ _ h
              · replace h := wp_f h c17
                refine V_lv (pc := 87) [3] rfl ?_
                exact hK _ _ _ _ _ h
          · replace h := wp_t h c7
            refine V_aload_n (pc := 44) C 0 dX3_formByChecks_44 rfl rfl ?_
            refine V_iload (pc := 45) C 4 dX3_formByChecks_45 rfl ?_
            refine V_cutVi (pc := 47) (As := [.int v6]) (st := []) (w0 := (wS cI q_w w_forms w_reasons w_lessers w_greaters w_lineGates w_newNumbers w_rows w_gatesBy w_lineCount w_rowCount w_checkCount w_patternRows w_allRows)) (wr := (wC cI q_c c_firsts c_seconds c_truths c_levels c_outLiterals c_outCounts c_patterns c_inputCount c_nodeCount c_patternCount)) (w2 := fun u => ((wS cI q_w w_forms w_reasons w_lessers w_greaters w_lineGates w_newNumbers u.1 w_gatesBy w_lineCount u.2.1 u.2.2.1 u.2.2.2 w_allRows) ++ (wC cI q_c c_firsts c_seconds c_truths c_levels c_outLiterals c_outCounts c_patterns c_inputCount c_nodeCount c_patternCount))) C (c_W_checkHolds (wp_b h)) mk_X3_checkHolds wd_320 dX3_formByChecks_47 0 rfl rfl rfl ⟨Nat.le_of_ble_eq_true rfl, Nat.le_of_ble_eq_true rfl⟩ [0, 1, 2, 3, 4, 5, 6, 7, 8] [9, 10, 11, 12, 13, 14, 15, 16] [8, 9, 10, 11, 12, 13, 14, 15, 16, 0, 1, 2, 3, 4, 5, 6, 7] ⟨rfl, rfl, by decide +kernel, by decide +kernel, by decide +kernel⟩ (by decide +kernel) (fun u => rfl) (Nat.le_of_ble_eq_true rfl) rfl (fun r20 u hw => ?_)
            obtain ⟨w_rows_21, w_rowCount_22, w_checkCount_23, w_patternRows_24⟩ := u
            obtain ⟨h, z25⟩ := hw
            try dsimp only at h
            try dsimp only
            refine V_if_eq (pc := 50) (tgt := 57) C dX3_formByChecks_50 (by decide) (fun c26 => ?_) (fun c26 => ?_)
            · replace h := wp_t h c26
              refine V_iload (pc := 57) C 4 dX3_formByChecks_57 rfl ?_
              refine V_aload_n (pc := 59) C 0 dX3_formByChecks_59 rfl rfl ?_
              refine V_get (pc := 60) C 0 11 inX3 wd_136 dX3_formByChecks_60 rfl rfl (by decide) rfl rfl ?_
              refine V_iand (pc := 63) C dX3_formByChecks_63 ?_
              refine V_aload_n (pc := 64) C 0 dX3_formByChecks_64 rfl rfl ?_
              refine V_get (pc := 65) C 0 11 inX3 wd_136 dX3_formByChecks_65 rfl rfl (by decide) rfl rfl ?_
              refine V_icmp_ne (pc := 68) (tgt := 93) C dX3_formByChecks_68 (by decide) (fun c27 => ?_) (fun c27 => ?_)
              · replace h := wp_f h c27
                obtain ⟨v28, ev28, h⟩ := wp_l h
                refine V_iinc (pc := 93) (v := v28) (lv' := [(0, .ref (q_w 0)), (1, .int l1), (2, .ref (q_c 0)), (3, .int v28), (4, .int v6)]) (j := 3) C dX3_formByChecks_93 rfl (by rw [ev28]; rfl) [1, 2, 3, 0, 4] (by decide) rfl ?_
                refine V_goto (pc := 96) (tgt := 2) C dX3_formByChecks_96 (by decide) ?_
                refine V_lv (pc := 2) [0, 1, 2, 3] rfl ?_
                exact ih _ _ _ _ _ h
              · replace h := wp_t h c27
                refine V_aload_n (pc := 71) C 0 dX3_formByChecks_71 rfl rfl ?_
                refine V_iload (pc := 72) C 4 dX3_formByChecks_72 rfl ?_
                refine V_iconst (pc := 74) C dX3_formByChecks_74 ki_m1 ?_
                refine V_ixor (pc := 75) C dX3_formByChecks_75 ?_
                refine V_aload_n (pc := 76) C 0 dX3_formByChecks_76 rfl rfl ?_
                refine V_get (pc := 77) C 0 12 inX3 wd_137 dX3_formByChecks_77 rfl rfl (by decide) rfl rfl ?_
                refine V_iand (pc := 80) C dX3_formByChecks_80 ?_
                refine V_cutVi (pc := 81) (As := [.int ((v6 ^^^ (-1)) &&& w_allRows)]) (st := []) (w0 := (wS cI q_w w_forms w_reasons w_lessers w_greaters w_lineGates w_newNumbers w_rows_21 w_gatesBy w_lineCount w_rowCount_22 w_checkCount_23 w_patternRows_24 w_allRows)) (wr := (wC cI q_c c_firsts c_seconds c_truths c_levels c_outLiterals c_outCounts c_patterns c_inputCount c_nodeCount c_patternCount)) (w2 := fun u => ((wS cI q_w w_forms w_reasons w_lessers w_greaters w_lineGates w_newNumbers u.1 w_gatesBy w_lineCount u.2.1 u.2.2.1 u.2.2.2 w_allRows) ++ (wC cI q_c c_firsts c_seconds c_truths c_levels c_outLiterals c_outCounts c_patterns c_inputCount c_nodeCount c_patternCount))) C (c_W_checkHolds (wp_b h)) mk_X3_checkHolds wd_320 dX3_formByChecks_81 0 rfl rfl rfl ⟨Nat.le_of_ble_eq_true rfl, Nat.le_of_ble_eq_true rfl⟩ [0, 1, 2, 3, 4, 5, 6, 7, 8] [9, 10, 11, 12, 13, 14, 15, 16] [8, 9, 10, 11, 12, 13, 14, 15, 16, 0, 1, 2, 3, 4, 5, 6, 7] ⟨rfl, rfl, by decide +kernel, by decide +kernel, by decide +kernel⟩ (by decide +kernel) (fun u => rfl) (Nat.le_of_ble_eq_true rfl) rfl (fun r30 u hw => ?_)
                obtain ⟨w_rows_31, w_rowCount_32, w_checkCount_33, w_patternRows_34⟩ := u
                obtain ⟨h, z35⟩ := hw
                try dsimp only at h
                try dsimp only
                refine V_if_eq (pc := 84) (tgt := 93) C dX3_formByChecks_84 (by decide) (fun c36 => ?_) (fun c36 => ?_)
                · replace h := wp_t h c36
                  obtain ⟨v37, ev37, h⟩ := wp_l h
                  refine V_iinc (pc := 93) (v := v37) (lv' := [(0, .ref (q_w 0)), (1, .int l1), (2, .ref (q_c 0)), (3, .int v37), (4, .int v6)]) (j := 3) C dX3_formByChecks_93 rfl (by rw [ev37]; rfl) [1, 2, 3, 0, 4] (by decide) rfl ?_
                  refine V_goto (pc := 96) (tgt := 2) C dX3_formByChecks_96 (by decide) ?_
                  refine V_lv (pc := 2) [0, 1, 2, 3] rfl ?_
                  exact ih _ _ _ _ _ h
                · replace h := wp_f h c36
                  refine V_lv (pc := 87) [3] rfl ?_
                  exact hK _ _ _ _ _ h
            · replace h := wp_f h c26
              refine V_iconst (pc := 53) C dX3_formByChecks_53 ki_2 ?_
              refine V_iload_n (pc := 54) C 3 dX3_formByChecks_54 rfl rfl ?_
              refine V_imul (pc := 55) C dX3_formByChecks_55 ?_
              exact V_iret (pc := 56) C hQ (w_rows_21, w_rowCount_22, w_checkCount_23, w_patternRows_24) dX3_formByChecks_56 (vp_nar_int _) rfl (wp_s h)
        · replace h := wp_f h c3
          refine V_goto (pc := 16) (tgt := 93) C dX3_formByChecks_16 (by decide) ?_
          obtain ⟨v38, ev38, h⟩ := wp_l h
          refine V_iinc (pc := 93) (v := v38) (lv' := [(0, .ref (q_w 0)), (1, .int l1), (2, .ref (q_c 0)), (3, .int v38)]) (j := 3) C dX3_formByChecks_93 rfl (by rw [ev38]; rfl) [1, 2, 3, 0] (by decide) rfl ?_
          refine V_goto (pc := 96) (tgt := 2) C dX3_formByChecks_96 (by decide) ?_
          exact ih _ _ _ _ _ h
  unfold W_formByChecks at h
  refine V_iconst (pc := 0) C dX3_formByChecks_0 ki_0 ?_
  refine V_istore_n (pc := 1) (lv' := [(0, .ref (q_w 0)), (1, .int a0), (2, .ref (q_c 0)), (3, .int 0)]) C dX3_formByChecks_1 rfl [1, 2, 3, 0] (by decide) rfl ?_
  refine hL_2 _ _ (fun l3_39 w_rows_40 w_rowCount_41 w_checkCount_42 w_patternRows_43 h => ?_) 1000 _ _ _ _ _ h
  try dsimp only at h
  refine V_iconst (pc := 87) C dX3_formByChecks_87 ki_2 ?_
  refine V_iload_n (pc := 88) C 0 dX3_formByChecks_88 rfl rfl ?_
  refine V_imul (pc := 89) C dX3_formByChecks_89 ?_
  refine V_iconst (pc := 90) C dX3_formByChecks_90 ki_1 ?_
  refine V_iadd (pc := 91) C dX3_formByChecks_91 ?_
  exact V_iret (pc := 92) C hQ (w_rows_40, w_rowCount_41, w_checkCount_42, w_patternRows_43) dX3_formByChecks_92 (vp_nar_int _) rfl (wp_s h)
set_option maxRecDepth 100000 in
set_option maxHeartbeats 4000000 in
theorem c_W_sweepGate {l : Launch} {D : va_G} {cI cC : ClassId} {q_w : Nat → Nat} {q_c : Nat → Nat} {w_forms : Nat → Int32} {w_reasons : Nat → Int32} {w_lessers : Nat → Int32} {w_greaters : Nat → Int32} {w_lineGates : Nat → Int32} {w_newNumbers : Nat → Int32} {w_rows : Nat → Int32} {w_gatesBy : Nat → Int32} {w_lineCount : Int32} {w_rowCount : Int32} {w_checkCount : Int32} {w_patternRows : Int32} {w_allRows : Int32} {c_firsts : Nat → Int32} {c_seconds : Nat → Int32} {c_truths : Nat → Int32} {c_levels : Nat → Int32} {c_outLiterals : Nat → Int32} {c_outCounts : Nat → Int32} {c_patterns : Nat → Int32} {c_inputCount : Int32} {c_nodeCount : Int32} {c_patternCount : Int32} {a0 : Int32} {post : (Nat → Int32) × (Nat → Int32) × (Nat → Int32) × Int32 × Int32 × Int32 → Prop} (h : wpO (W_sweepGate c_truths c_inputCount w_forms w_reasons w_lessers w_greaters w_rows w_rowCount w_checkCount w_patternRows w_allRows a0) post) : Cn l yX3_sweepGate cX3_sweepGate 6 none 3 66 D cI cC [.ref (q_w 0), .int a0, .ref (q_c 0)] ((wS cI q_w w_forms w_reasons w_lessers w_greaters w_lineGates w_newNumbers w_rows w_gatesBy w_lineCount w_rowCount w_checkCount w_patternRows w_allRows) ++ (wC cI q_c c_firsts c_seconds c_truths c_levels c_outLiterals c_outCounts c_patterns c_inputCount c_nodeCount c_patternCount)) (QV D cI cC (S := (Nat → Int32) × (Nat → Int32) × (Nat → Int32) × Int32 × Int32 × Int32) (fun u => ((wS cI q_w u.1 u.2.1 w_lessers w_greaters w_lineGates w_newNumbers u.2.2.1 w_gatesBy w_lineCount u.2.2.2.1 u.2.2.2.2.1 u.2.2.2.2.2 w_allRows) ++ (wC cI q_c c_firsts c_seconds c_truths c_levels c_outLiterals c_outCounts c_patterns c_inputCount c_nodeCount c_patternCount))) (fun u => post u)) := by
  refine Cn.ofV (own := RX3) (lv0 := [(0, .ref (q_w 0)), (1, .int a0), (2, .ref (q_c 0))]) rfl (by decide) (Nat.le_of_ble_eq_true rfl) rfl ?_
  intro p e s m below meth c A args Q hQ C
  unfold W_sweepGate at h
  refine V_aload_n (pc := 0) C 0 dX3_sweepGate_0 rfl rfl ?_
  refine V_aload_n (pc := 1) C 0 dX3_sweepGate_1 rfl rfl ?_
  refine V_get (pc := 2) C 0 2 inX3 wd_122 dX3_sweepGate_2 rfl rfl (by decide) rfl rfl ?_
  refine V_iload_n (pc := 5) C 1 dX3_sweepGate_5 rfl rfl ?_
  obtain ⟨b1, h⟩ := wp_c h
  refine V_iald (pc := 6) C 3 dX3_sweepGate_6 rfl b1 ?_
  refine V_aload_n (pc := 7) C 0 dX3_sweepGate_7 rfl rfl ?_
  refine V_get (pc := 8) C 0 3 inX3 wd_124 dX3_sweepGate_8 rfl rfl (by decide) rfl rfl ?_
  refine V_iload_n (pc := 11) C 1 dX3_sweepGate_11 rfl rfl ?_
  obtain ⟨b2, h⟩ := wp_c h
  refine V_iald (pc := 12) C 4 dX3_sweepGate_12 rfl b2 ?_
  refine V_cutVi (pc := 13) (As := [.int (w_lessers (Int32.toNatClampNeg a0)), .int (w_greaters (Int32.toNatClampNeg a0))]) (st := []) (w0 := (wS cI q_w w_forms w_reasons w_lessers w_greaters w_lineGates w_newNumbers w_rows w_gatesBy w_lineCount w_rowCount w_checkCount w_patternRows w_allRows)) (wr := (wC cI q_c c_firsts c_seconds c_truths c_levels c_outLiterals c_outCounts c_patterns c_inputCount c_nodeCount c_patternCount)) (w2 := fun u => ((wS cI q_w w_forms w_reasons w_lessers w_greaters w_lineGates w_newNumbers w_rows w_gatesBy w_lineCount w_rowCount w_checkCount w_patternRows w_allRows) ++ (wC cI q_c c_firsts c_seconds c_truths c_levels c_outLiterals c_outCounts c_patterns c_inputCount c_nodeCount c_patternCount))) C (c_W_formByRule (wp_b h)) mk_X3_formByRule wd_308 dX3_sweepGate_13 0 rfl rfl rfl ⟨Nat.le_of_ble_eq_true rfl, Nat.le_of_ble_eq_true rfl⟩ [0, 1, 2, 3, 4, 5, 6, 7, 8] [9, 10, 11, 12, 13, 14, 15, 16] [8, 9, 10, 11, 12, 13, 14, 15, 16, 0, 1, 2, 3, 4, 5, 6, 7] ⟨rfl, rfl, by decide +kernel, by decide +kernel, by decide +kernel⟩ (by decide +kernel) (fun u => rfl) (Nat.le_of_ble_eq_true rfl) rfl (fun r4 u hw => ?_)
  have h := hw
  try dsimp only at h
  try dsimp only
  refine V_istore_n (pc := 16) (lv' := [(0, .ref (q_w 0)), (1, .int a0), (2, .ref (q_c 0)), (3, .int r4)]) C dX3_sweepGate_16 rfl [1, 2, 3, 0] (by decide) rfl ?_
  refine V_iload_n (pc := 17) C 3 dX3_sweepGate_17 rfl rfl ?_
  refine V_iconst (pc := 18) C dX3_sweepGate_18 ki_m1 ?_
  refine V_icmp_eq (pc := 19) (tgt := 30) C dX3_sweepGate_19 (by decide) (fun c5 => ?_) (fun c5 => ?_)
  · replace h := wp_t h c5
    refine V_aload_n (pc := 30) C 0 dX3_sweepGate_30 rfl rfl ?_
    refine V_iload_n (pc := 31) C 1 dX3_sweepGate_31 rfl rfl ?_
    refine V_aload_n (pc := 32) C 2 dX3_sweepGate_32 rfl rfl ?_
    refine V_get (pc := 33) C 9 7 inX0 wd_106 dX3_sweepGate_33 rfl rfl (by decide) rfl rfl ?_
    refine V_cutVi (pc := 36) (As := [.int a0, .int c_inputCount]) (st := []) (w0 := (wS cI q_w w_forms w_reasons w_lessers w_greaters w_lineGates w_newNumbers w_rows w_gatesBy w_lineCount w_rowCount w_checkCount w_patternRows w_allRows)) (wr := (wC cI q_c c_firsts c_seconds c_truths c_levels c_outLiterals c_outCounts c_patterns c_inputCount c_nodeCount c_patternCount)) (w2 := fun u => ((wS cI q_w w_forms w_reasons w_lessers w_greaters w_lineGates w_newNumbers w_rows w_gatesBy w_lineCount w_rowCount w_checkCount w_patternRows w_allRows) ++ (wC cI q_c c_firsts c_seconds c_truths c_levels c_outLiterals c_outCounts c_patterns c_inputCount c_nodeCount c_patternCount))) C (c_W_sameGate (wp_b h)) mk_X3_sameGate wd_312 dX3_sweepGate_36 0 rfl rfl rfl ⟨Nat.le_of_ble_eq_true rfl, Nat.le_of_ble_eq_true rfl⟩ [0, 1, 2, 3, 4, 5, 6, 7, 8] [9, 10, 11, 12, 13, 14, 15, 16] [8, 9, 10, 11, 12, 13, 14, 15, 16, 0, 1, 2, 3, 4, 5, 6, 7] ⟨rfl, rfl, by decide +kernel, by decide +kernel, by decide +kernel⟩ (by decide +kernel) (fun u => rfl) (Nat.le_of_ble_eq_true rfl) rfl (fun r7 u hw => ?_)
    have h := hw
    try dsimp only at h
    try dsimp only
    refine V_istore (pc := 39) (lv' := [(0, .ref (q_w 0)), (1, .int a0), (2, .ref (q_c 0)), (3, .int r4), (4, .int r7)]) C dX3_sweepGate_39 [1, 2, 3, 4, 0] (by decide) rfl ?_
    refine V_iload (pc := 41) C 4 dX3_sweepGate_41 rfl ?_
    refine V_iconst (pc := 43) C dX3_sweepGate_43 ki_m1 ?_
    refine V_icmp_eq (pc := 44) (tgt := 58) C dX3_sweepGate_44 (by decide) (fun c8 => ?_) (fun c8 => ?_)
    · replace h := wp_t h c8
      refine V_aload_n (pc := 58) C 0 dX3_sweepGate_58 rfl rfl ?_
      refine V_iload_n (pc := 59) C 1 dX3_sweepGate_59 rfl rfl ?_
      refine V_aload_n (pc := 60) C 2 dX3_sweepGate_60 rfl rfl ?_
      refine V_callVi (pc := 61) (As := [.int a0, .ref (q_c 0)]) (st := []) C (c_W_formByChecks (wp_b h)) mk_X3_formByChecks wd_316 dX3_sweepGate_61 0 rfl rfl rfl ⟨Nat.le_of_ble_eq_true rfl, Nat.le_of_ble_eq_true rfl⟩ (Nat.le_of_ble_eq_true rfl) rfl (fun r10 u hw => ?_)
      obtain ⟨w_rows_11, w_rowCount_12, w_checkCount_13, w_patternRows_14⟩ := u
      have h := hw
      try dsimp only at h
      try dsimp only
      refine V_istore (pc := 64) (lv' := [(0, .ref (q_w 0)), (1, .int a0), (2, .ref (q_c 0)), (3, .int r4), (4, .int r7), (5, .int r10)]) C dX3_sweepGate_64 [1, 2, 3, 4, 5, 0] (by decide) rfl ?_
      refine V_iload (pc := 66) C 5 dX3_sweepGate_66 rfl ?_
      refine V_iconst (pc := 68) C dX3_sweepGate_68 ki_m1 ?_
      refine V_icmp_eq (pc := 69) (tgt := 81) C dX3_sweepGate_69 (by decide) (fun c15 => ?_) (fun c15 => ?_)
      · replace h := wp_t h c15
        refine V_aload_n (pc := 81) C 0 dX3_sweepGate_81 rfl rfl ?_
        refine V_iload_n (pc := 82) C 1 dX3_sweepGate_82 rfl rfl ?_
        refine V_iconst (pc := 83) C dX3_sweepGate_83 ki_2 ?_
        refine V_iload_n (pc := 84) C 1 dX3_sweepGate_84 rfl rfl ?_
        refine V_imul (pc := 85) C dX3_sweepGate_85 ?_
        refine V_iconst (pc := 86) C dX3_sweepGate_86 ki_0 ?_
        refine V_cutVv (pc := 87) (As := [.int a0, .int ((2 : Int32) * a0), .int 0]) (st := []) (w0 := (wS cI q_w w_forms w_reasons w_lessers w_greaters w_lineGates w_newNumbers w_rows_11 w_gatesBy w_lineCount w_rowCount_12 w_checkCount_13 w_patternRows_14 w_allRows)) (wr := (wC cI q_c c_firsts c_seconds c_truths c_levels c_outLiterals c_outCounts c_patterns c_inputCount c_nodeCount c_patternCount)) (w2 := fun u => ((wS cI q_w u.1 u.2 w_lessers w_greaters w_lineGates w_newNumbers w_rows_11 w_gatesBy w_lineCount w_rowCount_12 w_checkCount_13 w_patternRows_14 w_allRows) ++ (wC cI q_c c_firsts c_seconds c_truths c_levels c_outLiterals c_outCounts c_patterns c_inputCount c_nodeCount c_patternCount))) C (c_W_merge (wp_b h)) mk_X3_merge wd_290 dX3_sweepGate_87 0 rfl rfl rfl ⟨Nat.le_of_ble_eq_true rfl, Nat.le_of_ble_eq_true rfl⟩ [0, 1, 2, 3, 4, 5, 6, 7, 8] [9, 10, 11, 12, 13, 14, 15, 16] [8, 9, 10, 11, 12, 13, 14, 15, 16, 0, 1, 2, 3, 4, 5, 6, 7] ⟨rfl, rfl, by decide +kernel, by decide +kernel, by decide +kernel⟩ (by decide +kernel) (fun u => rfl) (Nat.le_of_ble_eq_true rfl) rfl (fun u hw => ?_)
        obtain ⟨w_forms_18, w_reasons_19⟩ := u
        have h := hw
        try dsimp only at h
        try dsimp only
        exact V_vret (pc := 90) C hQ (w_forms_18, w_reasons_19, w_rows_11, w_rowCount_12, w_checkCount_13, w_patternRows_14) dX3_sweepGate_90 rfl (wp_s h)
      · replace h := wp_f h c15
        refine V_aload_n (pc := 72) C 0 dX3_sweepGate_72 rfl rfl ?_
        refine V_iload_n (pc := 73) C 1 dX3_sweepGate_73 rfl rfl ?_
        refine V_iload (pc := 74) C 5 dX3_sweepGate_74 rfl ?_
        refine V_iconst (pc := 76) C dX3_sweepGate_76 ki_3 ?_
        refine V_cutVv (pc := 77) (As := [.int a0, .int r10, .int 3]) (st := []) (w0 := (wS cI q_w w_forms w_reasons w_lessers w_greaters w_lineGates w_newNumbers w_rows_11 w_gatesBy w_lineCount w_rowCount_12 w_checkCount_13 w_patternRows_14 w_allRows)) (wr := (wC cI q_c c_firsts c_seconds c_truths c_levels c_outLiterals c_outCounts c_patterns c_inputCount c_nodeCount c_patternCount)) (w2 := fun u => ((wS cI q_w u.1 u.2 w_lessers w_greaters w_lineGates w_newNumbers w_rows_11 w_gatesBy w_lineCount w_rowCount_12 w_checkCount_13 w_patternRows_14 w_allRows) ++ (wC cI q_c c_firsts c_seconds c_truths c_levels c_outLiterals c_outCounts c_patterns c_inputCount c_nodeCount c_patternCount))) C (c_W_merge (wp_b h)) mk_X3_merge wd_290 dX3_sweepGate_77 0 rfl rfl rfl ⟨Nat.le_of_ble_eq_true rfl, Nat.le_of_ble_eq_true rfl⟩ [0, 1, 2, 3, 4, 5, 6, 7, 8] [9, 10, 11, 12, 13, 14, 15, 16] [8, 9, 10, 11, 12, 13, 14, 15, 16, 0, 1, 2, 3, 4, 5, 6, 7] ⟨rfl, rfl, by decide +kernel, by decide +kernel, by decide +kernel⟩ (by decide +kernel) (fun u => rfl) (Nat.le_of_ble_eq_true rfl) rfl (fun u hw => ?_)
        obtain ⟨w_forms_22, w_reasons_23⟩ := u
        have h := hw
        try dsimp only at h
        try dsimp only
        exact V_vret (pc := 80) C hQ (w_forms_22, w_reasons_23, w_rows_11, w_rowCount_12, w_checkCount_13, w_patternRows_14) dX3_sweepGate_80 rfl (wp_s h)
    · replace h := wp_f h c8
      refine V_aload_n (pc := 47) C 0 dX3_sweepGate_47 rfl rfl ?_
      refine V_iload_n (pc := 48) C 1 dX3_sweepGate_48 rfl rfl ?_
      refine V_iconst (pc := 49) C dX3_sweepGate_49 ki_2 ?_
      refine V_iload (pc := 50) C 4 dX3_sweepGate_50 rfl ?_
      refine V_imul (pc := 52) C dX3_sweepGate_52 ?_
      refine V_iconst (pc := 53) C dX3_sweepGate_53 ki_2 ?_
      refine V_cutVv (pc := 54) (As := [.int a0, .int ((2 : Int32) * r7), .int 2]) (st := []) (w0 := (wS cI q_w w_forms w_reasons w_lessers w_greaters w_lineGates w_newNumbers w_rows w_gatesBy w_lineCount w_rowCount w_checkCount w_patternRows w_allRows)) (wr := (wC cI q_c c_firsts c_seconds c_truths c_levels c_outLiterals c_outCounts c_patterns c_inputCount c_nodeCount c_patternCount)) (w2 := fun u => ((wS cI q_w u.1 u.2 w_lessers w_greaters w_lineGates w_newNumbers w_rows w_gatesBy w_lineCount w_rowCount w_checkCount w_patternRows w_allRows) ++ (wC cI q_c c_firsts c_seconds c_truths c_levels c_outLiterals c_outCounts c_patterns c_inputCount c_nodeCount c_patternCount))) C (c_W_merge (wp_b h)) mk_X3_merge wd_290 dX3_sweepGate_54 0 rfl rfl rfl ⟨Nat.le_of_ble_eq_true rfl, Nat.le_of_ble_eq_true rfl⟩ [0, 1, 2, 3, 4, 5, 6, 7, 8] [9, 10, 11, 12, 13, 14, 15, 16] [8, 9, 10, 11, 12, 13, 14, 15, 16, 0, 1, 2, 3, 4, 5, 6, 7] ⟨rfl, rfl, by decide +kernel, by decide +kernel, by decide +kernel⟩ (by decide +kernel) (fun u => rfl) (Nat.le_of_ble_eq_true rfl) rfl (fun u hw => ?_)
      obtain ⟨w_forms_26, w_reasons_27⟩ := u
      have h := hw
      try dsimp only at h
      try dsimp only
      exact V_vret (pc := 57) C hQ (w_forms_26, w_reasons_27, w_rows, w_rowCount, w_checkCount, w_patternRows) dX3_sweepGate_57 rfl (wp_s h)
  · replace h := wp_f h c5
    refine V_aload_n (pc := 22) C 0 dX3_sweepGate_22 rfl rfl ?_
    refine V_iload_n (pc := 23) C 1 dX3_sweepGate_23 rfl rfl ?_
    refine V_iload_n (pc := 24) C 3 dX3_sweepGate_24 rfl rfl ?_
    refine V_iconst (pc := 25) C dX3_sweepGate_25 ki_1 ?_
    refine V_cutVv (pc := 26) (As := [.int a0, .int r4, .int 1]) (st := []) (w0 := (wS cI q_w w_forms w_reasons w_lessers w_greaters w_lineGates w_newNumbers w_rows w_gatesBy w_lineCount w_rowCount w_checkCount w_patternRows w_allRows)) (wr := (wC cI q_c c_firsts c_seconds c_truths c_levels c_outLiterals c_outCounts c_patterns c_inputCount c_nodeCount c_patternCount)) (w2 := fun u => ((wS cI q_w u.1 u.2 w_lessers w_greaters w_lineGates w_newNumbers w_rows w_gatesBy w_lineCount w_rowCount w_checkCount w_patternRows w_allRows) ++ (wC cI q_c c_firsts c_seconds c_truths c_levels c_outLiterals c_outCounts c_patterns c_inputCount c_nodeCount c_patternCount))) C (c_W_merge (wp_b h)) mk_X3_merge wd_290 dX3_sweepGate_26 0 rfl rfl rfl ⟨Nat.le_of_ble_eq_true rfl, Nat.le_of_ble_eq_true rfl⟩ [0, 1, 2, 3, 4, 5, 6, 7, 8] [9, 10, 11, 12, 13, 14, 15, 16] [8, 9, 10, 11, 12, 13, 14, 15, 16, 0, 1, 2, 3, 4, 5, 6, 7] ⟨rfl, rfl, by decide +kernel, by decide +kernel, by decide +kernel⟩ (by decide +kernel) (fun u => rfl) (Nat.le_of_ble_eq_true rfl) rfl (fun u hw => ?_)
    obtain ⟨w_forms_30, w_reasons_31⟩ := u
    have h := hw
    try dsimp only at h
    try dsimp only
    exact V_vret (pc := 29) C hQ (w_forms_30, w_reasons_31, w_rows, w_rowCount, w_checkCount, w_patternRows) dX3_sweepGate_29 rfl (wp_s h)
set_option maxRecDepth 100000 in
set_option maxHeartbeats 4000000 in
theorem c_W_run {l : Launch} {D : va_G} {cI cC : ClassId} {q_w : Nat → Nat} {q_c : Nat → Nat} {w_forms : Nat → Int32} {w_reasons : Nat → Int32} {w_lessers : Nat → Int32} {w_greaters : Nat → Int32} {w_lineGates : Nat → Int32} {w_newNumbers : Nat → Int32} {w_rows : Nat → Int32} {w_gatesBy : Nat → Int32} {w_lineCount : Int32} {w_rowCount : Int32} {w_checkCount : Int32} {w_patternRows : Int32} {w_allRows : Int32} {c_firsts : Nat → Int32} {c_seconds : Nat → Int32} {c_truths : Nat → Int32} {c_levels : Nat → Int32} {c_outLiterals : Nat → Int32} {c_outCounts : Nat → Int32} {c_patterns : Nat → Int32} {c_inputCount : Int32} {c_nodeCount : Int32} {c_patternCount : Int32} {post : (Nat → Int32) × (Nat → Int32) × (Nat → Int32) × (Nat → Int32) × (Nat → Int32) × (Nat → Int32) × (Nat → Int32) × Int32 × Int32 × Int32 × Int32 × Int32 → Prop} (h : wpO (W_run c_firsts c_seconds c_truths c_patterns c_inputCount c_nodeCount c_patternCount w_forms w_reasons w_lessers w_greaters w_lineGates w_rows w_gatesBy w_lineCount w_rowCount w_checkCount w_patternRows w_allRows) post) : Cn l yX3_run cX3_run 5 none 4 91 D cI cC [.ref (q_w 0), .ref (q_c 0)] ((wS cI q_w w_forms w_reasons w_lessers w_greaters w_lineGates w_newNumbers w_rows w_gatesBy w_lineCount w_rowCount w_checkCount w_patternRows w_allRows) ++ (wC cI q_c c_firsts c_seconds c_truths c_levels c_outLiterals c_outCounts c_patterns c_inputCount c_nodeCount c_patternCount)) (QV D cI cC (S := (Nat → Int32) × (Nat → Int32) × (Nat → Int32) × (Nat → Int32) × (Nat → Int32) × (Nat → Int32) × (Nat → Int32) × Int32 × Int32 × Int32 × Int32 × Int32) (fun u => ((wS cI q_w u.1 u.2.1 u.2.2.1 u.2.2.2.1 u.2.2.2.2.1 w_newNumbers u.2.2.2.2.2.1 u.2.2.2.2.2.2.1 u.2.2.2.2.2.2.2.1 u.2.2.2.2.2.2.2.2.1 u.2.2.2.2.2.2.2.2.2.1 u.2.2.2.2.2.2.2.2.2.2.1 u.2.2.2.2.2.2.2.2.2.2.2) ++ (wC cI q_c c_firsts c_seconds c_truths c_levels c_outLiterals c_outCounts c_patterns c_inputCount c_nodeCount c_patternCount))) (fun u => post u)) := by
  refine Cn.ofV (own := RX3) (lv0 := [(0, .ref (q_w 0)), (1, .ref (q_c 0))]) rfl (by decide) (Nat.le_of_ble_eq_true rfl) rfl ?_
  intro p e s m below meth c A args Q hQ C
  have hL_12 : ∀ (K : (Nat → Int32) → (Nat → Int32) → (Nat → Int32) → (Nat → Int32) → (Nat → Int32) → (Nat → Int32) → (Nat → Int32) → Int32 → Int32 → Int32 → Int32 → Option ((Nat → Int32) × (Nat → Int32) × (Nat → Int32) × (Nat → Int32) × (Nat → Int32) × (Nat → Int32) × (Nat → Int32) × Int32 × Int32 × Int32 × Int32 × Int32)) (w_allRows : Int32), (∀ (w_forms : Nat → Int32) (w_reasons : Nat → Int32) (w_lessers : Nat → Int32) (w_greaters : Nat → Int32) (w_lineGates : Nat → Int32) (w_rows : Nat → Int32) (w_gatesBy : Nat → Int32) (w_lineCount : Int32) (w_rowCount : Int32) (w_checkCount : Int32) (w_patternRows : Int32), wpO (K w_forms w_reasons w_lessers w_greaters w_lineGates w_rows w_gatesBy w_lineCount w_rowCount w_checkCount w_patternRows) post → V p l e (rmC 4 91) s m args below meth c D A 5 0 0 Q ((wS cI q_w w_forms w_reasons w_lessers w_greaters w_lineGates w_newNumbers w_rows w_gatesBy w_lineCount w_rowCount w_checkCount w_patternRows w_allRows) ++ (wC cI q_c c_firsts c_seconds c_truths c_levels c_outLiterals c_outCounts c_patterns c_inputCount c_nodeCount c_patternCount)) [] 123 []) → ∀ (n : Nat) (l2 : Int32) (w_forms : Nat → Int32) (w_reasons : Nat → Int32) (w_lessers : Nat → Int32) (w_greaters : Nat → Int32) (w_lineGates : Nat → Int32) (w_rows : Nat → Int32) (w_gatesBy : Nat → Int32) (w_lineCount : Int32) (w_rowCount : Int32) (w_checkCount : Int32) (w_patternRows : Int32), wpO (W_run_12 K c_firsts c_seconds c_truths c_inputCount c_nodeCount w_allRows n l2 w_forms w_reasons w_lessers w_greaters w_lineGates w_rows w_gatesBy w_lineCount w_rowCount w_checkCount w_patternRows) post → V p l e (rmC 4 91) s m args below meth c D A 5 0 0 Q ((wS cI q_w w_forms w_reasons w_lessers w_greaters w_lineGates w_newNumbers w_rows w_gatesBy w_lineCount w_rowCount w_checkCount w_patternRows w_allRows) ++ (wC cI q_c c_firsts c_seconds c_truths c_levels c_outLiterals c_outCounts c_patterns c_inputCount c_nodeCount c_patternCount)) [(0, .ref (q_w 0)), (1, .ref (q_c 0)), (2, .int l2)] 12 [] := by
    intro K w_allRows  hK n
    induction n with
    | zero => intro l2 w_forms w_reasons w_lessers w_greaters w_lineGates w_rows w_gatesBy w_lineCount w_rowCount w_checkCount w_patternRows h; rw [W_run_12] at h; exact (wp_n h).elim
    | succ n ih =>
      intro l2 w_forms w_reasons w_lessers w_greaters w_lineGates w_rows w_gatesBy w_lineCount w_rowCount w_checkCount w_patternRows h
      rw [W_run_12] at h
      refine V_iload_n (pc := 12) C 2 dX3_run_12 rfl rfl ?_
      refine V_aload_n (pc := 13) C 1 dX3_run_13 rfl rfl ?_
      refine V_get (pc := 14) C 9 8 inX0 wd_108 dX3_run_14 rfl rfl (by decide) rfl rfl ?_
      refine V_icmp_ge (pc := 17) (tgt := 123) C dX3_run_17 (by decide) (fun c1 => ?_) (fun c1 => ?_)
      · replace h := wp_t h c1
        refine V_lv (pc := 123) [] rfl ?_
        exact hK _ _ _ _ _ _ _ _ _ _ _ h
      · replace h := wp_f h c1
        refine V_aload_n (pc := 20) C 0 dX3_run_20 rfl rfl ?_
        refine V_aload_n (pc := 21) C 1 dX3_run_21 rfl rfl ?_
        refine V_get (pc := 22) C 9 0 inX0 wd_92 dX3_run_22 rfl rfl (by decide) rfl rfl ?_
        refine V_iload_n (pc := 25) C 2 dX3_run_25 rfl rfl ?_
        obtain ⟨b2, h⟩ := wp_c h
        refine V_iald (pc := 26) C 10 dX3_run_26 rfl b2 ?_
        refine V_cutVi (pc := 27) (As := [.int (c_firsts (Int32.toNatClampNeg l2))]) (st := []) (w0 := (wS cI q_w w_forms w_reasons w_lessers w_greaters w_lineGates w_newNumbers w_rows w_gatesBy w_lineCount w_rowCount w_checkCount w_patternRows w_allRows)) (wr := (wC cI q_c c_firsts c_seconds c_truths c_levels c_outLiterals c_outCounts c_patterns c_inputCount c_nodeCount c_patternCount)) (w2 := fun u => ((wS cI q_w w_forms w_reasons w_lessers w_greaters w_lineGates w_newNumbers w_rows w_gatesBy w_lineCount w_rowCount w_checkCount w_patternRows w_allRows) ++ (wC cI q_c c_firsts c_seconds c_truths c_levels c_outLiterals c_outCounts c_patterns c_inputCount c_nodeCount c_patternCount))) C (c_W_formOf (wp_b h)) mk_X3_formOf wd_298 dX3_run_27 0 rfl rfl rfl ⟨Nat.le_of_ble_eq_true rfl, Nat.le_of_ble_eq_true rfl⟩ [0, 1, 2, 3, 4, 5, 6, 7, 8] [9, 10, 11, 12, 13, 14, 15, 16] [8, 9, 10, 11, 12, 13, 14, 15, 16, 0, 1, 2, 3, 4, 5, 6, 7] ⟨rfl, rfl, by decide +kernel, by decide +kernel, by decide +kernel⟩ (by decide +kernel) (fun u => rfl) (Nat.le_of_ble_eq_true rfl) rfl (fun r4 u hw => ?_)
        have h := hw
        try dsimp only at h
        try dsimp only
        refine V_istore_n (pc := 30) (lv' := [(0, .ref (q_w 0)), (1, .ref (q_c 0)), (2, .int l2), (3, .int r4)]) C dX3_run_30 rfl [1, 2, 3, 0] (by decide) rfl ?_
        refine V_aload_n (pc := 31) C 0 dX3_run_31 rfl rfl ?_
        refine V_aload_n (pc := 32) C 1 dX3_run_32 rfl rfl ?_
        refine V_get (pc := 33) C 9 1 inX0 wd_95 dX3_run_33 rfl rfl (by decide) rfl rfl ?_
        refine V_iload_n (pc := 36) C 2 dX3_run_36 rfl rfl ?_
        obtain ⟨b5, h⟩ := wp_c h
        refine V_iald (pc := 37) C 11 dX3_run_37 rfl b5 ?_
        refine V_cutVi (pc := 38) (As := [.int (c_seconds (Int32.toNatClampNeg l2))]) (st := []) (w0 := (wS cI q_w w_forms w_reasons w_lessers w_greaters w_lineGates w_newNumbers w_rows w_gatesBy w_lineCount w_rowCount w_checkCount w_patternRows w_allRows)) (wr := (wC cI q_c c_firsts c_seconds c_truths c_levels c_outLiterals c_outCounts c_patterns c_inputCount c_nodeCount c_patternCount)) (w2 := fun u => ((wS cI q_w w_forms w_reasons w_lessers w_greaters w_lineGates w_newNumbers w_rows w_gatesBy w_lineCount w_rowCount w_checkCount w_patternRows w_allRows) ++ (wC cI q_c c_firsts c_seconds c_truths c_levels c_outLiterals c_outCounts c_patterns c_inputCount c_nodeCount c_patternCount))) C (c_W_formOf (wp_b h)) mk_X3_formOf wd_298 dX3_run_38 0 rfl rfl rfl ⟨Nat.le_of_ble_eq_true rfl, Nat.le_of_ble_eq_true rfl⟩ [0, 1, 2, 3, 4, 5, 6, 7, 8] [9, 10, 11, 12, 13, 14, 15, 16] [8, 9, 10, 11, 12, 13, 14, 15, 16, 0, 1, 2, 3, 4, 5, 6, 7] ⟨rfl, rfl, by decide +kernel, by decide +kernel, by decide +kernel⟩ (by decide +kernel) (fun u => rfl) (Nat.le_of_ble_eq_true rfl) rfl (fun r7 u hw => ?_)
        have h := hw
        try dsimp only at h
        try dsimp only
        refine V_istore (pc := 41) (lv' := [(0, .ref (q_w 0)), (1, .ref (q_c 0)), (2, .int l2), (3, .int r4), (4, .int r7)]) C dX3_run_41 [1, 2, 3, 4, 0] (by decide) rfl ?_
        refine V_aload_n (pc := 43) C 0 dX3_run_43 rfl rfl ?_
        refine V_get (pc := 44) C 0 2 inX3 wd_122 dX3_run_44 rfl rfl (by decide) rfl rfl ?_
        refine V_iload_n (pc := 47) C 2 dX3_run_47 rfl rfl ?_
        refine V_iload_n (pc := 48) C 3 dX3_run_48 rfl rfl ?_
        refine V_iload (pc := 49) C 4 dX3_run_49 rfl ?_
        refine V_mmin (pc := 51) C wd_302 dX3_run_51 (by decide) (Nat.le_of_ble_eq_true rfl) ?_
        obtain ⟨b8, h⟩ := wp_c h
        obtain ⟨w_lessers_9, ew_lessers_9, h⟩ := wp_l h
        refine V_iast (pc := 54) (ws' := ((wS cI q_w w_forms w_reasons w_lessers_9 w_greaters w_lineGates w_newNumbers w_rows w_gatesBy w_lineCount w_rowCount w_checkCount w_patternRows w_allRows) ++ (wC cI q_c c_firsts c_seconds c_truths c_levels c_outLiterals c_outCounts c_patterns c_inputCount c_nodeCount c_patternCount))) C 3 dX3_run_54 rfl b8 ew_lessers_9 rfl ?_
        refine V_aload_n (pc := 55) C 0 dX3_run_55 rfl rfl ?_
        refine V_get (pc := 56) C 0 3 inX3 wd_124 dX3_run_56 rfl rfl (by decide) rfl rfl ?_
        refine V_iload_n (pc := 59) C 2 dX3_run_59 rfl rfl ?_
        refine V_iload_n (pc := 60) C 3 dX3_run_60 rfl rfl ?_
        refine V_iload (pc := 61) C 4 dX3_run_61 rfl ?_
        refine V_mmax (pc := 63) C wd_303 dX3_run_63 (by decide) (Nat.le_of_ble_eq_true rfl) ?_
        obtain ⟨b10, h⟩ := wp_c h
        obtain ⟨w_greaters_11, ew_greaters_11, h⟩ := wp_l h
        refine V_iast (pc := 66) (ws' := ((wS cI q_w w_forms w_reasons w_lessers_9 w_greaters_11 w_lineGates w_newNumbers w_rows w_gatesBy w_lineCount w_rowCount w_checkCount w_patternRows w_allRows) ++ (wC cI q_c c_firsts c_seconds c_truths c_levels c_outLiterals c_outCounts c_patterns c_inputCount c_nodeCount c_patternCount))) C 4 dX3_run_66 rfl b10 ew_greaters_11 rfl ?_
        refine V_aload_n (pc := 67) C 0 dX3_run_67 rfl rfl ?_
        refine V_iload_n (pc := 68) C 2 dX3_run_68 rfl rfl ?_
        refine V_aload_n (pc := 69) C 1 dX3_run_69 rfl rfl ?_
        refine V_callVv (pc := 70) (As := [.int l2, .ref (q_c 0)]) (st := []) C (c_W_sweepGate (wp_b h)) mk_X3_sweepGate wd_304 dX3_run_70 0 rfl rfl rfl ⟨Nat.le_of_ble_eq_true rfl, Nat.le_of_ble_eq_true rfl⟩ (Nat.le_of_ble_eq_true rfl) rfl (fun u hw => ?_)
        obtain ⟨w_forms_14, w_reasons_15, w_rows_16, w_rowCount_17, w_checkCount_18, w_patternRows_19⟩ := u
        have h := hw
        try dsimp only at h
        try dsimp only
        refine V_aload_n (pc := 73) C 0 dX3_run_73 rfl rfl ?_
        refine V_get (pc := 74) C 0 7 inX3 wd_130 dX3_run_74 rfl rfl (by decide) rfl rfl ?_
        refine V_aload_n (pc := 77) C 0 dX3_run_77 rfl rfl ?_
        refine V_get (pc := 78) C 0 1 inX3 wd_120 dX3_run_78 rfl rfl (by decide) rfl rfl ?_
        refine V_iload_n (pc := 81) C 2 dX3_run_81 rfl rfl ?_
        obtain ⟨b20, h⟩ := wp_c h
        refine V_iald (pc := 82) C 2 dX3_run_82 rfl b20 ?_
        refine V_dup2 (pc := 83) C dX3_run_83 rfl rfl ?_
        obtain ⟨b21, h⟩ := wp_c h
        refine V_iald (pc := 84) C 8 dX3_run_84 rfl b21 ?_
        refine V_iconst (pc := 85) C dX3_run_85 ki_1 ?_
        refine V_iadd (pc := 86) C dX3_run_86 ?_
        obtain ⟨b22, h⟩ := wp_c h
        obtain ⟨w_gatesBy_23, ew_gatesBy_23, h⟩ := wp_l h
        refine V_iast (pc := 87) (ws' := ((wS cI q_w w_forms_14 w_reasons_15 w_lessers_9 w_greaters_11 w_lineGates w_newNumbers w_rows_16 w_gatesBy_23 w_lineCount w_rowCount_17 w_checkCount_18 w_patternRows_19 w_allRows) ++ (wC cI q_c c_firsts c_seconds c_truths c_levels c_outLiterals c_outCounts c_patterns c_inputCount c_nodeCount c_patternCount))) C 8 dX3_run_87 rfl b22 ew_gatesBy_23 rfl ?_
        refine V_aload_n (pc := 88) C 0 dX3_run_88 rfl rfl ?_
        refine V_get (pc := 89) C 0 1 inX3 wd_120 dX3_run_89 rfl rfl (by decide) rfl rfl ?_
        refine V_iload_n (pc := 92) C 2 dX3_run_92 rfl rfl ?_
        obtain ⟨b24, h⟩ := wp_c h
        refine V_iald (pc := 93) C 2 dX3_run_93 rfl b24 ?_
        refine V_if_eq (pc := 94) (tgt := 117) C dX3_run_94 (by decide) (fun c25 => ?_) (fun c25 => ?_)
        · replace h := wp_t h c25
          obtain ⟨v26, ev26, h⟩ := wp_l h
          refine V_iinc (pc := 117) (v := v26) (lv' := [(0, .ref (q_w 0)), (1, .ref (q_c 0)), (2, .int v26), (3, .int r4), (4, .int r7)]) (j := 2) C dX3_run_117 rfl (by rw [ev26]; rfl) [1, 2, 0, 3, 4] (by decide) rfl ?_
          refine V_goto (pc := 120) (tgt := 12) C dX3_run_120 (by decide) ?_
          refine V_lv (pc := 12) [0, 1, 2] rfl ?_
          exact ih _ _ _ _ _ _ _ _ _ _ _ _ h
        · replace h := wp_f h c25
          refine V_aload_n (pc := 97) C 0 dX3_run_97 rfl rfl ?_
          refine V_get (pc := 98) C 0 4 inX3 wd_126 dX3_run_98 rfl rfl (by decide) rfl rfl ?_
          refine V_aload_n (pc := 101) C 0 dX3_run_101 rfl rfl ?_
          refine V_get (pc := 102) C 0 8 inX3 wd_131 dX3_run_102 rfl rfl (by decide) rfl rfl ?_
          refine V_iload_n (pc := 105) C 2 dX3_run_105 rfl rfl ?_
          obtain ⟨b27, h⟩ := wp_c h
          obtain ⟨w_lineGates_28, ew_lineGates_28, h⟩ := wp_l h
          refine V_iast (pc := 106) (ws' := ((wS cI q_w w_forms_14 w_reasons_15 w_lessers_9 w_greaters_11 w_lineGates_28 w_newNumbers w_rows_16 w_gatesBy_23 w_lineCount w_rowCount_17 w_checkCount_18 w_patternRows_19 w_allRows) ++ (wC cI q_c c_firsts c_seconds c_truths c_levels c_outLiterals c_outCounts c_patterns c_inputCount c_nodeCount c_patternCount))) C 5 dX3_run_106 rfl b27 ew_lineGates_28 rfl ?_
          refine V_aload_n (pc := 107) C 0 dX3_run_107 rfl rfl ?_
          refine V_dup (pc := 108) C dX3_run_108 rfl ?_
          refine V_get (pc := 109) C 0 8 inX3 wd_131 dX3_run_109 rfl rfl (by decide) rfl rfl ?_
          refine V_iconst (pc := 112) C dX3_run_112 ki_1 ?_
          refine V_iadd (pc := 113) C dX3_run_113 ?_
          obtain ⟨w_lineCount_29, ew_lineCount_29, h⟩ := wp_l h
          refine V_topi (pc := 114) ew_lineCount_29 ?_
          refine V_put (pc := 114) (ws' := ((wS cI q_w w_forms_14 w_reasons_15 w_lessers_9 w_greaters_11 w_lineGates_28 w_newNumbers w_rows_16 w_gatesBy_23 w_lineCount_29 w_rowCount_17 w_checkCount_18 w_patternRows_19 w_allRows) ++ (wC cI q_c c_firsts c_seconds c_truths c_levels c_outLiterals c_outCounts c_patterns c_inputCount c_nodeCount c_patternCount))) C 0 8 inX3 tyX3_ok nmX3 wd_131 dX3_run_114 rfl rfl (by decide) rfl rfl rfl rfl rfl (Nat.le_of_ble_eq_true rfl) rfl ?_
          obtain ⟨v30, ev30, h⟩ := wp_l h
          refine V_iinc (pc := 117) (v := v30) (lv' := [(0, .ref (q_w 0)), (1, .ref (q_c 0)), (2, .int v30), (3, .int r4), (4, .int r7)]) (j := 2) C dX3_run_117 rfl (by rw [ev30]; rfl) [1, 2, 0, 3, 4] (by decide) rfl ?_
          refine V_goto (pc := 120) (tgt := 12) C dX3_run_120 (by decide) ?_
          refine V_lv (pc := 12) [0, 1, 2] rfl ?_
          exact ih _ _ _ _ _ _ _ _ _ _ _ _ h
  unfold W_run at h
  refine V_aload_n (pc := 0) C 0 dX3_run_0 rfl rfl ?_
  refine V_aload_n (pc := 1) C 1 dX3_run_1 rfl rfl ?_
  refine V_callVv (pc := 2) (As := [.ref (q_c 0)]) (st := []) C (c_W_begin (wp_b h)) mk_X3_begin wd_285 dX3_run_2 0 rfl rfl rfl ⟨Nat.le_of_ble_eq_true rfl, Nat.le_of_ble_eq_true rfl⟩ (Nat.le_of_ble_eq_true rfl) rfl (fun u hw => ?_)
  obtain ⟨w_forms_33, w_reasons_34, w_rows_35, w_gatesBy_36, w_lineCount_37, w_rowCount_38, w_checkCount_39, w_patternRows_40, w_allRows_41⟩ := u
  have h := hw
  try dsimp only at h
  try dsimp only
  refine V_aload_n (pc := 5) C 1 dX3_run_5 rfl rfl ?_
  refine V_get (pc := 6) C 9 7 inX0 wd_106 dX3_run_6 rfl rfl (by decide) rfl rfl ?_
  refine V_iconst (pc := 9) C dX3_run_9 ki_1 ?_
  refine V_iadd (pc := 10) C dX3_run_10 ?_
  obtain ⟨v42, ev42, h⟩ := wp_l h
  refine V_topi (pc := 11) ev42 ?_
  refine V_istore_n (pc := 11) (lv' := [(0, .ref (q_w 0)), (1, .ref (q_c 0)), (2, .int v42)]) C dX3_run_11 rfl [1, 2, 0] (by decide) rfl ?_
  refine hL_12 _ _ (fun w_forms_43 w_reasons_44 w_lessers_45 w_greaters_46 w_lineGates_47 w_rows_48 w_gatesBy_49 w_lineCount_50 w_rowCount_51 w_checkCount_52 w_patternRows_53 h => ?_) 1000 _ _ _ _ _ _ _ _ _ _ _ _ h
  try dsimp only at h
  exact V_vret (pc := 123) C hQ (w_forms_43, w_reasons_44, w_lessers_45, w_greaters_46, w_lineGates_47, w_rows_48, w_gatesBy_49, w_lineCount_50, w_rowCount_51, w_checkCount_52, w_patternRows_53, w_allRows_41) dX3_run_123 rfl (wp_s h)
set_option maxRecDepth 100000 in
set_option maxHeartbeats 4000000 in
theorem c_W_lineOf {l : Launch} {D : va_G} {cI cC : ClassId} {q_w : Nat → Nat} {w_forms : Nat → Int32} {w_reasons : Nat → Int32} {w_lessers : Nat → Int32} {w_greaters : Nat → Int32} {w_lineGates : Nat → Int32} {w_newNumbers : Nat → Int32} {w_rows : Nat → Int32} {w_gatesBy : Nat → Int32} {w_lineCount : Int32} {w_rowCount : Int32} {w_checkCount : Int32} {w_patternRows : Int32} {w_allRows : Int32} {a0 : Int32} {a1 : Int32} {post : Int32 → Prop} (h : wpO (W_lineOf w_forms w_reasons w_lineGates a0 a1) post) : Cn l yX3_lineOf cX3_lineOf 4 (some .int) 0 0 D cI cC [.ref (q_w 0), .int a0, .int a1] (wS cI q_w w_forms w_reasons w_lessers w_greaters w_lineGates w_newNumbers w_rows w_gatesBy w_lineCount w_rowCount w_checkCount w_patternRows w_allRows) (QI D cI cC (S := Unit) (fun u => (wS cI q_w w_forms w_reasons w_lessers w_greaters w_lineGates w_newNumbers w_rows w_gatesBy w_lineCount w_rowCount w_checkCount w_patternRows w_allRows)) (fun r u => post r)) := by
  refine Cn.ofV (own := RX3) (lv0 := [(0, .ref (q_w 0)), (1, .int a0), (2, .int a1)]) rfl (by decide) (Nat.le_of_ble_eq_true rfl) rfl ?_
  intro p e s m below meth c A args Q hQ C
  unfold W_lineOf at h
  refine V_aload_n (pc := 0) C 0 dX3_lineOf_0 rfl rfl ?_
  refine V_get (pc := 1) C 0 4 inX3 wd_126 dX3_lineOf_1 rfl rfl (by decide) rfl rfl ?_
  refine V_iload_n (pc := 4) C 1 dX3_lineOf_4 rfl rfl ?_
  obtain ⟨b1, h⟩ := wp_c h
  refine V_iald (pc := 5) C 5 dX3_lineOf_5 rfl b1 ?_
  obtain ⟨v2, ev2, h⟩ := wp_l h
  refine V_topi (pc := 6) ev2 ?_
  refine V_istore_n (pc := 6) (lv' := [(0, .ref (q_w 0)), (1, .int a0), (2, .int a1), (3, .int v2)]) C dX3_lineOf_6 rfl [1, 2, 3, 0] (by decide) rfl ?_
  refine V_iload_n (pc := 7) C 2 dX3_lineOf_7 rfl rfl ?_
  by_cases c3 : a1 = 0
  · replace h := wp_t h c3
    refine V_topi (pc := 8) (y := 0) c3.symm ?_
    refine V_lookup (pc := 8) (tgt := 36) C dX3_lineOf_8 (by decide) rfl (by decide) ?_
    refine V_iload_n (pc := 36) C 3 dX3_lineOf_36 rfl rfl ?_
    exact V_iret (pc := 37) C hQ () dX3_lineOf_37 (vp_nar_int _) rfl (wp_s h)
  · replace h := wp_f h c3
    by_cases c4 : a1 = 1
    · replace h := wp_t h c4
      refine V_topi (pc := 8) (y := 1) c4.symm ?_
      refine V_lookup (pc := 8) (tgt := 38) C dX3_lineOf_8 (by decide) rfl (by decide) ?_
      refine V_aload_n (pc := 38) C 0 dX3_lineOf_38 rfl rfl ?_
      refine V_get (pc := 39) C 0 0 inX3 wd_118 dX3_lineOf_39 rfl rfl (by decide) rfl rfl ?_
      refine V_iload_n (pc := 42) C 3 dX3_lineOf_42 rfl rfl ?_
      obtain ⟨b5, h⟩ := wp_c h
      refine V_iald (pc := 43) C 1 dX3_lineOf_43 rfl b5 ?_
      exact V_iret (pc := 44) C hQ () dX3_lineOf_44 (vp_nar_int _) rfl (wp_s h)
    · replace h := wp_f h c4
      refine V_lookup (pc := 8) (tgt := 45) (off := 37) C dX3_lineOf_8 (by decide) (by have nc3 := (sw_ne c3 (z := 0) (by decide)).symm; have nc4 := (sw_ne c4 (z := 1) (by decide)).symm; simp [Op.lookupswitch.offset, nc3, nc4]) (by decide) ?_
      refine V_aload_n (pc := 45) C 0 dX3_lineOf_45 rfl rfl ?_
      refine V_get (pc := 46) C 0 1 inX3 wd_120 dX3_lineOf_46 rfl rfl (by decide) rfl rfl ?_
      refine V_iload_n (pc := 49) C 3 dX3_lineOf_49 rfl rfl ?_
      obtain ⟨b6, h⟩ := wp_c h
      refine V_iald (pc := 50) C 2 dX3_lineOf_50 rfl b6 ?_
      exact V_iret (pc := 51) C hQ () dX3_lineOf_51 (vp_nar_int _) rfl (wp_s h)
set_option maxRecDepth 100000 in
set_option maxHeartbeats 4000000 in
theorem c_W_tallyOf {l : Launch} {D : va_G} {cI cC : ClassId} {q_w : Nat → Nat} {w_forms : Nat → Int32} {w_reasons : Nat → Int32} {w_lessers : Nat → Int32} {w_greaters : Nat → Int32} {w_lineGates : Nat → Int32} {w_newNumbers : Nat → Int32} {w_rows : Nat → Int32} {w_gatesBy : Nat → Int32} {w_lineCount : Int32} {w_rowCount : Int32} {w_checkCount : Int32} {w_patternRows : Int32} {w_allRows : Int32} {a0 : Int32} {post : Int32 → Prop} (h : wpO (W_tallyOf w_gatesBy w_rowCount w_checkCount a0) post) : Cn l yX3_tallyOf cX3_tallyOf 2 (some .int) 0 0 D cI cC [.ref (q_w 0), .int a0] (wS cI q_w w_forms w_reasons w_lessers w_greaters w_lineGates w_newNumbers w_rows w_gatesBy w_lineCount w_rowCount w_checkCount w_patternRows w_allRows) (QI D cI cC (S := Unit) (fun u => (wS cI q_w w_forms w_reasons w_lessers w_greaters w_lineGates w_newNumbers w_rows w_gatesBy w_lineCount w_rowCount w_checkCount w_patternRows w_allRows)) (fun r u => post r)) := by
  refine Cn.ofV (own := RX3) (lv0 := [(0, .ref (q_w 0)), (1, .int a0)]) rfl (by decide) (Nat.le_of_ble_eq_true rfl) rfl ?_
  intro p e s m below meth c A args Q hQ C
  unfold W_tallyOf at h
  refine V_iload_n (pc := 0) C 1 dX3_tallyOf_0 rfl rfl ?_
  by_cases c1 : a0 = 4
  · replace h := wp_t h c1
    refine V_topi (pc := 1) (y := 4) c1.symm ?_
    refine V_lookup (pc := 1) (tgt := 28) C dX3_tallyOf_1 (by decide) rfl (by decide) ?_
    refine V_aload_n (pc := 28) C 0 dX3_tallyOf_28 rfl rfl ?_
    refine V_get (pc := 29) C 0 10 inX3 wd_135 dX3_tallyOf_29 rfl rfl (by decide) rfl rfl ?_
    exact V_iret (pc := 32) C hQ () dX3_tallyOf_32 (vp_nar_int _) rfl (wp_s h)
  · replace h := wp_f h c1
    by_cases c2 : a0 = 5
    · replace h := wp_t h c2
      refine V_topi (pc := 1) (y := 5) c2.symm ?_
      refine V_lookup (pc := 1) (tgt := 33) C dX3_tallyOf_1 (by decide) rfl (by decide) ?_
      refine V_aload_n (pc := 33) C 0 dX3_tallyOf_33 rfl rfl ?_
      refine V_get (pc := 34) C 0 9 inX3 wd_133 dX3_tallyOf_34 rfl rfl (by decide) rfl rfl ?_
      exact V_iret (pc := 37) C hQ () dX3_tallyOf_37 (vp_nar_int _) rfl (wp_s h)
    · replace h := wp_f h c2
      refine V_lookup (pc := 1) (tgt := 38) (off := 37) C dX3_tallyOf_1 (by decide) (by have nc1 := (sw_ne c1 (z := 4) (by decide)).symm; have nc2 := (sw_ne c2 (z := 5) (by decide)).symm; simp [Op.lookupswitch.offset, nc1, nc2]) (by decide) ?_
      refine V_aload_n (pc := 38) C 0 dX3_tallyOf_38 rfl rfl ?_
      refine V_get (pc := 39) C 0 7 inX3 wd_130 dX3_tallyOf_39 rfl rfl (by decide) rfl rfl ?_
      refine V_iload_n (pc := 42) C 1 dX3_tallyOf_42 rfl rfl ?_
      obtain ⟨b3, h⟩ := wp_c h
      refine V_iald (pc := 43) C 8 dX3_tallyOf_43 rfl b3 ?_
      exact V_iret (pc := 44) C hQ () dX3_tallyOf_44 (vp_nar_int _) rfl (wp_s h)
set_option maxRecDepth 100000 in
set_option maxHeartbeats 4000000 in
theorem c_W_digestOn {l : Launch} {D : va_G} {cI cC : ClassId} {q_w : Nat → Nat} {w_forms : Nat → Int32} {w_reasons : Nat → Int32} {w_lessers : Nat → Int32} {w_greaters : Nat → Int32} {w_lineGates : Nat → Int32} {w_newNumbers : Nat → Int32} {w_rows : Nat → Int32} {w_gatesBy : Nat → Int32} {w_lineCount : Int32} {w_rowCount : Int32} {w_checkCount : Int32} {w_patternRows : Int32} {w_allRows : Int32} {a0 : Int64} {post : Int64 → Prop} (h : wpO (W_digestOn w_forms w_reasons w_lineGates w_rows w_gatesBy w_lineCount w_rowCount w_checkCount a0) post) : Cn l yX3_digestOn cX3_digestOn 5 (some .long) 1 23 D cI cC [.ref (q_w 0), .long a0] (wS cI q_w w_forms w_reasons w_lessers w_greaters w_lineGates w_newNumbers w_rows w_gatesBy w_lineCount w_rowCount w_checkCount w_patternRows w_allRows) (QL D cI cC (S := Unit) (fun u => (wS cI q_w w_forms w_reasons w_lessers w_greaters w_lineGates w_newNumbers w_rows w_gatesBy w_lineCount w_rowCount w_checkCount w_patternRows w_allRows)) (fun r u => post r)) := by
  refine Cn.ofV (own := RX3) (lv0 := [(0, .ref (q_w 0)), (1, .long a0)]) rfl (by decide) (Nat.le_of_ble_eq_true rfl) rfl ?_
  intro p e s m below meth c A args Q hQ C
  have hL_32 : ∀ (K : Int64 → Option (Int64)), (∀ (l1 : Int64), wpO (K l1) post → V p l e (rmC 1 23) s m args below meth c D A 5 0 0 Q (wS cI q_w w_forms w_reasons w_lessers w_greaters w_lineGates w_newNumbers w_rows w_gatesBy w_lineCount w_rowCount w_checkCount w_patternRows w_allRows) [(0, .ref (q_w 0)), (1, .long l1)] 56 []) → ∀ (n : Nat) (l1 : Int64) (l3 : Int32), wpO (W_digestOn_32 K w_gatesBy w_rowCount w_checkCount n l1 l3) post → V p l e (rmC 1 23) s m args below meth c D A 5 0 0 Q (wS cI q_w w_forms w_reasons w_lessers w_greaters w_lineGates w_newNumbers w_rows w_gatesBy w_lineCount w_rowCount w_checkCount w_patternRows w_allRows) [(0, .ref (q_w 0)), (1, .long l1), (3, .int l3)] 32 [] := by
    intro K   hK n
    induction n with
    | zero => intro l1 l3 h; rw [W_digestOn_32] at h; exact (wp_n h).elim
    | succ n ih =>
      intro l1 l3 h
      rw [W_digestOn_32] at h
      refine V_iload_n (pc := 32) C 2 dX3_digestOn_32 rfl rfl ?_
      refine V_iconst (pc := 33) C dX3_digestOn_33 ki_5 ?_
      refine V_icmp_gt (pc := 34) (tgt := 56) C dX3_digestOn_34 (by decide) (fun c1 => ?_) (fun c1 => ?_)
      · replace h := wp_t h c1
        refine V_lv (pc := 56) [0, 1] rfl ?_
        exact hK _ h
      · replace h := wp_f h c1
        refine V_ldc2 (pc := 37) C wd_580 dX3_digestOn_37 ?_
        refine V_lload_n (pc := 40) C 1 dX3_digestOn_40 rfl rfl ?_
        refine V_lmul (pc := 41) C dX3_digestOn_41 ?_
        refine V_aload_n (pc := 42) C 0 dX3_digestOn_42 rfl rfl ?_
        refine V_iload_n (pc := 43) C 2 dX3_digestOn_43 rfl rfl ?_
        refine V_callVi (pc := 44) (As := [.int l3]) (st := [.long ((31 : Int64) * l1)]) C (c_W_tallyOf (wp_b h)) mk_X3_tallyOf wd_581 dX3_digestOn_44 0 rfl rfl rfl ⟨Nat.le_of_ble_eq_true rfl, Nat.le_of_ble_eq_true rfl⟩ (Nat.le_of_ble_eq_true rfl) rfl (fun r3 u hw => ?_)
        have h := hw
        try dsimp only at h
        try dsimp only
        refine V_i2l (pc := 47) C dX3_digestOn_47 ?_
        refine V_ladd (pc := 48) C dX3_digestOn_48 ?_
        obtain ⟨v4, ev4, h⟩ := wp_l h
        refine V_topl (pc := 49) ev4 ?_
        refine V_lstore_n (pc := 49) (lv' := [(0, .ref (q_w 0)), (1, .long v4), (3, .int l3)]) C dX3_digestOn_49 rfl [1, 0, 2] (by decide) rfl ?_
        obtain ⟨v5, ev5, h⟩ := wp_l h
        refine V_iinc (pc := 50) (v := v5) (lv' := [(0, .ref (q_w 0)), (1, .long v4), (3, .int v5)]) (j := 2) C dX3_digestOn_50 rfl (by rw [ev5]; rfl) [1, 2, 0] (by decide) rfl ?_
        refine V_goto (pc := 53) (tgt := 32) C dX3_digestOn_53 (by decide) ?_
        exact ih _ _ h
  have hL_69 : ∀ (K : Int64 → Option (Int64)) (l3 : Int32), (∀ (l1 : Int64), wpO (K l1) post → V p l e (rmC 1 23) s m args below meth c D A 5 0 0 Q (wS cI q_w w_forms w_reasons w_lessers w_greaters w_lineGates w_newNumbers w_rows w_gatesBy w_lineCount w_rowCount w_checkCount w_patternRows w_allRows) [(0, .ref (q_w 0)), (1, .long l1), (3, .int l3)] 96 []) → ∀ (n : Nat) (l1 : Int64) (l4 : Int32), wpO (W_digestOn_69 K w_forms w_reasons w_lineGates l3 n l1 l4) post → V p l e (rmC 1 23) s m args below meth c D A 5 0 0 Q (wS cI q_w w_forms w_reasons w_lessers w_greaters w_lineGates w_newNumbers w_rows w_gatesBy w_lineCount w_rowCount w_checkCount w_patternRows w_allRows) [(0, .ref (q_w 0)), (1, .long l1), (3, .int l3), (4, .int l4)] 69 [] := by
    intro K  l3 hK n
    induction n with
    | zero => intro l1 l4 h; rw [W_digestOn_69] at h; exact (wp_n h).elim
    | succ n ih =>
      intro l1 l4 h
      rw [W_digestOn_69] at h
      refine V_iload (pc := 69) C 3 dX3_digestOn_69 rfl ?_
      refine V_iconst (pc := 71) C dX3_digestOn_71 ki_2 ?_
      refine V_icmp_gt (pc := 72) (tgt := 96) C dX3_digestOn_72 (by decide) (fun c6 => ?_) (fun c6 => ?_)
      · replace h := wp_t h c6
        refine V_lv (pc := 96) [0, 1, 2] rfl ?_
        exact hK _ h
      · replace h := wp_f h c6
        refine V_ldc2 (pc := 75) C wd_580 dX3_digestOn_75 ?_
        refine V_lload_n (pc := 78) C 1 dX3_digestOn_78 rfl rfl ?_
        refine V_lmul (pc := 79) C dX3_digestOn_79 ?_
        refine V_aload_n (pc := 80) C 0 dX3_digestOn_80 rfl rfl ?_
        refine V_iload_n (pc := 81) C 2 dX3_digestOn_81 rfl rfl ?_
        refine V_iload (pc := 82) C 3 dX3_digestOn_82 rfl ?_
        refine V_callVi (pc := 84) (As := [.int l3, .int l4]) (st := [.long ((31 : Int64) * l1)]) C (c_W_lineOf (wp_b h)) mk_X3_lineOf wd_582 dX3_digestOn_84 0 rfl rfl rfl ⟨Nat.le_of_ble_eq_true rfl, Nat.le_of_ble_eq_true rfl⟩ (Nat.le_of_ble_eq_true rfl) rfl (fun r8 u hw => ?_)
        have h := hw
        try dsimp only at h
        try dsimp only
        refine V_i2l (pc := 87) C dX3_digestOn_87 ?_
        refine V_ladd (pc := 88) C dX3_digestOn_88 ?_
        obtain ⟨v9, ev9, h⟩ := wp_l h
        refine V_topl (pc := 89) ev9 ?_
        refine V_lstore_n (pc := 89) (lv' := [(0, .ref (q_w 0)), (1, .long v9), (3, .int l3), (4, .int l4)]) C dX3_digestOn_89 rfl [1, 0, 2, 3] (by decide) rfl ?_
        obtain ⟨v10, ev10, h⟩ := wp_l h
        refine V_iinc (pc := 90) (v := v10) (lv' := [(0, .ref (q_w 0)), (1, .long v9), (3, .int l3), (4, .int v10)]) (j := 3) C dX3_digestOn_90 rfl (by rw [ev10]; rfl) [1, 2, 3, 0] (by decide) rfl ?_
        refine V_goto (pc := 93) (tgt := 69) C dX3_digestOn_93 (by decide) ?_
        exact ih _ _ h
  have hL_2 : ∀ (K : Int64 → Option (Int64)), (∀ (l1 : Int64), wpO (K l1) post → V p l e (rmC 1 23) s m args below meth c D A 5 0 0 Q (wS cI q_w w_forms w_reasons w_lessers w_greaters w_lineGates w_newNumbers w_rows w_gatesBy w_lineCount w_rowCount w_checkCount w_patternRows w_allRows) [(0, .ref (q_w 0)), (1, .long l1)] 30 []) → ∀ (n : Nat) (l1 : Int64) (l3 : Int32), wpO (W_digestOn_2 K w_rows w_rowCount n l1 l3) post → V p l e (rmC 1 23) s m args below meth c D A 5 0 0 Q (wS cI q_w w_forms w_reasons w_lessers w_greaters w_lineGates w_newNumbers w_rows w_gatesBy w_lineCount w_rowCount w_checkCount w_patternRows w_allRows) [(0, .ref (q_w 0)), (1, .long l1), (3, .int l3)] 2 [] := by
    intro K   hK n
    induction n with
    | zero => intro l1 l3 h; rw [W_digestOn_2] at h; exact (wp_n h).elim
    | succ n ih =>
      intro l1 l3 h
      rw [W_digestOn_2] at h
      refine V_iload_n (pc := 2) C 2 dX3_digestOn_2 rfl rfl ?_
      refine V_aload_n (pc := 3) C 0 dX3_digestOn_3 rfl rfl ?_
      refine V_get (pc := 4) C 0 9 inX3 wd_133 dX3_digestOn_4 rfl rfl (by decide) rfl rfl ?_
      refine V_icmp_ge (pc := 7) (tgt := 30) C dX3_digestOn_7 (by decide) (fun c11 => ?_) (fun c11 => ?_)
      · replace h := wp_t h c11
        refine V_lv (pc := 30) [0, 1] rfl ?_
        exact hK _ h
      · replace h := wp_f h c11
        refine V_ldc2 (pc := 10) C wd_580 dX3_digestOn_10 ?_
        refine V_lload_n (pc := 13) C 1 dX3_digestOn_13 rfl rfl ?_
        refine V_lmul (pc := 14) C dX3_digestOn_14 ?_
        refine V_aload_n (pc := 15) C 0 dX3_digestOn_15 rfl rfl ?_
        refine V_get (pc := 16) C 0 6 inX3 wd_128 dX3_digestOn_16 rfl rfl (by decide) rfl rfl ?_
        refine V_iload_n (pc := 19) C 2 dX3_digestOn_19 rfl rfl ?_
        obtain ⟨b12, h⟩ := wp_c h
        refine V_iald (pc := 20) C 7 dX3_digestOn_20 rfl b12 ?_
        refine V_i2l (pc := 21) C dX3_digestOn_21 ?_
        refine V_ladd (pc := 22) C dX3_digestOn_22 ?_
        obtain ⟨v13, ev13, h⟩ := wp_l h
        refine V_topl (pc := 23) ev13 ?_
        refine V_lstore_n (pc := 23) (lv' := [(0, .ref (q_w 0)), (1, .long v13), (3, .int l3)]) C dX3_digestOn_23 rfl [1, 0, 2] (by decide) rfl ?_
        obtain ⟨v14, ev14, h⟩ := wp_l h
        refine V_iinc (pc := 24) (v := v14) (lv' := [(0, .ref (q_w 0)), (1, .long v13), (3, .int v14)]) (j := 2) C dX3_digestOn_24 rfl (by rw [ev14]; rfl) [1, 2, 0] (by decide) rfl ?_
        refine V_goto (pc := 27) (tgt := 2) C dX3_digestOn_27 (by decide) ?_
        exact ih _ _ h
  have hL_58 : ∀ (K : Int64 → Option (Int64)), (∀ (l1 : Int64), wpO (K l1) post → V p l e (rmC 1 23) s m args below meth c D A 5 0 0 Q (wS cI q_w w_forms w_reasons w_lessers w_greaters w_lineGates w_newNumbers w_rows w_gatesBy w_lineCount w_rowCount w_checkCount w_patternRows w_allRows) [(1, .long l1)] 102 []) → ∀ (n : Nat) (l1 : Int64) (l3 : Int32), wpO (W_digestOn_58 K w_forms w_reasons w_lineGates w_lineCount n l1 l3) post → V p l e (rmC 1 23) s m args below meth c D A 5 0 0 Q (wS cI q_w w_forms w_reasons w_lessers w_greaters w_lineGates w_newNumbers w_rows w_gatesBy w_lineCount w_rowCount w_checkCount w_patternRows w_allRows) [(0, .ref (q_w 0)), (1, .long l1), (3, .int l3)] 58 [] := by
    intro K   hK n
    induction n with
    | zero => intro l1 l3 h; rw [W_digestOn_58] at h; exact (wp_n h).elim
    | succ n ih =>
      intro l1 l3 h
      rw [W_digestOn_58] at h
      refine V_iload_n (pc := 58) C 2 dX3_digestOn_58 rfl rfl ?_
      refine V_aload_n (pc := 59) C 0 dX3_digestOn_59 rfl rfl ?_
      refine V_get (pc := 60) C 0 8 inX3 wd_131 dX3_digestOn_60 rfl rfl (by decide) rfl rfl ?_
      refine V_icmp_ge (pc := 63) (tgt := 102) C dX3_digestOn_63 (by decide) (fun c15 => ?_) (fun c15 => ?_)
      · replace h := wp_t h c15
        refine V_lv (pc := 102) [1] rfl ?_
        exact hK _ h
      · replace h := wp_f h c15
        refine V_iconst (pc := 66) C dX3_digestOn_66 ki_0 ?_
        refine V_istore (pc := 67) (lv' := [(0, .ref (q_w 0)), (1, .long l1), (3, .int l3), (4, .int 0)]) C dX3_digestOn_67 [1, 2, 3, 0] (by decide) rfl ?_
        refine hL_69 _ _ (fun l1_16 h => ?_) 1000 _ _ h
        try dsimp only at h
        obtain ⟨v17, ev17, h⟩ := wp_l h
        refine V_iinc (pc := 96) (v := v17) (lv' := [(0, .ref (q_w 0)), (1, .long l1_16), (3, .int v17)]) (j := 2) C dX3_digestOn_96 rfl (by rw [ev17]; rfl) [1, 2, 0] (by decide) rfl ?_
        refine V_goto (pc := 99) (tgt := 58) C dX3_digestOn_99 (by decide) ?_
        exact ih _ _ h
  unfold W_digestOn at h
  refine V_iconst (pc := 0) C dX3_digestOn_0 ki_0 ?_
  refine V_istore_n (pc := 1) (lv' := [(0, .ref (q_w 0)), (1, .long a0), (3, .int 0)]) C dX3_digestOn_1 rfl [1, 2, 0] (by decide) rfl ?_
  refine hL_2 _ (fun l1_18 h => ?_) 1000 _ _ h
  try dsimp only at h
  refine V_iconst (pc := 30) C dX3_digestOn_30 ki_0 ?_
  refine V_istore_n (pc := 31) (lv' := [(0, .ref (q_w 0)), (1, .long l1_18), (3, .int 0)]) C dX3_digestOn_31 rfl [1, 2, 0] (by decide) rfl ?_
  refine hL_32 _ (fun l1_19 h => ?_) 1000 _ _ h
  try dsimp only at h
  refine V_iconst (pc := 56) C dX3_digestOn_56 ki_0 ?_
  refine V_istore_n (pc := 57) (lv' := [(0, .ref (q_w 0)), (1, .long l1_19), (3, .int 0)]) C dX3_digestOn_57 rfl [1, 2, 0] (by decide) rfl ?_
  refine hL_58 _ (fun l1_20 h => ?_) 1000 _ _ h
  try dsimp only at h
  refine V_lload_n (pc := 102) C 0 dX3_digestOn_102 rfl rfl ?_
  exact V_lret (pc := 103) C hQ () dX3_digestOn_103 rfl (wp_s h)
