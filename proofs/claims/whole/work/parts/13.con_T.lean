set_option maxRecDepth 100000 in
set_option maxHeartbeats 4000000 in
theorem c_T_append {l : Launch} {D : va_G} {cI cC : ClassId} {q_t : Nat → Nat} {t_bytes : Nat → Int32} {t_kinds : Nat → Int32} {t_numbers : Nat → Int32} {t_length : Int32} {t_orderCount : Int32} {t_openKind : Int32} {t_given : Int32} {t_figures : Int32} {a0 : Int32} {post : Int32 × (Nat → Int32) × Int32 → Prop} (h : wpO (T_append t_bytes t_length a0) post) : Cn l yX2_append cX2_append 2 (some .int) 0 0 D cI cC [.ref (q_t 0), .int a0] (wT cI q_t t_bytes t_kinds t_numbers t_length t_orderCount t_openKind t_given t_figures) (QI D cI cC (S := (Nat → Int32) × Int32) (fun u => (wT cI q_t u.1 t_kinds t_numbers u.2 t_orderCount t_openKind t_given t_figures)) (fun r u => post (r, u))) := by
  refine Cn.ofV (own := RX2) (lv0 := [(0, .ref (q_t 0)), (1, .int a0)]) rfl (by decide) (Nat.le_of_ble_eq_true rfl) rfl ?_
  intro p e s m below meth c A args Q hQ C
  unfold T_append at h
  refine V_aload_n (pc := 0) C 0 dX2_append_0 rfl rfl ?_
  refine V_get (pc := 1) C 0 0 inX2 wd_155 dX2_append_1 rfl rfl (by decide) rfl rfl ?_
  refine V_aload_n (pc := 4) C 0 dX2_append_4 rfl rfl ?_
  refine V_get (pc := 5) C 0 3 inX2 wd_159 dX2_append_5 rfl rfl (by decide) rfl rfl ?_
  refine V_iload_n (pc := 8) C 1 dX2_append_8 rfl rfl ?_
  obtain ⟨b1, h⟩ := wp_c h
  obtain ⟨t_bytes_2, et_bytes_2, h⟩ := wp_l h
  refine V_iast (pc := 9) (ws' := (wT cI q_t t_bytes_2 t_kinds t_numbers t_length t_orderCount t_openKind t_given t_figures)) C 1 dX2_append_9 rfl b1 et_bytes_2 rfl ?_
  refine V_aload_n (pc := 10) C 0 dX2_append_10 rfl rfl ?_
  refine V_dup (pc := 11) C dX2_append_11 rfl ?_
  refine V_get (pc := 12) C 0 3 inX2 wd_159 dX2_append_12 rfl rfl (by decide) rfl rfl ?_
  refine V_iconst (pc := 15) C dX2_append_15 ki_1 ?_
  refine V_iadd (pc := 16) C dX2_append_16 ?_
  obtain ⟨t_length_3, et_length_3, h⟩ := wp_l h
  refine V_topi (pc := 17) et_length_3 ?_
  refine V_put (pc := 17) (ws' := (wT cI q_t t_bytes_2 t_kinds t_numbers t_length_3 t_orderCount t_openKind t_given t_figures)) C 0 3 inX2 tyX2_ok nmX2 wd_159 dX2_append_17 rfl rfl (by decide) rfl rfl rfl rfl rfl (Nat.le_of_ble_eq_true rfl) rfl ?_
  refine V_aload_n (pc := 20) C 0 dX2_append_20 rfl rfl ?_
  refine V_get (pc := 21) C 0 3 inX2 wd_159 dX2_append_21 rfl rfl (by decide) rfl rfl ?_
  exact V_iret (pc := 24) C hQ (t_bytes_2, t_length_3) dX2_append_24 (vp_nar_int _) rfl (wp_s h)
set_option maxRecDepth 100000 in
set_option maxHeartbeats 4000000 in
theorem c_T_numberOf {l : Launch} {D : va_G} {cI cC : ClassId} {q_t : Nat → Nat} {t_bytes : Nat → Int32} {t_kinds : Nat → Int32} {t_numbers : Nat → Int32} {t_length : Int32} {t_orderCount : Int32} {t_openKind : Int32} {t_given : Int32} {t_figures : Int32} {a0 : Int32} {a1 : Int32} {post : Int32 → Prop} (h : wpO (T_numberOf t_numbers a0 a1) post) : Cn l yX2_numberOf cX2_numberOf 3 (some .int) 0 0 D cI cC [.ref (q_t 0), .int a0, .int a1] (wT cI q_t t_bytes t_kinds t_numbers t_length t_orderCount t_openKind t_given t_figures) (QI D cI cC (S := Unit) (fun u => (wT cI q_t t_bytes t_kinds t_numbers t_length t_orderCount t_openKind t_given t_figures)) (fun r u => post r)) := by
  refine Cn.ofV (own := RX2) (lv0 := [(0, .ref (q_t 0)), (1, .int a0), (2, .int a1)]) rfl (by decide) (Nat.le_of_ble_eq_true rfl) rfl ?_
  intro p e s m below meth c A args Q hQ C
  unfold T_numberOf at h
  refine V_aload_n (pc := 0) C 0 dX2_numberOf_0 rfl rfl ?_
  refine V_get (pc := 1) C 0 2 inX2 wd_158 dX2_numberOf_1 rfl rfl (by decide) rfl rfl ?_
  refine V_iload_n (pc := 4) C 1 dX2_numberOf_4 rfl rfl ?_
  refine V_iconst (pc := 5) C dX2_numberOf_5 ki_3 ?_
  refine V_imul (pc := 6) C dX2_numberOf_6 ?_
  refine V_iload_n (pc := 7) C 2 dX2_numberOf_7 rfl rfl ?_
  refine V_iadd (pc := 8) C dX2_numberOf_8 ?_
  obtain ⟨b1, h⟩ := wp_c h
  refine V_iald (pc := 9) C 3 dX2_numberOf_9 rfl b1 ?_
  exact V_iret (pc := 10) C hQ () dX2_numberOf_10 (vp_nar_int _) rfl (wp_s h)
set_option maxRecDepth 100000 in
set_option maxHeartbeats 4000000 in
theorem c_T_opensOrder {l : Launch} {D : va_G} {cI cC : ClassId} {q_t : Nat → Nat} {t_bytes : Nat → Int32} {t_kinds : Nat → Int32} {t_numbers : Nat → Int32} {t_length : Int32} {t_orderCount : Int32} {t_openKind : Int32} {t_given : Int32} {t_figures : Int32} {a0 : Int32} {post : Int32 × Int32 × Int32 × Int32 → Prop} (h : wpO (T_opensOrder t_orderCount t_openKind t_given t_figures a0) post) : Cn l yX2_opensOrder cX2_opensOrder 3 (some .boolean) 4 111 D cI cC [.ref (q_t 0), .int a0] (wT cI q_t t_bytes t_kinds t_numbers t_length t_orderCount t_openKind t_given t_figures) (QI D cI cC (S := Int32 × Int32 × Int32) (fun u => (wT cI q_t t_bytes t_kinds t_numbers t_length t_orderCount u.1 u.2.1 u.2.2)) (fun r u => post (r, u) ∧ narrow .boolean (.int r) = .int r)) := by
  refine Cn.ofV (own := RX2) (lv0 := [(0, .ref (q_t 0)), (1, .int a0)]) rfl (by decide) (Nat.le_of_ble_eq_true rfl) rfl ?_
  intro p e s m below meth c A args Q hQ C
  unfold T_opensOrder at h
  refine V_str (pc := 0) C dX2_opensOrder_0 rfl ?_
  refine V_iload_n (pc := 2) C 1 dX2_opensOrder_2 rfl rfl ?_
  refine V_i2c (pc := 3) C dX2_opensOrder_3 ?_
  refine V_indexOf (pc := 4) C wd_487 dX2_opensOrder_4 ⟨Nat.le_of_ble_eq_true rfl, Nat.le_of_ble_eq_true rfl⟩ (Nat.le_of_ble_eq_true rfl) ?_
  obtain ⟨v1, ev1, h⟩ := wp_l h
  refine V_topi (pc := 7) ev1 ?_
  refine V_istore_n (pc := 7) (lv' := [(0, .ref (q_t 0)), (1, .int a0), (2, .int v1)]) C dX2_opensOrder_7 rfl [1, 2, 0] (by decide) rfl ?_
  refine V_iload_n (pc := 8) C 2 dX2_opensOrder_8 rfl rfl ?_
  refine V_if_lt (pc := 9) (tgt := 21) C dX2_opensOrder_9 (by decide) (fun c2 => ?_) (fun c2 => ?_)
  · replace h := wp_t h c2
    refine V_iconst (pc := 21) C dX2_opensOrder_21 ki_0 ?_
    exact V_iret (pc := 22) C hQ (t_openKind, t_given, t_figures) dX2_opensOrder_22 rfl rfl ⟨wp_s h, rfl⟩
  · replace h := wp_f h c2
    refine V_aload_n (pc := 12) C 0 dX2_opensOrder_12 rfl rfl ?_
    refine V_get (pc := 13) C 0 4 inX2 wd_161 dX2_opensOrder_13 rfl rfl (by decide) rfl rfl ?_
    refine V_bipush (pc := 16) C dX2_opensOrder_16 kb_50 ?_
    refine V_icmp_lt (pc := 18) (tgt := 23) C dX2_opensOrder_18 (by decide) (fun c3 => ?_) (fun c3 => ?_)
    · replace h := wp_t h c3
      refine V_aload_n (pc := 23) C 0 dX2_opensOrder_23 rfl rfl ?_
      refine V_iload_n (pc := 24) C 2 dX2_opensOrder_24 rfl rfl ?_
      refine V_put (pc := 25) (ws' := (wT cI q_t t_bytes t_kinds t_numbers t_length t_orderCount v1 t_given t_figures)) C 0 5 inX2 tyX2_ok nmX2 wd_163 dX2_opensOrder_25 rfl rfl (by decide) rfl rfl rfl rfl rfl (Nat.le_of_ble_eq_true rfl) rfl ?_
      refine V_aload_n (pc := 28) C 0 dX2_opensOrder_28 rfl rfl ?_
      refine V_iconst (pc := 29) C dX2_opensOrder_29 ki_0 ?_
      refine V_put (pc := 30) (ws' := (wT cI q_t t_bytes t_kinds t_numbers t_length t_orderCount v1 0 t_figures)) C 0 6 inX2 tyX2_ok nmX2 wd_164 dX2_opensOrder_30 rfl rfl (by decide) rfl rfl rfl rfl rfl (Nat.le_of_ble_eq_true rfl) rfl ?_
      refine V_aload_n (pc := 33) C 0 dX2_opensOrder_33 rfl rfl ?_
      refine V_iconst (pc := 34) C dX2_opensOrder_34 ki_0 ?_
      refine V_put (pc := 35) (ws' := (wT cI q_t t_bytes t_kinds t_numbers t_length t_orderCount v1 0 0)) C 0 7 inX2 tyX2_ok nmX2 wd_165 dX2_opensOrder_35 rfl rfl (by decide) rfl rfl rfl rfl rfl (Nat.le_of_ble_eq_true rfl) rfl ?_
      refine V_iconst (pc := 38) C dX2_opensOrder_38 ki_1 ?_
      exact V_iret (pc := 39) C hQ (v1, 0, 0) dX2_opensOrder_39 rfl rfl ⟨wp_s h, rfl⟩
    · replace h := wp_f h c3
      refine V_iconst (pc := 21) C dX2_opensOrder_21 ki_0 ?_
      exact V_iret (pc := 22) C hQ (t_openKind, t_given, t_figures) dX2_opensOrder_22 rfl rfl ⟨wp_s h, rfl⟩
set_option maxRecDepth 100000 in
set_option maxHeartbeats 4000000 in
theorem c_T_endsOrder {l : Launch} {D : va_G} {cI cC : ClassId} {q_t : Nat → Nat} {t_bytes : Nat → Int32} {t_kinds : Nat → Int32} {t_numbers : Nat → Int32} {t_length : Int32} {t_orderCount : Int32} {t_openKind : Int32} {t_given : Int32} {t_figures : Int32} {post : Int32 × (Nat → Int32) × Int32 × Int32 → Prop} (h : wpO (T_endsOrder t_kinds t_orderCount t_openKind t_given) post) : Cn l yX2_endsOrder cX2_endsOrder 1 (some .boolean) 0 0 D cI cC [.ref (q_t 0)] (wT cI q_t t_bytes t_kinds t_numbers t_length t_orderCount t_openKind t_given t_figures) (QI D cI cC (S := (Nat → Int32) × Int32 × Int32) (fun u => (wT cI q_t t_bytes u.1 t_numbers t_length u.2.1 u.2.2 t_given t_figures)) (fun r u => post (r, u) ∧ narrow .boolean (.int r) = .int r)) := by
  refine Cn.ofV (own := RX2) (lv0 := [(0, .ref (q_t 0))]) rfl (by decide) (Nat.le_of_ble_eq_true rfl) rfl ?_
  intro p e s m below meth c A args Q hQ C
  unfold T_endsOrder at h
  refine V_aload_n (pc := 0) C 0 dX2_endsOrder_0 rfl rfl ?_
  refine V_get (pc := 1) C 0 6 inX2 wd_164 dX2_endsOrder_1 rfl rfl (by decide) rfl rfl ?_
  refine V_oN (pc := 4) C dX2_endsOrder_4 rfl (fun t1 ht2 => ?_)
  refine V_aload_n (pc := 7) C 0 dX2_endsOrder_7 rfl rfl ?_
  refine V_get (pc := 8) C 0 5 inX2 wd_163 dX2_endsOrder_8 rfl rfl (by decide) rfl rfl ?_
  obtain ⟨b3, h⟩ := wp_c h
  refine V_tald (pc := 11) C ht2 dX2_endsOrder_11 b3 ?_
  refine V_icmp_ge (pc := 12) (tgt := 17) C dX2_endsOrder_12 (by decide) (fun c4 => ?_) (fun c4 => ?_)
  · replace h := wp_t h c4
    refine V_aload_n (pc := 17) C 0 dX2_endsOrder_17 rfl rfl ?_
    refine V_get (pc := 18) C 0 1 inX2 wd_156 dX2_endsOrder_18 rfl rfl (by decide) rfl rfl ?_
    refine V_aload_n (pc := 21) C 0 dX2_endsOrder_21 rfl rfl ?_
    refine V_get (pc := 22) C 0 4 inX2 wd_161 dX2_endsOrder_22 rfl rfl (by decide) rfl rfl ?_
    refine V_aload_n (pc := 25) C 0 dX2_endsOrder_25 rfl rfl ?_
    refine V_get (pc := 26) C 0 5 inX2 wd_163 dX2_endsOrder_26 rfl rfl (by decide) rfl rfl ?_
    obtain ⟨b5, h⟩ := wp_c h
    obtain ⟨t_kinds_6, et_kinds_6, h⟩ := wp_l h
    refine V_iast (pc := 29) (ws' := (wT cI q_t t_bytes t_kinds_6 t_numbers t_length t_orderCount t_openKind t_given t_figures)) C 2 dX2_endsOrder_29 rfl b5 et_kinds_6 rfl ?_
    refine V_aload_n (pc := 30) C 0 dX2_endsOrder_30 rfl rfl ?_
    refine V_dup (pc := 31) C dX2_endsOrder_31 rfl ?_
    refine V_get (pc := 32) C 0 4 inX2 wd_161 dX2_endsOrder_32 rfl rfl (by decide) rfl rfl ?_
    refine V_iconst (pc := 35) C dX2_endsOrder_35 ki_1 ?_
    refine V_iadd (pc := 36) C dX2_endsOrder_36 ?_
    obtain ⟨t_orderCount_7, et_orderCount_7, h⟩ := wp_l h
    refine V_topi (pc := 37) et_orderCount_7 ?_
    refine V_put (pc := 37) (ws' := (wT cI q_t t_bytes t_kinds_6 t_numbers t_length t_orderCount_7 t_openKind t_given t_figures)) C 0 4 inX2 tyX2_ok nmX2 wd_161 dX2_endsOrder_37 rfl rfl (by decide) rfl rfl rfl rfl rfl (Nat.le_of_ble_eq_true rfl) rfl ?_
    refine V_aload_n (pc := 40) C 0 dX2_endsOrder_40 rfl rfl ?_
    refine V_iconst (pc := 41) C dX2_endsOrder_41 ki_m1 ?_
    refine V_put (pc := 42) (ws' := (wT cI q_t t_bytes t_kinds_6 t_numbers t_length t_orderCount_7 (-1) t_given t_figures)) C 0 5 inX2 tyX2_ok nmX2 wd_163 dX2_endsOrder_42 rfl rfl (by decide) rfl rfl rfl rfl rfl (Nat.le_of_ble_eq_true rfl) rfl ?_
    refine V_iconst (pc := 45) C dX2_endsOrder_45 ki_1 ?_
    exact V_iret (pc := 46) C hQ (t_kinds_6, t_orderCount_7, (-1)) dX2_endsOrder_46 rfl rfl ⟨wp_s h, rfl⟩
  · replace h := wp_f h c4
    refine V_iconst (pc := 15) C dX2_endsOrder_15 ki_0 ?_
    exact V_iret (pc := 16) C hQ (t_kinds, t_orderCount, t_openKind) dX2_endsOrder_16 rfl rfl ⟨wp_s h, rfl⟩
set_option maxRecDepth 100000 in
set_option maxHeartbeats 4000000 in
theorem c_T_takesFigure {l : Launch} {D : va_G} {cI cC : ClassId} {q_t : Nat → Nat} {t_bytes : Nat → Int32} {t_kinds : Nat → Int32} {t_numbers : Nat → Int32} {t_length : Int32} {t_orderCount : Int32} {t_openKind : Int32} {t_given : Int32} {t_figures : Int32} {a0 : Int32} {post : Int32 × (Nat → Int32) × Int32 × Int32 → Prop} (h : wpO (T_takesFigure t_numbers t_orderCount t_openKind t_given t_figures a0) post) : Cn l yX2_takesFigure cX2_takesFigure 3 (some .boolean) 0 0 D cI cC [.ref (q_t 0), .int a0] (wT cI q_t t_bytes t_kinds t_numbers t_length t_orderCount t_openKind t_given t_figures) (QI D cI cC (S := (Nat → Int32) × Int32 × Int32) (fun u => (wT cI q_t t_bytes t_kinds u.1 t_length t_orderCount t_openKind u.2.1 u.2.2)) (fun r u => post (r, u) ∧ narrow .boolean (.int r) = .int r)) := by
  refine Cn.ofV (own := RX2) (lv0 := [(0, .ref (q_t 0)), (1, .int a0)]) rfl (by decide) (Nat.le_of_ble_eq_true rfl) rfl ?_
  intro p e s m below meth c A args Q hQ C
  unfold T_takesFigure at h
  refine V_aload_n (pc := 0) C 0 dX2_takesFigure_0 rfl rfl ?_
  refine V_get (pc := 1) C 0 4 inX2 wd_161 dX2_takesFigure_1 rfl rfl (by decide) rfl rfl ?_
  refine V_iconst (pc := 4) C dX2_takesFigure_4 ki_3 ?_
  refine V_imul (pc := 5) C dX2_takesFigure_5 ?_
  refine V_aload_n (pc := 6) C 0 dX2_takesFigure_6 rfl rfl ?_
  refine V_get (pc := 7) C 0 6 inX2 wd_164 dX2_takesFigure_7 rfl rfl (by decide) rfl rfl ?_
  refine V_iadd (pc := 10) C dX2_takesFigure_10 ?_
  obtain ⟨v1, ev1, h⟩ := wp_l h
  refine V_topi (pc := 11) ev1 ?_
  refine V_istore_n (pc := 11) (lv' := [(0, .ref (q_t 0)), (1, .int a0), (2, .int v1)]) C dX2_takesFigure_11 rfl [1, 2, 0] (by decide) rfl ?_
  refine V_aload_n (pc := 12) C 0 dX2_takesFigure_12 rfl rfl ?_
  refine V_get (pc := 13) C 0 7 inX2 wd_165 dX2_takesFigure_13 rfl rfl (by decide) rfl rfl ?_
  refine V_if_ne (pc := 16) (tgt := 58) C dX2_takesFigure_16 (by decide) (fun c2 => ?_) (fun c2 => ?_)
  · replace h := wp_f h c2
    refine V_aload_n (pc := 58) C 0 dX2_takesFigure_58 rfl rfl ?_
    refine V_get (pc := 59) C 0 7 inX2 wd_165 dX2_takesFigure_59 rfl rfl (by decide) rfl rfl ?_
    refine V_iconst (pc := 62) C dX2_takesFigure_62 ki_1 ?_
    refine V_icmp_ne (pc := 63) (tgt := 94) C dX2_takesFigure_63 (by decide) (fun c3 => ?_) (fun c3 => ?_)
    · replace h := wp_f h c3
      refine V_iconst (pc := 94) C dX2_takesFigure_94 ki_0 ?_
      exact V_iret (pc := 95) C hQ (t_numbers, t_given, t_figures) dX2_takesFigure_95 rfl rfl ⟨wp_s h, rfl⟩
    · replace h := wp_t h c3
      refine V_aload_n (pc := 66) C 0 dX2_takesFigure_66 rfl rfl ?_
      refine V_get (pc := 67) C 0 2 inX2 wd_158 dX2_takesFigure_67 rfl rfl (by decide) rfl rfl ?_
      refine V_iload_n (pc := 70) C 2 dX2_takesFigure_70 rfl rfl ?_
      refine V_iconst (pc := 71) C dX2_takesFigure_71 ki_1 ?_
      refine V_isub (pc := 72) C dX2_takesFigure_72 ?_
      refine V_bipush (pc := 73) C dX2_takesFigure_73 kb_10 ?_
      refine V_aload_n (pc := 75) C 0 dX2_takesFigure_75 rfl rfl ?_
      refine V_get (pc := 76) C 0 2 inX2 wd_158 dX2_takesFigure_76 rfl rfl (by decide) rfl rfl ?_
      refine V_iload_n (pc := 79) C 2 dX2_takesFigure_79 rfl rfl ?_
      refine V_iconst (pc := 80) C dX2_takesFigure_80 ki_1 ?_
      refine V_isub (pc := 81) C dX2_takesFigure_81 ?_
      obtain ⟨b4, h⟩ := wp_c h
      refine V_iald (pc := 82) C 3 dX2_takesFigure_82 rfl b4 ?_
      refine V_imul (pc := 83) C dX2_takesFigure_83 ?_
      refine V_iload_n (pc := 84) C 1 dX2_takesFigure_84 rfl rfl ?_
      refine V_iadd (pc := 85) C dX2_takesFigure_85 ?_
      obtain ⟨b5, h⟩ := wp_c h
      obtain ⟨t_numbers_6, et_numbers_6, h⟩ := wp_l h
      refine V_iast (pc := 86) (ws' := (wT cI q_t t_bytes t_kinds t_numbers_6 t_length t_orderCount t_openKind t_given t_figures)) C 3 dX2_takesFigure_86 rfl b5 et_numbers_6 rfl ?_
      refine V_aload_n (pc := 87) C 0 dX2_takesFigure_87 rfl rfl ?_
      refine V_iconst (pc := 88) C dX2_takesFigure_88 ki_2 ?_
      refine V_put (pc := 89) (ws' := (wT cI q_t t_bytes t_kinds t_numbers_6 t_length t_orderCount t_openKind t_given 2)) C 0 7 inX2 tyX2_ok nmX2 wd_165 dX2_takesFigure_89 rfl rfl (by decide) rfl rfl rfl rfl rfl (Nat.le_of_ble_eq_true rfl) rfl ?_
      refine V_iconst (pc := 92) C dX2_takesFigure_92 ki_1 ?_
      exact V_iret (pc := 93) C hQ (t_numbers_6, t_given, 2) dX2_takesFigure_93 rfl rfl ⟨wp_s h, rfl⟩
  · replace h := wp_t h c2
    refine V_aload_n (pc := 19) C 0 dX2_takesFigure_19 rfl rfl ?_
    refine V_get (pc := 20) C 0 6 inX2 wd_164 dX2_takesFigure_20 rfl rfl (by decide) rfl rfl ?_
    refine V_oN (pc := 23) C dX2_takesFigure_23 rfl (fun t7 ht8 => ?_)
    refine V_aload_n (pc := 26) C 0 dX2_takesFigure_26 rfl rfl ?_
    refine V_get (pc := 27) C 0 5 inX2 wd_163 dX2_takesFigure_27 rfl rfl (by decide) rfl rfl ?_
    obtain ⟨b9, h⟩ := wp_c h
    refine V_tald (pc := 30) C ht8 dX2_takesFigure_30 b9 ?_
    refine V_icmp_ge (pc := 31) (tgt := 58) C dX2_takesFigure_31 (by decide) (fun c10 => ?_) (fun c10 => ?_)
    · replace h := wp_t h c10
      refine V_aload_n (pc := 58) C 0 dX2_takesFigure_58 rfl rfl ?_
      refine V_get (pc := 59) C 0 7 inX2 wd_165 dX2_takesFigure_59 rfl rfl (by decide) rfl rfl ?_
      refine V_iconst (pc := 62) C dX2_takesFigure_62 ki_1 ?_
      refine V_icmp_ne (pc := 63) (tgt := 94) C dX2_takesFigure_63 (by decide) (fun c11 => ?_) (fun c11 => ?_)
      · replace h := wp_f h c11
        refine V_iconst (pc := 94) C dX2_takesFigure_94 ki_0 ?_
        exact V_iret (pc := 95) C hQ (t_numbers, t_given, t_figures) dX2_takesFigure_95 rfl rfl ⟨wp_s h, rfl⟩
      · replace h := wp_t h c11
        refine V_aload_n (pc := 66) C 0 dX2_takesFigure_66 rfl rfl ?_
        refine V_get (pc := 67) C 0 2 inX2 wd_158 dX2_takesFigure_67 rfl rfl (by decide) rfl rfl ?_
        refine V_iload_n (pc := 70) C 2 dX2_takesFigure_70 rfl rfl ?_
        refine V_iconst (pc := 71) C dX2_takesFigure_71 ki_1 ?_
        refine V_isub (pc := 72) C dX2_takesFigure_72 ?_
        refine V_bipush (pc := 73) C dX2_takesFigure_73 kb_10 ?_
        refine V_aload_n (pc := 75) C 0 dX2_takesFigure_75 rfl rfl ?_
        refine V_get (pc := 76) C 0 2 inX2 wd_158 dX2_takesFigure_76 rfl rfl (by decide) rfl rfl ?_
        refine V_iload_n (pc := 79) C 2 dX2_takesFigure_79 rfl rfl ?_
        refine V_iconst (pc := 80) C dX2_takesFigure_80 ki_1 ?_
        refine V_isub (pc := 81) C dX2_takesFigure_81 ?_
        obtain ⟨b12, h⟩ := wp_c h
        refine V_iald (pc := 82) C 3 dX2_takesFigure_82 rfl b12 ?_
        refine V_imul (pc := 83) C dX2_takesFigure_83 ?_
        refine V_iload_n (pc := 84) C 1 dX2_takesFigure_84 rfl rfl ?_
        refine V_iadd (pc := 85) C dX2_takesFigure_85 ?_
        obtain ⟨b13, h⟩ := wp_c h
        obtain ⟨t_numbers_14, et_numbers_14, h⟩ := wp_l h
        refine V_iast (pc := 86) (ws' := (wT cI q_t t_bytes t_kinds t_numbers_14 t_length t_orderCount t_openKind t_given t_figures)) C 3 dX2_takesFigure_86 rfl b13 et_numbers_14 rfl ?_
        refine V_aload_n (pc := 87) C 0 dX2_takesFigure_87 rfl rfl ?_
        refine V_iconst (pc := 88) C dX2_takesFigure_88 ki_2 ?_
        refine V_put (pc := 89) (ws' := (wT cI q_t t_bytes t_kinds t_numbers_14 t_length t_orderCount t_openKind t_given 2)) C 0 7 inX2 tyX2_ok nmX2 wd_165 dX2_takesFigure_89 rfl rfl (by decide) rfl rfl rfl rfl rfl (Nat.le_of_ble_eq_true rfl) rfl ?_
        refine V_iconst (pc := 92) C dX2_takesFigure_92 ki_1 ?_
        exact V_iret (pc := 93) C hQ (t_numbers_14, t_given, 2) dX2_takesFigure_93 rfl rfl ⟨wp_s h, rfl⟩
    · replace h := wp_f h c10
      refine V_aload_n (pc := 34) C 0 dX2_takesFigure_34 rfl rfl ?_
      refine V_get (pc := 35) C 0 2 inX2 wd_158 dX2_takesFigure_35 rfl rfl (by decide) rfl rfl ?_
      refine V_iload_n (pc := 38) C 2 dX2_takesFigure_38 rfl rfl ?_
      refine V_iload_n (pc := 39) C 1 dX2_takesFigure_39 rfl rfl ?_
      obtain ⟨b15, h⟩ := wp_c h
      obtain ⟨t_numbers_16, et_numbers_16, h⟩ := wp_l h
      refine V_iast (pc := 40) (ws' := (wT cI q_t t_bytes t_kinds t_numbers_16 t_length t_orderCount t_openKind t_given t_figures)) C 3 dX2_takesFigure_40 rfl b15 et_numbers_16 rfl ?_
      refine V_aload_n (pc := 41) C 0 dX2_takesFigure_41 rfl rfl ?_
      refine V_dup (pc := 42) C dX2_takesFigure_42 rfl ?_
      refine V_get (pc := 43) C 0 6 inX2 wd_164 dX2_takesFigure_43 rfl rfl (by decide) rfl rfl ?_
      refine V_iconst (pc := 46) C dX2_takesFigure_46 ki_1 ?_
      refine V_iadd (pc := 47) C dX2_takesFigure_47 ?_
      obtain ⟨t_given_17, et_given_17, h⟩ := wp_l h
      refine V_topi (pc := 48) et_given_17 ?_
      refine V_put (pc := 48) (ws' := (wT cI q_t t_bytes t_kinds t_numbers_16 t_length t_orderCount t_openKind t_given_17 t_figures)) C 0 6 inX2 tyX2_ok nmX2 wd_164 dX2_takesFigure_48 rfl rfl (by decide) rfl rfl rfl rfl rfl (Nat.le_of_ble_eq_true rfl) rfl ?_
      refine V_aload_n (pc := 51) C 0 dX2_takesFigure_51 rfl rfl ?_
      refine V_iconst (pc := 52) C dX2_takesFigure_52 ki_1 ?_
      refine V_put (pc := 53) (ws' := (wT cI q_t t_bytes t_kinds t_numbers_16 t_length t_orderCount t_openKind t_given_17 1)) C 0 7 inX2 tyX2_ok nmX2 wd_165 dX2_takesFigure_53 rfl rfl (by decide) rfl rfl rfl rfl rfl (Nat.le_of_ble_eq_true rfl) rfl ?_
      refine V_iconst (pc := 56) C dX2_takesFigure_56 ki_1 ?_
      exact V_iret (pc := 57) C hQ (t_numbers_16, t_given_17, 1) dX2_takesFigure_57 rfl rfl ⟨wp_s h, rfl⟩
set_option maxRecDepth 100000 in
set_option maxHeartbeats 4000000 in
theorem c_T_takes {l : Launch} {D : va_G} {cI cC : ClassId} {q_t : Nat → Nat} {t_bytes : Nat → Int32} {t_kinds : Nat → Int32} {t_numbers : Nat → Int32} {t_length : Int32} {t_orderCount : Int32} {t_openKind : Int32} {t_given : Int32} {t_figures : Int32} {a0 : Int32} {post : Int32 × (Nat → Int32) × (Nat → Int32) × Int32 × Int32 × Int32 × Int32 → Prop} (h : wpO (T_takes t_kinds t_numbers t_orderCount t_openKind t_given t_figures a0) post) : Cn l yX2_takes cX2_takes 2 (some .boolean) 5 133 D cI cC [.ref (q_t 0), .int a0] (wT cI q_t t_bytes t_kinds t_numbers t_length t_orderCount t_openKind t_given t_figures) (QI D cI cC (S := (Nat → Int32) × (Nat → Int32) × Int32 × Int32 × Int32 × Int32) (fun u => (wT cI q_t t_bytes u.1 u.2.1 t_length u.2.2.1 u.2.2.2.1 u.2.2.2.2.1 u.2.2.2.2.2)) (fun r u => post (r, u) ∧ narrow .boolean (.int r) = .int r)) := by
  refine Cn.ofV (own := RX2) (lv0 := [(0, .ref (q_t 0)), (1, .int a0)]) rfl (by decide) (Nat.le_of_ble_eq_true rfl) rfl ?_
  intro p e s m below meth c A args Q hQ C
  unfold T_takes at h
  refine V_iload_n (pc := 0) C 1 dX2_takes_0 rfl rfl ?_
  refine V_bipush (pc := 1) C dX2_takes_1 kb_32 ?_
  refine V_icmp_ne (pc := 3) (tgt := 13) C dX2_takes_3 (by decide) (fun c1 => ?_) (fun c1 => ?_)
  · replace h := wp_f h c1
    refine V_aload_n (pc := 13) C 0 dX2_takes_13 rfl rfl ?_
    refine V_get (pc := 14) C 0 5 inX2 wd_163 dX2_takes_14 rfl rfl (by decide) rfl rfl ?_
    refine V_iconst (pc := 17) C dX2_takes_17 ki_m1 ?_
    refine V_icmp_ne (pc := 18) (tgt := 27) C dX2_takes_18 (by decide) (fun c2 => ?_) (fun c2 => ?_)
    · replace h := wp_f h c2
      refine V_iload_n (pc := 27) C 1 dX2_takes_27 rfl rfl ?_
      refine V_bipush (pc := 28) C dX2_takes_28 kb_59 ?_
      refine V_icmp_ne (pc := 30) (tgt := 38) C dX2_takes_30 (by decide) (fun c3 => ?_) (fun c3 => ?_)
      · replace h := wp_f h c3
        refine V_iload_n (pc := 38) C 1 dX2_takes_38 rfl rfl ?_
        refine V_bipush (pc := 39) C dX2_takes_39 kb_48 ?_
        refine V_icmp_lt (pc := 41) (tgt := 65) C dX2_takes_41 (by decide) (fun c4 => ?_) (fun c4 => ?_)
        · replace h := wp_t h c4
          refine V_iconst (pc := 65) C dX2_takes_65 ki_0 ?_
          exact V_iret (pc := 66) C hQ (t_kinds, t_numbers, t_orderCount, t_openKind, t_given, t_figures) dX2_takes_66 rfl rfl ⟨wp_s h, rfl⟩
        · replace h := wp_f h c4
          refine V_iload_n (pc := 44) C 1 dX2_takes_44 rfl rfl ?_
          refine V_bipush (pc := 45) C dX2_takes_45 kb_57 ?_
          refine V_icmp_gt (pc := 47) (tgt := 65) C dX2_takes_47 (by decide) (fun c5 => ?_) (fun c5 => ?_)
          · replace h := wp_t h c5
            refine V_iconst (pc := 65) C dX2_takes_65 ki_0 ?_
            exact V_iret (pc := 66) C hQ (t_kinds, t_numbers, t_orderCount, t_openKind, t_given, t_figures) dX2_takes_66 rfl rfl ⟨wp_s h, rfl⟩
          · replace h := wp_f h c5
            refine V_aload_n (pc := 50) C 0 dX2_takes_50 rfl rfl ?_
            refine V_iload_n (pc := 51) C 1 dX2_takes_51 rfl rfl ?_
            refine V_bipush (pc := 52) C dX2_takes_52 kb_48 ?_
            refine V_isub (pc := 54) C dX2_takes_54 ?_
            refine V_callVi (pc := 55) (As := [.int (a0 - 48)]) (st := []) C (c_T_takesFigure (wp_b h)) mk_X2_takesFigure wd_526 dX2_takes_55 0 rfl rfl rfl ⟨Nat.le_of_ble_eq_true rfl, Nat.le_of_ble_eq_true rfl⟩ (Nat.le_of_ble_eq_true rfl) rfl (fun r7 u hw => ?_)
            obtain ⟨t_numbers_8, t_given_9, t_figures_10⟩ := u
            obtain ⟨h, z11⟩ := hw
            try dsimp only at h
            try dsimp only
            refine V_if_eq (pc := 58) (tgt := 65) C dX2_takes_58 (by decide) (fun c12 => ?_) (fun c12 => ?_)
            · replace h := wp_t h c12
              refine V_iconst (pc := 65) C dX2_takes_65 ki_0 ?_
              exact V_iret (pc := 66) C hQ (t_kinds, t_numbers_8, t_orderCount, t_openKind, t_given_9, t_figures_10) dX2_takes_66 rfl rfl ⟨wp_s h, rfl⟩
            · replace h := wp_f h c12
              refine V_iconst (pc := 61) C dX2_takes_61 ki_1 ?_
              refine V_goto (pc := 62) (tgt := 66) C dX2_takes_62 (by decide) ?_
              exact V_iret (pc := 66) C hQ (t_kinds, t_numbers_8, t_orderCount, t_openKind, t_given_9, t_figures_10) dX2_takes_66 rfl rfl ⟨wp_s h, rfl⟩
      · replace h := wp_t h c3
        refine V_aload_n (pc := 33) C 0 dX2_takes_33 rfl rfl ?_
        refine V_callVi (pc := 34) (As := []) (st := []) C (c_T_endsOrder (wp_b h)) mk_X2_endsOrder wd_522 dX2_takes_34 0 rfl rfl rfl ⟨Nat.le_of_ble_eq_true rfl, Nat.le_of_ble_eq_true rfl⟩ (Nat.le_of_ble_eq_true rfl) rfl (fun r14 u hw => ?_)
        obtain ⟨t_kinds_15, t_orderCount_16, t_openKind_17⟩ := u
        obtain ⟨h, z18⟩ := hw
        try dsimp only at h
        try dsimp only
        exact V_iret (pc := 37) C hQ (t_kinds_15, t_numbers, t_orderCount_16, t_openKind_17, t_given, t_figures) dX2_takes_37 z18 rfl ⟨wp_s h, z18⟩
    · replace h := wp_t h c2
      refine V_aload_n (pc := 21) C 0 dX2_takes_21 rfl rfl ?_
      refine V_iload_n (pc := 22) C 1 dX2_takes_22 rfl rfl ?_
      refine V_callVi (pc := 23) (As := [.int a0]) (st := []) C (c_T_opensOrder (wp_b h)) mk_X2_opensOrder wd_483 dX2_takes_23 0 rfl rfl rfl ⟨Nat.le_of_ble_eq_true rfl, Nat.le_of_ble_eq_true rfl⟩ (Nat.le_of_ble_eq_true rfl) rfl (fun r20 u hw => ?_)
      obtain ⟨t_openKind_21, t_given_22, t_figures_23⟩ := u
      obtain ⟨h, z24⟩ := hw
      try dsimp only at h
      try dsimp only
      exact V_iret (pc := 26) C hQ (t_kinds, t_numbers, t_orderCount, t_openKind_21, t_given_22, t_figures_23) dX2_takes_26 z24 rfl ⟨wp_s h, z24⟩
  · replace h := wp_t h c1
    refine V_aload_n (pc := 6) C 0 dX2_takes_6 rfl rfl ?_
    refine V_iconst (pc := 7) C dX2_takes_7 ki_0 ?_
    refine V_put (pc := 8) (ws' := (wT cI q_t t_bytes t_kinds t_numbers t_length t_orderCount t_openKind t_given 0)) C 0 7 inX2 tyX2_ok nmX2 wd_165 dX2_takes_8 rfl rfl (by decide) rfl rfl rfl rfl rfl (Nat.le_of_ble_eq_true rfl) rfl ?_
    refine V_iconst (pc := 11) C dX2_takes_11 ki_1 ?_
    exact V_iret (pc := 12) C hQ (t_kinds, t_numbers, t_orderCount, t_openKind, t_given, 0) dX2_takes_12 rfl rfl ⟨wp_s h, rfl⟩
set_option maxRecDepth 100000 in
set_option maxHeartbeats 4000000 in
theorem c_T_readFault {l : Launch} {D : va_G} {cI cC : ClassId} {q_t : Nat → Nat} {t_bytes : Nat → Int32} {t_kinds : Nat → Int32} {t_numbers : Nat → Int32} {t_length : Int32} {t_orderCount : Int32} {t_openKind : Int32} {t_given : Int32} {t_figures : Int32} {post : Int32 × (Nat → Int32) × (Nat → Int32) × Int32 × Int32 × Int32 × Int32 → Prop} (h : wpO (T_readFault t_bytes t_kinds t_numbers t_length t_orderCount t_openKind t_given t_figures) post) : Cn l yX2_readFault cX2_readFault 2 (some .int) 6 154 D cI cC [.ref (q_t 0)] (wT cI q_t t_bytes t_kinds t_numbers t_length t_orderCount t_openKind t_given t_figures) (QI D cI cC (S := (Nat → Int32) × (Nat → Int32) × Int32 × Int32 × Int32 × Int32) (fun u => (wT cI q_t t_bytes u.1 u.2.1 t_length u.2.2.1 u.2.2.2.1 u.2.2.2.2.1 u.2.2.2.2.2)) (fun r u => post (r, u))) := by
  refine Cn.ofV (own := RX2) (lv0 := [(0, .ref (q_t 0))]) rfl (by decide) (Nat.le_of_ble_eq_true rfl) rfl ?_
  intro p e s m below meth c A args Q hQ C
  have hL_12 : ∀ (K : (Nat → Int32) → (Nat → Int32) → Int32 → Int32 → Int32 → Int32 → Option (Int32 × (Nat → Int32) × (Nat → Int32) × Int32 × Int32 × Int32 × Int32)), (∀ (t_kinds : Nat → Int32) (t_numbers : Nat → Int32) (t_orderCount : Int32) (t_openKind : Int32) (t_given : Int32) (t_figures : Int32), wpO (K t_kinds t_numbers t_orderCount t_openKind t_given t_figures) post → V p l e (rmC 6 154) s m args below meth c D A 2 0 0 Q (wT cI q_t t_bytes t_kinds t_numbers t_length t_orderCount t_openKind t_given t_figures) [(0, .ref (q_t 0))] 41 []) → ∀ (n : Nat) (l1 : Int32) (t_kinds : Nat → Int32) (t_numbers : Nat → Int32) (t_orderCount : Int32) (t_openKind : Int32) (t_given : Int32) (t_figures : Int32), wpO (T_readFault_12 K t_bytes t_length n l1 t_kinds t_numbers t_orderCount t_openKind t_given t_figures) post → V p l e (rmC 6 154) s m args below meth c D A 2 0 0 Q (wT cI q_t t_bytes t_kinds t_numbers t_length t_orderCount t_openKind t_given t_figures) [(0, .ref (q_t 0)), (1, .int l1)] 12 [] := by
    intro K   hK n
    induction n with
    | zero => intro l1 t_kinds t_numbers t_orderCount t_openKind t_given t_figures h; rw [T_readFault_12] at h; exact (wp_n h).elim
    | succ n ih =>
      intro l1 t_kinds t_numbers t_orderCount t_openKind t_given t_figures h
      rw [T_readFault_12] at h
      refine V_iload_n (pc := 12) C 1 dX2_readFault_12 rfl rfl ?_
      refine V_aload_n (pc := 13) C 0 dX2_readFault_13 rfl rfl ?_
      refine V_get (pc := 14) C 0 3 inX2 wd_159 dX2_readFault_14 rfl rfl (by decide) rfl rfl ?_
      refine V_icmp_ge (pc := 17) (tgt := 41) C dX2_readFault_17 (by decide) (fun c1 => ?_) (fun c1 => ?_)
      · replace h := wp_t h c1
        refine V_lv (pc := 41) [0] rfl ?_
        exact hK _ _ _ _ _ _ h
      · replace h := wp_f h c1
        refine V_aload_n (pc := 20) C 0 dX2_readFault_20 rfl rfl ?_
        refine V_aload_n (pc := 21) C 0 dX2_readFault_21 rfl rfl ?_
        refine V_get (pc := 22) C 0 0 inX2 wd_155 dX2_readFault_22 rfl rfl (by decide) rfl rfl ?_
        refine V_iload_n (pc := 25) C 1 dX2_readFault_25 rfl rfl ?_
        obtain ⟨b2, h⟩ := wp_c h
        refine V_iald (pc := 26) C 1 dX2_readFault_26 rfl b2 ?_
        refine V_callVi (pc := 27) (As := [.int (t_bytes (Int32.toNatClampNeg l1))]) (st := []) C (c_T_takes (wp_b h)) mk_X2_takes wd_479 dX2_readFault_27 0 rfl rfl rfl ⟨Nat.le_of_ble_eq_true rfl, Nat.le_of_ble_eq_true rfl⟩ (Nat.le_of_ble_eq_true rfl) rfl (fun r4 u hw => ?_)
        obtain ⟨t_kinds_5, t_numbers_6, t_orderCount_7, t_openKind_8, t_given_9, t_figures_10⟩ := u
        obtain ⟨h, z11⟩ := hw
        try dsimp only at h
        try dsimp only
        refine V_if_ne (pc := 30) (tgt := 35) C dX2_readFault_30 (by decide) (fun c12 => ?_) (fun c12 => ?_)
        · replace h := wp_f h c12
          obtain ⟨v13, ev13, h⟩ := wp_l h
          refine V_iinc (pc := 35) (v := v13) (lv' := [(0, .ref (q_t 0)), (1, .int v13)]) (j := 1) C dX2_readFault_35 rfl (by rw [ev13]; rfl) [1, 0] (by decide) rfl ?_
          refine V_goto (pc := 38) (tgt := 12) C dX2_readFault_38 (by decide) ?_
          exact ih _ _ _ _ _ _ _ h
        · replace h := wp_t h c12
          refine V_iload_n (pc := 33) C 1 dX2_readFault_33 rfl rfl ?_
          exact V_iret (pc := 34) C hQ (t_kinds_5, t_numbers_6, t_orderCount_7, t_openKind_8, t_given_9, t_figures_10) dX2_readFault_34 (vp_nar_int _) rfl (wp_s h)
  unfold T_readFault at h
  refine V_aload_n (pc := 0) C 0 dX2_readFault_0 rfl rfl ?_
  refine V_iconst (pc := 1) C dX2_readFault_1 ki_0 ?_
  refine V_put (pc := 2) (ws' := (wT cI q_t t_bytes t_kinds t_numbers t_length 0 t_openKind t_given t_figures)) C 0 4 inX2 tyX2_ok nmX2 wd_161 dX2_readFault_2 rfl rfl (by decide) rfl rfl rfl rfl rfl (Nat.le_of_ble_eq_true rfl) rfl ?_
  refine V_aload_n (pc := 5) C 0 dX2_readFault_5 rfl rfl ?_
  refine V_iconst (pc := 6) C dX2_readFault_6 ki_m1 ?_
  refine V_put (pc := 7) (ws' := (wT cI q_t t_bytes t_kinds t_numbers t_length 0 (-1) t_given t_figures)) C 0 5 inX2 tyX2_ok nmX2 wd_163 dX2_readFault_7 rfl rfl (by decide) rfl rfl rfl rfl rfl (Nat.le_of_ble_eq_true rfl) rfl ?_
  refine V_iconst (pc := 10) C dX2_readFault_10 ki_0 ?_
  refine V_istore_n (pc := 11) (lv' := [(0, .ref (q_t 0)), (1, .int 0)]) C dX2_readFault_11 rfl [1, 0] (by decide) rfl ?_
  refine hL_12 _ (fun t_kinds_14 t_numbers_15 t_orderCount_16 t_openKind_17 t_given_18 t_figures_19 h => ?_) 1000 _ _ _ _ _ _ _ h
  try dsimp only at h
  refine V_aload_n (pc := 41) C 0 dX2_readFault_41 rfl rfl ?_
  refine V_get (pc := 42) C 0 5 inX2 wd_163 dX2_readFault_42 rfl rfl (by decide) rfl rfl ?_
  refine V_iconst (pc := 45) C dX2_readFault_45 ki_m1 ?_
  refine V_icmp_ne (pc := 46) (tgt := 60) C dX2_readFault_46 (by decide) (fun c20 => ?_) (fun c20 => ?_)
  · replace h := wp_f h c20
    refine V_aload_n (pc := 60) C 0 dX2_readFault_60 rfl rfl ?_
    refine V_get (pc := 61) C 0 3 inX2 wd_159 dX2_readFault_61 rfl rfl (by decide) rfl rfl ?_
    exact V_iret (pc := 64) C hQ (t_kinds_14, t_numbers_15, t_orderCount_16, t_openKind_17, t_given_18, t_figures_19) dX2_readFault_64 (vp_nar_int _) rfl (wp_s h)
  · replace h := wp_t h c20
    refine V_aload_n (pc := 49) C 0 dX2_readFault_49 rfl rfl ?_
    refine V_get (pc := 50) C 0 4 inX2 wd_161 dX2_readFault_50 rfl rfl (by decide) rfl rfl ?_
    refine V_if_le (pc := 53) (tgt := 60) C dX2_readFault_53 (by decide) (fun c21 => ?_) (fun c21 => ?_)
    · replace h := wp_t h c21
      refine V_aload_n (pc := 60) C 0 dX2_readFault_60 rfl rfl ?_
      refine V_get (pc := 61) C 0 3 inX2 wd_159 dX2_readFault_61 rfl rfl (by decide) rfl rfl ?_
      exact V_iret (pc := 64) C hQ (t_kinds_14, t_numbers_15, t_orderCount_16, t_openKind_17, t_given_18, t_figures_19) dX2_readFault_64 (vp_nar_int _) rfl (wp_s h)
    · replace h := wp_f h c21
      refine V_iconst (pc := 56) C dX2_readFault_56 ki_m1 ?_
      refine V_goto (pc := 57) (tgt := 64) C dX2_readFault_57 (by decide) ?_
      exact V_iret (pc := 64) C hQ (t_kinds_14, t_numbers_15, t_orderCount_16, t_openKind_17, t_given_18, t_figures_19) dX2_readFault_64 (vp_nar_int _) rfl (wp_s h)
