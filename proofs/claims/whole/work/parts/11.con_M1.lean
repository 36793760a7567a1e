set_option maxRecDepth 100000 in
set_option maxHeartbeats 4000000 in
theorem c_M_bad {l : Launch} {D : va_G} {cI cC : ClassId} {q_m : Nat → Nat} {m_now : Nat → Int32} {m_aside : Nat → Int32} {m_past : Nat → Int32} {m_states : Int32} {m_refused : Nat → Int32} {m_text : Nat → Int32} {m_length : Int32} {m_tables : Nat → Int32} {m_all : Int32} {m_rowsBehind : Nat → Int32} {m_rowsMany : Int32} {m_forms : Nat → Int32} {m_lesser : Nat → Int32} {m_greater : Nat → Int32} {m_why : Nat → Int32} {m_checks : Int32} {m_numbers : Nat → Int32} {m_depths : Nat → Int32} {m_spot : Int32} {m_isFaulty : Int32} {m_orders : Int32} {m_letters : Nat → Int32} {m_parts : Nat → Int32} {m_hash : Int64} {post : Int32 × (Nat → Int32) → Prop} (h : wpO (M_bad m_refused) post) : Cn l yX5_bad cX5_bad 1 (some .int) 0 0 D cI cC [.ref (q_m 0)] (wM cI q_m m_now m_aside m_past m_states m_refused m_text m_length m_tables m_all m_rowsBehind m_rowsMany m_forms m_lesser m_greater m_why m_checks m_numbers m_depths m_spot m_isFaulty m_orders m_letters m_parts m_hash) (QI D cI cC (S := (Nat → Int32)) (fun u => (wM cI q_m m_now m_aside m_past m_states u m_text m_length m_tables m_all m_rowsBehind m_rowsMany m_forms m_lesser m_greater m_why m_checks m_numbers m_depths m_spot m_isFaulty m_orders m_letters m_parts m_hash)) (fun r u => post (r, u))) := by
  refine Cn.ofV (own := RX5) (lv0 := [(0, .ref (q_m 0))]) rfl (by decide) (Nat.le_of_ble_eq_true rfl) rfl ?_
  intro p e s m below meth c A args Q hQ C
  unfold M_bad at h
  refine V_aload_n (pc := 0) C 0 dX5_bad_0 rfl rfl ?_
  refine V_get (pc := 1) C 0 4 inX5 wd_593 dX5_bad_1 rfl rfl (by decide) rfl rfl ?_
  refine V_iconst (pc := 4) C dX5_bad_4 ki_0 ?_
  refine V_dup2 (pc := 5) C dX5_bad_5 rfl rfl ?_
  obtain ⟨b1, h⟩ := wp_c h
  refine V_iald (pc := 6) C 4 dX5_bad_6 rfl b1 ?_
  refine V_iconst (pc := 7) C dX5_bad_7 ki_1 ?_
  refine V_iadd (pc := 8) C dX5_bad_8 ?_
  obtain ⟨b2, h⟩ := wp_c h
  obtain ⟨m_refused_3, em_refused_3, h⟩ := wp_l h
  refine V_iast (pc := 9) (ws' := (wM cI q_m m_now m_aside m_past m_states m_refused_3 m_text m_length m_tables m_all m_rowsBehind m_rowsMany m_forms m_lesser m_greater m_why m_checks m_numbers m_depths m_spot m_isFaulty m_orders m_letters m_parts m_hash)) C 4 dX5_bad_9 rfl b2 em_refused_3 rfl ?_
  refine V_bipush (pc := 10) C dX5_bad_10 kb_m2 ?_
  exact V_iret (pc := 12) C hQ m_refused_3 dX5_bad_12 (vp_nar_int _) rfl (wp_s h)
set_option maxRecDepth 100000 in
set_option maxHeartbeats 4000000 in
theorem c_M_no {l : Launch} {D : va_G} {cI cC : ClassId} {q_m : Nat → Nat} {m_now : Nat → Int32} {m_aside : Nat → Int32} {m_past : Nat → Int32} {m_states : Int32} {m_refused : Nat → Int32} {m_text : Nat → Int32} {m_length : Int32} {m_tables : Nat → Int32} {m_all : Int32} {m_rowsBehind : Nat → Int32} {m_rowsMany : Int32} {m_forms : Nat → Int32} {m_lesser : Nat → Int32} {m_greater : Nat → Int32} {m_why : Nat → Int32} {m_checks : Int32} {m_numbers : Nat → Int32} {m_depths : Nat → Int32} {m_spot : Int32} {m_isFaulty : Int32} {m_orders : Int32} {m_letters : Nat → Int32} {m_parts : Nat → Int32} {m_hash : Int64} {post : Int32 × (Nat → Int32) → Prop} (h : wpO (M_no m_refused) post) : Cn l yX5_no cX5_no 1 (some .int) 0 0 D cI cC [.ref (q_m 0)] (wM cI q_m m_now m_aside m_past m_states m_refused m_text m_length m_tables m_all m_rowsBehind m_rowsMany m_forms m_lesser m_greater m_why m_checks m_numbers m_depths m_spot m_isFaulty m_orders m_letters m_parts m_hash) (QI D cI cC (S := (Nat → Int32)) (fun u => (wM cI q_m m_now m_aside m_past m_states u m_text m_length m_tables m_all m_rowsBehind m_rowsMany m_forms m_lesser m_greater m_why m_checks m_numbers m_depths m_spot m_isFaulty m_orders m_letters m_parts m_hash)) (fun r u => post (r, u))) := by
  refine Cn.ofV (own := RX5) (lv0 := [(0, .ref (q_m 0))]) rfl (by decide) (Nat.le_of_ble_eq_true rfl) rfl ?_
  intro p e s m below meth c A args Q hQ C
  unfold M_no at h
  refine V_aload_n (pc := 0) C 0 dX5_no_0 rfl rfl ?_
  refine V_get (pc := 1) C 0 4 inX5 wd_593 dX5_no_1 rfl rfl (by decide) rfl rfl ?_
  refine V_iconst (pc := 4) C dX5_no_4 ki_1 ?_
  refine V_dup2 (pc := 5) C dX5_no_5 rfl rfl ?_
  obtain ⟨b1, h⟩ := wp_c h
  refine V_iald (pc := 6) C 4 dX5_no_6 rfl b1 ?_
  refine V_iconst (pc := 7) C dX5_no_7 ki_1 ?_
  refine V_iadd (pc := 8) C dX5_no_8 ?_
  obtain ⟨b2, h⟩ := wp_c h
  obtain ⟨m_refused_3, em_refused_3, h⟩ := wp_l h
  refine V_iast (pc := 9) (ws' := (wM cI q_m m_now m_aside m_past m_states m_refused_3 m_text m_length m_tables m_all m_rowsBehind m_rowsMany m_forms m_lesser m_greater m_why m_checks m_numbers m_depths m_spot m_isFaulty m_orders m_letters m_parts m_hash)) C 4 dX5_no_9 rfl b2 em_refused_3 rfl ?_
  refine V_bipush (pc := 10) C dX5_no_10 kb_m3 ?_
  exact V_iret (pc := 12) C hQ m_refused_3 dX5_no_12 (vp_nar_int _) rfl (wp_s h)
set_option maxRecDepth 100000 in
set_option maxHeartbeats 4000000 in
theorem c_M_full {l : Launch} {D : va_G} {cI cC : ClassId} {q_m : Nat → Nat} {m_now : Nat → Int32} {m_aside : Nat → Int32} {m_past : Nat → Int32} {m_states : Int32} {m_refused : Nat → Int32} {m_text : Nat → Int32} {m_length : Int32} {m_tables : Nat → Int32} {m_all : Int32} {m_rowsBehind : Nat → Int32} {m_rowsMany : Int32} {m_forms : Nat → Int32} {m_lesser : Nat → Int32} {m_greater : Nat → Int32} {m_why : Nat → Int32} {m_checks : Int32} {m_numbers : Nat → Int32} {m_depths : Nat → Int32} {m_spot : Int32} {m_isFaulty : Int32} {m_orders : Int32} {m_letters : Nat → Int32} {m_parts : Nat → Int32} {m_hash : Int64} {post : Int32 × (Nat → Int32) → Prop} (h : wpO (M_full m_refused) post) : Cn l yX5_full cX5_full 1 (some .int) 0 0 D cI cC [.ref (q_m 0)] (wM cI q_m m_now m_aside m_past m_states m_refused m_text m_length m_tables m_all m_rowsBehind m_rowsMany m_forms m_lesser m_greater m_why m_checks m_numbers m_depths m_spot m_isFaulty m_orders m_letters m_parts m_hash) (QI D cI cC (S := (Nat → Int32)) (fun u => (wM cI q_m m_now m_aside m_past m_states u m_text m_length m_tables m_all m_rowsBehind m_rowsMany m_forms m_lesser m_greater m_why m_checks m_numbers m_depths m_spot m_isFaulty m_orders m_letters m_parts m_hash)) (fun r u => post (r, u))) := by
  refine Cn.ofV (own := RX5) (lv0 := [(0, .ref (q_m 0))]) rfl (by decide) (Nat.le_of_ble_eq_true rfl) rfl ?_
  intro p e s m below meth c A args Q hQ C
  unfold M_full at h
  refine V_aload_n (pc := 0) C 0 dX5_full_0 rfl rfl ?_
  refine V_get (pc := 1) C 0 4 inX5 wd_593 dX5_full_1 rfl rfl (by decide) rfl rfl ?_
  refine V_iconst (pc := 4) C dX5_full_4 ki_2 ?_
  refine V_dup2 (pc := 5) C dX5_full_5 rfl rfl ?_
  obtain ⟨b1, h⟩ := wp_c h
  refine V_iald (pc := 6) C 4 dX5_full_6 rfl b1 ?_
  refine V_iconst (pc := 7) C dX5_full_7 ki_1 ?_
  refine V_iadd (pc := 8) C dX5_full_8 ?_
  obtain ⟨b2, h⟩ := wp_c h
  obtain ⟨m_refused_3, em_refused_3, h⟩ := wp_l h
  refine V_iast (pc := 9) (ws' := (wM cI q_m m_now m_aside m_past m_states m_refused_3 m_text m_length m_tables m_all m_rowsBehind m_rowsMany m_forms m_lesser m_greater m_why m_checks m_numbers m_depths m_spot m_isFaulty m_orders m_letters m_parts m_hash)) C 4 dX5_full_9 rfl b2 em_refused_3 rfl ?_
  refine V_bipush (pc := 10) C dX5_full_10 kb_m4 ?_
  exact V_iret (pc := 12) C hQ m_refused_3 dX5_full_12 (vp_nar_int _) rfl (wp_s h)
set_option maxRecDepth 100000 in
set_option maxHeartbeats 4000000 in
theorem c_M_within {l : Launch} {D : va_G} {cI cC : ClassId} {a0 : Int32} {a1 : Int32} {a2 : Int32} {post : Int32 → Prop} (h : wpO (M_within a0 a1 a2) post) : Cn l yX5_within cX5_within 3 (some .boolean) 0 0 D cI cC [.int a0, .int a1, .int a2] ([] : va_W) (QI D cI cC (S := Unit) (fun u => ([] : va_W)) (fun r u => post r ∧ narrow .boolean (.int r) = .int r)) := by
  refine Cn.ofV (own := RX5) (lv0 := [(0, .int a0), (1, .int a1), (2, .int a2)]) rfl (by decide) (Nat.le_of_ble_eq_true rfl) rfl ?_
  intro p e s m below meth c A args Q hQ C
  unfold M_within at h
  refine V_iload_n (pc := 0) C 0 dX5_within_0 rfl rfl ?_
  refine V_iload_n (pc := 1) C 1 dX5_within_1 rfl rfl ?_
  refine V_icmp_lt (pc := 2) (tgt := 14) C dX5_within_2 (by decide) (fun c1 => ?_) (fun c1 => ?_)
  · replace h := wp_t h c1
    refine V_iconst (pc := 14) C dX5_within_14 ki_0 ?_
    exact V_iret (pc := 15) C hQ () dX5_within_15 rfl rfl ⟨wp_s h, rfl⟩
  · replace h := wp_f h c1
    refine V_iload_n (pc := 5) C 0 dX5_within_5 rfl rfl ?_
    refine V_iload_n (pc := 6) C 2 dX5_within_6 rfl rfl ?_
    refine V_icmp_gt (pc := 7) (tgt := 14) C dX5_within_7 (by decide) (fun c2 => ?_) (fun c2 => ?_)
    · replace h := wp_t h c2
      refine V_iconst (pc := 14) C dX5_within_14 ki_0 ?_
      exact V_iret (pc := 15) C hQ () dX5_within_15 rfl rfl ⟨wp_s h, rfl⟩
    · replace h := wp_f h c2
      refine V_iconst (pc := 10) C dX5_within_10 ki_1 ?_
      refine V_goto (pc := 11) (tgt := 15) C dX5_within_11 (by decide) ?_
      exact V_iret (pc := 15) C hQ () dX5_within_15 rfl rfl ⟨wp_s h, rfl⟩
set_option maxRecDepth 100000 in
set_option maxHeartbeats 4000000 in
theorem c_M_isNode {l : Launch} {D : va_G} {cI cC : ClassId} {q_m : Nat → Nat} {m_now : Nat → Int32} {m_aside : Nat → Int32} {m_past : Nat → Int32} {m_states : Int32} {m_refused : Nat → Int32} {m_text : Nat → Int32} {m_length : Int32} {m_tables : Nat → Int32} {m_all : Int32} {m_rowsBehind : Nat → Int32} {m_rowsMany : Int32} {m_forms : Nat → Int32} {m_lesser : Nat → Int32} {m_greater : Nat → Int32} {m_why : Nat → Int32} {m_checks : Int32} {m_numbers : Nat → Int32} {m_depths : Nat → Int32} {m_spot : Int32} {m_isFaulty : Int32} {m_orders : Int32} {m_letters : Nat → Int32} {m_parts : Nat → Int32} {m_hash : Int64} {a0 : Int32} {post : Int32 → Prop} (h : wpO (M_isNode m_now a0) post) : Cn l yX5_isNode cX5_isNode 2 (some .boolean) 1 22 D cI cC [.ref (q_m 0), .int a0] (wM cI q_m m_now m_aside m_past m_states m_refused m_text m_length m_tables m_all m_rowsBehind m_rowsMany m_forms m_lesser m_greater m_why m_checks m_numbers m_depths m_spot m_isFaulty m_orders m_letters m_parts m_hash) (QI D cI cC (S := Unit) (fun u => (wM cI q_m m_now m_aside m_past m_states m_refused m_text m_length m_tables m_all m_rowsBehind m_rowsMany m_forms m_lesser m_greater m_why m_checks m_numbers m_depths m_spot m_isFaulty m_orders m_letters m_parts m_hash)) (fun r u => post r ∧ narrow .boolean (.int r) = .int r)) := by
  refine Cn.ofV (own := RX5) (lv0 := [(0, .ref (q_m 0)), (1, .int a0)]) rfl (by decide) (Nat.le_of_ble_eq_true rfl) rfl ?_
  intro p e s m below meth c A args Q hQ C
  unfold M_isNode at h
  refine V_iload_n (pc := 0) C 1 dX5_isNode_0 rfl rfl ?_
  refine V_iconst (pc := 1) C dX5_isNode_1 ki_0 ?_
  refine V_aload_n (pc := 2) C 0 dX5_isNode_2 rfl rfl ?_
  refine V_get (pc := 3) C 0 0 inX5 wd_589 dX5_isNode_3 rfl rfl (by decide) rfl rfl ?_
  refine V_iconst (pc := 6) C dX5_isNode_6 ki_1 ?_
  obtain ⟨b1, h⟩ := wp_c h
  refine V_iald (pc := 7) C 1 dX5_isNode_7 rfl b1 ?_
  refine V_iconst (pc := 8) C dX5_isNode_8 ki_1 ?_
  refine V_isub (pc := 9) C dX5_isNode_9 ?_
  refine V_cutSi (pc := 10) (As := [.int a0, .int 0, .int ((m_now (Int32.toNatClampNeg (1 : Int32))) - 1)]) (st := []) (w0 := ([] : va_W)) (wr := (wM cI q_m m_now m_aside m_past m_states m_refused m_text m_length m_tables m_all m_rowsBehind m_rowsMany m_forms m_lesser m_greater m_why m_checks m_numbers m_depths m_spot m_isFaulty m_orders m_letters m_parts m_hash)) (w2 := fun u => (wM cI q_m m_now m_aside m_past m_states m_refused m_text m_length m_tables m_all m_rowsBehind m_rowsMany m_forms m_lesser m_greater m_why m_checks m_numbers m_depths m_spot m_isFaulty m_orders m_letters m_parts m_hash)) C (c_M_within (wp_b h)) mk_X5_within wd_630 dX5_isNode_10 rfl rfl ⟨Nat.le_of_ble_eq_true rfl, Nat.le_of_ble_eq_true rfl⟩ [] [0, 1, 2, 3, 4, 5, 6, 7, 8, 9, 10, 11, 12, 13, 14, 15] [0, 1, 2, 3, 4, 5, 6, 7, 8, 9, 10, 11, 12, 13, 14, 15] ⟨rfl, rfl, by decide +kernel, by decide +kernel, by decide +kernel⟩ (by decide +kernel) (fun u => rfl) (Nat.le_of_ble_eq_true rfl) rfl (fun r3 u hw => ?_)
  obtain ⟨h, z4⟩ := hw
  try dsimp only at h
  try dsimp only
  exact V_iret (pc := 13) C hQ () dX5_isNode_13 z4 rfl ⟨wp_s h, z4⟩
set_option maxRecDepth 100000 in
set_option maxHeartbeats 4000000 in
theorem c_M_isGate {l : Launch} {D : va_G} {cI cC : ClassId} {q_m : Nat → Nat} {m_now : Nat → Int32} {m_aside : Nat → Int32} {m_past : Nat → Int32} {m_states : Int32} {m_refused : Nat → Int32} {m_text : Nat → Int32} {m_length : Int32} {m_tables : Nat → Int32} {m_all : Int32} {m_rowsBehind : Nat → Int32} {m_rowsMany : Int32} {m_forms : Nat → Int32} {m_lesser : Nat → Int32} {m_greater : Nat → Int32} {m_why : Nat → Int32} {m_checks : Int32} {m_numbers : Nat → Int32} {m_depths : Nat → Int32} {m_spot : Int32} {m_isFaulty : Int32} {m_orders : Int32} {m_letters : Nat → Int32} {m_parts : Nat → Int32} {m_hash : Int64} {a0 : Int32} {post : Int32 → Prop} (h : wpO (M_isGate m_now a0) post) : Cn l yX5_isGate cX5_isGate 2 (some .boolean) 2 43 D cI cC [.ref (q_m 0), .int a0] (wM cI q_m m_now m_aside m_past m_states m_refused m_text m_length m_tables m_all m_rowsBehind m_rowsMany m_forms m_lesser m_greater m_why m_checks m_numbers m_depths m_spot m_isFaulty m_orders m_letters m_parts m_hash) (QI D cI cC (S := Unit) (fun u => (wM cI q_m m_now m_aside m_past m_states m_refused m_text m_length m_tables m_all m_rowsBehind m_rowsMany m_forms m_lesser m_greater m_why m_checks m_numbers m_depths m_spot m_isFaulty m_orders m_letters m_parts m_hash)) (fun r u => post r ∧ narrow .boolean (.int r) = .int r)) := by
  refine Cn.ofV (own := RX5) (lv0 := [(0, .ref (q_m 0)), (1, .int a0)]) rfl (by decide) (Nat.le_of_ble_eq_true rfl) rfl ?_
  intro p e s m below meth c A args Q hQ C
  unfold M_isGate at h
  refine V_aload_n (pc := 0) C 0 dX5_isGate_0 rfl rfl ?_
  refine V_iload_n (pc := 1) C 1 dX5_isGate_1 rfl rfl ?_
  refine V_callVi (pc := 2) (As := [.int a0]) (st := []) C (c_M_isNode (wp_b h)) mk_X5_isNode wd_754 dX5_isGate_2 0 rfl rfl rfl ⟨Nat.le_of_ble_eq_true rfl, Nat.le_of_ble_eq_true rfl⟩ (Nat.le_of_ble_eq_true rfl) rfl (fun r2 u hw => ?_)
  obtain ⟨h, z3⟩ := hw
  try dsimp only at h
  try dsimp only
  refine V_if_eq (pc := 5) (tgt := 22) C dX5_isGate_5 (by decide) (fun c4 => ?_) (fun c4 => ?_)
  · replace h := wp_t h c4
    refine V_iconst (pc := 22) C dX5_isGate_22 ki_0 ?_
    exact V_iret (pc := 23) C hQ () dX5_isGate_23 rfl rfl ⟨wp_s h, rfl⟩
  · replace h := wp_f h c4
    refine V_iload_n (pc := 8) C 1 dX5_isGate_8 rfl rfl ?_
    refine V_aload_n (pc := 9) C 0 dX5_isGate_9 rfl rfl ?_
    refine V_get (pc := 10) C 0 0 inX5 wd_589 dX5_isGate_10 rfl rfl (by decide) rfl rfl ?_
    refine V_iconst (pc := 13) C dX5_isGate_13 ki_0 ?_
    obtain ⟨b5, h⟩ := wp_c h
    refine V_iald (pc := 14) C 1 dX5_isGate_14 rfl b5 ?_
    refine V_icmp_le (pc := 15) (tgt := 22) C dX5_isGate_15 (by decide) (fun c6 => ?_) (fun c6 => ?_)
    · replace h := wp_t h c6
      refine V_iconst (pc := 22) C dX5_isGate_22 ki_0 ?_
      exact V_iret (pc := 23) C hQ () dX5_isGate_23 rfl rfl ⟨wp_s h, rfl⟩
    · replace h := wp_f h c6
      refine V_iconst (pc := 18) C dX5_isGate_18 ki_1 ?_
      refine V_goto (pc := 19) (tgt := 23) C dX5_isGate_19 (by decide) ?_
      exact V_iret (pc := 23) C hQ () dX5_isGate_23 rfl rfl ⟨wp_s h, rfl⟩
set_option maxRecDepth 100000 in
set_option maxHeartbeats 4000000 in
theorem c_M_isLiteral {l : Launch} {D : va_G} {cI cC : ClassId} {q_m : Nat → Nat} {m_now : Nat → Int32} {m_aside : Nat → Int32} {m_past : Nat → Int32} {m_states : Int32} {m_refused : Nat → Int32} {m_text : Nat → Int32} {m_length : Int32} {m_tables : Nat → Int32} {m_all : Int32} {m_rowsBehind : Nat → Int32} {m_rowsMany : Int32} {m_forms : Nat → Int32} {m_lesser : Nat → Int32} {m_greater : Nat → Int32} {m_why : Nat → Int32} {m_checks : Int32} {m_numbers : Nat → Int32} {m_depths : Nat → Int32} {m_spot : Int32} {m_isFaulty : Int32} {m_orders : Int32} {m_letters : Nat → Int32} {m_parts : Nat → Int32} {m_hash : Int64} {a0 : Int32} {post : Int32 → Prop} (h : wpO (M_isLiteral m_now a0) post) : Cn l yX5_isLiteral cX5_isLiteral 2 (some .boolean) 1 22 D cI cC [.ref (q_m 0), .int a0] (wM cI q_m m_now m_aside m_past m_states m_refused m_text m_length m_tables m_all m_rowsBehind m_rowsMany m_forms m_lesser m_greater m_why m_checks m_numbers m_depths m_spot m_isFaulty m_orders m_letters m_parts m_hash) (QI D cI cC (S := Unit) (fun u => (wM cI q_m m_now m_aside m_past m_states m_refused m_text m_length m_tables m_all m_rowsBehind m_rowsMany m_forms m_lesser m_greater m_why m_checks m_numbers m_depths m_spot m_isFaulty m_orders m_letters m_parts m_hash)) (fun r u => post r ∧ narrow .boolean (.int r) = .int r)) := by
  refine Cn.ofV (own := RX5) (lv0 := [(0, .ref (q_m 0)), (1, .int a0)]) rfl (by decide) (Nat.le_of_ble_eq_true rfl) rfl ?_
  intro p e s m below meth c A args Q hQ C
  unfold M_isLiteral at h
  refine V_iload_n (pc := 0) C 1 dX5_isLiteral_0 rfl rfl ?_
  refine V_iconst (pc := 1) C dX5_isLiteral_1 ki_0 ?_
  refine V_iconst (pc := 2) C dX5_isLiteral_2 ki_2 ?_
  refine V_aload_n (pc := 3) C 0 dX5_isLiteral_3 rfl rfl ?_
  refine V_get (pc := 4) C 0 0 inX5 wd_589 dX5_isLiteral_4 rfl rfl (by decide) rfl rfl ?_
  refine V_iconst (pc := 7) C dX5_isLiteral_7 ki_1 ?_
  obtain ⟨b1, h⟩ := wp_c h
  refine V_iald (pc := 8) C 1 dX5_isLiteral_8 rfl b1 ?_
  refine V_imul (pc := 9) C dX5_isLiteral_9 ?_
  refine V_iconst (pc := 10) C dX5_isLiteral_10 ki_1 ?_
  refine V_isub (pc := 11) C dX5_isLiteral_11 ?_
  refine V_cutSi (pc := 12) (As := [.int a0, .int 0, .int (((2 : Int32) * (m_now (Int32.toNatClampNeg (1 : Int32)))) - 1)]) (st := []) (w0 := ([] : va_W)) (wr := (wM cI q_m m_now m_aside m_past m_states m_refused m_text m_length m_tables m_all m_rowsBehind m_rowsMany m_forms m_lesser m_greater m_why m_checks m_numbers m_depths m_spot m_isFaulty m_orders m_letters m_parts m_hash)) (w2 := fun u => (wM cI q_m m_now m_aside m_past m_states m_refused m_text m_length m_tables m_all m_rowsBehind m_rowsMany m_forms m_lesser m_greater m_why m_checks m_numbers m_depths m_spot m_isFaulty m_orders m_letters m_parts m_hash)) C (c_M_within (wp_b h)) mk_X5_within wd_630 dX5_isLiteral_12 rfl rfl ⟨Nat.le_of_ble_eq_true rfl, Nat.le_of_ble_eq_true rfl⟩ [] [0, 1, 2, 3, 4, 5, 6, 7, 8, 9, 10, 11, 12, 13, 14, 15] [0, 1, 2, 3, 4, 5, 6, 7, 8, 9, 10, 11, 12, 13, 14, 15] ⟨rfl, rfl, by decide +kernel, by decide +kernel, by decide +kernel⟩ (by decide +kernel) (fun u => rfl) (Nat.le_of_ble_eq_true rfl) rfl (fun r3 u hw => ?_)
  obtain ⟨h, z4⟩ := hw
  try dsimp only at h
  try dsimp only
  exact V_iret (pc := 15) C hQ () dX5_isLiteral_15 z4 rfl ⟨wp_s h, z4⟩
set_option maxRecDepth 100000 in
set_option maxHeartbeats 4000000 in
theorem c_M_rows {l : Launch} {D : va_G} {cI cC : ClassId} {q_m : Nat → Nat} {m_now : Nat → Int32} {m_aside : Nat → Int32} {m_past : Nat → Int32} {m_states : Int32} {m_refused : Nat → Int32} {m_text : Nat → Int32} {m_length : Int32} {m_tables : Nat → Int32} {m_all : Int32} {m_rowsBehind : Nat → Int32} {m_rowsMany : Int32} {m_forms : Nat → Int32} {m_lesser : Nat → Int32} {m_greater : Nat → Int32} {m_why : Nat → Int32} {m_checks : Int32} {m_numbers : Nat → Int32} {m_depths : Nat → Int32} {m_spot : Int32} {m_isFaulty : Int32} {m_orders : Int32} {m_letters : Nat → Int32} {m_parts : Nat → Int32} {m_hash : Int64} {post : Int32 → Prop} (h : wpO (M_rows m_now) post) : Cn l yX5_rows cX5_rows 1 (some .int) 0 0 D cI cC [.ref (q_m 0)] (wM cI q_m m_now m_aside m_past m_states m_refused m_text m_length m_tables m_all m_rowsBehind m_rowsMany m_forms m_lesser m_greater m_why m_checks m_numbers m_depths m_spot m_isFaulty m_orders m_letters m_parts m_hash) (QI D cI cC (S := Unit) (fun u => (wM cI q_m m_now m_aside m_past m_states m_refused m_text m_length m_tables m_all m_rowsBehind m_rowsMany m_forms m_lesser m_greater m_why m_checks m_numbers m_depths m_spot m_isFaulty m_orders m_letters m_parts m_hash)) (fun r u => post r)) := by
  refine Cn.ofV (own := RX5) (lv0 := [(0, .ref (q_m 0))]) rfl (by decide) (Nat.le_of_ble_eq_true rfl) rfl ?_
  intro p e s m below meth c A args Q hQ C
  unfold M_rows at h
  refine V_iconst (pc := 0) C dX5_rows_0 ki_1 ?_
  refine V_aload_n (pc := 1) C 0 dX5_rows_1 rfl rfl ?_
  refine V_get (pc := 2) C 0 0 inX5 wd_589 dX5_rows_2 rfl rfl (by decide) rfl rfl ?_
  refine V_iconst (pc := 5) C dX5_rows_5 ki_0 ?_
  obtain ⟨b1, h⟩ := wp_c h
  refine V_iald (pc := 6) C 1 dX5_rows_6 rfl b1 ?_
  refine V_ishl (pc := 7) C dX5_rows_7 ?_
  exact V_iret (pc := 8) C hQ () dX5_rows_8 (vp_nar_int _) rfl (wp_s h)
set_option maxRecDepth 100000 in
set_option maxHeartbeats 4000000 in
theorem c_M_isSide {l : Launch} {D : va_G} {cI cC : ClassId} {a0 : Int32} {post : Int32 → Prop} (h : wpO (M_isSide a0) post) : Cn l yX5_isSide cX5_isSide 1 (some .boolean) 0 0 D cI cC [.int a0] ([] : va_W) (QI D cI cC (S := Unit) (fun u => ([] : va_W)) (fun r u => post r ∧ narrow .boolean (.int r) = .int r)) := by
  refine Cn.ofV (own := RX5) (lv0 := [(0, .int a0)]) rfl (by decide) (Nat.le_of_ble_eq_true rfl) rfl ?_
  intro p e s m below meth c A args Q hQ C
  unfold M_isSide at h
  refine V_iload_n (pc := 0) C 0 dX5_isSide_0 rfl rfl ?_
  refine V_if_eq (pc := 1) (tgt := 9) C dX5_isSide_1 (by decide) (fun c1 => ?_) (fun c1 => ?_)
  · replace h := wp_t h c1
    refine V_iconst (pc := 9) C dX5_isSide_9 ki_1 ?_
    refine V_goto (pc := 10) (tgt := 14) C dX5_isSide_10 (by decide) ?_
    exact V_iret (pc := 14) C hQ () dX5_isSide_14 rfl rfl ⟨wp_s h, rfl⟩
  · replace h := wp_f h c1
    refine V_iload_n (pc := 4) C 0 dX5_isSide_4 rfl rfl ?_
    refine V_iconst (pc := 5) C dX5_isSide_5 ki_1 ?_
    refine V_icmp_ne (pc := 6) (tgt := 13) C dX5_isSide_6 (by decide) (fun c2 => ?_) (fun c2 => ?_)
    · replace h := wp_f h c2
      refine V_iconst (pc := 13) C dX5_isSide_13 ki_0 ?_
      exact V_iret (pc := 14) C hQ () dX5_isSide_14 rfl rfl ⟨wp_s h, rfl⟩
    · replace h := wp_t h c2
      refine V_iconst (pc := 9) C dX5_isSide_9 ki_1 ?_
      refine V_goto (pc := 10) (tgt := 14) C dX5_isSide_10 (by decide) ?_
      exact V_iret (pc := 14) C hQ () dX5_isSide_14 rfl rfl ⟨wp_s h, rfl⟩
set_option maxRecDepth 100000 in
set_option maxHeartbeats 4000000 in
theorem c_M_laysAside {l : Launch} {D : va_G} {cI cC : ClassId} {q_m : Nat → Nat} {m_now : Nat → Int32} {m_aside : Nat → Int32} {m_past : Nat → Int32} {m_states : Int32} {m_refused : Nat → Int32} {m_text : Nat → Int32} {m_length : Int32} {m_tables : Nat → Int32} {m_all : Int32} {m_rowsBehind : Nat → Int32} {m_rowsMany : Int32} {m_forms : Nat → Int32} {m_lesser : Nat → Int32} {m_greater : Nat → Int32} {m_why : Nat → Int32} {m_checks : Int32} {m_numbers : Nat → Int32} {m_depths : Nat → Int32} {m_spot : Int32} {m_isFaulty : Int32} {m_orders : Int32} {m_letters : Nat → Int32} {m_parts : Nat → Int32} {m_hash : Int64} {post : (Nat → Int32) → Prop} (h : wpO (M_laysAside m_now m_aside) post) : Cn l yX5_laysAside cX5_laysAside 2 none 0 0 D cI cC [.ref (q_m 0)] (wM cI q_m m_now m_aside m_past m_states m_refused m_text m_length m_tables m_all m_rowsBehind m_rowsMany m_forms m_lesser m_greater m_why m_checks m_numbers m_depths m_spot m_isFaulty m_orders m_letters m_parts m_hash) (QV D cI cC (S := (Nat → Int32)) (fun u => (wM cI q_m m_now u m_past m_states m_refused m_text m_length m_tables m_all m_rowsBehind m_rowsMany m_forms m_lesser m_greater m_why m_checks m_numbers m_depths m_spot m_isFaulty m_orders m_letters m_parts m_hash)) (fun u => post u)) := by
  refine Cn.ofV (own := RX5) (lv0 := [(0, .ref (q_m 0))]) rfl (by decide) (Nat.le_of_ble_eq_true rfl) rfl ?_
  intro p e s m below meth c A args Q hQ C
  have hL_2 : ∀ (K : (Nat → Int32) → Option ((Nat → Int32))), (∀ (m_aside : Nat → Int32), wpO (K m_aside) post → V p l e (rmC 0 0) s m args below meth c D A 2 0 0 Q (wM cI q_m m_now m_aside m_past m_states m_refused m_text m_length m_tables m_all m_rowsBehind m_rowsMany m_forms m_lesser m_greater m_why m_checks m_numbers m_depths m_spot m_isFaulty m_orders m_letters m_parts m_hash) [] 26 []) → ∀ (n : Nat) (l1 : Int32) (m_aside : Nat → Int32), wpO (M_laysAside_2 K m_now n l1 m_aside) post → V p l e (rmC 0 0) s m args below meth c D A 2 0 0 Q (wM cI q_m m_now m_aside m_past m_states m_refused m_text m_length m_tables m_all m_rowsBehind m_rowsMany m_forms m_lesser m_greater m_why m_checks m_numbers m_depths m_spot m_isFaulty m_orders m_letters m_parts m_hash) [(0, .ref (q_m 0)), (1, .int l1)] 2 [] := by
    intro K   hK n
    induction n with
    | zero => intro l1 m_aside h; rw [M_laysAside_2] at h; exact (wp_n h).elim
    | succ n ih =>
      intro l1 m_aside h
      rw [M_laysAside_2] at h
      refine V_iload_n (pc := 2) C 1 dX5_laysAside_2 rfl rfl ?_
      refine V_bipush (pc := 3) C dX5_laysAside_3 kb_125 ?_
      refine V_icmp_ge (pc := 5) (tgt := 26) C dX5_laysAside_5 (by decide) (fun c1 => ?_) (fun c1 => ?_)
      · replace h := wp_t h c1
        refine V_lv (pc := 26) [] rfl ?_
        exact hK _ h
      · replace h := wp_f h c1
        refine V_aload_n (pc := 8) C 0 dX5_laysAside_8 rfl rfl ?_
        refine V_get (pc := 9) C 0 1 inX5 wd_590 dX5_laysAside_9 rfl rfl (by decide) rfl rfl ?_
        refine V_iload_n (pc := 12) C 1 dX5_laysAside_12 rfl rfl ?_
        refine V_aload_n (pc := 13) C 0 dX5_laysAside_13 rfl rfl ?_
        refine V_get (pc := 14) C 0 0 inX5 wd_589 dX5_laysAside_14 rfl rfl (by decide) rfl rfl ?_
        refine V_iload_n (pc := 17) C 1 dX5_laysAside_17 rfl rfl ?_
        obtain ⟨b2, h⟩ := wp_c h
        refine V_iald (pc := 18) C 1 dX5_laysAside_18 rfl b2 ?_
        obtain ⟨b3, h⟩ := wp_c h
        obtain ⟨m_aside_4, em_aside_4, h⟩ := wp_l h
        refine V_iast (pc := 19) (ws' := (wM cI q_m m_now m_aside_4 m_past m_states m_refused m_text m_length m_tables m_all m_rowsBehind m_rowsMany m_forms m_lesser m_greater m_why m_checks m_numbers m_depths m_spot m_isFaulty m_orders m_letters m_parts m_hash)) C 2 dX5_laysAside_19 rfl b3 em_aside_4 rfl ?_
        obtain ⟨v5, ev5, h⟩ := wp_l h
        refine V_iinc (pc := 20) (v := v5) (lv' := [(0, .ref (q_m 0)), (1, .int v5)]) (j := 1) C dX5_laysAside_20 rfl (by rw [ev5]; rfl) [1, 0] (by decide) rfl ?_
        refine V_goto (pc := 23) (tgt := 2) C dX5_laysAside_23 (by decide) ?_
        exact ih _ _ h
  unfold M_laysAside at h
  refine V_iconst (pc := 0) C dX5_laysAside_0 ki_0 ?_
  refine V_istore_n (pc := 1) (lv' := [(0, .ref (q_m 0)), (1, .int 0)]) C dX5_laysAside_1 rfl [1, 0] (by decide) rfl ?_
  refine hL_2 _ (fun m_aside_6 h => ?_) 1000 _ _ h
  try dsimp only at h
  exact V_vret (pc := 26) C hQ m_aside_6 dX5_laysAside_26 rfl (wp_s h)
set_option maxRecDepth 100000 in
set_option maxHeartbeats 4000000 in
theorem c_M_leaves {l : Launch} {D : va_G} {cI cC : ClassId} {q_m : Nat → Nat} {m_now : Nat → Int32} {m_aside : Nat → Int32} {m_past : Nat → Int32} {m_states : Int32} {m_refused : Nat → Int32} {m_text : Nat → Int32} {m_length : Int32} {m_tables : Nat → Int32} {m_all : Int32} {m_rowsBehind : Nat → Int32} {m_rowsMany : Int32} {m_forms : Nat → Int32} {m_lesser : Nat → Int32} {m_greater : Nat → Int32} {m_why : Nat → Int32} {m_checks : Int32} {m_numbers : Nat → Int32} {m_depths : Nat → Int32} {m_spot : Int32} {m_isFaulty : Int32} {m_orders : Int32} {m_letters : Nat → Int32} {m_parts : Nat → Int32} {m_hash : Int64} {post : (Nat → Int32) × Int32 → Prop} (h : wpO (M_leaves m_aside m_past m_states) post) : Cn l yX5_leaves cX5_leaves 2 none 0 0 D cI cC [.ref (q_m 0)] (wM cI q_m m_now m_aside m_past m_states m_refused m_text m_length m_tables m_all m_rowsBehind m_rowsMany m_forms m_lesser m_greater m_why m_checks m_numbers m_depths m_spot m_isFaulty m_orders m_letters m_parts m_hash) (QV D cI cC (S := (Nat → Int32) × Int32) (fun u => (wM cI q_m m_now m_aside u.1 u.2 m_refused m_text m_length m_tables m_all m_rowsBehind m_rowsMany m_forms m_lesser m_greater m_why m_checks m_numbers m_depths m_spot m_isFaulty m_orders m_letters m_parts m_hash)) (fun u => post u)) := by
  refine Cn.ofV (own := RX5) (lv0 := [(0, .ref (q_m 0))]) rfl (by decide) (Nat.le_of_ble_eq_true rfl) rfl ?_
  intro p e s m below meth c A args Q hQ C
  have hL_10 : ∀ (K : (Nat → Int32) → Option ((Nat → Int32) × Int32)) (m_states : Int32), (∀ (m_past : Nat → Int32), wpO (K m_past) post → V p l e (rmC 0 0) s m args below meth c D A 2 0 0 Q (wM cI q_m m_now m_aside m_past m_states m_refused m_text m_length m_tables m_all m_rowsBehind m_rowsMany m_forms m_lesser m_greater m_why m_checks m_numbers m_depths m_spot m_isFaulty m_orders m_letters m_parts m_hash) [(0, .ref (q_m 0))] 38 []) → ∀ (n : Nat) (l1 : Int32) (m_past : Nat → Int32), wpO (M_leaves_10 K n l1 m_past) post → V p l e (rmC 0 0) s m args below meth c D A 2 0 0 Q (wM cI q_m m_now m_aside m_past m_states m_refused m_text m_length m_tables m_all m_rowsBehind m_rowsMany m_forms m_lesser m_greater m_why m_checks m_numbers m_depths m_spot m_isFaulty m_orders m_letters m_parts m_hash) [(0, .ref (q_m 0)), (1, .int l1)] 10 [] := by
    intro K m_states  hK n
    induction n with
    | zero => intro l1 m_past h; rw [M_leaves_10] at h; exact (wp_n h).elim
    | succ n ih =>
      intro l1 m_past h
      rw [M_leaves_10] at h
      refine V_iload_n (pc := 10) C 1 dX5_leaves_10 rfl rfl ?_
      refine V_sipush (pc := 11) C dX5_leaves_11 ks_500 ?_
      refine V_icmp_ge (pc := 14) (tgt := 38) C dX5_leaves_14 (by decide) (fun c1 => ?_) (fun c1 => ?_)
      · replace h := wp_t h c1
        refine V_lv (pc := 38) [0] rfl ?_
        exact hK _ h
      · replace h := wp_f h c1
        refine V_aload_n (pc := 17) C 0 dX5_leaves_17 rfl rfl ?_
        refine V_get (pc := 18) C 0 2 inX5 wd_591 dX5_leaves_18 rfl rfl (by decide) rfl rfl ?_
        refine V_iload_n (pc := 21) C 1 dX5_leaves_21 rfl rfl ?_
        refine V_aload_n (pc := 22) C 0 dX5_leaves_22 rfl rfl ?_
        refine V_get (pc := 23) C 0 2 inX5 wd_591 dX5_leaves_23 rfl rfl (by decide) rfl rfl ?_
        refine V_iload_n (pc := 26) C 1 dX5_leaves_26 rfl rfl ?_
        refine V_bipush (pc := 27) C dX5_leaves_27 kb_125 ?_
        refine V_iadd (pc := 29) C dX5_leaves_29 ?_
        obtain ⟨b2, h⟩ := wp_c h
        refine V_iald (pc := 30) C 3 dX5_leaves_30 rfl b2 ?_
        obtain ⟨b3, h⟩ := wp_c h
        obtain ⟨m_past_4, em_past_4, h⟩ := wp_l h
        refine V_iast (pc := 31) (ws' := (wM cI q_m m_now m_aside m_past_4 m_states m_refused m_text m_length m_tables m_all m_rowsBehind m_rowsMany m_forms m_lesser m_greater m_why m_checks m_numbers m_depths m_spot m_isFaulty m_orders m_letters m_parts m_hash)) C 3 dX5_leaves_31 rfl b3 em_past_4 rfl ?_
        obtain ⟨v5, ev5, h⟩ := wp_l h
        refine V_iinc (pc := 32) (v := v5) (lv' := [(0, .ref (q_m 0)), (1, .int v5)]) (j := 1) C dX5_leaves_32 rfl (by rw [ev5]; rfl) [1, 0] (by decide) rfl ?_
        refine V_goto (pc := 35) (tgt := 10) C dX5_leaves_35 (by decide) ?_
        exact ih _ _ h
  have hL_50 : ∀ (K : (Nat → Int32) → Option ((Nat → Int32) × Int32)) (m_states : Int32), (∀ (m_past : Nat → Int32), wpO (K m_past) post → V p l e (rmC 0 0) s m args below meth c D A 2 0 0 Q (wM cI q_m m_now m_aside m_past m_states m_refused m_text m_length m_tables m_all m_rowsBehind m_rowsMany m_forms m_lesser m_greater m_why m_checks m_numbers m_depths m_spot m_isFaulty m_orders m_letters m_parts m_hash) [(0, .ref (q_m 0))] 82 []) → ∀ (n : Nat) (l1 : Int32) (m_past : Nat → Int32), wpO (M_leaves_50 K m_aside m_states n l1 m_past) post → V p l e (rmC 0 0) s m args below meth c D A 2 0 0 Q (wM cI q_m m_now m_aside m_past m_states m_refused m_text m_length m_tables m_all m_rowsBehind m_rowsMany m_forms m_lesser m_greater m_why m_checks m_numbers m_depths m_spot m_isFaulty m_orders m_letters m_parts m_hash) [(0, .ref (q_m 0)), (1, .int l1)] 50 [] := by
    intro K m_states  hK n
    induction n with
    | zero => intro l1 m_past h; rw [M_leaves_50] at h; exact (wp_n h).elim
    | succ n ih =>
      intro l1 m_past h
      rw [M_leaves_50] at h
      refine V_iload_n (pc := 50) C 1 dX5_leaves_50 rfl rfl ?_
      refine V_bipush (pc := 51) C dX5_leaves_51 kb_125 ?_
      refine V_icmp_ge (pc := 53) (tgt := 82) C dX5_leaves_53 (by decide) (fun c6 => ?_) (fun c6 => ?_)
      · replace h := wp_t h c6
        refine V_lv (pc := 82) [0] rfl ?_
        exact hK _ h
      · replace h := wp_f h c6
        refine V_aload_n (pc := 56) C 0 dX5_leaves_56 rfl rfl ?_
        refine V_get (pc := 57) C 0 2 inX5 wd_591 dX5_leaves_57 rfl rfl (by decide) rfl rfl ?_
        refine V_bipush (pc := 60) C dX5_leaves_60 kb_125 ?_
        refine V_aload_n (pc := 62) C 0 dX5_leaves_62 rfl rfl ?_
        refine V_get (pc := 63) C 0 3 inX5 wd_592 dX5_leaves_63 rfl rfl (by decide) rfl rfl ?_
        refine V_imul (pc := 66) C dX5_leaves_66 ?_
        refine V_iload_n (pc := 67) C 1 dX5_leaves_67 rfl rfl ?_
        refine V_iadd (pc := 68) C dX5_leaves_68 ?_
        refine V_aload_n (pc := 69) C 0 dX5_leaves_69 rfl rfl ?_
        refine V_get (pc := 70) C 0 1 inX5 wd_590 dX5_leaves_70 rfl rfl (by decide) rfl rfl ?_
        refine V_iload_n (pc := 73) C 1 dX5_leaves_73 rfl rfl ?_
        obtain ⟨b7, h⟩ := wp_c h
        refine V_iald (pc := 74) C 2 dX5_leaves_74 rfl b7 ?_
        obtain ⟨b8, h⟩ := wp_c h
        obtain ⟨m_past_9, em_past_9, h⟩ := wp_l h
        refine V_iast (pc := 75) (ws' := (wM cI q_m m_now m_aside m_past_9 m_states m_refused m_text m_length m_tables m_all m_rowsBehind m_rowsMany m_forms m_lesser m_greater m_why m_checks m_numbers m_depths m_spot m_isFaulty m_orders m_letters m_parts m_hash)) C 3 dX5_leaves_75 rfl b8 em_past_9 rfl ?_
        obtain ⟨v10, ev10, h⟩ := wp_l h
        refine V_iinc (pc := 76) (v := v10) (lv' := [(0, .ref (q_m 0)), (1, .int v10)]) (j := 1) C dX5_leaves_76 rfl (by rw [ev10]; rfl) [1, 0] (by decide) rfl ?_
        refine V_goto (pc := 79) (tgt := 50) C dX5_leaves_79 (by decide) ?_
        exact ih _ _ h
  unfold M_leaves at h
  refine V_aload_n (pc := 0) C 0 dX5_leaves_0 rfl rfl ?_
  refine V_get (pc := 1) C 0 3 inX5 wd_592 dX5_leaves_1 rfl rfl (by decide) rfl rfl ?_
  refine V_iconst (pc := 4) C dX5_leaves_4 ki_5 ?_
  refine V_icmp_ne (pc := 5) (tgt := 48) C dX5_leaves_5 (by decide) (fun c11 => ?_) (fun c11 => ?_)
  · replace h := wp_f h c11
    refine V_iconst (pc := 48) C dX5_leaves_48 ki_0 ?_
    refine V_istore_n (pc := 49) (lv' := [(0, .ref (q_m 0)), (1, .int 0)]) C dX5_leaves_49 rfl [1, 0] (by decide) rfl ?_
    refine hL_50 _ _ (fun m_past_12 h => ?_) 1000 _ _ h
    try dsimp only at h
    refine V_aload_n (pc := 82) C 0 dX5_leaves_82 rfl rfl ?_
    refine V_dup (pc := 83) C dX5_leaves_83 rfl ?_
    refine V_get (pc := 84) C 0 3 inX5 wd_592 dX5_leaves_84 rfl rfl (by decide) rfl rfl ?_
    refine V_iconst (pc := 87) C dX5_leaves_87 ki_1 ?_
    refine V_iadd (pc := 88) C dX5_leaves_88 ?_
    obtain ⟨m_states_13, em_states_13, h⟩ := wp_l h
    refine V_topi (pc := 89) em_states_13 ?_
    refine V_put (pc := 89) (ws' := (wM cI q_m m_now m_aside m_past_12 m_states_13 m_refused m_text m_length m_tables m_all m_rowsBehind m_rowsMany m_forms m_lesser m_greater m_why m_checks m_numbers m_depths m_spot m_isFaulty m_orders m_letters m_parts m_hash)) C 0 3 inX5 tyX5_ok nmX5 wd_592 dX5_leaves_89 rfl rfl (by decide) rfl rfl rfl rfl rfl (Nat.le_of_ble_eq_true rfl) rfl ?_
    exact V_vret (pc := 92) C hQ (m_past_12, m_states_13) dX5_leaves_92 rfl (wp_s h)
  · replace h := wp_t h c11
    refine V_iconst (pc := 8) C dX5_leaves_8 ki_0 ?_
    refine V_istore_n (pc := 9) (lv' := [(0, .ref (q_m 0)), (1, .int 0)]) C dX5_leaves_9 rfl [1, 0] (by decide) rfl ?_
    refine hL_10 _ _ (fun m_past_14 h => ?_) 1000 _ _ h
    try dsimp only at h
    refine V_aload_n (pc := 38) C 0 dX5_leaves_38 rfl rfl ?_
    refine V_dup (pc := 39) C dX5_leaves_39 rfl ?_
    refine V_get (pc := 40) C 0 3 inX5 wd_592 dX5_leaves_40 rfl rfl (by decide) rfl rfl ?_
    refine V_iconst (pc := 43) C dX5_leaves_43 ki_1 ?_
    refine V_isub (pc := 44) C dX5_leaves_44 ?_
    obtain ⟨m_states_15, em_states_15, h⟩ := wp_l h
    refine V_topi (pc := 45) em_states_15 ?_
    refine V_put (pc := 45) (ws' := (wM cI q_m m_now m_aside m_past_14 m_states_15 m_refused m_text m_length m_tables m_all m_rowsBehind m_rowsMany m_forms m_lesser m_greater m_why m_checks m_numbers m_depths m_spot m_isFaulty m_orders m_letters m_parts m_hash)) C 0 3 inX5 tyX5_ok nmX5 wd_592 dX5_leaves_45 rfl rfl (by decide) rfl rfl rfl rfl rfl (Nat.le_of_ble_eq_true rfl) rfl ?_
    refine V_iconst (pc := 48) C dX5_leaves_48 ki_0 ?_
    refine V_istore_n (pc := 49) (lv' := [(0, .ref (q_m 0)), (1, .int 0)]) C dX5_leaves_49 rfl [1, 0] (by decide) rfl ?_
    refine hL_50 _ _ (fun m_past_16 h => ?_) 1000 _ _ h
    try dsimp only at h
    refine V_aload_n (pc := 82) C 0 dX5_leaves_82 rfl rfl ?_
    refine V_dup (pc := 83) C dX5_leaves_83 rfl ?_
    refine V_get (pc := 84) C 0 3 inX5 wd_592 dX5_leaves_84 rfl rfl (by decide) rfl rfl ?_
    refine V_iconst (pc := 87) C dX5_leaves_87 ki_1 ?_
    refine V_iadd (pc := 88) C dX5_leaves_88 ?_
    obtain ⟨m_states_17, em_states_17, h⟩ := wp_l h
    refine V_topi (pc := 89) em_states_17 ?_
    refine V_put (pc := 89) (ws' := (wM cI q_m m_now m_aside m_past_16 m_states_17 m_refused m_text m_length m_tables m_all m_rowsBehind m_rowsMany m_forms m_lesser m_greater m_why m_checks m_numbers m_depths m_spot m_isFaulty m_orders m_letters m_parts m_hash)) C 0 3 inX5 tyX5_ok nmX5 wd_592 dX5_leaves_89 rfl rfl (by decide) rfl rfl rfl rfl rfl (Nat.le_of_ble_eq_true rfl) rfl ?_
    exact V_vret (pc := 92) C hQ (m_past_16, m_states_17) dX5_leaves_92 rfl (wp_s h)
set_option maxRecDepth 100000 in
set_option maxHeartbeats 4000000 in
theorem c_M_back {l : Launch} {D : va_G} {cI cC : ClassId} {q_m : Nat → Nat} {m_now : Nat → Int32} {m_aside : Nat → Int32} {m_past : Nat → Int32} {m_states : Int32} {m_refused : Nat → Int32} {m_text : Nat → Int32} {m_length : Int32} {m_tables : Nat → Int32} {m_all : Int32} {m_rowsBehind : Nat → Int32} {m_rowsMany : Int32} {m_forms : Nat → Int32} {m_lesser : Nat → Int32} {m_greater : Nat → Int32} {m_why : Nat → Int32} {m_checks : Int32} {m_numbers : Nat → Int32} {m_depths : Nat → Int32} {m_spot : Int32} {m_isFaulty : Int32} {m_orders : Int32} {m_letters : Nat → Int32} {m_parts : Nat → Int32} {m_hash : Int64} {post : Int32 × (Nat → Int32) × Int32 × (Nat → Int32) → Prop} (h : wpO (M_back m_now m_past m_states m_refused) post) : Cn l yX5_back cX5_back 2 (some .int) 1 20 D cI cC [.ref (q_m 0)] (wM cI q_m m_now m_aside m_past m_states m_refused m_text m_length m_tables m_all m_rowsBehind m_rowsMany m_forms m_lesser m_greater m_why m_checks m_numbers m_depths m_spot m_isFaulty m_orders m_letters m_parts m_hash) (QI D cI cC (S := (Nat → Int32) × Int32 × (Nat → Int32)) (fun u => (wM cI q_m u.1 m_aside m_past u.2.1 u.2.2 m_text m_length m_tables m_all m_rowsBehind m_rowsMany m_forms m_lesser m_greater m_why m_checks m_numbers m_depths m_spot m_isFaulty m_orders m_letters m_parts m_hash)) (fun r u => post (r, u))) := by
  refine Cn.ofV (own := RX5) (lv0 := [(0, .ref (q_m 0))]) rfl (by decide) (Nat.le_of_ble_eq_true rfl) rfl ?_
  intro p e s m below meth c A args Q hQ C
  have hL_24 : ∀ (K : (Nat → Int32) → Option (Int32 × (Nat → Int32) × Int32 × (Nat → Int32))) (m_states : Int32) (m_refused : Nat → Int32), (∀ (m_now : Nat → Int32), wpO (K m_now) post → V p l e (rmC 1 20) s m args below meth c D A 2 0 0 Q (wM cI q_m m_now m_aside m_past m_states m_refused m_text m_length m_tables m_all m_rowsBehind m_rowsMany m_forms m_lesser m_greater m_why m_checks m_numbers m_depths m_spot m_isFaulty m_orders m_letters m_parts m_hash) [(0, .ref (q_m 0))] 56 []) → ∀ (n : Nat) (l1 : Int32) (m_now : Nat → Int32), wpO (M_back_24 K m_past m_states n l1 m_now) post → V p l e (rmC 1 20) s m args below meth c D A 2 0 0 Q (wM cI q_m m_now m_aside m_past m_states m_refused m_text m_length m_tables m_all m_rowsBehind m_rowsMany m_forms m_lesser m_greater m_why m_checks m_numbers m_depths m_spot m_isFaulty m_orders m_letters m_parts m_hash) [(0, .ref (q_m 0)), (1, .int l1)] 24 [] := by
    intro K m_states m_refused  hK n
    induction n with
    | zero => intro l1 m_now h; rw [M_back_24] at h; exact (wp_n h).elim
    | succ n ih =>
      intro l1 m_now h
      rw [M_back_24] at h
      refine V_iload_n (pc := 24) C 1 dX5_back_24 rfl rfl ?_
      refine V_bipush (pc := 25) C dX5_back_25 kb_125 ?_
      refine V_icmp_ge (pc := 27) (tgt := 56) C dX5_back_27 (by decide) (fun c1 => ?_) (fun c1 => ?_)
      · replace h := wp_t h c1
        refine V_lv (pc := 56) [0] rfl ?_
        exact hK _ h
      · replace h := wp_f h c1
        refine V_aload_n (pc := 30) C 0 dX5_back_30 rfl rfl ?_
        refine V_get (pc := 31) C 0 0 inX5 wd_589 dX5_back_31 rfl rfl (by decide) rfl rfl ?_
        refine V_iload_n (pc := 34) C 1 dX5_back_34 rfl rfl ?_
        refine V_aload_n (pc := 35) C 0 dX5_back_35 rfl rfl ?_
        refine V_get (pc := 36) C 0 2 inX5 wd_591 dX5_back_36 rfl rfl (by decide) rfl rfl ?_
        refine V_bipush (pc := 39) C dX5_back_39 kb_125 ?_
        refine V_aload_n (pc := 41) C 0 dX5_back_41 rfl rfl ?_
        refine V_get (pc := 42) C 0 3 inX5 wd_592 dX5_back_42 rfl rfl (by decide) rfl rfl ?_
        refine V_imul (pc := 45) C dX5_back_45 ?_
        refine V_iload_n (pc := 46) C 1 dX5_back_46 rfl rfl ?_
        refine V_iadd (pc := 47) C dX5_back_47 ?_
        obtain ⟨b2, h⟩ := wp_c h
        refine V_iald (pc := 48) C 3 dX5_back_48 rfl b2 ?_
        obtain ⟨b3, h⟩ := wp_c h
        obtain ⟨m_now_4, em_now_4, h⟩ := wp_l h
        refine V_iast (pc := 49) (ws' := (wM cI q_m m_now_4 m_aside m_past m_states m_refused m_text m_length m_tables m_all m_rowsBehind m_rowsMany m_forms m_lesser m_greater m_why m_checks m_numbers m_depths m_spot m_isFaulty m_orders m_letters m_parts m_hash)) C 1 dX5_back_49 rfl b3 em_now_4 rfl ?_
        obtain ⟨v5, ev5, h⟩ := wp_l h
        refine V_iinc (pc := 50) (v := v5) (lv' := [(0, .ref (q_m 0)), (1, .int v5)]) (j := 1) C dX5_back_50 rfl (by rw [ev5]; rfl) [1, 0] (by decide) rfl ?_
        refine V_goto (pc := 53) (tgt := 24) C dX5_back_53 (by decide) ?_
        exact ih _ _ h
  unfold M_back at h
  refine V_aload_n (pc := 0) C 0 dX5_back_0 rfl rfl ?_
  refine V_get (pc := 1) C 0 3 inX5 wd_592 dX5_back_1 rfl rfl (by decide) rfl rfl ?_
  refine V_if_ne (pc := 4) (tgt := 12) C dX5_back_4 (by decide) (fun c6 => ?_) (fun c6 => ?_)
  · replace h := wp_f h c6
    refine V_aload_n (pc := 12) C 0 dX5_back_12 rfl rfl ?_
    refine V_dup (pc := 13) C dX5_back_13 rfl ?_
    refine V_get (pc := 14) C 0 3 inX5 wd_592 dX5_back_14 rfl rfl (by decide) rfl rfl ?_
    refine V_iconst (pc := 17) C dX5_back_17 ki_1 ?_
    refine V_isub (pc := 18) C dX5_back_18 ?_
    obtain ⟨m_states_7, em_states_7, h⟩ := wp_l h
    refine V_topi (pc := 19) em_states_7 ?_
    refine V_put (pc := 19) (ws' := (wM cI q_m m_now m_aside m_past m_states_7 m_refused m_text m_length m_tables m_all m_rowsBehind m_rowsMany m_forms m_lesser m_greater m_why m_checks m_numbers m_depths m_spot m_isFaulty m_orders m_letters m_parts m_hash)) C 0 3 inX5 tyX5_ok nmX5 wd_592 dX5_back_19 rfl rfl (by decide) rfl rfl rfl rfl rfl (Nat.le_of_ble_eq_true rfl) rfl ?_
    refine V_iconst (pc := 22) C dX5_back_22 ki_0 ?_
    refine V_istore_n (pc := 23) (lv' := [(0, .ref (q_m 0)), (1, .int 0)]) C dX5_back_23 rfl [1, 0] (by decide) rfl ?_
    refine hL_24 _ _ _ (fun m_now_8 h => ?_) 1000 _ _ h
    try dsimp only at h
    refine V_aload_n (pc := 56) C 0 dX5_back_56 rfl rfl ?_
    refine V_get (pc := 57) C 0 3 inX5 wd_592 dX5_back_57 rfl rfl (by decide) rfl rfl ?_
    exact V_iret (pc := 60) C hQ (m_now_8, m_states_7, m_refused) dX5_back_60 (vp_nar_int _) rfl (wp_s h)
  · replace h := wp_t h c6
    refine V_aload_n (pc := 7) C 0 dX5_back_7 rfl rfl ?_
    refine V_callVi (pc := 8) (As := []) (st := []) C (c_M_no (wp_b h)) mk_X5_no wd_617 dX5_back_8 0 rfl rfl rfl ⟨Nat.le_of_ble_eq_true rfl, Nat.le_of_ble_eq_true rfl⟩ (Nat.le_of_ble_eq_true rfl) rfl (fun r10 m_refused_11 hw => ?_)
    have h := hw
    try dsimp only at h
    try dsimp only
    exact V_iret (pc := 11) C hQ (m_now, m_states, m_refused_11) dX5_back_11 (vp_nar_int _) rfl (wp_s h)
set_option maxRecDepth 100000 in
set_option maxHeartbeats 4000000 in
theorem c_M_answers {l : Launch} {D : va_G} {cI cC : ClassId} {q_m : Nat → Nat} {m_now : Nat → Int32} {m_aside : Nat → Int32} {m_past : Nat → Int32} {m_states : Int32} {m_refused : Nat → Int32} {m_text : Nat → Int32} {m_length : Int32} {m_tables : Nat → Int32} {m_all : Int32} {m_rowsBehind : Nat → Int32} {m_rowsMany : Int32} {m_forms : Nat → Int32} {m_lesser : Nat → Int32} {m_greater : Nat → Int32} {m_why : Nat → Int32} {m_checks : Int32} {m_numbers : Nat → Int32} {m_depths : Nat → Int32} {m_spot : Int32} {m_isFaulty : Int32} {m_orders : Int32} {m_letters : Nat → Int32} {m_parts : Nat → Int32} {m_hash : Int64} {a0 : Int32} {post : Int32 × (Nat → Int32) × Int32 × (Nat → Int32) → Prop} (h : wpO (M_answers m_aside m_past m_states m_refused a0) post) : Cn l yX5_answers cX5_answers 2 (some .int) 1 21 D cI cC [.ref (q_m 0), .int a0] (wM cI q_m m_now m_aside m_past m_states m_refused m_text m_length m_tables m_all m_rowsBehind m_rowsMany m_forms m_lesser m_greater m_why m_checks m_numbers m_depths m_spot m_isFaulty m_orders m_letters m_parts m_hash) (QI D cI cC (S := (Nat → Int32) × Int32 × (Nat → Int32)) (fun u => (wM cI q_m m_now m_aside u.1 u.2.1 u.2.2 m_text m_length m_tables m_all m_rowsBehind m_rowsMany m_forms m_lesser m_greater m_why m_checks m_numbers m_depths m_spot m_isFaulty m_orders m_letters m_parts m_hash)) (fun r u => post (r, u))) := by
  refine Cn.ofV (own := RX5) (lv0 := [(0, .ref (q_m 0)), (1, .int a0)]) rfl (by decide) (Nat.le_of_ble_eq_true rfl) rfl ?_
  intro p e s m below meth c A args Q hQ C
  unfold M_answers at h
  refine V_iload_n (pc := 0) C 1 dX5_answers_0 rfl rfl ?_
  refine V_if_lt (pc := 1) (tgt := 10) C dX5_answers_1 (by decide) (fun c1 => ?_) (fun c1 => ?_)
  · replace h := wp_t h c1
    refine V_iload_n (pc := 10) C 1 dX5_answers_10 rfl rfl ?_
    refine V_bipush (pc := 11) C dX5_answers_11 kb_m4 ?_
    refine V_icmp_ne (pc := 13) (tgt := 23) C dX5_answers_13 (by decide) (fun c2 => ?_) (fun c2 => ?_)
    · replace h := wp_f h c2
      refine V_aload_n (pc := 23) C 0 dX5_answers_23 rfl rfl ?_
      refine V_callVi (pc := 24) (As := []) (st := []) C (c_M_bad (wp_b h)) mk_X5_bad wd_642 dX5_answers_24 0 rfl rfl rfl ⟨Nat.le_of_ble_eq_true rfl, Nat.le_of_ble_eq_true rfl⟩ (Nat.le_of_ble_eq_true rfl) rfl (fun r4 m_refused_5 hw => ?_)
      have h := hw
      try dsimp only at h
      try dsimp only
      exact V_iret (pc := 27) C hQ (m_past, m_states, m_refused_5) dX5_answers_27 (vp_nar_int _) rfl (wp_s h)
    · replace h := wp_t h c2
      refine V_aload_n (pc := 16) C 0 dX5_answers_16 rfl rfl ?_
      refine V_callVi (pc := 17) (As := []) (st := []) C (c_M_full (wp_b h)) mk_X5_full wd_639 dX5_answers_17 0 rfl rfl rfl ⟨Nat.le_of_ble_eq_true rfl, Nat.le_of_ble_eq_true rfl⟩ (Nat.le_of_ble_eq_true rfl) rfl (fun r7 m_refused_8 hw => ?_)
      have h := hw
      try dsimp only at h
      try dsimp only
      refine V_goto (pc := 20) (tgt := 27) C dX5_answers_20 (by decide) ?_
      exact V_iret (pc := 27) C hQ (m_past, m_states, m_refused_8) dX5_answers_27 (vp_nar_int _) rfl (wp_s h)
  · replace h := wp_f h c1
    refine V_aload_n (pc := 4) C 0 dX5_answers_4 rfl rfl ?_
    refine V_callVv (pc := 5) (As := []) (st := []) C (c_M_leaves (wp_b h)) mk_X5_leaves wd_636 dX5_answers_5 0 rfl rfl rfl ⟨Nat.le_of_ble_eq_true rfl, Nat.le_of_ble_eq_true rfl⟩ (Nat.le_of_ble_eq_true rfl) rfl (fun u hw => ?_)
    obtain ⟨m_past_11, m_states_12⟩ := u
    have h := hw
    try dsimp only at h
    try dsimp only
    refine V_iload_n (pc := 8) C 1 dX5_answers_8 rfl rfl ?_
    exact V_iret (pc := 9) C hQ (m_past_11, m_states_12, m_refused) dX5_answers_9 (vp_nar_int _) rfl (wp_s h)
set_option maxRecDepth 100000 in
set_option maxHeartbeats 4000000 in
theorem c_M_begins {l : Launch} {D : va_G} {cI cC : ClassId} {q_m : Nat → Nat} {m_now : Nat → Int32} {m_aside : Nat → Int32} {m_past : Nat → Int32} {m_states : Int32} {m_refused : Nat → Int32} {m_text : Nat → Int32} {m_length : Int32} {m_tables : Nat → Int32} {m_all : Int32} {m_rowsBehind : Nat → Int32} {m_rowsMany : Int32} {m_forms : Nat → Int32} {m_lesser : Nat → Int32} {m_greater : Nat → Int32} {m_why : Nat → Int32} {m_checks : Int32} {m_numbers : Nat → Int32} {m_depths : Nat → Int32} {m_spot : Int32} {m_isFaulty : Int32} {m_orders : Int32} {m_letters : Nat → Int32} {m_parts : Nat → Int32} {m_hash : Int64} {a0 : Int32} {post : Int32 × (Nat → Int32) → Prop} (h : wpO (M_begins m_now a0) post) : Cn l yX5_begins cX5_begins 4 (some .int) 1 22 D cI cC [.ref (q_m 0), .int a0] (wM cI q_m m_now m_aside m_past m_states m_refused m_text m_length m_tables m_all m_rowsBehind m_rowsMany m_forms m_lesser m_greater m_why m_checks m_numbers m_depths m_spot m_isFaulty m_orders m_letters m_parts m_hash) (QI D cI cC (S := (Nat → Int32)) (fun u => (wM cI q_m u m_aside m_past m_states m_refused m_text m_length m_tables m_all m_rowsBehind m_rowsMany m_forms m_lesser m_greater m_why m_checks m_numbers m_depths m_spot m_isFaulty m_orders m_letters m_parts m_hash)) (fun r u => post (r, u))) := by
  refine Cn.ofV (own := RX5) (lv0 := [(0, .ref (q_m 0)), (1, .int a0)]) rfl (by decide) (Nat.le_of_ble_eq_true rfl) rfl ?_
  intro p e s m below meth c A args Q hQ C
  have hL_21 : ∀ (K : (Nat → Int32) → Option (Int32 × (Nat → Int32))) (l1 : Int32) (l2 : Int32), (∀ (m_now : Nat → Int32), wpO (K m_now) post → V p l e (rmC 1 22) s m args below meth c D A 4 0 0 Q (wM cI q_m m_now m_aside m_past m_states m_refused m_text m_length m_tables m_all m_rowsBehind m_rowsMany m_forms m_lesser m_greater m_why m_checks m_numbers m_depths m_spot m_isFaulty m_orders m_letters m_parts m_hash) [(0, .ref (q_m 0)), (1, .int l1), (2, .int l2)] 40 []) → ∀ (n : Nat) (l3 : Int32) (m_now : Nat → Int32), wpO (M_begins_21 K l1 l2 n l3 m_now) post → V p l e (rmC 1 22) s m args below meth c D A 4 0 0 Q (wM cI q_m m_now m_aside m_past m_states m_refused m_text m_length m_tables m_all m_rowsBehind m_rowsMany m_forms m_lesser m_greater m_why m_checks m_numbers m_depths m_spot m_isFaulty m_orders m_letters m_parts m_hash) [(0, .ref (q_m 0)), (1, .int l1), (2, .int l2), (3, .int l3)] 21 [] := by
    intro K  l1 l2 hK n
    induction n with
    | zero => intro l3 m_now h; rw [M_begins_21] at h; exact (wp_n h).elim
    | succ n ih =>
      intro l3 m_now h
      rw [M_begins_21] at h
      refine V_iload_n (pc := 21) C 3 dX5_begins_21 rfl rfl ?_
      refine V_bipush (pc := 22) C dX5_begins_22 kb_125 ?_
      refine V_icmp_ge (pc := 24) (tgt := 40) C dX5_begins_24 (by decide) (fun c1 => ?_) (fun c1 => ?_)
      · replace h := wp_t h c1
        refine V_lv (pc := 40) [0, 1, 2] rfl ?_
        exact hK _ h
      · replace h := wp_f h c1
        refine V_aload_n (pc := 27) C 0 dX5_begins_27 rfl rfl ?_
        refine V_get (pc := 28) C 0 0 inX5 wd_589 dX5_begins_28 rfl rfl (by decide) rfl rfl ?_
        refine V_iload_n (pc := 31) C 3 dX5_begins_31 rfl rfl ?_
        refine V_iconst (pc := 32) C dX5_begins_32 ki_0 ?_
        obtain ⟨b2, h⟩ := wp_c h
        obtain ⟨m_now_3, em_now_3, h⟩ := wp_l h
        refine V_iast (pc := 33) (ws' := (wM cI q_m m_now_3 m_aside m_past m_states m_refused m_text m_length m_tables m_all m_rowsBehind m_rowsMany m_forms m_lesser m_greater m_why m_checks m_numbers m_depths m_spot m_isFaulty m_orders m_letters m_parts m_hash)) C 1 dX5_begins_33 rfl b2 em_now_3 rfl ?_
        obtain ⟨v4, ev4, h⟩ := wp_l h
        refine V_iinc (pc := 34) (v := v4) (lv' := [(0, .ref (q_m 0)), (1, .int l1), (2, .int l2), (3, .int v4)]) (j := 3) C dX5_begins_34 rfl (by rw [ev4]; rfl) [1, 2, 3, 0] (by decide) rfl ?_
        refine V_goto (pc := 37) (tgt := 21) C dX5_begins_37 (by decide) ?_
        exact ih _ _ h
  unfold M_begins at h
  refine V_iload_n (pc := 0) C 1 dX5_begins_0 rfl rfl ?_
  refine V_iconst (pc := 1) C dX5_begins_1 ki_1 ?_
  refine V_iconst (pc := 2) C dX5_begins_2 ki_5 ?_
  refine V_cutSi (pc := 3) (As := [.int a0, .int 1, .int 5]) (st := []) (w0 := ([] : va_W)) (wr := (wM cI q_m m_now m_aside m_past m_states m_refused m_text m_length m_tables m_all m_rowsBehind m_rowsMany m_forms m_lesser m_greater m_why m_checks m_numbers m_depths m_spot m_isFaulty m_orders m_letters m_parts m_hash)) (w2 := fun u => (wM cI q_m m_now m_aside m_past m_states m_refused m_text m_length m_tables m_all m_rowsBehind m_rowsMany m_forms m_lesser m_greater m_why m_checks m_numbers m_depths m_spot m_isFaulty m_orders m_letters m_parts m_hash)) C (c_M_within (wp_b h)) mk_X5_within wd_630 dX5_begins_3 rfl rfl ⟨Nat.le_of_ble_eq_true rfl, Nat.le_of_ble_eq_true rfl⟩ [] [0, 1, 2, 3, 4, 5, 6, 7, 8, 9, 10, 11, 12, 13, 14, 15] [0, 1, 2, 3, 4, 5, 6, 7, 8, 9, 10, 11, 12, 13, 14, 15] ⟨rfl, rfl, by decide +kernel, by decide +kernel, by decide +kernel⟩ (by decide +kernel) (fun u => rfl) (Nat.le_of_ble_eq_true rfl) rfl (fun r6 u hw => ?_)
  obtain ⟨h, z7⟩ := hw
  try dsimp only at h
  try dsimp only
  refine V_if_ne (pc := 6) (tgt := 12) C dX5_begins_6 (by decide) (fun c8 => ?_) (fun c8 => ?_)
  · replace h := wp_f h c8
    refine V_aload_n (pc := 12) C 0 dX5_begins_12 rfl rfl ?_
    refine V_get (pc := 13) C 0 0 inX5 wd_589 dX5_begins_13 rfl rfl (by decide) rfl rfl ?_
    refine V_iconst (pc := 16) C dX5_begins_16 ki_0 ?_
    obtain ⟨b9, h⟩ := wp_c h
    refine V_iald (pc := 17) C 1 dX5_begins_17 rfl b9 ?_
    obtain ⟨v10, ev10, h⟩ := wp_l h
    refine V_topi (pc := 18) ev10 ?_
    refine V_istore_n (pc := 18) (lv' := [(0, .ref (q_m 0)), (1, .int a0), (2, .int v10)]) C dX5_begins_18 rfl [1, 2, 0] (by decide) rfl ?_
    refine V_iconst (pc := 19) C dX5_begins_19 ki_0 ?_
    refine V_istore_n (pc := 20) (lv' := [(0, .ref (q_m 0)), (1, .int a0), (2, .int v10), (3, .int 0)]) C dX5_begins_20 rfl [1, 2, 3, 0] (by decide) rfl ?_
    refine hL_21 _ _ _ (fun m_now_11 h => ?_) 1000 _ _ h
    try dsimp only at h
    refine V_aload_n (pc := 40) C 0 dX5_begins_40 rfl rfl ?_
    refine V_get (pc := 41) C 0 0 inX5 wd_589 dX5_begins_41 rfl rfl (by decide) rfl rfl ?_
    refine V_iconst (pc := 44) C dX5_begins_44 ki_0 ?_
    refine V_iload_n (pc := 45) C 1 dX5_begins_45 rfl rfl ?_
    obtain ⟨b12, h⟩ := wp_c h
    obtain ⟨m_now_13, em_now_13, h⟩ := wp_l h
    refine V_iast (pc := 46) (ws' := (wM cI q_m m_now_13 m_aside m_past m_states m_refused m_text m_length m_tables m_all m_rowsBehind m_rowsMany m_forms m_lesser m_greater m_why m_checks m_numbers m_depths m_spot m_isFaulty m_orders m_letters m_parts m_hash)) C 1 dX5_begins_46 rfl b12 em_now_13 rfl ?_
    refine V_aload_n (pc := 47) C 0 dX5_begins_47 rfl rfl ?_
    refine V_get (pc := 48) C 0 0 inX5 wd_589 dX5_begins_48 rfl rfl (by decide) rfl rfl ?_
    refine V_iconst (pc := 51) C dX5_begins_51 ki_1 ?_
    refine V_iload_n (pc := 52) C 1 dX5_begins_52 rfl rfl ?_
    refine V_iconst (pc := 53) C dX5_begins_53 ki_1 ?_
    refine V_iadd (pc := 54) C dX5_begins_54 ?_
    obtain ⟨b14, h⟩ := wp_c h
    obtain ⟨m_now_15, em_now_15, h⟩ := wp_l h
    refine V_iast (pc := 55) (ws' := (wM cI q_m m_now_15 m_aside m_past m_states m_refused m_text m_length m_tables m_all m_rowsBehind m_rowsMany m_forms m_lesser m_greater m_why m_checks m_numbers m_depths m_spot m_isFaulty m_orders m_letters m_parts m_hash)) C 1 dX5_begins_55 rfl b14 em_now_15 rfl ?_
    refine V_iload_n (pc := 56) C 2 dX5_begins_56 rfl rfl ?_
    exact V_iret (pc := 57) C hQ m_now_15 dX5_begins_57 (vp_nar_int _) rfl (wp_s h)
  · replace h := wp_t h c8
    refine V_bipush (pc := 9) C dX5_begins_9 kb_m2 ?_
    exact V_iret (pc := 11) C hQ m_now dX5_begins_11 (vp_nar_int _) rfl (wp_s h)
set_option maxRecDepth 100000 in
set_option maxHeartbeats 4000000 in
theorem c_M_adds {l : Launch} {D : va_G} {cI cC : ClassId} {q_m : Nat → Nat} {m_now : Nat → Int32} {m_aside : Nat → Int32} {m_past : Nat → Int32} {m_states : Int32} {m_refused : Nat → Int32} {m_text : Nat → Int32} {m_length : Int32} {m_tables : Nat → Int32} {m_all : Int32} {m_rowsBehind : Nat → Int32} {m_rowsMany : Int32} {m_forms : Nat → Int32} {m_lesser : Nat → Int32} {m_greater : Nat → Int32} {m_why : Nat → Int32} {m_checks : Int32} {m_numbers : Nat → Int32} {m_depths : Nat → Int32} {m_spot : Int32} {m_isFaulty : Int32} {m_orders : Int32} {m_letters : Nat → Int32} {m_parts : Nat → Int32} {m_hash : Int64} {a0 : Int32} {a1 : Int32} {post : Int32 × (Nat → Int32) → Prop} (h : wpO (M_adds m_now a0 a1) post) : Cn l yX5_adds cX5_adds 3 (some .int) 0 0 D cI cC [.ref (q_m 0), .int a0, .int a1] (wM cI q_m m_now m_aside m_past m_states m_refused m_text m_length m_tables m_all m_rowsBehind m_rowsMany m_forms m_lesser m_greater m_why m_checks m_numbers m_depths m_spot m_isFaulty m_orders m_letters m_parts m_hash) (QI D cI cC (S := (Nat → Int32)) (fun u => (wM cI q_m u m_aside m_past m_states m_refused m_text m_length m_tables m_all m_rowsBehind m_rowsMany m_forms m_lesser m_greater m_why m_checks m_numbers m_depths m_spot m_isFaulty m_orders m_letters m_parts m_hash)) (fun r u => post (r, u))) := by
  refine Cn.ofV (own := RX5) (lv0 := [(0, .ref (q_m 0)), (1, .int a0), (2, .int a1)]) rfl (by decide) (Nat.le_of_ble_eq_true rfl) rfl ?_
  intro p e s m below meth c A args Q hQ C
  unfold M_adds at h
  refine V_aload_n (pc := 0) C 0 dX5_adds_0 rfl rfl ?_
  refine V_get (pc := 1) C 0 0 inX5 wd_589 dX5_adds_1 rfl rfl (by decide) rfl rfl ?_
  refine V_iconst (pc := 4) C dX5_adds_4 ki_2 ?_
  refine V_aload_n (pc := 5) C 0 dX5_adds_5 rfl rfl ?_
  refine V_get (pc := 6) C 0 0 inX5 wd_589 dX5_adds_6 rfl rfl (by decide) rfl rfl ?_
  refine V_iconst (pc := 9) C dX5_adds_9 ki_1 ?_
  obtain ⟨b1, h⟩ := wp_c h
  refine V_iald (pc := 10) C 1 dX5_adds_10 rfl b1 ?_
  refine V_iadd (pc := 11) C dX5_adds_11 ?_
  refine V_iload_n (pc := 12) C 1 dX5_adds_12 rfl rfl ?_
  obtain ⟨b2, h⟩ := wp_c h
  obtain ⟨m_now_3, em_now_3, h⟩ := wp_l h
  refine V_iast (pc := 13) (ws' := (wM cI q_m m_now_3 m_aside m_past m_states m_refused m_text m_length m_tables m_all m_rowsBehind m_rowsMany m_forms m_lesser m_greater m_why m_checks m_numbers m_depths m_spot m_isFaulty m_orders m_letters m_parts m_hash)) C 1 dX5_adds_13 rfl b2 em_now_3 rfl ?_
  refine V_aload_n (pc := 14) C 0 dX5_adds_14 rfl rfl ?_
  refine V_get (pc := 15) C 0 0 inX5 wd_589 dX5_adds_15 rfl rfl (by decide) rfl rfl ?_
  refine V_bipush (pc := 18) C dX5_adds_18 kb_50 ?_
  refine V_aload_n (pc := 20) C 0 dX5_adds_20 rfl rfl ?_
  refine V_get (pc := 21) C 0 0 inX5 wd_589 dX5_adds_21 rfl rfl (by decide) rfl rfl ?_
  refine V_iconst (pc := 24) C dX5_adds_24 ki_1 ?_
  obtain ⟨b4, h⟩ := wp_c h
  refine V_iald (pc := 25) C 1 dX5_adds_25 rfl b4 ?_
  refine V_iadd (pc := 26) C dX5_adds_26 ?_
  refine V_iload_n (pc := 27) C 2 dX5_adds_27 rfl rfl ?_
  obtain ⟨b5, h⟩ := wp_c h
  obtain ⟨m_now_6, em_now_6, h⟩ := wp_l h
  refine V_iast (pc := 28) (ws' := (wM cI q_m m_now_6 m_aside m_past m_states m_refused m_text m_length m_tables m_all m_rowsBehind m_rowsMany m_forms m_lesser m_greater m_why m_checks m_numbers m_depths m_spot m_isFaulty m_orders m_letters m_parts m_hash)) C 1 dX5_adds_28 rfl b5 em_now_6 rfl ?_
  refine V_aload_n (pc := 29) C 0 dX5_adds_29 rfl rfl ?_
  refine V_get (pc := 30) C 0 0 inX5 wd_589 dX5_adds_30 rfl rfl (by decide) rfl rfl ?_
  refine V_iconst (pc := 33) C dX5_adds_33 ki_1 ?_
  refine V_dup2 (pc := 34) C dX5_adds_34 rfl rfl ?_
  obtain ⟨b7, h⟩ := wp_c h
  refine V_iald (pc := 35) C 1 dX5_adds_35 rfl b7 ?_
  refine V_iconst (pc := 36) C dX5_adds_36 ki_1 ?_
  refine V_iadd (pc := 37) C dX5_adds_37 ?_
  obtain ⟨b8, h⟩ := wp_c h
  obtain ⟨m_now_9, em_now_9, h⟩ := wp_l h
  refine V_iast (pc := 38) (ws' := (wM cI q_m m_now_9 m_aside m_past m_states m_refused m_text m_length m_tables m_all m_rowsBehind m_rowsMany m_forms m_lesser m_greater m_why m_checks m_numbers m_depths m_spot m_isFaulty m_orders m_letters m_parts m_hash)) C 1 dX5_adds_38 rfl b8 em_now_9 rfl ?_
  refine V_iconst (pc := 39) C dX5_adds_39 ki_2 ?_
  refine V_aload_n (pc := 40) C 0 dX5_adds_40 rfl rfl ?_
  refine V_get (pc := 41) C 0 0 inX5 wd_589 dX5_adds_41 rfl rfl (by decide) rfl rfl ?_
  refine V_iconst (pc := 44) C dX5_adds_44 ki_1 ?_
  obtain ⟨b10, h⟩ := wp_c h
  refine V_iald (pc := 45) C 1 dX5_adds_45 rfl b10 ?_
  refine V_imul (pc := 46) C dX5_adds_46 ?_
  refine V_iconst (pc := 47) C dX5_adds_47 ki_2 ?_
  refine V_isub (pc := 48) C dX5_adds_48 ?_
  exact V_iret (pc := 49) C hQ m_now_9 dX5_adds_49 (vp_nar_int _) rfl (wp_s h)
set_option maxRecDepth 100000 in
set_option maxHeartbeats 4000000 in
theorem c_M_addsGate {l : Launch} {D : va_G} {cI cC : ClassId} {q_m : Nat → Nat} {m_now : Nat → Int32} {m_aside : Nat → Int32} {m_past : Nat → Int32} {m_states : Int32} {m_refused : Nat → Int32} {m_text : Nat → Int32} {m_length : Int32} {m_tables : Nat → Int32} {m_all : Int32} {m_rowsBehind : Nat → Int32} {m_rowsMany : Int32} {m_forms : Nat → Int32} {m_lesser : Nat → Int32} {m_greater : Nat → Int32} {m_why : Nat → Int32} {m_checks : Int32} {m_numbers : Nat → Int32} {m_depths : Nat → Int32} {m_spot : Int32} {m_isFaulty : Int32} {m_orders : Int32} {m_letters : Nat → Int32} {m_parts : Nat → Int32} {m_hash : Int64} {a0 : Int32} {a1 : Int32} {post : Int32 × (Nat → Int32) → Prop} (h : wpO (M_addsGate m_now a0 a1) post) : Cn l yX5_addsGate cX5_addsGate 3 (some .int) 2 43 D cI cC [.ref (q_m 0), .int a0, .int a1] (wM cI q_m m_now m_aside m_past m_states m_refused m_text m_length m_tables m_all m_rowsBehind m_rowsMany m_forms m_lesser m_greater m_why m_checks m_numbers m_depths m_spot m_isFaulty m_orders m_letters m_parts m_hash) (QI D cI cC (S := (Nat → Int32)) (fun u => (wM cI q_m u m_aside m_past m_states m_refused m_text m_length m_tables m_all m_rowsBehind m_rowsMany m_forms m_lesser m_greater m_why m_checks m_numbers m_depths m_spot m_isFaulty m_orders m_letters m_parts m_hash)) (fun r u => post (r, u))) := by
  refine Cn.ofV (own := RX5) (lv0 := [(0, .ref (q_m 0)), (1, .int a0), (2, .int a1)]) rfl (by decide) (Nat.le_of_ble_eq_true rfl) rfl ?_
  intro p e s m below meth c A args Q hQ C
  unfold M_addsGate at h
  refine V_aload_n (pc := 0) C 0 dX5_addsGate_0 rfl rfl ?_
  refine V_iload_n (pc := 1) C 1 dX5_addsGate_1 rfl rfl ?_
  refine V_callVi (pc := 2) (As := [.int a0]) (st := []) C (c_M_isLiteral (wp_b h)) mk_X5_isLiteral wd_652 dX5_addsGate_2 0 rfl rfl rfl ⟨Nat.le_of_ble_eq_true rfl, Nat.le_of_ble_eq_true rfl⟩ (Nat.le_of_ble_eq_true rfl) rfl (fun r2 u hw => ?_)
  obtain ⟨h, z3⟩ := hw
  try dsimp only at h
  try dsimp only
  refine V_if_eq (pc := 5) (tgt := 16) C dX5_addsGate_5 (by decide) (fun c4 => ?_) (fun c4 => ?_)
  · replace h := wp_t h c4
    refine V_bipush (pc := 16) C dX5_addsGate_16 kb_m2 ?_
    exact V_iret (pc := 18) C hQ m_now dX5_addsGate_18 (vp_nar_int _) rfl (wp_s h)
  · replace h := wp_f h c4
    refine V_aload_n (pc := 8) C 0 dX5_addsGate_8 rfl rfl ?_
    refine V_iload_n (pc := 9) C 2 dX5_addsGate_9 rfl rfl ?_
    refine V_callVi (pc := 10) (As := [.int a1]) (st := []) C (c_M_isLiteral (wp_b h)) mk_X5_isLiteral wd_652 dX5_addsGate_10 0 rfl rfl rfl ⟨Nat.le_of_ble_eq_true rfl, Nat.le_of_ble_eq_true rfl⟩ (Nat.le_of_ble_eq_true rfl) rfl (fun r6 u hw => ?_)
    obtain ⟨h, z7⟩ := hw
    try dsimp only at h
    try dsimp only
    refine V_if_ne (pc := 13) (tgt := 19) C dX5_addsGate_13 (by decide) (fun c8 => ?_) (fun c8 => ?_)
    · replace h := wp_f h c8
      refine V_aload_n (pc := 19) C 0 dX5_addsGate_19 rfl rfl ?_
      refine V_get (pc := 20) C 0 0 inX5 wd_589 dX5_addsGate_20 rfl rfl (by decide) rfl rfl ?_
      refine V_iconst (pc := 23) C dX5_addsGate_23 ki_1 ?_
      obtain ⟨b9, h⟩ := wp_c h
      refine V_iald (pc := 24) C 1 dX5_addsGate_24 rfl b9 ?_
      refine V_bipush (pc := 25) C dX5_addsGate_25 kb_48 ?_
      refine V_icmp_ge (pc := 27) (tgt := 39) C dX5_addsGate_27 (by decide) (fun c10 => ?_) (fun c10 => ?_)
      · replace h := wp_t h c10
        refine V_bipush (pc := 39) C dX5_addsGate_39 kb_m4 ?_
        exact V_iret (pc := 41) C hQ m_now dX5_addsGate_41 (vp_nar_int _) rfl (wp_s h)
      · replace h := wp_f h c10
        refine V_aload_n (pc := 30) C 0 dX5_addsGate_30 rfl rfl ?_
        refine V_iload_n (pc := 31) C 1 dX5_addsGate_31 rfl rfl ?_
        refine V_iload_n (pc := 32) C 2 dX5_addsGate_32 rfl rfl ?_
        refine V_callVi (pc := 33) (As := [.int a0, .int a1]) (st := []) C (c_M_adds (wp_b h)) mk_X5_adds wd_655 dX5_addsGate_33 0 rfl rfl rfl ⟨Nat.le_of_ble_eq_true rfl, Nat.le_of_ble_eq_true rfl⟩ (Nat.le_of_ble_eq_true rfl) rfl (fun r12 m_now_13 hw => ?_)
        have h := hw
        try dsimp only at h
        try dsimp only
        refine V_goto (pc := 36) (tgt := 41) C dX5_addsGate_36 (by decide) ?_
        exact V_iret (pc := 41) C hQ m_now_13 dX5_addsGate_41 (vp_nar_int _) rfl (wp_s h)
    · replace h := wp_t h c8
      refine V_bipush (pc := 16) C dX5_addsGate_16 kb_m2 ?_
      exact V_iret (pc := 18) C hQ m_now dX5_addsGate_18 (vp_nar_int _) rfl (wp_s h)
set_option maxRecDepth 100000 in
set_option maxHeartbeats 4000000 in
theorem c_M_addsThree {l : Launch} {D : va_G} {cI cC : ClassId} {q_m : Nat → Nat} {m_now : Nat → Int32} {m_aside : Nat → Int32} {m_past : Nat → Int32} {m_states : Int32} {m_refused : Nat → Int32} {m_text : Nat → Int32} {m_length : Int32} {m_tables : Nat → Int32} {m_all : Int32} {m_rowsBehind : Nat → Int32} {m_rowsMany : Int32} {m_forms : Nat → Int32} {m_lesser : Nat → Int32} {m_greater : Nat → Int32} {m_why : Nat → Int32} {m_checks : Int32} {m_numbers : Nat → Int32} {m_depths : Nat → Int32} {m_spot : Int32} {m_isFaulty : Int32} {m_orders : Int32} {m_letters : Nat → Int32} {m_parts : Nat → Int32} {m_hash : Int64} {a0 : Int32} {a1 : Int32} {a2 : Int32} {a3 : Int32} {post : Int32 × (Nat → Int32) → Prop} (h : wpO (M_addsThree m_now a0 a1 a2 a3) post) : Cn l yX5_addsThree cX5_addsThree 7 (some .int) 1 22 D cI cC [.ref (q_m 0), .int a0, .int a1, .int a2, .int a3] (wM cI q_m m_now m_aside m_past m_states m_refused m_text m_length m_tables m_all m_rowsBehind m_rowsMany m_forms m_lesser m_greater m_why m_checks m_numbers m_depths m_spot m_isFaulty m_orders m_letters m_parts m_hash) (QI D cI cC (S := (Nat → Int32)) (fun u => (wM cI q_m u m_aside m_past m_states m_refused m_text m_length m_tables m_all m_rowsBehind m_rowsMany m_forms m_lesser m_greater m_why m_checks m_numbers m_depths m_spot m_isFaulty m_orders m_letters m_parts m_hash)) (fun r u => post (r, u))) := by
  refine Cn.ofV (own := RX5) (lv0 := [(0, .ref (q_m 0)), (1, .int a0), (2, .int a1), (3, .int a2), (4, .int a3)]) rfl (by decide) (Nat.le_of_ble_eq_true rfl) rfl ?_
  intro p e s m below meth c A args Q hQ C
  unfold M_addsThree at h
  refine V_aload_n (pc := 0) C 0 dX5_addsThree_0 rfl rfl ?_
  refine V_get (pc := 1) C 0 0 inX5 wd_589 dX5_addsThree_1 rfl rfl (by decide) rfl rfl ?_
  refine V_iconst (pc := 4) C dX5_addsThree_4 ki_1 ?_
  obtain ⟨b1, h⟩ := wp_c h
  refine V_iald (pc := 5) C 1 dX5_addsThree_5 rfl b1 ?_
  refine V_iconst (pc := 6) C dX5_addsThree_6 ki_3 ?_
  refine V_iadd (pc := 7) C dX5_addsThree_7 ?_
  refine V_bipush (pc := 8) C dX5_addsThree_8 kb_48 ?_
  refine V_icmp_le (pc := 10) (tgt := 16) C dX5_addsThree_10 (by decide) (fun c2 => ?_) (fun c2 => ?_)
  · replace h := wp_t h c2
    refine V_aload_n (pc := 16) C 0 dX5_addsThree_16 rfl rfl ?_
    refine V_iload_n (pc := 17) C 1 dX5_addsThree_17 rfl rfl ?_
    refine V_iload_n (pc := 18) C 2 dX5_addsThree_18 rfl rfl ?_
    refine V_callVi (pc := 19) (As := [.int a0, .int a1]) (st := []) C (c_M_adds (wp_b h)) mk_X5_adds wd_655 dX5_addsThree_19 0 rfl rfl rfl ⟨Nat.le_of_ble_eq_true rfl, Nat.le_of_ble_eq_true rfl⟩ (Nat.le_of_ble_eq_true rfl) rfl (fun r4 m_now_5 hw => ?_)
    have h := hw
    try dsimp only at h
    try dsimp only
    refine V_istore (pc := 22) (lv' := [(0, .ref (q_m 0)), (1, .int a0), (2, .int a1), (3, .int a2), (4, .int a3), (5, .int r4)]) C dX5_addsThree_22 [1, 2, 3, 4, 5, 0] (by decide) rfl ?_
    refine V_aload_n (pc := 24) C 0 dX5_addsThree_24 rfl rfl ?_
    refine V_iload_n (pc := 25) C 3 dX5_addsThree_25 rfl rfl ?_
    refine V_iload (pc := 26) C 4 dX5_addsThree_26 rfl ?_
    refine V_callVi (pc := 28) (As := [.int a2, .int a3]) (st := []) C (c_M_adds (wp_b h)) mk_X5_adds wd_655 dX5_addsThree_28 0 rfl rfl rfl ⟨Nat.le_of_ble_eq_true rfl, Nat.le_of_ble_eq_true rfl⟩ (Nat.le_of_ble_eq_true rfl) rfl (fun r7 m_now_8 hw => ?_)
    have h := hw
    try dsimp only at h
    try dsimp only
    refine V_istore (pc := 31) (lv' := [(0, .ref (q_m 0)), (1, .int a0), (2, .int a1), (3, .int a2), (4, .int a3), (5, .int r4), (6, .int r7)]) C dX5_addsThree_31 [1, 2, 3, 4, 5, 6, 0] (by decide) rfl ?_
    refine V_aload_n (pc := 33) C 0 dX5_addsThree_33 rfl rfl ?_
    refine V_iload (pc := 34) C 5 dX5_addsThree_34 rfl ?_
    refine V_iconst (pc := 36) C dX5_addsThree_36 ki_1 ?_
    refine V_iadd (pc := 37) C dX5_addsThree_37 ?_
    refine V_iload (pc := 38) C 6 dX5_addsThree_38 rfl ?_
    refine V_iconst (pc := 40) C dX5_addsThree_40 ki_1 ?_
    refine V_iadd (pc := 41) C dX5_addsThree_41 ?_
    refine V_callVi (pc := 42) (As := [.int (r4 + 1), .int (r7 + 1)]) (st := []) C (c_M_adds (wp_b h)) mk_X5_adds wd_655 dX5_addsThree_42 0 rfl rfl rfl ⟨Nat.le_of_ble_eq_true rfl, Nat.le_of_ble_eq_true rfl⟩ (Nat.le_of_ble_eq_true rfl) rfl (fun r10 m_now_11 hw => ?_)
    have h := hw
    try dsimp only at h
    try dsimp only
    refine V_iconst (pc := 45) C dX5_addsThree_45 ki_1 ?_
    refine V_iadd (pc := 46) C dX5_addsThree_46 ?_
    exact V_iret (pc := 47) C hQ m_now_11 dX5_addsThree_47 (vp_nar_int _) rfl (wp_s h)
  · replace h := wp_f h c2
    refine V_bipush (pc := 13) C dX5_addsThree_13 kb_m4 ?_
    exact V_iret (pc := 15) C hQ m_now dX5_addsThree_15 (vp_nar_int _) rfl (wp_s h)
set_option maxRecDepth 100000 in
set_option maxHeartbeats 4000000 in
theorem c_M_turned {l : Launch} {D : va_G} {cI cC : ClassId} {a0 : Int32} {post : Int32 → Prop} (h : wpO (M_turned a0) post) : Cn l yX5_turned cX5_turned 1 (some .int) 0 0 D cI cC [.int a0] ([] : va_W) (QI D cI cC (S := Unit) (fun u => ([] : va_W)) (fun r u => post r)) := by
  refine Cn.ofV (own := RX5) (lv0 := [(0, .int a0)]) rfl (by decide) (Nat.le_of_ble_eq_true rfl) rfl ?_
  intro p e s m below meth c A args Q hQ C
  unfold M_turned at h
  refine V_iload_n (pc := 0) C 0 dX5_turned_0 rfl rfl ?_
  refine V_iconst (pc := 1) C dX5_turned_1 ki_2 ?_
  refine V_irem (pc := 2) C dX5_turned_2 (by decide) ?_
  refine V_if_ne (pc := 3) (tgt := 12) C dX5_turned_3 (by decide) (fun c1 => ?_) (fun c1 => ?_)
  · replace h := wp_f h c1
    refine V_iload_n (pc := 12) C 0 dX5_turned_12 rfl rfl ?_
    refine V_iconst (pc := 13) C dX5_turned_13 ki_1 ?_
    refine V_isub (pc := 14) C dX5_turned_14 ?_
    exact V_iret (pc := 15) C hQ () dX5_turned_15 (vp_nar_int _) rfl (wp_s h)
  · replace h := wp_t h c1
    refine V_iload_n (pc := 6) C 0 dX5_turned_6 rfl rfl ?_
    refine V_iconst (pc := 7) C dX5_turned_7 ki_1 ?_
    refine V_iadd (pc := 8) C dX5_turned_8 ?_
    refine V_goto (pc := 9) (tgt := 15) C dX5_turned_9 (by decide) ?_
    exact V_iret (pc := 15) C hQ () dX5_turned_15 (vp_nar_int _) rfl (wp_s h)
set_option maxRecDepth 100000 in
set_option maxHeartbeats 4000000 in
theorem c_M_addsXor {l : Launch} {D : va_G} {cI cC : ClassId} {q_m : Nat → Nat} {m_now : Nat → Int32} {m_aside : Nat → Int32} {m_past : Nat → Int32} {m_states : Int32} {m_refused : Nat → Int32} {m_text : Nat → Int32} {m_length : Int32} {m_tables : Nat → Int32} {m_all : Int32} {m_rowsBehind : Nat → Int32} {m_rowsMany : Int32} {m_forms : Nat → Int32} {m_lesser : Nat → Int32} {m_greater : Nat → Int32} {m_why : Nat → Int32} {m_checks : Int32} {m_numbers : Nat → Int32} {m_depths : Nat → Int32} {m_spot : Int32} {m_isFaulty : Int32} {m_orders : Int32} {m_letters : Nat → Int32} {m_parts : Nat → Int32} {m_hash : Int64} {a0 : Int32} {a1 : Int32} {post : Int32 × (Nat → Int32) → Prop} (h : wpO (M_addsXor m_now a0 a1) post) : Cn l yX5_addsXor cX5_addsXor 3 (some .int) 2 48 D cI cC [.ref (q_m 0), .int a0, .int a1] (wM cI q_m m_now m_aside m_past m_states m_refused m_text m_length m_tables m_all m_rowsBehind m_rowsMany m_forms m_lesser m_greater m_why m_checks m_numbers m_depths m_spot m_isFaulty m_orders m_letters m_parts m_hash) (QI D cI cC (S := (Nat → Int32)) (fun u => (wM cI q_m u m_aside m_past m_states m_refused m_text m_length m_tables m_all m_rowsBehind m_rowsMany m_forms m_lesser m_greater m_why m_checks m_numbers m_depths m_spot m_isFaulty m_orders m_letters m_parts m_hash)) (fun r u => post (r, u))) := by
  refine Cn.ofV (own := RX5) (lv0 := [(0, .ref (q_m 0)), (1, .int a0), (2, .int a1)]) rfl (by decide) (Nat.le_of_ble_eq_true rfl) rfl ?_
  intro p e s m below meth c A args Q hQ C
  unfold M_addsXor at h
  refine V_aload_n (pc := 0) C 0 dX5_addsXor_0 rfl rfl ?_
  refine V_iload_n (pc := 1) C 1 dX5_addsXor_1 rfl rfl ?_
  refine V_callVi (pc := 2) (As := [.int a0]) (st := []) C (c_M_isLiteral (wp_b h)) mk_X5_isLiteral wd_652 dX5_addsXor_2 0 rfl rfl rfl ⟨Nat.le_of_ble_eq_true rfl, Nat.le_of_ble_eq_true rfl⟩ (Nat.le_of_ble_eq_true rfl) rfl (fun r2 u hw => ?_)
  obtain ⟨h, z3⟩ := hw
  try dsimp only at h
  try dsimp only
  refine V_if_eq (pc := 5) (tgt := 33) C dX5_addsXor_5 (by decide) (fun c4 => ?_) (fun c4 => ?_)
  · replace h := wp_t h c4
    refine V_bipush (pc := 33) C dX5_addsXor_33 kb_m2 ?_
    exact V_iret (pc := 35) C hQ m_now dX5_addsXor_35 (vp_nar_int _) rfl (wp_s h)
  · replace h := wp_f h c4
    refine V_aload_n (pc := 8) C 0 dX5_addsXor_8 rfl rfl ?_
    refine V_iload_n (pc := 9) C 2 dX5_addsXor_9 rfl rfl ?_
    refine V_callVi (pc := 10) (As := [.int a1]) (st := []) C (c_M_isLiteral (wp_b h)) mk_X5_isLiteral wd_652 dX5_addsXor_10 0 rfl rfl rfl ⟨Nat.le_of_ble_eq_true rfl, Nat.le_of_ble_eq_true rfl⟩ (Nat.le_of_ble_eq_true rfl) rfl (fun r6 u hw => ?_)
    obtain ⟨h, z7⟩ := hw
    try dsimp only at h
    try dsimp only
    refine V_if_eq (pc := 13) (tgt := 33) C dX5_addsXor_13 (by decide) (fun c8 => ?_) (fun c8 => ?_)
    · replace h := wp_t h c8
      refine V_bipush (pc := 33) C dX5_addsXor_33 kb_m2 ?_
      exact V_iret (pc := 35) C hQ m_now dX5_addsXor_35 (vp_nar_int _) rfl (wp_s h)
    · replace h := wp_f h c8
      refine V_aload_n (pc := 16) C 0 dX5_addsXor_16 rfl rfl ?_
      refine V_iload_n (pc := 17) C 1 dX5_addsXor_17 rfl rfl ?_
      refine V_iload_n (pc := 18) C 2 dX5_addsXor_18 rfl rfl ?_
      refine V_cutSi (pc := 19) (As := [.int a1]) (st := [.int a0, .ref (q_m 0)]) (w0 := ([] : va_W)) (wr := (wM cI q_m m_now m_aside m_past m_states m_refused m_text m_length m_tables m_all m_rowsBehind m_rowsMany m_forms m_lesser m_greater m_why m_checks m_numbers m_depths m_spot m_isFaulty m_orders m_letters m_parts m_hash)) (w2 := fun u => (wM cI q_m m_now m_aside m_past m_states m_refused m_text m_length m_tables m_all m_rowsBehind m_rowsMany m_forms m_lesser m_greater m_why m_checks m_numbers m_depths m_spot m_isFaulty m_orders m_letters m_parts m_hash)) C (c_M_turned (wp_b h)) mk_X5_turned wd_665 dX5_addsXor_19 rfl rfl ⟨Nat.le_of_ble_eq_true rfl, Nat.le_of_ble_eq_true rfl⟩ [] [0, 1, 2, 3, 4, 5, 6, 7, 8, 9, 10, 11, 12, 13, 14, 15] [0, 1, 2, 3, 4, 5, 6, 7, 8, 9, 10, 11, 12, 13, 14, 15] ⟨rfl, rfl, by decide +kernel, by decide +kernel, by decide +kernel⟩ (by decide +kernel) (fun u => rfl) (Nat.le_of_ble_eq_true rfl) rfl (fun r10 u hw => ?_)
      have h := hw
      try dsimp only at h
      try dsimp only
      refine V_iload_n (pc := 22) C 1 dX5_addsXor_22 rfl rfl ?_
      refine V_cutSi (pc := 23) (As := [.int a0]) (st := [.int r10, .int a0, .ref (q_m 0)]) (w0 := ([] : va_W)) (wr := (wM cI q_m m_now m_aside m_past m_states m_refused m_text m_length m_tables m_all m_rowsBehind m_rowsMany m_forms m_lesser m_greater m_why m_checks m_numbers m_depths m_spot m_isFaulty m_orders m_letters m_parts m_hash)) (w2 := fun u => (wM cI q_m m_now m_aside m_past m_states m_refused m_text m_length m_tables m_all m_rowsBehind m_rowsMany m_forms m_lesser m_greater m_why m_checks m_numbers m_depths m_spot m_isFaulty m_orders m_letters m_parts m_hash)) C (c_M_turned (wp_b h)) mk_X5_turned wd_665 dX5_addsXor_23 rfl rfl ⟨Nat.le_of_ble_eq_true rfl, Nat.le_of_ble_eq_true rfl⟩ [] [0, 1, 2, 3, 4, 5, 6, 7, 8, 9, 10, 11, 12, 13, 14, 15] [0, 1, 2, 3, 4, 5, 6, 7, 8, 9, 10, 11, 12, 13, 14, 15] ⟨rfl, rfl, by decide +kernel, by decide +kernel, by decide +kernel⟩ (by decide +kernel) (fun u => rfl) (Nat.le_of_ble_eq_true rfl) rfl (fun r12 u hw => ?_)
      have h := hw
      try dsimp only at h
      try dsimp only
      refine V_iload_n (pc := 26) C 2 dX5_addsXor_26 rfl rfl ?_
      refine V_callVi (pc := 27) (As := [.int a0, .int r10, .int r12, .int a1]) (st := []) C (c_M_addsThree (wp_b h)) mk_X5_addsThree wd_668 dX5_addsXor_27 0 rfl rfl rfl ⟨Nat.le_of_ble_eq_true rfl, Nat.le_of_ble_eq_true rfl⟩ (Nat.le_of_ble_eq_true rfl) rfl (fun r14 m_now_15 hw => ?_)
      have h := hw
      try dsimp only at h
      try dsimp only
      refine V_goto (pc := 30) (tgt := 35) C dX5_addsXor_30 (by decide) ?_
      exact V_iret (pc := 35) C hQ m_now_15 dX5_addsXor_35 (vp_nar_int _) rfl (wp_s h)
set_option maxRecDepth 100000 in
set_option maxHeartbeats 4000000 in
theorem c_M_addsMux {l : Launch} {D : va_G} {cI cC : ClassId} {q_m : Nat → Nat} {m_now : Nat → Int32} {m_aside : Nat → Int32} {m_past : Nat → Int32} {m_states : Int32} {m_refused : Nat → Int32} {m_text : Nat → Int32} {m_length : Int32} {m_tables : Nat → Int32} {m_all : Int32} {m_rowsBehind : Nat → Int32} {m_rowsMany : Int32} {m_forms : Nat → Int32} {m_lesser : Nat → Int32} {m_greater : Nat → Int32} {m_why : Nat → Int32} {m_checks : Int32} {m_numbers : Nat → Int32} {m_depths : Nat → Int32} {m_spot : Int32} {m_isFaulty : Int32} {m_orders : Int32} {m_letters : Nat → Int32} {m_parts : Nat → Int32} {m_hash : Int64} {a0 : Int32} {a1 : Int32} {a2 : Int32} {post : Int32 × (Nat → Int32) → Prop} (h : wpO (M_addsMux m_now a0 a1 a2) post) : Cn l yX5_addsMux cX5_addsMux 4 (some .int) 2 48 D cI cC [.ref (q_m 0), .int a0, .int a1, .int a2] (wM cI q_m m_now m_aside m_past m_states m_refused m_text m_length m_tables m_all m_rowsBehind m_rowsMany m_forms m_lesser m_greater m_why m_checks m_numbers m_depths m_spot m_isFaulty m_orders m_letters m_parts m_hash) (QI D cI cC (S := (Nat → Int32)) (fun u => (wM cI q_m u m_aside m_past m_states m_refused m_text m_length m_tables m_all m_rowsBehind m_rowsMany m_forms m_lesser m_greater m_why m_checks m_numbers m_depths m_spot m_isFaulty m_orders m_letters m_parts m_hash)) (fun r u => post (r, u))) := by
  refine Cn.ofV (own := RX5) (lv0 := [(0, .ref (q_m 0)), (1, .int a0), (2, .int a1), (3, .int a2)]) rfl (by decide) (Nat.le_of_ble_eq_true rfl) rfl ?_
  intro p e s m below meth c A args Q hQ C
  unfold M_addsMux at h
  refine V_aload_n (pc := 0) C 0 dX5_addsMux_0 rfl rfl ?_
  refine V_iload_n (pc := 1) C 1 dX5_addsMux_1 rfl rfl ?_
  refine V_callVi (pc := 2) (As := [.int a0]) (st := []) C (c_M_isLiteral (wp_b h)) mk_X5_isLiteral wd_652 dX5_addsMux_2 0 rfl rfl rfl ⟨Nat.le_of_ble_eq_true rfl, Nat.le_of_ble_eq_true rfl⟩ (Nat.le_of_ble_eq_true rfl) rfl (fun r2 u hw => ?_)
  obtain ⟨h, z3⟩ := hw
  try dsimp only at h
  try dsimp only
  refine V_if_eq (pc := 5) (tgt := 38) C dX5_addsMux_5 (by decide) (fun c4 => ?_) (fun c4 => ?_)
  · replace h := wp_t h c4
    refine V_bipush (pc := 38) C dX5_addsMux_38 kb_m2 ?_
    exact V_iret (pc := 40) C hQ m_now dX5_addsMux_40 (vp_nar_int _) rfl (wp_s h)
  · replace h := wp_f h c4
    refine V_aload_n (pc := 8) C 0 dX5_addsMux_8 rfl rfl ?_
    refine V_iload_n (pc := 9) C 2 dX5_addsMux_9 rfl rfl ?_
    refine V_callVi (pc := 10) (As := [.int a1]) (st := []) C (c_M_isLiteral (wp_b h)) mk_X5_isLiteral wd_652 dX5_addsMux_10 0 rfl rfl rfl ⟨Nat.le_of_ble_eq_true rfl, Nat.le_of_ble_eq_true rfl⟩ (Nat.le_of_ble_eq_true rfl) rfl (fun r6 u hw => ?_)
    obtain ⟨h, z7⟩ := hw
    try dsimp only at h
    try dsimp only
    refine V_if_eq (pc := 13) (tgt := 38) C dX5_addsMux_13 (by decide) (fun c8 => ?_) (fun c8 => ?_)
    · replace h := wp_t h c8
      refine V_bipush (pc := 38) C dX5_addsMux_38 kb_m2 ?_
      exact V_iret (pc := 40) C hQ m_now dX5_addsMux_40 (vp_nar_int _) rfl (wp_s h)
    · replace h := wp_f h c8
      refine V_aload_n (pc := 16) C 0 dX5_addsMux_16 rfl rfl ?_
      refine V_iload_n (pc := 17) C 3 dX5_addsMux_17 rfl rfl ?_
      refine V_callVi (pc := 18) (As := [.int a2]) (st := []) C (c_M_isLiteral (wp_b h)) mk_X5_isLiteral wd_652 dX5_addsMux_18 0 rfl rfl rfl ⟨Nat.le_of_ble_eq_true rfl, Nat.le_of_ble_eq_true rfl⟩ (Nat.le_of_ble_eq_true rfl) rfl (fun r10 u hw => ?_)
      obtain ⟨h, z11⟩ := hw
      try dsimp only at h
      try dsimp only
      refine V_if_eq (pc := 21) (tgt := 38) C dX5_addsMux_21 (by decide) (fun c12 => ?_) (fun c12 => ?_)
      · replace h := wp_t h c12
        refine V_bipush (pc := 38) C dX5_addsMux_38 kb_m2 ?_
        exact V_iret (pc := 40) C hQ m_now dX5_addsMux_40 (vp_nar_int _) rfl (wp_s h)
      · replace h := wp_f h c12
        refine V_aload_n (pc := 24) C 0 dX5_addsMux_24 rfl rfl ?_
        refine V_iload_n (pc := 25) C 1 dX5_addsMux_25 rfl rfl ?_
        refine V_iload_n (pc := 26) C 2 dX5_addsMux_26 rfl rfl ?_
        refine V_iload_n (pc := 27) C 1 dX5_addsMux_27 rfl rfl ?_
        refine V_cutSi (pc := 28) (As := [.int a0]) (st := [.int a1, .int a0, .ref (q_m 0)]) (w0 := ([] : va_W)) (wr := (wM cI q_m m_now m_aside m_past m_states m_refused m_text m_length m_tables m_all m_rowsBehind m_rowsMany m_forms m_lesser m_greater m_why m_checks m_numbers m_depths m_spot m_isFaulty m_orders m_letters m_parts m_hash)) (w2 := fun u => (wM cI q_m m_now m_aside m_past m_states m_refused m_text m_length m_tables m_all m_rowsBehind m_rowsMany m_forms m_lesser m_greater m_why m_checks m_numbers m_depths m_spot m_isFaulty m_orders m_letters m_parts m_hash)) C (c_M_turned (wp_b h)) mk_X5_turned wd_665 dX5_addsMux_28 rfl rfl ⟨Nat.le_of_ble_eq_true rfl, Nat.le_of_ble_eq_true rfl⟩ [] [0, 1, 2, 3, 4, 5, 6, 7, 8, 9, 10, 11, 12, 13, 14, 15] [0, 1, 2, 3, 4, 5, 6, 7, 8, 9, 10, 11, 12, 13, 14, 15] ⟨rfl, rfl, by decide +kernel, by decide +kernel, by decide +kernel⟩ (by decide +kernel) (fun u => rfl) (Nat.le_of_ble_eq_true rfl) rfl (fun r14 u hw => ?_)
        have h := hw
        try dsimp only at h
        try dsimp only
        refine V_iload_n (pc := 31) C 3 dX5_addsMux_31 rfl rfl ?_
        refine V_callVi (pc := 32) (As := [.int a0, .int a1, .int r14, .int a2]) (st := []) C (c_M_addsThree (wp_b h)) mk_X5_addsThree wd_668 dX5_addsMux_32 0 rfl rfl rfl ⟨Nat.le_of_ble_eq_true rfl, Nat.le_of_ble_eq_true rfl⟩ (Nat.le_of_ble_eq_true rfl) rfl (fun r16 m_now_17 hw => ?_)
        have h := hw
        try dsimp only at h
        try dsimp only
        refine V_goto (pc := 35) (tgt := 40) C dX5_addsMux_35 (by decide) ?_
        exact V_iret (pc := 40) C hQ m_now_17 dX5_addsMux_40 (vp_nar_int _) rfl (wp_s h)
set_option maxRecDepth 100000 in
set_option maxHeartbeats 4000000 in
theorem c_M_addsOut {l : Launch} {D : va_G} {cI cC : ClassId} {q_m : Nat → Nat} {m_now : Nat → Int32} {m_aside : Nat → Int32} {m_past : Nat → Int32} {m_states : Int32} {m_refused : Nat → Int32} {m_text : Nat → Int32} {m_length : Int32} {m_tables : Nat → Int32} {m_all : Int32} {m_rowsBehind : Nat → Int32} {m_rowsMany : Int32} {m_forms : Nat → Int32} {m_lesser : Nat → Int32} {m_greater : Nat → Int32} {m_why : Nat → Int32} {m_checks : Int32} {m_numbers : Nat → Int32} {m_depths : Nat → Int32} {m_spot : Int32} {m_isFaulty : Int32} {m_orders : Int32} {m_letters : Nat → Int32} {m_parts : Nat → Int32} {m_hash : Int64} {a0 : Int32} {a1 : Int32} {post : Int32 × (Nat → Int32) → Prop} (h : wpO (M_addsOut m_now a0 a1) post) : Cn l yX5_addsOut cX5_addsOut 4 (some .int) 2 43 D cI cC [.ref (q_m 0), .int a0, .int a1] (wM cI q_m m_now m_aside m_past m_states m_refused m_text m_length m_tables m_all m_rowsBehind m_rowsMany m_forms m_lesser m_greater m_why m_checks m_numbers m_depths m_spot m_isFaulty m_orders m_letters m_parts m_hash) (QI D cI cC (S := (Nat → Int32)) (fun u => (wM cI q_m u m_aside m_past m_states m_refused m_text m_length m_tables m_all m_rowsBehind m_rowsMany m_forms m_lesser m_greater m_why m_checks m_numbers m_depths m_spot m_isFaulty m_orders m_letters m_parts m_hash)) (fun r u => post (r, u))) := by
  refine Cn.ofV (own := RX5) (lv0 := [(0, .ref (q_m 0)), (1, .int a0), (2, .int a1)]) rfl (by decide) (Nat.le_of_ble_eq_true rfl) rfl ?_
  intro p e s m below meth c A args Q hQ C
  unfold M_addsOut at h
  refine V_iload_n (pc := 0) C 1 dX5_addsOut_0 rfl rfl ?_
  refine V_cutSi (pc := 1) (As := [.int a0]) (st := []) (w0 := ([] : va_W)) (wr := (wM cI q_m m_now m_aside m_past m_states m_refused m_text m_length m_tables m_all m_rowsBehind m_rowsMany m_forms m_lesser m_greater m_why m_checks m_numbers m_depths m_spot m_isFaulty m_orders m_letters m_parts m_hash)) (w2 := fun u => (wM cI q_m m_now m_aside m_past m_states m_refused m_text m_length m_tables m_all m_rowsBehind m_rowsMany m_forms m_lesser m_greater m_why m_checks m_numbers m_depths m_spot m_isFaulty m_orders m_letters m_parts m_hash)) C (c_M_isSide (wp_b h)) mk_X5_isSide wd_685 dX5_addsOut_1 rfl rfl ⟨Nat.le_of_ble_eq_true rfl, Nat.le_of_ble_eq_true rfl⟩ [] [0, 1, 2, 3, 4, 5, 6, 7, 8, 9, 10, 11, 12, 13, 14, 15] [0, 1, 2, 3, 4, 5, 6, 7, 8, 9, 10, 11, 12, 13, 14, 15] ⟨rfl, rfl, by decide +kernel, by decide +kernel, by decide +kernel⟩ (by decide +kernel) (fun u => rfl) (Nat.le_of_ble_eq_true rfl) rfl (fun r2 u hw => ?_)
  obtain ⟨h, z3⟩ := hw
  try dsimp only at h
  try dsimp only
  refine V_if_eq (pc := 4) (tgt := 15) C dX5_addsOut_4 (by decide) (fun c4 => ?_) (fun c4 => ?_)
  · replace h := wp_t h c4
    refine V_bipush (pc := 15) C dX5_addsOut_15 kb_m2 ?_
    exact V_iret (pc := 17) C hQ m_now dX5_addsOut_17 (vp_nar_int _) rfl (wp_s h)
  · replace h := wp_f h c4
    refine V_aload_n (pc := 7) C 0 dX5_addsOut_7 rfl rfl ?_
    refine V_iload_n (pc := 8) C 2 dX5_addsOut_8 rfl rfl ?_
    refine V_callVi (pc := 9) (As := [.int a1]) (st := []) C (c_M_isLiteral (wp_b h)) mk_X5_isLiteral wd_652 dX5_addsOut_9 0 rfl rfl rfl ⟨Nat.le_of_ble_eq_true rfl, Nat.le_of_ble_eq_true rfl⟩ (Nat.le_of_ble_eq_true rfl) rfl (fun r6 u hw => ?_)
    obtain ⟨h, z7⟩ := hw
    try dsimp only at h
    try dsimp only
    refine V_if_ne (pc := 12) (tgt := 18) C dX5_addsOut_12 (by decide) (fun c8 => ?_) (fun c8 => ?_)
    · replace h := wp_f h c8
      refine V_aload_n (pc := 18) C 0 dX5_addsOut_18 rfl rfl ?_
      refine V_get (pc := 19) C 0 0 inX5 wd_589 dX5_addsOut_19 rfl rfl (by decide) rfl rfl ?_
      refine V_bipush (pc := 22) C dX5_addsOut_22 kb_98 ?_
      refine V_iload_n (pc := 24) C 1 dX5_addsOut_24 rfl rfl ?_
      refine V_iadd (pc := 25) C dX5_addsOut_25 ?_
      obtain ⟨b9, h⟩ := wp_c h
      refine V_iald (pc := 26) C 1 dX5_addsOut_26 rfl b9 ?_
      obtain ⟨v10, ev10, h⟩ := wp_l h
      refine V_topi (pc := 27) ev10 ?_
      refine V_istore_n (pc := 27) (lv' := [(0, .ref (q_m 0)), (1, .int a0), (2, .int a1), (3, .int v10)]) C dX5_addsOut_27 rfl [1, 2, 3, 0] (by decide) rfl ?_
      refine V_iload_n (pc := 28) C 3 dX5_addsOut_28 rfl rfl ?_
      refine V_bipush (pc := 29) C dX5_addsOut_29 kb_6 ?_
      refine V_icmp_ne (pc := 31) (tgt := 37) C dX5_addsOut_31 (by decide) (fun c11 => ?_) (fun c11 => ?_)
      · replace h := wp_f h c11
        refine V_aload_n (pc := 37) C 0 dX5_addsOut_37 rfl rfl ?_
        refine V_get (pc := 38) C 0 0 inX5 wd_589 dX5_addsOut_38 rfl rfl (by decide) rfl rfl ?_
        refine V_bipush (pc := 41) C dX5_addsOut_41 kb_100 ?_
        refine V_bipush (pc := 43) C dX5_addsOut_43 kb_6 ?_
        refine V_iload_n (pc := 45) C 1 dX5_addsOut_45 rfl rfl ?_
        refine V_imul (pc := 46) C dX5_addsOut_46 ?_
        refine V_iadd (pc := 47) C dX5_addsOut_47 ?_
        refine V_iload_n (pc := 48) C 3 dX5_addsOut_48 rfl rfl ?_
        refine V_iadd (pc := 49) C dX5_addsOut_49 ?_
        refine V_iload_n (pc := 50) C 2 dX5_addsOut_50 rfl rfl ?_
        obtain ⟨b12, h⟩ := wp_c h
        obtain ⟨m_now_13, em_now_13, h⟩ := wp_l h
        refine V_iast (pc := 51) (ws' := (wM cI q_m m_now_13 m_aside m_past m_states m_refused m_text m_length m_tables m_all m_rowsBehind m_rowsMany m_forms m_lesser m_greater m_why m_checks m_numbers m_depths m_spot m_isFaulty m_orders m_letters m_parts m_hash)) C 1 dX5_addsOut_51 rfl b12 em_now_13 rfl ?_
        refine V_aload_n (pc := 52) C 0 dX5_addsOut_52 rfl rfl ?_
        refine V_get (pc := 53) C 0 0 inX5 wd_589 dX5_addsOut_53 rfl rfl (by decide) rfl rfl ?_
        refine V_bipush (pc := 56) C dX5_addsOut_56 kb_98 ?_
        refine V_iload_n (pc := 58) C 1 dX5_addsOut_58 rfl rfl ?_
        refine V_iadd (pc := 59) C dX5_addsOut_59 ?_
        refine V_dup2 (pc := 60) C dX5_addsOut_60 rfl rfl ?_
        obtain ⟨b14, h⟩ := wp_c h
        refine V_iald (pc := 61) C 1 dX5_addsOut_61 rfl b14 ?_
        refine V_iconst (pc := 62) C dX5_addsOut_62 ki_1 ?_
        refine V_iadd (pc := 63) C dX5_addsOut_63 ?_
        obtain ⟨b15, h⟩ := wp_c h
        obtain ⟨m_now_16, em_now_16, h⟩ := wp_l h
        refine V_iast (pc := 64) (ws' := (wM cI q_m m_now_16 m_aside m_past m_states m_refused m_text m_length m_tables m_all m_rowsBehind m_rowsMany m_forms m_lesser m_greater m_why m_checks m_numbers m_depths m_spot m_isFaulty m_orders m_letters m_parts m_hash)) C 1 dX5_addsOut_64 rfl b15 em_now_16 rfl ?_
        refine V_iload_n (pc := 65) C 3 dX5_addsOut_65 rfl rfl ?_
        exact V_iret (pc := 66) C hQ m_now_16 dX5_addsOut_66 (vp_nar_int _) rfl (wp_s h)
      · replace h := wp_t h c11
        refine V_bipush (pc := 34) C dX5_addsOut_34 kb_m4 ?_
        exact V_iret (pc := 36) C hQ m_now dX5_addsOut_36 (vp_nar_int _) rfl (wp_s h)
    · replace h := wp_t h c8
      refine V_bipush (pc := 15) C dX5_addsOut_15 kb_m2 ?_
      exact V_iret (pc := 17) C hQ m_now dX5_addsOut_17 (vp_nar_int _) rfl (wp_s h)
set_option maxRecDepth 100000 in
set_option maxHeartbeats 4000000 in
theorem c_M_addsPattern {l : Launch} {D : va_G} {cI cC : ClassId} {q_m : Nat → Nat} {m_now : Nat → Int32} {m_aside : Nat → Int32} {m_past : Nat → Int32} {m_states : Int32} {m_refused : Nat → Int32} {m_text : Nat → Int32} {m_length : Int32} {m_tables : Nat → Int32} {m_all : Int32} {m_rowsBehind : Nat → Int32} {m_rowsMany : Int32} {m_forms : Nat → Int32} {m_lesser : Nat → Int32} {m_greater : Nat → Int32} {m_why : Nat → Int32} {m_checks : Int32} {m_numbers : Nat → Int32} {m_depths : Nat → Int32} {m_spot : Int32} {m_isFaulty : Int32} {m_orders : Int32} {m_letters : Nat → Int32} {m_parts : Nat → Int32} {m_hash : Int64} {a0 : Int32} {post : Int32 × (Nat → Int32) → Prop} (h : wpO (M_addsPattern m_now a0) post) : Cn l yX5_addsPattern cX5_addsPattern 2 (some .int) 1 22 D cI cC [.ref (q_m 0), .int a0] (wM cI q_m m_now m_aside m_past m_states m_refused m_text m_length m_tables m_all m_rowsBehind m_rowsMany m_forms m_lesser m_greater m_why m_checks m_numbers m_depths m_spot m_isFaulty m_orders m_letters m_parts m_hash) (QI D cI cC (S := (Nat → Int32)) (fun u => (wM cI q_m u m_aside m_past m_states m_refused m_text m_length m_tables m_all m_rowsBehind m_rowsMany m_forms m_lesser m_greater m_why m_checks m_numbers m_depths m_spot m_isFaulty m_orders m_letters m_parts m_hash)) (fun r u => post (r, u))) := by
  refine Cn.ofV (own := RX5) (lv0 := [(0, .ref (q_m 0)), (1, .int a0)]) rfl (by decide) (Nat.le_of_ble_eq_true rfl) rfl ?_
  intro p e s m below meth c A args Q hQ C
  unfold M_addsPattern at h
  refine V_iload_n (pc := 0) C 1 dX5_addsPattern_0 rfl rfl ?_
  refine V_iconst (pc := 1) C dX5_addsPattern_1 ki_0 ?_
  refine V_aload_n (pc := 2) C 0 dX5_addsPattern_2 rfl rfl ?_
  refine V_callVi (pc := 3) (As := []) (st := [.int 0, .int a0]) C (c_M_rows (wp_b h)) mk_X5_rows wd_695 dX5_addsPattern_3 0 rfl rfl rfl ⟨Nat.le_of_ble_eq_true rfl, Nat.le_of_ble_eq_true rfl⟩ (Nat.le_of_ble_eq_true rfl) rfl (fun r2 u hw => ?_)
  have h := hw
  try dsimp only at h
  try dsimp only
  refine V_iconst (pc := 6) C dX5_addsPattern_6 ki_1 ?_
  refine V_isub (pc := 7) C dX5_addsPattern_7 ?_
  refine V_cutSi (pc := 8) (As := [.int a0, .int 0, .int (r2 - 1)]) (st := []) (w0 := ([] : va_W)) (wr := (wM cI q_m m_now m_aside m_past m_states m_refused m_text m_length m_tables m_all m_rowsBehind m_rowsMany m_forms m_lesser m_greater m_why m_checks m_numbers m_depths m_spot m_isFaulty m_orders m_letters m_parts m_hash)) (w2 := fun u => (wM cI q_m m_now m_aside m_past m_states m_refused m_text m_length m_tables m_all m_rowsBehind m_rowsMany m_forms m_lesser m_greater m_why m_checks m_numbers m_depths m_spot m_isFaulty m_orders m_letters m_parts m_hash)) C (c_M_within (wp_b h)) mk_X5_within wd_630 dX5_addsPattern_8 rfl rfl ⟨Nat.le_of_ble_eq_true rfl, Nat.le_of_ble_eq_true rfl⟩ [] [0, 1, 2, 3, 4, 5, 6, 7, 8, 9, 10, 11, 12, 13, 14, 15] [0, 1, 2, 3, 4, 5, 6, 7, 8, 9, 10, 11, 12, 13, 14, 15] ⟨rfl, rfl, by decide +kernel, by decide +kernel, by decide +kernel⟩ (by decide +kernel) (fun u => rfl) (Nat.le_of_ble_eq_true rfl) rfl (fun r4 u hw => ?_)
  obtain ⟨h, z5⟩ := hw
  try dsimp only at h
  try dsimp only
  refine V_if_ne (pc := 11) (tgt := 17) C dX5_addsPattern_11 (by decide) (fun c6 => ?_) (fun c6 => ?_)
  · replace h := wp_f h c6
    refine V_aload_n (pc := 17) C 0 dX5_addsPattern_17 rfl rfl ?_
    refine V_get (pc := 18) C 0 0 inX5 wd_589 dX5_addsPattern_18 rfl rfl (by decide) rfl rfl ?_
    refine V_bipush (pc := 21) C dX5_addsPattern_21 kb_112 ?_
    obtain ⟨b7, h⟩ := wp_c h
    refine V_iald (pc := 23) C 1 dX5_addsPattern_23 rfl b7 ?_
    refine V_bipush (pc := 24) C dX5_addsPattern_24 kb_12 ?_
    refine V_icmp_ne (pc := 26) (tgt := 32) C dX5_addsPattern_26 (by decide) (fun c8 => ?_) (fun c8 => ?_)
    · replace h := wp_f h c8
      refine V_aload_n (pc := 32) C 0 dX5_addsPattern_32 rfl rfl ?_
      refine V_get (pc := 33) C 0 0 inX5 wd_589 dX5_addsPattern_33 rfl rfl (by decide) rfl rfl ?_
      refine V_bipush (pc := 36) C dX5_addsPattern_36 kb_113 ?_
      refine V_aload_n (pc := 38) C 0 dX5_addsPattern_38 rfl rfl ?_
      refine V_get (pc := 39) C 0 0 inX5 wd_589 dX5_addsPattern_39 rfl rfl (by decide) rfl rfl ?_
      refine V_bipush (pc := 42) C dX5_addsPattern_42 kb_112 ?_
      obtain ⟨b9, h⟩ := wp_c h
      refine V_iald (pc := 44) C 1 dX5_addsPattern_44 rfl b9 ?_
      refine V_iadd (pc := 45) C dX5_addsPattern_45 ?_
      refine V_iload_n (pc := 46) C 1 dX5_addsPattern_46 rfl rfl ?_
      obtain ⟨b10, h⟩ := wp_c h
      obtain ⟨m_now_11, em_now_11, h⟩ := wp_l h
      refine V_iast (pc := 47) (ws' := (wM cI q_m m_now_11 m_aside m_past m_states m_refused m_text m_length m_tables m_all m_rowsBehind m_rowsMany m_forms m_lesser m_greater m_why m_checks m_numbers m_depths m_spot m_isFaulty m_orders m_letters m_parts m_hash)) C 1 dX5_addsPattern_47 rfl b10 em_now_11 rfl ?_
      refine V_aload_n (pc := 48) C 0 dX5_addsPattern_48 rfl rfl ?_
      refine V_get (pc := 49) C 0 0 inX5 wd_589 dX5_addsPattern_49 rfl rfl (by decide) rfl rfl ?_
      refine V_bipush (pc := 52) C dX5_addsPattern_52 kb_112 ?_
      refine V_dup2 (pc := 54) C dX5_addsPattern_54 rfl rfl ?_
      obtain ⟨b12, h⟩ := wp_c h
      refine V_iald (pc := 55) C 1 dX5_addsPattern_55 rfl b12 ?_
      refine V_iconst (pc := 56) C dX5_addsPattern_56 ki_1 ?_
      refine V_iadd (pc := 57) C dX5_addsPattern_57 ?_
      obtain ⟨b13, h⟩ := wp_c h
      obtain ⟨m_now_14, em_now_14, h⟩ := wp_l h
      refine V_iast (pc := 58) (ws' := (wM cI q_m m_now_14 m_aside m_past m_states m_refused m_text m_length m_tables m_all m_rowsBehind m_rowsMany m_forms m_lesser m_greater m_why m_checks m_numbers m_depths m_spot m_isFaulty m_orders m_letters m_parts m_hash)) C 1 dX5_addsPattern_58 rfl b13 em_now_14 rfl ?_
      refine V_aload_n (pc := 59) C 0 dX5_addsPattern_59 rfl rfl ?_
      refine V_get (pc := 60) C 0 0 inX5 wd_589 dX5_addsPattern_60 rfl rfl (by decide) rfl rfl ?_
      refine V_bipush (pc := 63) C dX5_addsPattern_63 kb_112 ?_
      obtain ⟨b15, h⟩ := wp_c h
      refine V_iald (pc := 65) C 1 dX5_addsPattern_65 rfl b15 ?_
      exact V_iret (pc := 66) C hQ m_now_14 dX5_addsPattern_66 (vp_nar_int _) rfl (wp_s h)
    · replace h := wp_t h c8
      refine V_bipush (pc := 29) C dX5_addsPattern_29 kb_m4 ?_
      exact V_iret (pc := 31) C hQ m_now dX5_addsPattern_31 (vp_nar_int _) rfl (wp_s h)
  · replace h := wp_t h c6
    refine V_bipush (pc := 14) C dX5_addsPattern_14 kb_m2 ?_
    exact V_iret (pc := 16) C hQ m_now dX5_addsPattern_16 (vp_nar_int _) rfl (wp_s h)
set_option maxRecDepth 100000 in
set_option maxHeartbeats 4000000 in
theorem c_M_inputs {l : Launch} {D : va_G} {cI cC : ClassId} {q_m : Nat → Nat} {m_now : Nat → Int32} {m_aside : Nat → Int32} {m_past : Nat → Int32} {m_states : Int32} {m_refused : Nat → Int32} {m_text : Nat → Int32} {m_length : Int32} {m_tables : Nat → Int32} {m_all : Int32} {m_rowsBehind : Nat → Int32} {m_rowsMany : Int32} {m_forms : Nat → Int32} {m_lesser : Nat → Int32} {m_greater : Nat → Int32} {m_why : Nat → Int32} {m_checks : Int32} {m_numbers : Nat → Int32} {m_depths : Nat → Int32} {m_spot : Int32} {m_isFaulty : Int32} {m_orders : Int32} {m_letters : Nat → Int32} {m_parts : Nat → Int32} {m_hash : Int64} {a0 : Int32} {post : Int32 × (Nat → Int32) × (Nat → Int32) × (Nat → Int32) × Int32 × (Nat → Int32) → Prop} (h : wpO (M_inputs m_now m_aside m_past m_states m_refused a0) post) : Cn l yX5_inputs cX5_inputs 2 (some .int) 2 45 D cI cC [.ref (q_m 0), .int a0] (wM cI q_m m_now m_aside m_past m_states m_refused m_text m_length m_tables m_all m_rowsBehind m_rowsMany m_forms m_lesser m_greater m_why m_checks m_numbers m_depths m_spot m_isFaulty m_orders m_letters m_parts m_hash) (QI D cI cC (S := (Nat → Int32) × (Nat → Int32) × (Nat → Int32) × Int32 × (Nat → Int32)) (fun u => (wM cI q_m u.1 u.2.1 u.2.2.1 u.2.2.2.1 u.2.2.2.2 m_text m_length m_tables m_all m_rowsBehind m_rowsMany m_forms m_lesser m_greater m_why m_checks m_numbers m_depths m_spot m_isFaulty m_orders m_letters m_parts m_hash)) (fun r u => post (r, u))) := by
  refine Cn.ofV (own := RX5) (lv0 := [(0, .ref (q_m 0)), (1, .int a0)]) rfl (by decide) (Nat.le_of_ble_eq_true rfl) rfl ?_
  intro p e s m below meth c A args Q hQ C
  unfold M_inputs at h
  refine V_aload_n (pc := 0) C 0 dX5_inputs_0 rfl rfl ?_
  refine V_callVv (pc := 1) (As := []) (st := []) C (c_M_laysAside (wp_b h)) mk_X5_laysAside wd_624 dX5_inputs_1 0 rfl rfl rfl ⟨Nat.le_of_ble_eq_true rfl, Nat.le_of_ble_eq_true rfl⟩ (Nat.le_of_ble_eq_true rfl) rfl (fun m_aside_3 hw => ?_)
  have h := hw
  try dsimp only at h
  try dsimp only
  refine V_aload_n (pc := 4) C 0 dX5_inputs_4 rfl rfl ?_
  refine V_aload_n (pc := 5) C 0 dX5_inputs_5 rfl rfl ?_
  refine V_iload_n (pc := 6) C 1 dX5_inputs_6 rfl rfl ?_
  refine V_callVi (pc := 7) (As := [.int a0]) (st := [.ref (q_m 0)]) C (c_M_begins (wp_b h)) mk_X5_begins wd_627 dX5_inputs_7 0 rfl rfl rfl ⟨Nat.le_of_ble_eq_true rfl, Nat.le_of_ble_eq_true rfl⟩ (Nat.le_of_ble_eq_true rfl) rfl (fun r5 m_now_6 hw => ?_)
  have h := hw
  try dsimp only at h
  try dsimp only
  refine V_callVi (pc := 10) (As := [.int r5]) (st := []) C (c_M_answers (wp_b h)) mk_X5_answers wd_633 dX5_inputs_10 0 rfl rfl rfl ⟨Nat.le_of_ble_eq_true rfl, Nat.le_of_ble_eq_true rfl⟩ (Nat.le_of_ble_eq_true rfl) rfl (fun r8 u hw => ?_)
  obtain ⟨m_past_9, m_states_10, m_refused_11⟩ := u
  have h := hw
  try dsimp only at h
  try dsimp only
  exact V_iret (pc := 13) C hQ (m_now_6, m_aside_3, m_past_9, m_states_10, m_refused_11) dX5_inputs_13 (vp_nar_int _) rfl (wp_s h)
set_option maxRecDepth 100000 in
set_option maxHeartbeats 4000000 in
theorem c_M_gate {l : Launch} {D : va_G} {cI cC : ClassId} {q_m : Nat → Nat} {m_now : Nat → Int32} {m_aside : Nat → Int32} {m_past : Nat → Int32} {m_states : Int32} {m_refused : Nat → Int32} {m_text : Nat → Int32} {m_length : Int32} {m_tables : Nat → Int32} {m_all : Int32} {m_rowsBehind : Nat → Int32} {m_rowsMany : Int32} {m_forms : Nat → Int32} {m_lesser : Nat → Int32} {m_greater : Nat → Int32} {m_why : Nat → Int32} {m_checks : Int32} {m_numbers : Nat → Int32} {m_depths : Nat → Int32} {m_spot : Int32} {m_isFaulty : Int32} {m_orders : Int32} {m_letters : Nat → Int32} {m_parts : Nat → Int32} {m_hash : Int64} {a0 : Int32} {a1 : Int32} {post : Int32 × (Nat → Int32) × (Nat → Int32) × (Nat → Int32) × Int32 × (Nat → Int32) → Prop} (h : wpO (M_gate m_now m_aside m_past m_states m_refused a0 a1) post) : Cn l yX5_gate cX5_gate 3 (some .int) 3 65 D cI cC [.ref (q_m 0), .int a0, .int a1] (wM cI q_m m_now m_aside m_past m_states m_refused m_text m_length m_tables m_all m_rowsBehind m_rowsMany m_forms m_lesser m_greater m_why m_checks m_numbers m_depths m_spot m_isFaulty m_orders m_letters m_parts m_hash) (QI D cI cC (S := (Nat → Int32) × (Nat → Int32) × (Nat → Int32) × Int32 × (Nat → Int32)) (fun u => (wM cI q_m u.1 u.2.1 u.2.2.1 u.2.2.2.1 u.2.2.2.2 m_text m_length m_tables m_all m_rowsBehind m_rowsMany m_forms m_lesser m_greater m_why m_checks m_numbers m_depths m_spot m_isFaulty m_orders m_letters m_parts m_hash)) (fun r u => post (r, u))) := by
  refine Cn.ofV (own := RX5) (lv0 := [(0, .ref (q_m 0)), (1, .int a0), (2, .int a1)]) rfl (by decide) (Nat.le_of_ble_eq_true rfl) rfl ?_
  intro p e s m below meth c A args Q hQ C
  unfold M_gate at h
  refine V_aload_n (pc := 0) C 0 dX5_gate_0 rfl rfl ?_
  refine V_callVv (pc := 1) (As := []) (st := []) C (c_M_laysAside (wp_b h)) mk_X5_laysAside wd_624 dX5_gate_1 0 rfl rfl rfl ⟨Nat.le_of_ble_eq_true rfl, Nat.le_of_ble_eq_true rfl⟩ (Nat.le_of_ble_eq_true rfl) rfl (fun m_aside_3 hw => ?_)
  have h := hw
  try dsimp only at h
  try dsimp only
  refine V_aload_n (pc := 4) C 0 dX5_gate_4 rfl rfl ?_
  refine V_aload_n (pc := 5) C 0 dX5_gate_5 rfl rfl ?_
  refine V_iload_n (pc := 6) C 1 dX5_gate_6 rfl rfl ?_
  refine V_iload_n (pc := 7) C 2 dX5_gate_7 rfl rfl ?_
  refine V_callVi (pc := 8) (As := [.int a0, .int a1]) (st := [.ref (q_m 0)]) C (c_M_addsGate (wp_b h)) mk_X5_addsGate wd_649 dX5_gate_8 0 rfl rfl rfl ⟨Nat.le_of_ble_eq_true rfl, Nat.le_of_ble_eq_true rfl⟩ (Nat.le_of_ble_eq_true rfl) rfl (fun r5 m_now_6 hw => ?_)
  have h := hw
  try dsimp only at h
  try dsimp only
  refine V_callVi (pc := 11) (As := [.int r5]) (st := []) C (c_M_answers (wp_b h)) mk_X5_answers wd_633 dX5_gate_11 0 rfl rfl rfl ⟨Nat.le_of_ble_eq_true rfl, Nat.le_of_ble_eq_true rfl⟩ (Nat.le_of_ble_eq_true rfl) rfl (fun r8 u hw => ?_)
  obtain ⟨m_past_9, m_states_10, m_refused_11⟩ := u
  have h := hw
  try dsimp only at h
  try dsimp only
  exact V_iret (pc := 14) C hQ (m_now_6, m_aside_3, m_past_9, m_states_10, m_refused_11) dX5_gate_14 (vp_nar_int _) rfl (wp_s h)
set_option maxRecDepth 100000 in
set_option maxHeartbeats 4000000 in
theorem c_M_xor {l : Launch} {D : va_G} {cI cC : ClassId} {q_m : Nat → Nat} {m_now : Nat → Int32} {m_aside : Nat → Int32} {m_past : Nat → Int32} {m_states : Int32} {m_refused : Nat → Int32} {m_text : Nat → Int32} {m_length : Int32} {m_tables : Nat → Int32} {m_all : Int32} {m_rowsBehind : Nat → Int32} {m_rowsMany : Int32} {m_forms : Nat → Int32} {m_lesser : Nat → Int32} {m_greater : Nat → Int32} {m_why : Nat → Int32} {m_checks : Int32} {m_numbers : Nat → Int32} {m_depths : Nat → Int32} {m_spot : Int32} {m_isFaulty : Int32} {m_orders : Int32} {m_letters : Nat → Int32} {m_parts : Nat → Int32} {m_hash : Int64} {a0 : Int32} {a1 : Int32} {post : Int32 × (Nat → Int32) × (Nat → Int32) × (Nat → Int32) × Int32 × (Nat → Int32) → Prop} (h : wpO (M_xor m_now m_aside m_past m_states m_refused a0 a1) post) : Cn l yX5_xor cX5_xor 3 (some .int) 3 70 D cI cC [.ref (q_m 0), .int a0, .int a1] (wM cI q_m m_now m_aside m_past m_states m_refused m_text m_length m_tables m_all m_rowsBehind m_rowsMany m_forms m_lesser m_greater m_why m_checks m_numbers m_depths m_spot m_isFaulty m_orders m_letters m_parts m_hash) (QI D cI cC (S := (Nat → Int32) × (Nat → Int32) × (Nat → Int32) × Int32 × (Nat → Int32)) (fun u => (wM cI q_m u.1 u.2.1 u.2.2.1 u.2.2.2.1 u.2.2.2.2 m_text m_length m_tables m_all m_rowsBehind m_rowsMany m_forms m_lesser m_greater m_why m_checks m_numbers m_depths m_spot m_isFaulty m_orders m_letters m_parts m_hash)) (fun r u => post (r, u))) := by
  refine Cn.ofV (own := RX5) (lv0 := [(0, .ref (q_m 0)), (1, .int a0), (2, .int a1)]) rfl (by decide) (Nat.le_of_ble_eq_true rfl) rfl ?_
  intro p e s m below meth c A args Q hQ C
  unfold M_xor at h
  refine V_aload_n (pc := 0) C 0 dX5_xor_0 rfl rfl ?_
  refine V_callVv (pc := 1) (As := []) (st := []) C (c_M_laysAside (wp_b h)) mk_X5_laysAside wd_624 dX5_xor_1 0 rfl rfl rfl ⟨Nat.le_of_ble_eq_true rfl, Nat.le_of_ble_eq_true rfl⟩ (Nat.le_of_ble_eq_true rfl) rfl (fun m_aside_3 hw => ?_)
  have h := hw
  try dsimp only at h
  try dsimp only
  refine V_aload_n (pc := 4) C 0 dX5_xor_4 rfl rfl ?_
  refine V_aload_n (pc := 5) C 0 dX5_xor_5 rfl rfl ?_
  refine V_iload_n (pc := 6) C 1 dX5_xor_6 rfl rfl ?_
  refine V_iload_n (pc := 7) C 2 dX5_xor_7 rfl rfl ?_
  refine V_callVi (pc := 8) (As := [.int a0, .int a1]) (st := [.ref (q_m 0)]) C (c_M_addsXor (wp_b h)) mk_X5_addsXor wd_662 dX5_xor_8 0 rfl rfl rfl ⟨Nat.le_of_ble_eq_true rfl, Nat.le_of_ble_eq_true rfl⟩ (Nat.le_of_ble_eq_true rfl) rfl (fun r5 m_now_6 hw => ?_)
  have h := hw
  try dsimp only at h
  try dsimp only
  refine V_callVi (pc := 11) (As := [.int r5]) (st := []) C (c_M_answers (wp_b h)) mk_X5_answers wd_633 dX5_xor_11 0 rfl rfl rfl ⟨Nat.le_of_ble_eq_true rfl, Nat.le_of_ble_eq_true rfl⟩ (Nat.le_of_ble_eq_true rfl) rfl (fun r8 u hw => ?_)
  obtain ⟨m_past_9, m_states_10, m_refused_11⟩ := u
  have h := hw
  try dsimp only at h
  try dsimp only
  exact V_iret (pc := 14) C hQ (m_now_6, m_aside_3, m_past_9, m_states_10, m_refused_11) dX5_xor_14 (vp_nar_int _) rfl (wp_s h)
set_option maxRecDepth 100000 in
set_option maxHeartbeats 4000000 in
theorem c_M_mux {l : Launch} {D : va_G} {cI cC : ClassId} {q_m : Nat → Nat} {m_now : Nat → Int32} {m_aside : Nat → Int32} {m_past : Nat → Int32} {m_states : Int32} {m_refused : Nat → Int32} {m_text : Nat → Int32} {m_length : Int32} {m_tables : Nat → Int32} {m_all : Int32} {m_rowsBehind : Nat → Int32} {m_rowsMany : Int32} {m_forms : Nat → Int32} {m_lesser : Nat → Int32} {m_greater : Nat → Int32} {m_why : Nat → Int32} {m_checks : Int32} {m_numbers : Nat → Int32} {m_depths : Nat → Int32} {m_spot : Int32} {m_isFaulty : Int32} {m_orders : Int32} {m_letters : Nat → Int32} {m_parts : Nat → Int32} {m_hash : Int64} {a0 : Int32} {a1 : Int32} {a2 : Int32} {post : Int32 × (Nat → Int32) × (Nat → Int32) × (Nat → Int32) × Int32 × (Nat → Int32) → Prop} (h : wpO (M_mux m_now m_aside m_past m_states m_refused a0 a1 a2) post) : Cn l yX5_mux cX5_mux 4 (some .int) 3 71 D cI cC [.ref (q_m 0), .int a0, .int a1, .int a2] (wM cI q_m m_now m_aside m_past m_states m_refused m_text m_length m_tables m_all m_rowsBehind m_rowsMany m_forms m_lesser m_greater m_why m_checks m_numbers m_depths m_spot m_isFaulty m_orders m_letters m_parts m_hash) (QI D cI cC (S := (Nat → Int32) × (Nat → Int32) × (Nat → Int32) × Int32 × (Nat → Int32)) (fun u => (wM cI q_m u.1 u.2.1 u.2.2.1 u.2.2.2.1 u.2.2.2.2 m_text m_length m_tables m_all m_rowsBehind m_rowsMany m_forms m_lesser m_greater m_why m_checks m_numbers m_depths m_spot m_isFaulty m_orders m_letters m_parts m_hash)) (fun r u => post (r, u))) := by
  refine Cn.ofV (own := RX5) (lv0 := [(0, .ref (q_m 0)), (1, .int a0), (2, .int a1), (3, .int a2)]) rfl (by decide) (Nat.le_of_ble_eq_true rfl) rfl ?_
  intro p e s m below meth c A args Q hQ C
  unfold M_mux at h
  refine V_aload_n (pc := 0) C 0 dX5_mux_0 rfl rfl ?_
  refine V_callVv (pc := 1) (As := []) (st := []) C (c_M_laysAside (wp_b h)) mk_X5_laysAside wd_624 dX5_mux_1 0 rfl rfl rfl ⟨Nat.le_of_ble_eq_true rfl, Nat.le_of_ble_eq_true rfl⟩ (Nat.le_of_ble_eq_true rfl) rfl (fun m_aside_3 hw => ?_)
  have h := hw
  try dsimp only at h
  try dsimp only
  refine V_aload_n (pc := 4) C 0 dX5_mux_4 rfl rfl ?_
  refine V_aload_n (pc := 5) C 0 dX5_mux_5 rfl rfl ?_
  refine V_iload_n (pc := 6) C 1 dX5_mux_6 rfl rfl ?_
  refine V_iload_n (pc := 7) C 2 dX5_mux_7 rfl rfl ?_
  refine V_iload_n (pc := 8) C 3 dX5_mux_8 rfl rfl ?_
  refine V_callVi (pc := 9) (As := [.int a0, .int a1, .int a2]) (st := [.ref (q_m 0)]) C (c_M_addsMux (wp_b h)) mk_X5_addsMux wd_675 dX5_mux_9 0 rfl rfl rfl ⟨Nat.le_of_ble_eq_true rfl, Nat.le_of_ble_eq_true rfl⟩ (Nat.le_of_ble_eq_true rfl) rfl (fun r5 m_now_6 hw => ?_)
  have h := hw
  try dsimp only at h
  try dsimp only
  refine V_callVi (pc := 12) (As := [.int r5]) (st := []) C (c_M_answers (wp_b h)) mk_X5_answers wd_633 dX5_mux_12 0 rfl rfl rfl ⟨Nat.le_of_ble_eq_true rfl, Nat.le_of_ble_eq_true rfl⟩ (Nat.le_of_ble_eq_true rfl) rfl (fun r8 u hw => ?_)
  obtain ⟨m_past_9, m_states_10, m_refused_11⟩ := u
  have h := hw
  try dsimp only at h
  try dsimp only
  exact V_iret (pc := 15) C hQ (m_now_6, m_aside_3, m_past_9, m_states_10, m_refused_11) dX5_mux_15 (vp_nar_int _) rfl (wp_s h)
set_option maxRecDepth 100000 in
set_option maxHeartbeats 4000000 in
theorem c_M_out {l : Launch} {D : va_G} {cI cC : ClassId} {q_m : Nat → Nat} {m_now : Nat → Int32} {m_aside : Nat → Int32} {m_past : Nat → Int32} {m_states : Int32} {m_refused : Nat → Int32} {m_text : Nat → Int32} {m_length : Int32} {m_tables : Nat → Int32} {m_all : Int32} {m_rowsBehind : Nat → Int32} {m_rowsMany : Int32} {m_forms : Nat → Int32} {m_lesser : Nat → Int32} {m_greater : Nat → Int32} {m_why : Nat → Int32} {m_checks : Int32} {m_numbers : Nat → Int32} {m_depths : Nat → Int32} {m_spot : Int32} {m_isFaulty : Int32} {m_orders : Int32} {m_letters : Nat → Int32} {m_parts : Nat → Int32} {m_hash : Int64} {a0 : Int32} {a1 : Int32} {post : Int32 × (Nat → Int32) × (Nat → Int32) × (Nat → Int32) × Int32 × (Nat → Int32) → Prop} (h : wpO (M_out m_now m_aside m_past m_states m_refused a0 a1) post) : Cn l yX5_out cX5_out 3 (some .int) 3 66 D cI cC [.ref (q_m 0), .int a0, .int a1] (wM cI q_m m_now m_aside m_past m_states m_refused m_text m_length m_tables m_all m_rowsBehind m_rowsMany m_forms m_lesser m_greater m_why m_checks m_numbers m_depths m_spot m_isFaulty m_orders m_letters m_parts m_hash) (QI D cI cC (S := (Nat → Int32) × (Nat → Int32) × (Nat → Int32) × Int32 × (Nat → Int32)) (fun u => (wM cI q_m u.1 u.2.1 u.2.2.1 u.2.2.2.1 u.2.2.2.2 m_text m_length m_tables m_all m_rowsBehind m_rowsMany m_forms m_lesser m_greater m_why m_checks m_numbers m_depths m_spot m_isFaulty m_orders m_letters m_parts m_hash)) (fun r u => post (r, u))) := by
  refine Cn.ofV (own := RX5) (lv0 := [(0, .ref (q_m 0)), (1, .int a0), (2, .int a1)]) rfl (by decide) (Nat.le_of_ble_eq_true rfl) rfl ?_
  intro p e s m below meth c A args Q hQ C
  unfold M_out at h
  refine V_aload_n (pc := 0) C 0 dX5_out_0 rfl rfl ?_
  refine V_callVv (pc := 1) (As := []) (st := []) C (c_M_laysAside (wp_b h)) mk_X5_laysAside wd_624 dX5_out_1 0 rfl rfl rfl ⟨Nat.le_of_ble_eq_true rfl, Nat.le_of_ble_eq_true rfl⟩ (Nat.le_of_ble_eq_true rfl) rfl (fun m_aside_3 hw => ?_)
  have h := hw
  try dsimp only at h
  try dsimp only
  refine V_aload_n (pc := 4) C 0 dX5_out_4 rfl rfl ?_
  refine V_aload_n (pc := 5) C 0 dX5_out_5 rfl rfl ?_
  refine V_iload_n (pc := 6) C 1 dX5_out_6 rfl rfl ?_
  refine V_iload_n (pc := 7) C 2 dX5_out_7 rfl rfl ?_
  refine V_callVi (pc := 8) (As := [.int a0, .int a1]) (st := [.ref (q_m 0)]) C (c_M_addsOut (wp_b h)) mk_X5_addsOut wd_682 dX5_out_8 0 rfl rfl rfl ⟨Nat.le_of_ble_eq_true rfl, Nat.le_of_ble_eq_true rfl⟩ (Nat.le_of_ble_eq_true rfl) rfl (fun r5 m_now_6 hw => ?_)
  have h := hw
  try dsimp only at h
  try dsimp only
  refine V_callVi (pc := 11) (As := [.int r5]) (st := []) C (c_M_answers (wp_b h)) mk_X5_answers wd_633 dX5_out_11 0 rfl rfl rfl ⟨Nat.le_of_ble_eq_true rfl, Nat.le_of_ble_eq_true rfl⟩ (Nat.le_of_ble_eq_true rfl) rfl (fun r8 u hw => ?_)
  obtain ⟨m_past_9, m_states_10, m_refused_11⟩ := u
  have h := hw
  try dsimp only at h
  try dsimp only
  exact V_iret (pc := 14) C hQ (m_now_6, m_aside_3, m_past_9, m_states_10, m_refused_11) dX5_out_14 (vp_nar_int _) rfl (wp_s h)
set_option maxRecDepth 100000 in
set_option maxHeartbeats 4000000 in
theorem c_M_pattern {l : Launch} {D : va_G} {cI cC : ClassId} {q_m : Nat → Nat} {m_now : Nat → Int32} {m_aside : Nat → Int32} {m_past : Nat → Int32} {m_states : Int32} {m_refused : Nat → Int32} {m_text : Nat → Int32} {m_length : Int32} {m_tables : Nat → Int32} {m_all : Int32} {m_rowsBehind : Nat → Int32} {m_rowsMany : Int32} {m_forms : Nat → Int32} {m_lesser : Nat → Int32} {m_greater : Nat → Int32} {m_why : Nat → Int32} {m_checks : Int32} {m_numbers : Nat → Int32} {m_depths : Nat → Int32} {m_spot : Int32} {m_isFaulty : Int32} {m_orders : Int32} {m_letters : Nat → Int32} {m_parts : Nat → Int32} {m_hash : Int64} {a0 : Int32} {post : Int32 × (Nat → Int32) × (Nat → Int32) × (Nat → Int32) × Int32 × (Nat → Int32) → Prop} (h : wpO (M_pattern m_now m_aside m_past m_states m_refused a0) post) : Cn l yX5_pattern cX5_pattern 2 (some .int) 2 43 D cI cC [.ref (q_m 0), .int a0] (wM cI q_m m_now m_aside m_past m_states m_refused m_text m_length m_tables m_all m_rowsBehind m_rowsMany m_forms m_lesser m_greater m_why m_checks m_numbers m_depths m_spot m_isFaulty m_orders m_letters m_parts m_hash) (QI D cI cC (S := (Nat → Int32) × (Nat → Int32) × (Nat → Int32) × Int32 × (Nat → Int32)) (fun u => (wM cI q_m u.1 u.2.1 u.2.2.1 u.2.2.2.1 u.2.2.2.2 m_text m_length m_tables m_all m_rowsBehind m_rowsMany m_forms m_lesser m_greater m_why m_checks m_numbers m_depths m_spot m_isFaulty m_orders m_letters m_parts m_hash)) (fun r u => post (r, u))) := by
  refine Cn.ofV (own := RX5) (lv0 := [(0, .ref (q_m 0)), (1, .int a0)]) rfl (by decide) (Nat.le_of_ble_eq_true rfl) rfl ?_
  intro p e s m below meth c A args Q hQ C
  unfold M_pattern at h
  refine V_aload_n (pc := 0) C 0 dX5_pattern_0 rfl rfl ?_
  refine V_callVv (pc := 1) (As := []) (st := []) C (c_M_laysAside (wp_b h)) mk_X5_laysAside wd_624 dX5_pattern_1 0 rfl rfl rfl ⟨Nat.le_of_ble_eq_true rfl, Nat.le_of_ble_eq_true rfl⟩ (Nat.le_of_ble_eq_true rfl) rfl (fun m_aside_3 hw => ?_)
  have h := hw
  try dsimp only at h
  try dsimp only
  refine V_aload_n (pc := 4) C 0 dX5_pattern_4 rfl rfl ?_
  refine V_aload_n (pc := 5) C 0 dX5_pattern_5 rfl rfl ?_
  refine V_iload_n (pc := 6) C 1 dX5_pattern_6 rfl rfl ?_
  refine V_callVi (pc := 7) (As := [.int a0]) (st := [.ref (q_m 0)]) C (c_M_addsPattern (wp_b h)) mk_X5_addsPattern wd_692 dX5_pattern_7 0 rfl rfl rfl ⟨Nat.le_of_ble_eq_true rfl, Nat.le_of_ble_eq_true rfl⟩ (Nat.le_of_ble_eq_true rfl) rfl (fun r5 m_now_6 hw => ?_)
  have h := hw
  try dsimp only at h
  try dsimp only
  refine V_callVi (pc := 10) (As := [.int r5]) (st := []) C (c_M_answers (wp_b h)) mk_X5_answers wd_633 dX5_pattern_10 0 rfl rfl rfl ⟨Nat.le_of_ble_eq_true rfl, Nat.le_of_ble_eq_true rfl⟩ (Nat.le_of_ble_eq_true rfl) rfl (fun r8 u hw => ?_)
  obtain ⟨m_past_9, m_states_10, m_refused_11⟩ := u
  have h := hw
  try dsimp only at h
  try dsimp only
  exact V_iret (pc := 13) C hQ (m_now_6, m_aside_3, m_past_9, m_states_10, m_refused_11) dX5_pattern_13 (vp_nar_int _) rfl (wp_s h)
set_option maxRecDepth 100000 in
set_option maxHeartbeats 4000000 in
theorem c_M_tableOf {l : Launch} {D : va_G} {cI cC : ClassId} {q_m : Nat → Nat} {m_now : Nat → Int32} {m_aside : Nat → Int32} {m_past : Nat → Int32} {m_states : Int32} {m_refused : Nat → Int32} {m_text : Nat → Int32} {m_length : Int32} {m_tables : Nat → Int32} {m_all : Int32} {m_rowsBehind : Nat → Int32} {m_rowsMany : Int32} {m_forms : Nat → Int32} {m_lesser : Nat → Int32} {m_greater : Nat → Int32} {m_why : Nat → Int32} {m_checks : Int32} {m_numbers : Nat → Int32} {m_depths : Nat → Int32} {m_spot : Int32} {m_isFaulty : Int32} {m_orders : Int32} {m_letters : Nat → Int32} {m_parts : Nat → Int32} {m_hash : Int64} {a0 : Int32} {post : Int32 → Prop} (h : wpO (M_tableOf m_tables m_all a0) post) : Cn l yX5_tableOf cX5_tableOf 2 (some .int) 0 0 D cI cC [.ref (q_m 0), .int a0] (wM cI q_m m_now m_aside m_past m_states m_refused m_text m_length m_tables m_all m_rowsBehind m_rowsMany m_forms m_lesser m_greater m_why m_checks m_numbers m_depths m_spot m_isFaulty m_orders m_letters m_parts m_hash) (QI D cI cC (S := Unit) (fun u => (wM cI q_m m_now m_aside m_past m_states m_refused m_text m_length m_tables m_all m_rowsBehind m_rowsMany m_forms m_lesser m_greater m_why m_checks m_numbers m_depths m_spot m_isFaulty m_orders m_letters m_parts m_hash)) (fun r u => post r)) := by
  refine Cn.ofV (own := RX5) (lv0 := [(0, .ref (q_m 0)), (1, .int a0)]) rfl (by decide) (Nat.le_of_ble_eq_true rfl) rfl ?_
  intro p e s m below meth c A args Q hQ C
  unfold M_tableOf at h
  refine V_iload_n (pc := 0) C 1 dX5_tableOf_0 rfl rfl ?_
  refine V_iconst (pc := 1) C dX5_tableOf_1 ki_2 ?_
  refine V_irem (pc := 2) C dX5_tableOf_2 (by decide) ?_
  refine V_if_ne (pc := 3) (tgt := 17) C dX5_tableOf_3 (by decide) (fun c1 => ?_) (fun c1 => ?_)
  · replace h := wp_f h c1
    refine V_aload_n (pc := 17) C 0 dX5_tableOf_17 rfl rfl ?_
    refine V_get (pc := 18) C 0 8 inX5 wd_597 dX5_tableOf_18 rfl rfl (by decide) rfl rfl ?_
    refine V_aload_n (pc := 21) C 0 dX5_tableOf_21 rfl rfl ?_
    refine V_get (pc := 22) C 0 7 inX5 wd_596 dX5_tableOf_22 rfl rfl (by decide) rfl rfl ?_
    refine V_iload_n (pc := 25) C 1 dX5_tableOf_25 rfl rfl ?_
    refine V_iconst (pc := 26) C dX5_tableOf_26 ki_2 ?_
    refine V_idiv (pc := 27) C dX5_tableOf_27 (by decide) ?_
    obtain ⟨b2, h⟩ := wp_c h
    refine V_iald (pc := 28) C 6 dX5_tableOf_28 rfl b2 ?_
    refine V_iconst (pc := 29) C dX5_tableOf_29 ki_m1 ?_
    refine V_ixor (pc := 30) C dX5_tableOf_30 ?_
    refine V_iand (pc := 31) C dX5_tableOf_31 ?_
    exact V_iret (pc := 32) C hQ () dX5_tableOf_32 (vp_nar_int _) rfl (wp_s h)
  · replace h := wp_t h c1
    refine V_aload_n (pc := 6) C 0 dX5_tableOf_6 rfl rfl ?_
    refine V_get (pc := 7) C 0 7 inX5 wd_596 dX5_tableOf_7 rfl rfl (by decide) rfl rfl ?_
    refine V_iload_n (pc := 10) C 1 dX5_tableOf_10 rfl rfl ?_
    refine V_iconst (pc := 11) C dX5_tableOf_11 ki_2 ?_
    refine V_idiv (pc := 12) C dX5_tableOf_12 (by decide) ?_
    obtain ⟨b3, h⟩ := wp_c h
    refine V_iald (pc := 13) C 6 dX5_tableOf_13 rfl b3 ?_
    refine V_goto (pc := 14) (tgt := 32) C dX5_tableOf_14 (by decide) ?_
    exact V_iret (pc := 32) C hQ () dX5_tableOf_32 (vp_nar_int _) rfl (wp_s h)
set_option maxRecDepth 100000 in
set_option maxHeartbeats 4000000 in
theorem c_M_laysTables {l : Launch} {D : va_G} {cI cC : ClassId} {q_m : Nat → Nat} {m_now : Nat → Int32} {m_aside : Nat → Int32} {m_past : Nat → Int32} {m_states : Int32} {m_refused : Nat → Int32} {m_text : Nat → Int32} {m_length : Int32} {m_tables : Nat → Int32} {m_all : Int32} {m_rowsBehind : Nat → Int32} {m_rowsMany : Int32} {m_forms : Nat → Int32} {m_lesser : Nat → Int32} {m_greater : Nat → Int32} {m_why : Nat → Int32} {m_checks : Int32} {m_numbers : Nat → Int32} {m_depths : Nat → Int32} {m_spot : Int32} {m_isFaulty : Int32} {m_orders : Int32} {m_letters : Nat → Int32} {m_parts : Nat → Int32} {m_hash : Int64} {post : (Nat → Int32) × Int32 → Prop} (h : wpO (M_laysTables m_now m_tables m_all) post) : Cn l yX5_laysTables cX5_laysTables 3 none 1 21 D cI cC [.ref (q_m 0)] (wM cI q_m m_now m_aside m_past m_states m_refused m_text m_length m_tables m_all m_rowsBehind m_rowsMany m_forms m_lesser m_greater m_why m_checks m_numbers m_depths m_spot m_isFaulty m_orders m_letters m_parts m_hash) (QV D cI cC (S := (Nat → Int32) × Int32) (fun u => (wM cI q_m m_now m_aside m_past m_states m_refused m_text m_length u.1 u.2 m_rowsBehind m_rowsMany m_forms m_lesser m_greater m_why m_checks m_numbers m_depths m_spot m_isFaulty m_orders m_letters m_parts m_hash)) (fun u => post u)) := by
  refine Cn.ofV (own := RX5) (lv0 := [(0, .ref (q_m 0))]) rfl (by decide) (Nat.le_of_ble_eq_true rfl) rfl ?_
  intro p e s m below meth c A args Q hQ C
  have hL_7 : ∀ (K : Int32 → Option ((Nat → Int32) × Int32)) (m_tables : Nat → Int32), (∀ (m_all : Int32), wpO (K m_all) post → V p l e (rmC 1 21) s m args below meth c D A 3 0 0 Q (wM cI q_m m_now m_aside m_past m_states m_refused m_text m_length m_tables m_all m_rowsBehind m_rowsMany m_forms m_lesser m_greater m_why m_checks m_numbers m_depths m_spot m_isFaulty m_orders m_letters m_parts m_hash) [(0, .ref (q_m 0))] 33 []) → ∀ (n : Nat) (l1 : Int32) (m_all : Int32), wpO (M_laysTables_7 K m_now n l1 m_all) post → V p l e (rmC 1 21) s m args below meth c D A 3 0 0 Q (wM cI q_m m_now m_aside m_past m_states m_refused m_text m_length m_tables m_all m_rowsBehind m_rowsMany m_forms m_lesser m_greater m_why m_checks m_numbers m_depths m_spot m_isFaulty m_orders m_letters m_parts m_hash) [(0, .ref (q_m 0)), (1, .int l1)] 7 [] := by
    intro K m_tables  hK n
    induction n with
    | zero => intro l1 m_all h; rw [M_laysTables_7] at h; exact (wp_n h).elim
    | succ n ih =>
      intro l1 m_all h
      rw [M_laysTables_7] at h
      refine V_iload_n (pc := 7) C 1 dX5_laysTables_7 rfl rfl ?_
      refine V_aload_n (pc := 8) C 0 dX5_laysTables_8 rfl rfl ?_
      refine V_callVi (pc := 9) (As := []) (st := [.int l1]) C (c_M_rows (wp_b h)) mk_X5_rows wd_695 dX5_laysTables_9 0 rfl rfl rfl ⟨Nat.le_of_ble_eq_true rfl, Nat.le_of_ble_eq_true rfl⟩ (Nat.le_of_ble_eq_true rfl) rfl (fun r2 u hw => ?_)
      have h := hw
      try dsimp only at h
      try dsimp only
      refine V_icmp_ge (pc := 12) (tgt := 33) C dX5_laysTables_12 (by decide) (fun c3 => ?_) (fun c3 => ?_)
      · replace h := wp_t h c3
        refine V_lv (pc := 33) [0] rfl ?_
        exact hK _ h
      · replace h := wp_f h c3
        refine V_aload_n (pc := 15) C 0 dX5_laysTables_15 rfl rfl ?_
        refine V_dup (pc := 16) C dX5_laysTables_16 rfl ?_
        refine V_get (pc := 17) C 0 8 inX5 wd_597 dX5_laysTables_17 rfl rfl (by decide) rfl rfl ?_
        refine V_iconst (pc := 20) C dX5_laysTables_20 ki_1 ?_
        refine V_iload_n (pc := 21) C 1 dX5_laysTables_21 rfl rfl ?_
        refine V_ishl (pc := 22) C dX5_laysTables_22 ?_
        refine V_ior (pc := 23) C dX5_laysTables_23 ?_
        obtain ⟨m_all_4, em_all_4, h⟩ := wp_l h
        refine V_topi (pc := 24) em_all_4 ?_
        refine V_put (pc := 24) (ws' := (wM cI q_m m_now m_aside m_past m_states m_refused m_text m_length m_tables m_all_4 m_rowsBehind m_rowsMany m_forms m_lesser m_greater m_why m_checks m_numbers m_depths m_spot m_isFaulty m_orders m_letters m_parts m_hash)) C 0 8 inX5 tyX5_ok nmX5 wd_597 dX5_laysTables_24 rfl rfl (by decide) rfl rfl rfl rfl rfl (Nat.le_of_ble_eq_true rfl) rfl ?_
        obtain ⟨v5, ev5, h⟩ := wp_l h
        refine V_iinc (pc := 27) (v := v5) (lv' := [(0, .ref (q_m 0)), (1, .int v5)]) (j := 1) C dX5_laysTables_27 rfl (by rw [ev5]; rfl) [1, 0] (by decide) rfl ?_
        refine V_goto (pc := 30) (tgt := 7) C dX5_laysTables_30 (by decide) ?_
        exact ih _ _ h
  have hL_54 : ∀ (K : (Nat → Int32) → Option ((Nat → Int32) × Int32)) (m_all : Int32) (l1 : Int32), (∀ (m_tables : Nat → Int32), wpO (K m_tables) post → V p l e (rmC 1 21) s m args below meth c D A 3 0 0 Q (wM cI q_m m_now m_aside m_past m_states m_refused m_text m_length m_tables m_all m_rowsBehind m_rowsMany m_forms m_lesser m_greater m_why m_checks m_numbers m_depths m_spot m_isFaulty m_orders m_letters m_parts m_hash) [(0, .ref (q_m 0)), (1, .int l1)] 109 []) → ∀ (n : Nat) (l2 : Int32) (m_tables : Nat → Int32), wpO (M_laysTables_54 K m_now l1 n l2 m_tables) post → V p l e (rmC 1 21) s m args below meth c D A 3 0 0 Q (wM cI q_m m_now m_aside m_past m_states m_refused m_text m_length m_tables m_all m_rowsBehind m_rowsMany m_forms m_lesser m_greater m_why m_checks m_numbers m_depths m_spot m_isFaulty m_orders m_letters m_parts m_hash) [(0, .ref (q_m 0)), (1, .int l1), (2, .int l2)] 54 [] := by
    intro K m_all l1 hK n
    induction n with
    | zero => intro l2 m_tables h; rw [M_laysTables_54] at h; exact (wp_n h).elim
    | succ n ih =>
      intro l2 m_tables h
      rw [M_laysTables_54] at h
      refine V_iload_n (pc := 54) C 2 dX5_laysTables_54 rfl rfl ?_
      refine V_aload_n (pc := 55) C 0 dX5_laysTables_55 rfl rfl ?_
      refine V_callVi (pc := 56) (As := []) (st := [.int l2]) C (c_M_rows (wp_b h)) mk_X5_rows wd_695 dX5_laysTables_56 0 rfl rfl rfl ⟨Nat.le_of_ble_eq_true rfl, Nat.le_of_ble_eq_true rfl⟩ (Nat.le_of_ble_eq_true rfl) rfl (fun r7 u hw => ?_)
      have h := hw
      try dsimp only at h
      try dsimp only
      refine V_icmp_ge (pc := 59) (tgt := 109) C dX5_laysTables_59 (by decide) (fun c8 => ?_) (fun c8 => ?_)
      · replace h := wp_t h c8
        refine V_lv (pc := 109) [0, 1] rfl ?_
        exact hK _ h
      · replace h := wp_f h c8
        refine V_iload_n (pc := 62) C 1 dX5_laysTables_62 rfl rfl ?_
        refine V_aload_n (pc := 63) C 0 dX5_laysTables_63 rfl rfl ?_
        refine V_get (pc := 64) C 0 0 inX5 wd_589 dX5_laysTables_64 rfl rfl (by decide) rfl rfl ?_
        refine V_iconst (pc := 67) C dX5_laysTables_67 ki_0 ?_
        obtain ⟨b9, h⟩ := wp_c h
        refine V_iald (pc := 68) C 1 dX5_laysTables_68 rfl b9 ?_
        refine V_icmp_gt (pc := 69) (tgt := 109) C dX5_laysTables_69 (by decide) (fun c10 => ?_) (fun c10 => ?_)
        · replace h := wp_t h c10
          refine V_lv (pc := 109) [0, 1] rfl ?_
          exact hK _ h
        · replace h := wp_f h c10
          refine V_aload_n (pc := 72) C 0 dX5_laysTables_72 rfl rfl ?_
          refine V_get (pc := 73) C 0 7 inX5 wd_596 dX5_laysTables_73 rfl rfl (by decide) rfl rfl ?_
          refine V_iload_n (pc := 76) C 1 dX5_laysTables_76 rfl rfl ?_
          refine V_dup2 (pc := 77) C dX5_laysTables_77 rfl rfl ?_
          obtain ⟨b11, h⟩ := wp_c h
          refine V_iald (pc := 78) C 6 dX5_laysTables_78 rfl b11 ?_
          refine V_iload_n (pc := 79) C 1 dX5_laysTables_79 rfl rfl ?_
          refine V_if_le (pc := 80) (tgt := 100) C dX5_laysTables_80 (by decide) (fun c12 => ?_) (fun c12 => ?_)
          · replace h := wp_t h c12
            refine V_iconst (pc := 100) C dX5_laysTables_100 ki_0 ?_
            refine V_ior (pc := 101) C dX5_laysTables_101 ?_
            obtain ⟨b13, h⟩ := wp_c h
            obtain ⟨m_tables_14, em_tables_14, h⟩ := wp_l h
            refine V_iast (pc := 102) (ws' := (wM cI q_m m_now m_aside m_past m_states m_refused m_text m_length m_tables_14 m_all m_rowsBehind m_rowsMany m_forms m_lesser m_greater m_why m_checks m_numbers m_depths m_spot m_isFaulty m_orders m_letters m_parts m_hash)) C 6 dX5_laysTables_102 rfl b13 em_tables_14 rfl ?_
            obtain ⟨v15, ev15, h⟩ := wp_l h
            refine V_iinc (pc := 103) (v := v15) (lv' := [(0, .ref (q_m 0)), (1, .int l1), (2, .int v15)]) (j := 2) C dX5_laysTables_103 rfl (by rw [ev15]; rfl) [1, 2, 0] (by decide) rfl ?_
            refine V_goto (pc := 106) (tgt := 54) C dX5_laysTables_106 (by decide) ?_
            exact ih _ _ h
          · replace h := wp_f h c12
            refine V_iload_n (pc := 83) C 2 dX5_laysTables_83 rfl rfl ?_
            refine V_iload_n (pc := 84) C 1 dX5_laysTables_84 rfl rfl ?_
            refine V_iconst (pc := 85) C dX5_laysTables_85 ki_1 ?_
            refine V_isub (pc := 86) C dX5_laysTables_86 ?_
            refine V_ishr (pc := 87) C dX5_laysTables_87 ?_
            refine V_iconst (pc := 88) C dX5_laysTables_88 ki_1 ?_
            refine V_iand (pc := 89) C dX5_laysTables_89 ?_
            refine V_iconst (pc := 90) C dX5_laysTables_90 ki_1 ?_
            refine V_icmp_ne (pc := 91) (tgt := 100) C dX5_laysTables_91 (by decide) (fun c16 => ?_) (fun c16 => ?_)
            · replace h := wp_f h c16
              refine V_iconst (pc := 100) C dX5_laysTables_100 ki_0 ?_
              refine V_ior (pc := 101) C dX5_laysTables_101 ?_
              obtain ⟨b17, h⟩ := wp_c h
              obtain ⟨m_tables_18, em_tables_18, h⟩ := wp_l h
              refine V_iast (pc := 102) (ws' := (wM cI q_m m_now m_aside m_past m_states m_refused m_text m_length m_tables_18 m_all m_rowsBehind m_rowsMany m_forms m_lesser m_greater m_why m_checks m_numbers m_depths m_spot m_isFaulty m_orders m_letters m_parts m_hash)) C 6 dX5_laysTables_102 rfl b17 em_tables_18 rfl ?_
              obtain ⟨v19, ev19, h⟩ := wp_l h
              refine V_iinc (pc := 103) (v := v19) (lv' := [(0, .ref (q_m 0)), (1, .int l1), (2, .int v19)]) (j := 2) C dX5_laysTables_103 rfl (by rw [ev19]; rfl) [1, 2, 0] (by decide) rfl ?_
              refine V_goto (pc := 106) (tgt := 54) C dX5_laysTables_106 (by decide) ?_
              exact ih _ _ h
            · replace h := wp_t h c16
              refine V_iconst (pc := 94) C dX5_laysTables_94 ki_1 ?_
              refine V_iload_n (pc := 95) C 2 dX5_laysTables_95 rfl rfl ?_
              refine V_ishl (pc := 96) C dX5_laysTables_96 ?_
              refine V_goto (pc := 97) (tgt := 101) C dX5_laysTables_97 (by decide) ?_
              refine V_ior (pc := 101) C dX5_laysTables_101 ?_
              obtain ⟨b20, h⟩ := wp_c h
              obtain ⟨m_tables_21, em_tables_21, h⟩ := wp_l h
              refine V_iast (pc := 102) (ws' := (wM cI q_m m_now m_aside m_past m_states m_refused m_text m_length m_tables_21 m_all m_rowsBehind m_rowsMany m_forms m_lesser m_greater m_why m_checks m_numbers m_depths m_spot m_isFaulty m_orders m_letters m_parts m_hash)) C 6 dX5_laysTables_102 rfl b20 em_tables_21 rfl ?_
              obtain ⟨v22, ev22, h⟩ := wp_l h
              refine V_iinc (pc := 103) (v := v22) (lv' := [(0, .ref (q_m 0)), (1, .int l1), (2, .int v22)]) (j := 2) C dX5_laysTables_103 rfl (by rw [ev22]; rfl) [1, 2, 0] (by decide) rfl ?_
              refine V_goto (pc := 106) (tgt := 54) C dX5_laysTables_106 (by decide) ?_
              exact ih _ _ h
  have hL_35 : ∀ (K : (Nat → Int32) → Option ((Nat → Int32) × Int32)) (m_all : Int32), (∀ (m_tables : Nat → Int32), wpO (K m_tables) post → V p l e (rmC 1 21) s m args below meth c D A 3 0 0 Q (wM cI q_m m_now m_aside m_past m_states m_refused m_text m_length m_tables m_all m_rowsBehind m_rowsMany m_forms m_lesser m_greater m_why m_checks m_numbers m_depths m_spot m_isFaulty m_orders m_letters m_parts m_hash) [] 157 []) → ∀ (n : Nat) (l1 : Int32) (m_tables : Nat → Int32), wpO (M_laysTables_35 K m_now m_all n l1 m_tables) post → V p l e (rmC 1 21) s m args below meth c D A 3 0 0 Q (wM cI q_m m_now m_aside m_past m_states m_refused m_text m_length m_tables m_all m_rowsBehind m_rowsMany m_forms m_lesser m_greater m_why m_checks m_numbers m_depths m_spot m_isFaulty m_orders m_letters m_parts m_hash) [(0, .ref (q_m 0)), (1, .int l1)] 35 [] := by
    intro K m_all  hK n
    induction n with
    | zero => intro l1 m_tables h; rw [M_laysTables_35] at h; exact (wp_n h).elim
    | succ n ih =>
      intro l1 m_tables h
      rw [M_laysTables_35] at h
      refine V_iload_n (pc := 35) C 1 dX5_laysTables_35 rfl rfl ?_
      refine V_aload_n (pc := 36) C 0 dX5_laysTables_36 rfl rfl ?_
      refine V_get (pc := 37) C 0 0 inX5 wd_589 dX5_laysTables_37 rfl rfl (by decide) rfl rfl ?_
      refine V_iconst (pc := 40) C dX5_laysTables_40 ki_1 ?_
      obtain ⟨b23, h⟩ := wp_c h
      refine V_iald (pc := 41) C 1 dX5_laysTables_41 rfl b23 ?_
      refine V_icmp_ge (pc := 42) (tgt := 157) C dX5_laysTables_42 (by decide) (fun c24 => ?_) (fun c24 => ?_)
      · replace h := wp_t h c24
        refine V_lv (pc := 157) [] rfl ?_
        exact hK _ h
      · replace h := wp_f h c24
        refine V_aload_n (pc := 45) C 0 dX5_laysTables_45 rfl rfl ?_
        refine V_get (pc := 46) C 0 7 inX5 wd_596 dX5_laysTables_46 rfl rfl (by decide) rfl rfl ?_
        refine V_iload_n (pc := 49) C 1 dX5_laysTables_49 rfl rfl ?_
        refine V_iconst (pc := 50) C dX5_laysTables_50 ki_0 ?_
        obtain ⟨b25, h⟩ := wp_c h
        obtain ⟨m_tables_26, em_tables_26, h⟩ := wp_l h
        refine V_iast (pc := 51) (ws' := (wM cI q_m m_now m_aside m_past m_states m_refused m_text m_length m_tables_26 m_all m_rowsBehind m_rowsMany m_forms m_lesser m_greater m_why m_checks m_numbers m_depths m_spot m_isFaulty m_orders m_letters m_parts m_hash)) C 6 dX5_laysTables_51 rfl b25 em_tables_26 rfl ?_
        refine V_iconst (pc := 52) C dX5_laysTables_52 ki_0 ?_
        refine V_istore_n (pc := 53) (lv' := [(0, .ref (q_m 0)), (1, .int l1), (2, .int 0)]) C dX5_laysTables_53 rfl [1, 2, 0] (by decide) rfl ?_
        refine hL_54 _ _ _ (fun m_tables_27 h => ?_) 1000 _ _ h
        try dsimp only at h
        refine V_iload_n (pc := 109) C 1 dX5_laysTables_109 rfl rfl ?_
        refine V_aload_n (pc := 110) C 0 dX5_laysTables_110 rfl rfl ?_
        refine V_get (pc := 111) C 0 0 inX5 wd_589 dX5_laysTables_111 rfl rfl (by decide) rfl rfl ?_
        refine V_iconst (pc := 114) C dX5_laysTables_114 ki_0 ?_
        obtain ⟨b28, h⟩ := wp_c h
        refine V_iald (pc := 115) C 1 dX5_laysTables_115 rfl b28 ?_
        refine V_icmp_le (pc := 116) (tgt := 151) C dX5_laysTables_116 (by decide) (fun c29 => ?_) (fun c29 => ?_)
        · replace h := wp_t h c29
          obtain ⟨v30, ev30, h⟩ := wp_l h
          refine V_iinc (pc := 151) (v := v30) (lv' := [(0, .ref (q_m 0)), (1, .int v30)]) (j := 1) C dX5_laysTables_151 rfl (by rw [ev30]; rfl) [1, 0] (by decide) rfl ?_
          refine V_goto (pc := 154) (tgt := 35) C dX5_laysTables_154 (by decide) ?_
          exact ih _ _ h
        · replace h := wp_f h c29
          refine V_aload_n (pc := 119) C 0 dX5_laysTables_119 rfl rfl ?_
          refine V_get (pc := 120) C 0 7 inX5 wd_596 dX5_laysTables_120 rfl rfl (by decide) rfl rfl ?_
          refine V_iload_n (pc := 123) C 1 dX5_laysTables_123 rfl rfl ?_
          refine V_aload_n (pc := 124) C 0 dX5_laysTables_124 rfl rfl ?_
          refine V_aload_n (pc := 125) C 0 dX5_laysTables_125 rfl rfl ?_
          refine V_get (pc := 126) C 0 0 inX5 wd_589 dX5_laysTables_126 rfl rfl (by decide) rfl rfl ?_
          refine V_iconst (pc := 129) C dX5_laysTables_129 ki_2 ?_
          refine V_iload_n (pc := 130) C 1 dX5_laysTables_130 rfl rfl ?_
          refine V_iadd (pc := 131) C dX5_laysTables_131 ?_
          obtain ⟨b31, h⟩ := wp_c h
          refine V_iald (pc := 132) C 1 dX5_laysTables_132 rfl b31 ?_
          refine V_callVi (pc := 133) (As := [.int (m_now (Int32.toNatClampNeg ((2 : Int32) + l1)))]) (st := [.int l1, .ref (q_m 6)]) C (c_M_tableOf (wp_b h)) mk_X5_tableOf wd_711 dX5_laysTables_133 0 rfl rfl rfl ⟨Nat.le_of_ble_eq_true rfl, Nat.le_of_ble_eq_true rfl⟩ (Nat.le_of_ble_eq_true rfl) rfl (fun r33 u hw => ?_)
          have h := hw
          try dsimp only at h
          try dsimp only
          refine V_aload_n (pc := 136) C 0 dX5_laysTables_136 rfl rfl ?_
          refine V_aload_n (pc := 137) C 0 dX5_laysTables_137 rfl rfl ?_
          refine V_get (pc := 138) C 0 0 inX5 wd_589 dX5_laysTables_138 rfl rfl (by decide) rfl rfl ?_
          refine V_bipush (pc := 141) C dX5_laysTables_141 kb_50 ?_
          refine V_iload_n (pc := 143) C 1 dX5_laysTables_143 rfl rfl ?_
          refine V_iadd (pc := 144) C dX5_laysTables_144 ?_
          obtain ⟨b34, h⟩ := wp_c h
          refine V_iald (pc := 145) C 1 dX5_laysTables_145 rfl b34 ?_
          refine V_callVi (pc := 146) (As := [.int (m_now (Int32.toNatClampNeg ((50 : Int32) + l1)))]) (st := [.int r33, .int l1, .ref (q_m 6)]) C (c_M_tableOf (wp_b h)) mk_X5_tableOf wd_711 dX5_laysTables_146 0 rfl rfl rfl ⟨Nat.le_of_ble_eq_true rfl, Nat.le_of_ble_eq_true rfl⟩ (Nat.le_of_ble_eq_true rfl) rfl (fun r36 u hw => ?_)
          have h := hw
          try dsimp only at h
          try dsimp only
          refine V_iand (pc := 149) C dX5_laysTables_149 ?_
          obtain ⟨b37, h⟩ := wp_c h
          obtain ⟨m_tables_38, em_tables_38, h⟩ := wp_l h
          refine V_iast (pc := 150) (ws' := (wM cI q_m m_now m_aside m_past m_states m_refused m_text m_length m_tables_38 m_all m_rowsBehind m_rowsMany m_forms m_lesser m_greater m_why m_checks m_numbers m_depths m_spot m_isFaulty m_orders m_letters m_parts m_hash)) C 6 dX5_laysTables_150 rfl b37 em_tables_38 rfl ?_
          obtain ⟨v39, ev39, h⟩ := wp_l h
          refine V_iinc (pc := 151) (v := v39) (lv' := [(0, .ref (q_m 0)), (1, .int v39)]) (j := 1) C dX5_laysTables_151 rfl (by rw [ev39]; rfl) [1, 0] (by decide) rfl ?_
          refine V_goto (pc := 154) (tgt := 35) C dX5_laysTables_154 (by decide) ?_
          exact ih _ _ h
  unfold M_laysTables at h
  refine V_aload_n (pc := 0) C 0 dX5_laysTables_0 rfl rfl ?_
  refine V_iconst (pc := 1) C dX5_laysTables_1 ki_0 ?_
  refine V_put (pc := 2) (ws' := (wM cI q_m m_now m_aside m_past m_states m_refused m_text m_length m_tables 0 m_rowsBehind m_rowsMany m_forms m_lesser m_greater m_why m_checks m_numbers m_depths m_spot m_isFaulty m_orders m_letters m_parts m_hash)) C 0 8 inX5 tyX5_ok nmX5 wd_597 dX5_laysTables_2 rfl rfl (by decide) rfl rfl rfl rfl rfl (Nat.le_of_ble_eq_true rfl) rfl ?_
  refine V_iconst (pc := 5) C dX5_laysTables_5 ki_0 ?_
  refine V_istore_n (pc := 6) (lv' := [(0, .ref (q_m 0)), (1, .int 0)]) C dX5_laysTables_6 rfl [1, 0] (by decide) rfl ?_
  refine hL_7 _ _ (fun m_all_40 h => ?_) 1000 _ _ h
  try dsimp only at h
  refine V_iconst (pc := 33) C dX5_laysTables_33 ki_0 ?_
  refine V_istore_n (pc := 34) (lv' := [(0, .ref (q_m 0)), (1, .int 0)]) C dX5_laysTables_34 rfl [1, 0] (by decide) rfl ?_
  refine hL_35 _ _ (fun m_tables_41 h => ?_) 1000 _ _ h
  try dsimp only at h
  exact V_vret (pc := 157) C hQ (m_tables_41, m_all_40) dX5_laysTables_157 rfl (wp_s h)
set_option maxRecDepth 100000 in
set_option maxHeartbeats 4000000 in
theorem c_M_tellTable {l : Launch} {D : va_G} {cI cC : ClassId} {q_m : Nat → Nat} {m_now : Nat → Int32} {m_aside : Nat → Int32} {m_past : Nat → Int32} {m_states : Int32} {m_refused : Nat → Int32} {m_text : Nat → Int32} {m_length : Int32} {m_tables : Nat → Int32} {m_all : Int32} {m_rowsBehind : Nat → Int32} {m_rowsMany : Int32} {m_forms : Nat → Int32} {m_lesser : Nat → Int32} {m_greater : Nat → Int32} {m_why : Nat → Int32} {m_checks : Int32} {m_numbers : Nat → Int32} {m_depths : Nat → Int32} {m_spot : Int32} {m_isFaulty : Int32} {m_orders : Int32} {m_letters : Nat → Int32} {m_parts : Nat → Int32} {m_hash : Int64} {a0 : Int32} {post : Int32 × (Nat → Int32) × Int32 → Prop} (h : wpO (M_tellTable m_now m_tables m_all a0) post) : Cn l yX5_tellTable cX5_tellTable 2 (some .int) 2 43 D cI cC [.ref (q_m 0), .int a0] (wM cI q_m m_now m_aside m_past m_states m_refused m_text m_length m_tables m_all m_rowsBehind m_rowsMany m_forms m_lesser m_greater m_why m_checks m_numbers m_depths m_spot m_isFaulty m_orders m_letters m_parts m_hash) (QI D cI cC (S := (Nat → Int32) × Int32) (fun u => (wM cI q_m m_now m_aside m_past m_states m_refused m_text m_length u.1 u.2 m_rowsBehind m_rowsMany m_forms m_lesser m_greater m_why m_checks m_numbers m_depths m_spot m_isFaulty m_orders m_letters m_parts m_hash)) (fun r u => post (r, u))) := by
  refine Cn.ofV (own := RX5) (lv0 := [(0, .ref (q_m 0)), (1, .int a0)]) rfl (by decide) (Nat.le_of_ble_eq_true rfl) rfl ?_
  intro p e s m below meth c A args Q hQ C
  unfold M_tellTable at h
  refine V_aload_n (pc := 0) C 0 dX5_tellTable_0 rfl rfl ?_
  refine V_callVv (pc := 1) (As := []) (st := []) C (c_M_laysTables (wp_b h)) mk_X5_laysTables wd_708 dX5_tellTable_1 0 rfl rfl rfl ⟨Nat.le_of_ble_eq_true rfl, Nat.le_of_ble_eq_true rfl⟩ (Nat.le_of_ble_eq_true rfl) rfl (fun u hw => ?_)
  obtain ⟨m_tables_3, m_all_4⟩ := u
  have h := hw
  try dsimp only at h
  try dsimp only
  refine V_aload_n (pc := 4) C 0 dX5_tellTable_4 rfl rfl ?_
  refine V_iload_n (pc := 5) C 1 dX5_tellTable_5 rfl rfl ?_
  refine V_callVi (pc := 6) (As := [.int a0]) (st := []) C (c_M_tableOf (wp_b h)) mk_X5_tableOf wd_711 dX5_tellTable_6 0 rfl rfl rfl ⟨Nat.le_of_ble_eq_true rfl, Nat.le_of_ble_eq_true rfl⟩ (Nat.le_of_ble_eq_true rfl) rfl (fun r6 u hw => ?_)
  have h := hw
  try dsimp only at h
  try dsimp only
  exact V_iret (pc := 9) C hQ (m_tables_3, m_all_4) dX5_tellTable_9 (vp_nar_int _) rfl (wp_s h)
set_option maxRecDepth 100000 in
set_option maxHeartbeats 4000000 in
theorem c_M_bitsOf {l : Launch} {D : va_G} {cI cC : ClassId} {q_z n_z : Nat} {z_row : Nat → Int32} {a0 : Int32} {a1 : Int32} {a2 : Int32} {post : Int32 → Prop} (h : wpO (M_bitsOf n_z z_row a0 a1 a2) post) : Cn l yX5_bitsOf cX5_bitsOf 6 (some .int) 0 0 D cI cC [.int a0, .int a1, .int a2, .ref q_z] (wZ cI q_z n_z z_row) (QI D cI cC (S := Unit) (fun u => (wZ cI q_z n_z z_row)) (fun r u => post r)) := by
  refine Cn.ofV (own := RX5) (lv0 := [(0, .int a0), (1, .int a1), (2, .int a2), (3, .ref q_z)]) rfl (by decide) (Nat.le_of_ble_eq_true rfl) rfl ?_
  intro p e s m below meth c A args Q hQ C
  have hL_6 : ∀ (K : Int32 → Option (Int32)) (l0 : Int32) (l1 : Int32) (l2 : Int32), (∀ (l4 : Int32), wpO (K l4) post → V p l e (rmC 0 0) s m args below meth c D A 6 0 0 Q (wZ cI q_z n_z z_row) [(4, .int l4)] 36 []) → ∀ (n : Nat) (l4 : Int32) (l5 : Int32), wpO (M_bitsOf_6 K n_z z_row l0 l1 l2 n l4 l5) post → V p l e (rmC 0 0) s m args below meth c D A 6 0 0 Q (wZ cI q_z n_z z_row) [(0, .int l0), (1, .int l1), (2, .int l2), (3, .ref q_z), (4, .int l4), (5, .int l5)] 6 [] := by
    intro K  l0 l1 l2 hK n
    induction n with
    | zero => intro l4 l5 h; rw [M_bitsOf_6] at h; exact (wp_n h).elim
    | succ n ih =>
      intro l4 l5 h
      rw [M_bitsOf_6] at h
      refine V_iload (pc := 6) C 5 dX5_bitsOf_6 rfl ?_
      refine V_iload_n (pc := 8) C 1 dX5_bitsOf_8 rfl rfl ?_
      refine V_icmp_ge (pc := 9) (tgt := 36) C dX5_bitsOf_9 (by decide) (fun c1 => ?_) (fun c1 => ?_)
      · replace h := wp_t h c1
        refine V_lv (pc := 36) [4] rfl ?_
        exact hK _ h
      · replace h := wp_f h c1
        refine V_iload (pc := 12) C 4 dX5_bitsOf_12 rfl ?_
        refine V_iload_n (pc := 14) C 0 dX5_bitsOf_14 rfl rfl ?_
        refine V_aload_n (pc := 15) C 3 dX5_bitsOf_15 rfl rfl ?_
        refine V_iload_n (pc := 16) C 2 dX5_bitsOf_16 rfl rfl ?_
        refine V_iload (pc := 17) C 5 dX5_bitsOf_17 rfl ?_
        refine V_iadd (pc := 19) C dX5_bitsOf_19 ?_
        obtain ⟨b2, h⟩ := wp_c h
        refine V_iald (pc := 20) C 0 dX5_bitsOf_20 rfl b2 ?_
        refine V_ishr (pc := 21) C dX5_bitsOf_21 ?_
        refine V_iconst (pc := 22) C dX5_bitsOf_22 ki_1 ?_
        refine V_iand (pc := 23) C dX5_bitsOf_23 ?_
        refine V_iload (pc := 24) C 5 dX5_bitsOf_24 rfl ?_
        refine V_ishl (pc := 26) C dX5_bitsOf_26 ?_
        refine V_ior (pc := 27) C dX5_bitsOf_27 ?_
        obtain ⟨v3, ev3, h⟩ := wp_l h
        refine V_topi (pc := 28) ev3 ?_
        refine V_istore (pc := 28) (lv' := [(0, .int l0), (1, .int l1), (2, .int l2), (3, .ref q_z), (4, .int v3), (5, .int l5)]) C dX5_bitsOf_28 [1, 2, 3, 4, 0, 5] (by decide) rfl ?_
        obtain ⟨v4, ev4, h⟩ := wp_l h
        refine V_iinc (pc := 30) (v := v4) (lv' := [(0, .int l0), (1, .int l1), (2, .int l2), (3, .ref q_z), (4, .int v3), (5, .int v4)]) (j := 5) C dX5_bitsOf_30 rfl (by rw [ev4]; rfl) [1, 2, 3, 4, 5, 0] (by decide) rfl ?_
        refine V_goto (pc := 33) (tgt := 6) C dX5_bitsOf_33 (by decide) ?_
        exact ih _ _ h
  unfold M_bitsOf at h
  refine V_iconst (pc := 0) C dX5_bitsOf_0 ki_0 ?_
  refine V_istore (pc := 1) (lv' := [(0, .int a0), (1, .int a1), (2, .int a2), (3, .ref q_z), (4, .int 0)]) C dX5_bitsOf_1 [1, 2, 3, 4, 0] (by decide) rfl ?_
  refine V_iconst (pc := 3) C dX5_bitsOf_3 ki_0 ?_
  refine V_istore (pc := 4) (lv' := [(0, .int a0), (1, .int a1), (2, .int a2), (3, .ref q_z), (4, .int 0), (5, .int 0)]) C dX5_bitsOf_4 [1, 2, 3, 4, 5, 0] (by decide) rfl ?_
  refine hL_6 _ _ _ _ (fun l4_5 h => ?_) 1000 _ _ h
  try dsimp only at h
  refine V_iload (pc := 36) C 0 dX5_bitsOf_36 rfl ?_
  exact V_iret (pc := 38) C hQ () dX5_bitsOf_38 (vp_nar_int _) rfl (wp_s h)
set_option maxRecDepth 100000 in
set_option maxHeartbeats 4000000 in
theorem c_M_formOf {l : Launch} {D : va_G} {cI cC : ClassId} {q_m : Nat → Nat} {m_now : Nat → Int32} {m_aside : Nat → Int32} {m_past : Nat → Int32} {m_states : Int32} {m_refused : Nat → Int32} {m_text : Nat → Int32} {m_length : Int32} {m_tables : Nat → Int32} {m_all : Int32} {m_rowsBehind : Nat → Int32} {m_rowsMany : Int32} {m_forms : Nat → Int32} {m_lesser : Nat → Int32} {m_greater : Nat → Int32} {m_why : Nat → Int32} {m_checks : Int32} {m_numbers : Nat → Int32} {m_depths : Nat → Int32} {m_spot : Int32} {m_isFaulty : Int32} {m_orders : Int32} {m_letters : Nat → Int32} {m_parts : Nat → Int32} {m_hash : Int64} {a0 : Int32} {post : Int32 → Prop} (h : wpO (M_formOf m_forms a0) post) : Cn l yX5_formOf cX5_formOf 3 (some .int) 1 20 D cI cC [.ref (q_m 0), .int a0] (wM cI q_m m_now m_aside m_past m_states m_refused m_text m_length m_tables m_all m_rowsBehind m_rowsMany m_forms m_lesser m_greater m_why m_checks m_numbers m_depths m_spot m_isFaulty m_orders m_letters m_parts m_hash) (QI D cI cC (S := Unit) (fun u => (wM cI q_m m_now m_aside m_past m_states m_refused m_text m_length m_tables m_all m_rowsBehind m_rowsMany m_forms m_lesser m_greater m_why m_checks m_numbers m_depths m_spot m_isFaulty m_orders m_letters m_parts m_hash)) (fun r u => post r)) := by
  refine Cn.ofV (own := RX5) (lv0 := [(0, .ref (q_m 0)), (1, .int a0)]) rfl (by decide) (Nat.le_of_ble_eq_true rfl) rfl ?_
  intro p e s m below meth c A args Q hQ C
  unfold M_formOf at h
  refine V_aload_n (pc := 0) C 0 dX5_formOf_0 rfl rfl ?_
  refine V_get (pc := 1) C 0 11 inX5 wd_600 dX5_formOf_1 rfl rfl (by decide) rfl rfl ?_
  refine V_iload_n (pc := 4) C 1 dX5_formOf_4 rfl rfl ?_
  refine V_iconst (pc := 5) C dX5_formOf_5 ki_2 ?_
  refine V_idiv (pc := 6) C dX5_formOf_6 (by decide) ?_
  obtain ⟨b1, h⟩ := wp_c h
  refine V_iald (pc := 7) C 8 dX5_formOf_7 rfl b1 ?_
  obtain ⟨v2, ev2, h⟩ := wp_l h
  refine V_topi (pc := 8) ev2 ?_
  refine V_istore_n (pc := 8) (lv' := [(0, .ref (q_m 0)), (1, .int a0), (2, .int v2)]) C dX5_formOf_8 rfl [1, 2, 0] (by decide) rfl ?_
  refine V_iload_n (pc := 9) C 1 dX5_formOf_9 rfl rfl ?_
  refine V_iconst (pc := 10) C dX5_formOf_10 ki_2 ?_
  refine V_irem (pc := 11) C dX5_formOf_11 (by decide) ?_
  refine V_if_ne (pc := 12) (tgt := 19) C dX5_formOf_12 (by decide) (fun c3 => ?_) (fun c3 => ?_)
  · replace h := wp_f h c3
    refine V_iload_n (pc := 19) C 2 dX5_formOf_19 rfl rfl ?_
    refine V_cutSi (pc := 20) (As := [.int v2]) (st := []) (w0 := ([] : va_W)) (wr := (wM cI q_m m_now m_aside m_past m_states m_refused m_text m_length m_tables m_all m_rowsBehind m_rowsMany m_forms m_lesser m_greater m_why m_checks m_numbers m_depths m_spot m_isFaulty m_orders m_letters m_parts m_hash)) (w2 := fun u => (wM cI q_m m_now m_aside m_past m_states m_refused m_text m_length m_tables m_all m_rowsBehind m_rowsMany m_forms m_lesser m_greater m_why m_checks m_numbers m_depths m_spot m_isFaulty m_orders m_letters m_parts m_hash)) C (c_M_turned (wp_b h)) mk_X5_turned wd_665 dX5_formOf_20 rfl rfl ⟨Nat.le_of_ble_eq_true rfl, Nat.le_of_ble_eq_true rfl⟩ [] [0, 1, 2, 3, 4, 5, 6, 7, 8, 9, 10, 11, 12, 13, 14, 15] [0, 1, 2, 3, 4, 5, 6, 7, 8, 9, 10, 11, 12, 13, 14, 15] ⟨rfl, rfl, by decide +kernel, by decide +kernel, by decide +kernel⟩ (by decide +kernel) (fun u => rfl) (Nat.le_of_ble_eq_true rfl) rfl (fun r5 u hw => ?_)
    have h := hw
    try dsimp only at h
    try dsimp only
    exact V_iret (pc := 23) C hQ () dX5_formOf_23 (vp_nar_int _) rfl (wp_s h)
  · replace h := wp_t h c3
    refine V_iload_n (pc := 15) C 2 dX5_formOf_15 rfl rfl ?_
    refine V_goto (pc := 16) (tgt := 23) C dX5_formOf_16 (by decide) ?_
    exact V_iret (pc := 23) C hQ () dX5_formOf_23 (vp_nar_int _) rfl (wp_s h)
set_option maxRecDepth 100000 in
set_option maxHeartbeats 4000000 in
theorem c_M_merges {l : Launch} {D : va_G} {cI cC : ClassId} {q_m : Nat → Nat} {m_now : Nat → Int32} {m_aside : Nat → Int32} {m_past : Nat → Int32} {m_states : Int32} {m_refused : Nat → Int32} {m_text : Nat → Int32} {m_length : Int32} {m_tables : Nat → Int32} {m_all : Int32} {m_rowsBehind : Nat → Int32} {m_rowsMany : Int32} {m_forms : Nat → Int32} {m_lesser : Nat → Int32} {m_greater : Nat → Int32} {m_why : Nat → Int32} {m_checks : Int32} {m_numbers : Nat → Int32} {m_depths : Nat → Int32} {m_spot : Int32} {m_isFaulty : Int32} {m_orders : Int32} {m_letters : Nat → Int32} {m_parts : Nat → Int32} {m_hash : Int64} {a0 : Int32} {a1 : Int32} {a2 : Int32} {post : (Nat → Int32) × (Nat → Int32) → Prop} (h : wpO (M_merges m_forms m_why a0 a1 a2) post) : Cn l yX5_merges cX5_merges 4 none 0 0 D cI cC [.ref (q_m 0), .int a0, .int a1, .int a2] (wM cI q_m m_now m_aside m_past m_states m_refused m_text m_length m_tables m_all m_rowsBehind m_rowsMany m_forms m_lesser m_greater m_why m_checks m_numbers m_depths m_spot m_isFaulty m_orders m_letters m_parts m_hash) (QV D cI cC (S := (Nat → Int32) × (Nat → Int32)) (fun u => (wM cI q_m m_now m_aside m_past m_states m_refused m_text m_length m_tables m_all m_rowsBehind m_rowsMany u.1 m_lesser m_greater u.2 m_checks m_numbers m_depths m_spot m_isFaulty m_orders m_letters m_parts m_hash)) (fun u => post u)) := by
  refine Cn.ofV (own := RX5) (lv0 := [(0, .ref (q_m 0)), (1, .int a0), (2, .int a1), (3, .int a2)]) rfl (by decide) (Nat.le_of_ble_eq_true rfl) rfl ?_
  intro p e s m below meth c A args Q hQ C
  unfold M_merges at h
  refine V_aload_n (pc := 0) C 0 dX5_merges_0 rfl rfl ?_
  refine V_get (pc := 1) C 0 11 inX5 wd_600 dX5_merges_1 rfl rfl (by decide) rfl rfl ?_
  refine V_iload_n (pc := 4) C 1 dX5_merges_4 rfl rfl ?_
  refine V_iload_n (pc := 5) C 2 dX5_merges_5 rfl rfl ?_
  obtain ⟨b1, h⟩ := wp_c h
  obtain ⟨m_forms_2, em_forms_2, h⟩ := wp_l h
  refine V_iast (pc := 6) (ws' := (wM cI q_m m_now m_aside m_past m_states m_refused m_text m_length m_tables m_all m_rowsBehind m_rowsMany m_forms_2 m_lesser m_greater m_why m_checks m_numbers m_depths m_spot m_isFaulty m_orders m_letters m_parts m_hash)) C 8 dX5_merges_6 rfl b1 em_forms_2 rfl ?_
  refine V_aload_n (pc := 7) C 0 dX5_merges_7 rfl rfl ?_
  refine V_get (pc := 8) C 0 14 inX5 wd_603 dX5_merges_8 rfl rfl (by decide) rfl rfl ?_
  refine V_iload_n (pc := 11) C 1 dX5_merges_11 rfl rfl ?_
  refine V_iload_n (pc := 12) C 3 dX5_merges_12 rfl rfl ?_
  obtain ⟨b3, h⟩ := wp_c h
  obtain ⟨m_why_4, em_why_4, h⟩ := wp_l h
  refine V_iast (pc := 13) (ws' := (wM cI q_m m_now m_aside m_past m_states m_refused m_text m_length m_tables m_all m_rowsBehind m_rowsMany m_forms_2 m_lesser m_greater m_why_4 m_checks m_numbers m_depths m_spot m_isFaulty m_orders m_letters m_parts m_hash)) C 11 dX5_merges_13 rfl b3 em_why_4 rfl ?_
  exact V_vret (pc := 14) C hQ (m_forms_2, m_why_4) dX5_merges_14 rfl (wp_s h)
set_option maxRecDepth 100000 in
set_option maxHeartbeats 4000000 in
theorem c_M_comes {l : Launch} {D : va_G} {cI cC : ClassId} {q_m : Nat → Nat} {m_now : Nat → Int32} {m_aside : Nat → Int32} {m_past : Nat → Int32} {m_states : Int32} {m_refused : Nat → Int32} {m_text : Nat → Int32} {m_length : Int32} {m_tables : Nat → Int32} {m_all : Int32} {m_rowsBehind : Nat → Int32} {m_rowsMany : Int32} {m_forms : Nat → Int32} {m_lesser : Nat → Int32} {m_greater : Nat → Int32} {m_why : Nat → Int32} {m_checks : Int32} {m_numbers : Nat → Int32} {m_depths : Nat → Int32} {m_spot : Int32} {m_isFaulty : Int32} {m_orders : Int32} {m_letters : Nat → Int32} {m_parts : Nat → Int32} {m_hash : Int64} {a0 : Int32} {post : (Nat → Int32) × Int32 → Prop} (h : wpO (M_comes m_rowsBehind m_rowsMany a0) post) : Cn l yX5_comes cX5_comes 3 none 0 0 D cI cC [.ref (q_m 0), .int a0] (wM cI q_m m_now m_aside m_past m_states m_refused m_text m_length m_tables m_all m_rowsBehind m_rowsMany m_forms m_lesser m_greater m_why m_checks m_numbers m_depths m_spot m_isFaulty m_orders m_letters m_parts m_hash) (QV D cI cC (S := (Nat → Int32) × Int32) (fun u => (wM cI q_m m_now m_aside m_past m_states m_refused m_text m_length m_tables m_all u.1 u.2 m_forms m_lesser m_greater m_why m_checks m_numbers m_depths m_spot m_isFaulty m_orders m_letters m_parts m_hash)) (fun u => post u)) := by
  refine Cn.ofV (own := RX5) (lv0 := [(0, .ref (q_m 0)), (1, .int a0)]) rfl (by decide) (Nat.le_of_ble_eq_true rfl) rfl ?_
  intro p e s m below meth c A args Q hQ C
  have hL_11 : ∀ (K : Int32 → Option ((Nat → Int32) × Int32)) (m_rowsBehind : Nat → Int32) (m_rowsMany : Int32) (l1 : Int32), (∀ (l2 : Int32), wpO (K l2) post → V p l e (rmC 0 0) s m args below meth c D A 3 0 0 Q (wM cI q_m m_now m_aside m_past m_states m_refused m_text m_length m_tables m_all m_rowsBehind m_rowsMany m_forms m_lesser m_greater m_why m_checks m_numbers m_depths m_spot m_isFaulty m_orders m_letters m_parts m_hash) [(0, .ref (q_m 0)), (2, .int l2)] 25 []) → ∀ (n : Nat) (l2 : Int32), wpO (M_comes_11 K l1 n l2) post → V p l e (rmC 0 0) s m args below meth c D A 3 0 0 Q (wM cI q_m m_now m_aside m_past m_states m_refused m_text m_length m_tables m_all m_rowsBehind m_rowsMany m_forms m_lesser m_greater m_why m_checks m_numbers m_depths m_spot m_isFaulty m_orders m_letters m_parts m_hash) [(0, .ref (q_m 0)), (1, .int l1), (2, .int l2)] 11 [] := by
    intro K m_rowsBehind m_rowsMany l1 hK n
    induction n with
    | zero => intro l2 h; rw [M_comes_11] at h; exact (wp_n h).elim
    | succ n ih =>
      intro l2 h
      rw [M_comes_11] at h
      refine V_iload_n (pc := 11) C 1 dX5_comes_11 rfl rfl ?_
      refine V_iload_n (pc := 12) C 2 dX5_comes_12 rfl rfl ?_
      refine V_ishr (pc := 13) C dX5_comes_13 ?_
      refine V_iconst (pc := 14) C dX5_comes_14 ki_1 ?_
      refine V_iand (pc := 15) C dX5_comes_15 ?_
      refine V_if_ne (pc := 16) (tgt := 25) C dX5_comes_16 (by decide) (fun c1 => ?_) (fun c1 => ?_)
      · replace h := wp_f h c1
        refine V_lv (pc := 25) [0, 2] rfl ?_
        exact hK _ h
      · replace h := wp_t h c1
        obtain ⟨v2, ev2, h⟩ := wp_l h
        refine V_iinc (pc := 19) (v := v2) (lv' := [(0, .ref (q_m 0)), (1, .int l1), (2, .int v2)]) (j := 2) C dX5_comes_19 rfl (by rw [ev2]; rfl) [1, 2, 0] (by decide) rfl ?_
        refine V_goto (pc := 22) (tgt := 11) C dX5_comes_22 (by decide) ?_
        exact ih _ h
  unfold M_comes at h
  refine V_aload_n (pc := 0) C 0 dX5_comes_0 rfl rfl ?_
  refine V_get (pc := 1) C 0 10 inX5 wd_599 dX5_comes_1 rfl rfl (by decide) rfl rfl ?_
  refine V_bipush (pc := 4) C dX5_comes_4 kb_12 ?_
  refine V_icmp_ge (pc := 6) (tgt := 45) C dX5_comes_6 (by decide) (fun c3 => ?_) (fun c3 => ?_)
  · replace h := wp_t h c3
    exact V_vret (pc := 45) C hQ (m_rowsBehind, m_rowsMany) dX5_comes_45 rfl (wp_s h)
  · replace h := wp_f h c3
    refine V_iconst (pc := 9) C dX5_comes_9 ki_0 ?_
    refine V_istore_n (pc := 10) (lv' := [(0, .ref (q_m 0)), (1, .int a0), (2, .int 0)]) C dX5_comes_10 rfl [1, 2, 0] (by decide) rfl ?_
    refine hL_11 _ _ _ _ (fun l2_4 h => ?_) 1000 _ h
    try dsimp only at h
    refine V_aload_n (pc := 25) C 0 dX5_comes_25 rfl rfl ?_
    refine V_get (pc := 26) C 0 9 inX5 wd_598 dX5_comes_26 rfl rfl (by decide) rfl rfl ?_
    refine V_aload_n (pc := 29) C 0 dX5_comes_29 rfl rfl ?_
    refine V_get (pc := 30) C 0 10 inX5 wd_599 dX5_comes_30 rfl rfl (by decide) rfl rfl ?_
    refine V_iload_n (pc := 33) C 1 dX5_comes_33 rfl rfl ?_
    obtain ⟨b5, h⟩ := wp_c h
    obtain ⟨m_rowsBehind_6, em_rowsBehind_6, h⟩ := wp_l h
    refine V_iast (pc := 34) (ws' := (wM cI q_m m_now m_aside m_past m_states m_refused m_text m_length m_tables m_all m_rowsBehind_6 m_rowsMany m_forms m_lesser m_greater m_why m_checks m_numbers m_depths m_spot m_isFaulty m_orders m_letters m_parts m_hash)) C 7 dX5_comes_34 rfl b5 em_rowsBehind_6 rfl ?_
    refine V_aload_n (pc := 35) C 0 dX5_comes_35 rfl rfl ?_
    refine V_dup (pc := 36) C dX5_comes_36 rfl ?_
    refine V_get (pc := 37) C 0 10 inX5 wd_599 dX5_comes_37 rfl rfl (by decide) rfl rfl ?_
    refine V_iconst (pc := 40) C dX5_comes_40 ki_1 ?_
    refine V_iadd (pc := 41) C dX5_comes_41 ?_
    obtain ⟨m_rowsMany_7, em_rowsMany_7, h⟩ := wp_l h
    refine V_topi (pc := 42) em_rowsMany_7 ?_
    refine V_put (pc := 42) (ws' := (wM cI q_m m_now m_aside m_past m_states m_refused m_text m_length m_tables m_all m_rowsBehind_6 m_rowsMany_7 m_forms m_lesser m_greater m_why m_checks m_numbers m_depths m_spot m_isFaulty m_orders m_letters m_parts m_hash)) C 0 10 inX5 tyX5_ok nmX5 wd_599 dX5_comes_42 rfl rfl (by decide) rfl rfl rfl rfl rfl (Nat.le_of_ble_eq_true rfl) rfl ?_
    exact V_vret (pc := 45) C hQ (m_rowsBehind_6, m_rowsMany_7) dX5_comes_45 rfl (wp_s h)
set_option maxRecDepth 100000 in
set_option maxHeartbeats 4000000 in
theorem c_M_otherwise {l : Launch} {D : va_G} {cI cC : ClassId} {q_m : Nat → Nat} {m_now : Nat → Int32} {m_aside : Nat → Int32} {m_past : Nat → Int32} {m_states : Int32} {m_refused : Nat → Int32} {m_text : Nat → Int32} {m_length : Int32} {m_tables : Nat → Int32} {m_all : Int32} {m_rowsBehind : Nat → Int32} {m_rowsMany : Int32} {m_forms : Nat → Int32} {m_lesser : Nat → Int32} {m_greater : Nat → Int32} {m_why : Nat → Int32} {m_checks : Int32} {m_numbers : Nat → Int32} {m_depths : Nat → Int32} {m_spot : Int32} {m_isFaulty : Int32} {m_orders : Int32} {m_letters : Nat → Int32} {m_parts : Nat → Int32} {m_hash : Int64} {a0 : Int32} {a1 : Int32} {post : Int32 → Prop} (h : wpO (M_otherwise m_tables m_rowsBehind m_rowsMany a0 a1) post) : Cn l yX5_otherwise cX5_otherwise 3 (some .int) 1 25 D cI cC [.ref (q_m 0), .int a0, .int a1] (wM cI q_m m_now m_aside m_past m_states m_refused m_text m_length m_tables m_all m_rowsBehind m_rowsMany m_forms m_lesser m_greater m_why m_checks m_numbers m_depths m_spot m_isFaulty m_orders m_letters m_parts m_hash) (QI D cI cC (S := Unit) (fun u => (wM cI q_m m_now m_aside m_past m_states m_refused m_text m_length m_tables m_all m_rowsBehind m_rowsMany m_forms m_lesser m_greater m_why m_checks m_numbers m_depths m_spot m_isFaulty m_orders m_letters m_parts m_hash)) (fun r u => post r)) := by
  refine Cn.ofV (own := RX5) (lv0 := [(0, .ref (q_m 0)), (1, .int a0), (2, .int a1)]) rfl (by decide) (Nat.le_of_ble_eq_true rfl) rfl ?_
  intro p e s m below meth c A args Q hQ C
  unfold M_otherwise at h
  refine V_aload_n (pc := 0) C 0 dX5_otherwise_0 rfl rfl ?_
  refine V_get (pc := 1) C 0 7 inX5 wd_596 dX5_otherwise_1 rfl rfl (by decide) rfl rfl ?_
  refine V_iload_n (pc := 4) C 1 dX5_otherwise_4 rfl rfl ?_
  obtain ⟨b1, h⟩ := wp_c h
  refine V_iald (pc := 5) C 6 dX5_otherwise_5 rfl b1 ?_
  refine V_aload_n (pc := 6) C 0 dX5_otherwise_6 rfl rfl ?_
  refine V_get (pc := 7) C 0 7 inX5 wd_596 dX5_otherwise_7 rfl rfl (by decide) rfl rfl ?_
  refine V_iload_n (pc := 10) C 2 dX5_otherwise_10 rfl rfl ?_
  obtain ⟨b2, h⟩ := wp_c h
  refine V_iald (pc := 11) C 6 dX5_otherwise_11 rfl b2 ?_
  refine V_ixor (pc := 12) C dX5_otherwise_12 ?_
  refine V_aload_n (pc := 13) C 0 dX5_otherwise_13 rfl rfl ?_
  refine V_get (pc := 14) C 0 10 inX5 wd_599 dX5_otherwise_14 rfl rfl (by decide) rfl rfl ?_
  refine V_iconst (pc := 17) C dX5_otherwise_17 ki_0 ?_
  refine V_aload_n (pc := 18) C 0 dX5_otherwise_18 rfl rfl ?_
  refine V_get (pc := 19) C 0 9 inX5 wd_598 dX5_otherwise_19 rfl rfl (by decide) rfl rfl ?_
  refine V_cutSi (pc := 22) (As := [.int ((m_tables (Int32.toNatClampNeg a0)) ^^^ (m_tables (Int32.toNatClampNeg a1))), .int m_rowsMany, .int 0, .ref (q_m 7)]) (st := []) (w0 := wZ cI (q_m 7) 12 m_rowsBehind) (wr := [(q_m 0, .inr (5, [.ref (q_m 1), .ref (q_m 2), .ref (q_m 3), .int m_states, .ref (q_m 4), .ref (q_m 5), .int m_length, .ref (q_m 6), .int m_all, .ref (q_m 7), .int m_rowsMany, .ref (q_m 8), .ref (q_m 9), .ref (q_m 10), .ref (q_m 11), .int m_checks, .ref (q_m 12), .ref (q_m 13), .int m_spot, .int m_isFaulty, .int m_orders, .ref (q_m 14), .ref (q_m 15), .long m_hash])), (q_m 1, .inl (cI, 125, .inl m_now)), (q_m 2, .inl (cI, 125, .inl m_aside)), (q_m 3, .inl (cI, 625, .inl m_past)), (q_m 4, .inl (cI, 3, .inl m_refused)), (q_m 5, .inl (cI, 150, .inl m_text)), (q_m 6, .inl (cI, 48, .inl m_tables)), (q_m 8, .inl (cI, 48, .inl m_forms)), (q_m 9, .inl (cI, 48, .inl m_lesser)), (q_m 10, .inl (cI, 48, .inl m_greater)), (q_m 11, .inl (cI, 48, .inl m_why)), (q_m 12, .inl (cI, 48, .inl m_numbers)), (q_m 13, .inl (cI, 48, .inl m_depths)), (q_m 14, .inl (cI, 51, .inl m_letters)), (q_m 15, .inl (cI, 153, .inl m_parts))]) (w2 := fun _ => (wM cI q_m m_now m_aside m_past m_states m_refused m_text m_length m_tables m_all m_rowsBehind m_rowsMany m_forms m_lesser m_greater m_why m_checks m_numbers m_depths m_spot m_isFaulty m_orders m_letters m_parts m_hash)) C (c_M_bitsOf (wp_b h)) mk_X5_bitsOf wd_735 dX5_otherwise_22 rfl rfl ⟨Nat.le_of_ble_eq_true rfl, Nat.le_of_ble_eq_true rfl⟩ [7] [0, 1, 2, 3, 4, 5, 6, 8, 9, 10, 11, 12, 13, 14, 15] [0, 1, 2, 3, 4, 5, 6, 15, 7, 8, 9, 10, 11, 12, 13, 14] ⟨rfl, rfl, by decide +kernel, by decide +kernel, by decide +kernel⟩ (by decide +kernel) (fun u => rfl) (Nat.le_of_ble_eq_true rfl) rfl (fun r4 u hw => ?_)
  have h := hw
  try dsimp only at h
  try dsimp only
  exact V_iret (pc := 25) C hQ () dX5_otherwise_25 (vp_nar_int _) rfl (wp_s h)
set_option maxRecDepth 100000 in
set_option maxHeartbeats 4000000 in
theorem c_M_checks {l : Launch} {D : va_G} {cI cC : ClassId} {q_m : Nat → Nat} {m_now : Nat → Int32} {m_aside : Nat → Int32} {m_past : Nat → Int32} {m_states : Int32} {m_refused : Nat → Int32} {m_text : Nat → Int32} {m_length : Int32} {m_tables : Nat → Int32} {m_all : Int32} {m_rowsBehind : Nat → Int32} {m_rowsMany : Int32} {m_forms : Nat → Int32} {m_lesser : Nat → Int32} {m_greater : Nat → Int32} {m_why : Nat → Int32} {m_checks : Int32} {m_numbers : Nat → Int32} {m_depths : Nat → Int32} {m_spot : Int32} {m_isFaulty : Int32} {m_orders : Int32} {m_letters : Nat → Int32} {m_parts : Nat → Int32} {m_hash : Int64} {a0 : Int32} {a1 : Int32} {a2 : Int32} {post : Int32 × (Nat → Int32) × Int32 × (Nat → Int32) × (Nat → Int32) × Int32 → Prop} (h : wpO (M_checks m_tables m_all m_rowsBehind m_rowsMany m_forms m_why m_checks a0 a1 a2) post) : Cn l yX5_checks cX5_checks 5 (some .boolean) 1 23 D cI cC [.ref (q_m 0), .int a0, .int a1, .int a2] (wM cI q_m m_now m_aside m_past m_states m_refused m_text m_length m_tables m_all m_rowsBehind m_rowsMany m_forms m_lesser m_greater m_why m_checks m_numbers m_depths m_spot m_isFaulty m_orders m_letters m_parts m_hash) (QI D cI cC (S := (Nat → Int32) × Int32 × (Nat → Int32) × (Nat → Int32) × Int32) (fun u => (wM cI q_m m_now m_aside m_past m_states m_refused m_text m_length m_tables m_all u.1 u.2.1 u.2.2.1 m_lesser m_greater u.2.2.2.1 u.2.2.2.2 m_numbers m_depths m_spot m_isFaulty m_orders m_letters m_parts m_hash)) (fun r u => post (r, u) ∧ narrow .boolean (.int r) = .int r)) := by
  refine Cn.ofV (own := RX5) (lv0 := [(0, .ref (q_m 0)), (1, .int a0), (2, .int a1), (3, .int a2)]) rfl (by decide) (Nat.le_of_ble_eq_true rfl) rfl ?_
  intro p e s m below meth c A args Q hQ C
  unfold M_checks at h
  refine V_aload_n (pc := 0) C 0 dX5_checks_0 rfl rfl ?_
  refine V_dup (pc := 1) C dX5_checks_1 rfl ?_
  refine V_get (pc := 2) C 0 15 inX5 wd_604 dX5_checks_2 rfl rfl (by decide) rfl rfl ?_
  refine V_iconst (pc := 5) C dX5_checks_5 ki_1 ?_
  refine V_iadd (pc := 6) C dX5_checks_6 ?_
  obtain ⟨m_checks_1, em_checks_1, h⟩ := wp_l h
  refine V_topi (pc := 7) em_checks_1 ?_
  refine V_put (pc := 7) (ws' := (wM cI q_m m_now m_aside m_past m_states m_refused m_text m_length m_tables m_all m_rowsBehind m_rowsMany m_forms m_lesser m_greater m_why m_checks_1 m_numbers m_depths m_spot m_isFaulty m_orders m_letters m_parts m_hash)) C 0 15 inX5 tyX5_ok nmX5 wd_604 dX5_checks_7 rfl rfl (by decide) rfl rfl rfl rfl rfl (Nat.le_of_ble_eq_true rfl) rfl ?_
  refine V_iload_n (pc := 10) C 3 dX5_checks_10 rfl rfl ?_
  refine V_if_eq (pc := 11) (tgt := 32) C dX5_checks_11 (by decide) (fun c2 => ?_) (fun c2 => ?_)
  · replace h := wp_t h c2
    refine V_aload_n (pc := 32) C 0 dX5_checks_32 rfl rfl ?_
    refine V_get (pc := 33) C 0 7 inX5 wd_596 dX5_checks_33 rfl rfl (by decide) rfl rfl ?_
    refine V_iload_n (pc := 36) C 1 dX5_checks_36 rfl rfl ?_
    obtain ⟨b3, h⟩ := wp_c h
    refine V_iald (pc := 37) C 6 dX5_checks_37 rfl b3 ?_
    refine V_aload_n (pc := 38) C 0 dX5_checks_38 rfl rfl ?_
    refine V_get (pc := 39) C 0 7 inX5 wd_596 dX5_checks_39 rfl rfl (by decide) rfl rfl ?_
    refine V_iload_n (pc := 42) C 2 dX5_checks_42 rfl rfl ?_
    obtain ⟨b4, h⟩ := wp_c h
    refine V_iald (pc := 43) C 6 dX5_checks_43 rfl b4 ?_
    refine V_ixor (pc := 44) C dX5_checks_44 ?_
    refine V_aload_n (pc := 45) C 0 dX5_checks_45 rfl rfl ?_
    refine V_get (pc := 46) C 0 8 inX5 wd_597 dX5_checks_46 rfl rfl (by decide) rfl rfl ?_
    refine V_iand (pc := 49) C dX5_checks_49 ?_
    obtain ⟨v5, ev5, h⟩ := wp_l h
    refine V_topi (pc := 50) ev5 ?_
    refine V_istore (pc := 50) (lv' := [(0, .ref (q_m 0)), (1, .int a0), (2, .int a1), (3, .int a2), (4, .int v5)]) C dX5_checks_50 [1, 2, 3, 4, 0] (by decide) rfl ?_
    refine V_iload (pc := 52) C 4 dX5_checks_52 rfl ?_
    refine V_if_ne (pc := 54) (tgt := 80) C dX5_checks_54 (by decide) (fun c6 => ?_) (fun c6 => ?_)
    · replace h := wp_f h c6
      refine V_aload_n (pc := 80) C 0 dX5_checks_80 rfl rfl ?_
      refine V_iload (pc := 81) C 4 dX5_checks_81 rfl ?_
      refine V_callVv (pc := 83) (As := [.int v5]) (st := []) C (c_M_comes (wp_b h)) mk_X5_comes wd_741 dX5_checks_83 0 rfl rfl rfl ⟨Nat.le_of_ble_eq_true rfl, Nat.le_of_ble_eq_true rfl⟩ (Nat.le_of_ble_eq_true rfl) rfl (fun u hw => ?_)
      obtain ⟨m_rowsBehind_9, m_rowsMany_10⟩ := u
      have h := hw
      try dsimp only at h
      try dsimp only
      refine V_iconst (pc := 86) C dX5_checks_86 ki_0 ?_
      exact V_iret (pc := 87) C hQ (m_rowsBehind_9, m_rowsMany_10, m_forms, m_why, m_checks_1) dX5_checks_87 rfl rfl ⟨wp_s h, rfl⟩
    · replace h := wp_t h c6
      refine V_aload_n (pc := 57) C 0 dX5_checks_57 rfl rfl ?_
      refine V_iload_n (pc := 58) C 1 dX5_checks_58 rfl rfl ?_
      refine V_iload_n (pc := 59) C 3 dX5_checks_59 rfl rfl ?_
      refine V_if_eq (pc := 60) (tgt := 71) C dX5_checks_60 (by decide) (fun c11 => ?_) (fun c11 => absurd c2 c11)
      refine V_iconst (pc := 71) C dX5_checks_71 ki_2 ?_
      refine V_iload_n (pc := 72) C 2 dX5_checks_72 rfl rfl ?_
      refine V_imul (pc := 73) C dX5_checks_73 ?_
      refine V_iconst (pc := 74) C dX5_checks_74 ki_3 ?_
      refine V_callVv (pc := 75) (As := [.int a0, .int ((2 : Int32) * a1), .int 3]) (st := []) C (c_M_merges (wp_b h)) mk_X5_merges wd_714 dX5_checks_75 0 rfl rfl rfl ⟨Nat.le_of_ble_eq_true rfl, Nat.le_of_ble_eq_true rfl⟩ (Nat.le_of_ble_eq_true rfl) rfl (fun u hw => ?_)
      obtain ⟨m_forms_14, m_why_15⟩ := u
      have h := hw
      try dsimp only at h
      try dsimp only
      refine V_iconst (pc := 78) C dX5_checks_78 ki_1 ?_
      exact V_iret (pc := 79) C hQ (m_rowsBehind, m_rowsMany, m_forms_14, m_why_15, m_checks_1) dX5_checks_79 rfl rfl ⟨wp_s h, rfl⟩
  · replace h := wp_f h c2
    refine V_aload_n (pc := 14) C 0 dX5_checks_14 rfl rfl ?_
    refine V_get (pc := 15) C 0 7 inX5 wd_596 dX5_checks_15 rfl rfl (by decide) rfl rfl ?_
    refine V_iload_n (pc := 18) C 1 dX5_checks_18 rfl rfl ?_
    obtain ⟨b16, h⟩ := wp_c h
    refine V_iald (pc := 19) C 6 dX5_checks_19 rfl b16 ?_
    refine V_aload_n (pc := 20) C 0 dX5_checks_20 rfl rfl ?_
    refine V_get (pc := 21) C 0 7 inX5 wd_596 dX5_checks_21 rfl rfl (by decide) rfl rfl ?_
    refine V_iload_n (pc := 24) C 2 dX5_checks_24 rfl rfl ?_
    obtain ⟨b17, h⟩ := wp_c h
    refine V_iald (pc := 25) C 6 dX5_checks_25 rfl b17 ?_
    refine V_ixor (pc := 26) C dX5_checks_26 ?_
    refine V_iconst (pc := 27) C dX5_checks_27 ki_m1 ?_
    refine V_ixor (pc := 28) C dX5_checks_28 ?_
    refine V_goto (pc := 29) (tgt := 45) C dX5_checks_29 (by decide) ?_
    refine V_aload_n (pc := 45) C 0 dX5_checks_45 rfl rfl ?_
    refine V_get (pc := 46) C 0 8 inX5 wd_597 dX5_checks_46 rfl rfl (by decide) rfl rfl ?_
    refine V_iand (pc := 49) C dX5_checks_49 ?_
    obtain ⟨v18, ev18, h⟩ := wp_l h
    refine V_topi (pc := 50) ev18 ?_
    refine V_istore (pc := 50) (lv' := [(0, .ref (q_m 0)), (1, .int a0), (2, .int a1), (3, .int a2), (4, .int v18)]) C dX5_checks_50 [1, 2, 3, 4, 0] (by decide) rfl ?_
    refine V_iload (pc := 52) C 4 dX5_checks_52 rfl ?_
    refine V_if_ne (pc := 54) (tgt := 80) C dX5_checks_54 (by decide) (fun c19 => ?_) (fun c19 => ?_)
    · replace h := wp_f h c19
      refine V_aload_n (pc := 80) C 0 dX5_checks_80 rfl rfl ?_
      refine V_iload (pc := 81) C 4 dX5_checks_81 rfl ?_
      refine V_callVv (pc := 83) (As := [.int v18]) (st := []) C (c_M_comes (wp_b h)) mk_X5_comes wd_741 dX5_checks_83 0 rfl rfl rfl ⟨Nat.le_of_ble_eq_true rfl, Nat.le_of_ble_eq_true rfl⟩ (Nat.le_of_ble_eq_true rfl) rfl (fun u hw => ?_)
      obtain ⟨m_rowsBehind_22, m_rowsMany_23⟩ := u
      have h := hw
      try dsimp only at h
      try dsimp only
      refine V_iconst (pc := 86) C dX5_checks_86 ki_0 ?_
      exact V_iret (pc := 87) C hQ (m_rowsBehind_22, m_rowsMany_23, m_forms, m_why, m_checks_1) dX5_checks_87 rfl rfl ⟨wp_s h, rfl⟩
    · replace h := wp_t h c19
      refine V_aload_n (pc := 57) C 0 dX5_checks_57 rfl rfl ?_
      refine V_iload_n (pc := 58) C 1 dX5_checks_58 rfl rfl ?_
      refine V_iload_n (pc := 59) C 3 dX5_checks_59 rfl rfl ?_
      refine V_if_eq (pc := 60) (tgt := 71) C dX5_checks_60 (by decide) (fun c24 => absurd c24 c2) (fun c24 => ?_)
      refine V_iconst (pc := 63) C dX5_checks_63 ki_2 ?_
      refine V_iload_n (pc := 64) C 2 dX5_checks_64 rfl rfl ?_
      refine V_imul (pc := 65) C dX5_checks_65 ?_
      refine V_iconst (pc := 66) C dX5_checks_66 ki_1 ?_
      refine V_iadd (pc := 67) C dX5_checks_67 ?_
      refine V_goto (pc := 68) (tgt := 74) C dX5_checks_68 (by decide) ?_
      refine V_iconst (pc := 74) C dX5_checks_74 ki_3 ?_
      refine V_callVv (pc := 75) (As := [.int a0, .int (((2 : Int32) * a1) + 1), .int 3]) (st := []) C (c_M_merges (wp_b h)) mk_X5_merges wd_714 dX5_checks_75 0 rfl rfl rfl ⟨Nat.le_of_ble_eq_true rfl, Nat.le_of_ble_eq_true rfl⟩ (Nat.le_of_ble_eq_true rfl) rfl (fun u hw => ?_)
      obtain ⟨m_forms_27, m_why_28⟩ := u
      have h := hw
      try dsimp only at h
      try dsimp only
      refine V_iconst (pc := 78) C dX5_checks_78 ki_1 ?_
      exact V_iret (pc := 79) C hQ (m_rowsBehind, m_rowsMany, m_forms_27, m_why_28, m_checks_1) dX5_checks_79 rfl rfl ⟨wp_s h, rfl⟩
set_option maxRecDepth 100000 in
set_option maxHeartbeats 4000000 in
theorem c_M_looksAt {l : Launch} {D : va_G} {cI cC : ClassId} {q_m : Nat → Nat} {m_now : Nat → Int32} {m_aside : Nat → Int32} {m_past : Nat → Int32} {m_states : Int32} {m_refused : Nat → Int32} {m_text : Nat → Int32} {m_length : Int32} {m_tables : Nat → Int32} {m_all : Int32} {m_rowsBehind : Nat → Int32} {m_rowsMany : Int32} {m_forms : Nat → Int32} {m_lesser : Nat → Int32} {m_greater : Nat → Int32} {m_why : Nat → Int32} {m_checks : Int32} {m_numbers : Nat → Int32} {m_depths : Nat → Int32} {m_spot : Int32} {m_isFaulty : Int32} {m_orders : Int32} {m_letters : Nat → Int32} {m_parts : Nat → Int32} {m_hash : Int64} {a0 : Int32} {a1 : Int32} {post : Int32 × (Nat → Int32) × Int32 × (Nat → Int32) × (Nat → Int32) × Int32 → Prop} (h : wpO (M_looksAt m_tables m_all m_rowsBehind m_rowsMany m_forms m_why m_checks a0 a1) post) : Cn l yX5_looksAt cX5_looksAt 5 (some .boolean) 2 47 D cI cC [.ref (q_m 0), .int a0, .int a1] (wM cI q_m m_now m_aside m_past m_states m_refused m_text m_length m_tables m_all m_rowsBehind m_rowsMany m_forms m_lesser m_greater m_why m_checks m_numbers m_depths m_spot m_isFaulty m_orders m_letters m_parts m_hash) (QI D cI cC (S := (Nat → Int32) × Int32 × (Nat → Int32) × (Nat → Int32) × Int32) (fun u => (wM cI q_m m_now m_aside m_past m_states m_refused m_text m_length m_tables m_all u.1 u.2.1 u.2.2.1 m_lesser m_greater u.2.2.2.1 u.2.2.2.2 m_numbers m_depths m_spot m_isFaulty m_orders m_letters m_parts m_hash)) (fun r u => post (r, u) ∧ narrow .boolean (.int r) = .int r)) := by
  refine Cn.ofV (own := RX5) (lv0 := [(0, .ref (q_m 0)), (1, .int a0), (2, .int a1)]) rfl (by decide) (Nat.le_of_ble_eq_true rfl) rfl ?_
  intro p e s m below meth c A args Q hQ C
  unfold M_looksAt at h
  refine V_aload_n (pc := 0) C 0 dX5_looksAt_0 rfl rfl ?_
  refine V_iload_n (pc := 1) C 1 dX5_looksAt_1 rfl rfl ?_
  refine V_iload_n (pc := 2) C 2 dX5_looksAt_2 rfl rfl ?_
  refine V_callVi (pc := 3) (As := [.int a0, .int a1]) (st := []) C (c_M_otherwise (wp_b h)) mk_X5_otherwise wd_732 dX5_looksAt_3 0 rfl rfl rfl ⟨Nat.le_of_ble_eq_true rfl, Nat.le_of_ble_eq_true rfl⟩ (Nat.le_of_ble_eq_true rfl) rfl (fun r2 u hw => ?_)
  have h := hw
  try dsimp only at h
  try dsimp only
  refine V_istore_n (pc := 6) (lv' := [(0, .ref (q_m 0)), (1, .int a0), (2, .int a1), (3, .int r2)]) C dX5_looksAt_6 rfl [1, 2, 3, 0] (by decide) rfl ?_
  refine V_iload_n (pc := 7) C 3 dX5_looksAt_7 rfl rfl ?_
  refine V_if_ne (pc := 8) (tgt := 15) C dX5_looksAt_8 (by decide) (fun c3 => ?_) (fun c3 => ?_)
  · replace h := wp_f h c3
    refine V_iconst (pc := 15) C dX5_looksAt_15 ki_0 ?_
    refine V_istore (pc := 16) (lv' := [(0, .ref (q_m 0)), (1, .int a0), (2, .int a1), (3, .int r2), (4, .int 0)]) C dX5_looksAt_16 [1, 2, 3, 4, 0] (by decide) rfl ?_
    refine V_iload (pc := 18) C 4 dX5_looksAt_18 rfl ?_
    refine V_if_ne (pc := 20) (tgt := 37) C dX5_looksAt_20 (by decide) (fun c4 => absurd (by decide) c4) (fun c4 => ?_)
    refine V_iload_n (pc := 23) C 3 dX5_looksAt_23 rfl rfl ?_
    refine V_iconst (pc := 24) C dX5_looksAt_24 ki_1 ?_
    refine V_aload_n (pc := 25) C 0 dX5_looksAt_25 rfl rfl ?_
    refine V_get (pc := 26) C 0 10 inX5 wd_599 dX5_looksAt_26 rfl rfl (by decide) rfl rfl ?_
    refine V_ishl (pc := 29) C dX5_looksAt_29 ?_
    refine V_iconst (pc := 30) C dX5_looksAt_30 ki_1 ?_
    refine V_isub (pc := 31) C dX5_looksAt_31 ?_
    refine V_icmp_eq (pc := 32) (tgt := 37) C dX5_looksAt_32 (by decide) (fun c5 => ?_) (fun c5 => ?_)
    · replace h := wp_t h c5
      refine V_aload_n (pc := 37) C 0 dX5_looksAt_37 rfl rfl ?_
      refine V_iload_n (pc := 38) C 1 dX5_looksAt_38 rfl rfl ?_
      refine V_iload_n (pc := 39) C 2 dX5_looksAt_39 rfl rfl ?_
      refine V_iload (pc := 40) C 4 dX5_looksAt_40 rfl ?_
      refine V_if_ne (pc := 42) (tgt := 49) C dX5_looksAt_42 (by decide) (fun c6 => absurd (by decide) c6) (fun c6 => ?_)
      refine V_iconst (pc := 45) C dX5_looksAt_45 ki_1 ?_
      refine V_goto (pc := 46) (tgt := 50) C dX5_looksAt_46 (by decide) ?_
      refine V_callVi (pc := 50) (As := [.int a0, .int a1, .int 1]) (st := []) C (c_M_checks (wp_b h)) mk_X5_checks wd_738 dX5_looksAt_50 0 rfl rfl rfl ⟨Nat.le_of_ble_eq_true rfl, Nat.le_of_ble_eq_true rfl⟩ (Nat.le_of_ble_eq_true rfl) rfl (fun r8 u hw => ?_)
      obtain ⟨m_rowsBehind_9, m_rowsMany_10, m_forms_11, m_why_12, m_checks_13⟩ := u
      obtain ⟨h, z14⟩ := hw
      try dsimp only at h
      try dsimp only
      refine V_if_eq (pc := 53) (tgt := 58) C dX5_looksAt_53 (by decide) (fun c15 => ?_) (fun c15 => ?_)
      · replace h := wp_t h c15
        refine V_iload (pc := 58) C 4 dX5_looksAt_58 rfl ?_
        refine V_if_eq (pc := 60) (tgt := 94) C dX5_looksAt_60 (by decide) (fun c16 => ?_) (fun c16 => absurd (by decide) c16)
        refine V_iconst (pc := 94) C dX5_looksAt_94 ki_0 ?_
        exact V_iret (pc := 95) C hQ (m_rowsBehind_9, m_rowsMany_10, m_forms_11, m_why_12, m_checks_13) dX5_looksAt_95 rfl rfl ⟨wp_s h, rfl⟩
      · replace h := wp_f h c15
        refine V_iconst (pc := 56) C dX5_looksAt_56 ki_1 ?_
        exact V_iret (pc := 57) C hQ (m_rowsBehind_9, m_rowsMany_10, m_forms_11, m_why_12, m_checks_13) dX5_looksAt_57 rfl rfl ⟨wp_s h, rfl⟩
    · replace h := wp_f h c5
      refine V_iconst (pc := 35) C dX5_looksAt_35 ki_0 ?_
      exact V_iret (pc := 36) C hQ (m_rowsBehind, m_rowsMany, m_forms, m_why, m_checks) dX5_looksAt_36 rfl rfl ⟨wp_s h, rfl⟩
  · replace h := wp_t h c3
    refine V_iconst (pc := 11) C dX5_looksAt_11 ki_1 ?_
    refine V_goto (pc := 12) (tgt := 16) C dX5_looksAt_12 (by decide) ?_
    refine V_istore (pc := 16) (lv' := [(0, .ref (q_m 0)), (1, .int a0), (2, .int a1), (3, .int r2), (4, .int 1)]) C dX5_looksAt_16 [1, 2, 3, 4, 0] (by decide) rfl ?_
    refine V_iload (pc := 18) C 4 dX5_looksAt_18 rfl ?_
    refine V_if_ne (pc := 20) (tgt := 37) C dX5_looksAt_20 (by decide) (fun c17 => ?_) (fun c17 => absurd c17 (by decide))
    refine V_aload_n (pc := 37) C 0 dX5_looksAt_37 rfl rfl ?_
    refine V_iload_n (pc := 38) C 1 dX5_looksAt_38 rfl rfl ?_
    refine V_iload_n (pc := 39) C 2 dX5_looksAt_39 rfl rfl ?_
    refine V_iload (pc := 40) C 4 dX5_looksAt_40 rfl ?_
    refine V_if_ne (pc := 42) (tgt := 49) C dX5_looksAt_42 (by decide) (fun c18 => ?_) (fun c18 => absurd c18 (by decide))
    refine V_iconst (pc := 49) C dX5_looksAt_49 ki_0 ?_
    refine V_callVi (pc := 50) (As := [.int a0, .int a1, .int 0]) (st := []) C (c_M_checks (wp_b h)) mk_X5_checks wd_738 dX5_looksAt_50 0 rfl rfl rfl ⟨Nat.le_of_ble_eq_true rfl, Nat.le_of_ble_eq_true rfl⟩ (Nat.le_of_ble_eq_true rfl) rfl (fun r20 u hw => ?_)
    obtain ⟨m_rowsBehind_21, m_rowsMany_22, m_forms_23, m_why_24, m_checks_25⟩ := u
    obtain ⟨h, z26⟩ := hw
    try dsimp only at h
    try dsimp only
    refine V_if_eq (pc := 53) (tgt := 58) C dX5_looksAt_53 (by decide) (fun c27 => ?_) (fun c27 => ?_)
    · replace h := wp_t h c27
      refine V_iload (pc := 58) C 4 dX5_looksAt_58 rfl ?_
      refine V_if_eq (pc := 60) (tgt := 94) C dX5_looksAt_60 (by decide) (fun c28 => absurd c28 (by decide)) (fun c28 => ?_)
      refine V_aload_n (pc := 63) C 0 dX5_looksAt_63 rfl rfl ?_
      refine V_iload_n (pc := 64) C 1 dX5_looksAt_64 rfl rfl ?_
      refine V_iload_n (pc := 65) C 2 dX5_looksAt_65 rfl rfl ?_
      refine V_callVi (pc := 66) (As := [.int a0, .int a1]) (st := []) C (c_M_otherwise (wp_b h)) mk_X5_otherwise wd_732 dX5_looksAt_66 0 rfl rfl rfl ⟨Nat.le_of_ble_eq_true rfl, Nat.le_of_ble_eq_true rfl⟩ (Nat.le_of_ble_eq_true rfl) rfl (fun r30 u hw => ?_)
      have h := hw
      try dsimp only at h
      try dsimp only
      refine V_iconst (pc := 69) C dX5_looksAt_69 ki_1 ?_
      refine V_aload_n (pc := 70) C 0 dX5_looksAt_70 rfl rfl ?_
      refine V_get (pc := 71) C 0 10 inX5 wd_599 dX5_looksAt_71 rfl rfl (by decide) rfl rfl ?_
      refine V_ishl (pc := 74) C dX5_looksAt_74 ?_
      refine V_iconst (pc := 75) C dX5_looksAt_75 ki_1 ?_
      refine V_isub (pc := 76) C dX5_looksAt_76 ?_
      refine V_icmp_ne (pc := 77) (tgt := 94) C dX5_looksAt_77 (by decide) (fun c31 => ?_) (fun c31 => ?_)
      · replace h := wp_f h c31
        refine V_iconst (pc := 94) C dX5_looksAt_94 ki_0 ?_
        exact V_iret (pc := 95) C hQ (m_rowsBehind_21, m_rowsMany_22, m_forms_23, m_why_24, m_checks_25) dX5_looksAt_95 rfl rfl ⟨wp_s h, rfl⟩
      · replace h := wp_t h c31
        refine V_aload_n (pc := 80) C 0 dX5_looksAt_80 rfl rfl ?_
        refine V_iload_n (pc := 81) C 1 dX5_looksAt_81 rfl rfl ?_
        refine V_iload_n (pc := 82) C 2 dX5_looksAt_82 rfl rfl ?_
        refine V_iconst (pc := 83) C dX5_looksAt_83 ki_1 ?_
        refine V_callVi (pc := 84) (As := [.int a0, .int a1, .int 1]) (st := []) C (c_M_checks (wp_b h)) mk_X5_checks wd_738 dX5_looksAt_84 0 rfl rfl rfl ⟨Nat.le_of_ble_eq_true rfl, Nat.le_of_ble_eq_true rfl⟩ (Nat.le_of_ble_eq_true rfl) rfl (fun r33 u hw => ?_)
        obtain ⟨m_rowsBehind_34, m_rowsMany_35, m_forms_36, m_why_37, m_checks_38⟩ := u
        obtain ⟨h, z39⟩ := hw
        try dsimp only at h
        try dsimp only
        refine V_if_eq (pc := 87) (tgt := 94) C dX5_looksAt_87 (by decide) (fun c40 => ?_) (fun c40 => ?_)
        · replace h := wp_t h c40
          refine V_iconst (pc := 94) C dX5_looksAt_94 ki_0 ?_
          exact V_iret (pc := 95) C hQ (m_rowsBehind_34, m_rowsMany_35, m_forms_36, m_why_37, m_checks_38) dX5_looksAt_95 rfl rfl ⟨wp_s h, rfl⟩
        · replace h := wp_f h c40
          refine V_iconst (pc := 90) C dX5_looksAt_90 ki_1 ?_
          refine V_goto (pc := 91) (tgt := 95) C dX5_looksAt_91 (by decide) ?_
          exact V_iret (pc := 95) C hQ (m_rowsBehind_34, m_rowsMany_35, m_forms_36, m_why_37, m_checks_38) dX5_looksAt_95 rfl rfl ⟨wp_s h, rfl⟩
    · replace h := wp_f h c27
      refine V_iconst (pc := 56) C dX5_looksAt_56 ki_1 ?_
      exact V_iret (pc := 57) C hQ (m_rowsBehind_21, m_rowsMany_22, m_forms_23, m_why_24, m_checks_25) dX5_looksAt_57 rfl rfl ⟨wp_s h, rfl⟩
set_option maxRecDepth 100000 in
set_option maxHeartbeats 4000000 in
theorem c_M_isByRules {l : Launch} {D : va_G} {cI cC : ClassId} {q_m : Nat → Nat} {m_now : Nat → Int32} {m_aside : Nat → Int32} {m_past : Nat → Int32} {m_states : Int32} {m_refused : Nat → Int32} {m_text : Nat → Int32} {m_length : Int32} {m_tables : Nat → Int32} {m_all : Int32} {m_rowsBehind : Nat → Int32} {m_rowsMany : Int32} {m_forms : Nat → Int32} {m_lesser : Nat → Int32} {m_greater : Nat → Int32} {m_why : Nat → Int32} {m_checks : Int32} {m_numbers : Nat → Int32} {m_depths : Nat → Int32} {m_spot : Int32} {m_isFaulty : Int32} {m_orders : Int32} {m_letters : Nat → Int32} {m_parts : Nat → Int32} {m_hash : Int64} {a0 : Int32} {a1 : Int32} {a2 : Int32} {post : Int32 × (Nat → Int32) × (Nat → Int32) → Prop} (h : wpO (M_isByRules m_forms m_why a0 a1 a2) post) : Cn l yX5_isByRules cX5_isByRules 4 (some .boolean) 1 23 D cI cC [.ref (q_m 0), .int a0, .int a1, .int a2] (wM cI q_m m_now m_aside m_past m_states m_refused m_text m_length m_tables m_all m_rowsBehind m_rowsMany m_forms m_lesser m_greater m_why m_checks m_numbers m_depths m_spot m_isFaulty m_orders m_letters m_parts m_hash) (QI D cI cC (S := (Nat → Int32) × (Nat → Int32)) (fun u => (wM cI q_m m_now m_aside m_past m_states m_refused m_text m_length m_tables m_all m_rowsBehind m_rowsMany u.1 m_lesser m_greater u.2 m_checks m_numbers m_depths m_spot m_isFaulty m_orders m_letters m_parts m_hash)) (fun r u => post (r, u) ∧ narrow .boolean (.int r) = .int r)) := by
  refine Cn.ofV (own := RX5) (lv0 := [(0, .ref (q_m 0)), (1, .int a0), (2, .int a1), (3, .int a2)]) rfl (by decide) (Nat.le_of_ble_eq_true rfl) rfl ?_
  intro p e s m below meth c A args Q hQ C
  unfold M_isByRules at h
  refine V_iload_n (pc := 0) C 2 dX5_isByRules_0 rfl rfl ?_
  refine V_if_eq (pc := 1) (tgt := 17) C dX5_isByRules_1 (by decide) (fun c1 => ?_) (fun c1 => ?_)
  · replace h := wp_t h c1
    refine V_aload_n (pc := 17) C 0 dX5_isByRules_17 rfl rfl ?_
    refine V_iload_n (pc := 18) C 1 dX5_isByRules_18 rfl rfl ?_
    refine V_iconst (pc := 19) C dX5_isByRules_19 ki_0 ?_
    refine V_iconst (pc := 20) C dX5_isByRules_20 ki_1 ?_
    refine V_callVv (pc := 21) (As := [.int a0, .int 0, .int 1]) (st := []) C (c_M_merges (wp_b h)) mk_X5_merges wd_714 dX5_isByRules_21 0 rfl rfl rfl ⟨Nat.le_of_ble_eq_true rfl, Nat.le_of_ble_eq_true rfl⟩ (Nat.le_of_ble_eq_true rfl) rfl (fun u hw => ?_)
    obtain ⟨m_forms_4, m_why_5⟩ := u
    have h := hw
    try dsimp only at h
    try dsimp only
    refine V_iconst (pc := 24) C dX5_isByRules_24 ki_1 ?_
    exact V_iret (pc := 25) C hQ (m_forms_4, m_why_5) dX5_isByRules_25 rfl rfl ⟨wp_s h, rfl⟩
  · replace h := wp_f h c1
    refine V_iload_n (pc := 4) C 3 dX5_isByRules_4 rfl rfl ?_
    refine V_iload_n (pc := 5) C 2 dX5_isByRules_5 rfl rfl ?_
    refine V_iconst (pc := 6) C dX5_isByRules_6 ki_1 ?_
    refine V_iadd (pc := 7) C dX5_isByRules_7 ?_
    refine V_icmp_ne (pc := 8) (tgt := 26) C dX5_isByRules_8 (by decide) (fun c6 => ?_) (fun c6 => ?_)
    · replace h := wp_f h c6
      refine V_iload_n (pc := 26) C 2 dX5_isByRules_26 rfl rfl ?_
      refine V_iconst (pc := 27) C dX5_isByRules_27 ki_1 ?_
      refine V_icmp_eq (pc := 28) (tgt := 36) C dX5_isByRules_28 (by decide) (fun c7 => ?_) (fun c7 => ?_)
      · replace h := wp_t h c7
        refine V_aload_n (pc := 36) C 0 dX5_isByRules_36 rfl rfl ?_
        refine V_iload_n (pc := 37) C 1 dX5_isByRules_37 rfl rfl ?_
        refine V_iload_n (pc := 38) C 3 dX5_isByRules_38 rfl rfl ?_
        refine V_iconst (pc := 39) C dX5_isByRules_39 ki_1 ?_
        refine V_callVv (pc := 40) (As := [.int a0, .int a2, .int 1]) (st := []) C (c_M_merges (wp_b h)) mk_X5_merges wd_714 dX5_isByRules_40 0 rfl rfl rfl ⟨Nat.le_of_ble_eq_true rfl, Nat.le_of_ble_eq_true rfl⟩ (Nat.le_of_ble_eq_true rfl) rfl (fun u hw => ?_)
        obtain ⟨m_forms_10, m_why_11⟩ := u
        have h := hw
        try dsimp only at h
        try dsimp only
        refine V_iconst (pc := 43) C dX5_isByRules_43 ki_1 ?_
        exact V_iret (pc := 44) C hQ (m_forms_10, m_why_11) dX5_isByRules_44 rfl rfl ⟨wp_s h, rfl⟩
      · replace h := wp_f h c7
        refine V_iload_n (pc := 31) C 2 dX5_isByRules_31 rfl rfl ?_
        refine V_iload_n (pc := 32) C 3 dX5_isByRules_32 rfl rfl ?_
        refine V_icmp_ne (pc := 33) (tgt := 45) C dX5_isByRules_33 (by decide) (fun c12 => ?_) (fun c12 => ?_)
        · replace h := wp_f h c12
          refine V_iconst (pc := 45) C dX5_isByRules_45 ki_0 ?_
          exact V_iret (pc := 46) C hQ (m_forms, m_why) dX5_isByRules_46 rfl rfl ⟨wp_s h, rfl⟩
        · replace h := wp_t h c12
          refine V_aload_n (pc := 36) C 0 dX5_isByRules_36 rfl rfl ?_
          refine V_iload_n (pc := 37) C 1 dX5_isByRules_37 rfl rfl ?_
          refine V_iload_n (pc := 38) C 3 dX5_isByRules_38 rfl rfl ?_
          refine V_iconst (pc := 39) C dX5_isByRules_39 ki_1 ?_
          refine V_callVv (pc := 40) (As := [.int a0, .int a2, .int 1]) (st := []) C (c_M_merges (wp_b h)) mk_X5_merges wd_714 dX5_isByRules_40 0 rfl rfl rfl ⟨Nat.le_of_ble_eq_true rfl, Nat.le_of_ble_eq_true rfl⟩ (Nat.le_of_ble_eq_true rfl) rfl (fun u hw => ?_)
          obtain ⟨m_forms_15, m_why_16⟩ := u
          have h := hw
          try dsimp only at h
          try dsimp only
          refine V_iconst (pc := 43) C dX5_isByRules_43 ki_1 ?_
          exact V_iret (pc := 44) C hQ (m_forms_15, m_why_16) dX5_isByRules_44 rfl rfl ⟨wp_s h, rfl⟩
    · replace h := wp_t h c6
      refine V_iload_n (pc := 11) C 2 dX5_isByRules_11 rfl rfl ?_
      refine V_iconst (pc := 12) C dX5_isByRules_12 ki_2 ?_
      refine V_irem (pc := 13) C dX5_isByRules_13 (by decide) ?_
      refine V_if_ne (pc := 14) (tgt := 26) C dX5_isByRules_14 (by decide) (fun c17 => ?_) (fun c17 => ?_)
      · replace h := wp_f h c17
        refine V_iload_n (pc := 26) C 2 dX5_isByRules_26 rfl rfl ?_
        refine V_iconst (pc := 27) C dX5_isByRules_27 ki_1 ?_
        refine V_icmp_eq (pc := 28) (tgt := 36) C dX5_isByRules_28 (by decide) (fun c18 => ?_) (fun c18 => ?_)
        · replace h := wp_t h c18
          refine V_aload_n (pc := 36) C 0 dX5_isByRules_36 rfl rfl ?_
          refine V_iload_n (pc := 37) C 1 dX5_isByRules_37 rfl rfl ?_
          refine V_iload_n (pc := 38) C 3 dX5_isByRules_38 rfl rfl ?_
          refine V_iconst (pc := 39) C dX5_isByRules_39 ki_1 ?_
          refine V_callVv (pc := 40) (As := [.int a0, .int a2, .int 1]) (st := []) C (c_M_merges (wp_b h)) mk_X5_merges wd_714 dX5_isByRules_40 0 rfl rfl rfl ⟨Nat.le_of_ble_eq_true rfl, Nat.le_of_ble_eq_true rfl⟩ (Nat.le_of_ble_eq_true rfl) rfl (fun u hw => ?_)
          obtain ⟨m_forms_21, m_why_22⟩ := u
          have h := hw
          try dsimp only at h
          try dsimp only
          refine V_iconst (pc := 43) C dX5_isByRules_43 ki_1 ?_
          exact V_iret (pc := 44) C hQ (m_forms_21, m_why_22) dX5_isByRules_44 rfl rfl ⟨wp_s h, rfl⟩
        · replace h := wp_f h c18
          refine V_iload_n (pc := 31) C 2 dX5_isByRules_31 rfl rfl ?_
          refine V_iload_n (pc := 32) C 3 dX5_isByRules_32 rfl rfl ?_
          refine V_icmp_ne (pc := 33) (tgt := 45) C dX5_isByRules_33 (by decide) (fun c23 => ?_) (fun c23 => ?_)
          · replace h := wp_f h c23
            refine V_iconst (pc := 45) C dX5_isByRules_45 ki_0 ?_
            exact V_iret (pc := 46) C hQ (m_forms, m_why) dX5_isByRules_46 rfl rfl ⟨wp_s h, rfl⟩
          · replace h := wp_t h c23
            refine V_aload_n (pc := 36) C 0 dX5_isByRules_36 rfl rfl ?_
            refine V_iload_n (pc := 37) C 1 dX5_isByRules_37 rfl rfl ?_
            refine V_iload_n (pc := 38) C 3 dX5_isByRules_38 rfl rfl ?_
            refine V_iconst (pc := 39) C dX5_isByRules_39 ki_1 ?_
            refine V_callVv (pc := 40) (As := [.int a0, .int a2, .int 1]) (st := []) C (c_M_merges (wp_b h)) mk_X5_merges wd_714 dX5_isByRules_40 0 rfl rfl rfl ⟨Nat.le_of_ble_eq_true rfl, Nat.le_of_ble_eq_true rfl⟩ (Nat.le_of_ble_eq_true rfl) rfl (fun u hw => ?_)
            obtain ⟨m_forms_26, m_why_27⟩ := u
            have h := hw
            try dsimp only at h
            try dsimp only
            refine V_iconst (pc := 43) C dX5_isByRules_43 ki_1 ?_
            exact V_iret (pc := 44) C hQ (m_forms_26, m_why_27) dX5_isByRules_44 rfl rfl ⟨wp_s h, rfl⟩
      · replace h := wp_t h c17
        refine V_aload_n (pc := 17) C 0 dX5_isByRules_17 rfl rfl ?_
        refine V_iload_n (pc := 18) C 1 dX5_isByRules_18 rfl rfl ?_
        refine V_iconst (pc := 19) C dX5_isByRules_19 ki_0 ?_
        refine V_iconst (pc := 20) C dX5_isByRules_20 ki_1 ?_
        refine V_callVv (pc := 21) (As := [.int a0, .int 0, .int 1]) (st := []) C (c_M_merges (wp_b h)) mk_X5_merges wd_714 dX5_isByRules_21 0 rfl rfl rfl ⟨Nat.le_of_ble_eq_true rfl, Nat.le_of_ble_eq_true rfl⟩ (Nat.le_of_ble_eq_true rfl) rfl (fun u hw => ?_)
        obtain ⟨m_forms_30, m_why_31⟩ := u
        have h := hw
        try dsimp only at h
        try dsimp only
        refine V_iconst (pc := 24) C dX5_isByRules_24 ki_1 ?_
        exact V_iret (pc := 25) C hQ (m_forms_30, m_why_31) dX5_isByRules_25 rfl rfl ⟨wp_s h, rfl⟩
set_option maxRecDepth 100000 in
set_option maxHeartbeats 4000000 in
theorem c_M_isThere {l : Launch} {D : va_G} {cI cC : ClassId} {q_m : Nat → Nat} {m_now : Nat → Int32} {m_aside : Nat → Int32} {m_past : Nat → Int32} {m_states : Int32} {m_refused : Nat → Int32} {m_text : Nat → Int32} {m_length : Int32} {m_tables : Nat → Int32} {m_all : Int32} {m_rowsBehind : Nat → Int32} {m_rowsMany : Int32} {m_forms : Nat → Int32} {m_lesser : Nat → Int32} {m_greater : Nat → Int32} {m_why : Nat → Int32} {m_checks : Int32} {m_numbers : Nat → Int32} {m_depths : Nat → Int32} {m_spot : Int32} {m_isFaulty : Int32} {m_orders : Int32} {m_letters : Nat → Int32} {m_parts : Nat → Int32} {m_hash : Int64} {a0 : Int32} {a1 : Int32} {a2 : Int32} {post : Int32 × (Nat → Int32) × (Nat → Int32) → Prop} (h : wpO (M_isThere m_now m_forms m_lesser m_greater m_why a0 a1 a2) post) : Cn l yX5_isThere cX5_isThere 5 (some .boolean) 1 23 D cI cC [.ref (q_m 0), .int a0, .int a1, .int a2] (wM cI q_m m_now m_aside m_past m_states m_refused m_text m_length m_tables m_all m_rowsBehind m_rowsMany m_forms m_lesser m_greater m_why m_checks m_numbers m_depths m_spot m_isFaulty m_orders m_letters m_parts m_hash) (QI D cI cC (S := (Nat → Int32) × (Nat → Int32)) (fun u => (wM cI q_m m_now m_aside m_past m_states m_refused m_text m_length m_tables m_all m_rowsBehind m_rowsMany u.1 m_lesser m_greater u.2 m_checks m_numbers m_depths m_spot m_isFaulty m_orders m_letters m_parts m_hash)) (fun r u => post (r, u) ∧ narrow .boolean (.int r) = .int r)) := by
  refine Cn.ofV (own := RX5) (lv0 := [(0, .ref (q_m 0)), (1, .int a0), (2, .int a1), (3, .int a2)]) rfl (by decide) (Nat.le_of_ble_eq_true rfl) rfl ?_
  intro p e s m below meth c A args Q hQ C
  have hL_10 : ∀ (K : Int32 → Option (Int32 × (Nat → Int32) × (Nat → Int32))) (m_forms : Nat → Int32) (m_why : Nat → Int32) (l1 : Int32) (l2 : Int32) (l3 : Int32), (∀ (l4 : Int32), wpO (K l4) post → V p l e (rmC 1 23) s m args below meth c D A 5 0 0 Q (wM cI q_m m_now m_aside m_past m_states m_refused m_text m_length m_tables m_all m_rowsBehind m_rowsMany m_forms m_lesser m_greater m_why m_checks m_numbers m_depths m_spot m_isFaulty m_orders m_letters m_parts m_hash) [(0, .ref (q_m 0)), (1, .int l1), (4, .int l4)] 48 []) → ∀ (n : Nat) (l4 : Int32), wpO (M_isThere_10 K m_forms m_lesser m_greater m_why l1 l2 l3 n l4) post → V p l e (rmC 1 23) s m args below meth c D A 5 0 0 Q (wM cI q_m m_now m_aside m_past m_states m_refused m_text m_length m_tables m_all m_rowsBehind m_rowsMany m_forms m_lesser m_greater m_why m_checks m_numbers m_depths m_spot m_isFaulty m_orders m_letters m_parts m_hash) [(0, .ref (q_m 0)), (1, .int l1), (2, .int l2), (3, .int l3), (4, .int l4)] 10 [] := by
    intro K m_forms m_why l1 l2 l3 hK n
    induction n with
    | zero => intro l4 h; rw [M_isThere_10] at h; exact (wp_n h).elim
    | succ n ih =>
      intro l4 h
      rw [M_isThere_10] at h
      refine V_iload (pc := 10) C 4 dX5_isThere_10 rfl ?_
      refine V_iload_n (pc := 12) C 1 dX5_isThere_12 rfl rfl ?_
      refine V_icmp_ge (pc := 13) (tgt := 66) C dX5_isThere_13 (by decide) (fun c1 => ?_) (fun c1 => ?_)
      · replace h := wp_t h c1
        refine V_iconst (pc := 66) C dX5_isThere_66 ki_0 ?_
        exact V_iret (pc := 67) C hQ (m_forms, m_why) dX5_isThere_67 rfl rfl ⟨wp_s h, rfl⟩
      · replace h := wp_f h c1
        refine V_aload_n (pc := 16) C 0 dX5_isThere_16 rfl rfl ?_
        refine V_get (pc := 17) C 0 14 inX5 wd_603 dX5_isThere_17 rfl rfl (by decide) rfl rfl ?_
        refine V_iload (pc := 20) C 4 dX5_isThere_20 rfl ?_
        obtain ⟨b2, h⟩ := wp_c h
        refine V_iald (pc := 22) C 11 dX5_isThere_22 rfl b2 ?_
        refine V_if_ne (pc := 23) (tgt := 60) C dX5_isThere_23 (by decide) (fun c3 => ?_) (fun c3 => ?_)
        · replace h := wp_f h c3
          obtain ⟨v4, ev4, h⟩ := wp_l h
          refine V_iinc (pc := 60) (v := v4) (lv' := [(0, .ref (q_m 0)), (1, .int l1), (2, .int l2), (3, .int l3), (4, .int v4)]) (j := 4) C dX5_isThere_60 rfl (by rw [ev4]; rfl) [1, 2, 3, 4, 0] (by decide) rfl ?_
          refine V_goto (pc := 63) (tgt := 10) C dX5_isThere_63 (by decide) ?_
          exact ih _ h
        · replace h := wp_t h c3
          refine V_aload_n (pc := 26) C 0 dX5_isThere_26 rfl rfl ?_
          refine V_get (pc := 27) C 0 12 inX5 wd_601 dX5_isThere_27 rfl rfl (by decide) rfl rfl ?_
          refine V_iload (pc := 30) C 4 dX5_isThere_30 rfl ?_
          obtain ⟨b5, h⟩ := wp_c h
          refine V_iald (pc := 32) C 9 dX5_isThere_32 rfl b5 ?_
          refine V_iload_n (pc := 33) C 2 dX5_isThere_33 rfl rfl ?_
          refine V_icmp_ne (pc := 34) (tgt := 60) C dX5_isThere_34 (by decide) (fun c6 => ?_) (fun c6 => ?_)
          · replace h := wp_f h c6
            obtain ⟨v7, ev7, h⟩ := wp_l h
            refine V_iinc (pc := 60) (v := v7) (lv' := [(0, .ref (q_m 0)), (1, .int l1), (2, .int l2), (3, .int l3), (4, .int v7)]) (j := 4) C dX5_isThere_60 rfl (by rw [ev7]; rfl) [1, 2, 3, 4, 0] (by decide) rfl ?_
            refine V_goto (pc := 63) (tgt := 10) C dX5_isThere_63 (by decide) ?_
            exact ih _ h
          · replace h := wp_t h c6
            refine V_aload_n (pc := 37) C 0 dX5_isThere_37 rfl rfl ?_
            refine V_get (pc := 38) C 0 13 inX5 wd_602 dX5_isThere_38 rfl rfl (by decide) rfl rfl ?_
            refine V_iload (pc := 41) C 4 dX5_isThere_41 rfl ?_
            obtain ⟨b8, h⟩ := wp_c h
            refine V_iald (pc := 43) C 10 dX5_isThere_43 rfl b8 ?_
            refine V_iload_n (pc := 44) C 3 dX5_isThere_44 rfl rfl ?_
            refine V_icmp_ne (pc := 45) (tgt := 60) C dX5_isThere_45 (by decide) (fun c9 => ?_) (fun c9 => ?_)
            · replace h := wp_f h c9
              obtain ⟨v10, ev10, h⟩ := wp_l h
              refine V_iinc (pc := 60) (v := v10) (lv' := [(0, .ref (q_m 0)), (1, .int l1), (2, .int l2), (3, .int l3), (4, .int v10)]) (j := 4) C dX5_isThere_60 rfl (by rw [ev10]; rfl) [1, 2, 3, 4, 0] (by decide) rfl ?_
              refine V_goto (pc := 63) (tgt := 10) C dX5_isThere_63 (by decide) ?_
              exact ih _ h
            · replace h := wp_t h c9
              refine V_lv (pc := 48) [0, 1, 4] rfl ?_
              exact hK _ h
  unfold M_isThere at h
  refine V_aload_n (pc := 0) C 0 dX5_isThere_0 rfl rfl ?_
  refine V_get (pc := 1) C 0 0 inX5 wd_589 dX5_isThere_1 rfl rfl (by decide) rfl rfl ?_
  refine V_iconst (pc := 4) C dX5_isThere_4 ki_0 ?_
  obtain ⟨b11, h⟩ := wp_c h
  refine V_iald (pc := 5) C 1 dX5_isThere_5 rfl b11 ?_
  refine V_iconst (pc := 6) C dX5_isThere_6 ki_1 ?_
  refine V_iadd (pc := 7) C dX5_isThere_7 ?_
  obtain ⟨v12, ev12, h⟩ := wp_l h
  refine V_topi (pc := 8) ev12 ?_
  refine V_istore (pc := 8) (lv' := [(0, .ref (q_m 0)), (1, .int a0), (2, .int a1), (3, .int a2), (4, .int v12)]) C dX5_isThere_8 [1, 2, 3, 4, 0] (by decide) rfl ?_
  refine hL_10 _ _ _ _ _ _ (fun l4_13 h => ?_) 1000 _ h
  try dsimp only at h
  refine V_aload_n (pc := 48) C 0 dX5_isThere_48 rfl rfl ?_
  refine V_iload_n (pc := 49) C 1 dX5_isThere_49 rfl rfl ?_
  refine V_iconst (pc := 50) C dX5_isThere_50 ki_2 ?_
  refine V_iload (pc := 51) C 2 dX5_isThere_51 rfl ?_
  refine V_imul (pc := 53) C dX5_isThere_53 ?_
  refine V_iconst (pc := 54) C dX5_isThere_54 ki_2 ?_
  refine V_callVv (pc := 55) (As := [.int a0, .int ((2 : Int32) * l4_13), .int 2]) (st := []) C (c_M_merges (wp_b h)) mk_X5_merges wd_714 dX5_isThere_55 0 rfl rfl rfl ⟨Nat.le_of_ble_eq_true rfl, Nat.le_of_ble_eq_true rfl⟩ (Nat.le_of_ble_eq_true rfl) rfl (fun u hw => ?_)
  obtain ⟨m_forms_16, m_why_17⟩ := u
  have h := hw
  try dsimp only at h
  try dsimp only
  refine V_iconst (pc := 58) C dX5_isThere_58 ki_1 ?_
  exact V_iret (pc := 59) C hQ (m_forms_16, m_why_17) dX5_isThere_59 rfl rfl ⟨wp_s h, rfl⟩
