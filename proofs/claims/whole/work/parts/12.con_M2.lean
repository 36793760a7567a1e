set_option maxRecDepth 100000 in
set_option maxHeartbeats 4000000 in
theorem c_M_sweepsGate {l : Launch} {D : va_G} {cI cC : ClassId} {q_m : Nat → Nat} {m_now : Nat → Int32} {m_aside : Nat → Int32} {m_past : Nat → Int32} {m_states : Int32} {m_refused : Nat → Int32} {m_text : Nat → Int32} {m_length : Int32} {m_tables : Nat → Int32} {m_all : Int32} {m_rowsBehind : Nat → Int32} {m_rowsMany : Int32} {m_forms : Nat → Int32} {m_lesser : Nat → Int32} {m_greater : Nat → Int32} {m_why : Nat → Int32} {m_checks : Int32} {m_numbers : Nat → Int32} {m_depths : Nat → Int32} {m_spot : Int32} {m_isFaulty : Int32} {m_orders : Int32} {m_letters : Nat → Int32} {m_parts : Nat → Int32} {m_hash : Int64} {a0 : Int32} {post : (Nat → Int32) × Int32 × (Nat → Int32) × (Nat → Int32) × (Nat → Int32) × (Nat → Int32) × Int32 → Prop} (h : wpO (M_sweepsGate m_now m_tables m_all m_rowsBehind m_rowsMany m_forms m_lesser m_greater m_why m_checks a0) post) : Cn l yX5_sweepsGate cX5_sweepsGate 7 none 3 71 D cI cC [.ref (q_m 0), .int a0] (wM cI q_m m_now m_aside m_past m_states m_refused m_text m_length m_tables m_all m_rowsBehind m_rowsMany m_forms m_lesser m_greater m_why m_checks m_numbers m_depths m_spot m_isFaulty m_orders m_letters m_parts m_hash) (QV D cI cC (S := (Nat → Int32) × Int32 × (Nat → Int32) × (Nat → Int32) × (Nat → Int32) × (Nat → Int32) × Int32) (fun u => (wM cI q_m m_now m_aside m_past m_states m_refused m_text m_length m_tables m_all u.1 u.2.1 u.2.2.1 u.2.2.2.1 u.2.2.2.2.1 u.2.2.2.2.2.1 u.2.2.2.2.2.2 m_numbers m_depths m_spot m_isFaulty m_orders m_letters m_parts m_hash)) (fun u => post u)) := by
  refine Cn.ofV (own := RX5) (lv0 := [(0, .ref (q_m 0)), (1, .int a0)]) rfl (by decide) (Nat.le_of_ble_eq_true rfl) rfl ?_
  intro p e s m below meth c A args Q hQ C
  have hL_79 : ∀ (K : (Nat → Int32) → Int32 → (Nat → Int32) → (Nat → Int32) → Int32 → Option ((Nat → Int32) × Int32 × (Nat → Int32) × (Nat → Int32) × (Nat → Int32) × (Nat → Int32) × Int32)) (m_lesser : Nat → Int32) (m_greater : Nat → Int32) (l1 : Int32) (l4 : Int32) (l5 : Int32), (∀ (m_rowsBehind : Nat → Int32) (m_rowsMany : Int32) (m_forms : Nat → Int32) (m_why : Nat → Int32) (m_checks : Int32), wpO (K m_rowsBehind m_rowsMany m_forms m_why m_checks) post → V p l e (rmC 3 71) s m args below meth c D A 7 0 0 Q (wM cI q_m m_now m_aside m_past m_states m_refused m_text m_length m_tables m_all m_rowsBehind m_rowsMany m_forms m_lesser m_greater m_why m_checks m_numbers m_depths m_spot m_isFaulty m_orders m_letters m_parts m_hash) [(0, .ref (q_m 0)), (1, .int l1), (4, .int l4), (5, .int l5)] 112 []) → ∀ (n : Nat) (l6 : Int32) (m_rowsBehind : Nat → Int32) (m_rowsMany : Int32) (m_forms : Nat → Int32) (m_why : Nat → Int32) (m_checks : Int32), wpO (M_sweepsGate_79 K m_tables m_all m_lesser m_greater l1 l4 l5 n l6 m_rowsBehind m_rowsMany m_forms m_why m_checks) post → V p l e (rmC 3 71) s m args below meth c D A 7 0 0 Q (wM cI q_m m_now m_aside m_past m_states m_refused m_text m_length m_tables m_all m_rowsBehind m_rowsMany m_forms m_lesser m_greater m_why m_checks m_numbers m_depths m_spot m_isFaulty m_orders m_letters m_parts m_hash) [(0, .ref (q_m 0)), (1, .int l1), (4, .int l4), (5, .int l5), (6, .int l6)] 79 [] := by
    intro K m_lesser m_greater l1 l4 l5 hK n
    induction n with
    | zero => intro l6 m_rowsBehind m_rowsMany m_forms m_why m_checks h; rw [M_sweepsGate_79] at h; exact (wp_n h).elim
    | succ n ih =>
      intro l6 m_rowsBehind m_rowsMany m_forms m_why m_checks h
      rw [M_sweepsGate_79] at h
      refine V_iload (pc := 79) C 4 dX5_sweepsGate_79 rfl ?_
      refine V_iload_n (pc := 81) C 1 dX5_sweepsGate_81 rfl rfl ?_
      refine V_icmp_ge (pc := 82) (tgt := 112) C dX5_sweepsGate_82 (by decide) (fun c1 => ?_) (fun c1 => ?_)
      · replace h := wp_t h c1
        refine V_lv (pc := 112) [0, 1, 2, 3] rfl ?_
        exact hK _ _ _ _ _ h
      · replace h := wp_f h c1
        refine V_aload_n (pc := 85) C 0 dX5_sweepsGate_85 rfl rfl ?_
        refine V_get (pc := 86) C 0 14 inX5 wd_603 dX5_sweepsGate_86 rfl rfl (by decide) rfl rfl ?_
        refine V_iload (pc := 89) C 4 dX5_sweepsGate_89 rfl ?_
        obtain ⟨b2, h⟩ := wp_c h
        refine V_iald (pc := 91) C 11 dX5_sweepsGate_91 rfl b2 ?_
        refine V_if_ne (pc := 92) (tgt := 106) C dX5_sweepsGate_92 (by decide) (fun c3 => ?_) (fun c3 => ?_)
        · replace h := wp_f h c3
          obtain ⟨v4, ev4, h⟩ := wp_l h
          refine V_iinc (pc := 106) (v := v4) (lv' := [(0, .ref (q_m 0)), (1, .int l1), (4, .int l4), (5, .int l5), (6, .int v4)]) (j := 4) C dX5_sweepsGate_106 rfl (by rw [ev4]; rfl) [1, 2, 3, 4, 0] (by decide) rfl ?_
          refine V_goto (pc := 109) (tgt := 79) C dX5_sweepsGate_109 (by decide) ?_
          exact ih _ _ _ _ _ _ h
        · replace h := wp_t h c3
          refine V_aload_n (pc := 95) C 0 dX5_sweepsGate_95 rfl rfl ?_
          refine V_iload_n (pc := 96) C 1 dX5_sweepsGate_96 rfl rfl ?_
          refine V_iload (pc := 97) C 4 dX5_sweepsGate_97 rfl ?_
          refine V_callVi (pc := 99) (As := [.int l1, .int l6]) (st := []) C (c_M_looksAt (wp_b h)) mk_X5_looksAt wd_729 dX5_sweepsGate_99 0 rfl rfl rfl ⟨Nat.le_of_ble_eq_true rfl, Nat.le_of_ble_eq_true rfl⟩ (Nat.le_of_ble_eq_true rfl) rfl (fun r6 u hw => ?_)
          obtain ⟨m_rowsBehind_7, m_rowsMany_8, m_forms_9, m_why_10, m_checks_11⟩ := u
          obtain ⟨h, z12⟩ := hw
          try dsimp only at h
          try dsimp only
          refine V_if_eq (pc := 102) (tgt := 106) C dX5_sweepsGate_102 (by decide) (fun c13 => ?_) (fun c13 => ?_)
          · replace h := wp_t h c13
            obtain ⟨v14, ev14, h⟩ := wp_l h
            refine V_iinc (pc := 106) (v := v14) (lv' := [(0, .ref (q_m 0)), (1, .int l1), (4, .int l4), (5, .int l5), (6, .int v14)]) (j := 4) C dX5_sweepsGate_106 rfl (by rw [ev14]; rfl) [1, 2, 3, 4, 0] (by decide) rfl ?_
            refine V_goto (pc := 109) (tgt := 79) C dX5_sweepsGate_109 (by decide) ?_
            exact ih _ _ _ _ _ _ h
          · replace h := wp_f h c13
            exact V_vret (pc := 105) C hQ (m_rowsBehind_7, m_rowsMany_8, m_forms_9, m_lesser, m_greater, m_why_10, m_checks_11) dX5_sweepsGate_105 rfl (wp_s h)
  unfold M_sweepsGate at h
  refine V_aload_n (pc := 0) C 0 dX5_sweepsGate_0 rfl rfl ?_
  refine V_aload_n (pc := 1) C 0 dX5_sweepsGate_1 rfl rfl ?_
  refine V_get (pc := 2) C 0 0 inX5 wd_589 dX5_sweepsGate_2 rfl rfl (by decide) rfl rfl ?_
  refine V_iconst (pc := 5) C dX5_sweepsGate_5 ki_2 ?_
  refine V_iload_n (pc := 6) C 1 dX5_sweepsGate_6 rfl rfl ?_
  refine V_iadd (pc := 7) C dX5_sweepsGate_7 ?_
  obtain ⟨b15, h⟩ := wp_c h
  refine V_iald (pc := 8) C 1 dX5_sweepsGate_8 rfl b15 ?_
  refine V_callVi (pc := 9) (As := [.int (m_now (Int32.toNatClampNeg ((2 : Int32) + a0)))]) (st := []) C (c_M_formOf (wp_b h)) mk_X5_formOf wd_720 dX5_sweepsGate_9 0 rfl rfl rfl ⟨Nat.le_of_ble_eq_true rfl, Nat.le_of_ble_eq_true rfl⟩ (Nat.le_of_ble_eq_true rfl) rfl (fun r17 u hw => ?_)
  have h := hw
  try dsimp only at h
  try dsimp only
  refine V_istore_n (pc := 12) (lv' := [(0, .ref (q_m 0)), (1, .int a0), (2, .int r17)]) C dX5_sweepsGate_12 rfl [1, 2, 0] (by decide) rfl ?_
  refine V_aload_n (pc := 13) C 0 dX5_sweepsGate_13 rfl rfl ?_
  refine V_aload_n (pc := 14) C 0 dX5_sweepsGate_14 rfl rfl ?_
  refine V_get (pc := 15) C 0 0 inX5 wd_589 dX5_sweepsGate_15 rfl rfl (by decide) rfl rfl ?_
  refine V_bipush (pc := 18) C dX5_sweepsGate_18 kb_50 ?_
  refine V_iload_n (pc := 20) C 1 dX5_sweepsGate_20 rfl rfl ?_
  refine V_iadd (pc := 21) C dX5_sweepsGate_21 ?_
  obtain ⟨b18, h⟩ := wp_c h
  refine V_iald (pc := 22) C 1 dX5_sweepsGate_22 rfl b18 ?_
  refine V_callVi (pc := 23) (As := [.int (m_now (Int32.toNatClampNeg ((50 : Int32) + a0)))]) (st := []) C (c_M_formOf (wp_b h)) mk_X5_formOf wd_720 dX5_sweepsGate_23 0 rfl rfl rfl ⟨Nat.le_of_ble_eq_true rfl, Nat.le_of_ble_eq_true rfl⟩ (Nat.le_of_ble_eq_true rfl) rfl (fun r20 u hw => ?_)
  have h := hw
  try dsimp only at h
  try dsimp only
  refine V_istore_n (pc := 26) (lv' := [(0, .ref (q_m 0)), (1, .int a0), (2, .int r17), (3, .int r20)]) C dX5_sweepsGate_26 rfl [1, 2, 3, 0] (by decide) rfl ?_
  refine V_iload_n (pc := 27) C 2 dX5_sweepsGate_27 rfl rfl ?_
  refine V_iload_n (pc := 28) C 3 dX5_sweepsGate_28 rfl rfl ?_
  refine V_icmp_ge (pc := 29) (tgt := 36) C dX5_sweepsGate_29 (by decide) (fun c21 => ?_) (fun c21 => ?_)
  · replace h := wp_t h c21
    refine V_iload_n (pc := 36) C 3 dX5_sweepsGate_36 rfl rfl ?_
    refine V_istore (pc := 37) (lv' := [(0, .ref (q_m 0)), (1, .int a0), (2, .int r17), (3, .int r20), (4, .int r20)]) C dX5_sweepsGate_37 [1, 2, 3, 4, 0] (by decide) rfl ?_
    refine V_iload_n (pc := 39) C 2 dX5_sweepsGate_39 rfl rfl ?_
    refine V_iload_n (pc := 40) C 3 dX5_sweepsGate_40 rfl rfl ?_
    refine V_icmp_ge (pc := 41) (tgt := 48) C dX5_sweepsGate_41 (by decide) (fun c22 => ?_) (fun c22 => absurd c21 c22)
    refine V_iload_n (pc := 48) C 2 dX5_sweepsGate_48 rfl rfl ?_
    refine V_istore (pc := 49) (lv' := [(0, .ref (q_m 0)), (1, .int a0), (2, .int r17), (3, .int r20), (4, .int r20), (5, .int r17)]) C dX5_sweepsGate_49 [1, 2, 3, 4, 5, 0] (by decide) rfl ?_
    refine V_aload_n (pc := 51) C 0 dX5_sweepsGate_51 rfl rfl ?_
    refine V_iload_n (pc := 52) C 1 dX5_sweepsGate_52 rfl rfl ?_
    refine V_iload (pc := 53) C 4 dX5_sweepsGate_53 rfl ?_
    refine V_iload (pc := 55) C 5 dX5_sweepsGate_55 rfl ?_
    refine V_callVi (pc := 57) (As := [.int a0, .int r20, .int r17]) (st := []) C (c_M_isByRules (wp_b h)) mk_X5_isByRules wd_723 dX5_sweepsGate_57 0 rfl rfl rfl ⟨Nat.le_of_ble_eq_true rfl, Nat.le_of_ble_eq_true rfl⟩ (Nat.le_of_ble_eq_true rfl) rfl (fun r24 u hw => ?_)
    obtain ⟨m_forms_25, m_why_26⟩ := u
    obtain ⟨h, z27⟩ := hw
    try dsimp only at h
    try dsimp only
    refine V_if_ne (pc := 60) (tgt := 75) C dX5_sweepsGate_60 (by decide) (fun c28 => ?_) (fun c28 => ?_)
    · replace h := wp_f h c28
      exact V_vret (pc := 75) C hQ (m_rowsBehind, m_rowsMany, m_forms_25, m_lesser, m_greater, m_why_26, m_checks) dX5_sweepsGate_75 rfl (wp_s h)
    · replace h := wp_t h c28
      refine V_aload_n (pc := 63) C 0 dX5_sweepsGate_63 rfl rfl ?_
      refine V_iload_n (pc := 64) C 1 dX5_sweepsGate_64 rfl rfl ?_
      refine V_iload (pc := 65) C 4 dX5_sweepsGate_65 rfl ?_
      refine V_iload (pc := 67) C 5 dX5_sweepsGate_67 rfl ?_
      refine V_callVi (pc := 69) (As := [.int a0, .int r20, .int r17]) (st := []) C (c_M_isThere (wp_b h)) mk_X5_isThere wd_726 dX5_sweepsGate_69 0 rfl rfl rfl ⟨Nat.le_of_ble_eq_true rfl, Nat.le_of_ble_eq_true rfl⟩ (Nat.le_of_ble_eq_true rfl) rfl (fun r30 u hw => ?_)
      obtain ⟨m_forms_31, m_why_32⟩ := u
      obtain ⟨h, z33⟩ := hw
      try dsimp only at h
      try dsimp only
      refine V_if_eq (pc := 72) (tgt := 76) C dX5_sweepsGate_72 (by decide) (fun c34 => ?_) (fun c34 => ?_)
      · replace h := wp_t h c34
        refine V_iconst (pc := 76) C dX5_sweepsGate_76 ki_0 ?_
        refine V_istore (pc := 77) (lv' := [(0, .ref (q_m 0)), (1, .int a0), (2, .int r17), (3, .int r20), (4, .int r20), (5, .int r17), (6, .int 0)]) C dX5_sweepsGate_77 [1, 2, 3, 4, 5, 6, 0] (by decide) rfl ?_
        refine V_lv (pc := 79) [0, 1, 4, 5, 6] rfl ?_
        refine hL_79 _ _ _ _ _ _ (fun m_rowsBehind_35 m_rowsMany_36 m_forms_37 m_why_38 m_checks_39 h => ?_) 1000 _ _ _ _ _ _ h
        try dsimp only at h
        refine V_aload_n (pc := 112) C 0 dX5_sweepsGate_112 rfl rfl ?_
        refine V_iload_n (pc := 113) C 1 dX5_sweepsGate_113 rfl rfl ?_
        refine V_iconst (pc := 114) C dX5_sweepsGate_114 ki_2 ?_
        refine V_iload_n (pc := 115) C 1 dX5_sweepsGate_115 rfl rfl ?_
        refine V_imul (pc := 116) C dX5_sweepsGate_116 ?_
        refine V_iconst (pc := 117) C dX5_sweepsGate_117 ki_0 ?_
        refine V_callVv (pc := 118) (As := [.int a0, .int ((2 : Int32) * a0), .int 0]) (st := []) C (c_M_merges (wp_b h)) mk_X5_merges wd_714 dX5_sweepsGate_118 0 rfl rfl rfl ⟨Nat.le_of_ble_eq_true rfl, Nat.le_of_ble_eq_true rfl⟩ (Nat.le_of_ble_eq_true rfl) rfl (fun u hw => ?_)
        obtain ⟨m_forms_42, m_why_43⟩ := u
        have h := hw
        try dsimp only at h
        try dsimp only
        refine V_aload_n (pc := 121) C 0 dX5_sweepsGate_121 rfl rfl ?_
        refine V_get (pc := 122) C 0 12 inX5 wd_601 dX5_sweepsGate_122 rfl rfl (by decide) rfl rfl ?_
        refine V_iload_n (pc := 125) C 1 dX5_sweepsGate_125 rfl rfl ?_
        refine V_iload (pc := 126) C 2 dX5_sweepsGate_126 rfl ?_
        obtain ⟨b44, h⟩ := wp_c h
        obtain ⟨m_lesser_45, em_lesser_45, h⟩ := wp_l h
        refine V_iast (pc := 128) (ws' := (wM cI q_m m_now m_aside m_past m_states m_refused m_text m_length m_tables m_all m_rowsBehind_35 m_rowsMany_36 m_forms_42 m_lesser_45 m_greater m_why_43 m_checks_39 m_numbers m_depths m_spot m_isFaulty m_orders m_letters m_parts m_hash)) C 9 dX5_sweepsGate_128 rfl b44 em_lesser_45 rfl ?_
        refine V_aload_n (pc := 129) C 0 dX5_sweepsGate_129 rfl rfl ?_
        refine V_get (pc := 130) C 0 13 inX5 wd_602 dX5_sweepsGate_130 rfl rfl (by decide) rfl rfl ?_
        refine V_iload_n (pc := 133) C 1 dX5_sweepsGate_133 rfl rfl ?_
        refine V_iload (pc := 134) C 3 dX5_sweepsGate_134 rfl ?_
        obtain ⟨b46, h⟩ := wp_c h
        obtain ⟨m_greater_47, em_greater_47, h⟩ := wp_l h
        refine V_iast (pc := 136) (ws' := (wM cI q_m m_now m_aside m_past m_states m_refused m_text m_length m_tables m_all m_rowsBehind_35 m_rowsMany_36 m_forms_42 m_lesser_45 m_greater_47 m_why_43 m_checks_39 m_numbers m_depths m_spot m_isFaulty m_orders m_letters m_parts m_hash)) C 10 dX5_sweepsGate_136 rfl b46 em_greater_47 rfl ?_
        exact V_vret (pc := 137) C hQ (m_rowsBehind_35, m_rowsMany_36, m_forms_42, m_lesser_45, m_greater_47, m_why_43, m_checks_39) dX5_sweepsGate_137 rfl (wp_s h)
      · replace h := wp_f h c34
        exact V_vret (pc := 75) C hQ (m_rowsBehind, m_rowsMany, m_forms_31, m_lesser, m_greater, m_why_32, m_checks) dX5_sweepsGate_75 rfl (wp_s h)
  · replace h := wp_f h c21
    refine V_iload_n (pc := 32) C 2 dX5_sweepsGate_32 rfl rfl ?_
    refine V_goto (pc := 33) (tgt := 37) C dX5_sweepsGate_33 (by decide) ?_
    refine V_istore (pc := 37) (lv' := [(0, .ref (q_m 0)), (1, .int a0), (2, .int r17), (3, .int r20), (4, .int r17)]) C dX5_sweepsGate_37 [1, 2, 3, 4, 0] (by decide) rfl ?_
    refine V_iload_n (pc := 39) C 2 dX5_sweepsGate_39 rfl rfl ?_
    refine V_iload_n (pc := 40) C 3 dX5_sweepsGate_40 rfl rfl ?_
    refine V_icmp_ge (pc := 41) (tgt := 48) C dX5_sweepsGate_41 (by decide) (fun c48 => absurd c48 c21) (fun c48 => ?_)
    refine V_iload_n (pc := 44) C 3 dX5_sweepsGate_44 rfl rfl ?_
    refine V_goto (pc := 45) (tgt := 49) C dX5_sweepsGate_45 (by decide) ?_
    refine V_istore (pc := 49) (lv' := [(0, .ref (q_m 0)), (1, .int a0), (2, .int r17), (3, .int r20), (4, .int r17), (5, .int r20)]) C dX5_sweepsGate_49 [1, 2, 3, 4, 5, 0] (by decide) rfl ?_
    refine V_aload_n (pc := 51) C 0 dX5_sweepsGate_51 rfl rfl ?_
    refine V_iload_n (pc := 52) C 1 dX5_sweepsGate_52 rfl rfl ?_
    refine V_iload (pc := 53) C 4 dX5_sweepsGate_53 rfl ?_
    refine V_iload (pc := 55) C 5 dX5_sweepsGate_55 rfl ?_
    refine V_callVi (pc := 57) (As := [.int a0, .int r17, .int r20]) (st := []) C (c_M_isByRules (wp_b h)) mk_X5_isByRules wd_723 dX5_sweepsGate_57 0 rfl rfl rfl ⟨Nat.le_of_ble_eq_true rfl, Nat.le_of_ble_eq_true rfl⟩ (Nat.le_of_ble_eq_true rfl) rfl (fun r50 u hw => ?_)
    obtain ⟨m_forms_51, m_why_52⟩ := u
    obtain ⟨h, z53⟩ := hw
    try dsimp only at h
    try dsimp only
    refine V_if_ne (pc := 60) (tgt := 75) C dX5_sweepsGate_60 (by decide) (fun c54 => ?_) (fun c54 => ?_)
    · replace h := wp_f h c54
      exact V_vret (pc := 75) C hQ (m_rowsBehind, m_rowsMany, m_forms_51, m_lesser, m_greater, m_why_52, m_checks) dX5_sweepsGate_75 rfl (wp_s h)
    · replace h := wp_t h c54
      refine V_aload_n (pc := 63) C 0 dX5_sweepsGate_63 rfl rfl ?_
      refine V_iload_n (pc := 64) C 1 dX5_sweepsGate_64 rfl rfl ?_
      refine V_iload (pc := 65) C 4 dX5_sweepsGate_65 rfl ?_
      refine V_iload (pc := 67) C 5 dX5_sweepsGate_67 rfl ?_
      refine V_callVi (pc := 69) (As := [.int a0, .int r17, .int r20]) (st := []) C (c_M_isThere (wp_b h)) mk_X5_isThere wd_726 dX5_sweepsGate_69 0 rfl rfl rfl ⟨Nat.le_of_ble_eq_true rfl, Nat.le_of_ble_eq_true rfl⟩ (Nat.le_of_ble_eq_true rfl) rfl (fun r56 u hw => ?_)
      obtain ⟨m_forms_57, m_why_58⟩ := u
      obtain ⟨h, z59⟩ := hw
      try dsimp only at h
      try dsimp only
      refine V_if_eq (pc := 72) (tgt := 76) C dX5_sweepsGate_72 (by decide) (fun c60 => ?_) (fun c60 => ?_)
      · replace h := wp_t h c60
        refine V_iconst (pc := 76) C dX5_sweepsGate_76 ki_0 ?_
        refine V_istore (pc := 77) (lv' := [(0, .ref (q_m 0)), (1, .int a0), (2, .int r17), (3, .int r20), (4, .int r17), (5, .int r20), (6, .int 0)]) C dX5_sweepsGate_77 [1, 2, 3, 4, 5, 6, 0] (by decide) rfl ?_
        refine V_lv (pc := 79) [0, 1, 4, 5, 6] rfl ?_
        refine hL_79 _ _ _ _ _ _ (fun m_rowsBehind_61 m_rowsMany_62 m_forms_63 m_why_64 m_checks_65 h => ?_) 1000 _ _ _ _ _ _ h
        try dsimp only at h
        refine V_aload_n (pc := 112) C 0 dX5_sweepsGate_112 rfl rfl ?_
        refine V_iload_n (pc := 113) C 1 dX5_sweepsGate_113 rfl rfl ?_
        refine V_iconst (pc := 114) C dX5_sweepsGate_114 ki_2 ?_
        refine V_iload_n (pc := 115) C 1 dX5_sweepsGate_115 rfl rfl ?_
        refine V_imul (pc := 116) C dX5_sweepsGate_116 ?_
        refine V_iconst (pc := 117) C dX5_sweepsGate_117 ki_0 ?_
        refine V_callVv (pc := 118) (As := [.int a0, .int ((2 : Int32) * a0), .int 0]) (st := []) C (c_M_merges (wp_b h)) mk_X5_merges wd_714 dX5_sweepsGate_118 0 rfl rfl rfl ⟨Nat.le_of_ble_eq_true rfl, Nat.le_of_ble_eq_true rfl⟩ (Nat.le_of_ble_eq_true rfl) rfl (fun u hw => ?_)
        obtain ⟨m_forms_68, m_why_69⟩ := u
        have h := hw
        try dsimp only at h
        try dsimp only
        refine V_aload_n (pc := 121) C 0 dX5_sweepsGate_121 rfl rfl ?_
        refine V_get (pc := 122) C 0 12 inX5 wd_601 dX5_sweepsGate_122 rfl rfl (by decide) rfl rfl ?_
        refine V_iload_n (pc := 125) C 1 dX5_sweepsGate_125 rfl rfl ?_
        refine V_iload (pc := 126) C 2 dX5_sweepsGate_126 rfl ?_
        obtain ⟨b70, h⟩ := wp_c h
        obtain ⟨m_lesser_71, em_lesser_71, h⟩ := wp_l h
        refine V_iast (pc := 128) (ws' := (wM cI q_m m_now m_aside m_past m_states m_refused m_text m_length m_tables m_all m_rowsBehind_61 m_rowsMany_62 m_forms_68 m_lesser_71 m_greater m_why_69 m_checks_65 m_numbers m_depths m_spot m_isFaulty m_orders m_letters m_parts m_hash)) C 9 dX5_sweepsGate_128 rfl b70 em_lesser_71 rfl ?_
        refine V_aload_n (pc := 129) C 0 dX5_sweepsGate_129 rfl rfl ?_
        refine V_get (pc := 130) C 0 13 inX5 wd_602 dX5_sweepsGate_130 rfl rfl (by decide) rfl rfl ?_
        refine V_iload_n (pc := 133) C 1 dX5_sweepsGate_133 rfl rfl ?_
        refine V_iload (pc := 134) C 3 dX5_sweepsGate_134 rfl ?_
        obtain ⟨b72, h⟩ := wp_c h
        obtain ⟨m_greater_73, em_greater_73, h⟩ := wp_l h
        refine V_iast (pc := 136) (ws' := (wM cI q_m m_now m_aside m_past m_states m_refused m_text m_length m_tables m_all m_rowsBehind_61 m_rowsMany_62 m_forms_68 m_lesser_71 m_greater_73 m_why_69 m_checks_65 m_numbers m_depths m_spot m_isFaulty m_orders m_letters m_parts m_hash)) C 10 dX5_sweepsGate_136 rfl b72 em_greater_73 rfl ?_
        exact V_vret (pc := 137) C hQ (m_rowsBehind_61, m_rowsMany_62, m_forms_68, m_lesser_71, m_greater_73, m_why_69, m_checks_65) dX5_sweepsGate_137 rfl (wp_s h)
      · replace h := wp_f h c60
        exact V_vret (pc := 75) C hQ (m_rowsBehind, m_rowsMany, m_forms_57, m_lesser, m_greater, m_why_58, m_checks) dX5_sweepsGate_75 rfl (wp_s h)
set_option maxRecDepth 100000 in
set_option maxHeartbeats 4000000 in
theorem c_M_sweeps {l : Launch} {D : va_G} {cI cC : ClassId} {q_m : Nat → Nat} {m_now : Nat → Int32} {m_aside : Nat → Int32} {m_past : Nat → Int32} {m_states : Int32} {m_refused : Nat → Int32} {m_text : Nat → Int32} {m_length : Int32} {m_tables : Nat → Int32} {m_all : Int32} {m_rowsBehind : Nat → Int32} {m_rowsMany : Int32} {m_forms : Nat → Int32} {m_lesser : Nat → Int32} {m_greater : Nat → Int32} {m_why : Nat → Int32} {m_checks : Int32} {m_numbers : Nat → Int32} {m_depths : Nat → Int32} {m_spot : Int32} {m_isFaulty : Int32} {m_orders : Int32} {m_letters : Nat → Int32} {m_parts : Nat → Int32} {m_hash : Int64} {post : (Nat → Int32) × Int32 × (Nat → Int32) × Int32 × (Nat → Int32) × (Nat → Int32) × (Nat → Int32) × (Nat → Int32) × Int32 → Prop} (h : wpO (M_sweeps m_now m_tables m_all m_rowsBehind m_rowsMany m_forms m_lesser m_greater m_why m_checks) post) : Cn l yX5_sweeps cX5_sweeps 2 none 4 97 D cI cC [.ref (q_m 0)] (wM cI q_m m_now m_aside m_past m_states m_refused m_text m_length m_tables m_all m_rowsBehind m_rowsMany m_forms m_lesser m_greater m_why m_checks m_numbers m_depths m_spot m_isFaulty m_orders m_letters m_parts m_hash) (QV D cI cC (S := (Nat → Int32) × Int32 × (Nat → Int32) × Int32 × (Nat → Int32) × (Nat → Int32) × (Nat → Int32) × (Nat → Int32) × Int32) (fun u => (wM cI q_m m_now m_aside m_past m_states m_refused m_text m_length u.1 u.2.1 u.2.2.1 u.2.2.2.1 u.2.2.2.2.1 u.2.2.2.2.2.1 u.2.2.2.2.2.2.1 u.2.2.2.2.2.2.2.1 u.2.2.2.2.2.2.2.2 m_numbers m_depths m_spot m_isFaulty m_orders m_letters m_parts m_hash)) (fun u => post u)) := by
  refine Cn.ofV (own := RX5) (lv0 := [(0, .ref (q_m 0))]) rfl (by decide) (Nat.le_of_ble_eq_true rfl) rfl ?_
  intro p e s m below meth c A args Q hQ C
  have hL_17 : ∀ (K : (Nat → Int32) → Option ((Nat → Int32) × Int32 × (Nat → Int32) × Int32 × (Nat → Int32) × (Nat → Int32) × (Nat → Int32) × (Nat → Int32) × Int32)) (m_tables : Nat → Int32) (m_all : Int32) (m_rowsMany : Int32) (m_forms : Nat → Int32) (m_lesser : Nat → Int32) (m_greater : Nat → Int32) (m_why : Nat → Int32) (m_checks : Int32), (∀ (m_rowsBehind : Nat → Int32), wpO (K m_rowsBehind) post → V p l e (rmC 4 97) s m args below meth c D A 2 0 0 Q (wM cI q_m m_now m_aside m_past m_states m_refused m_text m_length m_tables m_all m_rowsBehind m_rowsMany m_forms m_lesser m_greater m_why m_checks m_numbers m_depths m_spot m_isFaulty m_orders m_letters m_parts m_hash) [(0, .ref (q_m 0))] 46 []) → ∀ (n : Nat) (l1 : Int32) (m_rowsBehind : Nat → Int32), wpO (M_sweeps_17 K m_now m_rowsMany n l1 m_rowsBehind) post → V p l e (rmC 4 97) s m args below meth c D A 2 0 0 Q (wM cI q_m m_now m_aside m_past m_states m_refused m_text m_length m_tables m_all m_rowsBehind m_rowsMany m_forms m_lesser m_greater m_why m_checks m_numbers m_depths m_spot m_isFaulty m_orders m_letters m_parts m_hash) [(0, .ref (q_m 0)), (1, .int l1)] 17 [] := by
    intro K m_tables m_all m_rowsMany m_forms m_lesser m_greater m_why m_checks  hK n
    induction n with
    | zero => intro l1 m_rowsBehind h; rw [M_sweeps_17] at h; exact (wp_n h).elim
    | succ n ih =>
      intro l1 m_rowsBehind h
      rw [M_sweeps_17] at h
      refine V_iload_n (pc := 17) C 1 dX5_sweeps_17 rfl rfl ?_
      refine V_aload_n (pc := 18) C 0 dX5_sweeps_18 rfl rfl ?_
      refine V_get (pc := 19) C 0 10 inX5 wd_599 dX5_sweeps_19 rfl rfl (by decide) rfl rfl ?_
      refine V_icmp_ge (pc := 22) (tgt := 46) C dX5_sweeps_22 (by decide) (fun c1 => ?_) (fun c1 => ?_)
      · replace h := wp_t h c1
        refine V_lv (pc := 46) [0] rfl ?_
        exact hK _ h
      · replace h := wp_f h c1
        refine V_aload_n (pc := 25) C 0 dX5_sweeps_25 rfl rfl ?_
        refine V_get (pc := 26) C 0 9 inX5 wd_598 dX5_sweeps_26 rfl rfl (by decide) rfl rfl ?_
        refine V_iload_n (pc := 29) C 1 dX5_sweeps_29 rfl rfl ?_
        refine V_aload_n (pc := 30) C 0 dX5_sweeps_30 rfl rfl ?_
        refine V_get (pc := 31) C 0 0 inX5 wd_589 dX5_sweeps_31 rfl rfl (by decide) rfl rfl ?_
        refine V_bipush (pc := 34) C dX5_sweeps_34 kb_113 ?_
        refine V_iload_n (pc := 36) C 1 dX5_sweeps_36 rfl rfl ?_
        refine V_iadd (pc := 37) C dX5_sweeps_37 ?_
        obtain ⟨b2, h⟩ := wp_c h
        refine V_iald (pc := 38) C 1 dX5_sweeps_38 rfl b2 ?_
        obtain ⟨b3, h⟩ := wp_c h
        obtain ⟨m_rowsBehind_4, em_rowsBehind_4, h⟩ := wp_l h
        refine V_iast (pc := 39) (ws' := (wM cI q_m m_now m_aside m_past m_states m_refused m_text m_length m_tables m_all m_rowsBehind_4 m_rowsMany m_forms m_lesser m_greater m_why m_checks m_numbers m_depths m_spot m_isFaulty m_orders m_letters m_parts m_hash)) C 7 dX5_sweeps_39 rfl b3 em_rowsBehind_4 rfl ?_
        obtain ⟨v5, ev5, h⟩ := wp_l h
        refine V_iinc (pc := 40) (v := v5) (lv' := [(0, .ref (q_m 0)), (1, .int v5)]) (j := 1) C dX5_sweeps_40 rfl (by rw [ev5]; rfl) [1, 0] (by decide) rfl ?_
        refine V_goto (pc := 43) (tgt := 17) C dX5_sweeps_43 (by decide) ?_
        exact ih _ _ h
  have hL_53 : ∀ (K : (Nat → Int32) → Int32 → (Nat → Int32) → (Nat → Int32) → (Nat → Int32) → (Nat → Int32) → Int32 → Option ((Nat → Int32) × Int32 × (Nat → Int32) × Int32 × (Nat → Int32) × (Nat → Int32) × (Nat → Int32) × (Nat → Int32) × Int32)) (m_tables : Nat → Int32) (m_all : Int32), (∀ (m_rowsBehind : Nat → Int32) (m_rowsMany : Int32) (m_forms : Nat → Int32) (m_lesser : Nat → Int32) (m_greater : Nat → Int32) (m_why : Nat → Int32) (m_checks : Int32), wpO (K m_rowsBehind m_rowsMany m_forms m_lesser m_greater m_why m_checks) post → V p l e (rmC 4 97) s m args below meth c D A 2 0 0 Q (wM cI q_m m_now m_aside m_past m_states m_refused m_text m_length m_tables m_all m_rowsBehind m_rowsMany m_forms m_lesser m_greater m_why m_checks m_numbers m_depths m_spot m_isFaulty m_orders m_letters m_parts m_hash) [] 96 []) → ∀ (n : Nat) (l1 : Int32) (m_rowsBehind : Nat → Int32) (m_rowsMany : Int32) (m_forms : Nat → Int32) (m_lesser : Nat → Int32) (m_greater : Nat → Int32) (m_why : Nat → Int32) (m_checks : Int32), wpO (M_sweeps_53 K m_now m_tables m_all n l1 m_rowsBehind m_rowsMany m_forms m_lesser m_greater m_why m_checks) post → V p l e (rmC 4 97) s m args below meth c D A 2 0 0 Q (wM cI q_m m_now m_aside m_past m_states m_refused m_text m_length m_tables m_all m_rowsBehind m_rowsMany m_forms m_lesser m_greater m_why m_checks m_numbers m_depths m_spot m_isFaulty m_orders m_letters m_parts m_hash) [(0, .ref (q_m 0)), (1, .int l1)] 53 [] := by
    intro K m_tables m_all  hK n
    induction n with
    | zero => intro l1 m_rowsBehind m_rowsMany m_forms m_lesser m_greater m_why m_checks h; rw [M_sweeps_53] at h; exact (wp_n h).elim
    | succ n ih =>
      intro l1 m_rowsBehind m_rowsMany m_forms m_lesser m_greater m_why m_checks h
      rw [M_sweeps_53] at h
      refine V_iload_n (pc := 53) C 1 dX5_sweeps_53 rfl rfl ?_
      refine V_aload_n (pc := 54) C 0 dX5_sweeps_54 rfl rfl ?_
      refine V_get (pc := 55) C 0 0 inX5 wd_589 dX5_sweeps_55 rfl rfl (by decide) rfl rfl ?_
      refine V_iconst (pc := 58) C dX5_sweeps_58 ki_1 ?_
      obtain ⟨b6, h⟩ := wp_c h
      refine V_iald (pc := 59) C 1 dX5_sweeps_59 rfl b6 ?_
      refine V_icmp_ge (pc := 60) (tgt := 96) C dX5_sweeps_60 (by decide) (fun c7 => ?_) (fun c7 => ?_)
      · replace h := wp_t h c7
        refine V_lv (pc := 96) [] rfl ?_
        exact hK _ _ _ _ _ _ _ h
      · replace h := wp_f h c7
        refine V_iload_n (pc := 63) C 1 dX5_sweeps_63 rfl rfl ?_
        refine V_aload_n (pc := 64) C 0 dX5_sweeps_64 rfl rfl ?_
        refine V_get (pc := 65) C 0 0 inX5 wd_589 dX5_sweeps_65 rfl rfl (by decide) rfl rfl ?_
        refine V_iconst (pc := 68) C dX5_sweeps_68 ki_0 ?_
        obtain ⟨b8, h⟩ := wp_c h
        refine V_iald (pc := 69) C 1 dX5_sweeps_69 rfl b8 ?_
        refine V_icmp_gt (pc := 70) (tgt := 85) C dX5_sweeps_70 (by decide) (fun c9 => ?_) (fun c9 => ?_)
        · replace h := wp_t h c9
          refine V_aload_n (pc := 85) C 0 dX5_sweeps_85 rfl rfl ?_
          refine V_iload_n (pc := 86) C 1 dX5_sweeps_86 rfl rfl ?_
          refine V_callVv (pc := 87) (As := [.int l1]) (st := []) C (c_M_sweepsGate (wp_b h)) mk_X5_sweepsGate wd_717 dX5_sweeps_87 0 rfl rfl rfl ⟨Nat.le_of_ble_eq_true rfl, Nat.le_of_ble_eq_true rfl⟩ (Nat.le_of_ble_eq_true rfl) rfl (fun u hw => ?_)
          obtain ⟨m_rowsBehind_12, m_rowsMany_13, m_forms_14, m_lesser_15, m_greater_16, m_why_17, m_checks_18⟩ := u
          have h := hw
          try dsimp only at h
          try dsimp only
          obtain ⟨v19, ev19, h⟩ := wp_l h
          refine V_iinc (pc := 90) (v := v19) (lv' := [(0, .ref (q_m 0)), (1, .int v19)]) (j := 1) C dX5_sweeps_90 rfl (by rw [ev19]; rfl) [1, 0] (by decide) rfl ?_
          refine V_goto (pc := 93) (tgt := 53) C dX5_sweeps_93 (by decide) ?_
          exact ih _ _ _ _ _ _ _ _ h
        · replace h := wp_f h c9
          refine V_aload_n (pc := 73) C 0 dX5_sweeps_73 rfl rfl ?_
          refine V_iload_n (pc := 74) C 1 dX5_sweeps_74 rfl rfl ?_
          refine V_iconst (pc := 75) C dX5_sweeps_75 ki_2 ?_
          refine V_iload_n (pc := 76) C 1 dX5_sweeps_76 rfl rfl ?_
          refine V_imul (pc := 77) C dX5_sweeps_77 ?_
          refine V_iconst (pc := 78) C dX5_sweeps_78 ki_0 ?_
          refine V_callVv (pc := 79) (As := [.int l1, .int ((2 : Int32) * l1), .int 0]) (st := []) C (c_M_merges (wp_b h)) mk_X5_merges wd_714 dX5_sweeps_79 0 rfl rfl rfl ⟨Nat.le_of_ble_eq_true rfl, Nat.le_of_ble_eq_true rfl⟩ (Nat.le_of_ble_eq_true rfl) rfl (fun u hw => ?_)
          obtain ⟨m_forms_22, m_why_23⟩ := u
          have h := hw
          try dsimp only at h
          try dsimp only
          refine V_goto (pc := 82) (tgt := 90) C dX5_sweeps_82 (by decide) ?_
          obtain ⟨v24, ev24, h⟩ := wp_l h
          refine V_iinc (pc := 90) (v := v24) (lv' := [(0, .ref (q_m 0)), (1, .int v24)]) (j := 1) C dX5_sweeps_90 rfl (by rw [ev24]; rfl) [1, 0] (by decide) rfl ?_
          refine V_goto (pc := 93) (tgt := 53) C dX5_sweeps_93 (by decide) ?_
          exact ih _ _ _ _ _ _ _ _ h
  unfold M_sweeps at h
  refine V_aload_n (pc := 0) C 0 dX5_sweeps_0 rfl rfl ?_
  refine V_callVv (pc := 1) (As := []) (st := []) C (c_M_laysTables (wp_b h)) mk_X5_laysTables wd_708 dX5_sweeps_1 0 rfl rfl rfl ⟨Nat.le_of_ble_eq_true rfl, Nat.le_of_ble_eq_true rfl⟩ (Nat.le_of_ble_eq_true rfl) rfl (fun u hw => ?_)
  obtain ⟨m_tables_27, m_all_28⟩ := u
  have h := hw
  try dsimp only at h
  try dsimp only
  refine V_aload_n (pc := 4) C 0 dX5_sweeps_4 rfl rfl ?_
  refine V_aload_n (pc := 5) C 0 dX5_sweeps_5 rfl rfl ?_
  refine V_get (pc := 6) C 0 0 inX5 wd_589 dX5_sweeps_6 rfl rfl (by decide) rfl rfl ?_
  refine V_bipush (pc := 9) C dX5_sweeps_9 kb_112 ?_
  obtain ⟨b29, h⟩ := wp_c h
  refine V_iald (pc := 11) C 1 dX5_sweeps_11 rfl b29 ?_
  obtain ⟨m_rowsMany_30, em_rowsMany_30, h⟩ := wp_l h
  refine V_topi (pc := 12) em_rowsMany_30 ?_
  refine V_put (pc := 12) (ws' := (wM cI q_m m_now m_aside m_past m_states m_refused m_text m_length m_tables_27 m_all_28 m_rowsBehind m_rowsMany_30 m_forms m_lesser m_greater m_why m_checks m_numbers m_depths m_spot m_isFaulty m_orders m_letters m_parts m_hash)) C 0 10 inX5 tyX5_ok nmX5 wd_599 dX5_sweeps_12 rfl rfl (by decide) rfl rfl rfl rfl rfl (Nat.le_of_ble_eq_true rfl) rfl ?_
  refine V_iconst (pc := 15) C dX5_sweeps_15 ki_0 ?_
  refine V_istore_n (pc := 16) (lv' := [(0, .ref (q_m 0)), (1, .int 0)]) C dX5_sweeps_16 rfl [1, 0] (by decide) rfl ?_
  refine hL_17 _ _ _ _ _ _ _ _ _ (fun m_rowsBehind_31 h => ?_) 1000 _ _ h
  try dsimp only at h
  refine V_aload_n (pc := 46) C 0 dX5_sweeps_46 rfl rfl ?_
  refine V_iconst (pc := 47) C dX5_sweeps_47 ki_0 ?_
  refine V_put (pc := 48) (ws' := (wM cI q_m m_now m_aside m_past m_states m_refused m_text m_length m_tables_27 m_all_28 m_rowsBehind_31 m_rowsMany_30 m_forms m_lesser m_greater m_why 0 m_numbers m_depths m_spot m_isFaulty m_orders m_letters m_parts m_hash)) C 0 15 inX5 tyX5_ok nmX5 wd_604 dX5_sweeps_48 rfl rfl (by decide) rfl rfl rfl rfl rfl (Nat.le_of_ble_eq_true rfl) rfl ?_
  refine V_iconst (pc := 51) C dX5_sweeps_51 ki_0 ?_
  refine V_istore_n (pc := 52) (lv' := [(0, .ref (q_m 0)), (1, .int 0)]) C dX5_sweeps_52 rfl [1, 0] (by decide) rfl ?_
  refine hL_53 _ _ _ (fun m_rowsBehind_32 m_rowsMany_33 m_forms_34 m_lesser_35 m_greater_36 m_why_37 m_checks_38 h => ?_) 1000 _ _ _ _ _ _ _ _ h
  try dsimp only at h
  exact V_vret (pc := 96) C hQ (m_tables_27, m_all_28, m_rowsBehind_32, m_rowsMany_33, m_forms_34, m_lesser_35, m_greater_36, m_why_37, m_checks_38) dX5_sweeps_96 rfl (wp_s h)
set_option maxRecDepth 100000 in
set_option maxHeartbeats 4000000 in
theorem c_M_merged {l : Launch} {D : va_G} {cI cC : ClassId} {q_m : Nat → Nat} {m_now : Nat → Int32} {m_aside : Nat → Int32} {m_past : Nat → Int32} {m_states : Int32} {m_refused : Nat → Int32} {m_text : Nat → Int32} {m_length : Int32} {m_tables : Nat → Int32} {m_all : Int32} {m_rowsBehind : Nat → Int32} {m_rowsMany : Int32} {m_forms : Nat → Int32} {m_lesser : Nat → Int32} {m_greater : Nat → Int32} {m_why : Nat → Int32} {m_checks : Int32} {m_numbers : Nat → Int32} {m_depths : Nat → Int32} {m_spot : Int32} {m_isFaulty : Int32} {m_orders : Int32} {m_letters : Nat → Int32} {m_parts : Nat → Int32} {m_hash : Int64} {a0 : Int32} {post : Int32 → Prop} (h : wpO (M_merged m_now m_why a0) post) : Cn l yX5_merged cX5_merged 4 (some .int) 0 0 D cI cC [.ref (q_m 0), .int a0] (wM cI q_m m_now m_aside m_past m_states m_refused m_text m_length m_tables m_all m_rowsBehind m_rowsMany m_forms m_lesser m_greater m_why m_checks m_numbers m_depths m_spot m_isFaulty m_orders m_letters m_parts m_hash) (QI D cI cC (S := Unit) (fun u => (wM cI q_m m_now m_aside m_past m_states m_refused m_text m_length m_tables m_all m_rowsBehind m_rowsMany m_forms m_lesser m_greater m_why m_checks m_numbers m_depths m_spot m_isFaulty m_orders m_letters m_parts m_hash)) (fun r u => post r)) := by
  refine Cn.ofV (own := RX5) (lv0 := [(0, .ref (q_m 0)), (1, .int a0)]) rfl (by decide) (Nat.le_of_ble_eq_true rfl) rfl ?_
  intro p e s m below meth c A args Q hQ C
  have hL_11 : ∀ (K : Int32 → Option (Int32)) (l1 : Int32), (∀ (l2 : Int32), wpO (K l2) post → V p l e (rmC 0 0) s m args below meth c D A 4 0 0 Q (wM cI q_m m_now m_aside m_past m_states m_refused m_text m_length m_tables m_all m_rowsBehind m_rowsMany m_forms m_lesser m_greater m_why m_checks m_numbers m_depths m_spot m_isFaulty m_orders m_letters m_parts m_hash) [(2, .int l2)] 45 []) → ∀ (n : Nat) (l2 : Int32) (l3 : Int32), wpO (M_merged_11 K m_now m_why l1 n l2 l3) post → V p l e (rmC 0 0) s m args below meth c D A 4 0 0 Q (wM cI q_m m_now m_aside m_past m_states m_refused m_text m_length m_tables m_all m_rowsBehind m_rowsMany m_forms m_lesser m_greater m_why m_checks m_numbers m_depths m_spot m_isFaulty m_orders m_letters m_parts m_hash) [(0, .ref (q_m 0)), (1, .int l1), (2, .int l2), (3, .int l3)] 11 [] := by
    intro K  l1 hK n
    induction n with
    | zero => intro l2 l3 h; rw [M_merged_11] at h; exact (wp_n h).elim
    | succ n ih =>
      intro l2 l3 h
      rw [M_merged_11] at h
      refine V_iload_n (pc := 11) C 3 dX5_merged_11 rfl rfl ?_
      refine V_aload_n (pc := 12) C 0 dX5_merged_12 rfl rfl ?_
      refine V_get (pc := 13) C 0 0 inX5 wd_589 dX5_merged_13 rfl rfl (by decide) rfl rfl ?_
      refine V_iconst (pc := 16) C dX5_merged_16 ki_1 ?_
      obtain ⟨b1, h⟩ := wp_c h
      refine V_iald (pc := 17) C 1 dX5_merged_17 rfl b1 ?_
      refine V_icmp_ge (pc := 18) (tgt := 45) C dX5_merged_18 (by decide) (fun c2 => ?_) (fun c2 => ?_)
      · replace h := wp_t h c2
        refine V_lv (pc := 45) [2] rfl ?_
        exact hK _ h
      · replace h := wp_f h c2
        refine V_iload_n (pc := 21) C 2 dX5_merged_21 rfl rfl ?_
        refine V_aload_n (pc := 22) C 0 dX5_merged_22 rfl rfl ?_
        refine V_get (pc := 23) C 0 14 inX5 wd_603 dX5_merged_23 rfl rfl (by decide) rfl rfl ?_
        refine V_iload_n (pc := 26) C 3 dX5_merged_26 rfl rfl ?_
        obtain ⟨b3, h⟩ := wp_c h
        refine V_iald (pc := 27) C 11 dX5_merged_27 rfl b3 ?_
        refine V_iload_n (pc := 28) C 1 dX5_merged_28 rfl rfl ?_
        refine V_icmp_ne (pc := 29) (tgt := 36) C dX5_merged_29 (by decide) (fun c4 => ?_) (fun c4 => ?_)
        · replace h := wp_f h c4
          refine V_iconst (pc := 36) C dX5_merged_36 ki_0 ?_
          refine V_iadd (pc := 37) C dX5_merged_37 ?_
          obtain ⟨v5, ev5, h⟩ := wp_l h
          refine V_topi (pc := 38) ev5 ?_
          refine V_istore_n (pc := 38) (lv' := [(0, .ref (q_m 0)), (1, .int l1), (2, .int v5), (3, .int l3)]) C dX5_merged_38 rfl [1, 2, 0, 3] (by decide) rfl ?_
          obtain ⟨v6, ev6, h⟩ := wp_l h
          refine V_iinc (pc := 39) (v := v6) (lv' := [(0, .ref (q_m 0)), (1, .int l1), (2, .int v5), (3, .int v6)]) (j := 3) C dX5_merged_39 rfl (by rw [ev6]; rfl) [1, 2, 3, 0] (by decide) rfl ?_
          refine V_goto (pc := 42) (tgt := 11) C dX5_merged_42 (by decide) ?_
          exact ih _ _ h
        · replace h := wp_t h c4
          refine V_iconst (pc := 32) C dX5_merged_32 ki_1 ?_
          refine V_goto (pc := 33) (tgt := 37) C dX5_merged_33 (by decide) ?_
          refine V_iadd (pc := 37) C dX5_merged_37 ?_
          obtain ⟨v7, ev7, h⟩ := wp_l h
          refine V_topi (pc := 38) ev7 ?_
          refine V_istore_n (pc := 38) (lv' := [(0, .ref (q_m 0)), (1, .int l1), (2, .int v7), (3, .int l3)]) C dX5_merged_38 rfl [1, 2, 0, 3] (by decide) rfl ?_
          obtain ⟨v8, ev8, h⟩ := wp_l h
          refine V_iinc (pc := 39) (v := v8) (lv' := [(0, .ref (q_m 0)), (1, .int l1), (2, .int v7), (3, .int v8)]) (j := 3) C dX5_merged_39 rfl (by rw [ev8]; rfl) [1, 2, 3, 0] (by decide) rfl ?_
          refine V_goto (pc := 42) (tgt := 11) C dX5_merged_42 (by decide) ?_
          exact ih _ _ h
  unfold M_merged at h
  refine V_iconst (pc := 0) C dX5_merged_0 ki_0 ?_
  refine V_istore_n (pc := 1) (lv' := [(0, .ref (q_m 0)), (1, .int a0), (2, .int 0)]) C dX5_merged_1 rfl [1, 2, 0] (by decide) rfl ?_
  refine V_aload_n (pc := 2) C 0 dX5_merged_2 rfl rfl ?_
  refine V_get (pc := 3) C 0 0 inX5 wd_589 dX5_merged_3 rfl rfl (by decide) rfl rfl ?_
  refine V_iconst (pc := 6) C dX5_merged_6 ki_0 ?_
  obtain ⟨b9, h⟩ := wp_c h
  refine V_iald (pc := 7) C 1 dX5_merged_7 rfl b9 ?_
  refine V_iconst (pc := 8) C dX5_merged_8 ki_1 ?_
  refine V_iadd (pc := 9) C dX5_merged_9 ?_
  obtain ⟨v10, ev10, h⟩ := wp_l h
  refine V_topi (pc := 10) ev10 ?_
  refine V_istore_n (pc := 10) (lv' := [(0, .ref (q_m 0)), (1, .int a0), (2, .int 0), (3, .int v10)]) C dX5_merged_10 rfl [1, 2, 3, 0] (by decide) rfl ?_
  refine hL_11 _ _ (fun l2_11 h => ?_) 1000 _ _ h
  try dsimp only at h
  refine V_iload_n (pc := 45) C 0 dX5_merged_45 rfl rfl ?_
  exact V_iret (pc := 46) C hQ () dX5_merged_46 (vp_nar_int _) rfl (wp_s h)
set_option maxRecDepth 100000 in
set_option maxHeartbeats 4000000 in
theorem c_M_settled {l : Launch} {D : va_G} {cI cC : ClassId} {q_m : Nat → Nat} {m_now : Nat → Int32} {m_aside : Nat → Int32} {m_past : Nat → Int32} {m_states : Int32} {m_refused : Nat → Int32} {m_text : Nat → Int32} {m_length : Int32} {m_tables : Nat → Int32} {m_all : Int32} {m_rowsBehind : Nat → Int32} {m_rowsMany : Int32} {m_forms : Nat → Int32} {m_lesser : Nat → Int32} {m_greater : Nat → Int32} {m_why : Nat → Int32} {m_checks : Int32} {m_numbers : Nat → Int32} {m_depths : Nat → Int32} {m_spot : Int32} {m_isFaulty : Int32} {m_orders : Int32} {m_letters : Nat → Int32} {m_parts : Nat → Int32} {m_hash : Int64} {a0 : Int32} {post : Int32 → Prop} (h : wpO (M_settled m_numbers a0) post) : Cn l yX5_settled cX5_settled 2 (some .int) 0 0 D cI cC [.ref (q_m 0), .int a0] (wM cI q_m m_now m_aside m_past m_states m_refused m_text m_length m_tables m_all m_rowsBehind m_rowsMany m_forms m_lesser m_greater m_why m_checks m_numbers m_depths m_spot m_isFaulty m_orders m_letters m_parts m_hash) (QI D cI cC (S := Unit) (fun u => (wM cI q_m m_now m_aside m_past m_states m_refused m_text m_length m_tables m_all m_rowsBehind m_rowsMany m_forms m_lesser m_greater m_why m_checks m_numbers m_depths m_spot m_isFaulty m_orders m_letters m_parts m_hash)) (fun r u => post r)) := by
  refine Cn.ofV (own := RX5) (lv0 := [(0, .ref (q_m 0)), (1, .int a0)]) rfl (by decide) (Nat.le_of_ble_eq_true rfl) rfl ?_
  intro p e s m below meth c A args Q hQ C
  unfold M_settled at h
  refine V_iconst (pc := 0) C dX5_settled_0 ki_2 ?_
  refine V_aload_n (pc := 1) C 0 dX5_settled_1 rfl rfl ?_
  refine V_get (pc := 2) C 0 16 inX5 wd_605 dX5_settled_2 rfl rfl (by decide) rfl rfl ?_
  refine V_iload_n (pc := 5) C 1 dX5_settled_5 rfl rfl ?_
  refine V_iconst (pc := 6) C dX5_settled_6 ki_2 ?_
  refine V_idiv (pc := 7) C dX5_settled_7 (by decide) ?_
  obtain ⟨b1, h⟩ := wp_c h
  refine V_iald (pc := 8) C 12 dX5_settled_8 rfl b1 ?_
  refine V_imul (pc := 9) C dX5_settled_9 ?_
  refine V_iload_n (pc := 10) C 1 dX5_settled_10 rfl rfl ?_
  refine V_iconst (pc := 11) C dX5_settled_11 ki_2 ?_
  refine V_irem (pc := 12) C dX5_settled_12 (by decide) ?_
  refine V_iadd (pc := 13) C dX5_settled_13 ?_
  exact V_iret (pc := 14) C hQ () dX5_settled_14 (vp_nar_int _) rfl (wp_s h)
set_option maxRecDepth 100000 in
set_option maxHeartbeats 4000000 in
theorem c_M_settlesAll {l : Launch} {D : va_G} {cI cC : ClassId} {q_m : Nat → Nat} {m_now : Nat → Int32} {m_aside : Nat → Int32} {m_past : Nat → Int32} {m_states : Int32} {m_refused : Nat → Int32} {m_text : Nat → Int32} {m_length : Int32} {m_tables : Nat → Int32} {m_all : Int32} {m_rowsBehind : Nat → Int32} {m_rowsMany : Int32} {m_forms : Nat → Int32} {m_lesser : Nat → Int32} {m_greater : Nat → Int32} {m_why : Nat → Int32} {m_checks : Int32} {m_numbers : Nat → Int32} {m_depths : Nat → Int32} {m_spot : Int32} {m_isFaulty : Int32} {m_orders : Int32} {m_letters : Nat → Int32} {m_parts : Nat → Int32} {m_hash : Int64} {post : Int32 × (Nat → Int32) × (Nat → Int32) × Int32 × (Nat → Int32) × Int32 × (Nat → Int32) × (Nat → Int32) × (Nat → Int32) × (Nat → Int32) × Int32 × (Nat → Int32) → Prop} (h : wpO (M_settlesAll m_now m_tables m_all m_rowsBehind m_rowsMany m_forms m_lesser m_greater m_why m_checks m_numbers) post) : Cn l yX5_settlesAll cX5_settlesAll 4 (some .int) 5 118 D cI cC [.ref (q_m 0)] (wM cI q_m m_now m_aside m_past m_states m_refused m_text m_length m_tables m_all m_rowsBehind m_rowsMany m_forms m_lesser m_greater m_why m_checks m_numbers m_depths m_spot m_isFaulty m_orders m_letters m_parts m_hash) (QI D cI cC (S := (Nat → Int32) × (Nat → Int32) × Int32 × (Nat → Int32) × Int32 × (Nat → Int32) × (Nat → Int32) × (Nat → Int32) × (Nat → Int32) × Int32 × (Nat → Int32)) (fun u => (wM cI q_m u.1 m_aside m_past m_states m_refused m_text m_length u.2.1 u.2.2.1 u.2.2.2.1 u.2.2.2.2.1 u.2.2.2.2.2.1 u.2.2.2.2.2.2.1 u.2.2.2.2.2.2.2.1 u.2.2.2.2.2.2.2.2.1 u.2.2.2.2.2.2.2.2.2.1 u.2.2.2.2.2.2.2.2.2.2 m_depths m_spot m_isFaulty m_orders m_letters m_parts m_hash)) (fun r u => post (r, u))) := by
  refine Cn.ofV (own := RX5) (lv0 := [(0, .ref (q_m 0))]) rfl (by decide) (Nat.le_of_ble_eq_true rfl) rfl ?_
  intro p e s m below meth c A args Q hQ C
  have hL_8 : ∀ (K : Int32 → (Nat → Int32) → Option (Int32 × (Nat → Int32) × (Nat → Int32) × Int32 × (Nat → Int32) × Int32 × (Nat → Int32) × (Nat → Int32) × (Nat → Int32) × (Nat → Int32) × Int32 × (Nat → Int32))) (m_now : Nat → Int32) (m_tables : Nat → Int32) (m_all : Int32) (m_rowsBehind : Nat → Int32) (m_rowsMany : Int32) (m_forms : Nat → Int32) (m_lesser : Nat → Int32) (m_greater : Nat → Int32) (m_why : Nat → Int32) (m_checks : Int32), (∀ (l1 : Int32) (m_numbers : Nat → Int32), wpO (K l1 m_numbers) post → V p l e (rmC 5 118) s m args below meth c D A 4 0 0 Q (wM cI q_m m_now m_aside m_past m_states m_refused m_text m_length m_tables m_all m_rowsBehind m_rowsMany m_forms m_lesser m_greater m_why m_checks m_numbers m_depths m_spot m_isFaulty m_orders m_letters m_parts m_hash) [(0, .ref (q_m 0)), (1, .int l1)] 48 []) → ∀ (n : Nat) (l1 : Int32) (l2 : Int32) (m_numbers : Nat → Int32), wpO (M_settlesAll_8 K m_now m_why n l1 l2 m_numbers) post → V p l e (rmC 5 118) s m args below meth c D A 4 0 0 Q (wM cI q_m m_now m_aside m_past m_states m_refused m_text m_length m_tables m_all m_rowsBehind m_rowsMany m_forms m_lesser m_greater m_why m_checks m_numbers m_depths m_spot m_isFaulty m_orders m_letters m_parts m_hash) [(0, .ref (q_m 0)), (1, .int l1), (2, .int l2)] 8 [] := by
    intro K m_now m_tables m_all m_rowsBehind m_rowsMany m_forms m_lesser m_greater m_why m_checks  hK n
    induction n with
    | zero => intro l1 l2 m_numbers h; rw [M_settlesAll_8] at h; exact (wp_n h).elim
    | succ n ih =>
      intro l1 l2 m_numbers h
      rw [M_settlesAll_8] at h
      refine V_iload_n (pc := 8) C 2 dX5_settlesAll_8 rfl rfl ?_
      refine V_aload_n (pc := 9) C 0 dX5_settlesAll_9 rfl rfl ?_
      refine V_get (pc := 10) C 0 0 inX5 wd_589 dX5_settlesAll_10 rfl rfl (by decide) rfl rfl ?_
      refine V_iconst (pc := 13) C dX5_settlesAll_13 ki_1 ?_
      obtain ⟨b1, h⟩ := wp_c h
      refine V_iald (pc := 14) C 1 dX5_settlesAll_14 rfl b1 ?_
      refine V_icmp_ge (pc := 15) (tgt := 48) C dX5_settlesAll_15 (by decide) (fun c2 => ?_) (fun c2 => ?_)
      · replace h := wp_t h c2
        refine V_lv (pc := 48) [0, 1] rfl ?_
        exact hK _ _ h
      · replace h := wp_f h c2
        refine V_aload_n (pc := 18) C 0 dX5_settlesAll_18 rfl rfl ?_
        refine V_get (pc := 19) C 0 16 inX5 wd_605 dX5_settlesAll_19 rfl rfl (by decide) rfl rfl ?_
        refine V_iload_n (pc := 22) C 2 dX5_settlesAll_22 rfl rfl ?_
        refine V_iload_n (pc := 23) C 1 dX5_settlesAll_23 rfl rfl ?_
        obtain ⟨b3, h⟩ := wp_c h
        obtain ⟨m_numbers_4, em_numbers_4, h⟩ := wp_l h
        refine V_iast (pc := 24) (ws' := (wM cI q_m m_now m_aside m_past m_states m_refused m_text m_length m_tables m_all m_rowsBehind m_rowsMany m_forms m_lesser m_greater m_why m_checks m_numbers_4 m_depths m_spot m_isFaulty m_orders m_letters m_parts m_hash)) C 12 dX5_settlesAll_24 rfl b3 em_numbers_4 rfl ?_
        refine V_iload_n (pc := 25) C 1 dX5_settlesAll_25 rfl rfl ?_
        refine V_aload_n (pc := 26) C 0 dX5_settlesAll_26 rfl rfl ?_
        refine V_get (pc := 27) C 0 14 inX5 wd_603 dX5_settlesAll_27 rfl rfl (by decide) rfl rfl ?_
        refine V_iload_n (pc := 30) C 2 dX5_settlesAll_30 rfl rfl ?_
        obtain ⟨b5, h⟩ := wp_c h
        refine V_iald (pc := 31) C 11 dX5_settlesAll_31 rfl b5 ?_
        refine V_if_ne (pc := 32) (tgt := 39) C dX5_settlesAll_32 (by decide) (fun c6 => ?_) (fun c6 => ?_)
        · replace h := wp_f h c6
          refine V_iconst (pc := 39) C dX5_settlesAll_39 ki_0 ?_
          refine V_iadd (pc := 40) C dX5_settlesAll_40 ?_
          obtain ⟨v7, ev7, h⟩ := wp_l h
          refine V_topi (pc := 41) ev7 ?_
          refine V_istore_n (pc := 41) (lv' := [(0, .ref (q_m 0)), (1, .int v7), (2, .int l2)]) C dX5_settlesAll_41 rfl [1, 0, 2] (by decide) rfl ?_
          obtain ⟨v8, ev8, h⟩ := wp_l h
          refine V_iinc (pc := 42) (v := v8) (lv' := [(0, .ref (q_m 0)), (1, .int v7), (2, .int v8)]) (j := 2) C dX5_settlesAll_42 rfl (by rw [ev8]; rfl) [1, 2, 0] (by decide) rfl ?_
          refine V_goto (pc := 45) (tgt := 8) C dX5_settlesAll_45 (by decide) ?_
          exact ih _ _ _ h
        · replace h := wp_t h c6
          refine V_iconst (pc := 35) C dX5_settlesAll_35 ki_1 ?_
          refine V_goto (pc := 36) (tgt := 40) C dX5_settlesAll_36 (by decide) ?_
          refine V_iadd (pc := 40) C dX5_settlesAll_40 ?_
          obtain ⟨v9, ev9, h⟩ := wp_l h
          refine V_topi (pc := 41) ev9 ?_
          refine V_istore_n (pc := 41) (lv' := [(0, .ref (q_m 0)), (1, .int v9), (2, .int l2)]) C dX5_settlesAll_41 rfl [1, 0, 2] (by decide) rfl ?_
          obtain ⟨v10, ev10, h⟩ := wp_l h
          refine V_iinc (pc := 42) (v := v10) (lv' := [(0, .ref (q_m 0)), (1, .int v9), (2, .int v10)]) (j := 2) C dX5_settlesAll_42 rfl (by rw [ev10]; rfl) [1, 2, 0] (by decide) rfl ?_
          refine V_goto (pc := 45) (tgt := 8) C dX5_settlesAll_45 (by decide) ?_
          exact ih _ _ _ h
  have hL_50 : ∀ (K : (Nat → Int32) → Option (Int32 × (Nat → Int32) × (Nat → Int32) × Int32 × (Nat → Int32) × Int32 × (Nat → Int32) × (Nat → Int32) × (Nat → Int32) × (Nat → Int32) × Int32 × (Nat → Int32))) (m_tables : Nat → Int32) (m_all : Int32) (m_rowsBehind : Nat → Int32) (m_rowsMany : Int32) (m_forms : Nat → Int32) (m_lesser : Nat → Int32) (m_greater : Nat → Int32) (m_why : Nat → Int32) (m_checks : Int32) (m_numbers : Nat → Int32) (l1 : Int32), (∀ (m_now : Nat → Int32), wpO (K m_now) post → V p l e (rmC 5 118) s m args below meth c D A 4 0 0 Q (wM cI q_m m_now m_aside m_past m_states m_refused m_text m_length m_tables m_all m_rowsBehind m_rowsMany m_forms m_lesser m_greater m_why m_checks m_numbers m_depths m_spot m_isFaulty m_orders m_letters m_parts m_hash) [(0, .ref (q_m 0)), (1, .int l1)] 121 []) → ∀ (n : Nat) (l2 : Int32) (m_now : Nat → Int32), wpO (M_settlesAll_50 K m_forms m_numbers l1 n l2 m_now) post → V p l e (rmC 5 118) s m args below meth c D A 4 0 0 Q (wM cI q_m m_now m_aside m_past m_states m_refused m_text m_length m_tables m_all m_rowsBehind m_rowsMany m_forms m_lesser m_greater m_why m_checks m_numbers m_depths m_spot m_isFaulty m_orders m_letters m_parts m_hash) [(0, .ref (q_m 0)), (1, .int l1), (2, .int l2)] 50 [] := by
    intro K m_tables m_all m_rowsBehind m_rowsMany m_forms m_lesser m_greater m_why m_checks m_numbers l1 hK n
    induction n with
    | zero => intro l2 m_now h; rw [M_settlesAll_50] at h; exact (wp_n h).elim
    | succ n ih =>
      intro l2 m_now h
      rw [M_settlesAll_50] at h
      refine V_iload_n (pc := 50) C 2 dX5_settlesAll_50 rfl rfl ?_
      refine V_bipush (pc := 51) C dX5_settlesAll_51 kb_12 ?_
      refine V_icmp_ge (pc := 53) (tgt := 121) C dX5_settlesAll_53 (by decide) (fun c11 => ?_) (fun c11 => ?_)
      · replace h := wp_t h c11
        refine V_lv (pc := 121) [0, 1] rfl ?_
        exact hK _ h
      · replace h := wp_f h c11
        refine V_iload_n (pc := 56) C 2 dX5_settlesAll_56 rfl rfl ?_
        refine V_bipush (pc := 57) C dX5_settlesAll_57 kb_6 ?_
        refine V_irem (pc := 59) C dX5_settlesAll_59 (by decide) ?_
        refine V_aload_n (pc := 60) C 0 dX5_settlesAll_60 rfl rfl ?_
        refine V_get (pc := 61) C 0 0 inX5 wd_589 dX5_settlesAll_61 rfl rfl (by decide) rfl rfl ?_
        refine V_bipush (pc := 64) C dX5_settlesAll_64 kb_98 ?_
        refine V_iload_n (pc := 66) C 2 dX5_settlesAll_66 rfl rfl ?_
        refine V_bipush (pc := 67) C dX5_settlesAll_67 kb_6 ?_
        refine V_idiv (pc := 69) C dX5_settlesAll_69 (by decide) ?_
        refine V_iadd (pc := 70) C dX5_settlesAll_70 ?_
        obtain ⟨b12, h⟩ := wp_c h
        refine V_iald (pc := 71) C 1 dX5_settlesAll_71 rfl b12 ?_
        refine V_icmp_ge (pc := 72) (tgt := 79) C dX5_settlesAll_72 (by decide) (fun c13 => ?_) (fun c13 => ?_)
        · replace h := wp_t h c13
          refine V_iconst (pc := 79) C dX5_settlesAll_79 ki_0 ?_
          refine V_istore_n (pc := 80) (lv' := [(0, .ref (q_m 0)), (1, .int l1), (2, .int l2), (3, .int 0)]) C dX5_settlesAll_80 rfl [1, 2, 3, 0] (by decide) rfl ?_
          refine V_aload_n (pc := 81) C 0 dX5_settlesAll_81 rfl rfl ?_
          refine V_get (pc := 82) C 0 0 inX5 wd_589 dX5_settlesAll_82 rfl rfl (by decide) rfl rfl ?_
          refine V_bipush (pc := 85) C dX5_settlesAll_85 kb_100 ?_
          refine V_iload_n (pc := 87) C 2 dX5_settlesAll_87 rfl rfl ?_
          refine V_iadd (pc := 88) C dX5_settlesAll_88 ?_
          refine V_iload_n (pc := 89) C 3 dX5_settlesAll_89 rfl rfl ?_
          refine V_if_eq (pc := 90) (tgt := 113) C dX5_settlesAll_90 (by decide) (fun c14 => ?_) (fun c14 => absurd (by decide) c14)
          refine V_iconst (pc := 113) C dX5_settlesAll_113 ki_0 ?_
          obtain ⟨b15, h⟩ := wp_c h
          obtain ⟨m_now_16, em_now_16, h⟩ := wp_l h
          refine V_iast (pc := 114) (ws' := (wM cI q_m m_now_16 m_aside m_past m_states m_refused m_text m_length m_tables m_all m_rowsBehind m_rowsMany m_forms m_lesser m_greater m_why m_checks m_numbers m_depths m_spot m_isFaulty m_orders m_letters m_parts m_hash)) C 1 dX5_settlesAll_114 rfl b15 em_now_16 rfl ?_
          obtain ⟨v17, ev17, h⟩ := wp_l h
          refine V_iinc (pc := 115) (v := v17) (lv' := [(0, .ref (q_m 0)), (1, .int l1), (2, .int v17), (3, .int 0)]) (j := 2) C dX5_settlesAll_115 rfl (by rw [ev17]; rfl) [1, 2, 0, 3] (by decide) rfl ?_
          refine V_goto (pc := 118) (tgt := 50) C dX5_settlesAll_118 (by decide) ?_
          refine V_lv (pc := 50) [0, 1, 2] rfl ?_
          exact ih _ _ h
        · replace h := wp_f h c13
          refine V_iconst (pc := 75) C dX5_settlesAll_75 ki_1 ?_
          refine V_goto (pc := 76) (tgt := 80) C dX5_settlesAll_76 (by decide) ?_
          refine V_istore_n (pc := 80) (lv' := [(0, .ref (q_m 0)), (1, .int l1), (2, .int l2), (3, .int 1)]) C dX5_settlesAll_80 rfl [1, 2, 3, 0] (by decide) rfl ?_
          refine V_aload_n (pc := 81) C 0 dX5_settlesAll_81 rfl rfl ?_
          refine V_get (pc := 82) C 0 0 inX5 wd_589 dX5_settlesAll_82 rfl rfl (by decide) rfl rfl ?_
          refine V_bipush (pc := 85) C dX5_settlesAll_85 kb_100 ?_
          refine V_iload_n (pc := 87) C 2 dX5_settlesAll_87 rfl rfl ?_
          refine V_iadd (pc := 88) C dX5_settlesAll_88 ?_
          refine V_iload_n (pc := 89) C 3 dX5_settlesAll_89 rfl rfl ?_
          refine V_if_eq (pc := 90) (tgt := 113) C dX5_settlesAll_90 (by decide) (fun c18 => absurd c18 (by decide)) (fun c18 => ?_)
          refine V_aload_n (pc := 93) C 0 dX5_settlesAll_93 rfl rfl ?_
          refine V_aload_n (pc := 94) C 0 dX5_settlesAll_94 rfl rfl ?_
          refine V_aload_n (pc := 95) C 0 dX5_settlesAll_95 rfl rfl ?_
          refine V_get (pc := 96) C 0 0 inX5 wd_589 dX5_settlesAll_96 rfl rfl (by decide) rfl rfl ?_
          refine V_bipush (pc := 99) C dX5_settlesAll_99 kb_100 ?_
          refine V_iload_n (pc := 101) C 2 dX5_settlesAll_101 rfl rfl ?_
          refine V_iadd (pc := 102) C dX5_settlesAll_102 ?_
          obtain ⟨b19, h⟩ := wp_c h
          refine V_iald (pc := 103) C 1 dX5_settlesAll_103 rfl b19 ?_
          refine V_callVi (pc := 104) (As := [.int (m_now (Int32.toNatClampNeg ((100 : Int32) + l2)))]) (st := [.ref (q_m 0), .int ((100 : Int32) + l2), .ref (q_m 1)]) C (c_M_formOf (wp_b h)) mk_X5_formOf wd_720 dX5_settlesAll_104 0 rfl rfl rfl ⟨Nat.le_of_ble_eq_true rfl, Nat.le_of_ble_eq_true rfl⟩ (Nat.le_of_ble_eq_true rfl) rfl (fun r21 u hw => ?_)
          have h := hw
          try dsimp only at h
          try dsimp only
          refine V_callVi (pc := 107) (As := [.int r21]) (st := [.int ((100 : Int32) + l2), .ref (q_m 1)]) C (c_M_settled (wp_b h)) mk_X5_settled wd_744 dX5_settlesAll_107 0 rfl rfl rfl ⟨Nat.le_of_ble_eq_true rfl, Nat.le_of_ble_eq_true rfl⟩ (Nat.le_of_ble_eq_true rfl) rfl (fun r23 u hw => ?_)
          have h := hw
          try dsimp only at h
          try dsimp only
          refine V_goto (pc := 110) (tgt := 114) C dX5_settlesAll_110 (by decide) ?_
          obtain ⟨b24, h⟩ := wp_c h
          obtain ⟨m_now_25, em_now_25, h⟩ := wp_l h
          refine V_iast (pc := 114) (ws' := (wM cI q_m m_now_25 m_aside m_past m_states m_refused m_text m_length m_tables m_all m_rowsBehind m_rowsMany m_forms m_lesser m_greater m_why m_checks m_numbers m_depths m_spot m_isFaulty m_orders m_letters m_parts m_hash)) C 1 dX5_settlesAll_114 rfl b24 em_now_25 rfl ?_
          obtain ⟨v26, ev26, h⟩ := wp_l h
          refine V_iinc (pc := 115) (v := v26) (lv' := [(0, .ref (q_m 0)), (1, .int l1), (2, .int v26), (3, .int 1)]) (j := 2) C dX5_settlesAll_115 rfl (by rw [ev26]; rfl) [1, 2, 0, 3] (by decide) rfl ?_
          refine V_goto (pc := 118) (tgt := 50) C dX5_settlesAll_118 (by decide) ?_
          refine V_lv (pc := 50) [0, 1, 2] rfl ?_
          exact ih _ _ h
  have hL_130 : ∀ (K : (Nat → Int32) → Option (Int32 × (Nat → Int32) × (Nat → Int32) × Int32 × (Nat → Int32) × Int32 × (Nat → Int32) × (Nat → Int32) × (Nat → Int32) × (Nat → Int32) × Int32 × (Nat → Int32))) (m_tables : Nat → Int32) (m_all : Int32) (m_rowsBehind : Nat → Int32) (m_rowsMany : Int32) (m_forms : Nat → Int32) (m_lesser : Nat → Int32) (m_greater : Nat → Int32) (m_why : Nat → Int32) (m_checks : Int32) (m_numbers : Nat → Int32) (l1 : Int32), (∀ (m_now : Nat → Int32), wpO (K m_now) post → V p l e (rmC 5 118) s m args below meth c D A 4 0 0 Q (wM cI q_m m_now m_aside m_past m_states m_refused m_text m_length m_tables m_all m_rowsBehind m_rowsMany m_forms m_lesser m_greater m_why m_checks m_numbers m_depths m_spot m_isFaulty m_orders m_letters m_parts m_hash) [(0, .ref (q_m 0)), (1, .int l1)] 202 []) → ∀ (n : Nat) (l2 : Int32) (m_now : Nat → Int32), wpO (M_settlesAll_130 K m_lesser m_greater m_why m_numbers l1 n l2 m_now) post → V p l e (rmC 5 118) s m args below meth c D A 4 0 0 Q (wM cI q_m m_now m_aside m_past m_states m_refused m_text m_length m_tables m_all m_rowsBehind m_rowsMany m_forms m_lesser m_greater m_why m_checks m_numbers m_depths m_spot m_isFaulty m_orders m_letters m_parts m_hash) [(0, .ref (q_m 0)), (1, .int l1), (2, .int l2)] 130 [] := by
    intro K m_tables m_all m_rowsBehind m_rowsMany m_forms m_lesser m_greater m_why m_checks m_numbers l1 hK n
    induction n with
    | zero => intro l2 m_now h; rw [M_settlesAll_130] at h; exact (wp_n h).elim
    | succ n ih =>
      intro l2 m_now h
      rw [M_settlesAll_130] at h
      refine V_iload_n (pc := 130) C 2 dX5_settlesAll_130 rfl rfl ?_
      refine V_aload_n (pc := 131) C 0 dX5_settlesAll_131 rfl rfl ?_
      refine V_get (pc := 132) C 0 0 inX5 wd_589 dX5_settlesAll_132 rfl rfl (by decide) rfl rfl ?_
      refine V_iconst (pc := 135) C dX5_settlesAll_135 ki_1 ?_
      obtain ⟨b27, h⟩ := wp_c h
      refine V_iald (pc := 136) C 1 dX5_settlesAll_136 rfl b27 ?_
      refine V_icmp_ge (pc := 137) (tgt := 202) C dX5_settlesAll_137 (by decide) (fun c28 => ?_) (fun c28 => ?_)
      · replace h := wp_t h c28
        refine V_lv (pc := 202) [0, 1] rfl ?_
        exact hK _ h
      · replace h := wp_f h c28
        refine V_aload_n (pc := 140) C 0 dX5_settlesAll_140 rfl rfl ?_
        refine V_get (pc := 141) C 0 14 inX5 wd_603 dX5_settlesAll_141 rfl rfl (by decide) rfl rfl ?_
        refine V_iload_n (pc := 144) C 2 dX5_settlesAll_144 rfl rfl ?_
        obtain ⟨b29, h⟩ := wp_c h
        refine V_iald (pc := 145) C 11 dX5_settlesAll_145 rfl b29 ?_
        refine V_if_ne (pc := 146) (tgt := 196) C dX5_settlesAll_146 (by decide) (fun c30 => ?_) (fun c30 => ?_)
        · replace h := wp_f h c30
          obtain ⟨v31, ev31, h⟩ := wp_l h
          refine V_iinc (pc := 196) (v := v31) (lv' := [(0, .ref (q_m 0)), (1, .int l1), (2, .int v31)]) (j := 2) C dX5_settlesAll_196 rfl (by rw [ev31]; rfl) [1, 2, 0] (by decide) rfl ?_
          refine V_goto (pc := 199) (tgt := 130) C dX5_settlesAll_199 (by decide) ?_
          exact ih _ _ h
        · replace h := wp_t h c30
          refine V_aload_n (pc := 149) C 0 dX5_settlesAll_149 rfl rfl ?_
          refine V_get (pc := 150) C 0 0 inX5 wd_589 dX5_settlesAll_150 rfl rfl (by decide) rfl rfl ?_
          refine V_iconst (pc := 153) C dX5_settlesAll_153 ki_2 ?_
          refine V_aload_n (pc := 154) C 0 dX5_settlesAll_154 rfl rfl ?_
          refine V_get (pc := 155) C 0 16 inX5 wd_605 dX5_settlesAll_155 rfl rfl (by decide) rfl rfl ?_
          refine V_iload_n (pc := 158) C 2 dX5_settlesAll_158 rfl rfl ?_
          obtain ⟨b32, h⟩ := wp_c h
          refine V_iald (pc := 159) C 12 dX5_settlesAll_159 rfl b32 ?_
          refine V_iadd (pc := 160) C dX5_settlesAll_160 ?_
          refine V_aload_n (pc := 161) C 0 dX5_settlesAll_161 rfl rfl ?_
          refine V_aload_n (pc := 162) C 0 dX5_settlesAll_162 rfl rfl ?_
          refine V_get (pc := 163) C 0 12 inX5 wd_601 dX5_settlesAll_163 rfl rfl (by decide) rfl rfl ?_
          refine V_iload_n (pc := 166) C 2 dX5_settlesAll_166 rfl rfl ?_
          obtain ⟨b33, h⟩ := wp_c h
          refine V_iald (pc := 167) C 9 dX5_settlesAll_167 rfl b33 ?_
          refine V_callVi (pc := 168) (As := [.int (m_lesser (Int32.toNatClampNeg l2))]) (st := [.int ((2 : Int32) + (m_numbers (Int32.toNatClampNeg l2))), .ref (q_m 1)]) C (c_M_settled (wp_b h)) mk_X5_settled wd_744 dX5_settlesAll_168 0 rfl rfl rfl ⟨Nat.le_of_ble_eq_true rfl, Nat.le_of_ble_eq_true rfl⟩ (Nat.le_of_ble_eq_true rfl) rfl (fun r35 u hw => ?_)
          have h := hw
          try dsimp only at h
          try dsimp only
          obtain ⟨b36, h⟩ := wp_c h
          obtain ⟨m_now_37, em_now_37, h⟩ := wp_l h
          refine V_iast (pc := 171) (ws' := (wM cI q_m m_now_37 m_aside m_past m_states m_refused m_text m_length m_tables m_all m_rowsBehind m_rowsMany m_forms m_lesser m_greater m_why m_checks m_numbers m_depths m_spot m_isFaulty m_orders m_letters m_parts m_hash)) C 1 dX5_settlesAll_171 rfl b36 em_now_37 rfl ?_
          refine V_aload_n (pc := 172) C 0 dX5_settlesAll_172 rfl rfl ?_
          refine V_get (pc := 173) C 0 0 inX5 wd_589 dX5_settlesAll_173 rfl rfl (by decide) rfl rfl ?_
          refine V_bipush (pc := 176) C dX5_settlesAll_176 kb_50 ?_
          refine V_aload_n (pc := 178) C 0 dX5_settlesAll_178 rfl rfl ?_
          refine V_get (pc := 179) C 0 16 inX5 wd_605 dX5_settlesAll_179 rfl rfl (by decide) rfl rfl ?_
          refine V_iload_n (pc := 182) C 2 dX5_settlesAll_182 rfl rfl ?_
          obtain ⟨b38, h⟩ := wp_c h
          refine V_iald (pc := 183) C 12 dX5_settlesAll_183 rfl b38 ?_
          refine V_iadd (pc := 184) C dX5_settlesAll_184 ?_
          refine V_aload_n (pc := 185) C 0 dX5_settlesAll_185 rfl rfl ?_
          refine V_aload_n (pc := 186) C 0 dX5_settlesAll_186 rfl rfl ?_
          refine V_get (pc := 187) C 0 13 inX5 wd_602 dX5_settlesAll_187 rfl rfl (by decide) rfl rfl ?_
          refine V_iload_n (pc := 190) C 2 dX5_settlesAll_190 rfl rfl ?_
          obtain ⟨b39, h⟩ := wp_c h
          refine V_iald (pc := 191) C 10 dX5_settlesAll_191 rfl b39 ?_
          refine V_callVi (pc := 192) (As := [.int (m_greater (Int32.toNatClampNeg l2))]) (st := [.int ((50 : Int32) + (m_numbers (Int32.toNatClampNeg l2))), .ref (q_m 1)]) C (c_M_settled (wp_b h)) mk_X5_settled wd_744 dX5_settlesAll_192 0 rfl rfl rfl ⟨Nat.le_of_ble_eq_true rfl, Nat.le_of_ble_eq_true rfl⟩ (Nat.le_of_ble_eq_true rfl) rfl (fun r41 u hw => ?_)
          have h := hw
          try dsimp only at h
          try dsimp only
          obtain ⟨b42, h⟩ := wp_c h
          obtain ⟨m_now_43, em_now_43, h⟩ := wp_l h
          refine V_iast (pc := 195) (ws' := (wM cI q_m m_now_43 m_aside m_past m_states m_refused m_text m_length m_tables m_all m_rowsBehind m_rowsMany m_forms m_lesser m_greater m_why m_checks m_numbers m_depths m_spot m_isFaulty m_orders m_letters m_parts m_hash)) C 1 dX5_settlesAll_195 rfl b42 em_now_43 rfl ?_
          obtain ⟨v44, ev44, h⟩ := wp_l h
          refine V_iinc (pc := 196) (v := v44) (lv' := [(0, .ref (q_m 0)), (1, .int l1), (2, .int v44)]) (j := 2) C dX5_settlesAll_196 rfl (by rw [ev44]; rfl) [1, 2, 0] (by decide) rfl ?_
          refine V_goto (pc := 199) (tgt := 130) C dX5_settlesAll_199 (by decide) ?_
          exact ih _ _ h
  unfold M_settlesAll at h
  refine V_aload_n (pc := 0) C 0 dX5_settlesAll_0 rfl rfl ?_
  refine V_callVv (pc := 1) (As := []) (st := []) C (c_M_sweeps (wp_b h)) mk_X5_sweeps wd_705 dX5_settlesAll_1 0 rfl rfl rfl ⟨Nat.le_of_ble_eq_true rfl, Nat.le_of_ble_eq_true rfl⟩ (Nat.le_of_ble_eq_true rfl) rfl (fun u hw => ?_)
  obtain ⟨m_tables_47, m_all_48, m_rowsBehind_49, m_rowsMany_50, m_forms_51, m_lesser_52, m_greater_53, m_why_54, m_checks_55⟩ := u
  have h := hw
  try dsimp only at h
  try dsimp only
  refine V_iconst (pc := 4) C dX5_settlesAll_4 ki_0 ?_
  refine V_istore_n (pc := 5) (lv' := [(0, .ref (q_m 0)), (1, .int 0)]) C dX5_settlesAll_5 rfl [1, 0] (by decide) rfl ?_
  refine V_iconst (pc := 6) C dX5_settlesAll_6 ki_0 ?_
  refine V_istore_n (pc := 7) (lv' := [(0, .ref (q_m 0)), (1, .int 0), (2, .int 0)]) C dX5_settlesAll_7 rfl [1, 2, 0] (by decide) rfl ?_
  refine hL_8 _ _ _ _ _ _ _ _ _ _ _ (fun l1_56 m_numbers_57 h => ?_) 1000 _ _ _ h
  try dsimp only at h
  refine V_iconst (pc := 48) C dX5_settlesAll_48 ki_0 ?_
  refine V_istore_n (pc := 49) (lv' := [(0, .ref (q_m 0)), (1, .int l1_56), (2, .int 0)]) C dX5_settlesAll_49 rfl [1, 2, 0] (by decide) rfl ?_
  refine hL_50 _ _ _ _ _ _ _ _ _ _ _ _ (fun m_now_58 h => ?_) 1000 _ _ h
  try dsimp only at h
  refine V_aload_n (pc := 121) C 0 dX5_settlesAll_121 rfl rfl ?_
  refine V_get (pc := 122) C 0 0 inX5 wd_589 dX5_settlesAll_122 rfl rfl (by decide) rfl rfl ?_
  refine V_iconst (pc := 125) C dX5_settlesAll_125 ki_0 ?_
  obtain ⟨b59, h⟩ := wp_c h
  refine V_iald (pc := 126) C 1 dX5_settlesAll_126 rfl b59 ?_
  refine V_iconst (pc := 127) C dX5_settlesAll_127 ki_1 ?_
  refine V_iadd (pc := 128) C dX5_settlesAll_128 ?_
  obtain ⟨v60, ev60, h⟩ := wp_l h
  refine V_topi (pc := 129) ev60 ?_
  refine V_istore_n (pc := 129) (lv' := [(0, .ref (q_m 0)), (1, .int l1_56), (2, .int v60)]) C dX5_settlesAll_129 rfl [1, 2, 0] (by decide) rfl ?_
  refine hL_130 _ _ _ _ _ _ _ _ _ _ _ _ (fun m_now_61 h => ?_) 1000 _ _ h
  try dsimp only at h
  refine V_aload_n (pc := 202) C 0 dX5_settlesAll_202 rfl rfl ?_
  refine V_get (pc := 203) C 0 0 inX5 wd_589 dX5_settlesAll_203 rfl rfl (by decide) rfl rfl ?_
  refine V_iconst (pc := 206) C dX5_settlesAll_206 ki_1 ?_
  obtain ⟨b62, h⟩ := wp_c h
  refine V_iald (pc := 207) C 1 dX5_settlesAll_207 rfl b62 ?_
  refine V_iload_n (pc := 208) C 1 dX5_settlesAll_208 rfl rfl ?_
  refine V_isub (pc := 209) C dX5_settlesAll_209 ?_
  obtain ⟨v63, ev63, h⟩ := wp_l h
  refine V_topi (pc := 210) ev63 ?_
  refine V_istore_n (pc := 210) (lv' := [(0, .ref (q_m 0)), (1, .int l1_56), (2, .int v63)]) C dX5_settlesAll_210 rfl [1, 2, 0] (by decide) rfl ?_
  refine V_aload_n (pc := 211) C 0 dX5_settlesAll_211 rfl rfl ?_
  refine V_get (pc := 212) C 0 0 inX5 wd_589 dX5_settlesAll_212 rfl rfl (by decide) rfl rfl ?_
  refine V_iconst (pc := 215) C dX5_settlesAll_215 ki_1 ?_
  refine V_iload_n (pc := 216) C 1 dX5_settlesAll_216 rfl rfl ?_
  obtain ⟨b64, h⟩ := wp_c h
  obtain ⟨m_now_65, em_now_65, h⟩ := wp_l h
  refine V_iast (pc := 217) (ws' := (wM cI q_m m_now_65 m_aside m_past m_states m_refused m_text m_length m_tables_47 m_all_48 m_rowsBehind_49 m_rowsMany_50 m_forms_51 m_lesser_52 m_greater_53 m_why_54 m_checks_55 m_numbers_57 m_depths m_spot m_isFaulty m_orders m_letters m_parts m_hash)) C 1 dX5_settlesAll_217 rfl b64 em_now_65 rfl ?_
  refine V_iload_n (pc := 218) C 2 dX5_settlesAll_218 rfl rfl ?_
  exact V_iret (pc := 219) C hQ (m_now_65, m_tables_47, m_all_48, m_rowsBehind_49, m_rowsMany_50, m_forms_51, m_lesser_52, m_greater_53, m_why_54, m_checks_55, m_numbers_57) dX5_settlesAll_219 (vp_nar_int _) rfl (wp_s h)
set_option maxRecDepth 100000 in
set_option maxHeartbeats 4000000 in
theorem c_M_settles {l : Launch} {D : va_G} {cI cC : ClassId} {q_m : Nat → Nat} {m_now : Nat → Int32} {m_aside : Nat → Int32} {m_past : Nat → Int32} {m_states : Int32} {m_refused : Nat → Int32} {m_text : Nat → Int32} {m_length : Int32} {m_tables : Nat → Int32} {m_all : Int32} {m_rowsBehind : Nat → Int32} {m_rowsMany : Int32} {m_forms : Nat → Int32} {m_lesser : Nat → Int32} {m_greater : Nat → Int32} {m_why : Nat → Int32} {m_checks : Int32} {m_numbers : Nat → Int32} {m_depths : Nat → Int32} {m_spot : Int32} {m_isFaulty : Int32} {m_orders : Int32} {m_letters : Nat → Int32} {m_parts : Nat → Int32} {m_hash : Int64} {post : Int32 × (Nat → Int32) × (Nat → Int32) × (Nat → Int32) × Int32 × (Nat → Int32) × (Nat → Int32) × Int32 × (Nat → Int32) × Int32 × (Nat → Int32) × (Nat → Int32) × (Nat → Int32) × (Nat → Int32) × Int32 × (Nat → Int32) → Prop} (h : wpO (M_settles m_now m_aside m_past m_states m_refused m_tables m_all m_rowsBehind m_rowsMany m_forms m_lesser m_greater m_why m_checks m_numbers) post) : Cn l yX5_settles cX5_settles 1 (some .int) 6 141 D cI cC [.ref (q_m 0)] (wM cI q_m m_now m_aside m_past m_states m_refused m_text m_length m_tables m_all m_rowsBehind m_rowsMany m_forms m_lesser m_greater m_why m_checks m_numbers m_depths m_spot m_isFaulty m_orders m_letters m_parts m_hash) (QI D cI cC (S := (Nat → Int32) × (Nat → Int32) × (Nat → Int32) × Int32 × (Nat → Int32) × (Nat → Int32) × Int32 × (Nat → Int32) × Int32 × (Nat → Int32) × (Nat → Int32) × (Nat → Int32) × (Nat → Int32) × Int32 × (Nat → Int32)) (fun u => (wM cI q_m u.1 u.2.1 u.2.2.1 u.2.2.2.1 u.2.2.2.2.1 m_text m_length u.2.2.2.2.2.1 u.2.2.2.2.2.2.1 u.2.2.2.2.2.2.2.1 u.2.2.2.2.2.2.2.2.1 u.2.2.2.2.2.2.2.2.2.1 u.2.2.2.2.2.2.2.2.2.2.1 u.2.2.2.2.2.2.2.2.2.2.2.1 u.2.2.2.2.2.2.2.2.2.2.2.2.1 u.2.2.2.2.2.2.2.2.2.2.2.2.2.1 u.2.2.2.2.2.2.2.2.2.2.2.2.2.2 m_depths m_spot m_isFaulty m_orders m_letters m_parts m_hash)) (fun r u => post (r, u))) := by
  refine Cn.ofV (own := RX5) (lv0 := [(0, .ref (q_m 0))]) rfl (by decide) (Nat.le_of_ble_eq_true rfl) rfl ?_
  intro p e s m below meth c A args Q hQ C
  unfold M_settles at h
  refine V_aload_n (pc := 0) C 0 dX5_settles_0 rfl rfl ?_
  refine V_callVv (pc := 1) (As := []) (st := []) C (c_M_laysAside (wp_b h)) mk_X5_laysAside wd_624 dX5_settles_1 0 rfl rfl rfl ⟨Nat.le_of_ble_eq_true rfl, Nat.le_of_ble_eq_true rfl⟩ (Nat.le_of_ble_eq_true rfl) rfl (fun m_aside_3 hw => ?_)
  have h := hw
  try dsimp only at h
  try dsimp only
  refine V_aload_n (pc := 4) C 0 dX5_settles_4 rfl rfl ?_
  refine V_aload_n (pc := 5) C 0 dX5_settles_5 rfl rfl ?_
  refine V_callVi (pc := 6) (As := []) (st := [.ref (q_m 0)]) C (c_M_settlesAll (wp_b h)) mk_X5_settlesAll wd_702 dX5_settles_6 0 rfl rfl rfl ⟨Nat.le_of_ble_eq_true rfl, Nat.le_of_ble_eq_true rfl⟩ (Nat.le_of_ble_eq_true rfl) rfl (fun r5 u hw => ?_)
  obtain ⟨m_now_6, m_tables_7, m_all_8, m_rowsBehind_9, m_rowsMany_10, m_forms_11, m_lesser_12, m_greater_13, m_why_14, m_checks_15, m_numbers_16⟩ := u
  have h := hw
  try dsimp only at h
  try dsimp only
  refine V_callVi (pc := 9) (As := [.int r5]) (st := []) C (c_M_answers (wp_b h)) mk_X5_answers wd_633 dX5_settles_9 0 rfl rfl rfl ⟨Nat.le_of_ble_eq_true rfl, Nat.le_of_ble_eq_true rfl⟩ (Nat.le_of_ble_eq_true rfl) rfl (fun r18 u hw => ?_)
  obtain ⟨m_past_19, m_states_20, m_refused_21⟩ := u
  have h := hw
  try dsimp only at h
  try dsimp only
  exact V_iret (pc := 12) C hQ (m_now_6, m_aside_3, m_past_19, m_states_20, m_refused_21, m_tables_7, m_all_8, m_rowsBehind_9, m_rowsMany_10, m_forms_11, m_lesser_12, m_greater_13, m_why_14, m_checks_15, m_numbers_16) dX5_settles_12 (vp_nar_int _) rfl (wp_s h)
set_option maxRecDepth 100000 in
set_option maxHeartbeats 4000000 in
theorem c_M_of {l : Launch} {D : va_G} {cI cC : ClassId} {q_m : Nat → Nat} {m_now : Nat → Int32} {m_aside : Nat → Int32} {m_past : Nat → Int32} {m_states : Int32} {m_refused : Nat → Int32} {m_text : Nat → Int32} {m_length : Int32} {m_tables : Nat → Int32} {m_all : Int32} {m_rowsBehind : Nat → Int32} {m_rowsMany : Int32} {m_forms : Nat → Int32} {m_lesser : Nat → Int32} {m_greater : Nat → Int32} {m_why : Nat → Int32} {m_checks : Int32} {m_numbers : Nat → Int32} {m_depths : Nat → Int32} {m_spot : Int32} {m_isFaulty : Int32} {m_orders : Int32} {m_letters : Nat → Int32} {m_parts : Nat → Int32} {m_hash : Int64} {a0 : Int32} {a1 : Int32} {post : Int32 × (Nat → Int32) → Prop} (h : wpO (M_of m_now m_refused a0 a1) post) : Cn l yX5_of cX5_of 3 (some .int) 3 64 D cI cC [.ref (q_m 0), .int a0, .int a1] (wM cI q_m m_now m_aside m_past m_states m_refused m_text m_length m_tables m_all m_rowsBehind m_rowsMany m_forms m_lesser m_greater m_why m_checks m_numbers m_depths m_spot m_isFaulty m_orders m_letters m_parts m_hash) (QI D cI cC (S := (Nat → Int32)) (fun u => (wM cI q_m m_now m_aside m_past m_states u m_text m_length m_tables m_all m_rowsBehind m_rowsMany m_forms m_lesser m_greater m_why m_checks m_numbers m_depths m_spot m_isFaulty m_orders m_letters m_parts m_hash)) (fun r u => post (r, u))) := by
  refine Cn.ofV (own := RX5) (lv0 := [(0, .ref (q_m 0)), (1, .int a0), (2, .int a1)]) rfl (by decide) (Nat.le_of_ble_eq_true rfl) rfl ?_
  intro p e s m below meth c A args Q hQ C
  unfold M_of at h
  refine V_aload_n (pc := 0) C 0 dX5_of_0 rfl rfl ?_
  refine V_iload_n (pc := 1) C 1 dX5_of_1 rfl rfl ?_
  refine V_callVi (pc := 2) (As := [.int a0]) (st := []) C (c_M_isGate (wp_b h)) mk_X5_isGate wd_751 dX5_of_2 0 rfl rfl rfl ⟨Nat.le_of_ble_eq_true rfl, Nat.le_of_ble_eq_true rfl⟩ (Nat.le_of_ble_eq_true rfl) rfl (fun r2 u hw => ?_)
  obtain ⟨h, z3⟩ := hw
  try dsimp only at h
  try dsimp only
  refine V_if_eq (pc := 5) (tgt := 15) C dX5_of_5 (by decide) (fun c4 => ?_) (fun c4 => ?_)
  · replace h := wp_t h c4
    refine V_aload_n (pc := 15) C 0 dX5_of_15 rfl rfl ?_
    refine V_callVi (pc := 16) (As := []) (st := []) C (c_M_bad (wp_b h)) mk_X5_bad wd_642 dX5_of_16 0 rfl rfl rfl ⟨Nat.le_of_ble_eq_true rfl, Nat.le_of_ble_eq_true rfl⟩ (Nat.le_of_ble_eq_true rfl) rfl (fun r6 m_refused_7 hw => ?_)
    have h := hw
    try dsimp only at h
    try dsimp only
    exact V_iret (pc := 19) C hQ m_refused_7 dX5_of_19 (vp_nar_int _) rfl (wp_s h)
  · replace h := wp_f h c4
    refine V_iload_n (pc := 8) C 2 dX5_of_8 rfl rfl ?_
    refine V_cutSi (pc := 9) (As := [.int a1]) (st := []) (w0 := ([] : va_W)) (wr := (wM cI q_m m_now m_aside m_past m_states m_refused m_text m_length m_tables m_all m_rowsBehind m_rowsMany m_forms m_lesser m_greater m_why m_checks m_numbers m_depths m_spot m_isFaulty m_orders m_letters m_parts m_hash)) (w2 := fun u => (wM cI q_m m_now m_aside m_past m_states m_refused m_text m_length m_tables m_all m_rowsBehind m_rowsMany m_forms m_lesser m_greater m_why m_checks m_numbers m_depths m_spot m_isFaulty m_orders m_letters m_parts m_hash)) C (c_M_isSide (wp_b h)) mk_X5_isSide wd_685 dX5_of_9 rfl rfl ⟨Nat.le_of_ble_eq_true rfl, Nat.le_of_ble_eq_true rfl⟩ [] [0, 1, 2, 3, 4, 5, 6, 7, 8, 9, 10, 11, 12, 13, 14, 15] [0, 1, 2, 3, 4, 5, 6, 7, 8, 9, 10, 11, 12, 13, 14, 15] ⟨rfl, rfl, by decide +kernel, by decide +kernel, by decide +kernel⟩ (by decide +kernel) (fun u => rfl) (Nat.le_of_ble_eq_true rfl) rfl (fun r9 u hw => ?_)
    obtain ⟨h, z10⟩ := hw
    try dsimp only at h
    try dsimp only
    refine V_if_ne (pc := 12) (tgt := 20) C dX5_of_12 (by decide) (fun c11 => ?_) (fun c11 => ?_)
    · replace h := wp_f h c11
      refine V_aload_n (pc := 20) C 0 dX5_of_20 rfl rfl ?_
      refine V_get (pc := 21) C 0 0 inX5 wd_589 dX5_of_21 rfl rfl (by decide) rfl rfl ?_
      refine V_iload_n (pc := 24) C 2 dX5_of_24 rfl rfl ?_
      refine V_if_ne (pc := 25) (tgt := 32) C dX5_of_25 (by decide) (fun c12 => ?_) (fun c12 => ?_)
      · replace h := wp_f h c12
        refine V_bipush (pc := 32) C dX5_of_32 kb_50 ?_
        refine V_iload_n (pc := 34) C 1 dX5_of_34 rfl rfl ?_
        refine V_iadd (pc := 35) C dX5_of_35 ?_
        obtain ⟨b13, h⟩ := wp_c h
        refine V_iald (pc := 36) C 1 dX5_of_36 rfl b13 ?_
        exact V_iret (pc := 37) C hQ m_refused dX5_of_37 (vp_nar_int _) rfl (wp_s h)
      · replace h := wp_t h c12
        refine V_iconst (pc := 28) C dX5_of_28 ki_2 ?_
        refine V_goto (pc := 29) (tgt := 34) C dX5_of_29 (by decide) ?_
        refine V_iload_n (pc := 34) C 1 dX5_of_34 rfl rfl ?_
        refine V_iadd (pc := 35) C dX5_of_35 ?_
        obtain ⟨b14, h⟩ := wp_c h
        refine V_iald (pc := 36) C 1 dX5_of_36 rfl b14 ?_
        exact V_iret (pc := 37) C hQ m_refused dX5_of_37 (vp_nar_int _) rfl (wp_s h)
    · replace h := wp_t h c11
      refine V_aload_n (pc := 15) C 0 dX5_of_15 rfl rfl ?_
      refine V_callVi (pc := 16) (As := []) (st := []) C (c_M_bad (wp_b h)) mk_X5_bad wd_642 dX5_of_16 0 rfl rfl rfl ⟨Nat.le_of_ble_eq_true rfl, Nat.le_of_ble_eq_true rfl⟩ (Nat.le_of_ble_eq_true rfl) rfl (fun r16 m_refused_17 hw => ?_)
      have h := hw
      try dsimp only at h
      try dsimp only
      exact V_iret (pc := 19) C hQ m_refused_17 dX5_of_19 (vp_nar_int _) rfl (wp_s h)
set_option maxRecDepth 100000 in
set_option maxHeartbeats 4000000 in
theorem c_M_table {l : Launch} {D : va_G} {cI cC : ClassId} {q_m : Nat → Nat} {m_now : Nat → Int32} {m_aside : Nat → Int32} {m_past : Nat → Int32} {m_states : Int32} {m_refused : Nat → Int32} {m_text : Nat → Int32} {m_length : Int32} {m_tables : Nat → Int32} {m_all : Int32} {m_rowsBehind : Nat → Int32} {m_rowsMany : Int32} {m_forms : Nat → Int32} {m_lesser : Nat → Int32} {m_greater : Nat → Int32} {m_why : Nat → Int32} {m_checks : Int32} {m_numbers : Nat → Int32} {m_depths : Nat → Int32} {m_spot : Int32} {m_isFaulty : Int32} {m_orders : Int32} {m_letters : Nat → Int32} {m_parts : Nat → Int32} {m_hash : Int64} {a0 : Int32} {post : Int32 × (Nat → Int32) × (Nat → Int32) × Int32 → Prop} (h : wpO (M_table m_now m_refused m_tables m_all a0) post) : Cn l yX5_table cX5_table 2 (some .int) 3 64 D cI cC [.ref (q_m 0), .int a0] (wM cI q_m m_now m_aside m_past m_states m_refused m_text m_length m_tables m_all m_rowsBehind m_rowsMany m_forms m_lesser m_greater m_why m_checks m_numbers m_depths m_spot m_isFaulty m_orders m_letters m_parts m_hash) (QI D cI cC (S := (Nat → Int32) × (Nat → Int32) × Int32) (fun u => (wM cI q_m m_now m_aside m_past m_states u.1 m_text m_length u.2.1 u.2.2 m_rowsBehind m_rowsMany m_forms m_lesser m_greater m_why m_checks m_numbers m_depths m_spot m_isFaulty m_orders m_letters m_parts m_hash)) (fun r u => post (r, u))) := by
  refine Cn.ofV (own := RX5) (lv0 := [(0, .ref (q_m 0)), (1, .int a0)]) rfl (by decide) (Nat.le_of_ble_eq_true rfl) rfl ?_
  intro p e s m below meth c A args Q hQ C
  unfold M_table at h
  refine V_aload_n (pc := 0) C 0 dX5_table_0 rfl rfl ?_
  refine V_iload_n (pc := 1) C 1 dX5_table_1 rfl rfl ?_
  refine V_callVi (pc := 2) (As := [.int a0]) (st := []) C (c_M_isLiteral (wp_b h)) mk_X5_isLiteral wd_652 dX5_table_2 0 rfl rfl rfl ⟨Nat.le_of_ble_eq_true rfl, Nat.le_of_ble_eq_true rfl⟩ (Nat.le_of_ble_eq_true rfl) rfl (fun r2 u hw => ?_)
  obtain ⟨h, z3⟩ := hw
  try dsimp only at h
  try dsimp only
  refine V_if_eq (pc := 5) (tgt := 16) C dX5_table_5 (by decide) (fun c4 => ?_) (fun c4 => ?_)
  · replace h := wp_t h c4
    refine V_aload_n (pc := 16) C 0 dX5_table_16 rfl rfl ?_
    refine V_callVi (pc := 17) (As := []) (st := []) C (c_M_bad (wp_b h)) mk_X5_bad wd_642 dX5_table_17 0 rfl rfl rfl ⟨Nat.le_of_ble_eq_true rfl, Nat.le_of_ble_eq_true rfl⟩ (Nat.le_of_ble_eq_true rfl) rfl (fun r6 m_refused_7 hw => ?_)
    have h := hw
    try dsimp only at h
    try dsimp only
    exact V_iret (pc := 20) C hQ (m_refused_7, m_tables, m_all) dX5_table_20 (vp_nar_int _) rfl (wp_s h)
  · replace h := wp_f h c4
    refine V_aload_n (pc := 8) C 0 dX5_table_8 rfl rfl ?_
    refine V_iload_n (pc := 9) C 1 dX5_table_9 rfl rfl ?_
    refine V_callVi (pc := 10) (As := [.int a0]) (st := []) C (c_M_tellTable (wp_b h)) mk_X5_tellTable wd_761 dX5_table_10 0 rfl rfl rfl ⟨Nat.le_of_ble_eq_true rfl, Nat.le_of_ble_eq_true rfl⟩ (Nat.le_of_ble_eq_true rfl) rfl (fun r9 u hw => ?_)
    obtain ⟨m_tables_10, m_all_11⟩ := u
    have h := hw
    try dsimp only at h
    try dsimp only
    refine V_goto (pc := 13) (tgt := 20) C dX5_table_13 (by decide) ?_
    exact V_iret (pc := 20) C hQ (m_refused, m_tables_10, m_all_11) dX5_table_20 (vp_nar_int _) rfl (wp_s h)
set_option maxRecDepth 100000 in
set_option maxHeartbeats 4000000 in
theorem c_M_at {l : Launch} {D : va_G} {cI cC : ClassId} {q_m : Nat → Nat} {m_now : Nat → Int32} {m_aside : Nat → Int32} {m_past : Nat → Int32} {m_states : Int32} {m_refused : Nat → Int32} {m_text : Nat → Int32} {m_length : Int32} {m_tables : Nat → Int32} {m_all : Int32} {m_rowsBehind : Nat → Int32} {m_rowsMany : Int32} {m_forms : Nat → Int32} {m_lesser : Nat → Int32} {m_greater : Nat → Int32} {m_why : Nat → Int32} {m_checks : Int32} {m_numbers : Nat → Int32} {m_depths : Nat → Int32} {m_spot : Int32} {m_isFaulty : Int32} {m_orders : Int32} {m_letters : Nat → Int32} {m_parts : Nat → Int32} {m_hash : Int64} {a0 : Int32} {a1 : Int32} {post : Int32 × (Nat → Int32) × (Nat → Int32) × Int32 → Prop} (h : wpO (M_at m_now m_refused m_tables m_all a0 a1) post) : Cn l yX5_at cX5_at 3 (some .int) 3 64 D cI cC [.ref (q_m 0), .int a0, .int a1] (wM cI q_m m_now m_aside m_past m_states m_refused m_text m_length m_tables m_all m_rowsBehind m_rowsMany m_forms m_lesser m_greater m_why m_checks m_numbers m_depths m_spot m_isFaulty m_orders m_letters m_parts m_hash) (QI D cI cC (S := (Nat → Int32) × (Nat → Int32) × Int32) (fun u => (wM cI q_m m_now m_aside m_past m_states u.1 m_text m_length u.2.1 u.2.2 m_rowsBehind m_rowsMany m_forms m_lesser m_greater m_why m_checks m_numbers m_depths m_spot m_isFaulty m_orders m_letters m_parts m_hash)) (fun r u => post (r, u))) := by
  refine Cn.ofV (own := RX5) (lv0 := [(0, .ref (q_m 0)), (1, .int a0), (2, .int a1)]) rfl (by decide) (Nat.le_of_ble_eq_true rfl) rfl ?_
  intro p e s m below meth c A args Q hQ C
  unfold M_at at h
  refine V_aload_n (pc := 0) C 0 dX5_at_0 rfl rfl ?_
  refine V_iload_n (pc := 1) C 1 dX5_at_1 rfl rfl ?_
  refine V_callVi (pc := 2) (As := [.int a0]) (st := []) C (c_M_isLiteral (wp_b h)) mk_X5_isLiteral wd_652 dX5_at_2 0 rfl rfl rfl ⟨Nat.le_of_ble_eq_true rfl, Nat.le_of_ble_eq_true rfl⟩ (Nat.le_of_ble_eq_true rfl) rfl (fun r2 u hw => ?_)
  obtain ⟨h, z3⟩ := hw
  try dsimp only at h
  try dsimp only
  refine V_if_eq (pc := 5) (tgt := 34) C dX5_at_5 (by decide) (fun c4 => ?_) (fun c4 => ?_)
  · replace h := wp_t h c4
    refine V_aload_n (pc := 34) C 0 dX5_at_34 rfl rfl ?_
    refine V_callVi (pc := 35) (As := []) (st := []) C (c_M_bad (wp_b h)) mk_X5_bad wd_642 dX5_at_35 0 rfl rfl rfl ⟨Nat.le_of_ble_eq_true rfl, Nat.le_of_ble_eq_true rfl⟩ (Nat.le_of_ble_eq_true rfl) rfl (fun r6 m_refused_7 hw => ?_)
    have h := hw
    try dsimp only at h
    try dsimp only
    exact V_iret (pc := 38) C hQ (m_refused_7, m_tables, m_all) dX5_at_38 (vp_nar_int _) rfl (wp_s h)
  · replace h := wp_f h c4
    refine V_iload_n (pc := 8) C 2 dX5_at_8 rfl rfl ?_
    refine V_iconst (pc := 9) C dX5_at_9 ki_0 ?_
    refine V_aload_n (pc := 10) C 0 dX5_at_10 rfl rfl ?_
    refine V_callVi (pc := 11) (As := []) (st := [.int 0, .int a1]) C (c_M_rows (wp_b h)) mk_X5_rows wd_695 dX5_at_11 0 rfl rfl rfl ⟨Nat.le_of_ble_eq_true rfl, Nat.le_of_ble_eq_true rfl⟩ (Nat.le_of_ble_eq_true rfl) rfl (fun r9 u hw => ?_)
    have h := hw
    try dsimp only at h
    try dsimp only
    refine V_iconst (pc := 14) C dX5_at_14 ki_1 ?_
    refine V_isub (pc := 15) C dX5_at_15 ?_
    refine V_cutSi (pc := 16) (As := [.int a1, .int 0, .int (r9 - 1)]) (st := []) (w0 := ([] : va_W)) (wr := (wM cI q_m m_now m_aside m_past m_states m_refused m_text m_length m_tables m_all m_rowsBehind m_rowsMany m_forms m_lesser m_greater m_why m_checks m_numbers m_depths m_spot m_isFaulty m_orders m_letters m_parts m_hash)) (w2 := fun u => (wM cI q_m m_now m_aside m_past m_states m_refused m_text m_length m_tables m_all m_rowsBehind m_rowsMany m_forms m_lesser m_greater m_why m_checks m_numbers m_depths m_spot m_isFaulty m_orders m_letters m_parts m_hash)) C (c_M_within (wp_b h)) mk_X5_within wd_630 dX5_at_16 rfl rfl ⟨Nat.le_of_ble_eq_true rfl, Nat.le_of_ble_eq_true rfl⟩ [] [0, 1, 2, 3, 4, 5, 6, 7, 8, 9, 10, 11, 12, 13, 14, 15] [0, 1, 2, 3, 4, 5, 6, 7, 8, 9, 10, 11, 12, 13, 14, 15] ⟨rfl, rfl, by decide +kernel, by decide +kernel, by decide +kernel⟩ (by decide +kernel) (fun u => rfl) (Nat.le_of_ble_eq_true rfl) rfl (fun r11 u hw => ?_)
    obtain ⟨h, z12⟩ := hw
    try dsimp only at h
    try dsimp only
    refine V_if_eq (pc := 19) (tgt := 34) C dX5_at_19 (by decide) (fun c13 => ?_) (fun c13 => ?_)
    · replace h := wp_t h c13
      refine V_aload_n (pc := 34) C 0 dX5_at_34 rfl rfl ?_
      refine V_callVi (pc := 35) (As := []) (st := []) C (c_M_bad (wp_b h)) mk_X5_bad wd_642 dX5_at_35 0 rfl rfl rfl ⟨Nat.le_of_ble_eq_true rfl, Nat.le_of_ble_eq_true rfl⟩ (Nat.le_of_ble_eq_true rfl) rfl (fun r15 m_refused_16 hw => ?_)
      have h := hw
      try dsimp only at h
      try dsimp only
      exact V_iret (pc := 38) C hQ (m_refused_16, m_tables, m_all) dX5_at_38 (vp_nar_int _) rfl (wp_s h)
    · replace h := wp_f h c13
      refine V_aload_n (pc := 22) C 0 dX5_at_22 rfl rfl ?_
      refine V_iload_n (pc := 23) C 1 dX5_at_23 rfl rfl ?_
      refine V_callVi (pc := 24) (As := [.int a0]) (st := []) C (c_M_tellTable (wp_b h)) mk_X5_tellTable wd_761 dX5_at_24 0 rfl rfl rfl ⟨Nat.le_of_ble_eq_true rfl, Nat.le_of_ble_eq_true rfl⟩ (Nat.le_of_ble_eq_true rfl) rfl (fun r18 u hw => ?_)
      obtain ⟨m_tables_19, m_all_20⟩ := u
      have h := hw
      try dsimp only at h
      try dsimp only
      refine V_iload_n (pc := 27) C 2 dX5_at_27 rfl rfl ?_
      refine V_ishr (pc := 28) C dX5_at_28 ?_
      refine V_iconst (pc := 29) C dX5_at_29 ki_1 ?_
      refine V_iand (pc := 30) C dX5_at_30 ?_
      refine V_goto (pc := 31) (tgt := 38) C dX5_at_31 (by decide) ?_
      exact V_iret (pc := 38) C hQ (m_refused, m_tables_19, m_all_20) dX5_at_38 (vp_nar_int _) rfl (wp_s h)
set_option maxRecDepth 100000 in
set_option maxHeartbeats 4000000 in
theorem c_M_depthOf {l : Launch} {D : va_G} {cI cC : ClassId} {q_m : Nat → Nat} {m_now : Nat → Int32} {m_aside : Nat → Int32} {m_past : Nat → Int32} {m_states : Int32} {m_refused : Nat → Int32} {m_text : Nat → Int32} {m_length : Int32} {m_tables : Nat → Int32} {m_all : Int32} {m_rowsBehind : Nat → Int32} {m_rowsMany : Int32} {m_forms : Nat → Int32} {m_lesser : Nat → Int32} {m_greater : Nat → Int32} {m_why : Nat → Int32} {m_checks : Int32} {m_numbers : Nat → Int32} {m_depths : Nat → Int32} {m_spot : Int32} {m_isFaulty : Int32} {m_orders : Int32} {m_letters : Nat → Int32} {m_parts : Nat → Int32} {m_hash : Int64} {a0 : Int32} {post : Int32 × (Nat → Int32) → Prop} (h : wpO (M_depthOf m_now m_depths a0) post) : Cn l yX5_depthOf cX5_depthOf 5 (some .int) 0 0 D cI cC [.ref (q_m 0), .int a0] (wM cI q_m m_now m_aside m_past m_states m_refused m_text m_length m_tables m_all m_rowsBehind m_rowsMany m_forms m_lesser m_greater m_why m_checks m_numbers m_depths m_spot m_isFaulty m_orders m_letters m_parts m_hash) (QI D cI cC (S := (Nat → Int32)) (fun u => (wM cI q_m m_now m_aside m_past m_states m_refused m_text m_length m_tables m_all m_rowsBehind m_rowsMany m_forms m_lesser m_greater m_why m_checks m_numbers u m_spot m_isFaulty m_orders m_letters m_parts m_hash)) (fun r u => post (r, u))) := by
  refine Cn.ofV (own := RX5) (lv0 := [(0, .ref (q_m 0)), (1, .int a0)]) rfl (by decide) (Nat.le_of_ble_eq_true rfl) rfl ?_
  intro p e s m below meth c A args Q hQ C
  have hL_2 : ∀ (K : (Nat → Int32) → Option (Int32 × (Nat → Int32))) (l1 : Int32), (∀ (m_depths : Nat → Int32), wpO (K m_depths) post → V p l e (rmC 0 0) s m args below meth c D A 5 0 0 Q (wM cI q_m m_now m_aside m_past m_states m_refused m_text m_length m_tables m_all m_rowsBehind m_rowsMany m_forms m_lesser m_greater m_why m_checks m_numbers m_depths m_spot m_isFaulty m_orders m_letters m_parts m_hash) [(0, .ref (q_m 0)), (1, .int l1)] 84 []) → ∀ (n : Nat) (l2 : Int32) (m_depths : Nat → Int32), wpO (M_depthOf_2 K m_now l1 n l2 m_depths) post → V p l e (rmC 0 0) s m args below meth c D A 5 0 0 Q (wM cI q_m m_now m_aside m_past m_states m_refused m_text m_length m_tables m_all m_rowsBehind m_rowsMany m_forms m_lesser m_greater m_why m_checks m_numbers m_depths m_spot m_isFaulty m_orders m_letters m_parts m_hash) [(0, .ref (q_m 0)), (1, .int l1), (2, .int l2)] 2 [] := by
    intro K  l1 hK n
    induction n with
    | zero => intro l2 m_depths h; rw [M_depthOf_2] at h; exact (wp_n h).elim
    | succ n ih =>
      intro l2 m_depths h
      rw [M_depthOf_2] at h
      refine V_iload_n (pc := 2) C 2 dX5_depthOf_2 rfl rfl ?_
      refine V_iload_n (pc := 3) C 1 dX5_depthOf_3 rfl rfl ?_
      refine V_icmp_gt (pc := 4) (tgt := 84) C dX5_depthOf_4 (by decide) (fun c1 => ?_) (fun c1 => ?_)
      · replace h := wp_t h c1
        refine V_lv (pc := 84) [0, 1] rfl ?_
        exact hK _ h
      · replace h := wp_f h c1
        refine V_aload_n (pc := 7) C 0 dX5_depthOf_7 rfl rfl ?_
        refine V_get (pc := 8) C 0 17 inX5 wd_606 dX5_depthOf_8 rfl rfl (by decide) rfl rfl ?_
        refine V_iload_n (pc := 11) C 2 dX5_depthOf_11 rfl rfl ?_
        refine V_iconst (pc := 12) C dX5_depthOf_12 ki_0 ?_
        obtain ⟨b2, h⟩ := wp_c h
        obtain ⟨m_depths_3, em_depths_3, h⟩ := wp_l h
        refine V_iast (pc := 13) (ws' := (wM cI q_m m_now m_aside m_past m_states m_refused m_text m_length m_tables m_all m_rowsBehind m_rowsMany m_forms m_lesser m_greater m_why m_checks m_numbers m_depths_3 m_spot m_isFaulty m_orders m_letters m_parts m_hash)) C 13 dX5_depthOf_13 rfl b2 em_depths_3 rfl ?_
        refine V_iload_n (pc := 14) C 2 dX5_depthOf_14 rfl rfl ?_
        refine V_aload_n (pc := 15) C 0 dX5_depthOf_15 rfl rfl ?_
        refine V_get (pc := 16) C 0 0 inX5 wd_589 dX5_depthOf_16 rfl rfl (by decide) rfl rfl ?_
        refine V_iconst (pc := 19) C dX5_depthOf_19 ki_0 ?_
        obtain ⟨b4, h⟩ := wp_c h
        refine V_iald (pc := 20) C 1 dX5_depthOf_20 rfl b4 ?_
        refine V_icmp_le (pc := 21) (tgt := 78) C dX5_depthOf_21 (by decide) (fun c5 => ?_) (fun c5 => ?_)
        · replace h := wp_t h c5
          obtain ⟨v6, ev6, h⟩ := wp_l h
          refine V_iinc (pc := 78) (v := v6) (lv' := [(0, .ref (q_m 0)), (1, .int l1), (2, .int v6)]) (j := 2) C dX5_depthOf_78 rfl (by rw [ev6]; rfl) [1, 2, 0] (by decide) rfl ?_
          refine V_goto (pc := 81) (tgt := 2) C dX5_depthOf_81 (by decide) ?_
          exact ih _ _ h
        · replace h := wp_f h c5
          refine V_aload_n (pc := 24) C 0 dX5_depthOf_24 rfl rfl ?_
          refine V_get (pc := 25) C 0 17 inX5 wd_606 dX5_depthOf_25 rfl rfl (by decide) rfl rfl ?_
          refine V_aload_n (pc := 28) C 0 dX5_depthOf_28 rfl rfl ?_
          refine V_get (pc := 29) C 0 0 inX5 wd_589 dX5_depthOf_29 rfl rfl (by decide) rfl rfl ?_
          refine V_iconst (pc := 32) C dX5_depthOf_32 ki_2 ?_
          refine V_iload_n (pc := 33) C 2 dX5_depthOf_33 rfl rfl ?_
          refine V_iadd (pc := 34) C dX5_depthOf_34 ?_
          obtain ⟨b7, h⟩ := wp_c h
          refine V_iald (pc := 35) C 1 dX5_depthOf_35 rfl b7 ?_
          refine V_iconst (pc := 36) C dX5_depthOf_36 ki_2 ?_
          refine V_idiv (pc := 37) C dX5_depthOf_37 (by decide) ?_
          obtain ⟨b8, h⟩ := wp_c h
          refine V_iald (pc := 38) C 13 dX5_depthOf_38 rfl b8 ?_
          obtain ⟨v9, ev9, h⟩ := wp_l h
          refine V_topi (pc := 39) ev9 ?_
          refine V_istore_n (pc := 39) (lv' := [(0, .ref (q_m 0)), (1, .int l1), (2, .int l2), (3, .int v9)]) C dX5_depthOf_39 rfl [1, 2, 3, 0] (by decide) rfl ?_
          refine V_aload_n (pc := 40) C 0 dX5_depthOf_40 rfl rfl ?_
          refine V_get (pc := 41) C 0 17 inX5 wd_606 dX5_depthOf_41 rfl rfl (by decide) rfl rfl ?_
          refine V_aload_n (pc := 44) C 0 dX5_depthOf_44 rfl rfl ?_
          refine V_get (pc := 45) C 0 0 inX5 wd_589 dX5_depthOf_45 rfl rfl (by decide) rfl rfl ?_
          refine V_bipush (pc := 48) C dX5_depthOf_48 kb_50 ?_
          refine V_iload_n (pc := 50) C 2 dX5_depthOf_50 rfl rfl ?_
          refine V_iadd (pc := 51) C dX5_depthOf_51 ?_
          obtain ⟨b10, h⟩ := wp_c h
          refine V_iald (pc := 52) C 1 dX5_depthOf_52 rfl b10 ?_
          refine V_iconst (pc := 53) C dX5_depthOf_53 ki_2 ?_
          refine V_idiv (pc := 54) C dX5_depthOf_54 (by decide) ?_
          obtain ⟨b11, h⟩ := wp_c h
          refine V_iald (pc := 55) C 13 dX5_depthOf_55 rfl b11 ?_
          obtain ⟨v12, ev12, h⟩ := wp_l h
          refine V_topi (pc := 56) ev12 ?_
          refine V_istore (pc := 56) (lv' := [(0, .ref (q_m 0)), (1, .int l1), (2, .int l2), (3, .int v9), (4, .int v12)]) C dX5_depthOf_56 [1, 2, 3, 4, 0] (by decide) rfl ?_
          refine V_aload_n (pc := 58) C 0 dX5_depthOf_58 rfl rfl ?_
          refine V_get (pc := 59) C 0 17 inX5 wd_606 dX5_depthOf_59 rfl rfl (by decide) rfl rfl ?_
          refine V_iload_n (pc := 62) C 2 dX5_depthOf_62 rfl rfl ?_
          refine V_iconst (pc := 63) C dX5_depthOf_63 ki_1 ?_
          refine V_iload_n (pc := 64) C 3 dX5_depthOf_64 rfl rfl ?_
          refine V_iload (pc := 65) C 4 dX5_depthOf_65 rfl ?_
          refine V_icmp_le (pc := 67) (tgt := 74) C dX5_depthOf_67 (by decide) (fun c13 => ?_) (fun c13 => ?_)
          · replace h := wp_t h c13
            refine V_iload (pc := 74) C 4 dX5_depthOf_74 rfl ?_
            refine V_iadd (pc := 76) C dX5_depthOf_76 ?_
            obtain ⟨b14, h⟩ := wp_c h
            obtain ⟨m_depths_15, em_depths_15, h⟩ := wp_l h
            refine V_iast (pc := 77) (ws' := (wM cI q_m m_now m_aside m_past m_states m_refused m_text m_length m_tables m_all m_rowsBehind m_rowsMany m_forms m_lesser m_greater m_why m_checks m_numbers m_depths_15 m_spot m_isFaulty m_orders m_letters m_parts m_hash)) C 13 dX5_depthOf_77 rfl b14 em_depths_15 rfl ?_
            obtain ⟨v16, ev16, h⟩ := wp_l h
            refine V_iinc (pc := 78) (v := v16) (lv' := [(0, .ref (q_m 0)), (1, .int l1), (2, .int v16), (3, .int v9), (4, .int v12)]) (j := 2) C dX5_depthOf_78 rfl (by rw [ev16]; rfl) [1, 2, 0, 3, 4] (by decide) rfl ?_
            refine V_goto (pc := 81) (tgt := 2) C dX5_depthOf_81 (by decide) ?_
            refine V_lv (pc := 2) [0, 1, 2] rfl ?_
            exact ih _ _ h
          · replace h := wp_f h c13
            refine V_iload_n (pc := 70) C 3 dX5_depthOf_70 rfl rfl ?_
            refine V_goto (pc := 71) (tgt := 76) C dX5_depthOf_71 (by decide) ?_
            refine V_iadd (pc := 76) C dX5_depthOf_76 ?_
            obtain ⟨b17, h⟩ := wp_c h
            obtain ⟨m_depths_18, em_depths_18, h⟩ := wp_l h
            refine V_iast (pc := 77) (ws' := (wM cI q_m m_now m_aside m_past m_states m_refused m_text m_length m_tables m_all m_rowsBehind m_rowsMany m_forms m_lesser m_greater m_why m_checks m_numbers m_depths_18 m_spot m_isFaulty m_orders m_letters m_parts m_hash)) C 13 dX5_depthOf_77 rfl b17 em_depths_18 rfl ?_
            obtain ⟨v19, ev19, h⟩ := wp_l h
            refine V_iinc (pc := 78) (v := v19) (lv' := [(0, .ref (q_m 0)), (1, .int l1), (2, .int v19), (3, .int v9), (4, .int v12)]) (j := 2) C dX5_depthOf_78 rfl (by rw [ev19]; rfl) [1, 2, 0, 3, 4] (by decide) rfl ?_
            refine V_goto (pc := 81) (tgt := 2) C dX5_depthOf_81 (by decide) ?_
            refine V_lv (pc := 2) [0, 1, 2] rfl ?_
            exact ih _ _ h
  unfold M_depthOf at h
  refine V_iconst (pc := 0) C dX5_depthOf_0 ki_0 ?_
  refine V_istore_n (pc := 1) (lv' := [(0, .ref (q_m 0)), (1, .int a0), (2, .int 0)]) C dX5_depthOf_1 rfl [1, 2, 0] (by decide) rfl ?_
  refine hL_2 _ _ (fun m_depths_20 h => ?_) 1000 _ _ h
  try dsimp only at h
  refine V_aload_n (pc := 84) C 0 dX5_depthOf_84 rfl rfl ?_
  refine V_get (pc := 85) C 0 17 inX5 wd_606 dX5_depthOf_85 rfl rfl (by decide) rfl rfl ?_
  refine V_iload_n (pc := 88) C 1 dX5_depthOf_88 rfl rfl ?_
  obtain ⟨b21, h⟩ := wp_c h
  refine V_iald (pc := 89) C 13 dX5_depthOf_89 rfl b21 ?_
  exact V_iret (pc := 90) C hQ m_depths_20 dX5_depthOf_90 (vp_nar_int _) rfl (wp_s h)
set_option maxRecDepth 100000 in
set_option maxHeartbeats 4000000 in
theorem c_M_depth {l : Launch} {D : va_G} {cI cC : ClassId} {q_m : Nat → Nat} {m_now : Nat → Int32} {m_aside : Nat → Int32} {m_past : Nat → Int32} {m_states : Int32} {m_refused : Nat → Int32} {m_text : Nat → Int32} {m_length : Int32} {m_tables : Nat → Int32} {m_all : Int32} {m_rowsBehind : Nat → Int32} {m_rowsMany : Int32} {m_forms : Nat → Int32} {m_lesser : Nat → Int32} {m_greater : Nat → Int32} {m_why : Nat → Int32} {m_checks : Int32} {m_numbers : Nat → Int32} {m_depths : Nat → Int32} {m_spot : Int32} {m_isFaulty : Int32} {m_orders : Int32} {m_letters : Nat → Int32} {m_parts : Nat → Int32} {m_hash : Int64} {a0 : Int32} {post : Int32 × (Nat → Int32) × (Nat → Int32) → Prop} (h : wpO (M_depth m_now m_refused m_depths a0) post) : Cn l yX5_depth cX5_depth 2 (some .int) 2 43 D cI cC [.ref (q_m 0), .int a0] (wM cI q_m m_now m_aside m_past m_states m_refused m_text m_length m_tables m_all m_rowsBehind m_rowsMany m_forms m_lesser m_greater m_why m_checks m_numbers m_depths m_spot m_isFaulty m_orders m_letters m_parts m_hash) (QI D cI cC (S := (Nat → Int32) × (Nat → Int32)) (fun u => (wM cI q_m m_now m_aside m_past m_states u.1 m_text m_length m_tables m_all m_rowsBehind m_rowsMany m_forms m_lesser m_greater m_why m_checks m_numbers u.2 m_spot m_isFaulty m_orders m_letters m_parts m_hash)) (fun r u => post (r, u))) := by
  refine Cn.ofV (own := RX5) (lv0 := [(0, .ref (q_m 0)), (1, .int a0)]) rfl (by decide) (Nat.le_of_ble_eq_true rfl) rfl ?_
  intro p e s m below meth c A args Q hQ C
  unfold M_depth at h
  refine V_aload_n (pc := 0) C 0 dX5_depth_0 rfl rfl ?_
  refine V_iload_n (pc := 1) C 1 dX5_depth_1 rfl rfl ?_
  refine V_callVi (pc := 2) (As := [.int a0]) (st := []) C (c_M_isLiteral (wp_b h)) mk_X5_isLiteral wd_652 dX5_depth_2 0 rfl rfl rfl ⟨Nat.le_of_ble_eq_true rfl, Nat.le_of_ble_eq_true rfl⟩ (Nat.le_of_ble_eq_true rfl) rfl (fun r2 u hw => ?_)
  obtain ⟨h, z3⟩ := hw
  try dsimp only at h
  try dsimp only
  refine V_if_eq (pc := 5) (tgt := 18) C dX5_depth_5 (by decide) (fun c4 => ?_) (fun c4 => ?_)
  · replace h := wp_t h c4
    refine V_aload_n (pc := 18) C 0 dX5_depth_18 rfl rfl ?_
    refine V_callVi (pc := 19) (As := []) (st := []) C (c_M_bad (wp_b h)) mk_X5_bad wd_642 dX5_depth_19 0 rfl rfl rfl ⟨Nat.le_of_ble_eq_true rfl, Nat.le_of_ble_eq_true rfl⟩ (Nat.le_of_ble_eq_true rfl) rfl (fun r6 m_refused_7 hw => ?_)
    have h := hw
    try dsimp only at h
    try dsimp only
    exact V_iret (pc := 22) C hQ (m_refused_7, m_depths) dX5_depth_22 (vp_nar_int _) rfl (wp_s h)
  · replace h := wp_f h c4
    refine V_aload_n (pc := 8) C 0 dX5_depth_8 rfl rfl ?_
    refine V_iload_n (pc := 9) C 1 dX5_depth_9 rfl rfl ?_
    refine V_iconst (pc := 10) C dX5_depth_10 ki_2 ?_
    refine V_idiv (pc := 11) C dX5_depth_11 (by decide) ?_
    refine V_callVi (pc := 12) (As := [.int (a0 / 2)]) (st := []) C (c_M_depthOf (wp_b h)) mk_X5_depthOf wd_772 dX5_depth_12 0 rfl rfl rfl ⟨Nat.le_of_ble_eq_true rfl, Nat.le_of_ble_eq_true rfl⟩ (Nat.le_of_ble_eq_true rfl) rfl (fun r9 m_depths_10 hw => ?_)
    have h := hw
    try dsimp only at h
    try dsimp only
    refine V_goto (pc := 15) (tgt := 22) C dX5_depth_15 (by decide) ?_
    exact V_iret (pc := 22) C hQ (m_refused, m_depths_10) dX5_depth_22 (vp_nar_int _) rfl (wp_s h)
set_option maxRecDepth 100000 in
set_option maxHeartbeats 4000000 in
theorem c_M_coneOf {l : Launch} {D : va_G} {cI cC : ClassId} {q_m : Nat → Nat} {m_now : Nat → Int32} {m_aside : Nat → Int32} {m_past : Nat → Int32} {m_states : Int32} {m_refused : Nat → Int32} {m_text : Nat → Int32} {m_length : Int32} {m_tables : Nat → Int32} {m_all : Int32} {m_rowsBehind : Nat → Int32} {m_rowsMany : Int32} {m_forms : Nat → Int32} {m_lesser : Nat → Int32} {m_greater : Nat → Int32} {m_why : Nat → Int32} {m_checks : Int32} {m_numbers : Nat → Int32} {m_depths : Nat → Int32} {m_spot : Int32} {m_isFaulty : Int32} {m_orders : Int32} {m_letters : Nat → Int32} {m_parts : Nat → Int32} {m_hash : Int64} {a0 : Int32} {post : Int32 → Prop} (h : wpO (M_coneOf m_now a0) post) : Cn l yX5_coneOf cX5_coneOf 6 (some .int) 0 0 D cI cC [.ref (q_m 0), .int a0] (wM cI q_m m_now m_aside m_past m_states m_refused m_text m_length m_tables m_all m_rowsBehind m_rowsMany m_forms m_lesser m_greater m_why m_checks m_numbers m_depths m_spot m_isFaulty m_orders m_letters m_parts m_hash) (QI D cI cC (S := Unit) (fun u => (wM cI q_m m_now m_aside m_past m_states m_refused m_text m_length m_tables m_all m_rowsBehind m_rowsMany m_forms m_lesser m_greater m_why m_checks m_numbers m_depths m_spot m_isFaulty m_orders m_letters m_parts m_hash)) (fun r u => post r)) := by
  refine Cn.ofV (own := RX5) (lv0 := [(0, .ref (q_m 0)), (1, .int a0)]) rfl (by decide) (Nat.le_of_ble_eq_true rfl) rfl ?_
  intro p e s m below meth c A args Q hQ C
  have hL_10 : ∀ (K : Int32 → Option (Int32)), (∀ (l4 : Int32), wpO (K l4) post → V p l e (rmC 0 0) s m args below meth c D A 6 0 0 Q (wM cI q_m m_now m_aside m_past m_states m_refused m_text m_length m_tables m_all m_rowsBehind m_rowsMany m_forms m_lesser m_greater m_why m_checks m_numbers m_depths m_spot m_isFaulty m_orders m_letters m_parts m_hash) [(4, .int l4)] 72 []) → ∀ (n : Nat) (l2 : Int64) (l4 : Int32) (l5 : Int32), wpO (M_coneOf_10 K m_now n l2 l4 l5) post → V p l e (rmC 0 0) s m args below meth c D A 6 0 0 Q (wM cI q_m m_now m_aside m_past m_states m_refused m_text m_length m_tables m_all m_rowsBehind m_rowsMany m_forms m_lesser m_greater m_why m_checks m_numbers m_depths m_spot m_isFaulty m_orders m_letters m_parts m_hash) [(0, .ref (q_m 0)), (2, .long l2), (4, .int l4), (5, .int l5)] 10 [] := by
    intro K   hK n
    induction n with
    | zero => intro l2 l4 l5 h; rw [M_coneOf_10] at h; exact (wp_n h).elim
    | succ n ih =>
      intro l2 l4 l5 h
      rw [M_coneOf_10] at h
      refine V_iload (pc := 10) C 3 dX5_coneOf_10 rfl ?_
      refine V_aload_n (pc := 12) C 0 dX5_coneOf_12 rfl rfl ?_
      refine V_get (pc := 13) C 0 0 inX5 wd_589 dX5_coneOf_13 rfl rfl (by decide) rfl rfl ?_
      refine V_iconst (pc := 16) C dX5_coneOf_16 ki_0 ?_
      obtain ⟨b1, h⟩ := wp_c h
      refine V_iald (pc := 17) C 1 dX5_coneOf_17 rfl b1 ?_
      refine V_icmp_le (pc := 18) (tgt := 72) C dX5_coneOf_18 (by decide) (fun c2 => ?_) (fun c2 => ?_)
      · replace h := wp_t h c2
        refine V_lv (pc := 72) [2] rfl ?_
        exact hK _ h
      · replace h := wp_f h c2
        refine V_lload_n (pc := 21) C 1 dX5_coneOf_21 rfl rfl ?_
        refine V_iload (pc := 22) C 3 dX5_coneOf_22 rfl ?_
        refine V_lshr (pc := 24) C dX5_coneOf_24 ?_
        refine V_lconst (pc := 25) (v := 1) C dX5_coneOf_25 rfl ?_
        refine V_land (pc := 26) C dX5_coneOf_26 ?_
        refine V_lconst (pc := 27) (v := 1) C dX5_coneOf_27 rfl ?_
        refine V_lcmp (pc := 28) C dX5_coneOf_28 ?_
        refine V_if_ne (pc := 29) (tgt := 66) C dX5_coneOf_29 (by decide) (fun c3 => ?_) (fun c3 => ?_)
        · replace h := wp_f h c3
          obtain ⟨v4, ev4, h⟩ := wp_l h
          refine V_iinc (pc := 66) (v := v4) (lv' := [(0, .ref (q_m 0)), (2, .long l2), (4, .int l4), (5, .int v4)]) (j := 3) C dX5_coneOf_66 rfl (by rw [ev4]; rfl) [1, 2, 3, 0] (by decide) rfl ?_
          refine V_goto (pc := 69) (tgt := 10) C dX5_coneOf_69 (by decide) ?_
          exact ih _ _ _ h
        · replace h := wp_t h c3
          obtain ⟨v5, ev5, h⟩ := wp_l h
          refine V_iinc (pc := 32) (v := v5) (lv' := [(0, .ref (q_m 0)), (2, .long l2), (4, .int v5), (5, .int l5)]) (j := 2) C dX5_coneOf_32 rfl (by rw [ev5]; rfl) [1, 2, 0, 3] (by decide) rfl ?_
          refine V_lload_n (pc := 35) C 1 dX5_coneOf_35 rfl rfl ?_
          refine V_lconst (pc := 36) (v := 1) C dX5_coneOf_36 rfl ?_
          refine V_aload_n (pc := 37) C 0 dX5_coneOf_37 rfl rfl ?_
          refine V_get (pc := 38) C 0 0 inX5 wd_589 dX5_coneOf_38 rfl rfl (by decide) rfl rfl ?_
          refine V_iconst (pc := 41) C dX5_coneOf_41 ki_2 ?_
          refine V_iload (pc := 42) C 3 dX5_coneOf_42 rfl ?_
          refine V_iadd (pc := 44) C dX5_coneOf_44 ?_
          obtain ⟨b6, h⟩ := wp_c h
          refine V_iald (pc := 45) C 1 dX5_coneOf_45 rfl b6 ?_
          refine V_iconst (pc := 46) C dX5_coneOf_46 ki_2 ?_
          refine V_idiv (pc := 47) C dX5_coneOf_47 (by decide) ?_
          refine V_lshl (pc := 48) C dX5_coneOf_48 ?_
          refine V_lconst (pc := 49) (v := 1) C dX5_coneOf_49 rfl ?_
          refine V_aload_n (pc := 50) C 0 dX5_coneOf_50 rfl rfl ?_
          refine V_get (pc := 51) C 0 0 inX5 wd_589 dX5_coneOf_51 rfl rfl (by decide) rfl rfl ?_
          refine V_bipush (pc := 54) C dX5_coneOf_54 kb_50 ?_
          refine V_iload (pc := 56) C 3 dX5_coneOf_56 rfl ?_
          refine V_iadd (pc := 58) C dX5_coneOf_58 ?_
          obtain ⟨b7, h⟩ := wp_c h
          refine V_iald (pc := 59) C 1 dX5_coneOf_59 rfl b7 ?_
          refine V_iconst (pc := 60) C dX5_coneOf_60 ki_2 ?_
          refine V_idiv (pc := 61) C dX5_coneOf_61 (by decide) ?_
          refine V_lshl (pc := 62) C dX5_coneOf_62 ?_
          refine V_lor (pc := 63) C dX5_coneOf_63 ?_
          refine V_lor (pc := 64) C dX5_coneOf_64 ?_
          obtain ⟨v8, ev8, h⟩ := wp_l h
          refine V_topl (pc := 65) ev8 ?_
          refine V_lstore_n (pc := 65) (lv' := [(0, .ref (q_m 0)), (2, .long v8), (4, .int v5), (5, .int l5)]) C dX5_coneOf_65 rfl [1, 0, 2, 3] (by decide) rfl ?_
          obtain ⟨v9, ev9, h⟩ := wp_l h
          refine V_iinc (pc := 66) (v := v9) (lv' := [(0, .ref (q_m 0)), (2, .long v8), (4, .int v5), (5, .int v9)]) (j := 3) C dX5_coneOf_66 rfl (by rw [ev9]; rfl) [1, 2, 3, 0] (by decide) rfl ?_
          refine V_goto (pc := 69) (tgt := 10) C dX5_coneOf_69 (by decide) ?_
          exact ih _ _ _ h
  unfold M_coneOf at h
  refine V_lconst (pc := 0) (v := 1) C dX5_coneOf_0 rfl ?_
  refine V_iload_n (pc := 1) C 1 dX5_coneOf_1 rfl rfl ?_
  refine V_lshl (pc := 2) C dX5_coneOf_2 ?_
  obtain ⟨v10, ev10, h⟩ := wp_l h
  refine V_topl (pc := 3) ev10 ?_
  refine V_lstore_n (pc := 3) (lv' := [(0, .ref (q_m 0)), (1, .int a0), (2, .long v10)]) C dX5_coneOf_3 rfl [1, 2, 0] (by decide) rfl ?_
  refine V_iconst (pc := 4) C dX5_coneOf_4 ki_0 ?_
  refine V_istore (pc := 5) (lv' := [(0, .ref (q_m 0)), (1, .int a0), (2, .long v10), (4, .int 0)]) C dX5_coneOf_5 [1, 2, 3, 0] (by decide) rfl ?_
  refine V_iload_n (pc := 7) C 1 dX5_coneOf_7 rfl rfl ?_
  refine V_istore (pc := 8) (lv' := [(0, .ref (q_m 0)), (1, .int a0), (2, .long v10), (4, .int 0), (5, .int a0)]) C dX5_coneOf_8 [1, 2, 3, 4, 0] (by decide) rfl ?_
  refine V_lv (pc := 10) [0, 2, 3, 4] rfl ?_
  refine hL_10 _ (fun l4_11 h => ?_) 1000 _ _ _ h
  try dsimp only at h
  refine V_iload (pc := 72) C 0 dX5_coneOf_72 rfl ?_
  exact V_iret (pc := 74) C hQ () dX5_coneOf_74 (vp_nar_int _) rfl (wp_s h)
set_option maxRecDepth 100000 in
set_option maxHeartbeats 4000000 in
theorem c_M_cone {l : Launch} {D : va_G} {cI cC : ClassId} {q_m : Nat → Nat} {m_now : Nat → Int32} {m_aside : Nat → Int32} {m_past : Nat → Int32} {m_states : Int32} {m_refused : Nat → Int32} {m_text : Nat → Int32} {m_length : Int32} {m_tables : Nat → Int32} {m_all : Int32} {m_rowsBehind : Nat → Int32} {m_rowsMany : Int32} {m_forms : Nat → Int32} {m_lesser : Nat → Int32} {m_greater : Nat → Int32} {m_why : Nat → Int32} {m_checks : Int32} {m_numbers : Nat → Int32} {m_depths : Nat → Int32} {m_spot : Int32} {m_isFaulty : Int32} {m_orders : Int32} {m_letters : Nat → Int32} {m_parts : Nat → Int32} {m_hash : Int64} {a0 : Int32} {post : Int32 × (Nat → Int32) → Prop} (h : wpO (M_cone m_now m_refused a0) post) : Cn l yX5_cone cX5_cone 2 (some .int) 2 43 D cI cC [.ref (q_m 0), .int a0] (wM cI q_m m_now m_aside m_past m_states m_refused m_text m_length m_tables m_all m_rowsBehind m_rowsMany m_forms m_lesser m_greater m_why m_checks m_numbers m_depths m_spot m_isFaulty m_orders m_letters m_parts m_hash) (QI D cI cC (S := (Nat → Int32)) (fun u => (wM cI q_m m_now m_aside m_past m_states u m_text m_length m_tables m_all m_rowsBehind m_rowsMany m_forms m_lesser m_greater m_why m_checks m_numbers m_depths m_spot m_isFaulty m_orders m_letters m_parts m_hash)) (fun r u => post (r, u))) := by
  refine Cn.ofV (own := RX5) (lv0 := [(0, .ref (q_m 0)), (1, .int a0)]) rfl (by decide) (Nat.le_of_ble_eq_true rfl) rfl ?_
  intro p e s m below meth c A args Q hQ C
  unfold M_cone at h
  refine V_aload_n (pc := 0) C 0 dX5_cone_0 rfl rfl ?_
  refine V_iload_n (pc := 1) C 1 dX5_cone_1 rfl rfl ?_
  refine V_callVi (pc := 2) (As := [.int a0]) (st := []) C (c_M_isLiteral (wp_b h)) mk_X5_isLiteral wd_652 dX5_cone_2 0 rfl rfl rfl ⟨Nat.le_of_ble_eq_true rfl, Nat.le_of_ble_eq_true rfl⟩ (Nat.le_of_ble_eq_true rfl) rfl (fun r2 u hw => ?_)
  obtain ⟨h, z3⟩ := hw
  try dsimp only at h
  try dsimp only
  refine V_if_eq (pc := 5) (tgt := 18) C dX5_cone_5 (by decide) (fun c4 => ?_) (fun c4 => ?_)
  · replace h := wp_t h c4
    refine V_aload_n (pc := 18) C 0 dX5_cone_18 rfl rfl ?_
    refine V_callVi (pc := 19) (As := []) (st := []) C (c_M_bad (wp_b h)) mk_X5_bad wd_642 dX5_cone_19 0 rfl rfl rfl ⟨Nat.le_of_ble_eq_true rfl, Nat.le_of_ble_eq_true rfl⟩ (Nat.le_of_ble_eq_true rfl) rfl (fun r6 m_refused_7 hw => ?_)
    have h := hw
    try dsimp only at h
    try dsimp only
    exact V_iret (pc := 22) C hQ m_refused_7 dX5_cone_22 (vp_nar_int _) rfl (wp_s h)
  · replace h := wp_f h c4
    refine V_aload_n (pc := 8) C 0 dX5_cone_8 rfl rfl ?_
    refine V_iload_n (pc := 9) C 1 dX5_cone_9 rfl rfl ?_
    refine V_iconst (pc := 10) C dX5_cone_10 ki_2 ?_
    refine V_idiv (pc := 11) C dX5_cone_11 (by decide) ?_
    refine V_callVi (pc := 12) (As := [.int (a0 / 2)]) (st := []) C (c_M_coneOf (wp_b h)) mk_X5_coneOf wd_779 dX5_cone_12 0 rfl rfl rfl ⟨Nat.le_of_ble_eq_true rfl, Nat.le_of_ble_eq_true rfl⟩ (Nat.le_of_ble_eq_true rfl) rfl (fun r9 u hw => ?_)
    have h := hw
    try dsimp only at h
    try dsimp only
    refine V_goto (pc := 15) (tgt := 22) C dX5_cone_15 (by decide) ?_
    exact V_iret (pc := 22) C hQ m_refused dX5_cone_22 (vp_nar_int _) rfl (wp_s h)
set_option maxRecDepth 100000 in
set_option maxHeartbeats 4000000 in
theorem c_M_outs {l : Launch} {D : va_G} {cI cC : ClassId} {q_m : Nat → Nat} {m_now : Nat → Int32} {m_aside : Nat → Int32} {m_past : Nat → Int32} {m_states : Int32} {m_refused : Nat → Int32} {m_text : Nat → Int32} {m_length : Int32} {m_tables : Nat → Int32} {m_all : Int32} {m_rowsBehind : Nat → Int32} {m_rowsMany : Int32} {m_forms : Nat → Int32} {m_lesser : Nat → Int32} {m_greater : Nat → Int32} {m_why : Nat → Int32} {m_checks : Int32} {m_numbers : Nat → Int32} {m_depths : Nat → Int32} {m_spot : Int32} {m_isFaulty : Int32} {m_orders : Int32} {m_letters : Nat → Int32} {m_parts : Nat → Int32} {m_hash : Int64} {a0 : Int32} {a1 : Int32} {post : Int32 × (Nat → Int32) → Prop} (h : wpO (M_outs m_now m_refused a0 a1) post) : Cn l yX5_outs cX5_outs 3 (some .int) 1 20 D cI cC [.ref (q_m 0), .int a0, .int a1] (wM cI q_m m_now m_aside m_past m_states m_refused m_text m_length m_tables m_all m_rowsBehind m_rowsMany m_forms m_lesser m_greater m_why m_checks m_numbers m_depths m_spot m_isFaulty m_orders m_letters m_parts m_hash) (QI D cI cC (S := (Nat → Int32)) (fun u => (wM cI q_m m_now m_aside m_past m_states u m_text m_length m_tables m_all m_rowsBehind m_rowsMany m_forms m_lesser m_greater m_why m_checks m_numbers m_depths m_spot m_isFaulty m_orders m_letters m_parts m_hash)) (fun r u => post (r, u))) := by
  refine Cn.ofV (own := RX5) (lv0 := [(0, .ref (q_m 0)), (1, .int a0), (2, .int a1)]) rfl (by decide) (Nat.le_of_ble_eq_true rfl) rfl ?_
  intro p e s m below meth c A args Q hQ C
  unfold M_outs at h
  refine V_iload_n (pc := 0) C 1 dX5_outs_0 rfl rfl ?_
  refine V_cutSi (pc := 1) (As := [.int a0]) (st := []) (w0 := ([] : va_W)) (wr := (wM cI q_m m_now m_aside m_past m_states m_refused m_text m_length m_tables m_all m_rowsBehind m_rowsMany m_forms m_lesser m_greater m_why m_checks m_numbers m_depths m_spot m_isFaulty m_orders m_letters m_parts m_hash)) (w2 := fun u => (wM cI q_m m_now m_aside m_past m_states m_refused m_text m_length m_tables m_all m_rowsBehind m_rowsMany m_forms m_lesser m_greater m_why m_checks m_numbers m_depths m_spot m_isFaulty m_orders m_letters m_parts m_hash)) C (c_M_isSide (wp_b h)) mk_X5_isSide wd_685 dX5_outs_1 rfl rfl ⟨Nat.le_of_ble_eq_true rfl, Nat.le_of_ble_eq_true rfl⟩ [] [0, 1, 2, 3, 4, 5, 6, 7, 8, 9, 10, 11, 12, 13, 14, 15] [0, 1, 2, 3, 4, 5, 6, 7, 8, 9, 10, 11, 12, 13, 14, 15] ⟨rfl, rfl, by decide +kernel, by decide +kernel, by decide +kernel⟩ (by decide +kernel) (fun u => rfl) (Nat.le_of_ble_eq_true rfl) rfl (fun r2 u hw => ?_)
  obtain ⟨h, z3⟩ := hw
  try dsimp only at h
  try dsimp only
  refine V_if_eq (pc := 4) (tgt := 11) C dX5_outs_4 (by decide) (fun c4 => ?_) (fun c4 => ?_)
  · replace h := wp_t h c4
    refine V_aload_n (pc := 11) C 0 dX5_outs_11 rfl rfl ?_
    refine V_callVi (pc := 12) (As := []) (st := []) C (c_M_bad (wp_b h)) mk_X5_bad wd_642 dX5_outs_12 0 rfl rfl rfl ⟨Nat.le_of_ble_eq_true rfl, Nat.le_of_ble_eq_true rfl⟩ (Nat.le_of_ble_eq_true rfl) rfl (fun r6 m_refused_7 hw => ?_)
    have h := hw
    try dsimp only at h
    try dsimp only
    exact V_iret (pc := 15) C hQ m_refused_7 dX5_outs_15 (vp_nar_int _) rfl (wp_s h)
  · replace h := wp_f h c4
    refine V_iload_n (pc := 7) C 2 dX5_outs_7 rfl rfl ?_
    refine V_if_ge (pc := 8) (tgt := 16) C dX5_outs_8 (by decide) (fun c8 => ?_) (fun c8 => ?_)
    · replace h := wp_t h c8
      refine V_iload_n (pc := 16) C 2 dX5_outs_16 rfl rfl ?_
      refine V_aload_n (pc := 17) C 0 dX5_outs_17 rfl rfl ?_
      refine V_get (pc := 18) C 0 0 inX5 wd_589 dX5_outs_18 rfl rfl (by decide) rfl rfl ?_
      refine V_bipush (pc := 21) C dX5_outs_21 kb_98 ?_
      refine V_iload_n (pc := 23) C 1 dX5_outs_23 rfl rfl ?_
      refine V_iadd (pc := 24) C dX5_outs_24 ?_
      obtain ⟨b9, h⟩ := wp_c h
      refine V_iald (pc := 25) C 1 dX5_outs_25 rfl b9 ?_
      refine V_icmp_ge (pc := 26) (tgt := 46) C dX5_outs_26 (by decide) (fun c10 => ?_) (fun c10 => ?_)
      · replace h := wp_t h c10
        refine V_iconst (pc := 46) C dX5_outs_46 ki_m1 ?_
        exact V_iret (pc := 47) C hQ m_refused dX5_outs_47 (vp_nar_int _) rfl (wp_s h)
      · replace h := wp_f h c10
        refine V_aload_n (pc := 29) C 0 dX5_outs_29 rfl rfl ?_
        refine V_get (pc := 30) C 0 0 inX5 wd_589 dX5_outs_30 rfl rfl (by decide) rfl rfl ?_
        refine V_bipush (pc := 33) C dX5_outs_33 kb_100 ?_
        refine V_bipush (pc := 35) C dX5_outs_35 kb_6 ?_
        refine V_iload_n (pc := 37) C 1 dX5_outs_37 rfl rfl ?_
        refine V_imul (pc := 38) C dX5_outs_38 ?_
        refine V_iadd (pc := 39) C dX5_outs_39 ?_
        refine V_iload_n (pc := 40) C 2 dX5_outs_40 rfl rfl ?_
        refine V_iadd (pc := 41) C dX5_outs_41 ?_
        obtain ⟨b11, h⟩ := wp_c h
        refine V_iald (pc := 42) C 1 dX5_outs_42 rfl b11 ?_
        refine V_goto (pc := 43) (tgt := 47) C dX5_outs_43 (by decide) ?_
        exact V_iret (pc := 47) C hQ m_refused dX5_outs_47 (vp_nar_int _) rfl (wp_s h)
    · replace h := wp_f h c8
      refine V_aload_n (pc := 11) C 0 dX5_outs_11 rfl rfl ?_
      refine V_callVi (pc := 12) (As := []) (st := []) C (c_M_bad (wp_b h)) mk_X5_bad wd_642 dX5_outs_12 0 rfl rfl rfl ⟨Nat.le_of_ble_eq_true rfl, Nat.le_of_ble_eq_true rfl⟩ (Nat.le_of_ble_eq_true rfl) rfl (fun r13 m_refused_14 hw => ?_)
      have h := hw
      try dsimp only at h
      try dsimp only
      exact V_iret (pc := 15) C hQ m_refused_14 dX5_outs_15 (vp_nar_int _) rfl (wp_s h)
set_option maxRecDepth 100000 in
set_option maxHeartbeats 4000000 in
theorem c_M_countOf {l : Launch} {D : va_G} {cI cC : ClassId} {q_m : Nat → Nat} {m_now : Nat → Int32} {m_aside : Nat → Int32} {m_past : Nat → Int32} {m_states : Int32} {m_refused : Nat → Int32} {m_text : Nat → Int32} {m_length : Int32} {m_tables : Nat → Int32} {m_all : Int32} {m_rowsBehind : Nat → Int32} {m_rowsMany : Int32} {m_forms : Nat → Int32} {m_lesser : Nat → Int32} {m_greater : Nat → Int32} {m_why : Nat → Int32} {m_checks : Int32} {m_numbers : Nat → Int32} {m_depths : Nat → Int32} {m_spot : Int32} {m_isFaulty : Int32} {m_orders : Int32} {m_letters : Nat → Int32} {m_parts : Nat → Int32} {m_hash : Int64} {a0 : Int32} {post : Int32 → Prop} (h : wpO (M_countOf m_now a0) post) : Cn l yX5_countOf cX5_countOf 2 (some .int) 0 0 D cI cC [.ref (q_m 0), .int a0] (wM cI q_m m_now m_aside m_past m_states m_refused m_text m_length m_tables m_all m_rowsBehind m_rowsMany m_forms m_lesser m_greater m_why m_checks m_numbers m_depths m_spot m_isFaulty m_orders m_letters m_parts m_hash) (QI D cI cC (S := Unit) (fun u => (wM cI q_m m_now m_aside m_past m_states m_refused m_text m_length m_tables m_all m_rowsBehind m_rowsMany m_forms m_lesser m_greater m_why m_checks m_numbers m_depths m_spot m_isFaulty m_orders m_letters m_parts m_hash)) (fun r u => post r)) := by
  refine Cn.ofV (own := RX5) (lv0 := [(0, .ref (q_m 0)), (1, .int a0)]) rfl (by decide) (Nat.le_of_ble_eq_true rfl) rfl ?_
  intro p e s m below meth c A args Q hQ C
  unfold M_countOf at h
  refine V_iload_n (pc := 0) C 1 dX5_countOf_0 rfl rfl ?_
  refine V_iconst (pc := 1) C dX5_countOf_1 ki_2 ?_
  refine V_icmp_ge (pc := 2) (tgt := 14) C dX5_countOf_2 (by decide) (fun c1 => ?_) (fun c1 => ?_)
  · replace h := wp_t h c1
    refine V_iload_n (pc := 14) C 1 dX5_countOf_14 rfl rfl ?_
    refine V_iconst (pc := 15) C dX5_countOf_15 ki_4 ?_
    refine V_icmp_ge (pc := 16) (tgt := 33) C dX5_countOf_16 (by decide) (fun c2 => ?_) (fun c2 => ?_)
    · replace h := wp_t h c2
      refine V_aload_n (pc := 33) C 0 dX5_countOf_33 rfl rfl ?_
      refine V_get (pc := 34) C 0 0 inX5 wd_589 dX5_countOf_34 rfl rfl (by decide) rfl rfl ?_
      refine V_bipush (pc := 37) C dX5_countOf_37 kb_112 ?_
      obtain ⟨b3, h⟩ := wp_c h
      refine V_iald (pc := 39) C 1 dX5_countOf_39 rfl b3 ?_
      exact V_iret (pc := 40) C hQ () dX5_countOf_40 (vp_nar_int _) rfl (wp_s h)
    · replace h := wp_f h c2
      refine V_aload_n (pc := 19) C 0 dX5_countOf_19 rfl rfl ?_
      refine V_get (pc := 20) C 0 0 inX5 wd_589 dX5_countOf_20 rfl rfl (by decide) rfl rfl ?_
      refine V_bipush (pc := 23) C dX5_countOf_23 kb_98 ?_
      refine V_iload_n (pc := 25) C 1 dX5_countOf_25 rfl rfl ?_
      refine V_iadd (pc := 26) C dX5_countOf_26 ?_
      refine V_iconst (pc := 27) C dX5_countOf_27 ki_2 ?_
      refine V_isub (pc := 28) C dX5_countOf_28 ?_
      obtain ⟨b4, h⟩ := wp_c h
      refine V_iald (pc := 29) C 1 dX5_countOf_29 rfl b4 ?_
      refine V_goto (pc := 30) (tgt := 40) C dX5_countOf_30 (by decide) ?_
      exact V_iret (pc := 40) C hQ () dX5_countOf_40 (vp_nar_int _) rfl (wp_s h)
  · replace h := wp_f h c1
    refine V_aload_n (pc := 5) C 0 dX5_countOf_5 rfl rfl ?_
    refine V_get (pc := 6) C 0 0 inX5 wd_589 dX5_countOf_6 rfl rfl (by decide) rfl rfl ?_
    refine V_iload_n (pc := 9) C 1 dX5_countOf_9 rfl rfl ?_
    obtain ⟨b5, h⟩ := wp_c h
    refine V_iald (pc := 10) C 1 dX5_countOf_10 rfl b5 ?_
    refine V_goto (pc := 11) (tgt := 40) C dX5_countOf_11 (by decide) ?_
    exact V_iret (pc := 40) C hQ () dX5_countOf_40 (vp_nar_int _) rfl (wp_s h)
set_option maxRecDepth 100000 in
set_option maxHeartbeats 4000000 in
theorem c_M_count {l : Launch} {D : va_G} {cI cC : ClassId} {q_m : Nat → Nat} {m_now : Nat → Int32} {m_aside : Nat → Int32} {m_past : Nat → Int32} {m_states : Int32} {m_refused : Nat → Int32} {m_text : Nat → Int32} {m_length : Int32} {m_tables : Nat → Int32} {m_all : Int32} {m_rowsBehind : Nat → Int32} {m_rowsMany : Int32} {m_forms : Nat → Int32} {m_lesser : Nat → Int32} {m_greater : Nat → Int32} {m_why : Nat → Int32} {m_checks : Int32} {m_numbers : Nat → Int32} {m_depths : Nat → Int32} {m_spot : Int32} {m_isFaulty : Int32} {m_orders : Int32} {m_letters : Nat → Int32} {m_parts : Nat → Int32} {m_hash : Int64} {a0 : Int32} {post : Int32 × (Nat → Int32) → Prop} (h : wpO (M_count m_now m_refused a0) post) : Cn l yX5_count cX5_count 2 (some .int) 1 22 D cI cC [.ref (q_m 0), .int a0] (wM cI q_m m_now m_aside m_past m_states m_refused m_text m_length m_tables m_all m_rowsBehind m_rowsMany m_forms m_lesser m_greater m_why m_checks m_numbers m_depths m_spot m_isFaulty m_orders m_letters m_parts m_hash) (QI D cI cC (S := (Nat → Int32)) (fun u => (wM cI q_m m_now m_aside m_past m_states u m_text m_length m_tables m_all m_rowsBehind m_rowsMany m_forms m_lesser m_greater m_why m_checks m_numbers m_depths m_spot m_isFaulty m_orders m_letters m_parts m_hash)) (fun r u => post (r, u))) := by
  refine Cn.ofV (own := RX5) (lv0 := [(0, .ref (q_m 0)), (1, .int a0)]) rfl (by decide) (Nat.le_of_ble_eq_true rfl) rfl ?_
  intro p e s m below meth c A args Q hQ C
  unfold M_count at h
  refine V_iload_n (pc := 0) C 1 dX5_count_0 rfl rfl ?_
  refine V_iconst (pc := 1) C dX5_count_1 ki_0 ?_
  refine V_iconst (pc := 2) C dX5_count_2 ki_4 ?_
  refine V_cutSi (pc := 3) (As := [.int a0, .int 0, .int 4]) (st := []) (w0 := ([] : va_W)) (wr := (wM cI q_m m_now m_aside m_past m_states m_refused m_text m_length m_tables m_all m_rowsBehind m_rowsMany m_forms m_lesser m_greater m_why m_checks m_numbers m_depths m_spot m_isFaulty m_orders m_letters m_parts m_hash)) (w2 := fun u => (wM cI q_m m_now m_aside m_past m_states m_refused m_text m_length m_tables m_all m_rowsBehind m_rowsMany m_forms m_lesser m_greater m_why m_checks m_numbers m_depths m_spot m_isFaulty m_orders m_letters m_parts m_hash)) C (c_M_within (wp_b h)) mk_X5_within wd_630 dX5_count_3 rfl rfl ⟨Nat.le_of_ble_eq_true rfl, Nat.le_of_ble_eq_true rfl⟩ [] [0, 1, 2, 3, 4, 5, 6, 7, 8, 9, 10, 11, 12, 13, 14, 15] [0, 1, 2, 3, 4, 5, 6, 7, 8, 9, 10, 11, 12, 13, 14, 15] ⟨rfl, rfl, by decide +kernel, by decide +kernel, by decide +kernel⟩ (by decide +kernel) (fun u => rfl) (Nat.le_of_ble_eq_true rfl) rfl (fun r2 u hw => ?_)
  obtain ⟨h, z3⟩ := hw
  try dsimp only at h
  try dsimp only
  refine V_if_eq (pc := 6) (tgt := 17) C dX5_count_6 (by decide) (fun c4 => ?_) (fun c4 => ?_)
  · replace h := wp_t h c4
    refine V_aload_n (pc := 17) C 0 dX5_count_17 rfl rfl ?_
    refine V_callVi (pc := 18) (As := []) (st := []) C (c_M_bad (wp_b h)) mk_X5_bad wd_642 dX5_count_18 0 rfl rfl rfl ⟨Nat.le_of_ble_eq_true rfl, Nat.le_of_ble_eq_true rfl⟩ (Nat.le_of_ble_eq_true rfl) rfl (fun r6 m_refused_7 hw => ?_)
    have h := hw
    try dsimp only at h
    try dsimp only
    exact V_iret (pc := 21) C hQ m_refused_7 dX5_count_21 (vp_nar_int _) rfl (wp_s h)
  · replace h := wp_f h c4
    refine V_aload_n (pc := 9) C 0 dX5_count_9 rfl rfl ?_
    refine V_iload_n (pc := 10) C 1 dX5_count_10 rfl rfl ?_
    refine V_callVi (pc := 11) (As := [.int a0]) (st := []) C (c_M_countOf (wp_b h)) mk_X5_countOf wd_790 dX5_count_11 0 rfl rfl rfl ⟨Nat.le_of_ble_eq_true rfl, Nat.le_of_ble_eq_true rfl⟩ (Nat.le_of_ble_eq_true rfl) rfl (fun r9 u hw => ?_)
    have h := hw
    try dsimp only at h
    try dsimp only
    refine V_goto (pc := 14) (tgt := 21) C dX5_count_14 (by decide) ?_
    exact V_iret (pc := 21) C hQ m_refused dX5_count_21 (vp_nar_int _) rfl (wp_s h)
set_option maxRecDepth 100000 in
set_option maxHeartbeats 4000000 in
theorem c_M_signOf {l : Launch} {D : va_G} {cI cC : ClassId} {q_m : Nat → Nat} {m_now : Nat → Int32} {m_aside : Nat → Int32} {m_past : Nat → Int32} {m_states : Int32} {m_refused : Nat → Int32} {m_text : Nat → Int32} {m_length : Int32} {m_tables : Nat → Int32} {m_all : Int32} {m_rowsBehind : Nat → Int32} {m_rowsMany : Int32} {m_forms : Nat → Int32} {m_lesser : Nat → Int32} {m_greater : Nat → Int32} {m_why : Nat → Int32} {m_checks : Int32} {m_numbers : Nat → Int32} {m_depths : Nat → Int32} {m_spot : Int32} {m_isFaulty : Int32} {m_orders : Int32} {m_letters : Nat → Int32} {m_parts : Nat → Int32} {m_hash : Int64} {a0 : Int32} {post : Int32 → Prop} (h : wpO (M_signOf m_now m_tables a0) post) : Cn l yX5_signOf cX5_signOf 2 (some .int) 1 25 D cI cC [.ref (q_m 0), .int a0] (wM cI q_m m_now m_aside m_past m_states m_refused m_text m_length m_tables m_all m_rowsBehind m_rowsMany m_forms m_lesser m_greater m_why m_checks m_numbers m_depths m_spot m_isFaulty m_orders m_letters m_parts m_hash) (QI D cI cC (S := Unit) (fun u => (wM cI q_m m_now m_aside m_past m_states m_refused m_text m_length m_tables m_all m_rowsBehind m_rowsMany m_forms m_lesser m_greater m_why m_checks m_numbers m_depths m_spot m_isFaulty m_orders m_letters m_parts m_hash)) (fun r u => post r)) := by
  refine Cn.ofV (own := RX5) (lv0 := [(0, .ref (q_m 0)), (1, .int a0)]) rfl (by decide) (Nat.le_of_ble_eq_true rfl) rfl ?_
  intro p e s m below meth c A args Q hQ C
  unfold M_signOf at h
  refine V_aload_n (pc := 0) C 0 dX5_signOf_0 rfl rfl ?_
  refine V_get (pc := 1) C 0 7 inX5 wd_596 dX5_signOf_1 rfl rfl (by decide) rfl rfl ?_
  refine V_iload_n (pc := 4) C 1 dX5_signOf_4 rfl rfl ?_
  obtain ⟨b1, h⟩ := wp_c h
  refine V_iald (pc := 5) C 6 dX5_signOf_5 rfl b1 ?_
  refine V_aload_n (pc := 6) C 0 dX5_signOf_6 rfl rfl ?_
  refine V_get (pc := 7) C 0 0 inX5 wd_589 dX5_signOf_7 rfl rfl (by decide) rfl rfl ?_
  refine V_bipush (pc := 10) C dX5_signOf_10 kb_112 ?_
  obtain ⟨b2, h⟩ := wp_c h
  refine V_iald (pc := 12) C 1 dX5_signOf_12 rfl b2 ?_
  refine V_bipush (pc := 13) C dX5_signOf_13 kb_113 ?_
  refine V_aload_n (pc := 15) C 0 dX5_signOf_15 rfl rfl ?_
  refine V_get (pc := 16) C 0 0 inX5 wd_589 dX5_signOf_16 rfl rfl (by decide) rfl rfl ?_
  refine V_cutSi (pc := 19) (As := [.int (m_tables (Int32.toNatClampNeg a0)), .int (m_now (Int32.toNatClampNeg (112 : Int32))), .int 113, .ref (q_m 1)]) (st := []) (w0 := wZ cI (q_m 1) 125 m_now) (wr := [(q_m 0, .inr (5, [.ref (q_m 1), .ref (q_m 2), .ref (q_m 3), .int m_states, .ref (q_m 4), .ref (q_m 5), .int m_length, .ref (q_m 6), .int m_all, .ref (q_m 7), .int m_rowsMany, .ref (q_m 8), .ref (q_m 9), .ref (q_m 10), .ref (q_m 11), .int m_checks, .ref (q_m 12), .ref (q_m 13), .int m_spot, .int m_isFaulty, .int m_orders, .ref (q_m 14), .ref (q_m 15), .long m_hash])), (q_m 2, .inl (cI, 125, .inl m_aside)), (q_m 3, .inl (cI, 625, .inl m_past)), (q_m 4, .inl (cI, 3, .inl m_refused)), (q_m 5, .inl (cI, 150, .inl m_text)), (q_m 6, .inl (cI, 48, .inl m_tables)), (q_m 7, .inl (cI, 12, .inl m_rowsBehind)), (q_m 8, .inl (cI, 48, .inl m_forms)), (q_m 9, .inl (cI, 48, .inl m_lesser)), (q_m 10, .inl (cI, 48, .inl m_greater)), (q_m 11, .inl (cI, 48, .inl m_why)), (q_m 12, .inl (cI, 48, .inl m_numbers)), (q_m 13, .inl (cI, 48, .inl m_depths)), (q_m 14, .inl (cI, 51, .inl m_letters)), (q_m 15, .inl (cI, 153, .inl m_parts))]) (w2 := fun _ => (wM cI q_m m_now m_aside m_past m_states m_refused m_text m_length m_tables m_all m_rowsBehind m_rowsMany m_forms m_lesser m_greater m_why m_checks m_numbers m_depths m_spot m_isFaulty m_orders m_letters m_parts m_hash)) C (c_M_bitsOf (wp_b h)) mk_X5_bitsOf wd_735 dX5_signOf_19 rfl rfl ⟨Nat.le_of_ble_eq_true rfl, Nat.le_of_ble_eq_true rfl⟩ [1] [0, 2, 3, 4, 5, 6, 7, 8, 9, 10, 11, 12, 13, 14, 15] [0, 15, 1, 2, 3, 4, 5, 6, 7, 8, 9, 10, 11, 12, 13, 14] ⟨rfl, rfl, by decide +kernel, by decide +kernel, by decide +kernel⟩ (by decide +kernel) (fun u => rfl) (Nat.le_of_ble_eq_true rfl) rfl (fun r4 u hw => ?_)
  have h := hw
  try dsimp only at h
  try dsimp only
  exact V_iret (pc := 22) C hQ () dX5_signOf_22 (vp_nar_int _) rfl (wp_s h)
set_option maxRecDepth 100000 in
set_option maxHeartbeats 4000000 in
theorem c_M_sign {l : Launch} {D : va_G} {cI cC : ClassId} {q_m : Nat → Nat} {m_now : Nat → Int32} {m_aside : Nat → Int32} {m_past : Nat → Int32} {m_states : Int32} {m_refused : Nat → Int32} {m_text : Nat → Int32} {m_length : Int32} {m_tables : Nat → Int32} {m_all : Int32} {m_rowsBehind : Nat → Int32} {m_rowsMany : Int32} {m_forms : Nat → Int32} {m_lesser : Nat → Int32} {m_greater : Nat → Int32} {m_why : Nat → Int32} {m_checks : Int32} {m_numbers : Nat → Int32} {m_depths : Nat → Int32} {m_spot : Int32} {m_isFaulty : Int32} {m_orders : Int32} {m_letters : Nat → Int32} {m_parts : Nat → Int32} {m_hash : Int64} {a0 : Int32} {post : Int32 × (Nat → Int32) × (Nat → Int32) × Int32 → Prop} (h : wpO (M_sign m_now m_refused m_tables m_all a0) post) : Cn l yX5_sign cX5_sign 2 (some .int) 2 46 D cI cC [.ref (q_m 0), .int a0] (wM cI q_m m_now m_aside m_past m_states m_refused m_text m_length m_tables m_all m_rowsBehind m_rowsMany m_forms m_lesser m_greater m_why m_checks m_numbers m_depths m_spot m_isFaulty m_orders m_letters m_parts m_hash) (QI D cI cC (S := (Nat → Int32) × (Nat → Int32) × Int32) (fun u => (wM cI q_m m_now m_aside m_past m_states u.1 m_text m_length u.2.1 u.2.2 m_rowsBehind m_rowsMany m_forms m_lesser m_greater m_why m_checks m_numbers m_depths m_spot m_isFaulty m_orders m_letters m_parts m_hash)) (fun r u => post (r, u))) := by
  refine Cn.ofV (own := RX5) (lv0 := [(0, .ref (q_m 0)), (1, .int a0)]) rfl (by decide) (Nat.le_of_ble_eq_true rfl) rfl ?_
  intro p e s m below meth c A args Q hQ C
  unfold M_sign at h
  refine V_aload_n (pc := 0) C 0 dX5_sign_0 rfl rfl ?_
  refine V_iload_n (pc := 1) C 1 dX5_sign_1 rfl rfl ?_
  refine V_callVi (pc := 2) (As := [.int a0]) (st := []) C (c_M_isNode (wp_b h)) mk_X5_isNode wd_754 dX5_sign_2 0 rfl rfl rfl ⟨Nat.le_of_ble_eq_true rfl, Nat.le_of_ble_eq_true rfl⟩ (Nat.le_of_ble_eq_true rfl) rfl (fun r2 u hw => ?_)
  obtain ⟨h, z3⟩ := hw
  try dsimp only at h
  try dsimp only
  refine V_if_ne (pc := 5) (tgt := 13) C dX5_sign_5 (by decide) (fun c4 => ?_) (fun c4 => ?_)
  · replace h := wp_f h c4
    refine V_aload_n (pc := 13) C 0 dX5_sign_13 rfl rfl ?_
    refine V_callVv (pc := 14) (As := []) (st := []) C (c_M_laysTables (wp_b h)) mk_X5_laysTables wd_708 dX5_sign_14 0 rfl rfl rfl ⟨Nat.le_of_ble_eq_true rfl, Nat.le_of_ble_eq_true rfl⟩ (Nat.le_of_ble_eq_true rfl) rfl (fun u hw => ?_)
    obtain ⟨m_tables_7, m_all_8⟩ := u
    have h := hw
    try dsimp only at h
    try dsimp only
    refine V_aload_n (pc := 17) C 0 dX5_sign_17 rfl rfl ?_
    refine V_iload_n (pc := 18) C 1 dX5_sign_18 rfl rfl ?_
    refine V_callVi (pc := 19) (As := [.int a0]) (st := []) C (c_M_signOf (wp_b h)) mk_X5_signOf wd_797 dX5_sign_19 0 rfl rfl rfl ⟨Nat.le_of_ble_eq_true rfl, Nat.le_of_ble_eq_true rfl⟩ (Nat.le_of_ble_eq_true rfl) rfl (fun r10 u hw => ?_)
    have h := hw
    try dsimp only at h
    try dsimp only
    exact V_iret (pc := 22) C hQ (m_refused, m_tables_7, m_all_8) dX5_sign_22 (vp_nar_int _) rfl (wp_s h)
  · replace h := wp_t h c4
    refine V_aload_n (pc := 8) C 0 dX5_sign_8 rfl rfl ?_
    refine V_callVi (pc := 9) (As := []) (st := []) C (c_M_bad (wp_b h)) mk_X5_bad wd_642 dX5_sign_9 0 rfl rfl rfl ⟨Nat.le_of_ble_eq_true rfl, Nat.le_of_ble_eq_true rfl⟩ (Nat.le_of_ble_eq_true rfl) rfl (fun r12 m_refused_13 hw => ?_)
    have h := hw
    try dsimp only at h
    try dsimp only
    exact V_iret (pc := 12) C hQ (m_refused_13, m_tables, m_all) dX5_sign_12 (vp_nar_int _) rfl (wp_s h)
set_option maxRecDepth 100000 in
set_option maxHeartbeats 4000000 in
theorem c_M_form {l : Launch} {D : va_G} {cI cC : ClassId} {q_m : Nat → Nat} {m_now : Nat → Int32} {m_aside : Nat → Int32} {m_past : Nat → Int32} {m_states : Int32} {m_refused : Nat → Int32} {m_text : Nat → Int32} {m_length : Int32} {m_tables : Nat → Int32} {m_all : Int32} {m_rowsBehind : Nat → Int32} {m_rowsMany : Int32} {m_forms : Nat → Int32} {m_lesser : Nat → Int32} {m_greater : Nat → Int32} {m_why : Nat → Int32} {m_checks : Int32} {m_numbers : Nat → Int32} {m_depths : Nat → Int32} {m_spot : Int32} {m_isFaulty : Int32} {m_orders : Int32} {m_letters : Nat → Int32} {m_parts : Nat → Int32} {m_hash : Int64} {a0 : Int32} {post : Int32 × (Nat → Int32) × (Nat → Int32) × Int32 × (Nat → Int32) × Int32 × (Nat → Int32) × (Nat → Int32) × (Nat → Int32) × (Nat → Int32) × Int32 → Prop} (h : wpO (M_form m_now m_refused m_tables m_all m_rowsBehind m_rowsMany m_forms m_lesser m_greater m_why m_checks a0) post) : Cn l yX5_form cX5_form 2 (some .int) 5 118 D cI cC [.ref (q_m 0), .int a0] (wM cI q_m m_now m_aside m_past m_states m_refused m_text m_length m_tables m_all m_rowsBehind m_rowsMany m_forms m_lesser m_greater m_why m_checks m_numbers m_depths m_spot m_isFaulty m_orders m_letters m_parts m_hash) (QI D cI cC (S := (Nat → Int32) × (Nat → Int32) × Int32 × (Nat → Int32) × Int32 × (Nat → Int32) × (Nat → Int32) × (Nat → Int32) × (Nat → Int32) × Int32) (fun u => (wM cI q_m m_now m_aside m_past m_states u.1 m_text m_length u.2.1 u.2.2.1 u.2.2.2.1 u.2.2.2.2.1 u.2.2.2.2.2.1 u.2.2.2.2.2.2.1 u.2.2.2.2.2.2.2.1 u.2.2.2.2.2.2.2.2.1 u.2.2.2.2.2.2.2.2.2 m_numbers m_depths m_spot m_isFaulty m_orders m_letters m_parts m_hash)) (fun r u => post (r, u))) := by
  refine Cn.ofV (own := RX5) (lv0 := [(0, .ref (q_m 0)), (1, .int a0)]) rfl (by decide) (Nat.le_of_ble_eq_true rfl) rfl ?_
  intro p e s m below meth c A args Q hQ C
  unfold M_form at h
  refine V_aload_n (pc := 0) C 0 dX5_form_0 rfl rfl ?_
  refine V_iload_n (pc := 1) C 1 dX5_form_1 rfl rfl ?_
  refine V_callVi (pc := 2) (As := [.int a0]) (st := []) C (c_M_isNode (wp_b h)) mk_X5_isNode wd_754 dX5_form_2 0 rfl rfl rfl ⟨Nat.le_of_ble_eq_true rfl, Nat.le_of_ble_eq_true rfl⟩ (Nat.le_of_ble_eq_true rfl) rfl (fun r2 u hw => ?_)
  obtain ⟨h, z3⟩ := hw
  try dsimp only at h
  try dsimp only
  refine V_if_ne (pc := 5) (tgt := 13) C dX5_form_5 (by decide) (fun c4 => ?_) (fun c4 => ?_)
  · replace h := wp_f h c4
    refine V_aload_n (pc := 13) C 0 dX5_form_13 rfl rfl ?_
    refine V_callVv (pc := 14) (As := []) (st := []) C (c_M_sweeps (wp_b h)) mk_X5_sweeps wd_705 dX5_form_14 0 rfl rfl rfl ⟨Nat.le_of_ble_eq_true rfl, Nat.le_of_ble_eq_true rfl⟩ (Nat.le_of_ble_eq_true rfl) rfl (fun u hw => ?_)
    obtain ⟨m_tables_7, m_all_8, m_rowsBehind_9, m_rowsMany_10, m_forms_11, m_lesser_12, m_greater_13, m_why_14, m_checks_15⟩ := u
    have h := hw
    try dsimp only at h
    try dsimp only
    refine V_aload_n (pc := 17) C 0 dX5_form_17 rfl rfl ?_
    refine V_get (pc := 18) C 0 11 inX5 wd_600 dX5_form_18 rfl rfl (by decide) rfl rfl ?_
    refine V_iload_n (pc := 21) C 1 dX5_form_21 rfl rfl ?_
    obtain ⟨b16, h⟩ := wp_c h
    refine V_iald (pc := 22) C 8 dX5_form_22 rfl b16 ?_
    exact V_iret (pc := 23) C hQ (m_refused, m_tables_7, m_all_8, m_rowsBehind_9, m_rowsMany_10, m_forms_11, m_lesser_12, m_greater_13, m_why_14, m_checks_15) dX5_form_23 (vp_nar_int _) rfl (wp_s h)
  · replace h := wp_t h c4
    refine V_aload_n (pc := 8) C 0 dX5_form_8 rfl rfl ?_
    refine V_callVi (pc := 9) (As := []) (st := []) C (c_M_bad (wp_b h)) mk_X5_bad wd_642 dX5_form_9 0 rfl rfl rfl ⟨Nat.le_of_ble_eq_true rfl, Nat.le_of_ble_eq_true rfl⟩ (Nat.le_of_ble_eq_true rfl) rfl (fun r18 m_refused_19 hw => ?_)
    have h := hw
    try dsimp only at h
    try dsimp only
    exact V_iret (pc := 12) C hQ (m_refused_19, m_tables, m_all, m_rowsBehind, m_rowsMany, m_forms, m_lesser, m_greater, m_why, m_checks) dX5_form_12 (vp_nar_int _) rfl (wp_s h)
set_option maxRecDepth 100000 in
set_option maxHeartbeats 4000000 in
theorem c_M_lineAt {l : Launch} {D : va_G} {cI cC : ClassId} {q_m : Nat → Nat} {m_now : Nat → Int32} {m_aside : Nat → Int32} {m_past : Nat → Int32} {m_states : Int32} {m_refused : Nat → Int32} {m_text : Nat → Int32} {m_length : Int32} {m_tables : Nat → Int32} {m_all : Int32} {m_rowsBehind : Nat → Int32} {m_rowsMany : Int32} {m_forms : Nat → Int32} {m_lesser : Nat → Int32} {m_greater : Nat → Int32} {m_why : Nat → Int32} {m_checks : Int32} {m_numbers : Nat → Int32} {m_depths : Nat → Int32} {m_spot : Int32} {m_isFaulty : Int32} {m_orders : Int32} {m_letters : Nat → Int32} {m_parts : Nat → Int32} {m_hash : Int64} {a0 : Int32} {post : Int32 → Prop} (h : wpO (M_lineAt m_now m_why a0) post) : Cn l yX5_lineAt cX5_lineAt 4 (some .int) 0 0 D cI cC [.ref (q_m 0), .int a0] (wM cI q_m m_now m_aside m_past m_states m_refused m_text m_length m_tables m_all m_rowsBehind m_rowsMany m_forms m_lesser m_greater m_why m_checks m_numbers m_depths m_spot m_isFaulty m_orders m_letters m_parts m_hash) (QI D cI cC (S := Unit) (fun u => (wM cI q_m m_now m_aside m_past m_states m_refused m_text m_length m_tables m_all m_rowsBehind m_rowsMany m_forms m_lesser m_greater m_why m_checks m_numbers m_depths m_spot m_isFaulty m_orders m_letters m_parts m_hash)) (fun r u => post r)) := by
  refine Cn.ofV (own := RX5) (lv0 := [(0, .ref (q_m 0)), (1, .int a0)]) rfl (by decide) (Nat.le_of_ble_eq_true rfl) rfl ?_
  intro p e s m below meth c A args Q hQ C
  have hL_11 : ∀ (K : Option (Int32)) (l1 : Int32), (wpO (K) post → V p l e (rmC 0 0) s m args below meth c D A 4 0 0 Q (wM cI q_m m_now m_aside m_past m_states m_refused m_text m_length m_tables m_all m_rowsBehind m_rowsMany m_forms m_lesser m_greater m_why m_checks m_numbers m_depths m_spot m_isFaulty m_orders m_letters m_parts m_hash) [] 46 []) → ∀ (n : Nat) (l2 : Int32) (l3 : Int32), wpO (M_lineAt_11 K m_now m_why l1 n l2 l3) post → V p l e (rmC 0 0) s m args below meth c D A 4 0 0 Q (wM cI q_m m_now m_aside m_past m_states m_refused m_text m_length m_tables m_all m_rowsBehind m_rowsMany m_forms m_lesser m_greater m_why m_checks m_numbers m_depths m_spot m_isFaulty m_orders m_letters m_parts m_hash) [(0, .ref (q_m 0)), (1, .int l1), (2, .int l2), (3, .int l3)] 11 [] := by
    intro K  l1 hK n
    induction n with
    | zero => intro l2 l3 h; rw [M_lineAt_11] at h; exact (wp_n h).elim
    | succ n ih =>
      intro l2 l3 h
      rw [M_lineAt_11] at h
      refine V_iload_n (pc := 11) C 3 dX5_lineAt_11 rfl rfl ?_
      refine V_aload_n (pc := 12) C 0 dX5_lineAt_12 rfl rfl ?_
      refine V_get (pc := 13) C 0 0 inX5 wd_589 dX5_lineAt_13 rfl rfl (by decide) rfl rfl ?_
      refine V_iconst (pc := 16) C dX5_lineAt_16 ki_1 ?_
      obtain ⟨b1, h⟩ := wp_c h
      refine V_iald (pc := 17) C 1 dX5_lineAt_17 rfl b1 ?_
      refine V_icmp_ge (pc := 18) (tgt := 46) C dX5_lineAt_18 (by decide) (fun c2 => ?_) (fun c2 => ?_)
      · replace h := wp_t h c2
        refine V_lv (pc := 46) [] rfl ?_
        exact hK h
      · replace h := wp_f h c2
        refine V_aload_n (pc := 21) C 0 dX5_lineAt_21 rfl rfl ?_
        refine V_get (pc := 22) C 0 14 inX5 wd_603 dX5_lineAt_22 rfl rfl (by decide) rfl rfl ?_
        refine V_iload_n (pc := 25) C 3 dX5_lineAt_25 rfl rfl ?_
        obtain ⟨b3, h⟩ := wp_c h
        refine V_iald (pc := 26) C 11 dX5_lineAt_26 rfl b3 ?_
        refine V_if_le (pc := 27) (tgt := 40) C dX5_lineAt_27 (by decide) (fun c4 => ?_) (fun c4 => ?_)
        · replace h := wp_t h c4
          obtain ⟨v5, ev5, h⟩ := wp_l h
          refine V_iinc (pc := 40) (v := v5) (lv' := [(0, .ref (q_m 0)), (1, .int l1), (2, .int l2), (3, .int v5)]) (j := 3) C dX5_lineAt_40 rfl (by rw [ev5]; rfl) [1, 2, 3, 0] (by decide) rfl ?_
          refine V_goto (pc := 43) (tgt := 11) C dX5_lineAt_43 (by decide) ?_
          exact ih _ _ h
        · replace h := wp_f h c4
          refine V_iload_n (pc := 30) C 2 dX5_lineAt_30 rfl rfl ?_
          refine V_iload_n (pc := 31) C 1 dX5_lineAt_31 rfl rfl ?_
          refine V_icmp_ne (pc := 32) (tgt := 37) C dX5_lineAt_32 (by decide) (fun c6 => ?_) (fun c6 => ?_)
          · replace h := wp_f h c6
            obtain ⟨v7, ev7, h⟩ := wp_l h
            refine V_iinc (pc := 37) (v := v7) (lv' := [(0, .ref (q_m 0)), (1, .int l1), (2, .int v7), (3, .int l3)]) (j := 2) C dX5_lineAt_37 rfl (by rw [ev7]; rfl) [1, 2, 0, 3] (by decide) rfl ?_
            obtain ⟨v8, ev8, h⟩ := wp_l h
            refine V_iinc (pc := 40) (v := v8) (lv' := [(0, .ref (q_m 0)), (1, .int l1), (2, .int v7), (3, .int v8)]) (j := 3) C dX5_lineAt_40 rfl (by rw [ev8]; rfl) [1, 2, 3, 0] (by decide) rfl ?_
            refine V_goto (pc := 43) (tgt := 11) C dX5_lineAt_43 (by decide) ?_
            exact ih _ _ h
          · replace h := wp_t h c6
            refine V_iload_n (pc := 35) C 3 dX5_lineAt_35 rfl rfl ?_
            exact V_iret (pc := 36) C hQ () dX5_lineAt_36 (vp_nar_int _) rfl (wp_s h)
  unfold M_lineAt at h
  refine V_iconst (pc := 0) C dX5_lineAt_0 ki_0 ?_
  refine V_istore_n (pc := 1) (lv' := [(0, .ref (q_m 0)), (1, .int a0), (2, .int 0)]) C dX5_lineAt_1 rfl [1, 2, 0] (by decide) rfl ?_
  refine V_aload_n (pc := 2) C 0 dX5_lineAt_2 rfl rfl ?_
  refine V_get (pc := 3) C 0 0 inX5 wd_589 dX5_lineAt_3 rfl rfl (by decide) rfl rfl ?_
  refine V_iconst (pc := 6) C dX5_lineAt_6 ki_0 ?_
  obtain ⟨b9, h⟩ := wp_c h
  refine V_iald (pc := 7) C 1 dX5_lineAt_7 rfl b9 ?_
  refine V_iconst (pc := 8) C dX5_lineAt_8 ki_1 ?_
  refine V_iadd (pc := 9) C dX5_lineAt_9 ?_
  obtain ⟨v10, ev10, h⟩ := wp_l h
  refine V_topi (pc := 10) ev10 ?_
  refine V_istore_n (pc := 10) (lv' := [(0, .ref (q_m 0)), (1, .int a0), (2, .int 0), (3, .int v10)]) C dX5_lineAt_10 rfl [1, 2, 3, 0] (by decide) rfl ?_
  refine hL_11 _ _ (fun h => ?_) 1000 _ _ h
  try dsimp only at h
  refine V_iconst (pc := 46) C dX5_lineAt_46 ki_m1 ?_
  exact V_iret (pc := 47) C hQ () dX5_lineAt_47 (vp_nar_int _) rfl (wp_s h)
set_option maxRecDepth 100000 in
set_option maxHeartbeats 4000000 in
theorem c_M_lines {l : Launch} {D : va_G} {cI cC : ClassId} {q_m : Nat → Nat} {m_now : Nat → Int32} {m_aside : Nat → Int32} {m_past : Nat → Int32} {m_states : Int32} {m_refused : Nat → Int32} {m_text : Nat → Int32} {m_length : Int32} {m_tables : Nat → Int32} {m_all : Int32} {m_rowsBehind : Nat → Int32} {m_rowsMany : Int32} {m_forms : Nat → Int32} {m_lesser : Nat → Int32} {m_greater : Nat → Int32} {m_why : Nat → Int32} {m_checks : Int32} {m_numbers : Nat → Int32} {m_depths : Nat → Int32} {m_spot : Int32} {m_isFaulty : Int32} {m_orders : Int32} {m_letters : Nat → Int32} {m_parts : Nat → Int32} {m_hash : Int64} {a0 : Int32} {a1 : Int32} {post : Int32 × (Nat → Int32) × (Nat → Int32) × Int32 × (Nat → Int32) × Int32 × (Nat → Int32) × (Nat → Int32) × (Nat → Int32) × (Nat → Int32) × Int32 → Prop} (h : wpO (M_lines m_now m_refused m_tables m_all m_rowsBehind m_rowsMany m_forms m_lesser m_greater m_why m_checks a0 a1) post) : Cn l yX5_lines cX5_lines 4 (some .int) 5 118 D cI cC [.ref (q_m 0), .int a0, .int a1] (wM cI q_m m_now m_aside m_past m_states m_refused m_text m_length m_tables m_all m_rowsBehind m_rowsMany m_forms m_lesser m_greater m_why m_checks m_numbers m_depths m_spot m_isFaulty m_orders m_letters m_parts m_hash) (QI D cI cC (S := (Nat → Int32) × (Nat → Int32) × Int32 × (Nat → Int32) × Int32 × (Nat → Int32) × (Nat → Int32) × (Nat → Int32) × (Nat → Int32) × Int32) (fun u => (wM cI q_m m_now m_aside m_past m_states u.1 m_text m_length u.2.1 u.2.2.1 u.2.2.2.1 u.2.2.2.2.1 u.2.2.2.2.2.1 u.2.2.2.2.2.2.1 u.2.2.2.2.2.2.2.1 u.2.2.2.2.2.2.2.2.1 u.2.2.2.2.2.2.2.2.2 m_numbers m_depths m_spot m_isFaulty m_orders m_letters m_parts m_hash)) (fun r u => post (r, u))) := by
  refine Cn.ofV (own := RX5) (lv0 := [(0, .ref (q_m 0)), (1, .int a0), (2, .int a1)]) rfl (by decide) (Nat.le_of_ble_eq_true rfl) rfl ?_
  intro p e s m below meth c A args Q hQ C
  unfold M_lines at h
  refine V_iload_n (pc := 0) C 1 dX5_lines_0 rfl rfl ?_
  refine V_iconst (pc := 1) C dX5_lines_1 ki_m1 ?_
  refine V_icmp_lt (pc := 2) (tgt := 23) C dX5_lines_2 (by decide) (fun c1 => ?_) (fun c1 => ?_)
  · replace h := wp_t h c1
    refine V_aload_n (pc := 23) C 0 dX5_lines_23 rfl rfl ?_
    refine V_callVi (pc := 24) (As := []) (st := []) C (c_M_bad (wp_b h)) mk_X5_bad wd_642 dX5_lines_24 0 rfl rfl rfl ⟨Nat.le_of_ble_eq_true rfl, Nat.le_of_ble_eq_true rfl⟩ (Nat.le_of_ble_eq_true rfl) rfl (fun r3 m_refused_4 hw => ?_)
    have h := hw
    try dsimp only at h
    try dsimp only
    exact V_iret (pc := 27) C hQ (m_refused_4, m_tables, m_all, m_rowsBehind, m_rowsMany, m_forms, m_lesser, m_greater, m_why, m_checks) dX5_lines_27 (vp_nar_int _) rfl (wp_s h)
  · replace h := wp_f h c1
    refine V_iload_n (pc := 5) C 2 dX5_lines_5 rfl rfl ?_
    refine V_iconst (pc := 6) C dX5_lines_6 ki_0 ?_
    refine V_iload_n (pc := 7) C 1 dX5_lines_7 rfl rfl ?_
    refine V_iconst (pc := 8) C dX5_lines_8 ki_m1 ?_
    refine V_icmp_ne (pc := 9) (tgt := 16) C dX5_lines_9 (by decide) (fun c5 => ?_) (fun c5 => ?_)
    · replace h := wp_f h c5
      refine V_iconst (pc := 16) C dX5_lines_16 ki_2 ?_
      refine V_cutSi (pc := 17) (As := [.int a1, .int 0, .int 2]) (st := []) (w0 := ([] : va_W)) (wr := (wM cI q_m m_now m_aside m_past m_states m_refused m_text m_length m_tables m_all m_rowsBehind m_rowsMany m_forms m_lesser m_greater m_why m_checks m_numbers m_depths m_spot m_isFaulty m_orders m_letters m_parts m_hash)) (w2 := fun u => (wM cI q_m m_now m_aside m_past m_states m_refused m_text m_length m_tables m_all m_rowsBehind m_rowsMany m_forms m_lesser m_greater m_why m_checks m_numbers m_depths m_spot m_isFaulty m_orders m_letters m_parts m_hash)) C (c_M_within (wp_b h)) mk_X5_within wd_630 dX5_lines_17 rfl rfl ⟨Nat.le_of_ble_eq_true rfl, Nat.le_of_ble_eq_true rfl⟩ [] [0, 1, 2, 3, 4, 5, 6, 7, 8, 9, 10, 11, 12, 13, 14, 15] [0, 1, 2, 3, 4, 5, 6, 7, 8, 9, 10, 11, 12, 13, 14, 15] ⟨rfl, rfl, by decide +kernel, by decide +kernel, by decide +kernel⟩ (by decide +kernel) (fun u => rfl) (Nat.le_of_ble_eq_true rfl) rfl (fun r7 u hw => ?_)
      obtain ⟨h, z8⟩ := hw
      try dsimp only at h
      try dsimp only
      refine V_if_ne (pc := 20) (tgt := 28) C dX5_lines_20 (by decide) (fun c9 => ?_) (fun c9 => ?_)
      · replace h := wp_f h c9
        refine V_aload_n (pc := 28) C 0 dX5_lines_28 rfl rfl ?_
        refine V_callVv (pc := 29) (As := []) (st := []) C (c_M_sweeps (wp_b h)) mk_X5_sweeps wd_705 dX5_lines_29 0 rfl rfl rfl ⟨Nat.le_of_ble_eq_true rfl, Nat.le_of_ble_eq_true rfl⟩ (Nat.le_of_ble_eq_true rfl) rfl (fun u hw => ?_)
        obtain ⟨m_tables_12, m_all_13, m_rowsBehind_14, m_rowsMany_15, m_forms_16, m_lesser_17, m_greater_18, m_why_19, m_checks_20⟩ := u
        have h := hw
        try dsimp only at h
        try dsimp only
        refine V_iload_n (pc := 32) C 1 dX5_lines_32 rfl rfl ?_
        refine V_iconst (pc := 33) C dX5_lines_33 ki_m1 ?_
        refine V_icmp_ne (pc := 34) (tgt := 59) C dX5_lines_34 (by decide) (fun c21 => ?_) (fun c21 => absurd c21 c5)
        refine V_aload_n (pc := 59) C 0 dX5_lines_59 rfl rfl ?_
        refine V_iload_n (pc := 60) C 1 dX5_lines_60 rfl rfl ?_
        refine V_callVi (pc := 61) (As := [.int a0]) (st := []) C (c_M_lineAt (wp_b h)) mk_X5_lineAt wd_811 dX5_lines_61 0 rfl rfl rfl ⟨Nat.le_of_ble_eq_true rfl, Nat.le_of_ble_eq_true rfl⟩ (Nat.le_of_ble_eq_true rfl) rfl (fun r23 u hw => ?_)
        have h := hw
        try dsimp only at h
        try dsimp only
        refine V_istore_n (pc := 64) (lv' := [(0, .ref (q_m 0)), (1, .int a0), (2, .int a1), (3, .int r23)]) C dX5_lines_64 rfl [1, 2, 3, 0] (by decide) rfl ?_
        refine V_iload_n (pc := 65) C 3 dX5_lines_65 rfl rfl ?_
        refine V_iconst (pc := 66) C dX5_lines_66 ki_m1 ?_
        refine V_icmp_ne (pc := 67) (tgt := 75) C dX5_lines_67 (by decide) (fun c24 => ?_) (fun c24 => ?_)
        · replace h := wp_f h c24
          refine V_iload_n (pc := 75) C 2 dX5_lines_75 rfl rfl ?_
          refine V_if_ne (pc := 76) (tgt := 83) C dX5_lines_76 (by decide) (fun c25 => ?_) (fun c25 => ?_)
          · replace h := wp_f h c25
            refine V_iload_n (pc := 83) C 2 dX5_lines_83 rfl rfl ?_
            refine V_iconst (pc := 84) C dX5_lines_84 ki_1 ?_
            refine V_icmp_ne (pc := 85) (tgt := 97) C dX5_lines_85 (by decide) (fun c26 => ?_) (fun c26 => ?_)
            · replace h := wp_f h c26
              refine V_aload_n (pc := 97) C 0 dX5_lines_97 rfl rfl ?_
              refine V_get (pc := 98) C 0 14 inX5 wd_603 dX5_lines_98 rfl rfl (by decide) rfl rfl ?_
              refine V_iload_n (pc := 101) C 3 dX5_lines_101 rfl rfl ?_
              obtain ⟨b27, h⟩ := wp_c h
              refine V_iald (pc := 102) C 11 dX5_lines_102 rfl b27 ?_
              exact V_iret (pc := 103) C hQ (m_refused, m_tables_12, m_all_13, m_rowsBehind_14, m_rowsMany_15, m_forms_16, m_lesser_17, m_greater_18, m_why_19, m_checks_20) dX5_lines_103 (vp_nar_int _) rfl (wp_s h)
            · replace h := wp_t h c26
              refine V_aload_n (pc := 88) C 0 dX5_lines_88 rfl rfl ?_
              refine V_get (pc := 89) C 0 11 inX5 wd_600 dX5_lines_89 rfl rfl (by decide) rfl rfl ?_
              refine V_iload_n (pc := 92) C 3 dX5_lines_92 rfl rfl ?_
              obtain ⟨b28, h⟩ := wp_c h
              refine V_iald (pc := 93) C 8 dX5_lines_93 rfl b28 ?_
              refine V_goto (pc := 94) (tgt := 103) C dX5_lines_94 (by decide) ?_
              exact V_iret (pc := 103) C hQ (m_refused, m_tables_12, m_all_13, m_rowsBehind_14, m_rowsMany_15, m_forms_16, m_lesser_17, m_greater_18, m_why_19, m_checks_20) dX5_lines_103 (vp_nar_int _) rfl (wp_s h)
          · replace h := wp_t h c25
            refine V_iload_n (pc := 79) C 3 dX5_lines_79 rfl rfl ?_
            refine V_goto (pc := 80) (tgt := 103) C dX5_lines_80 (by decide) ?_
            exact V_iret (pc := 103) C hQ (m_refused, m_tables_12, m_all_13, m_rowsBehind_14, m_rowsMany_15, m_forms_16, m_lesser_17, m_greater_18, m_why_19, m_checks_20) dX5_lines_103 (vp_nar_int _) rfl (wp_s h)
        · replace h := wp_t h c24
          refine V_bipush (pc := 70) C dX5_lines_70 kb_m5 ?_
          refine V_goto (pc := 72) (tgt := 103) C dX5_lines_72 (by decide) ?_
          exact V_iret (pc := 103) C hQ (m_refused, m_tables_12, m_all_13, m_rowsBehind_14, m_rowsMany_15, m_forms_16, m_lesser_17, m_greater_18, m_why_19, m_checks_20) dX5_lines_103 (vp_nar_int _) rfl (wp_s h)
      · replace h := wp_t h c9
        refine V_aload_n (pc := 23) C 0 dX5_lines_23 rfl rfl ?_
        refine V_callVi (pc := 24) (As := []) (st := []) C (c_M_bad (wp_b h)) mk_X5_bad wd_642 dX5_lines_24 0 rfl rfl rfl ⟨Nat.le_of_ble_eq_true rfl, Nat.le_of_ble_eq_true rfl⟩ (Nat.le_of_ble_eq_true rfl) rfl (fun r30 m_refused_31 hw => ?_)
        have h := hw
        try dsimp only at h
        try dsimp only
        exact V_iret (pc := 27) C hQ (m_refused_31, m_tables, m_all, m_rowsBehind, m_rowsMany, m_forms, m_lesser, m_greater, m_why, m_checks) dX5_lines_27 (vp_nar_int _) rfl (wp_s h)
    · replace h := wp_t h c5
      refine V_iconst (pc := 12) C dX5_lines_12 ki_0 ?_
      refine V_goto (pc := 13) (tgt := 17) C dX5_lines_13 (by decide) ?_
      refine V_cutSi (pc := 17) (As := [.int a1, .int 0, .int 0]) (st := []) (w0 := ([] : va_W)) (wr := (wM cI q_m m_now m_aside m_past m_states m_refused m_text m_length m_tables m_all m_rowsBehind m_rowsMany m_forms m_lesser m_greater m_why m_checks m_numbers m_depths m_spot m_isFaulty m_orders m_letters m_parts m_hash)) (w2 := fun u => (wM cI q_m m_now m_aside m_past m_states m_refused m_text m_length m_tables m_all m_rowsBehind m_rowsMany m_forms m_lesser m_greater m_why m_checks m_numbers m_depths m_spot m_isFaulty m_orders m_letters m_parts m_hash)) C (c_M_within (wp_b h)) mk_X5_within wd_630 dX5_lines_17 rfl rfl ⟨Nat.le_of_ble_eq_true rfl, Nat.le_of_ble_eq_true rfl⟩ [] [0, 1, 2, 3, 4, 5, 6, 7, 8, 9, 10, 11, 12, 13, 14, 15] [0, 1, 2, 3, 4, 5, 6, 7, 8, 9, 10, 11, 12, 13, 14, 15] ⟨rfl, rfl, by decide +kernel, by decide +kernel, by decide +kernel⟩ (by decide +kernel) (fun u => rfl) (Nat.le_of_ble_eq_true rfl) rfl (fun r33 u hw => ?_)
      obtain ⟨h, z34⟩ := hw
      try dsimp only at h
      try dsimp only
      refine V_if_ne (pc := 20) (tgt := 28) C dX5_lines_20 (by decide) (fun c35 => ?_) (fun c35 => ?_)
      · replace h := wp_f h c35
        refine V_aload_n (pc := 28) C 0 dX5_lines_28 rfl rfl ?_
        refine V_callVv (pc := 29) (As := []) (st := []) C (c_M_sweeps (wp_b h)) mk_X5_sweeps wd_705 dX5_lines_29 0 rfl rfl rfl ⟨Nat.le_of_ble_eq_true rfl, Nat.le_of_ble_eq_true rfl⟩ (Nat.le_of_ble_eq_true rfl) rfl (fun u hw => ?_)
        obtain ⟨m_tables_38, m_all_39, m_rowsBehind_40, m_rowsMany_41, m_forms_42, m_lesser_43, m_greater_44, m_why_45, m_checks_46⟩ := u
        have h := hw
        try dsimp only at h
        try dsimp only
        refine V_iload_n (pc := 32) C 1 dX5_lines_32 rfl rfl ?_
        refine V_iconst (pc := 33) C dX5_lines_33 ki_m1 ?_
        refine V_icmp_ne (pc := 34) (tgt := 59) C dX5_lines_34 (by decide) (fun c47 => absurd c5 c47) (fun c47 => ?_)
        refine V_aload_n (pc := 37) C 0 dX5_lines_37 rfl rfl ?_
        refine V_get (pc := 38) C 0 0 inX5 wd_589 dX5_lines_38 rfl rfl (by decide) rfl rfl ?_
        refine V_iconst (pc := 41) C dX5_lines_41 ki_1 ?_
        obtain ⟨b48, h⟩ := wp_c h
        refine V_iald (pc := 42) C 1 dX5_lines_42 rfl b48 ?_
        refine V_aload_n (pc := 43) C 0 dX5_lines_43 rfl rfl ?_
        refine V_get (pc := 44) C 0 0 inX5 wd_589 dX5_lines_44 rfl rfl (by decide) rfl rfl ?_
        refine V_iconst (pc := 47) C dX5_lines_47 ki_0 ?_
        obtain ⟨b49, h⟩ := wp_c h
        refine V_iald (pc := 48) C 1 dX5_lines_48 rfl b49 ?_
        refine V_isub (pc := 49) C dX5_lines_49 ?_
        refine V_iconst (pc := 50) C dX5_lines_50 ki_1 ?_
        refine V_isub (pc := 51) C dX5_lines_51 ?_
        refine V_aload_n (pc := 52) C 0 dX5_lines_52 rfl rfl ?_
        refine V_iconst (pc := 53) C dX5_lines_53 ki_0 ?_
        refine V_callVi (pc := 54) (As := [.int 0]) (st := [.int (((m_now (Int32.toNatClampNeg (1 : Int32))) - (m_now (Int32.toNatClampNeg (0 : Int32)))) - 1)]) C (c_M_merged (wp_b h)) mk_X5_merged wd_808 dX5_lines_54 0 rfl rfl rfl ⟨Nat.le_of_ble_eq_true rfl, Nat.le_of_ble_eq_true rfl⟩ (Nat.le_of_ble_eq_true rfl) rfl (fun r51 u hw => ?_)
        have h := hw
        try dsimp only at h
        try dsimp only
        refine V_isub (pc := 57) C dX5_lines_57 ?_
        exact V_iret (pc := 58) C hQ (m_refused, m_tables_38, m_all_39, m_rowsBehind_40, m_rowsMany_41, m_forms_42, m_lesser_43, m_greater_44, m_why_45, m_checks_46) dX5_lines_58 (vp_nar_int _) rfl (wp_s h)
      · replace h := wp_t h c35
        refine V_aload_n (pc := 23) C 0 dX5_lines_23 rfl rfl ?_
        refine V_callVi (pc := 24) (As := []) (st := []) C (c_M_bad (wp_b h)) mk_X5_bad wd_642 dX5_lines_24 0 rfl rfl rfl ⟨Nat.le_of_ble_eq_true rfl, Nat.le_of_ble_eq_true rfl⟩ (Nat.le_of_ble_eq_true rfl) rfl (fun r53 m_refused_54 hw => ?_)
        have h := hw
        try dsimp only at h
        try dsimp only
        exact V_iret (pc := 27) C hQ (m_refused_54, m_tables, m_all, m_rowsBehind, m_rowsMany, m_forms, m_lesser, m_greater, m_why, m_checks) dX5_lines_27 (vp_nar_int _) rfl (wp_s h)
set_option maxRecDepth 100000 in
set_option maxHeartbeats 4000000 in
theorem c_M_sweptOf {l : Launch} {D : va_G} {cI cC : ClassId} {q_m : Nat → Nat} {m_now : Nat → Int32} {m_aside : Nat → Int32} {m_past : Nat → Int32} {m_states : Int32} {m_refused : Nat → Int32} {m_text : Nat → Int32} {m_length : Int32} {m_tables : Nat → Int32} {m_all : Int32} {m_rowsBehind : Nat → Int32} {m_rowsMany : Int32} {m_forms : Nat → Int32} {m_lesser : Nat → Int32} {m_greater : Nat → Int32} {m_why : Nat → Int32} {m_checks : Int32} {m_numbers : Nat → Int32} {m_depths : Nat → Int32} {m_spot : Int32} {m_isFaulty : Int32} {m_orders : Int32} {m_letters : Nat → Int32} {m_parts : Nat → Int32} {m_hash : Int64} {a0 : Int32} {post : Int32 → Prop} (h : wpO (M_sweptOf m_now m_rowsMany m_why m_checks a0) post) : Cn l yX5_sweptOf cX5_sweptOf 2 (some .int) 1 23 D cI cC [.ref (q_m 0), .int a0] (wM cI q_m m_now m_aside m_past m_states m_refused m_text m_length m_tables m_all m_rowsBehind m_rowsMany m_forms m_lesser m_greater m_why m_checks m_numbers m_depths m_spot m_isFaulty m_orders m_letters m_parts m_hash) (QI D cI cC (S := Unit) (fun u => (wM cI q_m m_now m_aside m_past m_states m_refused m_text m_length m_tables m_all m_rowsBehind m_rowsMany m_forms m_lesser m_greater m_why m_checks m_numbers m_depths m_spot m_isFaulty m_orders m_letters m_parts m_hash)) (fun r u => post r)) := by
  refine Cn.ofV (own := RX5) (lv0 := [(0, .ref (q_m 0)), (1, .int a0)]) rfl (by decide) (Nat.le_of_ble_eq_true rfl) rfl ?_
  intro p e s m below meth c A args Q hQ C
  unfold M_sweptOf at h
  refine V_iload_n (pc := 0) C 1 dX5_sweptOf_0 rfl rfl ?_
  refine V_iconst (pc := 1) C dX5_sweptOf_1 ki_4 ?_
  refine V_icmp_ge (pc := 2) (tgt := 13) C dX5_sweptOf_2 (by decide) (fun c1 => ?_) (fun c1 => ?_)
  · replace h := wp_t h c1
    refine V_iload_n (pc := 13) C 1 dX5_sweptOf_13 rfl rfl ?_
    refine V_iconst (pc := 14) C dX5_sweptOf_14 ki_4 ?_
    refine V_icmp_ne (pc := 15) (tgt := 25) C dX5_sweptOf_15 (by decide) (fun c2 => ?_) (fun c2 => ?_)
    · replace h := wp_f h c2
      refine V_aload_n (pc := 25) C 0 dX5_sweptOf_25 rfl rfl ?_
      refine V_get (pc := 26) C 0 10 inX5 wd_599 dX5_sweptOf_26 rfl rfl (by decide) rfl rfl ?_
      exact V_iret (pc := 29) C hQ () dX5_sweptOf_29 (vp_nar_int _) rfl (wp_s h)
    · replace h := wp_t h c2
      refine V_aload_n (pc := 18) C 0 dX5_sweptOf_18 rfl rfl ?_
      refine V_get (pc := 19) C 0 15 inX5 wd_604 dX5_sweptOf_19 rfl rfl (by decide) rfl rfl ?_
      refine V_goto (pc := 22) (tgt := 29) C dX5_sweptOf_22 (by decide) ?_
      exact V_iret (pc := 29) C hQ () dX5_sweptOf_29 (vp_nar_int _) rfl (wp_s h)
  · replace h := wp_f h c1
    refine V_aload_n (pc := 5) C 0 dX5_sweptOf_5 rfl rfl ?_
    refine V_iload_n (pc := 6) C 1 dX5_sweptOf_6 rfl rfl ?_
    refine V_callVi (pc := 7) (As := [.int a0]) (st := []) C (c_M_merged (wp_b h)) mk_X5_merged wd_808 dX5_sweptOf_7 0 rfl rfl rfl ⟨Nat.le_of_ble_eq_true rfl, Nat.le_of_ble_eq_true rfl⟩ (Nat.le_of_ble_eq_true rfl) rfl (fun r4 u hw => ?_)
    have h := hw
    try dsimp only at h
    try dsimp only
    refine V_goto (pc := 10) (tgt := 29) C dX5_sweptOf_10 (by decide) ?_
    exact V_iret (pc := 29) C hQ () dX5_sweptOf_29 (vp_nar_int _) rfl (wp_s h)
set_option maxRecDepth 100000 in
set_option maxHeartbeats 4000000 in
theorem c_M_swept {l : Launch} {D : va_G} {cI cC : ClassId} {q_m : Nat → Nat} {m_now : Nat → Int32} {m_aside : Nat → Int32} {m_past : Nat → Int32} {m_states : Int32} {m_refused : Nat → Int32} {m_text : Nat → Int32} {m_length : Int32} {m_tables : Nat → Int32} {m_all : Int32} {m_rowsBehind : Nat → Int32} {m_rowsMany : Int32} {m_forms : Nat → Int32} {m_lesser : Nat → Int32} {m_greater : Nat → Int32} {m_why : Nat → Int32} {m_checks : Int32} {m_numbers : Nat → Int32} {m_depths : Nat → Int32} {m_spot : Int32} {m_isFaulty : Int32} {m_orders : Int32} {m_letters : Nat → Int32} {m_parts : Nat → Int32} {m_hash : Int64} {a0 : Int32} {post : Int32 × (Nat → Int32) × (Nat → Int32) × Int32 × (Nat → Int32) × Int32 × (Nat → Int32) × (Nat → Int32) × (Nat → Int32) × (Nat → Int32) × Int32 → Prop} (h : wpO (M_swept m_now m_refused m_tables m_all m_rowsBehind m_rowsMany m_forms m_lesser m_greater m_why m_checks a0) post) : Cn l yX5_swept cX5_swept 2 (some .int) 5 118 D cI cC [.ref (q_m 0), .int a0] (wM cI q_m m_now m_aside m_past m_states m_refused m_text m_length m_tables m_all m_rowsBehind m_rowsMany m_forms m_lesser m_greater m_why m_checks m_numbers m_depths m_spot m_isFaulty m_orders m_letters m_parts m_hash) (QI D cI cC (S := (Nat → Int32) × (Nat → Int32) × Int32 × (Nat → Int32) × Int32 × (Nat → Int32) × (Nat → Int32) × (Nat → Int32) × (Nat → Int32) × Int32) (fun u => (wM cI q_m m_now m_aside m_past m_states u.1 m_text m_length u.2.1 u.2.2.1 u.2.2.2.1 u.2.2.2.2.1 u.2.2.2.2.2.1 u.2.2.2.2.2.2.1 u.2.2.2.2.2.2.2.1 u.2.2.2.2.2.2.2.2.1 u.2.2.2.2.2.2.2.2.2 m_numbers m_depths m_spot m_isFaulty m_orders m_letters m_parts m_hash)) (fun r u => post (r, u))) := by
  refine Cn.ofV (own := RX5) (lv0 := [(0, .ref (q_m 0)), (1, .int a0)]) rfl (by decide) (Nat.le_of_ble_eq_true rfl) rfl ?_
  intro p e s m below meth c A args Q hQ C
  unfold M_swept at h
  refine V_iload_n (pc := 0) C 1 dX5_swept_0 rfl rfl ?_
  refine V_iconst (pc := 1) C dX5_swept_1 ki_0 ?_
  refine V_iconst (pc := 2) C dX5_swept_2 ki_5 ?_
  refine V_cutSi (pc := 3) (As := [.int a0, .int 0, .int 5]) (st := []) (w0 := ([] : va_W)) (wr := (wM cI q_m m_now m_aside m_past m_states m_refused m_text m_length m_tables m_all m_rowsBehind m_rowsMany m_forms m_lesser m_greater m_why m_checks m_numbers m_depths m_spot m_isFaulty m_orders m_letters m_parts m_hash)) (w2 := fun u => (wM cI q_m m_now m_aside m_past m_states m_refused m_text m_length m_tables m_all m_rowsBehind m_rowsMany m_forms m_lesser m_greater m_why m_checks m_numbers m_depths m_spot m_isFaulty m_orders m_letters m_parts m_hash)) C (c_M_within (wp_b h)) mk_X5_within wd_630 dX5_swept_3 rfl rfl ⟨Nat.le_of_ble_eq_true rfl, Nat.le_of_ble_eq_true rfl⟩ [] [0, 1, 2, 3, 4, 5, 6, 7, 8, 9, 10, 11, 12, 13, 14, 15] [0, 1, 2, 3, 4, 5, 6, 7, 8, 9, 10, 11, 12, 13, 14, 15] ⟨rfl, rfl, by decide +kernel, by decide +kernel, by decide +kernel⟩ (by decide +kernel) (fun u => rfl) (Nat.le_of_ble_eq_true rfl) rfl (fun r2 u hw => ?_)
  obtain ⟨h, z3⟩ := hw
  try dsimp only at h
  try dsimp only
  refine V_if_ne (pc := 6) (tgt := 14) C dX5_swept_6 (by decide) (fun c4 => ?_) (fun c4 => ?_)
  · replace h := wp_f h c4
    refine V_aload_n (pc := 14) C 0 dX5_swept_14 rfl rfl ?_
    refine V_callVv (pc := 15) (As := []) (st := []) C (c_M_sweeps (wp_b h)) mk_X5_sweeps wd_705 dX5_swept_15 0 rfl rfl rfl ⟨Nat.le_of_ble_eq_true rfl, Nat.le_of_ble_eq_true rfl⟩ (Nat.le_of_ble_eq_true rfl) rfl (fun u hw => ?_)
    obtain ⟨m_tables_7, m_all_8, m_rowsBehind_9, m_rowsMany_10, m_forms_11, m_lesser_12, m_greater_13, m_why_14, m_checks_15⟩ := u
    have h := hw
    try dsimp only at h
    try dsimp only
    refine V_aload_n (pc := 18) C 0 dX5_swept_18 rfl rfl ?_
    refine V_iload_n (pc := 19) C 1 dX5_swept_19 rfl rfl ?_
    refine V_callVi (pc := 20) (As := [.int a0]) (st := []) C (c_M_sweptOf (wp_b h)) mk_X5_sweptOf wd_818 dX5_swept_20 0 rfl rfl rfl ⟨Nat.le_of_ble_eq_true rfl, Nat.le_of_ble_eq_true rfl⟩ (Nat.le_of_ble_eq_true rfl) rfl (fun r17 u hw => ?_)
    have h := hw
    try dsimp only at h
    try dsimp only
    exact V_iret (pc := 23) C hQ (m_refused, m_tables_7, m_all_8, m_rowsBehind_9, m_rowsMany_10, m_forms_11, m_lesser_12, m_greater_13, m_why_14, m_checks_15) dX5_swept_23 (vp_nar_int _) rfl (wp_s h)
  · replace h := wp_t h c4
    refine V_aload_n (pc := 9) C 0 dX5_swept_9 rfl rfl ?_
    refine V_callVi (pc := 10) (As := []) (st := []) C (c_M_bad (wp_b h)) mk_X5_bad wd_642 dX5_swept_10 0 rfl rfl rfl ⟨Nat.le_of_ble_eq_true rfl, Nat.le_of_ble_eq_true rfl⟩ (Nat.le_of_ble_eq_true rfl) rfl (fun r19 m_refused_20 hw => ?_)
    have h := hw
    try dsimp only at h
    try dsimp only
    exact V_iret (pc := 13) C hQ (m_refused_20, m_tables, m_all, m_rowsBehind, m_rowsMany, m_forms, m_lesser, m_greater, m_why, m_checks) dX5_swept_13 (vp_nar_int _) rfl (wp_s h)
set_option maxRecDepth 100000 in
set_option maxHeartbeats 4000000 in
theorem c_M_row {l : Launch} {D : va_G} {cI cC : ClassId} {q_m : Nat → Nat} {m_now : Nat → Int32} {m_aside : Nat → Int32} {m_past : Nat → Int32} {m_states : Int32} {m_refused : Nat → Int32} {m_text : Nat → Int32} {m_length : Int32} {m_tables : Nat → Int32} {m_all : Int32} {m_rowsBehind : Nat → Int32} {m_rowsMany : Int32} {m_forms : Nat → Int32} {m_lesser : Nat → Int32} {m_greater : Nat → Int32} {m_why : Nat → Int32} {m_checks : Int32} {m_numbers : Nat → Int32} {m_depths : Nat → Int32} {m_spot : Int32} {m_isFaulty : Int32} {m_orders : Int32} {m_letters : Nat → Int32} {m_parts : Nat → Int32} {m_hash : Int64} {a0 : Int32} {post : Int32 × (Nat → Int32) × (Nat → Int32) × Int32 × (Nat → Int32) × Int32 × (Nat → Int32) × (Nat → Int32) × (Nat → Int32) × (Nat → Int32) × Int32 → Prop} (h : wpO (M_row m_now m_refused m_tables m_all m_rowsBehind m_rowsMany m_forms m_lesser m_greater m_why m_checks a0) post) : Cn l yX5_row cX5_row 2 (some .int) 5 118 D cI cC [.ref (q_m 0), .int a0] (wM cI q_m m_now m_aside m_past m_states m_refused m_text m_length m_tables m_all m_rowsBehind m_rowsMany m_forms m_lesser m_greater m_why m_checks m_numbers m_depths m_spot m_isFaulty m_orders m_letters m_parts m_hash) (QI D cI cC (S := (Nat → Int32) × (Nat → Int32) × Int32 × (Nat → Int32) × Int32 × (Nat → Int32) × (Nat → Int32) × (Nat → Int32) × (Nat → Int32) × Int32) (fun u => (wM cI q_m m_now m_aside m_past m_states u.1 m_text m_length u.2.1 u.2.2.1 u.2.2.2.1 u.2.2.2.2.1 u.2.2.2.2.2.1 u.2.2.2.2.2.2.1 u.2.2.2.2.2.2.2.1 u.2.2.2.2.2.2.2.2.1 u.2.2.2.2.2.2.2.2.2 m_numbers m_depths m_spot m_isFaulty m_orders m_letters m_parts m_hash)) (fun r u => post (r, u))) := by
  refine Cn.ofV (own := RX5) (lv0 := [(0, .ref (q_m 0)), (1, .int a0)]) rfl (by decide) (Nat.le_of_ble_eq_true rfl) rfl ?_
  intro p e s m below meth c A args Q hQ C
  unfold M_row at h
  refine V_iload_n (pc := 0) C 1 dX5_row_0 rfl rfl ?_
  refine V_if_ge (pc := 1) (tgt := 9) C dX5_row_1 (by decide) (fun c1 => ?_) (fun c1 => ?_)
  · replace h := wp_t h c1
    refine V_aload_n (pc := 9) C 0 dX5_row_9 rfl rfl ?_
    refine V_callVv (pc := 10) (As := []) (st := []) C (c_M_sweeps (wp_b h)) mk_X5_sweeps wd_705 dX5_row_10 0 rfl rfl rfl ⟨Nat.le_of_ble_eq_true rfl, Nat.le_of_ble_eq_true rfl⟩ (Nat.le_of_ble_eq_true rfl) rfl (fun u hw => ?_)
    obtain ⟨m_tables_4, m_all_5, m_rowsBehind_6, m_rowsMany_7, m_forms_8, m_lesser_9, m_greater_10, m_why_11, m_checks_12⟩ := u
    have h := hw
    try dsimp only at h
    try dsimp only
    refine V_iload_n (pc := 13) C 1 dX5_row_13 rfl rfl ?_
    refine V_aload_n (pc := 14) C 0 dX5_row_14 rfl rfl ?_
    refine V_get (pc := 15) C 0 10 inX5 wd_599 dX5_row_15 rfl rfl (by decide) rfl rfl ?_
    refine V_icmp_ge (pc := 18) (tgt := 30) C dX5_row_18 (by decide) (fun c13 => ?_) (fun c13 => ?_)
    · replace h := wp_t h c13
      refine V_iconst (pc := 30) C dX5_row_30 ki_m1 ?_
      exact V_iret (pc := 31) C hQ (m_refused, m_tables_4, m_all_5, m_rowsBehind_6, m_rowsMany_7, m_forms_8, m_lesser_9, m_greater_10, m_why_11, m_checks_12) dX5_row_31 (vp_nar_int _) rfl (wp_s h)
    · replace h := wp_f h c13
      refine V_aload_n (pc := 21) C 0 dX5_row_21 rfl rfl ?_
      refine V_get (pc := 22) C 0 9 inX5 wd_598 dX5_row_22 rfl rfl (by decide) rfl rfl ?_
      refine V_iload_n (pc := 25) C 1 dX5_row_25 rfl rfl ?_
      obtain ⟨b14, h⟩ := wp_c h
      refine V_iald (pc := 26) C 7 dX5_row_26 rfl b14 ?_
      refine V_goto (pc := 27) (tgt := 31) C dX5_row_27 (by decide) ?_
      exact V_iret (pc := 31) C hQ (m_refused, m_tables_4, m_all_5, m_rowsBehind_6, m_rowsMany_7, m_forms_8, m_lesser_9, m_greater_10, m_why_11, m_checks_12) dX5_row_31 (vp_nar_int _) rfl (wp_s h)
  · replace h := wp_f h c1
    refine V_aload_n (pc := 4) C 0 dX5_row_4 rfl rfl ?_
    refine V_callVi (pc := 5) (As := []) (st := []) C (c_M_bad (wp_b h)) mk_X5_bad wd_642 dX5_row_5 0 rfl rfl rfl ⟨Nat.le_of_ble_eq_true rfl, Nat.le_of_ble_eq_true rfl⟩ (Nat.le_of_ble_eq_true rfl) rfl (fun r16 m_refused_17 hw => ?_)
    have h := hw
    try dsimp only at h
    try dsimp only
    exact V_iret (pc := 8) C hQ (m_refused_17, m_tables, m_all, m_rowsBehind, m_rowsMany, m_forms, m_lesser, m_greater, m_why, m_checks) dX5_row_8 (vp_nar_int _) rfl (wp_s h)
set_option maxRecDepth 100000 in
set_option maxHeartbeats 4000000 in
theorem c_M_areOuts {l : Launch} {D : va_G} {cI cC : ClassId} {q_m : Nat → Nat} {m_now : Nat → Int32} {m_aside : Nat → Int32} {m_past : Nat → Int32} {m_states : Int32} {m_refused : Nat → Int32} {m_text : Nat → Int32} {m_length : Int32} {m_tables : Nat → Int32} {m_all : Int32} {m_rowsBehind : Nat → Int32} {m_rowsMany : Int32} {m_forms : Nat → Int32} {m_lesser : Nat → Int32} {m_greater : Nat → Int32} {m_why : Nat → Int32} {m_checks : Int32} {m_numbers : Nat → Int32} {m_depths : Nat → Int32} {m_spot : Int32} {m_isFaulty : Int32} {m_orders : Int32} {m_letters : Nat → Int32} {m_parts : Nat → Int32} {m_hash : Int64} {a0 : Int32} {post : Int32 → Prop} (h : wpO (M_areOuts m_now a0) post) : Cn l yX5_areOuts cX5_areOuts 2 (some .boolean) 0 0 D cI cC [.ref (q_m 0), .int a0] (wM cI q_m m_now m_aside m_past m_states m_refused m_text m_length m_tables m_all m_rowsBehind m_rowsMany m_forms m_lesser m_greater m_why m_checks m_numbers m_depths m_spot m_isFaulty m_orders m_letters m_parts m_hash) (QI D cI cC (S := Unit) (fun u => (wM cI q_m m_now m_aside m_past m_states m_refused m_text m_length m_tables m_all m_rowsBehind m_rowsMany m_forms m_lesser m_greater m_why m_checks m_numbers m_depths m_spot m_isFaulty m_orders m_letters m_parts m_hash)) (fun r u => post r ∧ narrow .boolean (.int r) = .int r)) := by
  refine Cn.ofV (own := RX5) (lv0 := [(0, .ref (q_m 0)), (1, .int a0)]) rfl (by decide) (Nat.le_of_ble_eq_true rfl) rfl ?_
  intro p e s m below meth c A args Q hQ C
  unfold M_areOuts at h
  refine V_iload_n (pc := 0) C 1 dX5_areOuts_0 rfl rfl ?_
  refine V_if_lt (pc := 1) (tgt := 30) C dX5_areOuts_1 (by decide) (fun c1 => ?_) (fun c1 => ?_)
  · replace h := wp_t h c1
    refine V_iconst (pc := 30) C dX5_areOuts_30 ki_0 ?_
    exact V_iret (pc := 31) C hQ () dX5_areOuts_31 rfl rfl ⟨wp_s h, rfl⟩
  · replace h := wp_f h c1
    refine V_iload_n (pc := 4) C 1 dX5_areOuts_4 rfl rfl ?_
    refine V_aload_n (pc := 5) C 0 dX5_areOuts_5 rfl rfl ?_
    refine V_get (pc := 6) C 0 0 inX5 wd_589 dX5_areOuts_6 rfl rfl (by decide) rfl rfl ?_
    refine V_bipush (pc := 9) C dX5_areOuts_9 kb_98 ?_
    obtain ⟨b2, h⟩ := wp_c h
    refine V_iald (pc := 11) C 1 dX5_areOuts_11 rfl b2 ?_
    refine V_icmp_ge (pc := 12) (tgt := 30) C dX5_areOuts_12 (by decide) (fun c3 => ?_) (fun c3 => ?_)
    · replace h := wp_t h c3
      refine V_iconst (pc := 30) C dX5_areOuts_30 ki_0 ?_
      exact V_iret (pc := 31) C hQ () dX5_areOuts_31 rfl rfl ⟨wp_s h, rfl⟩
    · replace h := wp_f h c3
      refine V_iload_n (pc := 15) C 1 dX5_areOuts_15 rfl rfl ?_
      refine V_aload_n (pc := 16) C 0 dX5_areOuts_16 rfl rfl ?_
      refine V_get (pc := 17) C 0 0 inX5 wd_589 dX5_areOuts_17 rfl rfl (by decide) rfl rfl ?_
      refine V_bipush (pc := 20) C dX5_areOuts_20 kb_99 ?_
      obtain ⟨b4, h⟩ := wp_c h
      refine V_iald (pc := 22) C 1 dX5_areOuts_22 rfl b4 ?_
      refine V_icmp_ge (pc := 23) (tgt := 30) C dX5_areOuts_23 (by decide) (fun c5 => ?_) (fun c5 => ?_)
      · replace h := wp_t h c5
        refine V_iconst (pc := 30) C dX5_areOuts_30 ki_0 ?_
        exact V_iret (pc := 31) C hQ () dX5_areOuts_31 rfl rfl ⟨wp_s h, rfl⟩
      · replace h := wp_f h c5
        refine V_iconst (pc := 26) C dX5_areOuts_26 ki_1 ?_
        refine V_goto (pc := 27) (tgt := 31) C dX5_areOuts_27 (by decide) ?_
        exact V_iret (pc := 31) C hQ () dX5_areOuts_31 rfl rfl ⟨wp_s h, rfl⟩
set_option maxRecDepth 100000 in
set_option maxHeartbeats 4000000 in
theorem c_M_areAlike {l : Launch} {D : va_G} {cI cC : ClassId} {q_m : Nat → Nat} {m_now : Nat → Int32} {m_aside : Nat → Int32} {m_past : Nat → Int32} {m_states : Int32} {m_refused : Nat → Int32} {m_text : Nat → Int32} {m_length : Int32} {m_tables : Nat → Int32} {m_all : Int32} {m_rowsBehind : Nat → Int32} {m_rowsMany : Int32} {m_forms : Nat → Int32} {m_lesser : Nat → Int32} {m_greater : Nat → Int32} {m_why : Nat → Int32} {m_checks : Int32} {m_numbers : Nat → Int32} {m_depths : Nat → Int32} {m_spot : Int32} {m_isFaulty : Int32} {m_orders : Int32} {m_letters : Nat → Int32} {m_parts : Nat → Int32} {m_hash : Int64} {a0 : Int32} {post : Int32 → Prop} (h : wpO (M_areAlike m_now m_forms a0) post) : Cn l yX5_areAlike cX5_areAlike 2 (some .boolean) 2 42 D cI cC [.ref (q_m 0), .int a0] (wM cI q_m m_now m_aside m_past m_states m_refused m_text m_length m_tables m_all m_rowsBehind m_rowsMany m_forms m_lesser m_greater m_why m_checks m_numbers m_depths m_spot m_isFaulty m_orders m_letters m_parts m_hash) (QI D cI cC (S := Unit) (fun u => (wM cI q_m m_now m_aside m_past m_states m_refused m_text m_length m_tables m_all m_rowsBehind m_rowsMany m_forms m_lesser m_greater m_why m_checks m_numbers m_depths m_spot m_isFaulty m_orders m_letters m_parts m_hash)) (fun r u => post r ∧ narrow .boolean (.int r) = .int r)) := by
  refine Cn.ofV (own := RX5) (lv0 := [(0, .ref (q_m 0)), (1, .int a0)]) rfl (by decide) (Nat.le_of_ble_eq_true rfl) rfl ?_
  intro p e s m below meth c A args Q hQ C
  unfold M_areAlike at h
  refine V_aload_n (pc := 0) C 0 dX5_areAlike_0 rfl rfl ?_
  refine V_aload_n (pc := 1) C 0 dX5_areAlike_1 rfl rfl ?_
  refine V_get (pc := 2) C 0 0 inX5 wd_589 dX5_areAlike_2 rfl rfl (by decide) rfl rfl ?_
  refine V_bipush (pc := 5) C dX5_areAlike_5 kb_100 ?_
  refine V_iload_n (pc := 7) C 1 dX5_areAlike_7 rfl rfl ?_
  refine V_iadd (pc := 8) C dX5_areAlike_8 ?_
  obtain ⟨b1, h⟩ := wp_c h
  refine V_iald (pc := 9) C 1 dX5_areAlike_9 rfl b1 ?_
  refine V_callVi (pc := 10) (As := [.int (m_now (Int32.toNatClampNeg ((100 : Int32) + a0)))]) (st := []) C (c_M_formOf (wp_b h)) mk_X5_formOf wd_720 dX5_areAlike_10 0 rfl rfl rfl ⟨Nat.le_of_ble_eq_true rfl, Nat.le_of_ble_eq_true rfl⟩ (Nat.le_of_ble_eq_true rfl) rfl (fun r3 u hw => ?_)
  have h := hw
  try dsimp only at h
  try dsimp only
  refine V_aload_n (pc := 13) C 0 dX5_areAlike_13 rfl rfl ?_
  refine V_aload_n (pc := 14) C 0 dX5_areAlike_14 rfl rfl ?_
  refine V_get (pc := 15) C 0 0 inX5 wd_589 dX5_areAlike_15 rfl rfl (by decide) rfl rfl ?_
  refine V_bipush (pc := 18) C dX5_areAlike_18 kb_106 ?_
  refine V_iload_n (pc := 20) C 1 dX5_areAlike_20 rfl rfl ?_
  refine V_iadd (pc := 21) C dX5_areAlike_21 ?_
  obtain ⟨b4, h⟩ := wp_c h
  refine V_iald (pc := 22) C 1 dX5_areAlike_22 rfl b4 ?_
  refine V_callVi (pc := 23) (As := [.int (m_now (Int32.toNatClampNeg ((106 : Int32) + a0)))]) (st := [.int r3]) C (c_M_formOf (wp_b h)) mk_X5_formOf wd_720 dX5_areAlike_23 0 rfl rfl rfl ⟨Nat.le_of_ble_eq_true rfl, Nat.le_of_ble_eq_true rfl⟩ (Nat.le_of_ble_eq_true rfl) rfl (fun r6 u hw => ?_)
  have h := hw
  try dsimp only at h
  try dsimp only
  refine V_icmp_ne (pc := 26) (tgt := 33) C dX5_areAlike_26 (by decide) (fun c7 => ?_) (fun c7 => ?_)
  · replace h := wp_f h c7
    refine V_iconst (pc := 33) C dX5_areAlike_33 ki_0 ?_
    exact V_iret (pc := 34) C hQ () dX5_areAlike_34 rfl rfl ⟨wp_s h, rfl⟩
  · replace h := wp_t h c7
    refine V_iconst (pc := 29) C dX5_areAlike_29 ki_1 ?_
    refine V_goto (pc := 30) (tgt := 34) C dX5_areAlike_30 (by decide) ?_
    exact V_iret (pc := 34) C hQ () dX5_areAlike_34 rfl rfl ⟨wp_s h, rfl⟩
set_option maxRecDepth 100000 in
set_option maxHeartbeats 4000000 in
theorem c_M_alike {l : Launch} {D : va_G} {cI cC : ClassId} {q_m : Nat → Nat} {m_now : Nat → Int32} {m_aside : Nat → Int32} {m_past : Nat → Int32} {m_states : Int32} {m_refused : Nat → Int32} {m_text : Nat → Int32} {m_length : Int32} {m_tables : Nat → Int32} {m_all : Int32} {m_rowsBehind : Nat → Int32} {m_rowsMany : Int32} {m_forms : Nat → Int32} {m_lesser : Nat → Int32} {m_greater : Nat → Int32} {m_why : Nat → Int32} {m_checks : Int32} {m_numbers : Nat → Int32} {m_depths : Nat → Int32} {m_spot : Int32} {m_isFaulty : Int32} {m_orders : Int32} {m_letters : Nat → Int32} {m_parts : Nat → Int32} {m_hash : Int64} {a0 : Int32} {post : Int32 × (Nat → Int32) × (Nat → Int32) × Int32 × (Nat → Int32) × Int32 × (Nat → Int32) × (Nat → Int32) × (Nat → Int32) × (Nat → Int32) × Int32 → Prop} (h : wpO (M_alike m_now m_refused m_tables m_all m_rowsBehind m_rowsMany m_forms m_lesser m_greater m_why m_checks a0) post) : Cn l yX5_alike cX5_alike 2 (some .int) 5 118 D cI cC [.ref (q_m 0), .int a0] (wM cI q_m m_now m_aside m_past m_states m_refused m_text m_length m_tables m_all m_rowsBehind m_rowsMany m_forms m_lesser m_greater m_why m_checks m_numbers m_depths m_spot m_isFaulty m_orders m_letters m_parts m_hash) (QI D cI cC (S := (Nat → Int32) × (Nat → Int32) × Int32 × (Nat → Int32) × Int32 × (Nat → Int32) × (Nat → Int32) × (Nat → Int32) × (Nat → Int32) × Int32) (fun u => (wM cI q_m m_now m_aside m_past m_states u.1 m_text m_length u.2.1 u.2.2.1 u.2.2.2.1 u.2.2.2.2.1 u.2.2.2.2.2.1 u.2.2.2.2.2.2.1 u.2.2.2.2.2.2.2.1 u.2.2.2.2.2.2.2.2.1 u.2.2.2.2.2.2.2.2.2 m_numbers m_depths m_spot m_isFaulty m_orders m_letters m_parts m_hash)) (fun r u => post (r, u))) := by
  refine Cn.ofV (own := RX5) (lv0 := [(0, .ref (q_m 0)), (1, .int a0)]) rfl (by decide) (Nat.le_of_ble_eq_true rfl) rfl ?_
  intro p e s m below meth c A args Q hQ C
  unfold M_alike at h
  refine V_aload_n (pc := 0) C 0 dX5_alike_0 rfl rfl ?_
  refine V_iload_n (pc := 1) C 1 dX5_alike_1 rfl rfl ?_
  refine V_callVi (pc := 2) (As := [.int a0]) (st := []) C (c_M_areOuts (wp_b h)) mk_X5_areOuts wd_829 dX5_alike_2 0 rfl rfl rfl ⟨Nat.le_of_ble_eq_true rfl, Nat.le_of_ble_eq_true rfl⟩ (Nat.le_of_ble_eq_true rfl) rfl (fun r2 u hw => ?_)
  obtain ⟨h, z3⟩ := hw
  try dsimp only at h
  try dsimp only
  refine V_if_ne (pc := 5) (tgt := 13) C dX5_alike_5 (by decide) (fun c4 => ?_) (fun c4 => ?_)
  · replace h := wp_f h c4
    refine V_aload_n (pc := 13) C 0 dX5_alike_13 rfl rfl ?_
    refine V_callVv (pc := 14) (As := []) (st := []) C (c_M_sweeps (wp_b h)) mk_X5_sweeps wd_705 dX5_alike_14 0 rfl rfl rfl ⟨Nat.le_of_ble_eq_true rfl, Nat.le_of_ble_eq_true rfl⟩ (Nat.le_of_ble_eq_true rfl) rfl (fun u hw => ?_)
    obtain ⟨m_tables_7, m_all_8, m_rowsBehind_9, m_rowsMany_10, m_forms_11, m_lesser_12, m_greater_13, m_why_14, m_checks_15⟩ := u
    have h := hw
    try dsimp only at h
    try dsimp only
    refine V_aload_n (pc := 17) C 0 dX5_alike_17 rfl rfl ?_
    refine V_iload_n (pc := 18) C 1 dX5_alike_18 rfl rfl ?_
    refine V_callVi (pc := 19) (As := [.int a0]) (st := []) C (c_M_areAlike (wp_b h)) mk_X5_areAlike wd_832 dX5_alike_19 0 rfl rfl rfl ⟨Nat.le_of_ble_eq_true rfl, Nat.le_of_ble_eq_true rfl⟩ (Nat.le_of_ble_eq_true rfl) rfl (fun r17 u hw => ?_)
    obtain ⟨h, z18⟩ := hw
    try dsimp only at h
    try dsimp only
    refine V_if_eq (pc := 22) (tgt := 29) C dX5_alike_22 (by decide) (fun c19 => ?_) (fun c19 => ?_)
    · replace h := wp_t h c19
      refine V_iconst (pc := 29) C dX5_alike_29 ki_0 ?_
      exact V_iret (pc := 30) C hQ (m_refused, m_tables_7, m_all_8, m_rowsBehind_9, m_rowsMany_10, m_forms_11, m_lesser_12, m_greater_13, m_why_14, m_checks_15) dX5_alike_30 (vp_nar_int _) rfl (wp_s h)
    · replace h := wp_f h c19
      refine V_iconst (pc := 25) C dX5_alike_25 ki_1 ?_
      refine V_goto (pc := 26) (tgt := 30) C dX5_alike_26 (by decide) ?_
      exact V_iret (pc := 30) C hQ (m_refused, m_tables_7, m_all_8, m_rowsBehind_9, m_rowsMany_10, m_forms_11, m_lesser_12, m_greater_13, m_why_14, m_checks_15) dX5_alike_30 (vp_nar_int _) rfl (wp_s h)
  · replace h := wp_t h c4
    refine V_aload_n (pc := 8) C 0 dX5_alike_8 rfl rfl ?_
    refine V_callVi (pc := 9) (As := []) (st := []) C (c_M_bad (wp_b h)) mk_X5_bad wd_642 dX5_alike_9 0 rfl rfl rfl ⟨Nat.le_of_ble_eq_true rfl, Nat.le_of_ble_eq_true rfl⟩ (Nat.le_of_ble_eq_true rfl) rfl (fun r21 m_refused_22 hw => ?_)
    have h := hw
    try dsimp only at h
    try dsimp only
    exact V_iret (pc := 12) C hQ (m_refused_22, m_tables, m_all, m_rowsBehind, m_rowsMany, m_forms, m_lesser, m_greater, m_why, m_checks) dX5_alike_12 (vp_nar_int _) rfl (wp_s h)
set_option maxRecDepth 100000 in
set_option maxHeartbeats 4000000 in
theorem c_M_witness {l : Launch} {D : va_G} {cI cC : ClassId} {q_m : Nat → Nat} {m_now : Nat → Int32} {m_aside : Nat → Int32} {m_past : Nat → Int32} {m_states : Int32} {m_refused : Nat → Int32} {m_text : Nat → Int32} {m_length : Int32} {m_tables : Nat → Int32} {m_all : Int32} {m_rowsBehind : Nat → Int32} {m_rowsMany : Int32} {m_forms : Nat → Int32} {m_lesser : Nat → Int32} {m_greater : Nat → Int32} {m_why : Nat → Int32} {m_checks : Int32} {m_numbers : Nat → Int32} {m_depths : Nat → Int32} {m_spot : Int32} {m_isFaulty : Int32} {m_orders : Int32} {m_letters : Nat → Int32} {m_parts : Nat → Int32} {m_hash : Int64} {a0 : Int32} {post : Int32 × (Nat → Int32) × (Nat → Int32) × Int32 → Prop} (h : wpO (M_witness m_now m_refused m_tables m_all a0) post) : Cn l yX5_witness cX5_witness 4 (some .int) 2 43 D cI cC [.ref (q_m 0), .int a0] (wM cI q_m m_now m_aside m_past m_states m_refused m_text m_length m_tables m_all m_rowsBehind m_rowsMany m_forms m_lesser m_greater m_why m_checks m_numbers m_depths m_spot m_isFaulty m_orders m_letters m_parts m_hash) (QI D cI cC (S := (Nat → Int32) × (Nat → Int32) × Int32) (fun u => (wM cI q_m m_now m_aside m_past m_states u.1 m_text m_length u.2.1 u.2.2 m_rowsBehind m_rowsMany m_forms m_lesser m_greater m_why m_checks m_numbers m_depths m_spot m_isFaulty m_orders m_letters m_parts m_hash)) (fun r u => post (r, u))) := by
  refine Cn.ofV (own := RX5) (lv0 := [(0, .ref (q_m 0)), (1, .int a0)]) rfl (by decide) (Nat.le_of_ble_eq_true rfl) rfl ?_
  intro p e s m below meth c A args Q hQ C
  have hL_47 : ∀ (K : Option (Int32 × (Nat → Int32) × (Nat → Int32) × Int32)) (m_refused : Nat → Int32) (m_tables : Nat → Int32) (m_all : Int32) (l2 : Int32), (wpO (K) post → V p l e (rmC 2 43) s m args below meth c D A 4 0 0 Q (wM cI q_m m_now m_aside m_past m_states m_refused m_text m_length m_tables m_all m_rowsBehind m_rowsMany m_forms m_lesser m_greater m_why m_checks m_numbers m_depths m_spot m_isFaulty m_orders m_letters m_parts m_hash) [] 72 []) → ∀ (n : Nat) (l3 : Int32), wpO (M_witness_47 K m_now m_refused m_tables m_all l2 n l3) post → V p l e (rmC 2 43) s m args below meth c D A 4 0 0 Q (wM cI q_m m_now m_aside m_past m_states m_refused m_text m_length m_tables m_all m_rowsBehind m_rowsMany m_forms m_lesser m_greater m_why m_checks m_numbers m_depths m_spot m_isFaulty m_orders m_letters m_parts m_hash) [(0, .ref (q_m 0)), (2, .int l2), (3, .int l3)] 47 [] := by
    intro K m_refused m_tables m_all l2 hK n
    induction n with
    | zero => intro l3 h; rw [M_witness_47] at h; exact (wp_n h).elim
    | succ n ih =>
      intro l3 h
      rw [M_witness_47] at h
      refine V_iload_n (pc := 47) C 2 dX5_witness_47 rfl rfl ?_
      refine V_aload_n (pc := 48) C 0 dX5_witness_48 rfl rfl ?_
      refine V_callVi (pc := 49) (As := []) (st := [.int l3]) C (c_M_rows (wp_b h)) mk_X5_rows wd_695 dX5_witness_49 0 rfl rfl rfl ⟨Nat.le_of_ble_eq_true rfl, Nat.le_of_ble_eq_true rfl⟩ (Nat.le_of_ble_eq_true rfl) rfl (fun r2 u hw => ?_)
      have h := hw
      try dsimp only at h
      try dsimp only
      refine V_icmp_ge (pc := 52) (tgt := 72) C dX5_witness_52 (by decide) (fun c3 => ?_) (fun c3 => ?_)
      · replace h := wp_t h c3
        refine V_lv (pc := 72) [] rfl ?_
        exact hK h
      · replace h := wp_f h c3
        refine V_iload_n (pc := 55) C 1 dX5_witness_55 rfl rfl ?_
        refine V_iload_n (pc := 56) C 2 dX5_witness_56 rfl rfl ?_
        refine V_ishr (pc := 57) C dX5_witness_57 ?_
        refine V_iconst (pc := 58) C dX5_witness_58 ki_1 ?_
        refine V_iand (pc := 59) C dX5_witness_59 ?_
        refine V_iconst (pc := 60) C dX5_witness_60 ki_1 ?_
        refine V_icmp_ne (pc := 61) (tgt := 66) C dX5_witness_61 (by decide) (fun c4 => ?_) (fun c4 => ?_)
        · replace h := wp_f h c4
          obtain ⟨v5, ev5, h⟩ := wp_l h
          refine V_iinc (pc := 66) (v := v5) (lv' := [(0, .ref (q_m 0)), (2, .int l2), (3, .int v5)]) (j := 2) C dX5_witness_66 rfl (by rw [ev5]; rfl) [1, 2, 0] (by decide) rfl ?_
          refine V_goto (pc := 69) (tgt := 47) C dX5_witness_69 (by decide) ?_
          exact ih _ h
        · replace h := wp_t h c4
          refine V_iload_n (pc := 64) C 2 dX5_witness_64 rfl rfl ?_
          exact V_iret (pc := 65) C hQ (m_refused, m_tables, m_all) dX5_witness_65 (vp_nar_int _) rfl (wp_s h)
  unfold M_witness at h
  refine V_aload_n (pc := 0) C 0 dX5_witness_0 rfl rfl ?_
  refine V_iload_n (pc := 1) C 1 dX5_witness_1 rfl rfl ?_
  refine V_callVi (pc := 2) (As := [.int a0]) (st := []) C (c_M_areOuts (wp_b h)) mk_X5_areOuts wd_829 dX5_witness_2 0 rfl rfl rfl ⟨Nat.le_of_ble_eq_true rfl, Nat.le_of_ble_eq_true rfl⟩ (Nat.le_of_ble_eq_true rfl) rfl (fun r7 u hw => ?_)
  obtain ⟨h, z8⟩ := hw
  try dsimp only at h
  try dsimp only
  refine V_if_ne (pc := 5) (tgt := 13) C dX5_witness_5 (by decide) (fun c9 => ?_) (fun c9 => ?_)
  · replace h := wp_f h c9
    refine V_aload_n (pc := 13) C 0 dX5_witness_13 rfl rfl ?_
    refine V_callVv (pc := 14) (As := []) (st := []) C (c_M_laysTables (wp_b h)) mk_X5_laysTables wd_708 dX5_witness_14 0 rfl rfl rfl ⟨Nat.le_of_ble_eq_true rfl, Nat.le_of_ble_eq_true rfl⟩ (Nat.le_of_ble_eq_true rfl) rfl (fun u hw => ?_)
    obtain ⟨m_tables_12, m_all_13⟩ := u
    have h := hw
    try dsimp only at h
    try dsimp only
    refine V_aload_n (pc := 17) C 0 dX5_witness_17 rfl rfl ?_
    refine V_aload_n (pc := 18) C 0 dX5_witness_18 rfl rfl ?_
    refine V_get (pc := 19) C 0 0 inX5 wd_589 dX5_witness_19 rfl rfl (by decide) rfl rfl ?_
    refine V_bipush (pc := 22) C dX5_witness_22 kb_100 ?_
    refine V_iload_n (pc := 24) C 1 dX5_witness_24 rfl rfl ?_
    refine V_iadd (pc := 25) C dX5_witness_25 ?_
    obtain ⟨b14, h⟩ := wp_c h
    refine V_iald (pc := 26) C 1 dX5_witness_26 rfl b14 ?_
    refine V_callVi (pc := 27) (As := [.int (m_now (Int32.toNatClampNeg ((100 : Int32) + a0)))]) (st := []) C (c_M_tableOf (wp_b h)) mk_X5_tableOf wd_711 dX5_witness_27 0 rfl rfl rfl ⟨Nat.le_of_ble_eq_true rfl, Nat.le_of_ble_eq_true rfl⟩ (Nat.le_of_ble_eq_true rfl) rfl (fun r16 u hw => ?_)
    have h := hw
    try dsimp only at h
    try dsimp only
    refine V_aload_n (pc := 30) C 0 dX5_witness_30 rfl rfl ?_
    refine V_aload_n (pc := 31) C 0 dX5_witness_31 rfl rfl ?_
    refine V_get (pc := 32) C 0 0 inX5 wd_589 dX5_witness_32 rfl rfl (by decide) rfl rfl ?_
    refine V_bipush (pc := 35) C dX5_witness_35 kb_106 ?_
    refine V_iload_n (pc := 37) C 1 dX5_witness_37 rfl rfl ?_
    refine V_iadd (pc := 38) C dX5_witness_38 ?_
    obtain ⟨b17, h⟩ := wp_c h
    refine V_iald (pc := 39) C 1 dX5_witness_39 rfl b17 ?_
    refine V_callVi (pc := 40) (As := [.int (m_now (Int32.toNatClampNeg ((106 : Int32) + a0)))]) (st := [.int r16]) C (c_M_tableOf (wp_b h)) mk_X5_tableOf wd_711 dX5_witness_40 0 rfl rfl rfl ⟨Nat.le_of_ble_eq_true rfl, Nat.le_of_ble_eq_true rfl⟩ (Nat.le_of_ble_eq_true rfl) rfl (fun r19 u hw => ?_)
    have h := hw
    try dsimp only at h
    try dsimp only
    refine V_ixor (pc := 43) C dX5_witness_43 ?_
    obtain ⟨v20, ev20, h⟩ := wp_l h
    refine V_topi (pc := 44) ev20 ?_
    refine V_istore_n (pc := 44) (lv' := [(0, .ref (q_m 0)), (1, .int a0), (2, .int v20)]) C dX5_witness_44 rfl [1, 2, 0] (by decide) rfl ?_
    refine V_iconst (pc := 45) C dX5_witness_45 ki_0 ?_
    refine V_istore_n (pc := 46) (lv' := [(0, .ref (q_m 0)), (1, .int a0), (2, .int v20), (3, .int 0)]) C dX5_witness_46 rfl [1, 2, 3, 0] (by decide) rfl ?_
    refine V_lv (pc := 47) [0, 2, 3] rfl ?_
    refine hL_47 _ _ _ _ _ (fun h => ?_) 1000 _ h
    try dsimp only at h
    refine V_iconst (pc := 72) C dX5_witness_72 ki_m1 ?_
    exact V_iret (pc := 73) C hQ (m_refused, m_tables_12, m_all_13) dX5_witness_73 (vp_nar_int _) rfl (wp_s h)
  · replace h := wp_t h c9
    refine V_aload_n (pc := 8) C 0 dX5_witness_8 rfl rfl ?_
    refine V_callVi (pc := 9) (As := []) (st := []) C (c_M_bad (wp_b h)) mk_X5_bad wd_642 dX5_witness_9 0 rfl rfl rfl ⟨Nat.le_of_ble_eq_true rfl, Nat.le_of_ble_eq_true rfl⟩ (Nat.le_of_ble_eq_true rfl) rfl (fun r22 m_refused_23 hw => ?_)
    have h := hw
    try dsimp only at h
    try dsimp only
    exact V_iret (pc := 12) C hQ (m_refused_23, m_tables, m_all) dX5_witness_12 (vp_nar_int _) rfl (wp_s h)
set_option maxRecDepth 100000 in
set_option maxHeartbeats 4000000 in
theorem c_M_verdictNow {l : Launch} {D : va_G} {cI cC : ClassId} {q_m : Nat → Nat} {m_now : Nat → Int32} {m_aside : Nat → Int32} {m_past : Nat → Int32} {m_states : Int32} {m_refused : Nat → Int32} {m_text : Nat → Int32} {m_length : Int32} {m_tables : Nat → Int32} {m_all : Int32} {m_rowsBehind : Nat → Int32} {m_rowsMany : Int32} {m_forms : Nat → Int32} {m_lesser : Nat → Int32} {m_greater : Nat → Int32} {m_why : Nat → Int32} {m_checks : Int32} {m_numbers : Nat → Int32} {m_depths : Nat → Int32} {m_spot : Int32} {m_isFaulty : Int32} {m_orders : Int32} {m_letters : Nat → Int32} {m_parts : Nat → Int32} {m_hash : Int64} {post : Int32 → Prop} (h : wpO (M_verdictNow m_now m_forms) post) : Cn l yX5_verdictNow cX5_verdictNow 3 (some .int) 3 63 D cI cC [.ref (q_m 0)] (wM cI q_m m_now m_aside m_past m_states m_refused m_text m_length m_tables m_all m_rowsBehind m_rowsMany m_forms m_lesser m_greater m_why m_checks m_numbers m_depths m_spot m_isFaulty m_orders m_letters m_parts m_hash) (QI D cI cC (S := Unit) (fun u => (wM cI q_m m_now m_aside m_past m_states m_refused m_text m_length m_tables m_all m_rowsBehind m_rowsMany m_forms m_lesser m_greater m_why m_checks m_numbers m_depths m_spot m_isFaulty m_orders m_letters m_parts m_hash)) (fun r u => post r)) := by
  refine Cn.ofV (own := RX5) (lv0 := [(0, .ref (q_m 0))]) rfl (by decide) (Nat.le_of_ble_eq_true rfl) rfl ?_
  intro p e s m below meth c A args Q hQ C
  have hL_4 : ∀ (K : Int32 → Option (Int32)), (∀ (l1 : Int32), wpO (K l1) post → V p l e (rmC 3 63) s m args below meth c D A 3 0 0 Q (wM cI q_m m_now m_aside m_past m_states m_refused m_text m_length m_tables m_all m_rowsBehind m_rowsMany m_forms m_lesser m_greater m_why m_checks m_numbers m_depths m_spot m_isFaulty m_orders m_letters m_parts m_hash) [(0, .ref (q_m 0)), (1, .int l1)] 36 []) → ∀ (n : Nat) (l1 : Int32) (l2 : Int32), wpO (M_verdictNow_4 K m_now m_forms n l1 l2) post → V p l e (rmC 3 63) s m args below meth c D A 3 0 0 Q (wM cI q_m m_now m_aside m_past m_states m_refused m_text m_length m_tables m_all m_rowsBehind m_rowsMany m_forms m_lesser m_greater m_why m_checks m_numbers m_depths m_spot m_isFaulty m_orders m_letters m_parts m_hash) [(0, .ref (q_m 0)), (1, .int l1), (2, .int l2)] 4 [] := by
    intro K   hK n
    induction n with
    | zero => intro l1 l2 h; rw [M_verdictNow_4] at h; exact (wp_n h).elim
    | succ n ih =>
      intro l1 l2 h
      rw [M_verdictNow_4] at h
      refine V_aload_n (pc := 4) C 0 dX5_verdictNow_4 rfl rfl ?_
      refine V_iload_n (pc := 5) C 2 dX5_verdictNow_5 rfl rfl ?_
      refine V_callVi (pc := 6) (As := [.int l2]) (st := []) C (c_M_areOuts (wp_b h)) mk_X5_areOuts wd_829 dX5_verdictNow_6 0 rfl rfl rfl ⟨Nat.le_of_ble_eq_true rfl, Nat.le_of_ble_eq_true rfl⟩ (Nat.le_of_ble_eq_true rfl) rfl (fun r2 u hw => ?_)
      obtain ⟨h, z3⟩ := hw
      try dsimp only at h
      try dsimp only
      refine V_if_eq (pc := 9) (tgt := 36) C dX5_verdictNow_9 (by decide) (fun c4 => ?_) (fun c4 => ?_)
      · replace h := wp_t h c4
        refine V_lv (pc := 36) [0, 1] rfl ?_
        exact hK _ h
      · replace h := wp_f h c4
        refine V_iload_n (pc := 12) C 1 dX5_verdictNow_12 rfl rfl ?_
        refine V_if_eq (pc := 13) (tgt := 28) C dX5_verdictNow_13 (by decide) (fun c5 => ?_) (fun c5 => ?_)
        · replace h := wp_t h c5
          refine V_iconst (pc := 28) C dX5_verdictNow_28 ki_0 ?_
          refine V_istore_n (pc := 29) (lv' := [(0, .ref (q_m 0)), (1, .int 0), (2, .int l2)]) C dX5_verdictNow_29 rfl [1, 0, 2] (by decide) rfl ?_
          obtain ⟨v6, ev6, h⟩ := wp_l h
          refine V_iinc (pc := 30) (v := v6) (lv' := [(0, .ref (q_m 0)), (1, .int 0), (2, .int v6)]) (j := 2) C dX5_verdictNow_30 rfl (by rw [ev6]; rfl) [1, 2, 0] (by decide) rfl ?_
          refine V_goto (pc := 33) (tgt := 4) C dX5_verdictNow_33 (by decide) ?_
          exact ih _ _ h
        · replace h := wp_f h c5
          refine V_aload_n (pc := 16) C 0 dX5_verdictNow_16 rfl rfl ?_
          refine V_iload_n (pc := 17) C 2 dX5_verdictNow_17 rfl rfl ?_
          refine V_callVi (pc := 18) (As := [.int l2]) (st := []) C (c_M_areAlike (wp_b h)) mk_X5_areAlike wd_832 dX5_verdictNow_18 0 rfl rfl rfl ⟨Nat.le_of_ble_eq_true rfl, Nat.le_of_ble_eq_true rfl⟩ (Nat.le_of_ble_eq_true rfl) rfl (fun r8 u hw => ?_)
          obtain ⟨h, z9⟩ := hw
          try dsimp only at h
          try dsimp only
          refine V_if_eq (pc := 21) (tgt := 28) C dX5_verdictNow_21 (by decide) (fun c10 => ?_) (fun c10 => ?_)
          · replace h := wp_t h c10
            refine V_iconst (pc := 28) C dX5_verdictNow_28 ki_0 ?_
            refine V_istore_n (pc := 29) (lv' := [(0, .ref (q_m 0)), (1, .int 0), (2, .int l2)]) C dX5_verdictNow_29 rfl [1, 0, 2] (by decide) rfl ?_
            obtain ⟨v11, ev11, h⟩ := wp_l h
            refine V_iinc (pc := 30) (v := v11) (lv' := [(0, .ref (q_m 0)), (1, .int 0), (2, .int v11)]) (j := 2) C dX5_verdictNow_30 rfl (by rw [ev11]; rfl) [1, 2, 0] (by decide) rfl ?_
            refine V_goto (pc := 33) (tgt := 4) C dX5_verdictNow_33 (by decide) ?_
            exact ih _ _ h
          · replace h := wp_f h c10
            refine V_iconst (pc := 24) C dX5_verdictNow_24 ki_1 ?_
            refine V_goto (pc := 25) (tgt := 29) C dX5_verdictNow_25 (by decide) ?_
            refine V_istore_n (pc := 29) (lv' := [(0, .ref (q_m 0)), (1, .int 1), (2, .int l2)]) C dX5_verdictNow_29 rfl [1, 0, 2] (by decide) rfl ?_
            obtain ⟨v12, ev12, h⟩ := wp_l h
            refine V_iinc (pc := 30) (v := v12) (lv' := [(0, .ref (q_m 0)), (1, .int 1), (2, .int v12)]) (j := 2) C dX5_verdictNow_30 rfl (by rw [ev12]; rfl) [1, 2, 0] (by decide) rfl ?_
            refine V_goto (pc := 33) (tgt := 4) C dX5_verdictNow_33 (by decide) ?_
            exact ih _ _ h
  unfold M_verdictNow at h
  refine V_iconst (pc := 0) C dX5_verdictNow_0 ki_1 ?_
  refine V_istore_n (pc := 1) (lv' := [(0, .ref (q_m 0)), (1, .int 1)]) C dX5_verdictNow_1 rfl [1, 0] (by decide) rfl ?_
  refine V_iconst (pc := 2) C dX5_verdictNow_2 ki_0 ?_
  refine V_istore_n (pc := 3) (lv' := [(0, .ref (q_m 0)), (1, .int 1), (2, .int 0)]) C dX5_verdictNow_3 rfl [1, 2, 0] (by decide) rfl ?_
  refine hL_4 _ (fun l1_13 h => ?_) 1000 _ _ h
  try dsimp only at h
  refine V_aload_n (pc := 36) C 0 dX5_verdictNow_36 rfl rfl ?_
  refine V_get (pc := 37) C 0 0 inX5 wd_589 dX5_verdictNow_37 rfl rfl (by decide) rfl rfl ?_
  refine V_bipush (pc := 40) C dX5_verdictNow_40 kb_98 ?_
  obtain ⟨b14, h⟩ := wp_c h
  refine V_iald (pc := 42) C 1 dX5_verdictNow_42 rfl b14 ?_
  refine V_aload_n (pc := 43) C 0 dX5_verdictNow_43 rfl rfl ?_
  refine V_get (pc := 44) C 0 0 inX5 wd_589 dX5_verdictNow_44 rfl rfl (by decide) rfl rfl ?_
  refine V_bipush (pc := 47) C dX5_verdictNow_47 kb_99 ?_
  obtain ⟨b15, h⟩ := wp_c h
  refine V_iald (pc := 49) C 1 dX5_verdictNow_49 rfl b15 ?_
  refine V_icmp_eq (pc := 50) (tgt := 57) C dX5_verdictNow_50 (by decide) (fun c16 => ?_) (fun c16 => ?_)
  · replace h := wp_t h c16
    refine V_iload_n (pc := 57) C 1 dX5_verdictNow_57 rfl rfl ?_
    refine V_if_eq (pc := 58) (tgt := 65) C dX5_verdictNow_58 (by decide) (fun c17 => ?_) (fun c17 => ?_)
    · replace h := wp_t h c17
      refine V_iconst (pc := 65) C dX5_verdictNow_65 ki_0 ?_
      exact V_iret (pc := 66) C hQ () dX5_verdictNow_66 (vp_nar_int _) rfl (wp_s h)
    · replace h := wp_f h c17
      refine V_iconst (pc := 61) C dX5_verdictNow_61 ki_1 ?_
      refine V_goto (pc := 62) (tgt := 66) C dX5_verdictNow_62 (by decide) ?_
      exact V_iret (pc := 66) C hQ () dX5_verdictNow_66 (vp_nar_int _) rfl (wp_s h)
  · replace h := wp_f h c16
    refine V_iconst (pc := 53) C dX5_verdictNow_53 ki_m1 ?_
    refine V_goto (pc := 54) (tgt := 66) C dX5_verdictNow_54 (by decide) ?_
    exact V_iret (pc := 66) C hQ () dX5_verdictNow_66 (vp_nar_int _) rfl (wp_s h)
set_option maxRecDepth 100000 in
set_option maxHeartbeats 4000000 in
theorem c_M_verdict {l : Launch} {D : va_G} {cI cC : ClassId} {q_m : Nat → Nat} {m_now : Nat → Int32} {m_aside : Nat → Int32} {m_past : Nat → Int32} {m_states : Int32} {m_refused : Nat → Int32} {m_text : Nat → Int32} {m_length : Int32} {m_tables : Nat → Int32} {m_all : Int32} {m_rowsBehind : Nat → Int32} {m_rowsMany : Int32} {m_forms : Nat → Int32} {m_lesser : Nat → Int32} {m_greater : Nat → Int32} {m_why : Nat → Int32} {m_checks : Int32} {m_numbers : Nat → Int32} {m_depths : Nat → Int32} {m_spot : Int32} {m_isFaulty : Int32} {m_orders : Int32} {m_letters : Nat → Int32} {m_parts : Nat → Int32} {m_hash : Int64} {post : Int32 × (Nat → Int32) × Int32 × (Nat → Int32) × Int32 × (Nat → Int32) × (Nat → Int32) × (Nat → Int32) × (Nat → Int32) × Int32 → Prop} (h : wpO (M_verdict m_now m_tables m_all m_rowsBehind m_rowsMany m_forms m_lesser m_greater m_why m_checks) post) : Cn l yX5_verdict cX5_verdict 1 (some .int) 5 118 D cI cC [.ref (q_m 0)] (wM cI q_m m_now m_aside m_past m_states m_refused m_text m_length m_tables m_all m_rowsBehind m_rowsMany m_forms m_lesser m_greater m_why m_checks m_numbers m_depths m_spot m_isFaulty m_orders m_letters m_parts m_hash) (QI D cI cC (S := (Nat → Int32) × Int32 × (Nat → Int32) × Int32 × (Nat → Int32) × (Nat → Int32) × (Nat → Int32) × (Nat → Int32) × Int32) (fun u => (wM cI q_m m_now m_aside m_past m_states m_refused m_text m_length u.1 u.2.1 u.2.2.1 u.2.2.2.1 u.2.2.2.2.1 u.2.2.2.2.2.1 u.2.2.2.2.2.2.1 u.2.2.2.2.2.2.2.1 u.2.2.2.2.2.2.2.2 m_numbers m_depths m_spot m_isFaulty m_orders m_letters m_parts m_hash)) (fun r u => post (r, u))) := by
  refine Cn.ofV (own := RX5) (lv0 := [(0, .ref (q_m 0))]) rfl (by decide) (Nat.le_of_ble_eq_true rfl) rfl ?_
  intro p e s m below meth c A args Q hQ C
  unfold M_verdict at h
  refine V_aload_n (pc := 0) C 0 dX5_verdict_0 rfl rfl ?_
  refine V_callVv (pc := 1) (As := []) (st := []) C (c_M_sweeps (wp_b h)) mk_X5_sweeps wd_705 dX5_verdict_1 0 rfl rfl rfl ⟨Nat.le_of_ble_eq_true rfl, Nat.le_of_ble_eq_true rfl⟩ (Nat.le_of_ble_eq_true rfl) rfl (fun u hw => ?_)
  obtain ⟨m_tables_3, m_all_4, m_rowsBehind_5, m_rowsMany_6, m_forms_7, m_lesser_8, m_greater_9, m_why_10, m_checks_11⟩ := u
  have h := hw
  try dsimp only at h
  try dsimp only
  refine V_aload_n (pc := 4) C 0 dX5_verdict_4 rfl rfl ?_
  refine V_callVi (pc := 5) (As := []) (st := []) C (c_M_verdictNow (wp_b h)) mk_X5_verdictNow wd_843 dX5_verdict_5 0 rfl rfl rfl ⟨Nat.le_of_ble_eq_true rfl, Nat.le_of_ble_eq_true rfl⟩ (Nat.le_of_ble_eq_true rfl) rfl (fun r13 u hw => ?_)
  have h := hw
  try dsimp only at h
  try dsimp only
  exact V_iret (pc := 8) C hQ (m_tables_3, m_all_4, m_rowsBehind_5, m_rowsMany_6, m_forms_7, m_lesser_8, m_greater_9, m_why_10, m_checks_11) dX5_verdict_8 (vp_nar_int _) rfl (wp_s h)
set_option maxRecDepth 100000 in
set_option maxHeartbeats 4000000 in
theorem c_M_type {l : Launch} {D : va_G} {cI cC : ClassId} {q_m : Nat → Nat} {m_now : Nat → Int32} {m_aside : Nat → Int32} {m_past : Nat → Int32} {m_states : Int32} {m_refused : Nat → Int32} {m_text : Nat → Int32} {m_length : Int32} {m_tables : Nat → Int32} {m_all : Int32} {m_rowsBehind : Nat → Int32} {m_rowsMany : Int32} {m_forms : Nat → Int32} {m_lesser : Nat → Int32} {m_greater : Nat → Int32} {m_why : Nat → Int32} {m_checks : Int32} {m_numbers : Nat → Int32} {m_depths : Nat → Int32} {m_spot : Int32} {m_isFaulty : Int32} {m_orders : Int32} {m_letters : Nat → Int32} {m_parts : Nat → Int32} {m_hash : Int64} {a0 : Int32} {post : Int32 × (Nat → Int32) × (Nat → Int32) × Int32 → Prop} (h : wpO (M_type m_refused m_text m_length a0) post) : Cn l yX5_type cX5_type 2 (some .int) 1 22 D cI cC [.ref (q_m 0), .int a0] (wM cI q_m m_now m_aside m_past m_states m_refused m_text m_length m_tables m_all m_rowsBehind m_rowsMany m_forms m_lesser m_greater m_why m_checks m_numbers m_depths m_spot m_isFaulty m_orders m_letters m_parts m_hash) (QI D cI cC (S := (Nat → Int32) × (Nat → Int32) × Int32) (fun u => (wM cI q_m m_now m_aside m_past m_states u.1 u.2.1 u.2.2 m_tables m_all m_rowsBehind m_rowsMany m_forms m_lesser m_greater m_why m_checks m_numbers m_depths m_spot m_isFaulty m_orders m_letters m_parts m_hash)) (fun r u => post (r, u))) := by
  refine Cn.ofV (own := RX5) (lv0 := [(0, .ref (q_m 0)), (1, .int a0)]) rfl (by decide) (Nat.le_of_ble_eq_true rfl) rfl ?_
  intro p e s m below meth c A args Q hQ C
  unfold M_type at h
  refine V_iload_n (pc := 0) C 1 dX5_type_0 rfl rfl ?_
  refine V_iconst (pc := 1) C dX5_type_1 ki_0 ?_
  refine V_bipush (pc := 2) C dX5_type_2 kb_127 ?_
  refine V_cutSi (pc := 4) (As := [.int a0, .int 0, .int 127]) (st := []) (w0 := ([] : va_W)) (wr := (wM cI q_m m_now m_aside m_past m_states m_refused m_text m_length m_tables m_all m_rowsBehind m_rowsMany m_forms m_lesser m_greater m_why m_checks m_numbers m_depths m_spot m_isFaulty m_orders m_letters m_parts m_hash)) (w2 := fun u => (wM cI q_m m_now m_aside m_past m_states m_refused m_text m_length m_tables m_all m_rowsBehind m_rowsMany m_forms m_lesser m_greater m_why m_checks m_numbers m_depths m_spot m_isFaulty m_orders m_letters m_parts m_hash)) C (c_M_within (wp_b h)) mk_X5_within wd_630 dX5_type_4 rfl rfl ⟨Nat.le_of_ble_eq_true rfl, Nat.le_of_ble_eq_true rfl⟩ [] [0, 1, 2, 3, 4, 5, 6, 7, 8, 9, 10, 11, 12, 13, 14, 15] [0, 1, 2, 3, 4, 5, 6, 7, 8, 9, 10, 11, 12, 13, 14, 15] ⟨rfl, rfl, by decide +kernel, by decide +kernel, by decide +kernel⟩ (by decide +kernel) (fun u => rfl) (Nat.le_of_ble_eq_true rfl) rfl (fun r2 u hw => ?_)
  obtain ⟨h, z3⟩ := hw
  try dsimp only at h
  try dsimp only
  refine V_if_ne (pc := 7) (tgt := 15) C dX5_type_7 (by decide) (fun c4 => ?_) (fun c4 => ?_)
  · replace h := wp_f h c4
    refine V_aload_n (pc := 15) C 0 dX5_type_15 rfl rfl ?_
    refine V_get (pc := 16) C 0 6 inX5 wd_595 dX5_type_16 rfl rfl (by decide) rfl rfl ?_
    refine V_sipush (pc := 19) C dX5_type_19 ks_150 ?_
    refine V_icmp_ne (pc := 22) (tgt := 30) C dX5_type_22 (by decide) (fun c5 => ?_) (fun c5 => ?_)
    · replace h := wp_f h c5
      refine V_aload_n (pc := 30) C 0 dX5_type_30 rfl rfl ?_
      refine V_get (pc := 31) C 0 5 inX5 wd_594 dX5_type_31 rfl rfl (by decide) rfl rfl ?_
      refine V_aload_n (pc := 34) C 0 dX5_type_34 rfl rfl ?_
      refine V_get (pc := 35) C 0 6 inX5 wd_595 dX5_type_35 rfl rfl (by decide) rfl rfl ?_
      refine V_iload_n (pc := 38) C 1 dX5_type_38 rfl rfl ?_
      obtain ⟨b6, h⟩ := wp_c h
      obtain ⟨m_text_7, em_text_7, h⟩ := wp_l h
      refine V_iast (pc := 39) (ws' := (wM cI q_m m_now m_aside m_past m_states m_refused m_text_7 m_length m_tables m_all m_rowsBehind m_rowsMany m_forms m_lesser m_greater m_why m_checks m_numbers m_depths m_spot m_isFaulty m_orders m_letters m_parts m_hash)) C 5 dX5_type_39 rfl b6 em_text_7 rfl ?_
      refine V_aload_n (pc := 40) C 0 dX5_type_40 rfl rfl ?_
      refine V_dup (pc := 41) C dX5_type_41 rfl ?_
      refine V_get (pc := 42) C 0 6 inX5 wd_595 dX5_type_42 rfl rfl (by decide) rfl rfl ?_
      refine V_iconst (pc := 45) C dX5_type_45 ki_1 ?_
      refine V_iadd (pc := 46) C dX5_type_46 ?_
      obtain ⟨m_length_8, em_length_8, h⟩ := wp_l h
      refine V_topi (pc := 47) em_length_8 ?_
      refine V_put (pc := 47) (ws' := (wM cI q_m m_now m_aside m_past m_states m_refused m_text_7 m_length_8 m_tables m_all m_rowsBehind m_rowsMany m_forms m_lesser m_greater m_why m_checks m_numbers m_depths m_spot m_isFaulty m_orders m_letters m_parts m_hash)) C 0 6 inX5 tyX5_ok nmX5 wd_595 dX5_type_47 rfl rfl (by decide) rfl rfl rfl rfl rfl (Nat.le_of_ble_eq_true rfl) rfl ?_
      refine V_aload_n (pc := 50) C 0 dX5_type_50 rfl rfl ?_
      refine V_get (pc := 51) C 0 6 inX5 wd_595 dX5_type_51 rfl rfl (by decide) rfl rfl ?_
      exact V_iret (pc := 54) C hQ (m_refused, m_text_7, m_length_8) dX5_type_54 (vp_nar_int _) rfl (wp_s h)
    · replace h := wp_t h c5
      refine V_aload_n (pc := 25) C 0 dX5_type_25 rfl rfl ?_
      refine V_callVi (pc := 26) (As := []) (st := []) C (c_M_full (wp_b h)) mk_X5_full wd_639 dX5_type_26 0 rfl rfl rfl ⟨Nat.le_of_ble_eq_true rfl, Nat.le_of_ble_eq_true rfl⟩ (Nat.le_of_ble_eq_true rfl) rfl (fun r10 m_refused_11 hw => ?_)
      have h := hw
      try dsimp only at h
      try dsimp only
      exact V_iret (pc := 29) C hQ (m_refused_11, m_text, m_length) dX5_type_29 (vp_nar_int _) rfl (wp_s h)
  · replace h := wp_t h c4
    refine V_aload_n (pc := 10) C 0 dX5_type_10 rfl rfl ?_
    refine V_callVi (pc := 11) (As := []) (st := []) C (c_M_bad (wp_b h)) mk_X5_bad wd_642 dX5_type_11 0 rfl rfl rfl ⟨Nat.le_of_ble_eq_true rfl, Nat.le_of_ble_eq_true rfl⟩ (Nat.le_of_ble_eq_true rfl) rfl (fun r13 m_refused_14 hw => ?_)
    have h := hw
    try dsimp only at h
    try dsimp only
    exact V_iret (pc := 14) C hQ (m_refused_14, m_text, m_length) dX5_type_14 (vp_nar_int _) rfl (wp_s h)
set_option maxRecDepth 100000 in
set_option maxHeartbeats 4000000 in
theorem c_M_clear {l : Launch} {D : va_G} {cI cC : ClassId} {q_m : Nat → Nat} {m_now : Nat → Int32} {m_aside : Nat → Int32} {m_past : Nat → Int32} {m_states : Int32} {m_refused : Nat → Int32} {m_text : Nat → Int32} {m_length : Int32} {m_tables : Nat → Int32} {m_all : Int32} {m_rowsBehind : Nat → Int32} {m_rowsMany : Int32} {m_forms : Nat → Int32} {m_lesser : Nat → Int32} {m_greater : Nat → Int32} {m_why : Nat → Int32} {m_checks : Int32} {m_numbers : Nat → Int32} {m_depths : Nat → Int32} {m_spot : Int32} {m_isFaulty : Int32} {m_orders : Int32} {m_letters : Nat → Int32} {m_parts : Nat → Int32} {m_hash : Int64} {post : Int32 × Int32 → Prop} (h : wpO (M_clear m_length) post) : Cn l yX5_clear cX5_clear 2 (some .int) 0 0 D cI cC [.ref (q_m 0)] (wM cI q_m m_now m_aside m_past m_states m_refused m_text m_length m_tables m_all m_rowsBehind m_rowsMany m_forms m_lesser m_greater m_why m_checks m_numbers m_depths m_spot m_isFaulty m_orders m_letters m_parts m_hash) (QI D cI cC (S := Int32) (fun u => (wM cI q_m m_now m_aside m_past m_states m_refused m_text u m_tables m_all m_rowsBehind m_rowsMany m_forms m_lesser m_greater m_why m_checks m_numbers m_depths m_spot m_isFaulty m_orders m_letters m_parts m_hash)) (fun r u => post (r, u))) := by
  refine Cn.ofV (own := RX5) (lv0 := [(0, .ref (q_m 0))]) rfl (by decide) (Nat.le_of_ble_eq_true rfl) rfl ?_
  intro p e s m below meth c A args Q hQ C
  unfold M_clear at h
  refine V_aload_n (pc := 0) C 0 dX5_clear_0 rfl rfl ?_
  refine V_get (pc := 1) C 0 6 inX5 wd_595 dX5_clear_1 rfl rfl (by decide) rfl rfl ?_
  refine V_istore_n (pc := 4) (lv' := [(0, .ref (q_m 0)), (1, .int m_length)]) C dX5_clear_4 rfl [1, 0] (by decide) rfl ?_
  refine V_aload_n (pc := 5) C 0 dX5_clear_5 rfl rfl ?_
  refine V_iconst (pc := 6) C dX5_clear_6 ki_0 ?_
  refine V_put (pc := 7) (ws' := (wM cI q_m m_now m_aside m_past m_states m_refused m_text 0 m_tables m_all m_rowsBehind m_rowsMany m_forms m_lesser m_greater m_why m_checks m_numbers m_depths m_spot m_isFaulty m_orders m_letters m_parts m_hash)) C 0 6 inX5 tyX5_ok nmX5 wd_595 dX5_clear_7 rfl rfl (by decide) rfl rfl rfl rfl rfl (Nat.le_of_ble_eq_true rfl) rfl ?_
  refine V_iload_n (pc := 10) C 1 dX5_clear_10 rfl rfl ?_
  exact V_iret (pc := 11) C hQ 0 dX5_clear_11 (vp_nar_int _) rfl (wp_s h)
set_option maxRecDepth 100000 in
set_option maxHeartbeats 4000000 in
theorem c_M_isAt {l : Launch} {D : va_G} {cI cC : ClassId} {q_m : Nat → Nat} {m_now : Nat → Int32} {m_aside : Nat → Int32} {m_past : Nat → Int32} {m_states : Int32} {m_refused : Nat → Int32} {m_text : Nat → Int32} {m_length : Int32} {m_tables : Nat → Int32} {m_all : Int32} {m_rowsBehind : Nat → Int32} {m_rowsMany : Int32} {m_forms : Nat → Int32} {m_lesser : Nat → Int32} {m_greater : Nat → Int32} {m_why : Nat → Int32} {m_checks : Int32} {m_numbers : Nat → Int32} {m_depths : Nat → Int32} {m_spot : Int32} {m_isFaulty : Int32} {m_orders : Int32} {m_letters : Nat → Int32} {m_parts : Nat → Int32} {m_hash : Int64} {a0 : Int32} {a1 : Int32} {post : Int32 → Prop} (h : wpO (M_isAt m_text m_length m_spot a0 a1) post) : Cn l yX5_isAt cX5_isAt 3 (some .boolean) 1 22 D cI cC [.ref (q_m 0), .int a0, .int a1] (wM cI q_m m_now m_aside m_past m_states m_refused m_text m_length m_tables m_all m_rowsBehind m_rowsMany m_forms m_lesser m_greater m_why m_checks m_numbers m_depths m_spot m_isFaulty m_orders m_letters m_parts m_hash) (QI D cI cC (S := Unit) (fun u => (wM cI q_m m_now m_aside m_past m_states m_refused m_text m_length m_tables m_all m_rowsBehind m_rowsMany m_forms m_lesser m_greater m_why m_checks m_numbers m_depths m_spot m_isFaulty m_orders m_letters m_parts m_hash)) (fun r u => post r ∧ narrow .boolean (.int r) = .int r)) := by
  refine Cn.ofV (own := RX5) (lv0 := [(0, .ref (q_m 0)), (1, .int a0), (2, .int a1)]) rfl (by decide) (Nat.le_of_ble_eq_true rfl) rfl ?_
  intro p e s m below meth c A args Q hQ C
  unfold M_isAt at h
  refine V_aload_n (pc := 0) C 0 dX5_isAt_0 rfl rfl ?_
  refine V_get (pc := 1) C 0 18 inX5 wd_607 dX5_isAt_1 rfl rfl (by decide) rfl rfl ?_
  refine V_aload_n (pc := 4) C 0 dX5_isAt_4 rfl rfl ?_
  refine V_get (pc := 5) C 0 6 inX5 wd_595 dX5_isAt_5 rfl rfl (by decide) rfl rfl ?_
  refine V_icmp_ge (pc := 8) (tgt := 32) C dX5_isAt_8 (by decide) (fun c1 => ?_) (fun c1 => ?_)
  · replace h := wp_t h c1
    refine V_iconst (pc := 32) C dX5_isAt_32 ki_0 ?_
    exact V_iret (pc := 33) C hQ () dX5_isAt_33 rfl rfl ⟨wp_s h, rfl⟩
  · replace h := wp_f h c1
    refine V_aload_n (pc := 11) C 0 dX5_isAt_11 rfl rfl ?_
    refine V_get (pc := 12) C 0 5 inX5 wd_594 dX5_isAt_12 rfl rfl (by decide) rfl rfl ?_
    refine V_aload_n (pc := 15) C 0 dX5_isAt_15 rfl rfl ?_
    refine V_get (pc := 16) C 0 18 inX5 wd_607 dX5_isAt_16 rfl rfl (by decide) rfl rfl ?_
    obtain ⟨b2, h⟩ := wp_c h
    refine V_iald (pc := 19) C 5 dX5_isAt_19 rfl b2 ?_
    refine V_iload_n (pc := 20) C 1 dX5_isAt_20 rfl rfl ?_
    refine V_iload_n (pc := 21) C 2 dX5_isAt_21 rfl rfl ?_
    refine V_cutSi (pc := 22) (As := [.int (m_text (Int32.toNatClampNeg m_spot)), .int a0, .int a1]) (st := []) (w0 := ([] : va_W)) (wr := (wM cI q_m m_now m_aside m_past m_states m_refused m_text m_length m_tables m_all m_rowsBehind m_rowsMany m_forms m_lesser m_greater m_why m_checks m_numbers m_depths m_spot m_isFaulty m_orders m_letters m_parts m_hash)) (w2 := fun u => (wM cI q_m m_now m_aside m_past m_states m_refused m_text m_length m_tables m_all m_rowsBehind m_rowsMany m_forms m_lesser m_greater m_why m_checks m_numbers m_depths m_spot m_isFaulty m_orders m_letters m_parts m_hash)) C (c_M_within (wp_b h)) mk_X5_within wd_630 dX5_isAt_22 rfl rfl ⟨Nat.le_of_ble_eq_true rfl, Nat.le_of_ble_eq_true rfl⟩ [] [0, 1, 2, 3, 4, 5, 6, 7, 8, 9, 10, 11, 12, 13, 14, 15] [0, 1, 2, 3, 4, 5, 6, 7, 8, 9, 10, 11, 12, 13, 14, 15] ⟨rfl, rfl, by decide +kernel, by decide +kernel, by decide +kernel⟩ (by decide +kernel) (fun u => rfl) (Nat.le_of_ble_eq_true rfl) rfl (fun r4 u hw => ?_)
    obtain ⟨h, z5⟩ := hw
    try dsimp only at h
    try dsimp only
    refine V_if_eq (pc := 25) (tgt := 32) C dX5_isAt_25 (by decide) (fun c6 => ?_) (fun c6 => ?_)
    · replace h := wp_t h c6
      refine V_iconst (pc := 32) C dX5_isAt_32 ki_0 ?_
      exact V_iret (pc := 33) C hQ () dX5_isAt_33 rfl rfl ⟨wp_s h, rfl⟩
    · replace h := wp_f h c6
      refine V_iconst (pc := 28) C dX5_isAt_28 ki_1 ?_
      refine V_goto (pc := 29) (tgt := 33) C dX5_isAt_29 (by decide) ?_
      exact V_iret (pc := 33) C hQ () dX5_isAt_33 rfl rfl ⟨wp_s h, rfl⟩
set_option maxRecDepth 100000 in
set_option maxHeartbeats 4000000 in
theorem c_M_blanks {l : Launch} {D : va_G} {cI cC : ClassId} {q_m : Nat → Nat} {m_now : Nat → Int32} {m_aside : Nat → Int32} {m_past : Nat → Int32} {m_states : Int32} {m_refused : Nat → Int32} {m_text : Nat → Int32} {m_length : Int32} {m_tables : Nat → Int32} {m_all : Int32} {m_rowsBehind : Nat → Int32} {m_rowsMany : Int32} {m_forms : Nat → Int32} {m_lesser : Nat → Int32} {m_greater : Nat → Int32} {m_why : Nat → Int32} {m_checks : Int32} {m_numbers : Nat → Int32} {m_depths : Nat → Int32} {m_spot : Int32} {m_isFaulty : Int32} {m_orders : Int32} {m_letters : Nat → Int32} {m_parts : Nat → Int32} {m_hash : Int64} {post : Int32 → Prop} (h : wpO (M_blanks m_text m_length m_spot) post) : Cn l yX5_blanks cX5_blanks 1 none 2 44 D cI cC [.ref (q_m 0)] (wM cI q_m m_now m_aside m_past m_states m_refused m_text m_length m_tables m_all m_rowsBehind m_rowsMany m_forms m_lesser m_greater m_why m_checks m_numbers m_depths m_spot m_isFaulty m_orders m_letters m_parts m_hash) (QV D cI cC (S := Int32) (fun u => (wM cI q_m m_now m_aside m_past m_states m_refused m_text m_length m_tables m_all m_rowsBehind m_rowsMany m_forms m_lesser m_greater m_why m_checks m_numbers m_depths u m_isFaulty m_orders m_letters m_parts m_hash)) (fun u => post u)) := by
  refine Cn.ofV (own := RX5) (lv0 := [(0, .ref (q_m 0))]) rfl (by decide) (Nat.le_of_ble_eq_true rfl) rfl ?_
  intro p e s m below meth c A args Q hQ C
  have hL_0 : ∀ (K : Int32 → Option (Int32)), (∀ (m_spot : Int32), wpO (K m_spot) post → V p l e (rmC 2 44) s m args below meth c D A 1 0 0 Q (wM cI q_m m_now m_aside m_past m_states m_refused m_text m_length m_tables m_all m_rowsBehind m_rowsMany m_forms m_lesser m_greater m_why m_checks m_numbers m_depths m_spot m_isFaulty m_orders m_letters m_parts m_hash) [] 24 []) → ∀ (n : Nat) (m_spot : Int32), wpO (M_blanks_0 K m_text m_length n m_spot) post → V p l e (rmC 2 44) s m args below meth c D A 1 0 0 Q (wM cI q_m m_now m_aside m_past m_states m_refused m_text m_length m_tables m_all m_rowsBehind m_rowsMany m_forms m_lesser m_greater m_why m_checks m_numbers m_depths m_spot m_isFaulty m_orders m_letters m_parts m_hash) [(0, .ref (q_m 0))] 0 [] := by
    intro K   hK n
    induction n with
    | zero => intro m_spot h; rw [M_blanks_0] at h; exact (wp_n h).elim
    | succ n ih =>
      intro m_spot h
      rw [M_blanks_0] at h
      refine V_aload_n (pc := 0) C 0 dX5_blanks_0 rfl rfl ?_
      refine V_bipush (pc := 1) C dX5_blanks_1 kb_32 ?_
      refine V_bipush (pc := 3) C dX5_blanks_3 kb_32 ?_
      refine V_callVi (pc := 5) (As := [.int 32, .int 32]) (st := []) C (c_M_isAt (wp_b h)) mk_X5_isAt wd_864 dX5_blanks_5 0 rfl rfl rfl ⟨Nat.le_of_ble_eq_true rfl, Nat.le_of_ble_eq_true rfl⟩ (Nat.le_of_ble_eq_true rfl) rfl (fun r2 u hw => ?_)
      obtain ⟨h, z3⟩ := hw
      try dsimp only at h
      try dsimp only
      refine V_if_eq (pc := 8) (tgt := 24) C dX5_blanks_8 (by decide) (fun c4 => ?_) (fun c4 => ?_)
      · replace h := wp_t h c4
        refine V_lv (pc := 24) [] rfl ?_
        exact hK _ h
      · replace h := wp_f h c4
        refine V_aload_n (pc := 11) C 0 dX5_blanks_11 rfl rfl ?_
        refine V_dup (pc := 12) C dX5_blanks_12 rfl ?_
        refine V_get (pc := 13) C 0 18 inX5 wd_607 dX5_blanks_13 rfl rfl (by decide) rfl rfl ?_
        refine V_iconst (pc := 16) C dX5_blanks_16 ki_1 ?_
        refine V_iadd (pc := 17) C dX5_blanks_17 ?_
        obtain ⟨m_spot_5, em_spot_5, h⟩ := wp_l h
        refine V_topi (pc := 18) em_spot_5 ?_
        refine V_put (pc := 18) (ws' := (wM cI q_m m_now m_aside m_past m_states m_refused m_text m_length m_tables m_all m_rowsBehind m_rowsMany m_forms m_lesser m_greater m_why m_checks m_numbers m_depths m_spot_5 m_isFaulty m_orders m_letters m_parts m_hash)) C 0 18 inX5 tyX5_ok nmX5 wd_607 dX5_blanks_18 rfl rfl (by decide) rfl rfl rfl rfl rfl (Nat.le_of_ble_eq_true rfl) rfl ?_
        refine V_goto (pc := 21) (tgt := 0) C dX5_blanks_21 (by decide) ?_
        exact ih _ h
  unfold M_blanks at h
  refine hL_0 _ (fun m_spot_6 h => ?_) 1000 _ h
  try dsimp only at h
  exact V_vret (pc := 24) C hQ m_spot_6 dX5_blanks_24 rfl (wp_s h)
set_option maxRecDepth 100000 in
set_option maxHeartbeats 4000000 in
theorem c_M_number {l : Launch} {D : va_G} {cI cC : ClassId} {q_m : Nat → Nat} {m_now : Nat → Int32} {m_aside : Nat → Int32} {m_past : Nat → Int32} {m_states : Int32} {m_refused : Nat → Int32} {m_text : Nat → Int32} {m_length : Int32} {m_tables : Nat → Int32} {m_all : Int32} {m_rowsBehind : Nat → Int32} {m_rowsMany : Int32} {m_forms : Nat → Int32} {m_lesser : Nat → Int32} {m_greater : Nat → Int32} {m_why : Nat → Int32} {m_checks : Int32} {m_numbers : Nat → Int32} {m_depths : Nat → Int32} {m_spot : Int32} {m_isFaulty : Int32} {m_orders : Int32} {m_letters : Nat → Int32} {m_parts : Nat → Int32} {m_hash : Int64} {post : Int32 × Int32 × Int32 → Prop} (h : wpO (M_number m_text m_length m_spot m_isFaulty) post) : Cn l yX5_number cX5_number 3 (some .int) 3 64 D cI cC [.ref (q_m 0)] (wM cI q_m m_now m_aside m_past m_states m_refused m_text m_length m_tables m_all m_rowsBehind m_rowsMany m_forms m_lesser m_greater m_why m_checks m_numbers m_depths m_spot m_isFaulty m_orders m_letters m_parts m_hash) (QI D cI cC (S := Int32 × Int32) (fun u => (wM cI q_m m_now m_aside m_past m_states m_refused m_text m_length m_tables m_all m_rowsBehind m_rowsMany m_forms m_lesser m_greater m_why m_checks m_numbers m_depths u.1 u.2 m_orders m_letters m_parts m_hash)) (fun r u => post (r, u))) := by
  refine Cn.ofV (own := RX5) (lv0 := [(0, .ref (q_m 0))]) rfl (by decide) (Nat.le_of_ble_eq_true rfl) rfl ?_
  intro p e s m below meth c A args Q hQ C
  have hL_28 : ∀ (K : Int32 → Int32 → Int32 → Option (Int32 × Int32 × Int32)), (∀ (l1 : Int32) (m_spot : Int32) (m_isFaulty : Int32), wpO (K l1 m_spot m_isFaulty) post → V p l e (rmC 3 64) s m args below meth c D A 3 0 0 Q (wM cI q_m m_now m_aside m_past m_states m_refused m_text m_length m_tables m_all m_rowsBehind m_rowsMany m_forms m_lesser m_greater m_why m_checks m_numbers m_depths m_spot m_isFaulty m_orders m_letters m_parts m_hash) [(1, .int l1)] 116 []) → ∀ (n : Nat) (l1 : Int32) (l2 : Int32) (m_spot : Int32) (m_isFaulty : Int32), wpO (M_number_28 K m_text m_length n l1 l2 m_spot m_isFaulty) post → V p l e (rmC 3 64) s m args below meth c D A 3 0 0 Q (wM cI q_m m_now m_aside m_past m_states m_refused m_text m_length m_tables m_all m_rowsBehind m_rowsMany m_forms m_lesser m_greater m_why m_checks m_numbers m_depths m_spot m_isFaulty m_orders m_letters m_parts m_hash) [(0, .ref (q_m 0)), (1, .int l1), (2, .int l2)] 28 [] := by
    intro K   hK n
    induction n with
    | zero => intro l1 l2 m_spot m_isFaulty h; rw [M_number_28] at h; exact (wp_n h).elim
    | succ n ih =>
      intro l1 l2 m_spot m_isFaulty h
      rw [M_number_28] at h
      refine V_aload_n (pc := 28) C 0 dX5_number_28 rfl rfl ?_
      refine V_get (pc := 29) C 0 19 inX5 wd_608 dX5_number_29 rfl rfl (by decide) rfl rfl ?_
      refine V_if_ne (pc := 32) (tgt := 116) C dX5_number_32 (by decide) (fun c1 => ?_) (fun c1 => ?_)
      · replace h := wp_f h c1
        refine V_lv (pc := 116) [1] rfl ?_
        exact hK _ _ _ h
      · replace h := wp_t h c1
        refine V_aload_n (pc := 35) C 0 dX5_number_35 rfl rfl ?_
        refine V_bipush (pc := 36) C dX5_number_36 kb_48 ?_
        refine V_bipush (pc := 38) C dX5_number_38 kb_57 ?_
        refine V_callVi (pc := 40) (As := [.int 48, .int 57]) (st := []) C (c_M_isAt (wp_b h)) mk_X5_isAt wd_864 dX5_number_40 0 rfl rfl rfl ⟨Nat.le_of_ble_eq_true rfl, Nat.le_of_ble_eq_true rfl⟩ (Nat.le_of_ble_eq_true rfl) rfl (fun r3 u hw => ?_)
        obtain ⟨h, z4⟩ := hw
        try dsimp only at h
        try dsimp only
        refine V_if_eq (pc := 43) (tgt := 116) C dX5_number_43 (by decide) (fun c5 => ?_) (fun c5 => ?_)
        · replace h := wp_t h c5
          refine V_lv (pc := 116) [1] rfl ?_
          exact hK _ _ _ h
        · replace h := wp_f h c5
          obtain ⟨v6, ev6, h⟩ := wp_l h
          refine V_iinc (pc := 46) (v := v6) (lv' := [(0, .ref (q_m 0)), (1, .int l1), (2, .int v6)]) (j := 2) C dX5_number_46 rfl (by rw [ev6]; rfl) [1, 2, 0] (by decide) rfl ?_
          refine V_aload_n (pc := 49) C 0 dX5_number_49 rfl rfl ?_
          refine V_iload_n (pc := 50) C 2 dX5_number_50 rfl rfl ?_
          refine V_iconst (pc := 51) C dX5_number_51 ki_2 ?_
          refine V_icmp_le (pc := 52) (tgt := 59) C dX5_number_52 (by decide) (fun c7 => ?_) (fun c7 => ?_)
          · replace h := wp_t h c7
            refine V_iconst (pc := 59) C dX5_number_59 ki_0 ?_
            refine V_put (pc := 60) (ws' := (wM cI q_m m_now m_aside m_past m_states m_refused m_text m_length m_tables m_all m_rowsBehind m_rowsMany m_forms m_lesser m_greater m_why m_checks m_numbers m_depths m_spot 0 m_orders m_letters m_parts m_hash)) C 0 19 inX5 tyX5_ok nmX5 wd_608 dX5_number_60 rfl rfl (by decide) rfl rfl rfl rfl rfl (Nat.le_of_ble_eq_true rfl) rfl ?_
            refine V_aload_n (pc := 63) C 0 dX5_number_63 rfl rfl ?_
            refine V_get (pc := 64) C 0 19 inX5 wd_608 dX5_number_64 rfl rfl (by decide) rfl rfl ?_
            refine V_if_eq (pc := 67) (tgt := 74) C dX5_number_67 (by decide) (fun c8 => ?_) (fun c8 => absurd (by decide) c8)
            refine V_bipush (pc := 74) C dX5_number_74 kb_10 ?_
            refine V_iload_n (pc := 76) C 1 dX5_number_76 rfl rfl ?_
            refine V_imul (pc := 77) C dX5_number_77 ?_
            refine V_aload_n (pc := 78) C 0 dX5_number_78 rfl rfl ?_
            refine V_get (pc := 79) C 0 5 inX5 wd_594 dX5_number_79 rfl rfl (by decide) rfl rfl ?_
            refine V_aload_n (pc := 82) C 0 dX5_number_82 rfl rfl ?_
            refine V_get (pc := 83) C 0 18 inX5 wd_607 dX5_number_83 rfl rfl (by decide) rfl rfl ?_
            obtain ⟨b9, h⟩ := wp_c h
            refine V_iald (pc := 86) C 5 dX5_number_86 rfl b9 ?_
            refine V_iadd (pc := 87) C dX5_number_87 ?_
            refine V_bipush (pc := 88) C dX5_number_88 kb_48 ?_
            refine V_isub (pc := 90) C dX5_number_90 ?_
            obtain ⟨v10, ev10, h⟩ := wp_l h
            refine V_topi (pc := 91) ev10 ?_
            refine V_istore_n (pc := 91) (lv' := [(0, .ref (q_m 0)), (1, .int v10), (2, .int v6)]) C dX5_number_91 rfl [1, 0, 2] (by decide) rfl ?_
            refine V_aload_n (pc := 92) C 0 dX5_number_92 rfl rfl ?_
            refine V_dup (pc := 93) C dX5_number_93 rfl ?_
            refine V_get (pc := 94) C 0 18 inX5 wd_607 dX5_number_94 rfl rfl (by decide) rfl rfl ?_
            refine V_aload_n (pc := 97) C 0 dX5_number_97 rfl rfl ?_
            refine V_get (pc := 98) C 0 19 inX5 wd_608 dX5_number_98 rfl rfl (by decide) rfl rfl ?_
            refine V_if_eq (pc := 101) (tgt := 108) C dX5_number_101 (by decide) (fun c11 => ?_) (fun c11 => absurd (by decide) c11)
            refine V_iconst (pc := 108) C dX5_number_108 ki_1 ?_
            refine V_iadd (pc := 109) C dX5_number_109 ?_
            obtain ⟨m_spot_12, em_spot_12, h⟩ := wp_l h
            refine V_topi (pc := 110) em_spot_12 ?_
            refine V_put (pc := 110) (ws' := (wM cI q_m m_now m_aside m_past m_states m_refused m_text m_length m_tables m_all m_rowsBehind m_rowsMany m_forms m_lesser m_greater m_why m_checks m_numbers m_depths m_spot_12 0 m_orders m_letters m_parts m_hash)) C 0 18 inX5 tyX5_ok nmX5 wd_607 dX5_number_110 rfl rfl (by decide) rfl rfl rfl rfl rfl (Nat.le_of_ble_eq_true rfl) rfl ?_
            refine V_goto (pc := 113) (tgt := 28) C dX5_number_113 (by decide) ?_
            exact ih _ _ _ _ h
          · replace h := wp_f h c7
            refine V_iconst (pc := 55) C dX5_number_55 ki_1 ?_
            refine V_goto (pc := 56) (tgt := 60) C dX5_number_56 (by decide) ?_
            refine V_put (pc := 60) (ws' := (wM cI q_m m_now m_aside m_past m_states m_refused m_text m_length m_tables m_all m_rowsBehind m_rowsMany m_forms m_lesser m_greater m_why m_checks m_numbers m_depths m_spot 1 m_orders m_letters m_parts m_hash)) C 0 19 inX5 tyX5_ok nmX5 wd_608 dX5_number_60 rfl rfl (by decide) rfl rfl rfl rfl rfl (Nat.le_of_ble_eq_true rfl) rfl ?_
            refine V_aload_n (pc := 63) C 0 dX5_number_63 rfl rfl ?_
            refine V_get (pc := 64) C 0 19 inX5 wd_608 dX5_number_64 rfl rfl (by decide) rfl rfl ?_
            refine V_if_eq (pc := 67) (tgt := 74) C dX5_number_67 (by decide) (fun c13 => absurd c13 (by decide)) (fun c13 => ?_)
            refine V_iload_n (pc := 70) C 1 dX5_number_70 rfl rfl ?_
            refine V_goto (pc := 71) (tgt := 91) C dX5_number_71 (by decide) ?_
            refine V_istore_n (pc := 91) (lv' := [(0, .ref (q_m 0)), (1, .int l1), (2, .int v6)]) C dX5_number_91 rfl [1, 0, 2] (by decide) rfl ?_
            refine V_aload_n (pc := 92) C 0 dX5_number_92 rfl rfl ?_
            refine V_dup (pc := 93) C dX5_number_93 rfl ?_
            refine V_get (pc := 94) C 0 18 inX5 wd_607 dX5_number_94 rfl rfl (by decide) rfl rfl ?_
            refine V_aload_n (pc := 97) C 0 dX5_number_97 rfl rfl ?_
            refine V_get (pc := 98) C 0 19 inX5 wd_608 dX5_number_98 rfl rfl (by decide) rfl rfl ?_
            refine V_if_eq (pc := 101) (tgt := 108) C dX5_number_101 (by decide) (fun c14 => absurd c14 (by decide)) (fun c14 => ?_)
            refine V_iconst (pc := 104) C dX5_number_104 ki_0 ?_
            refine V_goto (pc := 105) (tgt := 109) C dX5_number_105 (by decide) ?_
            refine V_iadd (pc := 109) C dX5_number_109 ?_
            obtain ⟨m_spot_15, em_spot_15, h⟩ := wp_l h
            refine V_topi (pc := 110) em_spot_15 ?_
            refine V_put (pc := 110) (ws' := (wM cI q_m m_now m_aside m_past m_states m_refused m_text m_length m_tables m_all m_rowsBehind m_rowsMany m_forms m_lesser m_greater m_why m_checks m_numbers m_depths m_spot_15 1 m_orders m_letters m_parts m_hash)) C 0 18 inX5 tyX5_ok nmX5 wd_607 dX5_number_110 rfl rfl (by decide) rfl rfl rfl rfl rfl (Nat.le_of_ble_eq_true rfl) rfl ?_
            refine V_goto (pc := 113) (tgt := 28) C dX5_number_113 (by decide) ?_
            exact ih _ _ _ _ h
  unfold M_number at h
  refine V_aload_n (pc := 0) C 0 dX5_number_0 rfl rfl ?_
  refine V_callVv (pc := 1) (As := []) (st := []) C (c_M_blanks (wp_b h)) mk_X5_blanks wd_861 dX5_number_1 0 rfl rfl rfl ⟨Nat.le_of_ble_eq_true rfl, Nat.le_of_ble_eq_true rfl⟩ (Nat.le_of_ble_eq_true rfl) rfl (fun m_spot_18 hw => ?_)
  have h := hw
  try dsimp only at h
  try dsimp only
  refine V_iconst (pc := 4) C dX5_number_4 ki_0 ?_
  refine V_istore_n (pc := 5) (lv' := [(0, .ref (q_m 0)), (1, .int 0)]) C dX5_number_5 rfl [1, 0] (by decide) rfl ?_
  refine V_iconst (pc := 6) C dX5_number_6 ki_0 ?_
  refine V_istore_n (pc := 7) (lv' := [(0, .ref (q_m 0)), (1, .int 0), (2, .int 0)]) C dX5_number_7 rfl [1, 2, 0] (by decide) rfl ?_
  refine V_aload_n (pc := 8) C 0 dX5_number_8 rfl rfl ?_
  refine V_aload_n (pc := 9) C 0 dX5_number_9 rfl rfl ?_
  refine V_bipush (pc := 10) C dX5_number_10 kb_48 ?_
  refine V_bipush (pc := 12) C dX5_number_12 kb_57 ?_
  refine V_callVi (pc := 14) (As := [.int 48, .int 57]) (st := [.ref (q_m 0)]) C (c_M_isAt (wp_b h)) mk_X5_isAt wd_864 dX5_number_14 0 rfl rfl rfl ⟨Nat.le_of_ble_eq_true rfl, Nat.le_of_ble_eq_true rfl⟩ (Nat.le_of_ble_eq_true rfl) rfl (fun r20 u hw => ?_)
  obtain ⟨h, z21⟩ := hw
  try dsimp only at h
  try dsimp only
  refine V_if_ne (pc := 17) (tgt := 24) C dX5_number_17 (by decide) (fun c22 => ?_) (fun c22 => ?_)
  · replace h := wp_f h c22
    refine V_iconst (pc := 24) C dX5_number_24 ki_0 ?_
    refine V_put (pc := 25) (ws' := (wM cI q_m m_now m_aside m_past m_states m_refused m_text m_length m_tables m_all m_rowsBehind m_rowsMany m_forms m_lesser m_greater m_why m_checks m_numbers m_depths m_spot_18 0 m_orders m_letters m_parts m_hash)) C 0 19 inX5 tyX5_ok nmX5 wd_608 dX5_number_25 rfl rfl (by decide) rfl rfl rfl rfl rfl (Nat.le_of_ble_eq_true rfl) rfl ?_
    refine hL_28 _ (fun l1_23 m_spot_24 m_isFaulty_25 h => ?_) 1000 _ _ _ _ h
    try dsimp only at h
    refine V_iload_n (pc := 116) C 0 dX5_number_116 rfl rfl ?_
    exact V_iret (pc := 117) C hQ (m_spot_24, m_isFaulty_25) dX5_number_117 (vp_nar_int _) rfl (wp_s h)
  · replace h := wp_t h c22
    refine V_iconst (pc := 20) C dX5_number_20 ki_1 ?_
    refine V_goto (pc := 21) (tgt := 25) C dX5_number_21 (by decide) ?_
    refine V_put (pc := 25) (ws' := (wM cI q_m m_now m_aside m_past m_states m_refused m_text m_length m_tables m_all m_rowsBehind m_rowsMany m_forms m_lesser m_greater m_why m_checks m_numbers m_depths m_spot_18 1 m_orders m_letters m_parts m_hash)) C 0 19 inX5 tyX5_ok nmX5 wd_608 dX5_number_25 rfl rfl (by decide) rfl rfl rfl rfl rfl (Nat.le_of_ble_eq_true rfl) rfl ?_
    refine hL_28 _ (fun l1_26 m_spot_27 m_isFaulty_28 h => ?_) 1000 _ _ _ _ h
    try dsimp only at h
    refine V_iload_n (pc := 116) C 0 dX5_number_116 rfl rfl ?_
    exact V_iret (pc := 117) C hQ (m_spot_27, m_isFaulty_28) dX5_number_117 (vp_nar_int _) rfl (wp_s h)
set_option maxRecDepth 100000 in
set_option maxHeartbeats 4000000 in
theorem c_M_manyOf {l : Launch} {D : va_G} {cI cC : ClassId} {a0 : Int32} {post : Int32 → Prop} (h : wpO (M_manyOf a0) post) : Cn l yX5_manyOf cX5_manyOf 1 (some .int) 0 0 D cI cC [.int a0] ([] : va_W) (QI D cI cC (S := Unit) (fun u => ([] : va_W)) (fun r u => post r)) := by
  refine Cn.ofV (own := RX5) (lv0 := [(0, .int a0)]) rfl (by decide) (Nat.le_of_ble_eq_true rfl) rfl ?_
  intro p e s m below meth c A args Q hQ C
  unfold M_manyOf at h
  refine V_iload_n (pc := 0) C 0 dX5_manyOf_0 rfl rfl ?_
  by_cases c1 : a0 = 103
  · replace h := wp_t h c1
    refine V_topi (pc := 1) (y := 103) c1.symm ?_
    refine V_tableIn (pc := 1) (tgt := 90) C dX5_manyOf_1 (by decide) (by decide) rfl (by decide) ?_
    refine V_iconst (pc := 90) C dX5_manyOf_90 ki_2 ?_
    exact V_iret (pc := 91) C hQ () dX5_manyOf_91 (vp_nar_int _) rfl (wp_s h)
  · replace h := wp_f h c1
    by_cases c2 : a0 = 105
    · replace h := wp_t h c2
      refine V_topi (pc := 1) (y := 105) c2.symm ?_
      refine V_tableIn (pc := 1) (tgt := 88) C dX5_manyOf_1 (by decide) (by decide) rfl (by decide) ?_
      refine V_iconst (pc := 88) C dX5_manyOf_88 ki_1 ?_
      exact V_iret (pc := 89) C hQ () dX5_manyOf_89 (vp_nar_int _) rfl (wp_s h)
    · replace h := wp_f h c2
      by_cases c3 : a0 = 109
      · replace h := wp_t h c3
        refine V_topi (pc := 1) (y := 109) c3.symm ?_
        refine V_tableIn (pc := 1) (tgt := 92) C dX5_manyOf_1 (by decide) (by decide) rfl (by decide) ?_
        refine V_iconst (pc := 92) C dX5_manyOf_92 ki_3 ?_
        exact V_iret (pc := 93) C hQ () dX5_manyOf_93 (vp_nar_int _) rfl (wp_s h)
      · replace h := wp_f h c3
        by_cases c4 : a0 = 111
        · replace h := wp_t h c4
          refine V_topi (pc := 1) (y := 111) c4.symm ?_
          refine V_tableIn (pc := 1) (tgt := 90) C dX5_manyOf_1 (by decide) (by decide) rfl (by decide) ?_
          refine V_iconst (pc := 90) C dX5_manyOf_90 ki_2 ?_
          exact V_iret (pc := 91) C hQ () dX5_manyOf_91 (vp_nar_int _) rfl (wp_s h)
        · replace h := wp_f h c4
          by_cases c5 : a0 = 112
          · replace h := wp_t h c5
            refine V_topi (pc := 1) (y := 112) c5.symm ?_
            refine V_tableIn (pc := 1) (tgt := 88) C dX5_manyOf_1 (by decide) (by decide) rfl (by decide) ?_
            refine V_iconst (pc := 88) C dX5_manyOf_88 ki_1 ?_
            exact V_iret (pc := 89) C hQ () dX5_manyOf_89 (vp_nar_int _) rfl (wp_s h)
          · replace h := wp_f h c5
            by_cases c6 : a0 = 120
            · replace h := wp_t h c6
              refine V_topi (pc := 1) (y := 120) c6.symm ?_
              refine V_tableIn (pc := 1) (tgt := 90) C dX5_manyOf_1 (by decide) (by decide) rfl (by decide) ?_
              refine V_iconst (pc := 90) C dX5_manyOf_90 ki_2 ?_
              exact V_iret (pc := 91) C hQ () dX5_manyOf_91 (vp_nar_int _) rfl (wp_s h)
            · replace h := wp_f h c6
              refine V_manyOf C dX5_manyOf_1 c1 c2 c3 c4 c5 c6 ?_
              refine V_iconst (pc := 94) C dX5_manyOf_94 ki_0 ?_
              exact V_iret (pc := 95) C hQ () dX5_manyOf_95 (vp_nar_int _) rfl (wp_s h)
set_option maxRecDepth 100000 in
set_option maxHeartbeats 4000000 in
theorem c_M_readsOrder {l : Launch} {D : va_G} {cI cC : ClassId} {q_m : Nat → Nat} {m_now : Nat → Int32} {m_aside : Nat → Int32} {m_past : Nat → Int32} {m_states : Int32} {m_refused : Nat → Int32} {m_text : Nat → Int32} {m_length : Int32} {m_tables : Nat → Int32} {m_all : Int32} {m_rowsBehind : Nat → Int32} {m_rowsMany : Int32} {m_forms : Nat → Int32} {m_lesser : Nat → Int32} {m_greater : Nat → Int32} {m_why : Nat → Int32} {m_checks : Int32} {m_numbers : Nat → Int32} {m_depths : Nat → Int32} {m_spot : Int32} {m_isFaulty : Int32} {m_orders : Int32} {m_letters : Nat → Int32} {m_parts : Nat → Int32} {m_hash : Int64} {post : Int32 × Int32 × Int32 × (Nat → Int32) × (Nat → Int32) → Prop} (h : wpO (M_readsOrder m_text m_length m_spot m_isFaulty m_orders m_letters m_parts) post) : Cn l yX5_readsOrder cX5_readsOrder 4 none 4 86 D cI cC [.ref (q_m 0)] (wM cI q_m m_now m_aside m_past m_states m_refused m_text m_length m_tables m_all m_rowsBehind m_rowsMany m_forms m_lesser m_greater m_why m_checks m_numbers m_depths m_spot m_isFaulty m_orders m_letters m_parts m_hash) (QV D cI cC (S := Int32 × Int32 × Int32 × (Nat → Int32) × (Nat → Int32)) (fun u => (wM cI q_m m_now m_aside m_past m_states m_refused m_text m_length m_tables m_all m_rowsBehind m_rowsMany m_forms m_lesser m_greater m_why m_checks m_numbers m_depths u.1 u.2.1 u.2.2.1 u.2.2.2.1 u.2.2.2.2 m_hash)) (fun u => post u)) := by
  refine Cn.ofV (own := RX5) (lv0 := [(0, .ref (q_m 0))]) rfl (by decide) (Nat.le_of_ble_eq_true rfl) rfl ?_
  intro p e s m below meth c A args Q hQ C
  have hL_51 : ∀ (K : Int32 → Int32 → (Nat → Int32) → Option (Int32 × Int32 × Int32 × (Nat → Int32) × (Nat → Int32))) (m_orders : Int32) (m_letters : Nat → Int32) (l1 : Int32) (l2 : Int32), (∀ (m_spot : Int32) (m_isFaulty : Int32) (m_parts : Nat → Int32), wpO (K m_spot m_isFaulty m_parts) post → V p l e (rmC 4 86) s m args below meth c D A 4 0 0 Q (wM cI q_m m_now m_aside m_past m_states m_refused m_text m_length m_tables m_all m_rowsBehind m_rowsMany m_forms m_lesser m_greater m_why m_checks m_numbers m_depths m_spot m_isFaulty m_orders m_letters m_parts m_hash) [(0, .ref (q_m 0)), (1, .int l1)] 86 []) → ∀ (n : Nat) (l3 : Int32) (m_spot : Int32) (m_isFaulty : Int32) (m_parts : Nat → Int32), wpO (M_readsOrder_51 K m_text m_length m_orders l1 l2 n l3 m_spot m_isFaulty m_parts) post → V p l e (rmC 4 86) s m args below meth c D A 4 0 0 Q (wM cI q_m m_now m_aside m_past m_states m_refused m_text m_length m_tables m_all m_rowsBehind m_rowsMany m_forms m_lesser m_greater m_why m_checks m_numbers m_depths m_spot m_isFaulty m_orders m_letters m_parts m_hash) [(0, .ref (q_m 0)), (1, .int l1), (2, .int l2), (3, .int l3)] 51 [] := by
    intro K m_orders m_letters l1 l2 hK n
    induction n with
    | zero => intro l3 m_spot m_isFaulty m_parts h; rw [M_readsOrder_51] at h; exact (wp_n h).elim
    | succ n ih =>
      intro l3 m_spot m_isFaulty m_parts h
      rw [M_readsOrder_51] at h
      refine V_iload_n (pc := 51) C 3 dX5_readsOrder_51 rfl rfl ?_
      refine V_iload_n (pc := 52) C 2 dX5_readsOrder_52 rfl rfl ?_
      refine V_icmp_ge (pc := 53) (tgt := 86) C dX5_readsOrder_53 (by decide) (fun c1 => ?_) (fun c1 => ?_)
      · replace h := wp_t h c1
        refine V_lv (pc := 86) [0, 1] rfl ?_
        exact hK _ _ _ h
      · replace h := wp_f h c1
        refine V_aload_n (pc := 56) C 0 dX5_readsOrder_56 rfl rfl ?_
        refine V_get (pc := 57) C 0 19 inX5 wd_608 dX5_readsOrder_57 rfl rfl (by decide) rfl rfl ?_
        refine V_if_ne (pc := 60) (tgt := 86) C dX5_readsOrder_60 (by decide) (fun c2 => ?_) (fun c2 => ?_)
        · replace h := wp_f h c2
          refine V_lv (pc := 86) [0, 1] rfl ?_
          exact hK _ _ _ h
        · replace h := wp_t h c2
          refine V_aload_n (pc := 63) C 0 dX5_readsOrder_63 rfl rfl ?_
          refine V_get (pc := 64) C 0 22 inX5 wd_611 dX5_readsOrder_64 rfl rfl (by decide) rfl rfl ?_
          refine V_iconst (pc := 67) C dX5_readsOrder_67 ki_3 ?_
          refine V_aload_n (pc := 68) C 0 dX5_readsOrder_68 rfl rfl ?_
          refine V_get (pc := 69) C 0 20 inX5 wd_609 dX5_readsOrder_69 rfl rfl (by decide) rfl rfl ?_
          refine V_imul (pc := 72) C dX5_readsOrder_72 ?_
          refine V_iload_n (pc := 73) C 3 dX5_readsOrder_73 rfl rfl ?_
          refine V_iadd (pc := 74) C dX5_readsOrder_74 ?_
          refine V_aload_n (pc := 75) C 0 dX5_readsOrder_75 rfl rfl ?_
          refine V_callVi (pc := 76) (As := []) (st := [.int (((3 : Int32) * m_orders) + l3), .ref (q_m 15)]) C (c_M_number (wp_b h)) mk_X5_number wd_873 dX5_readsOrder_76 0 rfl rfl rfl ⟨Nat.le_of_ble_eq_true rfl, Nat.le_of_ble_eq_true rfl⟩ (Nat.le_of_ble_eq_true rfl) rfl (fun r4 u hw => ?_)
          obtain ⟨m_spot_5, m_isFaulty_6⟩ := u
          have h := hw
          try dsimp only at h
          try dsimp only
          obtain ⟨b7, h⟩ := wp_c h
          obtain ⟨m_parts_8, em_parts_8, h⟩ := wp_l h
          refine V_iast (pc := 79) (ws' := (wM cI q_m m_now m_aside m_past m_states m_refused m_text m_length m_tables m_all m_rowsBehind m_rowsMany m_forms m_lesser m_greater m_why m_checks m_numbers m_depths m_spot_5 m_isFaulty_6 m_orders m_letters m_parts_8 m_hash)) C 15 dX5_readsOrder_79 rfl b7 em_parts_8 rfl ?_
          obtain ⟨v9, ev9, h⟩ := wp_l h
          refine V_iinc (pc := 80) (v := v9) (lv' := [(0, .ref (q_m 0)), (1, .int l1), (2, .int l2), (3, .int v9)]) (j := 3) C dX5_readsOrder_80 rfl (by rw [ev9]; rfl) [1, 2, 3, 0] (by decide) rfl ?_
          refine V_goto (pc := 83) (tgt := 51) C dX5_readsOrder_83 (by decide) ?_
          exact ih _ _ _ _ h
  unfold M_readsOrder at h
  refine V_aload_n (pc := 0) C 0 dX5_readsOrder_0 rfl rfl ?_
  refine V_get (pc := 1) C 0 5 inX5 wd_594 dX5_readsOrder_1 rfl rfl (by decide) rfl rfl ?_
  refine V_aload_n (pc := 4) C 0 dX5_readsOrder_4 rfl rfl ?_
  refine V_get (pc := 5) C 0 18 inX5 wd_607 dX5_readsOrder_5 rfl rfl (by decide) rfl rfl ?_
  obtain ⟨b10, h⟩ := wp_c h
  refine V_iald (pc := 8) C 5 dX5_readsOrder_8 rfl b10 ?_
  obtain ⟨v11, ev11, h⟩ := wp_l h
  refine V_topi (pc := 9) ev11 ?_
  refine V_istore_n (pc := 9) (lv' := [(0, .ref (q_m 0)), (1, .int v11)]) C dX5_readsOrder_9 rfl [1, 0] (by decide) rfl ?_
  refine V_iload_n (pc := 10) C 1 dX5_readsOrder_10 rfl rfl ?_
  refine V_cutSi (pc := 11) (As := [.int v11]) (st := []) (w0 := ([] : va_W)) (wr := (wM cI q_m m_now m_aside m_past m_states m_refused m_text m_length m_tables m_all m_rowsBehind m_rowsMany m_forms m_lesser m_greater m_why m_checks m_numbers m_depths m_spot m_isFaulty m_orders m_letters m_parts m_hash)) (w2 := fun u => (wM cI q_m m_now m_aside m_past m_states m_refused m_text m_length m_tables m_all m_rowsBehind m_rowsMany m_forms m_lesser m_greater m_why m_checks m_numbers m_depths m_spot m_isFaulty m_orders m_letters m_parts m_hash)) C (c_M_manyOf (wp_b h)) mk_X5_manyOf wd_870 dX5_readsOrder_11 rfl rfl ⟨Nat.le_of_ble_eq_true rfl, Nat.le_of_ble_eq_true rfl⟩ [] [0, 1, 2, 3, 4, 5, 6, 7, 8, 9, 10, 11, 12, 13, 14, 15] [0, 1, 2, 3, 4, 5, 6, 7, 8, 9, 10, 11, 12, 13, 14, 15] ⟨rfl, rfl, by decide +kernel, by decide +kernel, by decide +kernel⟩ (by decide +kernel) (fun u => rfl) (Nat.le_of_ble_eq_true rfl) rfl (fun r13 u hw => ?_)
  have h := hw
  try dsimp only at h
  try dsimp only
  refine V_istore_n (pc := 14) (lv' := [(0, .ref (q_m 0)), (1, .int v11), (2, .int r13)]) C dX5_readsOrder_14 rfl [1, 2, 0] (by decide) rfl ?_
  refine V_aload_n (pc := 15) C 0 dX5_readsOrder_15 rfl rfl ?_
  refine V_iload_n (pc := 16) C 2 dX5_readsOrder_16 rfl rfl ?_
  refine V_if_ne (pc := 17) (tgt := 24) C dX5_readsOrder_17 (by decide) (fun c14 => ?_) (fun c14 => ?_)
  · replace h := wp_f h c14
    refine V_iconst (pc := 24) C dX5_readsOrder_24 ki_0 ?_
    refine V_put (pc := 25) (ws' := (wM cI q_m m_now m_aside m_past m_states m_refused m_text m_length m_tables m_all m_rowsBehind m_rowsMany m_forms m_lesser m_greater m_why m_checks m_numbers m_depths m_spot 0 m_orders m_letters m_parts m_hash)) C 0 19 inX5 tyX5_ok nmX5 wd_608 dX5_readsOrder_25 rfl rfl (by decide) rfl rfl rfl rfl rfl (Nat.le_of_ble_eq_true rfl) rfl ?_
    refine V_aload_n (pc := 28) C 0 dX5_readsOrder_28 rfl rfl ?_
    refine V_dup (pc := 29) C dX5_readsOrder_29 rfl ?_
    refine V_get (pc := 30) C 0 18 inX5 wd_607 dX5_readsOrder_30 rfl rfl (by decide) rfl rfl ?_
    refine V_aload_n (pc := 33) C 0 dX5_readsOrder_33 rfl rfl ?_
    refine V_get (pc := 34) C 0 19 inX5 wd_608 dX5_readsOrder_34 rfl rfl (by decide) rfl rfl ?_
    refine V_if_eq (pc := 37) (tgt := 44) C dX5_readsOrder_37 (by decide) (fun c15 => ?_) (fun c15 => absurd (by decide) c15)
    refine V_iconst (pc := 44) C dX5_readsOrder_44 ki_1 ?_
    refine V_iadd (pc := 45) C dX5_readsOrder_45 ?_
    obtain ⟨m_spot_16, em_spot_16, h⟩ := wp_l h
    refine V_topi (pc := 46) em_spot_16 ?_
    refine V_put (pc := 46) (ws' := (wM cI q_m m_now m_aside m_past m_states m_refused m_text m_length m_tables m_all m_rowsBehind m_rowsMany m_forms m_lesser m_greater m_why m_checks m_numbers m_depths m_spot_16 0 m_orders m_letters m_parts m_hash)) C 0 18 inX5 tyX5_ok nmX5 wd_607 dX5_readsOrder_46 rfl rfl (by decide) rfl rfl rfl rfl rfl (Nat.le_of_ble_eq_true rfl) rfl ?_
    refine V_iconst (pc := 49) C dX5_readsOrder_49 ki_0 ?_
    refine V_istore_n (pc := 50) (lv' := [(0, .ref (q_m 0)), (1, .int v11), (2, .int r13), (3, .int 0)]) C dX5_readsOrder_50 rfl [1, 2, 3, 0] (by decide) rfl ?_
    refine hL_51 _ _ _ _ _ (fun m_spot_17 m_isFaulty_18 m_parts_19 h => ?_) 1000 _ _ _ _ h
    try dsimp only at h
    refine V_aload_n (pc := 86) C 0 dX5_readsOrder_86 rfl rfl ?_
    refine V_get (pc := 87) C 0 19 inX5 wd_608 dX5_readsOrder_87 rfl rfl (by decide) rfl rfl ?_
    refine V_if_ne (pc := 90) (tgt := 138) C dX5_readsOrder_90 (by decide) (fun c20 => ?_) (fun c20 => ?_)
    · replace h := wp_f h c20
      refine V_aload_n (pc := 138) C 0 dX5_readsOrder_138 rfl rfl ?_
      refine V_get (pc := 139) C 0 19 inX5 wd_608 dX5_readsOrder_139 rfl rfl (by decide) rfl rfl ?_
      refine V_if_ne (pc := 142) (tgt := 165) C dX5_readsOrder_142 (by decide) (fun c21 => ?_) (fun c21 => absurd c21 c20)
      exact V_vret (pc := 165) C hQ (m_spot_17, m_isFaulty_18, m_orders, m_letters, m_parts_19) dX5_readsOrder_165 rfl (wp_s h)
    · replace h := wp_t h c20
      refine V_aload_n (pc := 93) C 0 dX5_readsOrder_93 rfl rfl ?_
      refine V_callVv (pc := 94) (As := []) (st := []) C (c_M_blanks (wp_b h)) mk_X5_blanks wd_861 dX5_readsOrder_94 0 rfl rfl rfl ⟨Nat.le_of_ble_eq_true rfl, Nat.le_of_ble_eq_true rfl⟩ (Nat.le_of_ble_eq_true rfl) rfl (fun m_spot_24 hw => ?_)
      have h := hw
      try dsimp only at h
      try dsimp only
      refine V_aload_n (pc := 97) C 0 dX5_readsOrder_97 rfl rfl ?_
      refine V_aload_n (pc := 98) C 0 dX5_readsOrder_98 rfl rfl ?_
      refine V_bipush (pc := 99) C dX5_readsOrder_99 kb_59 ?_
      refine V_bipush (pc := 101) C dX5_readsOrder_101 kb_59 ?_
      refine V_callVi (pc := 103) (As := [.int 59, .int 59]) (st := [.ref (q_m 0)]) C (c_M_isAt (wp_b h)) mk_X5_isAt wd_864 dX5_readsOrder_103 0 rfl rfl rfl ⟨Nat.le_of_ble_eq_true rfl, Nat.le_of_ble_eq_true rfl⟩ (Nat.le_of_ble_eq_true rfl) rfl (fun r26 u hw => ?_)
      obtain ⟨h, z27⟩ := hw
      try dsimp only at h
      try dsimp only
      refine V_if_ne (pc := 106) (tgt := 113) C dX5_readsOrder_106 (by decide) (fun c28 => ?_) (fun c28 => ?_)
      · replace h := wp_f h c28
        refine V_iconst (pc := 113) C dX5_readsOrder_113 ki_0 ?_
        refine V_put (pc := 114) (ws' := (wM cI q_m m_now m_aside m_past m_states m_refused m_text m_length m_tables m_all m_rowsBehind m_rowsMany m_forms m_lesser m_greater m_why m_checks m_numbers m_depths m_spot_24 0 m_orders m_letters m_parts_19 m_hash)) C 0 19 inX5 tyX5_ok nmX5 wd_608 dX5_readsOrder_114 rfl rfl (by decide) rfl rfl rfl rfl rfl (Nat.le_of_ble_eq_true rfl) rfl ?_
        refine V_aload_n (pc := 117) C 0 dX5_readsOrder_117 rfl rfl ?_
        refine V_dup (pc := 118) C dX5_readsOrder_118 rfl ?_
        refine V_get (pc := 119) C 0 18 inX5 wd_607 dX5_readsOrder_119 rfl rfl (by decide) rfl rfl ?_
        refine V_aload_n (pc := 122) C 0 dX5_readsOrder_122 rfl rfl ?_
        refine V_get (pc := 123) C 0 19 inX5 wd_608 dX5_readsOrder_123 rfl rfl (by decide) rfl rfl ?_
        refine V_if_eq (pc := 126) (tgt := 133) C dX5_readsOrder_126 (by decide) (fun c29 => ?_) (fun c29 => absurd (by decide) c29)
        refine V_iconst (pc := 133) C dX5_readsOrder_133 ki_1 ?_
        refine V_iadd (pc := 134) C dX5_readsOrder_134 ?_
        obtain ⟨m_spot_30, em_spot_30, h⟩ := wp_l h
        refine V_topi (pc := 135) em_spot_30 ?_
        refine V_put (pc := 135) (ws' := (wM cI q_m m_now m_aside m_past m_states m_refused m_text m_length m_tables m_all m_rowsBehind m_rowsMany m_forms m_lesser m_greater m_why m_checks m_numbers m_depths m_spot_30 0 m_orders m_letters m_parts_19 m_hash)) C 0 18 inX5 tyX5_ok nmX5 wd_607 dX5_readsOrder_135 rfl rfl (by decide) rfl rfl rfl rfl rfl (Nat.le_of_ble_eq_true rfl) rfl ?_
        refine V_aload_n (pc := 138) C 0 dX5_readsOrder_138 rfl rfl ?_
        refine V_get (pc := 139) C 0 19 inX5 wd_608 dX5_readsOrder_139 rfl rfl (by decide) rfl rfl ?_
        refine V_if_ne (pc := 142) (tgt := 165) C dX5_readsOrder_142 (by decide) (fun c31 => absurd (by decide) c31) (fun c31 => ?_)
        refine V_aload_n (pc := 145) C 0 dX5_readsOrder_145 rfl rfl ?_
        refine V_get (pc := 146) C 0 21 inX5 wd_610 dX5_readsOrder_146 rfl rfl (by decide) rfl rfl ?_
        refine V_aload_n (pc := 149) C 0 dX5_readsOrder_149 rfl rfl ?_
        refine V_get (pc := 150) C 0 20 inX5 wd_609 dX5_readsOrder_150 rfl rfl (by decide) rfl rfl ?_
        refine V_iload_n (pc := 153) C 1 dX5_readsOrder_153 rfl rfl ?_
        obtain ⟨b32, h⟩ := wp_c h
        obtain ⟨m_letters_33, em_letters_33, h⟩ := wp_l h
        refine V_iast (pc := 154) (ws' := (wM cI q_m m_now m_aside m_past m_states m_refused m_text m_length m_tables m_all m_rowsBehind m_rowsMany m_forms m_lesser m_greater m_why m_checks m_numbers m_depths m_spot_30 0 m_orders m_letters_33 m_parts_19 m_hash)) C 14 dX5_readsOrder_154 rfl b32 em_letters_33 rfl ?_
        refine V_aload_n (pc := 155) C 0 dX5_readsOrder_155 rfl rfl ?_
        refine V_dup (pc := 156) C dX5_readsOrder_156 rfl ?_
        refine V_get (pc := 157) C 0 20 inX5 wd_609 dX5_readsOrder_157 rfl rfl (by decide) rfl rfl ?_
        refine V_iconst (pc := 160) C dX5_readsOrder_160 ki_1 ?_
        refine V_iadd (pc := 161) C dX5_readsOrder_161 ?_
        obtain ⟨m_orders_34, em_orders_34, h⟩ := wp_l h
        refine V_topi (pc := 162) em_orders_34 ?_
        refine V_put (pc := 162) (ws' := (wM cI q_m m_now m_aside m_past m_states m_refused m_text m_length m_tables m_all m_rowsBehind m_rowsMany m_forms m_lesser m_greater m_why m_checks m_numbers m_depths m_spot_30 0 m_orders_34 m_letters_33 m_parts_19 m_hash)) C 0 20 inX5 tyX5_ok nmX5 wd_609 dX5_readsOrder_162 rfl rfl (by decide) rfl rfl rfl rfl rfl (Nat.le_of_ble_eq_true rfl) rfl ?_
        exact V_vret (pc := 165) C hQ (m_spot_30, 0, m_orders_34, m_letters_33, m_parts_19) dX5_readsOrder_165 rfl (wp_s h)
      · replace h := wp_t h c28
        refine V_iconst (pc := 109) C dX5_readsOrder_109 ki_1 ?_
        refine V_goto (pc := 110) (tgt := 114) C dX5_readsOrder_110 (by decide) ?_
        refine V_put (pc := 114) (ws' := (wM cI q_m m_now m_aside m_past m_states m_refused m_text m_length m_tables m_all m_rowsBehind m_rowsMany m_forms m_lesser m_greater m_why m_checks m_numbers m_depths m_spot_24 1 m_orders m_letters m_parts_19 m_hash)) C 0 19 inX5 tyX5_ok nmX5 wd_608 dX5_readsOrder_114 rfl rfl (by decide) rfl rfl rfl rfl rfl (Nat.le_of_ble_eq_true rfl) rfl ?_
        refine V_aload_n (pc := 117) C 0 dX5_readsOrder_117 rfl rfl ?_
        refine V_dup (pc := 118) C dX5_readsOrder_118 rfl ?_
        refine V_get (pc := 119) C 0 18 inX5 wd_607 dX5_readsOrder_119 rfl rfl (by decide) rfl rfl ?_
        refine V_aload_n (pc := 122) C 0 dX5_readsOrder_122 rfl rfl ?_
        refine V_get (pc := 123) C 0 19 inX5 wd_608 dX5_readsOrder_123 rfl rfl (by decide) rfl rfl ?_
        refine V_if_eq (pc := 126) (tgt := 133) C dX5_readsOrder_126 (by decide) (fun c35 => absurd c35 (by decide)) (fun c35 => ?_)
        refine V_iconst (pc := 129) C dX5_readsOrder_129 ki_0 ?_
        refine V_goto (pc := 130) (tgt := 134) C dX5_readsOrder_130 (by decide) ?_
        refine V_iadd (pc := 134) C dX5_readsOrder_134 ?_
        obtain ⟨m_spot_36, em_spot_36, h⟩ := wp_l h
        refine V_topi (pc := 135) em_spot_36 ?_
        refine V_put (pc := 135) (ws' := (wM cI q_m m_now m_aside m_past m_states m_refused m_text m_length m_tables m_all m_rowsBehind m_rowsMany m_forms m_lesser m_greater m_why m_checks m_numbers m_depths m_spot_36 1 m_orders m_letters m_parts_19 m_hash)) C 0 18 inX5 tyX5_ok nmX5 wd_607 dX5_readsOrder_135 rfl rfl (by decide) rfl rfl rfl rfl rfl (Nat.le_of_ble_eq_true rfl) rfl ?_
        refine V_aload_n (pc := 138) C 0 dX5_readsOrder_138 rfl rfl ?_
        refine V_get (pc := 139) C 0 19 inX5 wd_608 dX5_readsOrder_139 rfl rfl (by decide) rfl rfl ?_
        refine V_if_ne (pc := 142) (tgt := 165) C dX5_readsOrder_142 (by decide) (fun c37 => ?_) (fun c37 => absurd c37 (by decide))
        exact V_vret (pc := 165) C hQ (m_spot_36, 1, m_orders, m_letters, m_parts_19) dX5_readsOrder_165 rfl (wp_s h)
  · replace h := wp_t h c14
    refine V_iconst (pc := 20) C dX5_readsOrder_20 ki_1 ?_
    refine V_goto (pc := 21) (tgt := 25) C dX5_readsOrder_21 (by decide) ?_
    refine V_put (pc := 25) (ws' := (wM cI q_m m_now m_aside m_past m_states m_refused m_text m_length m_tables m_all m_rowsBehind m_rowsMany m_forms m_lesser m_greater m_why m_checks m_numbers m_depths m_spot 1 m_orders m_letters m_parts m_hash)) C 0 19 inX5 tyX5_ok nmX5 wd_608 dX5_readsOrder_25 rfl rfl (by decide) rfl rfl rfl rfl rfl (Nat.le_of_ble_eq_true rfl) rfl ?_
    refine V_aload_n (pc := 28) C 0 dX5_readsOrder_28 rfl rfl ?_
    refine V_dup (pc := 29) C dX5_readsOrder_29 rfl ?_
    refine V_get (pc := 30) C 0 18 inX5 wd_607 dX5_readsOrder_30 rfl rfl (by decide) rfl rfl ?_
    refine V_aload_n (pc := 33) C 0 dX5_readsOrder_33 rfl rfl ?_
    refine V_get (pc := 34) C 0 19 inX5 wd_608 dX5_readsOrder_34 rfl rfl (by decide) rfl rfl ?_
    refine V_if_eq (pc := 37) (tgt := 44) C dX5_readsOrder_37 (by decide) (fun c38 => absurd c38 (by decide)) (fun c38 => ?_)
    refine V_iconst (pc := 40) C dX5_readsOrder_40 ki_0 ?_
    refine V_goto (pc := 41) (tgt := 45) C dX5_readsOrder_41 (by decide) ?_
    refine V_iadd (pc := 45) C dX5_readsOrder_45 ?_
    obtain ⟨m_spot_39, em_spot_39, h⟩ := wp_l h
    refine V_topi (pc := 46) em_spot_39 ?_
    refine V_put (pc := 46) (ws' := (wM cI q_m m_now m_aside m_past m_states m_refused m_text m_length m_tables m_all m_rowsBehind m_rowsMany m_forms m_lesser m_greater m_why m_checks m_numbers m_depths m_spot_39 1 m_orders m_letters m_parts m_hash)) C 0 18 inX5 tyX5_ok nmX5 wd_607 dX5_readsOrder_46 rfl rfl (by decide) rfl rfl rfl rfl rfl (Nat.le_of_ble_eq_true rfl) rfl ?_
    refine V_iconst (pc := 49) C dX5_readsOrder_49 ki_0 ?_
    refine V_istore_n (pc := 50) (lv' := [(0, .ref (q_m 0)), (1, .int v11), (2, .int r13), (3, .int 0)]) C dX5_readsOrder_50 rfl [1, 2, 3, 0] (by decide) rfl ?_
    refine hL_51 _ _ _ _ _ (fun m_spot_40 m_isFaulty_41 m_parts_42 h => ?_) 1000 _ _ _ _ h
    try dsimp only at h
    refine V_aload_n (pc := 86) C 0 dX5_readsOrder_86 rfl rfl ?_
    refine V_get (pc := 87) C 0 19 inX5 wd_608 dX5_readsOrder_87 rfl rfl (by decide) rfl rfl ?_
    refine V_if_ne (pc := 90) (tgt := 138) C dX5_readsOrder_90 (by decide) (fun c43 => ?_) (fun c43 => ?_)
    · replace h := wp_f h c43
      refine V_aload_n (pc := 138) C 0 dX5_readsOrder_138 rfl rfl ?_
      refine V_get (pc := 139) C 0 19 inX5 wd_608 dX5_readsOrder_139 rfl rfl (by decide) rfl rfl ?_
      refine V_if_ne (pc := 142) (tgt := 165) C dX5_readsOrder_142 (by decide) (fun c44 => ?_) (fun c44 => absurd c44 c43)
      exact V_vret (pc := 165) C hQ (m_spot_40, m_isFaulty_41, m_orders, m_letters, m_parts_42) dX5_readsOrder_165 rfl (wp_s h)
    · replace h := wp_t h c43
      refine V_aload_n (pc := 93) C 0 dX5_readsOrder_93 rfl rfl ?_
      refine V_callVv (pc := 94) (As := []) (st := []) C (c_M_blanks (wp_b h)) mk_X5_blanks wd_861 dX5_readsOrder_94 0 rfl rfl rfl ⟨Nat.le_of_ble_eq_true rfl, Nat.le_of_ble_eq_true rfl⟩ (Nat.le_of_ble_eq_true rfl) rfl (fun m_spot_47 hw => ?_)
      have h := hw
      try dsimp only at h
      try dsimp only
      refine V_aload_n (pc := 97) C 0 dX5_readsOrder_97 rfl rfl ?_
      refine V_aload_n (pc := 98) C 0 dX5_readsOrder_98 rfl rfl ?_
      refine V_bipush (pc := 99) C dX5_readsOrder_99 kb_59 ?_
      refine V_bipush (pc := 101) C dX5_readsOrder_101 kb_59 ?_
      refine V_callVi (pc := 103) (As := [.int 59, .int 59]) (st := [.ref (q_m 0)]) C (c_M_isAt (wp_b h)) mk_X5_isAt wd_864 dX5_readsOrder_103 0 rfl rfl rfl ⟨Nat.le_of_ble_eq_true rfl, Nat.le_of_ble_eq_true rfl⟩ (Nat.le_of_ble_eq_true rfl) rfl (fun r49 u hw => ?_)
      obtain ⟨h, z50⟩ := hw
      try dsimp only at h
      try dsimp only
      refine V_if_ne (pc := 106) (tgt := 113) C dX5_readsOrder_106 (by decide) (fun c51 => ?_) (fun c51 => ?_)
      · replace h := wp_f h c51
        refine V_iconst (pc := 113) C dX5_readsOrder_113 ki_0 ?_
        refine V_put (pc := 114) (ws' := (wM cI q_m m_now m_aside m_past m_states m_refused m_text m_length m_tables m_all m_rowsBehind m_rowsMany m_forms m_lesser m_greater m_why m_checks m_numbers m_depths m_spot_47 0 m_orders m_letters m_parts_42 m_hash)) C 0 19 inX5 tyX5_ok nmX5 wd_608 dX5_readsOrder_114 rfl rfl (by decide) rfl rfl rfl rfl rfl (Nat.le_of_ble_eq_true rfl) rfl ?_
        refine V_aload_n (pc := 117) C 0 dX5_readsOrder_117 rfl rfl ?_
        refine V_dup (pc := 118) C dX5_readsOrder_118 rfl ?_
        refine V_get (pc := 119) C 0 18 inX5 wd_607 dX5_readsOrder_119 rfl rfl (by decide) rfl rfl ?_
        refine V_aload_n (pc := 122) C 0 dX5_readsOrder_122 rfl rfl ?_
        refine V_get (pc := 123) C 0 19 inX5 wd_608 dX5_readsOrder_123 rfl rfl (by decide) rfl rfl ?_
        refine V_if_eq (pc := 126) (tgt := 133) C dX5_readsOrder_126 (by decide) (fun c52 => ?_) (fun c52 => absurd (by decide) c52)
        refine V_iconst (pc := 133) C dX5_readsOrder_133 ki_1 ?_
        refine V_iadd (pc := 134) C dX5_readsOrder_134 ?_
        obtain ⟨m_spot_53, em_spot_53, h⟩ := wp_l h
        refine V_topi (pc := 135) em_spot_53 ?_
        refine V_put (pc := 135) (ws' := (wM cI q_m m_now m_aside m_past m_states m_refused m_text m_length m_tables m_all m_rowsBehind m_rowsMany m_forms m_lesser m_greater m_why m_checks m_numbers m_depths m_spot_53 0 m_orders m_letters m_parts_42 m_hash)) C 0 18 inX5 tyX5_ok nmX5 wd_607 dX5_readsOrder_135 rfl rfl (by decide) rfl rfl rfl rfl rfl (Nat.le_of_ble_eq_true rfl) rfl ?_
        refine V_aload_n (pc := 138) C 0 dX5_readsOrder_138 rfl rfl ?_
        refine V_get (pc := 139) C 0 19 inX5 wd_608 dX5_readsOrder_139 rfl rfl (by decide) rfl rfl ?_
        refine V_if_ne (pc := 142) (tgt := 165) C dX5_readsOrder_142 (by decide) (fun c54 => absurd (by decide) c54) (fun c54 => ?_)
        refine V_aload_n (pc := 145) C 0 dX5_readsOrder_145 rfl rfl ?_
        refine V_get (pc := 146) C 0 21 inX5 wd_610 dX5_readsOrder_146 rfl rfl (by decide) rfl rfl ?_
        refine V_aload_n (pc := 149) C 0 dX5_readsOrder_149 rfl rfl ?_
        refine V_get (pc := 150) C 0 20 inX5 wd_609 dX5_readsOrder_150 rfl rfl (by decide) rfl rfl ?_
        refine V_iload_n (pc := 153) C 1 dX5_readsOrder_153 rfl rfl ?_
        obtain ⟨b55, h⟩ := wp_c h
        obtain ⟨m_letters_56, em_letters_56, h⟩ := wp_l h
        refine V_iast (pc := 154) (ws' := (wM cI q_m m_now m_aside m_past m_states m_refused m_text m_length m_tables m_all m_rowsBehind m_rowsMany m_forms m_lesser m_greater m_why m_checks m_numbers m_depths m_spot_53 0 m_orders m_letters_56 m_parts_42 m_hash)) C 14 dX5_readsOrder_154 rfl b55 em_letters_56 rfl ?_
        refine V_aload_n (pc := 155) C 0 dX5_readsOrder_155 rfl rfl ?_
        refine V_dup (pc := 156) C dX5_readsOrder_156 rfl ?_
        refine V_get (pc := 157) C 0 20 inX5 wd_609 dX5_readsOrder_157 rfl rfl (by decide) rfl rfl ?_
        refine V_iconst (pc := 160) C dX5_readsOrder_160 ki_1 ?_
        refine V_iadd (pc := 161) C dX5_readsOrder_161 ?_
        obtain ⟨m_orders_57, em_orders_57, h⟩ := wp_l h
        refine V_topi (pc := 162) em_orders_57 ?_
        refine V_put (pc := 162) (ws' := (wM cI q_m m_now m_aside m_past m_states m_refused m_text m_length m_tables m_all m_rowsBehind m_rowsMany m_forms m_lesser m_greater m_why m_checks m_numbers m_depths m_spot_53 0 m_orders_57 m_letters_56 m_parts_42 m_hash)) C 0 20 inX5 tyX5_ok nmX5 wd_609 dX5_readsOrder_162 rfl rfl (by decide) rfl rfl rfl rfl rfl (Nat.le_of_ble_eq_true rfl) rfl ?_
        exact V_vret (pc := 165) C hQ (m_spot_53, 0, m_orders_57, m_letters_56, m_parts_42) dX5_readsOrder_165 rfl (wp_s h)
      · replace h := wp_t h c51
        refine V_iconst (pc := 109) C dX5_readsOrder_109 ki_1 ?_
        refine V_goto (pc := 110) (tgt := 114) C dX5_readsOrder_110 (by decide) ?_
        refine V_put (pc := 114) (ws' := (wM cI q_m m_now m_aside m_past m_states m_refused m_text m_length m_tables m_all m_rowsBehind m_rowsMany m_forms m_lesser m_greater m_why m_checks m_numbers m_depths m_spot_47 1 m_orders m_letters m_parts_42 m_hash)) C 0 19 inX5 tyX5_ok nmX5 wd_608 dX5_readsOrder_114 rfl rfl (by decide) rfl rfl rfl rfl rfl (Nat.le_of_ble_eq_true rfl) rfl ?_
        refine V_aload_n (pc := 117) C 0 dX5_readsOrder_117 rfl rfl ?_
        refine V_dup (pc := 118) C dX5_readsOrder_118 rfl ?_
        refine V_get (pc := 119) C 0 18 inX5 wd_607 dX5_readsOrder_119 rfl rfl (by decide) rfl rfl ?_
        refine V_aload_n (pc := 122) C 0 dX5_readsOrder_122 rfl rfl ?_
        refine V_get (pc := 123) C 0 19 inX5 wd_608 dX5_readsOrder_123 rfl rfl (by decide) rfl rfl ?_
        refine V_if_eq (pc := 126) (tgt := 133) C dX5_readsOrder_126 (by decide) (fun c58 => absurd c58 (by decide)) (fun c58 => ?_)
        refine V_iconst (pc := 129) C dX5_readsOrder_129 ki_0 ?_
        refine V_goto (pc := 130) (tgt := 134) C dX5_readsOrder_130 (by decide) ?_
        refine V_iadd (pc := 134) C dX5_readsOrder_134 ?_
        obtain ⟨m_spot_59, em_spot_59, h⟩ := wp_l h
        refine V_topi (pc := 135) em_spot_59 ?_
        refine V_put (pc := 135) (ws' := (wM cI q_m m_now m_aside m_past m_states m_refused m_text m_length m_tables m_all m_rowsBehind m_rowsMany m_forms m_lesser m_greater m_why m_checks m_numbers m_depths m_spot_59 1 m_orders m_letters m_parts_42 m_hash)) C 0 18 inX5 tyX5_ok nmX5 wd_607 dX5_readsOrder_135 rfl rfl (by decide) rfl rfl rfl rfl rfl (Nat.le_of_ble_eq_true rfl) rfl ?_
        refine V_aload_n (pc := 138) C 0 dX5_readsOrder_138 rfl rfl ?_
        refine V_get (pc := 139) C 0 19 inX5 wd_608 dX5_readsOrder_139 rfl rfl (by decide) rfl rfl ?_
        refine V_if_ne (pc := 142) (tgt := 165) C dX5_readsOrder_142 (by decide) (fun c60 => ?_) (fun c60 => absurd c60 (by decide))
        exact V_vret (pc := 165) C hQ (m_spot_59, 1, m_orders, m_letters, m_parts_42) dX5_readsOrder_165 rfl (wp_s h)
set_option maxRecDepth 100000 in
set_option maxHeartbeats 4000000 in
theorem c_M_reads {l : Launch} {D : va_G} {cI cC : ClassId} {q_m : Nat → Nat} {m_now : Nat → Int32} {m_aside : Nat → Int32} {m_past : Nat → Int32} {m_states : Int32} {m_refused : Nat → Int32} {m_text : Nat → Int32} {m_length : Int32} {m_tables : Nat → Int32} {m_all : Int32} {m_rowsBehind : Nat → Int32} {m_rowsMany : Int32} {m_forms : Nat → Int32} {m_lesser : Nat → Int32} {m_greater : Nat → Int32} {m_why : Nat → Int32} {m_checks : Int32} {m_numbers : Nat → Int32} {m_depths : Nat → Int32} {m_spot : Int32} {m_isFaulty : Int32} {m_orders : Int32} {m_letters : Nat → Int32} {m_parts : Nat → Int32} {m_hash : Int64} {post : Int32 × Int32 × Int32 × Int32 × (Nat → Int32) × (Nat → Int32) → Prop} (h : wpO (M_reads m_text m_length m_spot m_isFaulty m_orders m_letters m_parts) post) : Cn l yX5_reads cX5_reads 1 (some .boolean) 5 109 D cI cC [.ref (q_m 0)] (wM cI q_m m_now m_aside m_past m_states m_refused m_text m_length m_tables m_all m_rowsBehind m_rowsMany m_forms m_lesser m_greater m_why m_checks m_numbers m_depths m_spot m_isFaulty m_orders m_letters m_parts m_hash) (QI D cI cC (S := Int32 × Int32 × Int32 × (Nat → Int32) × (Nat → Int32)) (fun u => (wM cI q_m m_now m_aside m_past m_states m_refused m_text m_length m_tables m_all m_rowsBehind m_rowsMany m_forms m_lesser m_greater m_why m_checks m_numbers m_depths u.1 u.2.1 u.2.2.1 u.2.2.2.1 u.2.2.2.2 m_hash)) (fun r u => post (r, u) ∧ narrow .boolean (.int r) = .int r)) := by
  refine Cn.ofV (own := RX5) (lv0 := [(0, .ref (q_m 0))]) rfl (by decide) (Nat.le_of_ble_eq_true rfl) rfl ?_
  intro p e s m below meth c A args Q hQ C
  have hL_34 : ∀ (K : Int32 → Int32 → Int32 → (Nat → Int32) → (Nat → Int32) → Option (Int32 × Int32 × Int32 × Int32 × (Nat → Int32) × (Nat → Int32))), (∀ (m_spot : Int32) (m_isFaulty : Int32) (m_orders : Int32) (m_letters : Nat → Int32) (m_parts : Nat → Int32), wpO (K m_spot m_isFaulty m_orders m_letters m_parts) post → V p l e (rmC 5 109) s m args below meth c D A 1 0 0 Q (wM cI q_m m_now m_aside m_past m_states m_refused m_text m_length m_tables m_all m_rowsBehind m_rowsMany m_forms m_lesser m_greater m_why m_checks m_numbers m_depths m_spot m_isFaulty m_orders m_letters m_parts m_hash) [(0, .ref (q_m 0))] 70 []) → ∀ (n : Nat) (m_spot : Int32) (m_isFaulty : Int32) (m_orders : Int32) (m_letters : Nat → Int32) (m_parts : Nat → Int32), wpO (M_reads_34 K m_text m_length n m_spot m_isFaulty m_orders m_letters m_parts) post → V p l e (rmC 5 109) s m args below meth c D A 1 0 0 Q (wM cI q_m m_now m_aside m_past m_states m_refused m_text m_length m_tables m_all m_rowsBehind m_rowsMany m_forms m_lesser m_greater m_why m_checks m_numbers m_depths m_spot m_isFaulty m_orders m_letters m_parts m_hash) [(0, .ref (q_m 0))] 34 [] := by
    intro K   hK n
    induction n with
    | zero => intro m_spot m_isFaulty m_orders m_letters m_parts h; rw [M_reads_34] at h; exact (wp_n h).elim
    | succ n ih =>
      intro m_spot m_isFaulty m_orders m_letters m_parts h
      rw [M_reads_34] at h
      refine V_aload_n (pc := 34) C 0 dX5_reads_34 rfl rfl ?_
      refine V_get (pc := 35) C 0 19 inX5 wd_608 dX5_reads_35 rfl rfl (by decide) rfl rfl ?_
      refine V_if_ne (pc := 38) (tgt := 70) C dX5_reads_38 (by decide) (fun c1 => ?_) (fun c1 => ?_)
      · replace h := wp_f h c1
        exact hK _ _ _ _ _ h
      · replace h := wp_t h c1
        refine V_aload_n (pc := 41) C 0 dX5_reads_41 rfl rfl ?_
        refine V_get (pc := 42) C 0 18 inX5 wd_607 dX5_reads_42 rfl rfl (by decide) rfl rfl ?_
        refine V_aload_n (pc := 45) C 0 dX5_reads_45 rfl rfl ?_
        refine V_get (pc := 46) C 0 6 inX5 wd_595 dX5_reads_46 rfl rfl (by decide) rfl rfl ?_
        refine V_icmp_ge (pc := 49) (tgt := 70) C dX5_reads_49 (by decide) (fun c2 => ?_) (fun c2 => ?_)
        · replace h := wp_t h c2
          exact hK _ _ _ _ _ h
        · replace h := wp_f h c2
          refine V_aload_n (pc := 52) C 0 dX5_reads_52 rfl rfl ?_
          refine V_callVv (pc := 53) (As := []) (st := []) C (c_M_readsOrder (wp_b h)) mk_X5_readsOrder wd_867 dX5_reads_53 0 rfl rfl rfl ⟨Nat.le_of_ble_eq_true rfl, Nat.le_of_ble_eq_true rfl⟩ (Nat.le_of_ble_eq_true rfl) rfl (fun u hw => ?_)
          obtain ⟨m_spot_5, m_isFaulty_6, m_orders_7, m_letters_8, m_parts_9⟩ := u
          have h := hw
          try dsimp only at h
          try dsimp only
          refine V_aload_n (pc := 56) C 0 dX5_reads_56 rfl rfl ?_
          refine V_get (pc := 57) C 0 19 inX5 wd_608 dX5_reads_57 rfl rfl (by decide) rfl rfl ?_
          refine V_if_ne (pc := 60) (tgt := 34) C dX5_reads_60 (by decide) (fun c10 => ?_) (fun c10 => ?_)
          · replace h := wp_f h c10
            exact ih _ _ _ _ _ h
          · replace h := wp_t h c10
            refine V_aload_n (pc := 63) C 0 dX5_reads_63 rfl rfl ?_
            refine V_callVv (pc := 64) (As := []) (st := []) C (c_M_blanks (wp_b h)) mk_X5_blanks wd_861 dX5_reads_64 0 rfl rfl rfl ⟨Nat.le_of_ble_eq_true rfl, Nat.le_of_ble_eq_true rfl⟩ (Nat.le_of_ble_eq_true rfl) rfl (fun m_spot_13 hw => ?_)
            have h := hw
            try dsimp only at h
            try dsimp only
            refine V_goto (pc := 67) (tgt := 34) C dX5_reads_67 (by decide) ?_
            exact ih _ _ _ _ _ h
  unfold M_reads at h
  refine V_aload_n (pc := 0) C 0 dX5_reads_0 rfl rfl ?_
  refine V_iconst (pc := 1) C dX5_reads_1 ki_0 ?_
  refine V_put (pc := 2) (ws' := (wM cI q_m m_now m_aside m_past m_states m_refused m_text m_length m_tables m_all m_rowsBehind m_rowsMany m_forms m_lesser m_greater m_why m_checks m_numbers m_depths 0 m_isFaulty m_orders m_letters m_parts m_hash)) C 0 18 inX5 tyX5_ok nmX5 wd_607 dX5_reads_2 rfl rfl (by decide) rfl rfl rfl rfl rfl (Nat.le_of_ble_eq_true rfl) rfl ?_
  refine V_aload_n (pc := 5) C 0 dX5_reads_5 rfl rfl ?_
  refine V_iconst (pc := 6) C dX5_reads_6 ki_0 ?_
  refine V_put (pc := 7) (ws' := (wM cI q_m m_now m_aside m_past m_states m_refused m_text m_length m_tables m_all m_rowsBehind m_rowsMany m_forms m_lesser m_greater m_why m_checks m_numbers m_depths 0 m_isFaulty 0 m_letters m_parts m_hash)) C 0 20 inX5 tyX5_ok nmX5 wd_609 dX5_reads_7 rfl rfl (by decide) rfl rfl rfl rfl rfl (Nat.le_of_ble_eq_true rfl) rfl ?_
  refine V_aload_n (pc := 10) C 0 dX5_reads_10 rfl rfl ?_
  refine V_callVv (pc := 11) (As := []) (st := []) C (c_M_blanks (wp_b h)) mk_X5_blanks wd_861 dX5_reads_11 0 rfl rfl rfl ⟨Nat.le_of_ble_eq_true rfl, Nat.le_of_ble_eq_true rfl⟩ (Nat.le_of_ble_eq_true rfl) rfl (fun m_spot_16 hw => ?_)
  have h := hw
  try dsimp only at h
  try dsimp only
  refine V_aload_n (pc := 14) C 0 dX5_reads_14 rfl rfl ?_
  refine V_aload_n (pc := 15) C 0 dX5_reads_15 rfl rfl ?_
  refine V_get (pc := 16) C 0 18 inX5 wd_607 dX5_reads_16 rfl rfl (by decide) rfl rfl ?_
  refine V_aload_n (pc := 19) C 0 dX5_reads_19 rfl rfl ?_
  refine V_get (pc := 20) C 0 6 inX5 wd_595 dX5_reads_20 rfl rfl (by decide) rfl rfl ?_
  refine V_icmp_ne (pc := 23) (tgt := 30) C dX5_reads_23 (by decide) (fun c17 => ?_) (fun c17 => ?_)
  · replace h := wp_f h c17
    refine V_iconst (pc := 30) C dX5_reads_30 ki_0 ?_
    refine V_put (pc := 31) (ws' := (wM cI q_m m_now m_aside m_past m_states m_refused m_text m_length m_tables m_all m_rowsBehind m_rowsMany m_forms m_lesser m_greater m_why m_checks m_numbers m_depths m_spot_16 0 0 m_letters m_parts m_hash)) C 0 19 inX5 tyX5_ok nmX5 wd_608 dX5_reads_31 rfl rfl (by decide) rfl rfl rfl rfl rfl (Nat.le_of_ble_eq_true rfl) rfl ?_
    refine hL_34 _ (fun m_spot_18 m_isFaulty_19 m_orders_20 m_letters_21 m_parts_22 h => ?_) 1000 _ _ _ _ _ h
    try dsimp only at h
    refine V_aload_n (pc := 70) C 0 dX5_reads_70 rfl rfl ?_
    refine V_get (pc := 71) C 0 19 inX5 wd_608 dX5_reads_71 rfl rfl (by decide) rfl rfl ?_
    refine V_if_ne (pc := 74) (tgt := 81) C dX5_reads_74 (by decide) (fun c23 => ?_) (fun c23 => ?_)
    · replace h := wp_f h c23
      refine V_iconst (pc := 81) C dX5_reads_81 ki_0 ?_
      exact V_iret (pc := 82) C hQ (m_spot_18, m_isFaulty_19, m_orders_20, m_letters_21, m_parts_22) dX5_reads_82 rfl rfl ⟨wp_s h, rfl⟩
    · replace h := wp_t h c23
      refine V_iconst (pc := 77) C dX5_reads_77 ki_1 ?_
      refine V_goto (pc := 78) (tgt := 82) C dX5_reads_78 (by decide) ?_
      exact V_iret (pc := 82) C hQ (m_spot_18, m_isFaulty_19, m_orders_20, m_letters_21, m_parts_22) dX5_reads_82 rfl rfl ⟨wp_s h, rfl⟩
  · replace h := wp_t h c17
    refine V_iconst (pc := 26) C dX5_reads_26 ki_1 ?_
    refine V_goto (pc := 27) (tgt := 31) C dX5_reads_27 (by decide) ?_
    refine V_put (pc := 31) (ws' := (wM cI q_m m_now m_aside m_past m_states m_refused m_text m_length m_tables m_all m_rowsBehind m_rowsMany m_forms m_lesser m_greater m_why m_checks m_numbers m_depths m_spot_16 1 0 m_letters m_parts m_hash)) C 0 19 inX5 tyX5_ok nmX5 wd_608 dX5_reads_31 rfl rfl (by decide) rfl rfl rfl rfl rfl (Nat.le_of_ble_eq_true rfl) rfl ?_
    refine hL_34 _ (fun m_spot_24 m_isFaulty_25 m_orders_26 m_letters_27 m_parts_28 h => ?_) 1000 _ _ _ _ _ h
    try dsimp only at h
    refine V_aload_n (pc := 70) C 0 dX5_reads_70 rfl rfl ?_
    refine V_get (pc := 71) C 0 19 inX5 wd_608 dX5_reads_71 rfl rfl (by decide) rfl rfl ?_
    refine V_if_ne (pc := 74) (tgt := 81) C dX5_reads_74 (by decide) (fun c29 => ?_) (fun c29 => ?_)
    · replace h := wp_f h c29
      refine V_iconst (pc := 81) C dX5_reads_81 ki_0 ?_
      exact V_iret (pc := 82) C hQ (m_spot_24, m_isFaulty_25, m_orders_26, m_letters_27, m_parts_28) dX5_reads_82 rfl rfl ⟨wp_s h, rfl⟩
    · replace h := wp_t h c29
      refine V_iconst (pc := 77) C dX5_reads_77 ki_1 ?_
      refine V_goto (pc := 78) (tgt := 82) C dX5_reads_78 (by decide) ?_
      exact V_iret (pc := 82) C hQ (m_spot_24, m_isFaulty_25, m_orders_26, m_letters_27, m_parts_28) dX5_reads_82 rfl rfl ⟨wp_s h, rfl⟩
set_option maxRecDepth 100000 in
set_option maxHeartbeats 4000000 in
theorem c_M_doesOrder {l : Launch} {D : va_G} {cI cC : ClassId} {q_m : Nat → Nat} {m_now : Nat → Int32} {m_aside : Nat → Int32} {m_past : Nat → Int32} {m_states : Int32} {m_refused : Nat → Int32} {m_text : Nat → Int32} {m_length : Int32} {m_tables : Nat → Int32} {m_all : Int32} {m_rowsBehind : Nat → Int32} {m_rowsMany : Int32} {m_forms : Nat → Int32} {m_lesser : Nat → Int32} {m_greater : Nat → Int32} {m_why : Nat → Int32} {m_checks : Int32} {m_numbers : Nat → Int32} {m_depths : Nat → Int32} {m_spot : Int32} {m_isFaulty : Int32} {m_orders : Int32} {m_letters : Nat → Int32} {m_parts : Nat → Int32} {m_hash : Int64} {a0 : Int32} {post : Int32 × (Nat → Int32) → Prop} (h : wpO (M_doesOrder m_now m_letters m_parts a0) post) : Cn l yX5_doesOrder cX5_doesOrder 4 (some .int) 3 71 D cI cC [.ref (q_m 0), .int a0] (wM cI q_m m_now m_aside m_past m_states m_refused m_text m_length m_tables m_all m_rowsBehind m_rowsMany m_forms m_lesser m_greater m_why m_checks m_numbers m_depths m_spot m_isFaulty m_orders m_letters m_parts m_hash) (QI D cI cC (S := (Nat → Int32)) (fun u => (wM cI q_m u m_aside m_past m_states m_refused m_text m_length m_tables m_all m_rowsBehind m_rowsMany m_forms m_lesser m_greater m_why m_checks m_numbers m_depths m_spot m_isFaulty m_orders m_letters m_parts m_hash)) (fun r u => post (r, u))) := by
  refine Cn.ofV (own := RX5) (lv0 := [(0, .ref (q_m 0)), (1, .int a0)]) rfl (by decide) (Nat.le_of_ble_eq_true rfl) rfl ?_
  intro p e s m below meth c A args Q hQ C
  unfold M_doesOrder at h
  refine V_aload_n (pc := 0) C 0 dX5_doesOrder_0 rfl rfl ?_
  refine V_get (pc := 1) C 0 22 inX5 wd_611 dX5_doesOrder_1 rfl rfl (by decide) rfl rfl ?_
  refine V_iconst (pc := 4) C dX5_doesOrder_4 ki_3 ?_
  refine V_iload_n (pc := 5) C 1 dX5_doesOrder_5 rfl rfl ?_
  refine V_imul (pc := 6) C dX5_doesOrder_6 ?_
  obtain ⟨b1, h⟩ := wp_c h
  refine V_iald (pc := 7) C 15 dX5_doesOrder_7 rfl b1 ?_
  obtain ⟨v2, ev2, h⟩ := wp_l h
  refine V_topi (pc := 8) ev2 ?_
  refine V_istore_n (pc := 8) (lv' := [(0, .ref (q_m 0)), (1, .int a0), (2, .int v2)]) C dX5_doesOrder_8 rfl [1, 2, 0] (by decide) rfl ?_
  refine V_aload_n (pc := 9) C 0 dX5_doesOrder_9 rfl rfl ?_
  refine V_get (pc := 10) C 0 22 inX5 wd_611 dX5_doesOrder_10 rfl rfl (by decide) rfl rfl ?_
  refine V_iconst (pc := 13) C dX5_doesOrder_13 ki_3 ?_
  refine V_iload_n (pc := 14) C 1 dX5_doesOrder_14 rfl rfl ?_
  refine V_imul (pc := 15) C dX5_doesOrder_15 ?_
  refine V_iconst (pc := 16) C dX5_doesOrder_16 ki_1 ?_
  refine V_iadd (pc := 17) C dX5_doesOrder_17 ?_
  obtain ⟨b3, h⟩ := wp_c h
  refine V_iald (pc := 18) C 15 dX5_doesOrder_18 rfl b3 ?_
  obtain ⟨v4, ev4, h⟩ := wp_l h
  refine V_topi (pc := 19) ev4 ?_
  refine V_istore_n (pc := 19) (lv' := [(0, .ref (q_m 0)), (1, .int a0), (2, .int v2), (3, .int v4)]) C dX5_doesOrder_19 rfl [1, 2, 3, 0] (by decide) rfl ?_
  refine V_aload_n (pc := 20) C 0 dX5_doesOrder_20 rfl rfl ?_
  refine V_get (pc := 21) C 0 21 inX5 wd_610 dX5_doesOrder_21 rfl rfl (by decide) rfl rfl ?_
  refine V_iload_n (pc := 24) C 1 dX5_doesOrder_24 rfl rfl ?_
  obtain ⟨b5, h⟩ := wp_c h
  refine V_iald (pc := 25) C 14 dX5_doesOrder_25 rfl b5 ?_
  by_cases c6 : (m_letters (Int32.toNatClampNeg a0)) = 103
  · replace h := wp_t h c6
    refine V_topi (pc := 26) (y := 103) c6.symm ?_
    refine V_lookup (pc := 26) (tgt := 82) C dX5_doesOrder_26 (by decide) rfl (by decide) ?_
    refine V_aload_n (pc := 82) C 0 dX5_doesOrder_82 rfl rfl ?_
    refine V_iload_n (pc := 83) C 2 dX5_doesOrder_83 rfl rfl ?_
    refine V_iload_n (pc := 84) C 3 dX5_doesOrder_84 rfl rfl ?_
    refine V_callVi (pc := 85) (As := [.int v2, .int v4]) (st := []) C (c_M_addsGate (wp_b h)) mk_X5_addsGate wd_649 dX5_doesOrder_85 0 rfl rfl rfl ⟨Nat.le_of_ble_eq_true rfl, Nat.le_of_ble_eq_true rfl⟩ (Nat.le_of_ble_eq_true rfl) rfl (fun r8 m_now_9 hw => ?_)
    have h := hw
    try dsimp only at h
    try dsimp only
    exact V_iret (pc := 88) C hQ m_now_9 dX5_doesOrder_88 (vp_nar_int _) rfl (wp_s h)
  · replace h := wp_f h c6
    by_cases c10 : (m_letters (Int32.toNatClampNeg a0)) = 105
    · replace h := wp_t h c10
      refine V_topi (pc := 26) (y := 105) c10.symm ?_
      refine V_lookup (pc := 26) (tgt := 76) C dX5_doesOrder_26 (by decide) rfl (by decide) ?_
      refine V_aload_n (pc := 76) C 0 dX5_doesOrder_76 rfl rfl ?_
      refine V_iload_n (pc := 77) C 2 dX5_doesOrder_77 rfl rfl ?_
      refine V_callVi (pc := 78) (As := [.int v2]) (st := []) C (c_M_begins (wp_b h)) mk_X5_begins wd_627 dX5_doesOrder_78 0 rfl rfl rfl ⟨Nat.le_of_ble_eq_true rfl, Nat.le_of_ble_eq_true rfl⟩ (Nat.le_of_ble_eq_true rfl) rfl (fun r12 m_now_13 hw => ?_)
      have h := hw
      try dsimp only at h
      try dsimp only
      exact V_iret (pc := 81) C hQ m_now_13 dX5_doesOrder_81 (vp_nar_int _) rfl (wp_s h)
    · replace h := wp_f h c10
      by_cases c14 : (m_letters (Int32.toNatClampNeg a0)) = 109
      · replace h := wp_t h c14
        refine V_topi (pc := 26) (y := 109) c14.symm ?_
        refine V_lookup (pc := 26) (tgt := 96) C dX5_doesOrder_26 (by decide) rfl (by decide) ?_
        refine V_aload_n (pc := 96) C 0 dX5_doesOrder_96 rfl rfl ?_
        refine V_iload_n (pc := 97) C 2 dX5_doesOrder_97 rfl rfl ?_
        refine V_iload_n (pc := 98) C 3 dX5_doesOrder_98 rfl rfl ?_
        refine V_aload_n (pc := 99) C 0 dX5_doesOrder_99 rfl rfl ?_
        refine V_get (pc := 100) C 0 22 inX5 wd_611 dX5_doesOrder_100 rfl rfl (by decide) rfl rfl ?_
        refine V_iconst (pc := 103) C dX5_doesOrder_103 ki_3 ?_
        refine V_iload_n (pc := 104) C 1 dX5_doesOrder_104 rfl rfl ?_
        refine V_imul (pc := 105) C dX5_doesOrder_105 ?_
        refine V_iconst (pc := 106) C dX5_doesOrder_106 ki_2 ?_
        refine V_iadd (pc := 107) C dX5_doesOrder_107 ?_
        obtain ⟨b15, h⟩ := wp_c h
        refine V_iald (pc := 108) C 15 dX5_doesOrder_108 rfl b15 ?_
        refine V_callVi (pc := 109) (As := [.int v2, .int v4, .int (m_parts (Int32.toNatClampNeg (((3 : Int32) * a0) + 2)))]) (st := []) C (c_M_addsMux (wp_b h)) mk_X5_addsMux wd_675 dX5_doesOrder_109 0 rfl rfl rfl ⟨Nat.le_of_ble_eq_true rfl, Nat.le_of_ble_eq_true rfl⟩ (Nat.le_of_ble_eq_true rfl) rfl (fun r17 m_now_18 hw => ?_)
        have h := hw
        try dsimp only at h
        try dsimp only
        exact V_iret (pc := 112) C hQ m_now_18 dX5_doesOrder_112 (vp_nar_int _) rfl (wp_s h)
      · replace h := wp_f h c14
        by_cases c19 : (m_letters (Int32.toNatClampNeg a0)) = 111
        · replace h := wp_t h c19
          refine V_topi (pc := 26) (y := 111) c19.symm ?_
          refine V_lookup (pc := 26) (tgt := 113) C dX5_doesOrder_26 (by decide) rfl (by decide) ?_
          refine V_aload_n (pc := 113) C 0 dX5_doesOrder_113 rfl rfl ?_
          refine V_iload_n (pc := 114) C 2 dX5_doesOrder_114 rfl rfl ?_
          refine V_iload_n (pc := 115) C 3 dX5_doesOrder_115 rfl rfl ?_
          refine V_callVi (pc := 116) (As := [.int v2, .int v4]) (st := []) C (c_M_addsOut (wp_b h)) mk_X5_addsOut wd_682 dX5_doesOrder_116 0 rfl rfl rfl ⟨Nat.le_of_ble_eq_true rfl, Nat.le_of_ble_eq_true rfl⟩ (Nat.le_of_ble_eq_true rfl) rfl (fun r21 m_now_22 hw => ?_)
          have h := hw
          try dsimp only at h
          try dsimp only
          exact V_iret (pc := 119) C hQ m_now_22 dX5_doesOrder_119 (vp_nar_int _) rfl (wp_s h)
        · replace h := wp_f h c19
          by_cases c23 : (m_letters (Int32.toNatClampNeg a0)) = 120
          · replace h := wp_t h c23
            refine V_topi (pc := 26) (y := 120) c23.symm ?_
            refine V_lookup (pc := 26) (tgt := 89) C dX5_doesOrder_26 (by decide) rfl (by decide) ?_
            refine V_aload_n (pc := 89) C 0 dX5_doesOrder_89 rfl rfl ?_
            refine V_iload_n (pc := 90) C 2 dX5_doesOrder_90 rfl rfl ?_
            refine V_iload_n (pc := 91) C 3 dX5_doesOrder_91 rfl rfl ?_
            refine V_callVi (pc := 92) (As := [.int v2, .int v4]) (st := []) C (c_M_addsXor (wp_b h)) mk_X5_addsXor wd_662 dX5_doesOrder_92 0 rfl rfl rfl ⟨Nat.le_of_ble_eq_true rfl, Nat.le_of_ble_eq_true rfl⟩ (Nat.le_of_ble_eq_true rfl) rfl (fun r25 m_now_26 hw => ?_)
            have h := hw
            try dsimp only at h
            try dsimp only
            exact V_iret (pc := 95) C hQ m_now_26 dX5_doesOrder_95 (vp_nar_int _) rfl (wp_s h)
          · replace h := wp_f h c23
            refine V_lookup (pc := 26) (tgt := 120) (off := 94) C dX5_doesOrder_26 (by decide) (by have nc6 := (sw_ne c6 (z := 103) (by decide)).symm; have nc10 := (sw_ne c10 (z := 105) (by decide)).symm; have nc14 := (sw_ne c14 (z := 109) (by decide)).symm; have nc19 := (sw_ne c19 (z := 111) (by decide)).symm; have nc23 := (sw_ne c23 (z := 120) (by decide)).symm; simp [Op.lookupswitch.offset, nc6, nc10, nc14, nc19, nc23]) (by decide) ?_
            refine V_aload_n (pc := 120) C 0 dX5_doesOrder_120 rfl rfl ?_
            refine V_iload_n (pc := 121) C 2 dX5_doesOrder_121 rfl rfl ?_
            refine V_callVi (pc := 122) (As := [.int v2]) (st := []) C (c_M_addsPattern (wp_b h)) mk_X5_addsPattern wd_692 dX5_doesOrder_122 0 rfl rfl rfl ⟨Nat.le_of_ble_eq_true rfl, Nat.le_of_ble_eq_true rfl⟩ (Nat.le_of_ble_eq_true rfl) rfl (fun r28 m_now_29 hw => ?_)
            have h := hw
            try dsimp only at h
            try dsimp only
            exact V_iret (pc := 125) C hQ m_now_29 dX5_doesOrder_125 (vp_nar_int _) rfl (wp_s h)
set_option maxRecDepth 100000 in
set_option maxHeartbeats 4000000 in
theorem c_M_does {l : Launch} {D : va_G} {cI cC : ClassId} {q_m : Nat → Nat} {m_now : Nat → Int32} {m_aside : Nat → Int32} {m_past : Nat → Int32} {m_states : Int32} {m_refused : Nat → Int32} {m_text : Nat → Int32} {m_length : Int32} {m_tables : Nat → Int32} {m_all : Int32} {m_rowsBehind : Nat → Int32} {m_rowsMany : Int32} {m_forms : Nat → Int32} {m_lesser : Nat → Int32} {m_greater : Nat → Int32} {m_why : Nat → Int32} {m_checks : Int32} {m_numbers : Nat → Int32} {m_depths : Nat → Int32} {m_spot : Int32} {m_isFaulty : Int32} {m_orders : Int32} {m_letters : Nat → Int32} {m_parts : Nat → Int32} {m_hash : Int64} {post : Int32 × (Nat → Int32) × (Nat → Int32) × (Nat → Int32) × Int32 × Int32 × Int32 × Int32 × (Nat → Int32) × (Nat → Int32) → Prop} (h : wpO (M_does m_now m_aside m_past m_states m_text m_length m_spot m_isFaulty m_orders m_letters m_parts) post) : Cn l yX5_does cX5_does 3 (some .int) 6 129 D cI cC [.ref (q_m 0)] (wM cI q_m m_now m_aside m_past m_states m_refused m_text m_length m_tables m_all m_rowsBehind m_rowsMany m_forms m_lesser m_greater m_why m_checks m_numbers m_depths m_spot m_isFaulty m_orders m_letters m_parts m_hash) (QI D cI cC (S := (Nat → Int32) × (Nat → Int32) × (Nat → Int32) × Int32 × Int32 × Int32 × Int32 × (Nat → Int32) × (Nat → Int32)) (fun u => (wM cI q_m u.1 u.2.1 u.2.2.1 u.2.2.2.1 m_refused m_text m_length m_tables m_all m_rowsBehind m_rowsMany m_forms m_lesser m_greater m_why m_checks m_numbers m_depths u.2.2.2.2.1 u.2.2.2.2.2.1 u.2.2.2.2.2.2.1 u.2.2.2.2.2.2.2.1 u.2.2.2.2.2.2.2.2 m_hash)) (fun r u => post (r, u))) := by
  refine Cn.ofV (own := RX5) (lv0 := [(0, .ref (q_m 0))]) rfl (by decide) (Nat.le_of_ble_eq_true rfl) rfl ?_
  intro p e s m below meth c A args Q hQ C
  have hL_21 : ∀ (K : Int32 → (Nat → Int32) → Option (Int32 × (Nat → Int32) × (Nat → Int32) × (Nat → Int32) × Int32 × Int32 × Int32 × Int32 × (Nat → Int32) × (Nat → Int32))) (m_aside : Nat → Int32) (m_past : Nat → Int32) (m_states : Int32) (m_spot : Int32) (m_isFaulty : Int32) (m_orders : Int32) (m_letters : Nat → Int32) (m_parts : Nat → Int32), (∀ (l1 : Int32) (m_now : Nat → Int32), wpO (K l1 m_now) post → V p l e (rmC 6 129) s m args below meth c D A 3 0 0 Q (wM cI q_m m_now m_aside m_past m_states m_refused m_text m_length m_tables m_all m_rowsBehind m_rowsMany m_forms m_lesser m_greater m_why m_checks m_numbers m_depths m_spot m_isFaulty m_orders m_letters m_parts m_hash) [(0, .ref (q_m 0)), (1, .int l1)] 37 []) → ∀ (n : Nat) (l1 : Int32) (m_now : Nat → Int32), wpO (M_does_21 K m_aside m_past m_states m_spot m_isFaulty m_orders m_letters m_parts n l1 m_now) post → V p l e (rmC 6 129) s m args below meth c D A 3 0 0 Q (wM cI q_m m_now m_aside m_past m_states m_refused m_text m_length m_tables m_all m_rowsBehind m_rowsMany m_forms m_lesser m_greater m_why m_checks m_numbers m_depths m_spot m_isFaulty m_orders m_letters m_parts m_hash) [(0, .ref (q_m 0)), (1, .int l1)] 21 [] := by
    intro K m_aside m_past m_states m_spot m_isFaulty m_orders m_letters m_parts  hK n
    induction n with
    | zero => intro l1 m_now h; rw [M_does_21] at h; exact (wp_n h).elim
    | succ n ih =>
      intro l1 m_now h
      rw [M_does_21] at h
      refine V_iload_n (pc := 21) C 1 dX5_does_21 rfl rfl ?_
      refine V_aload_n (pc := 22) C 0 dX5_does_22 rfl rfl ?_
      refine V_get (pc := 23) C 0 20 inX5 wd_609 dX5_does_23 rfl rfl (by decide) rfl rfl ?_
      refine V_icmp_ge (pc := 26) (tgt := 75) C dX5_does_26 (by decide) (fun c1 => ?_) (fun c1 => ?_)
      · replace h := wp_t h c1
        refine V_aload_n (pc := 75) C 0 dX5_does_75 rfl rfl ?_
        refine V_callVv (pc := 76) (As := []) (st := []) C (c_M_leaves (wp_b h)) mk_X5_leaves wd_636 dX5_does_76 0 rfl rfl rfl ⟨Nat.le_of_ble_eq_true rfl, Nat.le_of_ble_eq_true rfl⟩ (Nat.le_of_ble_eq_true rfl) rfl (fun u hw => ?_)
        obtain ⟨m_past_4, m_states_5⟩ := u
        have h := hw
        try dsimp only at h
        try dsimp only
        refine V_aload_n (pc := 79) C 0 dX5_does_79 rfl rfl ?_
        refine V_get (pc := 80) C 0 20 inX5 wd_609 dX5_does_80 rfl rfl (by decide) rfl rfl ?_
        exact V_iret (pc := 83) C hQ (m_now, m_aside, m_past_4, m_states_5, m_spot, m_isFaulty, m_orders, m_letters, m_parts) dX5_does_83 (vp_nar_int _) rfl (wp_s h)
      · replace h := wp_f h c1
        refine V_aload_n (pc := 29) C 0 dX5_does_29 rfl rfl ?_
        refine V_iload_n (pc := 30) C 1 dX5_does_30 rfl rfl ?_
        refine V_callVi (pc := 31) (As := [.int l1]) (st := []) C (c_M_doesOrder (wp_b h)) mk_X5_doesOrder wd_876 dX5_does_31 0 rfl rfl rfl ⟨Nat.le_of_ble_eq_true rfl, Nat.le_of_ble_eq_true rfl⟩ (Nat.le_of_ble_eq_true rfl) rfl (fun r7 m_now_8 hw => ?_)
        have h := hw
        try dsimp only at h
        try dsimp only
        refine V_if_ge (pc := 34) (tgt := 69) C dX5_does_34 (by decide) (fun c9 => ?_) (fun c9 => ?_)
        · replace h := wp_t h c9
          obtain ⟨v10, ev10, h⟩ := wp_l h
          refine V_iinc (pc := 69) (v := v10) (lv' := [(0, .ref (q_m 0)), (1, .int v10)]) (j := 1) C dX5_does_69 rfl (by rw [ev10]; rfl) [1, 0] (by decide) rfl ?_
          refine V_goto (pc := 72) (tgt := 21) C dX5_does_72 (by decide) ?_
          exact ih _ _ h
        · replace h := wp_f h c9
          exact hK _ _ h
  have hL_39 : ∀ (K : (Nat → Int32) → Option (Int32 × (Nat → Int32) × (Nat → Int32) × (Nat → Int32) × Int32 × Int32 × Int32 × Int32 × (Nat → Int32) × (Nat → Int32))) (m_aside : Nat → Int32) (m_past : Nat → Int32) (m_states : Int32) (m_spot : Int32) (m_isFaulty : Int32) (m_orders : Int32) (m_letters : Nat → Int32) (m_parts : Nat → Int32) (l1 : Int32), (∀ (m_now : Nat → Int32), wpO (K m_now) post → V p l e (rmC 6 129) s m args below meth c D A 3 0 0 Q (wM cI q_m m_now m_aside m_past m_states m_refused m_text m_length m_tables m_all m_rowsBehind m_rowsMany m_forms m_lesser m_greater m_why m_checks m_numbers m_depths m_spot m_isFaulty m_orders m_letters m_parts m_hash) [(1, .int l1)] 63 []) → ∀ (n : Nat) (l2 : Int32) (m_now : Nat → Int32), wpO (M_does_39 K m_aside l1 n l2 m_now) post → V p l e (rmC 6 129) s m args below meth c D A 3 0 0 Q (wM cI q_m m_now m_aside m_past m_states m_refused m_text m_length m_tables m_all m_rowsBehind m_rowsMany m_forms m_lesser m_greater m_why m_checks m_numbers m_depths m_spot m_isFaulty m_orders m_letters m_parts m_hash) [(0, .ref (q_m 0)), (1, .int l1), (2, .int l2)] 39 [] := by
    intro K m_aside m_past m_states m_spot m_isFaulty m_orders m_letters m_parts l1 hK n
    induction n with
    | zero => intro l2 m_now h; rw [M_does_39] at h; exact (wp_n h).elim
    | succ n ih =>
      intro l2 m_now h
      rw [M_does_39] at h
      refine V_iload_n (pc := 39) C 2 dX5_does_39 rfl rfl ?_
      refine V_bipush (pc := 40) C dX5_does_40 kb_125 ?_
      refine V_icmp_ge (pc := 42) (tgt := 63) C dX5_does_42 (by decide) (fun c11 => ?_) (fun c11 => ?_)
      · replace h := wp_t h c11
        refine V_lv (pc := 63) [1] rfl ?_
        exact hK _ h
      · replace h := wp_f h c11
        refine V_aload_n (pc := 45) C 0 dX5_does_45 rfl rfl ?_
        refine V_get (pc := 46) C 0 0 inX5 wd_589 dX5_does_46 rfl rfl (by decide) rfl rfl ?_
        refine V_iload_n (pc := 49) C 2 dX5_does_49 rfl rfl ?_
        refine V_aload_n (pc := 50) C 0 dX5_does_50 rfl rfl ?_
        refine V_get (pc := 51) C 0 1 inX5 wd_590 dX5_does_51 rfl rfl (by decide) rfl rfl ?_
        refine V_iload_n (pc := 54) C 2 dX5_does_54 rfl rfl ?_
        obtain ⟨b12, h⟩ := wp_c h
        refine V_iald (pc := 55) C 2 dX5_does_55 rfl b12 ?_
        obtain ⟨b13, h⟩ := wp_c h
        obtain ⟨m_now_14, em_now_14, h⟩ := wp_l h
        refine V_iast (pc := 56) (ws' := (wM cI q_m m_now_14 m_aside m_past m_states m_refused m_text m_length m_tables m_all m_rowsBehind m_rowsMany m_forms m_lesser m_greater m_why m_checks m_numbers m_depths m_spot m_isFaulty m_orders m_letters m_parts m_hash)) C 1 dX5_does_56 rfl b13 em_now_14 rfl ?_
        obtain ⟨v15, ev15, h⟩ := wp_l h
        refine V_iinc (pc := 57) (v := v15) (lv' := [(0, .ref (q_m 0)), (1, .int l1), (2, .int v15)]) (j := 2) C dX5_does_57 rfl (by rw [ev15]; rfl) [1, 2, 0] (by decide) rfl ?_
        refine V_goto (pc := 60) (tgt := 39) C dX5_does_60 (by decide) ?_
        exact ih _ _ h
  unfold M_does at h
  refine V_aload_n (pc := 0) C 0 dX5_does_0 rfl rfl ?_
  refine V_callVi (pc := 1) (As := []) (st := []) C (c_M_reads (wp_b h)) mk_X5_reads wd_858 dX5_does_1 0 rfl rfl rfl ⟨Nat.le_of_ble_eq_true rfl, Nat.le_of_ble_eq_true rfl⟩ (Nat.le_of_ble_eq_true rfl) rfl (fun r17 u hw => ?_)
  obtain ⟨m_spot_18, m_isFaulty_19, m_orders_20, m_letters_21, m_parts_22⟩ := u
  obtain ⟨h, z23⟩ := hw
  try dsimp only at h
  try dsimp only
  refine V_if_ne (pc := 4) (tgt := 15) C dX5_does_4 (by decide) (fun c24 => ?_) (fun c24 => ?_)
  · replace h := wp_f h c24
    refine V_aload_n (pc := 15) C 0 dX5_does_15 rfl rfl ?_
    refine V_callVv (pc := 16) (As := []) (st := []) C (c_M_laysAside (wp_b h)) mk_X5_laysAside wd_624 dX5_does_16 0 rfl rfl rfl ⟨Nat.le_of_ble_eq_true rfl, Nat.le_of_ble_eq_true rfl⟩ (Nat.le_of_ble_eq_true rfl) rfl (fun m_aside_27 hw => ?_)
    have h := hw
    try dsimp only at h
    try dsimp only
    refine V_iconst (pc := 19) C dX5_does_19 ki_0 ?_
    refine V_istore_n (pc := 20) (lv' := [(0, .ref (q_m 0)), (1, .int 0)]) C dX5_does_20 rfl [1, 0] (by decide) rfl ?_
    refine hL_21 _ _ _ _ _ _ _ _ _ (fun l1_28 m_now_29 h => ?_) 1000 _ _ h
    try dsimp only at h
    refine V_iconst (pc := 37) C dX5_does_37 ki_0 ?_
    refine V_istore_n (pc := 38) (lv' := [(0, .ref (q_m 0)), (1, .int l1_28), (2, .int 0)]) C dX5_does_38 rfl [1, 2, 0] (by decide) rfl ?_
    refine hL_39 _ _ _ _ _ _ _ _ _ _ (fun m_now_30 h => ?_) 1000 _ _ h
    try dsimp only at h
    refine V_sipush (pc := 63) C dX5_does_63 ks_m1000 ?_
    refine V_iload_n (pc := 66) C 0 dX5_does_66 rfl rfl ?_
    refine V_isub (pc := 67) C dX5_does_67 ?_
    exact V_iret (pc := 68) C hQ (m_now_30, m_aside_27, m_past, m_states, m_spot_18, m_isFaulty_19, m_orders_20, m_letters_21, m_parts_22) dX5_does_68 (vp_nar_int _) rfl (wp_s h)
  · replace h := wp_t h c24
    refine V_bipush (pc := 7) C dX5_does_7 kb_m10 ?_
    refine V_aload_n (pc := 9) C 0 dX5_does_9 rfl rfl ?_
    refine V_get (pc := 10) C 0 18 inX5 wd_607 dX5_does_10 rfl rfl (by decide) rfl rfl ?_
    refine V_isub (pc := 13) C dX5_does_13 ?_
    exact V_iret (pc := 14) C hQ (m_now, m_aside, m_past, m_states, m_spot_18, m_isFaulty_19, m_orders_20, m_letters_21, m_parts_22) dX5_does_14 (vp_nar_int _) rfl (wp_s h)
set_option maxRecDepth 100000 in
set_option maxHeartbeats 4000000 in
theorem c_M_toldOf {l : Launch} {D : va_G} {cI cC : ClassId} {q_m : Nat → Nat} {m_now : Nat → Int32} {m_aside : Nat → Int32} {m_past : Nat → Int32} {m_states : Int32} {m_refused : Nat → Int32} {m_text : Nat → Int32} {m_length : Int32} {m_tables : Nat → Int32} {m_all : Int32} {m_rowsBehind : Nat → Int32} {m_rowsMany : Int32} {m_forms : Nat → Int32} {m_lesser : Nat → Int32} {m_greater : Nat → Int32} {m_why : Nat → Int32} {m_checks : Int32} {m_numbers : Nat → Int32} {m_depths : Nat → Int32} {m_spot : Int32} {m_isFaulty : Int32} {m_orders : Int32} {m_letters : Nat → Int32} {m_parts : Nat → Int32} {m_hash : Int64} {a0 : Int32} {post : Int32 → Prop} (h : wpO (M_toldOf m_states m_refused m_length a0) post) : Cn l yX5_toldOf cX5_toldOf 2 (some .int) 0 0 D cI cC [.ref (q_m 0), .int a0] (wM cI q_m m_now m_aside m_past m_states m_refused m_text m_length m_tables m_all m_rowsBehind m_rowsMany m_forms m_lesser m_greater m_why m_checks m_numbers m_depths m_spot m_isFaulty m_orders m_letters m_parts m_hash) (QI D cI cC (S := Unit) (fun u => (wM cI q_m m_now m_aside m_past m_states m_refused m_text m_length m_tables m_all m_rowsBehind m_rowsMany m_forms m_lesser m_greater m_why m_checks m_numbers m_depths m_spot m_isFaulty m_orders m_letters m_parts m_hash)) (fun r u => post r)) := by
  refine Cn.ofV (own := RX5) (lv0 := [(0, .ref (q_m 0)), (1, .int a0)]) rfl (by decide) (Nat.le_of_ble_eq_true rfl) rfl ?_
  intro p e s m below meth c A args Q hQ C
  unfold M_toldOf at h
  refine V_iload_n (pc := 0) C 1 dX5_toldOf_0 rfl rfl ?_
  refine V_iconst (pc := 1) C dX5_toldOf_1 ki_3 ?_
  refine V_icmp_ge (pc := 2) (tgt := 14) C dX5_toldOf_2 (by decide) (fun c1 => ?_) (fun c1 => ?_)
  · replace h := wp_t h c1
    refine V_iload_n (pc := 14) C 1 dX5_toldOf_14 rfl rfl ?_
    refine V_iconst (pc := 15) C dX5_toldOf_15 ki_3 ?_
    refine V_icmp_ne (pc := 16) (tgt := 26) C dX5_toldOf_16 (by decide) (fun c2 => ?_) (fun c2 => ?_)
    · replace h := wp_f h c2
      refine V_aload_n (pc := 26) C 0 dX5_toldOf_26 rfl rfl ?_
      refine V_get (pc := 27) C 0 3 inX5 wd_592 dX5_toldOf_27 rfl rfl (by decide) rfl rfl ?_
      exact V_iret (pc := 30) C hQ () dX5_toldOf_30 (vp_nar_int _) rfl (wp_s h)
    · replace h := wp_t h c2
      refine V_aload_n (pc := 19) C 0 dX5_toldOf_19 rfl rfl ?_
      refine V_get (pc := 20) C 0 6 inX5 wd_595 dX5_toldOf_20 rfl rfl (by decide) rfl rfl ?_
      refine V_goto (pc := 23) (tgt := 30) C dX5_toldOf_23 (by decide) ?_
      exact V_iret (pc := 30) C hQ () dX5_toldOf_30 (vp_nar_int _) rfl (wp_s h)
  · replace h := wp_f h c1
    refine V_aload_n (pc := 5) C 0 dX5_toldOf_5 rfl rfl ?_
    refine V_get (pc := 6) C 0 4 inX5 wd_593 dX5_toldOf_6 rfl rfl (by decide) rfl rfl ?_
    refine V_iload_n (pc := 9) C 1 dX5_toldOf_9 rfl rfl ?_
    obtain ⟨b3, h⟩ := wp_c h
    refine V_iald (pc := 10) C 4 dX5_toldOf_10 rfl b3 ?_
    refine V_goto (pc := 11) (tgt := 30) C dX5_toldOf_11 (by decide) ?_
    exact V_iret (pc := 30) C hQ () dX5_toldOf_30 (vp_nar_int _) rfl (wp_s h)
set_option maxRecDepth 100000 in
set_option maxHeartbeats 4000000 in
theorem c_M_told {l : Launch} {D : va_G} {cI cC : ClassId} {q_m : Nat → Nat} {m_now : Nat → Int32} {m_aside : Nat → Int32} {m_past : Nat → Int32} {m_states : Int32} {m_refused : Nat → Int32} {m_text : Nat → Int32} {m_length : Int32} {m_tables : Nat → Int32} {m_all : Int32} {m_rowsBehind : Nat → Int32} {m_rowsMany : Int32} {m_forms : Nat → Int32} {m_lesser : Nat → Int32} {m_greater : Nat → Int32} {m_why : Nat → Int32} {m_checks : Int32} {m_numbers : Nat → Int32} {m_depths : Nat → Int32} {m_spot : Int32} {m_isFaulty : Int32} {m_orders : Int32} {m_letters : Nat → Int32} {m_parts : Nat → Int32} {m_hash : Int64} {a0 : Int32} {post : Int32 × (Nat → Int32) → Prop} (h : wpO (M_told m_states m_refused m_length a0) post) : Cn l yX5_told cX5_told 2 (some .int) 1 22 D cI cC [.ref (q_m 0), .int a0] (wM cI q_m m_now m_aside m_past m_states m_refused m_text m_length m_tables m_all m_rowsBehind m_rowsMany m_forms m_lesser m_greater m_why m_checks m_numbers m_depths m_spot m_isFaulty m_orders m_letters m_parts m_hash) (QI D cI cC (S := (Nat → Int32)) (fun u => (wM cI q_m m_now m_aside m_past m_states u m_text m_length m_tables m_all m_rowsBehind m_rowsMany m_forms m_lesser m_greater m_why m_checks m_numbers m_depths m_spot m_isFaulty m_orders m_letters m_parts m_hash)) (fun r u => post (r, u))) := by
  refine Cn.ofV (own := RX5) (lv0 := [(0, .ref (q_m 0)), (1, .int a0)]) rfl (by decide) (Nat.le_of_ble_eq_true rfl) rfl ?_
  intro p e s m below meth c A args Q hQ C
  unfold M_told at h
  refine V_iload_n (pc := 0) C 1 dX5_told_0 rfl rfl ?_
  refine V_iconst (pc := 1) C dX5_told_1 ki_0 ?_
  refine V_iconst (pc := 2) C dX5_told_2 ki_4 ?_
  refine V_cutSi (pc := 3) (As := [.int a0, .int 0, .int 4]) (st := []) (w0 := ([] : va_W)) (wr := (wM cI q_m m_now m_aside m_past m_states m_refused m_text m_length m_tables m_all m_rowsBehind m_rowsMany m_forms m_lesser m_greater m_why m_checks m_numbers m_depths m_spot m_isFaulty m_orders m_letters m_parts m_hash)) (w2 := fun u => (wM cI q_m m_now m_aside m_past m_states m_refused m_text m_length m_tables m_all m_rowsBehind m_rowsMany m_forms m_lesser m_greater m_why m_checks m_numbers m_depths m_spot m_isFaulty m_orders m_letters m_parts m_hash)) C (c_M_within (wp_b h)) mk_X5_within wd_630 dX5_told_3 rfl rfl ⟨Nat.le_of_ble_eq_true rfl, Nat.le_of_ble_eq_true rfl⟩ [] [0, 1, 2, 3, 4, 5, 6, 7, 8, 9, 10, 11, 12, 13, 14, 15] [0, 1, 2, 3, 4, 5, 6, 7, 8, 9, 10, 11, 12, 13, 14, 15] ⟨rfl, rfl, by decide +kernel, by decide +kernel, by decide +kernel⟩ (by decide +kernel) (fun u => rfl) (Nat.le_of_ble_eq_true rfl) rfl (fun r2 u hw => ?_)
  obtain ⟨h, z3⟩ := hw
  try dsimp only at h
  try dsimp only
  refine V_if_eq (pc := 6) (tgt := 17) C dX5_told_6 (by decide) (fun c4 => ?_) (fun c4 => ?_)
  · replace h := wp_t h c4
    refine V_aload_n (pc := 17) C 0 dX5_told_17 rfl rfl ?_
    refine V_callVi (pc := 18) (As := []) (st := []) C (c_M_bad (wp_b h)) mk_X5_bad wd_642 dX5_told_18 0 rfl rfl rfl ⟨Nat.le_of_ble_eq_true rfl, Nat.le_of_ble_eq_true rfl⟩ (Nat.le_of_ble_eq_true rfl) rfl (fun r6 m_refused_7 hw => ?_)
    have h := hw
    try dsimp only at h
    try dsimp only
    exact V_iret (pc := 21) C hQ m_refused_7 dX5_told_21 (vp_nar_int _) rfl (wp_s h)
  · replace h := wp_f h c4
    refine V_aload_n (pc := 9) C 0 dX5_told_9 rfl rfl ?_
    refine V_iload_n (pc := 10) C 1 dX5_told_10 rfl rfl ?_
    refine V_callVi (pc := 11) (As := [.int a0]) (st := []) C (c_M_toldOf (wp_b h)) mk_X5_toldOf wd_883 dX5_told_11 0 rfl rfl rfl ⟨Nat.le_of_ble_eq_true rfl, Nat.le_of_ble_eq_true rfl⟩ (Nat.le_of_ble_eq_true rfl) rfl (fun r9 u hw => ?_)
    have h := hw
    try dsimp only at h
    try dsimp only
    refine V_goto (pc := 14) (tgt := 21) C dX5_told_14 (by decide) ?_
    exact V_iret (pc := 21) C hQ m_refused dX5_told_21 (vp_nar_int _) rfl (wp_s h)
set_option maxRecDepth 100000 in
set_option maxHeartbeats 4000000 in
theorem c_M_mix {l : Launch} {D : va_G} {cI cC : ClassId} {q_m : Nat → Nat} {m_now : Nat → Int32} {m_aside : Nat → Int32} {m_past : Nat → Int32} {m_states : Int32} {m_refused : Nat → Int32} {m_text : Nat → Int32} {m_length : Int32} {m_tables : Nat → Int32} {m_all : Int32} {m_rowsBehind : Nat → Int32} {m_rowsMany : Int32} {m_forms : Nat → Int32} {m_lesser : Nat → Int32} {m_greater : Nat → Int32} {m_why : Nat → Int32} {m_checks : Int32} {m_numbers : Nat → Int32} {m_depths : Nat → Int32} {m_spot : Int32} {m_isFaulty : Int32} {m_orders : Int32} {m_letters : Nat → Int32} {m_parts : Nat → Int32} {m_hash : Int64} {a0 : Int32} {post : Int64 → Prop} (h : wpO (M_mix m_hash a0) post) : Cn l yX5_mix cX5_mix 2 none 0 0 D cI cC [.ref (q_m 0), .int a0] (wM cI q_m m_now m_aside m_past m_states m_refused m_text m_length m_tables m_all m_rowsBehind m_rowsMany m_forms m_lesser m_greater m_why m_checks m_numbers m_depths m_spot m_isFaulty m_orders m_letters m_parts m_hash) (QV D cI cC (S := Int64) (fun u => (wM cI q_m m_now m_aside m_past m_states m_refused m_text m_length m_tables m_all m_rowsBehind m_rowsMany m_forms m_lesser m_greater m_why m_checks m_numbers m_depths m_spot m_isFaulty m_orders m_letters m_parts u)) (fun u => post u)) := by
  refine Cn.ofV (own := RX5) (lv0 := [(0, .ref (q_m 0)), (1, .int a0)]) rfl (by decide) (Nat.le_of_ble_eq_true rfl) rfl ?_
  intro p e s m below meth c A args Q hQ C
  unfold M_mix at h
  refine V_aload_n (pc := 0) C 0 dX5_mix_0 rfl rfl ?_
  refine V_ldc2 (pc := 1) C wd_894 dX5_mix_1 ?_
  refine V_aload_n (pc := 4) C 0 dX5_mix_4 rfl rfl ?_
  refine V_get (pc := 5) C 0 23 inX5 wd_612 dX5_mix_5 rfl rfl (by decide) rfl rfl ?_
  refine V_lmul (pc := 8) C dX5_mix_8 ?_
  refine V_iload_n (pc := 9) C 1 dX5_mix_9 rfl rfl ?_
  refine V_i2l (pc := 10) C dX5_mix_10 ?_
  refine V_ladd (pc := 11) C dX5_mix_11 ?_
  obtain ⟨m_hash_1, em_hash_1, h⟩ := wp_l h
  refine V_topl (pc := 12) em_hash_1 ?_
  refine V_put (pc := 12) (ws' := (wM cI q_m m_now m_aside m_past m_states m_refused m_text m_length m_tables m_all m_rowsBehind m_rowsMany m_forms m_lesser m_greater m_why m_checks m_numbers m_depths m_spot m_isFaulty m_orders m_letters m_parts m_hash_1)) C 0 23 inX5 tyX5_ok nmX5 wd_612 dX5_mix_12 rfl rfl (by decide) rfl rfl rfl rfl rfl (Nat.le_of_ble_eq_true rfl) rfl ?_
  exact V_vret (pc := 15) C hQ m_hash_1 dX5_mix_15 rfl (wp_s h)
set_option maxRecDepth 100000 in
set_option maxHeartbeats 4000000 in
theorem c_M_mixNode {l : Launch} {D : va_G} {cI cC : ClassId} {q_m : Nat → Nat} {m_now : Nat → Int32} {m_aside : Nat → Int32} {m_past : Nat → Int32} {m_states : Int32} {m_refused : Nat → Int32} {m_text : Nat → Int32} {m_length : Int32} {m_tables : Nat → Int32} {m_all : Int32} {m_rowsBehind : Nat → Int32} {m_rowsMany : Int32} {m_forms : Nat → Int32} {m_lesser : Nat → Int32} {m_greater : Nat → Int32} {m_why : Nat → Int32} {m_checks : Int32} {m_numbers : Nat → Int32} {m_depths : Nat → Int32} {m_spot : Int32} {m_isFaulty : Int32} {m_orders : Int32} {m_letters : Nat → Int32} {m_parts : Nat → Int32} {m_hash : Int64} {a0 : Int32} {post : Int64 → Prop} (h : wpO (M_mixNode m_now m_tables m_forms m_hash a0) post) : Cn l yX5_mixNode cX5_mixNode 2 none 2 46 D cI cC [.ref (q_m 0), .int a0] (wM cI q_m m_now m_aside m_past m_states m_refused m_text m_length m_tables m_all m_rowsBehind m_rowsMany m_forms m_lesser m_greater m_why m_checks m_numbers m_depths m_spot m_isFaulty m_orders m_letters m_parts m_hash) (QV D cI cC (S := Int64) (fun u => (wM cI q_m m_now m_aside m_past m_states m_refused m_text m_length m_tables m_all m_rowsBehind m_rowsMany m_forms m_lesser m_greater m_why m_checks m_numbers m_depths m_spot m_isFaulty m_orders m_letters m_parts u)) (fun u => post u)) := by
  refine Cn.ofV (own := RX5) (lv0 := [(0, .ref (q_m 0)), (1, .int a0)]) rfl (by decide) (Nat.le_of_ble_eq_true rfl) rfl ?_
  intro p e s m below meth c A args Q hQ C
  unfold M_mixNode at h
  refine V_iload_n (pc := 0) C 1 dX5_mixNode_0 rfl rfl ?_
  refine V_aload_n (pc := 1) C 0 dX5_mixNode_1 rfl rfl ?_
  refine V_get (pc := 2) C 0 0 inX5 wd_589 dX5_mixNode_2 rfl rfl (by decide) rfl rfl ?_
  refine V_iconst (pc := 5) C dX5_mixNode_5 ki_0 ?_
  obtain ⟨b1, h⟩ := wp_c h
  refine V_iald (pc := 6) C 1 dX5_mixNode_6 rfl b1 ?_
  refine V_icmp_le (pc := 7) (tgt := 35) C dX5_mixNode_7 (by decide) (fun c2 => ?_) (fun c2 => ?_)
  · replace h := wp_t h c2
    refine V_aload_n (pc := 35) C 0 dX5_mixNode_35 rfl rfl ?_
    refine V_aload_n (pc := 36) C 0 dX5_mixNode_36 rfl rfl ?_
    refine V_get (pc := 37) C 0 7 inX5 wd_596 dX5_mixNode_37 rfl rfl (by decide) rfl rfl ?_
    refine V_iload_n (pc := 40) C 1 dX5_mixNode_40 rfl rfl ?_
    obtain ⟨b3, h⟩ := wp_c h
    refine V_iald (pc := 41) C 6 dX5_mixNode_41 rfl b3 ?_
    refine V_callVv (pc := 42) (As := [.int (m_tables (Int32.toNatClampNeg a0))]) (st := []) C (c_M_mix (wp_b h)) mk_X5_mix wd_891 dX5_mixNode_42 0 rfl rfl rfl ⟨Nat.le_of_ble_eq_true rfl, Nat.le_of_ble_eq_true rfl⟩ (Nat.le_of_ble_eq_true rfl) rfl (fun m_hash_6 hw => ?_)
    have h := hw
    try dsimp only at h
    try dsimp only
    refine V_aload_n (pc := 45) C 0 dX5_mixNode_45 rfl rfl ?_
    refine V_aload_n (pc := 46) C 0 dX5_mixNode_46 rfl rfl ?_
    refine V_iload_n (pc := 47) C 1 dX5_mixNode_47 rfl rfl ?_
    refine V_callVi (pc := 48) (As := [.int a0]) (st := [.ref (q_m 0)]) C (c_M_signOf (wp_b h)) mk_X5_signOf wd_797 dX5_mixNode_48 0 rfl rfl rfl ⟨Nat.le_of_ble_eq_true rfl, Nat.le_of_ble_eq_true rfl⟩ (Nat.le_of_ble_eq_true rfl) rfl (fun r8 u hw => ?_)
    have h := hw
    try dsimp only at h
    try dsimp only
    refine V_callVv (pc := 51) (As := [.int r8]) (st := []) C (c_M_mix (wp_b h)) mk_X5_mix wd_891 dX5_mixNode_51 0 rfl rfl rfl ⟨Nat.le_of_ble_eq_true rfl, Nat.le_of_ble_eq_true rfl⟩ (Nat.le_of_ble_eq_true rfl) rfl (fun m_hash_11 hw => ?_)
    have h := hw
    try dsimp only at h
    try dsimp only
    refine V_aload_n (pc := 54) C 0 dX5_mixNode_54 rfl rfl ?_
    refine V_aload_n (pc := 55) C 0 dX5_mixNode_55 rfl rfl ?_
    refine V_get (pc := 56) C 0 11 inX5 wd_600 dX5_mixNode_56 rfl rfl (by decide) rfl rfl ?_
    refine V_iload_n (pc := 59) C 1 dX5_mixNode_59 rfl rfl ?_
    obtain ⟨b12, h⟩ := wp_c h
    refine V_iald (pc := 60) C 8 dX5_mixNode_60 rfl b12 ?_
    refine V_callVv (pc := 61) (As := [.int (m_forms (Int32.toNatClampNeg a0))]) (st := []) C (c_M_mix (wp_b h)) mk_X5_mix wd_891 dX5_mixNode_61 0 rfl rfl rfl ⟨Nat.le_of_ble_eq_true rfl, Nat.le_of_ble_eq_true rfl⟩ (Nat.le_of_ble_eq_true rfl) rfl (fun m_hash_15 hw => ?_)
    have h := hw
    try dsimp only at h
    try dsimp only
    exact V_vret (pc := 64) C hQ m_hash_15 dX5_mixNode_64 rfl (wp_s h)
  · replace h := wp_f h c2
    refine V_aload_n (pc := 10) C 0 dX5_mixNode_10 rfl rfl ?_
    refine V_aload_n (pc := 11) C 0 dX5_mixNode_11 rfl rfl ?_
    refine V_get (pc := 12) C 0 0 inX5 wd_589 dX5_mixNode_12 rfl rfl (by decide) rfl rfl ?_
    refine V_iconst (pc := 15) C dX5_mixNode_15 ki_2 ?_
    refine V_iload_n (pc := 16) C 1 dX5_mixNode_16 rfl rfl ?_
    refine V_iadd (pc := 17) C dX5_mixNode_17 ?_
    obtain ⟨b16, h⟩ := wp_c h
    refine V_iald (pc := 18) C 1 dX5_mixNode_18 rfl b16 ?_
    refine V_callVv (pc := 19) (As := [.int (m_now (Int32.toNatClampNeg ((2 : Int32) + a0)))]) (st := []) C (c_M_mix (wp_b h)) mk_X5_mix wd_891 dX5_mixNode_19 0 rfl rfl rfl ⟨Nat.le_of_ble_eq_true rfl, Nat.le_of_ble_eq_true rfl⟩ (Nat.le_of_ble_eq_true rfl) rfl (fun m_hash_19 hw => ?_)
    have h := hw
    try dsimp only at h
    try dsimp only
    refine V_aload_n (pc := 22) C 0 dX5_mixNode_22 rfl rfl ?_
    refine V_aload_n (pc := 23) C 0 dX5_mixNode_23 rfl rfl ?_
    refine V_get (pc := 24) C 0 0 inX5 wd_589 dX5_mixNode_24 rfl rfl (by decide) rfl rfl ?_
    refine V_bipush (pc := 27) C dX5_mixNode_27 kb_50 ?_
    refine V_iload_n (pc := 29) C 1 dX5_mixNode_29 rfl rfl ?_
    refine V_iadd (pc := 30) C dX5_mixNode_30 ?_
    obtain ⟨b20, h⟩ := wp_c h
    refine V_iald (pc := 31) C 1 dX5_mixNode_31 rfl b20 ?_
    refine V_callVv (pc := 32) (As := [.int (m_now (Int32.toNatClampNeg ((50 : Int32) + a0)))]) (st := []) C (c_M_mix (wp_b h)) mk_X5_mix wd_891 dX5_mixNode_32 0 rfl rfl rfl ⟨Nat.le_of_ble_eq_true rfl, Nat.le_of_ble_eq_true rfl⟩ (Nat.le_of_ble_eq_true rfl) rfl (fun m_hash_23 hw => ?_)
    have h := hw
    try dsimp only at h
    try dsimp only
    refine V_aload_n (pc := 35) C 0 dX5_mixNode_35 rfl rfl ?_
    refine V_aload_n (pc := 36) C 0 dX5_mixNode_36 rfl rfl ?_
    refine V_get (pc := 37) C 0 7 inX5 wd_596 dX5_mixNode_37 rfl rfl (by decide) rfl rfl ?_
    refine V_iload_n (pc := 40) C 1 dX5_mixNode_40 rfl rfl ?_
    obtain ⟨b24, h⟩ := wp_c h
    refine V_iald (pc := 41) C 6 dX5_mixNode_41 rfl b24 ?_
    refine V_callVv (pc := 42) (As := [.int (m_tables (Int32.toNatClampNeg a0))]) (st := []) C (c_M_mix (wp_b h)) mk_X5_mix wd_891 dX5_mixNode_42 0 rfl rfl rfl ⟨Nat.le_of_ble_eq_true rfl, Nat.le_of_ble_eq_true rfl⟩ (Nat.le_of_ble_eq_true rfl) rfl (fun m_hash_27 hw => ?_)
    have h := hw
    try dsimp only at h
    try dsimp only
    refine V_aload_n (pc := 45) C 0 dX5_mixNode_45 rfl rfl ?_
    refine V_aload_n (pc := 46) C 0 dX5_mixNode_46 rfl rfl ?_
    refine V_iload_n (pc := 47) C 1 dX5_mixNode_47 rfl rfl ?_
    refine V_callVi (pc := 48) (As := [.int a0]) (st := [.ref (q_m 0)]) C (c_M_signOf (wp_b h)) mk_X5_signOf wd_797 dX5_mixNode_48 0 rfl rfl rfl ⟨Nat.le_of_ble_eq_true rfl, Nat.le_of_ble_eq_true rfl⟩ (Nat.le_of_ble_eq_true rfl) rfl (fun r29 u hw => ?_)
    have h := hw
    try dsimp only at h
    try dsimp only
    refine V_callVv (pc := 51) (As := [.int r29]) (st := []) C (c_M_mix (wp_b h)) mk_X5_mix wd_891 dX5_mixNode_51 0 rfl rfl rfl ⟨Nat.le_of_ble_eq_true rfl, Nat.le_of_ble_eq_true rfl⟩ (Nat.le_of_ble_eq_true rfl) rfl (fun m_hash_32 hw => ?_)
    have h := hw
    try dsimp only at h
    try dsimp only
    refine V_aload_n (pc := 54) C 0 dX5_mixNode_54 rfl rfl ?_
    refine V_aload_n (pc := 55) C 0 dX5_mixNode_55 rfl rfl ?_
    refine V_get (pc := 56) C 0 11 inX5 wd_600 dX5_mixNode_56 rfl rfl (by decide) rfl rfl ?_
    refine V_iload_n (pc := 59) C 1 dX5_mixNode_59 rfl rfl ?_
    obtain ⟨b33, h⟩ := wp_c h
    refine V_iald (pc := 60) C 8 dX5_mixNode_60 rfl b33 ?_
    refine V_callVv (pc := 61) (As := [.int (m_forms (Int32.toNatClampNeg a0))]) (st := []) C (c_M_mix (wp_b h)) mk_X5_mix wd_891 dX5_mixNode_61 0 rfl rfl rfl ⟨Nat.le_of_ble_eq_true rfl, Nat.le_of_ble_eq_true rfl⟩ (Nat.le_of_ble_eq_true rfl) rfl (fun m_hash_36 hw => ?_)
    have h := hw
    try dsimp only at h
    try dsimp only
    exact V_vret (pc := 64) C hQ m_hash_36 dX5_mixNode_64 rfl (wp_s h)
set_option maxRecDepth 100000 in
set_option maxHeartbeats 4000000 in
theorem c_M_mixOuts {l : Launch} {D : va_G} {cI cC : ClassId} {q_m : Nat → Nat} {m_now : Nat → Int32} {m_aside : Nat → Int32} {m_past : Nat → Int32} {m_states : Int32} {m_refused : Nat → Int32} {m_text : Nat → Int32} {m_length : Int32} {m_tables : Nat → Int32} {m_all : Int32} {m_rowsBehind : Nat → Int32} {m_rowsMany : Int32} {m_forms : Nat → Int32} {m_lesser : Nat → Int32} {m_greater : Nat → Int32} {m_why : Nat → Int32} {m_checks : Int32} {m_numbers : Nat → Int32} {m_depths : Nat → Int32} {m_spot : Int32} {m_isFaulty : Int32} {m_orders : Int32} {m_letters : Nat → Int32} {m_parts : Nat → Int32} {m_hash : Int64} {a0 : Int32} {post : Int64 → Prop} (h : wpO (M_mixOuts m_now m_hash a0) post) : Cn l yX5_mixOuts cX5_mixOuts 3 none 1 21 D cI cC [.ref (q_m 0), .int a0] (wM cI q_m m_now m_aside m_past m_states m_refused m_text m_length m_tables m_all m_rowsBehind m_rowsMany m_forms m_lesser m_greater m_why m_checks m_numbers m_depths m_spot m_isFaulty m_orders m_letters m_parts m_hash) (QV D cI cC (S := Int64) (fun u => (wM cI q_m m_now m_aside m_past m_states m_refused m_text m_length m_tables m_all m_rowsBehind m_rowsMany m_forms m_lesser m_greater m_why m_checks m_numbers m_depths m_spot m_isFaulty m_orders m_letters m_parts u)) (fun u => post u)) := by
  refine Cn.ofV (own := RX5) (lv0 := [(0, .ref (q_m 0)), (1, .int a0)]) rfl (by decide) (Nat.le_of_ble_eq_true rfl) rfl ?_
  intro p e s m below meth c A args Q hQ C
  have hL_2 : ∀ (K : Int64 → Option (Int64)) (l1 : Int32), (∀ (m_hash : Int64), wpO (K m_hash) post → V p l e (rmC 1 21) s m args below meth c D A 3 0 0 Q (wM cI q_m m_now m_aside m_past m_states m_refused m_text m_length m_tables m_all m_rowsBehind m_rowsMany m_forms m_lesser m_greater m_why m_checks m_numbers m_depths m_spot m_isFaulty m_orders m_letters m_parts m_hash) [] 39 []) → ∀ (n : Nat) (l2 : Int32) (m_hash : Int64), wpO (M_mixOuts_2 K m_now l1 n l2 m_hash) post → V p l e (rmC 1 21) s m args below meth c D A 3 0 0 Q (wM cI q_m m_now m_aside m_past m_states m_refused m_text m_length m_tables m_all m_rowsBehind m_rowsMany m_forms m_lesser m_greater m_why m_checks m_numbers m_depths m_spot m_isFaulty m_orders m_letters m_parts m_hash) [(0, .ref (q_m 0)), (1, .int l1), (2, .int l2)] 2 [] := by
    intro K  l1 hK n
    induction n with
    | zero => intro l2 m_hash h; rw [M_mixOuts_2] at h; exact (wp_n h).elim
    | succ n ih =>
      intro l2 m_hash h
      rw [M_mixOuts_2] at h
      refine V_iload_n (pc := 2) C 2 dX5_mixOuts_2 rfl rfl ?_
      refine V_aload_n (pc := 3) C 0 dX5_mixOuts_3 rfl rfl ?_
      refine V_get (pc := 4) C 0 0 inX5 wd_589 dX5_mixOuts_4 rfl rfl (by decide) rfl rfl ?_
      refine V_bipush (pc := 7) C dX5_mixOuts_7 kb_98 ?_
      refine V_iload_n (pc := 9) C 1 dX5_mixOuts_9 rfl rfl ?_
      refine V_iadd (pc := 10) C dX5_mixOuts_10 ?_
      obtain ⟨b1, h⟩ := wp_c h
      refine V_iald (pc := 11) C 1 dX5_mixOuts_11 rfl b1 ?_
      refine V_icmp_ge (pc := 12) (tgt := 39) C dX5_mixOuts_12 (by decide) (fun c2 => ?_) (fun c2 => ?_)
      · replace h := wp_t h c2
        refine V_lv (pc := 39) [] rfl ?_
        exact hK _ h
      · replace h := wp_f h c2
        refine V_aload_n (pc := 15) C 0 dX5_mixOuts_15 rfl rfl ?_
        refine V_aload_n (pc := 16) C 0 dX5_mixOuts_16 rfl rfl ?_
        refine V_get (pc := 17) C 0 0 inX5 wd_589 dX5_mixOuts_17 rfl rfl (by decide) rfl rfl ?_
        refine V_bipush (pc := 20) C dX5_mixOuts_20 kb_100 ?_
        refine V_bipush (pc := 22) C dX5_mixOuts_22 kb_6 ?_
        refine V_iload_n (pc := 24) C 1 dX5_mixOuts_24 rfl rfl ?_
        refine V_imul (pc := 25) C dX5_mixOuts_25 ?_
        refine V_iadd (pc := 26) C dX5_mixOuts_26 ?_
        refine V_iload_n (pc := 27) C 2 dX5_mixOuts_27 rfl rfl ?_
        refine V_iadd (pc := 28) C dX5_mixOuts_28 ?_
        obtain ⟨b3, h⟩ := wp_c h
        refine V_iald (pc := 29) C 1 dX5_mixOuts_29 rfl b3 ?_
        refine V_callVv (pc := 30) (As := [.int (m_now (Int32.toNatClampNeg (((100 : Int32) + ((6 : Int32) * l1)) + l2)))]) (st := []) C (c_M_mix (wp_b h)) mk_X5_mix wd_891 dX5_mixOuts_30 0 rfl rfl rfl ⟨Nat.le_of_ble_eq_true rfl, Nat.le_of_ble_eq_true rfl⟩ (Nat.le_of_ble_eq_true rfl) rfl (fun m_hash_6 hw => ?_)
        have h := hw
        try dsimp only at h
        try dsimp only
        obtain ⟨v7, ev7, h⟩ := wp_l h
        refine V_iinc (pc := 33) (v := v7) (lv' := [(0, .ref (q_m 0)), (1, .int l1), (2, .int v7)]) (j := 2) C dX5_mixOuts_33 rfl (by rw [ev7]; rfl) [1, 2, 0] (by decide) rfl ?_
        refine V_goto (pc := 36) (tgt := 2) C dX5_mixOuts_36 (by decide) ?_
        exact ih _ _ h
  unfold M_mixOuts at h
  refine V_iconst (pc := 0) C dX5_mixOuts_0 ki_0 ?_
  refine V_istore_n (pc := 1) (lv' := [(0, .ref (q_m 0)), (1, .int a0), (2, .int 0)]) C dX5_mixOuts_1 rfl [1, 2, 0] (by decide) rfl ?_
  refine hL_2 _ _ (fun m_hash_8 h => ?_) 1000 _ _ h
  try dsimp only at h
  exact V_vret (pc := 39) C hQ m_hash_8 dX5_mixOuts_39 rfl (wp_s h)
set_option maxRecDepth 100000 in
set_option maxHeartbeats 4000000 in
theorem c_M_digest {l : Launch} {D : va_G} {cI cC : ClassId} {q_m : Nat → Nat} {m_now : Nat → Int32} {m_aside : Nat → Int32} {m_past : Nat → Int32} {m_states : Int32} {m_refused : Nat → Int32} {m_text : Nat → Int32} {m_length : Int32} {m_tables : Nat → Int32} {m_all : Int32} {m_rowsBehind : Nat → Int32} {m_rowsMany : Int32} {m_forms : Nat → Int32} {m_lesser : Nat → Int32} {m_greater : Nat → Int32} {m_why : Nat → Int32} {m_checks : Int32} {m_numbers : Nat → Int32} {m_depths : Nat → Int32} {m_spot : Int32} {m_isFaulty : Int32} {m_orders : Int32} {m_letters : Nat → Int32} {m_parts : Nat → Int32} {m_hash : Int64} {post : Int64 × (Nat → Int32) × Int32 × (Nat → Int32) × Int32 × (Nat → Int32) × (Nat → Int32) × (Nat → Int32) × (Nat → Int32) × Int32 × Int64 → Prop} (h : wpO (M_digest m_now m_states m_refused m_length m_tables m_all m_rowsBehind m_rowsMany m_forms m_lesser m_greater m_why m_checks m_hash) post) : Cn l yX5_digest cX5_digest 2 (some .long) 5 118 D cI cC [.ref (q_m 0)] (wM cI q_m m_now m_aside m_past m_states m_refused m_text m_length m_tables m_all m_rowsBehind m_rowsMany m_forms m_lesser m_greater m_why m_checks m_numbers m_depths m_spot m_isFaulty m_orders m_letters m_parts m_hash) (QL D cI cC (S := (Nat → Int32) × Int32 × (Nat → Int32) × Int32 × (Nat → Int32) × (Nat → Int32) × (Nat → Int32) × (Nat → Int32) × Int32 × Int64) (fun u => (wM cI q_m m_now m_aside m_past m_states m_refused m_text m_length u.1 u.2.1 u.2.2.1 u.2.2.2.1 u.2.2.2.2.1 u.2.2.2.2.2.1 u.2.2.2.2.2.2.1 u.2.2.2.2.2.2.2.1 u.2.2.2.2.2.2.2.2.1 m_numbers m_depths m_spot m_isFaulty m_orders m_letters m_parts u.2.2.2.2.2.2.2.2.2)) (fun r u => post (r, u))) := by
  refine Cn.ofV (own := RX5) (lv0 := [(0, .ref (q_m 0))]) rfl (by decide) (Nat.le_of_ble_eq_true rfl) rfl ?_
  intro p e s m below meth c A args Q hQ C
  have hL_9 : ∀ (K : Int64 → Option (Int64 × (Nat → Int32) × Int32 × (Nat → Int32) × Int32 × (Nat → Int32) × (Nat → Int32) × (Nat → Int32) × (Nat → Int32) × Int32 × Int64)) (m_tables : Nat → Int32) (m_all : Int32) (m_rowsBehind : Nat → Int32) (m_rowsMany : Int32) (m_forms : Nat → Int32) (m_lesser : Nat → Int32) (m_greater : Nat → Int32) (m_why : Nat → Int32) (m_checks : Int32), (∀ (m_hash : Int64), wpO (K m_hash) post → V p l e (rmC 5 118) s m args below meth c D A 2 0 0 Q (wM cI q_m m_now m_aside m_past m_states m_refused m_text m_length m_tables m_all m_rowsBehind m_rowsMany m_forms m_lesser m_greater m_why m_checks m_numbers m_depths m_spot m_isFaulty m_orders m_letters m_parts m_hash) [(0, .ref (q_m 0))] 29 []) → ∀ (n : Nat) (l1 : Int32) (m_hash : Int64), wpO (M_digest_9 K m_states m_refused m_length n l1 m_hash) post → V p l e (rmC 5 118) s m args below meth c D A 2 0 0 Q (wM cI q_m m_now m_aside m_past m_states m_refused m_text m_length m_tables m_all m_rowsBehind m_rowsMany m_forms m_lesser m_greater m_why m_checks m_numbers m_depths m_spot m_isFaulty m_orders m_letters m_parts m_hash) [(0, .ref (q_m 0)), (1, .int l1)] 9 [] := by
    intro K m_tables m_all m_rowsBehind m_rowsMany m_forms m_lesser m_greater m_why m_checks  hK n
    induction n with
    | zero => intro l1 m_hash h; rw [M_digest_9] at h; exact (wp_n h).elim
    | succ n ih =>
      intro l1 m_hash h
      rw [M_digest_9] at h
      refine V_iload_n (pc := 9) C 1 dX5_digest_9 rfl rfl ?_
      refine V_iconst (pc := 10) C dX5_digest_10 ki_5 ?_
      refine V_icmp_ge (pc := 11) (tgt := 29) C dX5_digest_11 (by decide) (fun c1 => ?_) (fun c1 => ?_)
      · replace h := wp_t h c1
        refine V_lv (pc := 29) [0] rfl ?_
        exact hK _ h
      · replace h := wp_f h c1
        refine V_aload_n (pc := 14) C 0 dX5_digest_14 rfl rfl ?_
        refine V_aload_n (pc := 15) C 0 dX5_digest_15 rfl rfl ?_
        refine V_iload_n (pc := 16) C 1 dX5_digest_16 rfl rfl ?_
        refine V_callVi (pc := 17) (As := [.int l1]) (st := [.ref (q_m 0)]) C (c_M_toldOf (wp_b h)) mk_X5_toldOf wd_883 dX5_digest_17 0 rfl rfl rfl ⟨Nat.le_of_ble_eq_true rfl, Nat.le_of_ble_eq_true rfl⟩ (Nat.le_of_ble_eq_true rfl) rfl (fun r3 u hw => ?_)
        have h := hw
        try dsimp only at h
        try dsimp only
        refine V_callVv (pc := 20) (As := [.int r3]) (st := []) C (c_M_mix (wp_b h)) mk_X5_mix wd_891 dX5_digest_20 0 rfl rfl rfl ⟨Nat.le_of_ble_eq_true rfl, Nat.le_of_ble_eq_true rfl⟩ (Nat.le_of_ble_eq_true rfl) rfl (fun m_hash_6 hw => ?_)
        have h := hw
        try dsimp only at h
        try dsimp only
        obtain ⟨v7, ev7, h⟩ := wp_l h
        refine V_iinc (pc := 23) (v := v7) (lv' := [(0, .ref (q_m 0)), (1, .int v7)]) (j := 1) C dX5_digest_23 rfl (by rw [ev7]; rfl) [1, 0] (by decide) rfl ?_
        refine V_goto (pc := 26) (tgt := 9) C dX5_digest_26 (by decide) ?_
        exact ih _ _ h
  have hL_31 : ∀ (K : Int64 → Option (Int64 × (Nat → Int32) × Int32 × (Nat → Int32) × Int32 × (Nat → Int32) × (Nat → Int32) × (Nat → Int32) × (Nat → Int32) × Int32 × Int64)) (m_tables : Nat → Int32) (m_all : Int32) (m_rowsBehind : Nat → Int32) (m_rowsMany : Int32) (m_forms : Nat → Int32) (m_lesser : Nat → Int32) (m_greater : Nat → Int32) (m_why : Nat → Int32) (m_checks : Int32), (∀ (m_hash : Int64), wpO (K m_hash) post → V p l e (rmC 5 118) s m args below meth c D A 2 0 0 Q (wM cI q_m m_now m_aside m_past m_states m_refused m_text m_length m_tables m_all m_rowsBehind m_rowsMany m_forms m_lesser m_greater m_why m_checks m_numbers m_depths m_spot m_isFaulty m_orders m_letters m_parts m_hash) [(0, .ref (q_m 0))] 51 []) → ∀ (n : Nat) (l1 : Int32) (m_hash : Int64), wpO (M_digest_31 K m_now n l1 m_hash) post → V p l e (rmC 5 118) s m args below meth c D A 2 0 0 Q (wM cI q_m m_now m_aside m_past m_states m_refused m_text m_length m_tables m_all m_rowsBehind m_rowsMany m_forms m_lesser m_greater m_why m_checks m_numbers m_depths m_spot m_isFaulty m_orders m_letters m_parts m_hash) [(0, .ref (q_m 0)), (1, .int l1)] 31 [] := by
    intro K m_tables m_all m_rowsBehind m_rowsMany m_forms m_lesser m_greater m_why m_checks  hK n
    induction n with
    | zero => intro l1 m_hash h; rw [M_digest_31] at h; exact (wp_n h).elim
    | succ n ih =>
      intro l1 m_hash h
      rw [M_digest_31] at h
      refine V_iload_n (pc := 31) C 1 dX5_digest_31 rfl rfl ?_
      refine V_iconst (pc := 32) C dX5_digest_32 ki_5 ?_
      refine V_icmp_ge (pc := 33) (tgt := 51) C dX5_digest_33 (by decide) (fun c8 => ?_) (fun c8 => ?_)
      · replace h := wp_t h c8
        refine V_lv (pc := 51) [0] rfl ?_
        exact hK _ h
      · replace h := wp_f h c8
        refine V_aload_n (pc := 36) C 0 dX5_digest_36 rfl rfl ?_
        refine V_aload_n (pc := 37) C 0 dX5_digest_37 rfl rfl ?_
        refine V_iload_n (pc := 38) C 1 dX5_digest_38 rfl rfl ?_
        refine V_callVi (pc := 39) (As := [.int l1]) (st := [.ref (q_m 0)]) C (c_M_countOf (wp_b h)) mk_X5_countOf wd_790 dX5_digest_39 0 rfl rfl rfl ⟨Nat.le_of_ble_eq_true rfl, Nat.le_of_ble_eq_true rfl⟩ (Nat.le_of_ble_eq_true rfl) rfl (fun r10 u hw => ?_)
        have h := hw
        try dsimp only at h
        try dsimp only
        refine V_callVv (pc := 42) (As := [.int r10]) (st := []) C (c_M_mix (wp_b h)) mk_X5_mix wd_891 dX5_digest_42 0 rfl rfl rfl ⟨Nat.le_of_ble_eq_true rfl, Nat.le_of_ble_eq_true rfl⟩ (Nat.le_of_ble_eq_true rfl) rfl (fun m_hash_13 hw => ?_)
        have h := hw
        try dsimp only at h
        try dsimp only
        obtain ⟨v14, ev14, h⟩ := wp_l h
        refine V_iinc (pc := 45) (v := v14) (lv' := [(0, .ref (q_m 0)), (1, .int v14)]) (j := 1) C dX5_digest_45 rfl (by rw [ev14]; rfl) [1, 0] (by decide) rfl ?_
        refine V_goto (pc := 48) (tgt := 31) C dX5_digest_48 (by decide) ?_
        exact ih _ _ h
  have hL_116 : ∀ (K : Int64 → Option (Int64 × (Nat → Int32) × Int32 × (Nat → Int32) × Int32 × (Nat → Int32) × (Nat → Int32) × (Nat → Int32) × (Nat → Int32) × Int32 × Int64)) (m_tables : Nat → Int32) (m_all : Int32) (m_rowsBehind : Nat → Int32) (m_rowsMany : Int32) (m_forms : Nat → Int32) (m_lesser : Nat → Int32) (m_greater : Nat → Int32) (m_why : Nat → Int32) (m_checks : Int32), (∀ (m_hash : Int64), wpO (K m_hash) post → V p l e (rmC 5 118) s m args below meth c D A 2 0 0 Q (wM cI q_m m_now m_aside m_past m_states m_refused m_text m_length m_tables m_all m_rowsBehind m_rowsMany m_forms m_lesser m_greater m_why m_checks m_numbers m_depths m_spot m_isFaulty m_orders m_letters m_parts m_hash) [(0, .ref (q_m 0))] 137 []) → ∀ (n : Nat) (l1 : Int32) (m_hash : Int64), wpO (M_digest_116 K m_now m_rowsMany m_why m_checks n l1 m_hash) post → V p l e (rmC 5 118) s m args below meth c D A 2 0 0 Q (wM cI q_m m_now m_aside m_past m_states m_refused m_text m_length m_tables m_all m_rowsBehind m_rowsMany m_forms m_lesser m_greater m_why m_checks m_numbers m_depths m_spot m_isFaulty m_orders m_letters m_parts m_hash) [(0, .ref (q_m 0)), (1, .int l1)] 116 [] := by
    intro K m_tables m_all m_rowsBehind m_rowsMany m_forms m_lesser m_greater m_why m_checks  hK n
    induction n with
    | zero => intro l1 m_hash h; rw [M_digest_116] at h; exact (wp_n h).elim
    | succ n ih =>
      intro l1 m_hash h
      rw [M_digest_116] at h
      refine V_iload_n (pc := 116) C 1 dX5_digest_116 rfl rfl ?_
      refine V_bipush (pc := 117) C dX5_digest_117 kb_6 ?_
      refine V_icmp_ge (pc := 119) (tgt := 137) C dX5_digest_119 (by decide) (fun c15 => ?_) (fun c15 => ?_)
      · replace h := wp_t h c15
        refine V_lv (pc := 137) [0] rfl ?_
        exact hK _ h
      · replace h := wp_f h c15
        refine V_aload_n (pc := 122) C 0 dX5_digest_122 rfl rfl ?_
        refine V_aload_n (pc := 123) C 0 dX5_digest_123 rfl rfl ?_
        refine V_iload_n (pc := 124) C 1 dX5_digest_124 rfl rfl ?_
        refine V_callVi (pc := 125) (As := [.int l1]) (st := [.ref (q_m 0)]) C (c_M_sweptOf (wp_b h)) mk_X5_sweptOf wd_818 dX5_digest_125 0 rfl rfl rfl ⟨Nat.le_of_ble_eq_true rfl, Nat.le_of_ble_eq_true rfl⟩ (Nat.le_of_ble_eq_true rfl) rfl (fun r17 u hw => ?_)
        have h := hw
        try dsimp only at h
        try dsimp only
        refine V_callVv (pc := 128) (As := [.int r17]) (st := []) C (c_M_mix (wp_b h)) mk_X5_mix wd_891 dX5_digest_128 0 rfl rfl rfl ⟨Nat.le_of_ble_eq_true rfl, Nat.le_of_ble_eq_true rfl⟩ (Nat.le_of_ble_eq_true rfl) rfl (fun m_hash_20 hw => ?_)
        have h := hw
        try dsimp only at h
        try dsimp only
        obtain ⟨v21, ev21, h⟩ := wp_l h
        refine V_iinc (pc := 131) (v := v21) (lv' := [(0, .ref (q_m 0)), (1, .int v21)]) (j := 1) C dX5_digest_131 rfl (by rw [ev21]; rfl) [1, 0] (by decide) rfl ?_
        refine V_goto (pc := 134) (tgt := 116) C dX5_digest_134 (by decide) ?_
        exact ih _ _ h
  have hL_57 : ∀ (K : Int64 → Option (Int64 × (Nat → Int32) × Int32 × (Nat → Int32) × Int32 × (Nat → Int32) × (Nat → Int32) × (Nat → Int32) × (Nat → Int32) × Int32 × Int64)) (m_tables : Nat → Int32) (m_all : Int32) (m_rowsBehind : Nat → Int32) (m_rowsMany : Int32) (m_forms : Nat → Int32) (m_lesser : Nat → Int32) (m_greater : Nat → Int32) (m_why : Nat → Int32) (m_checks : Int32), (∀ (m_hash : Int64), wpO (K m_hash) post → V p l e (rmC 5 118) s m args below meth c D A 2 0 0 Q (wM cI q_m m_now m_aside m_past m_states m_refused m_text m_length m_tables m_all m_rowsBehind m_rowsMany m_forms m_lesser m_greater m_why m_checks m_numbers m_depths m_spot m_isFaulty m_orders m_letters m_parts m_hash) [(0, .ref (q_m 0))] 78 []) → ∀ (n : Nat) (l1 : Int32) (m_hash : Int64), wpO (M_digest_57 K m_now m_tables m_forms n l1 m_hash) post → V p l e (rmC 5 118) s m args below meth c D A 2 0 0 Q (wM cI q_m m_now m_aside m_past m_states m_refused m_text m_length m_tables m_all m_rowsBehind m_rowsMany m_forms m_lesser m_greater m_why m_checks m_numbers m_depths m_spot m_isFaulty m_orders m_letters m_parts m_hash) [(0, .ref (q_m 0)), (1, .int l1)] 57 [] := by
    intro K m_tables m_all m_rowsBehind m_rowsMany m_forms m_lesser m_greater m_why m_checks  hK n
    induction n with
    | zero => intro l1 m_hash h; rw [M_digest_57] at h; exact (wp_n h).elim
    | succ n ih =>
      intro l1 m_hash h
      rw [M_digest_57] at h
      refine V_iload_n (pc := 57) C 1 dX5_digest_57 rfl rfl ?_
      refine V_aload_n (pc := 58) C 0 dX5_digest_58 rfl rfl ?_
      refine V_get (pc := 59) C 0 0 inX5 wd_589 dX5_digest_59 rfl rfl (by decide) rfl rfl ?_
      refine V_iconst (pc := 62) C dX5_digest_62 ki_1 ?_
      obtain ⟨b22, h⟩ := wp_c h
      refine V_iald (pc := 63) C 1 dX5_digest_63 rfl b22 ?_
      refine V_icmp_ge (pc := 64) (tgt := 78) C dX5_digest_64 (by decide) (fun c23 => ?_) (fun c23 => ?_)
      · replace h := wp_t h c23
        refine V_lv (pc := 78) [0] rfl ?_
        exact hK _ h
      · replace h := wp_f h c23
        refine V_aload_n (pc := 67) C 0 dX5_digest_67 rfl rfl ?_
        refine V_iload_n (pc := 68) C 1 dX5_digest_68 rfl rfl ?_
        refine V_callVv (pc := 69) (As := [.int l1]) (st := []) C (c_M_mixNode (wp_b h)) mk_X5_mixNode wd_895 dX5_digest_69 0 rfl rfl rfl ⟨Nat.le_of_ble_eq_true rfl, Nat.le_of_ble_eq_true rfl⟩ (Nat.le_of_ble_eq_true rfl) rfl (fun m_hash_26 hw => ?_)
        have h := hw
        try dsimp only at h
        try dsimp only
        obtain ⟨v27, ev27, h⟩ := wp_l h
        refine V_iinc (pc := 72) (v := v27) (lv' := [(0, .ref (q_m 0)), (1, .int v27)]) (j := 1) C dX5_digest_72 rfl (by rw [ev27]; rfl) [1, 0] (by decide) rfl ?_
        refine V_goto (pc := 75) (tgt := 57) C dX5_digest_75 (by decide) ?_
        exact ih _ _ h
  have hL_90 : ∀ (K : Int64 → Option (Int64 × (Nat → Int32) × Int32 × (Nat → Int32) × Int32 × (Nat → Int32) × (Nat → Int32) × (Nat → Int32) × (Nat → Int32) × Int32 × Int64)) (m_tables : Nat → Int32) (m_all : Int32) (m_rowsBehind : Nat → Int32) (m_rowsMany : Int32) (m_forms : Nat → Int32) (m_lesser : Nat → Int32) (m_greater : Nat → Int32) (m_why : Nat → Int32) (m_checks : Int32), (∀ (m_hash : Int64), wpO (K m_hash) post → V p l e (rmC 5 118) s m args below meth c D A 2 0 0 Q (wM cI q_m m_now m_aside m_past m_states m_refused m_text m_length m_tables m_all m_rowsBehind m_rowsMany m_forms m_lesser m_greater m_why m_checks m_numbers m_depths m_spot m_isFaulty m_orders m_letters m_parts m_hash) [(0, .ref (q_m 0))] 114 []) → ∀ (n : Nat) (l1 : Int32) (m_hash : Int64), wpO (M_digest_90 K m_rowsBehind m_rowsMany n l1 m_hash) post → V p l e (rmC 5 118) s m args below meth c D A 2 0 0 Q (wM cI q_m m_now m_aside m_past m_states m_refused m_text m_length m_tables m_all m_rowsBehind m_rowsMany m_forms m_lesser m_greater m_why m_checks m_numbers m_depths m_spot m_isFaulty m_orders m_letters m_parts m_hash) [(0, .ref (q_m 0)), (1, .int l1)] 90 [] := by
    intro K m_tables m_all m_rowsBehind m_rowsMany m_forms m_lesser m_greater m_why m_checks  hK n
    induction n with
    | zero => intro l1 m_hash h; rw [M_digest_90] at h; exact (wp_n h).elim
    | succ n ih =>
      intro l1 m_hash h
      rw [M_digest_90] at h
      refine V_iload_n (pc := 90) C 1 dX5_digest_90 rfl rfl ?_
      refine V_aload_n (pc := 91) C 0 dX5_digest_91 rfl rfl ?_
      refine V_get (pc := 92) C 0 10 inX5 wd_599 dX5_digest_92 rfl rfl (by decide) rfl rfl ?_
      refine V_icmp_ge (pc := 95) (tgt := 114) C dX5_digest_95 (by decide) (fun c28 => ?_) (fun c28 => ?_)
      · replace h := wp_t h c28
        refine V_lv (pc := 114) [0] rfl ?_
        exact hK _ h
      · replace h := wp_f h c28
        refine V_aload_n (pc := 98) C 0 dX5_digest_98 rfl rfl ?_
        refine V_aload_n (pc := 99) C 0 dX5_digest_99 rfl rfl ?_
        refine V_get (pc := 100) C 0 9 inX5 wd_598 dX5_digest_100 rfl rfl (by decide) rfl rfl ?_
        refine V_iload_n (pc := 103) C 1 dX5_digest_103 rfl rfl ?_
        obtain ⟨b29, h⟩ := wp_c h
        refine V_iald (pc := 104) C 7 dX5_digest_104 rfl b29 ?_
        refine V_callVv (pc := 105) (As := [.int (m_rowsBehind (Int32.toNatClampNeg l1))]) (st := []) C (c_M_mix (wp_b h)) mk_X5_mix wd_891 dX5_digest_105 0 rfl rfl rfl ⟨Nat.le_of_ble_eq_true rfl, Nat.le_of_ble_eq_true rfl⟩ (Nat.le_of_ble_eq_true rfl) rfl (fun m_hash_32 hw => ?_)
        have h := hw
        try dsimp only at h
        try dsimp only
        obtain ⟨v33, ev33, h⟩ := wp_l h
        refine V_iinc (pc := 108) (v := v33) (lv' := [(0, .ref (q_m 0)), (1, .int v33)]) (j := 1) C dX5_digest_108 rfl (by rw [ev33]; rfl) [1, 0] (by decide) rfl ?_
        refine V_goto (pc := 111) (tgt := 90) C dX5_digest_111 (by decide) ?_
        exact ih _ _ h
  have hL_146 : ∀ (K : Int64 → Option (Int64 × (Nat → Int32) × Int32 × (Nat → Int32) × Int32 × (Nat → Int32) × (Nat → Int32) × (Nat → Int32) × (Nat → Int32) × Int32 × Int64)) (m_tables : Nat → Int32) (m_all : Int32) (m_rowsBehind : Nat → Int32) (m_rowsMany : Int32) (m_forms : Nat → Int32) (m_lesser : Nat → Int32) (m_greater : Nat → Int32) (m_why : Nat → Int32) (m_checks : Int32), (∀ (m_hash : Int64), wpO (K m_hash) post → V p l e (rmC 5 118) s m args below meth c D A 2 0 0 Q (wM cI q_m m_now m_aside m_past m_states m_refused m_text m_length m_tables m_all m_rowsBehind m_rowsMany m_forms m_lesser m_greater m_why m_checks m_numbers m_depths m_spot m_isFaulty m_orders m_letters m_parts m_hash) [(0, .ref (q_m 0))] 196 []) → ∀ (n : Nat) (l1 : Int32) (m_hash : Int64), wpO (M_digest_146 K m_now m_forms m_why n l1 m_hash) post → V p l e (rmC 5 118) s m args below meth c D A 2 0 0 Q (wM cI q_m m_now m_aside m_past m_states m_refused m_text m_length m_tables m_all m_rowsBehind m_rowsMany m_forms m_lesser m_greater m_why m_checks m_numbers m_depths m_spot m_isFaulty m_orders m_letters m_parts m_hash) [(0, .ref (q_m 0)), (1, .int l1)] 146 [] := by
    intro K m_tables m_all m_rowsBehind m_rowsMany m_forms m_lesser m_greater m_why m_checks  hK n
    induction n with
    | zero => intro l1 m_hash h; rw [M_digest_146] at h; exact (wp_n h).elim
    | succ n ih =>
      intro l1 m_hash h
      rw [M_digest_146] at h
      refine V_iload_n (pc := 146) C 1 dX5_digest_146 rfl rfl ?_
      refine V_aload_n (pc := 147) C 0 dX5_digest_147 rfl rfl ?_
      refine V_get (pc := 148) C 0 0 inX5 wd_589 dX5_digest_148 rfl rfl (by decide) rfl rfl ?_
      refine V_iconst (pc := 151) C dX5_digest_151 ki_1 ?_
      obtain ⟨b34, h⟩ := wp_c h
      refine V_iald (pc := 152) C 1 dX5_digest_152 rfl b34 ?_
      refine V_icmp_ge (pc := 153) (tgt := 196) C dX5_digest_153 (by decide) (fun c35 => ?_) (fun c35 => ?_)
      · replace h := wp_t h c35
        refine V_lv (pc := 196) [0] rfl ?_
        exact hK _ h
      · replace h := wp_f h c35
        refine V_aload_n (pc := 156) C 0 dX5_digest_156 rfl rfl ?_
        refine V_get (pc := 157) C 0 14 inX5 wd_603 dX5_digest_157 rfl rfl (by decide) rfl rfl ?_
        refine V_iload_n (pc := 160) C 1 dX5_digest_160 rfl rfl ?_
        obtain ⟨b36, h⟩ := wp_c h
        refine V_iald (pc := 161) C 11 dX5_digest_161 rfl b36 ?_
        refine V_if_le (pc := 162) (tgt := 190) C dX5_digest_162 (by decide) (fun c37 => ?_) (fun c37 => ?_)
        · replace h := wp_t h c37
          obtain ⟨v38, ev38, h⟩ := wp_l h
          refine V_iinc (pc := 190) (v := v38) (lv' := [(0, .ref (q_m 0)), (1, .int v38)]) (j := 1) C dX5_digest_190 rfl (by rw [ev38]; rfl) [1, 0] (by decide) rfl ?_
          refine V_goto (pc := 193) (tgt := 146) C dX5_digest_193 (by decide) ?_
          exact ih _ _ h
        · replace h := wp_f h c37
          refine V_aload_n (pc := 165) C 0 dX5_digest_165 rfl rfl ?_
          refine V_iload_n (pc := 166) C 1 dX5_digest_166 rfl rfl ?_
          refine V_callVv (pc := 167) (As := [.int l1]) (st := []) C (c_M_mix (wp_b h)) mk_X5_mix wd_891 dX5_digest_167 0 rfl rfl rfl ⟨Nat.le_of_ble_eq_true rfl, Nat.le_of_ble_eq_true rfl⟩ (Nat.le_of_ble_eq_true rfl) rfl (fun m_hash_41 hw => ?_)
          have h := hw
          try dsimp only at h
          try dsimp only
          refine V_aload_n (pc := 170) C 0 dX5_digest_170 rfl rfl ?_
          refine V_aload_n (pc := 171) C 0 dX5_digest_171 rfl rfl ?_
          refine V_get (pc := 172) C 0 11 inX5 wd_600 dX5_digest_172 rfl rfl (by decide) rfl rfl ?_
          refine V_iload_n (pc := 175) C 1 dX5_digest_175 rfl rfl ?_
          obtain ⟨b42, h⟩ := wp_c h
          refine V_iald (pc := 176) C 8 dX5_digest_176 rfl b42 ?_
          refine V_callVv (pc := 177) (As := [.int (m_forms (Int32.toNatClampNeg l1))]) (st := []) C (c_M_mix (wp_b h)) mk_X5_mix wd_891 dX5_digest_177 0 rfl rfl rfl ⟨Nat.le_of_ble_eq_true rfl, Nat.le_of_ble_eq_true rfl⟩ (Nat.le_of_ble_eq_true rfl) rfl (fun m_hash_45 hw => ?_)
          have h := hw
          try dsimp only at h
          try dsimp only
          refine V_aload_n (pc := 180) C 0 dX5_digest_180 rfl rfl ?_
          refine V_aload_n (pc := 181) C 0 dX5_digest_181 rfl rfl ?_
          refine V_get (pc := 182) C 0 14 inX5 wd_603 dX5_digest_182 rfl rfl (by decide) rfl rfl ?_
          refine V_iload_n (pc := 185) C 1 dX5_digest_185 rfl rfl ?_
          obtain ⟨b46, h⟩ := wp_c h
          refine V_iald (pc := 186) C 11 dX5_digest_186 rfl b46 ?_
          refine V_callVv (pc := 187) (As := [.int (m_why (Int32.toNatClampNeg l1))]) (st := []) C (c_M_mix (wp_b h)) mk_X5_mix wd_891 dX5_digest_187 0 rfl rfl rfl ⟨Nat.le_of_ble_eq_true rfl, Nat.le_of_ble_eq_true rfl⟩ (Nat.le_of_ble_eq_true rfl) rfl (fun m_hash_49 hw => ?_)
          have h := hw
          try dsimp only at h
          try dsimp only
          obtain ⟨v50, ev50, h⟩ := wp_l h
          refine V_iinc (pc := 190) (v := v50) (lv' := [(0, .ref (q_m 0)), (1, .int v50)]) (j := 1) C dX5_digest_190 rfl (by rw [ev50]; rfl) [1, 0] (by decide) rfl ?_
          refine V_goto (pc := 193) (tgt := 146) C dX5_digest_193 (by decide) ?_
          exact ih _ _ h
  unfold M_digest at h
  refine V_aload_n (pc := 0) C 0 dX5_digest_0 rfl rfl ?_
  refine V_ldc2 (pc := 1) C wd_890 dX5_digest_1 ?_
  refine V_put (pc := 4) (ws' := (wM cI q_m m_now m_aside m_past m_states m_refused m_text m_length m_tables m_all m_rowsBehind m_rowsMany m_forms m_lesser m_greater m_why m_checks m_numbers m_depths m_spot m_isFaulty m_orders m_letters m_parts 1675)) C 0 23 inX5 tyX5_ok nmX5 wd_612 dX5_digest_4 rfl rfl (by decide) rfl rfl rfl rfl rfl (Nat.le_of_ble_eq_true rfl) rfl ?_
  refine V_iconst (pc := 7) C dX5_digest_7 ki_0 ?_
  refine V_istore_n (pc := 8) (lv' := [(0, .ref (q_m 0)), (1, .int 0)]) C dX5_digest_8 rfl [1, 0] (by decide) rfl ?_
  refine hL_9 _ _ _ _ _ _ _ _ _ _ (fun m_hash_51 h => ?_) 1000 _ _ h
  try dsimp only at h
  refine V_iconst (pc := 29) C dX5_digest_29 ki_0 ?_
  refine V_istore_n (pc := 30) (lv' := [(0, .ref (q_m 0)), (1, .int 0)]) C dX5_digest_30 rfl [1, 0] (by decide) rfl ?_
  refine hL_31 _ _ _ _ _ _ _ _ _ _ (fun m_hash_52 h => ?_) 1000 _ _ h
  try dsimp only at h
  refine V_aload_n (pc := 51) C 0 dX5_digest_51 rfl rfl ?_
  refine V_callVv (pc := 52) (As := []) (st := []) C (c_M_sweeps (wp_b h)) mk_X5_sweeps wd_705 dX5_digest_52 0 rfl rfl rfl ⟨Nat.le_of_ble_eq_true rfl, Nat.le_of_ble_eq_true rfl⟩ (Nat.le_of_ble_eq_true rfl) rfl (fun u hw => ?_)
  obtain ⟨m_tables_55, m_all_56, m_rowsBehind_57, m_rowsMany_58, m_forms_59, m_lesser_60, m_greater_61, m_why_62, m_checks_63⟩ := u
  have h := hw
  try dsimp only at h
  try dsimp only
  refine V_iconst (pc := 55) C dX5_digest_55 ki_0 ?_
  refine V_istore_n (pc := 56) (lv' := [(0, .ref (q_m 0)), (1, .int 0)]) C dX5_digest_56 rfl [1, 0] (by decide) rfl ?_
  refine hL_57 _ _ _ _ _ _ _ _ _ _ (fun m_hash_64 h => ?_) 1000 _ _ h
  try dsimp only at h
  refine V_aload_n (pc := 78) C 0 dX5_digest_78 rfl rfl ?_
  refine V_iconst (pc := 79) C dX5_digest_79 ki_0 ?_
  refine V_callVv (pc := 80) (As := [.int 0]) (st := []) C (c_M_mixOuts (wp_b h)) mk_X5_mixOuts wd_898 dX5_digest_80 0 rfl rfl rfl ⟨Nat.le_of_ble_eq_true rfl, Nat.le_of_ble_eq_true rfl⟩ (Nat.le_of_ble_eq_true rfl) rfl (fun m_hash_67 hw => ?_)
  have h := hw
  try dsimp only at h
  try dsimp only
  refine V_aload_n (pc := 83) C 0 dX5_digest_83 rfl rfl ?_
  refine V_iconst (pc := 84) C dX5_digest_84 ki_1 ?_
  refine V_callVv (pc := 85) (As := [.int 1]) (st := []) C (c_M_mixOuts (wp_b h)) mk_X5_mixOuts wd_898 dX5_digest_85 0 rfl rfl rfl ⟨Nat.le_of_ble_eq_true rfl, Nat.le_of_ble_eq_true rfl⟩ (Nat.le_of_ble_eq_true rfl) rfl (fun m_hash_70 hw => ?_)
  have h := hw
  try dsimp only at h
  try dsimp only
  refine V_iconst (pc := 88) C dX5_digest_88 ki_0 ?_
  refine V_istore_n (pc := 89) (lv' := [(0, .ref (q_m 0)), (1, .int 0)]) C dX5_digest_89 rfl [1, 0] (by decide) rfl ?_
  refine hL_90 _ _ _ _ _ _ _ _ _ _ (fun m_hash_71 h => ?_) 1000 _ _ h
  try dsimp only at h
  refine V_iconst (pc := 114) C dX5_digest_114 ki_0 ?_
  refine V_istore_n (pc := 115) (lv' := [(0, .ref (q_m 0)), (1, .int 0)]) C dX5_digest_115 rfl [1, 0] (by decide) rfl ?_
  refine hL_116 _ _ _ _ _ _ _ _ _ _ (fun m_hash_72 h => ?_) 1000 _ _ h
  try dsimp only at h
  refine V_aload_n (pc := 137) C 0 dX5_digest_137 rfl rfl ?_
  refine V_get (pc := 138) C 0 0 inX5 wd_589 dX5_digest_138 rfl rfl (by decide) rfl rfl ?_
  refine V_iconst (pc := 141) C dX5_digest_141 ki_0 ?_
  obtain ⟨b73, h⟩ := wp_c h
  refine V_iald (pc := 142) C 1 dX5_digest_142 rfl b73 ?_
  refine V_iconst (pc := 143) C dX5_digest_143 ki_1 ?_
  refine V_iadd (pc := 144) C dX5_digest_144 ?_
  obtain ⟨v74, ev74, h⟩ := wp_l h
  refine V_topi (pc := 145) ev74 ?_
  refine V_istore_n (pc := 145) (lv' := [(0, .ref (q_m 0)), (1, .int v74)]) C dX5_digest_145 rfl [1, 0] (by decide) rfl ?_
  refine hL_146 _ _ _ _ _ _ _ _ _ _ (fun m_hash_75 h => ?_) 1000 _ _ h
  try dsimp only at h
  refine V_aload_n (pc := 196) C 0 dX5_digest_196 rfl rfl ?_
  refine V_aload_n (pc := 197) C 0 dX5_digest_197 rfl rfl ?_
  refine V_callVi (pc := 198) (As := []) (st := [.ref (q_m 0)]) C (c_M_verdictNow (wp_b h)) mk_X5_verdictNow wd_843 dX5_digest_198 0 rfl rfl rfl ⟨Nat.le_of_ble_eq_true rfl, Nat.le_of_ble_eq_true rfl⟩ (Nat.le_of_ble_eq_true rfl) rfl (fun r77 u hw => ?_)
  have h := hw
  try dsimp only at h
  try dsimp only
  refine V_callVv (pc := 201) (As := [.int r77]) (st := []) C (c_M_mix (wp_b h)) mk_X5_mix wd_891 dX5_digest_201 0 rfl rfl rfl ⟨Nat.le_of_ble_eq_true rfl, Nat.le_of_ble_eq_true rfl⟩ (Nat.le_of_ble_eq_true rfl) rfl (fun m_hash_80 hw => ?_)
  have h := hw
  try dsimp only at h
  try dsimp only
  refine V_aload_n (pc := 204) C 0 dX5_digest_204 rfl rfl ?_
  refine V_get (pc := 205) C 0 23 inX5 wd_612 dX5_digest_205 rfl rfl (by decide) rfl rfl ?_
  exact V_lret (pc := 208) C hQ (m_tables_55, m_all_56, m_rowsBehind_57, m_rowsMany_58, m_forms_59, m_lesser_60, m_greater_61, m_why_62, m_checks_63, m_hash_80) dX5_digest_208 rfl (wp_s h)
