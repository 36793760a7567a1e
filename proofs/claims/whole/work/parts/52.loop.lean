/-! the law's loop -/
theorem any_nI (x : Int32) : ∃ n : Nat, x = nI n := ⟨x.toBitVec.toNat, Int32.toBitVec_inj.mp (by show x.toBitVec = BitVec.ofNat 32 _; simp)⟩
theorem and_31 (x : Int32) : ∃ j : Nat, j < 32 ∧ x &&& 31 = nI j := by
  obtain ⟨n, rfl⟩ := any_nI x
  refine ⟨n % 32, Nat.mod_lt _ (by decide), ?_⟩
  rw [L31]
  exact fa_mask n 5
theorem go_lo : ∀ L, L < 4 → ∀ i, i < 8 → Int32.ofNat L - 4 < nI i := by decide +kernel
theorem go_on {L i : Nat} (hL : L ≤ 2048) (hi : i ≤ L + 4) (h : ¬ (Int32.ofNat L - 4 < nI i)) : i + 4 ≤ L := by
  by_cases h4 : 4 ≤ L
  · have e : Int32.ofNat L - 4 = nI (L - 4) := by rw [show Int32.ofNat L = nI L from rfl, L4, n_sub h4]
    rw [e, n_lt (by omega) (by omega)] at h
    omega
  · exact absurd (go_lo L (by omega) i (by omega)) h
section LOOP
variable {p : Program} {l : Launch} {e : Env} {s : State} {m : MethodId} {below : List Frame} {meth : Method} {c : Code} {D : va_G} {cI cC : ClassId} {b L : Nat} {xs : Nat → Int32} {q_x q_c q_s q_w q_h : Nat → Nat} {qs_h : Nat → Nat → Nat} {q_t q_m : Nat → Nat}
set_option maxRecDepth 100000 in
set_option maxHeartbeats 4000000 in
theorem law_loop (C : Cx p room_1 s m #[Value.ref b] meth c cL_law 4 R_law ret D cI cC (fun q => s.heap.size ≤ q) 88 3892) (hX : va_X b L xs s s.heap) (hbl : b < s.heap.size) (hL : L ≤ 2048) : ∀ (d i : Nat), i + d = L + 4 → ∀ ws, LI cI cC q_x q_c q_s q_w q_h qs_h q_t q_m ws → V p l e room_1 s m #[Value.ref b] below meth c D (fun q => s.heap.size ≤ q) 4 88 3892 (lw_Z below #[Value.ref b] s) ws [(0, .ref b), (1, .ref (q_x 0)), (2, .ref (q_m 0)), (3, .int (nI i))] 18 [] := by
  intro d
  induction d using Nat.strongRecOn with
  | _ d ih =>
    intro i hi ws hI
    have hbA : ¬ (fun q => s.heap.size ≤ q) b := Nat.not_le.mpr hbl
    refine V_iload_n (pc := 18) C 3 dL_law_18 rfl rfl ?_
    refine V_aload_n (pc := 19) C 0 dL_law_19 rfl rfl ?_
    refine V_slen (pc := 20) C hX hbl hbA dL_law_20 ?_
    refine V_iconst (pc := 21) C dL_law_21 ki_4 ?_
    refine V_isub (pc := 22) C dL_law_22 ?_
    refine V_icmp_gt (pc := 23) (tgt := 841) C dL_law_23 rfl (fun _ => ?_) (fun hle => ?_)
    · refine V_iconst (pc := 841) C dL_law_841 ki_1 ?_
      intro H locs ls hP hD hS hl
      refine va_forget (fun q h => hS.2.2 q h) ?_
      refine W.widen (k := 600000) (n := 7302250) (Nat.le_of_ble_eq_true rfl) (Nat.le_of_ble_eq_true rfl) ?_
      exact lw_ret C.1 C.2.1 C.2.2.2.2.2.2.2.2.1 C.2.2.2.2.2.2.2.2.2.1 dL_law_842
    · have h4 : i + 4 ≤ L := go_on hL (by omega) hle
      have h0 : vp_in (nI i) L := vp_in_nI (by omega) (by omega)
      have h1 : vp_in (nI i + 1) L := by rw [L1, n_add]; exact vp_in_nI (by omega) (by omega)
      have h2 : vp_in (nI i + 2) L := by rw [L2, n_add]; exact vp_in_nI (by omega) (by omega)
      have h3 : vp_in (nI i + 3) L := by rw [L3, n_add]; exact vp_in_nI (by omega) (by omega)
      have e4 : nI i + Int32.ofInt 4 = nI (i + 4) := by rw [ki_4, L4, n_add]
      have k : ∀ ws', LI cI cC q_x q_c q_s q_w q_h qs_h q_t q_m ws' → V p l e room_1 s m #[Value.ref b] below meth c D (fun q => s.heap.size ≤ q) 4 88 3892 (lw_Z below #[Value.ref b] s) ws' [(0, .ref b), (1, .ref (q_x 0)), (2, .ref (q_m 0)), (3, .int (nI i))] 835 [] := fun ws' hI' => V_iinc (pc := 835) (j := 3) (v := nI (i + 4)) (lv' := [(0, .ref b), (1, .ref (q_x 0)), (2, .ref (q_m 0)), (3, .int (nI (i + 4)))]) C dL_law_835 rfl e4 [1, 2, 3, 0] (by decide) rfl (V_goto (pc := 838) (tgt := 18) C dL_law_838 rfl (ih (d - 4) (by omega) (i + 4) (by omega) ws' hI'))
      refine V_aload_n (pc := 26) C 0 dL_law_26 rfl rfl ?_
      refine V_iload_n (pc := 27) C 3 dL_law_27 rfl rfl ?_
      refine V_sld (pc := 28) C hX hbl hbA h0 dL_law_28 ?_
      refine V_bipush (pc := 29) C dL_law_29 kb_31 ?_
      refine V_iand (pc := 31) C dL_law_31 ?_
      obtain ⟨j, hj, ej⟩ := and_31 (xs (nI i).toNatClampNeg)
      rw [ej]
      clear ej
      by_cases hj28 : j < 28
      · rcases (show j = 0 ∨ j = 1 ∨ j = 2 ∨ j = 3 ∨ j = 4 ∨ j = 5 ∨ j = 6 ∨ j = 7 ∨ j = 8 ∨ j = 9 ∨ j = 10 ∨ j = 11 ∨ j = 12 ∨ j = 13 ∨ j = 14 ∨ j = 15 ∨ j = 16 ∨ j = 17 ∨ j = 18 ∨ j = 19 ∨ j = 20 ∨ j = 21 ∨ j = 22 ∨ j = 23 ∨ j = 24 ∨ j = 25 ∨ j = 26 ∨ j = 27 by omega) with rfl | rfl | rfl | rfl | rfl | rfl | rfl | rfl | rfl | rfl | rfl | rfl | rfl | rfl | rfl | rfl | rfl | rfl | rfl | rfl | rfl | rfl | rfl | rfl | rfl | rfl | rfl | rfl
        · exact V_tableIn (pc := 32) (tgt := 160) C dL_law_32 (by decide) (by decide) (off := 128) rfl rfl (l_inputs C hX hbl hbA h1 hI k)
        · exact V_tableIn (pc := 32) (tgt := 183) C dL_law_32 (by decide) (by decide) (off := 151) rfl rfl (l_gate C hX hbl hbA h1 h2 hI k)
        · exact V_tableIn (pc := 32) (tgt := 216) C dL_law_32 (by decide) (by decide) (off := 184) rfl rfl (l_xor C hX hbl hbA h1 h2 hI k)
        · exact V_tableIn (pc := 32) (tgt := 249) C dL_law_32 (by decide) (by decide) (off := 217) rfl rfl (l_mux C hX hbl hbA h1 h2 h3 hI k)
        · exact V_tableIn (pc := 32) (tgt := 292) C dL_law_32 (by decide) (by decide) (off := 260) rfl rfl (l_out C hX hbl hbA h1 h2 hI k)
        · exact V_tableIn (pc := 32) (tgt := 325) C dL_law_32 (by decide) (by decide) (off := 293) rfl rfl (l_pattern C hX hbl hbA h1 hI k)
        · exact V_tableIn (pc := 32) (tgt := 348) C dL_law_32 (by decide) (by decide) (off := 316) rfl rfl (l_settles C hX hbl hbA hI k)
        · exact V_tableIn (pc := 32) (tgt := 361) C dL_law_32 (by decide) (by decide) (off := 329) rfl rfl (l_of C hX hbl hbA h1 h2 hI k)
        · exact V_tableIn (pc := 32) (tgt := 394) C dL_law_32 (by decide) (by decide) (off := 362) rfl rfl (l_table C hX hbl hbA h1 hI k)
        · exact V_tableIn (pc := 32) (tgt := 417) C dL_law_32 (by decide) (by decide) (off := 385) rfl rfl (l_at C hX hbl hbA h1 h2 hI k)
        · exact V_tableIn (pc := 32) (tgt := 450) C dL_law_32 (by decide) (by decide) (off := 418) rfl rfl (l_depth C hX hbl hbA h1 hI k)
        · exact V_tableIn (pc := 32) (tgt := 473) C dL_law_32 (by decide) (by decide) (off := 441) rfl rfl (l_cone C hX hbl hbA h1 hI k)
        · exact V_tableIn (pc := 32) (tgt := 496) C dL_law_32 (by decide) (by decide) (off := 464) rfl rfl (l_outs C hX hbl hbA h1 h2 hI k)
        · exact V_tableIn (pc := 32) (tgt := 529) C dL_law_32 (by decide) (by decide) (off := 497) rfl rfl (l_count C hX hbl hbA h1 hI k)
        · exact V_tableIn (pc := 32) (tgt := 552) C dL_law_32 (by decide) (by decide) (off := 520) rfl rfl (l_sign C hX hbl hbA h1 hI k)
        · exact V_tableIn (pc := 32) (tgt := 575) C dL_law_32 (by decide) (by decide) (off := 543) rfl rfl (l_form C hX hbl hbA h1 hI k)
        · exact V_tableIn (pc := 32) (tgt := 598) C dL_law_32 (by decide) (by decide) (off := 566) rfl rfl (l_lines C hX hbl hbA h1 h2 hI k)
        · exact V_tableIn (pc := 32) (tgt := 631) C dL_law_32 (by decide) (by decide) (off := 599) rfl rfl (l_swept C hX hbl hbA h1 hI k)
        · exact V_tableIn (pc := 32) (tgt := 654) C dL_law_32 (by decide) (by decide) (off := 622) rfl rfl (l_row C hX hbl hbA h1 hI k)
        · exact V_tableIn (pc := 32) (tgt := 677) C dL_law_32 (by decide) (by decide) (off := 645) rfl rfl (l_alike C hX hbl hbA h1 hI k)
        · exact V_tableIn (pc := 32) (tgt := 700) C dL_law_32 (by decide) (by decide) (off := 668) rfl rfl (l_witness C hX hbl hbA h1 hI k)
        · exact V_tableIn (pc := 32) (tgt := 723) C dL_law_32 (by decide) (by decide) (off := 691) rfl rfl (l_verdict C hX hbl hbA hI k)
        · exact V_tableIn (pc := 32) (tgt := 736) C dL_law_32 (by decide) (by decide) (off := 704) rfl rfl (l_type C hX hbl hbA h1 hI k)
        · exact V_tableIn (pc := 32) (tgt := 759) C dL_law_32 (by decide) (by decide) (off := 727) rfl rfl (l_clear C hX hbl hbA hI k)
        · exact V_tableIn (pc := 32) (tgt := 772) C dL_law_32 (by decide) (by decide) (off := 740) rfl rfl (l_does C hX hbl hbA hI k)
        · exact V_tableIn (pc := 32) (tgt := 785) C dL_law_32 (by decide) (by decide) (off := 753) rfl rfl (l_back C hX hbl hbA hI k)
        · exact V_tableIn (pc := 32) (tgt := 798) C dL_law_32 (by decide) (by decide) (off := 766) rfl rfl (l_told C hX hbl hbA h1 hI k)
        · exact V_tableIn (pc := 32) (tgt := 821) C dL_law_32 (by decide) (by decide) (off := 789) rfl rfl (l_digest C hX hbl hbA hI k)
      · refine V_tableOut (pc := 32) (tgt := 835) C dL_law_32 (Or.inr ?_) rfl (k ws hI)
        rcases (show j = 28 ∨ j = 29 ∨ j = 30 ∨ j = 31 by omega) with rfl | rfl | rfl | rfl <;> decide
end LOOP
