def wC (cI : ClassId) (q : Nat → Nat) (c_firsts : Nat → Int32) (c_seconds : Nat → Int32) (c_truths : Nat → Int32) (c_levels : Nat → Int32) (c_outLiterals : Nat → Int32) (c_outCounts : Nat → Int32) (c_patterns : Nat → Int32) (c_inputCount : Int32) (c_nodeCount : Int32) (c_patternCount : Int32) : va_W := [(q 0, .inr (0, [.ref (q 1), .ref (q 2), .ref (q 3), .ref (q 4), .ref (q 5), .ref (q 6), .ref (q 7), .int c_inputCount, .int c_nodeCount, .int c_patternCount])), (q 1, .inl (cI, 48, .inl c_firsts)), (q 2, .inl (cI, 48, .inl c_seconds)), (q 3, .inl (cI, 48, .inl c_truths)), (q 4, .inl (cI, 48, .inl c_levels)), (q 5, .inl (cI, 12, .inl c_outLiterals)), (q 6, .inl (cI, 2, .inl c_outCounts)), (q 7, .inl (cI, 12, .inl c_patterns))]
def wT (cI : ClassId) (q : Nat → Nat) (t_bytes : Nat → Int32) (t_kinds : Nat → Int32) (t_numbers : Nat → Int32) (t_length : Int32) (t_orderCount : Int32) (t_openKind : Int32) (t_given : Int32) (t_figures : Int32) : va_W := [(q 0, .inr (2, [.ref (q 1), .ref (q 2), .ref (q 3), .int t_length, .int t_orderCount, .int t_openKind, .int t_given, .int t_figures])), (q 1, .inl (cI, 150, .inl t_bytes)), (q 2, .inl (cI, 50, .inl t_kinds)), (q 3, .inl (cI, 150, .inl t_numbers))]
def wS (cI : ClassId) (q : Nat → Nat) (w_forms : Nat → Int32) (w_reasons : Nat → Int32) (w_lessers : Nat → Int32) (w_greaters : Nat → Int32) (w_lineGates : Nat → Int32) (w_newNumbers : Nat → Int32) (w_rows : Nat → Int32) (w_gatesBy : Nat → Int32) (w_lineCount : Int32) (w_rowCount : Int32) (w_checkCount : Int32) (w_patternRows : Int32) (w_allRows : Int32) : va_W := [(q 0, .inr (3, [.ref (q 1), .ref (q 2), .ref (q 3), .ref (q 4), .ref (q 5), .ref (q 6), .ref (q 7), .ref (q 8), .int w_lineCount, .int w_rowCount, .int w_checkCount, .int w_patternRows, .int w_allRows])), (q 1, .inl (cI, 48, .inl w_forms)), (q 2, .inl (cI, 48, .inl w_reasons)), (q 3, .inl (cI, 48, .inl w_lessers)), (q 4, .inl (cI, 48, .inl w_greaters)), (q 5, .inl (cI, 48, .inl w_lineGates)), (q 6, .inl (cI, 48, .inl w_newNumbers)), (q 7, .inl (cI, 12, .inl w_rows)), (q 8, .inl (cI, 4, .inl w_gatesBy))]
def wM (cI : ClassId) (q : Nat → Nat) (m_now : Nat → Int32) (m_aside : Nat → Int32) (m_past : Nat → Int32) (m_states : Int32) (m_refused : Nat → Int32) (m_text : Nat → Int32) (m_length : Int32) (m_tables : Nat → Int32) (m_all : Int32) (m_rowsBehind : Nat → Int32) (m_rowsMany : Int32) (m_forms : Nat → Int32) (m_lesser : Nat → Int32) (m_greater : Nat → Int32) (m_why : Nat → Int32) (m_checks : Int32) (m_numbers : Nat → Int32) (m_depths : Nat → Int32) (m_spot : Int32) (m_isFaulty : Int32) (m_orders : Int32) (m_letters : Nat → Int32) (m_parts : Nat → Int32) (m_hash : Int64) : va_W := [(q 0, .inr (5, [.ref (q 1), .ref (q 2), .ref (q 3), .int m_states, .ref (q 4), .ref (q 5), .int m_length, .ref (q 6), .int m_all, .ref (q 7), .int m_rowsMany, .ref (q 8), .ref (q 9), .ref (q 10), .ref (q 11), .int m_checks, .ref (q 12), .ref (q 13), .int m_spot, .int m_isFaulty, .int m_orders, .ref (q 14), .ref (q 15), .long m_hash])), (q 1, .inl (cI, 125, .inl m_now)), (q 2, .inl (cI, 125, .inl m_aside)), (q 3, .inl (cI, 625, .inl m_past)), (q 4, .inl (cI, 3, .inl m_refused)), (q 5, .inl (cI, 150, .inl m_text)), (q 6, .inl (cI, 48, .inl m_tables)), (q 7, .inl (cI, 12, .inl m_rowsBehind)), (q 8, .inl (cI, 48, .inl m_forms)), (q 9, .inl (cI, 48, .inl m_lesser)), (q 10, .inl (cI, 48, .inl m_greater)), (q 11, .inl (cI, 48, .inl m_why)), (q 12, .inl (cI, 48, .inl m_numbers)), (q 13, .inl (cI, 48, .inl m_depths)), (q 14, .inl (cI, 51, .inl m_letters)), (q 15, .inl (cI, 153, .inl m_parts))]
def wZ (cI : ClassId) (q n : Nat) (z_row : Nat → Int32) : va_W := [(q, .inl (cI, n, .inl z_row))]
def wH (cI cC : ClassId) (q : Nat → Nat) (qs : Nat → Nat → Nat) (h_firsts : Nat → Nat → Int32) (h_seconds : Nat → Nat → Int32) (h_truths : Nat → Nat → Int32) (h_levels : Nat → Nat → Int32) (h_outLiterals : Nat → Nat → Int32) (h_outCounts : Nat → Nat → Int32) (h_patterns : Nat → Nat → Int32) (h_inputCount : Nat → Int32) (h_nodeCount : Nat → Int32) (h_patternCount : Nat → Int32) (h_newest : Int32) (h_size : Int32) : va_W := [(q 0, .inr (1, [.ref (q 1), .int h_newest, .int h_size])), (q 1, .inl (cC, 5, .inr (.inr (.inr (.inr (fun j => if j < 5 then some (qs j 0) else none))))))] ++ (wC cI (qs 0) (h_firsts 0) (h_seconds 0) (h_truths 0) (h_levels 0) (h_outLiterals 0) (h_outCounts 0) (h_patterns 0) (h_inputCount 0) (h_nodeCount 0) (h_patternCount 0) ++ (wC cI (qs 1) (h_firsts 1) (h_seconds 1) (h_truths 1) (h_levels 1) (h_outLiterals 1) (h_outCounts 1) (h_patterns 1) (h_inputCount 1) (h_nodeCount 1) (h_patternCount 1) ++ (wC cI (qs 2) (h_firsts 2) (h_seconds 2) (h_truths 2) (h_levels 2) (h_outLiterals 2) (h_outCounts 2) (h_patterns 2) (h_inputCount 2) (h_nodeCount 2) (h_patternCount 2) ++ (wC cI (qs 3) (h_firsts 3) (h_seconds 3) (h_truths 3) (h_levels 3) (h_outLiterals 3) (h_outCounts 3) (h_patterns 3) (h_inputCount 3) (h_nodeCount 3) (h_patternCount 3) ++ (wC cI (qs 4) (h_firsts 4) (h_seconds 4) (h_truths 4) (h_levels 4) (h_outLiterals 4) (h_outCounts 4) (h_patterns 4) (h_inputCount 4) (h_nodeCount 4) (h_patternCount 4))))))
def wX (q qc q2 qw qh qt : Nat → Nat) (x_sweepIsOld x_badCalls x_noCalls x_fullCalls : Int32) : va_W := [(q 0, .inr (4, [.ref (qc 0), .ref (q2 0), .ref (qw 0), .ref (qh 0), .ref (qt 0), .int x_sweepIsOld, .int x_badCalls, .int x_noCalls, .int x_fullCalls]))]
theorem kb_m10 : (Int8.ofInt (-10)).toInt32 = (-10 : Int32) := by decide
theorem kb_m5 : (Int8.ofInt (-5)).toInt32 = (-5 : Int32) := by decide
theorem kb_m4 : (Int8.ofInt (-4)).toInt32 = (-4 : Int32) := by decide
theorem kb_m3 : (Int8.ofInt (-3)).toInt32 = (-3 : Int32) := by decide
theorem kb_m2 : (Int8.ofInt (-2)).toInt32 = (-2 : Int32) := by decide
theorem kb_6 : (Int8.ofInt (6)).toInt32 = (6 : Int32) := by decide
theorem kb_10 : (Int8.ofInt (10)).toInt32 = (10 : Int32) := by decide
theorem kb_12 : (Int8.ofInt (12)).toInt32 = (12 : Int32) := by decide
theorem kb_31 : (Int8.ofInt (31)).toInt32 = (31 : Int32) := by decide
theorem kb_32 : (Int8.ofInt (32)).toInt32 = (32 : Int32) := by decide
theorem kb_48 : (Int8.ofInt (48)).toInt32 = (48 : Int32) := by decide
theorem kb_50 : (Int8.ofInt (50)).toInt32 = (50 : Int32) := by decide
theorem kb_57 : (Int8.ofInt (57)).toInt32 = (57 : Int32) := by decide
theorem kb_59 : (Int8.ofInt (59)).toInt32 = (59 : Int32) := by decide
theorem kb_98 : (Int8.ofInt (98)).toInt32 = (98 : Int32) := by decide
theorem kb_99 : (Int8.ofInt (99)).toInt32 = (99 : Int32) := by decide
theorem kb_100 : (Int8.ofInt (100)).toInt32 = (100 : Int32) := by decide
theorem kb_106 : (Int8.ofInt (106)).toInt32 = (106 : Int32) := by decide
theorem kb_112 : (Int8.ofInt (112)).toInt32 = (112 : Int32) := by decide
theorem kb_113 : (Int8.ofInt (113)).toInt32 = (113 : Int32) := by decide
theorem kb_125 : (Int8.ofInt (125)).toInt32 = (125 : Int32) := by decide
theorem kb_127 : (Int8.ofInt (127)).toInt32 = (127 : Int32) := by decide
theorem ki_m1 : Int32.ofInt (-1) = (-1 : Int32) := by decide
theorem ki_0 : Int32.ofInt (0) = (0 : Int32) := by decide
theorem ki_1 : Int32.ofInt (1) = (1 : Int32) := by decide
theorem ki_2 : Int32.ofInt (2) = (2 : Int32) := by decide
theorem ki_3 : Int32.ofInt (3) = (3 : Int32) := by decide
theorem ki_4 : Int32.ofInt (4) = (4 : Int32) := by decide
theorem ki_5 : Int32.ofInt (5) = (5 : Int32) := by decide
theorem ks_m1000 : (Int16.ofInt (-1000)).toInt32 = (-1000 : Int32) := by decide
theorem ks_128 : (Int16.ofInt (128)).toInt32 = (128 : Int32) := by decide
theorem ks_150 : (Int16.ofInt (150)).toInt32 = (150 : Int32) := by decide
theorem ks_500 : (Int16.ofInt (500)).toInt32 = (500 : Int32) := by decide
