/-! an order, done by both or refused by both -/
def Ord (M : MC) (fi se tr le li co pa : Nat → Int32) (ic nc pc : Int32) (now : Nat → Int32) (kd x y z : Int32) (mo : Option (Int32 × (Nat → Int32))) : Prop :=
  (∃ ρ : Int32, (ρ = -2 ∨ ρ = -4) ∧ C_refusalOf co ic nc pc kd x y z = some ρ ∧ mo = some (ρ, now)) ∨
  (∃ (r : Nat) (M' : MC) (fi' se' tr' le' li' co' pa' : Nat → Int32) (ic' nc' pc' : Int32) (now' : Nat → Int32), r < 1000 ∧ C_refusalOf co ic nc pc kd x y z = some 0 ∧ C_perform fi se tr le li co pa ic nc pc kd x y z = some (nI r, fi', se', tr', le', li', co', pa', ic', nc', pc') ∧ mo = some (nI r, now') ∧ WF M' ∧ RCc M' fi' se' tr' le' li' co' pa' ic' nc' pc' ∧ RCm M' now')
theorem C_room_in {k g : Nat} (h : k + g ≤ 48) : C_roomFor (nI k) (nI g) = some 0 := by
  unfold C_roomFor
  rw [if_neg]
  rw [L48, n_add, n_lt (by omega) (by omega)]; omega
theorem C_room_out {k g : Nat} (h : 48 < k + g) (h1 : k + g < 1000) : C_roomFor (nI k) (nI g) = some (-4) := by
  unfold C_roomFor
  rw [if_pos]
  rw [L48, n_add, n_lt (by omega) (by omega)]; omega
theorem M_turned_eq {a : Nat} (h : a < 2147483648) : M_turned (nI a) = some (nI (tw a)) := by
  unfold M_turned tw
  simp (disch := omega) only [lt_, Option.bind_some, n_lit, n_lt, n_le, n_eq, n_cl, n_add, n_sub, n_mul, n_shr1, n_and1, n_xor1, n_div2, n_rem2, chk_nI, if_true, if_false, ite_true, ite_false, reduceIte, Nat.not_lt, Nat.not_le, not_true_eq_false, not_false_eq_true, Nat.le_refl, Nat.reduceLeDiff, Nat.reduceLT, Nat.reduceEqDiff, Nat.reduceAdd, Nat.reduceMul, Nat.reduceSub, Nat.reduceDiv, Nat.reduceMod]
  by_cases e : a % 2 = 0
  · rw [if_pos e, if_pos e]
  · rw [if_neg e, if_neg e]
section ORD
variable {M : MC} {fi se tr le li co pa : Nat → Int32} {ic nc pc : Int32} {now : Nat → Int32}
theorem ord_gate (hW : WF M) (hc : RCc M fi se tr le li co pa ic nc pc) (hm : RCm M now) (x y z : Int32) : Ord M fi se tr le li co pa ic nc pc now 1 x y z (M_addsGate now x y) := by
  have hk48 := hW.2.1.2
  have hkn := hW.2.1.1
  have hn : nc = nI (kk M) := hc.2.1
  have hm1 : now 1 = nI (kk M) := hm.2.1
  have hm1' : now (Int32.toNatClampNeg 1) = nI (kk M) := hm.2.1
  rcases isLit x (kk M) (by omega) hk48 with ⟨c1, m1⟩ | ⟨a, ha, rfl⟩
  · refine Or.inl ⟨-2, Or.inl rfl, ?_, ?_⟩
    · unfold C_refusalOf; rw [if_neg (by decide), if_pos rfl, hn, c1]; rfl
    · unfold M_addsGate; rw [m1 now hm1]; rfl
  rcases isLit y (kk M) (by omega) hk48 with ⟨c1, m1⟩ | ⟨b, hb, rfl⟩
  · refine Or.inl ⟨-2, Or.inl rfl, ?_, ?_⟩
    · unfold C_refusalOf; rw [if_neg (by decide), if_pos rfl, hn, C_isLit_in ha hk48, c1]; rfl
    · unfold M_addsGate; rw [M_isLit_in hm1 ha hk48, m1 now hm1]; rfl
  by_cases hk : kk M < 48
  · obtain ⟨fi', se', tr', le', e1, r1⟩ := C_addGate_eq hW hc ha hb hk
    obtain ⟨now', e2, r2⟩ := M_adds_eq hW hm (a := a) (b := b) hk
    refine Or.inr ⟨2 * kk M, addG M a b, fi', se', tr', le', li, co, pa, ic, nI (kk M + 1), pc, now', by omega, ?_, ?_, ?_, addG_WF hW ha hb hk, r1, r2⟩
    · unfold C_refusalOf; rw [if_neg (by decide), if_pos rfl, hn, C_isLit_in ha hk48, C_isLit_in hb hk48]
      show Option.bind (some 1) _ = _
      rw [Option.bind_some, if_neg (by decide), Option.bind_some, if_neg (by decide), L1, C_room_in (by omega)]; rfl
    · unfold C_perform; rw [if_neg (by decide), if_pos rfl, e1]; rfl
    · unfold M_addsGate
      rw [M_isLit_in hm1 ha hk48, M_isLit_in hm1 hb hk48]
      rw [Option.bind_some, if_neg (by decide), Option.bind_some, if_neg (by decide), chk_lit (by decide), hm1', if_neg (by rw [L48, n_le (by omega) (by omega)]; omega), e2]; rfl
  · refine Or.inl ⟨-4, Or.inr rfl, ?_, ?_⟩
    · unfold C_refusalOf; rw [if_neg (by decide), if_pos rfl, hn, C_isLit_in ha hk48, C_isLit_in hb hk48]
      rw [Option.bind_some, if_neg (by decide), Option.bind_some, if_neg (by decide), L1, C_room_out (by omega) (by omega)]; rfl
    · unfold M_addsGate
      rw [M_isLit_in hm1 ha hk48, M_isLit_in hm1 hb hk48]
      rw [Option.bind_some, if_neg (by decide), Option.bind_some, if_neg (by decide), chk_lit (by decide), hm1', if_pos (by rw [L48, n_le (by omega) (by omega)]; omega)]
/-- three gates more: of a, b; of c, d; of both turned -/
def addE (M : MC) (a b c d : Nat) : MC := addG (addG (addG M a b) c d) (2 * kk M + 1) (2 * kk M + 3)
theorem addE_WF (hW : WF M) {a b c d : Nat} (ha : a < 2 * kk M) (hb : b < 2 * kk M) (hc : c < 2 * kk M) (hd : d < 2 * kk M) (hk : kk M + 3 ≤ 48) : WF (addE M a b c d) := by
  have k1 : kk (addG M a b) = kk M + 1 := rfl
  have k2 : kk (addG (addG M a b) c d) = kk M + 2 := rfl
  have w1 := addG_WF hW ha hb (by omega)
  have w2 := addG_WF w1 (a := c) (b := d) (by omega) (by omega) (by omega)
  exact addG_WF w2 (by omega) (by omega) (by omega)
theorem tw_2 (k : Nat) : tw (2 * k) = 2 * k + 1 := tw_even (by omega)
theorem C_addEither_eq (hW : WF M) (hc : RCc M fi se tr le li co pa ic nc pc) {a b c d : Nat} (ha : a < 2 * kk M) (hb : b < 2 * kk M) (hcc : c < 2 * kk M) (hd : d < 2 * kk M) (hk : kk M + 3 ≤ 48) : ∃ fi' se' tr' le', C_addEither fi se tr le ic nc (nI a) (nI b) (nI c) (nI d) = some (nI (2 * kk M + 5), fi', se', tr', le', nI (kk M + 3)) ∧ RCc (addE M a b c d) fi' se' tr' le' li co pa ic (nI (kk M + 3)) pc := by
  have k1 : kk (addG M a b) = kk M + 1 := rfl
  have k2 : kk (addG (addG M a b) c d) = kk M + 2 := rfl
  have w1 := addG_WF hW ha hb (by omega)
  have w2 := addG_WF w1 (a := c) (b := d) (by omega) (by omega) (by omega)
  obtain ⟨f1, s1, t1, l1, e1, r1⟩ := C_addGate_eq hW hc ha hb (by omega)
  obtain ⟨f2, s2, t2, l2, e2, r2⟩ := C_addGate_eq w1 r1 (a := c) (b := d) (by omega) (by omega) (by omega)
  obtain ⟨f3, s3, t3, l3, e3, r3⟩ := C_addGate_eq w2 r2 (a := 2 * kk M + 1) (b := 2 * kk M + 3) (by omega) (by omega) (by omega)
  refine ⟨f3, s3, t3, l3, ?_, r3⟩
  unfold C_addEither
  rw [e1, Option.bind_some]
  dsimp only
  rw [e2, Option.bind_some]
  dsimp only
  rw [L1, n_xor1, n_xor1, tw_2, tw_2, k1, show 2 * (kk M + 1) + 1 = 2 * kk M + 3 by omega, show kk M + 1 + 1 = kk M + 2 by omega]
  rw [k1, k2, show kk M + 1 + 1 = kk M + 2 by omega] at e3
  rw [e3, Option.bind_some]
  dsimp only
  rw [n_xor1, tw_2, show 2 * (kk M + 2) + 1 = 2 * kk M + 5 by omega]
theorem M_addsThree_eq (hW : WF M) (hm : RCm M now) {a b c d : Nat} (ha : a < 2 * kk M) (hb : b < 2 * kk M) (hcc : c < 2 * kk M) (hd : d < 2 * kk M) (hk : kk M + 3 ≤ 48) : ∃ now', M_addsThree now (nI a) (nI b) (nI c) (nI d) = some (nI (2 * kk M + 5), now') ∧ RCm (addE M a b c d) now' := by
  have k1 : kk (addG M a b) = kk M + 1 := rfl
  have k2 : kk (addG (addG M a b) c d) = kk M + 2 := rfl
  have w1 := addG_WF hW ha hb (by omega)
  have w2 := addG_WF w1 (a := c) (b := d) (by omega) (by omega) (by omega)
  obtain ⟨n1, e1, r1⟩ := M_adds_eq hW hm (a := a) (b := b) (by omega)
  obtain ⟨n2, e2, r2⟩ := M_adds_eq w1 r1 (a := c) (b := d) (by omega)
  obtain ⟨n3, e3, r3⟩ := M_adds_eq w2 r2 (a := 2 * kk M + 1) (b := 2 * kk M + 3) (by omega)
  refine ⟨n3, ?_, r3⟩
  unfold M_addsThree
  have hm1' : now (Int32.toNatClampNeg 1) = nI (kk M) := hm.2.1
  rw [chk_lit (by decide), hm1', if_pos (by rw [L3, L48, n_add, n_le (by omega) (by omega)]; omega), e1, Option.bind_some]
  dsimp only
  rw [e2, Option.bind_some]
  dsimp only
  rw [L1, n_add, n_add, k1, show 2 * (kk M + 1) + 1 = 2 * kk M + 3 by omega]
  rw [e3, Option.bind_some]
  dsimp only
  rw [n_add, k2, show 2 * (kk M + 2) + 1 = 2 * kk M + 5 by omega]
theorem M_addsThree_full (hW : WF M) (hm : RCm M now) {a b c d : Int32} (hk : 48 < kk M + 3) : M_addsThree now a b c d = some (-4, now) := by
  have hk48 := hW.2.1.2
  unfold M_addsThree
  have hm1' : now (Int32.toNatClampNeg 1) = nI (kk M) := hm.2.1
  rw [chk_lit (by decide), hm1', if_neg (by rw [L3, L48, n_add, n_le (by omega) (by omega)]; omega)]
theorem ord_xor (hW : WF M) (hc : RCc M fi se tr le li co pa ic nc pc) (hm : RCm M now) (x y z : Int32) : Ord M fi se tr le li co pa ic nc pc now 2 x y z (M_addsXor now x y) := by
  have hk48 := hW.2.1.2
  have hkn := hW.2.1.1
  have hn : nc = nI (kk M) := hc.2.1
  have hm1 : now 1 = nI (kk M) := hm.2.1
  rcases isLit x (kk M) (by omega) hk48 with ⟨c1, m1⟩ | ⟨a, ha, rfl⟩
  · refine Or.inl ⟨-2, Or.inl rfl, ?_, ?_⟩
    · unfold C_refusalOf; rw [if_neg (by decide), if_neg (by decide), if_pos rfl, hn, c1]; rfl
    · unfold M_addsXor; rw [m1 now hm1]; rfl
  rcases isLit y (kk M) (by omega) hk48 with ⟨c1, m1⟩ | ⟨b, hb, rfl⟩
  · refine Or.inl ⟨-2, Or.inl rfl, ?_, ?_⟩
    · unfold C_refusalOf; rw [if_neg (by decide), if_neg (by decide), if_pos rfl, hn, C_isLit_in ha hk48, c1]; rfl
    · unfold M_addsXor; rw [M_isLit_in hm1 ha hk48, m1 now hm1]; rfl
  have ta := tw_lt ha
  have tb := tw_lt hb
  have eM : ∀ r : Option (Int32 × (Nat → Int32)), M_addsThree now (nI a) (nI (tw b)) (nI (tw a)) (nI b) = r → M_addsXor now (nI a) (nI b) = r.bind (fun o => some (o.1, o.2)) := by
    intro r hr
    unfold M_addsXor
    rw [M_isLit_in hm1 ha hk48, M_isLit_in hm1 hb hk48]
    rw [Option.bind_some, if_neg (by decide), Option.bind_some, if_neg (by decide), M_turned_eq (by omega), Option.bind_some, M_turned_eq (by omega), Option.bind_some, hr]
  by_cases hk : kk M + 3 ≤ 48
  · obtain ⟨fi', se', tr', le', e1, r1⟩ := C_addEither_eq hW hc ha tb ta hb hk
    obtain ⟨now', e2, r2⟩ := M_addsThree_eq hW hm ha tb ta hb hk
    refine Or.inr ⟨2 * kk M + 5, addE M a (tw b) (tw a) b, fi', se', tr', le', li, co, pa, ic, nI (kk M + 3), pc, now', by omega, ?_, ?_, ?_, addE_WF hW ha tb ta hb hk, r1, r2⟩
    · unfold C_refusalOf; rw [if_neg (by decide), if_neg (by decide), if_pos rfl, hn, C_isLit_in ha hk48, C_isLit_in hb hk48]
      rw [Option.bind_some, if_neg (by decide), Option.bind_some, if_neg (by decide), L3, C_room_in (by omega)]; rfl
    · unfold C_perform; rw [if_neg (by decide), if_neg (by decide), if_pos rfl, L1, n_xor1, n_xor1, e1]; rfl
    · rw [eM _ e2]; rfl
  · refine Or.inl ⟨-4, Or.inr rfl, ?_, ?_⟩
    · unfold C_refusalOf; rw [if_neg (by decide), if_neg (by decide), if_pos rfl, hn, C_isLit_in ha hk48, C_isLit_in hb hk48]
      rw [Option.bind_some, if_neg (by decide), Option.bind_some, if_neg (by decide), L3, C_room_out (by omega) (by omega)]; rfl
    · rw [eM _ (M_addsThree_full hW hm (by omega))]; rfl
theorem ord_mux (hW : WF M) (hc : RCc M fi se tr le li co pa ic nc pc) (hm : RCm M now) (x y z : Int32) : Ord M fi se tr le li co pa ic nc pc now 3 x y z (M_addsMux now x y z) := by
  have hk48 := hW.2.1.2
  have hkn := hW.2.1.1
  have hn : nc = nI (kk M) := hc.2.1
  have hm1 : now 1 = nI (kk M) := hm.2.1
  rcases isLit x (kk M) (by omega) hk48 with ⟨c1, m1⟩ | ⟨a, ha, rfl⟩
  · refine Or.inl ⟨-2, Or.inl rfl, ?_, ?_⟩
    · unfold C_refusalOf; rw [if_neg (by decide), if_neg (by decide), if_neg (by decide), if_pos rfl, hn, c1]; rfl
    · unfold M_addsMux; rw [m1 now hm1]; rfl
  rcases isLit y (kk M) (by omega) hk48 with ⟨c1, m1⟩ | ⟨b, hb, rfl⟩
  · refine Or.inl ⟨-2, Or.inl rfl, ?_, ?_⟩
    · unfold C_refusalOf; rw [if_neg (by decide), if_neg (by decide), if_neg (by decide), if_pos rfl, hn, C_isLit_in ha hk48, c1]; rfl
    · unfold M_addsMux; rw [M_isLit_in hm1 ha hk48, m1 now hm1]; rfl
  rcases isLit z (kk M) (by omega) hk48 with ⟨c1, m1⟩ | ⟨c, hcc, rfl⟩
  · refine Or.inl ⟨-2, Or.inl rfl, ?_, ?_⟩
    · unfold C_refusalOf; rw [if_neg (by decide), if_neg (by decide), if_neg (by decide), if_pos rfl, hn, C_isLit_in ha hk48, C_isLit_in hb hk48, c1]; rfl
    · unfold M_addsMux; rw [M_isLit_in hm1 ha hk48, M_isLit_in hm1 hb hk48, m1 now hm1]; rfl
  have ta := tw_lt ha
  have eM : ∀ r : Option (Int32 × (Nat → Int32)), M_addsThree now (nI a) (nI b) (nI (tw a)) (nI c) = r → M_addsMux now (nI a) (nI b) (nI c) = r.bind (fun o => some (o.1, o.2)) := by
    intro r hr
    unfold M_addsMux
    rw [M_isLit_in hm1 ha hk48, M_isLit_in hm1 hb hk48, M_isLit_in hm1 hcc hk48]
    rw [Option.bind_some, if_neg (by decide), Option.bind_some, if_neg (by decide), Option.bind_some, if_neg (by decide), M_turned_eq (by omega), Option.bind_some, hr]
  by_cases hk : kk M + 3 ≤ 48
  · obtain ⟨fi', se', tr', le', e1, r1⟩ := C_addEither_eq hW hc ha hb ta hcc hk
    obtain ⟨now', e2, r2⟩ := M_addsThree_eq hW hm ha hb ta hcc hk
    refine Or.inr ⟨2 * kk M + 5, addE M a b (tw a) c, fi', se', tr', le', li, co, pa, ic, nI (kk M + 3), pc, now', by omega, ?_, ?_, ?_, addE_WF hW ha hb ta hcc hk, r1, r2⟩
    · unfold C_refusalOf; rw [if_neg (by decide), if_neg (by decide), if_neg (by decide), if_pos rfl, hn, C_isLit_in ha hk48, C_isLit_in hb hk48, C_isLit_in hcc hk48]
      rw [Option.bind_some, if_neg (by decide), Option.bind_some, if_neg (by decide), Option.bind_some, if_neg (by decide), L3, C_room_in (by omega)]; rfl
    · unfold C_perform; rw [if_neg (by decide), if_neg (by decide), if_neg (by decide), if_pos rfl, L1, n_xor1, e1]; rfl
    · rw [eM _ e2]; rfl
  · refine Or.inl ⟨-4, Or.inr rfl, ?_, ?_⟩
    · unfold C_refusalOf; rw [if_neg (by decide), if_neg (by decide), if_neg (by decide), if_pos rfl, hn, C_isLit_in ha hk48, C_isLit_in hb hk48, C_isLit_in hcc hk48]
      rw [Option.bind_some, if_neg (by decide), Option.bind_some, if_neg (by decide), Option.bind_some, if_neg (by decide), L3, C_room_out (by omega) (by omega)]; rfl
    · rw [eM _ (M_addsThree_full hW hm (by omega))]; rfl
/-- an out more -/
def addO (M : MC) (s l : Nat) : MC := (nn M, kk M, ff M, gg M, upN (oc M) s (oc M s + 1), fun s' i => if s' = s ∧ i = oc M s then l else ol M s' i, np M, pt M)
theorem ord_out (hW : WF M) (hc : RCc M fi se tr le li co pa ic nc pc) (hm : RCm M now) (x y z : Int32) : Ord M fi se tr le li co pa ic nc pc now 4 x y z (M_addsOut now x y) := by
  have hk48 := hW.2.1.2
  have hkn := hW.2.1.1
  have hn : nc = nI (kk M) := hc.2.1
  have hm1 : now 1 = nI (kk M) := hm.2.1
  rcases arg3 x 2 (by omega) with h | ⟨h0, h⟩ | ⟨s, hs, rfl⟩
  · refine Or.inl ⟨-2, Or.inl rfl, ?_, ?_⟩
    · unfold C_refusalOf; rw [if_neg (by decide), if_neg (by decide), if_neg (by decide), if_neg (by decide), if_pos rfl]
      unfold C_isSide; rw [if_pos h]; rfl
    · unfold M_addsOut M_isSide; rw [if_neg (fun e => by rw [e] at h; exact absurd h (by decide)), if_neg (fun e => by rw [e] at h; exact absurd h (by decide))]; rfl
  · refine Or.inl ⟨-2, Or.inl rfl, ?_, ?_⟩
    · unfold C_refusalOf; rw [if_neg (by decide), if_neg (by decide), if_neg (by decide), if_neg (by decide), if_pos rfl]
      unfold C_isSide; rw [if_neg h0, if_pos (show (2 : Int32) ≤ x from h)]; rfl
    · unfold M_addsOut M_isSide; rw [if_neg (fun e => by rw [e] at h; exact absurd h (by decide)), if_neg (fun e => by rw [e] at h; exact absurd h (by decide))]; rfl
  have cS : C_isSide (nI s) = some 1 := by
    unfold C_isSide; rw [if_neg (nlt0 s (by omega)), if_neg (by rw [L2, n_le (by omega) (by omega)]; omega)]
  have mS : M_isSide (nI s) = some 1 := by
    unfold M_isSide
    rcases (show s = 0 ∨ s = 1 by omega) with rfl | rfl
    · rfl
    · rfl
  rcases isLit y (kk M) (by omega) hk48 with ⟨c1, m1⟩ | ⟨l, hl, rfl⟩
  · refine Or.inl ⟨-2, Or.inl rfl, ?_, ?_⟩
    · unfold C_refusalOf; rw [if_neg (by decide), if_neg (by decide), if_neg (by decide), if_neg (by decide), if_pos rfl, cS, Option.bind_some, if_neg (by decide), hn, c1]; rfl
    · unfold M_addsOut; rw [mS, Option.bind_some, if_neg (by decide), m1 now hm1]; rfl
  have hoc := hW.2.2.2.1
  have ho6 : oc M s ≤ 6 := by rcases (show s = 0 ∨ s = 1 by omega) with rfl | rfl; exact hoc.1; exact hoc.2
  have eco : co s = nI (oc M s) := by rcases (show s = 0 ∨ s = 1 by omega) with rfl | rfl; exact hc.2.2.2.2.2.1.1; exact hc.2.2.2.2.2.1.2
  have emo : now (98 + s) = nI (oc M s) := by rcases (show s = 0 ∨ s = 1 by omega) with rfl | rfl; exact hm.2.2.2.1.1; exact hm.2.2.2.1.2
  by_cases hk : oc M s < 6
  · refine Or.inr ⟨oc M s, addO M s l, fi, se, tr, le, upd li (s * 6 + oc M s) (nI l), upd co s (nI (oc M s + 1)), pa, ic, nc, pc, upd (upd now (100 + 6 * s + oc M s) (nI l)) (98 + s) (nI (oc M s + 1)), by omega, ?_, ?_, ?_, ?_, ?_, ?_⟩
    · unfold C_refusalOf; rw [if_neg (by decide), if_neg (by decide), if_neg (by decide), if_neg (by decide), if_pos rfl, cS, Option.bind_some, if_neg (by decide), hn, C_isLit_in hl hk48, Option.bind_some, if_neg (by decide)]
      simp (disch := omega) only [eco, (show ¬ 6 ≤ oc M s by omega), lt_, Option.bind_some, n_lit, n_lt, n_le, n_eq, n_cl, n_add, n_sub, n_mul, n_shr1, n_and1, n_xor1, n_div2, n_rem2, chk_nI, if_true, if_false, ite_true, ite_false, reduceIte, Nat.not_lt, Nat.not_le, not_true_eq_false, not_false_eq_true, Nat.le_refl, Nat.reduceLeDiff, Nat.reduceLT, Nat.reduceEqDiff, Nat.reduceAdd, Nat.reduceMul, Nat.reduceSub, Nat.reduceDiv, Nat.reduceMod]
    · unfold C_perform C_addOut; rw [if_neg (by decide), if_neg (by decide), if_neg (by decide), if_neg (by decide), if_pos rfl]
      simp (disch := omega) only [eco, lt_, Option.bind_some, n_lit, n_lt, n_le, n_eq, n_cl, n_add, n_sub, n_mul, n_shr1, n_and1, n_xor1, n_div2, n_rem2, chk_nI, if_true, if_false, ite_true, ite_false, reduceIte, Nat.not_lt, Nat.not_le, not_true_eq_false, not_false_eq_true, Nat.le_refl, Nat.reduceLeDiff, Nat.reduceLT, Nat.reduceEqDiff, Nat.reduceAdd, Nat.reduceMul, Nat.reduceSub, Nat.reduceDiv, Nat.reduceMod]
    · unfold M_addsOut; rw [mS, Option.bind_some, if_neg (by decide), M_isLit_in hm1 hl hk48, Option.bind_some, if_neg (by decide)]
      have e2 : upd now (100 + 6 * s + oc M s) (nI l) (98 + s) = nI (oc M s) := by rw [upd_ne (by omega)]; exact emo
      simp (disch := omega) only [emo, e2, (show ¬ oc M s = 6 by omega), lt_, Option.bind_some, n_lit, n_lt, n_le, n_eq, n_cl, n_add, n_sub, n_mul, n_shr1, n_and1, n_xor1, n_div2, n_rem2, chk_nI, if_true, if_false, ite_true, ite_false, reduceIte, Nat.not_lt, Nat.not_le, not_true_eq_false, not_false_eq_true, Nat.le_refl, Nat.reduceLeDiff, Nat.reduceLT, Nat.reduceEqDiff, Nat.reduceAdd, Nat.reduceMul, Nat.reduceSub, Nat.reduceDiv, Nat.reduceMod]
    · refine ⟨hW.1, hW.2.1, hW.2.2.1, ?_, ?_, hW.2.2.2.2.2⟩
      · show upN (oc M) s (oc M s + 1) 0 ≤ 6 ∧ upN (oc M) s (oc M s + 1) 1 ≤ 6
        unfold upN
        rcases (show s = 0 ∨ s = 1 by omega) with rfl | rfl
        · exact ⟨by simp; omega, by simp; exact hoc.2⟩
        · exact ⟨by simp; exact hoc.1, by simp; omega⟩
      · intro s' i hs' hi
        show (if s' = s ∧ i = oc M s then l else ol M s' i) < 2 * kk M
        by_cases e : s' = s ∧ i = oc M s
        · rw [if_pos e]; exact hl
        · rw [if_neg e]
          refine hW.2.2.2.2.1 s' i hs' ?_
          have hi' : i < upN (oc M) s (oc M s + 1) s' := hi
          unfold upN at hi'
          by_cases e2 : s' = s
          · rw [if_pos e2] at hi'; subst e2; have : i ≠ oc M s' := fun h => e ⟨rfl, h⟩; omega
          · rw [if_neg e2] at hi'; exact hi'
    · refine ⟨hc.1, hc.2.1, hc.2.2.1, hc.2.2.2.1, hc.2.2.2.2.1, ?_, ?_, hc.2.2.2.2.2.2.2⟩
      · show upd co s (nI (oc M s + 1)) 0 = nI (upN (oc M) s (oc M s + 1) 0) ∧ upd co s (nI (oc M s + 1)) 1 = nI (upN (oc M) s (oc M s + 1) 1)
        unfold upN upd
        rcases (show s = 0 ∨ s = 1 by omega) with rfl | rfl
        · exact ⟨by simp, by simp; exact hc.2.2.2.2.2.1.2⟩
        · exact ⟨by simp; exact hc.2.2.2.2.2.1.1, by simp⟩
      · intro s' i hs' hi
        show upd li (s * 6 + oc M s) (nI l) (s' * 6 + i) = nI (if s' = s ∧ i = oc M s then l else ol M s' i)
        have hi' : i < upN (oc M) s (oc M s + 1) s' := hi
        unfold upN at hi'
        by_cases e : s' = s ∧ i = oc M s
        · obtain ⟨rfl, rfl⟩ := e
          rw [if_pos ⟨rfl, rfl⟩, upd_same]
        · rw [if_neg e]
          by_cases e2 : s' = s
          · subst e2
            rw [if_pos rfl] at hi'
            have h2 : i ≠ oc M s' := fun h => e ⟨rfl, h⟩
            rw [upd_ne (by omega)]
            exact hc.2.2.2.2.2.2.1 s' i hs' (by omega)
          · rw [if_neg e2] at hi'
            have ho6' : oc M s' ≤ 6 := by rcases (show s' = 0 ∨ s' = 1 by omega) with rfl | rfl; exact hoc.1; exact hoc.2
            rw [upd_ne (by omega)]
            exact hc.2.2.2.2.2.2.1 s' i hs' hi'
    · refine ⟨?_, ?_, ?_, ?_, ?_, ?_, ?_⟩
      · rw [upd_ne (by omega), upd_ne (by omega)]; exact hm.1
      · rw [upd_ne (by omega), upd_ne (by omega)]; exact hm.2.1
      · intro j hj1 hj2
        have hj2' : j < kk M := hj2
        rw [upd_ne (by omega), upd_ne (by omega), upd_ne (by omega), upd_ne (by omega)]; exact hm.2.2.1 j hj1 hj2
      · show _ = nI (upN (oc M) s (oc M s + 1) 0) ∧ _ = nI (upN (oc M) s (oc M s + 1) 1)
        unfold upN
        rcases (show s = 0 ∨ s = 1 by omega) with rfl | rfl
        · refine ⟨by rw [upd_same]; simp, ?_⟩
          rw [upd_ne (by omega), upd_ne (by omega)]; simp; exact hm.2.2.2.1.2
        · refine ⟨?_, by rw [upd_same]; simp⟩
          rw [upd_ne (by omega), upd_ne (by omega)]; simp; exact hm.2.2.2.1.1
      · intro s' i hs' hi
        show _ = nI (if s' = s ∧ i = oc M s then l else ol M s' i)
        have hi' : i < upN (oc M) s (oc M s + 1) s' := hi
        unfold upN at hi'
        rw [upd_ne (by omega)]
        by_cases e : s' = s ∧ i = oc M s
        · obtain ⟨rfl, rfl⟩ := e
          rw [if_pos ⟨rfl, rfl⟩, upd_same]
        · rw [if_neg e]
          by_cases e2 : s' = s
          · subst e2
            rw [if_pos rfl] at hi'
            have h2 : i ≠ oc M s' := fun h => e ⟨rfl, h⟩
            rw [upd_ne (by omega)]
            exact hm.2.2.2.2.1 s' i hs' (by omega)
          · rw [if_neg e2] at hi'
            have ho6' : oc M s' ≤ 6 := by rcases (show s' = 0 ∨ s' = 1 by omega) with rfl | rfl; exact hoc.1; exact hoc.2
            rw [upd_ne (by omega)]
            exact hm.2.2.2.2.1 s' i hs' hi'
      · rw [upd_ne (by omega), upd_ne (by omega)]; exact hm.2.2.2.2.2.1
      · intro i hi
        rw [upd_ne (by omega), upd_ne (by omega)]; exact hm.2.2.2.2.2.2 i hi
  · have e6 : oc M s = 6 := by omega
    refine Or.inl ⟨-4, Or.inr rfl, ?_, ?_⟩
    · unfold C_refusalOf; rw [if_neg (by decide), if_neg (by decide), if_neg (by decide), if_neg (by decide), if_pos rfl, cS, Option.bind_some, if_neg (by decide), hn, C_isLit_in hl hk48, Option.bind_some, if_neg (by decide)]
      simp (disch := omega) only [eco, e6, lt_, Option.bind_some, n_lit, n_lt, n_le, n_eq, n_cl, n_add, n_sub, n_mul, n_shr1, n_and1, n_xor1, n_div2, n_rem2, chk_nI, if_true, if_false, ite_true, ite_false, reduceIte, Nat.not_lt, Nat.not_le, not_true_eq_false, not_false_eq_true, Nat.le_refl, Nat.reduceLeDiff, Nat.reduceLT, Nat.reduceEqDiff, Nat.reduceAdd, Nat.reduceMul, Nat.reduceSub, Nat.reduceDiv, Nat.reduceMod]
    · unfold M_addsOut; rw [mS, Option.bind_some, if_neg (by decide), M_isLit_in hm1 hl hk48, Option.bind_some, if_neg (by decide)]
      simp (disch := omega) only [emo, e6, lt_, Option.bind_some, n_lit, n_lt, n_le, n_eq, n_cl, n_add, n_sub, n_mul, n_shr1, n_and1, n_xor1, n_div2, n_rem2, chk_nI, if_true, if_false, ite_true, ite_false, reduceIte, Nat.not_lt, Nat.not_le, not_true_eq_false, not_false_eq_true, Nat.le_refl, Nat.reduceLeDiff, Nat.reduceLT, Nat.reduceEqDiff, Nat.reduceAdd, Nat.reduceMul, Nat.reduceSub, Nat.reduceDiv, Nat.reduceMod]
end ORD
