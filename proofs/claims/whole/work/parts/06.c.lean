/-! contracts over V: entry, return, calls -/
def Bw (D : va_G) (cI cC : ClassId) (A : Nat → Prop) (w : va_W) (t : State) : Prop := va_P D vwCl w t.heap ∧ va_K D vwCl (tyG cI cC) t ∧ va_D A w
def Pq (D : va_G) (cI cC : ClassId) (sz : Nat) (av : List Value) (w0 : va_W) : Array Value → State → Prop := va_Pc av (fun U => U.heap.size = sz ∧ va_P D vwCl w0 U.heap ∧ va_K D vwCl (tyG cI cC) U ∧ va_D (fun _ => True) w0 ∧ NS D (va_A w0 sz) U U.heap)
abbrev rmC (fr lo : Nat) : Room := { frames := fr, cells := 0, slots := 0, locals := lo }
def Cn (l : Launch) (y : MethodName) (cc : ByteArray) (nL : Nat) (ret : Option FieldType) (fr lo : Nat) (D : va_G) (cI cC : ClassId) (av : List Value) (w0 : va_W) (Qf : (Nat → Prop) → Array Value → State → Outcome → State → Prop) : Prop :=
  ∀ sz : Nat, Met l y (.code y cc nL ret :: LW) (rmC fr lo) (Pq D cI cC sz av w0) (Qf (va_A w0 sz)) 0 0 (va_A w0 sz)
def QI (D : va_G) (cI cC : ClassId) {S : Type} (w1 : S → va_W) (post : Int32 → S → Prop) : (Nat → Prop) → Array Value → State → Outcome → State → Prop := fun A => va_Qi post (fun u t => Bw D cI cC A (w1 u) t) A
def QL (D : va_G) (cI cC : ClassId) {S : Type} (w1 : S → va_W) (post : Int64 → S → Prop) : (Nat → Prop) → Array Value → State → Outcome → State → Prop := fun A => va_Ql post (fun u t => Bw D cI cC A (w1 u) t) A
def QV (D : va_G) (cI cC : ClassId) {S : Type} (w1 : S → va_W) (post : S → Prop) : (Nat → Prop) → Array Value → State → Outcome → State → Prop := fun A => va_Qv post (fun u t => Bw D cI cC A (w1 u) t) A
def QR (D : va_G) (cI cC : ClassId) (b : Nat) {S : Type} (w1 : S → va_W) (post : S → Prop) : (Nat → Prop) → Array Value → State → Outcome → State → Prop := fun A => va_Qr post (fun u a t => a = b ∧ Bw D cI cC A (w1 u) t) A
theorem Pq.blind (D : va_G) (cI cC : ClassId) (sz : Nat) (av : List Value) (w0 : va_W) : FrameBlind (Pq D cI cC sz av w0) := by
  intro a U g mk h
  obtain ⟨h1, h2, h3, h4, h5, h6⟩ := h
  exact ⟨h1, h2, h3, va_K.moved (u := U) (U := U.calling g mk a) (Vm.Alike.refl U.vm) h4, h5, NS.same (u := U) (U := U.calling g mk a) rfl h6⟩
theorem Cn.ofV {l : Launch} {y : MethodName} {cc : ByteArray} {nL : Nat} {ret : Option FieldType} {fr lo : Nat} {D : va_G} {cI cC : ClassId} {av : List Value} {w0 : va_W} {Qf : (Nat → Prop) → Array Value → State → Outcome → State → Prop} {own : String} {lv0 : List (Nat × Value)} (hown : y.cls = own) (hy : plainName y.cls = true) (hnl : (lg_sl av).length ≤ nL) (hlv : lv_args 0 av = lv0)
    (body : ∀ (p : Program) (e : Env) (s : State) (m : MethodId) (below : List Frame) (meth : Method) (c : Code) (A : Nat → Prop) (args : Array Value) (Q : State → Prop), Q = MQ below (Qf A) args s 0 0 A → Cx p (rmC fr lo) s m args meth c cc nL own ret D cI cC A 0 0 → V p l e (rmC fr lo) s m args below meth c D A nL 0 0 Q w0 lv0 0 []) : Cn l y cc nL ret fr lo D cI cC av w0 Qf := by
  intro sz
  refine Met.ofW (cc := cc) (maxL := nL) (ret := ret) hy rfl ?_
  intro p e s m args below meth c s₁ B hml hv
  obtain ⟨rfl, hsz, hP, hK, hD0, hN⟩ := hv
  have hx := B.exec
  have hb := B.bytes
  have hr := B.returns
  have hts := atoms_spec (ws := .code y cc nL ret :: LW) B.pre
  have hown2 : s.vm.findClass own = some m.cls := by rw [← hown]; exact findClass_of_methodNamed B.named
  have hlocks := B.notSynchronized
  subst hsz
  have hD := hD0.self (sz := s.heap.size)
  have hA : ∀ q, s.heap.size ≤ q → va_A w0 s.heap.size q := fun q h => Or.inr h
  have hl := lv_entry av (n := nL) hnl
  rw [lg_entry_eq]
  rw [hlv] at hl
  exact body p e s m below meth c (va_A w0 s.heap.size) av.toArray _ rfl ⟨hx, hb, hml, hown2, fun w h => hts w (List.mem_cons_of_mem _ h), hK, hA, hN, hr, hlocks, Nat.zero_le _, Nat.zero_le _⟩ s.heap [] _ hP hD va_S.rf hl
/-- a method's words among the common ones -/
def MW (y : MethodName) (cc : ByteArray) (nL : Nat) (ret : Option FieldType) (n : Nat) : Prop := Cond.instanceMethod y ∈ LW ∧ Cond.selects y.cls y y ∈ LW ∧ Cond.initialized y.cls ∈ LW ∧ Cond.code y cc nL ret ∈ LW ∧ y.cls ≠ "java/lang/invoke/MethodHandle" ∧ y.cls ≠ "java/lang/invoke/VarHandle" ∧ (parseMethodDescriptor y.desc).map (fun d => d.parameters.length) = some n
def MS (y : MethodName) (cc : ByteArray) (nL : Nat) (ret : Option FieldType) (n : Nat) : Prop := Cond.static y ∈ LW ∧ Cond.initialized y.cls ∈ LW ∧ Cond.code y cc nL ret ∈ LW ∧ y.cls ≠ "java/lang/invoke/MethodHandle" ∧ y.cls ≠ "java/lang/invoke/VarHandle" ∧ (parseMethodDescriptor y.desc).map (fun d => d.parameters.length) = some n
theorem LW_cons {w : Cond} (h : w ∈ LW) : GoodIn LW (w :: LW) := fun x hx => by
  rcases List.mem_cons.mp hx with rfl | hx
  · exact LW_self _ h
  · exact LW_self _ hx
theorem MW.good {y : MethodName} {cc : ByteArray} {nL n idx : Nat} {ret : Option FieldType} {own : String} (h : MW y cc nL ret n) (hl : Cond.methodLink own idx y ∈ LW) : GoodIn LW (wsV own idx y.cls y (.code y cc nL ret :: LW)) := by
  intro x hx
  rcases List.mem_append.mp hx with hx | hx
  · simp only [List.mem_cons, List.not_mem_nil, or_false] at hx
    rcases hx with rfl | rfl | rfl | rfl
    · exact LW_self _ hl
    · exact LW_self _ h.1
    · exact LW_self _ h.2.1
    · exact LW_self _ h.2.2.1
  · exact LW_cons h.2.2.2.1 x hx
theorem MS.good {y : MethodName} {cc : ByteArray} {nL n idx : Nat} {ret : Option FieldType} (h : MS y cc nL ret n) (hl : Cond.methodLink y.cls idx y ∈ LW) : GoodIn LW (wsS y.cls idx y (.code y cc nL ret :: LW)) := by
  intro x hx
  rcases List.mem_append.mp hx with hx | hx
  · simp only [List.mem_cons, List.not_mem_nil, or_false] at hx
    rcases hx with rfl | rfl | rfl
    · exact LW_self _ hl
    · exact LW_self _ h.1
    · exact LW_self _ h.2.1
  · exact LW_cons h.2.2.1 x hx
theorem va_P_cut {D : va_G} {ws w0 : va_W} {H : Heap} (hP : va_P D vwCl ws H) (isC : List Nat) (hC : isC.map (fun i => ws[i]?) = w0.map some) : va_P D vwCl w0 H := by
  intro k q hq
  have h1 : (isC.map (fun i => ws[i]?))[k]? = some (some q) := by rw [hC, List.getElem?_map, hq]; rfl
  rw [List.getElem?_map] at h1
  cases hi : isC[k]? with
  | none => rw [hi] at h1; cases h1
  | some i => rw [hi] at h1; exact hP i q (Option.some.inj h1)
/-- which places of the caller's cells are the callee's, which stay, in which order they are told behind the call -/
def Cut (ws w0 wr : va_W) (isC isR : List Nat) : Prop := isC.map (fun i => ws[i]?) = w0.map some ∧ isR.map (fun i => ws[i]?) = wr.map some ∧ va_nd isC = true ∧ va_nd isR = true ∧ ∀ i ∈ isR, i ∉ isC
section VC
variable {p : Program} {l : Launch} {e : Env} {R : Room} {s : State} {m : MethodId} {args : Array Value} {below : List Frame} {meth : Method} {c : Code} {cc : ByteArray} {nL : Nat} {own : String} {ret : Option FieldType} {D : va_G} {cI cC : ClassId} {A : Nat → Prop} {kc ks : Nat} {Q : State → Prop} {ws ws' : va_W} {lv lv' : List (Nat × Value)} {pc tgt : Nat} {st : List Value}
theorem V_topi {x y : Int32} (hy : y = x) (k : V p l e R s m args below meth c D A nL kc ks Q ws lv pc (.int y :: st)) : V p l e R s m args below meth c D A nL kc ks Q ws lv pc (.int x :: st) := by subst hy; exact k
theorem V_topl {x y : Int64} (hy : y = x) (k : V p l e R s m args below meth c D A nL kc ks Q ws lv pc (.long y :: st)) : V p l e R s m args below meth c D A nL kc ks Q ws lv pc (.long x :: st) := by subst hy; exact k
theorem sw_ne {x v : Int32} {z : Int} (h : ¬ x = v) (hz : v.toInt = z) : x.toInt ≠ z := fun e => h (Int32.toInt_inj.mp (by rw [e, hz]))
theorem V_iret {ty : FieldType} (C : Cx p R s m args meth c cc nL own (some ty) D cI cC A kc ks) {S : Type} {w1 : S → va_W} {post : Int32 → S → Prop} {v : Int32} (hQ : Q = MQ below (QI D cI cC w1 post A) args s kc ks A) (u : S) (d : decode cc pc = .ok (.ireturn, 1)) (hn : narrow ty (.int v) = .int v) (hw : w1 u = ws) (hp : post v u) : V p l e R s m args below meth c D A nL kc ks Q ws lv pc [.int v] := by
  intro H locs ls hP hD hS hl
  rw [hQ]
  refine W.zret C.1 C.2.1 C.2.2.2.2.2.2.2.2.1 hn (fun t ht hW => ⟨⟨v, u, rfl, hp, ?_, ?_, ?_⟩, hS.F ht⟩) hS.2.2 d C.2.2.2.2.2.2.2.2.2.1
  · rw [hw, ht]; exact hP
  · exact va_K.moved hW.alike C.2.2.2.2.2.1
  · rw [hw]; exact hD
theorem V_lret (C : Cx p R s m args meth c cc nL own (some .long) D cI cC A kc ks) {S : Type} {w1 : S → va_W} {post : Int64 → S → Prop} {v : Int64} (hQ : Q = MQ below (QL D cI cC w1 post A) args s kc ks A) (u : S) (d : decode cc pc = .ok (.lreturn, 1)) (hw : w1 u = ws) (hp : post v u) : V p l e R s m args below meth c D A nL kc ks Q ws lv pc [.long v] := by
  intro H locs ls hP hD hS hl
  rw [hQ]
  refine W.lret C.1 C.2.1 C.2.2.2.2.2.2.2.2.1 (fun t ht hW => ⟨⟨v, u, rfl, hp, ?_, ?_, ?_⟩, hS.F ht⟩) hS.2.2 d C.2.2.2.2.2.2.2.2.2.1
  · rw [hw, ht]; exact hP
  · exact va_K.moved hW.alike C.2.2.2.2.2.1
  · rw [hw]; exact hD
theorem V_vret (C : Cx p R s m args meth c cc nL own none D cI cC A kc ks) {S : Type} {w1 : S → va_W} {post : S → Prop} (hQ : Q = MQ below (QV D cI cC w1 post A) args s kc ks A) (u : S) (d : decode cc pc = .ok (.return_, 1)) (hw : w1 u = ws) (hp : post u) : V p l e R s m args below meth c D A nL kc ks Q ws lv pc [] := by
  intro H locs ls hP hD hS hl
  rw [hQ]
  refine W.vret C.1 C.2.1 C.2.2.2.2.2.2.2.2.1 (fun t ht hW => ⟨⟨u, rfl, hp, ?_, ?_, ?_⟩, hS.F ht⟩) hS.2.2 d C.2.2.2.2.2.2.2.2.2.1
  · rw [hw, ht]; exact hP
  · exact va_K.moved hW.alike C.2.2.2.2.2.1
  · rw [hw]; exact hD
theorem V_aret {n : String} (C : Cx p R s m args meth c cc nL own (some (.object n)) D cI cC A kc ks) {S : Type} {w1 : S → va_W} {post : S → Prop} {b : Nat} (hQ : Q = MQ below (QR D cI cC b w1 post A) args s kc ks A) (u : S) (d : decode cc pc = .ok (.areturn, 1)) (hw : w1 u = ws) (hp : post u) : V p l e R s m args below meth c D A nL kc ks Q ws lv pc [.ref b] := by
  intro H locs ls hP hD hS hl
  rw [hQ]
  refine W.aret C.1 C.2.1 C.2.2.2.2.2.2.2.2.1 (Or.inl ⟨n, rfl⟩) (Or.inr ⟨b, rfl⟩) (fun t ht hW => ⟨⟨u, b, rfl, hp, rfl, ?_, ?_, ?_⟩, hS.F ht⟩) hS.2.2 d C.2.2.2.2.2.2.2.2.2.1
  · rw [hw, ht]; exact hP
  · exact va_K.moved hW.alike C.2.2.2.2.2.1
  · rw [hw]; exact hD
/-- what a callee may take as given -/
theorem V_pre (C : Cx p R s m args meth c cc nL own ret D cI cC A kc ks) {H : Heap} {locs : List Loc} {w0 : va_W} {av : List Value} (hP : va_P D vwCl ws H) (hD : va_D A ws) (hS : va_S A s.heap H locs) (isC : List Nat) (hC : isC.map (fun i => ws[i]?) = w0.map some) (hnd : va_nd isC = true) :
    (∀ q, va_A w0 H.size q → A q) ∧ ∀ U : State, U.heap = H → s.WarmedH U.vm → Pq D cI cC H.size av w0 av.toArray U := by
  have hF := va_free (wc := w0) hD hS C.2.2.2.2.2.2.1 isC hC
  refine ⟨hF, fun U hU hW => ⟨rfl, by rw [hU], by rw [hU]; exact va_P_cut hP isC hC, va_K.moved hW.alike C.2.2.2.2.2.1, (hD.sub isC hnd hC).weaken (fun _ _ _ _ => trivial), ?_⟩⟩
  rw [hU]
  exact NS.go C.2.2.2.2.2.2.2.1 hW hS.2.1 hF
/-- the caller's cells behind a call -/
theorem V_post {H H1 : Heap} {w0 wr w1 : va_W} {t : State} (hP : va_P D vwCl ws H) (hD : va_D A ws) {isC isR isN : List Nat} (hC : Cut ws w0 wr isC isR) (hF : ∀ q, va_A w0 H.size q → A q) (ht : t.heap = H1) (hk : ∀ q : Nat, q < H.size → ¬ va_A w0 H.size q → H1[q]? = H[q]?) (hB : Bw D cI cC (va_A w0 H.size) w1 t) (hn : va_nd isN = true) (hN : isN.map (fun i => (wr ++ w1)[i]?) = ws'.map some) : va_P D vwCl ws' H1 ∧ va_D A ws' := by
  obtain ⟨hP1, -, hD1⟩ := hB
  rw [ht] at hP1
  obtain ⟨hP2, hD2⟩ := va_join (wr := wr) (w1 := w1) hP hD isC isR hC.1 hC.2.1 hC.2.2.2.1 hC.2.2.2.2 hk hF hP1 hD1
  exact ⟨va_P_cut hP2 isN hN, hD2.sub isN hn hN⟩
/-- a callee that works on all of the caller's cells -/
theorem V_preS (C : Cx p R s m args meth c cc nL own ret D cI cC A kc ks) {H : Heap} {locs : List Loc} {av : List Value} (hP : va_P D vwCl ws H) (hD : va_D A ws) (hS : va_S A s.heap H locs) :
    (∀ q, va_A ws H.size q → A q) ∧ ∀ U : State, U.heap = H → s.WarmedH U.vm → Pq D cI cC H.size av ws av.toArray U := by
  have hF : ∀ q, va_A ws H.size q → A q := by
    intro q h
    rcases h with ⟨k, e, h⟩ | h
    · exact hD.2 k (q, e) h
    · exact C.2.2.2.2.2.2.1 q (Nat.le_trans hS.1 h)
  refine ⟨hF, fun U hU hW => ⟨rfl, by rw [hU], by rw [hU]; exact hP, va_K.moved hW.alike C.2.2.2.2.2.1, hD.weaken (fun _ _ _ _ => trivial), ?_⟩⟩
  rw [hU]
  exact NS.go C.2.2.2.2.2.2.2.1 hW hS.2.1 hF
theorem V_postS {H H1 : Heap} {w1 : va_W} {t : State} (hF : ∀ q, va_A ws H.size q → A q) (ht : t.heap = H1) (hB : Bw D cI cC (va_A ws H.size) w1 t) : va_P D vwCl w1 H1 ∧ va_D A w1 := by
  obtain ⟨hP1, -, hD1⟩ := hB
  rw [ht] at hP1
  exact ⟨hP1, hD1.weaken (fun _ q _ h => hF _ h)⟩
theorem V_runV (C : Cx p R s m args meth c cc nL own ret D cI cC A kc ks) {y : MethodName} {bytes : ByteArray} {maxL n index fr lo ci q0 N b : Nat} {ret' : Option FieldType} {w0 : va_W} {Qf : (Nat → Prop) → Array Value → State → Outcome → State → Prop} {As fs : List Value} {T : u_T} (hM : Cn l y bytes maxL ret' fr lo D cI cC (.ref b :: As) w0 Qf) (mk : MW y bytes maxL ret' n) (hlk : Cond.methodLink own index y ∈ LW) (d : decode cc pc = .ok (.invokevirtual index, 3)) (hn : As.length = n) (he : ws[q0]? = some (b, .inr (ci, fs))) (hci : vwCl[ci]? = some (y.cls, T, N)) (hR : fr + 1 ≤ R.frames ∧ 8 + (maxL + 11) + lo ≤ R.locals) (hst : (st.map fun v => v.category).sum ≤ 8) {H : Heap} {locs : List Loc} {ls : Array Slot} (hP : va_P D vwCl ws H) (hl : lv_has ls nL lv) (hU : ∀ U : State, U.heap = H → s.WarmedH U.vm → Pq D cI cC H.size (.ref b :: As) w0 (Value.ref b :: As).toArray U) :
    va_Run p l e R s m args below meth c H locs kc ks 0 0 (F0 m pc ls (As.reverse ++ .ref b :: st)) st (Qf (va_A w0 H.size) (Value.ref b :: As).toArray) (va_A w0 H.size) :=
  va_runV (As := As) (rest := st) ⟨C.1, C.2.1, C.2.2.1, C.2.2.2.1, C.2.2.2.2.1⟩ (hM H.size) (cwV n C.2.2.2.2.1 (mk.good hlk) rfl rfl rfl ⟨rfl, mk.2.2.2.2⟩ hR) ⟨Pq.blind D cI cC H.size _ w0, va_recv C.2.2.2.2.2.1 hP hci he, hU⟩ rfl hn hl.1 rfl (lv_room hst) d ⟨C.2.2.2.2.2.2.2.2.2.2.1, C.2.2.2.2.2.2.2.2.2.2.2⟩
theorem V_runS (C : Cx p R s m args meth c cc nL own ret D cI cC A kc ks) {y : MethodName} {bytes : ByteArray} {maxL n index fr lo : Nat} {ret' : Option FieldType} {w0 : va_W} {Qf : (Nat → Prop) → Array Value → State → Outcome → State → Prop} {As : List Value} (hM : Cn l y bytes maxL ret' fr lo D cI cC As w0 Qf) (mk : MS y bytes maxL ret' n) (ho : y.cls = own) (hlk : Cond.methodLink y.cls index y ∈ LW) (d : decode cc pc = .ok (.invokestatic index, 3)) (hn : As.length = n) (hR : fr + 1 ≤ R.frames ∧ 8 + (maxL + 11) + lo ≤ R.locals) (hst : (st.map fun v => v.category).sum ≤ 8) {H : Heap} {locs : List Loc} {ls : Array Slot} (hl : lv_has ls nL lv) (hU : ∀ U : State, U.heap = H → s.WarmedH U.vm → Pq D cI cC H.size As w0 As.toArray U) :
    va_Run p l e R s m args below meth c H locs kc ks 0 0 (F0 m pc ls (As.reverse ++ st)) st (Qf (va_A w0 H.size) As.toArray) (va_A w0 H.size) := by
  subst ho
  exact va_runS (As := As) (rest := st) ⟨C.1, C.2.1, C.2.2.1, C.2.2.2.1, C.2.2.2.2.1⟩ (hM H.size) (cwS n C.2.2.2.2.1 (mk.good hlk) rfl rfl rfl ⟨rfl, mk.2.2.2⟩ hR) ⟨Pq.blind D cI cC H.size _ w0, hU⟩ rfl hn hl.1 rfl (lv_room hst) d ⟨C.2.2.2.2.2.2.2.2.2.2.1, C.2.2.2.2.2.2.2.2.2.2.2⟩
theorem V_runN (C : Cx p R s m args meth c cc nL own ret D cI cC A kc ks) {fr lo : Nat} {w0 : va_W} {Qf : (Nat → Prop) → Array Value → State → Outcome → State → Prop} {As : List Value} (hM : Cn l yX4_leastRow cX4_leastRow 2 (some .int) fr lo D cI cC As w0 Qf) (mk : MS yX4_leastRow cX4_leastRow 2 (some .int) 1) (ho : own = RX3) (d : decode cc pc = .ok (.invokestatic 121, 3)) (hn : As.length = 1) (hR : fr + 1 ≤ R.frames ∧ 8 + (2 + 11) + lo ≤ R.locals) (hst : (st.map fun v => v.category).sum ≤ 8) {H : Heap} {locs : List Loc} {ls : Array Slot} (hl : lv_has ls nL lv) (hU : ∀ U : State, U.heap = H → s.WarmedH U.vm → Pq D cI cC H.size As w0 As.toArray U) :
    va_Run p l e R s m args below meth c H locs kc ks 0 0 (F0 m pc ls (As.reverse ++ st)) st (Qf (va_A w0 H.size) As.toArray) (va_A w0 H.size) := by
  subst ho
  exact va_runSN (host := RX4) (As := As) (rest := st) ⟨C.1, C.2.1, C.2.2.1, C.2.2.2.1, C.2.2.2.2.1⟩ (hM H.size) ⟨va_cnB 1 C.2.2.2.2.1 (LW_cons mk.2.2.1) rfl rfl rfl C.2.2.2.2.2.2.2.1.1 (C.2.2.2.2.1 _ mk.2.1) mk.2.2.2 hR, C.2.2.2.2.1 _ mk.1, trivial⟩ ⟨Pq.blind D cI cC H.size _ w0, hU⟩ rfl hn hl.1 rfl (lv_room hst) d ⟨C.2.2.2.2.2.2.2.2.2.2.1, C.2.2.2.2.2.2.2.2.2.2.2⟩
theorem V_callVi (C : Cx p R s m args meth c cc nL own ret D cI cC A kc ks) {y : MethodName} {bytes : ByteArray} {maxL n index fr lo ci N b : Nat} {ret' : Option FieldType} {As fs : List Value} {T : u_T} {S : Type} {w1 : S → va_W} {post : Int32 → S → Prop} {stk : List Value} (hM : Cn l y bytes maxL ret' fr lo D cI cC (.ref b :: As) ws (QI D cI cC w1 post)) (mk : MW y bytes maxL ret' n) (hlk : Cond.methodLink own index y ∈ LW) (d : decode cc pc = .ok (.invokevirtual index, 3)) (q0 : Nat) (hn : As.length = n) (he : ws[q0]? = some (b, .inr (ci, fs))) (hci : vwCl[ci]? = some (y.cls, T, N)) (hR : fr + 1 ≤ R.frames ∧ 8 + (maxL + 11) + lo ≤ R.locals) (hst : (st.map fun v => v.category).sum ≤ 8) (hstk : stk = As.reverse ++ .ref b :: st) (k : ∀ (r : Int32) (u : S), post r u → V p l e R s m args below meth c D A nL kc ks Q (w1 u) lv (pc + 3) (.int r :: st)) : V p l e R s m args below meth c D A nL kc ks Q ws lv pc stk := by
  subst hstk
  intro H locs ls hP hD hS hl
  obtain ⟨hF, hU⟩ := V_preS (av := (.ref b :: As)) C hP hD hS
  refine va_calli (V_runV C hM mk hlk d hn he hci hR hst hP hl hU) hS (fun q _ h => hF q h) hF (fun r u t H1 locs1 ht hvm hw hB hz1 hk1 hS1 => ?_)
  obtain ⟨hP2, hD2⟩ := V_postS hF ht hB
  exact k r u hw H1 locs1 ls hP2 hD2 hS1 hl
theorem V_cutVi (C : Cx p R s m args meth c cc nL own ret D cI cC A kc ks) {y : MethodName} {bytes : ByteArray} {maxL n index fr lo ci N b : Nat} {ret' : Option FieldType} {As fs : List Value} {T : u_T} {S : Type} {w0 wr : va_W} {w1 w2 : S → va_W} {post : Int32 → S → Prop} {stk : List Value} (hM : Cn l y bytes maxL ret' fr lo D cI cC (.ref b :: As) w0 (QI D cI cC w1 post)) (mk : MW y bytes maxL ret' n) (hlk : Cond.methodLink own index y ∈ LW) (d : decode cc pc = .ok (.invokevirtual index, 3)) (q0 : Nat) (hn : As.length = n) (he : ws[q0]? = some (b, .inr (ci, fs))) (hci : vwCl[ci]? = some (y.cls, T, N)) (hR : fr + 1 ≤ R.frames ∧ 8 + (maxL + 11) + lo ≤ R.locals) (isC isR isN : List Nat) (hC : Cut ws w0 wr isC isR) (hN : va_nd isN = true) (hw2 : ∀ u : S, isN.map (fun i => (wr ++ w1 u)[i]?) = (w2 u).map some) (hst : (st.map fun v => v.category).sum ≤ 8) (hstk : stk = As.reverse ++ .ref b :: st) (k : ∀ (r : Int32) (u : S), post r u → V p l e R s m args below meth c D A nL kc ks Q (w2 u) lv (pc + 3) (.int r :: st)) : V p l e R s m args below meth c D A nL kc ks Q ws lv pc stk := by
  subst hstk
  intro H locs ls hP hD hS hl
  obtain ⟨hF, hU⟩ := V_pre (av := (.ref b :: As)) C hP hD hS isC hC.1 hC.2.2.1
  refine va_calli (V_runV C hM mk hlk d hn he hci hR hst hP hl hU) hS (fun q _ h => hF q h) hF (fun r u t H1 locs1 ht hvm hw hB hz1 hk1 hS1 => ?_)
  obtain ⟨hP2, hD2⟩ := V_post (ws' := w2 u) hP hD hC hF ht hk1 hB hN (hw2 u)
  exact k r u hw H1 locs1 ls hP2 hD2 hS1 hl
theorem V_callVl (C : Cx p R s m args meth c cc nL own ret D cI cC A kc ks) {y : MethodName} {bytes : ByteArray} {maxL n index fr lo ci N b : Nat} {ret' : Option FieldType} {As fs : List Value} {T : u_T} {S : Type} {w1 : S → va_W} {post : Int64 → S → Prop} {stk : List Value} (hM : Cn l y bytes maxL ret' fr lo D cI cC (.ref b :: As) ws (QL D cI cC w1 post)) (mk : MW y bytes maxL ret' n) (hlk : Cond.methodLink own index y ∈ LW) (d : decode cc pc = .ok (.invokevirtual index, 3)) (q0 : Nat) (hn : As.length = n) (he : ws[q0]? = some (b, .inr (ci, fs))) (hci : vwCl[ci]? = some (y.cls, T, N)) (hR : fr + 1 ≤ R.frames ∧ 8 + (maxL + 11) + lo ≤ R.locals) (hst : (st.map fun v => v.category).sum ≤ 8) (hstk : stk = As.reverse ++ .ref b :: st) (k : ∀ (r : Int64) (u : S), post r u → V p l e R s m args below meth c D A nL kc ks Q (w1 u) lv (pc + 3) (.long r :: st)) : V p l e R s m args below meth c D A nL kc ks Q ws lv pc stk := by
  subst hstk
  intro H locs ls hP hD hS hl
  obtain ⟨hF, hU⟩ := V_preS (av := (.ref b :: As)) C hP hD hS
  refine va_calll (V_runV C hM mk hlk d hn he hci hR hst hP hl hU) hS (fun q _ h => hF q h) hF (fun r u t H1 locs1 ht hvm hw hB hz1 hk1 hS1 => ?_)
  obtain ⟨hP2, hD2⟩ := V_postS hF ht hB
  exact k r u hw H1 locs1 ls hP2 hD2 hS1 hl
theorem V_cutVl (C : Cx p R s m args meth c cc nL own ret D cI cC A kc ks) {y : MethodName} {bytes : ByteArray} {maxL n index fr lo ci N b : Nat} {ret' : Option FieldType} {As fs : List Value} {T : u_T} {S : Type} {w0 wr : va_W} {w1 w2 : S → va_W} {post : Int64 → S → Prop} {stk : List Value} (hM : Cn l y bytes maxL ret' fr lo D cI cC (.ref b :: As) w0 (QL D cI cC w1 post)) (mk : MW y bytes maxL ret' n) (hlk : Cond.methodLink own index y ∈ LW) (d : decode cc pc = .ok (.invokevirtual index, 3)) (q0 : Nat) (hn : As.length = n) (he : ws[q0]? = some (b, .inr (ci, fs))) (hci : vwCl[ci]? = some (y.cls, T, N)) (hR : fr + 1 ≤ R.frames ∧ 8 + (maxL + 11) + lo ≤ R.locals) (isC isR isN : List Nat) (hC : Cut ws w0 wr isC isR) (hN : va_nd isN = true) (hw2 : ∀ u : S, isN.map (fun i => (wr ++ w1 u)[i]?) = (w2 u).map some) (hst : (st.map fun v => v.category).sum ≤ 8) (hstk : stk = As.reverse ++ .ref b :: st) (k : ∀ (r : Int64) (u : S), post r u → V p l e R s m args below meth c D A nL kc ks Q (w2 u) lv (pc + 3) (.long r :: st)) : V p l e R s m args below meth c D A nL kc ks Q ws lv pc stk := by
  subst hstk
  intro H locs ls hP hD hS hl
  obtain ⟨hF, hU⟩ := V_pre (av := (.ref b :: As)) C hP hD hS isC hC.1 hC.2.2.1
  refine va_calll (V_runV C hM mk hlk d hn he hci hR hst hP hl hU) hS (fun q _ h => hF q h) hF (fun r u t H1 locs1 ht hvm hw hB hz1 hk1 hS1 => ?_)
  obtain ⟨hP2, hD2⟩ := V_post (ws' := w2 u) hP hD hC hF ht hk1 hB hN (hw2 u)
  exact k r u hw H1 locs1 ls hP2 hD2 hS1 hl
theorem V_callVv (C : Cx p R s m args meth c cc nL own ret D cI cC A kc ks) {y : MethodName} {bytes : ByteArray} {maxL n index fr lo ci N b : Nat} {ret' : Option FieldType} {As fs : List Value} {T : u_T} {S : Type} {w1 : S → va_W} {post : S → Prop} {stk : List Value} (hM : Cn l y bytes maxL ret' fr lo D cI cC (.ref b :: As) ws (QV D cI cC w1 post)) (mk : MW y bytes maxL ret' n) (hlk : Cond.methodLink own index y ∈ LW) (d : decode cc pc = .ok (.invokevirtual index, 3)) (q0 : Nat) (hn : As.length = n) (he : ws[q0]? = some (b, .inr (ci, fs))) (hci : vwCl[ci]? = some (y.cls, T, N)) (hR : fr + 1 ≤ R.frames ∧ 8 + (maxL + 11) + lo ≤ R.locals) (hst : (st.map fun v => v.category).sum ≤ 8) (hstk : stk = As.reverse ++ .ref b :: st) (k : ∀ (u : S), post u → V p l e R s m args below meth c D A nL kc ks Q (w1 u) lv (pc + 3) st) : V p l e R s m args below meth c D A nL kc ks Q ws lv pc stk := by
  subst hstk
  intro H locs ls hP hD hS hl
  obtain ⟨hF, hU⟩ := V_preS (av := (.ref b :: As)) C hP hD hS
  refine va_callv (V_runV C hM mk hlk d hn he hci hR hst hP hl hU) hS (fun q _ h => hF q h) hF (fun u t H1 locs1 ht hvm hw hB hz1 hk1 hS1 => ?_)
  obtain ⟨hP2, hD2⟩ := V_postS hF ht hB
  exact k u hw H1 locs1 ls hP2 hD2 hS1 hl
theorem V_cutVv (C : Cx p R s m args meth c cc nL own ret D cI cC A kc ks) {y : MethodName} {bytes : ByteArray} {maxL n index fr lo ci N b : Nat} {ret' : Option FieldType} {As fs : List Value} {T : u_T} {S : Type} {w0 wr : va_W} {w1 w2 : S → va_W} {post : S → Prop} {stk : List Value} (hM : Cn l y bytes maxL ret' fr lo D cI cC (.ref b :: As) w0 (QV D cI cC w1 post)) (mk : MW y bytes maxL ret' n) (hlk : Cond.methodLink own index y ∈ LW) (d : decode cc pc = .ok (.invokevirtual index, 3)) (q0 : Nat) (hn : As.length = n) (he : ws[q0]? = some (b, .inr (ci, fs))) (hci : vwCl[ci]? = some (y.cls, T, N)) (hR : fr + 1 ≤ R.frames ∧ 8 + (maxL + 11) + lo ≤ R.locals) (isC isR isN : List Nat) (hC : Cut ws w0 wr isC isR) (hN : va_nd isN = true) (hw2 : ∀ u : S, isN.map (fun i => (wr ++ w1 u)[i]?) = (w2 u).map some) (hst : (st.map fun v => v.category).sum ≤ 8) (hstk : stk = As.reverse ++ .ref b :: st) (k : ∀ (u : S), post u → V p l e R s m args below meth c D A nL kc ks Q (w2 u) lv (pc + 3) st) : V p l e R s m args below meth c D A nL kc ks Q ws lv pc stk := by
  subst hstk
  intro H locs ls hP hD hS hl
  obtain ⟨hF, hU⟩ := V_pre (av := (.ref b :: As)) C hP hD hS isC hC.1 hC.2.2.1
  refine va_callv (V_runV C hM mk hlk d hn he hci hR hst hP hl hU) hS (fun q _ h => hF q h) hF (fun u t H1 locs1 ht hvm hw hB hz1 hk1 hS1 => ?_)
  obtain ⟨hP2, hD2⟩ := V_post (ws' := w2 u) hP hD hC hF ht hk1 hB hN (hw2 u)
  exact k u hw H1 locs1 ls hP2 hD2 hS1 hl
theorem V_callVr (C : Cx p R s m args meth c cc nL own ret D cI cC A kc ks) {y : MethodName} {bytes : ByteArray} {maxL n index fr lo ci N b : Nat} {ret' : Option FieldType} {As fs : List Value} {T : u_T} {br : Nat} {S : Type} {w1 : S → va_W} {post : S → Prop} {stk : List Value} (hM : Cn l y bytes maxL ret' fr lo D cI cC (.ref b :: As) ws (QR D cI cC br w1 post)) (mk : MW y bytes maxL ret' n) (hlk : Cond.methodLink own index y ∈ LW) (d : decode cc pc = .ok (.invokevirtual index, 3)) (q0 : Nat) (hn : As.length = n) (he : ws[q0]? = some (b, .inr (ci, fs))) (hci : vwCl[ci]? = some (y.cls, T, N)) (hR : fr + 1 ≤ R.frames ∧ 8 + (maxL + 11) + lo ≤ R.locals) (hst : (st.map fun v => v.category).sum ≤ 8) (hstk : stk = As.reverse ++ .ref b :: st) (k : ∀ (u : S), post u → V p l e R s m args below meth c D A nL kc ks Q (w1 u) lv (pc + 3) (.ref br :: st)) : V p l e R s m args below meth c D A nL kc ks Q ws lv pc stk := by
  subst hstk
  intro H locs ls hP hD hS hl
  obtain ⟨hF, hU⟩ := V_preS (av := (.ref b :: As)) C hP hD hS
  refine va_callr (V_runV C hM mk hlk d hn he hci hR hst hP hl hU) hS (fun q _ h => hF q h) hF (fun u a t H1 locs1 ht hvm hw hB hz1 hk1 hS1 => ?_)
  obtain ⟨rfl, hB⟩ := hB
  obtain ⟨hP2, hD2⟩ := V_postS hF ht hB
  exact k u hw H1 locs1 ls hP2 hD2 hS1 hl
theorem V_cutVr (C : Cx p R s m args meth c cc nL own ret D cI cC A kc ks) {y : MethodName} {bytes : ByteArray} {maxL n index fr lo ci N b : Nat} {ret' : Option FieldType} {As fs : List Value} {T : u_T} {br : Nat} {S : Type} {w0 wr : va_W} {w1 w2 : S → va_W} {post : S → Prop} {stk : List Value} (hM : Cn l y bytes maxL ret' fr lo D cI cC (.ref b :: As) w0 (QR D cI cC br w1 post)) (mk : MW y bytes maxL ret' n) (hlk : Cond.methodLink own index y ∈ LW) (d : decode cc pc = .ok (.invokevirtual index, 3)) (q0 : Nat) (hn : As.length = n) (he : ws[q0]? = some (b, .inr (ci, fs))) (hci : vwCl[ci]? = some (y.cls, T, N)) (hR : fr + 1 ≤ R.frames ∧ 8 + (maxL + 11) + lo ≤ R.locals) (isC isR isN : List Nat) (hC : Cut ws w0 wr isC isR) (hN : va_nd isN = true) (hw2 : ∀ u : S, isN.map (fun i => (wr ++ w1 u)[i]?) = (w2 u).map some) (hst : (st.map fun v => v.category).sum ≤ 8) (hstk : stk = As.reverse ++ .ref b :: st) (k : ∀ (u : S), post u → V p l e R s m args below meth c D A nL kc ks Q (w2 u) lv (pc + 3) (.ref br :: st)) : V p l e R s m args below meth c D A nL kc ks Q ws lv pc stk := by
  subst hstk
  intro H locs ls hP hD hS hl
  obtain ⟨hF, hU⟩ := V_pre (av := (.ref b :: As)) C hP hD hS isC hC.1 hC.2.2.1
  refine va_callr (V_runV C hM mk hlk d hn he hci hR hst hP hl hU) hS (fun q _ h => hF q h) hF (fun u a t H1 locs1 ht hvm hw hB hz1 hk1 hS1 => ?_)
  obtain ⟨rfl, hB⟩ := hB
  obtain ⟨hP2, hD2⟩ := V_post (ws' := w2 u) hP hD hC hF ht hk1 hB hN (hw2 u)
  exact k u hw H1 locs1 ls hP2 hD2 hS1 hl
theorem V_callSi (C : Cx p R s m args meth c cc nL own ret D cI cC A kc ks) {y : MethodName} {bytes : ByteArray} {maxL n index fr lo : Nat} {ret' : Option FieldType} {As : List Value} {S : Type} {w1 : S → va_W} {post : Int32 → S → Prop} {stk : List Value} (hM : Cn l y bytes maxL ret' fr lo D cI cC As ws (QI D cI cC w1 post)) (mk : MS y bytes maxL ret' n) (hlk : Cond.methodLink y.cls index y ∈ LW) (d : decode cc pc = .ok (.invokestatic index, 3)) (ho : y.cls = own) (hn : As.length = n) (hR : fr + 1 ≤ R.frames ∧ 8 + (maxL + 11) + lo ≤ R.locals) (hst : (st.map fun v => v.category).sum ≤ 8) (hstk : stk = As.reverse ++ st) (k : ∀ (r : Int32) (u : S), post r u → V p l e R s m args below meth c D A nL kc ks Q (w1 u) lv (pc + 3) (.int r :: st)) : V p l e R s m args below meth c D A nL kc ks Q ws lv pc stk := by
  subst hstk
  intro H locs ls hP hD hS hl
  obtain ⟨hF, hU⟩ := V_preS (av := As) C hP hD hS
  refine va_calli (V_runS C hM mk ho hlk d hn hR hst hl hU) hS (fun q _ h => hF q h) hF (fun r u t H1 locs1 ht hvm hw hB hz1 hk1 hS1 => ?_)
  obtain ⟨hP2, hD2⟩ := V_postS hF ht hB
  exact k r u hw H1 locs1 ls hP2 hD2 hS1 hl
theorem V_cutSi (C : Cx p R s m args meth c cc nL own ret D cI cC A kc ks) {y : MethodName} {bytes : ByteArray} {maxL n index fr lo : Nat} {ret' : Option FieldType} {As : List Value} {S : Type} {w0 wr : va_W} {w1 w2 : S → va_W} {post : Int32 → S → Prop} {stk : List Value} (hM : Cn l y bytes maxL ret' fr lo D cI cC As w0 (QI D cI cC w1 post)) (mk : MS y bytes maxL ret' n) (hlk : Cond.methodLink y.cls index y ∈ LW) (d : decode cc pc = .ok (.invokestatic index, 3)) (ho : y.cls = own) (hn : As.length = n) (hR : fr + 1 ≤ R.frames ∧ 8 + (maxL + 11) + lo ≤ R.locals) (isC isR isN : List Nat) (hC : Cut ws w0 wr isC isR) (hN : va_nd isN = true) (hw2 : ∀ u : S, isN.map (fun i => (wr ++ w1 u)[i]?) = (w2 u).map some) (hst : (st.map fun v => v.category).sum ≤ 8) (hstk : stk = As.reverse ++ st) (k : ∀ (r : Int32) (u : S), post r u → V p l e R s m args below meth c D A nL kc ks Q (w2 u) lv (pc + 3) (.int r :: st)) : V p l e R s m args below meth c D A nL kc ks Q ws lv pc stk := by
  subst hstk
  intro H locs ls hP hD hS hl
  obtain ⟨hF, hU⟩ := V_pre (av := As) C hP hD hS isC hC.1 hC.2.2.1
  refine va_calli (V_runS C hM mk ho hlk d hn hR hst hl hU) hS (fun q _ h => hF q h) hF (fun r u t H1 locs1 ht hvm hw hB hz1 hk1 hS1 => ?_)
  obtain ⟨hP2, hD2⟩ := V_post (ws' := w2 u) hP hD hC hF ht hk1 hB hN (hw2 u)
  exact k r u hw H1 locs1 ls hP2 hD2 hS1 hl
theorem V_callSv (C : Cx p R s m args meth c cc nL own ret D cI cC A kc ks) {y : MethodName} {bytes : ByteArray} {maxL n index fr lo : Nat} {ret' : Option FieldType} {As : List Value} {S : Type} {w1 : S → va_W} {post : S → Prop} {stk : List Value} (hM : Cn l y bytes maxL ret' fr lo D cI cC As ws (QV D cI cC w1 post)) (mk : MS y bytes maxL ret' n) (hlk : Cond.methodLink y.cls index y ∈ LW) (d : decode cc pc = .ok (.invokestatic index, 3)) (ho : y.cls = own) (hn : As.length = n) (hR : fr + 1 ≤ R.frames ∧ 8 + (maxL + 11) + lo ≤ R.locals) (hst : (st.map fun v => v.category).sum ≤ 8) (hstk : stk = As.reverse ++ st) (k : ∀ (u : S), post u → V p l e R s m args below meth c D A nL kc ks Q (w1 u) lv (pc + 3) st) : V p l e R s m args below meth c D A nL kc ks Q ws lv pc stk := by
  subst hstk
  intro H locs ls hP hD hS hl
  obtain ⟨hF, hU⟩ := V_preS (av := As) C hP hD hS
  refine va_callv (V_runS C hM mk ho hlk d hn hR hst hl hU) hS (fun q _ h => hF q h) hF (fun u t H1 locs1 ht hvm hw hB hz1 hk1 hS1 => ?_)
  obtain ⟨hP2, hD2⟩ := V_postS hF ht hB
  exact k u hw H1 locs1 ls hP2 hD2 hS1 hl
theorem V_cutSv (C : Cx p R s m args meth c cc nL own ret D cI cC A kc ks) {y : MethodName} {bytes : ByteArray} {maxL n index fr lo : Nat} {ret' : Option FieldType} {As : List Value} {S : Type} {w0 wr : va_W} {w1 w2 : S → va_W} {post : S → Prop} {stk : List Value} (hM : Cn l y bytes maxL ret' fr lo D cI cC As w0 (QV D cI cC w1 post)) (mk : MS y bytes maxL ret' n) (hlk : Cond.methodLink y.cls index y ∈ LW) (d : decode cc pc = .ok (.invokestatic index, 3)) (ho : y.cls = own) (hn : As.length = n) (hR : fr + 1 ≤ R.frames ∧ 8 + (maxL + 11) + lo ≤ R.locals) (isC isR isN : List Nat) (hC : Cut ws w0 wr isC isR) (hN : va_nd isN = true) (hw2 : ∀ u : S, isN.map (fun i => (wr ++ w1 u)[i]?) = (w2 u).map some) (hst : (st.map fun v => v.category).sum ≤ 8) (hstk : stk = As.reverse ++ st) (k : ∀ (u : S), post u → V p l e R s m args below meth c D A nL kc ks Q (w2 u) lv (pc + 3) st) : V p l e R s m args below meth c D A nL kc ks Q ws lv pc stk := by
  subst hstk
  intro H locs ls hP hD hS hl
  obtain ⟨hF, hU⟩ := V_pre (av := As) C hP hD hS isC hC.1 hC.2.2.1
  refine va_callv (V_runS C hM mk ho hlk d hn hR hst hl hU) hS (fun q _ h => hF q h) hF (fun u t H1 locs1 ht hvm hw hB hz1 hk1 hS1 => ?_)
  obtain ⟨hP2, hD2⟩ := V_post (ws' := w2 u) hP hD hC hF ht hk1 hB hN (hw2 u)
  exact k u hw H1 locs1 ls hP2 hD2 hS1 hl
theorem V_callNi (C : Cx p R s m args meth c cc nL own ret D cI cC A kc ks) {fr lo : Nat} {As : List Value} {S : Type} {w1 : S → va_W} {post : Int32 → S → Prop} {stk : List Value} (hM : Cn l yX4_leastRow cX4_leastRow 2 (some .int) fr lo D cI cC As ws (QI D cI cC w1 post)) (mk : MS yX4_leastRow cX4_leastRow 2 (some .int) 1) (d : decode cc pc = .ok (.invokestatic 121, 3)) (ho : own = RX3) (hn : As.length = 1) (hR : fr + 1 ≤ R.frames ∧ 8 + (2 + 11) + lo ≤ R.locals) (hst : (st.map fun v => v.category).sum ≤ 8) (hstk : stk = As.reverse ++ st) (k : ∀ (r : Int32) (u : S), post r u → V p l e R s m args below meth c D A nL kc ks Q (w1 u) lv (pc + 3) (.int r :: st)) : V p l e R s m args below meth c D A nL kc ks Q ws lv pc stk := by
  subst hstk
  intro H locs ls hP hD hS hl
  obtain ⟨hF, hU⟩ := V_preS (av := As) C hP hD hS
  refine va_calli (V_runN C hM mk ho d hn hR hst hl hU) hS (fun q _ h => hF q h) hF (fun r u t H1 locs1 ht hvm hw hB hz1 hk1 hS1 => ?_)
  obtain ⟨hP2, hD2⟩ := V_postS hF ht hB
  exact k r u hw H1 locs1 ls hP2 hD2 hS1 hl
theorem V_cutNi (C : Cx p R s m args meth c cc nL own ret D cI cC A kc ks) {fr lo : Nat} {As : List Value} {S : Type} {w0 wr : va_W} {w1 w2 : S → va_W} {post : Int32 → S → Prop} {stk : List Value} (hM : Cn l yX4_leastRow cX4_leastRow 2 (some .int) fr lo D cI cC As w0 (QI D cI cC w1 post)) (mk : MS yX4_leastRow cX4_leastRow 2 (some .int) 1) (d : decode cc pc = .ok (.invokestatic 121, 3)) (ho : own = RX3) (hn : As.length = 1) (hR : fr + 1 ≤ R.frames ∧ 8 + (2 + 11) + lo ≤ R.locals) (isC isR isN : List Nat) (hC : Cut ws w0 wr isC isR) (hN : va_nd isN = true) (hw2 : ∀ u : S, isN.map (fun i => (wr ++ w1 u)[i]?) = (w2 u).map some) (hst : (st.map fun v => v.category).sum ≤ 8) (hstk : stk = As.reverse ++ st) (k : ∀ (r : Int32) (u : S), post r u → V p l e R s m args below meth c D A nL kc ks Q (w2 u) lv (pc + 3) (.int r :: st)) : V p l e R s m args below meth c D A nL kc ks Q ws lv pc stk := by
  subst hstk
  intro H locs ls hP hD hS hl
  obtain ⟨hF, hU⟩ := V_pre (av := As) C hP hD hS isC hC.1 hC.2.2.1
  refine va_calli (V_runN C hM mk ho d hn hR hst hl hU) hS (fun q _ h => hF q h) hF (fun r u t H1 locs1 ht hvm hw hB hz1 hk1 hS1 => ?_)
  obtain ⟨hP2, hD2⟩ := V_post (ws' := w2 u) hP hD hC hF ht hk1 hB hN (hw2 u)
  exact k r u hw H1 locs1 ls hP2 hD2 hS1 hl
end VC
/-! pure programs: what may fail is an Option; wpO: it doesn't, and what it gives meets post -/
def wpO {α : Type} (o : Option α) (post : α → Prop) : Prop := ∃ a, o = some a ∧ post a
theorem wp_s {α : Type} {a : α} {post : α → Prop} (h : wpO (some a) post) : post a := by obtain ⟨b, e, h⟩ := h; cases e; exact h
theorem wp_b {α β : Type} {o : Option α} {k : α → Option β} {post : β → Prop} (h : wpO (o.bind k) post) : wpO o (fun a => wpO (k a) post) := by
  obtain ⟨b, e, h⟩ := h
  cases o with
  | none => cases e
  | some a => exact ⟨a, rfl, b, e, h⟩
theorem wp_t {α : Type} {c : Prop} [Decidable c] {a b : Option α} {post : α → Prop} (h : wpO (if c then a else b) post) (hc : c) : wpO a post := by rw [if_pos hc] at h; exact h
theorem wp_f {α : Type} {c : Prop} [Decidable c] {a b : Option α} {post : α → Prop} (h : wpO (if c then a else b) post) (hc : ¬ c) : wpO b post := by rw [if_neg hc] at h; exact h
/-- a place that must be there -/
def bnd (i : Int32) (n : Nat) : Bool := decide (¬ (i < 0 ∨ n ≤ i.toNatClampNeg))
theorem bnd_iff {i : Int32} {n : Nat} : bnd i n = true ↔ vp_in i n := by unfold bnd vp_in; exact decide_eq_true_iff
def chk {α : Type} (b : Bool) (o : Option α) : Option α := if b = true then o else none
theorem wp_c {α : Type} {i : Int32} {n : Nat} {o : Option α} {post : α → Prop} (h : wpO (chk (bnd i n) o) post) : vp_in i n ∧ wpO o post := by
  unfold chk at h
  by_cases hb : bnd i n = true
  · rw [if_pos hb] at h; exact ⟨bnd_iff.mp hb, h⟩
  · rw [if_neg hb] at h; obtain ⟨_, e, _⟩ := h; cases e
theorem wp_c2 {α : Type} {b : Bool} {o : Option α} {post : α → Prop} (h : wpO (chk b o) post) : b = true ∧ wpO o post := by
  unfold chk at h
  by_cases hb : b = true
  · rw [if_pos hb] at h; exact ⟨hb, h⟩
  · rw [if_neg hb] at h; obtain ⟨_, e, _⟩ := h; cases e
/-- a value that gets a name -/
def lt_ {α β : Type} (x : α) (k : α → β) : β := k x
theorem wp_l {α β : Type} {x : α} {k : α → Option β} {post : β → Prop} (h : wpO (lt_ x k) post) : ∃ y, y = x ∧ wpO (k y) post := ⟨x, rfl, h⟩
theorem wp_n {α : Type} {post : α → Prop} (h : wpO none post) : False := by obtain ⟨_, e, _⟩ := h; cases e
theorem wpO.mono {α : Type} {o : Option α} {p q : α → Prop} (h : wpO o p) (hpq : ∀ a, p a → q a) : wpO o q := by obtain ⟨a, e, h⟩ := h; exact ⟨a, e, hpq a h⟩
