/-! the layer between the kit's rows and the printed walks: one world, contracts 'nb_C', a walk's fixed facts 'nb_X' -/
def nb_AD (ad : Nat → Nat) (b0 : Nat) : Prop := (∀ i j, i < 65 → j < 65 → ad i = ad j → i = j) ∧ ∀ i, i < 65 → b0 ≤ ad i
theorem nb_D {ad : Nat → Nat} {b0 : Nat} {ca : Nat → ClassId} {M N : nb_M} (h : nb_AD ad b0) : va_D (fun q => b0 ≤ q) (nb_w ad ca M N) := by
  have g : ∀ (i : Nat) (p : Nat × va_E), (nb_w ad ca M N)[i]? = some p → i < 65 ∧ p.1 = ad i := by
    intro i p hp
    have h1 : ((nb_w ad ca M N).map Prod.fst)[i]? = some p.1 := by rw [List.getElem?_map, hp]; rfl
    rw [nb_len, List.getElem?_map] at h1
    cases hr : (List.range 65)[i]? with
    | none => rw [hr] at h1; cases h1
    | some k =>
      rw [hr] at h1
      obtain ⟨hk, he⟩ := List.getElem?_eq_some_iff.mp hr
      rw [List.length_range] at hk
      rw [List.getElem_range] at he
      subst he
      exact ⟨hk, (Option.some.inj h1).symm⟩
  refine ⟨fun i j p q hi hj hpq => ?_, fun k q hq => ?_⟩
  · obtain ⟨a1, a2⟩ := g i p hi
    obtain ⟨b1, b2⟩ := g j q hj
    exact h.1 i j a1 b1 (by rw [← a2, ← b2]; exact hpq)
  · obtain ⟨a1, a2⟩ := g k q hq
    show b0 ≤ q.1
    rw [a2]
    exact h.2 k a1
def nb_tys (ca : Nat → ClassId) : List (ClassId × FieldType) := [(ca 0, .int), (ca 1, .long), (ca 2, .object RX3), (ca 3, .object RX2)]
def nb_K (D : va_G) (ca : Nat → ClassId) (U : State) : Prop := va_K D vwCl (nb_tys ca) U ∧ va_Nw (.methodLinkNest RX0 85 yX6_bit RX6) U ∧ va_Nw (.methodLinkNest RX0 121 yX6_held RX6) U ∧ va_Nw (.methodLinkNest RX4 76 yX6_bitsIn RX6) U ∧ va_Nw (.methodLinkNest RX0 152 yX6_within RX6) U ∧ va_Nw (.fieldLinkNest RX1 72 RX6 "RISK_NAMES" "[C" RX6) U ∧ va_Nw (.fieldLinkNest RX1 76 RX6 "YEARS_NAMES" "[C" RX6) U
/-- the class's three tables -/
def nb_above (j : Nat) : Int32 := if j = 0 then -1 else if j = 4 then 1 else if j = 5 then 2 else 0
def nb_rn (j : Nat) : Int32 := if j = 0 then 114 else if j = 1 then 99 else 100
def nb_yn (j : Nat) : Int32 := if j = 0 then 99 else if j = 1 then 98 else 112
def nb_Z (b0 : Nat) (U : State) (H : Heap) : Prop := ∃ t1 t2 t3 : Nat, (va_Z RX6 "ABOVE" "[I" (.ref t1) (fun q => b0 ≤ q) U H ∧ va_T .int t1 7 (fun j => .int (nb_above j)) (fun q => b0 ≤ q) U H) ∧ (va_Z RX6 "RISK_NAMES" "[C" (.ref t2) (fun q => b0 ≤ q) U H ∧ va_T .char t2 3 (fun j => .int (nb_rn j)) (fun q => b0 ≤ q) U H) ∧ (va_Z RX6 "YEARS_NAMES" "[C" (.ref t3) (fun q => b0 ≤ q) U H ∧ va_T .char t3 3 (fun j => .int (nb_yn j)) (fun q => b0 ≤ q) U H)
theorem nb_K.same {D : va_G} {ca : Nat → ClassId} {u U : State} (h : u.vm = U.vm) (q : nb_K D ca u) : nb_K D ca U := by
  obtain ⟨h0, h1, h2, h3, h4, h5, h6⟩ := q
  exact ⟨va_K.moved (by rw [h]; exact Vm.Alike.refl _) h0, h1.same rfl h, h2.same rfl h, h3.same rfl h, h4.same rfl h, h5.same rfl h, h6.same rfl h⟩
theorem nb_K.warm {D : va_G} {ca : Nat → ClassId} {s U : State} (hW : s.WarmedH U.vm) (q : nb_K D ca s) : nb_K D ca U := by
  obtain ⟨h0, h1, h2, h3, h4, h5, h6⟩ := q
  exact ⟨va_K.moved hW.alike h0, va_Nw.warmM hW h1, va_Nw.warmM hW h2, va_Nw.warmM hW h3, va_Nw.warmM hW h4, va_Nw.warmF hW h5, va_Nw.warmF hW h6⟩
theorem nb_Z.go {b0 : Nat} {u U : State} {H H1 : Heap} (hvm : u.vm.Alike U.vm) (hq : ∀ a : Nat, a < H.size → ¬ b0 ≤ a → H1[a]? = H[a]?) (q : nb_Z b0 u H) : nb_Z b0 U H1 := by
  obtain ⟨t1, t2, t3, ⟨a1, b1⟩, ⟨a2, b2⟩, ⟨a3, b3⟩⟩ := q
  exact ⟨t1, t2, t3, ⟨(a1.moved hvm).kept hq, (b1.moved hvm).kept hq⟩, ⟨(a2.moved hvm).kept hq, (b2.moved hvm).kept hq⟩, ⟨(a3.moved hvm).kept hq, (b3.moved hvm).kept hq⟩⟩
def nb_R (d : Nat) : Room := { frames := d, cells := 0, slots := 0, locals := 40 * d }
def nb_Pc (D : va_G) (ad : Nat → Nat) (ca : Nat → ClassId) (b0 : Nat) (M N : nb_M) (U : State) : Prop := va_P D vwCl (nb_w ad ca M N) U.heap ∧ nb_K D ca U ∧ nb_Z b0 U U.heap
def nb_Qc (D : va_G) (ad : Nat → Nat) (ca : Nat → ClassId) (b0 : Nat) (rv : Option Value) (M N : nb_M) (st : State) (oc : Outcome) (t : State) : Prop := oc = .returned rv ∧ va_P D vwCl (nb_w ad ca M N) t.heap ∧ va_F (fun q => b0 ≤ q) st t
/-- a contract: from memories M, N the method answers rv and leaves M', N' -/
def nb_C (l : Launch) (D : va_G) (ad : Nat → Nat) (ca : Nat → ClassId) (b0 : Nat) (y : MethodName) (ws : List Cond) (d : Nat) (av : List Value) (M N : nb_M) (rv : Option Value) (M' N' : nb_M) : Prop :=
  Met l y ws (nb_R d) (va_Pc av (nb_Pc D ad ca b0 M N)) (fun _ => nb_Qc D ad ca b0 rv M' N') 0 0 (fun q => b0 ≤ q)
def nb_Q (below : List Frame) (args : Array Value) (s : State) (D : va_G) (ad : Nat → Nat) (ca : Nat → ClassId) (b0 : Nat) (rv : Option Value) (M' N' : nb_M) : State → Prop := MQ below (fun _ => nb_Qc D ad ca b0 rv M' N') args s 0 0 (fun q => b0 ≤ q)
/-- what is fixed in a walk -/
def nb_X (p : Program) (s : State) (m : MethodId) (args : Array Value) (meth : Method) (c : Code) (cc : ByteArray) (nL : Nat) (own : String) (ret : Option FieldType) (Ts : List Cond) (D : va_G) (ca : Nat → ClassId) (b0 : Nat) : Prop :=
  p.tables.exec = Jvm.exec ∧ c.code = cc ∧ c.maxLocals = nL ∧ s.vm.findClass own = some m.cls ∧ (∀ w ∈ Ts, w.before args s = true) ∧ meth.sig.returnType = ret ∧ meth.locks = false ∧ nb_K D ca s ∧ nb_Z b0 s s.heap
theorem nb_of {l : Launch} {D : va_G} {ad : Nat → Nat} {ca : Nat → ClassId} {b0 d maxL : Nat} {y : MethodName} {ws ws' : List Cond} {av : List Value} {M N M' N' : nb_M} {rv : Option Value} {cc : ByteArray} {ret : Option FieldType} {own : String} (hy : plainName y.cls = true) (hc : y.cls = own) (hw : ws = Cond.code y cc maxL ret :: ws') (hn : (lg_sl av).length ≤ maxL)
    (body : ∀ p e s m args below meth c ls, nb_X p s m args meth c cc maxL own ret ws D ca b0 → va_P D vwCl (nb_w ad ca M N) s.heap → va_S (fun q => b0 ≤ q) s.heap s.heap [] → lv_has ls maxL (lv_args 0 av) → W p l e (nb_R d) s m args below meth c s.heap [] 0 0 (nb_Q below args s D ad ca b0 rv M' N') (F0 m 0 ls [])) : nb_C l D ad ca b0 y ws d av M N rv M' N' := by
  refine Met.ofW (cc := cc) (maxL := maxL) (ret := ret) hy hw ?_
  intro p e s m args below meth c s₁ B hml hv
  obtain ⟨rfl, hP, hK, hZ⟩ := hv
  have hown : s.vm.findClass own = some m.cls := by rw [← hc]; exact findClass_of_methodNamed B.named
  rw [lg_entry_eq]
  exact body p e s m _ below meth c _ ⟨B.exec, B.bytes, hml, hown, atoms_spec (ws := ws) B.pre, B.returns, B.notSynchronized, hK, hZ⟩ hP va_S.rf (lv_entry av hn)
section NBL
variable {p : Program} {l : Launch} {e : Env} {R : Room} {s : State} {m : MethodId} {args : Array Value} {below : List Frame} {meth : Method} {c : Code} {H : Heap} {locs : List Loc} {Q : State → Prop}
variable {cc : ByteArray} {pc nL b0 : Nat} {ls : Array Slot} {rest : List Value} {D : va_G} {ad : Nat → Nat} {ca : Nat → ClassId} {M N M' N' : nb_M} {rv : Option Value} {Ts : List Cond} {own : String} {ret : Option FieldType}
theorem nb_run {st0 : List Value} {a : Array Value} (hr : va_Run p l e R s m args below meth c H locs 0 0 0 0 (F0 m pc ls st0) rest (fun st oc t => nb_Qc D ad ca b0 rv M' N' st oc t) (fun q => b0 ≤ q)) (hS : va_S (fun q => b0 ≤ q) s.heap H locs)
    (kk : ∀ (H1 : Heap) (locs1 : List Loc), va_P D vwCl (nb_w ad ca M' N') H1 → va_S (fun q => b0 ≤ q) s.heap H1 locs1 → W p l e R s m args below meth c H1 locs1 0 0 Q (F0 m (pc + 3) ls (rv.toList ++ rest))) : W p l e R s m args below meth c H locs 0 0 Q (F0 m pc ls st0) := by
  intro T hT X
  obtain ⟨v, st₀, t, T', L, h0, X', hL, e1, e2, ⟨hv, hP, hz, hk⟩, st⟩ := hr T hT X
  cases hv
  rw [h0] at hz hk
  obtain ⟨t2, a1, b1⟩ := kk T'.heap (locs ++ L) (by rw [e1]; exact hP) ⟨Nat.le_trans hS.1 (by rw [e1]; exact hz), fun q h1 h2 => by rw [e1, hk q (Nat.lt_of_lt_of_le h1 hS.1) h2]; exact hS.2.1 q h1 h2, fun q hq => by
      rcases List.mem_append.mp hq with h | h
      · exact hS.2.2 q h
      · exact hL q h⟩ T' rfl X'
  exact ⟨t2, st t2 a1, b1⟩
theorem nb_blind {av : List Value} : FrameBlind (va_Pc av (nb_Pc D ad ca b0 M N)) := by
  intro a U g mk q
  obtain ⟨q0, q1, q2, q3⟩ := q
  exact ⟨q0, q1, nb_K.same (u := U) (U := U.calling g mk a) rfl q2, nb_Z.go (u := U) (U := U.calling g mk a) (Vm.Alike.refl U.vm) (fun _ _ _ => rfl) q3⟩
theorem nb_pre {av : List Value} (hK : nb_K D ca s) (hZ : nb_Z b0 s s.heap) (hP : va_P D vwCl (nb_w ad ca M N) H) (hS : va_S (fun q => b0 ≤ q) s.heap H locs) (U : State) (hU : U.heap = H) (hW : s.WarmedH U.vm) : va_Pc av (nb_Pc D ad ca b0 M N) av.toArray U :=
  ⟨rfl, by show va_P _ _ _ U.heap; rw [hU]; exact hP, nb_K.warm hW hK, nb_Z.go hW.alike (fun q h1 h2 => by rw [hU]; exact hS.2.1 q h1 h2) hZ⟩
theorem nb_callV {y : MethodName} {ws ws' : List Cond} {bytes : ByteArray} {maxL d1 d2 index n ci q0 a : Nat} {rt : Option FieldType} {C : String} {As st0 : List Value} {fs : List Value} {r : vw_C} (hx : p.tables.exec = Jvm.exec) (hb : c.code = cc) (hml : c.maxLocals = nL) (hown : s.vm.findClass own = some m.cls) (hts : ∀ w ∈ Ts, w.before args s = true) (hK : nb_K D ca s) (hZ : nb_Z b0 s s.heap)
    (hP : va_P D vwCl (nb_w ad ca M N) H) (hS : va_S (fun q => b0 ≤ q) s.heap H locs) (hC : nb_C l D ad ca b0 y ws d1 (.ref a :: As) M N rv M' N') (hG : GoodIn Ts (wsV own index C y ws)) (hw : ws = Cond.code y bytes maxL rt :: ws')
    (hd : y.cls = C ∧ y.cls ≠ "java/lang/invoke/MethodHandle" ∧ y.cls ≠ "java/lang/invoke/VarHandle" ∧ (parseMethodDescriptor y.desc).map (fun d => d.parameters.length) = some n) (hR : d1 + 1 ≤ d2 ∧ 8 + (maxL + 11) + 40 * d1 ≤ 40 * d2) (he : (nb_w ad ca M N)[q0]? = some (a, .inr (ci, fs))) (hci : vwCl[ci]? = some r) (hrC : r.1 = C)
    (hn : As.length = n) (hsize : ls.size = nL) (hstack : st0 = As.reverse ++ .ref a :: rest) (hcat : (rest.map fun v => v.category).sum ≤ 8) (hdg : decode cc pc = .ok (.invokevirtual index, 3))
    (kk : ∀ (H1 : Heap) (locs1 : List Loc), va_P D vwCl (nb_w ad ca M' N') H1 → va_S (fun q => b0 ≤ q) s.heap H1 locs1 → W p l e (nb_R d2) s m args below meth c H1 locs1 0 0 Q (F0 m (pc + 3) ls (rv.toList ++ rest))) : W p l e (nb_R d2) s m args below meth c H locs 0 0 Q (F0 m pc ls st0) := by
  subst hrC
  exact nb_run (a := #[]) (va_runV (As := As) (rest := rest) ⟨hx, hb, hml, hown, hts⟩ hC (cwV n hts hG hw rfl rfl hd hR) ⟨nb_blind, va_recv hK.1 hP hci he, nb_pre hK hZ hP hS⟩ rfl hn hsize hstack (lv_room hcat) hdg ⟨Nat.zero_le _, Nat.zero_le _⟩) hS kk
theorem nb_callS {y : MethodName} {ws ws' : List Cond} {bytes : ByteArray} {maxL d1 d2 index n : Nat} {rt : Option FieldType} {As st0 : List Value} (hx : p.tables.exec = Jvm.exec) (hb : c.code = cc) (hml : c.maxLocals = nL) (hown : s.vm.findClass own = some m.cls) (hts : ∀ w ∈ Ts, w.before args s = true) (hK : nb_K D ca s) (hZ : nb_Z b0 s s.heap)
    (hP : va_P D vwCl (nb_w ad ca M N) H) (hS : va_S (fun q => b0 ≤ q) s.heap H locs) (hC : nb_C l D ad ca b0 y ws d1 As M N rv M' N') (hG : GoodIn Ts (va_wsS own index y ws)) (hw : ws = Cond.code y bytes maxL rt :: ws')
    (hd : y.cls ≠ "java/lang/invoke/MethodHandle" ∧ y.cls ≠ "java/lang/invoke/VarHandle" ∧ (parseMethodDescriptor y.desc).map (fun d => d.parameters.length) = some n) (hR : d1 + 1 ≤ d2 ∧ 8 + (maxL + 11) + 40 * d1 ≤ 40 * d2)
    (hn : As.length = n) (hsize : ls.size = nL) (hstack : st0 = As.reverse ++ rest) (hcat : (rest.map fun v => v.category).sum ≤ 8) (hdg : decode cc pc = .ok (.invokestatic index, 3))
    (kk : ∀ (H1 : Heap) (locs1 : List Loc), va_P D vwCl (nb_w ad ca M' N') H1 → va_S (fun q => b0 ≤ q) s.heap H1 locs1 → W p l e (nb_R d2) s m args below meth c H1 locs1 0 0 Q (F0 m (pc + 3) ls (rv.toList ++ rest))) : W p l e (nb_R d2) s m args below meth c H locs 0 0 Q (F0 m pc ls st0) :=
  nb_run (a := #[]) (va_runS (As := As) (rest := rest) ⟨hx, hb, hml, hown, hts⟩ hC (va_cwS n hts hG hw rfl rfl hd hR) ⟨nb_blind, nb_pre hK hZ hP hS⟩ rfl hn hsize hstack (lv_room hcat) hdg ⟨Nat.zero_le _, Nat.zero_le _⟩) hS kk
theorem nb_callN {y : MethodName} {ws ws' : List Cond} {bytes : ByteArray} {maxL d1 d2 index n : Nat} {rt : Option FieldType} {host : String} {As st0 : List Value} (hx : p.tables.exec = Jvm.exec) (hb : c.code = cc) (hml : c.maxLocals = nL) (hown : s.vm.findClass own = some m.cls) (hts : ∀ w ∈ Ts, w.before args s = true) (hK : nb_K D ca s) (hZ : nb_Z b0 s s.heap)
    (hP : va_P D vwCl (nb_w ad ca M N) H) (hS : va_S (fun q => b0 ≤ q) s.heap H locs) (hC : nb_C l D ad ca b0 y ws d1 As M N rv M' N') (hG : GoodIn Ts ws) (hw : ws = Cond.code y bytes maxL rt :: ws') (hlk : va_Nw (.methodLinkNest own index y host) s) (hini : (Cond.initialized y.cls).before args s = true) (hst : (Cond.static y).before args s = true)
    (hd : y.cls ≠ "java/lang/invoke/MethodHandle" ∧ y.cls ≠ "java/lang/invoke/VarHandle" ∧ (parseMethodDescriptor y.desc).map (fun d => d.parameters.length) = some n) (hR : d1 + 1 ≤ d2 ∧ 8 + (maxL + 11) + 40 * d1 ≤ 40 * d2)
    (hn : As.length = n) (hsize : ls.size = nL) (hstack : st0 = As.reverse ++ rest) (hcat : (rest.map fun v => v.category).sum ≤ 8) (hdg : decode cc pc = .ok (.invokestatic index, 3))
    (kk : ∀ (H1 : Heap) (locs1 : List Loc), va_P D vwCl (nb_w ad ca M' N') H1 → va_S (fun q => b0 ≤ q) s.heap H1 locs1 → W p l e (nb_R d2) s m args below meth c H1 locs1 0 0 Q (F0 m (pc + 3) ls (rv.toList ++ rest))) : W p l e (nb_R d2) s m args below meth c H locs 0 0 Q (F0 m pc ls st0) :=
  nb_run (a := #[]) (va_runSN (As := As) (rest := rest) ⟨hx, hb, hml, hown, hts⟩ hC ⟨va_cnB n hts hG hw rfl rfl hlk hini hd hR, hst, trivial⟩ ⟨nb_blind, nb_pre hK hZ hP hS⟩ rfl hn hsize hstack (lv_room hcat) hdg ⟨Nat.zero_le _, Nat.zero_le _⟩) hS kk
/-! a field, a place of a row: written -/
theorem nb_put {C : String} {T : u_T} {NN ci index q0 a : Nat} (hx : p.tables.exec = Jvm.exec) (hb : c.code = cc) (had : nb_AD ad b0) (hts : ∀ w ∈ Ts, w.before args s = true) (hin : ∀ w ∈ u_ws C T NN, w ∈ Ts) (ty0 : Nat → FieldType) (hty : ∀ k, k < NN → parseFieldDescriptor (T k).2.2.1 = some (ty0 k)) (hnm : ∀ a, a < NN → ∀ b, b < NN → a ≠ b → (T a).2.1 ≠ (T b).2.1) (hown : s.vm.findClass own = some m.cls) (hK : nb_K D ca s)
    (hP : va_P D vwCl (nb_w ad ca M N) H) (hS : va_S (fun q => b0 ≤ q) s.heap H locs) {fs : List Value} (he : (nb_w ad ca M N)[q0]? = some (a, .inr (ci, fs))) (hc : vwCl[ci]? = some (C, T, NN)) (k : Nat) (hk : k < NN) (hlink : (Cond.fieldLink own index (T k).1 (T k).2.1 (T k).2.2.1).before args s = true) (hfin : (T k).2.2.2 = false) {ty : FieldType} {v : Value} (hd : parseFieldDescriptor (T k).2.2.1 = some ty) (hn : narrow ty v = v) (hfit : fits ty v = true) (hl : k < fs.length)
    (hset : (nb_w ad ca M N).set q0 (a, .inr (ci, fs.set k v)) = nb_w ad ca M' N') (hdg : decode cc pc = .ok (.putfield index, 3))
    (kk : ∀ (H1 : Heap) (locs1 : List Loc), va_P D vwCl (nb_w ad ca M' N') H1 → va_S (fun q => b0 ≤ q) s.heap H1 locs1 → W p l e R s m args below meth c H1 locs1 0 0 Q (F0 m (pc + 3) ls rest)) : W p l e R s m args below meth c H locs 0 0 Q (F0 m pc ls (v :: .ref a :: rest)) :=
  va_put hx hb hts hin ty0 hty hnm hown hK.1 hP (nb_D had) hS q0 he hc k hk hlink (fun _ h => h) hfin hd hn hfit hl hdg (fun H1 locs1 hP1 _ hS1 => kk H1 locs1 (by rw [← hset]; exact hP1) hS1)
theorem nb_iast {q0 a n : Nat} {f : Nat → Int32} (hx : p.tables.exec = Jvm.exec) (hb : c.code = cc) (had : nb_AD ad b0) (hK : nb_K D ca s) (hP : va_P D vwCl (nb_w ad ca M N) H) (hS : va_S (fun q => b0 ≤ q) s.heap H locs) (he : (nb_w ad ca M N)[q0]? = some (a, .inl (ca 0, n, .inl f))) {i x : Int32} (hin : vp_in i n) (hset : (nb_w ad ca M N).set q0 (a, .inl (ca 0, n, .inl (upd f i.toNatClampNeg x))) = nb_w ad ca M' N') (hdg : decode cc pc = .ok (.iastore, 1))
    (kk : ∀ (H1 : Heap) (locs1 : List Loc), va_P D vwCl (nb_w ad ca M' N') H1 → va_S (fun q => b0 ≤ q) s.heap H1 locs1 → W p l e R s m args below meth c H1 locs1 0 0 Q (F0 m (pc + 1) ls rest)) : W p l e R s m args below meth c H locs 0 0 Q (F0 m pc ls (.int x :: .int i :: .ref a :: rest)) :=
  va_iast hx hb hK.1 hP (nb_D had) hS q0 0 he rfl hin hdg (fun H1 locs1 hP1 _ hS1 => kk H1 locs1 (by rw [← hset]; exact hP1) hS1)
theorem nb_last {q0 a n : Nat} {f : Nat → Int64} (hx : p.tables.exec = Jvm.exec) (hb : c.code = cc) (had : nb_AD ad b0) (hK : nb_K D ca s) (hP : va_P D vwCl (nb_w ad ca M N) H) (hS : va_S (fun q => b0 ≤ q) s.heap H locs) (he : (nb_w ad ca M N)[q0]? = some (a, .inl (ca 1, n, .inr (.inl f)))) {i : Int32} {x : Int64} (hin : vp_in i n) (hset : (nb_w ad ca M N).set q0 (a, .inl (ca 1, n, .inr (.inl (vp_updL f i.toNatClampNeg x)))) = nb_w ad ca M' N') (hdg : decode cc pc = .ok (.lastore, 1))
    (kk : ∀ (H1 : Heap) (locs1 : List Loc), va_P D vwCl (nb_w ad ca M' N') H1 → va_S (fun q => b0 ≤ q) s.heap H1 locs1 → W p l e R s m args below meth c H1 locs1 0 0 Q (F0 m (pc + 1) ls rest)) : W p l e R s m args below meth c H locs 0 0 Q (F0 m pc ls (.long x :: .int i :: .ref a :: rest)) :=
  va_last hx hb hK.1 hP (nb_D had) hS q0 1 he rfl hin hdg (fun H1 locs1 hP1 _ hS1 => kk H1 locs1 (by rw [← hset]; exact hP1) hS1)
theorem nb_copy {q0 q1 a0 a n0 n1 index : Nat} {f g : Nat → Int32} (hx : p.tables.exec = Jvm.exec) (hb : c.code = cc) (hml : c.maxLocals = nL) (hsize : ls.size = nL) (had : nb_AD ad b0) (hown : s.vm.findClass own = some m.cls) (hlink : (Cond.methodLink own index arraycopyName).before args s = true) (hnat : (Cond.native arraycopyName).before args s = true) (hstat : (Cond.static arraycopyName).before args s = true) (hini : (Cond.initialized "java/lang/System").before args s = true)
    (hK : nb_K D ca s) (hP : va_P D vwCl (nb_w ad ca M N) H) (hS : va_S (fun q => b0 ≤ q) s.heap H locs) (ha0 : (nb_w ad ca M N)[q0]? = some (a0, .inl (ca 0, n0, .inl f))) (ha1 : (nb_w ad ca M N)[q1]? = some (a, .inl (ca 0, n1, .inl g))) {sp dp n : Int32} {d : Nat} (hR : 1 ≤ d) (hcat : (rest.map fun v => v.category).sum ≤ 8)
    (hin : ¬ (sp < 0 ∨ dp < 0 ∨ n < 0 ∨ n0 < sp.toNatClampNeg + n.toNatClampNeg ∨ n1 < dp.toNatClampNeg + n.toNatClampNeg))
    (hset : (nb_w ad ca M N).set q1 (a, .inl (ca 0, n1, .inl (va_cpy f g sp.toNatClampNeg dp.toNatClampNeg n.toNatClampNeg))) = nb_w ad ca M' N') (hdg : decode cc pc = .ok (.invokestatic index, 3))
    (kk : ∀ (H1 : Heap) (locs1 : List Loc), va_P D vwCl (nb_w ad ca M' N') H1 → va_S (fun q => b0 ≤ q) s.heap H1 locs1 → W p l e (nb_R d) s m args below meth c H1 locs1 0 0 Q (F0 m (pc + 3) ls rest)) : W p l e (nb_R d) s m args below meth c H locs 0 0 Q (F0 m pc ls (.int n :: .int dp :: .ref a :: .int sp :: .ref a0 :: rest)) := by
  simp only [not_or, Nat.not_lt] at hin
  obtain ⟨h1, h2, h3, h4, h5⟩ := hin
  refine va_copyi hx hb (by rw [hml, hsize]) hown hlink hnat hstat hini hK.1 hP (nb_D had) hS q0 q1 0 0 ha0 ha1 rfl rfl rfl h1 h2 h3 h4 h5 (fun _ _ => rfl) hR ?_ hdg (fun H1 locs1 hP1 _ hS1 => kk H1 locs1 (by rw [← hset]; exact hP1) hS1)
  have hw : nativeFrameWords "java/lang/System" "arraycopy" 5 = 7 := by decide +kernel
  rw [hw]
  show _ ≤ 40 * d
  omega
theorem nb_ald {q0 t0 a n t : Nat} {cA : ClassId} {E : String} {f : Nat → Option Nat} (hx : p.tables.exec = Jvm.exec) (hb : c.code = cc) (hK : nb_K D ca s) (hP : va_P D vwCl (nb_w ad ca M N) H) (he : (nb_w ad ca M N)[q0]? = some (a, .inl (cA, n, .inr (.inr (.inr (.inr f)))))) (ht : (nb_tys ca)[t0]? = some (cA, .object E)) {x v : Int32} (ex : x = v) (hin : vp_in v n) (hv : f v.toNatClampNeg = some t) (hdg : decode cc pc = .ok (.aaload, 1))
    (kk : W p l e R s m args below meth c H locs 0 0 Q (F0 m (pc + 1) ls (.ref t :: rest))) : W p l e R s m args below meth c H locs 0 0 Q (F0 m pc ls (.int x :: .ref a :: rest)) := by
  subst ex
  refine va_aldq hx hb hK.1 hP q0 t0 he ht hin hdg ?_
  rw [hv]
  exact kk
/-! ends -/
theorem nb_iret {v : Int32} (hx : p.tables.exec = Jvm.exec) (hb : c.code = cc) (hr : meth.sig.returnType = some .int) (hlk : meth.locks = false) (hP : va_P D vwCl (nb_w ad ca M N) H) (hS : va_S (fun q => b0 ≤ q) s.heap H locs) (hdg : decode cc pc = .ok (.ireturn, 1)) : W p l e R s m args below meth c H locs 0 0 (nb_Q below args s D ad ca b0 (some (.int v)) M N) (F0 m pc ls [.int v]) :=
  W.iret (v := v) hx hb hr (fun t ht _ => ⟨rfl, by rw [ht]; exact hP, hS.F ht⟩) hS.2.2 hdg hlk
theorem nb_zret {v : Int32} (hv : v = 0 ∨ v = 1) (hx : p.tables.exec = Jvm.exec) (hb : c.code = cc) (hr : meth.sig.returnType = some .boolean) (hlk : meth.locks = false) (hP : va_P D vwCl (nb_w ad ca M N) H) (hS : va_S (fun q => b0 ≤ q) s.heap H locs) (hdg : decode cc pc = .ok (.ireturn, 1)) : W p l e R s m args below meth c H locs 0 0 (nb_Q below args s D ad ca b0 (some (.int v)) M N) (F0 m pc ls [.int v]) :=
  W.zret (v := v) hx hb hr (by rcases hv with rfl | rfl <;> rfl) (fun t ht _ => ⟨rfl, by rw [ht]; exact hP, hS.F ht⟩) hS.2.2 hdg hlk
theorem nb_lret {v : Int64} (hx : p.tables.exec = Jvm.exec) (hb : c.code = cc) (hr : meth.sig.returnType = some .long) (hlk : meth.locks = false) (hP : va_P D vwCl (nb_w ad ca M N) H) (hS : va_S (fun q => b0 ≤ q) s.heap H locs) (hdg : decode cc pc = .ok (.lreturn, 1)) : W p l e R s m args below meth c H locs 0 0 (nb_Q below args s D ad ca b0 (some (.long v)) M N) (F0 m pc ls [.long v]) :=
  W.lret (v := v) hx hb hr (fun t ht _ => ⟨rfl, by rw [ht]; exact hP, hS.F ht⟩) hS.2.2 hdg hlk
theorem nb_vret (hx : p.tables.exec = Jvm.exec) (hb : c.code = cc) (hr : meth.sig.returnType = none) (hlk : meth.locks = false) (hP : va_P D vwCl (nb_w ad ca M N) H) (hS : va_S (fun q => b0 ≤ q) s.heap H locs) (hdg : decode cc pc = .ok (.return_, 1)) : W p l e R s m args below meth c H locs 0 0 (nb_Q below args s D ad ca b0 none M N) (F0 m pc ls []) :=
  W.vret hx hb hr (fun t ht _ => ⟨rfl, by rw [ht]; exact hP, hS.F ht⟩) hS.2.2 hdg hlk
/-! switches: the target by a list of keys -/
def nb_sel : List (Int32 × Nat) → Nat → Int32 → Nat
  | [], d, _ => d
  | q :: ks, d, x => if x = q.1 then q.2 else nb_sel ks d x
theorem nb_split {k : Int32} {t d : Nat} {ks : List (Int32 × Nat)} {x : Int32} {cells slots : Nat} (kt : x = k → W p l e R s m args below meth c H locs cells slots Q (F0 m t ls rest)) (kf : ¬ x = k → W p l e R s m args below meth c H locs cells slots Q (F0 m (nb_sel ks d x) ls rest)) : W p l e R s m args below meth c H locs cells slots Q (F0 m (nb_sel ((k, t) :: ks) d x) ls rest) := by
  by_cases h : x = k
  · have e1 : nb_sel ((k, t) :: ks) d x = t := by simp [nb_sel, h]
    rw [e1]; exact kt h
  · have e1 : nb_sel ((k, t) :: ks) d x = nb_sel ks d x := by simp [nb_sel, h]
    rw [e1]; exact kf h
def nb_tok (pc : Nat) (dflt lo hi : Int) (offs : Array Int) (ks : List (Int32 × Nat)) (d : Nat) : Bool :=
  decide ((pc : Int) + dflt = (d : Int)) && decide (-2147483648 ≤ lo) && decide (hi ≤ 2147483647) && ks.all (fun q => decide (lo ≤ q.1.toInt) && decide (q.1.toInt ≤ hi)) && (List.range (hi - lo + 1).toNat).all (fun i => match offs[i]? with
    | some o => decide ((pc : Int) + o = (nb_sel ks d (Int32.ofInt (lo + i)) : Int))
    | none => false)
theorem nb_sel_out {ks : List (Int32 × Nat)} {d : Nat} {x : Int32} (h : ∀ q ∈ ks, x ≠ q.1) : nb_sel ks d x = d := by
  induction ks with
  | nil => rfl
  | cons q ks ih =>
    have h1 : ¬ x = q.1 := h q List.mem_cons_self
    simp only [nb_sel, if_neg h1]
    exact ih (fun r hr => h r (List.mem_cons_of_mem _ hr))
theorem nb_tsw {dflt lo hi : Int} {offs : Array Int} {len : Nat} {x : Int32} (ks : List (Int32 × Nat)) (d : Nat) {cells slots : Nat} (hx : p.tables.exec = Jvm.exec) (hb : c.code = cc) (hdg : decode cc pc = .ok (.tableswitch dflt lo hi offs, len)) (hok : nb_tok pc dflt lo hi offs ks d = true) (kk : W p l e R s m args below meth c H locs cells slots Q (F0 m (nb_sel ks d x) ls rest)) : W p l e R s m args below meth c H locs cells slots Q (F0 m pc ls (.int x :: rest)) := by
  simp only [nb_tok, Bool.and_eq_true, decide_eq_true_eq, List.all_eq_true, List.mem_range] at hok
  obtain ⟨⟨⟨⟨h1, h2⟩, h3⟩, h4⟩, h5⟩ := hok
  by_cases ho : x.toInt < lo ∨ hi < x.toInt
  · refine lv_tableOut hx hb hdg ho h1 ?_
    rw [nb_sel_out (fun q hq he => by have := h4 q hq; rw [he] at ho; omega)] at kk
    exact kk
  · have hlo : ¬ x.toInt < lo := fun h => ho (Or.inl h)
    have hhi : ¬ hi < x.toInt := fun h => ho (Or.inr h)
    have hi1 : (x.toInt - lo).toNat < (hi - lo + 1).toNat := by omega
    have h6 := h5 _ hi1
    have hxe : Int32.ofInt (lo + ((x.toInt - lo).toNat : Nat)) = x := by
      rw [show lo + (((x.toInt - lo).toNat : Nat) : Int) = x.toInt by omega]
      exact Int32.ofInt_toInt x
    cases hof : offs[(x.toInt - lo).toNat]? with
    | none => rw [hof] at h6; cases h6
    | some o =>
      rw [hof] at h6
      have h7 : (pc : Int) + o = (nb_sel ks d x : Int) := by
        have := of_decide_eq_true h6
        rw [hxe] at this
        exact this
      exact lv_tableIn hx hb hdg hlo hhi hof h7 kk
def nb_lok (pc : Nat) : List (Int × Int) → List (Int32 × Nat) → Bool
  | [], [] => true
  | a :: ps, b :: ks => decide (b.1.toInt = a.1) && (decide ((pc : Int) + a.2 = (b.2 : Int)) && nb_lok pc ps ks)
  | _, _ => false
theorem nb_lgo {pc d : Nat} {dflt : Int} (hd : (pc : Int) + dflt = (d : Int)) : ∀ (ps : List (Int × Int)) (ks : List (Int32 × Nat)), nb_lok pc ps ks = true → ∀ x : Int32, (pc : Int) + Op.lookupswitch.offset ps dflt x.toInt = (nb_sel ks d x : Int)
  | [], [], _, _ => hd
  | [], _ :: _, h, _ => by cases h
  | _ :: _, [], h, _ => by cases h
  | (a, o) :: ps, (b, t) :: ks, h, x => by
    simp only [nb_lok, Bool.and_eq_true, decide_eq_true_eq] at h
    obtain ⟨h1, h2, h3⟩ := h
    have ih := nb_lgo hd ps ks h3 x
    show (pc : Int) + (if a = x.toInt then o else Op.lookupswitch.offset ps dflt x.toInt) = ((if x = b then t else nb_sel ks d x : Nat) : Int)
    by_cases hx : x = b
    · subst hx
      rw [if_pos h1.symm, if_pos rfl]; exact h2
    · have hn : ¬ a = x.toInt := fun e => hx (Int32.toInt_inj.mp (by rw [h1]; exact e.symm))
      rw [if_neg hn, if_neg hx]; exact ih
theorem nb_lsw {dflt : Int} {ps : Array (Int × Int)} {len : Nat} {x : Int32} (ks : List (Int32 × Nat)) (d : Nat) {cells slots : Nat} (hx : p.tables.exec = Jvm.exec) (hb : c.code = cc) (hdg : decode cc pc = .ok (.lookupswitch dflt ps, len)) (hp : (ps.toList.zip (ps.toList.drop 1)).all (fun (a, next) => a.1 < next.1) = true) (hd : (pc : Int) + dflt = (d : Int)) (hok : nb_lok pc ps.toList ks = true) (kk : W p l e R s m args below meth c H locs cells slots Q (F0 m (nb_sel ks d x) ls rest)) : W p l e R s m args below meth c H locs cells slots Q (F0 m pc ls (.int x :: rest)) :=
  lv_lookup hx hb hdg hp rfl (nb_lgo hd ps.toList ks hok x) kk
end NBL
/-! the printed functions: partial and named parts -/
def nb_o {α γ : Type} (x : Option α) (k : α → Option γ) : Option γ := match x with
  | none => none
  | some a => k a
def nb_p {α β γ : Type} (x : Option (α × β)) (k : α → β → Option γ) : Option γ := match x with
  | none => none
  | some a => k a.1 a.2
def nb_q {α β γ : Type} (x : α × β) (k : α → β → γ) : γ := k x.1 x.2
def nb_n {α γ : Type} (x : α) (k : α → γ) : γ := k x
theorem nb_t {c : Prop} [Decidable c] {α : Type} {a b r : α} (hc : c) (h : (if c then a else b) = r) : a = r := by rw [if_pos hc] at h; exact h
theorem nb_f {c : Prop} [Decidable c] {α : Type} {a b r : α} (hc : ¬ c) (h : (if c then a else b) = r) : b = r := by rw [if_neg hc] at h; exact h
theorem nb_c {c : Prop} [Decidable c] {α : Type} {a : Option α} {r : α} (h : (if c then none else a) = some r) : ¬ c ∧ a = some r := by
  by_cases hc : c
  · rw [if_pos hc] at h; cases h
  · rw [if_neg hc] at h; exact ⟨hc, h⟩
theorem nb_oE {α γ : Type} {x : Option α} {k : α → Option γ} {r : γ} (h : nb_o x k = some r) : ∃ a, x = some a ∧ k a = some r := by
  cases x with
  | none => cases h
  | some a => exact ⟨a, rfl, h⟩
theorem nb_pE {α β γ : Type} {x : Option (α × β)} {k : α → β → Option γ} {r : γ} (h : nb_p x k = some r) : ∃ a b, x = some (a, b) ∧ k a b = some r := by
  cases x with
  | none => cases h
  | some a => exact ⟨a.1, a.2, rfl, h⟩
theorem nb_qE {α β γ : Type} {x : α × β} {k : α → β → γ} {r : γ} (h : nb_q x k = r) : ∃ a b, x = (a, b) ∧ k a b = r := ⟨x.1, x.2, rfl, h⟩
theorem nb_nE {α γ : Type} {x : α} {k : α → γ} {r : γ} (h : nb_n x k = r) : ∃ a, x = a ∧ k a = r := ⟨x, rfl, h⟩
theorem nb_nA {α γ : Type} {x y : α} {k : α → γ} {r : γ} (e : y = x) (h : nb_n x k = r) : k y = r := by subst e; exact h
theorem nb_lit {i : Int32} {n : Nat} (h : (!decide (i < 0) && decide (i.toNatClampNeg < n)) = true) : vp_in i n := by
  simp only [Bool.and_eq_true, Bool.not_eq_true', decide_eq_false_iff_not, decide_eq_true_eq] at h
  exact fun q => q.elim h.1 (fun w => absurd h.2 (by omega))
theorem nb_rm {a b m : Nat} (h : a + 1 ≤ b) (hm : m ≤ 12) : a + 1 ≤ b ∧ 8 + (m + 11) + 40 * a ≤ 40 * b := ⟨h, by omega⟩
theorem nb_e1 {α : Type} {a r : α} (h : some a = some r) : r = a := (Option.some.inj h).symm
theorem nb_e2 {α β : Type} {a r : α} {b t : β} (h : some (a, b) = some (r, t)) : r = a ∧ t = b := ⟨(Prod.mk.inj (Option.some.inj h)).1.symm, (Prod.mk.inj (Option.some.inj h)).2.symm⟩
theorem nb_e3 {α : Type} {a r : α} (h : a = r) : r = a := h.symm
theorem nb_e4 {α β : Type} {a r : α} {b t : β} (h : (a, b) = (r, t)) : r = a ∧ t = b := ⟨(Prod.mk.inj h).1.symm, (Prod.mk.inj h).2.symm⟩
