/-! BASE: the cells of a fresh object, what every contract here carries, and rows for the few kinds of calls that this claim needs -/
abbrev Ioob : String := "java/lang/IndexOutOfBoundsException"
abbrev Iarg : String := "java/lang/IllegalArgumentException"
abbrev Istt : String := "java/lang/IllegalStateException"
abbrev Nsee : String := "java/util/NoSuchElementException"
abbrev Uoex : String := "java/lang/UnsupportedOperationException"
abbrev Upp : List String := ["java/lang/RuntimeException", "java/lang/Exception"]
def exL : List String := [Ioob, Iarg, Istt, Uoex, Nsee]
def strL : List (Nat × String) := [(36, "the node is not down"), (62, "a number of bytes below 0"), (65, "the node is down"), (71, "the node is down or primary"), (101, "the node is down, or both are one"), (136, "no such standby"), (194, "a number of records below 1"), (196, "the node is no replica"), (115, "no such key"), (201, "no such byte"), (210, "neither memory nor disk"), (212, "nothing that is told of a node"), (218, "nothing that is told of a link"), (220, "no such node"), (225, "the node is no primary"), (230, "not a primary and a replica of it"), (232, "no message")]
def SK (U : State) : Prop := ∀ q ∈ strL, ∃ a, vk_R RX3 q.1 q.2 a U
def ncL : List (String × String) := [(Iarg, Ioob), (Iarg, Istt), (Iarg, Uoex), (Iarg, Nsee), (Istt, Ioob), (Istt, Iarg), (Istt, Uoex), (Istt, Nsee), (Ioob, Iarg), (Ioob, Istt), (Ioob, Uoex), (Ioob, Nsee), (Nsee, Ioob), (Nsee, Iarg), (Nsee, Istt), (Nsee, Uoex)]
def deL : List String := ["java/lang/RuntimeException", "java/lang/Exception", "java/lang/Throwable"]
def XB (U : State) : Prop := (∀ n ∈ deL, va_Nw (.declares (Bundle.initS n)) U) ∧ (∀ n ∈ exL, va_Nw (.castable n n) U) ∧ (∀ p ∈ ncL, va_Nc p.1 p.2 U)
def NB (U : State) : Prop := va_Nw (.methodLinkNest RX3 15 yX1_init "ShippedLog") U ∧ va_Nw (.methodLinkNest RX3 22 yX2_init "ShippedLog") U ∧ va_Nw (.methodLinkNest RX1 11 yX0_init "ShippedLog") U ∧ va_AO "ShippedLog$Node" U ∧ va_AO "ShippedLog$Way" U
def ZZ (A : Nat → Prop) (U : State) (H : Heap) : Prop := vx_Zq Bundle.tN "UNASSIGNED_STACK" Bundle.steD A U H ∧ vx_Zq Bundle.tN "SUPPRESSED_SENTINEL" Bundle.listD A U H
/-- the classes of the arrays: of nodes, of ways, bytes, ints, booleans, longs -/
abbrev pT (k : Nat → ClassId) : List (ClassId × FieldType) := [(k 0, .object "ShippedLog$Node"), (k 1, .object "ShippedLog$Way"), (k 2, .byte), (k 3, .int), (k 4, .boolean), (k 5, .long)]
/-- what every contract carries of the machine -/
def IV (G : va_G) (k : Nat → ClassId) (A : Nat → Prop) (U : State) : Prop := va_K G vwCl (pT k) U ∧ ZZ A U U.heap ∧ SK U ∧ XB U ∧ NB U
theorem SK.warm {s U : State} (hW : s.WarmedH U.vm) (h : SK s) : SK U := fun q hq => by
  obtain ⟨a, ha⟩ := h q hq
  exact ⟨a, ha.warm hW⟩
theorem XB.warm {s U : State} (hW : s.WarmedH U.vm) (h : XB s) : XB U := ⟨fun n hn => va_Nw.warmD hW (h.1 n hn), fun n hn => va_Nw.warmC hW (h.2.1 n hn), fun p hp => va_Nc.moved hW.alike (h.2.2 p hp)⟩
theorem NB.warm {s U : State} (hW : s.WarmedH U.vm) (h : NB s) : NB U := ⟨va_Nw.warmM hW h.1, va_Nw.warmM hW h.2.1, va_Nw.warmM hW h.2.2.1, va_AO.moved hW.alike h.2.2.2.1, va_AO.moved hW.alike h.2.2.2.2⟩
theorem ZZ.kept {A : Nat → Prop} {s : State} {H H1 : Heap} (h : ZZ A s H) (hq : ∀ a : Nat, a < H.size → ¬ A a → H1[a]? = H[a]?) : ZZ A s H1 := ⟨h.1.kept hq, h.2.kept hq⟩
theorem ZZ.moved {A : Nat → Prop} {s U : State} {H : Heap} (hvm : s.vm.Alike U.vm) (h : ZZ A s H) : ZZ A U H := ⟨vx_Zq.moved hvm h.1, vx_Zq.moved hvm h.2⟩
theorem ZZ.narrow {A B : Nat → Prop} {s : State} {H : Heap} (h : ZZ A s H) (hAB : ∀ q, B q → A q) : ZZ B s H := ⟨h.1.narrow hAB, h.2.narrow hAB⟩
/-- for a callee that starts in the heap H -/
theorem IV.go {G : va_G} {k : Nat → ClassId} {A B : Nat → Prop} {s U : State} {H : Heap} {locs : List Loc} (h : IV G k A s) (hS : va_S A s.heap H locs) (hU : U.heap = H) (hW : s.WarmedH U.vm) (hB : ∀ q, B q → A q) : IV G k B U :=
  ⟨va_K.moved hW.alike h.1, by rw [hU]; exact ((h.2.1.kept hS.2.1).moved hW.alike).narrow hB, h.2.2.1.warm hW, h.2.2.2.1.warm hW, h.2.2.2.2.warm hW⟩
theorem IV.blind {G : va_G} {k : Nat → ClassId} {A : Nat → Prop} {U : State} {g : JFrame} {mk : MethodId} {a : Array Value} (h : IV G k A U) : IV G k A (U.calling g mk a) :=
  ⟨va_K.moved (u := U) (Vm.Alike.refl U.vm) h.1, ZZ.moved (s := U) (Vm.Alike.refl U.vm) h.2.1, SK.warm (s := U) (State.WarmedH.refl U) h.2.2.1, XB.warm (s := U) (State.WarmedH.refl U) h.2.2.2.1, NB.warm (s := U) (State.WarmedH.refl U) h.2.2.2.2⟩
-- cells
abbrev eX (nd wy : Nat) : va_E := .inr (3, [.ref nd, .ref wy, .int 0])
abbrev eN (lo : Nat) (r : Int32) : va_E := .inr (1, [.ref lo, .int r, .int 0, .int (-1), .int 0, .int (-1), .int 0, .int 0])
abbrev eL (me di : Nat) : va_E := .inr (0, [.ref me, .ref di, .int 0, .int 0])
abbrev eB (c : ClassId) : va_E := .inl (c, 4096, .inl (fun _ => 0))
abbrev eW (po bb : Nat) : va_E := .inr (2, [.ref po, .ref bb, .int 0, .int 0])
abbrev eQ (c : ClassId) (n : Nat) (f : Nat → Option Nat) : va_E := .inl (c, n, .inr (.inr (.inr (.inr f))))
/-- the first i places of the array of nodes hold fresh nodes -/
def fN (k : Nat → ClassId) (ws : va_W) (f : Nat → Option Nat) (i : Nat) : Prop := ∀ j, j < i → ∃ a lo me di, f j = some a ∧ (a, eN lo 0) ∈ ws ∧ (lo, eL me di) ∈ ws ∧ (me, eB (k 2)) ∈ ws ∧ (di, eB (k 2)) ∈ ws ∧ me ≠ di
def fW (ws : va_W) (g : Nat → Option Nat) (i : Nat) : Prop := ∀ j, j < i → ∃ a po bb, g j = some a ∧ (a, eW po bb) ∈ ws
/-- a fresh object at x -/
def FX (k : Nat → ClassId) (ws : va_W) (x nd wy : Nat) (f g : Nat → Option Nat) : Prop := (x, eX nd wy) ∈ ws ∧ (nd, eQ (k 0) 4 f) ∈ ws ∧ (wy, eQ (k 1) 16 g) ∈ ws ∧ fN k ws f 4 ∧ fW ws g 16
-- what is asked at a start: the world ws, the machine; only what is made may change
abbrev PR (G : va_G) (k : Nat → ClassId) (sz : Nat) (ws : va_W) (As : List Value) : Array Value → State → Prop := va_Pc As (fun U => U.heap.size = sz ∧ va_P G vwCl ws U.heap ∧ IV G k (fun q => sz ≤ q) U)
theorem PR.blind {G : va_G} {k : Nat → ClassId} {sz : Nat} {ws : va_W} {As : List Value} : FrameBlind (PR G k sz ws As) := fun _ _ _ _ q => ⟨q.1, q.2.1, q.2.2.1, q.2.2.2.blind⟩
theorem PR.at {G : va_G} {k : Nat → ClassId} {A : Nat → Prop} {s : State} {H : Heap} {locs : List Loc} {ws : va_W} {As : List Value} (hI : IV G k A s) (hS : va_S A s.heap H locs) (hA : ∀ q, s.heap.size ≤ q → A q) (hP : va_P G vwCl ws H) (U : State) (hU : U.heap = H) (hW : s.WarmedH U.vm) : PR G k H.size ws As As.toArray U :=
  ⟨rfl, by rw [hU], by rw [hU]; exact hP, hI.go hS hU hW (fun q hq => hA q (Nat.le_trans hS.1 hq))⟩
theorem PR.preV {G : va_G} {k : Nat → ClassId} {A : Nat → Prop} {s : State} {H : Heap} {locs : List Loc} {ws : va_W} {As : List Value} {q0 ci b : Nat} {r : vw_C} {fs : List Value} (hI : IV G k A s) (hS : va_S A s.heap H locs) (hA : ∀ q, s.heap.size ≤ q → A q) (hP : va_P G vwCl ws H) (hc : vwCl[ci]? = some r) (he : ws[q0]? = some (b, .inr (ci, fs))) : PreV s H r.1 b (PR G k H.size ws (.ref b :: As)) As :=
  ⟨PR.blind, va_recv hI.1 hP hc he, PR.at hI hS hA hP⟩
theorem PR.preS {G : va_G} {k : Nat → ClassId} {A : Nat → Prop} {s : State} {H : Heap} {locs : List Loc} {ws : va_W} {As : List Value} (hI : IV G k A s) (hS : va_S A s.heap H locs) (hA : ∀ q, s.heap.size ≤ q → A q) (hP : va_P G vwCl ws H) : PreS s H (PR G k H.size ws As) As := ⟨PR.blind, PR.at hI hS hA hP⟩
/-- a callee that needs nothing but a part of the world, and writes nothing -/
abbrev PQ (G : va_G) (k : Nat → ClassId) (ws : va_W) (As : List Value) : Array Value → State → Prop := va_Pc As (fun U => va_P G vwCl ws U.heap ∧ va_K G vwCl (pT k) U)
theorem PQ.blind {G : va_G} {k : Nat → ClassId} {ws : va_W} {As : List Value} : FrameBlind (PQ G k ws As) := fun _ U _ _ q => ⟨q.1, q.2.1, va_K.moved (u := U) (Vm.Alike.refl U.vm) q.2.2⟩
theorem PQ.at {G : va_G} {k : Nat → ClassId} {s : State} {H : Heap} {ws : va_W} {As : List Value} (hK : va_K G vwCl (pT k) s) (hP : va_P G vwCl ws H) (U : State) (hU : U.heap = H) (hW : s.WarmedH U.vm) : PQ G k ws As As.toArray U := ⟨rfl, by rw [hU]; exact hP, va_K.moved hW.alike hK⟩
theorem PQ.preV {G : va_G} {k : Nat → ClassId} {s : State} {H : Heap} {ws : va_W} {As : List Value} {q0 ci b : Nat} {r : vw_C} {fs : List Value} (hK : va_K G vwCl (pT k) s) (hP : va_P G vwCl ws H) (hc : vwCl[ci]? = some r) (he : ws[q0]? = some (b, .inr (ci, fs))) : PreV s H r.1 b (PQ G k ws (.ref b :: As)) As := ⟨PQ.blind, va_recv hK hP hc he, PQ.at hK hP⟩
theorem PQ.preS {G : va_G} {k : Nat → ClassId} {s : State} {H : Heap} {ws : va_W} {As : List Value} (hK : va_K G vwCl (pT k) s) (hP : va_P G vwCl ws H) : PreS s H (PQ G k ws As) As := ⟨PQ.blind, PQ.at hK hP⟩
theorem P0.preS {s : State} {H : Heap} {As : List Value} : PreS s H (va_Pc As (fun _ => True)) As := ⟨fun _ _ _ _ q => q, fun _ _ _ => ⟨rfl, trivial⟩⟩
-- a world that nothing old of it was written
theorem va_P.old {D : va_G} {cl : List vw_C} {ws : va_W} {H H1 : Heap} (hP : va_P D cl ws H) (h : ∀ q : Nat, q < H.size → H1[q]? = H[q]?) : va_P D cl ws H1 := hP.kept (fun k q hk => h q.1 (hP k q hk).lt)
theorem va_P.mem {D : va_G} {cl : List vw_C} {ws ws' : va_W} {H : Heap} (hP : va_P D cl ws H) (h : ∀ q ∈ ws', q ∈ ws) : va_P D cl ws' H := fun k q hk => by
  obtain ⟨i, hi⟩ := List.getElem?_of_mem (h q (List.mem_of_getElem? hk))
  exact hP i q hi
-- always thrown
def XE (E : String) (sz : Nat) : String → State → State → Prop := fun E' st t => E' = E ∧ va_F (fun q => sz ≤ q) st t
abbrev QN : Array Value → State → Outcome → State → Prop := fun _ _ _ _ => False
abbrev QV : Array Value → State → Outcome → State → Prop := fun _ s o t => o = .returned none ∧ t.heap = s.heap
section BRows
variable {p : Program} {l : Launch} {e : Env} {R : Room} {s : State} {m : MethodId} {args : Array Value} {below : List Frame} {meth : Method} {c : Code} {H : Heap} {locs : List Loc} {cells slots : Nat} {Q : State → Prop}
variable {mc ms : Nat} {free : Addr → Prop} {A : Nat → Prop} {a : Array Value} {pc : Nat} {ls : Array Slot} {st0 rest : List Value}
theorem bt_call {E : String} {Qa : State → Outcome → State → Prop} (hr : vx_Run p l e R s m args below meth c H locs cells slots mc ms (F0 m pc ls st0) rest Qa (XE E H.size) free) (hQ : ∀ st o t, ¬ Qa st o t) (hS : va_S A s.heap H locs) (hA : ∀ q, s.heap.size ≤ q → A q) (hf : ∀ q, free q → A q)
    (kx : ∀ (ce : Cell) (q9 : Addr) (H1 : Heap) (locs1 : List Loc), (∀ q : Nat, q < H.size → H1[q]? = H[q]?) → va_S A s.heap H1 locs1 → H1[q9]? = some ce → ce.vm = .none → s.vm.findClass E = some ce.cls → vx_W p l e R s m args below meth c H1 locs1 (cells + mc) (slots + ms) Q (F0 m pc ls rest) q9) : W p l e R s m args below meth c H locs cells slots Q (F0 m pc ls st0) := by
  intro T hT X
  rcases hr T hT X with ⟨v, st₀, t, T', L, h0, X', hL, e1, e2, hq, st⟩ | ⟨q, st₀, t, T', L, E', ce, h0, X', hL, e1, e2, ⟨rfl, hF⟩, hce, hcv, hcl, st⟩
  · exact (hQ _ _ _ hq).elim
  · obtain ⟨k1, k2, k3⟩ := vx_keep h0 e1 hS (fun q h1 h2 => absurd h2 (Nat.not_le.mpr h1)) hf hL hF
    obtain ⟨t2, a1, b1⟩ := kx ce q T'.heap (locs ++ L) (fun q h1 => k2 q h1 (Nat.not_le.mpr h1)) k3 (by rw [e1]; exact hce) hcv hcl T' rfl X'
    exact ⟨t2, st.trans a1, b1⟩
theorem bv_call (hr : CallRun p l e R s m args below meth c H locs cells slots 0 0 (F0 m pc ls st0) rest (QV a) (fun _ => False)) (kk : W p l e R s m args below meth c H locs cells slots Q (F0 m (pc + 3) ls rest)) : W p l e R s m args below meth c H locs cells slots Q (F0 m pc ls st0) := by
  intro T hT X
  obtain ⟨v, st₀, t, T', L, h0, X', hL, e1, ⟨hv, hh⟩, st⟩ := hr T hT X
  cases hv
  obtain ⟨t2, a1, b1⟩ := kk T' (by rw [e1, hh, h0]) (Stand.forget X' (fun q h => (hL q h).elim))
  exact ⟨t2, st t2 a1, b1⟩
theorem br_call {r : Int32} (hr : CallRun p l e R s m args below meth c H locs cells slots 0 0 (F0 m pc ls st0) rest (QcRead r a) (fun _ => False)) (kk : W p l e R s m args below meth c H locs cells slots Q (F0 m (pc + 3) ls (.int r :: rest))) : W p l e R s m args below meth c H locs cells slots Q (F0 m pc ls st0) := W.callR hr kk
theorem bq_call {r : Nat} (hr : CallRun p l e R s m args below meth c H locs cells slots 0 0 (F0 m pc ls st0) rest (va_Sq (fun z => z = some r) a) (fun _ => False)) (kk : W p l e R s m args below meth c H locs cells slots Q (F0 m (pc + 3) ls (.ref r :: rest))) : W p l e R s m args below meth c H locs cells slots Q (F0 m pc ls st0) := va_csq hr (fun _ hz => by rw [hz]; exact kk)
/-- a throw that was not caught here -/
theorem bt_out {E : String} {ce : Cell} {q : Addr} {mc ms : Nat} (ht : ∀ x ∈ c.exceptionTable.toList, False) (hlocks : meth.locks = false) (hcell : H[q]? = some ce) (hv : ce.vm = .none) (hcl : s.vm.findClass E = some ce.cls) {Qc : Array Value → State → Outcome → State → Prop} {sz : Nat} (hS : va_S (fun q => sz ≤ q) s.heap H locs) (hc : cells ≤ mc) (hs : slots ≤ ms) :
    vx_W p l e R s m args below meth c H locs cells slots (vx_MQ below Qc (XE E sz) args s mc ms (fun q => sz ≤ q)) (F0 m pc ls rest) q :=
  vx_out (fun x hx => (ht x hx).elim) hlocks hcell hv hcl (fun t ht _ => ⟨rfl, hS.F ht⟩) hS.2.2 hc hs
/-- the words of a throw that only the tables decide -/
def bdW (cls : String) : List Cond := [.declares (Bundle.initS "java/lang/RuntimeException"), .declares (Bundle.initS "java/lang/Exception"), .declares (Bundle.initS "java/lang/Throwable"), .castable cls cls]
theorem bdW.at {s : State} {cls : String} {args : Array Value} (h : XB s) (hce : cls ∈ exL) : ∀ w ∈ bdW cls, w.before args s = true := by
  intro w hw
  simp only [bdW, List.mem_cons, List.not_mem_nil, or_false] at hw
  rcases hw with rfl | rfl | rfl | rfl
  · exact va_Nw.use rfl (h.1 _ (by simp [deL]))
  · exact va_Nw.use rfl (h.1 _ (by simp [deL]))
  · exact va_Nw.use rfl (h.1 _ (by simp [deL]))
  · exact va_Nw.use rfl (h.2.1 _ hce)
theorem bt_throw {cc : ByteArray} {pc : Nat} {G : va_G} {k : Nat → ClassId} {Ts : List Cond} {Qc : Array Value → State → Outcome → State → Prop} (hx : p.tables.exec = Jvm.exec) (hb : c.code = cc) (hl : l.stackTraces = false) {cls text : String} {ik is ic : Nat}
    (hts : ∀ w ∈ Ts, w.before args s = true) (hown : s.vm.findClass RX3 = some m.cls) (hI : IV G k (fun q => s.heap.size ≤ q) s) (hS : va_S (fun q => s.heap.size ≤ q) s.heap H locs)
    (hcls : Bundle.fit cls = true) (hce : cls ∈ exL) (hstr : (is, text) ∈ strL) (hk : Cond.classLink RX3 ik cls ∈ Ts) (hini : Cond.initialized cls ∈ Ts) (hat : ∀ w ∈ (vx_atS RX3 ic cls Upp).filter goodWord, w ∈ Ts)
    (hgood : (Cond.classLink RX3 ik cls :: Cond.initialized cls :: vx_atS RX3 ic cls Upp).all vx_ot = true) (hng : ∀ w ∈ (vx_atS RX3 ic cls Upp).filter (fun w => !goodWord w), w ∈ bdW cls) (hsize : ls.size = c.maxLocals)
    (d0 : decode cc pc = .ok (.new ik, 3)) (d3 : decode cc (pc + 3) = .ok (.dup, 1)) (d4 : decode cc (pc + 4) = .ok (.ldc is, 2)) (d6 : decode cc (pc + 6) = .ok (.invokespecial ic, 3)) (d9 : decode cc (pc + 9) = .ok (.athrow, 1))
    (ht : ∀ x ∈ c.exceptionTable.toList, False) (hRf : 5 < R.frames) (hRl : (rest.map fun v => v.category).sum + 82 ≤ R.locals) (hRc : cells + 1 ≤ R.cells) (hRs : slots + 6 ≤ R.slots) (hlocks : meth.locks = false) (hc : cells + 1 ≤ mc) (hs : slots + 6 ≤ ms) :
    W p l e R s m args below meth c H locs cells slots (vx_MQ below Qc (XE cls s.heap.size) args s mc ms (fun q => s.heap.size ≤ q)) (F0 m pc ls rest) := by
  obtain ⟨sa, hsa⟩ := hI.2.2.1 _ hstr
  exact vx_throwS hx hb hl hown hcls (names := Upp) (by decide +kernel) (hts _ hk) (hts _ hini) hsa (vx_hat (fun w hw => hts w (hat w hw)) hng (bdW.at hI.2.2.2.1 hce)) (List.all_eq_true.mp hgood) hI.2.1.1 hI.2.1.2 hS hsize d0 d3 d4 d6 d9 (fun x hx => (ht x hx).elim) hRf hRl hRc hRs hlocks
    (fun t _ h1 h2 => ⟨rfl, Nat.le_trans hS.1 h1, fun q h3 h4 => by rw [h2 q (Nat.lt_of_lt_of_le h3 hS.1)]; exact hS.2.1 q h3 h4⟩) hS.2.2 hc hs
/-- an array of references, read where it is known what lies there -/
theorem b_aldq {D : va_G} {cl : List vw_C} {tys : List (ClassId × FieldType)} {ws : va_W} {cc : ByteArray} {pc a v : Nat} (hx : p.tables.exec = Jvm.exec) (hb : c.code = cc) (hK : va_K D cl tys s) (hP : va_P D cl ws H) (q0 t0 : Nat) {cA : ClassId} {C : String} {n : Nat} {f : Nat → Option Nat} (ha : ws[q0]? = some (a, eQ cA n f)) (ht : tys[t0]? = some (cA, .object C)) {j : Nat} {i : Int32} (hi : i = nI j) (hj : j < n) (hn : n < 2 ^ 31) (hf : f j = some v) (hdg : decode cc pc = .ok (.aaload, 1))
    (kk : W p l e R s m args below meth c H locs cells slots Q (F0 m (pc + 1) ls (.ref v :: rest))) : W p l e R s m args below meth c H locs cells slots Q (F0 m pc ls (.int i :: .ref a :: rest)) := by
  subst hi
  refine va_aldq hx hb hK hP q0 t0 ha ht (vp_in_nI hj hn) hdg ?_
  rw [nI_clamp (Nat.lt_trans hj hn), hf]
  exact kk
end BRows
theorem og_Ioob : (Cond.classLink RX3 134 Ioob :: Cond.initialized Ioob :: vx_atS RX3 138 Ioob Upp).all vx_ot = true ∧ ∀ w ∈ (vx_atS RX3 138 Ioob Upp).filter (fun w => !goodWord w), w ∈ bdW Ioob := ⟨by decide +kernel, by decide +kernel⟩
theorem og_Istt : (Cond.classLink RX3 34 Istt :: Cond.initialized Istt :: vx_atS RX3 38 Istt Upp).all vx_ot = true ∧ ∀ w ∈ (vx_atS RX3 38 Istt Upp).filter (fun w => !goodWord w), w ∈ bdW Istt := ⟨by decide +kernel, by decide +kernel⟩
theorem og_Iarg : (Cond.classLink RX3 60 Iarg :: Cond.initialized Iarg :: vx_atS RX3 64 Iarg Upp).all vx_ot = true ∧ ∀ w ∈ (vx_atS RX3 64 Iarg Upp).filter (fun w => !goodWord w), w ∈ bdW Iarg := ⟨by decide +kernel, by decide +kernel⟩
/-- a number of a node, or not -/
def bdN (p : Int32) : Prop := p < 0 ∨ 4 ≤ p
theorem bdN_or (p : Int32) : bdN p ∨ ∃ j : Nat, j < 4 ∧ p = nI j := by
  rcases pk_ix p (n := 4) (by decide) with h | h | h
  · exact Or.inl (Or.inl h)
  · exact Or.inl (Or.inr h)
  · exact Or.inr h
theorem n_ge0 {n : Nat} {p : Int32} (h : nI n ≤ p) (hn : n < 2 ^ 31) : ¬ p < 0 := by
  intro h2
  have h3 : (nI n).toInt ≤ p.toInt := Int32.le_iff_toInt_le.mp h
  have h4 : p.toInt < (0 : Int32).toInt := Int32.lt_iff_toInt_lt.mp h2
  rw [nI_toInt hn] at h3
  have h5 : (0 : Int32).toInt = 0 := by decide
  omega
theorem n_4 {j : Nat} (h : j < 4) : ¬ (4 : Int32) ≤ nI j := nI_ge (a := j) (b := 4) h (by decide)
theorem n_0 {j : Nat} (h : j < 4) : ¬ nI j < 0 := nI_pos (by omega)
def bdK (p : Int32) : Prop := p < 0 ∨ 16 ≤ p
theorem bdK_or (p : Int32) : bdK p ∨ ∃ j : Nat, j < 16 ∧ p = nI j := by
  rcases pk_ix p (n := 16) (by decide) with h | h | h
  · exact Or.inl (Or.inl h)
  · exact Or.inl (Or.inr h)
  · exact Or.inr h
theorem n_16 {j : Nat} (h : j < 16) : ¬ (16 : Int32) ≤ nI j := nI_ge (a := j) (b := 16) h (by decide)
theorem n_0k {j : Nat} (h : j < 16) : ¬ nI j < 0 := nI_pos (by omega)
theorem n_m1 {j : Nat} (h : j < 4) : ¬ nI j = -1 := by
  intro e
  have h1 := nI_toInt (n := j) (by omega)
  rw [e] at h1
  have h2 : (-1 : Int32).toInt = -1 := by decide
  omega
theorem n_9 {p : Int32} (h : 8 < p) : nI 9 ≤ p := by
  have h1 : (8 : Int32).toInt < p.toInt := Int32.lt_iff_toInt_lt.mp h
  have h2 : (8 : Int32).toInt = 8 := by decide
  have h3 : (nI 9).toInt = 9 := nI_toInt (by decide)
  exact Int32.le_iff_toInt_le.mpr (by omega)
theorem n_ix (i j : Nat) : nI i * 4 + nI j = nI (i * 4 + j) := by
  rw [show (4 : Int32) = nI 4 from rfl, pk_mul, nI_add]
abbrev rzk (n mc ms : Nat) : Room := { frames := 6 + n, cells := mc, slots := ms, locals := 100 + 40 * n }
abbrev rz0 : Room := { frames := 0, cells := 0, slots := 0, locals := 0 }
abbrev rz1 : Room := { frames := 1, cells := 0, slots := 0, locals := 30 }
abbrev rz2 : Room := { frames := 2, cells := 0, slots := 0, locals := 60 }
