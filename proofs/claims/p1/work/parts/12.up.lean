/-! 12: up, of a good node. Laid by wip/p1/gen12.py -/
theorem set_same {ws : va_W} {i : Nat} {v : Nat × va_E} (h : ws[i]? = some v) : ws.set i v = ws := by
  apply List.ext_getElem?
  intro j
  by_cases e : j = i
  · subst e
    rw [List.getElem?_set_self (List.getElem?_eq_some_iff.mp h).1, h]
  · rw [List.getElem?_set_ne (Ne.symm e)]
theorem set_sameV {fs : List Value} {i : Nat} {v : Value} (h : fs[i]? = some v) : fs.set i v = fs := by
  apply List.ext_getElem?
  intro j
  by_cases e : j = i
  · subst e
    rw [List.getElem?_set_self (List.getElem?_eq_some_iff.mp h).1, h]
  · rw [List.getElem?_set_ne (Ne.symm e)]
theorem set_mem {ws : va_W} {i : Nat} {p q v : Nat × va_E} (hi : ws[i]? = some p) (hq : q ∈ ws) (hn : q ≠ p) : q ∈ ws.set i v := by
  obtain ⟨j, hj⟩ := List.getElem?_of_mem hq
  have hji : i ≠ j := fun e => hn (by
    subst e
    exact Option.some.inj (hj.symm.trans hi))
  exact List.mem_of_getElem? (i := j) (by rw [List.getElem?_set_ne hji]; exact hj)
theorem set_new {ws : va_W} {i : Nat} {p v : Nat × va_E} (hi : ws[i]? = some p) : v ∈ ws.set i v := List.mem_of_getElem? (List.getElem?_set_self (List.getElem?_eq_some_iff.mp hi).1)
theorem va_D.ne {A : Nat → Prop} {ws : va_W} {p q : Nat × va_E} (h : va_D A ws) (hp : p ∈ ws) (hq : q ∈ ws) (hn : p ≠ q) : p.1 ≠ q.1 := by
  obtain ⟨i, hi⟩ := List.getElem?_of_mem hp
  obtain ⟨j, hj⟩ := List.getElem?_of_mem hq
  intro e
  have hij := h.1 i j p q hi hj e
  subst hij
  exact hn (Option.some.inj (hi.symm.trans hj))
theorem va_D.in {A : Nat → Prop} {ws : va_W} {p : Nat × va_E} (h : va_D A ws) (hp : p ∈ ws) : A p.1 := by
  obtain ⟨i, hi⟩ := List.getElem?_of_mem hp
  exact h.2 i p hi
/-- a node's four cells are apart -/
theorem four_D {A : Nat → Prop} {k : Nat → ClassId} {ws : va_W} {a lo me di : Nat} (h : va_D A ws) (ma : (a, eN lo 0) ∈ ws) (ml : (lo, eL me di) ∈ ws) (mm : (me, eB (k 2)) ∈ ws) (md : (di, eB (k 2)) ∈ ws) (hmd : me ≠ di) (r : Int32) : va_D A [(a, eN lo r), (lo, eL me di), (me, eB (k 2)), (di, eB (k 2))] := by
  have e1 : a ≠ lo := h.ne ma ml (fun e => by cases congrArg Prod.snd e)
  have e2 : a ≠ me := h.ne ma mm (fun e => by cases congrArg Prod.snd e)
  have e3 : a ≠ di := h.ne ma md (fun e => by cases congrArg Prod.snd e)
  have e4 : lo ≠ me := h.ne ml mm (fun e => by cases congrArg Prod.snd e)
  have e5 : lo ≠ di := h.ne ml md (fun e => by cases congrArg Prod.snd e)
  refine ⟨fun i j p q hi hj hpq => ?_, fun i p hi => ?_⟩
  · have h1 : i < 4 := (List.getElem?_eq_some_iff.mp hi).1
    have h2 : j < 4 := (List.getElem?_eq_some_iff.mp hj).1
    rcases (show i = 0 ∨ i = 1 ∨ i = 2 ∨ i = 3 by omega) with rfl | rfl | rfl | rfl <;> rcases (show j = 0 ∨ j = 1 ∨ j = 2 ∨ j = 3 by omega) with rfl | rfl | rfl | rfl <;> cases hi <;> cases hj <;> first | rfl | exact absurd hpq (by assumption) | exact absurd hpq.symm (by assumption)
  · have h1 : i < 4 := (List.getElem?_eq_some_iff.mp hi).1
    rcases (show i = 0 ∨ i = 1 ∨ i = 2 ∨ i = 3 by omega) with rfl | rfl | rfl | rfl <;> cases hi
    · exact h.in (p := (a, eN lo 0)) ma
    · exact h.in ml
    · exact h.in mm
    · exact h.in md
abbrev UP (G : va_G) (k : Nat → ClassId) (sz : Nat) (ws : va_W) (As : List Value) : Array Value → State → Prop := va_Pc As (fun U => U.heap.size = sz ∧ va_P G vwCl ws U.heap ∧ va_K G vwCl (pT k) U ∧ va_D (fun _ => True) ws)
theorem UP.blind {G : va_G} {k : Nat → ClassId} {sz : Nat} {ws : va_W} {As : List Value} : FrameBlind (UP G k sz ws As) := fun _ U _ _ q => ⟨q.1, q.2.1, q.2.2.1, va_K.moved (u := U) (Vm.Alike.refl U.vm) q.2.2.2.1, q.2.2.2.2⟩
theorem UP.at {G : va_G} {k : Nat → ClassId} {s : State} {H : Heap} {A : Nat → Prop} {ws : va_W} {As : List Value} (hK : va_K G vwCl (pT k) s) (hP : va_P G vwCl ws H) (hD : va_D A ws) (U : State) (hU : U.heap = H) (hW : s.WarmedH U.vm) : UP G k H.size ws As As.toArray U := ⟨rfl, by rw [hU], by rw [hU]; exact hP, va_K.moved hW.alike hK, hD.weaken (fun _ _ _ _ => trivial)⟩
theorem UP.preV {G : va_G} {k : Nat → ClassId} {s : State} {H : Heap} {A : Nat → Prop} {ws : va_W} {As : List Value} {q0 ci b : Nat} {r : vw_C} {fs : List Value} (hK : va_K G vwCl (pT k) s) (hP : va_P G vwCl ws H) (hD : va_D A ws) (hc : vwCl[ci]? = some r) (he : ws[q0]? = some (b, .inr (ci, fs))) : PreV s H r.1 b (UP G k H.size ws (.ref b :: As)) As := ⟨UP.blind, va_recv hK hP hc he, UP.at hK hP hD⟩
theorem UP.preS {G : va_G} {k : Nat → ClassId} {s : State} {H : Heap} {A : Nat → Prop} {ws : va_W} {As : List Value} (hK : va_K G vwCl (pT k) s) (hP : va_P G vwCl ws H) (hD : va_D A ws) : PreS s H (UP G k H.size ws As) As := ⟨UP.blind, UP.at hK hP hD⟩
theorem va_A.all {A : Nat → Prop} {ws : va_W} {sz : Nat} (hD : va_D A ws) (hA : ∀ q, sz ≤ q → A q) : ∀ q, va_A ws sz q → A q := fun q h => by
  rcases h with ⟨i, e, h⟩ | h
  · exact hD.2 i _ h
  · exact hA q h
section URows
variable {p : Program} {l : Launch} {e : Env} {R : Room} {s : State} {m : MethodId} {args : Array Value} {below : List Frame} {meth : Method} {c : Code} {H : Heap} {locs : List Loc} {cells slots : Nat} {Q : State → Prop}
variable {cc : ByteArray} {pc : Nat} {ls : Array Slot} {rest st0 : List Value} {D : va_G} {cl : List vw_C} {A : Nat → Prop} {a : Nat} {tys : List (ClassId × FieldType)} {ws : va_W} {H0 : Heap}
/-- a field gets what it holds -/
theorem b_putS (hexec : p.tables.exec = Jvm.exec) (hb : c.code = cc) {own ref C : String} {T : u_T} {N ci index : Nat} {Ts : List Cond} (hts : ∀ w ∈ Ts, w.before args s = true) (hin : ∀ w ∈ u_ws C T N, w ∈ Ts) (ty0 : Nat → FieldType) (hty : ∀ k, k < N → parseFieldDescriptor (T k).2.2.1 = some (ty0 k)) (hnm : ∀ a, a < N → ∀ b, b < N → a ≠ b → (T a).2.1 ≠ (T b).2.1) (hown : s.vm.findClass own = some m.cls) (hK : va_K D cl tys s) (hP : va_P D cl ws H) (hD : va_D A ws) (hS0 : va_S A H0 H locs) (q0 : Nat) {fs : List Value} (he : ws[q0]? = some (a, .inr (ci, fs))) (hc : cl[ci]? = some (C, T, N)) (k : Nat) (hk : k < N) (hlink : (Cond.fieldLink own index ref (T k).2.1 (T k).2.2.1).before args s = true) (hsame : ∀ x, s.fieldFound? (T k).1 (T k).2.1 (T k).2.2.1 = some x → s.fieldFound? ref (T k).2.1 (T k).2.2.1 = some x) (hfin : (T k).2.2.2 = false) {ty : FieldType} {v : Value} (hd : parseFieldDescriptor (T k).2.2.1 = some ty) (hn : narrow ty v = v) (hfit : fits ty v = true) (hv : fs[k]? = some v)
    (hdg : decode cc pc = .ok (.putfield index, 3)) (kk : ∀ (H1 : Heap) (locs1 : List Loc), va_P D cl ws H1 → va_S A H0 H1 locs1 → W p l e R s m args below meth c H1 locs1 cells slots Q (F0 m (pc + 3) ls rest)) : W p l e R s m args below meth c H locs cells slots Q (F0 m pc ls (v :: .ref a :: rest)) := by
  refine va_put hexec hb hts hin ty0 hty hnm hown hK hP hD hS0 q0 he hc k hk hlink hsame hfin hd hn hfit (List.getElem?_eq_some_iff.mp hv).1 hdg (fun H1 locs1 hP1 _ hS1 => ?_)
  rw [set_sameV hv, set_same he] at hP1
  exact kk H1 locs1 hP1 hS1
/-- a call that gives its world back as it was, or another -/
theorem uv_call {G : va_G} {av : Array Value} {ws' wc : va_W} (hr : va_Run p l e R s m args below meth c H locs cells slots 0 0 (F0 m pc ls st0) rest (va_Qv (fun (_ : Unit) => True) (fun _ t => va_P G vwCl ws' t.heap) (va_A wc H.size) av) (va_A wc H.size)) (hS : va_S A s.heap H locs) (hD : va_D A wc) (hA : ∀ q, s.heap.size ≤ q → A q)
    (kk : ∀ (H1 : Heap) (locs1 : List Loc), va_P G vwCl ws' H1 → (∀ q : Nat, q < H.size → ¬ va_A wc H.size q → H1[q]? = H[q]?) → va_S A s.heap H1 locs1 → W p l e R s m args below meth c H1 locs1 cells slots Q (F0 m (pc + 3) ls rest)) : W p l e R s m args below meth c H locs cells slots Q (F0 m pc ls st0) := by
  have hF : ∀ q, va_A wc H.size q → A q := va_A.all hD (fun q h => hA q (Nat.le_trans hS.1 h))
  refine va_callv hr hS (fun q _ h => hF q h) hF (fun u t H1 locs1 ht hvm hp hB h1 h2 hS1 => ?_)
  rw [ht] at hB
  exact kk H1 locs1 hB h2 hS1
end URows
theorem va_P.keep {D : va_G} {cl : List vw_C} {A : Nat → Prop} {ws w1 wc : va_W} {H H1 : Heap} (hP : va_P D cl ws H) (hD : va_D A ws) (hc : ∀ q ∈ wc, q ∈ ws) (h1 : ∀ q ∈ w1, q ∈ ws ∧ q ∉ wc) (h : ∀ q : Nat, q < H.size → ¬ va_A wc H.size q → H1[q]? = H[q]?) : va_P D cl w1 H1 := fun i q hq => by
  have hm := h1 q (List.mem_of_getElem? hq)
  obtain ⟨j, hj⟩ := List.getElem?_of_mem hm.1
  refine (hP j q hj).kept (h q.1 (hP j q hj).lt (fun hz => ?_))
  rcases hz with ⟨i2, e2, hz⟩ | hz
  · have hm2 := List.mem_of_getElem? hz
    exact hD.ne hm.1 (hc _ hm2) (fun e9 => hm.2 (by rw [e9]; exact hm2)) rfl
  · exact absurd (hP j q hj).lt (Nat.not_lt.mpr hz)
set_option maxHeartbeats 4000000 in
set_option maxRecDepth 100000 in
/-- a way without messages loses them -/
theorem c_clear (l : Launch) (G : va_G) (k : Nat → ClassId) (sz : Nat) (ws : va_W) (w po bb : Nat) (mw : (w, eW po bb) ∈ ws) : Met l yX2_clear wsX2_clear (rz0) (UP G k sz ws [.ref w]) (va_Qv (fun (_ : Unit) => True) (fun _ t => va_P G vwCl (ws) t.heap) (va_A (ws) sz)) 0 0 (va_A ws sz) := by
  refine Met.ofW (cc := cX2_clear) (maxL := 1) (ret := none) (by decide) rfl ?_
  intro p e s m args below meth c s₁ B hml hv
  obtain ⟨rfl, hsz, hP, hK, hD0⟩ := hv
  subst hsz
  have hD := hD0.self (sz := s.heap.size)
  generalize hAe : va_A (ws) s.heap.size = A at hD ⊢
  have hA : ∀ q : Nat, s.heap.size ≤ q → A q := fun q h => by rw [← hAe]; exact Or.inr h
  have hS : va_S A s.heap s.heap [] := va_S.rf
  obtain ⟨kw, hvw⟩ := List.getElem?_of_mem mw
  have hx := B.exec
  have hb := B.bytes
  have hr := B.returns
  have hts := atoms_spec (ws := wsX2_clear) B.pre
  have hown : s.vm.findClass RX2 = some m.cls := findClass_of_methodNamed B.named
  have hlocks := B.notSynchronized
  have hl := lv_entry ([.ref w]) (n := 1) (Nat.le_of_ble_eq_true rfl)
  rw [lg_entry_eq]
  generalize (lg_sl ([.ref w]) ++ List.replicate (1 - (lg_sl ([.ref w])).length) Slot.unset).toArray = ls at hl ⊢
  have hl : lv_has ls 1 [(0, .ref w)] := hl
  refine lv_aload_n hx hb dX2_clear_0 rfl (lv_at hl 0 rfl) ?_
  refine lv_iconst (v := 0) hx hb dX2_clear_1 (by decide) ?_
  refine b_putS (D := G) (ci := 2) (v := .int 0) (ty := .int) (C := RX2) (T := TX2) (N := 4) hx hb hts (fun _ h => List.mem_cons_of_mem _ (List.mem_append_right _ h)) tyX2 tyX2_ok nmX2 hown hK hP hD hS kw hvw rfl 2 (by decide) (hts (.fieldLink RX2 18 "ShippedLog$Way" "oldest" "I") (by decide +kernel)) (fun _ h9 => h9) rfl (by decide +kernel) rfl rfl rfl dX2_clear_2 (fun H locs hP hS => ?_)
  refine lv_aload_n hx hb dX2_clear_5 rfl (lv_at hl 0 rfl) ?_
  refine lv_iconst (v := 0) hx hb dX2_clear_6 (by decide) ?_
  refine b_putS (D := G) (ci := 2) (v := .int 0) (ty := .int) (C := RX2) (T := TX2) (N := 4) hx hb hts (fun _ h => List.mem_cons_of_mem _ (List.mem_append_right _ h)) tyX2 tyX2_ok nmX2 hown hK hP hD hS kw hvw rfl 3 (by decide) (hts (.fieldLink RX2 22 "ShippedLog$Way" "count" "I") (by decide +kernel)) (fun _ h9 => h9) rfl (by decide +kernel) rfl rfl rfl dX2_clear_7 (fun H locs hP hS => ?_)
  exact W.vret hx hb hr (fun t ht hW => ⟨⟨(), rfl, trivial, (by show va_P G vwCl _ t.heap; rw [ht]; exact hP)⟩, hS.F ht⟩) hS.2.2 dX2_clear_10
set_option maxHeartbeats 4000000 in
set_option maxRecDepth 100000 in
/-- nobody has a node as its standby -/
theorem c_leaveStandby (l : Launch) (G : va_G) (k : Nat → ClassId) (ws : va_W) (x nd wy : Nat) (f g : Nat → Option Nat) (hF : FX k ws x nd wy f g) (j : Nat) (hj : j < 4) : Met l yX3_leaveStandby wsX3_leaveStandby rz2 (PQ G k ws [.ref x, .int (nI j)]) QV 0 0 (fun _ => False) := by
  refine Met.ofW (cc := cX3_leaveStandby) (maxL := 3) (ret := none) (by decide) rfl ?_
  intro p e s m args below meth c s₁ B hml hv
  obtain ⟨rfl, hP, hK⟩ := hv
  obtain ⟨kx, h0⟩ := List.getElem?_of_mem hF.1
  obtain ⟨kn, h1⟩ := List.getElem?_of_mem hF.2.1
  have hx := B.exec
  have hb := B.bytes
  have hr := B.returns
  have hts := atoms_spec (ws := wsX3_leaveStandby) B.pre
  have hown : s.vm.findClass RX3 = some m.cls := findClass_of_methodNamed B.named
  have hlocks := B.notSynchronized
  have hl := lv_entry ([.ref x, .int (nI j)]) (n := 3) (Nat.le_of_ble_eq_true rfl)
  rw [lg_entry_eq]
  generalize (lg_sl ([.ref x, .int (nI j)]) ++ List.replicate (3 - (lg_sl ([.ref x, .int (nI j)])).length) Slot.unset).toArray = ls at hl ⊢
  have hl : lv_has ls 3 [(0, .ref x), (1, .int (nI j))] := hl
  refine lv_iconst (v := 0) hx hb dX3_leaveStandby_0 (by decide) ?_
  refine lv_istore_n (lv' := [(2, .int 0), (0, .ref x), (1, .int (nI j))]) hx hb dX3_leaveStandby_1 rfl hl (by decide) rfl (fun ls hl => ?_)
  have key : ∀ (n i : Nat), i + n = 4 → ∀ (ls : Array Slot), lv_has ls 3 [(0, .ref x), (1, .int (nI j)), (2, .int (nI i))] → W p l e (headSpec wsX3_leaveStandby rz2).room s m #[.ref x, .int (nI j)] below meth c s.heap [] 0 0 (MQ below QV #[.ref x, .int (nI j)] s 0 0 (fun _ => False)) (F0 m 2 ls []) := by
    intro n
    induction n with
    | zero =>
      intro i hi ls hl
      have hi4 : i = 4 := by omega
      subst hi4
      refine lv_iload_n hx hb dX3_leaveStandby_2 rfl (lv_at hl 2 rfl) ?_
      refine lv_iconst (v := 4) hx hb dX3_leaveStandby_3 (by decide) ?_
      refine lv_icmp_ge (tgt := 36) hx hb dX3_leaveStandby_4 (by decide) (fun _ => ?_) (fun c9 => absurd (show (4 : Int32) ≤ nI 4 from by decide) c9)
      exact W.vret hx hb hr (fun t ht hW => ⟨rfl, ht⟩) (fun q h => by cases h) dX3_leaveStandby_36
    | succ n ih =>
      intro i hi ls hl
      obtain ⟨a, lo, me, di, ha, ma, -⟩ := hF.2.2.2.1 i (by omega)
      obtain ⟨kv, hv⟩ := List.getElem?_of_mem ma
      refine lv_iload_n hx hb dX3_leaveStandby_2 rfl (lv_at hl 2 rfl) ?_
      refine lv_iconst (v := 4) hx hb dX3_leaveStandby_3 (by decide) ?_
      refine lv_icmp_ge (tgt := 36) hx hb dX3_leaveStandby_4 (by decide) (fun c9 => absurd c9 (nI_ge (a := i) (b := 4) (by omega) (by decide))) (fun _ => ?_)
      refine lv_aload_n hx hb dX3_leaveStandby_7 rfl (lv_at hl 0 rfl) ?_
      refine va_get (D := G) (ci := 3) (v := .ref nd) (C := RX3) (T := TX3) (N := 3) hx hb hts (fun _ h => List.mem_cons_of_mem _ (List.mem_append_left _ (List.mem_append_right _ h))) hown hK hP kx h0 rfl 0 (by decide) (hts (.fieldLink RX3 11 "ShippedLog" "nodes" "[LShippedLog$Node;") (by decide +kernel)) (fun _ h9 => h9) rfl dX3_leaveStandby_8 ?_
      refine lv_iload_n hx hb dX3_leaveStandby_11 rfl (lv_at hl 2 rfl) ?_
      refine b_aldq hx hb hK hP kn 0 h1 rfl (j := i) rfl (by omega) (by decide) ha dX3_leaveStandby_12 ?_
      refine va_get (D := G) (ci := 1) (v := .int (-1)) (C := RX1) (T := TX1) (N := 8) hx hb hts (fun _ h => List.mem_cons_of_mem _ (List.mem_append_right _ h)) hown hK hP kv hv rfl 5 (by decide) (hts (.fieldLink RX3 145 "ShippedLog$Node" "standby" "I") (by decide +kernel)) (fun _ h9 => h9) rfl dX3_leaveStandby_13 ?_
      refine lv_iload_n hx hb dX3_leaveStandby_16 rfl (lv_at hl 1 rfl) ?_
      refine lv_icmp_ne (tgt := 30) hx hb dX3_leaveStandby_17 (by decide) (fun _ => ?_) (fun c9 => absurd c9 (fun e9 => n_m1 hj e9.symm))
      refine lv_iinc (v := nI (i + 1)) (lv' := [(2, .int (nI (i + 1))), (0, .ref x), (1, .int (nI j))]) hx hb dX3_leaveStandby_30 hl (k := 2) rfl (nI_succ i).symm (by decide) rfl (fun ls hl => ?_)
      refine lv_goto (tgt := 2) hx hb dX3_leaveStandby_33 (by decide) ?_
      exact ih (i + 1) (by omega) ls (lv_sub hl [1, 2, 0] rfl)
  exact key 4 0 rfl ls (lv_sub hl [1, 2, 0] rfl)
set_option maxHeartbeats 4000000 in
set_option maxRecDepth 100000 in
/-- a node without messages loses them all -/
theorem c_loseMessages (l : Launch) (G : va_G) (k : Nat → ClassId) (sz : Nat) (ws : va_W) (x nd wy : Nat) (f g : Nat → Option Nat) (hF : FX k ws x nd wy f g) (j : Nat) (hj : j < 4) : Met l yX3_loseMessages wsX3_loseMessages rz2 (UP G k sz ws [.ref x, .int (nI j)]) (va_Qv (fun (_ : Unit) => True) (fun _ t => va_P G vwCl (ws) t.heap) (va_A (ws) sz)) 0 0 (va_A ws sz) := by
  refine Met.ofW (cc := cX3_loseMessages) (maxL := 3) (ret := none) (by decide) rfl ?_
  intro p e s m args below meth c s₁ B hml hv
  obtain ⟨rfl, hsz, hP, hK, hD0⟩ := hv
  subst hsz
  have hD := hD0.self (sz := s.heap.size)
  generalize hAe : va_A (ws) s.heap.size = A at hD ⊢
  have hA : ∀ q : Nat, s.heap.size ≤ q → A q := fun q h => by rw [← hAe]; exact Or.inr h
  have hS : va_S A s.heap s.heap [] := va_S.rf
  obtain ⟨kx, h0⟩ := List.getElem?_of_mem hF.1
  have hx := B.exec
  have hb := B.bytes
  have hr := B.returns
  have hts := atoms_spec (ws := wsX3_loseMessages) B.pre
  have hown : s.vm.findClass RX3 = some m.cls := findClass_of_methodNamed B.named
  have hlocks := B.notSynchronized
  have hl := lv_entry ([.ref x, .int (nI j)]) (n := 3) (Nat.le_of_ble_eq_true rfl)
  rw [lg_entry_eq]
  generalize (lg_sl ([.ref x, .int (nI j)]) ++ List.replicate (3 - (lg_sl ([.ref x, .int (nI j)])).length) Slot.unset).toArray = ls at hl ⊢
  have hl : lv_has ls 3 [(0, .ref x), (1, .int (nI j))] := hl
  refine lv_iconst (v := 0) hx hb dX3_loseMessages_0 (by decide) ?_
  refine lv_istore_n (lv' := [(2, .int 0), (0, .ref x), (1, .int (nI j))]) hx hb dX3_loseMessages_1 rfl hl (by decide) rfl (fun ls hl => ?_)
  have key : ∀ (n i : Nat), i + n = 4 → ∀ (H : Heap) (locs : List Loc) (ls : Array Slot), va_P G vwCl ws H → va_S A s.heap H locs → lv_has ls 3 [(0, .ref x), (1, .int (nI j)), (2, .int (nI i))] → W p l e (headSpec wsX3_loseMessages rz2).room s m #[.ref x, .int (nI j)] below meth c H locs 0 0 (MQ below (va_Qv (fun (_ : Unit) => True) (fun _ t => va_P G vwCl ws t.heap) A) #[.ref x, .int (nI j)] s 0 0 A) (F0 m 2 ls []) := by
    intro n
    induction n with
    | zero =>
      intro i hi H locs ls hP hS hl
      have hi4 : i = 4 := by omega
      subst hi4
      refine lv_iload_n hx hb dX3_loseMessages_2 rfl (lv_at hl 2 rfl) ?_
      refine lv_iconst (v := 4) hx hb dX3_loseMessages_3 (by decide) ?_
      refine lv_icmp_ge (tgt := 31) hx hb dX3_loseMessages_4 (by decide) (fun _ => ?_) (fun c9 => absurd (show (4 : Int32) ≤ nI 4 from by decide) c9)
      exact W.vret hx hb hr (fun t ht hW => ⟨⟨(), rfl, trivial, (by show va_P G vwCl _ t.heap; rw [ht]; exact hP)⟩, hS.F ht⟩) hS.2.2 dX3_loseMessages_31
    | succ n ih =>
      intro i hi H locs ls hP hS hl
      obtain ⟨a1, po1, bb1, hg1, mw1⟩ := hF.2.2.2.2 (j * 4 + i) (by omega)
      obtain ⟨k1, hv1⟩ := List.getElem?_of_mem mw1
      obtain ⟨a2, po2, bb2, hg2, mw2⟩ := hF.2.2.2.2 (i * 4 + j) (by omega)
      obtain ⟨k2, hv2⟩ := List.getElem?_of_mem mw2
      have hi : i < 4 := by omega
      refine lv_iload_n hx hb dX3_loseMessages_2 rfl (lv_at hl 2 rfl) ?_
      refine lv_iconst (v := 4) hx hb dX3_loseMessages_3 (by decide) ?_
      refine lv_icmp_ge (tgt := 31) hx hb dX3_loseMessages_4 (by decide) (fun c9 => absurd c9 (nI_ge (a := i) (b := 4) hi (by decide))) (fun _ => ?_)
      refine lv_aload_n hx hb dX3_loseMessages_7 rfl (lv_at hl 0 rfl) ?_
      refine lv_iload_n hx hb dX3_loseMessages_8 rfl (lv_at hl 1 rfl) ?_
      refine lv_iload_n hx hb dX3_loseMessages_9 rfl (lv_at hl 2 rfl) ?_
      refine bq_call (W.runV (As := [.int (nI j), .int (nI i)]) (rest := []) ⟨hx, hb, hml, hown, hts⟩ (c_wayFrom_t l G k ws x nd wy f g hF j i hj hi a1 hg1) (cwV 2 hts gX3_loseMessages_X3_wayFrom rfl rfl rfl (by decide +kernel) ⟨(Nat.le_of_ble_eq_true rfl), (Nat.le_of_ble_eq_true rfl)⟩) (PQ.preV hK hP (ci := 3) rfl h0) rfl rfl hl.1 rfl (lv_room (Nat.le_of_ble_eq_true rfl)) dX3_loseMessages_10 ⟨(Nat.le_of_ble_eq_true rfl), (Nat.le_of_ble_eq_true rfl)⟩) ?_
      refine uv_call (va_runV (As := []) (rest := []) ⟨hx, hb, hml, hown, hts⟩ (c_clear l G k _ ws a1 po1 bb1 mw1) (cwV 0 hts gX3_loseMessages_X2_clear rfl rfl rfl (by decide +kernel) ⟨(Nat.le_of_ble_eq_true rfl), (Nat.le_of_ble_eq_true rfl)⟩) (UP.preV hK hP hD (ci := 2) rfl hv1) rfl rfl hl.1 rfl (lv_room (Nat.le_of_ble_eq_true rfl)) dX3_loseMessages_13 ⟨(Nat.le_of_ble_eq_true rfl), (Nat.le_of_ble_eq_true rfl)⟩) hS hD hA (fun H locs hP hkk hS => ?_)
      refine lv_aload_n hx hb dX3_loseMessages_16 rfl (lv_at hl 0 rfl) ?_
      refine lv_iload_n hx hb dX3_loseMessages_17 rfl (lv_at hl 2 rfl) ?_
      refine lv_iload_n hx hb dX3_loseMessages_18 rfl (lv_at hl 1 rfl) ?_
      refine bq_call (W.runV (As := [.int (nI i), .int (nI j)]) (rest := []) ⟨hx, hb, hml, hown, hts⟩ (c_wayFrom_t l G k ws x nd wy f g hF i j hi hj a2 hg2) (cwV 2 hts gX3_loseMessages_X3_wayFrom rfl rfl rfl (by decide +kernel) ⟨(Nat.le_of_ble_eq_true rfl), (Nat.le_of_ble_eq_true rfl)⟩) (PQ.preV hK hP (ci := 3) rfl h0) rfl rfl hl.1 rfl (lv_room (Nat.le_of_ble_eq_true rfl)) dX3_loseMessages_19 ⟨(Nat.le_of_ble_eq_true rfl), (Nat.le_of_ble_eq_true rfl)⟩) ?_
      refine uv_call (va_runV (As := []) (rest := []) ⟨hx, hb, hml, hown, hts⟩ (c_clear l G k _ ws a2 po2 bb2 mw2) (cwV 0 hts gX3_loseMessages_X2_clear rfl rfl rfl (by decide +kernel) ⟨(Nat.le_of_ble_eq_true rfl), (Nat.le_of_ble_eq_true rfl)⟩) (UP.preV hK hP hD (ci := 2) rfl hv2) rfl rfl hl.1 rfl (lv_room (Nat.le_of_ble_eq_true rfl)) dX3_loseMessages_22 ⟨(Nat.le_of_ble_eq_true rfl), (Nat.le_of_ble_eq_true rfl)⟩) hS hD hA (fun H locs hP hkk hS => ?_)
      refine lv_iinc (v := nI (i + 1)) (lv' := [(2, .int (nI (i + 1))), (0, .ref x), (1, .int (nI j))]) hx hb dX3_loseMessages_25 hl (k := 2) rfl (nI_succ i).symm (by decide) rfl (fun ls hl => ?_)
      refine lv_goto (tgt := 2) hx hb dX3_loseMessages_28 (by decide) ?_
      exact ih (i + 1) (by omega) H locs ls hP hS (lv_sub hl [1, 2, 0] rfl)
  exact key 4 0 rfl s.heap [] ls hP hS (lv_sub hl [1, 2, 0] rfl)
set_option maxHeartbeats 4000000 in
set_option maxRecDepth 100000 in
/-- a fresh node becomes idle -/
theorem c_changeRole (l : Launch) (G : va_G) (k : Nat → ClassId) (sz : Nat) (ws : va_W) (x nd wy : Nat) (f g : Nat → Option Nat) (hF : FX k ws x nd wy f g) (j : Nat) (hj : j < 4) (a lo me di : Nat) (ha : f j = some a) (ma : (a, eN lo 0) ∈ ws) (ml : (lo, eL me di) ∈ ws) (mm : (me, eB (k 2)) ∈ ws) (md : (di, eB (k 2)) ∈ ws) : Met l yX3_changeRole wsX3_changeRole (({ frames := 3, cells := 0, slots := 0, locals := 90 })) (UP G k sz ws [.ref x, .int (nI j), .int 1, .int (-1)]) (va_Qv (fun (_ : Unit) => True) (fun _ t => va_P G vwCl ([(a, eN lo 1), (lo, eL me di), (me, eB (k 2)), (di, eB (k 2))]) t.heap) (va_A (ws) sz)) 0 0 (va_A ws sz) := by
  refine Met.ofW (cc := cX3_changeRole) (maxL := 5) (ret := none) (by decide) rfl ?_
  intro p e s m args below meth c s₁ B hml hv
  obtain ⟨rfl, hsz, hP, hK, hD0⟩ := hv
  subst hsz
  have hD := hD0.self (sz := s.heap.size)
  generalize hAe : va_A (ws) s.heap.size = A at hD ⊢
  have hA : ∀ q : Nat, s.heap.size ≤ q → A q := fun q h => by rw [← hAe]; exact Or.inr h
  have hS : va_S A s.heap s.heap [] := va_S.rf
  obtain ⟨kx, h0⟩ := List.getElem?_of_mem hF.1
  obtain ⟨kv, hv⟩ := List.getElem?_of_mem ma
  obtain ⟨kl, hvl⟩ := List.getElem?_of_mem ml
  have hx := B.exec
  have hb := B.bytes
  have hr := B.returns
  have hts := atoms_spec (ws := wsX3_changeRole) B.pre
  have hown : s.vm.findClass RX3 = some m.cls := findClass_of_methodNamed B.named
  have hlocks := B.notSynchronized
  have hl := lv_entry ([.ref x, .int (nI j), .int 1, .int (-1)]) (n := 5) (Nat.le_of_ble_eq_true rfl)
  rw [lg_entry_eq]
  generalize (lg_sl ([.ref x, .int (nI j), .int 1, .int (-1)]) ++ List.replicate (5 - (lg_sl ([.ref x, .int (nI j), .int 1, .int (-1)])).length) Slot.unset).toArray = ls at hl ⊢
  have hl : lv_has ls 5 [(0, .ref x), (1, .int (nI j)), (2, .int 1), (3, .int (-1))] := hl
  refine lv_aload_n hx hb dX3_changeRole_0 rfl (lv_at hl 0 rfl) ?_
  refine lv_iload_n hx hb dX3_changeRole_1 rfl (lv_at hl 1 rfl) ?_
  refine bq_call (W.runV (As := [.int (nI j)]) (rest := []) ⟨hx, hb, hml, hown, hts⟩ (c_nodeAt_t l G k ws x nd wy f g hF j hj a ha) (cwV 1 hts gX3_changeRole_X3_nodeAt rfl rfl rfl (by decide +kernel) ⟨(Nat.le_of_ble_eq_true rfl), (Nat.le_of_ble_eq_true rfl)⟩) (PQ.preV hK hP (ci := 3) rfl h0) rfl rfl hl.1 rfl (lv_room (Nat.le_of_ble_eq_true rfl)) dX3_changeRole_2 ⟨(Nat.le_of_ble_eq_true rfl), (Nat.le_of_ble_eq_true rfl)⟩) ?_
  refine lv_astore (lv' := [(4, .ref a), (0, .ref x), (1, .int (nI j)), (2, .int 1), (3, .int (-1))]) hx hb dX3_changeRole_5 hl (by decide) rfl (fun ls hl => ?_)
  refine lv_aload hx hb dX3_changeRole_7 (lv_at hl 0 rfl) ?_
  refine va_get (D := G) (ci := 1) (v := .int 0) (C := RX1) (T := TX1) (N := 8) hx hb hts (fun _ h => List.mem_cons_of_mem _ (List.mem_append_left _ (List.mem_append_left _ (List.mem_append_left _ (List.mem_append_right _ h))))) hown hK hP kv hv rfl 1 (by decide) (hts (.fieldLink RX3 31 "ShippedLog$Node" "role" "I") (by decide +kernel)) (fun _ h9 => h9) rfl dX3_changeRole_9 ?_
  refine lv_iload_n hx hb dX3_changeRole_12 rfl (lv_at hl 3 rfl) ?_
  refine lv_icmp_ne (tgt := 25) hx hb dX3_changeRole_13 (by decide) (fun _ => ?_) (fun c9 => absurd c9 (by decide : ¬ (0 : Int32) = 1))
  refine lv_aload_n hx hb dX3_changeRole_25 rfl (lv_at hl 1 rfl) ?_
  refine lv_iload_n hx hb dX3_changeRole_26 rfl (lv_at hl 2 rfl) ?_
  refine uv_call (va_runV (As := [.int (nI j)]) (rest := []) ⟨hx, hb, hml, hown, hts⟩ (c_loseMessages l G k _ ws x nd wy f g hF j hj) (cwV 1 hts gX3_changeRole_X3_loseMessages rfl rfl rfl (by decide +kernel) ⟨(Nat.le_of_ble_eq_true rfl), (Nat.le_of_ble_eq_true rfl)⟩) (UP.preV hK hP hD (ci := 3) rfl h0) rfl rfl hl.1 rfl (lv_room (Nat.le_of_ble_eq_true rfl)) dX3_changeRole_27 ⟨(Nat.le_of_ble_eq_true rfl), (Nat.le_of_ble_eq_true rfl)⟩) hS hD hA (fun H locs hP hkk hS => ?_)
  refine lv_aload hx hb dX3_changeRole_30 (lv_at hl 0 rfl) ?_
  refine lv_iload_n hx hb dX3_changeRole_32 rfl (lv_at hl 3 rfl) ?_
  refine va_put (D := G) (ci := 1) (v := .int 1) (ty := .int) (C := RX1) (T := TX1) (N := 8) hx hb hts (fun _ h => List.mem_cons_of_mem _ (List.mem_append_left _ (List.mem_append_left _ (List.mem_append_left _ (List.mem_append_right _ h))))) tyX1 tyX1_ok nmX1 hown hK hP hD hS kv hv rfl 1 (by decide) (hts (.fieldLink RX3 31 "ShippedLog$Node" "role" "I") (by decide +kernel)) (fun _ h9 => h9) rfl (by decide +kernel) rfl rfl (Nat.le_of_ble_eq_true rfl) dX3_changeRole_33 (fun H locs hP hD1 hS => ?_)
  have hP : va_P G vwCl (ws.set kv (a, eN lo 1)) H := hP
  have hD1 : va_D A (ws.set kv (a, eN lo 1)) := hD1
  have hv1 : (ws.set kv (a, eN lo 1))[kv]? = some (a, eN lo 1) := List.getElem?_set_self (List.getElem?_eq_some_iff.mp hv).1
  refine lv_aload hx hb dX3_changeRole_36 (lv_at hl 0 rfl) ?_
  refine lv_iload_n hx hb dX3_changeRole_38 rfl (lv_at hl 4 rfl) ?_
  refine b_putS (D := G) (ci := 1) (v := .int (-1)) (ty := .int) (C := RX1) (T := TX1) (N := 8) hx hb hts (fun _ h => List.mem_cons_of_mem _ (List.mem_append_left _ (List.mem_append_left _ (List.mem_append_left _ (List.mem_append_right _ h))))) tyX1 tyX1_ok nmX1 hown hK hP hD1 hS kv hv1 rfl 3 (by decide) (hts (.fieldLink RX3 222 "ShippedLog$Node" "follows" "I") (by decide +kernel)) (fun _ h9 => h9) rfl (by decide +kernel) rfl rfl rfl dX3_changeRole_39 (fun H locs hP hS => ?_)
  have hP4 : va_P G vwCl [(a, eN lo 1), (lo, eL me di), (me, eB (k 2)), (di, eB (k 2))] H := hP.mem (fun q hq => by
      simp only [List.mem_cons, List.not_mem_nil, or_false] at hq
      rcases hq with rfl | rfl | rfl | rfl
      · exact set_new hv
      · exact set_mem hv ml (fun e9 => by cases congrArg Prod.snd e9)
      · exact set_mem hv mm (fun e9 => by cases congrArg Prod.snd e9)
      · exact set_mem hv md (fun e9 => by cases congrArg Prod.snd e9))
  exact W.vret hx hb hr (fun t ht hW => ⟨⟨(), rfl, trivial, (by show va_P G vwCl _ t.heap; rw [ht]; exact hP4)⟩, hS.F ht⟩) hS.2.2 dX3_changeRole_42
set_option maxHeartbeats 4000000 in
set_option maxRecDepth 100000 in
/-- a fresh node becomes idle, as all of it -/
theorem c_takeRole (l : Launch) (G : va_G) (k : Nat → ClassId) (sz : Nat) (ws : va_W) (x nd wy : Nat) (f g : Nat → Option Nat) (hF : FX k ws x nd wy f g) (j : Nat) (hj : j < 4) (a lo me di : Nat) (ha : f j = some a) (ma : (a, eN lo 0) ∈ ws) (ml : (lo, eL me di) ∈ ws) (mm : (me, eB (k 2)) ∈ ws) (md : (di, eB (k 2)) ∈ ws) : Met l yX3_takeRole wsX3_takeRole (({ frames := 4, cells := 0, slots := 0, locals := 120 })) (UP G k sz ws [.ref x, .int (nI j), .int 1, .int (-1)]) (va_Qv (fun (_ : Unit) => True) (fun _ t => va_P G vwCl ([(a, eN lo 1), (lo, eL me di), (me, eB (k 2)), (di, eB (k 2))]) t.heap) (va_A (ws) sz)) 0 0 (va_A ws sz) := by
  refine Met.ofW (cc := cX3_takeRole) (maxL := 5) (ret := none) (by decide) rfl ?_
  intro p e s m args below meth c s₁ B hml hv
  obtain ⟨rfl, hsz, hP, hK, hD0⟩ := hv
  subst hsz
  have hD := hD0.self (sz := s.heap.size)
  generalize hAe : va_A (ws) s.heap.size = A at hD ⊢
  have hA : ∀ q : Nat, s.heap.size ≤ q → A q := fun q h => by rw [← hAe]; exact Or.inr h
  have hS : va_S A s.heap s.heap [] := va_S.rf
  obtain ⟨kx, h0⟩ := List.getElem?_of_mem hF.1
  obtain ⟨kv, hv⟩ := List.getElem?_of_mem ma
  obtain ⟨kl, hvl⟩ := List.getElem?_of_mem ml
  have hx := B.exec
  have hb := B.bytes
  have hr := B.returns
  have hts := atoms_spec (ws := wsX3_takeRole) B.pre
  have hown : s.vm.findClass RX3 = some m.cls := findClass_of_methodNamed B.named
  have hlocks := B.notSynchronized
  have hl := lv_entry ([.ref x, .int (nI j), .int 1, .int (-1)]) (n := 5) (Nat.le_of_ble_eq_true rfl)
  rw [lg_entry_eq]
  generalize (lg_sl ([.ref x, .int (nI j), .int 1, .int (-1)]) ++ List.replicate (5 - (lg_sl ([.ref x, .int (nI j), .int 1, .int (-1)])).length) Slot.unset).toArray = ls at hl ⊢
  have hl : lv_has ls 5 [(0, .ref x), (1, .int (nI j)), (2, .int 1), (3, .int (-1))] := hl
  refine lv_aload_n hx hb dX3_takeRole_0 rfl (lv_at hl 0 rfl) ?_
  refine lv_iload_n hx hb dX3_takeRole_1 rfl (lv_at hl 1 rfl) ?_
  refine bq_call (W.runV (As := [.int (nI j)]) (rest := []) ⟨hx, hb, hml, hown, hts⟩ (c_nodeAt_t l G k ws x nd wy f g hF j hj a ha) (cwV 1 hts gX3_takeRole_X3_nodeAt rfl rfl rfl (by decide +kernel) ⟨(Nat.le_of_ble_eq_true rfl), (Nat.le_of_ble_eq_true rfl)⟩) (PQ.preV hK hP (ci := 3) rfl h0) rfl rfl hl.1 rfl (lv_room (Nat.le_of_ble_eq_true rfl)) dX3_takeRole_2 ⟨(Nat.le_of_ble_eq_true rfl), (Nat.le_of_ble_eq_true rfl)⟩) ?_
  refine lv_astore (lv' := [(4, .ref a), (0, .ref x), (1, .int (nI j)), (2, .int 1), (3, .int (-1))]) hx hb dX3_takeRole_5 hl (by decide) rfl (fun ls hl => ?_)
  refine lv_aload_n hx hb dX3_takeRole_7 rfl (lv_at hl 1 rfl) ?_
  refine lv_iload_n hx hb dX3_takeRole_8 rfl (lv_at hl 2 rfl) ?_
  refine bv_call (W.runV (As := [.int (nI j)]) (rest := []) ⟨hx, hb, hml, hown, hts⟩ (c_leaveStandby l G k ws x nd wy f g hF j hj) (cwV 1 hts gX3_takeRole_X3_leaveStandby rfl rfl rfl (by decide +kernel) ⟨(Nat.le_of_ble_eq_true rfl), (Nat.le_of_ble_eq_true rfl)⟩) (PQ.preV hK hP (ci := 3) rfl h0) rfl rfl hl.1 rfl (lv_room (Nat.le_of_ble_eq_true rfl)) dX3_takeRole_9 ⟨(Nat.le_of_ble_eq_true rfl), (Nat.le_of_ble_eq_true rfl)⟩) ?_
  refine lv_aload hx hb dX3_takeRole_12 (lv_at hl 0 rfl) ?_
  refine va_get (D := G) (ci := 1) (v := .int 0) (C := RX1) (T := TX1) (N := 8) hx hb hts (fun _ h => List.mem_cons_of_mem _ (List.mem_append_left _ (List.mem_append_left _ (List.mem_append_left _ (List.mem_append_left _ (List.mem_append_right _ h)))))) hown hK hP kv hv rfl 1 (by decide) (hts (.fieldLink RX3 31 "ShippedLog$Node" "role" "I") (by decide +kernel)) (fun _ h9 => h9) rfl dX3_takeRole_14 ?_
  refine lv_iconst (v := 2) hx hb dX3_takeRole_17 (by decide) ?_
  refine lv_icmp_ne (tgt := 26) hx hb dX3_takeRole_18 (by decide) (fun _ => ?_) (fun c9 => absurd c9 (by decide : ¬ (0 : Int32) = 2))
  refine lv_aload hx hb dX3_takeRole_26 (lv_at hl 0 rfl) ?_
  refine lv_iconst (v := (-1)) hx hb dX3_takeRole_28 (by decide) ?_
  refine b_putS (D := G) (ci := 1) (v := .int (-1)) (ty := .int) (C := RX1) (T := TX1) (N := 8) hx hb hts (fun _ h => List.mem_cons_of_mem _ (List.mem_append_left _ (List.mem_append_left _ (List.mem_append_left _ (List.mem_append_left _ (List.mem_append_right _ h)))))) tyX1 tyX1_ok nmX1 hown hK hP hD hS kv hv rfl 5 (by decide) (hts (.fieldLink RX3 145 "ShippedLog$Node" "standby" "I") (by decide +kernel)) (fun _ h9 => h9) rfl (by decide +kernel) rfl rfl rfl dX3_takeRole_29 (fun H locs hP hS => ?_)
  refine lv_aload hx hb dX3_takeRole_32 (lv_at hl 0 rfl) ?_
  refine lv_iconst (v := 0) hx hb dX3_takeRole_34 (by decide) ?_
  refine b_putS (D := G) (ci := 1) (v := .int 0) (ty := .int) (C := RX1) (T := TX1) (N := 8) hx hb hts (fun _ h => List.mem_cons_of_mem _ (List.mem_append_left _ (List.mem_append_left _ (List.mem_append_left _ (List.mem_append_left _ (List.mem_append_right _ h)))))) tyX1 tyX1_ok nmX1 hown hK hP hD hS kv hv rfl 6 (by decide) (hts (.fieldLink RX3 128 "ShippedLog$Node" "acknowledged" "I") (by decide +kernel)) (fun _ h9 => h9) rfl (by decide +kernel) rfl rfl rfl dX3_takeRole_35 (fun H locs hP hS => ?_)
  refine lv_aload hx hb dX3_takeRole_38 (lv_at hl 0 rfl) ?_
  refine lv_aload hx hb dX3_takeRole_40 (lv_at hl 0 rfl) ?_
  refine va_get (D := G) (ci := 1) (v := .ref lo) (C := RX1) (T := TX1) (N := 8) hx hb hts (fun _ h => List.mem_cons_of_mem _ (List.mem_append_left _ (List.mem_append_left _ (List.mem_append_left _ (List.mem_append_left _ (List.mem_append_right _ h)))))) hown hK hP kv hv rfl 0 (by decide) (hts (.fieldLink RX3 45 "ShippedLog$Node" "log" "LShippedLog$Log;") (by decide +kernel)) (fun _ h9 => h9) rfl dX3_takeRole_42 ?_
  refine va_get (D := G) (ci := 0) (v := .int 0) (C := RX0) (T := TX0) (N := 4) hx hb hts (fun _ h => List.mem_cons_of_mem _ (List.mem_append_left _ (List.mem_append_left _ (List.mem_append_left _ (List.mem_append_right _ h))))) hown hK hP kl hvl rfl 2 (by decide) (hts (.fieldLink RX3 54 "ShippedLog$Log" "end" "I") (by decide +kernel)) (fun _ h9 => h9) rfl dX3_takeRole_45 ?_
  refine b_putS (D := G) (ci := 1) (v := .int 0) (ty := .int) (C := RX1) (T := TX1) (N := 8) hx hb hts (fun _ h => List.mem_cons_of_mem _ (List.mem_append_left _ (List.mem_append_left _ (List.mem_append_left _ (List.mem_append_left _ (List.mem_append_right _ h)))))) tyX1 tyX1_ok nmX1 hown hK hP hD hS kv hv rfl 4 (by decide) (hts (.fieldLink RX3 162 "ShippedLog$Node" "known" "I") (by decide +kernel)) (fun _ h9 => h9) rfl (by decide +kernel) rfl rfl rfl dX3_takeRole_48 (fun H locs hP hS => ?_)
  refine lv_aload_n hx hb dX3_takeRole_51 rfl (lv_at hl 1 rfl) ?_
  refine lv_iload_n hx hb dX3_takeRole_52 rfl (lv_at hl 2 rfl) ?_
  refine lv_iload_n hx hb dX3_takeRole_53 rfl (lv_at hl 3 rfl) ?_
  refine lv_iload_n hx hb dX3_takeRole_54 rfl (lv_at hl 4 rfl) ?_
  refine uv_call (va_runV (As := [.int (nI j), .int 1, .int (-1)]) (rest := []) ⟨hx, hb, hml, hown, hts⟩ (c_changeRole l G k _ ws x nd wy f g hF j hj a lo me di ha ma ml mm md) (cwV 3 hts gX3_takeRole_X3_changeRole rfl rfl rfl (by decide +kernel) ⟨(Nat.le_of_ble_eq_true rfl), (Nat.le_of_ble_eq_true rfl)⟩) (UP.preV hK hP hD (ci := 3) rfl h0) rfl rfl hl.1 rfl (lv_room (Nat.le_of_ble_eq_true rfl)) dX3_takeRole_55 ⟨(Nat.le_of_ble_eq_true rfl), (Nat.le_of_ble_eq_true rfl)⟩) hS hD hA (fun H locs hP hkk hS => ?_)
  exact W.vret hx hb hr (fun t ht hW => ⟨⟨(), rfl, trivial, (by show va_P G vwCl _ t.heap; rw [ht]; exact hP)⟩, hS.F ht⟩) hS.2.2 dX3_takeRole_58
theorem cpy_0 {a b n : Nat} : va_cpy (fun _ : Nat => (0 : Int32)) (fun _ => 0) a b n = fun _ => 0 := by
  funext z
  unfold va_cpy
  split <;> rfl
set_option maxHeartbeats 4000000 in
set_option maxRecDepth 100000 in
/-- zeros over zeros -/
theorem c_copy (l : Launch) (G : va_G) (k : Nat → ClassId) (sz : Nat) (di me : Nat) : Met l yX0_copy wsX0_copy (({ frames := 1, cells := 0, slots := 0, locals := 60 })) (UP G k sz [(di, eB (k 2)), (me, eB (k 2))] [.ref di, .ref me, .int 0, .int 4096]) (va_Qv (fun (_ : Unit) => True) (fun _ t => va_P G vwCl ([(di, eB (k 2)), (me, eB (k 2))]) t.heap) (va_A ([(di, eB (k 2)), (me, eB (k 2))]) sz)) 0 0 (va_A [(di, eB (k 2)), (me, eB (k 2))] sz) := by
  refine Met.ofW (cc := cX0_copy) (maxL := 4) (ret := none) (by decide) rfl ?_
  intro p e s m args below meth c s₁ B hml hv
  obtain ⟨rfl, hsz, hP, hK, hD0⟩ := hv
  subst hsz
  have hD := hD0.self (sz := s.heap.size)
  generalize hAe : va_A ([(di, eB (k 2)), (me, eB (k 2))]) s.heap.size = A at hD ⊢
  have hA : ∀ q : Nat, s.heap.size ≤ q → A q := fun q h => by rw [← hAe]; exact Or.inr h
  have hS : va_S A s.heap s.heap [] := va_S.rf
  have hx := B.exec
  have hb := B.bytes
  have hr := B.returns
  have hts := atoms_spec (ws := wsX0_copy) B.pre
  have hown : s.vm.findClass RX0 = some m.cls := findClass_of_methodNamed B.named
  have hlocks := B.notSynchronized
  have hl := lv_entry ([.ref di, .ref me, .int 0, .int 4096]) (n := 4) (Nat.le_of_ble_eq_true rfl)
  rw [lg_entry_eq]
  generalize (lg_sl ([.ref di, .ref me, .int 0, .int 4096]) ++ List.replicate (4 - (lg_sl ([.ref di, .ref me, .int 0, .int 4096])).length) Slot.unset).toArray = ls at hl ⊢
  have hl : lv_has ls 4 [(0, .ref di), (1, .ref me), (2, .int 0), (3, .int 4096)] := hl
  refine lv_iload_n hx hb dX0_copy_0 rfl (lv_at hl 2 rfl) ?_
  refine lv_if_lt (tgt := 25) hx hb dX0_copy_1 (by decide) (fun c9 => absurd c9 (by decide : ¬ (0 : Int32) < 0)) (fun _ => ?_)
  refine lv_iload_n hx hb dX0_copy_4 rfl (lv_at hl 3 rfl) ?_
  refine lv_if_le (tgt := 25) hx hb dX0_copy_5 (by decide) (fun c9 => absurd c9 (by decide : ¬ (4096 : Int32) ≤ 0)) (fun _ => ?_)
  refine lv_iload_n hx hb dX0_copy_8 rfl (lv_at hl 2 rfl) ?_
  refine lv_sipush (v := 4096) hx hb dX0_copy_9 (by decide) ?_
  refine lv_iload_n hx hb dX0_copy_12 rfl (lv_at hl 3 rfl) ?_
  refine lv_isub hx hb dX0_copy_13 ?_
  refine lv_icmp_gt (tgt := 25) hx hb dX0_copy_14 (by decide) (fun c9 => absurd c9 (by decide : ¬ (4096 - 4096 : Int32) < 0)) (fun _ => ?_)
  refine lv_aload_n hx hb dX0_copy_17 rfl (lv_at hl 0 rfl) ?_
  refine lv_iload_n hx hb dX0_copy_18 rfl (lv_at hl 2 rfl) ?_
  refine lv_aload_n hx hb dX0_copy_19 rfl (lv_at hl 1 rfl) ?_
  refine lv_iload_n hx hb dX0_copy_20 rfl (lv_at hl 2 rfl) ?_
  refine lv_iload_n hx hb dX0_copy_21 rfl (lv_at hl 3 rfl) ?_
  refine va_copyi hx hb (hml.trans hl.1.symm) hown (hts (.methodLink RX0 81 arraycopyName) (by decide +kernel)) (hts (.native arraycopyName) (by decide +kernel)) (hts (.static arraycopyName) (by decide +kernel)) (hts (.initialized "java/lang/System") (by decide +kernel)) hK hP hD hS 0 1 2 2 rfl rfl (ty := .byte) rfl rfl rfl (by decide) (by decide) (by decide) (Nat.le_of_ble_eq_true rfl) (Nat.le_of_ble_eq_true rfl) (fun _ _ => rfl) (Nat.le_of_ble_eq_true rfl) (Nat.le_of_ble_eq_true rfl) dX0_copy_22 (fun H locs hP hD hS => ?_)
  rw [cpy_0] at hP
  exact W.vret hx hb hr (fun t ht hW => ⟨⟨(), rfl, trivial, (by show va_P G vwCl _ t.heap; rw [ht]; exact hP)⟩, hS.F ht⟩) hS.2.2 dX0_copy_25
set_option maxHeartbeats 4000000 in
set_option maxRecDepth 100000 in
/-- a byte -/
theorem c_byteOf (l : Launch) (G : va_G) (k : Nat → ClassId) (ws : va_W) (lo me di : Nat) (ml : (lo, eL me di) ∈ ws) (mm : (me, eB (k 2)) ∈ ws) (v : Int32) (hv0 : ¬ v < 0) (hv1 : ¬ 4096 ≤ v) (hin : vp_in v 4096) : Met l yX0_byteOf wsX0_byteOf (rz0) (PQ G k ws [.ref lo, .int v]) (QcRead 0) 0 0 (fun _ => False) := by
  refine Met.ofW (cc := cX0_byteOf) (maxL := 2) (ret := (some .int)) (by decide) rfl ?_
  intro p e s m args below meth c s₁ B hml hv
  obtain ⟨rfl, hP, hK⟩ := hv
  obtain ⟨kl, hvl⟩ := List.getElem?_of_mem ml
  obtain ⟨kb, hvb⟩ := List.getElem?_of_mem mm
  have hx := B.exec
  have hb := B.bytes
  have hr := B.returns
  have hts := atoms_spec (ws := wsX0_byteOf) B.pre
  have hown : s.vm.findClass RX0 = some m.cls := findClass_of_methodNamed B.named
  have hlocks := B.notSynchronized
  have hl := lv_entry ([.ref lo, .int v]) (n := 2) (Nat.le_of_ble_eq_true rfl)
  rw [lg_entry_eq]
  generalize (lg_sl ([.ref lo, .int v]) ++ List.replicate (2 - (lg_sl ([.ref lo, .int v])).length) Slot.unset).toArray = ls at hl ⊢
  have hl : lv_has ls 2 [(0, .ref lo), (1, .int v)] := hl
  refine lv_iload_n hx hb dX0_byteOf_0 rfl (lv_at hl 1 rfl) ?_
  refine lv_if_lt (tgt := 24) hx hb dX0_byteOf_1 (by decide) (fun c9 => absurd c9 hv0) (fun _ => ?_)
  refine lv_iload_n hx hb dX0_byteOf_4 rfl (lv_at hl 1 rfl) ?_
  refine lv_sipush (v := 4096) hx hb dX0_byteOf_5 (by decide) ?_
  refine lv_icmp_ge (tgt := 24) hx hb dX0_byteOf_8 (by decide) (fun c9 => absurd c9 hv1) (fun _ => ?_)
  refine lv_aload_n hx hb dX0_byteOf_11 rfl (lv_at hl 0 rfl) ?_
  refine va_get (D := G) (ci := 0) (v := .ref me) (C := RX0) (T := TX0) (N := 4) hx hb hts (fun _ h => List.mem_cons_of_mem _ (List.mem_append_right _ h)) hown hK hP kl hvl rfl 0 (by decide) (hts (.fieldLink RX0 9 "ShippedLog$Log" "memory" "[B") (by decide +kernel)) (fun _ h9 => h9) rfl dX0_byteOf_12 ?_
  refine lv_iload_n hx hb dX0_byteOf_15 rfl (lv_at hl 1 rfl) ?_
  refine va_bald hx hb hK hP kb 2 hvb rfl hin dX0_byteOf_16 ?_
  refine lv_sipush (v := 255) hx hb dX0_byteOf_17 (by decide) ?_
  refine lv_iand hx hb dX0_byteOf_20 ?_
  refine lv_goto (tgt := 25) hx hb dX0_byteOf_21 (by decide) ?_
  exact W.iret (v := (0 : Int32) &&& 255) hx hb hr (fun t ht hW => ⟨by rw [show (0 : Int32) &&& 255 = 0 from by decide], ht⟩) (fun q h => by cases h) dX0_byteOf_25
set_option maxHeartbeats 4000000 in
set_option maxRecDepth 100000 in
/-- a kind -/
theorem c_kindAt (l : Launch) (G : va_G) (k : Nat → ClassId) (ws : va_W) (lo me di : Nat) (ml : (lo, eL me di) ∈ ws) (mm : (me, eB (k 2)) ∈ ws) (v : Int32) (hv0 : ¬ v < 0) (hv1 : ¬ 4096 ≤ v) (hin : vp_in v 4096) : Met l yX0_kindAt wsX0_kindAt (rz1) (PQ G k ws [.ref lo, .int v]) (QcRead 0) 0 0 (fun _ => False) := by
  refine Met.ofW (cc := cX0_kindAt) (maxL := 2) (ret := (some .int)) (by decide) rfl ?_
  intro p e s m args below meth c s₁ B hml hv
  obtain ⟨rfl, hP, hK⟩ := hv
  obtain ⟨kl, hvl⟩ := List.getElem?_of_mem ml
  obtain ⟨kb, hvb⟩ := List.getElem?_of_mem mm
  have hx := B.exec
  have hb := B.bytes
  have hr := B.returns
  have hts := atoms_spec (ws := wsX0_kindAt) B.pre
  have hown : s.vm.findClass RX0 = some m.cls := findClass_of_methodNamed B.named
  have hlocks := B.notSynchronized
  have hl := lv_entry ([.ref lo, .int v]) (n := 2) (Nat.le_of_ble_eq_true rfl)
  rw [lg_entry_eq]
  generalize (lg_sl ([.ref lo, .int v]) ++ List.replicate (2 - (lg_sl ([.ref lo, .int v])).length) Slot.unset).toArray = ls at hl ⊢
  have hl : lv_has ls 2 [(0, .ref lo), (1, .int v)] := hl
  refine lv_aload_n hx hb dX0_kindAt_0 rfl (lv_at hl 0 rfl) ?_
  refine lv_iload_n hx hb dX0_kindAt_1 rfl (lv_at hl 1 rfl) ?_
  refine br_call (W.runV (As := [.int v]) (rest := []) ⟨hx, hb, hml, hown, hts⟩ (c_byteOf l G k ws lo me di ml mm v hv0 hv1 hin) (cwV 1 hts gX0_kindAt_X0_byteOf rfl rfl rfl (by decide +kernel) ⟨(Nat.le_of_ble_eq_true rfl), (Nat.le_of_ble_eq_true rfl)⟩) (PQ.preV hK hP (ci := 0) rfl hvl) rfl rfl hl.1 rfl (lv_room (Nat.le_of_ble_eq_true rfl)) dX0_kindAt_2 ⟨(Nat.le_of_ble_eq_true rfl), (Nat.le_of_ble_eq_true rfl)⟩) ?_
  exact W.iret (v := 0) hx hb hr (fun t ht hW => ⟨rfl, ht⟩) (fun q h => by cases h) dX0_kindAt_5
set_option maxHeartbeats 4000000 in
set_option maxRecDepth 100000 in
/-- a timeline -/
theorem c_timelineAt (l : Launch) (G : va_G) (k : Nat → ClassId) (ws : va_W) (lo me di : Nat) (ml : (lo, eL me di) ∈ ws) (mm : (me, eB (k 2)) ∈ ws) (v : Int32) (hv0 : ¬ v + 1 < 0) (hv1 : ¬ 4096 ≤ v + 1) (hin : vp_in (v + 1) 4096) : Met l yX0_timelineAt wsX0_timelineAt (rz1) (PQ G k ws [.ref lo, .int v]) (QcRead 0) 0 0 (fun _ => False) := by
  refine Met.ofW (cc := cX0_timelineAt) (maxL := 2) (ret := (some .int)) (by decide) rfl ?_
  intro p e s m args below meth c s₁ B hml hv
  obtain ⟨rfl, hP, hK⟩ := hv
  obtain ⟨kl, hvl⟩ := List.getElem?_of_mem ml
  obtain ⟨kb, hvb⟩ := List.getElem?_of_mem mm
  have hx := B.exec
  have hb := B.bytes
  have hr := B.returns
  have hts := atoms_spec (ws := wsX0_timelineAt) B.pre
  have hown : s.vm.findClass RX0 = some m.cls := findClass_of_methodNamed B.named
  have hlocks := B.notSynchronized
  have hl := lv_entry ([.ref lo, .int v]) (n := 2) (Nat.le_of_ble_eq_true rfl)
  rw [lg_entry_eq]
  generalize (lg_sl ([.ref lo, .int v]) ++ List.replicate (2 - (lg_sl ([.ref lo, .int v])).length) Slot.unset).toArray = ls at hl ⊢
  have hl : lv_has ls 2 [(0, .ref lo), (1, .int v)] := hl
  refine lv_aload_n hx hb dX0_timelineAt_0 rfl (lv_at hl 0 rfl) ?_
  refine lv_iload_n hx hb dX0_timelineAt_1 rfl (lv_at hl 1 rfl) ?_
  refine lv_iconst (v := 1) hx hb dX0_timelineAt_2 (by decide) ?_
  refine lv_iadd hx hb dX0_timelineAt_3 ?_
  refine br_call (W.runV (As := [.int (v + 1)]) (rest := []) ⟨hx, hb, hml, hown, hts⟩ (c_byteOf l G k ws lo me di ml mm (v + 1) hv0 hv1 hin) (cwV 1 hts gX0_timelineAt_X0_byteOf rfl rfl rfl (by decide +kernel) ⟨(Nat.le_of_ble_eq_true rfl), (Nat.le_of_ble_eq_true rfl)⟩) (PQ.preV hK hP (ci := 0) rfl hvl) rfl rfl hl.1 rfl (lv_room (Nat.le_of_ble_eq_true rfl)) dX0_timelineAt_4 ⟨(Nat.le_of_ble_eq_true rfl), (Nat.le_of_ble_eq_true rfl)⟩) ?_
  exact W.iret (v := 0) hx hb hr (fun t ht hW => ⟨rfl, ht⟩) (fun q h => by cases h) dX0_timelineAt_7
set_option maxHeartbeats 4000000 in
set_option maxRecDepth 100000 in
/-- no record, no timeline -/
theorem c_lastTimeline (l : Launch) (G : va_G) (k : Nat → ClassId) (ws : va_W) (lo me di : Nat) (ml : (lo, eL me di) ∈ ws) (mm : (me, eB (k 2)) ∈ ws) : Met l yX0_lastTimeline wsX0_lastTimeline (rz0) (PQ G k ws [.ref lo]) (QcRead 0) 0 0 (fun _ => False) := by
  refine Met.ofW (cc := cX0_lastTimeline) (maxL := 1) (ret := (some .int)) (by decide) rfl ?_
  intro p e s m args below meth c s₁ B hml hv
  obtain ⟨rfl, hP, hK⟩ := hv
  obtain ⟨kl, hvl⟩ := List.getElem?_of_mem ml
  obtain ⟨kb, hvb⟩ := List.getElem?_of_mem mm
  have hx := B.exec
  have hb := B.bytes
  have hr := B.returns
  have hts := atoms_spec (ws := wsX0_lastTimeline) B.pre
  have hown : s.vm.findClass RX0 = some m.cls := findClass_of_methodNamed B.named
  have hlocks := B.notSynchronized
  have hl := lv_entry ([.ref lo]) (n := 1) (Nat.le_of_ble_eq_true rfl)
  rw [lg_entry_eq]
  generalize (lg_sl ([.ref lo]) ++ List.replicate (1 - (lg_sl ([.ref lo])).length) Slot.unset).toArray = ls at hl ⊢
  have hl : lv_has ls 1 [(0, .ref lo)] := hl
  refine lv_aload_n hx hb dX0_lastTimeline_0 rfl (lv_at hl 0 rfl) ?_
  refine va_get (D := G) (ci := 0) (v := .int 0) (C := RX0) (T := TX0) (N := 4) hx hb hts (fun _ h => List.mem_cons_of_mem _ (List.mem_append_right _ h)) hown hK hP kl hvl rfl 2 (by decide) (hts (.fieldLink RX0 18 "ShippedLog$Log" "end" "I") (by decide +kernel)) (fun _ h9 => h9) rfl dX0_lastTimeline_1 ?_
  refine lv_if_ne (tgt := 11) hx hb dX0_lastTimeline_4 (by decide) (fun c9 => absurd rfl c9) (fun _ => ?_)
  refine lv_iconst (v := 0) hx hb dX0_lastTimeline_7 (by decide) ?_
  refine lv_goto (tgt := 22) hx hb dX0_lastTimeline_8 (by decide) ?_
  exact W.iret (v := 0) hx hb hr (fun t ht hW => ⟨rfl, ht⟩) (fun q h => by cases h) dX0_lastTimeline_22
set_option maxHeartbeats 4000000 in
set_option maxRecDepth 100000 in
/-- zeros are no good record -/
theorem c_hasGoodRecord (l : Launch) (G : va_G) (k : Nat → ClassId) (ws : va_W) (lo me di : Nat) (ml : (lo, eL me di) ∈ ws) (mm : (me, eB (k 2)) ∈ ws) : Met l yX0_hasGoodRecord wsX0_hasGoodRecord (rz2) (PQ G k ws [.ref lo, .int 0, .int 0]) (QcRead 0) 0 0 (fun _ => False) := by
  refine Met.ofW (cc := cX0_hasGoodRecord) (maxL := 7) (ret := (some .boolean)) (by decide) rfl ?_
  intro p e s m args below meth c s₁ B hml hv
  obtain ⟨rfl, hP, hK⟩ := hv
  obtain ⟨kl, hvl⟩ := List.getElem?_of_mem ml
  obtain ⟨kb, hvb⟩ := List.getElem?_of_mem mm
  have hx := B.exec
  have hb := B.bytes
  have hr := B.returns
  have hts := atoms_spec (ws := wsX0_hasGoodRecord) B.pre
  have hown : s.vm.findClass RX0 = some m.cls := findClass_of_methodNamed B.named
  have hlocks := B.notSynchronized
  have hl := lv_entry ([.ref lo, .int 0, .int 0]) (n := 7) (Nat.le_of_ble_eq_true rfl)
  rw [lg_entry_eq]
  generalize (lg_sl ([.ref lo, .int 0, .int 0]) ++ List.replicate (7 - (lg_sl ([.ref lo, .int 0, .int 0])).length) Slot.unset).toArray = ls at hl ⊢
  have hl : lv_has ls 7 [(0, .ref lo), (1, .int 0), (2, .int 0)] := hl
  refine lv_iload_n hx hb dX0_hasGoodRecord_0 rfl (lv_at hl 1 rfl) ?_
  refine lv_if_lt (tgt := 11) hx hb dX0_hasGoodRecord_1 (by decide) (fun c9 => absurd c9 (by decide : ¬ (0 : Int32) < 0)) (fun _ => ?_)
  refine lv_iload_n hx hb dX0_hasGoodRecord_4 rfl (lv_at hl 1 rfl) ?_
  refine lv_sipush (v := 4080) hx hb dX0_hasGoodRecord_5 (by decide) ?_
  refine lv_icmp_le (tgt := 13) hx hb dX0_hasGoodRecord_8 (by decide) (fun _ => ?_) (fun c9 => absurd (by decide : (0 : Int32) ≤ 4080) c9)
  refine lv_aload_n hx hb dX0_hasGoodRecord_13 rfl (lv_at hl 0 rfl) ?_
  refine lv_iload_n hx hb dX0_hasGoodRecord_14 rfl (lv_at hl 1 rfl) ?_
  refine br_call (W.runV (As := [.int 0]) (rest := []) ⟨hx, hb, hml, hown, hts⟩ (c_kindAt l G k ws lo me di ml mm 0 (by decide) (by decide) (vp_in_nI (n := 0) (by decide) (by decide))) (cwV 1 hts gX0_hasGoodRecord_X0_kindAt rfl rfl rfl (by decide +kernel) ⟨(Nat.le_of_ble_eq_true rfl), (Nat.le_of_ble_eq_true rfl)⟩) (PQ.preV hK hP (ci := 0) rfl hvl) rfl rfl hl.1 rfl (lv_room (Nat.le_of_ble_eq_true rfl)) dX0_hasGoodRecord_15 ⟨(Nat.le_of_ble_eq_true rfl), (Nat.le_of_ble_eq_true rfl)⟩) ?_
  refine lv_istore_n (lv' := [(3, .int 0), (0, .ref lo), (1, .int 0), (2, .int 0)]) hx hb dX0_hasGoodRecord_18 rfl hl (by decide) rfl (fun ls hl => ?_)
  refine lv_aload_n hx hb dX0_hasGoodRecord_19 rfl (lv_at hl 1 rfl) ?_
  refine lv_iload_n hx hb dX0_hasGoodRecord_20 rfl (lv_at hl 2 rfl) ?_
  refine br_call (W.runV (As := [.int 0]) (rest := []) ⟨hx, hb, hml, hown, hts⟩ (c_timelineAt l G k ws lo me di ml mm 0 (by decide) (by decide) (vp_in_nI (n := 1) (by decide) (by decide))) (cwV 1 hts gX0_hasGoodRecord_X0_timelineAt rfl rfl rfl (by decide +kernel) ⟨(Nat.le_of_ble_eq_true rfl), (Nat.le_of_ble_eq_true rfl)⟩) (PQ.preV hK hP (ci := 0) rfl hvl) rfl rfl hl.1 rfl (lv_room (Nat.le_of_ble_eq_true rfl)) dX0_hasGoodRecord_21 ⟨(Nat.le_of_ble_eq_true rfl), (Nat.le_of_ble_eq_true rfl)⟩) ?_
  refine lv_istore (lv' := [(4, .int 0), (3, .int 0), (0, .ref lo), (1, .int 0), (2, .int 0)]) hx hb dX0_hasGoodRecord_24 hl (by decide) rfl (fun ls hl => ?_)
  refine lv_iload hx hb dX0_hasGoodRecord_26 (lv_at hl 0 rfl) ?_
  refine lv_iload_n hx hb dX0_hasGoodRecord_28 rfl (lv_at hl 4 rfl) ?_
  refine lv_icmp_ne (tgt := 36) hx hb dX0_hasGoodRecord_29 (by decide) (fun c9 => absurd rfl c9) (fun _ => ?_)
  refine lv_iconst (v := 1) hx hb dX0_hasGoodRecord_32 (by decide) ?_
  refine lv_goto (tgt := 37) hx hb dX0_hasGoodRecord_33 (by decide) ?_
  refine lv_istore (lv' := [(5, .int 1), (4, .int 0), (3, .int 0), (0, .ref lo), (1, .int 0), (2, .int 0)]) hx hb dX0_hasGoodRecord_37 hl (by decide) rfl (fun ls hl => ?_)
  refine lv_iload hx hb dX0_hasGoodRecord_39 (lv_at hl 1 rfl) ?_
  refine lv_iload_n hx hb dX0_hasGoodRecord_41 rfl (lv_at hl 5 rfl) ?_
  refine lv_icmp_le (tgt := 54) hx hb dX0_hasGoodRecord_42 (by decide) (fun _ => ?_) (fun c9 => absurd (by decide : (0 : Int32) ≤ 0) c9)
  refine lv_iconst (v := 0) hx hb dX0_hasGoodRecord_54 (by decide) ?_
  refine lv_istore (lv' := [(6, .int 0), (5, .int 1), (4, .int 0), (3, .int 0), (0, .ref lo), (1, .int 0), (2, .int 0)]) hx hb dX0_hasGoodRecord_55 hl (by decide) rfl (fun ls hl => ?_)
  refine lv_iload_n hx hb dX0_hasGoodRecord_57 rfl (lv_at hl 3 rfl) ?_
  refine lv_iconst (v := 1) hx hb dX0_hasGoodRecord_58 (by decide) ?_
  refine lv_icmp_lt (tgt := 109) hx hb dX0_hasGoodRecord_59 (by decide) (fun _ => ?_) (fun c9 => absurd (by decide : (0 : Int32) < 1) c9)
  refine lv_iconst (v := 0) hx hb dX0_hasGoodRecord_109 (by decide) ?_
  exact W.zret (ty := .boolean) (v := 0) hx hb hr rfl (fun t ht hW => ⟨rfl, ht⟩) (fun q h => by cases h) dX0_hasGoodRecord_110
set_option maxHeartbeats 4000000 in
set_option maxRecDepth 100000 in
/-- an empty disk -/
theorem c_loadFromDisk (l : Launch) (G : va_G) (k : Nat → ClassId) (sz : Nat) (lo me di : Nat) : Met l yX0_loadFromDisk wsX0_loadFromDisk (({ frames := 4, cells := 0, slots := 0, locals := 120 })) (UP G k sz [(lo, eL me di), (me, eB (k 2)), (di, eB (k 2))] [.ref lo]) (va_Qv (fun (_ : Unit) => True) (fun _ t => va_P G vwCl ([(lo, eL me di), (me, eB (k 2)), (di, eB (k 2))]) t.heap) (va_A ([(lo, eL me di), (me, eB (k 2)), (di, eB (k 2))]) sz)) 0 0 (va_A [(lo, eL me di), (me, eB (k 2)), (di, eB (k 2))] sz) := by
  refine Met.ofW (cc := cX0_loadFromDisk) (maxL := 1) (ret := none) (by decide) rfl ?_
  intro p e s m args below meth c s₁ B hml hv
  obtain ⟨rfl, hsz, hP, hK, hD0⟩ := hv
  subst hsz
  have hD := hD0.self (sz := s.heap.size)
  generalize hAe : va_A ([(lo, eL me di), (me, eB (k 2)), (di, eB (k 2))]) s.heap.size = A at hD ⊢
  have hA : ∀ q : Nat, s.heap.size ≤ q → A q := fun q h => by rw [← hAe]; exact Or.inr h
  have hS : va_S A s.heap s.heap [] := va_S.rf
  have hx := B.exec
  have hb := B.bytes
  have hr := B.returns
  have hts := atoms_spec (ws := wsX0_loadFromDisk) B.pre
  have hown : s.vm.findClass RX0 = some m.cls := findClass_of_methodNamed B.named
  have hlocks := B.notSynchronized
  have hl := lv_entry ([.ref lo]) (n := 1) (Nat.le_of_ble_eq_true rfl)
  rw [lg_entry_eq]
  generalize (lg_sl ([.ref lo]) ++ List.replicate (1 - (lg_sl ([.ref lo])).length) Slot.unset).toArray = ls at hl ⊢
  have hl : lv_has ls 1 [(0, .ref lo)] := hl
  refine lv_aload_n hx hb dX0_loadFromDisk_0 rfl (lv_at hl 0 rfl) ?_
  refine va_get (D := G) (ci := 0) (v := .ref di) (C := RX0) (T := TX0) (N := 4) hx hb hts (fun _ h => List.mem_cons_of_mem _ (List.mem_append_right _ h)) hown hK hP 0 rfl rfl 1 (by decide) (hts (.fieldLink RX0 15 "ShippedLog$Log" "disk" "[B") (by decide +kernel)) (fun _ h9 => h9) rfl dX0_loadFromDisk_1 ?_
  refine lv_aload_n hx hb dX0_loadFromDisk_4 rfl (lv_at hl 0 rfl) ?_
  refine va_get (D := G) (ci := 0) (v := .ref me) (C := RX0) (T := TX0) (N := 4) hx hb hts (fun _ h => List.mem_cons_of_mem _ (List.mem_append_right _ h)) hown hK hP 0 rfl rfl 0 (by decide) (hts (.fieldLink RX0 9 "ShippedLog$Log" "memory" "[B") (by decide +kernel)) (fun _ h9 => h9) rfl dX0_loadFromDisk_5 ?_
  refine lv_iconst (v := 0) hx hb dX0_loadFromDisk_8 (by decide) ?_
  refine lv_sipush (v := 4096) hx hb dX0_loadFromDisk_9 (by decide) ?_
  refine uv_call (va_runS (As := [.ref di, .ref me, .int 0, .int 4096]) (rest := []) ⟨hx, hb, hml, hown, hts⟩ (c_copy l G k _ di me) (va_cwS 4 hts gX0_loadFromDisk_X0_copy rfl rfl rfl (by decide +kernel) ⟨(Nat.le_of_ble_eq_true rfl), (Nat.le_of_ble_eq_true rfl)⟩) (UP.preS hK (hP.sub (ws' := [(di, eB (k 2)), (me, eB (k 2))]) [2, 1] rfl) (hD.sub (ws' := [(di, eB (k 2)), (me, eB (k 2))]) [2, 1] (by decide) rfl)) rfl rfl hl.1 rfl (lv_room (Nat.le_of_ble_eq_true rfl)) dX0_loadFromDisk_12 ⟨(Nat.le_of_ble_eq_true rfl), (Nat.le_of_ble_eq_true rfl)⟩) hS (hD.sub (ws' := [(di, eB (k 2)), (me, eB (k 2))]) [2, 1] (by decide) rfl) hA (fun H locs hP2 hkk hS => ?_)
  have hPl : va_P G vwCl [(lo, eL me di)] H := hP.keep hD (wc := [(di, eB (k 2)), (me, eB (k 2))]) (fun q hq => by simp only [List.mem_cons, List.not_mem_nil, or_false] at hq ⊢; rcases hq with rfl | rfl <;> simp) (fun q hq => by
    rw [List.mem_singleton.mp hq]
    exact ⟨List.mem_cons_self, fun h => by
      simp only [List.mem_cons, List.not_mem_nil, or_false] at h
      rcases h with h | h <;> cases congrArg Prod.snd h⟩) hkk
  have hP : va_P G vwCl [(lo, eL me di), (me, eB (k 2)), (di, eB (k 2))] H := (hPl.app hP2).sub [0, 2, 1] rfl
  refine lv_aload_n hx hb dX0_loadFromDisk_15 rfl (lv_at hl 0 rfl) ?_
  refine lv_iconst (v := 0) hx hb dX0_loadFromDisk_16 (by decide) ?_
  refine b_putS (D := G) (ci := 0) (v := .int 0) (ty := .int) (C := RX0) (T := TX0) (N := 4) hx hb hts (fun _ h => List.mem_cons_of_mem _ (List.mem_append_right _ h)) tyX0 tyX0_ok nmX0 hown hK hP hD hS 0 rfl rfl 2 (by decide) (hts (.fieldLink RX0 18 "ShippedLog$Log" "end" "I") (by decide +kernel)) (fun _ h9 => h9) rfl (by decide +kernel) rfl rfl rfl dX0_loadFromDisk_17 (fun H locs hP hS => ?_)
  refine lv_aload_n hx hb dX0_loadFromDisk_20 rfl (lv_at hl 0 rfl) ?_
  refine va_get (D := G) (ci := 0) (v := .int 0) (C := RX0) (T := TX0) (N := 4) hx hb hts (fun _ h => List.mem_cons_of_mem _ (List.mem_append_right _ h)) hown hK hP 0 rfl rfl 2 (by decide) (hts (.fieldLink RX0 18 "ShippedLog$Log" "end" "I") (by decide +kernel)) (fun _ h9 => h9) rfl dX0_loadFromDisk_21 ?_
  refine lv_sipush (v := 4096) hx hb dX0_loadFromDisk_24 (by decide) ?_
  refine lv_icmp_ge (tgt := 59) hx hb dX0_loadFromDisk_27 (by decide) (fun c9 => absurd c9 (by decide : ¬ (4096 : Int32) ≤ 0)) (fun _ => ?_)
  refine lv_aload_n hx hb dX0_loadFromDisk_30 rfl (lv_at hl 0 rfl) ?_
  refine lv_aload_n hx hb dX0_loadFromDisk_31 rfl (lv_at hl 0 rfl) ?_
  refine va_get (D := G) (ci := 0) (v := .int 0) (C := RX0) (T := TX0) (N := 4) hx hb hts (fun _ h => List.mem_cons_of_mem _ (List.mem_append_right _ h)) hown hK hP 0 rfl rfl 2 (by decide) (hts (.fieldLink RX0 18 "ShippedLog$Log" "end" "I") (by decide +kernel)) (fun _ h9 => h9) rfl dX0_loadFromDisk_32 ?_
  refine lv_aload_n hx hb dX0_loadFromDisk_35 rfl (lv_at hl 0 rfl) ?_
  refine br_call (W.runV (As := []) (rest := [.int 0, .ref lo]) ⟨hx, hb, hml, hown, hts⟩ (c_lastTimeline l G k [(lo, eL me di), (me, eB (k 2)), (di, eB (k 2))] lo me di List.mem_cons_self (List.mem_cons_of_mem _ List.mem_cons_self)) (cwV 0 hts gX0_loadFromDisk_X0_lastTimeline rfl rfl rfl (by decide +kernel) ⟨(Nat.le_of_ble_eq_true rfl), (Nat.le_of_ble_eq_true rfl)⟩) (PQ.preV hK hP (ci := 0) (q0 := 0) rfl rfl) rfl rfl hl.1 rfl (lv_room (Nat.le_of_ble_eq_true rfl)) dX0_loadFromDisk_36 ⟨(Nat.le_of_ble_eq_true rfl), (Nat.le_of_ble_eq_true rfl)⟩) ?_
  refine br_call (W.runV (As := [.int 0, .int 0]) (rest := []) ⟨hx, hb, hml, hown, hts⟩ (c_hasGoodRecord l G k [(lo, eL me di), (me, eB (k 2)), (di, eB (k 2))] lo me di List.mem_cons_self (List.mem_cons_of_mem _ List.mem_cons_self)) (cwV 2 hts gX0_loadFromDisk_X0_hasGoodRecord rfl rfl rfl (by decide +kernel) ⟨(Nat.le_of_ble_eq_true rfl), (Nat.le_of_ble_eq_true rfl)⟩) (PQ.preV hK hP (ci := 0) (q0 := 0) rfl rfl) rfl rfl hl.1 rfl (lv_room (Nat.le_of_ble_eq_true rfl)) dX0_loadFromDisk_39 ⟨(Nat.le_of_ble_eq_true rfl), (Nat.le_of_ble_eq_true rfl)⟩) ?_
  refine lv_if_eq (tgt := 59) hx hb dX0_loadFromDisk_42 (by decide) (fun _ => ?_) (fun c9 => absurd rfl c9)
  refine lv_aload_n hx hb dX0_loadFromDisk_59 rfl (lv_at hl 0 rfl) ?_
  refine lv_aload_n hx hb dX0_loadFromDisk_60 rfl (lv_at hl 0 rfl) ?_
  refine va_get (D := G) (ci := 0) (v := .int 0) (C := RX0) (T := TX0) (N := 4) hx hb hts (fun _ h => List.mem_cons_of_mem _ (List.mem_append_right _ h)) hown hK hP 0 rfl rfl 2 (by decide) (hts (.fieldLink RX0 18 "ShippedLog$Log" "end" "I") (by decide +kernel)) (fun _ h9 => h9) rfl dX0_loadFromDisk_61 ?_
  refine b_putS (D := G) (ci := 0) (v := .int 0) (ty := .int) (C := RX0) (T := TX0) (N := 4) hx hb hts (fun _ h => List.mem_cons_of_mem _ (List.mem_append_right _ h)) tyX0 tyX0_ok nmX0 hown hK hP hD hS 0 rfl rfl 3 (by decide) (hts (.fieldLink RX0 22 "ShippedLog$Log" "synced" "I") (by decide +kernel)) (fun _ h9 => h9) rfl (by decide +kernel) rfl rfl rfl dX0_loadFromDisk_64 (fun H locs hP hS => ?_)
  exact W.vret hx hb hr (fun t ht hW => ⟨⟨(), rfl, trivial, (by show va_P G vwCl _ t.heap; rw [ht]; exact hP)⟩, hS.F ht⟩) hS.2.2 dX0_loadFromDisk_67
set_option maxHeartbeats 4000000 in
set_option maxRecDepth 100000 in
/-- a fresh node goes up -/
theorem c_up_ok (l : Launch) (G : va_G) (k : Nat → ClassId) (sz : Nat) (ws : va_W) (x nd wy : Nat) (f g : Nat → Option Nat) (hF : FX k ws x nd wy f g) (j : Nat) (hj : j < 4) : Met l yX3_up wsX3_up (({ frames := 6, cells := 0, slots := 0, locals := 160 })) (UP G k sz ws [.ref x, .int (nI j)]) (va_Qi (fun (r : Int32) (_ : Unit) => r = 0) (fun _ _ => True) (va_A ws sz)) 0 0 (va_A ws sz) := by
  refine Met.ofW (cc := cX3_up) (maxL := 3) (ret := (some .int)) (by decide) rfl ?_
  intro p e s m args below meth c s₁ B hml hv
  obtain ⟨rfl, hsz, hP, hK, hD0⟩ := hv
  subst hsz
  have hD := hD0.self (sz := s.heap.size)
  generalize hAe : va_A (ws) s.heap.size = A at hD ⊢
  have hA : ∀ q : Nat, s.heap.size ≤ q → A q := fun q h => by rw [← hAe]; exact Or.inr h
  have hS : va_S A s.heap s.heap [] := va_S.rf
  obtain ⟨a, lo, me, di, ha, ma, ml, mm, md, hmd⟩ := hF.2.2.2.1 j hj
  obtain ⟨kx, h0⟩ := List.getElem?_of_mem hF.1
  obtain ⟨kv, hv⟩ := List.getElem?_of_mem ma
  obtain ⟨kl, hvl⟩ := List.getElem?_of_mem ml
  have hx := B.exec
  have hb := B.bytes
  have hr := B.returns
  have hts := atoms_spec (ws := wsX3_up) B.pre
  have hown : s.vm.findClass RX3 = some m.cls := findClass_of_methodNamed B.named
  have hlocks := B.notSynchronized
  have hl := lv_entry ([.ref x, .int (nI j)]) (n := 3) (Nat.le_of_ble_eq_true rfl)
  rw [lg_entry_eq]
  generalize (lg_sl ([.ref x, .int (nI j)]) ++ List.replicate (3 - (lg_sl ([.ref x, .int (nI j)])).length) Slot.unset).toArray = ls at hl ⊢
  have hl : lv_has ls 3 [(0, .ref x), (1, .int (nI j))] := hl
  refine lv_aload_n hx hb dX3_up_0 rfl (lv_at hl 0 rfl) ?_
  refine lv_iload_n hx hb dX3_up_1 rfl (lv_at hl 1 rfl) ?_
  refine bq_call (W.runV (As := [.int (nI j)]) (rest := []) ⟨hx, hb, hml, hown, hts⟩ (c_nodeAt_t l G k ws x nd wy f g hF j hj a ha) (cwV 1 hts gX3_up_X3_nodeAt rfl rfl rfl (by decide +kernel) ⟨(Nat.le_of_ble_eq_true rfl), (Nat.le_of_ble_eq_true rfl)⟩) (PQ.preV hK hP (ci := 3) rfl h0) rfl rfl hl.1 rfl (lv_room (Nat.le_of_ble_eq_true rfl)) dX3_up_2 ⟨(Nat.le_of_ble_eq_true rfl), (Nat.le_of_ble_eq_true rfl)⟩) ?_
  refine lv_astore_n (lv' := [(2, .ref a), (0, .ref x), (1, .int (nI j))]) hx hb dX3_up_5 rfl hl (by decide) rfl (fun ls hl => ?_)
  refine lv_aload_n hx hb dX3_up_6 rfl (lv_at hl 0 rfl) ?_
  refine va_get (D := G) (ci := 1) (v := .int 0) (C := RX1) (T := TX1) (N := 8) hx hb hts (fun _ h => List.mem_cons_of_mem _ (List.mem_append_left _ (List.mem_append_left _ (List.mem_append_left _ (List.mem_append_left _ (List.mem_append_left _ (List.mem_append_right _ h))))))) hown hK hP kv hv rfl 1 (by decide) (hts (.fieldLink RX3 31 "ShippedLog$Node" "role" "I") (by decide +kernel)) (fun _ h9 => h9) rfl dX3_up_7 ?_
  refine lv_if_eq (tgt := 23) hx hb dX3_up_10 (by decide) (fun _ => ?_) (fun c9 => absurd rfl c9)
  refine lv_aload_n hx hb dX3_up_23 rfl (lv_at hl 1 rfl) ?_
  refine lv_iload_n hx hb dX3_up_24 rfl (lv_at hl 2 rfl) ?_
  refine lv_iconst (v := 1) hx hb dX3_up_25 (by decide) ?_
  refine lv_iconst (v := (-1)) hx hb dX3_up_26 (by decide) ?_
  refine uv_call (va_runV (As := [.int (nI j), .int 1, .int (-1)]) (rest := []) ⟨hx, hb, hml, hown, hts⟩ (c_takeRole l G k _ ws x nd wy f g hF j hj a lo me di ha ma ml mm md) (cwV 3 hts gX3_up_X3_takeRole rfl rfl rfl (by decide +kernel) ⟨(Nat.le_of_ble_eq_true rfl), (Nat.le_of_ble_eq_true rfl)⟩) (UP.preV hK hP hD (ci := 3) rfl h0) rfl rfl hl.1 rfl (lv_room (Nat.le_of_ble_eq_true rfl)) dX3_up_27 ⟨(Nat.le_of_ble_eq_true rfl), (Nat.le_of_ble_eq_true rfl)⟩) hS hD hA (fun H locs hP hkk hS => ?_)
  have hD4 : va_D A [(a, eN lo 1), (lo, eL me di), (me, eB (k 2)), (di, eB (k 2))] := four_D hD ma ml mm md hmd 1
  refine lv_aload_n hx hb dX3_up_30 rfl (lv_at hl 0 rfl) ?_
  refine va_get (D := G) (ci := 1) (v := .ref lo) (C := RX1) (T := TX1) (N := 8) hx hb hts (fun _ h => List.mem_cons_of_mem _ (List.mem_append_left _ (List.mem_append_left _ (List.mem_append_left _ (List.mem_append_left _ (List.mem_append_left _ (List.mem_append_right _ h))))))) hown hK hP 0 rfl rfl 0 (by decide) (hts (.fieldLink RX3 45 "ShippedLog$Node" "log" "LShippedLog$Log;") (by decide +kernel)) (fun _ h9 => h9) rfl dX3_up_31 ?_
  refine uv_call (va_runV (As := []) (rest := []) ⟨hx, hb, hml, hown, hts⟩ (c_loadFromDisk l G k _ lo me di) (cwV 0 hts gX3_up_X0_loadFromDisk rfl rfl rfl (by decide +kernel) ⟨(Nat.le_of_ble_eq_true rfl), (Nat.le_of_ble_eq_true rfl)⟩) (UP.preV hK (hP.sub (ws' := [(lo, eL me di), (me, eB (k 2)), (di, eB (k 2))]) [1, 2, 3] rfl) (hD4.sub (ws' := [(lo, eL me di), (me, eB (k 2)), (di, eB (k 2))]) [1, 2, 3] (by decide) rfl) (ci := 0) (q0 := 0) rfl rfl) rfl rfl hl.1 rfl (lv_room (Nat.le_of_ble_eq_true rfl)) dX3_up_34 ⟨(Nat.le_of_ble_eq_true rfl), (Nat.le_of_ble_eq_true rfl)⟩) hS (hD4.sub (ws' := [(lo, eL me di), (me, eB (k 2)), (di, eB (k 2))]) [1, 2, 3] (by decide) rfl) hA (fun H locs hP2 hkk hS => ?_)
  have hPa : va_P G vwCl [(a, eN lo 1)] H := hP.keep hD4 (wc := [(lo, eL me di), (me, eB (k 2)), (di, eB (k 2))]) (fun q hq => by simp only [List.mem_cons, List.not_mem_nil, or_false] at hq ⊢; rcases hq with rfl | rfl | rfl <;> simp) (fun q hq => by
    rw [List.mem_singleton.mp hq]
    exact ⟨List.mem_cons_self, fun h => by
      simp only [List.mem_cons, List.not_mem_nil, or_false] at h
      rcases h with h | h | h <;> cases congrArg Prod.snd h⟩) hkk
  have hP : va_P G vwCl [(a, eN lo 1), (lo, eL me di), (me, eB (k 2)), (di, eB (k 2))] H := hPa.app hP2
  have hD := hD4
  refine lv_aload_n hx hb dX3_up_37 rfl (lv_at hl 0 rfl) ?_
  refine lv_aload_n hx hb dX3_up_38 rfl (lv_at hl 0 rfl) ?_
  refine va_get (D := G) (ci := 1) (v := .ref lo) (C := RX1) (T := TX1) (N := 8) hx hb hts (fun _ h => List.mem_cons_of_mem _ (List.mem_append_left _ (List.mem_append_left _ (List.mem_append_left _ (List.mem_append_left _ (List.mem_append_left _ (List.mem_append_right _ h))))))) hown hK hP 0 rfl rfl 0 (by decide) (hts (.fieldLink RX3 45 "ShippedLog$Node" "log" "LShippedLog$Log;") (by decide +kernel)) (fun _ h9 => h9) rfl dX3_up_39 ?_
  refine va_get (D := G) (ci := 0) (v := .int 0) (C := RX0) (T := TX0) (N := 4) hx hb hts (fun _ h => List.mem_cons_of_mem _ (List.mem_append_left _ (List.mem_append_left _ (List.mem_append_left _ (List.mem_append_left _ (List.mem_append_right _ h)))))) hown hK hP 1 rfl rfl 2 (by decide) (hts (.fieldLink RX3 54 "ShippedLog$Log" "end" "I") (by decide +kernel)) (fun _ h9 => h9) rfl dX3_up_42 ?_
  refine b_putS (D := G) (ci := 1) (v := .int 0) (ty := .int) (C := RX1) (T := TX1) (N := 8) hx hb hts (fun _ h => List.mem_cons_of_mem _ (List.mem_append_left _ (List.mem_append_left _ (List.mem_append_left _ (List.mem_append_left _ (List.mem_append_left _ (List.mem_append_right _ h))))))) tyX1 tyX1_ok nmX1 hown hK hP hD hS 0 rfl rfl 2 (by decide) (hts (.fieldLink RX3 57 "ShippedLog$Node" "applied" "I") (by decide +kernel)) (fun _ h9 => h9) rfl (by decide +kernel) rfl rfl rfl dX3_up_45 (fun H locs hP hS => ?_)
  refine lv_aload_n hx hb dX3_up_48 rfl (lv_at hl 0 rfl) ?_
  refine va_get (D := G) (ci := 1) (v := .ref lo) (C := RX1) (T := TX1) (N := 8) hx hb hts (fun _ h => List.mem_cons_of_mem _ (List.mem_append_left _ (List.mem_append_left _ (List.mem_append_left _ (List.mem_append_left _ (List.mem_append_left _ (List.mem_append_right _ h))))))) hown hK hP 0 rfl rfl 0 (by decide) (hts (.fieldLink RX3 45 "ShippedLog$Node" "log" "LShippedLog$Log;") (by decide +kernel)) (fun _ h9 => h9) rfl dX3_up_49 ?_
  refine va_get (D := G) (ci := 0) (v := .int 0) (C := RX0) (T := TX0) (N := 4) hx hb hts (fun _ h => List.mem_cons_of_mem _ (List.mem_append_left _ (List.mem_append_left _ (List.mem_append_left _ (List.mem_append_left _ (List.mem_append_right _ h)))))) hown hK hP 1 rfl rfl 2 (by decide) (hts (.fieldLink RX3 54 "ShippedLog$Log" "end" "I") (by decide +kernel)) (fun _ h9 => h9) rfl dX3_up_52 ?_
  exact W.iret (v := 0) hx hb hr (fun t ht hW => ⟨⟨0, (), rfl, rfl, trivial⟩, hS.F ht⟩) hS.2.2 dX3_up_55
