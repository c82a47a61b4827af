/-! 10: the class's constructors. Laid by wip/p1/gen10.py -/
theorem arr_one {G : va_G} {cl : List vw_C} {tys : List (ClassId × FieldType)} {U : State} (h : va_K G cl tys U) {t0 t1 : Nat} {c0 c1 : ClassId} {ty : FieldType} (h0 : tys[t0]? = some (c0, ty)) (h1 : tys[t1]? = some (c1, ty)) : c0 = c1 := by
  have a0 := (h.2 t0 _ h0).2
  have a1 := (h.2 t1 _ h1).2
  cases ty with
  | object C =>
    obtain ⟨-, -, -, -, -, e0⟩ := a0
    obtain ⟨-, -, -, -, -, e1⟩ := a1
    exact Option.some.inj (e0.symm.trans e1)
  | _ => exact Option.some.inj (Eq.trans (Eq.symm a0) a1)
section CRows
variable {p : Program} {l : Launch} {e : Env} {R : Room} {s : State} {m : MethodId} {args : Array Value} {below : List Frame} {meth : Method} {c : Code} {H : Heap} {locs : List Loc} {cells slots : Nat} {Q : State → Prop}
variable {cc : ByteArray} {pc : Nat} {ls : Array Slot} {rest : List Value} {G : va_G} {k : Nat → ClassId} {A : Nat → Prop} {ws : va_W} {H0 : Heap}
theorem b_newa (hx : p.tables.exec = Jvm.exec) (hb : c.code = cc) {atype : ArrayType} {t0 : Nat} {c0 : ClassId} (harr : (Cond.arrayClass (newarray.typeOf atype)).before args s = true) {ty : FieldType} (hty : newarray.typeOf atype = ty) (hK : va_K G vwCl (pT k) s) (ht0 : (pT k)[t0]? = some (c0, ty)) (hP : va_P G vwCl ws H) (hD : va_D A ws) (hS : va_S A H0 H locs) (hA : ∀ q, H0.size ≤ q → A q)
    {n : Int32} {N' : Nat} {a0 : vp_A} (ha : ∀ cA : ClassId, vp_cell cA a0 = arrV cA N' (fun _ => defaultValue ty)) (hn : ¬ n < 0) (hN : n.toNatClampNeg = N') (hbytes : N' * componentBytes ty ≤ 536870912) (hcells : cells + 1 ≤ R.cells) (hslots : slots + N' ≤ R.slots) (hdg : decode cc pc = .ok (.newarray atype, 2))
    (kk : ∀ (q : Nat) (H1 : Heap), va_P G vwCl (ws ++ [(q, .inl (c0, a0))]) H1 → va_D A (ws ++ [(q, .inl (c0, a0))]) → va_S A H0 H1 locs → W p l e R s m args below meth c H1 locs (cells + 1) (slots + N') Q (F0 m (pc + 2) ls (.ref q :: rest))) : W p l e R s m args below meth c H locs cells slots Q (F0 m pc ls (.int n :: rest)) := by
  refine va_newa hx hb harr hty hK hP hD hS hA ha hn hN hbytes hcells hslots hdg (fun q cA H1 hK1 hP1 hD1 hS1 => ?_)
  have e : cA = c0 := arr_one hK1 (t0 := (pT k).length) (t1 := t0) (by rw [List.getElem?_append_right (Nat.le_refl _), Nat.sub_self]; rfl) (by rw [List.getElem?_append_left (List.getElem?_eq_some_iff.mp ht0).1]; exact ht0)
  subst e
  exact kk q H1 hP1 hD1 hS1
theorem b_newq (hx : p.tables.exec = Jvm.exec) (hb : c.code = cc) {own C : String} {index t0 : Nat} {c0 : ClassId} (hown : s.vm.findClass own = some m.cls) (hclink : (Cond.classLink own index C).before args s = true) (hover : va_AO C s) (hK : va_K G vwCl (pT k) s) (ht0 : (pT k)[t0]? = some (c0, .object C)) (hP : va_P G vwCl ws H) (hD : va_D A ws) (hS : va_S A H0 H locs) (hA : ∀ q, H0.size ≤ q → A q)
    {n : Int32} {N' : Nat} (hn : ¬ n < 0) (hN : n.toNatClampNeg = N') (hbytes : N' * 4 ≤ 536870912) (hcells : cells + 1 ≤ R.cells) (hslots : slots + N' ≤ R.slots) (hdg : decode cc pc = .ok (.anewarray index, 3))
    (kk : ∀ (q : Nat) (H1 : Heap), va_P G vwCl (ws ++ [(q, eQ c0 N' (fun _ => none))]) H1 → va_D A (ws ++ [(q, eQ c0 N' (fun _ => none))]) → va_S A H0 H1 locs → W p l e R s m args below meth c H1 locs (cells + 1) (slots + N') Q (F0 m (pc + 3) ls (.ref q :: rest))) : W p l e R s m args below meth c H locs cells slots Q (F0 m pc ls (.int n :: rest)) := by
  refine va_newq hx hb hown hclink hover hK hP hD hS hA hn hN hbytes hcells hslots hdg (fun q cA H1 hK1 hP1 hD1 hS1 => ?_)
  have e : cA = c0 := arr_one hK1 (t0 := (pT k).length) (t1 := t0) (by rw [List.getElem?_append_right (Nat.le_refl _), Nat.sub_self]; rfl) (by rw [List.getElem?_append_left (List.getElem?_eq_some_iff.mp ht0).1]; exact ht0)
  subst e
  exact kk q H1 hP1 hD1 hS1
end CRows
abbrev PC0 (G : va_G) (k : Nat → ClassId) (sz : Nat) (ws : va_W) (As : List Value) : Array Value → State → Prop := va_Pc As (fun U => U.heap.size = sz ∧ va_P G vwCl ws U.heap ∧ va_K G vwCl (pT k) U ∧ NB U)
theorem PC0.preS {G : va_G} {k : Nat → ClassId} {s : State} {H : Heap} {ws : va_W} {As : List Value} (hK : va_K G vwCl (pT k) s) (hN : NB s) (hP : va_P G vwCl ws H) : PreS s H (PC0 G k H.size ws As) As :=
  ⟨fun _ U _ _ q => ⟨q.1, q.2.1, q.2.2.1, va_K.moved (u := U) (Vm.Alike.refl U.vm) q.2.2.2.1, NB.warm (s := U) (State.WarmedH.refl U) q.2.2.2.2⟩, fun U hU hW => ⟨rfl, by rw [hU], by rw [hU]; exact hP, va_K.moved hW.alike hK, hN.warm hW⟩⟩
set_option maxHeartbeats 4000000 in
set_option maxRecDepth 100000 in
/-- Log(): two rows of bytes -/
theorem c_Log_init (l : Launch) (G : va_G) (k : Nat → ClassId) (sz h : Nat) : Met l yX0_init wsX0_init (({ frames := 1, cells := 2, slots := 8192, locals := 12 })) (PC0 G k sz [(h, .inr (0, [.null, .null, .int 0, .int 0]))] [.ref h]) (va_Qv (fun (_ : Nat × Nat) => True) (fun u t => va_P G vwCl [(h, eL u.1 u.2), (u.1, eB (k 2)), (u.2, eB (k 2))] t.heap ∧ va_D (va_A [(h, .inr (0, [.null, .null, .int 0, .int 0]))] sz) [(h, eL u.1 u.2), (u.1, eB (k 2)), (u.2, eB (k 2))]) (va_A [(h, .inr (0, [.null, .null, .int 0, .int 0]))] sz)) 2 8192 (va_A [(h, .inr (0, [.null, .null, .int 0, .int 0]))] sz) := by
  refine Met.ofW (cc := cX0_init) (maxL := 1) (ret := none) (by decide) rfl ?_
  intro p e s m args below meth c s₁ B hml hv
  obtain ⟨rfl, hsz, hP, hK, hN⟩ := hv
  subst hsz
  have hin : meth.name = "<init>" := (name_of_methodNamed B.named B.method).1
  have hD := (va_D.one (a := h) (e := .inr (0, [.null, .null, .int 0, .int 0]))).self (sz := s.heap.size)
  generalize hAe : va_A [(h, .inr (0, [.null, .null, .int 0, .int 0]))] s.heap.size = A at hD ⊢
  have hA : ∀ q : Nat, s.heap.size ≤ q → A q := fun q h => by rw [← hAe]; exact Or.inr h
  have hS : va_S A s.heap s.heap [] := va_S.rf
  have hx := B.exec
  have hb := B.bytes
  have hr := B.returns
  have hts := atoms_spec (ws := wsX0_init) B.pre
  have hown : s.vm.findClass RX0 = some m.cls := findClass_of_methodNamed B.named
  have hlocks := B.notSynchronized
  have hl := lv_entry ([.ref h]) (n := 1) (Nat.le_of_ble_eq_true rfl)
  rw [lg_entry_eq]
  generalize (lg_sl ([.ref h]) ++ List.replicate (1 - (lg_sl ([.ref h])).length) Slot.unset).toArray = ls at hl ⊢
  have hl : lv_has ls 1 [(0, .ref h)] := hl
  refine lv_aload_n hx hb dX0_init_0 rfl (lv_at hl 0 rfl) ?_
  refine W.objInit hx hb hown (hts (.methodLink RX0 3 objectInit) (by decide +kernel)) (hts (.instanceMethod objectInit) (by decide +kernel)) (hts (.code objectInit ⟨#[0xb1]⟩ 1 none) (by decide +kernel)) rfl (by rw [hml]; exact hl.1) rfl dX0_init_1 (Nat.le_of_ble_eq_true rfl) (Nat.le_of_ble_eq_true rfl) ?_
  refine W.eq (g2 := F0 m 4 ls []) rfl ?_
  refine lv_aload_n hx hb dX0_init_4 rfl (lv_at hl 0 rfl) ?_
  refine lv_sipush (v := 4096) hx hb dX0_init_5 (by decide) ?_
  refine b_newa (atype := .byte) (ty := .byte) (t0 := 2) hx hb (hts (.arrayClass .byte) (by decide +kernel)) rfl hK rfl hP hD hS hA (N' := 4096) (a0 := (4096, .inl (fun _ => 0))) (fun _ => rfl) (by decide) rfl (Nat.le_of_ble_eq_true rfl) (Nat.le_of_ble_eq_true rfl) (Nat.le_of_ble_eq_true rfl) dX0_init_8 (fun q1 H hP hD hS => ?_)
  have hP : va_P G vwCl ([(h, .inr (0, [.null, .null, .int 0, .int 0])), (q1, .inl (k 2, 4096, .inl (fun _ => 0)))]) H := hP
  have hD : va_D A ([(h, .inr (0, [.null, .null, .int 0, .int 0])), (q1, .inl (k 2, 4096, .inl (fun _ => 0)))]) := hD
  refine va_putF (D := G) (ci := 0) (v := .ref q1) (ty := .array .byte) (C := RX0) (T := TX0) (N := 4) hx hb hts (fun _ h => List.mem_cons_of_mem _ (List.mem_append_right _ h)) tyX0 tyX0_ok nmX0 hown hK hP hD hS 0 rfl rfl 0 (by decide) (hts (.fieldLink RX0 9 "ShippedLog$Log" "memory" "[B") (by decide +kernel)) (fun _ h9 => h9) rfl hin rfl (by decide +kernel) rfl rfl (Nat.le_of_ble_eq_true rfl) dX0_init_10 (fun H locs hP hD hS => ?_)
  have hP : va_P G vwCl ([(h, .inr (0, [.ref q1, .null, .int 0, .int 0])), (q1, .inl (k 2, 4096, .inl (fun _ => 0)))]) H := hP
  have hD : va_D A ([(h, .inr (0, [.ref q1, .null, .int 0, .int 0])), (q1, .inl (k 2, 4096, .inl (fun _ => 0)))]) := hD
  refine lv_aload_n hx hb dX0_init_13 rfl (lv_at hl 0 rfl) ?_
  refine lv_sipush (v := 4096) hx hb dX0_init_14 (by decide) ?_
  refine b_newa (atype := .byte) (ty := .byte) (t0 := 2) hx hb (hts (.arrayClass .byte) (by decide +kernel)) rfl hK rfl hP hD hS hA (N' := 4096) (a0 := (4096, .inl (fun _ => 0))) (fun _ => rfl) (by decide) rfl (Nat.le_of_ble_eq_true rfl) (Nat.le_of_ble_eq_true rfl) (Nat.le_of_ble_eq_true rfl) dX0_init_17 (fun q2 H hP hD hS => ?_)
  have hP : va_P G vwCl ([(h, .inr (0, [.ref q1, .null, .int 0, .int 0])), (q1, .inl (k 2, 4096, .inl (fun _ => 0))), (q2, .inl (k 2, 4096, .inl (fun _ => 0)))]) H := hP
  have hD : va_D A ([(h, .inr (0, [.ref q1, .null, .int 0, .int 0])), (q1, .inl (k 2, 4096, .inl (fun _ => 0))), (q2, .inl (k 2, 4096, .inl (fun _ => 0)))]) := hD
  refine va_putF (D := G) (ci := 0) (v := .ref q2) (ty := .array .byte) (C := RX0) (T := TX0) (N := 4) hx hb hts (fun _ h => List.mem_cons_of_mem _ (List.mem_append_right _ h)) tyX0 tyX0_ok nmX0 hown hK hP hD hS 0 rfl rfl 1 (by decide) (hts (.fieldLink RX0 15 "ShippedLog$Log" "disk" "[B") (by decide +kernel)) (fun _ h9 => h9) rfl hin rfl (by decide +kernel) rfl rfl (Nat.le_of_ble_eq_true rfl) dX0_init_19 (fun H locs hP hD hS => ?_)
  have hP : va_P G vwCl ([(h, .inr (0, [.ref q1, .ref q2, .int 0, .int 0])), (q1, .inl (k 2, 4096, .inl (fun _ => 0))), (q2, .inl (k 2, 4096, .inl (fun _ => 0)))]) H := hP
  have hD : va_D A ([(h, .inr (0, [.ref q1, .ref q2, .int 0, .int 0])), (q1, .inl (k 2, 4096, .inl (fun _ => 0))), (q2, .inl (k 2, 4096, .inl (fun _ => 0)))]) := hD
  refine lv_aload_n hx hb dX0_init_22 rfl (lv_at hl 0 rfl) ?_
  refine lv_iconst (v := 0) hx hb dX0_init_23 (by decide) ?_
  refine va_put (D := G) (ci := 0) (v := .int 0) (ty := .int) (C := RX0) (T := TX0) (N := 4) hx hb hts (fun _ h => List.mem_cons_of_mem _ (List.mem_append_right _ h)) tyX0 tyX0_ok nmX0 hown hK hP hD hS 0 rfl rfl 2 (by decide) (hts (.fieldLink RX0 18 "ShippedLog$Log" "end" "I") (by decide +kernel)) (fun _ h9 => h9) rfl (by decide +kernel) rfl rfl (Nat.le_of_ble_eq_true rfl) dX0_init_24 (fun H locs hP hD hS => ?_)
  have hP : va_P G vwCl ([(h, .inr (0, [.ref q1, .ref q2, .int 0, .int 0])), (q1, .inl (k 2, 4096, .inl (fun _ => 0))), (q2, .inl (k 2, 4096, .inl (fun _ => 0)))]) H := hP
  have hD : va_D A ([(h, .inr (0, [.ref q1, .ref q2, .int 0, .int 0])), (q1, .inl (k 2, 4096, .inl (fun _ => 0))), (q2, .inl (k 2, 4096, .inl (fun _ => 0)))]) := hD
  refine lv_aload_n hx hb dX0_init_27 rfl (lv_at hl 0 rfl) ?_
  refine lv_iconst (v := 0) hx hb dX0_init_28 (by decide) ?_
  refine va_put (D := G) (ci := 0) (v := .int 0) (ty := .int) (C := RX0) (T := TX0) (N := 4) hx hb hts (fun _ h => List.mem_cons_of_mem _ (List.mem_append_right _ h)) tyX0 tyX0_ok nmX0 hown hK hP hD hS 0 rfl rfl 3 (by decide) (hts (.fieldLink RX0 22 "ShippedLog$Log" "synced" "I") (by decide +kernel)) (fun _ h9 => h9) rfl (by decide +kernel) rfl rfl (Nat.le_of_ble_eq_true rfl) dX0_init_29 (fun H locs hP hD hS => ?_)
  have hP : va_P G vwCl ([(h, .inr (0, [.ref q1, .ref q2, .int 0, .int 0])), (q1, .inl (k 2, 4096, .inl (fun _ => 0))), (q2, .inl (k 2, 4096, .inl (fun _ => 0)))]) H := hP
  have hD : va_D A ([(h, .inr (0, [.ref q1, .ref q2, .int 0, .int 0])), (q1, .inl (k 2, 4096, .inl (fun _ => 0))), (q2, .inl (k 2, 4096, .inl (fun _ => 0)))]) := hD
  exact W.vret hx hb hr (fun t ht hW => ⟨⟨(q1, q2), rfl, trivial, (by show va_P G vwCl _ t.heap; rw [ht]; exact hP), hD⟩, hS.F ht⟩) hS.2.2 dX0_init_32
set_option maxHeartbeats 4000000 in
set_option maxRecDepth 100000 in
/-- Way(): two rows of ints -/
theorem c_Way_init (l : Launch) (G : va_G) (k : Nat → ClassId) (sz h : Nat) : Met l yX2_init wsX2_init (({ frames := 1, cells := 2, slots := 32, locals := 12 })) (PC0 G k sz [(h, .inr (2, [.null, .null, .int 0, .int 0]))] [.ref h]) (va_Qv (fun (_ : Nat × Nat) => True) (fun u t => va_P G vwCl [(h, eW u.1 u.2)] t.heap ∧ va_D (va_A [(h, .inr (2, [.null, .null, .int 0, .int 0]))] sz) [(h, eW u.1 u.2)]) (va_A [(h, .inr (2, [.null, .null, .int 0, .int 0]))] sz)) 2 32 (va_A [(h, .inr (2, [.null, .null, .int 0, .int 0]))] sz) := by
  refine Met.ofW (cc := cX2_init) (maxL := 1) (ret := none) (by decide) rfl ?_
  intro p e s m args below meth c s₁ B hml hv
  obtain ⟨rfl, hsz, hP, hK, hN⟩ := hv
  subst hsz
  have hin : meth.name = "<init>" := (name_of_methodNamed B.named B.method).1
  have hD := (va_D.one (a := h) (e := .inr (2, [.null, .null, .int 0, .int 0]))).self (sz := s.heap.size)
  generalize hAe : va_A [(h, .inr (2, [.null, .null, .int 0, .int 0]))] s.heap.size = A at hD ⊢
  have hA : ∀ q : Nat, s.heap.size ≤ q → A q := fun q h => by rw [← hAe]; exact Or.inr h
  have hS : va_S A s.heap s.heap [] := va_S.rf
  have hx := B.exec
  have hb := B.bytes
  have hr := B.returns
  have hts := atoms_spec (ws := wsX2_init) B.pre
  have hown : s.vm.findClass RX2 = some m.cls := findClass_of_methodNamed B.named
  have hlocks := B.notSynchronized
  have hl := lv_entry ([.ref h]) (n := 1) (Nat.le_of_ble_eq_true rfl)
  rw [lg_entry_eq]
  generalize (lg_sl ([.ref h]) ++ List.replicate (1 - (lg_sl ([.ref h])).length) Slot.unset).toArray = ls at hl ⊢
  have hl : lv_has ls 1 [(0, .ref h)] := hl
  refine lv_aload_n hx hb dX2_init_0 rfl (lv_at hl 0 rfl) ?_
  refine W.objInit hx hb hown (hts (.methodLink RX2 3 objectInit) (by decide +kernel)) (hts (.instanceMethod objectInit) (by decide +kernel)) (hts (.code objectInit ⟨#[0xb1]⟩ 1 none) (by decide +kernel)) rfl (by rw [hml]; exact hl.1) rfl dX2_init_1 (Nat.le_of_ble_eq_true rfl) (Nat.le_of_ble_eq_true rfl) ?_
  refine W.eq (g2 := F0 m 4 ls []) rfl ?_
  refine lv_aload_n hx hb dX2_init_4 rfl (lv_at hl 0 rfl) ?_
  refine lv_bipush (v := 16) hx hb dX2_init_5 (by decide) ?_
  refine b_newa (atype := .int) (ty := .int) (t0 := 3) hx hb (hts (.arrayClass .int) (by decide +kernel)) rfl hK rfl hP hD hS hA (N' := 16) (a0 := (16, .inl (fun _ => 0))) (fun _ => rfl) (by decide) rfl (Nat.le_of_ble_eq_true rfl) (Nat.le_of_ble_eq_true rfl) (Nat.le_of_ble_eq_true rfl) dX2_init_7 (fun q1 H hP hD hS => ?_)
  have hP : va_P G vwCl ([(h, .inr (2, [.null, .null, .int 0, .int 0])), (q1, .inl (k 3, 16, .inl (fun _ => 0)))]) H := hP
  have hD : va_D A ([(h, .inr (2, [.null, .null, .int 0, .int 0])), (q1, .inl (k 3, 16, .inl (fun _ => 0)))]) := hD
  refine va_putF (D := G) (ci := 2) (v := .ref q1) (ty := .array .int) (C := RX2) (T := TX2) (N := 4) hx hb hts (fun _ h => List.mem_cons_of_mem _ (List.mem_append_right _ h)) tyX2 tyX2_ok nmX2 hown hK hP hD hS 0 rfl rfl 0 (by decide) (hts (.fieldLink RX2 9 "ShippedLog$Way" "positions" "[I") (by decide +kernel)) (fun _ h9 => h9) rfl hin rfl (by decide +kernel) rfl rfl (Nat.le_of_ble_eq_true rfl) dX2_init_9 (fun H locs hP hD hS => ?_)
  have hP : va_P G vwCl ([(h, .inr (2, [.ref q1, .null, .int 0, .int 0])), (q1, .inl (k 3, 16, .inl (fun _ => 0)))]) H := hP
  have hD : va_D A ([(h, .inr (2, [.ref q1, .null, .int 0, .int 0])), (q1, .inl (k 3, 16, .inl (fun _ => 0)))]) := hD
  refine lv_aload_n hx hb dX2_init_12 rfl (lv_at hl 0 rfl) ?_
  refine lv_bipush (v := 16) hx hb dX2_init_13 (by decide) ?_
  refine b_newa (atype := .int) (ty := .int) (t0 := 3) hx hb (hts (.arrayClass .int) (by decide +kernel)) rfl hK rfl hP hD hS hA (N' := 16) (a0 := (16, .inl (fun _ => 0))) (fun _ => rfl) (by decide) rfl (Nat.le_of_ble_eq_true rfl) (Nat.le_of_ble_eq_true rfl) (Nat.le_of_ble_eq_true rfl) dX2_init_15 (fun q2 H hP hD hS => ?_)
  have hP : va_P G vwCl ([(h, .inr (2, [.ref q1, .null, .int 0, .int 0])), (q1, .inl (k 3, 16, .inl (fun _ => 0))), (q2, .inl (k 3, 16, .inl (fun _ => 0)))]) H := hP
  have hD : va_D A ([(h, .inr (2, [.ref q1, .null, .int 0, .int 0])), (q1, .inl (k 3, 16, .inl (fun _ => 0))), (q2, .inl (k 3, 16, .inl (fun _ => 0)))]) := hD
  refine va_putF (D := G) (ci := 2) (v := .ref q2) (ty := .array .int) (C := RX2) (T := TX2) (N := 4) hx hb hts (fun _ h => List.mem_cons_of_mem _ (List.mem_append_right _ h)) tyX2 tyX2_ok nmX2 hown hK hP hD hS 0 rfl rfl 1 (by decide) (hts (.fieldLink RX2 15 "ShippedLog$Way" "bytes" "[I") (by decide +kernel)) (fun _ h9 => h9) rfl hin rfl (by decide +kernel) rfl rfl (Nat.le_of_ble_eq_true rfl) dX2_init_17 (fun H locs hP hD hS => ?_)
  have hP : va_P G vwCl ([(h, .inr (2, [.ref q1, .ref q2, .int 0, .int 0])), (q1, .inl (k 3, 16, .inl (fun _ => 0))), (q2, .inl (k 3, 16, .inl (fun _ => 0)))]) H := hP
  have hD : va_D A ([(h, .inr (2, [.ref q1, .ref q2, .int 0, .int 0])), (q1, .inl (k 3, 16, .inl (fun _ => 0))), (q2, .inl (k 3, 16, .inl (fun _ => 0)))]) := hD
  refine lv_aload_n hx hb dX2_init_20 rfl (lv_at hl 0 rfl) ?_
  refine lv_iconst (v := 0) hx hb dX2_init_21 (by decide) ?_
  refine va_put (D := G) (ci := 2) (v := .int 0) (ty := .int) (C := RX2) (T := TX2) (N := 4) hx hb hts (fun _ h => List.mem_cons_of_mem _ (List.mem_append_right _ h)) tyX2 tyX2_ok nmX2 hown hK hP hD hS 0 rfl rfl 2 (by decide) (hts (.fieldLink RX2 18 "ShippedLog$Way" "oldest" "I") (by decide +kernel)) (fun _ h9 => h9) rfl (by decide +kernel) rfl rfl (Nat.le_of_ble_eq_true rfl) dX2_init_22 (fun H locs hP hD hS => ?_)
  have hP : va_P G vwCl ([(h, .inr (2, [.ref q1, .ref q2, .int 0, .int 0])), (q1, .inl (k 3, 16, .inl (fun _ => 0))), (q2, .inl (k 3, 16, .inl (fun _ => 0)))]) H := hP
  have hD : va_D A ([(h, .inr (2, [.ref q1, .ref q2, .int 0, .int 0])), (q1, .inl (k 3, 16, .inl (fun _ => 0))), (q2, .inl (k 3, 16, .inl (fun _ => 0)))]) := hD
  refine lv_aload_n hx hb dX2_init_25 rfl (lv_at hl 0 rfl) ?_
  refine lv_iconst (v := 0) hx hb dX2_init_26 (by decide) ?_
  refine va_put (D := G) (ci := 2) (v := .int 0) (ty := .int) (C := RX2) (T := TX2) (N := 4) hx hb hts (fun _ h => List.mem_cons_of_mem _ (List.mem_append_right _ h)) tyX2 tyX2_ok nmX2 hown hK hP hD hS 0 rfl rfl 3 (by decide) (hts (.fieldLink RX2 22 "ShippedLog$Way" "count" "I") (by decide +kernel)) (fun _ h9 => h9) rfl (by decide +kernel) rfl rfl (Nat.le_of_ble_eq_true rfl) dX2_init_27 (fun H locs hP hD hS => ?_)
  have hP : va_P G vwCl ([(h, .inr (2, [.ref q1, .ref q2, .int 0, .int 0])), (q1, .inl (k 3, 16, .inl (fun _ => 0))), (q2, .inl (k 3, 16, .inl (fun _ => 0)))]) H := hP
  have hD : va_D A ([(h, .inr (2, [.ref q1, .ref q2, .int 0, .int 0])), (q1, .inl (k 3, 16, .inl (fun _ => 0))), (q2, .inl (k 3, 16, .inl (fun _ => 0)))]) := hD
  exact W.vret hx hb hr (fun t ht hW => ⟨⟨(q1, q2), rfl, trivial, (by show va_P G vwCl [(h, eW q1 q2)] t.heap; rw [ht]; exact hP.hd), hD.sub (ws' := [(h, eW q1 q2)]) [0] (by decide) rfl⟩, hS.F ht⟩) hS.2.2 dX2_init_30
set_option maxHeartbeats 4000000 in
set_option maxRecDepth 100000 in
/-- Node(): its log -/
theorem c_Node_init (l : Launch) (G : va_G) (k : Nat → ClassId) (sz h : Nat) : Met l yX1_init wsX1_init (({ frames := 2, cells := 3, slots := 8196, locals := 40 })) (PC0 G k sz [(h, .inr (1, [.null, .int 0, .int 0, .int 0, .int 0, .int 0, .int 0, .int 0]))] [.ref h]) (va_Qv (fun (_ : Nat × Nat × Nat) => True) (fun u t => va_P G vwCl [(h, eN u.1 0), (u.1, eL u.2.1 u.2.2), (u.2.1, eB (k 2)), (u.2.2, eB (k 2))] t.heap ∧ va_D (va_A [(h, .inr (1, [.null, .int 0, .int 0, .int 0, .int 0, .int 0, .int 0, .int 0]))] sz) [(h, eN u.1 0), (u.1, eL u.2.1 u.2.2), (u.2.1, eB (k 2)), (u.2.2, eB (k 2))]) (va_A [(h, .inr (1, [.null, .int 0, .int 0, .int 0, .int 0, .int 0, .int 0, .int 0]))] sz)) 3 8196 (va_A [(h, .inr (1, [.null, .int 0, .int 0, .int 0, .int 0, .int 0, .int 0, .int 0]))] sz) := by
  refine Met.ofW (cc := cX1_init) (maxL := 1) (ret := none) (by decide) rfl ?_
  intro p e s m args below meth c s₁ B hml hv
  obtain ⟨rfl, hsz, hP, hK, hN⟩ := hv
  subst hsz
  have hin : meth.name = "<init>" := (name_of_methodNamed B.named B.method).1
  have hD := (va_D.one (a := h) (e := .inr (1, [.null, .int 0, .int 0, .int 0, .int 0, .int 0, .int 0, .int 0]))).self (sz := s.heap.size)
  generalize hAe : va_A [(h, .inr (1, [.null, .int 0, .int 0, .int 0, .int 0, .int 0, .int 0, .int 0]))] s.heap.size = A at hD ⊢
  have hA : ∀ q : Nat, s.heap.size ≤ q → A q := fun q h => by rw [← hAe]; exact Or.inr h
  have hS : va_S A s.heap s.heap [] := va_S.rf
  have hx := B.exec
  have hb := B.bytes
  have hr := B.returns
  have hts := atoms_spec (ws := wsX1_init) B.pre
  have hown : s.vm.findClass RX1 = some m.cls := findClass_of_methodNamed B.named
  have hlocks := B.notSynchronized
  have hl := lv_entry ([.ref h]) (n := 1) (Nat.le_of_ble_eq_true rfl)
  rw [lg_entry_eq]
  generalize (lg_sl ([.ref h]) ++ List.replicate (1 - (lg_sl ([.ref h])).length) Slot.unset).toArray = ls at hl ⊢
  have hl : lv_has ls 1 [(0, .ref h)] := hl
  refine lv_aload_n hx hb dX1_init_0 rfl (lv_at hl 0 rfl) ?_
  refine W.objInit hx hb hown (hts (.methodLink RX1 3 objectInit) (by decide +kernel)) (hts (.instanceMethod objectInit) (by decide +kernel)) (hts (.code objectInit ⟨#[0xb1]⟩ 1 none) (by decide +kernel)) rfl (by rw [hml]; exact hl.1) rfl dX1_init_1 (Nat.le_of_ble_eq_true rfl) (Nat.le_of_ble_eq_true rfl) ?_
  refine W.eq (g2 := F0 m 4 ls []) rfl ?_
  refine lv_aload_n hx hb dX1_init_4 rfl (lv_at hl 0 rfl) ?_
  refine va_new (ci := 0) (fs := [.null, .null, .int 0, .int 0]) (C := RX0) (T := TX0) (N := 4) hx hb hts (fun _ h => List.mem_cons_of_mem _ (List.mem_append_left _ (List.mem_append_right _ h))) tyX0 tyX0_ok hown (hts (.classLink RX1 9 RX0) (by decide +kernel)) (hts (.instantiable RX0 4) (by decide +kernel)) (hts (.initialized RX0) (by decide +kernel)) hK hP hD hS hA rfl (fun j hj => by rcases (show j = 0 ∨ j = 1 ∨ j = 2 ∨ j = 3 by omega) with rfl | rfl | rfl | rfl <;> rfl) (Nat.le_of_ble_eq_true rfl) (Nat.le_of_ble_eq_true rfl) dX1_init_5 (fun q5 H hP hD hS => ?_)
  have hP : va_P G vwCl ([(h, .inr (1, [.null, .int 0, .int 0, .int 0, .int 0, .int 0, .int 0, .int 0])), (q5, .inr (0, [.null, .null, .int 0, .int 0]))]) H := hP
  have hD : va_D A ([(h, .inr (1, [.null, .int 0, .int 0, .int 0, .int 0, .int 0, .int 0, .int 0])), (q5, .inr (0, [.null, .null, .int 0, .int 0]))]) := hD
  refine lv_dup hx hb dX1_init_8 rfl ?_
  have hPc := hP.sub (ws' := [(q5, .inr (0, [.null, .null, .int 0, .int 0]))]) [1] rfl
  have hFc := va_free (wc := [(q5, .inr (0, [.null, .null, .int 0, .int 0]))]) hD hS hA [1] rfl
  refine va_callv (va_runIN (As := []) (rest := [.ref q5, .ref h]) ⟨hx, hb, hml, hown, hts⟩ (c_Log_init l G k H.size q5) (va_cnB 0 hts gX1_init_X0_init_n11 rfl rfl rfl hN.2.2.1 (hts (.initialized RX0) (by decide +kernel)) (by decide +kernel) ⟨(Nat.le_of_ble_eq_true rfl), (Nat.le_of_ble_eq_true rfl)⟩ |> fun z => ⟨z, rfl, hts (.instanceMethod yX0_init) (by decide +kernel)⟩) (PC0.preS hK hN hPc) rfl rfl hl.1 rfl (lv_room (Nat.le_of_ble_eq_true rfl)) dX1_init_9 ⟨(Nat.le_of_ble_eq_true rfl), (Nat.le_of_ble_eq_true rfl)⟩) hS (fun q _ h => hFc q h) hFc (fun u t H1 locs ht hvm hw hB hz1 hk1 hS => ?_)
  obtain ⟨me, di⟩ := u
  obtain ⟨hP1, hD1⟩ := hB
  rw [ht] at hP1
  obtain ⟨hP, hD⟩ := va_join (wr := [(h, .inr (1, [.null, .int 0, .int 0, .int 0, .int 0, .int 0, .int 0, .int 0]))]) (w1 := [(q5, eL me di), (me, eB (k 2)), (di, eB (k 2))]) hP hD [1] [0] rfl rfl (by decide) (by decide) hk1 hFc hP1 hD1
  generalize H1 = H at hP hS ⊢
  have hP : va_P G vwCl ([(h, .inr (1, [.null, .int 0, .int 0, .int 0, .int 0, .int 0, .int 0, .int 0])), (q5, eL me di), (me, eB (k 2)), (di, eB (k 2))]) H := hP
  have hD : va_D A ([(h, .inr (1, [.null, .int 0, .int 0, .int 0, .int 0, .int 0, .int 0, .int 0])), (q5, eL me di), (me, eB (k 2)), (di, eB (k 2))]) := hD
  refine va_putF (D := G) (ci := 1) (v := .ref q5) (ty := .object "ShippedLog$Log") (C := RX1) (T := TX1) (N := 8) hx hb hts (fun _ h => List.mem_cons_of_mem _ (List.mem_append_right _ h)) tyX1 tyX1_ok nmX1 hown hK hP hD hS 0 rfl rfl 0 (by decide) (hts (.fieldLink RX1 12 "ShippedLog$Node" "log" "LShippedLog$Log;") (by decide +kernel)) (fun _ h9 => h9) rfl hin rfl (by decide +kernel) rfl rfl (Nat.le_of_ble_eq_true rfl) dX1_init_12 (fun H locs hP hD hS => ?_)
  have hP : va_P G vwCl ([(h, .inr (1, [.ref q5, .int 0, .int 0, .int 0, .int 0, .int 0, .int 0, .int 0])), (q5, eL me di), (me, eB (k 2)), (di, eB (k 2))]) H := hP
  have hD : va_D A ([(h, .inr (1, [.ref q5, .int 0, .int 0, .int 0, .int 0, .int 0, .int 0, .int 0])), (q5, eL me di), (me, eB (k 2)), (di, eB (k 2))]) := hD
  refine lv_aload_n hx hb dX1_init_15 rfl (lv_at hl 0 rfl) ?_
  refine lv_iconst (v := 0) hx hb dX1_init_16 (by decide) ?_
  refine va_put (D := G) (ci := 1) (v := .int 0) (ty := .int) (C := RX1) (T := TX1) (N := 8) hx hb hts (fun _ h => List.mem_cons_of_mem _ (List.mem_append_right _ h)) tyX1 tyX1_ok nmX1 hown hK hP hD hS 0 rfl rfl 1 (by decide) (hts (.fieldLink RX1 18 "ShippedLog$Node" "role" "I") (by decide +kernel)) (fun _ h9 => h9) rfl (by decide +kernel) rfl rfl (Nat.le_of_ble_eq_true rfl) dX1_init_17 (fun H locs hP hD hS => ?_)
  have hP : va_P G vwCl ([(h, .inr (1, [.ref q5, .int 0, .int 0, .int 0, .int 0, .int 0, .int 0, .int 0])), (q5, eL me di), (me, eB (k 2)), (di, eB (k 2))]) H := hP
  have hD : va_D A ([(h, .inr (1, [.ref q5, .int 0, .int 0, .int 0, .int 0, .int 0, .int 0, .int 0])), (q5, eL me di), (me, eB (k 2)), (di, eB (k 2))]) := hD
  refine lv_aload_n hx hb dX1_init_20 rfl (lv_at hl 0 rfl) ?_
  refine lv_iconst (v := 0) hx hb dX1_init_21 (by decide) ?_
  refine va_put (D := G) (ci := 1) (v := .int 0) (ty := .int) (C := RX1) (T := TX1) (N := 8) hx hb hts (fun _ h => List.mem_cons_of_mem _ (List.mem_append_right _ h)) tyX1 tyX1_ok nmX1 hown hK hP hD hS 0 rfl rfl 2 (by decide) (hts (.fieldLink RX1 22 "ShippedLog$Node" "applied" "I") (by decide +kernel)) (fun _ h9 => h9) rfl (by decide +kernel) rfl rfl (Nat.le_of_ble_eq_true rfl) dX1_init_22 (fun H locs hP hD hS => ?_)
  have hP : va_P G vwCl ([(h, .inr (1, [.ref q5, .int 0, .int 0, .int 0, .int 0, .int 0, .int 0, .int 0])), (q5, eL me di), (me, eB (k 2)), (di, eB (k 2))]) H := hP
  have hD : va_D A ([(h, .inr (1, [.ref q5, .int 0, .int 0, .int 0, .int 0, .int 0, .int 0, .int 0])), (q5, eL me di), (me, eB (k 2)), (di, eB (k 2))]) := hD
  refine lv_aload_n hx hb dX1_init_25 rfl (lv_at hl 0 rfl) ?_
  refine lv_iconst (v := (-1)) hx hb dX1_init_26 (by decide) ?_
  refine va_put (D := G) (ci := 1) (v := .int (-1)) (ty := .int) (C := RX1) (T := TX1) (N := 8) hx hb hts (fun _ h => List.mem_cons_of_mem _ (List.mem_append_right _ h)) tyX1 tyX1_ok nmX1 hown hK hP hD hS 0 rfl rfl 3 (by decide) (hts (.fieldLink RX1 25 "ShippedLog$Node" "follows" "I") (by decide +kernel)) (fun _ h9 => h9) rfl (by decide +kernel) rfl rfl (Nat.le_of_ble_eq_true rfl) dX1_init_27 (fun H locs hP hD hS => ?_)
  have hP : va_P G vwCl ([(h, .inr (1, [.ref q5, .int 0, .int 0, .int (-1), .int 0, .int 0, .int 0, .int 0])), (q5, eL me di), (me, eB (k 2)), (di, eB (k 2))]) H := hP
  have hD : va_D A ([(h, .inr (1, [.ref q5, .int 0, .int 0, .int (-1), .int 0, .int 0, .int 0, .int 0])), (q5, eL me di), (me, eB (k 2)), (di, eB (k 2))]) := hD
  refine lv_aload_n hx hb dX1_init_30 rfl (lv_at hl 0 rfl) ?_
  refine lv_iconst (v := 0) hx hb dX1_init_31 (by decide) ?_
  refine va_put (D := G) (ci := 1) (v := .int 0) (ty := .int) (C := RX1) (T := TX1) (N := 8) hx hb hts (fun _ h => List.mem_cons_of_mem _ (List.mem_append_right _ h)) tyX1 tyX1_ok nmX1 hown hK hP hD hS 0 rfl rfl 4 (by decide) (hts (.fieldLink RX1 28 "ShippedLog$Node" "known" "I") (by decide +kernel)) (fun _ h9 => h9) rfl (by decide +kernel) rfl rfl (Nat.le_of_ble_eq_true rfl) dX1_init_32 (fun H locs hP hD hS => ?_)
  have hP : va_P G vwCl ([(h, .inr (1, [.ref q5, .int 0, .int 0, .int (-1), .int 0, .int 0, .int 0, .int 0])), (q5, eL me di), (me, eB (k 2)), (di, eB (k 2))]) H := hP
  have hD : va_D A ([(h, .inr (1, [.ref q5, .int 0, .int 0, .int (-1), .int 0, .int 0, .int 0, .int 0])), (q5, eL me di), (me, eB (k 2)), (di, eB (k 2))]) := hD
  refine lv_aload_n hx hb dX1_init_35 rfl (lv_at hl 0 rfl) ?_
  refine lv_iconst (v := (-1)) hx hb dX1_init_36 (by decide) ?_
  refine va_put (D := G) (ci := 1) (v := .int (-1)) (ty := .int) (C := RX1) (T := TX1) (N := 8) hx hb hts (fun _ h => List.mem_cons_of_mem _ (List.mem_append_right _ h)) tyX1 tyX1_ok nmX1 hown hK hP hD hS 0 rfl rfl 5 (by decide) (hts (.fieldLink RX1 31 "ShippedLog$Node" "standby" "I") (by decide +kernel)) (fun _ h9 => h9) rfl (by decide +kernel) rfl rfl (Nat.le_of_ble_eq_true rfl) dX1_init_37 (fun H locs hP hD hS => ?_)
  have hP : va_P G vwCl ([(h, .inr (1, [.ref q5, .int 0, .int 0, .int (-1), .int 0, .int (-1), .int 0, .int 0])), (q5, eL me di), (me, eB (k 2)), (di, eB (k 2))]) H := hP
  have hD : va_D A ([(h, .inr (1, [.ref q5, .int 0, .int 0, .int (-1), .int 0, .int (-1), .int 0, .int 0])), (q5, eL me di), (me, eB (k 2)), (di, eB (k 2))]) := hD
  refine lv_aload_n hx hb dX1_init_40 rfl (lv_at hl 0 rfl) ?_
  refine lv_iconst (v := 0) hx hb dX1_init_41 (by decide) ?_
  refine va_put (D := G) (ci := 1) (v := .int 0) (ty := .int) (C := RX1) (T := TX1) (N := 8) hx hb hts (fun _ h => List.mem_cons_of_mem _ (List.mem_append_right _ h)) tyX1 tyX1_ok nmX1 hown hK hP hD hS 0 rfl rfl 6 (by decide) (hts (.fieldLink RX1 34 "ShippedLog$Node" "acknowledged" "I") (by decide +kernel)) (fun _ h9 => h9) rfl (by decide +kernel) rfl rfl (Nat.le_of_ble_eq_true rfl) dX1_init_42 (fun H locs hP hD hS => ?_)
  have hP : va_P G vwCl ([(h, .inr (1, [.ref q5, .int 0, .int 0, .int (-1), .int 0, .int (-1), .int 0, .int 0])), (q5, eL me di), (me, eB (k 2)), (di, eB (k 2))]) H := hP
  have hD : va_D A ([(h, .inr (1, [.ref q5, .int 0, .int 0, .int (-1), .int 0, .int (-1), .int 0, .int 0])), (q5, eL me di), (me, eB (k 2)), (di, eB (k 2))]) := hD
  refine lv_aload_n hx hb dX1_init_45 rfl (lv_at hl 0 rfl) ?_
  refine lv_iconst (v := 0) hx hb dX1_init_46 (by decide) ?_
  refine va_put (D := G) (ci := 1) (v := .int 0) (ty := .int) (C := RX1) (T := TX1) (N := 8) hx hb hts (fun _ h => List.mem_cons_of_mem _ (List.mem_append_right _ h)) tyX1 tyX1_ok nmX1 hown hK hP hD hS 0 rfl rfl 7 (by decide) (hts (.fieldLink RX1 37 "ShippedLog$Node" "promotedAt" "I") (by decide +kernel)) (fun _ h9 => h9) rfl (by decide +kernel) rfl rfl (Nat.le_of_ble_eq_true rfl) dX1_init_47 (fun H locs hP hD hS => ?_)
  have hP : va_P G vwCl ([(h, .inr (1, [.ref q5, .int 0, .int 0, .int (-1), .int 0, .int (-1), .int 0, .int 0])), (q5, eL me di), (me, eB (k 2)), (di, eB (k 2))]) H := hP
  have hD : va_D A ([(h, .inr (1, [.ref q5, .int 0, .int 0, .int (-1), .int 0, .int (-1), .int 0, .int 0])), (q5, eL me di), (me, eB (k 2)), (di, eB (k 2))]) := hD
  exact W.vret hx hb hr (fun t ht hW => ⟨⟨(q5, me, di), rfl, trivial, (by show va_P G vwCl _ t.heap; rw [ht]; exact hP), hD⟩, hS.F ht⟩) hS.2.2 dX1_init_50
/-- a list's members stay when others come -/
theorem fN.mono {k : Nat → ClassId} {ws ws' : va_W} {f : Nat → Option Nat} {i : Nat} (h : fN k ws f i) (hm : ∀ q ∈ ws, q ∈ ws') : fN k ws' f i := fun j hj => by
  obtain ⟨a, lo, me, di, h1, h2, h3, h4, h5, h6⟩ := h j hj
  exact ⟨a, lo, me, di, h1, hm _ h2, hm _ h3, hm _ h4, hm _ h5, h6⟩
theorem fW.mono {ws ws' : va_W} {g : Nat → Option Nat} {i : Nat} (h : fW ws g i) (hm : ∀ q ∈ ws, q ∈ ws') : fW ws' g i := fun j hj => by
  obtain ⟨a, po, bb, h1, h2⟩ := h j hj
  exact ⟨a, po, bb, h1, hm _ h2⟩
theorem fN.add {k : Nat → ClassId} {ws : va_W} {f : Nat → Option Nat} {i a lo me di : Nat} (h : fN k ws f i) (h2 : (a, eN lo 0) ∈ ws) (h3 : (lo, eL me di) ∈ ws) (h4 : (me, eB (k 2)) ∈ ws) (h5 : (di, eB (k 2)) ∈ ws) (h6 : me ≠ di) : fN k ws (va_up f i (some a)) (i + 1) := fun j hj => by
  by_cases e : j = i
  · subst e
    exact ⟨a, lo, me, di, va_up_self _ _ _, h2, h3, h4, h5, h6⟩
  · obtain ⟨a', lo', me', di', h1', h'⟩ := h j (by omega)
    exact ⟨a', lo', me', di', by rw [va_up_ne _ _ e]; exact h1', h'⟩
theorem fW.add {ws : va_W} {g : Nat → Option Nat} {i a po bb : Nat} (h : fW ws g i) (h2 : (a, eW po bb) ∈ ws) : fW ws (va_up g i (some a)) (i + 1) := fun j hj => by
  by_cases e : j = i
  · subst e
    exact ⟨a, po, bb, va_up_self _ _ _, h2⟩
  · obtain ⟨a', po', bb', h1', h'⟩ := h j (by omega)
    exact ⟨a', po', bb', by rw [va_up_ne _ _ e]; exact h1', h'⟩
set_option maxHeartbeats 4000000 in
set_option maxRecDepth 100000 in
/-- the loop that makes the nodes -/
theorem c_init_loop1 {p : Program} {l : Launch} {e : Env} {s : State} {m : MethodId} {below : List Frame} {meth : Method} {c : Code} {G : va_G} {k : Nat → ClassId} {A : Nat → Prop} {x : Nat} {Q : State → Prop} (hx : p.tables.exec = Jvm.exec) (hb : c.code = cX3_init) (hml : c.maxLocals = 2) (hown : s.vm.findClass RX3 = some m.cls) (hts : ∀ w ∈ wsX3_init, w.before #[Value.ref x] s = true) (hin : meth.name = "<init>") (hK : va_K G vwCl (pT k) s) (hN : NB s) (hA : ∀ q : Nat, s.heap.size ≤ q → A q) (nd : Nat)
    (kk : ∀ (pl : va_W) (f : Nat → Option Nat) (H : Heap) (locs : List Loc) (ls : Array Slot), fN k pl f 4 → va_P G vwCl ([(x, .inr (3, [.ref nd, .null, .int 0])), (nd, eQ (k 0) 4 f)] ++ pl) H → va_D A ([(x, .inr (3, [.ref nd, .null, .int 0])), (nd, eQ (k 0) 4 f)] ++ pl) → va_S A s.heap H locs → lv_has ls 2 [(0, .ref x)] → W p l e (headSpec wsX3_init ({ frames := 3, cells := 66, slots := 33412, locals := 80 })).room s m #[Value.ref x] below meth c H locs (17) (32820) Q (F0 m 38 ls [])) :
    ∀ (n i : Nat), i + n = 4 → ∀ (pl : va_W) (f : Nat → Option Nat) (H : Heap) (locs : List Loc) (ls : Array Slot), fN k pl f i → va_P G vwCl ([(x, .inr (3, [.ref nd, .null, .int 0])), (nd, eQ (k 0) 4 f)] ++ pl) H → va_D A ([(x, .inr (3, [.ref nd, .null, .int 0])), (nd, eQ (k 0) 4 f)] ++ pl) → va_S A s.heap H locs → lv_has ls 2 [(0, .ref x), (1, .int (nI i))] → W p l e (headSpec wsX3_init ({ frames := 3, cells := 66, slots := 33412, locals := 80 })).room s m #[Value.ref x] below meth c H locs (1 + 4 * i) (4 + 8204 * i) Q (F0 m 14 ls []) := by
  intro n
  induction n with
  | zero =>
    intro i hi pl f H locs ls hf hP hD hS hl
    have hi4 : i = 4 := by omega
    subst hi4
    refine lv_iload_n hx hb dX3_init_14 rfl (lv_at hl 1 rfl) ?_
    refine lv_iconst (v := 4) hx hb dX3_init_15 (by decide) ?_
    refine lv_icmp_ge (tgt := 38) hx hb dX3_init_16 (by decide) (fun _ => ?_) (fun c9 => absurd (show (4 : Int32) ≤ nI 4 from by decide) c9)
    exact kk pl f H locs ls hf hP hD hS (lv_sub hl [0] rfl)
  | succ n ih =>
    intro i hi pl f H locs ls hf hP hD hS hl
    refine lv_iload_n hx hb dX3_init_14 rfl (lv_at hl 1 rfl) ?_
    refine lv_iconst (v := 4) hx hb dX3_init_15 (by decide) ?_
    refine lv_icmp_ge (tgt := 38) hx hb dX3_init_16 (by decide) (fun c9 => absurd c9 (nI_ge (a := i) (b := 4) (by omega) (by decide))) (fun _ => ?_)
    refine lv_aload_n hx hb dX3_init_19 rfl (lv_at hl 0 rfl) ?_
    refine va_get (D := G) (ci := 3) (v := .ref nd) (C := RX3) (T := TX3) (N := 3) hx hb hts (fun _ h => List.mem_cons_of_mem _ (List.mem_append_left _ (List.mem_append_left _ (List.mem_append_left _ (List.mem_append_right _ h))))) hown hK hP 0 rfl rfl 0 (by decide) (hts (.fieldLink RX3 11 "ShippedLog" "nodes" "[LShippedLog$Node;") (by decide +kernel)) (fun _ h9 => h9) rfl dX3_init_20 ?_
    refine lv_iload_n hx hb dX3_init_23 rfl (lv_at hl 1 rfl) ?_
    refine va_new (ci := 1) (fs := [.null, .int 0, .int 0, .int 0, .int 0, .int 0, .int 0, .int 0]) (C := RX1) (T := TX1) (N := 8) hx hb hts (fun _ h => List.mem_cons_of_mem _ (List.mem_append_left _ (List.mem_append_left _ (List.mem_append_right _ h)))) tyX1 tyX1_ok hown (hts (.classLink RX3 9 RX1) (by decide +kernel)) (hts (.instantiable RX1 8) (by decide +kernel)) (hts (.initialized RX1) (by decide +kernel)) hK hP hD hS hA rfl (fun j hj => by rcases (show j = 0 ∨ j = 1 ∨ j = 2 ∨ j = 3 ∨ j = 4 ∨ j = 5 ∨ j = 6 ∨ j = 7 by omega) with rfl | rfl | rfl | rfl | rfl | rfl | rfl | rfl <;> rfl) (by show _ ≤ 66; omega) (by show _ ≤ 33412; omega) dX3_init_24 (fun qn H hP hD hS => ?_)
    have hP := hP.swap (a := [(x, .inr (3, [.ref nd, .null, .int 0])), (nd, eQ (k 0) 4 f)]) (b := pl)
    have hD := hD.swap (a := [(x, .inr (3, [.ref nd, .null, .int 0])), (nd, eQ (k 0) 4 f)]) (b := pl)
    refine lv_dup hx hb dX3_init_27 rfl ?_
    have hPc : va_P G vwCl [(qn, .inr (1, [.null, .int 0, .int 0, .int 0, .int 0, .int 0, .int 0, .int 0]))] H := hP.mem (fun q hq => by rw [List.mem_singleton.mp hq]; simp)
    have hP : va_P G vwCl ([(x, .inr (3, [.ref nd, .null, .int 0])), (nd, eQ (k 0) 4 f), (qn, .inr (1, [.null, .int 0, .int 0, .int 0, .int 0, .int 0, .int 0, .int 0]))] ++ pl) H := hP
    have hD : va_D A ([(x, .inr (3, [.ref nd, .null, .int 0])), (nd, eQ (k 0) 4 f), (qn, .inr (1, [.null, .int 0, .int 0, .int 0, .int 0, .int 0, .int 0, .int 0]))] ++ pl) := hD
    have hFc : ∀ z, va_A [(qn, .inr (1, [.null, .int 0, .int 0, .int 0, .int 0, .int 0, .int 0, .int 0]))] H.size z → A z := fun z hz => va_freeP (X := [(x, .inr (3, [.ref nd, .null, .int 0])), (nd, eQ (k 0) 4 f), (qn, .inr (1, [.null, .int 0, .int 0, .int 0, .int 0, .int 0, .int 0, .int 0]))]) (pl := pl) (cx := [(qn, .inr (1, [.null, .int 0, .int 0, .int 0, .int 0, .int 0, .int 0, .int 0]))]) hD hS hA [2] rfl z (by
      rcases hz with ⟨i9, e9, hz⟩ | hz
      · exact Or.inl ⟨i9, e9, by rw [List.getElem?_append_left (List.getElem?_eq_some_iff.mp hz).1]; exact hz⟩
      · exact Or.inr hz)
    refine va_callv (va_runIN (As := []) (rest := [.ref qn, .int (nI i), .ref nd]) ⟨hx, hb, hml, hown, hts⟩ (c_Node_init l G k H.size qn) ⟨va_cnB 0 hts gX3_init_X1_init_n15 rfl rfl rfl hN.1 (hts (.initialized RX1) (by decide +kernel)) (by decide +kernel) ⟨(Nat.le_of_ble_eq_true rfl), (Nat.le_of_ble_eq_true rfl)⟩, rfl, hts (.instanceMethod yX1_init) (by decide +kernel)⟩ (PC0.preS hK hN hPc) rfl rfl hl.1 rfl (lv_room (Nat.le_of_ble_eq_true rfl)) dX3_init_28 ⟨(by show _ ≤ 66; omega), (by show _ ≤ 33412; omega)⟩) hS (fun q _ h => hFc q h) hFc (fun u t H1 locs ht hvm hw hB hz1 hk1 hS => ?_)
    obtain ⟨lo, me, di⟩ := u
    obtain ⟨hP1, hD1⟩ := hB
    rw [ht] at hP1
    have hne : me ≠ di := fun e9 => absurd (hD1.1 2 3 _ _ rfl rfl e9) (by decide)
    obtain ⟨hP, hD⟩ := va_joinQ (X := [(x, .inr (3, [.ref nd, .null, .int 0])), (nd, eQ (k 0) 4 f), (qn, .inr (1, [.null, .int 0, .int 0, .int 0, .int 0, .int 0, .int 0, .int 0]))]) (pl := pl) (wr := [(x, .inr (3, [.ref nd, .null, .int 0])), (nd, eQ (k 0) 4 f)]) (w1 := [(qn, eN lo 0), (lo, eL me di), (me, eB (k 2)), (di, eB (k 2))]) hP hD [2] [0, 1] rfl rfl (by decide) (by decide) hk1 hFc hP1 hD1
    generalize H1 = H at hP hS ⊢
    have hP : va_P G vwCl ([(x, .inr (3, [.ref nd, .null, .int 0])), (nd, eQ (k 0) 4 f), (qn, eN lo 0), (lo, eL me di), (me, eB (k 2)), (di, eB (k 2))] ++ pl) H := hP
    have hD : va_D A ([(x, .inr (3, [.ref nd, .null, .int 0])), (nd, eQ (k 0) 4 f), (qn, eN lo 0), (lo, eL me di), (me, eB (k 2)), (di, eB (k 2))] ++ pl) := hD
    refine va_astq hx hb hK hP hD hS 1 0 2 1 rfl rfl rfl rfl (vp_in_nI (n := i) (N := 4) (by omega) (by decide)) dX3_init_31 (fun H locs hP hD hS => ?_)
    rw [nI_clamp (n := i) (by omega)] at hP hD
    refine lv_iinc (v := nI (i + 1)) (lv' := [(1, .int (nI (i + 1))), (0, .ref x)]) hx hb dX3_init_32 hl (k := 1) rfl (nI_succ i).symm (by decide) rfl (fun ls hl => ?_)
    refine lv_goto (tgt := 14) hx hb dX3_init_35 (by decide) ?_
    refine W.widen (k := 1 + 4 * (i + 1)) (n := 4 + 8204 * (i + 1)) (by omega) (by omega) ?_
    exact ih (i + 1) (by omega) ((qn, eN lo 0) :: (lo, eL me di) :: (me, eB (k 2)) :: (di, eB (k 2)) :: pl) (va_up f i (some qn)) H locs ls (fN.add (a := qn) (lo := lo) (me := me) (di := di) (hf.mono (fun q hq => by simp [hq])) List.mem_cons_self (List.mem_cons_of_mem _ List.mem_cons_self) (List.mem_cons_of_mem _ (List.mem_cons_of_mem _ List.mem_cons_self)) (List.mem_cons_of_mem _ (List.mem_cons_of_mem _ (List.mem_cons_of_mem _ List.mem_cons_self))) hne) hP hD hS (lv_sub hl [1, 0] rfl)
set_option maxHeartbeats 4000000 in
set_option maxRecDepth 100000 in
/-- the loop that makes the ways -/
theorem c_init_loop2 {p : Program} {l : Launch} {e : Env} {s : State} {m : MethodId} {below : List Frame} {meth : Method} {c : Code} {G : va_G} {k : Nat → ClassId} {A : Nat → Prop} {x : Nat} {Q : State → Prop} (hx : p.tables.exec = Jvm.exec) (hb : c.code = cX3_init) (hml : c.maxLocals = 2) (hown : s.vm.findClass RX3 = some m.cls) (hts : ∀ w ∈ wsX3_init, w.before #[Value.ref x] s = true) (hin : meth.name = "<init>") (hK : va_K G vwCl (pT k) s) (hN : NB s) (hA : ∀ q : Nat, s.heap.size ≤ q → A q) (nd wy : Nat) (f : Nat → Option Nat)
    (kk : ∀ (pl : va_W) (g : Nat → Option Nat) (H : Heap) (locs : List Loc) (ls : Array Slot), fN k pl f 4 → fW pl g 16 → va_P G vwCl ([(x, .inr (3, [.ref nd, .ref wy, .int 0])), (nd, eQ (k 0) 4 f), (wy, eQ (k 1) 16 g)] ++ pl) H → va_D A ([(x, .inr (3, [.ref nd, .ref wy, .int 0])), (nd, eQ (k 0) 4 f), (wy, eQ (k 1) 16 g)] ++ pl) → va_S A s.heap H locs → lv_has ls 2 [(0, .ref x)] → W p l e (headSpec wsX3_init ({ frames := 3, cells := 66, slots := 33412, locals := 80 })).room s m #[Value.ref x] below meth c H locs (66) (33412) Q (F0 m 74 ls [])) :
    ∀ (n i : Nat), i + n = 16 → ∀ (pl : va_W) (g : Nat → Option Nat) (H : Heap) (locs : List Loc) (ls : Array Slot), fN k pl f 4 → fW pl g i → va_P G vwCl ([(x, .inr (3, [.ref nd, .ref wy, .int 0])), (nd, eQ (k 0) 4 f), (wy, eQ (k 1) 16 g)] ++ pl) H → va_D A ([(x, .inr (3, [.ref nd, .ref wy, .int 0])), (nd, eQ (k 0) 4 f), (wy, eQ (k 1) 16 g)] ++ pl) → va_S A s.heap H locs → lv_has ls 2 [(0, .ref x), (1, .int (nI i))] → W p l e (headSpec wsX3_init ({ frames := 3, cells := 66, slots := 33412, locals := 80 })).room s m #[Value.ref x] below meth c H locs (18 + 3 * i) (32836 + 36 * i) Q (F0 m 49 ls []) := by
  intro n
  induction n with
  | zero =>
    intro i hi pl g H locs ls hf hg hP hD hS hl
    have hi4 : i = 16 := by omega
    subst hi4
    refine lv_iload_n hx hb dX3_init_49 rfl (lv_at hl 1 rfl) ?_
    refine lv_bipush (v := 16) hx hb dX3_init_50 (by decide) ?_
    refine lv_icmp_ge (tgt := 74) hx hb dX3_init_52 (by decide) (fun _ => ?_) (fun c9 => absurd (show (16 : Int32) ≤ nI 16 from by decide) c9)
    exact kk pl g H locs ls hf hg hP hD hS (lv_sub hl [0] rfl)
  | succ n ih =>
    intro i hi pl g H locs ls hf hg hP hD hS hl
    refine lv_iload_n hx hb dX3_init_49 rfl (lv_at hl 1 rfl) ?_
    refine lv_bipush (v := 16) hx hb dX3_init_50 (by decide) ?_
    refine lv_icmp_ge (tgt := 74) hx hb dX3_init_52 (by decide) (fun c9 => absurd c9 (nI_ge (a := i) (b := 16) (by omega) (by decide))) (fun _ => ?_)
    refine lv_aload_n hx hb dX3_init_55 rfl (lv_at hl 0 rfl) ?_
    refine va_get (D := G) (ci := 3) (v := .ref wy) (C := RX3) (T := TX3) (N := 3) hx hb hts (fun _ h => List.mem_cons_of_mem _ (List.mem_append_left _ (List.mem_append_left _ (List.mem_append_left _ (List.mem_append_right _ h))))) hown hK hP 0 rfl rfl 1 (by decide) (hts (.fieldLink RX3 18 "ShippedLog" "ways" "[LShippedLog$Way;") (by decide +kernel)) (fun _ h9 => h9) rfl dX3_init_56 ?_
    refine lv_iload_n hx hb dX3_init_59 rfl (lv_at hl 1 rfl) ?_
    refine va_new (ci := 2) (fs := [.null, .null, .int 0, .int 0]) (C := RX2) (T := TX2) (N := 4) hx hb hts (fun _ h => List.mem_cons_of_mem _ (List.mem_append_left _ (List.mem_append_right _ h))) tyX2 tyX2_ok hown (hts (.classLink RX3 16 RX2) (by decide +kernel)) (hts (.instantiable RX2 4) (by decide +kernel)) (hts (.initialized RX2) (by decide +kernel)) hK hP hD hS hA rfl (fun j hj => by rcases (show j = 0 ∨ j = 1 ∨ j = 2 ∨ j = 3 by omega) with rfl | rfl | rfl | rfl <;> rfl) (by show _ ≤ 66; omega) (by show _ ≤ 33412; omega) dX3_init_60 (fun qn H hP hD hS => ?_)
    have hP := hP.swap (a := [(x, .inr (3, [.ref nd, .ref wy, .int 0])), (nd, eQ (k 0) 4 f), (wy, eQ (k 1) 16 g)]) (b := pl)
    have hD := hD.swap (a := [(x, .inr (3, [.ref nd, .ref wy, .int 0])), (nd, eQ (k 0) 4 f), (wy, eQ (k 1) 16 g)]) (b := pl)
    refine lv_dup hx hb dX3_init_63 rfl ?_
    have hPc : va_P G vwCl [(qn, .inr (2, [.null, .null, .int 0, .int 0]))] H := hP.mem (fun q hq => by rw [List.mem_singleton.mp hq]; simp)
    have hP : va_P G vwCl ([(x, .inr (3, [.ref nd, .ref wy, .int 0])), (nd, eQ (k 0) 4 f), (wy, eQ (k 1) 16 g), (qn, .inr (2, [.null, .null, .int 0, .int 0]))] ++ pl) H := hP
    have hD : va_D A ([(x, .inr (3, [.ref nd, .ref wy, .int 0])), (nd, eQ (k 0) 4 f), (wy, eQ (k 1) 16 g), (qn, .inr (2, [.null, .null, .int 0, .int 0]))] ++ pl) := hD
    have hFc : ∀ z, va_A [(qn, .inr (2, [.null, .null, .int 0, .int 0]))] H.size z → A z := fun z hz => va_freeP (X := [(x, .inr (3, [.ref nd, .ref wy, .int 0])), (nd, eQ (k 0) 4 f), (wy, eQ (k 1) 16 g), (qn, .inr (2, [.null, .null, .int 0, .int 0]))]) (pl := pl) (cx := [(qn, .inr (2, [.null, .null, .int 0, .int 0]))]) hD hS hA [3] rfl z (by
      rcases hz with ⟨i9, e9, hz⟩ | hz
      · exact Or.inl ⟨i9, e9, by rw [List.getElem?_append_left (List.getElem?_eq_some_iff.mp hz).1]; exact hz⟩
      · exact Or.inr hz)
    refine va_callv (va_runIN (As := []) (rest := [.ref qn, .int (nI i), .ref wy]) ⟨hx, hb, hml, hown, hts⟩ (c_Way_init l G k H.size qn) ⟨va_cnB 0 hts gX3_init_X2_init_n22 rfl rfl rfl hN.2.1 (hts (.initialized RX2) (by decide +kernel)) (by decide +kernel) ⟨(Nat.le_of_ble_eq_true rfl), (Nat.le_of_ble_eq_true rfl)⟩, rfl, hts (.instanceMethod yX2_init) (by decide +kernel)⟩ (PC0.preS hK hN hPc) rfl rfl hl.1 rfl (lv_room (Nat.le_of_ble_eq_true rfl)) dX3_init_64 ⟨(by show _ ≤ 66; omega), (by show _ ≤ 33412; omega)⟩) hS (fun q _ h => hFc q h) hFc (fun u t H1 locs ht hvm hw hB hz1 hk1 hS => ?_)
    obtain ⟨po, bb⟩ := u
    obtain ⟨hP1, hD1⟩ := hB
    rw [ht] at hP1
    obtain ⟨hP, hD⟩ := va_joinQ (X := [(x, .inr (3, [.ref nd, .ref wy, .int 0])), (nd, eQ (k 0) 4 f), (wy, eQ (k 1) 16 g), (qn, .inr (2, [.null, .null, .int 0, .int 0]))]) (pl := pl) (wr := [(x, .inr (3, [.ref nd, .ref wy, .int 0])), (nd, eQ (k 0) 4 f), (wy, eQ (k 1) 16 g)]) (w1 := [(qn, eW po bb)]) hP hD [3] [0, 1, 2] rfl rfl (by decide) (by decide) hk1 hFc hP1 hD1
    generalize H1 = H at hP hS ⊢
    have hP : va_P G vwCl ([(x, .inr (3, [.ref nd, .ref wy, .int 0])), (nd, eQ (k 0) 4 f), (wy, eQ (k 1) 16 g), (qn, eW po bb)] ++ pl) H := hP
    have hD : va_D A ([(x, .inr (3, [.ref nd, .ref wy, .int 0])), (nd, eQ (k 0) 4 f), (wy, eQ (k 1) 16 g), (qn, eW po bb)] ++ pl) := hD
    refine va_astq hx hb hK hP hD hS 2 1 3 2 rfl rfl rfl rfl (vp_in_nI (n := i) (N := 16) (by omega) (by decide)) dX3_init_67 (fun H locs hP hD hS => ?_)
    rw [nI_clamp (n := i) (by omega)] at hP hD
    refine lv_iinc (v := nI (i + 1)) (lv' := [(1, .int (nI (i + 1))), (0, .ref x)]) hx hb dX3_init_68 hl (k := 1) rfl (nI_succ i).symm (by decide) rfl (fun ls hl => ?_)
    refine lv_goto (tgt := 49) hx hb dX3_init_71 (by decide) ?_
    refine W.widen (k := 18 + 3 * (i + 1)) (n := 32836 + 36 * (i + 1)) (by omega) (by omega) ?_
    exact ih (i + 1) (by omega) ((qn, eW po bb) :: pl) (va_up g i (some qn)) H locs ls (hf.mono (fun q hq => by simp [hq])) (fW.add (a := qn) (po := po) (bb := bb) (hg.mono (fun q hq => by simp [hq])) List.mem_cons_self) hP hD hS (lv_sub hl [1, 0] rfl)
set_option maxHeartbeats 4000000 in
set_option maxRecDepth 100000 in
/-- ShippedLog(): four nodes, sixteen ways -/
theorem c_ShippedLog_init (l : Launch) (G : va_G) (k : Nat → ClassId) (sz x : Nat) : Met l yX3_init wsX3_init (({ frames := 3, cells := 66, slots := 33412, locals := 80 })) (PC0 G k sz [(x, .inr (3, [.null, .null, .int 0]))] [.ref x]) (va_Qv (fun (u : va_W × Nat × Nat × (Nat → Option Nat) × (Nat → Option Nat)) => FX k u.1 x u.2.1 u.2.2.1 u.2.2.2.1 u.2.2.2.2) (fun u t => va_P G vwCl u.1 t.heap ∧ va_D (va_A [(x, .inr (3, [.null, .null, .int 0]))] sz) u.1) (va_A [(x, .inr (3, [.null, .null, .int 0]))] sz)) 66 33412 (va_A [(x, .inr (3, [.null, .null, .int 0]))] sz) := by
  refine Met.ofW (cc := cX3_init) (maxL := 2) (ret := none) (by decide) rfl ?_
  intro p e s m args below meth c s₁ B hml hv
  obtain ⟨rfl, hsz, hP, hK, hN⟩ := hv
  subst hsz
  have hin : meth.name = "<init>" := (name_of_methodNamed B.named B.method).1
  have hD := (va_D.one (a := x) (e := .inr (3, [.null, .null, .int 0]))).self (sz := s.heap.size)
  generalize hAe : va_A [(x, .inr (3, [.null, .null, .int 0]))] s.heap.size = A at hD ⊢
  have hA : ∀ q : Nat, s.heap.size ≤ q → A q := fun q h => by rw [← hAe]; exact Or.inr h
  have hS : va_S A s.heap s.heap [] := va_S.rf
  have hx := B.exec
  have hb := B.bytes
  have hr := B.returns
  have hts := atoms_spec (ws := wsX3_init) B.pre
  have hown : s.vm.findClass RX3 = some m.cls := findClass_of_methodNamed B.named
  have hlocks := B.notSynchronized
  have hl := lv_entry ([.ref x]) (n := 2) (Nat.le_of_ble_eq_true rfl)
  rw [lg_entry_eq]
  generalize (lg_sl ([.ref x]) ++ List.replicate (2 - (lg_sl ([.ref x])).length) Slot.unset).toArray = ls at hl ⊢
  have hl : lv_has ls 2 [(0, .ref x)] := hl
  refine lv_aload_n hx hb dX3_init_0 rfl (lv_at hl 0 rfl) ?_
  refine W.objInit hx hb hown (hts (.methodLink RX3 3 objectInit) (by decide +kernel)) (hts (.instanceMethod objectInit) (by decide +kernel)) (hts (.code objectInit ⟨#[0xb1]⟩ 1 none) (by decide +kernel)) rfl (by rw [hml]; exact hl.1) rfl dX3_init_1 (Nat.le_of_ble_eq_true rfl) (Nat.le_of_ble_eq_true rfl) ?_
  refine W.eq (g2 := F0 m 4 ls []) rfl ?_
  refine lv_aload_n hx hb dX3_init_4 rfl (lv_at hl 0 rfl) ?_
  refine lv_iconst (v := 4) hx hb dX3_init_5 (by decide) ?_
  refine b_newq (C := "ShippedLog$Node") (t0 := 0) hx hb hown (hts (.classLink RX3 9 RX1) (by decide +kernel)) hN.2.2.2.1 hK rfl hP hD hS hA (N' := 4) (by decide) rfl (Nat.le_of_ble_eq_true rfl) (Nat.le_of_ble_eq_true rfl) (Nat.le_of_ble_eq_true rfl) dX3_init_6 (fun nd H hP hD hS => ?_)
  have hP : va_P G vwCl ([(x, .inr (3, [.null, .null, .int 0])), (nd, eQ (k 0) 4 (fun _ => none))]) H := hP
  have hD : va_D A ([(x, .inr (3, [.null, .null, .int 0])), (nd, eQ (k 0) 4 (fun _ => none))]) := hD
  refine va_putF (D := G) (ci := 3) (v := .ref nd) (ty := .array (.object "ShippedLog$Node")) (C := RX3) (T := TX3) (N := 3) hx hb hts (fun _ h => List.mem_cons_of_mem _ (List.mem_append_left _ (List.mem_append_left _ (List.mem_append_left _ (List.mem_append_right _ h))))) tyX3 tyX3_ok nmX3 hown hK hP hD hS 0 rfl rfl 0 (by decide) (hts (.fieldLink RX3 11 "ShippedLog" "nodes" "[LShippedLog$Node;") (by decide +kernel)) (fun _ h9 => h9) rfl hin rfl (by decide +kernel) rfl rfl (Nat.le_of_ble_eq_true rfl) dX3_init_9 (fun H locs hP hD hS => ?_)
  have hP : va_P G vwCl ([(x, .inr (3, [.ref nd, .null, .int 0])), (nd, eQ (k 0) 4 (fun _ => none))]) H := hP
  have hD : va_D A ([(x, .inr (3, [.ref nd, .null, .int 0])), (nd, eQ (k 0) 4 (fun _ => none))]) := hD
  refine lv_iconst (v := 0) hx hb dX3_init_12 (by decide) ?_
  refine lv_istore_n (lv' := [(1, .int 0), (0, .ref x)]) hx hb dX3_init_13 rfl hl (by decide) rfl (fun ls hl => ?_)
  refine c_init_loop1 hx hb hml hown hts hin hK hN hA nd (fun pl f H locs ls hf hP hD hS hl => ?_) 4 0 rfl [] (fun _ => none) H locs ls (fun j hj => absurd hj (Nat.not_lt_zero j)) (by rw [List.append_nil]; exact hP) (by rw [List.append_nil]; exact hD) hS (lv_sub hl [1, 0] rfl)
  refine lv_aload_n hx hb dX3_init_38 rfl (lv_at hl 0 rfl) ?_
  refine lv_bipush (v := 16) hx hb dX3_init_39 (by decide) ?_
  refine b_newq (C := "ShippedLog$Way") (t0 := 1) hx hb hown (hts (.classLink RX3 16 RX2) (by decide +kernel)) hN.2.2.2.2 hK rfl hP hD hS hA (N' := 16) (by decide) rfl (Nat.le_of_ble_eq_true rfl) (Nat.le_of_ble_eq_true rfl) (Nat.le_of_ble_eq_true rfl) dX3_init_41 (fun wy H hP hD hS => ?_)
  have hP := hP.swap (a := [(x, .inr (3, [.ref nd, .null, .int 0])), (nd, eQ (k 0) 4 f)]) (b := pl)
  have hD := hD.swap (a := [(x, .inr (3, [.ref nd, .null, .int 0])), (nd, eQ (k 0) 4 f)]) (b := pl)
  have hP : va_P G vwCl ([(x, .inr (3, [.ref nd, .null, .int 0])), (nd, eQ (k 0) 4 f), (wy, eQ (k 1) 16 (fun _ => none))] ++ pl) H := hP
  have hD : va_D A ([(x, .inr (3, [.ref nd, .null, .int 0])), (nd, eQ (k 0) 4 f), (wy, eQ (k 1) 16 (fun _ => none))] ++ pl) := hD
  refine va_putF (D := G) (ci := 3) (v := .ref wy) (ty := .array (.object "ShippedLog$Way")) (C := RX3) (T := TX3) (N := 3) hx hb hts (fun _ h => List.mem_cons_of_mem _ (List.mem_append_left _ (List.mem_append_left _ (List.mem_append_left _ (List.mem_append_right _ h))))) tyX3 tyX3_ok nmX3 hown hK hP hD hS 0 rfl rfl 1 (by decide) (hts (.fieldLink RX3 18 "ShippedLog" "ways" "[LShippedLog$Way;") (by decide +kernel)) (fun _ h9 => h9) rfl hin rfl (by decide +kernel) rfl rfl (Nat.le_of_ble_eq_true rfl) dX3_init_44 (fun H locs hP hD hS => ?_)
  have hP : va_P G vwCl ([(x, .inr (3, [.ref nd, .ref wy, .int 0])), (nd, eQ (k 0) 4 f), (wy, eQ (k 1) 16 (fun _ => none))] ++ pl) H := hP
  have hD : va_D A ([(x, .inr (3, [.ref nd, .ref wy, .int 0])), (nd, eQ (k 0) 4 f), (wy, eQ (k 1) 16 (fun _ => none))] ++ pl) := hD
  refine lv_iconst (v := 0) hx hb dX3_init_47 (by decide) ?_
  refine lv_istore_n (lv' := [(1, .int 0), (0, .ref x)]) hx hb dX3_init_48 rfl hl (by decide) rfl (fun ls hl => ?_)
  refine c_init_loop2 hx hb hml hown hts hin hK hN hA nd wy f (fun pl g H locs ls hf hg hP hD hS hl => ?_) 16 0 rfl pl (fun _ => none) H locs ls hf (fun j hj => absurd hj (Nat.not_lt_zero j)) hP hD hS (lv_sub hl [1, 0] rfl)
  refine lv_aload_n hx hb dX3_init_74 rfl (lv_at hl 0 rfl) ?_
  refine lv_iconst (v := 0) hx hb dX3_init_75 (by decide) ?_
  refine va_put (D := G) (ci := 3) (v := .int 0) (ty := .int) (C := RX3) (T := TX3) (N := 3) hx hb hts (fun _ h => List.mem_cons_of_mem _ (List.mem_append_left _ (List.mem_append_left _ (List.mem_append_left _ (List.mem_append_right _ h))))) tyX3 tyX3_ok nmX3 hown hK hP hD hS 0 rfl rfl 2 (by decide) (hts (.fieldLink RX3 23 "ShippedLog" "greatestTimeline" "I") (by decide +kernel)) (fun _ h9 => h9) rfl (by decide +kernel) rfl rfl (Nat.le_of_ble_eq_true rfl) dX3_init_76 (fun H locs hP hD hS => ?_)
  have hP : va_P G vwCl ([(x, .inr (3, [.ref nd, .ref wy, .int 0])), (nd, eQ (k 0) 4 f), (wy, eQ (k 1) 16 g)] ++ pl) H := hP
  have hD : va_D A ([(x, .inr (3, [.ref nd, .ref wy, .int 0])), (nd, eQ (k 0) 4 f), (wy, eQ (k 1) 16 g)] ++ pl) := hD
  exact W.vret hx hb hr (fun t ht hW => ⟨⟨([(x, .inr (3, [.ref nd, .ref wy, .int 0])), (nd, eQ (k 0) 4 f), (wy, eQ (k 1) 16 g)] ++ pl, nd, wy, f, g), rfl, ⟨by simp, by simp, by simp, hf.mono (fun q hq => by simp [hq]), hg.mono (fun q hq => by simp [hq])⟩, (by show va_P G vwCl _ t.heap; rw [ht]; exact hP), hD⟩, hS.F ht⟩) hS.2.2 dX3_init_79
