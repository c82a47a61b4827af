/-! 06: the small methods: numbers of nodes, a node, a way; what is asked for and thrown. Laid by wip/p1/gen06.py -/
set_option maxHeartbeats 4000000 in
set_option maxRecDepth 100000 in
/-- a number in range -/
theorem c_isNode_t (l : Launch) (j : Nat) (hj : j < 4) : Met l yX3_isNode wsX3_isNode (rz0) (va_Pc [.int (nI j)] (fun _ => True)) (QcRead 1) 0 0 (fun _ => False) := by
  refine Met.ofW (cc := cX3_isNode) (maxL := 1) (ret := (some .boolean)) (by decide) rfl ?_
  intro p e s m args below meth c s₁ B hml hv
  obtain ⟨rfl, -⟩ := hv
  have hx := B.exec
  have hb := B.bytes
  have hr := B.returns
  have hts := atoms_spec (ws := wsX3_isNode) B.pre
  have hown : s.vm.findClass RX3 = some m.cls := findClass_of_methodNamed B.named
  have hlocks := B.notSynchronized
  have hl := lv_entry ([.int (nI j)]) (n := 1) (Nat.le_of_ble_eq_true rfl)
  rw [lg_entry_eq]
  generalize (lg_sl ([.int (nI j)]) ++ List.replicate (1 - (lg_sl ([.int (nI j)])).length) Slot.unset).toArray = ls at hl ⊢
  have hl : lv_has ls 1 [(0, .int (nI j))] := hl
  refine lv_iload_n hx hb dX3_isNode_0 rfl (lv_at hl 0 rfl) ?_
  refine lv_if_lt (tgt := 13) hx hb dX3_isNode_1 (by decide) (fun c9 => absurd c9 (n_0 hj)) (fun _ => ?_)
  refine lv_iload_n hx hb dX3_isNode_4 rfl (lv_at hl 0 rfl) ?_
  refine lv_iconst (v := 4) hx hb dX3_isNode_5 (by decide) ?_
  refine lv_icmp_ge (tgt := 13) hx hb dX3_isNode_6 (by decide) (fun c9 => absurd c9 (n_4 hj)) (fun _ => ?_)
  refine lv_iconst (v := 1) hx hb dX3_isNode_9 (by decide) ?_
  refine lv_goto (tgt := 14) hx hb dX3_isNode_10 (by decide) ?_
  exact W.zret (ty := .boolean) (v := 1) hx hb hr rfl (fun t ht hW => ⟨rfl, ht⟩) (fun q h => by cases h) dX3_isNode_14
set_option maxHeartbeats 4000000 in
set_option maxRecDepth 100000 in
/-- a number out of range -/
theorem c_isNode_f (l : Launch) (p0 : Int32) (h : bdN p0) : Met l yX3_isNode wsX3_isNode (rz0) (va_Pc [.int p0] (fun _ => True)) (QcRead 0) 0 0 (fun _ => False) := by
  refine Met.ofW (cc := cX3_isNode) (maxL := 1) (ret := (some .boolean)) (by decide) rfl ?_
  intro p e s m args below meth c s₁ B hml hv
  obtain ⟨rfl, -⟩ := hv
  have hx := B.exec
  have hb := B.bytes
  have hr := B.returns
  have hts := atoms_spec (ws := wsX3_isNode) B.pre
  have hown : s.vm.findClass RX3 = some m.cls := findClass_of_methodNamed B.named
  have hlocks := B.notSynchronized
  have hl := lv_entry ([.int p0]) (n := 1) (Nat.le_of_ble_eq_true rfl)
  rw [lg_entry_eq]
  generalize (lg_sl ([.int p0]) ++ List.replicate (1 - (lg_sl ([.int p0])).length) Slot.unset).toArray = ls at hl ⊢
  have hl : lv_has ls 1 [(0, .int p0)] := hl
  rcases h with h | h
  · refine lv_iload_n hx hb dX3_isNode_0 rfl (lv_at hl 0 rfl) ?_
    refine lv_if_lt (tgt := 13) hx hb dX3_isNode_1 (by decide) (fun _ => ?_) (fun c9 => absurd h c9)
    refine lv_iconst (v := 0) hx hb dX3_isNode_13 (by decide) ?_
    exact W.zret (ty := .boolean) (v := 0) hx hb hr rfl (fun t ht hW => ⟨rfl, ht⟩) (fun q h => by cases h) dX3_isNode_14
  · refine lv_iload_n hx hb dX3_isNode_0 rfl (lv_at hl 0 rfl) ?_
    refine lv_if_lt (tgt := 13) hx hb dX3_isNode_1 (by decide) (fun c9 => absurd c9 (n_ge0 (n := 4) h (by decide))) (fun _ => ?_)
    refine lv_iload_n hx hb dX3_isNode_4 rfl (lv_at hl 0 rfl) ?_
    refine lv_iconst (v := 4) hx hb dX3_isNode_5 (by decide) ?_
    refine lv_icmp_ge (tgt := 13) hx hb dX3_isNode_6 (by decide) (fun _ => ?_) (fun c9 => absurd h c9)
    refine lv_iconst (v := 0) hx hb dX3_isNode_13 (by decide) ?_
    exact W.zret (ty := .boolean) (v := 0) hx hb hr rfl (fun t ht hW => ⟨rfl, ht⟩) (fun q h => by cases h) dX3_isNode_14
set_option maxHeartbeats 4000000 in
set_option maxRecDepth 100000 in
/-- a number in range -/
theorem c_isKey_t (l : Launch) (j : Nat) (hj : j < 16) : Met l yX3_isKey wsX3_isKey (rz0) (va_Pc [.int (nI j)] (fun _ => True)) (QcRead 1) 0 0 (fun _ => False) := by
  refine Met.ofW (cc := cX3_isKey) (maxL := 1) (ret := (some .boolean)) (by decide) rfl ?_
  intro p e s m args below meth c s₁ B hml hv
  obtain ⟨rfl, -⟩ := hv
  have hx := B.exec
  have hb := B.bytes
  have hr := B.returns
  have hts := atoms_spec (ws := wsX3_isKey) B.pre
  have hown : s.vm.findClass RX3 = some m.cls := findClass_of_methodNamed B.named
  have hlocks := B.notSynchronized
  have hl := lv_entry ([.int (nI j)]) (n := 1) (Nat.le_of_ble_eq_true rfl)
  rw [lg_entry_eq]
  generalize (lg_sl ([.int (nI j)]) ++ List.replicate (1 - (lg_sl ([.int (nI j)])).length) Slot.unset).toArray = ls at hl ⊢
  have hl : lv_has ls 1 [(0, .int (nI j))] := hl
  refine lv_iload_n hx hb dX3_isKey_0 rfl (lv_at hl 0 rfl) ?_
  refine lv_if_lt (tgt := 14) hx hb dX3_isKey_1 (by decide) (fun c9 => absurd c9 (n_0k hj)) (fun _ => ?_)
  refine lv_iload_n hx hb dX3_isKey_4 rfl (lv_at hl 0 rfl) ?_
  refine lv_bipush (v := 16) hx hb dX3_isKey_5 (by decide) ?_
  refine lv_icmp_ge (tgt := 14) hx hb dX3_isKey_7 (by decide) (fun c9 => absurd c9 (n_16 hj)) (fun _ => ?_)
  refine lv_iconst (v := 1) hx hb dX3_isKey_10 (by decide) ?_
  refine lv_goto (tgt := 15) hx hb dX3_isKey_11 (by decide) ?_
  exact W.zret (ty := .boolean) (v := 1) hx hb hr rfl (fun t ht hW => ⟨rfl, ht⟩) (fun q h => by cases h) dX3_isKey_15
set_option maxHeartbeats 4000000 in
set_option maxRecDepth 100000 in
/-- a number out of range -/
theorem c_isKey_f (l : Launch) (p0 : Int32) (h : bdK p0) : Met l yX3_isKey wsX3_isKey (rz0) (va_Pc [.int p0] (fun _ => True)) (QcRead 0) 0 0 (fun _ => False) := by
  refine Met.ofW (cc := cX3_isKey) (maxL := 1) (ret := (some .boolean)) (by decide) rfl ?_
  intro p e s m args below meth c s₁ B hml hv
  obtain ⟨rfl, -⟩ := hv
  have hx := B.exec
  have hb := B.bytes
  have hr := B.returns
  have hts := atoms_spec (ws := wsX3_isKey) B.pre
  have hown : s.vm.findClass RX3 = some m.cls := findClass_of_methodNamed B.named
  have hlocks := B.notSynchronized
  have hl := lv_entry ([.int p0]) (n := 1) (Nat.le_of_ble_eq_true rfl)
  rw [lg_entry_eq]
  generalize (lg_sl ([.int p0]) ++ List.replicate (1 - (lg_sl ([.int p0])).length) Slot.unset).toArray = ls at hl ⊢
  have hl : lv_has ls 1 [(0, .int p0)] := hl
  rcases h with h | h
  · refine lv_iload_n hx hb dX3_isKey_0 rfl (lv_at hl 0 rfl) ?_
    refine lv_if_lt (tgt := 14) hx hb dX3_isKey_1 (by decide) (fun _ => ?_) (fun c9 => absurd h c9)
    refine lv_iconst (v := 0) hx hb dX3_isKey_14 (by decide) ?_
    exact W.zret (ty := .boolean) (v := 0) hx hb hr rfl (fun t ht hW => ⟨rfl, ht⟩) (fun q h => by cases h) dX3_isKey_15
  · refine lv_iload_n hx hb dX3_isKey_0 rfl (lv_at hl 0 rfl) ?_
    refine lv_if_lt (tgt := 14) hx hb dX3_isKey_1 (by decide) (fun c9 => absurd c9 (n_ge0 (n := 16) h (by decide))) (fun _ => ?_)
    refine lv_iload_n hx hb dX3_isKey_4 rfl (lv_at hl 0 rfl) ?_
    refine lv_bipush (v := 16) hx hb dX3_isKey_5 (by decide) ?_
    refine lv_icmp_ge (tgt := 14) hx hb dX3_isKey_7 (by decide) (fun _ => ?_) (fun c9 => absurd h c9)
    refine lv_iconst (v := 0) hx hb dX3_isKey_14 (by decide) ?_
    exact W.zret (ty := .boolean) (v := 0) hx hb hr rfl (fun t ht hW => ⟨rfl, ht⟩) (fun q h => by cases h) dX3_isKey_15
set_option maxHeartbeats 4000000 in
set_option maxRecDepth 100000 in
/-- a node that is there -/
theorem c_nodeAt_t (l : Launch) (G : va_G) (k : Nat → ClassId) (ws : va_W) (x nd wy : Nat) (f g : Nat → Option Nat) (hF : FX k ws x nd wy f g) (j : Nat) (hj : j < 4) (a : Nat) (ha : f j = some a) : Met l yX3_nodeAt wsX3_nodeAt (rz1) (PQ G k ws [.ref x, .int (nI j)]) (va_Sq (fun z => z = some a)) 0 0 (fun _ => False) := by
  refine Met.ofW (cc := cX3_nodeAt) (maxL := 2) (ret := (some (.object "ShippedLog$Node"))) (by decide) rfl ?_
  intro p e s m args below meth c s₁ B hml hv
  obtain ⟨rfl, hP, hK⟩ := hv
  obtain ⟨kx, h0⟩ := List.getElem?_of_mem hF.1
  obtain ⟨kn, h1⟩ := List.getElem?_of_mem hF.2.1
  have hx := B.exec
  have hb := B.bytes
  have hr := B.returns
  have hts := atoms_spec (ws := wsX3_nodeAt) B.pre
  have hown : s.vm.findClass RX3 = some m.cls := findClass_of_methodNamed B.named
  have hlocks := B.notSynchronized
  have hl := lv_entry ([.ref x, .int (nI j)]) (n := 2) (Nat.le_of_ble_eq_true rfl)
  rw [lg_entry_eq]
  generalize (lg_sl ([.ref x, .int (nI j)]) ++ List.replicate (2 - (lg_sl ([.ref x, .int (nI j)])).length) Slot.unset).toArray = ls at hl ⊢
  have hl : lv_has ls 2 [(0, .ref x), (1, .int (nI j))] := hl
  refine lv_iload_n hx hb dX3_nodeAt_0 rfl (lv_at hl 1 rfl) ?_
  refine br_call (W.runS (As := [.int (nI j)]) (rest := []) ⟨hx, hb, hml, hown, hts⟩ (c_isNode_t l j hj) (va_cwS 1 hts gX3_nodeAt_X3_isNode rfl rfl rfl (by decide +kernel) ⟨(Nat.le_of_ble_eq_true rfl), (Nat.le_of_ble_eq_true rfl)⟩) (P0.preS) rfl rfl hl.1 rfl (lv_room (Nat.le_of_ble_eq_true rfl)) dX3_nodeAt_1 ⟨(Nat.le_of_ble_eq_true rfl), (Nat.le_of_ble_eq_true rfl)⟩) ?_
  refine lv_if_ne (tgt := 17) hx hb dX3_nodeAt_4 (by decide) (fun _ => ?_) (fun c9 => absurd c9 (by decide : ¬ (1 : Int32) = 0))
  refine lv_aload_n hx hb dX3_nodeAt_17 rfl (lv_at hl 0 rfl) ?_
  refine va_get (D := G) (ci := 3) (v := .ref nd) (C := RX3) (T := TX3) (N := 3) hx hb hts (fun _ h => List.mem_cons_of_mem _ (List.mem_append_left _ (List.mem_append_right _ h))) hown hK hP kx h0 rfl 0 (by decide) (hts (.fieldLink RX3 11 "ShippedLog" "nodes" "[LShippedLog$Node;") (by decide +kernel)) (fun _ h9 => h9) rfl dX3_nodeAt_18 ?_
  refine lv_iload_n hx hb dX3_nodeAt_21 rfl (lv_at hl 1 rfl) ?_
  refine b_aldq hx hb hK hP kn 0 h1 rfl (j := j) rfl hj (by decide) ha dX3_nodeAt_22 ?_
  exact W.aret (v := .ref a) hx hb hr (Or.inl ⟨_, rfl⟩) (Or.inr ⟨_, rfl⟩) (fun t ht hW => ⟨some a, rfl, rfl, ht⟩) (fun q h => by cases h) dX3_nodeAt_23
set_option maxHeartbeats 4000000 in
set_option maxRecDepth 100000 in
/-- no such node -/
theorem c_nodeAt_f (l : Launch) (hl9 : l.stackTraces = false) (G : va_G) (k : Nat → ClassId) (ws : va_W) (sz : Nat) (x : Nat) (p0 : Int32) (h : bdN p0) : vx_Met l yX3_nodeAt wsX3_nodeAt (rzk 0 1 6) (PR G k sz ws [.ref x, .int p0]) (QN) (XE Ioob sz) 1 6 (fun q => sz ≤ q) := by
  refine vx_ofW (cc := cX3_nodeAt) (maxL := 2) (ret := (some (.object "ShippedLog$Node"))) (by decide) rfl ?_
  intro p e s m args below meth c s₁ B hml ht hv
  obtain ⟨rfl, hsz, hP, hI⟩ := hv
  subst hsz
  have hK := hI.1
  have hA : ∀ q : Nat, s.heap.size ≤ q → (fun q => s.heap.size ≤ q) q := fun _ h => h
  have hS : va_S (fun q => s.heap.size ≤ q) s.heap s.heap [] := va_S.rf
  have hx := B.exec
  have hb := B.bytes
  have hr := B.returns
  have hts := atoms_spec (ws := wsX3_nodeAt) B.pre
  have hown : s.vm.findClass RX3 = some m.cls := findClass_of_methodNamed B.named
  have hlocks := B.notSynchronized
  have hl := lv_entry ([.ref x, .int p0]) (n := 2) (Nat.le_of_ble_eq_true rfl)
  rw [lg_entry_eq]
  generalize (lg_sl ([.ref x, .int p0]) ++ List.replicate (2 - (lg_sl ([.ref x, .int p0])).length) Slot.unset).toArray = ls at hl ⊢
  have hl : lv_has ls 2 [(0, .ref x), (1, .int p0)] := hl
  refine lv_iload_n hx hb dX3_nodeAt_0 rfl (lv_at hl 1 rfl) ?_
  refine br_call (W.runS (As := [.int p0]) (rest := []) ⟨hx, hb, hml, hown, hts⟩ (c_isNode_f l p0 h) (va_cwS 1 hts gX3_nodeAt_X3_isNode rfl rfl rfl (by decide +kernel) ⟨(Nat.le_of_ble_eq_true rfl), (Nat.le_of_ble_eq_true rfl)⟩) (P0.preS) rfl rfl hl.1 rfl (lv_room (Nat.le_of_ble_eq_true rfl)) dX3_nodeAt_1 ⟨(Nat.le_of_ble_eq_true rfl), (Nat.le_of_ble_eq_true rfl)⟩) ?_
  refine lv_if_ne (tgt := 17) hx hb dX3_nodeAt_4 (by decide) (fun c9 => absurd rfl c9) (fun _ => ?_)
  exact bt_throw hx hb hl9 hts hown hI hS (cls := Ioob) (text := "no such node") (ik := 134) (is := 220) (ic := 138) (by decide +kernel) (by decide) (by decide +kernel) (by decide +kernel) (by decide +kernel) (fun _ h => List.mem_cons_of_mem _ (List.mem_append_right _ h)) (og_Ioob).1 (og_Ioob).2 (hl.1.trans hml.symm) dX3_nodeAt_7 dX3_nodeAt_10 dX3_nodeAt_11 dX3_nodeAt_13 dX3_nodeAt_16 ht (Nat.le_of_ble_eq_true rfl) (Nat.le_of_ble_eq_true rfl) (Nat.le_of_ble_eq_true rfl) (Nat.le_of_ble_eq_true rfl) hlocks (Nat.le_of_ble_eq_true rfl) (Nat.le_of_ble_eq_true rfl)
set_option maxHeartbeats 4000000 in
set_option maxRecDepth 100000 in
/-- a way that is there -/
theorem c_wayFrom_t (l : Launch) (G : va_G) (k : Nat → ClassId) (ws : va_W) (x nd wy : Nat) (f g : Nat → Option Nat) (hF : FX k ws x nd wy f g) (i j : Nat) (hi : i < 4) (hj : j < 4) (a : Nat) (ha : g (i * 4 + j) = some a) : Met l yX3_wayFrom wsX3_wayFrom (rz1) (PQ G k ws [.ref x, .int (nI i), .int (nI j)]) (va_Sq (fun z => z = some a)) 0 0 (fun _ => False) := by
  refine Met.ofW (cc := cX3_wayFrom) (maxL := 3) (ret := (some (.object "ShippedLog$Way"))) (by decide) rfl ?_
  intro p e s m args below meth c s₁ B hml hv
  obtain ⟨rfl, hP, hK⟩ := hv
  obtain ⟨kx, h0⟩ := List.getElem?_of_mem hF.1
  obtain ⟨ky, h1⟩ := List.getElem?_of_mem hF.2.2.1
  have hx := B.exec
  have hb := B.bytes
  have hr := B.returns
  have hts := atoms_spec (ws := wsX3_wayFrom) B.pre
  have hown : s.vm.findClass RX3 = some m.cls := findClass_of_methodNamed B.named
  have hlocks := B.notSynchronized
  have hl := lv_entry ([.ref x, .int (nI i), .int (nI j)]) (n := 3) (Nat.le_of_ble_eq_true rfl)
  rw [lg_entry_eq]
  generalize (lg_sl ([.ref x, .int (nI i), .int (nI j)]) ++ List.replicate (3 - (lg_sl ([.ref x, .int (nI i), .int (nI j)])).length) Slot.unset).toArray = ls at hl ⊢
  have hl : lv_has ls 3 [(0, .ref x), (1, .int (nI i)), (2, .int (nI j))] := hl
  refine lv_iload_n hx hb dX3_wayFrom_0 rfl (lv_at hl 1 rfl) ?_
  refine br_call (W.runS (As := [.int (nI i)]) (rest := []) ⟨hx, hb, hml, hown, hts⟩ (c_isNode_t l i hi) (va_cwS 1 hts gX3_wayFrom_X3_isNode rfl rfl rfl (by decide +kernel) ⟨(Nat.le_of_ble_eq_true rfl), (Nat.le_of_ble_eq_true rfl)⟩) (P0.preS) rfl rfl hl.1 rfl (lv_room (Nat.le_of_ble_eq_true rfl)) dX3_wayFrom_1 ⟨(Nat.le_of_ble_eq_true rfl), (Nat.le_of_ble_eq_true rfl)⟩) ?_
  refine lv_if_eq (tgt := 14) hx hb dX3_wayFrom_4 (by decide) (fun c9 => absurd c9 (by decide : ¬ (1 : Int32) = 0)) (fun _ => ?_)
  refine lv_iload_n hx hb dX3_wayFrom_7 rfl (lv_at hl 2 rfl) ?_
  refine br_call (W.runS (As := [.int (nI j)]) (rest := []) ⟨hx, hb, hml, hown, hts⟩ (c_isNode_t l j hj) (va_cwS 1 hts gX3_wayFrom_X3_isNode rfl rfl rfl (by decide +kernel) ⟨(Nat.le_of_ble_eq_true rfl), (Nat.le_of_ble_eq_true rfl)⟩) (P0.preS) rfl rfl hl.1 rfl (lv_room (Nat.le_of_ble_eq_true rfl)) dX3_wayFrom_8 ⟨(Nat.le_of_ble_eq_true rfl), (Nat.le_of_ble_eq_true rfl)⟩) ?_
  refine lv_if_ne (tgt := 24) hx hb dX3_wayFrom_11 (by decide) (fun _ => ?_) (fun c9 => absurd c9 (by decide : ¬ (1 : Int32) = 0))
  refine lv_aload_n hx hb dX3_wayFrom_24 rfl (lv_at hl 0 rfl) ?_
  refine va_get (D := G) (ci := 3) (v := .ref wy) (C := RX3) (T := TX3) (N := 3) hx hb hts (fun _ h => List.mem_cons_of_mem _ (List.mem_append_left _ (List.mem_append_right _ h))) hown hK hP kx h0 rfl 1 (by decide) (hts (.fieldLink RX3 18 "ShippedLog" "ways" "[LShippedLog$Way;") (by decide +kernel)) (fun _ h9 => h9) rfl dX3_wayFrom_25 ?_
  refine lv_iload_n hx hb dX3_wayFrom_28 rfl (lv_at hl 1 rfl) ?_
  refine lv_iconst (v := 4) hx hb dX3_wayFrom_29 (by decide) ?_
  refine lv_imul hx hb dX3_wayFrom_30 ?_
  refine lv_iload_n hx hb dX3_wayFrom_31 rfl (lv_at hl 2 rfl) ?_
  refine lv_iadd hx hb dX3_wayFrom_32 ?_
  refine b_aldq hx hb hK hP ky 1 h1 rfl (j := i * 4 + j) (n_ix i j) (by omega) (by decide) ha dX3_wayFrom_33 ?_
  exact W.aret (v := .ref a) hx hb hr (Or.inl ⟨_, rfl⟩) (Or.inr ⟨_, rfl⟩) (fun t ht hW => ⟨some a, rfl, rfl, ht⟩) (fun q h => by cases h) dX3_wayFrom_34
set_option maxHeartbeats 4000000 in
set_option maxRecDepth 100000 in
/-- no such node, the first -/
theorem c_wayFrom_f1 (l : Launch) (hl9 : l.stackTraces = false) (G : va_G) (k : Nat → ClassId) (ws : va_W) (sz : Nat) (x : Nat) (p0 p1 : Int32) (h : bdN p0) : vx_Met l yX3_wayFrom wsX3_wayFrom (rzk 0 1 6) (PR G k sz ws [.ref x, .int p0, .int p1]) (QN) (XE Ioob sz) 1 6 (fun q => sz ≤ q) := by
  refine vx_ofW (cc := cX3_wayFrom) (maxL := 3) (ret := (some (.object "ShippedLog$Way"))) (by decide) rfl ?_
  intro p e s m args below meth c s₁ B hml ht hv
  obtain ⟨rfl, hsz, hP, hI⟩ := hv
  subst hsz
  have hK := hI.1
  have hA : ∀ q : Nat, s.heap.size ≤ q → (fun q => s.heap.size ≤ q) q := fun _ h => h
  have hS : va_S (fun q => s.heap.size ≤ q) s.heap s.heap [] := va_S.rf
  have hx := B.exec
  have hb := B.bytes
  have hr := B.returns
  have hts := atoms_spec (ws := wsX3_wayFrom) B.pre
  have hown : s.vm.findClass RX3 = some m.cls := findClass_of_methodNamed B.named
  have hlocks := B.notSynchronized
  have hl := lv_entry ([.ref x, .int p0, .int p1]) (n := 3) (Nat.le_of_ble_eq_true rfl)
  rw [lg_entry_eq]
  generalize (lg_sl ([.ref x, .int p0, .int p1]) ++ List.replicate (3 - (lg_sl ([.ref x, .int p0, .int p1])).length) Slot.unset).toArray = ls at hl ⊢
  have hl : lv_has ls 3 [(0, .ref x), (1, .int p0), (2, .int p1)] := hl
  refine lv_iload_n hx hb dX3_wayFrom_0 rfl (lv_at hl 1 rfl) ?_
  refine br_call (W.runS (As := [.int p0]) (rest := []) ⟨hx, hb, hml, hown, hts⟩ (c_isNode_f l p0 h) (va_cwS 1 hts gX3_wayFrom_X3_isNode rfl rfl rfl (by decide +kernel) ⟨(Nat.le_of_ble_eq_true rfl), (Nat.le_of_ble_eq_true rfl)⟩) (P0.preS) rfl rfl hl.1 rfl (lv_room (Nat.le_of_ble_eq_true rfl)) dX3_wayFrom_1 ⟨(Nat.le_of_ble_eq_true rfl), (Nat.le_of_ble_eq_true rfl)⟩) ?_
  refine lv_if_eq (tgt := 14) hx hb dX3_wayFrom_4 (by decide) (fun _ => ?_) (fun c9 => absurd rfl c9)
  exact bt_throw hx hb hl9 hts hown hI hS (cls := Ioob) (text := "no such node") (ik := 134) (is := 220) (ic := 138) (by decide +kernel) (by decide) (by decide +kernel) (by decide +kernel) (by decide +kernel) (fun _ h => List.mem_cons_of_mem _ (List.mem_append_right _ h)) (og_Ioob).1 (og_Ioob).2 (hl.1.trans hml.symm) dX3_wayFrom_14 dX3_wayFrom_17 dX3_wayFrom_18 dX3_wayFrom_20 dX3_wayFrom_23 ht (Nat.le_of_ble_eq_true rfl) (Nat.le_of_ble_eq_true rfl) (Nat.le_of_ble_eq_true rfl) (Nat.le_of_ble_eq_true rfl) hlocks (Nat.le_of_ble_eq_true rfl) (Nat.le_of_ble_eq_true rfl)
set_option maxHeartbeats 4000000 in
set_option maxRecDepth 100000 in
/-- no such node, the second -/
theorem c_wayFrom_f2 (l : Launch) (hl9 : l.stackTraces = false) (G : va_G) (k : Nat → ClassId) (ws : va_W) (sz : Nat) (x i : Nat) (hi : i < 4) (p1 : Int32) (h : bdN p1) : vx_Met l yX3_wayFrom wsX3_wayFrom (rzk 0 1 6) (PR G k sz ws [.ref x, .int (nI i), .int p1]) (QN) (XE Ioob sz) 1 6 (fun q => sz ≤ q) := by
  refine vx_ofW (cc := cX3_wayFrom) (maxL := 3) (ret := (some (.object "ShippedLog$Way"))) (by decide) rfl ?_
  intro p e s m args below meth c s₁ B hml ht hv
  obtain ⟨rfl, hsz, hP, hI⟩ := hv
  subst hsz
  have hK := hI.1
  have hA : ∀ q : Nat, s.heap.size ≤ q → (fun q => s.heap.size ≤ q) q := fun _ h => h
  have hS : va_S (fun q => s.heap.size ≤ q) s.heap s.heap [] := va_S.rf
  have hx := B.exec
  have hb := B.bytes
  have hr := B.returns
  have hts := atoms_spec (ws := wsX3_wayFrom) B.pre
  have hown : s.vm.findClass RX3 = some m.cls := findClass_of_methodNamed B.named
  have hlocks := B.notSynchronized
  have hl := lv_entry ([.ref x, .int (nI i), .int p1]) (n := 3) (Nat.le_of_ble_eq_true rfl)
  rw [lg_entry_eq]
  generalize (lg_sl ([.ref x, .int (nI i), .int p1]) ++ List.replicate (3 - (lg_sl ([.ref x, .int (nI i), .int p1])).length) Slot.unset).toArray = ls at hl ⊢
  have hl : lv_has ls 3 [(0, .ref x), (1, .int (nI i)), (2, .int p1)] := hl
  refine lv_iload_n hx hb dX3_wayFrom_0 rfl (lv_at hl 1 rfl) ?_
  refine br_call (W.runS (As := [.int (nI i)]) (rest := []) ⟨hx, hb, hml, hown, hts⟩ (c_isNode_t l i hi) (va_cwS 1 hts gX3_wayFrom_X3_isNode rfl rfl rfl (by decide +kernel) ⟨(Nat.le_of_ble_eq_true rfl), (Nat.le_of_ble_eq_true rfl)⟩) (P0.preS) rfl rfl hl.1 rfl (lv_room (Nat.le_of_ble_eq_true rfl)) dX3_wayFrom_1 ⟨(Nat.le_of_ble_eq_true rfl), (Nat.le_of_ble_eq_true rfl)⟩) ?_
  refine lv_if_eq (tgt := 14) hx hb dX3_wayFrom_4 (by decide) (fun c9 => absurd c9 (by decide : ¬ (1 : Int32) = 0)) (fun _ => ?_)
  refine lv_iload_n hx hb dX3_wayFrom_7 rfl (lv_at hl 2 rfl) ?_
  refine br_call (W.runS (As := [.int p1]) (rest := []) ⟨hx, hb, hml, hown, hts⟩ (c_isNode_f l p1 h) (va_cwS 1 hts gX3_wayFrom_X3_isNode rfl rfl rfl (by decide +kernel) ⟨(Nat.le_of_ble_eq_true rfl), (Nat.le_of_ble_eq_true rfl)⟩) (P0.preS) rfl rfl hl.1 rfl (lv_room (Nat.le_of_ble_eq_true rfl)) dX3_wayFrom_8 ⟨(Nat.le_of_ble_eq_true rfl), (Nat.le_of_ble_eq_true rfl)⟩) ?_
  refine lv_if_ne (tgt := 24) hx hb dX3_wayFrom_11 (by decide) (fun c9 => absurd rfl c9) (fun _ => ?_)
  exact bt_throw hx hb hl9 hts hown hI hS (cls := Ioob) (text := "no such node") (ik := 134) (is := 220) (ic := 138) (by decide +kernel) (by decide) (by decide +kernel) (by decide +kernel) (by decide +kernel) (fun _ h => List.mem_cons_of_mem _ (List.mem_append_right _ h)) (og_Ioob).1 (og_Ioob).2 (hl.1.trans hml.symm) dX3_wayFrom_14 dX3_wayFrom_17 dX3_wayFrom_18 dX3_wayFrom_20 dX3_wayFrom_23 ht (Nat.le_of_ble_eq_true rfl) (Nat.le_of_ble_eq_true rfl) (Nat.le_of_ble_eq_true rfl) (Nat.le_of_ble_eq_true rfl) hlocks (Nat.le_of_ble_eq_true rfl) (Nat.le_of_ble_eq_true rfl)
set_option maxHeartbeats 4000000 in
set_option maxRecDepth 100000 in
/-- a fresh node is no replica -/
theorem c_isReplicaOf_t (l : Launch) (G : va_G) (k : Nat → ClassId) (ws : va_W) (x nd wy : Nat) (f g : Nat → Option Nat) (hF : FX k ws x nd wy f g) (j : Nat) (hj : j < 4) (a lo : Nat) (ha : f j = some a) (ma : (a, eN lo 0) ∈ ws) (p1 : Int32) : Met l yX3_isReplicaOf wsX3_isReplicaOf (rz2) (PQ G k ws [.ref x, .int (nI j), .int p1]) (QcRead 0) 0 0 (fun _ => False) := by
  refine Met.ofW (cc := cX3_isReplicaOf) (maxL := 4) (ret := (some .boolean)) (by decide) rfl ?_
  intro p e s m args below meth c s₁ B hml hv
  obtain ⟨rfl, hP, hK⟩ := hv
  obtain ⟨kx, h0⟩ := List.getElem?_of_mem hF.1
  obtain ⟨kv, h2⟩ := List.getElem?_of_mem ma
  have hx := B.exec
  have hb := B.bytes
  have hr := B.returns
  have hts := atoms_spec (ws := wsX3_isReplicaOf) B.pre
  have hown : s.vm.findClass RX3 = some m.cls := findClass_of_methodNamed B.named
  have hlocks := B.notSynchronized
  have hl := lv_entry ([.ref x, .int (nI j), .int p1]) (n := 4) (Nat.le_of_ble_eq_true rfl)
  rw [lg_entry_eq]
  generalize (lg_sl ([.ref x, .int (nI j), .int p1]) ++ List.replicate (4 - (lg_sl ([.ref x, .int (nI j), .int p1])).length) Slot.unset).toArray = ls at hl ⊢
  have hl : lv_has ls 4 [(0, .ref x), (1, .int (nI j)), (2, .int p1)] := hl
  refine lv_aload_n hx hb dX3_isReplicaOf_0 rfl (lv_at hl 0 rfl) ?_
  refine lv_iload_n hx hb dX3_isReplicaOf_1 rfl (lv_at hl 1 rfl) ?_
  refine bq_call (W.runV (As := [.int (nI j)]) (rest := []) ⟨hx, hb, hml, hown, hts⟩ (c_nodeAt_t l G k ws x nd wy f g hF j hj a ha) (cwV 1 hts gX3_isReplicaOf_X3_nodeAt rfl rfl rfl (by decide +kernel) ⟨(Nat.le_of_ble_eq_true rfl), (Nat.le_of_ble_eq_true rfl)⟩) (PQ.preV hK hP (ci := 3) rfl h0) rfl rfl hl.1 rfl (lv_room (Nat.le_of_ble_eq_true rfl)) dX3_isReplicaOf_2 ⟨(Nat.le_of_ble_eq_true rfl), (Nat.le_of_ble_eq_true rfl)⟩) ?_
  refine lv_astore_n (lv' := [(3, .ref a), (0, .ref x), (1, .int (nI j)), (2, .int p1)]) hx hb dX3_isReplicaOf_5 rfl hl (by decide) rfl (fun ls hl => ?_)
  refine lv_aload_n hx hb dX3_isReplicaOf_6 rfl (lv_at hl 0 rfl) ?_
  refine va_get (D := G) (ci := 1) (v := .int 0) (C := RX1) (T := TX1) (N := 8) hx hb hts (fun _ h => List.mem_cons_of_mem _ (List.mem_append_left _ (List.mem_append_left _ (List.mem_append_right _ h)))) hown hK hP kv h2 rfl 1 (by decide) (hts (.fieldLink RX3 31 "ShippedLog$Node" "role" "I") (by decide +kernel)) (fun _ h9 => h9) rfl dX3_isReplicaOf_7 ?_
  refine lv_iconst (v := 3) hx hb dX3_isReplicaOf_10 (by decide) ?_
  refine lv_icmp_ne (tgt := 26) hx hb dX3_isReplicaOf_11 (by decide) (fun _ => ?_) (fun c9 => absurd c9 (by decide : ¬ (0 : Int32) = 3))
  refine lv_iconst (v := 0) hx hb dX3_isReplicaOf_26 (by decide) ?_
  exact W.zret (ty := .boolean) (v := 0) hx hb hr rfl (fun t ht hW => ⟨rfl, ht⟩) (fun q h => by cases h) dX3_isReplicaOf_27
set_option maxHeartbeats 4000000 in
set_option maxRecDepth 100000 in
/-- a fresh node is no primary -/
theorem c_requirePrimary_n (l : Launch) (hl9 : l.stackTraces = false) (G : va_G) (k : Nat → ClassId) (ws : va_W) (sz : Nat) (a lo : Nat) (ma : (a, eN lo 0) ∈ ws) : vx_Met l yX3_requirePrimary wsX3_requirePrimary (rzk 0 1 6) (PR G k sz ws [.ref a]) (QN) (XE Istt sz) 1 6 (fun q => sz ≤ q) := by
  refine vx_ofW (cc := cX3_requirePrimary) (maxL := 1) (ret := none) (by decide) rfl ?_
  intro p e s m args below meth c s₁ B hml ht hv
  obtain ⟨rfl, hsz, hP, hI⟩ := hv
  subst hsz
  have hK := hI.1
  have hA : ∀ q : Nat, s.heap.size ≤ q → (fun q => s.heap.size ≤ q) q := fun _ h => h
  have hS : va_S (fun q => s.heap.size ≤ q) s.heap s.heap [] := va_S.rf
  obtain ⟨kv, h2⟩ := List.getElem?_of_mem ma
  have hx := B.exec
  have hb := B.bytes
  have hr := B.returns
  have hts := atoms_spec (ws := wsX3_requirePrimary) B.pre
  have hown : s.vm.findClass RX3 = some m.cls := findClass_of_methodNamed B.named
  have hlocks := B.notSynchronized
  have hl := lv_entry ([.ref a]) (n := 1) (Nat.le_of_ble_eq_true rfl)
  rw [lg_entry_eq]
  generalize (lg_sl ([.ref a]) ++ List.replicate (1 - (lg_sl ([.ref a])).length) Slot.unset).toArray = ls at hl ⊢
  have hl : lv_has ls 1 [(0, .ref a)] := hl
  refine lv_aload_n hx hb dX3_requirePrimary_0 rfl (lv_at hl 0 rfl) ?_
  refine va_get (D := G) (ci := 1) (v := .int 0) (C := RX1) (T := TX1) (N := 8) hx hb hts (fun _ h => List.mem_cons_of_mem _ (List.mem_append_left _ (List.mem_append_right _ h))) hown hK hP kv h2 rfl 1 (by decide) (hts (.fieldLink RX3 31 "ShippedLog$Node" "role" "I") (by decide +kernel)) (fun _ h9 => h9) rfl dX3_requirePrimary_1 ?_
  refine lv_iconst (v := 2) hx hb dX3_requirePrimary_4 (by decide) ?_
  refine lv_icmp_eq (tgt := 18) hx hb dX3_requirePrimary_5 (by decide) (fun c9 => absurd c9 (by decide : ¬ (0 : Int32) = 2)) (fun _ => ?_)
  exact bt_throw hx hb hl9 hts hown hI hS (cls := Istt) (text := "the node is no primary") (ik := 34) (is := 225) (ic := 38) (by decide +kernel) (by decide) (by decide +kernel) (by decide +kernel) (by decide +kernel) (fun _ h => List.mem_cons_of_mem _ (List.mem_append_right _ h)) (og_Istt).1 (og_Istt).2 (hl.1.trans hml.symm) dX3_requirePrimary_8 dX3_requirePrimary_11 dX3_requirePrimary_12 dX3_requirePrimary_14 dX3_requirePrimary_17 ht (Nat.le_of_ble_eq_true rfl) (Nat.le_of_ble_eq_true rfl) (Nat.le_of_ble_eq_true rfl) (Nat.le_of_ble_eq_true rfl) hlocks (Nat.le_of_ble_eq_true rfl) (Nat.le_of_ble_eq_true rfl)
set_option maxHeartbeats 4000000 in
set_option maxRecDepth 100000 in
/-- a fresh node is linked to none -/
theorem c_requireLink_n (l : Launch) (hl9 : l.stackTraces = false) (G : va_G) (k : Nat → ClassId) (ws : va_W) (sz : Nat) (nd wy x : Nat) (f g : Nat → Option Nat) (hF : FX k ws x nd wy f g) (j : Nat) (hj : j < 4) (a lo : Nat) (ha : f j = some a) (ma : (a, eN lo 0) ∈ ws) (p0 : Int32) : vx_Met l yX3_requireLink wsX3_requireLink (rzk 0 1 6) (PR G k sz ws [.ref x, .int p0, .int (nI j)]) (QN) (XE Istt sz) 1 6 (fun q => sz ≤ q) := by
  refine vx_ofW (cc := cX3_requireLink) (maxL := 3) (ret := none) (by decide) rfl ?_
  intro p e s m args below meth c s₁ B hml ht hv
  obtain ⟨rfl, hsz, hP, hI⟩ := hv
  subst hsz
  have hK := hI.1
  have hA : ∀ q : Nat, s.heap.size ≤ q → (fun q => s.heap.size ≤ q) q := fun _ h => h
  have hS : va_S (fun q => s.heap.size ≤ q) s.heap s.heap [] := va_S.rf
  obtain ⟨kx, h0⟩ := List.getElem?_of_mem hF.1
  have hx := B.exec
  have hb := B.bytes
  have hr := B.returns
  have hts := atoms_spec (ws := wsX3_requireLink) B.pre
  have hown : s.vm.findClass RX3 = some m.cls := findClass_of_methodNamed B.named
  have hlocks := B.notSynchronized
  have hl := lv_entry ([.ref x, .int p0, .int (nI j)]) (n := 3) (Nat.le_of_ble_eq_true rfl)
  rw [lg_entry_eq]
  generalize (lg_sl ([.ref x, .int p0, .int (nI j)]) ++ List.replicate (3 - (lg_sl ([.ref x, .int p0, .int (nI j)])).length) Slot.unset).toArray = ls at hl ⊢
  have hl : lv_has ls 3 [(0, .ref x), (1, .int p0), (2, .int (nI j))] := hl
  refine lv_aload_n hx hb dX3_requireLink_0 rfl (lv_at hl 0 rfl) ?_
  refine lv_iload_n hx hb dX3_requireLink_1 rfl (lv_at hl 2 rfl) ?_
  refine lv_iload_n hx hb dX3_requireLink_2 rfl (lv_at hl 1 rfl) ?_
  refine br_call (W.runV (As := [.int (nI j), .int p0]) (rest := []) ⟨hx, hb, hml, hown, hts⟩ (c_isReplicaOf_t l G k ws x nd wy f g hF j hj a lo ha ma p0) (cwV 2 hts gX3_requireLink_X3_isReplicaOf rfl rfl rfl (by decide +kernel) ⟨(Nat.le_of_ble_eq_true rfl), (Nat.le_of_ble_eq_true rfl)⟩) (PQ.preV hK hP (ci := 3) rfl h0) rfl rfl hl.1 rfl (lv_room (Nat.le_of_ble_eq_true rfl)) dX3_requireLink_3 ⟨(Nat.le_of_ble_eq_true rfl), (Nat.le_of_ble_eq_true rfl)⟩) ?_
  refine lv_if_ne (tgt := 19) hx hb dX3_requireLink_6 (by decide) (fun c9 => absurd rfl c9) (fun _ => ?_)
  exact bt_throw hx hb hl9 hts hown hI hS (cls := Istt) (text := "not a primary and a replica of it") (ik := 34) (is := 230) (ic := 38) (by decide +kernel) (by decide) (by decide +kernel) (by decide +kernel) (by decide +kernel) (fun _ h => List.mem_cons_of_mem _ (List.mem_append_left _ (List.mem_append_right _ h))) (og_Istt).1 (og_Istt).2 (hl.1.trans hml.symm) dX3_requireLink_9 dX3_requireLink_12 dX3_requireLink_13 dX3_requireLink_15 dX3_requireLink_18 ht (Nat.le_of_ble_eq_true rfl) (Nat.le_of_ble_eq_true rfl) (Nat.le_of_ble_eq_true rfl) (Nat.le_of_ble_eq_true rfl) hlocks (Nat.le_of_ble_eq_true rfl) (Nat.le_of_ble_eq_true rfl)
