/-! 07: the calls of the class on a fresh object, road by road (all but up of a good node). Laid by wip/p1/gen07.py -/
set_option maxHeartbeats 4000000 in
set_option maxRecDepth 100000 in
/-- no such node -/
theorem c_up_bad (l : Launch) (hl9 : l.stackTraces = false) (G : va_G) (k : Nat → ClassId) (ws : va_W) (sz : Nat) (x nd wy : Nat) (f g : Nat → Option Nat) (hF : FX k ws x nd wy f g) (p0 : Int32) (h : bdN p0) : vx_Met l yX3_up wsX3_up (rzk 2 1 6) (PR G k sz ws [.ref x, .int p0]) (QN) (XE Ioob sz) 1 6 (fun q => sz ≤ q) := by
  refine vx_ofW (cc := cX3_up) (maxL := 3) (ret := (some .int)) (by decide) rfl ?_
  intro p e s m args below meth c s₁ B hml ht hv
  obtain ⟨rfl, hsz, hP, hI⟩ := hv
  subst hsz
  have hK := hI.1
  have hA : ∀ q : Nat, s.heap.size ≤ q → (fun q => s.heap.size ≤ q) q := fun _ h => h
  have hS : va_S (fun q => s.heap.size ≤ q) s.heap s.heap [] := va_S.rf
  obtain ⟨kx, h0⟩ := List.getElem?_of_mem hF.1
  have hx := B.exec
  have hb := B.bytes
  have hr := B.returns
  have hts := atoms_spec (ws := wsX3_up) B.pre
  have hown : s.vm.findClass RX3 = some m.cls := findClass_of_methodNamed B.named
  have hlocks := B.notSynchronized
  have hl := lv_entry ([.ref x, .int p0]) (n := 3) (Nat.le_of_ble_eq_true rfl)
  rw [lg_entry_eq]
  generalize (lg_sl ([.ref x, .int p0]) ++ List.replicate (3 - (lg_sl ([.ref x, .int p0])).length) Slot.unset).toArray = ls at hl ⊢
  have hl : lv_has ls 3 [(0, .ref x), (1, .int p0)] := hl
  refine lv_aload_n hx hb dX3_up_0 rfl (lv_at hl 0 rfl) ?_
  refine lv_iload_n hx hb dX3_up_1 rfl (lv_at hl 1 rfl) ?_
  refine bt_call (vx_runV (As := [.int p0]) (rest := []) ⟨hx, hb, hml, hown, hts⟩ (c_nodeAt_f l hl9 G k ws _ x p0 h) (cwV 1 hts gX3_up_X3_nodeAt rfl rfl rfl (by decide +kernel) ⟨(Nat.le_of_ble_eq_true rfl), (Nat.le_of_ble_eq_true rfl)⟩) (PR.preV hI hS hA hP (ci := 3) rfl h0) rfl rfl hl.1 rfl (lv_room (Nat.le_of_ble_eq_true rfl)) dX3_up_2 ⟨(Nat.le_of_ble_eq_true rfl), (Nat.le_of_ble_eq_true rfl)⟩) (fun _ _ _ h => h) hS hA (fun q h => Nat.le_trans hS.1 h) (fun ce q9 H1 locs1 hH hS h1 h2 h3 => ?_)
  exact bt_out ht hlocks h1 h2 h3 hS (Nat.le_of_ble_eq_true rfl) (Nat.le_of_ble_eq_true rfl)
set_option maxHeartbeats 4000000 in
set_option maxRecDepth 100000 in
/-- no such node -/
theorem c_promote_bad (l : Launch) (hl9 : l.stackTraces = false) (G : va_G) (k : Nat → ClassId) (ws : va_W) (sz : Nat) (x nd wy : Nat) (f g : Nat → Option Nat) (hF : FX k ws x nd wy f g) (p0 : Int32) (h : bdN p0) : vx_Met l yX3_promote wsX3_promote (rzk 2 1 6) (PR G k sz ws [.ref x, .int p0]) (QN) (XE Ioob sz) 1 6 (fun q => sz ≤ q) := by
  refine vx_ofW (cc := cX3_promote) (maxL := 3) (ret := (some .int)) (by decide) rfl ?_
  intro p e s m args below meth c s₁ B hml ht hv
  obtain ⟨rfl, hsz, hP, hI⟩ := hv
  subst hsz
  have hK := hI.1
  have hA : ∀ q : Nat, s.heap.size ≤ q → (fun q => s.heap.size ≤ q) q := fun _ h => h
  have hS : va_S (fun q => s.heap.size ≤ q) s.heap s.heap [] := va_S.rf
  obtain ⟨kx, h0⟩ := List.getElem?_of_mem hF.1
  have hx := B.exec
  have hb := B.bytes
  have hr := B.returns
  have hts := atoms_spec (ws := wsX3_promote) B.pre
  have hown : s.vm.findClass RX3 = some m.cls := findClass_of_methodNamed B.named
  have hlocks := B.notSynchronized
  have hl := lv_entry ([.ref x, .int p0]) (n := 3) (Nat.le_of_ble_eq_true rfl)
  rw [lg_entry_eq]
  generalize (lg_sl ([.ref x, .int p0]) ++ List.replicate (3 - (lg_sl ([.ref x, .int p0])).length) Slot.unset).toArray = ls at hl ⊢
  have hl : lv_has ls 3 [(0, .ref x), (1, .int p0)] := hl
  refine lv_aload_n hx hb dX3_promote_0 rfl (lv_at hl 0 rfl) ?_
  refine lv_iload_n hx hb dX3_promote_1 rfl (lv_at hl 1 rfl) ?_
  refine bt_call (vx_runV (As := [.int p0]) (rest := []) ⟨hx, hb, hml, hown, hts⟩ (c_nodeAt_f l hl9 G k ws _ x p0 h) (cwV 1 hts gX3_promote_X3_nodeAt rfl rfl rfl (by decide +kernel) ⟨(Nat.le_of_ble_eq_true rfl), (Nat.le_of_ble_eq_true rfl)⟩) (PR.preV hI hS hA hP (ci := 3) rfl h0) rfl rfl hl.1 rfl (lv_room (Nat.le_of_ble_eq_true rfl)) dX3_promote_2 ⟨(Nat.le_of_ble_eq_true rfl), (Nat.le_of_ble_eq_true rfl)⟩) (fun _ _ _ h => h) hS hA (fun q h => Nat.le_trans hS.1 h) (fun ce q9 H1 locs1 hH hS h1 h2 h3 => ?_)
  exact bt_out ht hlocks h1 h2 h3 hS (Nat.le_of_ble_eq_true rfl) (Nat.le_of_ble_eq_true rfl)
set_option maxHeartbeats 4000000 in
set_option maxRecDepth 100000 in
/-- no such node -/
theorem c_commit_bad (l : Launch) (hl9 : l.stackTraces = false) (G : va_G) (k : Nat → ClassId) (ws : va_W) (sz : Nat) (x nd wy : Nat) (f g : Nat → Option Nat) (hF : FX k ws x nd wy f g) (p0 : Int32) (h : bdN p0) : vx_Met l yX3_commit wsX3_commit (rzk 2 1 6) (PR G k sz ws [.ref x, .int p0]) (QN) (XE Ioob sz) 1 6 (fun q => sz ≤ q) := by
  refine vx_ofW (cc := cX3_commit) (maxL := 3) (ret := (some .boolean)) (by decide) rfl ?_
  intro p e s m args below meth c s₁ B hml ht hv
  obtain ⟨rfl, hsz, hP, hI⟩ := hv
  subst hsz
  have hK := hI.1
  have hA : ∀ q : Nat, s.heap.size ≤ q → (fun q => s.heap.size ≤ q) q := fun _ h => h
  have hS : va_S (fun q => s.heap.size ≤ q) s.heap s.heap [] := va_S.rf
  obtain ⟨kx, h0⟩ := List.getElem?_of_mem hF.1
  have hx := B.exec
  have hb := B.bytes
  have hr := B.returns
  have hts := atoms_spec (ws := wsX3_commit) B.pre
  have hown : s.vm.findClass RX3 = some m.cls := findClass_of_methodNamed B.named
  have hlocks := B.notSynchronized
  have hl := lv_entry ([.ref x, .int p0]) (n := 3) (Nat.le_of_ble_eq_true rfl)
  rw [lg_entry_eq]
  generalize (lg_sl ([.ref x, .int p0]) ++ List.replicate (3 - (lg_sl ([.ref x, .int p0])).length) Slot.unset).toArray = ls at hl ⊢
  have hl : lv_has ls 3 [(0, .ref x), (1, .int p0)] := hl
  refine lv_aload_n hx hb dX3_commit_0 rfl (lv_at hl 0 rfl) ?_
  refine lv_iload_n hx hb dX3_commit_1 rfl (lv_at hl 1 rfl) ?_
  refine bt_call (vx_runV (As := [.int p0]) (rest := []) ⟨hx, hb, hml, hown, hts⟩ (c_nodeAt_f l hl9 G k ws _ x p0 h) (cwV 1 hts gX3_commit_X3_nodeAt rfl rfl rfl (by decide +kernel) ⟨(Nat.le_of_ble_eq_true rfl), (Nat.le_of_ble_eq_true rfl)⟩) (PR.preV hI hS hA hP (ci := 3) rfl h0) rfl rfl hl.1 rfl (lv_room (Nat.le_of_ble_eq_true rfl)) dX3_commit_2 ⟨(Nat.le_of_ble_eq_true rfl), (Nat.le_of_ble_eq_true rfl)⟩) (fun _ _ _ h => h) hS hA (fun q h => Nat.le_trans hS.1 h) (fun ce q9 H1 locs1 hH hS h1 h2 h3 => ?_)
  exact bt_out ht hlocks h1 h2 h3 hS (Nat.le_of_ble_eq_true rfl) (Nat.le_of_ble_eq_true rfl)
set_option maxHeartbeats 4000000 in
set_option maxRecDepth 100000 in
/-- no such node -/
theorem c_crash_bad (l : Launch) (hl9 : l.stackTraces = false) (G : va_G) (k : Nat → ClassId) (ws : va_W) (sz : Nat) (x nd wy : Nat) (f g : Nat → Option Nat) (hF : FX k ws x nd wy f g) (p0 : Int32) (h : bdN p0) (p1 : Int32) : vx_Met l yX3_crash wsX3_crash (rzk 2 1 6) (PR G k sz ws [.ref x, .int p0, .int p1]) (QN) (XE Ioob sz) 1 6 (fun q => sz ≤ q) := by
  refine vx_ofW (cc := cX3_crash) (maxL := 5) (ret := (some .int)) (by decide) rfl ?_
  intro p e s m args below meth c s₁ B hml ht hv
  obtain ⟨rfl, hsz, hP, hI⟩ := hv
  subst hsz
  have hK := hI.1
  have hA : ∀ q : Nat, s.heap.size ≤ q → (fun q => s.heap.size ≤ q) q := fun _ h => h
  have hS : va_S (fun q => s.heap.size ≤ q) s.heap s.heap [] := va_S.rf
  obtain ⟨kx, h0⟩ := List.getElem?_of_mem hF.1
  have hx := B.exec
  have hb := B.bytes
  have hr := B.returns
  have hts := atoms_spec (ws := wsX3_crash) B.pre
  have hown : s.vm.findClass RX3 = some m.cls := findClass_of_methodNamed B.named
  have hlocks := B.notSynchronized
  have hl := lv_entry ([.ref x, .int p0, .int p1]) (n := 5) (Nat.le_of_ble_eq_true rfl)
  rw [lg_entry_eq]
  generalize (lg_sl ([.ref x, .int p0, .int p1]) ++ List.replicate (5 - (lg_sl ([.ref x, .int p0, .int p1])).length) Slot.unset).toArray = ls at hl ⊢
  have hl : lv_has ls 5 [(0, .ref x), (1, .int p0), (2, .int p1)] := hl
  refine lv_aload_n hx hb dX3_crash_0 rfl (lv_at hl 0 rfl) ?_
  refine lv_iload_n hx hb dX3_crash_1 rfl (lv_at hl 1 rfl) ?_
  refine bt_call (vx_runV (As := [.int p0]) (rest := []) ⟨hx, hb, hml, hown, hts⟩ (c_nodeAt_f l hl9 G k ws _ x p0 h) (cwV 1 hts gX3_crash_X3_nodeAt rfl rfl rfl (by decide +kernel) ⟨(Nat.le_of_ble_eq_true rfl), (Nat.le_of_ble_eq_true rfl)⟩) (PR.preV hI hS hA hP (ci := 3) rfl h0) rfl rfl hl.1 rfl (lv_room (Nat.le_of_ble_eq_true rfl)) dX3_crash_2 ⟨(Nat.le_of_ble_eq_true rfl), (Nat.le_of_ble_eq_true rfl)⟩) (fun _ _ _ h => h) hS hA (fun q h => Nat.le_trans hS.1 h) (fun ce q9 H1 locs1 hH hS h1 h2 h3 => ?_)
  exact bt_out ht hlocks h1 h2 h3 hS (Nat.le_of_ble_eq_true rfl) (Nat.le_of_ble_eq_true rfl)
set_option maxHeartbeats 4000000 in
set_option maxRecDepth 100000 in
/-- no such node -/
theorem c_follow_bad (l : Launch) (hl9 : l.stackTraces = false) (G : va_G) (k : Nat → ClassId) (ws : va_W) (sz : Nat) (x nd wy : Nat) (f g : Nat → Option Nat) (hF : FX k ws x nd wy f g) (p0 : Int32) (h : bdN p0) (p1 : Int32) : vx_Met l yX3_follow wsX3_follow (rzk 2 1 6) (PR G k sz ws [.ref x, .int p0, .int p1]) (QN) (XE Ioob sz) 1 6 (fun q => sz ≤ q) := by
  refine vx_ofW (cc := cX3_follow) (maxL := 5) (ret := none) (by decide) rfl ?_
  intro p e s m args below meth c s₁ B hml ht hv
  obtain ⟨rfl, hsz, hP, hI⟩ := hv
  subst hsz
  have hK := hI.1
  have hA : ∀ q : Nat, s.heap.size ≤ q → (fun q => s.heap.size ≤ q) q := fun _ h => h
  have hS : va_S (fun q => s.heap.size ≤ q) s.heap s.heap [] := va_S.rf
  obtain ⟨kx, h0⟩ := List.getElem?_of_mem hF.1
  have hx := B.exec
  have hb := B.bytes
  have hr := B.returns
  have hts := atoms_spec (ws := wsX3_follow) B.pre
  have hown : s.vm.findClass RX3 = some m.cls := findClass_of_methodNamed B.named
  have hlocks := B.notSynchronized
  have hl := lv_entry ([.ref x, .int p0, .int p1]) (n := 5) (Nat.le_of_ble_eq_true rfl)
  rw [lg_entry_eq]
  generalize (lg_sl ([.ref x, .int p0, .int p1]) ++ List.replicate (5 - (lg_sl ([.ref x, .int p0, .int p1])).length) Slot.unset).toArray = ls at hl ⊢
  have hl : lv_has ls 5 [(0, .ref x), (1, .int p0), (2, .int p1)] := hl
  refine lv_aload_n hx hb dX3_follow_0 rfl (lv_at hl 0 rfl) ?_
  refine lv_iload_n hx hb dX3_follow_1 rfl (lv_at hl 1 rfl) ?_
  refine bt_call (vx_runV (As := [.int p0]) (rest := []) ⟨hx, hb, hml, hown, hts⟩ (c_nodeAt_f l hl9 G k ws _ x p0 h) (cwV 1 hts gX3_follow_X3_nodeAt rfl rfl rfl (by decide +kernel) ⟨(Nat.le_of_ble_eq_true rfl), (Nat.le_of_ble_eq_true rfl)⟩) (PR.preV hI hS hA hP (ci := 3) rfl h0) rfl rfl hl.1 rfl (lv_room (Nat.le_of_ble_eq_true rfl)) dX3_follow_2 ⟨(Nat.le_of_ble_eq_true rfl), (Nat.le_of_ble_eq_true rfl)⟩) (fun _ _ _ h => h) hS hA (fun q h => Nat.le_trans hS.1 h) (fun ce q9 H1 locs1 hH hS h1 h2 h3 => ?_)
  exact bt_out ht hlocks h1 h2 h3 hS (Nat.le_of_ble_eq_true rfl) (Nat.le_of_ble_eq_true rfl)
set_option maxHeartbeats 4000000 in
set_option maxRecDepth 100000 in
/-- no such node -/
theorem c_rewind_bad (l : Launch) (hl9 : l.stackTraces = false) (G : va_G) (k : Nat → ClassId) (ws : va_W) (sz : Nat) (x nd wy : Nat) (f g : Nat → Option Nat) (hF : FX k ws x nd wy f g) (p0 : Int32) (h : bdN p0) (p1 : Int32) : vx_Met l yX3_rewind wsX3_rewind (rzk 2 1 6) (PR G k sz ws [.ref x, .int p0, .int p1]) (QN) (XE Ioob sz) 1 6 (fun q => sz ≤ q) := by
  refine vx_ofW (cc := cX3_rewind) (maxL := 6) (ret := (some .int)) (by decide) rfl ?_
  intro p e s m args below meth c s₁ B hml ht hv
  obtain ⟨rfl, hsz, hP, hI⟩ := hv
  subst hsz
  have hK := hI.1
  have hA : ∀ q : Nat, s.heap.size ≤ q → (fun q => s.heap.size ≤ q) q := fun _ h => h
  have hS : va_S (fun q => s.heap.size ≤ q) s.heap s.heap [] := va_S.rf
  obtain ⟨kx, h0⟩ := List.getElem?_of_mem hF.1
  have hx := B.exec
  have hb := B.bytes
  have hr := B.returns
  have hts := atoms_spec (ws := wsX3_rewind) B.pre
  have hown : s.vm.findClass RX3 = some m.cls := findClass_of_methodNamed B.named
  have hlocks := B.notSynchronized
  have hl := lv_entry ([.ref x, .int p0, .int p1]) (n := 6) (Nat.le_of_ble_eq_true rfl)
  rw [lg_entry_eq]
  generalize (lg_sl ([.ref x, .int p0, .int p1]) ++ List.replicate (6 - (lg_sl ([.ref x, .int p0, .int p1])).length) Slot.unset).toArray = ls at hl ⊢
  have hl : lv_has ls 6 [(0, .ref x), (1, .int p0), (2, .int p1)] := hl
  refine lv_aload_n hx hb dX3_rewind_0 rfl (lv_at hl 0 rfl) ?_
  refine lv_iload_n hx hb dX3_rewind_1 rfl (lv_at hl 1 rfl) ?_
  refine bt_call (vx_runV (As := [.int p0]) (rest := []) ⟨hx, hb, hml, hown, hts⟩ (c_nodeAt_f l hl9 G k ws _ x p0 h) (cwV 1 hts gX3_rewind_X3_nodeAt rfl rfl rfl (by decide +kernel) ⟨(Nat.le_of_ble_eq_true rfl), (Nat.le_of_ble_eq_true rfl)⟩) (PR.preV hI hS hA hP (ci := 3) rfl h0) rfl rfl hl.1 rfl (lv_room (Nat.le_of_ble_eq_true rfl)) dX3_rewind_2 ⟨(Nat.le_of_ble_eq_true rfl), (Nat.le_of_ble_eq_true rfl)⟩) (fun _ _ _ h => h) hS hA (fun q h => Nat.le_trans hS.1 h) (fun ce q9 H1 locs1 hH hS h1 h2 h3 => ?_)
  exact bt_out ht hlocks h1 h2 h3 hS (Nat.le_of_ble_eq_true rfl) (Nat.le_of_ble_eq_true rfl)
set_option maxHeartbeats 4000000 in
set_option maxRecDepth 100000 in
/-- no such node -/
theorem c_standby_bad (l : Launch) (hl9 : l.stackTraces = false) (G : va_G) (k : Nat → ClassId) (ws : va_W) (sz : Nat) (x nd wy : Nat) (f g : Nat → Option Nat) (hF : FX k ws x nd wy f g) (p0 : Int32) (h : bdN p0) (p1 : Int32) : vx_Met l yX3_standby wsX3_standby (rzk 2 1 6) (PR G k sz ws [.ref x, .int p0, .int p1]) (QN) (XE Ioob sz) 1 6 (fun q => sz ≤ q) := by
  refine vx_ofW (cc := cX3_standby) (maxL := 5) (ret := (some .int)) (by decide) rfl ?_
  intro p e s m args below meth c s₁ B hml ht hv
  obtain ⟨rfl, hsz, hP, hI⟩ := hv
  subst hsz
  have hK := hI.1
  have hA : ∀ q : Nat, s.heap.size ≤ q → (fun q => s.heap.size ≤ q) q := fun _ h => h
  have hS : va_S (fun q => s.heap.size ≤ q) s.heap s.heap [] := va_S.rf
  obtain ⟨kx, h0⟩ := List.getElem?_of_mem hF.1
  have hx := B.exec
  have hb := B.bytes
  have hr := B.returns
  have hts := atoms_spec (ws := wsX3_standby) B.pre
  have hown : s.vm.findClass RX3 = some m.cls := findClass_of_methodNamed B.named
  have hlocks := B.notSynchronized
  have hl := lv_entry ([.ref x, .int p0, .int p1]) (n := 5) (Nat.le_of_ble_eq_true rfl)
  rw [lg_entry_eq]
  generalize (lg_sl ([.ref x, .int p0, .int p1]) ++ List.replicate (5 - (lg_sl ([.ref x, .int p0, .int p1])).length) Slot.unset).toArray = ls at hl ⊢
  have hl : lv_has ls 5 [(0, .ref x), (1, .int p0), (2, .int p1)] := hl
  refine lv_aload_n hx hb dX3_standby_0 rfl (lv_at hl 0 rfl) ?_
  refine lv_iload_n hx hb dX3_standby_1 rfl (lv_at hl 1 rfl) ?_
  refine bt_call (vx_runV (As := [.int p0]) (rest := []) ⟨hx, hb, hml, hown, hts⟩ (c_nodeAt_f l hl9 G k ws _ x p0 h) (cwV 1 hts gX3_standby_X3_nodeAt rfl rfl rfl (by decide +kernel) ⟨(Nat.le_of_ble_eq_true rfl), (Nat.le_of_ble_eq_true rfl)⟩) (PR.preV hI hS hA hP (ci := 3) rfl h0) rfl rfl hl.1 rfl (lv_room (Nat.le_of_ble_eq_true rfl)) dX3_standby_2 ⟨(Nat.le_of_ble_eq_true rfl), (Nat.le_of_ble_eq_true rfl)⟩) (fun _ _ _ h => h) hS hA (fun q h => Nat.le_trans hS.1 h) (fun ce q9 H1 locs1 hH hS h1 h2 h3 => ?_)
  exact bt_out ht hlocks h1 h2 h3 hS (Nat.le_of_ble_eq_true rfl) (Nat.le_of_ble_eq_true rfl)
set_option maxHeartbeats 4000000 in
set_option maxRecDepth 100000 in
/-- no such node -/
theorem c_send_bad (l : Launch) (hl9 : l.stackTraces = false) (G : va_G) (k : Nat → ClassId) (ws : va_W) (sz : Nat) (x nd wy : Nat) (f g : Nat → Option Nat) (hF : FX k ws x nd wy f g) (p0 : Int32) (h : bdN p0) (p1 : Int32) : vx_Met l yX3_send wsX3_send (rzk 2 1 6) (PR G k sz ws [.ref x, .int p0, .int p1]) (QN) (XE Ioob sz) 1 6 (fun q => sz ≤ q) := by
  refine vx_ofW (cc := cX3_send) (maxL := 7) (ret := (some .int)) (by decide) rfl ?_
  intro p e s m args below meth c s₁ B hml ht hv
  obtain ⟨rfl, hsz, hP, hI⟩ := hv
  subst hsz
  have hK := hI.1
  have hA : ∀ q : Nat, s.heap.size ≤ q → (fun q => s.heap.size ≤ q) q := fun _ h => h
  have hS : va_S (fun q => s.heap.size ≤ q) s.heap s.heap [] := va_S.rf
  obtain ⟨kx, h0⟩ := List.getElem?_of_mem hF.1
  have hx := B.exec
  have hb := B.bytes
  have hr := B.returns
  have hts := atoms_spec (ws := wsX3_send) B.pre
  have hown : s.vm.findClass RX3 = some m.cls := findClass_of_methodNamed B.named
  have hlocks := B.notSynchronized
  have hl := lv_entry ([.ref x, .int p0, .int p1]) (n := 7) (Nat.le_of_ble_eq_true rfl)
  rw [lg_entry_eq]
  generalize (lg_sl ([.ref x, .int p0, .int p1]) ++ List.replicate (7 - (lg_sl ([.ref x, .int p0, .int p1])).length) Slot.unset).toArray = ls at hl ⊢
  have hl : lv_has ls 7 [(0, .ref x), (1, .int p0), (2, .int p1)] := hl
  refine lv_aload_n hx hb dX3_send_0 rfl (lv_at hl 0 rfl) ?_
  refine lv_iload_n hx hb dX3_send_1 rfl (lv_at hl 1 rfl) ?_
  refine bt_call (vx_runV (As := [.int p0]) (rest := []) ⟨hx, hb, hml, hown, hts⟩ (c_nodeAt_f l hl9 G k ws _ x p0 h) (cwV 1 hts gX3_send_X3_nodeAt rfl rfl rfl (by decide +kernel) ⟨(Nat.le_of_ble_eq_true rfl), (Nat.le_of_ble_eq_true rfl)⟩) (PR.preV hI hS hA hP (ci := 3) rfl h0) rfl rfl hl.1 rfl (lv_room (Nat.le_of_ble_eq_true rfl)) dX3_send_2 ⟨(Nat.le_of_ble_eq_true rfl), (Nat.le_of_ble_eq_true rfl)⟩) (fun _ _ _ h => h) hS hA (fun q h => Nat.le_trans hS.1 h) (fun ce q9 H1 locs1 hH hS h1 h2 h3 => ?_)
  exact bt_out ht hlocks h1 h2 h3 hS (Nat.le_of_ble_eq_true rfl) (Nat.le_of_ble_eq_true rfl)
set_option maxHeartbeats 4000000 in
set_option maxRecDepth 100000 in
/-- no such node -/
theorem c_apply_bad (l : Launch) (hl9 : l.stackTraces = false) (G : va_G) (k : Nat → ClassId) (ws : va_W) (sz : Nat) (x nd wy : Nat) (f g : Nat → Option Nat) (hF : FX k ws x nd wy f g) (p0 : Int32) (h : bdN p0) (p1 : Int32) : vx_Met l yX3_apply wsX3_apply (rzk 2 1 6) (PR G k sz ws [.ref x, .int p0, .int p1]) (QN) (XE Ioob sz) 1 6 (fun q => sz ≤ q) := by
  refine vx_ofW (cc := cX3_apply) (maxL := 5) (ret := (some .int)) (by decide) rfl ?_
  intro p e s m args below meth c s₁ B hml ht hv
  obtain ⟨rfl, hsz, hP, hI⟩ := hv
  subst hsz
  have hK := hI.1
  have hA : ∀ q : Nat, s.heap.size ≤ q → (fun q => s.heap.size ≤ q) q := fun _ h => h
  have hS : va_S (fun q => s.heap.size ≤ q) s.heap s.heap [] := va_S.rf
  obtain ⟨kx, h0⟩ := List.getElem?_of_mem hF.1
  have hx := B.exec
  have hb := B.bytes
  have hr := B.returns
  have hts := atoms_spec (ws := wsX3_apply) B.pre
  have hown : s.vm.findClass RX3 = some m.cls := findClass_of_methodNamed B.named
  have hlocks := B.notSynchronized
  have hl := lv_entry ([.ref x, .int p0, .int p1]) (n := 5) (Nat.le_of_ble_eq_true rfl)
  rw [lg_entry_eq]
  generalize (lg_sl ([.ref x, .int p0, .int p1]) ++ List.replicate (5 - (lg_sl ([.ref x, .int p0, .int p1])).length) Slot.unset).toArray = ls at hl ⊢
  have hl : lv_has ls 5 [(0, .ref x), (1, .int p0), (2, .int p1)] := hl
  refine lv_aload_n hx hb dX3_apply_0 rfl (lv_at hl 0 rfl) ?_
  refine lv_iload_n hx hb dX3_apply_1 rfl (lv_at hl 1 rfl) ?_
  refine bt_call (vx_runV (As := [.int p0]) (rest := []) ⟨hx, hb, hml, hown, hts⟩ (c_nodeAt_f l hl9 G k ws _ x p0 h) (cwV 1 hts gX3_apply_X3_nodeAt rfl rfl rfl (by decide +kernel) ⟨(Nat.le_of_ble_eq_true rfl), (Nat.le_of_ble_eq_true rfl)⟩) (PR.preV hI hS hA hP (ci := 3) rfl h0) rfl rfl hl.1 rfl (lv_room (Nat.le_of_ble_eq_true rfl)) dX3_apply_2 ⟨(Nat.le_of_ble_eq_true rfl), (Nat.le_of_ble_eq_true rfl)⟩) (fun _ _ _ h => h) hS hA (fun q h => Nat.le_trans hS.1 h) (fun ce q9 H1 locs1 hH hS h1 h2 h3 => ?_)
  exact bt_out ht hlocks h1 h2 h3 hS (Nat.le_of_ble_eq_true rfl) (Nat.le_of_ble_eq_true rfl)
set_option maxHeartbeats 4000000 in
set_option maxRecDepth 100000 in
/-- no such node -/
theorem c_get_bad (l : Launch) (hl9 : l.stackTraces = false) (G : va_G) (k : Nat → ClassId) (ws : va_W) (sz : Nat) (x nd wy : Nat) (f g : Nat → Option Nat) (hF : FX k ws x nd wy f g) (p0 : Int32) (h : bdN p0) (p1 : Int32) : vx_Met l yX3_get wsX3_get (rzk 2 1 6) (PR G k sz ws [.ref x, .int p0, .int p1]) (QN) (XE Ioob sz) 1 6 (fun q => sz ≤ q) := by
  refine vx_ofW (cc := cX3_get) (maxL := 4) (ret := (some .int)) (by decide) rfl ?_
  intro p e s m args below meth c s₁ B hml ht hv
  obtain ⟨rfl, hsz, hP, hI⟩ := hv
  subst hsz
  have hK := hI.1
  have hA : ∀ q : Nat, s.heap.size ≤ q → (fun q => s.heap.size ≤ q) q := fun _ h => h
  have hS : va_S (fun q => s.heap.size ≤ q) s.heap s.heap [] := va_S.rf
  obtain ⟨kx, h0⟩ := List.getElem?_of_mem hF.1
  have hx := B.exec
  have hb := B.bytes
  have hr := B.returns
  have hts := atoms_spec (ws := wsX3_get) B.pre
  have hown : s.vm.findClass RX3 = some m.cls := findClass_of_methodNamed B.named
  have hlocks := B.notSynchronized
  have hl := lv_entry ([.ref x, .int p0, .int p1]) (n := 4) (Nat.le_of_ble_eq_true rfl)
  rw [lg_entry_eq]
  generalize (lg_sl ([.ref x, .int p0, .int p1]) ++ List.replicate (4 - (lg_sl ([.ref x, .int p0, .int p1])).length) Slot.unset).toArray = ls at hl ⊢
  have hl : lv_has ls 4 [(0, .ref x), (1, .int p0), (2, .int p1)] := hl
  refine lv_aload_n hx hb dX3_get_0 rfl (lv_at hl 0 rfl) ?_
  refine lv_iload_n hx hb dX3_get_1 rfl (lv_at hl 1 rfl) ?_
  refine bt_call (vx_runV (As := [.int p0]) (rest := []) ⟨hx, hb, hml, hown, hts⟩ (c_nodeAt_f l hl9 G k ws _ x p0 h) (cwV 1 hts gX3_get_X3_nodeAt rfl rfl rfl (by decide +kernel) ⟨(Nat.le_of_ble_eq_true rfl), (Nat.le_of_ble_eq_true rfl)⟩) (PR.preV hI hS hA hP (ci := 3) rfl h0) rfl rfl hl.1 rfl (lv_room (Nat.le_of_ble_eq_true rfl)) dX3_get_2 ⟨(Nat.le_of_ble_eq_true rfl), (Nat.le_of_ble_eq_true rfl)⟩) (fun _ _ _ h => h) hS hA (fun q h => Nat.le_trans hS.1 h) (fun ce q9 H1 locs1 hH hS h1 h2 h3 => ?_)
  exact bt_out ht hlocks h1 h2 h3 hS (Nat.le_of_ble_eq_true rfl) (Nat.le_of_ble_eq_true rfl)
set_option maxHeartbeats 4000000 in
set_option maxRecDepth 100000 in
/-- no such node -/
theorem c_node_bad (l : Launch) (hl9 : l.stackTraces = false) (G : va_G) (k : Nat → ClassId) (ws : va_W) (sz : Nat) (x nd wy : Nat) (f g : Nat → Option Nat) (hF : FX k ws x nd wy f g) (p0 : Int32) (h : bdN p0) (p1 : Int32) : vx_Met l yX3_node wsX3_node (rzk 2 1 6) (PR G k sz ws [.ref x, .int p0, .int p1]) (QN) (XE Ioob sz) 1 6 (fun q => sz ≤ q) := by
  refine vx_ofW (cc := cX3_node) (maxL := 4) (ret := (some .int)) (by decide) rfl ?_
  intro p e s m args below meth c s₁ B hml ht hv
  obtain ⟨rfl, hsz, hP, hI⟩ := hv
  subst hsz
  have hK := hI.1
  have hA : ∀ q : Nat, s.heap.size ≤ q → (fun q => s.heap.size ≤ q) q := fun _ h => h
  have hS : va_S (fun q => s.heap.size ≤ q) s.heap s.heap [] := va_S.rf
  obtain ⟨kx, h0⟩ := List.getElem?_of_mem hF.1
  have hx := B.exec
  have hb := B.bytes
  have hr := B.returns
  have hts := atoms_spec (ws := wsX3_node) B.pre
  have hown : s.vm.findClass RX3 = some m.cls := findClass_of_methodNamed B.named
  have hlocks := B.notSynchronized
  have hl := lv_entry ([.ref x, .int p0, .int p1]) (n := 4) (Nat.le_of_ble_eq_true rfl)
  rw [lg_entry_eq]
  generalize (lg_sl ([.ref x, .int p0, .int p1]) ++ List.replicate (4 - (lg_sl ([.ref x, .int p0, .int p1])).length) Slot.unset).toArray = ls at hl ⊢
  have hl : lv_has ls 4 [(0, .ref x), (1, .int p0), (2, .int p1)] := hl
  refine lv_aload_n hx hb dX3_node_0 rfl (lv_at hl 0 rfl) ?_
  refine lv_iload_n hx hb dX3_node_1 rfl (lv_at hl 1 rfl) ?_
  refine bt_call (vx_runV (As := [.int p0]) (rest := []) ⟨hx, hb, hml, hown, hts⟩ (c_nodeAt_f l hl9 G k ws _ x p0 h) (cwV 1 hts gX3_node_X3_nodeAt rfl rfl rfl (by decide +kernel) ⟨(Nat.le_of_ble_eq_true rfl), (Nat.le_of_ble_eq_true rfl)⟩) (PR.preV hI hS hA hP (ci := 3) rfl h0) rfl rfl hl.1 rfl (lv_room (Nat.le_of_ble_eq_true rfl)) dX3_node_2 ⟨(Nat.le_of_ble_eq_true rfl), (Nat.le_of_ble_eq_true rfl)⟩) (fun _ _ _ h => h) hS hA (fun q h => Nat.le_trans hS.1 h) (fun ce q9 H1 locs1 hH hS h1 h2 h3 => ?_)
  exact bt_out ht hlocks h1 h2 h3 hS (Nat.le_of_ble_eq_true rfl) (Nat.le_of_ble_eq_true rfl)
set_option maxHeartbeats 4000000 in
set_option maxRecDepth 100000 in
/-- no such node -/
theorem c_put_bad (l : Launch) (hl9 : l.stackTraces = false) (G : va_G) (k : Nat → ClassId) (ws : va_W) (sz : Nat) (x nd wy : Nat) (f g : Nat → Option Nat) (hF : FX k ws x nd wy f g) (p0 : Int32) (h : bdN p0) (p1 p2 : Int32) : vx_Met l yX3_put wsX3_put (rzk 2 1 6) (PR G k sz ws [.ref x, .int p0, .int p1, .int p2]) (QN) (XE Ioob sz) 1 6 (fun q => sz ≤ q) := by
  refine vx_ofW (cc := cX3_put) (maxL := 6) (ret := (some .int)) (by decide) rfl ?_
  intro p e s m args below meth c s₁ B hml ht hv
  obtain ⟨rfl, hsz, hP, hI⟩ := hv
  subst hsz
  have hK := hI.1
  have hA : ∀ q : Nat, s.heap.size ≤ q → (fun q => s.heap.size ≤ q) q := fun _ h => h
  have hS : va_S (fun q => s.heap.size ≤ q) s.heap s.heap [] := va_S.rf
  obtain ⟨kx, h0⟩ := List.getElem?_of_mem hF.1
  have hx := B.exec
  have hb := B.bytes
  have hr := B.returns
  have hts := atoms_spec (ws := wsX3_put) B.pre
  have hown : s.vm.findClass RX3 = some m.cls := findClass_of_methodNamed B.named
  have hlocks := B.notSynchronized
  have hl := lv_entry ([.ref x, .int p0, .int p1, .int p2]) (n := 6) (Nat.le_of_ble_eq_true rfl)
  rw [lg_entry_eq]
  generalize (lg_sl ([.ref x, .int p0, .int p1, .int p2]) ++ List.replicate (6 - (lg_sl ([.ref x, .int p0, .int p1, .int p2])).length) Slot.unset).toArray = ls at hl ⊢
  have hl : lv_has ls 6 [(0, .ref x), (1, .int p0), (2, .int p1), (3, .int p2)] := hl
  refine lv_aload_n hx hb dX3_put_0 rfl (lv_at hl 0 rfl) ?_
  refine lv_iload_n hx hb dX3_put_1 rfl (lv_at hl 1 rfl) ?_
  refine bt_call (vx_runV (As := [.int p0]) (rest := []) ⟨hx, hb, hml, hown, hts⟩ (c_nodeAt_f l hl9 G k ws _ x p0 h) (cwV 1 hts gX3_put_X3_nodeAt rfl rfl rfl (by decide +kernel) ⟨(Nat.le_of_ble_eq_true rfl), (Nat.le_of_ble_eq_true rfl)⟩) (PR.preV hI hS hA hP (ci := 3) rfl h0) rfl rfl hl.1 rfl (lv_room (Nat.le_of_ble_eq_true rfl)) dX3_put_2 ⟨(Nat.le_of_ble_eq_true rfl), (Nat.le_of_ble_eq_true rfl)⟩) (fun _ _ _ h => h) hS hA (fun q h => Nat.le_trans hS.1 h) (fun ce q9 H1 locs1 hH hS h1 h2 h3 => ?_)
  exact bt_out ht hlocks h1 h2 h3 hS (Nat.le_of_ble_eq_true rfl) (Nat.le_of_ble_eq_true rfl)
set_option maxHeartbeats 4000000 in
set_option maxRecDepth 100000 in
/-- no such node -/
theorem c_byteAt_bad (l : Launch) (hl9 : l.stackTraces = false) (G : va_G) (k : Nat → ClassId) (ws : va_W) (sz : Nat) (x nd wy : Nat) (f g : Nat → Option Nat) (hF : FX k ws x nd wy f g) (p0 : Int32) (h : bdN p0) (p1 p2 : Int32) : vx_Met l yX3_byteAt wsX3_byteAt (rzk 2 1 6) (PR G k sz ws [.ref x, .int p0, .int p1, .int p2]) (QN) (XE Ioob sz) 1 6 (fun q => sz ≤ q) := by
  refine vx_ofW (cc := cX3_byteAt) (maxL := 5) (ret := (some .int)) (by decide) rfl ?_
  intro p e s m args below meth c s₁ B hml ht hv
  obtain ⟨rfl, hsz, hP, hI⟩ := hv
  subst hsz
  have hK := hI.1
  have hA : ∀ q : Nat, s.heap.size ≤ q → (fun q => s.heap.size ≤ q) q := fun _ h => h
  have hS : va_S (fun q => s.heap.size ≤ q) s.heap s.heap [] := va_S.rf
  obtain ⟨kx, h0⟩ := List.getElem?_of_mem hF.1
  have hx := B.exec
  have hb := B.bytes
  have hr := B.returns
  have hts := atoms_spec (ws := wsX3_byteAt) B.pre
  have hown : s.vm.findClass RX3 = some m.cls := findClass_of_methodNamed B.named
  have hlocks := B.notSynchronized
  have hl := lv_entry ([.ref x, .int p0, .int p1, .int p2]) (n := 5) (Nat.le_of_ble_eq_true rfl)
  rw [lg_entry_eq]
  generalize (lg_sl ([.ref x, .int p0, .int p1, .int p2]) ++ List.replicate (5 - (lg_sl ([.ref x, .int p0, .int p1, .int p2])).length) Slot.unset).toArray = ls at hl ⊢
  have hl : lv_has ls 5 [(0, .ref x), (1, .int p0), (2, .int p1), (3, .int p2)] := hl
  refine lv_aload_n hx hb dX3_byteAt_0 rfl (lv_at hl 0 rfl) ?_
  refine lv_iload_n hx hb dX3_byteAt_1 rfl (lv_at hl 1 rfl) ?_
  refine bt_call (vx_runV (As := [.int p0]) (rest := []) ⟨hx, hb, hml, hown, hts⟩ (c_nodeAt_f l hl9 G k ws _ x p0 h) (cwV 1 hts gX3_byteAt_X3_nodeAt rfl rfl rfl (by decide +kernel) ⟨(Nat.le_of_ble_eq_true rfl), (Nat.le_of_ble_eq_true rfl)⟩) (PR.preV hI hS hA hP (ci := 3) rfl h0) rfl rfl hl.1 rfl (lv_room (Nat.le_of_ble_eq_true rfl)) dX3_byteAt_2 ⟨(Nat.le_of_ble_eq_true rfl), (Nat.le_of_ble_eq_true rfl)⟩) (fun _ _ _ h => h) hS hA (fun q h => Nat.le_trans hS.1 h) (fun ce q9 H1 locs1 hH hS h1 h2 h3 => ?_)
  exact bt_out ht hlocks h1 h2 h3 hS (Nat.le_of_ble_eq_true rfl) (Nat.le_of_ble_eq_true rfl)
set_option maxHeartbeats 4000000 in
set_option maxRecDepth 100000 in
/-- no such node -/
theorem c_link_bad (l : Launch) (hl9 : l.stackTraces = false) (G : va_G) (k : Nat → ClassId) (ws : va_W) (sz : Nat) (x nd wy : Nat) (f g : Nat → Option Nat) (hF : FX k ws x nd wy f g) (p0 : Int32) (h : bdN p0) (p1 p2 : Int32) : vx_Met l yX3_link wsX3_link (rzk 2 1 6) (PR G k sz ws [.ref x, .int p0, .int p1, .int p2]) (QN) (XE Ioob sz) 1 6 (fun q => sz ≤ q) := by
  refine vx_ofW (cc := cX3_link) (maxL := 5) (ret := (some .int)) (by decide) rfl ?_
  intro p e s m args below meth c s₁ B hml ht hv
  obtain ⟨rfl, hsz, hP, hI⟩ := hv
  subst hsz
  have hK := hI.1
  have hA : ∀ q : Nat, s.heap.size ≤ q → (fun q => s.heap.size ≤ q) q := fun _ h => h
  have hS : va_S (fun q => s.heap.size ≤ q) s.heap s.heap [] := va_S.rf
  obtain ⟨kx, h0⟩ := List.getElem?_of_mem hF.1
  have hx := B.exec
  have hb := B.bytes
  have hr := B.returns
  have hts := atoms_spec (ws := wsX3_link) B.pre
  have hown : s.vm.findClass RX3 = some m.cls := findClass_of_methodNamed B.named
  have hlocks := B.notSynchronized
  have hl := lv_entry ([.ref x, .int p0, .int p1, .int p2]) (n := 5) (Nat.le_of_ble_eq_true rfl)
  rw [lg_entry_eq]
  generalize (lg_sl ([.ref x, .int p0, .int p1, .int p2]) ++ List.replicate (5 - (lg_sl ([.ref x, .int p0, .int p1, .int p2])).length) Slot.unset).toArray = ls at hl ⊢
  have hl : lv_has ls 5 [(0, .ref x), (1, .int p0), (2, .int p1), (3, .int p2)] := hl
  refine lv_aload_n hx hb dX3_link_0 rfl (lv_at hl 0 rfl) ?_
  refine lv_iload_n hx hb dX3_link_1 rfl (lv_at hl 1 rfl) ?_
  refine bt_call (vx_runV (As := [.int p0]) (rest := []) ⟨hx, hb, hml, hown, hts⟩ (c_nodeAt_f l hl9 G k ws _ x p0 h) (cwV 1 hts gX3_link_X3_nodeAt rfl rfl rfl (by decide +kernel) ⟨(Nat.le_of_ble_eq_true rfl), (Nat.le_of_ble_eq_true rfl)⟩) (PR.preV hI hS hA hP (ci := 3) rfl h0) rfl rfl hl.1 rfl (lv_room (Nat.le_of_ble_eq_true rfl)) dX3_link_2 ⟨(Nat.le_of_ble_eq_true rfl), (Nat.le_of_ble_eq_true rfl)⟩) (fun _ _ _ h => h) hS hA (fun q h => Nat.le_trans hS.1 h) (fun ce q9 H1 locs1 hH hS h1 h2 h3 => ?_)
  exact bt_out ht hlocks h1 h2 h3 hS (Nat.le_of_ble_eq_true rfl) (Nat.le_of_ble_eq_true rfl)
set_option maxHeartbeats 4000000 in
set_option maxRecDepth 100000 in
/-- a number below 0 -/
theorem c_crash_neg (l : Launch) (hl9 : l.stackTraces = false) (G : va_G) (k : Nat → ClassId) (ws : va_W) (sz : Nat) (x nd wy : Nat) (f g : Nat → Option Nat) (hF : FX k ws x nd wy f g) (j : Nat) (hj : j < 4) (p1 : Int32) (h : p1 < 0) : vx_Met l yX3_crash wsX3_crash (rzk 2 1 6) (PR G k sz ws [.ref x, .int (nI j), .int p1]) (QN) (XE Iarg sz) 1 6 (fun q => sz ≤ q) := by
  refine vx_ofW (cc := cX3_crash) (maxL := 5) (ret := (some .int)) (by decide) rfl ?_
  intro p e s m args below meth c s₁ B hml ht hv
  obtain ⟨rfl, hsz, hP, hI⟩ := hv
  subst hsz
  have hK := hI.1
  have hA : ∀ q : Nat, s.heap.size ≤ q → (fun q => s.heap.size ≤ q) q := fun _ h => h
  have hS : va_S (fun q => s.heap.size ≤ q) s.heap s.heap [] := va_S.rf
  obtain ⟨kx, h0⟩ := List.getElem?_of_mem hF.1
  obtain ⟨a, lo, me, di, ha, ma, ml, mm, md, hmd⟩ := hF.2.2.2.1 j hj
  obtain ⟨kv, hv⟩ := List.getElem?_of_mem ma
  have hx := B.exec
  have hb := B.bytes
  have hr := B.returns
  have hts := atoms_spec (ws := wsX3_crash) B.pre
  have hown : s.vm.findClass RX3 = some m.cls := findClass_of_methodNamed B.named
  have hlocks := B.notSynchronized
  have hl := lv_entry ([.ref x, .int (nI j), .int p1]) (n := 5) (Nat.le_of_ble_eq_true rfl)
  rw [lg_entry_eq]
  generalize (lg_sl ([.ref x, .int (nI j), .int p1]) ++ List.replicate (5 - (lg_sl ([.ref x, .int (nI j), .int p1])).length) Slot.unset).toArray = ls at hl ⊢
  have hl : lv_has ls 5 [(0, .ref x), (1, .int (nI j)), (2, .int p1)] := hl
  refine lv_aload_n hx hb dX3_crash_0 rfl (lv_at hl 0 rfl) ?_
  refine lv_iload_n hx hb dX3_crash_1 rfl (lv_at hl 1 rfl) ?_
  refine bq_call (W.runV (As := [.int (nI j)]) (rest := []) ⟨hx, hb, hml, hown, hts⟩ (c_nodeAt_t l G k ws x nd wy f g hF j hj a ha) (cwV 1 hts gX3_crash_X3_nodeAt rfl rfl rfl (by decide +kernel) ⟨(Nat.le_of_ble_eq_true rfl), (Nat.le_of_ble_eq_true rfl)⟩) (PQ.preV hK hP (ci := 3) rfl h0) rfl rfl hl.1 rfl (lv_room (Nat.le_of_ble_eq_true rfl)) dX3_crash_2 ⟨(Nat.le_of_ble_eq_true rfl), (Nat.le_of_ble_eq_true rfl)⟩) ?_
  refine lv_astore_n (lv' := [(3, .ref a), (0, .ref x), (1, .int (nI j)), (2, .int p1)]) hx hb dX3_crash_5 rfl hl (by decide) rfl (fun ls hl => ?_)
  refine lv_iload_n hx hb dX3_crash_6 rfl (lv_at hl 3 rfl) ?_
  refine lv_if_ge (tgt := 20) hx hb dX3_crash_7 (by decide) (fun c9 => absurd c9 (Int32.not_le.mpr h)) (fun _ => ?_)
  exact bt_throw hx hb hl9 hts hown hI hS (cls := Iarg) (text := "a number of bytes below 0") (ik := 60) (is := 62) (ic := 64) (by decide +kernel) (by decide) (by decide +kernel) (by decide +kernel) (by decide +kernel) (fun _ h => List.mem_cons_of_mem _ (List.mem_append_left _ (List.mem_append_left _ (List.mem_append_right _ h)))) (og_Iarg).1 (og_Iarg).2 (hl.1.trans hml.symm) dX3_crash_10 dX3_crash_13 dX3_crash_14 dX3_crash_16 dX3_crash_19 ht (Nat.le_of_ble_eq_true rfl) (Nat.le_of_ble_eq_true rfl) (Nat.le_of_ble_eq_true rfl) (Nat.le_of_ble_eq_true rfl) hlocks (Nat.le_of_ble_eq_true rfl) (Nat.le_of_ble_eq_true rfl)
set_option maxHeartbeats 4000000 in
set_option maxRecDepth 100000 in
/-- it is down -/
theorem c_crash_down (l : Launch) (hl9 : l.stackTraces = false) (G : va_G) (k : Nat → ClassId) (ws : va_W) (sz : Nat) (x nd wy : Nat) (f g : Nat → Option Nat) (hF : FX k ws x nd wy f g) (j : Nat) (hj : j < 4) (p1 : Int32) (h : ¬ p1 < 0) : vx_Met l yX3_crash wsX3_crash (rzk 2 1 6) (PR G k sz ws [.ref x, .int (nI j), .int p1]) (QN) (XE Istt sz) 1 6 (fun q => sz ≤ q) := by
  refine vx_ofW (cc := cX3_crash) (maxL := 5) (ret := (some .int)) (by decide) rfl ?_
  intro p e s m args below meth c s₁ B hml ht hv
  obtain ⟨rfl, hsz, hP, hI⟩ := hv
  subst hsz
  have hK := hI.1
  have hA : ∀ q : Nat, s.heap.size ≤ q → (fun q => s.heap.size ≤ q) q := fun _ h => h
  have hS : va_S (fun q => s.heap.size ≤ q) s.heap s.heap [] := va_S.rf
  obtain ⟨kx, h0⟩ := List.getElem?_of_mem hF.1
  obtain ⟨a, lo, me, di, ha, ma, ml, mm, md, hmd⟩ := hF.2.2.2.1 j hj
  obtain ⟨kv, hv⟩ := List.getElem?_of_mem ma
  have hx := B.exec
  have hb := B.bytes
  have hr := B.returns
  have hts := atoms_spec (ws := wsX3_crash) B.pre
  have hown : s.vm.findClass RX3 = some m.cls := findClass_of_methodNamed B.named
  have hlocks := B.notSynchronized
  have hl := lv_entry ([.ref x, .int (nI j), .int p1]) (n := 5) (Nat.le_of_ble_eq_true rfl)
  rw [lg_entry_eq]
  generalize (lg_sl ([.ref x, .int (nI j), .int p1]) ++ List.replicate (5 - (lg_sl ([.ref x, .int (nI j), .int p1])).length) Slot.unset).toArray = ls at hl ⊢
  have hl : lv_has ls 5 [(0, .ref x), (1, .int (nI j)), (2, .int p1)] := hl
  refine lv_aload_n hx hb dX3_crash_0 rfl (lv_at hl 0 rfl) ?_
  refine lv_iload_n hx hb dX3_crash_1 rfl (lv_at hl 1 rfl) ?_
  refine bq_call (W.runV (As := [.int (nI j)]) (rest := []) ⟨hx, hb, hml, hown, hts⟩ (c_nodeAt_t l G k ws x nd wy f g hF j hj a ha) (cwV 1 hts gX3_crash_X3_nodeAt rfl rfl rfl (by decide +kernel) ⟨(Nat.le_of_ble_eq_true rfl), (Nat.le_of_ble_eq_true rfl)⟩) (PQ.preV hK hP (ci := 3) rfl h0) rfl rfl hl.1 rfl (lv_room (Nat.le_of_ble_eq_true rfl)) dX3_crash_2 ⟨(Nat.le_of_ble_eq_true rfl), (Nat.le_of_ble_eq_true rfl)⟩) ?_
  refine lv_astore_n (lv' := [(3, .ref a), (0, .ref x), (1, .int (nI j)), (2, .int p1)]) hx hb dX3_crash_5 rfl hl (by decide) rfl (fun ls hl => ?_)
  refine lv_iload_n hx hb dX3_crash_6 rfl (lv_at hl 3 rfl) ?_
  refine lv_if_ge (tgt := 20) hx hb dX3_crash_7 (by decide) (fun _ => ?_) (fun c9 => absurd (Int32.not_lt.mp h) c9)
  refine lv_aload_n hx hb dX3_crash_20 rfl (lv_at hl 0 rfl) ?_
  refine va_get (D := G) (ci := 1) (v := .int 0) (C := RX1) (T := TX1) (N := 8) hx hb hts (fun _ h => List.mem_cons_of_mem _ (List.mem_append_left _ (List.mem_append_left _ (List.mem_append_left _ (List.mem_append_left _ (List.mem_append_left _ (List.mem_append_left _ (List.mem_append_right _ h)))))))) hown hK hP kv hv rfl 1 (by decide) (hts (.fieldLink RX3 31 "ShippedLog$Node" "role" "I") (by decide +kernel)) (fun _ h9 => h9) rfl dX3_crash_21 ?_
  refine lv_if_ne (tgt := 37) hx hb dX3_crash_24 (by decide) (fun c9 => absurd rfl c9) (fun _ => ?_)
  exact bt_throw hx hb hl9 hts hown hI hS (cls := Istt) (text := "the node is down") (ik := 34) (is := 65) (ic := 38) (by decide +kernel) (by decide) (by decide +kernel) (by decide +kernel) (by decide +kernel) (fun _ h => List.mem_cons_of_mem _ (List.mem_append_left _ (List.mem_append_right _ h))) (og_Istt).1 (og_Istt).2 (hl.1.trans hml.symm) dX3_crash_27 dX3_crash_30 dX3_crash_31 dX3_crash_33 dX3_crash_36 ht (Nat.le_of_ble_eq_true rfl) (Nat.le_of_ble_eq_true rfl) (Nat.le_of_ble_eq_true rfl) (Nat.le_of_ble_eq_true rfl) hlocks (Nat.le_of_ble_eq_true rfl) (Nat.le_of_ble_eq_true rfl)
set_option maxHeartbeats 4000000 in
set_option maxRecDepth 100000 in
/-- it is down -/
theorem c_promote_down (l : Launch) (hl9 : l.stackTraces = false) (G : va_G) (k : Nat → ClassId) (ws : va_W) (sz : Nat) (x nd wy : Nat) (f g : Nat → Option Nat) (hF : FX k ws x nd wy f g) (j : Nat) (hj : j < 4) : vx_Met l yX3_promote wsX3_promote (rzk 2 1 6) (PR G k sz ws [.ref x, .int (nI j)]) (QN) (XE Istt sz) 1 6 (fun q => sz ≤ q) := by
  refine vx_ofW (cc := cX3_promote) (maxL := 3) (ret := (some .int)) (by decide) rfl ?_
  intro p e s m args below meth c s₁ B hml ht hv
  obtain ⟨rfl, hsz, hP, hI⟩ := hv
  subst hsz
  have hK := hI.1
  have hA : ∀ q : Nat, s.heap.size ≤ q → (fun q => s.heap.size ≤ q) q := fun _ h => h
  have hS : va_S (fun q => s.heap.size ≤ q) s.heap s.heap [] := va_S.rf
  obtain ⟨kx, h0⟩ := List.getElem?_of_mem hF.1
  obtain ⟨a, lo, me, di, ha, ma, ml, mm, md, hmd⟩ := hF.2.2.2.1 j hj
  obtain ⟨kv, hv⟩ := List.getElem?_of_mem ma
  have hx := B.exec
  have hb := B.bytes
  have hr := B.returns
  have hts := atoms_spec (ws := wsX3_promote) B.pre
  have hown : s.vm.findClass RX3 = some m.cls := findClass_of_methodNamed B.named
  have hlocks := B.notSynchronized
  have hl := lv_entry ([.ref x, .int (nI j)]) (n := 3) (Nat.le_of_ble_eq_true rfl)
  rw [lg_entry_eq]
  generalize (lg_sl ([.ref x, .int (nI j)]) ++ List.replicate (3 - (lg_sl ([.ref x, .int (nI j)])).length) Slot.unset).toArray = ls at hl ⊢
  have hl : lv_has ls 3 [(0, .ref x), (1, .int (nI j))] := hl
  refine lv_aload_n hx hb dX3_promote_0 rfl (lv_at hl 0 rfl) ?_
  refine lv_iload_n hx hb dX3_promote_1 rfl (lv_at hl 1 rfl) ?_
  refine bq_call (W.runV (As := [.int (nI j)]) (rest := []) ⟨hx, hb, hml, hown, hts⟩ (c_nodeAt_t l G k ws x nd wy f g hF j hj a ha) (cwV 1 hts gX3_promote_X3_nodeAt rfl rfl rfl (by decide +kernel) ⟨(Nat.le_of_ble_eq_true rfl), (Nat.le_of_ble_eq_true rfl)⟩) (PQ.preV hK hP (ci := 3) rfl h0) rfl rfl hl.1 rfl (lv_room (Nat.le_of_ble_eq_true rfl)) dX3_promote_2 ⟨(Nat.le_of_ble_eq_true rfl), (Nat.le_of_ble_eq_true rfl)⟩) ?_
  refine lv_astore_n (lv' := [(2, .ref a), (0, .ref x), (1, .int (nI j))]) hx hb dX3_promote_5 rfl hl (by decide) rfl (fun ls hl => ?_)
  refine lv_aload_n hx hb dX3_promote_6 rfl (lv_at hl 0 rfl) ?_
  refine va_get (D := G) (ci := 1) (v := .int 0) (C := RX1) (T := TX1) (N := 8) hx hb hts (fun _ h => List.mem_cons_of_mem _ (List.mem_append_left _ (List.mem_append_left _ (List.mem_append_left _ (List.mem_append_left _ (List.mem_append_left _ (List.mem_append_left _ (List.mem_append_right _ h)))))))) hown hK hP kv hv rfl 1 (by decide) (hts (.fieldLink RX3 31 "ShippedLog$Node" "role" "I") (by decide +kernel)) (fun _ h9 => h9) rfl dX3_promote_7 ?_
  refine lv_if_eq (tgt := 21) hx hb dX3_promote_10 (by decide) (fun _ => ?_) (fun c9 => absurd rfl c9)
  exact bt_throw hx hb hl9 hts hown hI hS (cls := Istt) (text := "the node is down or primary") (ik := 34) (is := 71) (ic := 38) (by decide +kernel) (by decide) (by decide +kernel) (by decide +kernel) (by decide +kernel) (fun _ h => List.mem_cons_of_mem _ (List.mem_append_left _ (List.mem_append_left _ (List.mem_append_right _ h)))) (og_Istt).1 (og_Istt).2 (hl.1.trans hml.symm) dX3_promote_21 dX3_promote_24 dX3_promote_25 dX3_promote_27 dX3_promote_30 ht (Nat.le_of_ble_eq_true rfl) (Nat.le_of_ble_eq_true rfl) (Nat.le_of_ble_eq_true rfl) (Nat.le_of_ble_eq_true rfl) hlocks (Nat.le_of_ble_eq_true rfl) (Nat.le_of_ble_eq_true rfl)
set_option maxHeartbeats 4000000 in
set_option maxRecDepth 100000 in
/-- no such node -/
theorem c_follow_bad2 (l : Launch) (hl9 : l.stackTraces = false) (G : va_G) (k : Nat → ClassId) (ws : va_W) (sz : Nat) (x nd wy : Nat) (f g : Nat → Option Nat) (hF : FX k ws x nd wy f g) (i : Nat) (hi : i < 4) (p1 : Int32) (h : bdN p1) : vx_Met l yX3_follow wsX3_follow (rzk 2 1 6) (PR G k sz ws [.ref x, .int (nI i), .int p1]) (QN) (XE Ioob sz) 1 6 (fun q => sz ≤ q) := by
  refine vx_ofW (cc := cX3_follow) (maxL := 5) (ret := none) (by decide) rfl ?_
  intro p e s m args below meth c s₁ B hml ht hv
  obtain ⟨rfl, hsz, hP, hI⟩ := hv
  subst hsz
  have hK := hI.1
  have hA : ∀ q : Nat, s.heap.size ≤ q → (fun q => s.heap.size ≤ q) q := fun _ h => h
  have hS : va_S (fun q => s.heap.size ≤ q) s.heap s.heap [] := va_S.rf
  obtain ⟨kx, h0⟩ := List.getElem?_of_mem hF.1
  obtain ⟨a1, lo1, me1, di1, ha1, ma1, ml1, mm1, md1, hmd1⟩ := hF.2.2.2.1 i hi
  obtain ⟨kv1, hv1⟩ := List.getElem?_of_mem ma1
  have hx := B.exec
  have hb := B.bytes
  have hr := B.returns
  have hts := atoms_spec (ws := wsX3_follow) B.pre
  have hown : s.vm.findClass RX3 = some m.cls := findClass_of_methodNamed B.named
  have hlocks := B.notSynchronized
  have hl := lv_entry ([.ref x, .int (nI i), .int p1]) (n := 5) (Nat.le_of_ble_eq_true rfl)
  rw [lg_entry_eq]
  generalize (lg_sl ([.ref x, .int (nI i), .int p1]) ++ List.replicate (5 - (lg_sl ([.ref x, .int (nI i), .int p1])).length) Slot.unset).toArray = ls at hl ⊢
  have hl : lv_has ls 5 [(0, .ref x), (1, .int (nI i)), (2, .int p1)] := hl
  refine lv_aload_n hx hb dX3_follow_0 rfl (lv_at hl 0 rfl) ?_
  refine lv_iload_n hx hb dX3_follow_1 rfl (lv_at hl 1 rfl) ?_
  refine bq_call (W.runV (As := [.int (nI i)]) (rest := []) ⟨hx, hb, hml, hown, hts⟩ (c_nodeAt_t l G k ws x nd wy f g hF i hi a1 ha1) (cwV 1 hts gX3_follow_X3_nodeAt rfl rfl rfl (by decide +kernel) ⟨(Nat.le_of_ble_eq_true rfl), (Nat.le_of_ble_eq_true rfl)⟩) (PQ.preV hK hP (ci := 3) rfl h0) rfl rfl hl.1 rfl (lv_room (Nat.le_of_ble_eq_true rfl)) dX3_follow_2 ⟨(Nat.le_of_ble_eq_true rfl), (Nat.le_of_ble_eq_true rfl)⟩) ?_
  refine lv_astore_n (lv' := [(3, .ref a1), (0, .ref x), (1, .int (nI i)), (2, .int p1)]) hx hb dX3_follow_5 rfl hl (by decide) rfl (fun ls hl => ?_)
  refine lv_aload_n hx hb dX3_follow_6 rfl (lv_at hl 1 rfl) ?_
  refine lv_iload_n hx hb dX3_follow_7 rfl (lv_at hl 3 rfl) ?_
  refine bt_call (vx_runV (As := [.int p1]) (rest := []) ⟨hx, hb, hml, hown, hts⟩ (c_nodeAt_f l hl9 G k ws _ x p1 h) (cwV 1 hts gX3_follow_X3_nodeAt rfl rfl rfl (by decide +kernel) ⟨(Nat.le_of_ble_eq_true rfl), (Nat.le_of_ble_eq_true rfl)⟩) (PR.preV hI hS hA hP (ci := 3) rfl h0) rfl rfl hl.1 rfl (lv_room (Nat.le_of_ble_eq_true rfl)) dX3_follow_8 ⟨(Nat.le_of_ble_eq_true rfl), (Nat.le_of_ble_eq_true rfl)⟩) (fun _ _ _ h => h) hS hA (fun q h => Nat.le_trans hS.1 h) (fun ce q9 H1 locs1 hH hS h1 h2 h3 => ?_)
  exact bt_out ht hlocks h1 h2 h3 hS (Nat.le_of_ble_eq_true rfl) (Nat.le_of_ble_eq_true rfl)
set_option maxHeartbeats 4000000 in
set_option maxRecDepth 100000 in
/-- no such node -/
theorem c_rewind_bad2 (l : Launch) (hl9 : l.stackTraces = false) (G : va_G) (k : Nat → ClassId) (ws : va_W) (sz : Nat) (x nd wy : Nat) (f g : Nat → Option Nat) (hF : FX k ws x nd wy f g) (i : Nat) (hi : i < 4) (p1 : Int32) (h : bdN p1) : vx_Met l yX3_rewind wsX3_rewind (rzk 2 1 6) (PR G k sz ws [.ref x, .int (nI i), .int p1]) (QN) (XE Ioob sz) 1 6 (fun q => sz ≤ q) := by
  refine vx_ofW (cc := cX3_rewind) (maxL := 6) (ret := (some .int)) (by decide) rfl ?_
  intro p e s m args below meth c s₁ B hml ht hv
  obtain ⟨rfl, hsz, hP, hI⟩ := hv
  subst hsz
  have hK := hI.1
  have hA : ∀ q : Nat, s.heap.size ≤ q → (fun q => s.heap.size ≤ q) q := fun _ h => h
  have hS : va_S (fun q => s.heap.size ≤ q) s.heap s.heap [] := va_S.rf
  obtain ⟨kx, h0⟩ := List.getElem?_of_mem hF.1
  obtain ⟨a1, lo1, me1, di1, ha1, ma1, ml1, mm1, md1, hmd1⟩ := hF.2.2.2.1 i hi
  obtain ⟨kv1, hv1⟩ := List.getElem?_of_mem ma1
  have hx := B.exec
  have hb := B.bytes
  have hr := B.returns
  have hts := atoms_spec (ws := wsX3_rewind) B.pre
  have hown : s.vm.findClass RX3 = some m.cls := findClass_of_methodNamed B.named
  have hlocks := B.notSynchronized
  have hl := lv_entry ([.ref x, .int (nI i), .int p1]) (n := 6) (Nat.le_of_ble_eq_true rfl)
  rw [lg_entry_eq]
  generalize (lg_sl ([.ref x, .int (nI i), .int p1]) ++ List.replicate (6 - (lg_sl ([.ref x, .int (nI i), .int p1])).length) Slot.unset).toArray = ls at hl ⊢
  have hl : lv_has ls 6 [(0, .ref x), (1, .int (nI i)), (2, .int p1)] := hl
  refine lv_aload_n hx hb dX3_rewind_0 rfl (lv_at hl 0 rfl) ?_
  refine lv_iload_n hx hb dX3_rewind_1 rfl (lv_at hl 1 rfl) ?_
  refine bq_call (W.runV (As := [.int (nI i)]) (rest := []) ⟨hx, hb, hml, hown, hts⟩ (c_nodeAt_t l G k ws x nd wy f g hF i hi a1 ha1) (cwV 1 hts gX3_rewind_X3_nodeAt rfl rfl rfl (by decide +kernel) ⟨(Nat.le_of_ble_eq_true rfl), (Nat.le_of_ble_eq_true rfl)⟩) (PQ.preV hK hP (ci := 3) rfl h0) rfl rfl hl.1 rfl (lv_room (Nat.le_of_ble_eq_true rfl)) dX3_rewind_2 ⟨(Nat.le_of_ble_eq_true rfl), (Nat.le_of_ble_eq_true rfl)⟩) ?_
  refine lv_astore_n (lv' := [(3, .ref a1), (0, .ref x), (1, .int (nI i)), (2, .int p1)]) hx hb dX3_rewind_5 rfl hl (by decide) rfl (fun ls hl => ?_)
  refine lv_aload_n hx hb dX3_rewind_6 rfl (lv_at hl 1 rfl) ?_
  refine lv_iload_n hx hb dX3_rewind_7 rfl (lv_at hl 3 rfl) ?_
  refine bt_call (vx_runV (As := [.int p1]) (rest := []) ⟨hx, hb, hml, hown, hts⟩ (c_nodeAt_f l hl9 G k ws _ x p1 h) (cwV 1 hts gX3_rewind_X3_nodeAt rfl rfl rfl (by decide +kernel) ⟨(Nat.le_of_ble_eq_true rfl), (Nat.le_of_ble_eq_true rfl)⟩) (PR.preV hI hS hA hP (ci := 3) rfl h0) rfl rfl hl.1 rfl (lv_room (Nat.le_of_ble_eq_true rfl)) dX3_rewind_8 ⟨(Nat.le_of_ble_eq_true rfl), (Nat.le_of_ble_eq_true rfl)⟩) (fun _ _ _ h => h) hS hA (fun q h => Nat.le_trans hS.1 h) (fun ce q9 H1 locs1 hH hS h1 h2 h3 => ?_)
  exact bt_out ht hlocks h1 h2 h3 hS (Nat.le_of_ble_eq_true rfl) (Nat.le_of_ble_eq_true rfl)
set_option maxHeartbeats 4000000 in
set_option maxRecDepth 100000 in
/-- no such node -/
theorem c_send_bad2 (l : Launch) (hl9 : l.stackTraces = false) (G : va_G) (k : Nat → ClassId) (ws : va_W) (sz : Nat) (x nd wy : Nat) (f g : Nat → Option Nat) (hF : FX k ws x nd wy f g) (i : Nat) (hi : i < 4) (p1 : Int32) (h : bdN p1) : vx_Met l yX3_send wsX3_send (rzk 2 1 6) (PR G k sz ws [.ref x, .int (nI i), .int p1]) (QN) (XE Ioob sz) 1 6 (fun q => sz ≤ q) := by
  refine vx_ofW (cc := cX3_send) (maxL := 7) (ret := (some .int)) (by decide) rfl ?_
  intro p e s m args below meth c s₁ B hml ht hv
  obtain ⟨rfl, hsz, hP, hI⟩ := hv
  subst hsz
  have hK := hI.1
  have hA : ∀ q : Nat, s.heap.size ≤ q → (fun q => s.heap.size ≤ q) q := fun _ h => h
  have hS : va_S (fun q => s.heap.size ≤ q) s.heap s.heap [] := va_S.rf
  obtain ⟨kx, h0⟩ := List.getElem?_of_mem hF.1
  obtain ⟨a1, lo1, me1, di1, ha1, ma1, ml1, mm1, md1, hmd1⟩ := hF.2.2.2.1 i hi
  obtain ⟨kv1, hv1⟩ := List.getElem?_of_mem ma1
  have hx := B.exec
  have hb := B.bytes
  have hr := B.returns
  have hts := atoms_spec (ws := wsX3_send) B.pre
  have hown : s.vm.findClass RX3 = some m.cls := findClass_of_methodNamed B.named
  have hlocks := B.notSynchronized
  have hl := lv_entry ([.ref x, .int (nI i), .int p1]) (n := 7) (Nat.le_of_ble_eq_true rfl)
  rw [lg_entry_eq]
  generalize (lg_sl ([.ref x, .int (nI i), .int p1]) ++ List.replicate (7 - (lg_sl ([.ref x, .int (nI i), .int p1])).length) Slot.unset).toArray = ls at hl ⊢
  have hl : lv_has ls 7 [(0, .ref x), (1, .int (nI i)), (2, .int p1)] := hl
  refine lv_aload_n hx hb dX3_send_0 rfl (lv_at hl 0 rfl) ?_
  refine lv_iload_n hx hb dX3_send_1 rfl (lv_at hl 1 rfl) ?_
  refine bq_call (W.runV (As := [.int (nI i)]) (rest := []) ⟨hx, hb, hml, hown, hts⟩ (c_nodeAt_t l G k ws x nd wy f g hF i hi a1 ha1) (cwV 1 hts gX3_send_X3_nodeAt rfl rfl rfl (by decide +kernel) ⟨(Nat.le_of_ble_eq_true rfl), (Nat.le_of_ble_eq_true rfl)⟩) (PQ.preV hK hP (ci := 3) rfl h0) rfl rfl hl.1 rfl (lv_room (Nat.le_of_ble_eq_true rfl)) dX3_send_2 ⟨(Nat.le_of_ble_eq_true rfl), (Nat.le_of_ble_eq_true rfl)⟩) ?_
  refine lv_astore_n (lv' := [(3, .ref a1), (0, .ref x), (1, .int (nI i)), (2, .int p1)]) hx hb dX3_send_5 rfl hl (by decide) rfl (fun ls hl => ?_)
  refine lv_aload_n hx hb dX3_send_6 rfl (lv_at hl 1 rfl) ?_
  refine lv_iload_n hx hb dX3_send_7 rfl (lv_at hl 3 rfl) ?_
  refine bt_call (vx_runV (As := [.int p1]) (rest := []) ⟨hx, hb, hml, hown, hts⟩ (c_nodeAt_f l hl9 G k ws _ x p1 h) (cwV 1 hts gX3_send_X3_nodeAt rfl rfl rfl (by decide +kernel) ⟨(Nat.le_of_ble_eq_true rfl), (Nat.le_of_ble_eq_true rfl)⟩) (PR.preV hI hS hA hP (ci := 3) rfl h0) rfl rfl hl.1 rfl (lv_room (Nat.le_of_ble_eq_true rfl)) dX3_send_8 ⟨(Nat.le_of_ble_eq_true rfl), (Nat.le_of_ble_eq_true rfl)⟩) (fun _ _ _ h => h) hS hA (fun q h => Nat.le_trans hS.1 h) (fun ce q9 H1 locs1 hH hS h1 h2 h3 => ?_)
  exact bt_out ht hlocks h1 h2 h3 hS (Nat.le_of_ble_eq_true rfl) (Nat.le_of_ble_eq_true rfl)
set_option maxHeartbeats 4000000 in
set_option maxRecDepth 100000 in
/-- it is down -/
theorem c_follow_down (l : Launch) (hl9 : l.stackTraces = false) (G : va_G) (k : Nat → ClassId) (ws : va_W) (sz : Nat) (x nd wy : Nat) (f g : Nat → Option Nat) (hF : FX k ws x nd wy f g) (i : Nat) (hi : i < 4) (j : Nat) (hj : j < 4) : vx_Met l yX3_follow wsX3_follow (rzk 2 1 6) (PR G k sz ws [.ref x, .int (nI i), .int (nI j)]) (QN) (XE Istt sz) 1 6 (fun q => sz ≤ q) := by
  refine vx_ofW (cc := cX3_follow) (maxL := 5) (ret := none) (by decide) rfl ?_
  intro p e s m args below meth c s₁ B hml ht hv
  obtain ⟨rfl, hsz, hP, hI⟩ := hv
  subst hsz
  have hK := hI.1
  have hA : ∀ q : Nat, s.heap.size ≤ q → (fun q => s.heap.size ≤ q) q := fun _ h => h
  have hS : va_S (fun q => s.heap.size ≤ q) s.heap s.heap [] := va_S.rf
  obtain ⟨kx, h0⟩ := List.getElem?_of_mem hF.1
  obtain ⟨a1, lo1, me1, di1, ha1, ma1, ml1, mm1, md1, hmd1⟩ := hF.2.2.2.1 i hi
  obtain ⟨kv1, hv1⟩ := List.getElem?_of_mem ma1
  obtain ⟨a2, lo2, me2, di2, ha2, ma2, ml2, mm2, md2, hmd2⟩ := hF.2.2.2.1 j hj
  obtain ⟨kv2, hv2⟩ := List.getElem?_of_mem ma2
  have hx := B.exec
  have hb := B.bytes
  have hr := B.returns
  have hts := atoms_spec (ws := wsX3_follow) B.pre
  have hown : s.vm.findClass RX3 = some m.cls := findClass_of_methodNamed B.named
  have hlocks := B.notSynchronized
  have hl := lv_entry ([.ref x, .int (nI i), .int (nI j)]) (n := 5) (Nat.le_of_ble_eq_true rfl)
  rw [lg_entry_eq]
  generalize (lg_sl ([.ref x, .int (nI i), .int (nI j)]) ++ List.replicate (5 - (lg_sl ([.ref x, .int (nI i), .int (nI j)])).length) Slot.unset).toArray = ls at hl ⊢
  have hl : lv_has ls 5 [(0, .ref x), (1, .int (nI i)), (2, .int (nI j))] := hl
  refine lv_aload_n hx hb dX3_follow_0 rfl (lv_at hl 0 rfl) ?_
  refine lv_iload_n hx hb dX3_follow_1 rfl (lv_at hl 1 rfl) ?_
  refine bq_call (W.runV (As := [.int (nI i)]) (rest := []) ⟨hx, hb, hml, hown, hts⟩ (c_nodeAt_t l G k ws x nd wy f g hF i hi a1 ha1) (cwV 1 hts gX3_follow_X3_nodeAt rfl rfl rfl (by decide +kernel) ⟨(Nat.le_of_ble_eq_true rfl), (Nat.le_of_ble_eq_true rfl)⟩) (PQ.preV hK hP (ci := 3) rfl h0) rfl rfl hl.1 rfl (lv_room (Nat.le_of_ble_eq_true rfl)) dX3_follow_2 ⟨(Nat.le_of_ble_eq_true rfl), (Nat.le_of_ble_eq_true rfl)⟩) ?_
  refine lv_astore_n (lv' := [(3, .ref a1), (0, .ref x), (1, .int (nI i)), (2, .int (nI j))]) hx hb dX3_follow_5 rfl hl (by decide) rfl (fun ls hl => ?_)
  refine lv_aload_n hx hb dX3_follow_6 rfl (lv_at hl 1 rfl) ?_
  refine lv_iload_n hx hb dX3_follow_7 rfl (lv_at hl 3 rfl) ?_
  refine bq_call (W.runV (As := [.int (nI j)]) (rest := []) ⟨hx, hb, hml, hown, hts⟩ (c_nodeAt_t l G k ws x nd wy f g hF j hj a2 ha2) (cwV 1 hts gX3_follow_X3_nodeAt rfl rfl rfl (by decide +kernel) ⟨(Nat.le_of_ble_eq_true rfl), (Nat.le_of_ble_eq_true rfl)⟩) (PQ.preV hK hP (ci := 3) rfl h0) rfl rfl hl.1 rfl (lv_room (Nat.le_of_ble_eq_true rfl)) dX3_follow_8 ⟨(Nat.le_of_ble_eq_true rfl), (Nat.le_of_ble_eq_true rfl)⟩) ?_
  refine lv_astore (lv' := [(4, .ref a2), (3, .ref a1), (0, .ref x), (1, .int (nI i)), (2, .int (nI j))]) hx hb dX3_follow_11 hl (by decide) rfl (fun ls hl => ?_)
  refine lv_aload_n hx hb dX3_follow_13 rfl (lv_at hl 1 rfl) ?_
  refine va_get (D := G) (ci := 1) (v := .int 0) (C := RX1) (T := TX1) (N := 8) hx hb hts (fun _ h => List.mem_cons_of_mem _ (List.mem_append_left _ (List.mem_append_left _ (List.mem_append_left _ (List.mem_append_left _ (List.mem_append_left _ (List.mem_append_left _ (List.mem_append_right _ h)))))))) hown hK hP kv1 hv1 rfl 1 (by decide) (hts (.fieldLink RX3 31 "ShippedLog$Node" "role" "I") (by decide +kernel)) (fun _ h9 => h9) rfl dX3_follow_14 ?_
  refine lv_if_eq (tgt := 28) hx hb dX3_follow_17 (by decide) (fun _ => ?_) (fun c9 => absurd rfl c9)
  exact bt_throw hx hb hl9 hts hown hI hS (cls := Istt) (text := "the node is down or primary") (ik := 34) (is := 71) (ic := 38) (by decide +kernel) (by decide) (by decide +kernel) (by decide +kernel) (by decide +kernel) (fun _ h => List.mem_cons_of_mem _ (List.mem_append_left _ (List.mem_append_left _ (List.mem_append_right _ h)))) (og_Istt).1 (og_Istt).2 (hl.1.trans hml.symm) dX3_follow_28 dX3_follow_31 dX3_follow_32 dX3_follow_34 dX3_follow_37 ht (Nat.le_of_ble_eq_true rfl) (Nat.le_of_ble_eq_true rfl) (Nat.le_of_ble_eq_true rfl) (Nat.le_of_ble_eq_true rfl) hlocks (Nat.le_of_ble_eq_true rfl) (Nat.le_of_ble_eq_true rfl)
set_option maxHeartbeats 4000000 in
set_option maxRecDepth 100000 in
/-- it is down -/
theorem c_rewind_down (l : Launch) (hl9 : l.stackTraces = false) (G : va_G) (k : Nat → ClassId) (ws : va_W) (sz : Nat) (x nd wy : Nat) (f g : Nat → Option Nat) (hF : FX k ws x nd wy f g) (i : Nat) (hi : i < 4) (j : Nat) (hj : j < 4) : vx_Met l yX3_rewind wsX3_rewind (rzk 2 1 6) (PR G k sz ws [.ref x, .int (nI i), .int (nI j)]) (QN) (XE Istt sz) 1 6 (fun q => sz ≤ q) := by
  refine vx_ofW (cc := cX3_rewind) (maxL := 6) (ret := (some .int)) (by decide) rfl ?_
  intro p e s m args below meth c s₁ B hml ht hv
  obtain ⟨rfl, hsz, hP, hI⟩ := hv
  subst hsz
  have hK := hI.1
  have hA : ∀ q : Nat, s.heap.size ≤ q → (fun q => s.heap.size ≤ q) q := fun _ h => h
  have hS : va_S (fun q => s.heap.size ≤ q) s.heap s.heap [] := va_S.rf
  obtain ⟨kx, h0⟩ := List.getElem?_of_mem hF.1
  obtain ⟨a1, lo1, me1, di1, ha1, ma1, ml1, mm1, md1, hmd1⟩ := hF.2.2.2.1 i hi
  obtain ⟨kv1, hv1⟩ := List.getElem?_of_mem ma1
  obtain ⟨a2, lo2, me2, di2, ha2, ma2, ml2, mm2, md2, hmd2⟩ := hF.2.2.2.1 j hj
  obtain ⟨kv2, hv2⟩ := List.getElem?_of_mem ma2
  have hx := B.exec
  have hb := B.bytes
  have hr := B.returns
  have hts := atoms_spec (ws := wsX3_rewind) B.pre
  have hown : s.vm.findClass RX3 = some m.cls := findClass_of_methodNamed B.named
  have hlocks := B.notSynchronized
  have hl := lv_entry ([.ref x, .int (nI i), .int (nI j)]) (n := 6) (Nat.le_of_ble_eq_true rfl)
  rw [lg_entry_eq]
  generalize (lg_sl ([.ref x, .int (nI i), .int (nI j)]) ++ List.replicate (6 - (lg_sl ([.ref x, .int (nI i), .int (nI j)])).length) Slot.unset).toArray = ls at hl ⊢
  have hl : lv_has ls 6 [(0, .ref x), (1, .int (nI i)), (2, .int (nI j))] := hl
  refine lv_aload_n hx hb dX3_rewind_0 rfl (lv_at hl 0 rfl) ?_
  refine lv_iload_n hx hb dX3_rewind_1 rfl (lv_at hl 1 rfl) ?_
  refine bq_call (W.runV (As := [.int (nI i)]) (rest := []) ⟨hx, hb, hml, hown, hts⟩ (c_nodeAt_t l G k ws x nd wy f g hF i hi a1 ha1) (cwV 1 hts gX3_rewind_X3_nodeAt rfl rfl rfl (by decide +kernel) ⟨(Nat.le_of_ble_eq_true rfl), (Nat.le_of_ble_eq_true rfl)⟩) (PQ.preV hK hP (ci := 3) rfl h0) rfl rfl hl.1 rfl (lv_room (Nat.le_of_ble_eq_true rfl)) dX3_rewind_2 ⟨(Nat.le_of_ble_eq_true rfl), (Nat.le_of_ble_eq_true rfl)⟩) ?_
  refine lv_astore_n (lv' := [(3, .ref a1), (0, .ref x), (1, .int (nI i)), (2, .int (nI j))]) hx hb dX3_rewind_5 rfl hl (by decide) rfl (fun ls hl => ?_)
  refine lv_aload_n hx hb dX3_rewind_6 rfl (lv_at hl 1 rfl) ?_
  refine lv_iload_n hx hb dX3_rewind_7 rfl (lv_at hl 3 rfl) ?_
  refine bq_call (W.runV (As := [.int (nI j)]) (rest := []) ⟨hx, hb, hml, hown, hts⟩ (c_nodeAt_t l G k ws x nd wy f g hF j hj a2 ha2) (cwV 1 hts gX3_rewind_X3_nodeAt rfl rfl rfl (by decide +kernel) ⟨(Nat.le_of_ble_eq_true rfl), (Nat.le_of_ble_eq_true rfl)⟩) (PQ.preV hK hP (ci := 3) rfl h0) rfl rfl hl.1 rfl (lv_room (Nat.le_of_ble_eq_true rfl)) dX3_rewind_8 ⟨(Nat.le_of_ble_eq_true rfl), (Nat.le_of_ble_eq_true rfl)⟩) ?_
  refine lv_astore (lv' := [(4, .ref a2), (3, .ref a1), (0, .ref x), (1, .int (nI i)), (2, .int (nI j))]) hx hb dX3_rewind_11 hl (by decide) rfl (fun ls hl => ?_)
  refine lv_aload_n hx hb dX3_rewind_13 rfl (lv_at hl 1 rfl) ?_
  refine va_get (D := G) (ci := 1) (v := .int 0) (C := RX1) (T := TX1) (N := 8) hx hb hts (fun _ h => List.mem_cons_of_mem _ (List.mem_append_left _ (List.mem_append_left _ (List.mem_append_left _ (List.mem_append_left _ (List.mem_append_left _ (List.mem_append_right _ h))))))) hown hK hP kv1 hv1 rfl 1 (by decide) (hts (.fieldLink RX3 31 "ShippedLog$Node" "role" "I") (by decide +kernel)) (fun _ h9 => h9) rfl dX3_rewind_14 ?_
  refine lv_if_eq (tgt := 25) hx hb dX3_rewind_17 (by decide) (fun _ => ?_) (fun c9 => absurd rfl c9)
  exact bt_throw hx hb hl9 hts hown hI hS (cls := Istt) (text := "the node is down, or both are one") (ik := 34) (is := 101) (ic := 38) (by decide +kernel) (by decide) (by decide +kernel) (by decide +kernel) (by decide +kernel) (fun _ h => List.mem_cons_of_mem _ (List.mem_append_left _ (List.mem_append_right _ h))) (og_Istt).1 (og_Istt).2 (hl.1.trans hml.symm) dX3_rewind_25 dX3_rewind_28 dX3_rewind_29 dX3_rewind_31 dX3_rewind_34 ht (Nat.le_of_ble_eq_true rfl) (Nat.le_of_ble_eq_true rfl) (Nat.le_of_ble_eq_true rfl) (Nat.le_of_ble_eq_true rfl) hlocks (Nat.le_of_ble_eq_true rfl) (Nat.le_of_ble_eq_true rfl)
set_option maxHeartbeats 4000000 in
set_option maxRecDepth 100000 in
/-- not a primary and a replica of it -/
theorem c_send_nolink (l : Launch) (hl9 : l.stackTraces = false) (G : va_G) (k : Nat → ClassId) (ws : va_W) (sz : Nat) (x nd wy : Nat) (f g : Nat → Option Nat) (hF : FX k ws x nd wy f g) (i : Nat) (hi : i < 4) (j : Nat) (hj : j < 4) : vx_Met l yX3_send wsX3_send (rzk 2 1 6) (PR G k sz ws [.ref x, .int (nI i), .int (nI j)]) (QN) (XE Istt sz) 1 6 (fun q => sz ≤ q) := by
  refine vx_ofW (cc := cX3_send) (maxL := 7) (ret := (some .int)) (by decide) rfl ?_
  intro p e s m args below meth c s₁ B hml ht hv
  obtain ⟨rfl, hsz, hP, hI⟩ := hv
  subst hsz
  have hK := hI.1
  have hA : ∀ q : Nat, s.heap.size ≤ q → (fun q => s.heap.size ≤ q) q := fun _ h => h
  have hS : va_S (fun q => s.heap.size ≤ q) s.heap s.heap [] := va_S.rf
  obtain ⟨kx, h0⟩ := List.getElem?_of_mem hF.1
  obtain ⟨a1, lo1, me1, di1, ha1, ma1, ml1, mm1, md1, hmd1⟩ := hF.2.2.2.1 i hi
  obtain ⟨kv1, hv1⟩ := List.getElem?_of_mem ma1
  obtain ⟨a2, lo2, me2, di2, ha2, ma2, ml2, mm2, md2, hmd2⟩ := hF.2.2.2.1 j hj
  obtain ⟨kv2, hv2⟩ := List.getElem?_of_mem ma2
  have hx := B.exec
  have hb := B.bytes
  have hr := B.returns
  have hts := atoms_spec (ws := wsX3_send) B.pre
  have hown : s.vm.findClass RX3 = some m.cls := findClass_of_methodNamed B.named
  have hlocks := B.notSynchronized
  have hl := lv_entry ([.ref x, .int (nI i), .int (nI j)]) (n := 7) (Nat.le_of_ble_eq_true rfl)
  rw [lg_entry_eq]
  generalize (lg_sl ([.ref x, .int (nI i), .int (nI j)]) ++ List.replicate (7 - (lg_sl ([.ref x, .int (nI i), .int (nI j)])).length) Slot.unset).toArray = ls at hl ⊢
  have hl : lv_has ls 7 [(0, .ref x), (1, .int (nI i)), (2, .int (nI j))] := hl
  refine lv_aload_n hx hb dX3_send_0 rfl (lv_at hl 0 rfl) ?_
  refine lv_iload_n hx hb dX3_send_1 rfl (lv_at hl 1 rfl) ?_
  refine bq_call (W.runV (As := [.int (nI i)]) (rest := []) ⟨hx, hb, hml, hown, hts⟩ (c_nodeAt_t l G k ws x nd wy f g hF i hi a1 ha1) (cwV 1 hts gX3_send_X3_nodeAt rfl rfl rfl (by decide +kernel) ⟨(Nat.le_of_ble_eq_true rfl), (Nat.le_of_ble_eq_true rfl)⟩) (PQ.preV hK hP (ci := 3) rfl h0) rfl rfl hl.1 rfl (lv_room (Nat.le_of_ble_eq_true rfl)) dX3_send_2 ⟨(Nat.le_of_ble_eq_true rfl), (Nat.le_of_ble_eq_true rfl)⟩) ?_
  refine lv_astore_n (lv' := [(3, .ref a1), (0, .ref x), (1, .int (nI i)), (2, .int (nI j))]) hx hb dX3_send_5 rfl hl (by decide) rfl (fun ls hl => ?_)
  refine lv_aload_n hx hb dX3_send_6 rfl (lv_at hl 1 rfl) ?_
  refine lv_iload_n hx hb dX3_send_7 rfl (lv_at hl 3 rfl) ?_
  refine bq_call (W.runV (As := [.int (nI j)]) (rest := []) ⟨hx, hb, hml, hown, hts⟩ (c_nodeAt_t l G k ws x nd wy f g hF j hj a2 ha2) (cwV 1 hts gX3_send_X3_nodeAt rfl rfl rfl (by decide +kernel) ⟨(Nat.le_of_ble_eq_true rfl), (Nat.le_of_ble_eq_true rfl)⟩) (PQ.preV hK hP (ci := 3) rfl h0) rfl rfl hl.1 rfl (lv_room (Nat.le_of_ble_eq_true rfl)) dX3_send_8 ⟨(Nat.le_of_ble_eq_true rfl), (Nat.le_of_ble_eq_true rfl)⟩) ?_
  refine lv_astore (lv' := [(4, .ref a2), (3, .ref a1), (0, .ref x), (1, .int (nI i)), (2, .int (nI j))]) hx hb dX3_send_11 hl (by decide) rfl (fun ls hl => ?_)
  refine lv_aload_n hx hb dX3_send_13 rfl (lv_at hl 2 rfl) ?_
  refine lv_iload_n hx hb dX3_send_14 rfl (lv_at hl 3 rfl) ?_
  refine lv_iload_n hx hb dX3_send_15 rfl (lv_at hl 4 rfl) ?_
  refine bt_call (vx_runV (As := [.int (nI i), .int (nI j)]) (rest := []) ⟨hx, hb, hml, hown, hts⟩ (c_requireLink_n l hl9 G k ws _ nd wy x f g hF j hj a2 lo2 ha2 ma2 (nI i)) (cwV 2 hts gX3_send_X3_requireLink rfl rfl rfl (by decide +kernel) ⟨(Nat.le_of_ble_eq_true rfl), (Nat.le_of_ble_eq_true rfl)⟩) (PR.preV hI hS hA hP (ci := 3) rfl h0) rfl rfl hl.1 rfl (lv_room (Nat.le_of_ble_eq_true rfl)) dX3_send_16 ⟨(Nat.le_of_ble_eq_true rfl), (Nat.le_of_ble_eq_true rfl)⟩) (fun _ _ _ h => h) hS hA (fun q h => Nat.le_trans hS.1 h) (fun ce q9 H1 locs1 hH hS h1 h2 h3 => ?_)
  exact bt_out ht hlocks h1 h2 h3 hS (Nat.le_of_ble_eq_true rfl) (Nat.le_of_ble_eq_true rfl)
set_option maxHeartbeats 4000000 in
set_option maxRecDepth 100000 in
/-- no primary -/
theorem c_put_noprim (l : Launch) (hl9 : l.stackTraces = false) (G : va_G) (k : Nat → ClassId) (ws : va_W) (sz : Nat) (x nd wy : Nat) (f g : Nat → Option Nat) (hF : FX k ws x nd wy f g) (j : Nat) (hj : j < 4) (p1 p2 : Int32) : vx_Met l yX3_put wsX3_put (rzk 2 1 6) (PR G k sz ws [.ref x, .int (nI j), .int p1, .int p2]) (QN) (XE Istt sz) 1 6 (fun q => sz ≤ q) := by
  refine vx_ofW (cc := cX3_put) (maxL := 6) (ret := (some .int)) (by decide) rfl ?_
  intro p e s m args below meth c s₁ B hml ht hv
  obtain ⟨rfl, hsz, hP, hI⟩ := hv
  subst hsz
  have hK := hI.1
  have hA : ∀ q : Nat, s.heap.size ≤ q → (fun q => s.heap.size ≤ q) q := fun _ h => h
  have hS : va_S (fun q => s.heap.size ≤ q) s.heap s.heap [] := va_S.rf
  obtain ⟨kx, h0⟩ := List.getElem?_of_mem hF.1
  obtain ⟨a, lo, me, di, ha, ma, ml, mm, md, hmd⟩ := hF.2.2.2.1 j hj
  obtain ⟨kv, hv⟩ := List.getElem?_of_mem ma
  have hx := B.exec
  have hb := B.bytes
  have hr := B.returns
  have hts := atoms_spec (ws := wsX3_put) B.pre
  have hown : s.vm.findClass RX3 = some m.cls := findClass_of_methodNamed B.named
  have hlocks := B.notSynchronized
  have hl := lv_entry ([.ref x, .int (nI j), .int p1, .int p2]) (n := 6) (Nat.le_of_ble_eq_true rfl)
  rw [lg_entry_eq]
  generalize (lg_sl ([.ref x, .int (nI j), .int p1, .int p2]) ++ List.replicate (6 - (lg_sl ([.ref x, .int (nI j), .int p1, .int p2])).length) Slot.unset).toArray = ls at hl ⊢
  have hl : lv_has ls 6 [(0, .ref x), (1, .int (nI j)), (2, .int p1), (3, .int p2)] := hl
  refine lv_aload_n hx hb dX3_put_0 rfl (lv_at hl 0 rfl) ?_
  refine lv_iload_n hx hb dX3_put_1 rfl (lv_at hl 1 rfl) ?_
  refine bq_call (W.runV (As := [.int (nI j)]) (rest := []) ⟨hx, hb, hml, hown, hts⟩ (c_nodeAt_t l G k ws x nd wy f g hF j hj a ha) (cwV 1 hts gX3_put_X3_nodeAt rfl rfl rfl (by decide +kernel) ⟨(Nat.le_of_ble_eq_true rfl), (Nat.le_of_ble_eq_true rfl)⟩) (PQ.preV hK hP (ci := 3) rfl h0) rfl rfl hl.1 rfl (lv_room (Nat.le_of_ble_eq_true rfl)) dX3_put_2 ⟨(Nat.le_of_ble_eq_true rfl), (Nat.le_of_ble_eq_true rfl)⟩) ?_
  refine lv_astore (lv' := [(4, .ref a), (0, .ref x), (1, .int (nI j)), (2, .int p1), (3, .int p2)]) hx hb dX3_put_5 hl (by decide) rfl (fun ls hl => ?_)
  refine lv_aload hx hb dX3_put_7 (lv_at hl 0 rfl) ?_
  refine bt_call (vx_runS (As := [.ref a]) (rest := []) ⟨hx, hb, hml, hown, hts⟩ (c_requirePrimary_n l hl9 G k ws _ a lo ma) (va_cwS 1 hts gX3_put_X3_requirePrimary rfl rfl rfl (by decide +kernel) ⟨(Nat.le_of_ble_eq_true rfl), (Nat.le_of_ble_eq_true rfl)⟩) (PR.preS hI hS hA hP) rfl rfl hl.1 rfl (lv_room (Nat.le_of_ble_eq_true rfl)) dX3_put_9 ⟨(Nat.le_of_ble_eq_true rfl), (Nat.le_of_ble_eq_true rfl)⟩) (fun _ _ _ h => h) hS hA (fun q h => Nat.le_trans hS.1 h) (fun ce q9 H1 locs1 hH hS h1 h2 h3 => ?_)
  exact bt_out ht hlocks h1 h2 h3 hS (Nat.le_of_ble_eq_true rfl) (Nat.le_of_ble_eq_true rfl)
set_option maxHeartbeats 4000000 in
set_option maxRecDepth 100000 in
/-- no primary -/
theorem c_commit_noprim (l : Launch) (hl9 : l.stackTraces = false) (G : va_G) (k : Nat → ClassId) (ws : va_W) (sz : Nat) (x nd wy : Nat) (f g : Nat → Option Nat) (hF : FX k ws x nd wy f g) (j : Nat) (hj : j < 4) : vx_Met l yX3_commit wsX3_commit (rzk 2 1 6) (PR G k sz ws [.ref x, .int (nI j)]) (QN) (XE Istt sz) 1 6 (fun q => sz ≤ q) := by
  refine vx_ofW (cc := cX3_commit) (maxL := 3) (ret := (some .boolean)) (by decide) rfl ?_
  intro p e s m args below meth c s₁ B hml ht hv
  obtain ⟨rfl, hsz, hP, hI⟩ := hv
  subst hsz
  have hK := hI.1
  have hA : ∀ q : Nat, s.heap.size ≤ q → (fun q => s.heap.size ≤ q) q := fun _ h => h
  have hS : va_S (fun q => s.heap.size ≤ q) s.heap s.heap [] := va_S.rf
  obtain ⟨kx, h0⟩ := List.getElem?_of_mem hF.1
  obtain ⟨a, lo, me, di, ha, ma, ml, mm, md, hmd⟩ := hF.2.2.2.1 j hj
  obtain ⟨kv, hv⟩ := List.getElem?_of_mem ma
  have hx := B.exec
  have hb := B.bytes
  have hr := B.returns
  have hts := atoms_spec (ws := wsX3_commit) B.pre
  have hown : s.vm.findClass RX3 = some m.cls := findClass_of_methodNamed B.named
  have hlocks := B.notSynchronized
  have hl := lv_entry ([.ref x, .int (nI j)]) (n := 3) (Nat.le_of_ble_eq_true rfl)
  rw [lg_entry_eq]
  generalize (lg_sl ([.ref x, .int (nI j)]) ++ List.replicate (3 - (lg_sl ([.ref x, .int (nI j)])).length) Slot.unset).toArray = ls at hl ⊢
  have hl : lv_has ls 3 [(0, .ref x), (1, .int (nI j))] := hl
  refine lv_aload_n hx hb dX3_commit_0 rfl (lv_at hl 0 rfl) ?_
  refine lv_iload_n hx hb dX3_commit_1 rfl (lv_at hl 1 rfl) ?_
  refine bq_call (W.runV (As := [.int (nI j)]) (rest := []) ⟨hx, hb, hml, hown, hts⟩ (c_nodeAt_t l G k ws x nd wy f g hF j hj a ha) (cwV 1 hts gX3_commit_X3_nodeAt rfl rfl rfl (by decide +kernel) ⟨(Nat.le_of_ble_eq_true rfl), (Nat.le_of_ble_eq_true rfl)⟩) (PQ.preV hK hP (ci := 3) rfl h0) rfl rfl hl.1 rfl (lv_room (Nat.le_of_ble_eq_true rfl)) dX3_commit_2 ⟨(Nat.le_of_ble_eq_true rfl), (Nat.le_of_ble_eq_true rfl)⟩) ?_
  refine lv_astore_n (lv' := [(2, .ref a), (0, .ref x), (1, .int (nI j))]) hx hb dX3_commit_5 rfl hl (by decide) rfl (fun ls hl => ?_)
  refine lv_aload_n hx hb dX3_commit_6 rfl (lv_at hl 0 rfl) ?_
  refine bt_call (vx_runS (As := [.ref a]) (rest := []) ⟨hx, hb, hml, hown, hts⟩ (c_requirePrimary_n l hl9 G k ws _ a lo ma) (va_cwS 1 hts gX3_commit_X3_requirePrimary rfl rfl rfl (by decide +kernel) ⟨(Nat.le_of_ble_eq_true rfl), (Nat.le_of_ble_eq_true rfl)⟩) (PR.preS hI hS hA hP) rfl rfl hl.1 rfl (lv_room (Nat.le_of_ble_eq_true rfl)) dX3_commit_7 ⟨(Nat.le_of_ble_eq_true rfl), (Nat.le_of_ble_eq_true rfl)⟩) (fun _ _ _ h => h) hS hA (fun q h => Nat.le_trans hS.1 h) (fun ce q9 H1 locs1 hH hS h1 h2 h3 => ?_)
  exact bt_out ht hlocks h1 h2 h3 hS (Nat.le_of_ble_eq_true rfl) (Nat.le_of_ble_eq_true rfl)
set_option maxHeartbeats 4000000 in
set_option maxRecDepth 100000 in
/-- no such standby -/
theorem c_standby_bad2 (l : Launch) (hl9 : l.stackTraces = false) (G : va_G) (k : Nat → ClassId) (ws : va_W) (sz : Nat) (x nd wy : Nat) (f g : Nat → Option Nat) (hF : FX k ws x nd wy f g) (j : Nat) (hj : j < 4) (p1 : Int32) (h1 : ¬ p1 = -1) (h : bdN p1) : vx_Met l yX3_standby wsX3_standby (rzk 2 1 6) (PR G k sz ws [.ref x, .int (nI j), .int p1]) (QN) (XE Ioob sz) 1 6 (fun q => sz ≤ q) := by
  refine vx_ofW (cc := cX3_standby) (maxL := 5) (ret := (some .int)) (by decide) rfl ?_
  intro p e s m args below meth c s₁ B hml ht hv
  obtain ⟨rfl, hsz, hP, hI⟩ := hv
  subst hsz
  have hK := hI.1
  have hA : ∀ q : Nat, s.heap.size ≤ q → (fun q => s.heap.size ≤ q) q := fun _ h => h
  have hS : va_S (fun q => s.heap.size ≤ q) s.heap s.heap [] := va_S.rf
  obtain ⟨kx, h0⟩ := List.getElem?_of_mem hF.1
  obtain ⟨a, lo, me, di, ha, ma, ml, mm, md, hmd⟩ := hF.2.2.2.1 j hj
  obtain ⟨kv, hv⟩ := List.getElem?_of_mem ma
  have hx := B.exec
  have hb := B.bytes
  have hr := B.returns
  have hts := atoms_spec (ws := wsX3_standby) B.pre
  have hown : s.vm.findClass RX3 = some m.cls := findClass_of_methodNamed B.named
  have hlocks := B.notSynchronized
  have hl := lv_entry ([.ref x, .int (nI j), .int p1]) (n := 5) (Nat.le_of_ble_eq_true rfl)
  rw [lg_entry_eq]
  generalize (lg_sl ([.ref x, .int (nI j), .int p1]) ++ List.replicate (5 - (lg_sl ([.ref x, .int (nI j), .int p1])).length) Slot.unset).toArray = ls at hl ⊢
  have hl : lv_has ls 5 [(0, .ref x), (1, .int (nI j)), (2, .int p1)] := hl
  refine lv_aload_n hx hb dX3_standby_0 rfl (lv_at hl 0 rfl) ?_
  refine lv_iload_n hx hb dX3_standby_1 rfl (lv_at hl 1 rfl) ?_
  refine bq_call (W.runV (As := [.int (nI j)]) (rest := []) ⟨hx, hb, hml, hown, hts⟩ (c_nodeAt_t l G k ws x nd wy f g hF j hj a ha) (cwV 1 hts gX3_standby_X3_nodeAt rfl rfl rfl (by decide +kernel) ⟨(Nat.le_of_ble_eq_true rfl), (Nat.le_of_ble_eq_true rfl)⟩) (PQ.preV hK hP (ci := 3) rfl h0) rfl rfl hl.1 rfl (lv_room (Nat.le_of_ble_eq_true rfl)) dX3_standby_2 ⟨(Nat.le_of_ble_eq_true rfl), (Nat.le_of_ble_eq_true rfl)⟩) ?_
  refine lv_astore_n (lv' := [(3, .ref a), (0, .ref x), (1, .int (nI j)), (2, .int p1)]) hx hb dX3_standby_5 rfl hl (by decide) rfl (fun ls hl => ?_)
  refine lv_iload_n hx hb dX3_standby_6 rfl (lv_at hl 3 rfl) ?_
  refine lv_iconst (v := (-1)) hx hb dX3_standby_7 (by decide) ?_
  refine lv_icmp_eq (tgt := 28) hx hb dX3_standby_8 (by decide) (fun c9 => absurd c9 h1) (fun _ => ?_)
  refine lv_iload_n hx hb dX3_standby_11 rfl (lv_at hl 3 rfl) ?_
  refine br_call (W.runS (As := [.int p1]) (rest := []) ⟨hx, hb, hml, hown, hts⟩ (c_isNode_f l p1 h) (va_cwS 1 hts gX3_standby_X3_isNode rfl rfl rfl (by decide +kernel) ⟨(Nat.le_of_ble_eq_true rfl), (Nat.le_of_ble_eq_true rfl)⟩) (P0.preS) rfl rfl hl.1 rfl (lv_room (Nat.le_of_ble_eq_true rfl)) dX3_standby_12 ⟨(Nat.le_of_ble_eq_true rfl), (Nat.le_of_ble_eq_true rfl)⟩) ?_
  refine lv_if_ne (tgt := 28) hx hb dX3_standby_15 (by decide) (fun c9 => absurd rfl c9) (fun _ => ?_)
  exact bt_throw hx hb hl9 hts hown hI hS (cls := Ioob) (text := "no such standby") (ik := 134) (is := 136) (ic := 138) (by decide +kernel) (by decide) (by decide +kernel) (by decide +kernel) (by decide +kernel) (fun _ h => List.mem_cons_of_mem _ (List.mem_append_left _ (List.mem_append_left _ (List.mem_append_right _ h)))) (og_Ioob).1 (og_Ioob).2 (hl.1.trans hml.symm) dX3_standby_18 dX3_standby_21 dX3_standby_22 dX3_standby_24 dX3_standby_27 ht (Nat.le_of_ble_eq_true rfl) (Nat.le_of_ble_eq_true rfl) (Nat.le_of_ble_eq_true rfl) (Nat.le_of_ble_eq_true rfl) hlocks (Nat.le_of_ble_eq_true rfl) (Nat.le_of_ble_eq_true rfl)
set_option maxHeartbeats 4000000 in
set_option maxRecDepth 100000 in
/-- no primary -/
theorem c_standby_none (l : Launch) (hl9 : l.stackTraces = false) (G : va_G) (k : Nat → ClassId) (ws : va_W) (sz : Nat) (x nd wy : Nat) (f g : Nat → Option Nat) (hF : FX k ws x nd wy f g) (j : Nat) (hj : j < 4) : vx_Met l yX3_standby wsX3_standby (rzk 2 1 6) (PR G k sz ws [.ref x, .int (nI j), .int (-1)]) (QN) (XE Istt sz) 1 6 (fun q => sz ≤ q) := by
  refine vx_ofW (cc := cX3_standby) (maxL := 5) (ret := (some .int)) (by decide) rfl ?_
  intro p e s m args below meth c s₁ B hml ht hv
  obtain ⟨rfl, hsz, hP, hI⟩ := hv
  subst hsz
  have hK := hI.1
  have hA : ∀ q : Nat, s.heap.size ≤ q → (fun q => s.heap.size ≤ q) q := fun _ h => h
  have hS : va_S (fun q => s.heap.size ≤ q) s.heap s.heap [] := va_S.rf
  obtain ⟨kx, h0⟩ := List.getElem?_of_mem hF.1
  obtain ⟨a, lo, me, di, ha, ma, ml, mm, md, hmd⟩ := hF.2.2.2.1 j hj
  obtain ⟨kv, hv⟩ := List.getElem?_of_mem ma
  have hx := B.exec
  have hb := B.bytes
  have hr := B.returns
  have hts := atoms_spec (ws := wsX3_standby) B.pre
  have hown : s.vm.findClass RX3 = some m.cls := findClass_of_methodNamed B.named
  have hlocks := B.notSynchronized
  have hl := lv_entry ([.ref x, .int (nI j), .int (-1)]) (n := 5) (Nat.le_of_ble_eq_true rfl)
  rw [lg_entry_eq]
  generalize (lg_sl ([.ref x, .int (nI j), .int (-1)]) ++ List.replicate (5 - (lg_sl ([.ref x, .int (nI j), .int (-1)])).length) Slot.unset).toArray = ls at hl ⊢
  have hl : lv_has ls 5 [(0, .ref x), (1, .int (nI j)), (2, .int (-1))] := hl
  refine lv_aload_n hx hb dX3_standby_0 rfl (lv_at hl 0 rfl) ?_
  refine lv_iload_n hx hb dX3_standby_1 rfl (lv_at hl 1 rfl) ?_
  refine bq_call (W.runV (As := [.int (nI j)]) (rest := []) ⟨hx, hb, hml, hown, hts⟩ (c_nodeAt_t l G k ws x nd wy f g hF j hj a ha) (cwV 1 hts gX3_standby_X3_nodeAt rfl rfl rfl (by decide +kernel) ⟨(Nat.le_of_ble_eq_true rfl), (Nat.le_of_ble_eq_true rfl)⟩) (PQ.preV hK hP (ci := 3) rfl h0) rfl rfl hl.1 rfl (lv_room (Nat.le_of_ble_eq_true rfl)) dX3_standby_2 ⟨(Nat.le_of_ble_eq_true rfl), (Nat.le_of_ble_eq_true rfl)⟩) ?_
  refine lv_astore_n (lv' := [(3, .ref a), (0, .ref x), (1, .int (nI j)), (2, .int (-1))]) hx hb dX3_standby_5 rfl hl (by decide) rfl (fun ls hl => ?_)
  refine lv_iload_n hx hb dX3_standby_6 rfl (lv_at hl 3 rfl) ?_
  refine lv_iconst (v := (-1)) hx hb dX3_standby_7 (by decide) ?_
  refine lv_icmp_eq (tgt := 28) hx hb dX3_standby_8 (by decide) (fun _ => ?_) (fun c9 => absurd rfl c9)
  refine lv_aload_n hx hb dX3_standby_28 rfl (lv_at hl 0 rfl) ?_
  refine bt_call (vx_runS (As := [.ref a]) (rest := []) ⟨hx, hb, hml, hown, hts⟩ (c_requirePrimary_n l hl9 G k ws _ a lo ma) (va_cwS 1 hts gX3_standby_X3_requirePrimary rfl rfl rfl (by decide +kernel) ⟨(Nat.le_of_ble_eq_true rfl), (Nat.le_of_ble_eq_true rfl)⟩) (PR.preS hI hS hA hP) rfl rfl hl.1 rfl (lv_room (Nat.le_of_ble_eq_true rfl)) dX3_standby_29 ⟨(Nat.le_of_ble_eq_true rfl), (Nat.le_of_ble_eq_true rfl)⟩) (fun _ _ _ h => h) hS hA (fun q h => Nat.le_trans hS.1 h) (fun ce q9 H1 locs1 hH hS h1 h2 h3 => ?_)
  exact bt_out ht hlocks h1 h2 h3 hS (Nat.le_of_ble_eq_true rfl) (Nat.le_of_ble_eq_true rfl)
set_option maxHeartbeats 4000000 in
set_option maxRecDepth 100000 in
/-- no primary -/
theorem c_standby_noprim (l : Launch) (hl9 : l.stackTraces = false) (G : va_G) (k : Nat → ClassId) (ws : va_W) (sz : Nat) (x nd wy : Nat) (f g : Nat → Option Nat) (hF : FX k ws x nd wy f g) (j : Nat) (hj : j < 4) (i : Nat) (hi : i < 4) : vx_Met l yX3_standby wsX3_standby (rzk 2 1 6) (PR G k sz ws [.ref x, .int (nI j), .int (nI i)]) (QN) (XE Istt sz) 1 6 (fun q => sz ≤ q) := by
  refine vx_ofW (cc := cX3_standby) (maxL := 5) (ret := (some .int)) (by decide) rfl ?_
  intro p e s m args below meth c s₁ B hml ht hv
  obtain ⟨rfl, hsz, hP, hI⟩ := hv
  subst hsz
  have hK := hI.1
  have hA : ∀ q : Nat, s.heap.size ≤ q → (fun q => s.heap.size ≤ q) q := fun _ h => h
  have hS : va_S (fun q => s.heap.size ≤ q) s.heap s.heap [] := va_S.rf
  obtain ⟨kx, h0⟩ := List.getElem?_of_mem hF.1
  obtain ⟨a, lo, me, di, ha, ma, ml, mm, md, hmd⟩ := hF.2.2.2.1 j hj
  obtain ⟨kv, hv⟩ := List.getElem?_of_mem ma
  have hx := B.exec
  have hb := B.bytes
  have hr := B.returns
  have hts := atoms_spec (ws := wsX3_standby) B.pre
  have hown : s.vm.findClass RX3 = some m.cls := findClass_of_methodNamed B.named
  have hlocks := B.notSynchronized
  have hl := lv_entry ([.ref x, .int (nI j), .int (nI i)]) (n := 5) (Nat.le_of_ble_eq_true rfl)
  rw [lg_entry_eq]
  generalize (lg_sl ([.ref x, .int (nI j), .int (nI i)]) ++ List.replicate (5 - (lg_sl ([.ref x, .int (nI j), .int (nI i)])).length) Slot.unset).toArray = ls at hl ⊢
  have hl : lv_has ls 5 [(0, .ref x), (1, .int (nI j)), (2, .int (nI i))] := hl
  refine lv_aload_n hx hb dX3_standby_0 rfl (lv_at hl 0 rfl) ?_
  refine lv_iload_n hx hb dX3_standby_1 rfl (lv_at hl 1 rfl) ?_
  refine bq_call (W.runV (As := [.int (nI j)]) (rest := []) ⟨hx, hb, hml, hown, hts⟩ (c_nodeAt_t l G k ws x nd wy f g hF j hj a ha) (cwV 1 hts gX3_standby_X3_nodeAt rfl rfl rfl (by decide +kernel) ⟨(Nat.le_of_ble_eq_true rfl), (Nat.le_of_ble_eq_true rfl)⟩) (PQ.preV hK hP (ci := 3) rfl h0) rfl rfl hl.1 rfl (lv_room (Nat.le_of_ble_eq_true rfl)) dX3_standby_2 ⟨(Nat.le_of_ble_eq_true rfl), (Nat.le_of_ble_eq_true rfl)⟩) ?_
  refine lv_astore_n (lv' := [(3, .ref a), (0, .ref x), (1, .int (nI j)), (2, .int (nI i))]) hx hb dX3_standby_5 rfl hl (by decide) rfl (fun ls hl => ?_)
  refine lv_iload_n hx hb dX3_standby_6 rfl (lv_at hl 3 rfl) ?_
  refine lv_iconst (v := (-1)) hx hb dX3_standby_7 (by decide) ?_
  refine lv_icmp_eq (tgt := 28) hx hb dX3_standby_8 (by decide) (fun c9 => absurd c9 (n_m1 hi)) (fun _ => ?_)
  refine lv_iload_n hx hb dX3_standby_11 rfl (lv_at hl 3 rfl) ?_
  refine br_call (W.runS (As := [.int (nI i)]) (rest := []) ⟨hx, hb, hml, hown, hts⟩ (c_isNode_t l i hi) (va_cwS 1 hts gX3_standby_X3_isNode rfl rfl rfl (by decide +kernel) ⟨(Nat.le_of_ble_eq_true rfl), (Nat.le_of_ble_eq_true rfl)⟩) (P0.preS) rfl rfl hl.1 rfl (lv_room (Nat.le_of_ble_eq_true rfl)) dX3_standby_12 ⟨(Nat.le_of_ble_eq_true rfl), (Nat.le_of_ble_eq_true rfl)⟩) ?_
  refine lv_if_ne (tgt := 28) hx hb dX3_standby_15 (by decide) (fun _ => ?_) (fun c9 => absurd c9 (by decide : ¬ (1 : Int32) = 0))
  refine lv_aload_n hx hb dX3_standby_28 rfl (lv_at hl 0 rfl) ?_
  refine bt_call (vx_runS (As := [.ref a]) (rest := []) ⟨hx, hb, hml, hown, hts⟩ (c_requirePrimary_n l hl9 G k ws _ a lo ma) (va_cwS 1 hts gX3_standby_X3_requirePrimary rfl rfl rfl (by decide +kernel) ⟨(Nat.le_of_ble_eq_true rfl), (Nat.le_of_ble_eq_true rfl)⟩) (PR.preS hI hS hA hP) rfl rfl hl.1 rfl (lv_room (Nat.le_of_ble_eq_true rfl)) dX3_standby_29 ⟨(Nat.le_of_ble_eq_true rfl), (Nat.le_of_ble_eq_true rfl)⟩) (fun _ _ _ h => h) hS hA (fun q h => Nat.le_trans hS.1 h) (fun ce q9 H1 locs1 hH hS h1 h2 h3 => ?_)
  exact bt_out ht hlocks h1 h2 h3 hS (Nat.le_of_ble_eq_true rfl) (Nat.le_of_ble_eq_true rfl)
set_option maxHeartbeats 4000000 in
set_option maxRecDepth 100000 in
/-- a number below 1 -/
theorem c_apply_small (l : Launch) (hl9 : l.stackTraces = false) (G : va_G) (k : Nat → ClassId) (ws : va_W) (sz : Nat) (x nd wy : Nat) (f g : Nat → Option Nat) (hF : FX k ws x nd wy f g) (j : Nat) (hj : j < 4) (p1 : Int32) (h : p1 < 1) : vx_Met l yX3_apply wsX3_apply (rzk 2 1 6) (PR G k sz ws [.ref x, .int (nI j), .int p1]) (QN) (XE Iarg sz) 1 6 (fun q => sz ≤ q) := by
  refine vx_ofW (cc := cX3_apply) (maxL := 5) (ret := (some .int)) (by decide) rfl ?_
  intro p e s m args below meth c s₁ B hml ht hv
  obtain ⟨rfl, hsz, hP, hI⟩ := hv
  subst hsz
  have hK := hI.1
  have hA : ∀ q : Nat, s.heap.size ≤ q → (fun q => s.heap.size ≤ q) q := fun _ h => h
  have hS : va_S (fun q => s.heap.size ≤ q) s.heap s.heap [] := va_S.rf
  obtain ⟨kx, h0⟩ := List.getElem?_of_mem hF.1
  obtain ⟨a, lo, me, di, ha, ma, ml, mm, md, hmd⟩ := hF.2.2.2.1 j hj
  obtain ⟨kv, hv⟩ := List.getElem?_of_mem ma
  have hx := B.exec
  have hb := B.bytes
  have hr := B.returns
  have hts := atoms_spec (ws := wsX3_apply) B.pre
  have hown : s.vm.findClass RX3 = some m.cls := findClass_of_methodNamed B.named
  have hlocks := B.notSynchronized
  have hl := lv_entry ([.ref x, .int (nI j), .int p1]) (n := 5) (Nat.le_of_ble_eq_true rfl)
  rw [lg_entry_eq]
  generalize (lg_sl ([.ref x, .int (nI j), .int p1]) ++ List.replicate (5 - (lg_sl ([.ref x, .int (nI j), .int p1])).length) Slot.unset).toArray = ls at hl ⊢
  have hl : lv_has ls 5 [(0, .ref x), (1, .int (nI j)), (2, .int p1)] := hl
  refine lv_aload_n hx hb dX3_apply_0 rfl (lv_at hl 0 rfl) ?_
  refine lv_iload_n hx hb dX3_apply_1 rfl (lv_at hl 1 rfl) ?_
  refine bq_call (W.runV (As := [.int (nI j)]) (rest := []) ⟨hx, hb, hml, hown, hts⟩ (c_nodeAt_t l G k ws x nd wy f g hF j hj a ha) (cwV 1 hts gX3_apply_X3_nodeAt rfl rfl rfl (by decide +kernel) ⟨(Nat.le_of_ble_eq_true rfl), (Nat.le_of_ble_eq_true rfl)⟩) (PQ.preV hK hP (ci := 3) rfl h0) rfl rfl hl.1 rfl (lv_room (Nat.le_of_ble_eq_true rfl)) dX3_apply_2 ⟨(Nat.le_of_ble_eq_true rfl), (Nat.le_of_ble_eq_true rfl)⟩) ?_
  refine lv_astore_n (lv' := [(3, .ref a), (0, .ref x), (1, .int (nI j)), (2, .int p1)]) hx hb dX3_apply_5 rfl hl (by decide) rfl (fun ls hl => ?_)
  refine lv_iload_n hx hb dX3_apply_6 rfl (lv_at hl 3 rfl) ?_
  refine lv_iconst (v := 1) hx hb dX3_apply_7 (by decide) ?_
  refine lv_icmp_ge (tgt := 21) hx hb dX3_apply_8 (by decide) (fun c9 => absurd c9 (Int32.not_le.mpr h)) (fun _ => ?_)
  exact bt_throw hx hb hl9 hts hown hI hS (cls := Iarg) (text := "a number of records below 1") (ik := 60) (is := 194) (ic := 64) (by decide +kernel) (by decide) (by decide +kernel) (by decide +kernel) (by decide +kernel) (fun _ h => List.mem_cons_of_mem _ (List.mem_append_left _ (List.mem_append_left _ (List.mem_append_right _ h)))) (og_Iarg).1 (og_Iarg).2 (hl.1.trans hml.symm) dX3_apply_11 dX3_apply_14 dX3_apply_15 dX3_apply_17 dX3_apply_20 ht (Nat.le_of_ble_eq_true rfl) (Nat.le_of_ble_eq_true rfl) (Nat.le_of_ble_eq_true rfl) (Nat.le_of_ble_eq_true rfl) hlocks (Nat.le_of_ble_eq_true rfl) (Nat.le_of_ble_eq_true rfl)
set_option maxHeartbeats 4000000 in
set_option maxRecDepth 100000 in
/-- no replica -/
theorem c_apply_norep (l : Launch) (hl9 : l.stackTraces = false) (G : va_G) (k : Nat → ClassId) (ws : va_W) (sz : Nat) (x nd wy : Nat) (f g : Nat → Option Nat) (hF : FX k ws x nd wy f g) (j : Nat) (hj : j < 4) (p1 : Int32) (h : ¬ p1 < 1) : vx_Met l yX3_apply wsX3_apply (rzk 2 1 6) (PR G k sz ws [.ref x, .int (nI j), .int p1]) (QN) (XE Istt sz) 1 6 (fun q => sz ≤ q) := by
  refine vx_ofW (cc := cX3_apply) (maxL := 5) (ret := (some .int)) (by decide) rfl ?_
  intro p e s m args below meth c s₁ B hml ht hv
  obtain ⟨rfl, hsz, hP, hI⟩ := hv
  subst hsz
  have hK := hI.1
  have hA : ∀ q : Nat, s.heap.size ≤ q → (fun q => s.heap.size ≤ q) q := fun _ h => h
  have hS : va_S (fun q => s.heap.size ≤ q) s.heap s.heap [] := va_S.rf
  obtain ⟨kx, h0⟩ := List.getElem?_of_mem hF.1
  obtain ⟨a, lo, me, di, ha, ma, ml, mm, md, hmd⟩ := hF.2.2.2.1 j hj
  obtain ⟨kv, hv⟩ := List.getElem?_of_mem ma
  have hx := B.exec
  have hb := B.bytes
  have hr := B.returns
  have hts := atoms_spec (ws := wsX3_apply) B.pre
  have hown : s.vm.findClass RX3 = some m.cls := findClass_of_methodNamed B.named
  have hlocks := B.notSynchronized
  have hl := lv_entry ([.ref x, .int (nI j), .int p1]) (n := 5) (Nat.le_of_ble_eq_true rfl)
  rw [lg_entry_eq]
  generalize (lg_sl ([.ref x, .int (nI j), .int p1]) ++ List.replicate (5 - (lg_sl ([.ref x, .int (nI j), .int p1])).length) Slot.unset).toArray = ls at hl ⊢
  have hl : lv_has ls 5 [(0, .ref x), (1, .int (nI j)), (2, .int p1)] := hl
  refine lv_aload_n hx hb dX3_apply_0 rfl (lv_at hl 0 rfl) ?_
  refine lv_iload_n hx hb dX3_apply_1 rfl (lv_at hl 1 rfl) ?_
  refine bq_call (W.runV (As := [.int (nI j)]) (rest := []) ⟨hx, hb, hml, hown, hts⟩ (c_nodeAt_t l G k ws x nd wy f g hF j hj a ha) (cwV 1 hts gX3_apply_X3_nodeAt rfl rfl rfl (by decide +kernel) ⟨(Nat.le_of_ble_eq_true rfl), (Nat.le_of_ble_eq_true rfl)⟩) (PQ.preV hK hP (ci := 3) rfl h0) rfl rfl hl.1 rfl (lv_room (Nat.le_of_ble_eq_true rfl)) dX3_apply_2 ⟨(Nat.le_of_ble_eq_true rfl), (Nat.le_of_ble_eq_true rfl)⟩) ?_
  refine lv_astore_n (lv' := [(3, .ref a), (0, .ref x), (1, .int (nI j)), (2, .int p1)]) hx hb dX3_apply_5 rfl hl (by decide) rfl (fun ls hl => ?_)
  refine lv_iload_n hx hb dX3_apply_6 rfl (lv_at hl 3 rfl) ?_
  refine lv_iconst (v := 1) hx hb dX3_apply_7 (by decide) ?_
  refine lv_icmp_ge (tgt := 21) hx hb dX3_apply_8 (by decide) (fun _ => ?_) (fun c9 => absurd (Int32.not_lt.mp h) c9)
  refine lv_aload_n hx hb dX3_apply_21 rfl (lv_at hl 0 rfl) ?_
  refine va_get (D := G) (ci := 1) (v := .int 0) (C := RX1) (T := TX1) (N := 8) hx hb hts (fun _ h => List.mem_cons_of_mem _ (List.mem_append_left _ (List.mem_append_left _ (List.mem_append_left _ (List.mem_append_left _ (List.mem_append_left _ (List.mem_append_right _ h))))))) hown hK hP kv hv rfl 1 (by decide) (hts (.fieldLink RX3 31 "ShippedLog$Node" "role" "I") (by decide +kernel)) (fun _ h9 => h9) rfl dX3_apply_22 ?_
  refine lv_iconst (v := 3) hx hb dX3_apply_25 (by decide) ?_
  refine lv_icmp_eq (tgt := 39) hx hb dX3_apply_26 (by decide) (fun c9 => absurd c9 (by decide : ¬ (0 : Int32) = 3)) (fun _ => ?_)
  exact bt_throw hx hb hl9 hts hown hI hS (cls := Istt) (text := "the node is no replica") (ik := 34) (is := 196) (ic := 38) (by decide +kernel) (by decide) (by decide +kernel) (by decide +kernel) (by decide +kernel) (fun _ h => List.mem_cons_of_mem _ (List.mem_append_left _ (List.mem_append_right _ h))) (og_Istt).1 (og_Istt).2 (hl.1.trans hml.symm) dX3_apply_29 dX3_apply_32 dX3_apply_33 dX3_apply_35 dX3_apply_38 ht (Nat.le_of_ble_eq_true rfl) (Nat.le_of_ble_eq_true rfl) (Nat.le_of_ble_eq_true rfl) (Nat.le_of_ble_eq_true rfl) hlocks (Nat.le_of_ble_eq_true rfl) (Nat.le_of_ble_eq_true rfl)
set_option maxHeartbeats 4000000 in
set_option maxRecDepth 100000 in
/-- no such key -/
theorem c_get_nokey (l : Launch) (hl9 : l.stackTraces = false) (G : va_G) (k : Nat → ClassId) (ws : va_W) (sz : Nat) (x nd wy : Nat) (f g : Nat → Option Nat) (hF : FX k ws x nd wy f g) (j : Nat) (hj : j < 4) (p1 : Int32) (h : bdK p1) : vx_Met l yX3_get wsX3_get (rzk 2 1 6) (PR G k sz ws [.ref x, .int (nI j), .int p1]) (QN) (XE Ioob sz) 1 6 (fun q => sz ≤ q) := by
  refine vx_ofW (cc := cX3_get) (maxL := 4) (ret := (some .int)) (by decide) rfl ?_
  intro p e s m args below meth c s₁ B hml ht hv
  obtain ⟨rfl, hsz, hP, hI⟩ := hv
  subst hsz
  have hK := hI.1
  have hA : ∀ q : Nat, s.heap.size ≤ q → (fun q => s.heap.size ≤ q) q := fun _ h => h
  have hS : va_S (fun q => s.heap.size ≤ q) s.heap s.heap [] := va_S.rf
  obtain ⟨kx, h0⟩ := List.getElem?_of_mem hF.1
  obtain ⟨a, lo, me, di, ha, ma, ml, mm, md, hmd⟩ := hF.2.2.2.1 j hj
  obtain ⟨kv, hv⟩ := List.getElem?_of_mem ma
  have hx := B.exec
  have hb := B.bytes
  have hr := B.returns
  have hts := atoms_spec (ws := wsX3_get) B.pre
  have hown : s.vm.findClass RX3 = some m.cls := findClass_of_methodNamed B.named
  have hlocks := B.notSynchronized
  have hl := lv_entry ([.ref x, .int (nI j), .int p1]) (n := 4) (Nat.le_of_ble_eq_true rfl)
  rw [lg_entry_eq]
  generalize (lg_sl ([.ref x, .int (nI j), .int p1]) ++ List.replicate (4 - (lg_sl ([.ref x, .int (nI j), .int p1])).length) Slot.unset).toArray = ls at hl ⊢
  have hl : lv_has ls 4 [(0, .ref x), (1, .int (nI j)), (2, .int p1)] := hl
  refine lv_aload_n hx hb dX3_get_0 rfl (lv_at hl 0 rfl) ?_
  refine lv_iload_n hx hb dX3_get_1 rfl (lv_at hl 1 rfl) ?_
  refine bq_call (W.runV (As := [.int (nI j)]) (rest := []) ⟨hx, hb, hml, hown, hts⟩ (c_nodeAt_t l G k ws x nd wy f g hF j hj a ha) (cwV 1 hts gX3_get_X3_nodeAt rfl rfl rfl (by decide +kernel) ⟨(Nat.le_of_ble_eq_true rfl), (Nat.le_of_ble_eq_true rfl)⟩) (PQ.preV hK hP (ci := 3) rfl h0) rfl rfl hl.1 rfl (lv_room (Nat.le_of_ble_eq_true rfl)) dX3_get_2 ⟨(Nat.le_of_ble_eq_true rfl), (Nat.le_of_ble_eq_true rfl)⟩) ?_
  refine lv_astore_n (lv' := [(3, .ref a), (0, .ref x), (1, .int (nI j)), (2, .int p1)]) hx hb dX3_get_5 rfl hl (by decide) rfl (fun ls hl => ?_)
  refine lv_iload_n hx hb dX3_get_6 rfl (lv_at hl 3 rfl) ?_
  refine br_call (W.runS (As := [.int p1]) (rest := []) ⟨hx, hb, hml, hown, hts⟩ (c_isKey_f l p1 h) (va_cwS 1 hts gX3_get_X3_isKey rfl rfl rfl (by decide +kernel) ⟨(Nat.le_of_ble_eq_true rfl), (Nat.le_of_ble_eq_true rfl)⟩) (P0.preS) rfl rfl hl.1 rfl (lv_room (Nat.le_of_ble_eq_true rfl)) dX3_get_7 ⟨(Nat.le_of_ble_eq_true rfl), (Nat.le_of_ble_eq_true rfl)⟩) ?_
  refine lv_if_ne (tgt := 23) hx hb dX3_get_10 (by decide) (fun c9 => absurd rfl c9) (fun _ => ?_)
  exact bt_throw hx hb hl9 hts hown hI hS (cls := Ioob) (text := "no such key") (ik := 134) (is := 115) (ic := 138) (by decide +kernel) (by decide) (by decide +kernel) (by decide +kernel) (by decide +kernel) (fun _ h => List.mem_cons_of_mem _ (List.mem_append_left _ (List.mem_append_right _ h))) (og_Ioob).1 (og_Ioob).2 (hl.1.trans hml.symm) dX3_get_13 dX3_get_16 dX3_get_17 dX3_get_19 dX3_get_22 ht (Nat.le_of_ble_eq_true rfl) (Nat.le_of_ble_eq_true rfl) (Nat.le_of_ble_eq_true rfl) (Nat.le_of_ble_eq_true rfl) hlocks (Nat.le_of_ble_eq_true rfl) (Nat.le_of_ble_eq_true rfl)
set_option maxHeartbeats 4000000 in
set_option maxRecDepth 100000 in
/-- it is down -/
theorem c_get_down (l : Launch) (hl9 : l.stackTraces = false) (G : va_G) (k : Nat → ClassId) (ws : va_W) (sz : Nat) (x nd wy : Nat) (f g : Nat → Option Nat) (hF : FX k ws x nd wy f g) (j : Nat) (hj : j < 4) (q : Nat) (hq : q < 16) : vx_Met l yX3_get wsX3_get (rzk 2 1 6) (PR G k sz ws [.ref x, .int (nI j), .int (nI q)]) (QN) (XE Istt sz) 1 6 (fun q => sz ≤ q) := by
  refine vx_ofW (cc := cX3_get) (maxL := 4) (ret := (some .int)) (by decide) rfl ?_
  intro p e s m args below meth c s₁ B hml ht hv
  obtain ⟨rfl, hsz, hP, hI⟩ := hv
  subst hsz
  have hK := hI.1
  have hA : ∀ q : Nat, s.heap.size ≤ q → (fun q => s.heap.size ≤ q) q := fun _ h => h
  have hS : va_S (fun q => s.heap.size ≤ q) s.heap s.heap [] := va_S.rf
  obtain ⟨kx, h0⟩ := List.getElem?_of_mem hF.1
  obtain ⟨a, lo, me, di, ha, ma, ml, mm, md, hmd⟩ := hF.2.2.2.1 j hj
  obtain ⟨kv, hv⟩ := List.getElem?_of_mem ma
  have hx := B.exec
  have hb := B.bytes
  have hr := B.returns
  have hts := atoms_spec (ws := wsX3_get) B.pre
  have hown : s.vm.findClass RX3 = some m.cls := findClass_of_methodNamed B.named
  have hlocks := B.notSynchronized
  have hl := lv_entry ([.ref x, .int (nI j), .int (nI q)]) (n := 4) (Nat.le_of_ble_eq_true rfl)
  rw [lg_entry_eq]
  generalize (lg_sl ([.ref x, .int (nI j), .int (nI q)]) ++ List.replicate (4 - (lg_sl ([.ref x, .int (nI j), .int (nI q)])).length) Slot.unset).toArray = ls at hl ⊢
  have hl : lv_has ls 4 [(0, .ref x), (1, .int (nI j)), (2, .int (nI q))] := hl
  refine lv_aload_n hx hb dX3_get_0 rfl (lv_at hl 0 rfl) ?_
  refine lv_iload_n hx hb dX3_get_1 rfl (lv_at hl 1 rfl) ?_
  refine bq_call (W.runV (As := [.int (nI j)]) (rest := []) ⟨hx, hb, hml, hown, hts⟩ (c_nodeAt_t l G k ws x nd wy f g hF j hj a ha) (cwV 1 hts gX3_get_X3_nodeAt rfl rfl rfl (by decide +kernel) ⟨(Nat.le_of_ble_eq_true rfl), (Nat.le_of_ble_eq_true rfl)⟩) (PQ.preV hK hP (ci := 3) rfl h0) rfl rfl hl.1 rfl (lv_room (Nat.le_of_ble_eq_true rfl)) dX3_get_2 ⟨(Nat.le_of_ble_eq_true rfl), (Nat.le_of_ble_eq_true rfl)⟩) ?_
  refine lv_astore_n (lv' := [(3, .ref a), (0, .ref x), (1, .int (nI j)), (2, .int (nI q))]) hx hb dX3_get_5 rfl hl (by decide) rfl (fun ls hl => ?_)
  refine lv_iload_n hx hb dX3_get_6 rfl (lv_at hl 3 rfl) ?_
  refine br_call (W.runS (As := [.int (nI q)]) (rest := []) ⟨hx, hb, hml, hown, hts⟩ (c_isKey_t l q hq) (va_cwS 1 hts gX3_get_X3_isKey rfl rfl rfl (by decide +kernel) ⟨(Nat.le_of_ble_eq_true rfl), (Nat.le_of_ble_eq_true rfl)⟩) (P0.preS) rfl rfl hl.1 rfl (lv_room (Nat.le_of_ble_eq_true rfl)) dX3_get_7 ⟨(Nat.le_of_ble_eq_true rfl), (Nat.le_of_ble_eq_true rfl)⟩) ?_
  refine lv_if_ne (tgt := 23) hx hb dX3_get_10 (by decide) (fun _ => ?_) (fun c9 => absurd c9 (by decide : ¬ (1 : Int32) = 0))
  refine lv_aload_n hx hb dX3_get_23 rfl (lv_at hl 0 rfl) ?_
  refine va_get (D := G) (ci := 1) (v := .int 0) (C := RX1) (T := TX1) (N := 8) hx hb hts (fun _ h => List.mem_cons_of_mem _ (List.mem_append_left _ (List.mem_append_left _ (List.mem_append_left _ (List.mem_append_left _ (List.mem_append_right _ h)))))) hown hK hP kv hv rfl 1 (by decide) (hts (.fieldLink RX3 31 "ShippedLog$Node" "role" "I") (by decide +kernel)) (fun _ h9 => h9) rfl dX3_get_24 ?_
  refine lv_if_ne (tgt := 40) hx hb dX3_get_27 (by decide) (fun c9 => absurd rfl c9) (fun _ => ?_)
  exact bt_throw hx hb hl9 hts hown hI hS (cls := Istt) (text := "the node is down") (ik := 34) (is := 65) (ic := 38) (by decide +kernel) (by decide) (by decide +kernel) (by decide +kernel) (by decide +kernel) (fun _ h => List.mem_cons_of_mem _ (List.mem_append_right _ h)) (og_Istt).1 (og_Istt).2 (hl.1.trans hml.symm) dX3_get_30 dX3_get_33 dX3_get_34 dX3_get_36 dX3_get_39 ht (Nat.le_of_ble_eq_true rfl) (Nat.le_of_ble_eq_true rfl) (Nat.le_of_ble_eq_true rfl) (Nat.le_of_ble_eq_true rfl) hlocks (Nat.le_of_ble_eq_true rfl) (Nat.le_of_ble_eq_true rfl)
set_option maxHeartbeats 4000000 in
set_option maxRecDepth 100000 in
/-- no such byte -/
theorem c_byteAt_neg (l : Launch) (hl9 : l.stackTraces = false) (G : va_G) (k : Nat → ClassId) (ws : va_W) (sz : Nat) (x nd wy : Nat) (f g : Nat → Option Nat) (hF : FX k ws x nd wy f g) (j : Nat) (hj : j < 4) (p1 p2 : Int32) (h : p1 < 0) : vx_Met l yX3_byteAt wsX3_byteAt (rzk 2 1 6) (PR G k sz ws [.ref x, .int (nI j), .int p1, .int p2]) (QN) (XE Ioob sz) 1 6 (fun q => sz ≤ q) := by
  refine vx_ofW (cc := cX3_byteAt) (maxL := 5) (ret := (some .int)) (by decide) rfl ?_
  intro p e s m args below meth c s₁ B hml ht hv
  obtain ⟨rfl, hsz, hP, hI⟩ := hv
  subst hsz
  have hK := hI.1
  have hA : ∀ q : Nat, s.heap.size ≤ q → (fun q => s.heap.size ≤ q) q := fun _ h => h
  have hS : va_S (fun q => s.heap.size ≤ q) s.heap s.heap [] := va_S.rf
  obtain ⟨kx, h0⟩ := List.getElem?_of_mem hF.1
  obtain ⟨a, lo, me, di, ha, ma, ml, mm, md, hmd⟩ := hF.2.2.2.1 j hj
  obtain ⟨kv, hv⟩ := List.getElem?_of_mem ma
  have hx := B.exec
  have hb := B.bytes
  have hr := B.returns
  have hts := atoms_spec (ws := wsX3_byteAt) B.pre
  have hown : s.vm.findClass RX3 = some m.cls := findClass_of_methodNamed B.named
  have hlocks := B.notSynchronized
  have hl := lv_entry ([.ref x, .int (nI j), .int p1, .int p2]) (n := 5) (Nat.le_of_ble_eq_true rfl)
  rw [lg_entry_eq]
  generalize (lg_sl ([.ref x, .int (nI j), .int p1, .int p2]) ++ List.replicate (5 - (lg_sl ([.ref x, .int (nI j), .int p1, .int p2])).length) Slot.unset).toArray = ls at hl ⊢
  have hl : lv_has ls 5 [(0, .ref x), (1, .int (nI j)), (2, .int p1), (3, .int p2)] := hl
  refine lv_aload_n hx hb dX3_byteAt_0 rfl (lv_at hl 0 rfl) ?_
  refine lv_iload_n hx hb dX3_byteAt_1 rfl (lv_at hl 1 rfl) ?_
  refine bq_call (W.runV (As := [.int (nI j)]) (rest := []) ⟨hx, hb, hml, hown, hts⟩ (c_nodeAt_t l G k ws x nd wy f g hF j hj a ha) (cwV 1 hts gX3_byteAt_X3_nodeAt rfl rfl rfl (by decide +kernel) ⟨(Nat.le_of_ble_eq_true rfl), (Nat.le_of_ble_eq_true rfl)⟩) (PQ.preV hK hP (ci := 3) rfl h0) rfl rfl hl.1 rfl (lv_room (Nat.le_of_ble_eq_true rfl)) dX3_byteAt_2 ⟨(Nat.le_of_ble_eq_true rfl), (Nat.le_of_ble_eq_true rfl)⟩) ?_
  refine lv_astore (lv' := [(4, .ref a), (0, .ref x), (1, .int (nI j)), (2, .int p1), (3, .int p2)]) hx hb dX3_byteAt_5 hl (by decide) rfl (fun ls hl => ?_)
  refine lv_iload_n hx hb dX3_byteAt_7 rfl (lv_at hl 3 rfl) ?_
  refine lv_if_lt (tgt := 18) hx hb dX3_byteAt_8 (by decide) (fun _ => ?_) (fun c9 => absurd h c9)
  exact bt_throw hx hb hl9 hts hown hI hS (cls := Ioob) (text := "no such byte") (ik := 134) (is := 201) (ic := 138) (by decide +kernel) (by decide) (by decide +kernel) (by decide +kernel) (by decide +kernel) (fun _ h => List.mem_cons_of_mem _ (List.mem_append_right _ h)) (og_Ioob).1 (og_Ioob).2 (hl.1.trans hml.symm) dX3_byteAt_18 dX3_byteAt_21 dX3_byteAt_22 dX3_byteAt_24 dX3_byteAt_27 ht (Nat.le_of_ble_eq_true rfl) (Nat.le_of_ble_eq_true rfl) (Nat.le_of_ble_eq_true rfl) (Nat.le_of_ble_eq_true rfl) hlocks (Nat.le_of_ble_eq_true rfl) (Nat.le_of_ble_eq_true rfl)
set_option maxHeartbeats 4000000 in
set_option maxRecDepth 100000 in
/-- no such byte -/
theorem c_byteAt_big (l : Launch) (hl9 : l.stackTraces = false) (G : va_G) (k : Nat → ClassId) (ws : va_W) (sz : Nat) (x nd wy : Nat) (f g : Nat → Option Nat) (hF : FX k ws x nd wy f g) (j : Nat) (hj : j < 4) (p1 p2 : Int32) (h : 4096 ≤ p1) : vx_Met l yX3_byteAt wsX3_byteAt (rzk 2 1 6) (PR G k sz ws [.ref x, .int (nI j), .int p1, .int p2]) (QN) (XE Ioob sz) 1 6 (fun q => sz ≤ q) := by
  refine vx_ofW (cc := cX3_byteAt) (maxL := 5) (ret := (some .int)) (by decide) rfl ?_
  intro p e s m args below meth c s₁ B hml ht hv
  obtain ⟨rfl, hsz, hP, hI⟩ := hv
  subst hsz
  have hK := hI.1
  have hA : ∀ q : Nat, s.heap.size ≤ q → (fun q => s.heap.size ≤ q) q := fun _ h => h
  have hS : va_S (fun q => s.heap.size ≤ q) s.heap s.heap [] := va_S.rf
  obtain ⟨kx, h0⟩ := List.getElem?_of_mem hF.1
  obtain ⟨a, lo, me, di, ha, ma, ml, mm, md, hmd⟩ := hF.2.2.2.1 j hj
  obtain ⟨kv, hv⟩ := List.getElem?_of_mem ma
  have hx := B.exec
  have hb := B.bytes
  have hr := B.returns
  have hts := atoms_spec (ws := wsX3_byteAt) B.pre
  have hown : s.vm.findClass RX3 = some m.cls := findClass_of_methodNamed B.named
  have hlocks := B.notSynchronized
  have hl := lv_entry ([.ref x, .int (nI j), .int p1, .int p2]) (n := 5) (Nat.le_of_ble_eq_true rfl)
  rw [lg_entry_eq]
  generalize (lg_sl ([.ref x, .int (nI j), .int p1, .int p2]) ++ List.replicate (5 - (lg_sl ([.ref x, .int (nI j), .int p1, .int p2])).length) Slot.unset).toArray = ls at hl ⊢
  have hl : lv_has ls 5 [(0, .ref x), (1, .int (nI j)), (2, .int p1), (3, .int p2)] := hl
  refine lv_aload_n hx hb dX3_byteAt_0 rfl (lv_at hl 0 rfl) ?_
  refine lv_iload_n hx hb dX3_byteAt_1 rfl (lv_at hl 1 rfl) ?_
  refine bq_call (W.runV (As := [.int (nI j)]) (rest := []) ⟨hx, hb, hml, hown, hts⟩ (c_nodeAt_t l G k ws x nd wy f g hF j hj a ha) (cwV 1 hts gX3_byteAt_X3_nodeAt rfl rfl rfl (by decide +kernel) ⟨(Nat.le_of_ble_eq_true rfl), (Nat.le_of_ble_eq_true rfl)⟩) (PQ.preV hK hP (ci := 3) rfl h0) rfl rfl hl.1 rfl (lv_room (Nat.le_of_ble_eq_true rfl)) dX3_byteAt_2 ⟨(Nat.le_of_ble_eq_true rfl), (Nat.le_of_ble_eq_true rfl)⟩) ?_
  refine lv_astore (lv' := [(4, .ref a), (0, .ref x), (1, .int (nI j)), (2, .int p1), (3, .int p2)]) hx hb dX3_byteAt_5 hl (by decide) rfl (fun ls hl => ?_)
  refine lv_iload_n hx hb dX3_byteAt_7 rfl (lv_at hl 3 rfl) ?_
  refine lv_if_lt (tgt := 18) hx hb dX3_byteAt_8 (by decide) (fun c9 => absurd c9 (n_ge0 (n := 4096) h (by decide))) (fun _ => ?_)
  refine lv_iload_n hx hb dX3_byteAt_11 rfl (lv_at hl 3 rfl) ?_
  refine lv_sipush (v := 4096) hx hb dX3_byteAt_12 (by decide) ?_
  refine lv_icmp_lt (tgt := 28) hx hb dX3_byteAt_15 (by decide) (fun c9 => absurd c9 (Int32.not_lt.mpr h)) (fun _ => ?_)
  exact bt_throw hx hb hl9 hts hown hI hS (cls := Ioob) (text := "no such byte") (ik := 134) (is := 201) (ic := 138) (by decide +kernel) (by decide) (by decide +kernel) (by decide +kernel) (by decide +kernel) (fun _ h => List.mem_cons_of_mem _ (List.mem_append_right _ h)) (og_Ioob).1 (og_Ioob).2 (hl.1.trans hml.symm) dX3_byteAt_18 dX3_byteAt_21 dX3_byteAt_22 dX3_byteAt_24 dX3_byteAt_27 ht (Nat.le_of_ble_eq_true rfl) (Nat.le_of_ble_eq_true rfl) (Nat.le_of_ble_eq_true rfl) (Nat.le_of_ble_eq_true rfl) hlocks (Nat.le_of_ble_eq_true rfl) (Nat.le_of_ble_eq_true rfl)
set_option maxHeartbeats 4000000 in
set_option maxRecDepth 100000 in
/-- neither memory nor disk -/
theorem c_byteAt_where (l : Launch) (hl9 : l.stackTraces = false) (G : va_G) (k : Nat → ClassId) (ws : va_W) (sz : Nat) (x nd wy : Nat) (f g : Nat → Option Nat) (hF : FX k ws x nd wy f g) (j : Nat) (hj : j < 4) (q : Nat) (hq : q < 4096) (p2 : Int32) (h1 : ¬ p2 = 0) (h2 : ¬ p2 = 1) : vx_Met l yX3_byteAt wsX3_byteAt (rzk 2 1 6) (PR G k sz ws [.ref x, .int (nI j), .int (nI q), .int p2]) (QN) (XE Ioob sz) 1 6 (fun q => sz ≤ q) := by
  refine vx_ofW (cc := cX3_byteAt) (maxL := 5) (ret := (some .int)) (by decide) rfl ?_
  intro p e s m args below meth c s₁ B hml ht hv
  obtain ⟨rfl, hsz, hP, hI⟩ := hv
  subst hsz
  have hK := hI.1
  have hA : ∀ q : Nat, s.heap.size ≤ q → (fun q => s.heap.size ≤ q) q := fun _ h => h
  have hS : va_S (fun q => s.heap.size ≤ q) s.heap s.heap [] := va_S.rf
  obtain ⟨kx, h0⟩ := List.getElem?_of_mem hF.1
  obtain ⟨a, lo, me, di, ha, ma, ml, mm, md, hmd⟩ := hF.2.2.2.1 j hj
  obtain ⟨kv, hv⟩ := List.getElem?_of_mem ma
  have hx := B.exec
  have hb := B.bytes
  have hr := B.returns
  have hts := atoms_spec (ws := wsX3_byteAt) B.pre
  have hown : s.vm.findClass RX3 = some m.cls := findClass_of_methodNamed B.named
  have hlocks := B.notSynchronized
  have hl := lv_entry ([.ref x, .int (nI j), .int (nI q), .int p2]) (n := 5) (Nat.le_of_ble_eq_true rfl)
  rw [lg_entry_eq]
  generalize (lg_sl ([.ref x, .int (nI j), .int (nI q), .int p2]) ++ List.replicate (5 - (lg_sl ([.ref x, .int (nI j), .int (nI q), .int p2])).length) Slot.unset).toArray = ls at hl ⊢
  have hl : lv_has ls 5 [(0, .ref x), (1, .int (nI j)), (2, .int (nI q)), (3, .int p2)] := hl
  refine lv_aload_n hx hb dX3_byteAt_0 rfl (lv_at hl 0 rfl) ?_
  refine lv_iload_n hx hb dX3_byteAt_1 rfl (lv_at hl 1 rfl) ?_
  refine bq_call (W.runV (As := [.int (nI j)]) (rest := []) ⟨hx, hb, hml, hown, hts⟩ (c_nodeAt_t l G k ws x nd wy f g hF j hj a ha) (cwV 1 hts gX3_byteAt_X3_nodeAt rfl rfl rfl (by decide +kernel) ⟨(Nat.le_of_ble_eq_true rfl), (Nat.le_of_ble_eq_true rfl)⟩) (PQ.preV hK hP (ci := 3) rfl h0) rfl rfl hl.1 rfl (lv_room (Nat.le_of_ble_eq_true rfl)) dX3_byteAt_2 ⟨(Nat.le_of_ble_eq_true rfl), (Nat.le_of_ble_eq_true rfl)⟩) ?_
  refine lv_astore (lv' := [(4, .ref a), (0, .ref x), (1, .int (nI j)), (2, .int (nI q)), (3, .int p2)]) hx hb dX3_byteAt_5 hl (by decide) rfl (fun ls hl => ?_)
  refine lv_iload_n hx hb dX3_byteAt_7 rfl (lv_at hl 3 rfl) ?_
  refine lv_if_lt (tgt := 18) hx hb dX3_byteAt_8 (by decide) (fun c9 => absurd c9 (nI_pos (by omega))) (fun _ => ?_)
  refine lv_iload_n hx hb dX3_byteAt_11 rfl (lv_at hl 3 rfl) ?_
  refine lv_sipush (v := 4096) hx hb dX3_byteAt_12 (by decide) ?_
  refine lv_icmp_lt (tgt := 28) hx hb dX3_byteAt_15 (by decide) (fun _ => ?_) (fun c9 => absurd (nI_lt (a := q) (b := 4096) hq (by decide)) c9)
  refine lv_iload_n hx hb dX3_byteAt_28 rfl (lv_at hl 4 rfl) ?_
  refine lv_if_ne (tgt := 47) hx hb dX3_byteAt_29 (by decide) (fun _ => ?_) (fun c9 => absurd c9 h1)
  refine lv_iload_n hx hb dX3_byteAt_47 rfl (lv_at hl 4 rfl) ?_
  refine lv_iconst (v := 1) hx hb dX3_byteAt_48 (by decide) ?_
  refine lv_icmp_ne (tgt := 67) hx hb dX3_byteAt_49 (by decide) (fun _ => ?_) (fun c9 => absurd c9 h2)
  exact bt_throw hx hb hl9 hts hown hI hS (cls := Ioob) (text := "neither memory nor disk") (ik := 134) (is := 210) (ic := 138) (by decide +kernel) (by decide) (by decide +kernel) (by decide +kernel) (by decide +kernel) (fun _ h => List.mem_cons_of_mem _ (List.mem_append_right _ h)) (og_Ioob).1 (og_Ioob).2 (hl.1.trans hml.symm) dX3_byteAt_67 dX3_byteAt_70 dX3_byteAt_71 dX3_byteAt_73 dX3_byteAt_76 ht (Nat.le_of_ble_eq_true rfl) (Nat.le_of_ble_eq_true rfl) (Nat.le_of_ble_eq_true rfl) (Nat.le_of_ble_eq_true rfl) hlocks (Nat.le_of_ble_eq_true rfl) (Nat.le_of_ble_eq_true rfl)
set_option maxHeartbeats 4000000 in
set_option maxRecDepth 100000 in
/-- a byte in memory -/
theorem c_byteAt_mem (l : Launch) (G : va_G) (k : Nat → ClassId) (ws : va_W) (x nd wy : Nat) (f g : Nat → Option Nat) (hF : FX k ws x nd wy f g) (j : Nat) (hj : j < 4) (q : Nat) (hq : q < 4096) : Met l yX3_byteAt wsX3_byteAt (rzk 2 0 0) (PQ G k ws [.ref x, .int (nI j), .int (nI q), .int 0]) (QcRead 0) 0 0 (fun _ => False) := by
  refine Met.ofW (cc := cX3_byteAt) (maxL := 5) (ret := (some .int)) (by decide) rfl ?_
  intro p e s m args below meth c s₁ B hml hv
  obtain ⟨rfl, hP, hK⟩ := hv
  obtain ⟨kx, h0⟩ := List.getElem?_of_mem hF.1
  obtain ⟨a, lo, me, di, ha, ma, ml, mm, md, hmd⟩ := hF.2.2.2.1 j hj
  obtain ⟨kv, hv⟩ := List.getElem?_of_mem ma
  obtain ⟨kl, hvl⟩ := List.getElem?_of_mem ml
  obtain ⟨kb, hvb⟩ := List.getElem?_of_mem mm
  have hx := B.exec
  have hb := B.bytes
  have hr := B.returns
  have hts := atoms_spec (ws := wsX3_byteAt) B.pre
  have hown : s.vm.findClass RX3 = some m.cls := findClass_of_methodNamed B.named
  have hlocks := B.notSynchronized
  have hl := lv_entry ([.ref x, .int (nI j), .int (nI q), .int 0]) (n := 5) (Nat.le_of_ble_eq_true rfl)
  rw [lg_entry_eq]
  generalize (lg_sl ([.ref x, .int (nI j), .int (nI q), .int 0]) ++ List.replicate (5 - (lg_sl ([.ref x, .int (nI j), .int (nI q), .int 0])).length) Slot.unset).toArray = ls at hl ⊢
  have hl : lv_has ls 5 [(0, .ref x), (1, .int (nI j)), (2, .int (nI q)), (3, .int 0)] := hl
  refine lv_aload_n hx hb dX3_byteAt_0 rfl (lv_at hl 0 rfl) ?_
  refine lv_iload_n hx hb dX3_byteAt_1 rfl (lv_at hl 1 rfl) ?_
  refine bq_call (W.runV (As := [.int (nI j)]) (rest := []) ⟨hx, hb, hml, hown, hts⟩ (c_nodeAt_t l G k ws x nd wy f g hF j hj a ha) (cwV 1 hts gX3_byteAt_X3_nodeAt rfl rfl rfl (by decide +kernel) ⟨(Nat.le_of_ble_eq_true rfl), (Nat.le_of_ble_eq_true rfl)⟩) (PQ.preV hK hP (ci := 3) rfl h0) rfl rfl hl.1 rfl (lv_room (Nat.le_of_ble_eq_true rfl)) dX3_byteAt_2 ⟨(Nat.le_of_ble_eq_true rfl), (Nat.le_of_ble_eq_true rfl)⟩) ?_
  refine lv_astore (lv' := [(4, .ref a), (0, .ref x), (1, .int (nI j)), (2, .int (nI q)), (3, .int 0)]) hx hb dX3_byteAt_5 hl (by decide) rfl (fun ls hl => ?_)
  refine lv_iload_n hx hb dX3_byteAt_7 rfl (lv_at hl 3 rfl) ?_
  refine lv_if_lt (tgt := 18) hx hb dX3_byteAt_8 (by decide) (fun c9 => absurd c9 (nI_pos (by omega))) (fun _ => ?_)
  refine lv_iload_n hx hb dX3_byteAt_11 rfl (lv_at hl 3 rfl) ?_
  refine lv_sipush (v := 4096) hx hb dX3_byteAt_12 (by decide) ?_
  refine lv_icmp_lt (tgt := 28) hx hb dX3_byteAt_15 (by decide) (fun _ => ?_) (fun c9 => absurd (nI_lt (a := q) (b := 4096) hq (by decide)) c9)
  refine lv_iload_n hx hb dX3_byteAt_28 rfl (lv_at hl 4 rfl) ?_
  refine lv_if_ne (tgt := 47) hx hb dX3_byteAt_29 (by decide) (fun c9 => absurd rfl c9) (fun _ => ?_)
  refine lv_aload hx hb dX3_byteAt_32 (lv_at hl 0 rfl) ?_
  refine va_get (D := G) (ci := 1) (v := .ref lo) (C := RX1) (T := TX1) (N := 8) hx hb hts (fun _ h => List.mem_cons_of_mem _ (List.mem_append_left _ (List.mem_append_left _ (List.mem_append_left _ (List.mem_append_right _ h))))) hown hK hP kv hv rfl 0 (by decide) (hts (.fieldLink RX3 45 "ShippedLog$Node" "log" "LShippedLog$Log;") (by decide +kernel)) (fun _ h9 => h9) rfl dX3_byteAt_34 ?_
  refine va_get (D := G) (ci := 0) (v := .ref me) (C := RX0) (T := TX0) (N := 4) hx hb hts (fun _ h => List.mem_cons_of_mem _ (List.mem_append_left _ (List.mem_append_left _ (List.mem_append_right _ h)))) hown hK hP kl hvl rfl 0 (by decide) (hts (.fieldLink RX3 203 "ShippedLog$Log" "memory" "[B") (by decide +kernel)) (fun _ h9 => h9) rfl dX3_byteAt_37 ?_
  refine lv_iload_n hx hb dX3_byteAt_40 rfl (lv_at hl 3 rfl) ?_
  refine va_bald hx hb hK hP kb 2 hvb rfl (vp_in_nI hq (by decide)) dX3_byteAt_41 ?_
  refine lv_sipush (v := 255) hx hb dX3_byteAt_42 (by decide) ?_
  refine lv_iand hx hb dX3_byteAt_45 ?_
  exact W.iret (v := (0 : Int32) &&& 255) hx hb hr (fun t ht hW => ⟨by rw [show (0 : Int32) &&& 255 = 0 from by decide], ht⟩) (fun q h => by cases h) dX3_byteAt_46
set_option maxHeartbeats 4000000 in
set_option maxRecDepth 100000 in
/-- a byte on the disk -/
theorem c_byteAt_disk (l : Launch) (G : va_G) (k : Nat → ClassId) (ws : va_W) (x nd wy : Nat) (f g : Nat → Option Nat) (hF : FX k ws x nd wy f g) (j : Nat) (hj : j < 4) (q : Nat) (hq : q < 4096) : Met l yX3_byteAt wsX3_byteAt (rzk 2 0 0) (PQ G k ws [.ref x, .int (nI j), .int (nI q), .int 1]) (QcRead 0) 0 0 (fun _ => False) := by
  refine Met.ofW (cc := cX3_byteAt) (maxL := 5) (ret := (some .int)) (by decide) rfl ?_
  intro p e s m args below meth c s₁ B hml hv
  obtain ⟨rfl, hP, hK⟩ := hv
  obtain ⟨kx, h0⟩ := List.getElem?_of_mem hF.1
  obtain ⟨a, lo, me, di, ha, ma, ml, mm, md, hmd⟩ := hF.2.2.2.1 j hj
  obtain ⟨kv, hv⟩ := List.getElem?_of_mem ma
  obtain ⟨kl, hvl⟩ := List.getElem?_of_mem ml
  obtain ⟨kb, hvb⟩ := List.getElem?_of_mem md
  have hx := B.exec
  have hb := B.bytes
  have hr := B.returns
  have hts := atoms_spec (ws := wsX3_byteAt) B.pre
  have hown : s.vm.findClass RX3 = some m.cls := findClass_of_methodNamed B.named
  have hlocks := B.notSynchronized
  have hl := lv_entry ([.ref x, .int (nI j), .int (nI q), .int 1]) (n := 5) (Nat.le_of_ble_eq_true rfl)
  rw [lg_entry_eq]
  generalize (lg_sl ([.ref x, .int (nI j), .int (nI q), .int 1]) ++ List.replicate (5 - (lg_sl ([.ref x, .int (nI j), .int (nI q), .int 1])).length) Slot.unset).toArray = ls at hl ⊢
  have hl : lv_has ls 5 [(0, .ref x), (1, .int (nI j)), (2, .int (nI q)), (3, .int 1)] := hl
  refine lv_aload_n hx hb dX3_byteAt_0 rfl (lv_at hl 0 rfl) ?_
  refine lv_iload_n hx hb dX3_byteAt_1 rfl (lv_at hl 1 rfl) ?_
  refine bq_call (W.runV (As := [.int (nI j)]) (rest := []) ⟨hx, hb, hml, hown, hts⟩ (c_nodeAt_t l G k ws x nd wy f g hF j hj a ha) (cwV 1 hts gX3_byteAt_X3_nodeAt rfl rfl rfl (by decide +kernel) ⟨(Nat.le_of_ble_eq_true rfl), (Nat.le_of_ble_eq_true rfl)⟩) (PQ.preV hK hP (ci := 3) rfl h0) rfl rfl hl.1 rfl (lv_room (Nat.le_of_ble_eq_true rfl)) dX3_byteAt_2 ⟨(Nat.le_of_ble_eq_true rfl), (Nat.le_of_ble_eq_true rfl)⟩) ?_
  refine lv_astore (lv' := [(4, .ref a), (0, .ref x), (1, .int (nI j)), (2, .int (nI q)), (3, .int 1)]) hx hb dX3_byteAt_5 hl (by decide) rfl (fun ls hl => ?_)
  refine lv_iload_n hx hb dX3_byteAt_7 rfl (lv_at hl 3 rfl) ?_
  refine lv_if_lt (tgt := 18) hx hb dX3_byteAt_8 (by decide) (fun c9 => absurd c9 (nI_pos (by omega))) (fun _ => ?_)
  refine lv_iload_n hx hb dX3_byteAt_11 rfl (lv_at hl 3 rfl) ?_
  refine lv_sipush (v := 4096) hx hb dX3_byteAt_12 (by decide) ?_
  refine lv_icmp_lt (tgt := 28) hx hb dX3_byteAt_15 (by decide) (fun _ => ?_) (fun c9 => absurd (nI_lt (a := q) (b := 4096) hq (by decide)) c9)
  refine lv_iload_n hx hb dX3_byteAt_28 rfl (lv_at hl 4 rfl) ?_
  refine lv_if_ne (tgt := 47) hx hb dX3_byteAt_29 (by decide) (fun _ => ?_) (fun c9 => absurd c9 (by decide : ¬ (1 : Int32) = 0))
  refine lv_iload_n hx hb dX3_byteAt_47 rfl (lv_at hl 4 rfl) ?_
  refine lv_iconst (v := 1) hx hb dX3_byteAt_48 (by decide) ?_
  refine lv_icmp_ne (tgt := 67) hx hb dX3_byteAt_49 (by decide) (fun c9 => absurd rfl c9) (fun _ => ?_)
  refine lv_aload hx hb dX3_byteAt_52 (lv_at hl 0 rfl) ?_
  refine va_get (D := G) (ci := 1) (v := .ref lo) (C := RX1) (T := TX1) (N := 8) hx hb hts (fun _ h => List.mem_cons_of_mem _ (List.mem_append_left _ (List.mem_append_left _ (List.mem_append_left _ (List.mem_append_right _ h))))) hown hK hP kv hv rfl 0 (by decide) (hts (.fieldLink RX3 45 "ShippedLog$Node" "log" "LShippedLog$Log;") (by decide +kernel)) (fun _ h9 => h9) rfl dX3_byteAt_54 ?_
  refine va_get (D := G) (ci := 0) (v := .ref di) (C := RX0) (T := TX0) (N := 4) hx hb hts (fun _ h => List.mem_cons_of_mem _ (List.mem_append_left _ (List.mem_append_left _ (List.mem_append_right _ h)))) hown hK hP kl hvl rfl 1 (by decide) (hts (.fieldLink RX3 207 "ShippedLog$Log" "disk" "[B") (by decide +kernel)) (fun _ h9 => h9) rfl dX3_byteAt_57 ?_
  refine lv_iload_n hx hb dX3_byteAt_60 rfl (lv_at hl 3 rfl) ?_
  refine va_bald hx hb hK hP kb 2 hvb rfl (vp_in_nI hq (by decide)) dX3_byteAt_61 ?_
  refine lv_sipush (v := 255) hx hb dX3_byteAt_62 (by decide) ?_
  refine lv_iand hx hb dX3_byteAt_65 ?_
  exact W.iret (v := (0 : Int32) &&& 255) hx hb hr (fun t ht hW => ⟨by rw [show (0 : Int32) &&& 255 = 0 from by decide], ht⟩) (fun q h => by cases h) dX3_byteAt_66
set_option maxHeartbeats 4000000 in
set_option maxRecDepth 100000 in
/-- another what -/
theorem c_node_neg (l : Launch) (hl9 : l.stackTraces = false) (G : va_G) (k : Nat → ClassId) (ws : va_W) (sz : Nat) (x nd wy : Nat) (f g : Nat → Option Nat) (hF : FX k ws x nd wy f g) (j : Nat) (hj : j < 4) (p1 : Int32) (h : p1 < 0) : vx_Met l yX3_node wsX3_node (rzk 2 1 6) (PR G k sz ws [.ref x, .int (nI j), .int p1]) (QN) (XE Ioob sz) 1 6 (fun q => sz ≤ q) := by
  refine vx_ofW (cc := cX3_node) (maxL := 4) (ret := (some .int)) (by decide) rfl ?_
  intro p e s m args below meth c s₁ B hml ht hv
  obtain ⟨rfl, hsz, hP, hI⟩ := hv
  subst hsz
  have hK := hI.1
  have hA : ∀ q : Nat, s.heap.size ≤ q → (fun q => s.heap.size ≤ q) q := fun _ h => h
  have hS : va_S (fun q => s.heap.size ≤ q) s.heap s.heap [] := va_S.rf
  obtain ⟨kx, h0⟩ := List.getElem?_of_mem hF.1
  obtain ⟨a, lo, me, di, ha, ma, ml, mm, md, hmd⟩ := hF.2.2.2.1 j hj
  obtain ⟨kv, hv⟩ := List.getElem?_of_mem ma
  have hx := B.exec
  have hb := B.bytes
  have hr := B.returns
  have hts := atoms_spec (ws := wsX3_node) B.pre
  have hown : s.vm.findClass RX3 = some m.cls := findClass_of_methodNamed B.named
  have hlocks := B.notSynchronized
  have hl := lv_entry ([.ref x, .int (nI j), .int p1]) (n := 4) (Nat.le_of_ble_eq_true rfl)
  rw [lg_entry_eq]
  generalize (lg_sl ([.ref x, .int (nI j), .int p1]) ++ List.replicate (4 - (lg_sl ([.ref x, .int (nI j), .int p1])).length) Slot.unset).toArray = ls at hl ⊢
  have hl : lv_has ls 4 [(0, .ref x), (1, .int (nI j)), (2, .int p1)] := hl
  refine lv_aload_n hx hb dX3_node_0 rfl (lv_at hl 0 rfl) ?_
  refine lv_iload_n hx hb dX3_node_1 rfl (lv_at hl 1 rfl) ?_
  refine bq_call (W.runV (As := [.int (nI j)]) (rest := []) ⟨hx, hb, hml, hown, hts⟩ (c_nodeAt_t l G k ws x nd wy f g hF j hj a ha) (cwV 1 hts gX3_node_X3_nodeAt rfl rfl rfl (by decide +kernel) ⟨(Nat.le_of_ble_eq_true rfl), (Nat.le_of_ble_eq_true rfl)⟩) (PQ.preV hK hP (ci := 3) rfl h0) rfl rfl hl.1 rfl (lv_room (Nat.le_of_ble_eq_true rfl)) dX3_node_2 ⟨(Nat.le_of_ble_eq_true rfl), (Nat.le_of_ble_eq_true rfl)⟩) ?_
  refine lv_astore_n (lv' := [(3, .ref a), (0, .ref x), (1, .int (nI j)), (2, .int p1)]) hx hb dX3_node_5 rfl hl (by decide) rfl (fun ls hl => ?_)
  refine lv_iload_n hx hb dX3_node_6 rfl (lv_at hl 3 rfl) ?_
  refine lv_if_lt (tgt := 16) hx hb dX3_node_7 (by decide) (fun _ => ?_) (fun c9 => absurd h c9)
  exact bt_throw hx hb hl9 hts hown hI hS (cls := Ioob) (text := "nothing that is told of a node") (ik := 134) (is := 212) (ic := 138) (by decide +kernel) (by decide) (by decide +kernel) (by decide +kernel) (by decide +kernel) (fun _ h => List.mem_cons_of_mem _ (List.mem_append_right _ h)) (og_Ioob).1 (og_Ioob).2 (hl.1.trans hml.symm) dX3_node_16 dX3_node_19 dX3_node_20 dX3_node_22 dX3_node_25 ht (Nat.le_of_ble_eq_true rfl) (Nat.le_of_ble_eq_true rfl) (Nat.le_of_ble_eq_true rfl) (Nat.le_of_ble_eq_true rfl) hlocks (Nat.le_of_ble_eq_true rfl) (Nat.le_of_ble_eq_true rfl)
set_option maxHeartbeats 4000000 in
set_option maxRecDepth 100000 in
/-- another what -/
theorem c_node_big (l : Launch) (hl9 : l.stackTraces = false) (G : va_G) (k : Nat → ClassId) (ws : va_W) (sz : Nat) (x nd wy : Nat) (f g : Nat → Option Nat) (hF : FX k ws x nd wy f g) (j : Nat) (hj : j < 4) (p1 : Int32) (h : 8 < p1) : vx_Met l yX3_node wsX3_node (rzk 2 1 6) (PR G k sz ws [.ref x, .int (nI j), .int p1]) (QN) (XE Ioob sz) 1 6 (fun q => sz ≤ q) := by
  refine vx_ofW (cc := cX3_node) (maxL := 4) (ret := (some .int)) (by decide) rfl ?_
  intro p e s m args below meth c s₁ B hml ht hv
  obtain ⟨rfl, hsz, hP, hI⟩ := hv
  subst hsz
  have hK := hI.1
  have hA : ∀ q : Nat, s.heap.size ≤ q → (fun q => s.heap.size ≤ q) q := fun _ h => h
  have hS : va_S (fun q => s.heap.size ≤ q) s.heap s.heap [] := va_S.rf
  obtain ⟨kx, h0⟩ := List.getElem?_of_mem hF.1
  obtain ⟨a, lo, me, di, ha, ma, ml, mm, md, hmd⟩ := hF.2.2.2.1 j hj
  obtain ⟨kv, hv⟩ := List.getElem?_of_mem ma
  have hx := B.exec
  have hb := B.bytes
  have hr := B.returns
  have hts := atoms_spec (ws := wsX3_node) B.pre
  have hown : s.vm.findClass RX3 = some m.cls := findClass_of_methodNamed B.named
  have hlocks := B.notSynchronized
  have hl := lv_entry ([.ref x, .int (nI j), .int p1]) (n := 4) (Nat.le_of_ble_eq_true rfl)
  rw [lg_entry_eq]
  generalize (lg_sl ([.ref x, .int (nI j), .int p1]) ++ List.replicate (4 - (lg_sl ([.ref x, .int (nI j), .int p1])).length) Slot.unset).toArray = ls at hl ⊢
  have hl : lv_has ls 4 [(0, .ref x), (1, .int (nI j)), (2, .int p1)] := hl
  refine lv_aload_n hx hb dX3_node_0 rfl (lv_at hl 0 rfl) ?_
  refine lv_iload_n hx hb dX3_node_1 rfl (lv_at hl 1 rfl) ?_
  refine bq_call (W.runV (As := [.int (nI j)]) (rest := []) ⟨hx, hb, hml, hown, hts⟩ (c_nodeAt_t l G k ws x nd wy f g hF j hj a ha) (cwV 1 hts gX3_node_X3_nodeAt rfl rfl rfl (by decide +kernel) ⟨(Nat.le_of_ble_eq_true rfl), (Nat.le_of_ble_eq_true rfl)⟩) (PQ.preV hK hP (ci := 3) rfl h0) rfl rfl hl.1 rfl (lv_room (Nat.le_of_ble_eq_true rfl)) dX3_node_2 ⟨(Nat.le_of_ble_eq_true rfl), (Nat.le_of_ble_eq_true rfl)⟩) ?_
  refine lv_astore_n (lv' := [(3, .ref a), (0, .ref x), (1, .int (nI j)), (2, .int p1)]) hx hb dX3_node_5 rfl hl (by decide) rfl (fun ls hl => ?_)
  refine lv_iload_n hx hb dX3_node_6 rfl (lv_at hl 3 rfl) ?_
  refine lv_if_lt (tgt := 16) hx hb dX3_node_7 (by decide) (fun c9 => absurd c9 (n_ge0 (n := 9) (n_9 h) (by decide))) (fun _ => ?_)
  refine lv_iload_n hx hb dX3_node_10 rfl (lv_at hl 3 rfl) ?_
  refine lv_bipush (v := 8) hx hb dX3_node_11 (by decide) ?_
  refine lv_icmp_le (tgt := 26) hx hb dX3_node_13 (by decide) (fun c9 => absurd c9 (Int32.not_le.mpr h)) (fun _ => ?_)
  exact bt_throw hx hb hl9 hts hown hI hS (cls := Ioob) (text := "nothing that is told of a node") (ik := 134) (is := 212) (ic := 138) (by decide +kernel) (by decide) (by decide +kernel) (by decide +kernel) (by decide +kernel) (fun _ h => List.mem_cons_of_mem _ (List.mem_append_right _ h)) (og_Ioob).1 (og_Ioob).2 (hl.1.trans hml.symm) dX3_node_16 dX3_node_19 dX3_node_20 dX3_node_22 dX3_node_25 ht (Nat.le_of_ble_eq_true rfl) (Nat.le_of_ble_eq_true rfl) (Nat.le_of_ble_eq_true rfl) (Nat.le_of_ble_eq_true rfl) hlocks (Nat.le_of_ble_eq_true rfl) (Nat.le_of_ble_eq_true rfl)
set_option maxHeartbeats 4000000 in
set_option maxRecDepth 100000 in
/-- what it follows -/
theorem c_node_five (l : Launch) (G : va_G) (k : Nat → ClassId) (ws : va_W) (x nd wy : Nat) (f g : Nat → Option Nat) (hF : FX k ws x nd wy f g) (j : Nat) (hj : j < 4) : Met l yX3_node wsX3_node (rzk 2 0 0) (PQ G k ws [.ref x, .int (nI j), .int 5]) (QcRead (-1)) 0 0 (fun _ => False) := by
  refine Met.ofW (cc := cX3_node) (maxL := 4) (ret := (some .int)) (by decide) rfl ?_
  intro p e s m args below meth c s₁ B hml hv
  obtain ⟨rfl, hP, hK⟩ := hv
  obtain ⟨kx, h0⟩ := List.getElem?_of_mem hF.1
  have hn : ¬ (5 : Int32) < 0 := by decide
  have h8 : (5 : Int32) ≤ 8 := by decide
  obtain ⟨a, lo, me, di, ha, ma, ml, mm, md, hmd⟩ := hF.2.2.2.1 j hj
  obtain ⟨kv, hv⟩ := List.getElem?_of_mem ma
  have hx := B.exec
  have hb := B.bytes
  have hr := B.returns
  have hts := atoms_spec (ws := wsX3_node) B.pre
  have hown : s.vm.findClass RX3 = some m.cls := findClass_of_methodNamed B.named
  have hlocks := B.notSynchronized
  have hl := lv_entry ([.ref x, .int (nI j), .int 5]) (n := 4) (Nat.le_of_ble_eq_true rfl)
  rw [lg_entry_eq]
  generalize (lg_sl ([.ref x, .int (nI j), .int 5]) ++ List.replicate (4 - (lg_sl ([.ref x, .int (nI j), .int 5])).length) Slot.unset).toArray = ls at hl ⊢
  have hl : lv_has ls 4 [(0, .ref x), (1, .int (nI j)), (2, .int 5)] := hl
  refine lv_aload_n hx hb dX3_node_0 rfl (lv_at hl 0 rfl) ?_
  refine lv_iload_n hx hb dX3_node_1 rfl (lv_at hl 1 rfl) ?_
  refine bq_call (W.runV (As := [.int (nI j)]) (rest := []) ⟨hx, hb, hml, hown, hts⟩ (c_nodeAt_t l G k ws x nd wy f g hF j hj a ha) (cwV 1 hts gX3_node_X3_nodeAt rfl rfl rfl (by decide +kernel) ⟨(Nat.le_of_ble_eq_true rfl), (Nat.le_of_ble_eq_true rfl)⟩) (PQ.preV hK hP (ci := 3) rfl h0) rfl rfl hl.1 rfl (lv_room (Nat.le_of_ble_eq_true rfl)) dX3_node_2 ⟨(Nat.le_of_ble_eq_true rfl), (Nat.le_of_ble_eq_true rfl)⟩) ?_
  refine lv_astore_n (lv' := [(3, .ref a), (0, .ref x), (1, .int (nI j)), (2, .int 5)]) hx hb dX3_node_5 rfl hl (by decide) rfl (fun ls hl => ?_)
  refine lv_iload_n hx hb dX3_node_6 rfl (lv_at hl 3 rfl) ?_
  refine lv_if_lt (tgt := 16) hx hb dX3_node_7 (by decide) (fun c9 => absurd c9 hn) (fun _ => ?_)
  refine lv_iload_n hx hb dX3_node_10 rfl (lv_at hl 3 rfl) ?_
  refine lv_bipush (v := 8) hx hb dX3_node_11 (by decide) ?_
  refine lv_icmp_le (tgt := 26) hx hb dX3_node_13 (by decide) (fun _ => ?_) (fun c9 => absurd h8 c9)
  refine lv_aload_n hx hb dX3_node_26 rfl (lv_at hl 0 rfl) ?_
  refine va_get (D := G) (ci := 1) (v := .int 0) (C := RX1) (T := TX1) (N := 8) hx hb hts (fun _ h => List.mem_cons_of_mem _ (List.mem_append_left _ (List.mem_append_left _ (List.mem_append_left _ (List.mem_append_right _ h))))) hown hK hP kv hv rfl 1 (by decide) (hts (.fieldLink RX3 31 "ShippedLog$Node" "role" "I") (by decide +kernel)) (fun _ h9 => h9) rfl dX3_node_27 ?_
  refine lv_if_ne (tgt := 50) hx hb dX3_node_30 (by decide) (fun c9 => absurd rfl c9) (fun _ => ?_)
  refine lv_iload_n hx hb dX3_node_33 rfl (lv_at hl 3 rfl) ?_
  refine lv_iconst (v := 5) hx hb dX3_node_34 (by decide) ?_
  refine lv_icmp_eq (tgt := 44) hx hb dX3_node_35 (by decide) (fun _ => ?_) (fun c9 => absurd rfl c9)
  refine lv_iconst (v := (-1)) hx hb dX3_node_44 (by decide) ?_
  refine lv_goto (tgt := 49) hx hb dX3_node_45 (by decide) ?_
  exact W.iret (v := (-1)) hx hb hr (fun t ht hW => ⟨rfl, ht⟩) (fun q h => by cases h) dX3_node_49
set_option maxHeartbeats 4000000 in
set_option maxRecDepth 100000 in
/-- its standby -/
theorem c_node_seven (l : Launch) (G : va_G) (k : Nat → ClassId) (ws : va_W) (x nd wy : Nat) (f g : Nat → Option Nat) (hF : FX k ws x nd wy f g) (j : Nat) (hj : j < 4) : Met l yX3_node wsX3_node (rzk 2 0 0) (PQ G k ws [.ref x, .int (nI j), .int 7]) (QcRead (-1)) 0 0 (fun _ => False) := by
  refine Met.ofW (cc := cX3_node) (maxL := 4) (ret := (some .int)) (by decide) rfl ?_
  intro p e s m args below meth c s₁ B hml hv
  obtain ⟨rfl, hP, hK⟩ := hv
  obtain ⟨kx, h0⟩ := List.getElem?_of_mem hF.1
  have hn : ¬ (7 : Int32) < 0 := by decide
  have h8 : (7 : Int32) ≤ 8 := by decide
  obtain ⟨a, lo, me, di, ha, ma, ml, mm, md, hmd⟩ := hF.2.2.2.1 j hj
  obtain ⟨kv, hv⟩ := List.getElem?_of_mem ma
  have hx := B.exec
  have hb := B.bytes
  have hr := B.returns
  have hts := atoms_spec (ws := wsX3_node) B.pre
  have hown : s.vm.findClass RX3 = some m.cls := findClass_of_methodNamed B.named
  have hlocks := B.notSynchronized
  have hl := lv_entry ([.ref x, .int (nI j), .int 7]) (n := 4) (Nat.le_of_ble_eq_true rfl)
  rw [lg_entry_eq]
  generalize (lg_sl ([.ref x, .int (nI j), .int 7]) ++ List.replicate (4 - (lg_sl ([.ref x, .int (nI j), .int 7])).length) Slot.unset).toArray = ls at hl ⊢
  have hl : lv_has ls 4 [(0, .ref x), (1, .int (nI j)), (2, .int 7)] := hl
  refine lv_aload_n hx hb dX3_node_0 rfl (lv_at hl 0 rfl) ?_
  refine lv_iload_n hx hb dX3_node_1 rfl (lv_at hl 1 rfl) ?_
  refine bq_call (W.runV (As := [.int (nI j)]) (rest := []) ⟨hx, hb, hml, hown, hts⟩ (c_nodeAt_t l G k ws x nd wy f g hF j hj a ha) (cwV 1 hts gX3_node_X3_nodeAt rfl rfl rfl (by decide +kernel) ⟨(Nat.le_of_ble_eq_true rfl), (Nat.le_of_ble_eq_true rfl)⟩) (PQ.preV hK hP (ci := 3) rfl h0) rfl rfl hl.1 rfl (lv_room (Nat.le_of_ble_eq_true rfl)) dX3_node_2 ⟨(Nat.le_of_ble_eq_true rfl), (Nat.le_of_ble_eq_true rfl)⟩) ?_
  refine lv_astore_n (lv' := [(3, .ref a), (0, .ref x), (1, .int (nI j)), (2, .int 7)]) hx hb dX3_node_5 rfl hl (by decide) rfl (fun ls hl => ?_)
  refine lv_iload_n hx hb dX3_node_6 rfl (lv_at hl 3 rfl) ?_
  refine lv_if_lt (tgt := 16) hx hb dX3_node_7 (by decide) (fun c9 => absurd c9 hn) (fun _ => ?_)
  refine lv_iload_n hx hb dX3_node_10 rfl (lv_at hl 3 rfl) ?_
  refine lv_bipush (v := 8) hx hb dX3_node_11 (by decide) ?_
  refine lv_icmp_le (tgt := 26) hx hb dX3_node_13 (by decide) (fun _ => ?_) (fun c9 => absurd h8 c9)
  refine lv_aload_n hx hb dX3_node_26 rfl (lv_at hl 0 rfl) ?_
  refine va_get (D := G) (ci := 1) (v := .int 0) (C := RX1) (T := TX1) (N := 8) hx hb hts (fun _ h => List.mem_cons_of_mem _ (List.mem_append_left _ (List.mem_append_left _ (List.mem_append_left _ (List.mem_append_right _ h))))) hown hK hP kv hv rfl 1 (by decide) (hts (.fieldLink RX3 31 "ShippedLog$Node" "role" "I") (by decide +kernel)) (fun _ h9 => h9) rfl dX3_node_27 ?_
  refine lv_if_ne (tgt := 50) hx hb dX3_node_30 (by decide) (fun c9 => absurd rfl c9) (fun _ => ?_)
  refine lv_iload_n hx hb dX3_node_33 rfl (lv_at hl 3 rfl) ?_
  refine lv_iconst (v := 5) hx hb dX3_node_34 (by decide) ?_
  refine lv_icmp_eq (tgt := 44) hx hb dX3_node_35 (by decide) (fun c9 => absurd c9 (by decide : ¬ (7 : Int32) = 5)) (fun _ => ?_)
  refine lv_iload_n hx hb dX3_node_38 rfl (lv_at hl 3 rfl) ?_
  refine lv_bipush (v := 7) hx hb dX3_node_39 (by decide) ?_
  refine lv_icmp_ne (tgt := 48) hx hb dX3_node_41 (by decide) (fun c9 => absurd rfl c9) (fun _ => ?_)
  refine lv_iconst (v := (-1)) hx hb dX3_node_44 (by decide) ?_
  refine lv_goto (tgt := 49) hx hb dX3_node_45 (by decide) ?_
  exact W.iret (v := (-1)) hx hb hr (fun t ht hW => ⟨rfl, ht⟩) (fun q h => by cases h) dX3_node_49
set_option maxHeartbeats 4000000 in
set_option maxRecDepth 100000 in
/-- all others -/
theorem c_node_zero (l : Launch) (G : va_G) (k : Nat → ClassId) (ws : va_W) (x nd wy : Nat) (f g : Nat → Option Nat) (hF : FX k ws x nd wy f g) (j : Nat) (hj : j < 4) (p1 : Int32) (hn : ¬ p1 < 0) (h8 : p1 ≤ 8) (h5 : ¬ p1 = 5) (h7 : ¬ p1 = 7) : Met l yX3_node wsX3_node (rzk 2 0 0) (PQ G k ws [.ref x, .int (nI j), .int p1]) (QcRead 0) 0 0 (fun _ => False) := by
  refine Met.ofW (cc := cX3_node) (maxL := 4) (ret := (some .int)) (by decide) rfl ?_
  intro p e s m args below meth c s₁ B hml hv
  obtain ⟨rfl, hP, hK⟩ := hv
  obtain ⟨kx, h0⟩ := List.getElem?_of_mem hF.1
  obtain ⟨a, lo, me, di, ha, ma, ml, mm, md, hmd⟩ := hF.2.2.2.1 j hj
  obtain ⟨kv, hv⟩ := List.getElem?_of_mem ma
  have hx := B.exec
  have hb := B.bytes
  have hr := B.returns
  have hts := atoms_spec (ws := wsX3_node) B.pre
  have hown : s.vm.findClass RX3 = some m.cls := findClass_of_methodNamed B.named
  have hlocks := B.notSynchronized
  have hl := lv_entry ([.ref x, .int (nI j), .int p1]) (n := 4) (Nat.le_of_ble_eq_true rfl)
  rw [lg_entry_eq]
  generalize (lg_sl ([.ref x, .int (nI j), .int p1]) ++ List.replicate (4 - (lg_sl ([.ref x, .int (nI j), .int p1])).length) Slot.unset).toArray = ls at hl ⊢
  have hl : lv_has ls 4 [(0, .ref x), (1, .int (nI j)), (2, .int p1)] := hl
  refine lv_aload_n hx hb dX3_node_0 rfl (lv_at hl 0 rfl) ?_
  refine lv_iload_n hx hb dX3_node_1 rfl (lv_at hl 1 rfl) ?_
  refine bq_call (W.runV (As := [.int (nI j)]) (rest := []) ⟨hx, hb, hml, hown, hts⟩ (c_nodeAt_t l G k ws x nd wy f g hF j hj a ha) (cwV 1 hts gX3_node_X3_nodeAt rfl rfl rfl (by decide +kernel) ⟨(Nat.le_of_ble_eq_true rfl), (Nat.le_of_ble_eq_true rfl)⟩) (PQ.preV hK hP (ci := 3) rfl h0) rfl rfl hl.1 rfl (lv_room (Nat.le_of_ble_eq_true rfl)) dX3_node_2 ⟨(Nat.le_of_ble_eq_true rfl), (Nat.le_of_ble_eq_true rfl)⟩) ?_
  refine lv_astore_n (lv' := [(3, .ref a), (0, .ref x), (1, .int (nI j)), (2, .int p1)]) hx hb dX3_node_5 rfl hl (by decide) rfl (fun ls hl => ?_)
  refine lv_iload_n hx hb dX3_node_6 rfl (lv_at hl 3 rfl) ?_
  refine lv_if_lt (tgt := 16) hx hb dX3_node_7 (by decide) (fun c9 => absurd c9 hn) (fun _ => ?_)
  refine lv_iload_n hx hb dX3_node_10 rfl (lv_at hl 3 rfl) ?_
  refine lv_bipush (v := 8) hx hb dX3_node_11 (by decide) ?_
  refine lv_icmp_le (tgt := 26) hx hb dX3_node_13 (by decide) (fun _ => ?_) (fun c9 => absurd h8 c9)
  refine lv_aload_n hx hb dX3_node_26 rfl (lv_at hl 0 rfl) ?_
  refine va_get (D := G) (ci := 1) (v := .int 0) (C := RX1) (T := TX1) (N := 8) hx hb hts (fun _ h => List.mem_cons_of_mem _ (List.mem_append_left _ (List.mem_append_left _ (List.mem_append_left _ (List.mem_append_right _ h))))) hown hK hP kv hv rfl 1 (by decide) (hts (.fieldLink RX3 31 "ShippedLog$Node" "role" "I") (by decide +kernel)) (fun _ h9 => h9) rfl dX3_node_27 ?_
  refine lv_if_ne (tgt := 50) hx hb dX3_node_30 (by decide) (fun c9 => absurd rfl c9) (fun _ => ?_)
  refine lv_iload_n hx hb dX3_node_33 rfl (lv_at hl 3 rfl) ?_
  refine lv_iconst (v := 5) hx hb dX3_node_34 (by decide) ?_
  refine lv_icmp_eq (tgt := 44) hx hb dX3_node_35 (by decide) (fun c9 => absurd c9 h5) (fun _ => ?_)
  refine lv_iload_n hx hb dX3_node_38 rfl (lv_at hl 3 rfl) ?_
  refine lv_bipush (v := 7) hx hb dX3_node_39 (by decide) ?_
  refine lv_icmp_ne (tgt := 48) hx hb dX3_node_41 (by decide) (fun _ => ?_) (fun c9 => absurd c9 h7)
  refine lv_iconst (v := 0) hx hb dX3_node_48 (by decide) ?_
  exact W.iret (v := 0) hx hb hr (fun t ht hW => ⟨rfl, ht⟩) (fun q h => by cases h) dX3_node_49
set_option maxHeartbeats 4000000 in
set_option maxRecDepth 100000 in
/-- no such node -/
theorem c_link_bad2 (l : Launch) (hl9 : l.stackTraces = false) (G : va_G) (k : Nat → ClassId) (ws : va_W) (sz : Nat) (x nd wy : Nat) (f g : Nat → Option Nat) (hF : FX k ws x nd wy f g) (i : Nat) (hi : i < 4) (p1 p2 : Int32) (h : bdN p1) : vx_Met l yX3_link wsX3_link (rzk 2 1 6) (PR G k sz ws [.ref x, .int (nI i), .int p1, .int p2]) (QN) (XE Ioob sz) 1 6 (fun q => sz ≤ q) := by
  refine vx_ofW (cc := cX3_link) (maxL := 5) (ret := (some .int)) (by decide) rfl ?_
  intro p e s m args below meth c s₁ B hml ht hv
  obtain ⟨rfl, hsz, hP, hI⟩ := hv
  subst hsz
  have hK := hI.1
  have hA : ∀ q : Nat, s.heap.size ≤ q → (fun q => s.heap.size ≤ q) q := fun _ h => h
  have hS : va_S (fun q => s.heap.size ≤ q) s.heap s.heap [] := va_S.rf
  obtain ⟨kx, h0⟩ := List.getElem?_of_mem hF.1
  obtain ⟨a1, lo1, me1, di1, ha1, ma1, ml1, mm1, md1, hmd1⟩ := hF.2.2.2.1 i hi
  obtain ⟨kv1, hv1⟩ := List.getElem?_of_mem ma1
  have hx := B.exec
  have hb := B.bytes
  have hr := B.returns
  have hts := atoms_spec (ws := wsX3_link) B.pre
  have hown : s.vm.findClass RX3 = some m.cls := findClass_of_methodNamed B.named
  have hlocks := B.notSynchronized
  have hl := lv_entry ([.ref x, .int (nI i), .int p1, .int p2]) (n := 5) (Nat.le_of_ble_eq_true rfl)
  rw [lg_entry_eq]
  generalize (lg_sl ([.ref x, .int (nI i), .int p1, .int p2]) ++ List.replicate (5 - (lg_sl ([.ref x, .int (nI i), .int p1, .int p2])).length) Slot.unset).toArray = ls at hl ⊢
  have hl : lv_has ls 5 [(0, .ref x), (1, .int (nI i)), (2, .int p1), (3, .int p2)] := hl
  refine lv_aload_n hx hb dX3_link_0 rfl (lv_at hl 0 rfl) ?_
  refine lv_iload_n hx hb dX3_link_1 rfl (lv_at hl 1 rfl) ?_
  refine bq_call (W.runV (As := [.int (nI i)]) (rest := []) ⟨hx, hb, hml, hown, hts⟩ (c_nodeAt_t l G k ws x nd wy f g hF i hi a1 ha1) (cwV 1 hts gX3_link_X3_nodeAt rfl rfl rfl (by decide +kernel) ⟨(Nat.le_of_ble_eq_true rfl), (Nat.le_of_ble_eq_true rfl)⟩) (PQ.preV hK hP (ci := 3) rfl h0) rfl rfl hl.1 rfl (lv_room (Nat.le_of_ble_eq_true rfl)) dX3_link_2 ⟨(Nat.le_of_ble_eq_true rfl), (Nat.le_of_ble_eq_true rfl)⟩) ?_
  refine lv_pop hx hb dX3_link_5 rfl ?_
  refine lv_aload_n hx hb dX3_link_6 rfl (lv_at hl 0 rfl) ?_
  refine lv_iload_n hx hb dX3_link_7 rfl (lv_at hl 2 rfl) ?_
  refine bt_call (vx_runV (As := [.int p1]) (rest := []) ⟨hx, hb, hml, hown, hts⟩ (c_nodeAt_f l hl9 G k ws _ x p1 h) (cwV 1 hts gX3_link_X3_nodeAt rfl rfl rfl (by decide +kernel) ⟨(Nat.le_of_ble_eq_true rfl), (Nat.le_of_ble_eq_true rfl)⟩) (PR.preV hI hS hA hP (ci := 3) rfl h0) rfl rfl hl.1 rfl (lv_room (Nat.le_of_ble_eq_true rfl)) dX3_link_8 ⟨(Nat.le_of_ble_eq_true rfl), (Nat.le_of_ble_eq_true rfl)⟩) (fun _ _ _ h => h) hS hA (fun q h => Nat.le_trans hS.1 h) (fun ce q9 H1 locs1 hH hS h1 h2 h3 => ?_)
  exact bt_out ht hlocks h1 h2 h3 hS (Nat.le_of_ble_eq_true rfl) (Nat.le_of_ble_eq_true rfl)
set_option maxHeartbeats 4000000 in
set_option maxRecDepth 100000 in
/-- another what -/
theorem c_link_what (l : Launch) (hl9 : l.stackTraces = false) (G : va_G) (k : Nat → ClassId) (ws : va_W) (sz : Nat) (x nd wy : Nat) (f g : Nat → Option Nat) (hF : FX k ws x nd wy f g) (i : Nat) (hi : i < 4) (j : Nat) (hj : j < 4) (p2 : Int32) (hz : ¬ p2 = 0) (h1 : ¬ p2 = 1) : vx_Met l yX3_link wsX3_link (rzk 2 1 6) (PR G k sz ws [.ref x, .int (nI i), .int (nI j), .int p2]) (QN) (XE Ioob sz) 1 6 (fun q => sz ≤ q) := by
  refine vx_ofW (cc := cX3_link) (maxL := 5) (ret := (some .int)) (by decide) rfl ?_
  intro p e s m args below meth c s₁ B hml ht hv
  obtain ⟨rfl, hsz, hP, hI⟩ := hv
  subst hsz
  have hK := hI.1
  have hA : ∀ q : Nat, s.heap.size ≤ q → (fun q => s.heap.size ≤ q) q := fun _ h => h
  have hS : va_S (fun q => s.heap.size ≤ q) s.heap s.heap [] := va_S.rf
  obtain ⟨kx, h0⟩ := List.getElem?_of_mem hF.1
  obtain ⟨a1, lo1, me1, di1, ha1, ma1, ml1, mm1, md1, hmd1⟩ := hF.2.2.2.1 i hi
  obtain ⟨kv1, hv1⟩ := List.getElem?_of_mem ma1
  obtain ⟨a2, lo2, me2, di2, ha2, ma2, ml2, mm2, md2, hmd2⟩ := hF.2.2.2.1 j hj
  obtain ⟨kv2, hv2⟩ := List.getElem?_of_mem ma2
  have hx := B.exec
  have hb := B.bytes
  have hr := B.returns
  have hts := atoms_spec (ws := wsX3_link) B.pre
  have hown : s.vm.findClass RX3 = some m.cls := findClass_of_methodNamed B.named
  have hlocks := B.notSynchronized
  have hl := lv_entry ([.ref x, .int (nI i), .int (nI j), .int p2]) (n := 5) (Nat.le_of_ble_eq_true rfl)
  rw [lg_entry_eq]
  generalize (lg_sl ([.ref x, .int (nI i), .int (nI j), .int p2]) ++ List.replicate (5 - (lg_sl ([.ref x, .int (nI i), .int (nI j), .int p2])).length) Slot.unset).toArray = ls at hl ⊢
  have hl : lv_has ls 5 [(0, .ref x), (1, .int (nI i)), (2, .int (nI j)), (3, .int p2)] := hl
  refine lv_aload_n hx hb dX3_link_0 rfl (lv_at hl 0 rfl) ?_
  refine lv_iload_n hx hb dX3_link_1 rfl (lv_at hl 1 rfl) ?_
  refine bq_call (W.runV (As := [.int (nI i)]) (rest := []) ⟨hx, hb, hml, hown, hts⟩ (c_nodeAt_t l G k ws x nd wy f g hF i hi a1 ha1) (cwV 1 hts gX3_link_X3_nodeAt rfl rfl rfl (by decide +kernel) ⟨(Nat.le_of_ble_eq_true rfl), (Nat.le_of_ble_eq_true rfl)⟩) (PQ.preV hK hP (ci := 3) rfl h0) rfl rfl hl.1 rfl (lv_room (Nat.le_of_ble_eq_true rfl)) dX3_link_2 ⟨(Nat.le_of_ble_eq_true rfl), (Nat.le_of_ble_eq_true rfl)⟩) ?_
  refine lv_pop hx hb dX3_link_5 rfl ?_
  refine lv_aload_n hx hb dX3_link_6 rfl (lv_at hl 0 rfl) ?_
  refine lv_iload_n hx hb dX3_link_7 rfl (lv_at hl 2 rfl) ?_
  refine bq_call (W.runV (As := [.int (nI j)]) (rest := []) ⟨hx, hb, hml, hown, hts⟩ (c_nodeAt_t l G k ws x nd wy f g hF j hj a2 ha2) (cwV 1 hts gX3_link_X3_nodeAt rfl rfl rfl (by decide +kernel) ⟨(Nat.le_of_ble_eq_true rfl), (Nat.le_of_ble_eq_true rfl)⟩) (PQ.preV hK hP (ci := 3) rfl h0) rfl rfl hl.1 rfl (lv_room (Nat.le_of_ble_eq_true rfl)) dX3_link_8 ⟨(Nat.le_of_ble_eq_true rfl), (Nat.le_of_ble_eq_true rfl)⟩) ?_
  refine lv_astore (lv' := [(4, .ref a2), (0, .ref x), (1, .int (nI i)), (2, .int (nI j)), (3, .int p2)]) hx hb dX3_link_11 hl (by decide) rfl (fun ls hl => ?_)
  refine lv_iload_n hx hb dX3_link_13 rfl (lv_at hl 4 rfl) ?_
  refine lv_iconst (v := 1) hx hb dX3_link_14 (by decide) ?_
  refine lv_icmp_ne (tgt := 28) hx hb dX3_link_15 (by decide) (fun _ => ?_) (fun c9 => absurd c9 h1)
  refine lv_iload_n hx hb dX3_link_28 rfl (lv_at hl 4 rfl) ?_
  refine lv_if_eq (tgt := 42) hx hb dX3_link_29 (by decide) (fun c9 => absurd c9 hz) (fun _ => ?_)
  exact bt_throw hx hb hl9 hts hown hI hS (cls := Ioob) (text := "nothing that is told of a link") (ik := 134) (is := 218) (ic := 138) (by decide +kernel) (by decide) (by decide +kernel) (by decide +kernel) (by decide +kernel) (fun _ h => List.mem_cons_of_mem _ (List.mem_append_left _ (List.mem_append_right _ h))) (og_Ioob).1 (og_Ioob).2 (hl.1.trans hml.symm) dX3_link_32 dX3_link_35 dX3_link_36 dX3_link_38 dX3_link_41 ht (Nat.le_of_ble_eq_true rfl) (Nat.le_of_ble_eq_true rfl) (Nat.le_of_ble_eq_true rfl) (Nat.le_of_ble_eq_true rfl) hlocks (Nat.le_of_ble_eq_true rfl) (Nat.le_of_ble_eq_true rfl)
set_option maxHeartbeats 4000000 in
set_option maxRecDepth 100000 in
/-- not linked -/
theorem c_link_nolink (l : Launch) (hl9 : l.stackTraces = false) (G : va_G) (k : Nat → ClassId) (ws : va_W) (sz : Nat) (x nd wy : Nat) (f g : Nat → Option Nat) (hF : FX k ws x nd wy f g) (i : Nat) (hi : i < 4) (j : Nat) (hj : j < 4) : vx_Met l yX3_link wsX3_link (rzk 2 1 6) (PR G k sz ws [.ref x, .int (nI i), .int (nI j), .int 0]) (QN) (XE Istt sz) 1 6 (fun q => sz ≤ q) := by
  refine vx_ofW (cc := cX3_link) (maxL := 5) (ret := (some .int)) (by decide) rfl ?_
  intro p e s m args below meth c s₁ B hml ht hv
  obtain ⟨rfl, hsz, hP, hI⟩ := hv
  subst hsz
  have hK := hI.1
  have hA : ∀ q : Nat, s.heap.size ≤ q → (fun q => s.heap.size ≤ q) q := fun _ h => h
  have hS : va_S (fun q => s.heap.size ≤ q) s.heap s.heap [] := va_S.rf
  obtain ⟨kx, h0⟩ := List.getElem?_of_mem hF.1
  obtain ⟨a1, lo1, me1, di1, ha1, ma1, ml1, mm1, md1, hmd1⟩ := hF.2.2.2.1 i hi
  obtain ⟨kv1, hv1⟩ := List.getElem?_of_mem ma1
  obtain ⟨a2, lo2, me2, di2, ha2, ma2, ml2, mm2, md2, hmd2⟩ := hF.2.2.2.1 j hj
  obtain ⟨kv2, hv2⟩ := List.getElem?_of_mem ma2
  have hx := B.exec
  have hb := B.bytes
  have hr := B.returns
  have hts := atoms_spec (ws := wsX3_link) B.pre
  have hown : s.vm.findClass RX3 = some m.cls := findClass_of_methodNamed B.named
  have hlocks := B.notSynchronized
  have hl := lv_entry ([.ref x, .int (nI i), .int (nI j), .int 0]) (n := 5) (Nat.le_of_ble_eq_true rfl)
  rw [lg_entry_eq]
  generalize (lg_sl ([.ref x, .int (nI i), .int (nI j), .int 0]) ++ List.replicate (5 - (lg_sl ([.ref x, .int (nI i), .int (nI j), .int 0])).length) Slot.unset).toArray = ls at hl ⊢
  have hl : lv_has ls 5 [(0, .ref x), (1, .int (nI i)), (2, .int (nI j)), (3, .int 0)] := hl
  refine lv_aload_n hx hb dX3_link_0 rfl (lv_at hl 0 rfl) ?_
  refine lv_iload_n hx hb dX3_link_1 rfl (lv_at hl 1 rfl) ?_
  refine bq_call (W.runV (As := [.int (nI i)]) (rest := []) ⟨hx, hb, hml, hown, hts⟩ (c_nodeAt_t l G k ws x nd wy f g hF i hi a1 ha1) (cwV 1 hts gX3_link_X3_nodeAt rfl rfl rfl (by decide +kernel) ⟨(Nat.le_of_ble_eq_true rfl), (Nat.le_of_ble_eq_true rfl)⟩) (PQ.preV hK hP (ci := 3) rfl h0) rfl rfl hl.1 rfl (lv_room (Nat.le_of_ble_eq_true rfl)) dX3_link_2 ⟨(Nat.le_of_ble_eq_true rfl), (Nat.le_of_ble_eq_true rfl)⟩) ?_
  refine lv_pop hx hb dX3_link_5 rfl ?_
  refine lv_aload_n hx hb dX3_link_6 rfl (lv_at hl 0 rfl) ?_
  refine lv_iload_n hx hb dX3_link_7 rfl (lv_at hl 2 rfl) ?_
  refine bq_call (W.runV (As := [.int (nI j)]) (rest := []) ⟨hx, hb, hml, hown, hts⟩ (c_nodeAt_t l G k ws x nd wy f g hF j hj a2 ha2) (cwV 1 hts gX3_link_X3_nodeAt rfl rfl rfl (by decide +kernel) ⟨(Nat.le_of_ble_eq_true rfl), (Nat.le_of_ble_eq_true rfl)⟩) (PQ.preV hK hP (ci := 3) rfl h0) rfl rfl hl.1 rfl (lv_room (Nat.le_of_ble_eq_true rfl)) dX3_link_8 ⟨(Nat.le_of_ble_eq_true rfl), (Nat.le_of_ble_eq_true rfl)⟩) ?_
  refine lv_astore (lv' := [(4, .ref a2), (0, .ref x), (1, .int (nI i)), (2, .int (nI j)), (3, .int 0)]) hx hb dX3_link_11 hl (by decide) rfl (fun ls hl => ?_)
  refine lv_iload_n hx hb dX3_link_13 rfl (lv_at hl 4 rfl) ?_
  refine lv_iconst (v := 1) hx hb dX3_link_14 (by decide) ?_
  refine lv_icmp_ne (tgt := 28) hx hb dX3_link_15 (by decide) (fun _ => ?_) (fun c9 => absurd c9 (by decide : ¬ (0 : Int32) = 1))
  refine lv_iload_n hx hb dX3_link_28 rfl (lv_at hl 4 rfl) ?_
  refine lv_if_eq (tgt := 42) hx hb dX3_link_29 (by decide) (fun _ => ?_) (fun c9 => absurd rfl c9)
  refine lv_aload_n hx hb dX3_link_42 rfl (lv_at hl 1 rfl) ?_
  refine lv_iload_n hx hb dX3_link_43 rfl (lv_at hl 2 rfl) ?_
  refine lv_iload_n hx hb dX3_link_44 rfl (lv_at hl 3 rfl) ?_
  refine bt_call (vx_runV (As := [.int (nI i), .int (nI j)]) (rest := []) ⟨hx, hb, hml, hown, hts⟩ (c_requireLink_n l hl9 G k ws _ nd wy x f g hF j hj a2 lo2 ha2 ma2 (nI i)) (cwV 2 hts gX3_link_X3_requireLink rfl rfl rfl (by decide +kernel) ⟨(Nat.le_of_ble_eq_true rfl), (Nat.le_of_ble_eq_true rfl)⟩) (PR.preV hI hS hA hP (ci := 3) rfl h0) rfl rfl hl.1 rfl (lv_room (Nat.le_of_ble_eq_true rfl)) dX3_link_45 ⟨(Nat.le_of_ble_eq_true rfl), (Nat.le_of_ble_eq_true rfl)⟩) (fun _ _ _ h => h) hS hA (fun q h => Nat.le_trans hS.1 h) (fun ce q9 H1 locs1 hH hS h1 h2 h3 => ?_)
  exact bt_out ht hlocks h1 h2 h3 hS (Nat.le_of_ble_eq_true rfl) (Nat.le_of_ble_eq_true rfl)
set_option maxHeartbeats 4000000 in
set_option maxRecDepth 100000 in
/-- no messages -/
theorem c_link_count (l : Launch) (G : va_G) (k : Nat → ClassId) (ws : va_W) (x nd wy : Nat) (f g : Nat → Option Nat) (hF : FX k ws x nd wy f g) (i : Nat) (hi : i < 4) (j : Nat) (hj : j < 4) : Met l yX3_link wsX3_link (rzk 2 0 0) (PQ G k ws [.ref x, .int (nI i), .int (nI j), .int 1]) (QcRead 0) 0 0 (fun _ => False) := by
  refine Met.ofW (cc := cX3_link) (maxL := 5) (ret := (some .int)) (by decide) rfl ?_
  intro p e s m args below meth c s₁ B hml hv
  obtain ⟨rfl, hP, hK⟩ := hv
  obtain ⟨kx, h0⟩ := List.getElem?_of_mem hF.1
  obtain ⟨a1, lo1, me1, di1, ha1, ma1, ml1, mm1, md1, hmd1⟩ := hF.2.2.2.1 i hi
  obtain ⟨kv1, hv1⟩ := List.getElem?_of_mem ma1
  obtain ⟨a2, lo2, me2, di2, ha2, ma2, ml2, mm2, md2, hmd2⟩ := hF.2.2.2.1 j hj
  obtain ⟨kv2, hv2⟩ := List.getElem?_of_mem ma2
  obtain ⟨aw, po, bb, hga, maw⟩ := hF.2.2.2.2 (i * 4 + j) (by omega)
  obtain ⟨kw, hvw⟩ := List.getElem?_of_mem maw
  have hx := B.exec
  have hb := B.bytes
  have hr := B.returns
  have hts := atoms_spec (ws := wsX3_link) B.pre
  have hown : s.vm.findClass RX3 = some m.cls := findClass_of_methodNamed B.named
  have hlocks := B.notSynchronized
  have hl := lv_entry ([.ref x, .int (nI i), .int (nI j), .int 1]) (n := 5) (Nat.le_of_ble_eq_true rfl)
  rw [lg_entry_eq]
  generalize (lg_sl ([.ref x, .int (nI i), .int (nI j), .int 1]) ++ List.replicate (5 - (lg_sl ([.ref x, .int (nI i), .int (nI j), .int 1])).length) Slot.unset).toArray = ls at hl ⊢
  have hl : lv_has ls 5 [(0, .ref x), (1, .int (nI i)), (2, .int (nI j)), (3, .int 1)] := hl
  refine lv_aload_n hx hb dX3_link_0 rfl (lv_at hl 0 rfl) ?_
  refine lv_iload_n hx hb dX3_link_1 rfl (lv_at hl 1 rfl) ?_
  refine bq_call (W.runV (As := [.int (nI i)]) (rest := []) ⟨hx, hb, hml, hown, hts⟩ (c_nodeAt_t l G k ws x nd wy f g hF i hi a1 ha1) (cwV 1 hts gX3_link_X3_nodeAt rfl rfl rfl (by decide +kernel) ⟨(Nat.le_of_ble_eq_true rfl), (Nat.le_of_ble_eq_true rfl)⟩) (PQ.preV hK hP (ci := 3) rfl h0) rfl rfl hl.1 rfl (lv_room (Nat.le_of_ble_eq_true rfl)) dX3_link_2 ⟨(Nat.le_of_ble_eq_true rfl), (Nat.le_of_ble_eq_true rfl)⟩) ?_
  refine lv_pop hx hb dX3_link_5 rfl ?_
  refine lv_aload_n hx hb dX3_link_6 rfl (lv_at hl 0 rfl) ?_
  refine lv_iload_n hx hb dX3_link_7 rfl (lv_at hl 2 rfl) ?_
  refine bq_call (W.runV (As := [.int (nI j)]) (rest := []) ⟨hx, hb, hml, hown, hts⟩ (c_nodeAt_t l G k ws x nd wy f g hF j hj a2 ha2) (cwV 1 hts gX3_link_X3_nodeAt rfl rfl rfl (by decide +kernel) ⟨(Nat.le_of_ble_eq_true rfl), (Nat.le_of_ble_eq_true rfl)⟩) (PQ.preV hK hP (ci := 3) rfl h0) rfl rfl hl.1 rfl (lv_room (Nat.le_of_ble_eq_true rfl)) dX3_link_8 ⟨(Nat.le_of_ble_eq_true rfl), (Nat.le_of_ble_eq_true rfl)⟩) ?_
  refine lv_astore (lv' := [(4, .ref a2), (0, .ref x), (1, .int (nI i)), (2, .int (nI j)), (3, .int 1)]) hx hb dX3_link_11 hl (by decide) rfl (fun ls hl => ?_)
  refine lv_iload_n hx hb dX3_link_13 rfl (lv_at hl 4 rfl) ?_
  refine lv_iconst (v := 1) hx hb dX3_link_14 (by decide) ?_
  refine lv_icmp_ne (tgt := 28) hx hb dX3_link_15 (by decide) (fun c9 => absurd rfl c9) (fun _ => ?_)
  refine lv_aload_n hx hb dX3_link_18 rfl (lv_at hl 1 rfl) ?_
  refine lv_iload_n hx hb dX3_link_19 rfl (lv_at hl 2 rfl) ?_
  refine lv_iload_n hx hb dX3_link_20 rfl (lv_at hl 3 rfl) ?_
  refine bq_call (W.runV (As := [.int (nI i), .int (nI j)]) (rest := []) ⟨hx, hb, hml, hown, hts⟩ (c_wayFrom_t l G k ws x nd wy f g hF i j hi hj aw hga) (cwV 2 hts gX3_link_X3_wayFrom rfl rfl rfl (by decide +kernel) ⟨(Nat.le_of_ble_eq_true rfl), (Nat.le_of_ble_eq_true rfl)⟩) (PQ.preV hK hP (ci := 3) rfl h0) rfl rfl hl.1 rfl (lv_room (Nat.le_of_ble_eq_true rfl)) dX3_link_21 ⟨(Nat.le_of_ble_eq_true rfl), (Nat.le_of_ble_eq_true rfl)⟩) ?_
  refine va_get (D := G) (ci := 2) (v := .int 0) (C := RX2) (T := TX2) (N := 4) hx hb hts (fun _ h => List.mem_cons_of_mem _ (List.mem_append_left _ (List.mem_append_left _ (List.mem_append_left _ (List.mem_append_left _ (List.mem_append_right _ h)))))) hown hK hP kw hvw rfl 3 (by decide) (hts (.fieldLink RX3 191 "ShippedLog$Way" "count" "I") (by decide +kernel)) (fun _ h9 => h9) rfl dX3_link_24 ?_
  exact W.iret (v := 0) hx hb hr (fun t ht hW => ⟨rfl, ht⟩) (fun q h => by cases h) dX3_link_27
set_option maxHeartbeats 4000000 in
set_option maxRecDepth 100000 in
/-- no such node -/
theorem c_requireMessage_bad (l : Launch) (hl9 : l.stackTraces = false) (G : va_G) (k : Nat → ClassId) (ws : va_W) (sz : Nat) (x nd wy : Nat) (f g : Nat → Option Nat) (hF : FX k ws x nd wy f g) (p0 : Int32) (h : bdN p0) (p1 : Int32) : vx_Met l yX3_requireMessage wsX3_requireMessage (rzk 1 1 6) (PR G k sz ws [.ref x, .int p0, .int p1]) (QN) (XE Ioob sz) 1 6 (fun q => sz ≤ q) := by
  refine vx_ofW (cc := cX3_requireMessage) (maxL := 3) (ret := none) (by decide) rfl ?_
  intro p e s m args below meth c s₁ B hml ht hv
  obtain ⟨rfl, hsz, hP, hI⟩ := hv
  subst hsz
  have hK := hI.1
  have hA : ∀ q : Nat, s.heap.size ≤ q → (fun q => s.heap.size ≤ q) q := fun _ h => h
  have hS : va_S (fun q => s.heap.size ≤ q) s.heap s.heap [] := va_S.rf
  obtain ⟨kx, h0⟩ := List.getElem?_of_mem hF.1
  have hx := B.exec
  have hb := B.bytes
  have hr := B.returns
  have hts := atoms_spec (ws := wsX3_requireMessage) B.pre
  have hown : s.vm.findClass RX3 = some m.cls := findClass_of_methodNamed B.named
  have hlocks := B.notSynchronized
  have hl := lv_entry ([.ref x, .int p0, .int p1]) (n := 3) (Nat.le_of_ble_eq_true rfl)
  rw [lg_entry_eq]
  generalize (lg_sl ([.ref x, .int p0, .int p1]) ++ List.replicate (3 - (lg_sl ([.ref x, .int p0, .int p1])).length) Slot.unset).toArray = ls at hl ⊢
  have hl : lv_has ls 3 [(0, .ref x), (1, .int p0), (2, .int p1)] := hl
  refine lv_aload_n hx hb dX3_requireMessage_0 rfl (lv_at hl 0 rfl) ?_
  refine lv_iload_n hx hb dX3_requireMessage_1 rfl (lv_at hl 1 rfl) ?_
  refine lv_iload_n hx hb dX3_requireMessage_2 rfl (lv_at hl 2 rfl) ?_
  refine bt_call (vx_runV (As := [.int p0, .int p1]) (rest := []) ⟨hx, hb, hml, hown, hts⟩ (c_wayFrom_f1 l hl9 G k ws _ x p0 p1 h) (cwV 2 hts gX3_requireMessage_X3_wayFrom rfl rfl rfl (by decide +kernel) ⟨(Nat.le_of_ble_eq_true rfl), (Nat.le_of_ble_eq_true rfl)⟩) (PR.preV hI hS hA hP (ci := 3) rfl h0) rfl rfl hl.1 rfl (lv_room (Nat.le_of_ble_eq_true rfl)) dX3_requireMessage_3 ⟨(Nat.le_of_ble_eq_true rfl), (Nat.le_of_ble_eq_true rfl)⟩) (fun _ _ _ h => h) hS hA (fun q h => Nat.le_trans hS.1 h) (fun ce q9 H1 locs1 hH hS h1 h2 h3 => ?_)
  exact bt_out ht hlocks h1 h2 h3 hS (Nat.le_of_ble_eq_true rfl) (Nat.le_of_ble_eq_true rfl)
set_option maxHeartbeats 4000000 in
set_option maxRecDepth 100000 in
/-- no such node -/
theorem c_requireMessage_bad2 (l : Launch) (hl9 : l.stackTraces = false) (G : va_G) (k : Nat → ClassId) (ws : va_W) (sz : Nat) (x nd wy : Nat) (f g : Nat → Option Nat) (hF : FX k ws x nd wy f g) (i : Nat) (hi : i < 4) (p1 : Int32) (h : bdN p1) : vx_Met l yX3_requireMessage wsX3_requireMessage (rzk 1 1 6) (PR G k sz ws [.ref x, .int (nI i), .int p1]) (QN) (XE Ioob sz) 1 6 (fun q => sz ≤ q) := by
  refine vx_ofW (cc := cX3_requireMessage) (maxL := 3) (ret := none) (by decide) rfl ?_
  intro p e s m args below meth c s₁ B hml ht hv
  obtain ⟨rfl, hsz, hP, hI⟩ := hv
  subst hsz
  have hK := hI.1
  have hA : ∀ q : Nat, s.heap.size ≤ q → (fun q => s.heap.size ≤ q) q := fun _ h => h
  have hS : va_S (fun q => s.heap.size ≤ q) s.heap s.heap [] := va_S.rf
  obtain ⟨kx, h0⟩ := List.getElem?_of_mem hF.1
  have hx := B.exec
  have hb := B.bytes
  have hr := B.returns
  have hts := atoms_spec (ws := wsX3_requireMessage) B.pre
  have hown : s.vm.findClass RX3 = some m.cls := findClass_of_methodNamed B.named
  have hlocks := B.notSynchronized
  have hl := lv_entry ([.ref x, .int (nI i), .int p1]) (n := 3) (Nat.le_of_ble_eq_true rfl)
  rw [lg_entry_eq]
  generalize (lg_sl ([.ref x, .int (nI i), .int p1]) ++ List.replicate (3 - (lg_sl ([.ref x, .int (nI i), .int p1])).length) Slot.unset).toArray = ls at hl ⊢
  have hl : lv_has ls 3 [(0, .ref x), (1, .int (nI i)), (2, .int p1)] := hl
  refine lv_aload_n hx hb dX3_requireMessage_0 rfl (lv_at hl 0 rfl) ?_
  refine lv_iload_n hx hb dX3_requireMessage_1 rfl (lv_at hl 1 rfl) ?_
  refine lv_iload_n hx hb dX3_requireMessage_2 rfl (lv_at hl 2 rfl) ?_
  refine bt_call (vx_runV (As := [.int (nI i), .int p1]) (rest := []) ⟨hx, hb, hml, hown, hts⟩ (c_wayFrom_f2 l hl9 G k ws _ x i hi p1 h) (cwV 2 hts gX3_requireMessage_X3_wayFrom rfl rfl rfl (by decide +kernel) ⟨(Nat.le_of_ble_eq_true rfl), (Nat.le_of_ble_eq_true rfl)⟩) (PR.preV hI hS hA hP (ci := 3) rfl h0) rfl rfl hl.1 rfl (lv_room (Nat.le_of_ble_eq_true rfl)) dX3_requireMessage_3 ⟨(Nat.le_of_ble_eq_true rfl), (Nat.le_of_ble_eq_true rfl)⟩) (fun _ _ _ h => h) hS hA (fun q h => Nat.le_trans hS.1 h) (fun ce q9 H1 locs1 hH hS h1 h2 h3 => ?_)
  exact bt_out ht hlocks h1 h2 h3 hS (Nat.le_of_ble_eq_true rfl) (Nat.le_of_ble_eq_true rfl)
set_option maxHeartbeats 4000000 in
set_option maxRecDepth 100000 in
/-- no message -/
theorem c_requireMessage_none (l : Launch) (hl9 : l.stackTraces = false) (G : va_G) (k : Nat → ClassId) (ws : va_W) (sz : Nat) (x nd wy : Nat) (f g : Nat → Option Nat) (hF : FX k ws x nd wy f g) (i : Nat) (hi : i < 4) (j : Nat) (hj : j < 4) : vx_Met l yX3_requireMessage wsX3_requireMessage (rzk 1 1 6) (PR G k sz ws [.ref x, .int (nI i), .int (nI j)]) (QN) (XE Nsee sz) 1 6 (fun q => sz ≤ q) := by
  refine vx_ofW (cc := cX3_requireMessage) (maxL := 3) (ret := none) (by decide) rfl ?_
  intro p e s m args below meth c s₁ B hml ht hv
  obtain ⟨rfl, hsz, hP, hI⟩ := hv
  subst hsz
  have hK := hI.1
  have hA : ∀ q : Nat, s.heap.size ≤ q → (fun q => s.heap.size ≤ q) q := fun _ h => h
  have hS : va_S (fun q => s.heap.size ≤ q) s.heap s.heap [] := va_S.rf
  obtain ⟨kx, h0⟩ := List.getElem?_of_mem hF.1
  obtain ⟨aw, po, bb, hga, maw⟩ := hF.2.2.2.2 (i * 4 + j) (by omega)
  obtain ⟨kw, hvw⟩ := List.getElem?_of_mem maw
  have hx := B.exec
  have hb := B.bytes
  have hr := B.returns
  have hts := atoms_spec (ws := wsX3_requireMessage) B.pre
  have hown : s.vm.findClass RX3 = some m.cls := findClass_of_methodNamed B.named
  have hlocks := B.notSynchronized
  have hl := lv_entry ([.ref x, .int (nI i), .int (nI j)]) (n := 3) (Nat.le_of_ble_eq_true rfl)
  rw [lg_entry_eq]
  generalize (lg_sl ([.ref x, .int (nI i), .int (nI j)]) ++ List.replicate (3 - (lg_sl ([.ref x, .int (nI i), .int (nI j)])).length) Slot.unset).toArray = ls at hl ⊢
  have hl : lv_has ls 3 [(0, .ref x), (1, .int (nI i)), (2, .int (nI j))] := hl
  refine lv_aload_n hx hb dX3_requireMessage_0 rfl (lv_at hl 0 rfl) ?_
  refine lv_iload_n hx hb dX3_requireMessage_1 rfl (lv_at hl 1 rfl) ?_
  refine lv_iload_n hx hb dX3_requireMessage_2 rfl (lv_at hl 2 rfl) ?_
  refine bq_call (W.runV (As := [.int (nI i), .int (nI j)]) (rest := []) ⟨hx, hb, hml, hown, hts⟩ (c_wayFrom_t l G k ws x nd wy f g hF i j hi hj aw hga) (cwV 2 hts gX3_requireMessage_X3_wayFrom rfl rfl rfl (by decide +kernel) ⟨(Nat.le_of_ble_eq_true rfl), (Nat.le_of_ble_eq_true rfl)⟩) (PQ.preV hK hP (ci := 3) rfl h0) rfl rfl hl.1 rfl (lv_room (Nat.le_of_ble_eq_true rfl)) dX3_requireMessage_3 ⟨(Nat.le_of_ble_eq_true rfl), (Nat.le_of_ble_eq_true rfl)⟩) ?_
  refine va_get (D := G) (ci := 2) (v := .int 0) (C := RX2) (T := TX2) (N := 4) hx hb hts (fun _ h => List.mem_cons_of_mem _ (List.mem_append_left _ (List.mem_append_left _ (List.mem_append_left _ (List.mem_append_right _ h))))) hown hK hP kw hvw rfl 3 (by decide) (hts (.fieldLink RX3 191 "ShippedLog$Way" "count" "I") (by decide +kernel)) (fun _ h9 => h9) rfl dX3_requireMessage_6 ?_
  refine lv_if_ne (tgt := 22) hx hb dX3_requireMessage_9 (by decide) (fun c9 => absurd rfl c9) (fun _ => ?_)
  exact nz_throw hx hb hl9 hts hown hI hS (cls := Nsee) (text := "no message") (ik := 171) (is := 232) (ic := 175) (by decide +kernel) (by decide) (by decide +kernel) (by decide +kernel) (by decide +kernel) (fun _ h => List.mem_cons_of_mem _ (List.mem_append_left _ (List.mem_append_right _ h))) (og_Nsee).1 (og_Nsee).2 (hl.1.trans hml.symm) dX3_requireMessage_12 dX3_requireMessage_15 dX3_requireMessage_16 dX3_requireMessage_18 dX3_requireMessage_21 ht (Nat.le_of_ble_eq_true rfl) (Nat.le_of_ble_eq_true rfl) (Nat.le_of_ble_eq_true rfl) (Nat.le_of_ble_eq_true rfl) hlocks (Nat.le_of_ble_eq_true rfl) (Nat.le_of_ble_eq_true rfl)
set_option maxHeartbeats 4000000 in
set_option maxRecDepth 100000 in
/-- no such node -/
theorem c_deliver_bad (l : Launch) (hl9 : l.stackTraces = false) (G : va_G) (k : Nat → ClassId) (ws : va_W) (sz : Nat) (x nd wy : Nat) (f g : Nat → Option Nat) (hF : FX k ws x nd wy f g) (p0 : Int32) (h : bdN p0) (p1 : Int32) : vx_Met l yX3_deliver wsX3_deliver (rzk 2 1 6) (PR G k sz ws [.ref x, .int p0, .int p1]) (QN) (XE Ioob sz) 1 6 (fun q => sz ≤ q) := by
  refine vx_ofW (cc := cX3_deliver) (maxL := 3) (ret := (some .int)) (by decide) rfl ?_
  intro p e s m args below meth c s₁ B hml ht hv
  obtain ⟨rfl, hsz, hP, hI⟩ := hv
  subst hsz
  have hK := hI.1
  have hA : ∀ q : Nat, s.heap.size ≤ q → (fun q => s.heap.size ≤ q) q := fun _ h => h
  have hS : va_S (fun q => s.heap.size ≤ q) s.heap s.heap [] := va_S.rf
  obtain ⟨kx, h0⟩ := List.getElem?_of_mem hF.1
  have hx := B.exec
  have hb := B.bytes
  have hr := B.returns
  have hts := atoms_spec (ws := wsX3_deliver) B.pre
  have hown : s.vm.findClass RX3 = some m.cls := findClass_of_methodNamed B.named
  have hlocks := B.notSynchronized
  have hl := lv_entry ([.ref x, .int p0, .int p1]) (n := 3) (Nat.le_of_ble_eq_true rfl)
  rw [lg_entry_eq]
  generalize (lg_sl ([.ref x, .int p0, .int p1]) ++ List.replicate (3 - (lg_sl ([.ref x, .int p0, .int p1])).length) Slot.unset).toArray = ls at hl ⊢
  have hl : lv_has ls 3 [(0, .ref x), (1, .int p0), (2, .int p1)] := hl
  refine lv_aload_n hx hb dX3_deliver_0 rfl (lv_at hl 0 rfl) ?_
  refine lv_iload_n hx hb dX3_deliver_1 rfl (lv_at hl 1 rfl) ?_
  refine lv_iload_n hx hb dX3_deliver_2 rfl (lv_at hl 2 rfl) ?_
  refine bt_call (vx_runV (As := [.int p0, .int p1]) (rest := []) ⟨hx, hb, hml, hown, hts⟩ (c_requireMessage_bad l hl9 G k ws _ x nd wy f g hF p0 h p1) (cwV 2 hts gX3_deliver_X3_requireMessage rfl rfl rfl (by decide +kernel) ⟨(Nat.le_of_ble_eq_true rfl), (Nat.le_of_ble_eq_true rfl)⟩) (PR.preV hI hS hA hP (ci := 3) rfl h0) rfl rfl hl.1 rfl (lv_room (Nat.le_of_ble_eq_true rfl)) dX3_deliver_3 ⟨(Nat.le_of_ble_eq_true rfl), (Nat.le_of_ble_eq_true rfl)⟩) (fun _ _ _ h => h) hS hA (fun q h => Nat.le_trans hS.1 h) (fun ce q9 H1 locs1 hH hS h1 h2 h3 => ?_)
  exact bt_out ht hlocks h1 h2 h3 hS (Nat.le_of_ble_eq_true rfl) (Nat.le_of_ble_eq_true rfl)
set_option maxHeartbeats 4000000 in
set_option maxRecDepth 100000 in
/-- no such node -/
theorem c_deliver_bad2 (l : Launch) (hl9 : l.stackTraces = false) (G : va_G) (k : Nat → ClassId) (ws : va_W) (sz : Nat) (x nd wy : Nat) (f g : Nat → Option Nat) (hF : FX k ws x nd wy f g) (i : Nat) (hi : i < 4) (p1 : Int32) (h : bdN p1) : vx_Met l yX3_deliver wsX3_deliver (rzk 2 1 6) (PR G k sz ws [.ref x, .int (nI i), .int p1]) (QN) (XE Ioob sz) 1 6 (fun q => sz ≤ q) := by
  refine vx_ofW (cc := cX3_deliver) (maxL := 3) (ret := (some .int)) (by decide) rfl ?_
  intro p e s m args below meth c s₁ B hml ht hv
  obtain ⟨rfl, hsz, hP, hI⟩ := hv
  subst hsz
  have hK := hI.1
  have hA : ∀ q : Nat, s.heap.size ≤ q → (fun q => s.heap.size ≤ q) q := fun _ h => h
  have hS : va_S (fun q => s.heap.size ≤ q) s.heap s.heap [] := va_S.rf
  obtain ⟨kx, h0⟩ := List.getElem?_of_mem hF.1
  have hx := B.exec
  have hb := B.bytes
  have hr := B.returns
  have hts := atoms_spec (ws := wsX3_deliver) B.pre
  have hown : s.vm.findClass RX3 = some m.cls := findClass_of_methodNamed B.named
  have hlocks := B.notSynchronized
  have hl := lv_entry ([.ref x, .int (nI i), .int p1]) (n := 3) (Nat.le_of_ble_eq_true rfl)
  rw [lg_entry_eq]
  generalize (lg_sl ([.ref x, .int (nI i), .int p1]) ++ List.replicate (3 - (lg_sl ([.ref x, .int (nI i), .int p1])).length) Slot.unset).toArray = ls at hl ⊢
  have hl : lv_has ls 3 [(0, .ref x), (1, .int (nI i)), (2, .int p1)] := hl
  refine lv_aload_n hx hb dX3_deliver_0 rfl (lv_at hl 0 rfl) ?_
  refine lv_iload_n hx hb dX3_deliver_1 rfl (lv_at hl 1 rfl) ?_
  refine lv_iload_n hx hb dX3_deliver_2 rfl (lv_at hl 2 rfl) ?_
  refine bt_call (vx_runV (As := [.int (nI i), .int p1]) (rest := []) ⟨hx, hb, hml, hown, hts⟩ (c_requireMessage_bad2 l hl9 G k ws _ x nd wy f g hF i hi p1 h) (cwV 2 hts gX3_deliver_X3_requireMessage rfl rfl rfl (by decide +kernel) ⟨(Nat.le_of_ble_eq_true rfl), (Nat.le_of_ble_eq_true rfl)⟩) (PR.preV hI hS hA hP (ci := 3) rfl h0) rfl rfl hl.1 rfl (lv_room (Nat.le_of_ble_eq_true rfl)) dX3_deliver_3 ⟨(Nat.le_of_ble_eq_true rfl), (Nat.le_of_ble_eq_true rfl)⟩) (fun _ _ _ h => h) hS hA (fun q h => Nat.le_trans hS.1 h) (fun ce q9 H1 locs1 hH hS h1 h2 h3 => ?_)
  exact bt_out ht hlocks h1 h2 h3 hS (Nat.le_of_ble_eq_true rfl) (Nat.le_of_ble_eq_true rfl)
set_option maxHeartbeats 4000000 in
set_option maxRecDepth 100000 in
/-- no message -/
theorem c_deliver_none (l : Launch) (hl9 : l.stackTraces = false) (G : va_G) (k : Nat → ClassId) (ws : va_W) (sz : Nat) (x nd wy : Nat) (f g : Nat → Option Nat) (hF : FX k ws x nd wy f g) (i : Nat) (hi : i < 4) (j : Nat) (hj : j < 4) : vx_Met l yX3_deliver wsX3_deliver (rzk 2 1 6) (PR G k sz ws [.ref x, .int (nI i), .int (nI j)]) (QN) (XE Nsee sz) 1 6 (fun q => sz ≤ q) := by
  refine vx_ofW (cc := cX3_deliver) (maxL := 3) (ret := (some .int)) (by decide) rfl ?_
  intro p e s m args below meth c s₁ B hml ht hv
  obtain ⟨rfl, hsz, hP, hI⟩ := hv
  subst hsz
  have hK := hI.1
  have hA : ∀ q : Nat, s.heap.size ≤ q → (fun q => s.heap.size ≤ q) q := fun _ h => h
  have hS : va_S (fun q => s.heap.size ≤ q) s.heap s.heap [] := va_S.rf
  obtain ⟨kx, h0⟩ := List.getElem?_of_mem hF.1
  have hx := B.exec
  have hb := B.bytes
  have hr := B.returns
  have hts := atoms_spec (ws := wsX3_deliver) B.pre
  have hown : s.vm.findClass RX3 = some m.cls := findClass_of_methodNamed B.named
  have hlocks := B.notSynchronized
  have hl := lv_entry ([.ref x, .int (nI i), .int (nI j)]) (n := 3) (Nat.le_of_ble_eq_true rfl)
  rw [lg_entry_eq]
  generalize (lg_sl ([.ref x, .int (nI i), .int (nI j)]) ++ List.replicate (3 - (lg_sl ([.ref x, .int (nI i), .int (nI j)])).length) Slot.unset).toArray = ls at hl ⊢
  have hl : lv_has ls 3 [(0, .ref x), (1, .int (nI i)), (2, .int (nI j))] := hl
  refine lv_aload_n hx hb dX3_deliver_0 rfl (lv_at hl 0 rfl) ?_
  refine lv_iload_n hx hb dX3_deliver_1 rfl (lv_at hl 1 rfl) ?_
  refine lv_iload_n hx hb dX3_deliver_2 rfl (lv_at hl 2 rfl) ?_
  refine bt_call (vx_runV (As := [.int (nI i), .int (nI j)]) (rest := []) ⟨hx, hb, hml, hown, hts⟩ (c_requireMessage_none l hl9 G k ws _ x nd wy f g hF i hi j hj) (cwV 2 hts gX3_deliver_X3_requireMessage rfl rfl rfl (by decide +kernel) ⟨(Nat.le_of_ble_eq_true rfl), (Nat.le_of_ble_eq_true rfl)⟩) (PR.preV hI hS hA hP (ci := 3) rfl h0) rfl rfl hl.1 rfl (lv_room (Nat.le_of_ble_eq_true rfl)) dX3_deliver_3 ⟨(Nat.le_of_ble_eq_true rfl), (Nat.le_of_ble_eq_true rfl)⟩) (fun _ _ _ h => h) hS hA (fun q h => Nat.le_trans hS.1 h) (fun ce q9 H1 locs1 hH hS h1 h2 h3 => ?_)
  exact bt_out ht hlocks h1 h2 h3 hS (Nat.le_of_ble_eq_true rfl) (Nat.le_of_ble_eq_true rfl)
set_option maxHeartbeats 4000000 in
set_option maxRecDepth 100000 in
/-- no such node -/
theorem c_drop_bad (l : Launch) (hl9 : l.stackTraces = false) (G : va_G) (k : Nat → ClassId) (ws : va_W) (sz : Nat) (x nd wy : Nat) (f g : Nat → Option Nat) (hF : FX k ws x nd wy f g) (p0 : Int32) (h : bdN p0) (p1 : Int32) : vx_Met l yX3_drop wsX3_drop (rzk 2 1 6) (PR G k sz ws [.ref x, .int p0, .int p1]) (QN) (XE Ioob sz) 1 6 (fun q => sz ≤ q) := by
  refine vx_ofW (cc := cX3_drop) (maxL := 4) (ret := (some .int)) (by decide) rfl ?_
  intro p e s m args below meth c s₁ B hml ht hv
  obtain ⟨rfl, hsz, hP, hI⟩ := hv
  subst hsz
  have hK := hI.1
  have hA : ∀ q : Nat, s.heap.size ≤ q → (fun q => s.heap.size ≤ q) q := fun _ h => h
  have hS : va_S (fun q => s.heap.size ≤ q) s.heap s.heap [] := va_S.rf
  obtain ⟨kx, h0⟩ := List.getElem?_of_mem hF.1
  have hx := B.exec
  have hb := B.bytes
  have hr := B.returns
  have hts := atoms_spec (ws := wsX3_drop) B.pre
  have hown : s.vm.findClass RX3 = some m.cls := findClass_of_methodNamed B.named
  have hlocks := B.notSynchronized
  have hl := lv_entry ([.ref x, .int p0, .int p1]) (n := 4) (Nat.le_of_ble_eq_true rfl)
  rw [lg_entry_eq]
  generalize (lg_sl ([.ref x, .int p0, .int p1]) ++ List.replicate (4 - (lg_sl ([.ref x, .int p0, .int p1])).length) Slot.unset).toArray = ls at hl ⊢
  have hl : lv_has ls 4 [(0, .ref x), (1, .int p0), (2, .int p1)] := hl
  refine lv_aload_n hx hb dX3_drop_0 rfl (lv_at hl 0 rfl) ?_
  refine lv_iload_n hx hb dX3_drop_1 rfl (lv_at hl 1 rfl) ?_
  refine lv_iload_n hx hb dX3_drop_2 rfl (lv_at hl 2 rfl) ?_
  refine bt_call (vx_runV (As := [.int p0, .int p1]) (rest := []) ⟨hx, hb, hml, hown, hts⟩ (c_requireMessage_bad l hl9 G k ws _ x nd wy f g hF p0 h p1) (cwV 2 hts gX3_drop_X3_requireMessage rfl rfl rfl (by decide +kernel) ⟨(Nat.le_of_ble_eq_true rfl), (Nat.le_of_ble_eq_true rfl)⟩) (PR.preV hI hS hA hP (ci := 3) rfl h0) rfl rfl hl.1 rfl (lv_room (Nat.le_of_ble_eq_true rfl)) dX3_drop_3 ⟨(Nat.le_of_ble_eq_true rfl), (Nat.le_of_ble_eq_true rfl)⟩) (fun _ _ _ h => h) hS hA (fun q h => Nat.le_trans hS.1 h) (fun ce q9 H1 locs1 hH hS h1 h2 h3 => ?_)
  exact bt_out ht hlocks h1 h2 h3 hS (Nat.le_of_ble_eq_true rfl) (Nat.le_of_ble_eq_true rfl)
set_option maxHeartbeats 4000000 in
set_option maxRecDepth 100000 in
/-- no such node -/
theorem c_drop_bad2 (l : Launch) (hl9 : l.stackTraces = false) (G : va_G) (k : Nat → ClassId) (ws : va_W) (sz : Nat) (x nd wy : Nat) (f g : Nat → Option Nat) (hF : FX k ws x nd wy f g) (i : Nat) (hi : i < 4) (p1 : Int32) (h : bdN p1) : vx_Met l yX3_drop wsX3_drop (rzk 2 1 6) (PR G k sz ws [.ref x, .int (nI i), .int p1]) (QN) (XE Ioob sz) 1 6 (fun q => sz ≤ q) := by
  refine vx_ofW (cc := cX3_drop) (maxL := 4) (ret := (some .int)) (by decide) rfl ?_
  intro p e s m args below meth c s₁ B hml ht hv
  obtain ⟨rfl, hsz, hP, hI⟩ := hv
  subst hsz
  have hK := hI.1
  have hA : ∀ q : Nat, s.heap.size ≤ q → (fun q => s.heap.size ≤ q) q := fun _ h => h
  have hS : va_S (fun q => s.heap.size ≤ q) s.heap s.heap [] := va_S.rf
  obtain ⟨kx, h0⟩ := List.getElem?_of_mem hF.1
  have hx := B.exec
  have hb := B.bytes
  have hr := B.returns
  have hts := atoms_spec (ws := wsX3_drop) B.pre
  have hown : s.vm.findClass RX3 = some m.cls := findClass_of_methodNamed B.named
  have hlocks := B.notSynchronized
  have hl := lv_entry ([.ref x, .int (nI i), .int p1]) (n := 4) (Nat.le_of_ble_eq_true rfl)
  rw [lg_entry_eq]
  generalize (lg_sl ([.ref x, .int (nI i), .int p1]) ++ List.replicate (4 - (lg_sl ([.ref x, .int (nI i), .int p1])).length) Slot.unset).toArray = ls at hl ⊢
  have hl : lv_has ls 4 [(0, .ref x), (1, .int (nI i)), (2, .int p1)] := hl
  refine lv_aload_n hx hb dX3_drop_0 rfl (lv_at hl 0 rfl) ?_
  refine lv_iload_n hx hb dX3_drop_1 rfl (lv_at hl 1 rfl) ?_
  refine lv_iload_n hx hb dX3_drop_2 rfl (lv_at hl 2 rfl) ?_
  refine bt_call (vx_runV (As := [.int (nI i), .int p1]) (rest := []) ⟨hx, hb, hml, hown, hts⟩ (c_requireMessage_bad2 l hl9 G k ws _ x nd wy f g hF i hi p1 h) (cwV 2 hts gX3_drop_X3_requireMessage rfl rfl rfl (by decide +kernel) ⟨(Nat.le_of_ble_eq_true rfl), (Nat.le_of_ble_eq_true rfl)⟩) (PR.preV hI hS hA hP (ci := 3) rfl h0) rfl rfl hl.1 rfl (lv_room (Nat.le_of_ble_eq_true rfl)) dX3_drop_3 ⟨(Nat.le_of_ble_eq_true rfl), (Nat.le_of_ble_eq_true rfl)⟩) (fun _ _ _ h => h) hS hA (fun q h => Nat.le_trans hS.1 h) (fun ce q9 H1 locs1 hH hS h1 h2 h3 => ?_)
  exact bt_out ht hlocks h1 h2 h3 hS (Nat.le_of_ble_eq_true rfl) (Nat.le_of_ble_eq_true rfl)
set_option maxHeartbeats 4000000 in
set_option maxRecDepth 100000 in
/-- no message -/
theorem c_drop_none (l : Launch) (hl9 : l.stackTraces = false) (G : va_G) (k : Nat → ClassId) (ws : va_W) (sz : Nat) (x nd wy : Nat) (f g : Nat → Option Nat) (hF : FX k ws x nd wy f g) (i : Nat) (hi : i < 4) (j : Nat) (hj : j < 4) : vx_Met l yX3_drop wsX3_drop (rzk 2 1 6) (PR G k sz ws [.ref x, .int (nI i), .int (nI j)]) (QN) (XE Nsee sz) 1 6 (fun q => sz ≤ q) := by
  refine vx_ofW (cc := cX3_drop) (maxL := 4) (ret := (some .int)) (by decide) rfl ?_
  intro p e s m args below meth c s₁ B hml ht hv
  obtain ⟨rfl, hsz, hP, hI⟩ := hv
  subst hsz
  have hK := hI.1
  have hA : ∀ q : Nat, s.heap.size ≤ q → (fun q => s.heap.size ≤ q) q := fun _ h => h
  have hS : va_S (fun q => s.heap.size ≤ q) s.heap s.heap [] := va_S.rf
  obtain ⟨kx, h0⟩ := List.getElem?_of_mem hF.1
  have hx := B.exec
  have hb := B.bytes
  have hr := B.returns
  have hts := atoms_spec (ws := wsX3_drop) B.pre
  have hown : s.vm.findClass RX3 = some m.cls := findClass_of_methodNamed B.named
  have hlocks := B.notSynchronized
  have hl := lv_entry ([.ref x, .int (nI i), .int (nI j)]) (n := 4) (Nat.le_of_ble_eq_true rfl)
  rw [lg_entry_eq]
  generalize (lg_sl ([.ref x, .int (nI i), .int (nI j)]) ++ List.replicate (4 - (lg_sl ([.ref x, .int (nI i), .int (nI j)])).length) Slot.unset).toArray = ls at hl ⊢
  have hl : lv_has ls 4 [(0, .ref x), (1, .int (nI i)), (2, .int (nI j))] := hl
  refine lv_aload_n hx hb dX3_drop_0 rfl (lv_at hl 0 rfl) ?_
  refine lv_iload_n hx hb dX3_drop_1 rfl (lv_at hl 1 rfl) ?_
  refine lv_iload_n hx hb dX3_drop_2 rfl (lv_at hl 2 rfl) ?_
  refine bt_call (vx_runV (As := [.int (nI i), .int (nI j)]) (rest := []) ⟨hx, hb, hml, hown, hts⟩ (c_requireMessage_none l hl9 G k ws _ x nd wy f g hF i hi j hj) (cwV 2 hts gX3_drop_X3_requireMessage rfl rfl rfl (by decide +kernel) ⟨(Nat.le_of_ble_eq_true rfl), (Nat.le_of_ble_eq_true rfl)⟩) (PR.preV hI hS hA hP (ci := 3) rfl h0) rfl rfl hl.1 rfl (lv_room (Nat.le_of_ble_eq_true rfl)) dX3_drop_3 ⟨(Nat.le_of_ble_eq_true rfl), (Nat.le_of_ble_eq_true rfl)⟩) (fun _ _ _ h => h) hS hA (fun q h => Nat.le_trans hS.1 h) (fun ce q9 H1 locs1 hH hS h1 h2 h3 => ?_)
  exact bt_out ht hlocks h1 h2 h3 hS (Nat.le_of_ble_eq_true rfl) (Nat.le_of_ble_eq_true rfl)
