/-! 08: the law's own callers of the class: which number they answer, what lies in the array behind. Laid by wip/p1/gen08.py -/
abbrev eO (k : Nat → ClassId) (fo : Nat → Int64) : va_E := .inl (k 5, 1, .inr (.inl fo))
/-- the object's cells and the array for answers -/
abbrev wL (k : Nat → ClassId) (wx : va_W) (o : Nat) (fo : Nat → Int64) : va_W := wx ++ [(o, eO k fo)]
abbrev PL (G : va_G) (k : Nat → ClassId) (sz : Nat) (ws : va_W) (As : List Value) : Array Value → State → Prop := va_Pc As (fun U => U.heap.size = sz ∧ va_P G vwCl ws U.heap ∧ va_D (fun _ => True) ws ∧ IV G k (va_A ws sz) U)
/-- the answer is the number K of the row that caught it, 0 for none; then V lies in the array -/
abbrev QL (G : va_G) (k : Nat → ClassId) (o : Nat) (K V : Int32) (A : Nat → Prop) : Array Value → State → Outcome → State → Prop := va_Qi (fun (r : Int32) (u : Int64) => r = K ∧ (K = 0 → u = V.toInt64)) (fun u t => ∃ f : Nat → Int64, va_P G vwCl [(o, eO k f)] t.heap ∧ f 0 = u) A
theorem FX.mono {k : Nat → ClassId} {ws ws' : va_W} {x nd wy : Nat} {f g : Nat → Option Nat} (h : FX k ws x nd wy f g) (hm : ∀ q ∈ ws, q ∈ ws') : FX k ws' x nd wy f g :=
  ⟨hm _ h.1, hm _ h.2.1, hm _ h.2.2.1, fun j hj => by
    obtain ⟨a, lo, me, di, h1, h2, h3, h4, h5, h6⟩ := h.2.2.2.1 j hj
    exact ⟨a, lo, me, di, h1, hm _ h2, hm _ h3, hm _ h4, hm _ h5, h6⟩, fun j hj => by
    obtain ⟨a, po, bb, h1, h2⟩ := h.2.2.2.2 j hj
    exact ⟨a, po, bb, h1, hm _ h2⟩⟩
theorem wL_o {k : Nat → ClassId} {wx : va_W} {o : Nat} {fo : Nat → Int64} : (wL k wx o fo)[wx.length]? = some (o, eO k fo) := by
  rw [List.getElem?_append_right (Nat.le_refl _), Nat.sub_self]
  rfl
theorem wL_one {G : va_G} {k : Nat → ClassId} {wx : va_W} {o : Nat} {fo : Nat → Int64} {H : Heap} (h : va_P G vwCl (wL k wx o fo) H) : va_P G vwCl [(o, eO k fo)] H := h.mem (fun q hq => List.mem_append_right _ hq)
theorem wL_set {G : va_G} {k : Nat → ClassId} {wx : va_W} {o : Nat} {fo f1 : Nat → Int64} {H : Heap} (h : va_P G vwCl ((wL k wx o fo).set wx.length (o, eO k f1)) H) : va_P G vwCl [(o, eO k f1)] H := by
  refine h.mem (fun q hq => ?_)
  rw [List.mem_singleton.mp hq]
  exact List.mem_of_getElem? (List.getElem?_set_self (by rw [List.length_append]; exact Nat.lt_succ_self _))
set_option maxHeartbeats 4000000 in
set_option maxRecDepth 100000 in
/-- the caller of up, bad -/
theorem cL_up_bad (l : Launch) (hl9 : l.stackTraces = false) (G : va_G) (k : Nat → ClassId) (wx : va_W) (o : Nat) (fo : Nat → Int64) (sz : Nat) (x nd wy : Nat) (f g : Nat → Option Nat) (hF : FX k wx x nd wy f g) (p0 : Int32) (h : bdN p0) : vx_Met l yL_up wsL_up (rzk 3 1 6) (PL G k sz (wL k wx o fo) [.ref x, .int p0, .ref o]) (QL G k o 1 0 (va_A (wL k wx o fo) sz)) (fun _ _ _ => False) 1 6 (va_A (wL k wx o fo) sz) := by
  refine vx_ofWH (cc := cL_up) (maxL := 4) (ret := some .int) (hh := [(0, 9, 12, 13), (0, 9, 15, 15)]) (by decide) rfl ?_
  intro p e s m args below meth c s₁ B hml hv
  obtain ⟨rfl, hsz, hP, hD0, hI⟩ := hv
  subst hsz
  have hK := hI.1
  have hD := hD0.self (sz := s.heap.size)
  have hA : ∀ q : Nat, s.heap.size ≤ q → va_A (wL k wx o fo) s.heap.size q := fun _ h => Or.inr h
  have hS : va_S (va_A (wL k wx o fo) s.heap.size) s.heap s.heap [] := va_S.rf
  have hF := hF.mono (ws' := wL k wx o fo) (fun _ h => List.mem_append_left _ h)
  obtain ⟨kx, h0⟩ := List.getElem?_of_mem hF.1
  have hx := B.exec
  have hb := B.bytes
  have hr := B.returns
  have hts := atoms_spec (ws := wsL_up) B.pre
  have htb := vx_table (x := yL_up) B (hts _ List.mem_cons_self)
  have hown : s.vm.findClass RL = some m.cls := findClass_of_methodNamed B.named
  have hlocks := B.notSynchronized
  have hl := lv_entry ([.ref x, .int p0, .ref o]) (n := 4) (Nat.le_of_ble_eq_true rfl)
  rw [lg_entry_eq]
  generalize (lg_sl ([.ref x, .int p0, .ref o]) ++ List.replicate (4 - (lg_sl ([.ref x, .int p0, .ref o])).length) Slot.unset).toArray = ls at hl ⊢
  have hl : lv_has ls 4 [(0, .ref x), (1, .int p0), (2, .ref o)] := hl
  refine lv_aload_n hx hb dL_up_0 rfl (lv_at hl 2 rfl) ?_
  refine lv_iconst (v := 0) hx hb dL_up_1 (by decide) ?_
  refine lv_aload_n hx hb dL_up_2 rfl (lv_at hl 0 rfl) ?_
  refine lv_iload_n hx hb dL_up_3 rfl (lv_at hl 1 rfl) ?_
  refine bt_call (vx_runV (As := [.int p0]) (rest := [.int 0, .ref o]) ⟨hx, hb, hml, hown, hts⟩ (c_up_bad l hl9 G k _ _ x nd wy f g hF p0 h) (cwV 1 hts gL_up_X3_up rfl rfl rfl (by decide +kernel) ⟨(Nat.le_of_ble_eq_true rfl), (Nat.le_of_ble_eq_true rfl)⟩) (PR.preV hI hS hA hP (ci := 3) rfl h0) rfl rfl hl.1 rfl (lv_room (Nat.le_of_ble_eq_true rfl)) dL_up_4 ⟨(Nat.le_of_ble_eq_true rfl), (Nat.le_of_ble_eq_true rfl)⟩) (fun _ _ _ h => h) hS hA (fun q h => Or.inr (Nat.le_trans hS.1 h)) (fun ce q9 H1 locs1 hH hS h1 h2 h3 => ?_)
  refine vx_catch hown [] ⟨0, 9, 12, 13⟩ [⟨0, 9, 15, 15⟩] (htb.trans rfl) (fun _ h => absurd h List.not_mem_nil) rfl (by decide) (name := Ioob) (hts _ (by decide +kernel)) (va_Nw.use rfl (hI.2.2.2.1.2.1 Ioob (by decide +kernel))) h1 h2 h3 ?_
  refine W.eq (g2 := F0 m 12 ls [.ref q9]) rfl ?_
  refine lv_astore_n (lv' := [(3, .ref q9), (0, .ref x), (1, .int p0), (2, .ref o)]) hx hb dL_up_12 rfl hl (by decide) rfl (fun ls hl => ?_)
  refine lv_iconst (v := 1) hx hb dL_up_13 (by decide) ?_
  exact vx_ret (W.iret (v := 1) hx hb hr (fun t ht hW => ⟨⟨1, fo 0, rfl, ⟨rfl, fun h => absurd h (by decide)⟩, fo, by rw [ht]; exact (wL_one hP).old hH, rfl⟩, hS.F ht⟩) hS.2.2 dL_up_14)
set_option maxHeartbeats 4000000 in
set_option maxRecDepth 100000 in
/-- the caller of promote, bad -/
theorem cL_promote_bad (l : Launch) (hl9 : l.stackTraces = false) (G : va_G) (k : Nat → ClassId) (wx : va_W) (o : Nat) (fo : Nat → Int64) (sz : Nat) (x nd wy : Nat) (f g : Nat → Option Nat) (hF : FX k wx x nd wy f g) (p0 : Int32) (h : bdN p0) : vx_Met l yL_promote wsL_promote (rzk 3 1 6) (PL G k sz (wL k wx o fo) [.ref x, .int p0, .ref o]) (QL G k o 1 0 (va_A (wL k wx o fo) sz)) (fun _ _ _ => False) 1 6 (va_A (wL k wx o fo) sz) := by
  refine vx_ofWH (cc := cL_promote) (maxL := 4) (ret := some .int) (hh := [(0, 9, 12, 13), (0, 9, 15, 15), (0, 9, 18, 26)]) (by decide) rfl ?_
  intro p e s m args below meth c s₁ B hml hv
  obtain ⟨rfl, hsz, hP, hD0, hI⟩ := hv
  subst hsz
  have hK := hI.1
  have hD := hD0.self (sz := s.heap.size)
  have hA : ∀ q : Nat, s.heap.size ≤ q → va_A (wL k wx o fo) s.heap.size q := fun _ h => Or.inr h
  have hS : va_S (va_A (wL k wx o fo) s.heap.size) s.heap s.heap [] := va_S.rf
  have hF := hF.mono (ws' := wL k wx o fo) (fun _ h => List.mem_append_left _ h)
  obtain ⟨kx, h0⟩ := List.getElem?_of_mem hF.1
  have hx := B.exec
  have hb := B.bytes
  have hr := B.returns
  have hts := atoms_spec (ws := wsL_promote) B.pre
  have htb := vx_table (x := yL_promote) B (hts _ List.mem_cons_self)
  have hown : s.vm.findClass RL = some m.cls := findClass_of_methodNamed B.named
  have hlocks := B.notSynchronized
  have hl := lv_entry ([.ref x, .int p0, .ref o]) (n := 4) (Nat.le_of_ble_eq_true rfl)
  rw [lg_entry_eq]
  generalize (lg_sl ([.ref x, .int p0, .ref o]) ++ List.replicate (4 - (lg_sl ([.ref x, .int p0, .ref o])).length) Slot.unset).toArray = ls at hl ⊢
  have hl : lv_has ls 4 [(0, .ref x), (1, .int p0), (2, .ref o)] := hl
  refine lv_aload_n hx hb dL_promote_0 rfl (lv_at hl 2 rfl) ?_
  refine lv_iconst (v := 0) hx hb dL_promote_1 (by decide) ?_
  refine lv_aload_n hx hb dL_promote_2 rfl (lv_at hl 0 rfl) ?_
  refine lv_iload_n hx hb dL_promote_3 rfl (lv_at hl 1 rfl) ?_
  refine bt_call (vx_runV (As := [.int p0]) (rest := [.int 0, .ref o]) ⟨hx, hb, hml, hown, hts⟩ (c_promote_bad l hl9 G k _ _ x nd wy f g hF p0 h) (cwV 1 hts gL_promote_X3_promote rfl rfl rfl (by decide +kernel) ⟨(Nat.le_of_ble_eq_true rfl), (Nat.le_of_ble_eq_true rfl)⟩) (PR.preV hI hS hA hP (ci := 3) rfl h0) rfl rfl hl.1 rfl (lv_room (Nat.le_of_ble_eq_true rfl)) dL_promote_4 ⟨(Nat.le_of_ble_eq_true rfl), (Nat.le_of_ble_eq_true rfl)⟩) (fun _ _ _ h => h) hS hA (fun q h => Or.inr (Nat.le_trans hS.1 h)) (fun ce q9 H1 locs1 hH hS h1 h2 h3 => ?_)
  refine vx_catch hown [] ⟨0, 9, 12, 13⟩ [⟨0, 9, 15, 15⟩, ⟨0, 9, 18, 26⟩] (htb.trans rfl) (fun _ h => absurd h List.not_mem_nil) rfl (by decide) (name := Ioob) (hts _ (by decide +kernel)) (va_Nw.use rfl (hI.2.2.2.1.2.1 Ioob (by decide +kernel))) h1 h2 h3 ?_
  refine W.eq (g2 := F0 m 12 ls [.ref q9]) rfl ?_
  refine lv_astore_n (lv' := [(3, .ref q9), (0, .ref x), (1, .int p0), (2, .ref o)]) hx hb dL_promote_12 rfl hl (by decide) rfl (fun ls hl => ?_)
  refine lv_iconst (v := 1) hx hb dL_promote_13 (by decide) ?_
  exact vx_ret (W.iret (v := 1) hx hb hr (fun t ht hW => ⟨⟨1, fo 0, rfl, ⟨rfl, fun h => absurd h (by decide)⟩, fo, by rw [ht]; exact (wL_one hP).old hH, rfl⟩, hS.F ht⟩) hS.2.2 dL_promote_14)
set_option maxHeartbeats 4000000 in
set_option maxRecDepth 100000 in
/-- the caller of commit, bad -/
theorem cL_commit_bad (l : Launch) (hl9 : l.stackTraces = false) (G : va_G) (k : Nat → ClassId) (wx : va_W) (o : Nat) (fo : Nat → Int64) (sz : Nat) (x nd wy : Nat) (f g : Nat → Option Nat) (hF : FX k wx x nd wy f g) (p0 : Int32) (h : bdN p0) : vx_Met l yL_commit wsL_commit (rzk 3 1 6) (PL G k sz (wL k wx o fo) [.ref x, .int p0, .ref o]) (QL G k o 1 0 (va_A (wL k wx o fo) sz)) (fun _ _ _ => False) 1 6 (va_A (wL k wx o fo) sz) := by
  refine vx_ofWH (cc := cL_commit) (maxL := 4) (ret := some .int) (hh := [(0, 16, 19, 13), (0, 16, 22, 15), (0, 16, 25, 26)]) (by decide) rfl ?_
  intro p e s m args below meth c s₁ B hml hv
  obtain ⟨rfl, hsz, hP, hD0, hI⟩ := hv
  subst hsz
  have hK := hI.1
  have hD := hD0.self (sz := s.heap.size)
  have hA : ∀ q : Nat, s.heap.size ≤ q → va_A (wL k wx o fo) s.heap.size q := fun _ h => Or.inr h
  have hS : va_S (va_A (wL k wx o fo) s.heap.size) s.heap s.heap [] := va_S.rf
  have hF := hF.mono (ws' := wL k wx o fo) (fun _ h => List.mem_append_left _ h)
  obtain ⟨kx, h0⟩ := List.getElem?_of_mem hF.1
  have hx := B.exec
  have hb := B.bytes
  have hr := B.returns
  have hts := atoms_spec (ws := wsL_commit) B.pre
  have htb := vx_table (x := yL_commit) B (hts _ List.mem_cons_self)
  have hown : s.vm.findClass RL = some m.cls := findClass_of_methodNamed B.named
  have hlocks := B.notSynchronized
  have hl := lv_entry ([.ref x, .int p0, .ref o]) (n := 4) (Nat.le_of_ble_eq_true rfl)
  rw [lg_entry_eq]
  generalize (lg_sl ([.ref x, .int p0, .ref o]) ++ List.replicate (4 - (lg_sl ([.ref x, .int p0, .ref o])).length) Slot.unset).toArray = ls at hl ⊢
  have hl : lv_has ls 4 [(0, .ref x), (1, .int p0), (2, .ref o)] := hl
  refine lv_aload_n hx hb dL_commit_0 rfl (lv_at hl 2 rfl) ?_
  refine lv_iconst (v := 0) hx hb dL_commit_1 (by decide) ?_
  refine lv_aload_n hx hb dL_commit_2 rfl (lv_at hl 0 rfl) ?_
  refine lv_iload_n hx hb dL_commit_3 rfl (lv_at hl 1 rfl) ?_
  refine bt_call (vx_runV (As := [.int p0]) (rest := [.int 0, .ref o]) ⟨hx, hb, hml, hown, hts⟩ (c_commit_bad l hl9 G k _ _ x nd wy f g hF p0 h) (cwV 1 hts gL_commit_X3_commit rfl rfl rfl (by decide +kernel) ⟨(Nat.le_of_ble_eq_true rfl), (Nat.le_of_ble_eq_true rfl)⟩) (PR.preV hI hS hA hP (ci := 3) rfl h0) rfl rfl hl.1 rfl (lv_room (Nat.le_of_ble_eq_true rfl)) dL_commit_4 ⟨(Nat.le_of_ble_eq_true rfl), (Nat.le_of_ble_eq_true rfl)⟩) (fun _ _ _ h => h) hS hA (fun q h => Or.inr (Nat.le_trans hS.1 h)) (fun ce q9 H1 locs1 hH hS h1 h2 h3 => ?_)
  refine vx_catch hown [] ⟨0, 16, 19, 13⟩ [⟨0, 16, 22, 15⟩, ⟨0, 16, 25, 26⟩] (htb.trans rfl) (fun _ h => absurd h List.not_mem_nil) rfl (by decide) (name := Ioob) (hts _ (by decide +kernel)) (va_Nw.use rfl (hI.2.2.2.1.2.1 Ioob (by decide +kernel))) h1 h2 h3 ?_
  refine W.eq (g2 := F0 m 19 ls [.ref q9]) rfl ?_
  refine lv_astore_n (lv' := [(3, .ref q9), (0, .ref x), (1, .int p0), (2, .ref o)]) hx hb dL_commit_19 rfl hl (by decide) rfl (fun ls hl => ?_)
  refine lv_iconst (v := 1) hx hb dL_commit_20 (by decide) ?_
  exact vx_ret (W.iret (v := 1) hx hb hr (fun t ht hW => ⟨⟨1, fo 0, rfl, ⟨rfl, fun h => absurd h (by decide)⟩, fo, by rw [ht]; exact (wL_one hP).old hH, rfl⟩, hS.F ht⟩) hS.2.2 dL_commit_21)
set_option maxHeartbeats 4000000 in
set_option maxRecDepth 100000 in
/-- the caller of crash, bad -/
theorem cL_crash_bad (l : Launch) (hl9 : l.stackTraces = false) (G : va_G) (k : Nat → ClassId) (wx : va_W) (o : Nat) (fo : Nat → Int64) (sz : Nat) (x nd wy : Nat) (f g : Nat → Option Nat) (hF : FX k wx x nd wy f g) (p0 : Int32) (h : bdN p0) (p1 : Int32) : vx_Met l yL_crash wsL_crash (rzk 3 1 6) (PL G k sz (wL k wx o fo) [.ref x, .int p0, .int p1, .ref o]) (QL G k o 1 0 (va_A (wL k wx o fo) sz)) (fun _ _ _ => False) 1 6 (va_A (wL k wx o fo) sz) := by
  refine vx_ofWH (cc := cL_crash) (maxL := 5) (ret := some .int) (hh := [(0, 10, 13, 13), (0, 10, 17, 21), (0, 10, 21, 15)]) (by decide) rfl ?_
  intro p e s m args below meth c s₁ B hml hv
  obtain ⟨rfl, hsz, hP, hD0, hI⟩ := hv
  subst hsz
  have hK := hI.1
  have hD := hD0.self (sz := s.heap.size)
  have hA : ∀ q : Nat, s.heap.size ≤ q → va_A (wL k wx o fo) s.heap.size q := fun _ h => Or.inr h
  have hS : va_S (va_A (wL k wx o fo) s.heap.size) s.heap s.heap [] := va_S.rf
  have hF := hF.mono (ws' := wL k wx o fo) (fun _ h => List.mem_append_left _ h)
  obtain ⟨kx, h0⟩ := List.getElem?_of_mem hF.1
  have hx := B.exec
  have hb := B.bytes
  have hr := B.returns
  have hts := atoms_spec (ws := wsL_crash) B.pre
  have htb := vx_table (x := yL_crash) B (hts _ List.mem_cons_self)
  have hown : s.vm.findClass RL = some m.cls := findClass_of_methodNamed B.named
  have hlocks := B.notSynchronized
  have hl := lv_entry ([.ref x, .int p0, .int p1, .ref o]) (n := 5) (Nat.le_of_ble_eq_true rfl)
  rw [lg_entry_eq]
  generalize (lg_sl ([.ref x, .int p0, .int p1, .ref o]) ++ List.replicate (5 - (lg_sl ([.ref x, .int p0, .int p1, .ref o])).length) Slot.unset).toArray = ls at hl ⊢
  have hl : lv_has ls 5 [(0, .ref x), (1, .int p0), (2, .int p1), (3, .ref o)] := hl
  refine lv_aload_n hx hb dL_crash_0 rfl (lv_at hl 3 rfl) ?_
  refine lv_iconst (v := 0) hx hb dL_crash_1 (by decide) ?_
  refine lv_aload_n hx hb dL_crash_2 rfl (lv_at hl 0 rfl) ?_
  refine lv_iload_n hx hb dL_crash_3 rfl (lv_at hl 1 rfl) ?_
  refine lv_iload_n hx hb dL_crash_4 rfl (lv_at hl 2 rfl) ?_
  refine bt_call (vx_runV (As := [.int p0, .int p1]) (rest := [.int 0, .ref o]) ⟨hx, hb, hml, hown, hts⟩ (c_crash_bad l hl9 G k _ _ x nd wy f g hF p0 h p1) (cwV 2 hts gL_crash_X3_crash rfl rfl rfl (by decide +kernel) ⟨(Nat.le_of_ble_eq_true rfl), (Nat.le_of_ble_eq_true rfl)⟩) (PR.preV hI hS hA hP (ci := 3) rfl h0) rfl rfl hl.1 rfl (lv_room (Nat.le_of_ble_eq_true rfl)) dL_crash_5 ⟨(Nat.le_of_ble_eq_true rfl), (Nat.le_of_ble_eq_true rfl)⟩) (fun _ _ _ h => h) hS hA (fun q h => Or.inr (Nat.le_trans hS.1 h)) (fun ce q9 H1 locs1 hH hS h1 h2 h3 => ?_)
  refine vx_catch hown [] ⟨0, 10, 13, 13⟩ [⟨0, 10, 17, 21⟩, ⟨0, 10, 21, 15⟩] (htb.trans rfl) (fun _ h => absurd h List.not_mem_nil) rfl (by decide) (name := Ioob) (hts _ (by decide +kernel)) (va_Nw.use rfl (hI.2.2.2.1.2.1 Ioob (by decide +kernel))) h1 h2 h3 ?_
  refine W.eq (g2 := F0 m 13 ls [.ref q9]) rfl ?_
  refine lv_astore (lv' := [(4, .ref q9), (0, .ref x), (1, .int p0), (2, .int p1), (3, .ref o)]) hx hb dL_crash_13 hl (by decide) rfl (fun ls hl => ?_)
  refine lv_iconst (v := 1) hx hb dL_crash_15 (by decide) ?_
  exact vx_ret (W.iret (v := 1) hx hb hr (fun t ht hW => ⟨⟨1, fo 0, rfl, ⟨rfl, fun h => absurd h (by decide)⟩, fo, by rw [ht]; exact (wL_one hP).old hH, rfl⟩, hS.F ht⟩) hS.2.2 dL_crash_16)
set_option maxHeartbeats 4000000 in
set_option maxRecDepth 100000 in
/-- the caller of follow, bad -/
theorem cL_follow_bad (l : Launch) (hl9 : l.stackTraces = false) (G : va_G) (k : Nat → ClassId) (wx : va_W) (o : Nat) (fo : Nat → Int64) (sz : Nat) (x nd wy : Nat) (f g : Nat → Option Nat) (hF : FX k wx x nd wy f g) (p0 : Int32) (h : bdN p0) (p1 : Int32) : vx_Met l yL_follow wsL_follow (rzk 3 1 6) (PL G k sz (wL k wx o fo) [.ref x, .int p0, .int p1]) (QL G k o 1 0 (va_A (wL k wx o fo) sz)) (fun _ _ _ => False) 1 6 (va_A (wL k wx o fo) sz) := by
  refine vx_ofWH (cc := cL_follow) (maxL := 4) (ret := some .int) (hh := [(0, 6, 9, 13), (0, 6, 12, 15), (0, 6, 15, 21)]) (by decide) rfl ?_
  intro p e s m args below meth c s₁ B hml hv
  obtain ⟨rfl, hsz, hP, hD0, hI⟩ := hv
  subst hsz
  have hK := hI.1
  have hD := hD0.self (sz := s.heap.size)
  have hA : ∀ q : Nat, s.heap.size ≤ q → va_A (wL k wx o fo) s.heap.size q := fun _ h => Or.inr h
  have hS : va_S (va_A (wL k wx o fo) s.heap.size) s.heap s.heap [] := va_S.rf
  have hF := hF.mono (ws' := wL k wx o fo) (fun _ h => List.mem_append_left _ h)
  obtain ⟨kx, h0⟩ := List.getElem?_of_mem hF.1
  have hx := B.exec
  have hb := B.bytes
  have hr := B.returns
  have hts := atoms_spec (ws := wsL_follow) B.pre
  have htb := vx_table (x := yL_follow) B (hts _ List.mem_cons_self)
  have hown : s.vm.findClass RL = some m.cls := findClass_of_methodNamed B.named
  have hlocks := B.notSynchronized
  have hl := lv_entry ([.ref x, .int p0, .int p1]) (n := 4) (Nat.le_of_ble_eq_true rfl)
  rw [lg_entry_eq]
  generalize (lg_sl ([.ref x, .int p0, .int p1]) ++ List.replicate (4 - (lg_sl ([.ref x, .int p0, .int p1])).length) Slot.unset).toArray = ls at hl ⊢
  have hl : lv_has ls 4 [(0, .ref x), (1, .int p0), (2, .int p1)] := hl
  refine lv_aload_n hx hb dL_follow_0 rfl (lv_at hl 0 rfl) ?_
  refine lv_iload_n hx hb dL_follow_1 rfl (lv_at hl 1 rfl) ?_
  refine lv_iload_n hx hb dL_follow_2 rfl (lv_at hl 2 rfl) ?_
  refine bt_call (vx_runV (As := [.int p0, .int p1]) (rest := []) ⟨hx, hb, hml, hown, hts⟩ (c_follow_bad l hl9 G k _ _ x nd wy f g hF p0 h p1) (cwV 2 hts gL_follow_X3_follow rfl rfl rfl (by decide +kernel) ⟨(Nat.le_of_ble_eq_true rfl), (Nat.le_of_ble_eq_true rfl)⟩) (PR.preV hI hS hA hP (ci := 3) rfl h0) rfl rfl hl.1 rfl (lv_room (Nat.le_of_ble_eq_true rfl)) dL_follow_3 ⟨(Nat.le_of_ble_eq_true rfl), (Nat.le_of_ble_eq_true rfl)⟩) (fun _ _ _ h => h) hS hA (fun q h => Or.inr (Nat.le_trans hS.1 h)) (fun ce q9 H1 locs1 hH hS h1 h2 h3 => ?_)
  refine vx_catch hown [] ⟨0, 6, 9, 13⟩ [⟨0, 6, 12, 15⟩, ⟨0, 6, 15, 21⟩] (htb.trans rfl) (fun _ h => absurd h List.not_mem_nil) rfl (by decide) (name := Ioob) (hts _ (by decide +kernel)) (va_Nw.use rfl (hI.2.2.2.1.2.1 Ioob (by decide +kernel))) h1 h2 h3 ?_
  refine W.eq (g2 := F0 m 9 ls [.ref q9]) rfl ?_
  refine lv_astore_n (lv' := [(3, .ref q9), (0, .ref x), (1, .int p0), (2, .int p1)]) hx hb dL_follow_9 rfl hl (by decide) rfl (fun ls hl => ?_)
  refine lv_iconst (v := 1) hx hb dL_follow_10 (by decide) ?_
  exact vx_ret (W.iret (v := 1) hx hb hr (fun t ht hW => ⟨⟨1, fo 0, rfl, ⟨rfl, fun h => absurd h (by decide)⟩, fo, by rw [ht]; exact (wL_one hP).old hH, rfl⟩, hS.F ht⟩) hS.2.2 dL_follow_11)
set_option maxHeartbeats 4000000 in
set_option maxRecDepth 100000 in
/-- the caller of rewind, bad -/
theorem cL_rewind_bad (l : Launch) (hl9 : l.stackTraces = false) (G : va_G) (k : Nat → ClassId) (wx : va_W) (o : Nat) (fo : Nat → Int64) (sz : Nat) (x nd wy : Nat) (f g : Nat → Option Nat) (hF : FX k wx x nd wy f g) (p0 : Int32) (h : bdN p0) (p1 : Int32) : vx_Met l yL_rewind wsL_rewind (rzk 3 1 6) (PL G k sz (wL k wx o fo) [.ref x, .int p0, .int p1, .ref o]) (QL G k o 1 0 (va_A (wL k wx o fo) sz)) (fun _ _ _ => False) 1 6 (va_A (wL k wx o fo) sz) := by
  refine vx_ofWH (cc := cL_rewind) (maxL := 5) (ret := some .int) (hh := [(0, 10, 13, 13), (0, 10, 17, 15)]) (by decide) rfl ?_
  intro p e s m args below meth c s₁ B hml hv
  obtain ⟨rfl, hsz, hP, hD0, hI⟩ := hv
  subst hsz
  have hK := hI.1
  have hD := hD0.self (sz := s.heap.size)
  have hA : ∀ q : Nat, s.heap.size ≤ q → va_A (wL k wx o fo) s.heap.size q := fun _ h => Or.inr h
  have hS : va_S (va_A (wL k wx o fo) s.heap.size) s.heap s.heap [] := va_S.rf
  have hF := hF.mono (ws' := wL k wx o fo) (fun _ h => List.mem_append_left _ h)
  obtain ⟨kx, h0⟩ := List.getElem?_of_mem hF.1
  have hx := B.exec
  have hb := B.bytes
  have hr := B.returns
  have hts := atoms_spec (ws := wsL_rewind) B.pre
  have htb := vx_table (x := yL_rewind) B (hts _ List.mem_cons_self)
  have hown : s.vm.findClass RL = some m.cls := findClass_of_methodNamed B.named
  have hlocks := B.notSynchronized
  have hl := lv_entry ([.ref x, .int p0, .int p1, .ref o]) (n := 5) (Nat.le_of_ble_eq_true rfl)
  rw [lg_entry_eq]
  generalize (lg_sl ([.ref x, .int p0, .int p1, .ref o]) ++ List.replicate (5 - (lg_sl ([.ref x, .int p0, .int p1, .ref o])).length) Slot.unset).toArray = ls at hl ⊢
  have hl : lv_has ls 5 [(0, .ref x), (1, .int p0), (2, .int p1), (3, .ref o)] := hl
  refine lv_aload_n hx hb dL_rewind_0 rfl (lv_at hl 3 rfl) ?_
  refine lv_iconst (v := 0) hx hb dL_rewind_1 (by decide) ?_
  refine lv_aload_n hx hb dL_rewind_2 rfl (lv_at hl 0 rfl) ?_
  refine lv_iload_n hx hb dL_rewind_3 rfl (lv_at hl 1 rfl) ?_
  refine lv_iload_n hx hb dL_rewind_4 rfl (lv_at hl 2 rfl) ?_
  refine bt_call (vx_runV (As := [.int p0, .int p1]) (rest := [.int 0, .ref o]) ⟨hx, hb, hml, hown, hts⟩ (c_rewind_bad l hl9 G k _ _ x nd wy f g hF p0 h p1) (cwV 2 hts gL_rewind_X3_rewind rfl rfl rfl (by decide +kernel) ⟨(Nat.le_of_ble_eq_true rfl), (Nat.le_of_ble_eq_true rfl)⟩) (PR.preV hI hS hA hP (ci := 3) rfl h0) rfl rfl hl.1 rfl (lv_room (Nat.le_of_ble_eq_true rfl)) dL_rewind_5 ⟨(Nat.le_of_ble_eq_true rfl), (Nat.le_of_ble_eq_true rfl)⟩) (fun _ _ _ h => h) hS hA (fun q h => Or.inr (Nat.le_trans hS.1 h)) (fun ce q9 H1 locs1 hH hS h1 h2 h3 => ?_)
  refine vx_catch hown [] ⟨0, 10, 13, 13⟩ [⟨0, 10, 17, 15⟩] (htb.trans rfl) (fun _ h => absurd h List.not_mem_nil) rfl (by decide) (name := Ioob) (hts _ (by decide +kernel)) (va_Nw.use rfl (hI.2.2.2.1.2.1 Ioob (by decide +kernel))) h1 h2 h3 ?_
  refine W.eq (g2 := F0 m 13 ls [.ref q9]) rfl ?_
  refine lv_astore (lv' := [(4, .ref q9), (0, .ref x), (1, .int p0), (2, .int p1), (3, .ref o)]) hx hb dL_rewind_13 hl (by decide) rfl (fun ls hl => ?_)
  refine lv_iconst (v := 1) hx hb dL_rewind_15 (by decide) ?_
  exact vx_ret (W.iret (v := 1) hx hb hr (fun t ht hW => ⟨⟨1, fo 0, rfl, ⟨rfl, fun h => absurd h (by decide)⟩, fo, by rw [ht]; exact (wL_one hP).old hH, rfl⟩, hS.F ht⟩) hS.2.2 dL_rewind_16)
set_option maxHeartbeats 4000000 in
set_option maxRecDepth 100000 in
/-- the caller of standby, bad -/
theorem cL_standby_bad (l : Launch) (hl9 : l.stackTraces = false) (G : va_G) (k : Nat → ClassId) (wx : va_W) (o : Nat) (fo : Nat → Int64) (sz : Nat) (x nd wy : Nat) (f g : Nat → Option Nat) (hF : FX k wx x nd wy f g) (p0 : Int32) (h : bdN p0) (p1 : Int32) : vx_Met l yL_standby wsL_standby (rzk 3 1 6) (PL G k sz (wL k wx o fo) [.ref x, .int p0, .int p1, .ref o]) (QL G k o 1 0 (va_A (wL k wx o fo) sz)) (fun _ _ _ => False) 1 6 (va_A (wL k wx o fo) sz) := by
  refine vx_ofWH (cc := cL_standby) (maxL := 5) (ret := some .int) (hh := [(0, 10, 13, 13), (0, 10, 17, 15), (0, 10, 21, 21)]) (by decide) rfl ?_
  intro p e s m args below meth c s₁ B hml hv
  obtain ⟨rfl, hsz, hP, hD0, hI⟩ := hv
  subst hsz
  have hK := hI.1
  have hD := hD0.self (sz := s.heap.size)
  have hA : ∀ q : Nat, s.heap.size ≤ q → va_A (wL k wx o fo) s.heap.size q := fun _ h => Or.inr h
  have hS : va_S (va_A (wL k wx o fo) s.heap.size) s.heap s.heap [] := va_S.rf
  have hF := hF.mono (ws' := wL k wx o fo) (fun _ h => List.mem_append_left _ h)
  obtain ⟨kx, h0⟩ := List.getElem?_of_mem hF.1
  have hx := B.exec
  have hb := B.bytes
  have hr := B.returns
  have hts := atoms_spec (ws := wsL_standby) B.pre
  have htb := vx_table (x := yL_standby) B (hts _ List.mem_cons_self)
  have hown : s.vm.findClass RL = some m.cls := findClass_of_methodNamed B.named
  have hlocks := B.notSynchronized
  have hl := lv_entry ([.ref x, .int p0, .int p1, .ref o]) (n := 5) (Nat.le_of_ble_eq_true rfl)
  rw [lg_entry_eq]
  generalize (lg_sl ([.ref x, .int p0, .int p1, .ref o]) ++ List.replicate (5 - (lg_sl ([.ref x, .int p0, .int p1, .ref o])).length) Slot.unset).toArray = ls at hl ⊢
  have hl : lv_has ls 5 [(0, .ref x), (1, .int p0), (2, .int p1), (3, .ref o)] := hl
  refine lv_aload_n hx hb dL_standby_0 rfl (lv_at hl 3 rfl) ?_
  refine lv_iconst (v := 0) hx hb dL_standby_1 (by decide) ?_
  refine lv_aload_n hx hb dL_standby_2 rfl (lv_at hl 0 rfl) ?_
  refine lv_iload_n hx hb dL_standby_3 rfl (lv_at hl 1 rfl) ?_
  refine lv_iload_n hx hb dL_standby_4 rfl (lv_at hl 2 rfl) ?_
  refine bt_call (vx_runV (As := [.int p0, .int p1]) (rest := [.int 0, .ref o]) ⟨hx, hb, hml, hown, hts⟩ (c_standby_bad l hl9 G k _ _ x nd wy f g hF p0 h p1) (cwV 2 hts gL_standby_X3_standby rfl rfl rfl (by decide +kernel) ⟨(Nat.le_of_ble_eq_true rfl), (Nat.le_of_ble_eq_true rfl)⟩) (PR.preV hI hS hA hP (ci := 3) rfl h0) rfl rfl hl.1 rfl (lv_room (Nat.le_of_ble_eq_true rfl)) dL_standby_5 ⟨(Nat.le_of_ble_eq_true rfl), (Nat.le_of_ble_eq_true rfl)⟩) (fun _ _ _ h => h) hS hA (fun q h => Or.inr (Nat.le_trans hS.1 h)) (fun ce q9 H1 locs1 hH hS h1 h2 h3 => ?_)
  refine vx_catch hown [] ⟨0, 10, 13, 13⟩ [⟨0, 10, 17, 15⟩, ⟨0, 10, 21, 21⟩] (htb.trans rfl) (fun _ h => absurd h List.not_mem_nil) rfl (by decide) (name := Ioob) (hts _ (by decide +kernel)) (va_Nw.use rfl (hI.2.2.2.1.2.1 Ioob (by decide +kernel))) h1 h2 h3 ?_
  refine W.eq (g2 := F0 m 13 ls [.ref q9]) rfl ?_
  refine lv_astore (lv' := [(4, .ref q9), (0, .ref x), (1, .int p0), (2, .int p1), (3, .ref o)]) hx hb dL_standby_13 hl (by decide) rfl (fun ls hl => ?_)
  refine lv_iconst (v := 1) hx hb dL_standby_15 (by decide) ?_
  exact vx_ret (W.iret (v := 1) hx hb hr (fun t ht hW => ⟨⟨1, fo 0, rfl, ⟨rfl, fun h => absurd h (by decide)⟩, fo, by rw [ht]; exact (wL_one hP).old hH, rfl⟩, hS.F ht⟩) hS.2.2 dL_standby_16)
set_option maxHeartbeats 4000000 in
set_option maxRecDepth 100000 in
/-- the caller of send, bad -/
theorem cL_send_bad (l : Launch) (hl9 : l.stackTraces = false) (G : va_G) (k : Nat → ClassId) (wx : va_W) (o : Nat) (fo : Nat → Int64) (sz : Nat) (x nd wy : Nat) (f g : Nat → Option Nat) (hF : FX k wx x nd wy f g) (p0 : Int32) (h : bdN p0) (p1 : Int32) : vx_Met l yL_send wsL_send (rzk 3 1 6) (PL G k sz (wL k wx o fo) [.ref x, .int p0, .int p1, .ref o]) (QL G k o 1 0 (va_A (wL k wx o fo) sz)) (fun _ _ _ => False) 1 6 (va_A (wL k wx o fo) sz) := by
  refine vx_ofWH (cc := cL_send) (maxL := 5) (ret := some .int) (hh := [(0, 10, 13, 13), (0, 10, 17, 15), (0, 10, 21, 26), (0, 10, 25, 49)]) (by decide) rfl ?_
  intro p e s m args below meth c s₁ B hml hv
  obtain ⟨rfl, hsz, hP, hD0, hI⟩ := hv
  subst hsz
  have hK := hI.1
  have hD := hD0.self (sz := s.heap.size)
  have hA : ∀ q : Nat, s.heap.size ≤ q → va_A (wL k wx o fo) s.heap.size q := fun _ h => Or.inr h
  have hS : va_S (va_A (wL k wx o fo) s.heap.size) s.heap s.heap [] := va_S.rf
  have hF := hF.mono (ws' := wL k wx o fo) (fun _ h => List.mem_append_left _ h)
  obtain ⟨kx, h0⟩ := List.getElem?_of_mem hF.1
  have hx := B.exec
  have hb := B.bytes
  have hr := B.returns
  have hts := atoms_spec (ws := wsL_send) B.pre
  have htb := vx_table (x := yL_send) B (hts _ List.mem_cons_self)
  have hown : s.vm.findClass RL = some m.cls := findClass_of_methodNamed B.named
  have hlocks := B.notSynchronized
  have hl := lv_entry ([.ref x, .int p0, .int p1, .ref o]) (n := 5) (Nat.le_of_ble_eq_true rfl)
  rw [lg_entry_eq]
  generalize (lg_sl ([.ref x, .int p0, .int p1, .ref o]) ++ List.replicate (5 - (lg_sl ([.ref x, .int p0, .int p1, .ref o])).length) Slot.unset).toArray = ls at hl ⊢
  have hl : lv_has ls 5 [(0, .ref x), (1, .int p0), (2, .int p1), (3, .ref o)] := hl
  refine lv_aload_n hx hb dL_send_0 rfl (lv_at hl 3 rfl) ?_
  refine lv_iconst (v := 0) hx hb dL_send_1 (by decide) ?_
  refine lv_aload_n hx hb dL_send_2 rfl (lv_at hl 0 rfl) ?_
  refine lv_iload_n hx hb dL_send_3 rfl (lv_at hl 1 rfl) ?_
  refine lv_iload_n hx hb dL_send_4 rfl (lv_at hl 2 rfl) ?_
  refine bt_call (vx_runV (As := [.int p0, .int p1]) (rest := [.int 0, .ref o]) ⟨hx, hb, hml, hown, hts⟩ (c_send_bad l hl9 G k _ _ x nd wy f g hF p0 h p1) (cwV 2 hts gL_send_X3_send rfl rfl rfl (by decide +kernel) ⟨(Nat.le_of_ble_eq_true rfl), (Nat.le_of_ble_eq_true rfl)⟩) (PR.preV hI hS hA hP (ci := 3) rfl h0) rfl rfl hl.1 rfl (lv_room (Nat.le_of_ble_eq_true rfl)) dL_send_5 ⟨(Nat.le_of_ble_eq_true rfl), (Nat.le_of_ble_eq_true rfl)⟩) (fun _ _ _ h => h) hS hA (fun q h => Or.inr (Nat.le_trans hS.1 h)) (fun ce q9 H1 locs1 hH hS h1 h2 h3 => ?_)
  refine vx_catch hown [] ⟨0, 10, 13, 13⟩ [⟨0, 10, 17, 15⟩, ⟨0, 10, 21, 26⟩, ⟨0, 10, 25, 49⟩] (htb.trans rfl) (fun _ h => absurd h List.not_mem_nil) rfl (by decide) (name := Ioob) (hts _ (by decide +kernel)) (va_Nw.use rfl (hI.2.2.2.1.2.1 Ioob (by decide +kernel))) h1 h2 h3 ?_
  refine W.eq (g2 := F0 m 13 ls [.ref q9]) rfl ?_
  refine lv_astore (lv' := [(4, .ref q9), (0, .ref x), (1, .int p0), (2, .int p1), (3, .ref o)]) hx hb dL_send_13 hl (by decide) rfl (fun ls hl => ?_)
  refine lv_iconst (v := 1) hx hb dL_send_15 (by decide) ?_
  exact vx_ret (W.iret (v := 1) hx hb hr (fun t ht hW => ⟨⟨1, fo 0, rfl, ⟨rfl, fun h => absurd h (by decide)⟩, fo, by rw [ht]; exact (wL_one hP).old hH, rfl⟩, hS.F ht⟩) hS.2.2 dL_send_16)
set_option maxHeartbeats 4000000 in
set_option maxRecDepth 100000 in
/-- the caller of apply, bad -/
theorem cL_apply_bad (l : Launch) (hl9 : l.stackTraces = false) (G : va_G) (k : Nat → ClassId) (wx : va_W) (o : Nat) (fo : Nat → Int64) (sz : Nat) (x nd wy : Nat) (f g : Nat → Option Nat) (hF : FX k wx x nd wy f g) (p0 : Int32) (h : bdN p0) (p1 : Int32) : vx_Met l yL_apply wsL_apply (rzk 3 1 6) (PL G k sz (wL k wx o fo) [.ref x, .int p0, .int p1, .ref o]) (QL G k o 1 0 (va_A (wL k wx o fo) sz)) (fun _ _ _ => False) 1 6 (va_A (wL k wx o fo) sz) := by
  refine vx_ofWH (cc := cL_apply) (maxL := 5) (ret := some .int) (hh := [(0, 10, 13, 13), (0, 10, 17, 21), (0, 10, 21, 15)]) (by decide) rfl ?_
  intro p e s m args below meth c s₁ B hml hv
  obtain ⟨rfl, hsz, hP, hD0, hI⟩ := hv
  subst hsz
  have hK := hI.1
  have hD := hD0.self (sz := s.heap.size)
  have hA : ∀ q : Nat, s.heap.size ≤ q → va_A (wL k wx o fo) s.heap.size q := fun _ h => Or.inr h
  have hS : va_S (va_A (wL k wx o fo) s.heap.size) s.heap s.heap [] := va_S.rf
  have hF := hF.mono (ws' := wL k wx o fo) (fun _ h => List.mem_append_left _ h)
  obtain ⟨kx, h0⟩ := List.getElem?_of_mem hF.1
  have hx := B.exec
  have hb := B.bytes
  have hr := B.returns
  have hts := atoms_spec (ws := wsL_apply) B.pre
  have htb := vx_table (x := yL_apply) B (hts _ List.mem_cons_self)
  have hown : s.vm.findClass RL = some m.cls := findClass_of_methodNamed B.named
  have hlocks := B.notSynchronized
  have hl := lv_entry ([.ref x, .int p0, .int p1, .ref o]) (n := 5) (Nat.le_of_ble_eq_true rfl)
  rw [lg_entry_eq]
  generalize (lg_sl ([.ref x, .int p0, .int p1, .ref o]) ++ List.replicate (5 - (lg_sl ([.ref x, .int p0, .int p1, .ref o])).length) Slot.unset).toArray = ls at hl ⊢
  have hl : lv_has ls 5 [(0, .ref x), (1, .int p0), (2, .int p1), (3, .ref o)] := hl
  refine lv_aload_n hx hb dL_apply_0 rfl (lv_at hl 3 rfl) ?_
  refine lv_iconst (v := 0) hx hb dL_apply_1 (by decide) ?_
  refine lv_aload_n hx hb dL_apply_2 rfl (lv_at hl 0 rfl) ?_
  refine lv_iload_n hx hb dL_apply_3 rfl (lv_at hl 1 rfl) ?_
  refine lv_iload_n hx hb dL_apply_4 rfl (lv_at hl 2 rfl) ?_
  refine bt_call (vx_runV (As := [.int p0, .int p1]) (rest := [.int 0, .ref o]) ⟨hx, hb, hml, hown, hts⟩ (c_apply_bad l hl9 G k _ _ x nd wy f g hF p0 h p1) (cwV 2 hts gL_apply_X3_apply rfl rfl rfl (by decide +kernel) ⟨(Nat.le_of_ble_eq_true rfl), (Nat.le_of_ble_eq_true rfl)⟩) (PR.preV hI hS hA hP (ci := 3) rfl h0) rfl rfl hl.1 rfl (lv_room (Nat.le_of_ble_eq_true rfl)) dL_apply_5 ⟨(Nat.le_of_ble_eq_true rfl), (Nat.le_of_ble_eq_true rfl)⟩) (fun _ _ _ h => h) hS hA (fun q h => Or.inr (Nat.le_trans hS.1 h)) (fun ce q9 H1 locs1 hH hS h1 h2 h3 => ?_)
  refine vx_catch hown [] ⟨0, 10, 13, 13⟩ [⟨0, 10, 17, 21⟩, ⟨0, 10, 21, 15⟩] (htb.trans rfl) (fun _ h => absurd h List.not_mem_nil) rfl (by decide) (name := Ioob) (hts _ (by decide +kernel)) (va_Nw.use rfl (hI.2.2.2.1.2.1 Ioob (by decide +kernel))) h1 h2 h3 ?_
  refine W.eq (g2 := F0 m 13 ls [.ref q9]) rfl ?_
  refine lv_astore (lv' := [(4, .ref q9), (0, .ref x), (1, .int p0), (2, .int p1), (3, .ref o)]) hx hb dL_apply_13 hl (by decide) rfl (fun ls hl => ?_)
  refine lv_iconst (v := 1) hx hb dL_apply_15 (by decide) ?_
  exact vx_ret (W.iret (v := 1) hx hb hr (fun t ht hW => ⟨⟨1, fo 0, rfl, ⟨rfl, fun h => absurd h (by decide)⟩, fo, by rw [ht]; exact (wL_one hP).old hH, rfl⟩, hS.F ht⟩) hS.2.2 dL_apply_16)
set_option maxHeartbeats 4000000 in
set_option maxRecDepth 100000 in
/-- the caller of get, bad -/
theorem cL_get_bad (l : Launch) (hl9 : l.stackTraces = false) (G : va_G) (k : Nat → ClassId) (wx : va_W) (o : Nat) (fo : Nat → Int64) (sz : Nat) (x nd wy : Nat) (f g : Nat → Option Nat) (hF : FX k wx x nd wy f g) (p0 : Int32) (h : bdN p0) (p1 : Int32) : vx_Met l yL_get wsL_get (rzk 3 1 6) (PL G k sz (wL k wx o fo) [.ref x, .int p0, .int p1, .ref o]) (QL G k o 1 0 (va_A (wL k wx o fo) sz)) (fun _ _ _ => False) 1 6 (va_A (wL k wx o fo) sz) := by
  refine vx_ofWH (cc := cL_get) (maxL := 5) (ret := some .int) (hh := [(0, 10, 13, 13), (0, 10, 17, 15)]) (by decide) rfl ?_
  intro p e s m args below meth c s₁ B hml hv
  obtain ⟨rfl, hsz, hP, hD0, hI⟩ := hv
  subst hsz
  have hK := hI.1
  have hD := hD0.self (sz := s.heap.size)
  have hA : ∀ q : Nat, s.heap.size ≤ q → va_A (wL k wx o fo) s.heap.size q := fun _ h => Or.inr h
  have hS : va_S (va_A (wL k wx o fo) s.heap.size) s.heap s.heap [] := va_S.rf
  have hF := hF.mono (ws' := wL k wx o fo) (fun _ h => List.mem_append_left _ h)
  obtain ⟨kx, h0⟩ := List.getElem?_of_mem hF.1
  have hx := B.exec
  have hb := B.bytes
  have hr := B.returns
  have hts := atoms_spec (ws := wsL_get) B.pre
  have htb := vx_table (x := yL_get) B (hts _ List.mem_cons_self)
  have hown : s.vm.findClass RL = some m.cls := findClass_of_methodNamed B.named
  have hlocks := B.notSynchronized
  have hl := lv_entry ([.ref x, .int p0, .int p1, .ref o]) (n := 5) (Nat.le_of_ble_eq_true rfl)
  rw [lg_entry_eq]
  generalize (lg_sl ([.ref x, .int p0, .int p1, .ref o]) ++ List.replicate (5 - (lg_sl ([.ref x, .int p0, .int p1, .ref o])).length) Slot.unset).toArray = ls at hl ⊢
  have hl : lv_has ls 5 [(0, .ref x), (1, .int p0), (2, .int p1), (3, .ref o)] := hl
  refine lv_aload_n hx hb dL_get_0 rfl (lv_at hl 3 rfl) ?_
  refine lv_iconst (v := 0) hx hb dL_get_1 (by decide) ?_
  refine lv_aload_n hx hb dL_get_2 rfl (lv_at hl 0 rfl) ?_
  refine lv_iload_n hx hb dL_get_3 rfl (lv_at hl 1 rfl) ?_
  refine lv_iload_n hx hb dL_get_4 rfl (lv_at hl 2 rfl) ?_
  refine bt_call (vx_runV (As := [.int p0, .int p1]) (rest := [.int 0, .ref o]) ⟨hx, hb, hml, hown, hts⟩ (c_get_bad l hl9 G k _ _ x nd wy f g hF p0 h p1) (cwV 2 hts gL_get_X3_get rfl rfl rfl (by decide +kernel) ⟨(Nat.le_of_ble_eq_true rfl), (Nat.le_of_ble_eq_true rfl)⟩) (PR.preV hI hS hA hP (ci := 3) rfl h0) rfl rfl hl.1 rfl (lv_room (Nat.le_of_ble_eq_true rfl)) dL_get_5 ⟨(Nat.le_of_ble_eq_true rfl), (Nat.le_of_ble_eq_true rfl)⟩) (fun _ _ _ h => h) hS hA (fun q h => Or.inr (Nat.le_trans hS.1 h)) (fun ce q9 H1 locs1 hH hS h1 h2 h3 => ?_)
  refine vx_catch hown [] ⟨0, 10, 13, 13⟩ [⟨0, 10, 17, 15⟩] (htb.trans rfl) (fun _ h => absurd h List.not_mem_nil) rfl (by decide) (name := Ioob) (hts _ (by decide +kernel)) (va_Nw.use rfl (hI.2.2.2.1.2.1 Ioob (by decide +kernel))) h1 h2 h3 ?_
  refine W.eq (g2 := F0 m 13 ls [.ref q9]) rfl ?_
  refine lv_astore (lv' := [(4, .ref q9), (0, .ref x), (1, .int p0), (2, .int p1), (3, .ref o)]) hx hb dL_get_13 hl (by decide) rfl (fun ls hl => ?_)
  refine lv_iconst (v := 1) hx hb dL_get_15 (by decide) ?_
  exact vx_ret (W.iret (v := 1) hx hb hr (fun t ht hW => ⟨⟨1, fo 0, rfl, ⟨rfl, fun h => absurd h (by decide)⟩, fo, by rw [ht]; exact (wL_one hP).old hH, rfl⟩, hS.F ht⟩) hS.2.2 dL_get_16)
set_option maxHeartbeats 4000000 in
set_option maxRecDepth 100000 in
/-- the caller of node, bad -/
theorem cL_node_bad (l : Launch) (hl9 : l.stackTraces = false) (G : va_G) (k : Nat → ClassId) (wx : va_W) (o : Nat) (fo : Nat → Int64) (sz : Nat) (x nd wy : Nat) (f g : Nat → Option Nat) (hF : FX k wx x nd wy f g) (p0 : Int32) (h : bdN p0) (p1 : Int32) : vx_Met l yL_node wsL_node (rzk 3 1 6) (PL G k sz (wL k wx o fo) [.ref x, .int p0, .int p1, .ref o]) (QL G k o 1 0 (va_A (wL k wx o fo) sz)) (fun _ _ _ => False) 1 6 (va_A (wL k wx o fo) sz) := by
  refine vx_ofWH (cc := cL_node) (maxL := 5) (ret := some .int) (hh := [(0, 10, 13, 13)]) (by decide) rfl ?_
  intro p e s m args below meth c s₁ B hml hv
  obtain ⟨rfl, hsz, hP, hD0, hI⟩ := hv
  subst hsz
  have hK := hI.1
  have hD := hD0.self (sz := s.heap.size)
  have hA : ∀ q : Nat, s.heap.size ≤ q → va_A (wL k wx o fo) s.heap.size q := fun _ h => Or.inr h
  have hS : va_S (va_A (wL k wx o fo) s.heap.size) s.heap s.heap [] := va_S.rf
  have hF := hF.mono (ws' := wL k wx o fo) (fun _ h => List.mem_append_left _ h)
  obtain ⟨kx, h0⟩ := List.getElem?_of_mem hF.1
  have hx := B.exec
  have hb := B.bytes
  have hr := B.returns
  have hts := atoms_spec (ws := wsL_node) B.pre
  have htb := vx_table (x := yL_node) B (hts _ List.mem_cons_self)
  have hown : s.vm.findClass RL = some m.cls := findClass_of_methodNamed B.named
  have hlocks := B.notSynchronized
  have hl := lv_entry ([.ref x, .int p0, .int p1, .ref o]) (n := 5) (Nat.le_of_ble_eq_true rfl)
  rw [lg_entry_eq]
  generalize (lg_sl ([.ref x, .int p0, .int p1, .ref o]) ++ List.replicate (5 - (lg_sl ([.ref x, .int p0, .int p1, .ref o])).length) Slot.unset).toArray = ls at hl ⊢
  have hl : lv_has ls 5 [(0, .ref x), (1, .int p0), (2, .int p1), (3, .ref o)] := hl
  refine lv_aload_n hx hb dL_node_0 rfl (lv_at hl 3 rfl) ?_
  refine lv_iconst (v := 0) hx hb dL_node_1 (by decide) ?_
  refine lv_aload_n hx hb dL_node_2 rfl (lv_at hl 0 rfl) ?_
  refine lv_iload_n hx hb dL_node_3 rfl (lv_at hl 1 rfl) ?_
  refine lv_iload_n hx hb dL_node_4 rfl (lv_at hl 2 rfl) ?_
  refine bt_call (vx_runV (As := [.int p0, .int p1]) (rest := [.int 0, .ref o]) ⟨hx, hb, hml, hown, hts⟩ (c_node_bad l hl9 G k _ _ x nd wy f g hF p0 h p1) (cwV 2 hts gL_node_X3_node rfl rfl rfl (by decide +kernel) ⟨(Nat.le_of_ble_eq_true rfl), (Nat.le_of_ble_eq_true rfl)⟩) (PR.preV hI hS hA hP (ci := 3) rfl h0) rfl rfl hl.1 rfl (lv_room (Nat.le_of_ble_eq_true rfl)) dL_node_5 ⟨(Nat.le_of_ble_eq_true rfl), (Nat.le_of_ble_eq_true rfl)⟩) (fun _ _ _ h => h) hS hA (fun q h => Or.inr (Nat.le_trans hS.1 h)) (fun ce q9 H1 locs1 hH hS h1 h2 h3 => ?_)
  refine vx_catch hown [] ⟨0, 10, 13, 13⟩ [] (htb.trans rfl) (fun _ h => absurd h List.not_mem_nil) rfl (by decide) (name := Ioob) (hts _ (by decide +kernel)) (va_Nw.use rfl (hI.2.2.2.1.2.1 Ioob (by decide +kernel))) h1 h2 h3 ?_
  refine W.eq (g2 := F0 m 13 ls [.ref q9]) rfl ?_
  refine lv_astore (lv' := [(4, .ref q9), (0, .ref x), (1, .int p0), (2, .int p1), (3, .ref o)]) hx hb dL_node_13 hl (by decide) rfl (fun ls hl => ?_)
  refine lv_iconst (v := 1) hx hb dL_node_15 (by decide) ?_
  exact vx_ret (W.iret (v := 1) hx hb hr (fun t ht hW => ⟨⟨1, fo 0, rfl, ⟨rfl, fun h => absurd h (by decide)⟩, fo, by rw [ht]; exact (wL_one hP).old hH, rfl⟩, hS.F ht⟩) hS.2.2 dL_node_16)
set_option maxHeartbeats 4000000 in
set_option maxRecDepth 100000 in
/-- the caller of put, bad -/
theorem cL_put_bad (l : Launch) (hl9 : l.stackTraces = false) (G : va_G) (k : Nat → ClassId) (wx : va_W) (o : Nat) (fo : Nat → Int64) (sz : Nat) (x nd wy : Nat) (f g : Nat → Option Nat) (hF : FX k wx x nd wy f g) (p0 : Int32) (h : bdN p0) (p1 p2 : Int32) : vx_Met l yL_put wsL_put (rzk 3 1 6) (PL G k sz (wL k wx o fo) [.ref x, .int p0, .int p1, .int p2, .ref o]) (QL G k o 1 0 (va_A (wL k wx o fo) sz)) (fun _ _ _ => False) 1 6 (va_A (wL k wx o fo) sz) := by
  refine vx_ofWH (cc := cL_put) (maxL := 6) (ret := some .int) (hh := [(0, 12, 15, 13), (0, 12, 19, 15), (0, 12, 23, 21), (0, 12, 27, 26)]) (by decide) rfl ?_
  intro p e s m args below meth c s₁ B hml hv
  obtain ⟨rfl, hsz, hP, hD0, hI⟩ := hv
  subst hsz
  have hK := hI.1
  have hD := hD0.self (sz := s.heap.size)
  have hA : ∀ q : Nat, s.heap.size ≤ q → va_A (wL k wx o fo) s.heap.size q := fun _ h => Or.inr h
  have hS : va_S (va_A (wL k wx o fo) s.heap.size) s.heap s.heap [] := va_S.rf
  have hF := hF.mono (ws' := wL k wx o fo) (fun _ h => List.mem_append_left _ h)
  obtain ⟨kx, h0⟩ := List.getElem?_of_mem hF.1
  have hx := B.exec
  have hb := B.bytes
  have hr := B.returns
  have hts := atoms_spec (ws := wsL_put) B.pre
  have htb := vx_table (x := yL_put) B (hts _ List.mem_cons_self)
  have hown : s.vm.findClass RL = some m.cls := findClass_of_methodNamed B.named
  have hlocks := B.notSynchronized
  have hl := lv_entry ([.ref x, .int p0, .int p1, .int p2, .ref o]) (n := 6) (Nat.le_of_ble_eq_true rfl)
  rw [lg_entry_eq]
  generalize (lg_sl ([.ref x, .int p0, .int p1, .int p2, .ref o]) ++ List.replicate (6 - (lg_sl ([.ref x, .int p0, .int p1, .int p2, .ref o])).length) Slot.unset).toArray = ls at hl ⊢
  have hl : lv_has ls 6 [(0, .ref x), (1, .int p0), (2, .int p1), (3, .int p2), (4, .ref o)] := hl
  refine lv_aload hx hb dL_put_0 (lv_at hl 4 rfl) ?_
  refine lv_iconst (v := 0) hx hb dL_put_2 (by decide) ?_
  refine lv_aload_n hx hb dL_put_3 rfl (lv_at hl 0 rfl) ?_
  refine lv_iload_n hx hb dL_put_4 rfl (lv_at hl 1 rfl) ?_
  refine lv_iload_n hx hb dL_put_5 rfl (lv_at hl 2 rfl) ?_
  refine lv_iload_n hx hb dL_put_6 rfl (lv_at hl 3 rfl) ?_
  refine bt_call (vx_runV (As := [.int p0, .int p1, .int p2]) (rest := [.int 0, .ref o]) ⟨hx, hb, hml, hown, hts⟩ (c_put_bad l hl9 G k _ _ x nd wy f g hF p0 h p1 p2) (cwV 3 hts gL_put_X3_put rfl rfl rfl (by decide +kernel) ⟨(Nat.le_of_ble_eq_true rfl), (Nat.le_of_ble_eq_true rfl)⟩) (PR.preV hI hS hA hP (ci := 3) rfl h0) rfl rfl hl.1 rfl (lv_room (Nat.le_of_ble_eq_true rfl)) dL_put_7 ⟨(Nat.le_of_ble_eq_true rfl), (Nat.le_of_ble_eq_true rfl)⟩) (fun _ _ _ h => h) hS hA (fun q h => Or.inr (Nat.le_trans hS.1 h)) (fun ce q9 H1 locs1 hH hS h1 h2 h3 => ?_)
  refine vx_catch hown [] ⟨0, 12, 15, 13⟩ [⟨0, 12, 19, 15⟩, ⟨0, 12, 23, 21⟩, ⟨0, 12, 27, 26⟩] (htb.trans rfl) (fun _ h => absurd h List.not_mem_nil) rfl (by decide) (name := Ioob) (hts _ (by decide +kernel)) (va_Nw.use rfl (hI.2.2.2.1.2.1 Ioob (by decide +kernel))) h1 h2 h3 ?_
  refine W.eq (g2 := F0 m 15 ls [.ref q9]) rfl ?_
  refine lv_astore (lv' := [(5, .ref q9), (0, .ref x), (1, .int p0), (2, .int p1), (3, .int p2), (4, .ref o)]) hx hb dL_put_15 hl (by decide) rfl (fun ls hl => ?_)
  refine lv_iconst (v := 1) hx hb dL_put_17 (by decide) ?_
  exact vx_ret (W.iret (v := 1) hx hb hr (fun t ht hW => ⟨⟨1, fo 0, rfl, ⟨rfl, fun h => absurd h (by decide)⟩, fo, by rw [ht]; exact (wL_one hP).old hH, rfl⟩, hS.F ht⟩) hS.2.2 dL_put_18)
set_option maxHeartbeats 4000000 in
set_option maxRecDepth 100000 in
/-- the caller of byteAt, bad -/
theorem cL_byteAt_bad (l : Launch) (hl9 : l.stackTraces = false) (G : va_G) (k : Nat → ClassId) (wx : va_W) (o : Nat) (fo : Nat → Int64) (sz : Nat) (x nd wy : Nat) (f g : Nat → Option Nat) (hF : FX k wx x nd wy f g) (p0 : Int32) (h : bdN p0) (p1 p2 : Int32) : vx_Met l yL_byteAt wsL_byteAt (rzk 3 1 6) (PL G k sz (wL k wx o fo) [.ref x, .int p0, .int p1, .int p2, .ref o]) (QL G k o 1 0 (va_A (wL k wx o fo) sz)) (fun _ _ _ => False) 1 6 (va_A (wL k wx o fo) sz) := by
  refine vx_ofWH (cc := cL_byteAt) (maxL := 6) (ret := some .int) (hh := [(0, 12, 15, 13)]) (by decide) rfl ?_
  intro p e s m args below meth c s₁ B hml hv
  obtain ⟨rfl, hsz, hP, hD0, hI⟩ := hv
  subst hsz
  have hK := hI.1
  have hD := hD0.self (sz := s.heap.size)
  have hA : ∀ q : Nat, s.heap.size ≤ q → va_A (wL k wx o fo) s.heap.size q := fun _ h => Or.inr h
  have hS : va_S (va_A (wL k wx o fo) s.heap.size) s.heap s.heap [] := va_S.rf
  have hF := hF.mono (ws' := wL k wx o fo) (fun _ h => List.mem_append_left _ h)
  obtain ⟨kx, h0⟩ := List.getElem?_of_mem hF.1
  have hx := B.exec
  have hb := B.bytes
  have hr := B.returns
  have hts := atoms_spec (ws := wsL_byteAt) B.pre
  have htb := vx_table (x := yL_byteAt) B (hts _ List.mem_cons_self)
  have hown : s.vm.findClass RL = some m.cls := findClass_of_methodNamed B.named
  have hlocks := B.notSynchronized
  have hl := lv_entry ([.ref x, .int p0, .int p1, .int p2, .ref o]) (n := 6) (Nat.le_of_ble_eq_true rfl)
  rw [lg_entry_eq]
  generalize (lg_sl ([.ref x, .int p0, .int p1, .int p2, .ref o]) ++ List.replicate (6 - (lg_sl ([.ref x, .int p0, .int p1, .int p2, .ref o])).length) Slot.unset).toArray = ls at hl ⊢
  have hl : lv_has ls 6 [(0, .ref x), (1, .int p0), (2, .int p1), (3, .int p2), (4, .ref o)] := hl
  refine lv_aload hx hb dL_byteAt_0 (lv_at hl 4 rfl) ?_
  refine lv_iconst (v := 0) hx hb dL_byteAt_2 (by decide) ?_
  refine lv_aload_n hx hb dL_byteAt_3 rfl (lv_at hl 0 rfl) ?_
  refine lv_iload_n hx hb dL_byteAt_4 rfl (lv_at hl 1 rfl) ?_
  refine lv_iload_n hx hb dL_byteAt_5 rfl (lv_at hl 2 rfl) ?_
  refine lv_iload_n hx hb dL_byteAt_6 rfl (lv_at hl 3 rfl) ?_
  refine bt_call (vx_runV (As := [.int p0, .int p1, .int p2]) (rest := [.int 0, .ref o]) ⟨hx, hb, hml, hown, hts⟩ (c_byteAt_bad l hl9 G k _ _ x nd wy f g hF p0 h p1 p2) (cwV 3 hts gL_byteAt_X3_byteAt rfl rfl rfl (by decide +kernel) ⟨(Nat.le_of_ble_eq_true rfl), (Nat.le_of_ble_eq_true rfl)⟩) (PR.preV hI hS hA hP (ci := 3) rfl h0) rfl rfl hl.1 rfl (lv_room (Nat.le_of_ble_eq_true rfl)) dL_byteAt_7 ⟨(Nat.le_of_ble_eq_true rfl), (Nat.le_of_ble_eq_true rfl)⟩) (fun _ _ _ h => h) hS hA (fun q h => Or.inr (Nat.le_trans hS.1 h)) (fun ce q9 H1 locs1 hH hS h1 h2 h3 => ?_)
  refine vx_catch hown [] ⟨0, 12, 15, 13⟩ [] (htb.trans rfl) (fun _ h => absurd h List.not_mem_nil) rfl (by decide) (name := Ioob) (hts _ (by decide +kernel)) (va_Nw.use rfl (hI.2.2.2.1.2.1 Ioob (by decide +kernel))) h1 h2 h3 ?_
  refine W.eq (g2 := F0 m 15 ls [.ref q9]) rfl ?_
  refine lv_astore (lv' := [(5, .ref q9), (0, .ref x), (1, .int p0), (2, .int p1), (3, .int p2), (4, .ref o)]) hx hb dL_byteAt_15 hl (by decide) rfl (fun ls hl => ?_)
  refine lv_iconst (v := 1) hx hb dL_byteAt_17 (by decide) ?_
  exact vx_ret (W.iret (v := 1) hx hb hr (fun t ht hW => ⟨⟨1, fo 0, rfl, ⟨rfl, fun h => absurd h (by decide)⟩, fo, by rw [ht]; exact (wL_one hP).old hH, rfl⟩, hS.F ht⟩) hS.2.2 dL_byteAt_18)
set_option maxHeartbeats 4000000 in
set_option maxRecDepth 100000 in
/-- the caller of link, bad -/
theorem cL_link_bad (l : Launch) (hl9 : l.stackTraces = false) (G : va_G) (k : Nat → ClassId) (wx : va_W) (o : Nat) (fo : Nat → Int64) (sz : Nat) (x nd wy : Nat) (f g : Nat → Option Nat) (hF : FX k wx x nd wy f g) (p0 : Int32) (h : bdN p0) (p1 p2 : Int32) : vx_Met l yL_link wsL_link (rzk 3 1 6) (PL G k sz (wL k wx o fo) [.ref x, .int p0, .int p1, .int p2, .ref o]) (QL G k o 1 0 (va_A (wL k wx o fo) sz)) (fun _ _ _ => False) 1 6 (va_A (wL k wx o fo) sz) := by
  refine vx_ofWH (cc := cL_link) (maxL := 6) (ret := some .int) (hh := [(0, 12, 15, 13), (0, 12, 19, 15)]) (by decide) rfl ?_
  intro p e s m args below meth c s₁ B hml hv
  obtain ⟨rfl, hsz, hP, hD0, hI⟩ := hv
  subst hsz
  have hK := hI.1
  have hD := hD0.self (sz := s.heap.size)
  have hA : ∀ q : Nat, s.heap.size ≤ q → va_A (wL k wx o fo) s.heap.size q := fun _ h => Or.inr h
  have hS : va_S (va_A (wL k wx o fo) s.heap.size) s.heap s.heap [] := va_S.rf
  have hF := hF.mono (ws' := wL k wx o fo) (fun _ h => List.mem_append_left _ h)
  obtain ⟨kx, h0⟩ := List.getElem?_of_mem hF.1
  have hx := B.exec
  have hb := B.bytes
  have hr := B.returns
  have hts := atoms_spec (ws := wsL_link) B.pre
  have htb := vx_table (x := yL_link) B (hts _ List.mem_cons_self)
  have hown : s.vm.findClass RL = some m.cls := findClass_of_methodNamed B.named
  have hlocks := B.notSynchronized
  have hl := lv_entry ([.ref x, .int p0, .int p1, .int p2, .ref o]) (n := 6) (Nat.le_of_ble_eq_true rfl)
  rw [lg_entry_eq]
  generalize (lg_sl ([.ref x, .int p0, .int p1, .int p2, .ref o]) ++ List.replicate (6 - (lg_sl ([.ref x, .int p0, .int p1, .int p2, .ref o])).length) Slot.unset).toArray = ls at hl ⊢
  have hl : lv_has ls 6 [(0, .ref x), (1, .int p0), (2, .int p1), (3, .int p2), (4, .ref o)] := hl
  refine lv_aload hx hb dL_link_0 (lv_at hl 4 rfl) ?_
  refine lv_iconst (v := 0) hx hb dL_link_2 (by decide) ?_
  refine lv_aload_n hx hb dL_link_3 rfl (lv_at hl 0 rfl) ?_
  refine lv_iload_n hx hb dL_link_4 rfl (lv_at hl 1 rfl) ?_
  refine lv_iload_n hx hb dL_link_5 rfl (lv_at hl 2 rfl) ?_
  refine lv_iload_n hx hb dL_link_6 rfl (lv_at hl 3 rfl) ?_
  refine bt_call (vx_runV (As := [.int p0, .int p1, .int p2]) (rest := [.int 0, .ref o]) ⟨hx, hb, hml, hown, hts⟩ (c_link_bad l hl9 G k _ _ x nd wy f g hF p0 h p1 p2) (cwV 3 hts gL_link_X3_link rfl rfl rfl (by decide +kernel) ⟨(Nat.le_of_ble_eq_true rfl), (Nat.le_of_ble_eq_true rfl)⟩) (PR.preV hI hS hA hP (ci := 3) rfl h0) rfl rfl hl.1 rfl (lv_room (Nat.le_of_ble_eq_true rfl)) dL_link_7 ⟨(Nat.le_of_ble_eq_true rfl), (Nat.le_of_ble_eq_true rfl)⟩) (fun _ _ _ h => h) hS hA (fun q h => Or.inr (Nat.le_trans hS.1 h)) (fun ce q9 H1 locs1 hH hS h1 h2 h3 => ?_)
  refine vx_catch hown [] ⟨0, 12, 15, 13⟩ [⟨0, 12, 19, 15⟩] (htb.trans rfl) (fun _ h => absurd h List.not_mem_nil) rfl (by decide) (name := Ioob) (hts _ (by decide +kernel)) (va_Nw.use rfl (hI.2.2.2.1.2.1 Ioob (by decide +kernel))) h1 h2 h3 ?_
  refine W.eq (g2 := F0 m 15 ls [.ref q9]) rfl ?_
  refine lv_astore (lv' := [(5, .ref q9), (0, .ref x), (1, .int p0), (2, .int p1), (3, .int p2), (4, .ref o)]) hx hb dL_link_15 hl (by decide) rfl (fun ls hl => ?_)
  refine lv_iconst (v := 1) hx hb dL_link_17 (by decide) ?_
  exact vx_ret (W.iret (v := 1) hx hb hr (fun t ht hW => ⟨⟨1, fo 0, rfl, ⟨rfl, fun h => absurd h (by decide)⟩, fo, by rw [ht]; exact (wL_one hP).old hH, rfl⟩, hS.F ht⟩) hS.2.2 dL_link_18)
set_option maxHeartbeats 4000000 in
set_option maxRecDepth 100000 in
/-- the caller of crash, neg -/
theorem cL_crash_neg (l : Launch) (hl9 : l.stackTraces = false) (G : va_G) (k : Nat → ClassId) (wx : va_W) (o : Nat) (fo : Nat → Int64) (sz : Nat) (x nd wy : Nat) (f g : Nat → Option Nat) (hF : FX k wx x nd wy f g) (j : Nat) (hj : j < 4) (p1 : Int32) (h : p1 < 0) : vx_Met l yL_crash wsL_crash (rzk 3 1 6) (PL G k sz (wL k wx o fo) [.ref x, .int (nI j), .int p1, .ref o]) (QL G k o 2 0 (va_A (wL k wx o fo) sz)) (fun _ _ _ => False) 1 6 (va_A (wL k wx o fo) sz) := by
  refine vx_ofWH (cc := cL_crash) (maxL := 5) (ret := some .int) (hh := [(0, 10, 13, 13), (0, 10, 17, 21), (0, 10, 21, 15)]) (by decide) rfl ?_
  intro p e s m args below meth c s₁ B hml hv
  obtain ⟨rfl, hsz, hP, hD0, hI⟩ := hv
  subst hsz
  have hK := hI.1
  have hD := hD0.self (sz := s.heap.size)
  have hA : ∀ q : Nat, s.heap.size ≤ q → va_A (wL k wx o fo) s.heap.size q := fun _ h => Or.inr h
  have hS : va_S (va_A (wL k wx o fo) s.heap.size) s.heap s.heap [] := va_S.rf
  have hF := hF.mono (ws' := wL k wx o fo) (fun _ h => List.mem_append_left _ h)
  obtain ⟨kx, h0⟩ := List.getElem?_of_mem hF.1
  have hx := B.exec
  have hb := B.bytes
  have hr := B.returns
  have hts := atoms_spec (ws := wsL_crash) B.pre
  have htb := vx_table (x := yL_crash) B (hts _ List.mem_cons_self)
  have hown : s.vm.findClass RL = some m.cls := findClass_of_methodNamed B.named
  have hlocks := B.notSynchronized
  have hl := lv_entry ([.ref x, .int (nI j), .int p1, .ref o]) (n := 5) (Nat.le_of_ble_eq_true rfl)
  rw [lg_entry_eq]
  generalize (lg_sl ([.ref x, .int (nI j), .int p1, .ref o]) ++ List.replicate (5 - (lg_sl ([.ref x, .int (nI j), .int p1, .ref o])).length) Slot.unset).toArray = ls at hl ⊢
  have hl : lv_has ls 5 [(0, .ref x), (1, .int (nI j)), (2, .int p1), (3, .ref o)] := hl
  refine lv_aload_n hx hb dL_crash_0 rfl (lv_at hl 3 rfl) ?_
  refine lv_iconst (v := 0) hx hb dL_crash_1 (by decide) ?_
  refine lv_aload_n hx hb dL_crash_2 rfl (lv_at hl 0 rfl) ?_
  refine lv_iload_n hx hb dL_crash_3 rfl (lv_at hl 1 rfl) ?_
  refine lv_iload_n hx hb dL_crash_4 rfl (lv_at hl 2 rfl) ?_
  refine bt_call (vx_runV (As := [.int (nI j), .int p1]) (rest := [.int 0, .ref o]) ⟨hx, hb, hml, hown, hts⟩ (c_crash_neg l hl9 G k _ _ x nd wy f g hF j hj p1 h) (cwV 2 hts gL_crash_X3_crash rfl rfl rfl (by decide +kernel) ⟨(Nat.le_of_ble_eq_true rfl), (Nat.le_of_ble_eq_true rfl)⟩) (PR.preV hI hS hA hP (ci := 3) rfl h0) rfl rfl hl.1 rfl (lv_room (Nat.le_of_ble_eq_true rfl)) dL_crash_5 ⟨(Nat.le_of_ble_eq_true rfl), (Nat.le_of_ble_eq_true rfl)⟩) (fun _ _ _ h => h) hS hA (fun q h => Or.inr (Nat.le_trans hS.1 h)) (fun ce q9 H1 locs1 hH hS h1 h2 h3 => ?_)
  refine vx_catch hown [⟨0, 10, 13, 13⟩] ⟨0, 10, 17, 21⟩ [⟨0, 10, 21, 15⟩] (htb.trans rfl) (fun z hz => by
      simp only [List.mem_cons, List.not_mem_nil, or_false] at hz
      rcases hz with rfl
      exact Or.inr ⟨by decide, Ioob, hts _ (by decide +kernel), hI.2.2.2.1.2.2 (Iarg, Ioob) (by decide +kernel)⟩) rfl (by decide) (name := Iarg) (hts _ (by decide +kernel)) (va_Nw.use rfl (hI.2.2.2.1.2.1 Iarg (by decide +kernel))) h1 h2 h3 ?_
  refine W.eq (g2 := F0 m 17 ls [.ref q9]) rfl ?_
  refine lv_astore (lv' := [(4, .ref q9), (0, .ref x), (1, .int (nI j)), (2, .int p1), (3, .ref o)]) hx hb dL_crash_17 hl (by decide) rfl (fun ls hl => ?_)
  refine lv_iconst (v := 2) hx hb dL_crash_19 (by decide) ?_
  exact vx_ret (W.iret (v := 2) hx hb hr (fun t ht hW => ⟨⟨2, fo 0, rfl, ⟨rfl, fun h => absurd h (by decide)⟩, fo, by rw [ht]; exact (wL_one hP).old hH, rfl⟩, hS.F ht⟩) hS.2.2 dL_crash_20)
set_option maxHeartbeats 4000000 in
set_option maxRecDepth 100000 in
/-- the caller of crash, down -/
theorem cL_crash_down (l : Launch) (hl9 : l.stackTraces = false) (G : va_G) (k : Nat → ClassId) (wx : va_W) (o : Nat) (fo : Nat → Int64) (sz : Nat) (x nd wy : Nat) (f g : Nat → Option Nat) (hF : FX k wx x nd wy f g) (j : Nat) (hj : j < 4) (p1 : Int32) (h : ¬ p1 < 0) : vx_Met l yL_crash wsL_crash (rzk 3 1 6) (PL G k sz (wL k wx o fo) [.ref x, .int (nI j), .int p1, .ref o]) (QL G k o 3 0 (va_A (wL k wx o fo) sz)) (fun _ _ _ => False) 1 6 (va_A (wL k wx o fo) sz) := by
  refine vx_ofWH (cc := cL_crash) (maxL := 5) (ret := some .int) (hh := [(0, 10, 13, 13), (0, 10, 17, 21), (0, 10, 21, 15)]) (by decide) rfl ?_
  intro p e s m args below meth c s₁ B hml hv
  obtain ⟨rfl, hsz, hP, hD0, hI⟩ := hv
  subst hsz
  have hK := hI.1
  have hD := hD0.self (sz := s.heap.size)
  have hA : ∀ q : Nat, s.heap.size ≤ q → va_A (wL k wx o fo) s.heap.size q := fun _ h => Or.inr h
  have hS : va_S (va_A (wL k wx o fo) s.heap.size) s.heap s.heap [] := va_S.rf
  have hF := hF.mono (ws' := wL k wx o fo) (fun _ h => List.mem_append_left _ h)
  obtain ⟨kx, h0⟩ := List.getElem?_of_mem hF.1
  have hx := B.exec
  have hb := B.bytes
  have hr := B.returns
  have hts := atoms_spec (ws := wsL_crash) B.pre
  have htb := vx_table (x := yL_crash) B (hts _ List.mem_cons_self)
  have hown : s.vm.findClass RL = some m.cls := findClass_of_methodNamed B.named
  have hlocks := B.notSynchronized
  have hl := lv_entry ([.ref x, .int (nI j), .int p1, .ref o]) (n := 5) (Nat.le_of_ble_eq_true rfl)
  rw [lg_entry_eq]
  generalize (lg_sl ([.ref x, .int (nI j), .int p1, .ref o]) ++ List.replicate (5 - (lg_sl ([.ref x, .int (nI j), .int p1, .ref o])).length) Slot.unset).toArray = ls at hl ⊢
  have hl : lv_has ls 5 [(0, .ref x), (1, .int (nI j)), (2, .int p1), (3, .ref o)] := hl
  refine lv_aload_n hx hb dL_crash_0 rfl (lv_at hl 3 rfl) ?_
  refine lv_iconst (v := 0) hx hb dL_crash_1 (by decide) ?_
  refine lv_aload_n hx hb dL_crash_2 rfl (lv_at hl 0 rfl) ?_
  refine lv_iload_n hx hb dL_crash_3 rfl (lv_at hl 1 rfl) ?_
  refine lv_iload_n hx hb dL_crash_4 rfl (lv_at hl 2 rfl) ?_
  refine bt_call (vx_runV (As := [.int (nI j), .int p1]) (rest := [.int 0, .ref o]) ⟨hx, hb, hml, hown, hts⟩ (c_crash_down l hl9 G k _ _ x nd wy f g hF j hj p1 h) (cwV 2 hts gL_crash_X3_crash rfl rfl rfl (by decide +kernel) ⟨(Nat.le_of_ble_eq_true rfl), (Nat.le_of_ble_eq_true rfl)⟩) (PR.preV hI hS hA hP (ci := 3) rfl h0) rfl rfl hl.1 rfl (lv_room (Nat.le_of_ble_eq_true rfl)) dL_crash_5 ⟨(Nat.le_of_ble_eq_true rfl), (Nat.le_of_ble_eq_true rfl)⟩) (fun _ _ _ h => h) hS hA (fun q h => Or.inr (Nat.le_trans hS.1 h)) (fun ce q9 H1 locs1 hH hS h1 h2 h3 => ?_)
  refine vx_catch hown [⟨0, 10, 13, 13⟩, ⟨0, 10, 17, 21⟩] ⟨0, 10, 21, 15⟩ [] (htb.trans rfl) (fun z hz => by
      simp only [List.mem_cons, List.not_mem_nil, or_false] at hz
      rcases hz with rfl | rfl
      · exact Or.inr ⟨by decide, Ioob, hts _ (by decide +kernel), hI.2.2.2.1.2.2 (Istt, Ioob) (by decide +kernel)⟩
      · exact Or.inr ⟨by decide, Iarg, hts _ (by decide +kernel), hI.2.2.2.1.2.2 (Istt, Iarg) (by decide +kernel)⟩) rfl (by decide) (name := Istt) (hts _ (by decide +kernel)) (va_Nw.use rfl (hI.2.2.2.1.2.1 Istt (by decide +kernel))) h1 h2 h3 ?_
  refine W.eq (g2 := F0 m 21 ls [.ref q9]) rfl ?_
  refine lv_astore (lv' := [(4, .ref q9), (0, .ref x), (1, .int (nI j)), (2, .int p1), (3, .ref o)]) hx hb dL_crash_21 hl (by decide) rfl (fun ls hl => ?_)
  refine lv_iconst (v := 3) hx hb dL_crash_23 (by decide) ?_
  exact vx_ret (W.iret (v := 3) hx hb hr (fun t ht hW => ⟨⟨3, fo 0, rfl, ⟨rfl, fun h => absurd h (by decide)⟩, fo, by rw [ht]; exact (wL_one hP).old hH, rfl⟩, hS.F ht⟩) hS.2.2 dL_crash_24)
set_option maxHeartbeats 4000000 in
set_option maxRecDepth 100000 in
/-- the caller of promote, down -/
theorem cL_promote_down (l : Launch) (hl9 : l.stackTraces = false) (G : va_G) (k : Nat → ClassId) (wx : va_W) (o : Nat) (fo : Nat → Int64) (sz : Nat) (x nd wy : Nat) (f g : Nat → Option Nat) (hF : FX k wx x nd wy f g) (j : Nat) (hj : j < 4) : vx_Met l yL_promote wsL_promote (rzk 3 1 6) (PL G k sz (wL k wx o fo) [.ref x, .int (nI j), .ref o]) (QL G k o 2 0 (va_A (wL k wx o fo) sz)) (fun _ _ _ => False) 1 6 (va_A (wL k wx o fo) sz) := by
  refine vx_ofWH (cc := cL_promote) (maxL := 4) (ret := some .int) (hh := [(0, 9, 12, 13), (0, 9, 15, 15), (0, 9, 18, 26)]) (by decide) rfl ?_
  intro p e s m args below meth c s₁ B hml hv
  obtain ⟨rfl, hsz, hP, hD0, hI⟩ := hv
  subst hsz
  have hK := hI.1
  have hD := hD0.self (sz := s.heap.size)
  have hA : ∀ q : Nat, s.heap.size ≤ q → va_A (wL k wx o fo) s.heap.size q := fun _ h => Or.inr h
  have hS : va_S (va_A (wL k wx o fo) s.heap.size) s.heap s.heap [] := va_S.rf
  have hF := hF.mono (ws' := wL k wx o fo) (fun _ h => List.mem_append_left _ h)
  obtain ⟨kx, h0⟩ := List.getElem?_of_mem hF.1
  have hx := B.exec
  have hb := B.bytes
  have hr := B.returns
  have hts := atoms_spec (ws := wsL_promote) B.pre
  have htb := vx_table (x := yL_promote) B (hts _ List.mem_cons_self)
  have hown : s.vm.findClass RL = some m.cls := findClass_of_methodNamed B.named
  have hlocks := B.notSynchronized
  have hl := lv_entry ([.ref x, .int (nI j), .ref o]) (n := 4) (Nat.le_of_ble_eq_true rfl)
  rw [lg_entry_eq]
  generalize (lg_sl ([.ref x, .int (nI j), .ref o]) ++ List.replicate (4 - (lg_sl ([.ref x, .int (nI j), .ref o])).length) Slot.unset).toArray = ls at hl ⊢
  have hl : lv_has ls 4 [(0, .ref x), (1, .int (nI j)), (2, .ref o)] := hl
  refine lv_aload_n hx hb dL_promote_0 rfl (lv_at hl 2 rfl) ?_
  refine lv_iconst (v := 0) hx hb dL_promote_1 (by decide) ?_
  refine lv_aload_n hx hb dL_promote_2 rfl (lv_at hl 0 rfl) ?_
  refine lv_iload_n hx hb dL_promote_3 rfl (lv_at hl 1 rfl) ?_
  refine bt_call (vx_runV (As := [.int (nI j)]) (rest := [.int 0, .ref o]) ⟨hx, hb, hml, hown, hts⟩ (c_promote_down l hl9 G k _ _ x nd wy f g hF j hj) (cwV 1 hts gL_promote_X3_promote rfl rfl rfl (by decide +kernel) ⟨(Nat.le_of_ble_eq_true rfl), (Nat.le_of_ble_eq_true rfl)⟩) (PR.preV hI hS hA hP (ci := 3) rfl h0) rfl rfl hl.1 rfl (lv_room (Nat.le_of_ble_eq_true rfl)) dL_promote_4 ⟨(Nat.le_of_ble_eq_true rfl), (Nat.le_of_ble_eq_true rfl)⟩) (fun _ _ _ h => h) hS hA (fun q h => Or.inr (Nat.le_trans hS.1 h)) (fun ce q9 H1 locs1 hH hS h1 h2 h3 => ?_)
  refine vx_catch hown [⟨0, 9, 12, 13⟩] ⟨0, 9, 15, 15⟩ [⟨0, 9, 18, 26⟩] (htb.trans rfl) (fun z hz => by
      simp only [List.mem_cons, List.not_mem_nil, or_false] at hz
      rcases hz with rfl
      exact Or.inr ⟨by decide, Ioob, hts _ (by decide +kernel), hI.2.2.2.1.2.2 (Istt, Ioob) (by decide +kernel)⟩) rfl (by decide) (name := Istt) (hts _ (by decide +kernel)) (va_Nw.use rfl (hI.2.2.2.1.2.1 Istt (by decide +kernel))) h1 h2 h3 ?_
  refine W.eq (g2 := F0 m 15 ls [.ref q9]) rfl ?_
  refine lv_astore_n (lv' := [(3, .ref q9), (0, .ref x), (1, .int (nI j)), (2, .ref o)]) hx hb dL_promote_15 rfl hl (by decide) rfl (fun ls hl => ?_)
  refine lv_iconst (v := 2) hx hb dL_promote_16 (by decide) ?_
  exact vx_ret (W.iret (v := 2) hx hb hr (fun t ht hW => ⟨⟨2, fo 0, rfl, ⟨rfl, fun h => absurd h (by decide)⟩, fo, by rw [ht]; exact (wL_one hP).old hH, rfl⟩, hS.F ht⟩) hS.2.2 dL_promote_17)
set_option maxHeartbeats 4000000 in
set_option maxRecDepth 100000 in
/-- the caller of follow, bad2 -/
theorem cL_follow_bad2 (l : Launch) (hl9 : l.stackTraces = false) (G : va_G) (k : Nat → ClassId) (wx : va_W) (o : Nat) (fo : Nat → Int64) (sz : Nat) (x nd wy : Nat) (f g : Nat → Option Nat) (hF : FX k wx x nd wy f g) (i : Nat) (hi : i < 4) (p1 : Int32) (h : bdN p1) : vx_Met l yL_follow wsL_follow (rzk 3 1 6) (PL G k sz (wL k wx o fo) [.ref x, .int (nI i), .int p1]) (QL G k o 1 0 (va_A (wL k wx o fo) sz)) (fun _ _ _ => False) 1 6 (va_A (wL k wx o fo) sz) := by
  refine vx_ofWH (cc := cL_follow) (maxL := 4) (ret := some .int) (hh := [(0, 6, 9, 13), (0, 6, 12, 15), (0, 6, 15, 21)]) (by decide) rfl ?_
  intro p e s m args below meth c s₁ B hml hv
  obtain ⟨rfl, hsz, hP, hD0, hI⟩ := hv
  subst hsz
  have hK := hI.1
  have hD := hD0.self (sz := s.heap.size)
  have hA : ∀ q : Nat, s.heap.size ≤ q → va_A (wL k wx o fo) s.heap.size q := fun _ h => Or.inr h
  have hS : va_S (va_A (wL k wx o fo) s.heap.size) s.heap s.heap [] := va_S.rf
  have hF := hF.mono (ws' := wL k wx o fo) (fun _ h => List.mem_append_left _ h)
  obtain ⟨kx, h0⟩ := List.getElem?_of_mem hF.1
  have hx := B.exec
  have hb := B.bytes
  have hr := B.returns
  have hts := atoms_spec (ws := wsL_follow) B.pre
  have htb := vx_table (x := yL_follow) B (hts _ List.mem_cons_self)
  have hown : s.vm.findClass RL = some m.cls := findClass_of_methodNamed B.named
  have hlocks := B.notSynchronized
  have hl := lv_entry ([.ref x, .int (nI i), .int p1]) (n := 4) (Nat.le_of_ble_eq_true rfl)
  rw [lg_entry_eq]
  generalize (lg_sl ([.ref x, .int (nI i), .int p1]) ++ List.replicate (4 - (lg_sl ([.ref x, .int (nI i), .int p1])).length) Slot.unset).toArray = ls at hl ⊢
  have hl : lv_has ls 4 [(0, .ref x), (1, .int (nI i)), (2, .int p1)] := hl
  refine lv_aload_n hx hb dL_follow_0 rfl (lv_at hl 0 rfl) ?_
  refine lv_iload_n hx hb dL_follow_1 rfl (lv_at hl 1 rfl) ?_
  refine lv_iload_n hx hb dL_follow_2 rfl (lv_at hl 2 rfl) ?_
  refine bt_call (vx_runV (As := [.int (nI i), .int p1]) (rest := []) ⟨hx, hb, hml, hown, hts⟩ (c_follow_bad2 l hl9 G k _ _ x nd wy f g hF i hi p1 h) (cwV 2 hts gL_follow_X3_follow rfl rfl rfl (by decide +kernel) ⟨(Nat.le_of_ble_eq_true rfl), (Nat.le_of_ble_eq_true rfl)⟩) (PR.preV hI hS hA hP (ci := 3) rfl h0) rfl rfl hl.1 rfl (lv_room (Nat.le_of_ble_eq_true rfl)) dL_follow_3 ⟨(Nat.le_of_ble_eq_true rfl), (Nat.le_of_ble_eq_true rfl)⟩) (fun _ _ _ h => h) hS hA (fun q h => Or.inr (Nat.le_trans hS.1 h)) (fun ce q9 H1 locs1 hH hS h1 h2 h3 => ?_)
  refine vx_catch hown [] ⟨0, 6, 9, 13⟩ [⟨0, 6, 12, 15⟩, ⟨0, 6, 15, 21⟩] (htb.trans rfl) (fun _ h => absurd h List.not_mem_nil) rfl (by decide) (name := Ioob) (hts _ (by decide +kernel)) (va_Nw.use rfl (hI.2.2.2.1.2.1 Ioob (by decide +kernel))) h1 h2 h3 ?_
  refine W.eq (g2 := F0 m 9 ls [.ref q9]) rfl ?_
  refine lv_astore_n (lv' := [(3, .ref q9), (0, .ref x), (1, .int (nI i)), (2, .int p1)]) hx hb dL_follow_9 rfl hl (by decide) rfl (fun ls hl => ?_)
  refine lv_iconst (v := 1) hx hb dL_follow_10 (by decide) ?_
  exact vx_ret (W.iret (v := 1) hx hb hr (fun t ht hW => ⟨⟨1, fo 0, rfl, ⟨rfl, fun h => absurd h (by decide)⟩, fo, by rw [ht]; exact (wL_one hP).old hH, rfl⟩, hS.F ht⟩) hS.2.2 dL_follow_11)
set_option maxHeartbeats 4000000 in
set_option maxRecDepth 100000 in
/-- the caller of rewind, bad2 -/
theorem cL_rewind_bad2 (l : Launch) (hl9 : l.stackTraces = false) (G : va_G) (k : Nat → ClassId) (wx : va_W) (o : Nat) (fo : Nat → Int64) (sz : Nat) (x nd wy : Nat) (f g : Nat → Option Nat) (hF : FX k wx x nd wy f g) (i : Nat) (hi : i < 4) (p1 : Int32) (h : bdN p1) : vx_Met l yL_rewind wsL_rewind (rzk 3 1 6) (PL G k sz (wL k wx o fo) [.ref x, .int (nI i), .int p1, .ref o]) (QL G k o 1 0 (va_A (wL k wx o fo) sz)) (fun _ _ _ => False) 1 6 (va_A (wL k wx o fo) sz) := by
  refine vx_ofWH (cc := cL_rewind) (maxL := 5) (ret := some .int) (hh := [(0, 10, 13, 13), (0, 10, 17, 15)]) (by decide) rfl ?_
  intro p e s m args below meth c s₁ B hml hv
  obtain ⟨rfl, hsz, hP, hD0, hI⟩ := hv
  subst hsz
  have hK := hI.1
  have hD := hD0.self (sz := s.heap.size)
  have hA : ∀ q : Nat, s.heap.size ≤ q → va_A (wL k wx o fo) s.heap.size q := fun _ h => Or.inr h
  have hS : va_S (va_A (wL k wx o fo) s.heap.size) s.heap s.heap [] := va_S.rf
  have hF := hF.mono (ws' := wL k wx o fo) (fun _ h => List.mem_append_left _ h)
  obtain ⟨kx, h0⟩ := List.getElem?_of_mem hF.1
  have hx := B.exec
  have hb := B.bytes
  have hr := B.returns
  have hts := atoms_spec (ws := wsL_rewind) B.pre
  have htb := vx_table (x := yL_rewind) B (hts _ List.mem_cons_self)
  have hown : s.vm.findClass RL = some m.cls := findClass_of_methodNamed B.named
  have hlocks := B.notSynchronized
  have hl := lv_entry ([.ref x, .int (nI i), .int p1, .ref o]) (n := 5) (Nat.le_of_ble_eq_true rfl)
  rw [lg_entry_eq]
  generalize (lg_sl ([.ref x, .int (nI i), .int p1, .ref o]) ++ List.replicate (5 - (lg_sl ([.ref x, .int (nI i), .int p1, .ref o])).length) Slot.unset).toArray = ls at hl ⊢
  have hl : lv_has ls 5 [(0, .ref x), (1, .int (nI i)), (2, .int p1), (3, .ref o)] := hl
  refine lv_aload_n hx hb dL_rewind_0 rfl (lv_at hl 3 rfl) ?_
  refine lv_iconst (v := 0) hx hb dL_rewind_1 (by decide) ?_
  refine lv_aload_n hx hb dL_rewind_2 rfl (lv_at hl 0 rfl) ?_
  refine lv_iload_n hx hb dL_rewind_3 rfl (lv_at hl 1 rfl) ?_
  refine lv_iload_n hx hb dL_rewind_4 rfl (lv_at hl 2 rfl) ?_
  refine bt_call (vx_runV (As := [.int (nI i), .int p1]) (rest := [.int 0, .ref o]) ⟨hx, hb, hml, hown, hts⟩ (c_rewind_bad2 l hl9 G k _ _ x nd wy f g hF i hi p1 h) (cwV 2 hts gL_rewind_X3_rewind rfl rfl rfl (by decide +kernel) ⟨(Nat.le_of_ble_eq_true rfl), (Nat.le_of_ble_eq_true rfl)⟩) (PR.preV hI hS hA hP (ci := 3) rfl h0) rfl rfl hl.1 rfl (lv_room (Nat.le_of_ble_eq_true rfl)) dL_rewind_5 ⟨(Nat.le_of_ble_eq_true rfl), (Nat.le_of_ble_eq_true rfl)⟩) (fun _ _ _ h => h) hS hA (fun q h => Or.inr (Nat.le_trans hS.1 h)) (fun ce q9 H1 locs1 hH hS h1 h2 h3 => ?_)
  refine vx_catch hown [] ⟨0, 10, 13, 13⟩ [⟨0, 10, 17, 15⟩] (htb.trans rfl) (fun _ h => absurd h List.not_mem_nil) rfl (by decide) (name := Ioob) (hts _ (by decide +kernel)) (va_Nw.use rfl (hI.2.2.2.1.2.1 Ioob (by decide +kernel))) h1 h2 h3 ?_
  refine W.eq (g2 := F0 m 13 ls [.ref q9]) rfl ?_
  refine lv_astore (lv' := [(4, .ref q9), (0, .ref x), (1, .int (nI i)), (2, .int p1), (3, .ref o)]) hx hb dL_rewind_13 hl (by decide) rfl (fun ls hl => ?_)
  refine lv_iconst (v := 1) hx hb dL_rewind_15 (by decide) ?_
  exact vx_ret (W.iret (v := 1) hx hb hr (fun t ht hW => ⟨⟨1, fo 0, rfl, ⟨rfl, fun h => absurd h (by decide)⟩, fo, by rw [ht]; exact (wL_one hP).old hH, rfl⟩, hS.F ht⟩) hS.2.2 dL_rewind_16)
set_option maxHeartbeats 4000000 in
set_option maxRecDepth 100000 in
/-- the caller of send, bad2 -/
theorem cL_send_bad2 (l : Launch) (hl9 : l.stackTraces = false) (G : va_G) (k : Nat → ClassId) (wx : va_W) (o : Nat) (fo : Nat → Int64) (sz : Nat) (x nd wy : Nat) (f g : Nat → Option Nat) (hF : FX k wx x nd wy f g) (i : Nat) (hi : i < 4) (p1 : Int32) (h : bdN p1) : vx_Met l yL_send wsL_send (rzk 3 1 6) (PL G k sz (wL k wx o fo) [.ref x, .int (nI i), .int p1, .ref o]) (QL G k o 1 0 (va_A (wL k wx o fo) sz)) (fun _ _ _ => False) 1 6 (va_A (wL k wx o fo) sz) := by
  refine vx_ofWH (cc := cL_send) (maxL := 5) (ret := some .int) (hh := [(0, 10, 13, 13), (0, 10, 17, 15), (0, 10, 21, 26), (0, 10, 25, 49)]) (by decide) rfl ?_
  intro p e s m args below meth c s₁ B hml hv
  obtain ⟨rfl, hsz, hP, hD0, hI⟩ := hv
  subst hsz
  have hK := hI.1
  have hD := hD0.self (sz := s.heap.size)
  have hA : ∀ q : Nat, s.heap.size ≤ q → va_A (wL k wx o fo) s.heap.size q := fun _ h => Or.inr h
  have hS : va_S (va_A (wL k wx o fo) s.heap.size) s.heap s.heap [] := va_S.rf
  have hF := hF.mono (ws' := wL k wx o fo) (fun _ h => List.mem_append_left _ h)
  obtain ⟨kx, h0⟩ := List.getElem?_of_mem hF.1
  have hx := B.exec
  have hb := B.bytes
  have hr := B.returns
  have hts := atoms_spec (ws := wsL_send) B.pre
  have htb := vx_table (x := yL_send) B (hts _ List.mem_cons_self)
  have hown : s.vm.findClass RL = some m.cls := findClass_of_methodNamed B.named
  have hlocks := B.notSynchronized
  have hl := lv_entry ([.ref x, .int (nI i), .int p1, .ref o]) (n := 5) (Nat.le_of_ble_eq_true rfl)
  rw [lg_entry_eq]
  generalize (lg_sl ([.ref x, .int (nI i), .int p1, .ref o]) ++ List.replicate (5 - (lg_sl ([.ref x, .int (nI i), .int p1, .ref o])).length) Slot.unset).toArray = ls at hl ⊢
  have hl : lv_has ls 5 [(0, .ref x), (1, .int (nI i)), (2, .int p1), (3, .ref o)] := hl
  refine lv_aload_n hx hb dL_send_0 rfl (lv_at hl 3 rfl) ?_
  refine lv_iconst (v := 0) hx hb dL_send_1 (by decide) ?_
  refine lv_aload_n hx hb dL_send_2 rfl (lv_at hl 0 rfl) ?_
  refine lv_iload_n hx hb dL_send_3 rfl (lv_at hl 1 rfl) ?_
  refine lv_iload_n hx hb dL_send_4 rfl (lv_at hl 2 rfl) ?_
  refine bt_call (vx_runV (As := [.int (nI i), .int p1]) (rest := [.int 0, .ref o]) ⟨hx, hb, hml, hown, hts⟩ (c_send_bad2 l hl9 G k _ _ x nd wy f g hF i hi p1 h) (cwV 2 hts gL_send_X3_send rfl rfl rfl (by decide +kernel) ⟨(Nat.le_of_ble_eq_true rfl), (Nat.le_of_ble_eq_true rfl)⟩) (PR.preV hI hS hA hP (ci := 3) rfl h0) rfl rfl hl.1 rfl (lv_room (Nat.le_of_ble_eq_true rfl)) dL_send_5 ⟨(Nat.le_of_ble_eq_true rfl), (Nat.le_of_ble_eq_true rfl)⟩) (fun _ _ _ h => h) hS hA (fun q h => Or.inr (Nat.le_trans hS.1 h)) (fun ce q9 H1 locs1 hH hS h1 h2 h3 => ?_)
  refine vx_catch hown [] ⟨0, 10, 13, 13⟩ [⟨0, 10, 17, 15⟩, ⟨0, 10, 21, 26⟩, ⟨0, 10, 25, 49⟩] (htb.trans rfl) (fun _ h => absurd h List.not_mem_nil) rfl (by decide) (name := Ioob) (hts _ (by decide +kernel)) (va_Nw.use rfl (hI.2.2.2.1.2.1 Ioob (by decide +kernel))) h1 h2 h3 ?_
  refine W.eq (g2 := F0 m 13 ls [.ref q9]) rfl ?_
  refine lv_astore (lv' := [(4, .ref q9), (0, .ref x), (1, .int (nI i)), (2, .int p1), (3, .ref o)]) hx hb dL_send_13 hl (by decide) rfl (fun ls hl => ?_)
  refine lv_iconst (v := 1) hx hb dL_send_15 (by decide) ?_
  exact vx_ret (W.iret (v := 1) hx hb hr (fun t ht hW => ⟨⟨1, fo 0, rfl, ⟨rfl, fun h => absurd h (by decide)⟩, fo, by rw [ht]; exact (wL_one hP).old hH, rfl⟩, hS.F ht⟩) hS.2.2 dL_send_16)
set_option maxHeartbeats 4000000 in
set_option maxRecDepth 100000 in
/-- the caller of follow, down -/
theorem cL_follow_down (l : Launch) (hl9 : l.stackTraces = false) (G : va_G) (k : Nat → ClassId) (wx : va_W) (o : Nat) (fo : Nat → Int64) (sz : Nat) (x nd wy : Nat) (f g : Nat → Option Nat) (hF : FX k wx x nd wy f g) (i : Nat) (hi : i < 4) (j : Nat) (hj : j < 4) : vx_Met l yL_follow wsL_follow (rzk 3 1 6) (PL G k sz (wL k wx o fo) [.ref x, .int (nI i), .int (nI j)]) (QL G k o 2 0 (va_A (wL k wx o fo) sz)) (fun _ _ _ => False) 1 6 (va_A (wL k wx o fo) sz) := by
  refine vx_ofWH (cc := cL_follow) (maxL := 4) (ret := some .int) (hh := [(0, 6, 9, 13), (0, 6, 12, 15), (0, 6, 15, 21)]) (by decide) rfl ?_
  intro p e s m args below meth c s₁ B hml hv
  obtain ⟨rfl, hsz, hP, hD0, hI⟩ := hv
  subst hsz
  have hK := hI.1
  have hD := hD0.self (sz := s.heap.size)
  have hA : ∀ q : Nat, s.heap.size ≤ q → va_A (wL k wx o fo) s.heap.size q := fun _ h => Or.inr h
  have hS : va_S (va_A (wL k wx o fo) s.heap.size) s.heap s.heap [] := va_S.rf
  have hF := hF.mono (ws' := wL k wx o fo) (fun _ h => List.mem_append_left _ h)
  obtain ⟨kx, h0⟩ := List.getElem?_of_mem hF.1
  have hx := B.exec
  have hb := B.bytes
  have hr := B.returns
  have hts := atoms_spec (ws := wsL_follow) B.pre
  have htb := vx_table (x := yL_follow) B (hts _ List.mem_cons_self)
  have hown : s.vm.findClass RL = some m.cls := findClass_of_methodNamed B.named
  have hlocks := B.notSynchronized
  have hl := lv_entry ([.ref x, .int (nI i), .int (nI j)]) (n := 4) (Nat.le_of_ble_eq_true rfl)
  rw [lg_entry_eq]
  generalize (lg_sl ([.ref x, .int (nI i), .int (nI j)]) ++ List.replicate (4 - (lg_sl ([.ref x, .int (nI i), .int (nI j)])).length) Slot.unset).toArray = ls at hl ⊢
  have hl : lv_has ls 4 [(0, .ref x), (1, .int (nI i)), (2, .int (nI j))] := hl
  refine lv_aload_n hx hb dL_follow_0 rfl (lv_at hl 0 rfl) ?_
  refine lv_iload_n hx hb dL_follow_1 rfl (lv_at hl 1 rfl) ?_
  refine lv_iload_n hx hb dL_follow_2 rfl (lv_at hl 2 rfl) ?_
  refine bt_call (vx_runV (As := [.int (nI i), .int (nI j)]) (rest := []) ⟨hx, hb, hml, hown, hts⟩ (c_follow_down l hl9 G k _ _ x nd wy f g hF i hi j hj) (cwV 2 hts gL_follow_X3_follow rfl rfl rfl (by decide +kernel) ⟨(Nat.le_of_ble_eq_true rfl), (Nat.le_of_ble_eq_true rfl)⟩) (PR.preV hI hS hA hP (ci := 3) rfl h0) rfl rfl hl.1 rfl (lv_room (Nat.le_of_ble_eq_true rfl)) dL_follow_3 ⟨(Nat.le_of_ble_eq_true rfl), (Nat.le_of_ble_eq_true rfl)⟩) (fun _ _ _ h => h) hS hA (fun q h => Or.inr (Nat.le_trans hS.1 h)) (fun ce q9 H1 locs1 hH hS h1 h2 h3 => ?_)
  refine vx_catch hown [⟨0, 6, 9, 13⟩] ⟨0, 6, 12, 15⟩ [⟨0, 6, 15, 21⟩] (htb.trans rfl) (fun z hz => by
      simp only [List.mem_cons, List.not_mem_nil, or_false] at hz
      rcases hz with rfl
      exact Or.inr ⟨by decide, Ioob, hts _ (by decide +kernel), hI.2.2.2.1.2.2 (Istt, Ioob) (by decide +kernel)⟩) rfl (by decide) (name := Istt) (hts _ (by decide +kernel)) (va_Nw.use rfl (hI.2.2.2.1.2.1 Istt (by decide +kernel))) h1 h2 h3 ?_
  refine W.eq (g2 := F0 m 12 ls [.ref q9]) rfl ?_
  refine lv_astore_n (lv' := [(3, .ref q9), (0, .ref x), (1, .int (nI i)), (2, .int (nI j))]) hx hb dL_follow_12 rfl hl (by decide) rfl (fun ls hl => ?_)
  refine lv_iconst (v := 2) hx hb dL_follow_13 (by decide) ?_
  exact vx_ret (W.iret (v := 2) hx hb hr (fun t ht hW => ⟨⟨2, fo 0, rfl, ⟨rfl, fun h => absurd h (by decide)⟩, fo, by rw [ht]; exact (wL_one hP).old hH, rfl⟩, hS.F ht⟩) hS.2.2 dL_follow_14)
set_option maxHeartbeats 4000000 in
set_option maxRecDepth 100000 in
/-- the caller of rewind, down -/
theorem cL_rewind_down (l : Launch) (hl9 : l.stackTraces = false) (G : va_G) (k : Nat → ClassId) (wx : va_W) (o : Nat) (fo : Nat → Int64) (sz : Nat) (x nd wy : Nat) (f g : Nat → Option Nat) (hF : FX k wx x nd wy f g) (i : Nat) (hi : i < 4) (j : Nat) (hj : j < 4) : vx_Met l yL_rewind wsL_rewind (rzk 3 1 6) (PL G k sz (wL k wx o fo) [.ref x, .int (nI i), .int (nI j), .ref o]) (QL G k o 2 0 (va_A (wL k wx o fo) sz)) (fun _ _ _ => False) 1 6 (va_A (wL k wx o fo) sz) := by
  refine vx_ofWH (cc := cL_rewind) (maxL := 5) (ret := some .int) (hh := [(0, 10, 13, 13), (0, 10, 17, 15)]) (by decide) rfl ?_
  intro p e s m args below meth c s₁ B hml hv
  obtain ⟨rfl, hsz, hP, hD0, hI⟩ := hv
  subst hsz
  have hK := hI.1
  have hD := hD0.self (sz := s.heap.size)
  have hA : ∀ q : Nat, s.heap.size ≤ q → va_A (wL k wx o fo) s.heap.size q := fun _ h => Or.inr h
  have hS : va_S (va_A (wL k wx o fo) s.heap.size) s.heap s.heap [] := va_S.rf
  have hF := hF.mono (ws' := wL k wx o fo) (fun _ h => List.mem_append_left _ h)
  obtain ⟨kx, h0⟩ := List.getElem?_of_mem hF.1
  have hx := B.exec
  have hb := B.bytes
  have hr := B.returns
  have hts := atoms_spec (ws := wsL_rewind) B.pre
  have htb := vx_table (x := yL_rewind) B (hts _ List.mem_cons_self)
  have hown : s.vm.findClass RL = some m.cls := findClass_of_methodNamed B.named
  have hlocks := B.notSynchronized
  have hl := lv_entry ([.ref x, .int (nI i), .int (nI j), .ref o]) (n := 5) (Nat.le_of_ble_eq_true rfl)
  rw [lg_entry_eq]
  generalize (lg_sl ([.ref x, .int (nI i), .int (nI j), .ref o]) ++ List.replicate (5 - (lg_sl ([.ref x, .int (nI i), .int (nI j), .ref o])).length) Slot.unset).toArray = ls at hl ⊢
  have hl : lv_has ls 5 [(0, .ref x), (1, .int (nI i)), (2, .int (nI j)), (3, .ref o)] := hl
  refine lv_aload_n hx hb dL_rewind_0 rfl (lv_at hl 3 rfl) ?_
  refine lv_iconst (v := 0) hx hb dL_rewind_1 (by decide) ?_
  refine lv_aload_n hx hb dL_rewind_2 rfl (lv_at hl 0 rfl) ?_
  refine lv_iload_n hx hb dL_rewind_3 rfl (lv_at hl 1 rfl) ?_
  refine lv_iload_n hx hb dL_rewind_4 rfl (lv_at hl 2 rfl) ?_
  refine bt_call (vx_runV (As := [.int (nI i), .int (nI j)]) (rest := [.int 0, .ref o]) ⟨hx, hb, hml, hown, hts⟩ (c_rewind_down l hl9 G k _ _ x nd wy f g hF i hi j hj) (cwV 2 hts gL_rewind_X3_rewind rfl rfl rfl (by decide +kernel) ⟨(Nat.le_of_ble_eq_true rfl), (Nat.le_of_ble_eq_true rfl)⟩) (PR.preV hI hS hA hP (ci := 3) rfl h0) rfl rfl hl.1 rfl (lv_room (Nat.le_of_ble_eq_true rfl)) dL_rewind_5 ⟨(Nat.le_of_ble_eq_true rfl), (Nat.le_of_ble_eq_true rfl)⟩) (fun _ _ _ h => h) hS hA (fun q h => Or.inr (Nat.le_trans hS.1 h)) (fun ce q9 H1 locs1 hH hS h1 h2 h3 => ?_)
  refine vx_catch hown [⟨0, 10, 13, 13⟩] ⟨0, 10, 17, 15⟩ [] (htb.trans rfl) (fun z hz => by
      simp only [List.mem_cons, List.not_mem_nil, or_false] at hz
      rcases hz with rfl
      exact Or.inr ⟨by decide, Ioob, hts _ (by decide +kernel), hI.2.2.2.1.2.2 (Istt, Ioob) (by decide +kernel)⟩) rfl (by decide) (name := Istt) (hts _ (by decide +kernel)) (va_Nw.use rfl (hI.2.2.2.1.2.1 Istt (by decide +kernel))) h1 h2 h3 ?_
  refine W.eq (g2 := F0 m 17 ls [.ref q9]) rfl ?_
  refine lv_astore (lv' := [(4, .ref q9), (0, .ref x), (1, .int (nI i)), (2, .int (nI j)), (3, .ref o)]) hx hb dL_rewind_17 hl (by decide) rfl (fun ls hl => ?_)
  refine lv_iconst (v := 2) hx hb dL_rewind_19 (by decide) ?_
  exact vx_ret (W.iret (v := 2) hx hb hr (fun t ht hW => ⟨⟨2, fo 0, rfl, ⟨rfl, fun h => absurd h (by decide)⟩, fo, by rw [ht]; exact (wL_one hP).old hH, rfl⟩, hS.F ht⟩) hS.2.2 dL_rewind_20)
set_option maxHeartbeats 4000000 in
set_option maxRecDepth 100000 in
/-- the caller of send, nolink -/
theorem cL_send_nolink (l : Launch) (hl9 : l.stackTraces = false) (G : va_G) (k : Nat → ClassId) (wx : va_W) (o : Nat) (fo : Nat → Int64) (sz : Nat) (x nd wy : Nat) (f g : Nat → Option Nat) (hF : FX k wx x nd wy f g) (i : Nat) (hi : i < 4) (j : Nat) (hj : j < 4) : vx_Met l yL_send wsL_send (rzk 3 1 6) (PL G k sz (wL k wx o fo) [.ref x, .int (nI i), .int (nI j), .ref o]) (QL G k o 2 0 (va_A (wL k wx o fo) sz)) (fun _ _ _ => False) 1 6 (va_A (wL k wx o fo) sz) := by
  refine vx_ofWH (cc := cL_send) (maxL := 5) (ret := some .int) (hh := [(0, 10, 13, 13), (0, 10, 17, 15), (0, 10, 21, 26), (0, 10, 25, 49)]) (by decide) rfl ?_
  intro p e s m args below meth c s₁ B hml hv
  obtain ⟨rfl, hsz, hP, hD0, hI⟩ := hv
  subst hsz
  have hK := hI.1
  have hD := hD0.self (sz := s.heap.size)
  have hA : ∀ q : Nat, s.heap.size ≤ q → va_A (wL k wx o fo) s.heap.size q := fun _ h => Or.inr h
  have hS : va_S (va_A (wL k wx o fo) s.heap.size) s.heap s.heap [] := va_S.rf
  have hF := hF.mono (ws' := wL k wx o fo) (fun _ h => List.mem_append_left _ h)
  obtain ⟨kx, h0⟩ := List.getElem?_of_mem hF.1
  have hx := B.exec
  have hb := B.bytes
  have hr := B.returns
  have hts := atoms_spec (ws := wsL_send) B.pre
  have htb := vx_table (x := yL_send) B (hts _ List.mem_cons_self)
  have hown : s.vm.findClass RL = some m.cls := findClass_of_methodNamed B.named
  have hlocks := B.notSynchronized
  have hl := lv_entry ([.ref x, .int (nI i), .int (nI j), .ref o]) (n := 5) (Nat.le_of_ble_eq_true rfl)
  rw [lg_entry_eq]
  generalize (lg_sl ([.ref x, .int (nI i), .int (nI j), .ref o]) ++ List.replicate (5 - (lg_sl ([.ref x, .int (nI i), .int (nI j), .ref o])).length) Slot.unset).toArray = ls at hl ⊢
  have hl : lv_has ls 5 [(0, .ref x), (1, .int (nI i)), (2, .int (nI j)), (3, .ref o)] := hl
  refine lv_aload_n hx hb dL_send_0 rfl (lv_at hl 3 rfl) ?_
  refine lv_iconst (v := 0) hx hb dL_send_1 (by decide) ?_
  refine lv_aload_n hx hb dL_send_2 rfl (lv_at hl 0 rfl) ?_
  refine lv_iload_n hx hb dL_send_3 rfl (lv_at hl 1 rfl) ?_
  refine lv_iload_n hx hb dL_send_4 rfl (lv_at hl 2 rfl) ?_
  refine bt_call (vx_runV (As := [.int (nI i), .int (nI j)]) (rest := [.int 0, .ref o]) ⟨hx, hb, hml, hown, hts⟩ (c_send_nolink l hl9 G k _ _ x nd wy f g hF i hi j hj) (cwV 2 hts gL_send_X3_send rfl rfl rfl (by decide +kernel) ⟨(Nat.le_of_ble_eq_true rfl), (Nat.le_of_ble_eq_true rfl)⟩) (PR.preV hI hS hA hP (ci := 3) rfl h0) rfl rfl hl.1 rfl (lv_room (Nat.le_of_ble_eq_true rfl)) dL_send_5 ⟨(Nat.le_of_ble_eq_true rfl), (Nat.le_of_ble_eq_true rfl)⟩) (fun _ _ _ h => h) hS hA (fun q h => Or.inr (Nat.le_trans hS.1 h)) (fun ce q9 H1 locs1 hH hS h1 h2 h3 => ?_)
  refine vx_catch hown [⟨0, 10, 13, 13⟩] ⟨0, 10, 17, 15⟩ [⟨0, 10, 21, 26⟩, ⟨0, 10, 25, 49⟩] (htb.trans rfl) (fun z hz => by
      simp only [List.mem_cons, List.not_mem_nil, or_false] at hz
      rcases hz with rfl
      exact Or.inr ⟨by decide, Ioob, hts _ (by decide +kernel), hI.2.2.2.1.2.2 (Istt, Ioob) (by decide +kernel)⟩) rfl (by decide) (name := Istt) (hts _ (by decide +kernel)) (va_Nw.use rfl (hI.2.2.2.1.2.1 Istt (by decide +kernel))) h1 h2 h3 ?_
  refine W.eq (g2 := F0 m 17 ls [.ref q9]) rfl ?_
  refine lv_astore (lv' := [(4, .ref q9), (0, .ref x), (1, .int (nI i)), (2, .int (nI j)), (3, .ref o)]) hx hb dL_send_17 hl (by decide) rfl (fun ls hl => ?_)
  refine lv_iconst (v := 2) hx hb dL_send_19 (by decide) ?_
  exact vx_ret (W.iret (v := 2) hx hb hr (fun t ht hW => ⟨⟨2, fo 0, rfl, ⟨rfl, fun h => absurd h (by decide)⟩, fo, by rw [ht]; exact (wL_one hP).old hH, rfl⟩, hS.F ht⟩) hS.2.2 dL_send_20)
set_option maxHeartbeats 4000000 in
set_option maxRecDepth 100000 in
/-- the caller of put, noprim -/
theorem cL_put_noprim (l : Launch) (hl9 : l.stackTraces = false) (G : va_G) (k : Nat → ClassId) (wx : va_W) (o : Nat) (fo : Nat → Int64) (sz : Nat) (x nd wy : Nat) (f g : Nat → Option Nat) (hF : FX k wx x nd wy f g) (j : Nat) (hj : j < 4) (p1 p2 : Int32) : vx_Met l yL_put wsL_put (rzk 3 1 6) (PL G k sz (wL k wx o fo) [.ref x, .int (nI j), .int p1, .int p2, .ref o]) (QL G k o 2 0 (va_A (wL k wx o fo) sz)) (fun _ _ _ => False) 1 6 (va_A (wL k wx o fo) sz) := by
  refine vx_ofWH (cc := cL_put) (maxL := 6) (ret := some .int) (hh := [(0, 12, 15, 13), (0, 12, 19, 15), (0, 12, 23, 21), (0, 12, 27, 26)]) (by decide) rfl ?_
  intro p e s m args below meth c s₁ B hml hv
  obtain ⟨rfl, hsz, hP, hD0, hI⟩ := hv
  subst hsz
  have hK := hI.1
  have hD := hD0.self (sz := s.heap.size)
  have hA : ∀ q : Nat, s.heap.size ≤ q → va_A (wL k wx o fo) s.heap.size q := fun _ h => Or.inr h
  have hS : va_S (va_A (wL k wx o fo) s.heap.size) s.heap s.heap [] := va_S.rf
  have hF := hF.mono (ws' := wL k wx o fo) (fun _ h => List.mem_append_left _ h)
  obtain ⟨kx, h0⟩ := List.getElem?_of_mem hF.1
  have hx := B.exec
  have hb := B.bytes
  have hr := B.returns
  have hts := atoms_spec (ws := wsL_put) B.pre
  have htb := vx_table (x := yL_put) B (hts _ List.mem_cons_self)
  have hown : s.vm.findClass RL = some m.cls := findClass_of_methodNamed B.named
  have hlocks := B.notSynchronized
  have hl := lv_entry ([.ref x, .int (nI j), .int p1, .int p2, .ref o]) (n := 6) (Nat.le_of_ble_eq_true rfl)
  rw [lg_entry_eq]
  generalize (lg_sl ([.ref x, .int (nI j), .int p1, .int p2, .ref o]) ++ List.replicate (6 - (lg_sl ([.ref x, .int (nI j), .int p1, .int p2, .ref o])).length) Slot.unset).toArray = ls at hl ⊢
  have hl : lv_has ls 6 [(0, .ref x), (1, .int (nI j)), (2, .int p1), (3, .int p2), (4, .ref o)] := hl
  refine lv_aload hx hb dL_put_0 (lv_at hl 4 rfl) ?_
  refine lv_iconst (v := 0) hx hb dL_put_2 (by decide) ?_
  refine lv_aload_n hx hb dL_put_3 rfl (lv_at hl 0 rfl) ?_
  refine lv_iload_n hx hb dL_put_4 rfl (lv_at hl 1 rfl) ?_
  refine lv_iload_n hx hb dL_put_5 rfl (lv_at hl 2 rfl) ?_
  refine lv_iload_n hx hb dL_put_6 rfl (lv_at hl 3 rfl) ?_
  refine bt_call (vx_runV (As := [.int (nI j), .int p1, .int p2]) (rest := [.int 0, .ref o]) ⟨hx, hb, hml, hown, hts⟩ (c_put_noprim l hl9 G k _ _ x nd wy f g hF j hj p1 p2) (cwV 3 hts gL_put_X3_put rfl rfl rfl (by decide +kernel) ⟨(Nat.le_of_ble_eq_true rfl), (Nat.le_of_ble_eq_true rfl)⟩) (PR.preV hI hS hA hP (ci := 3) rfl h0) rfl rfl hl.1 rfl (lv_room (Nat.le_of_ble_eq_true rfl)) dL_put_7 ⟨(Nat.le_of_ble_eq_true rfl), (Nat.le_of_ble_eq_true rfl)⟩) (fun _ _ _ h => h) hS hA (fun q h => Or.inr (Nat.le_trans hS.1 h)) (fun ce q9 H1 locs1 hH hS h1 h2 h3 => ?_)
  refine vx_catch hown [⟨0, 12, 15, 13⟩] ⟨0, 12, 19, 15⟩ [⟨0, 12, 23, 21⟩, ⟨0, 12, 27, 26⟩] (htb.trans rfl) (fun z hz => by
      simp only [List.mem_cons, List.not_mem_nil, or_false] at hz
      rcases hz with rfl
      exact Or.inr ⟨by decide, Ioob, hts _ (by decide +kernel), hI.2.2.2.1.2.2 (Istt, Ioob) (by decide +kernel)⟩) rfl (by decide) (name := Istt) (hts _ (by decide +kernel)) (va_Nw.use rfl (hI.2.2.2.1.2.1 Istt (by decide +kernel))) h1 h2 h3 ?_
  refine W.eq (g2 := F0 m 19 ls [.ref q9]) rfl ?_
  refine lv_astore (lv' := [(5, .ref q9), (0, .ref x), (1, .int (nI j)), (2, .int p1), (3, .int p2), (4, .ref o)]) hx hb dL_put_19 hl (by decide) rfl (fun ls hl => ?_)
  refine lv_iconst (v := 2) hx hb dL_put_21 (by decide) ?_
  exact vx_ret (W.iret (v := 2) hx hb hr (fun t ht hW => ⟨⟨2, fo 0, rfl, ⟨rfl, fun h => absurd h (by decide)⟩, fo, by rw [ht]; exact (wL_one hP).old hH, rfl⟩, hS.F ht⟩) hS.2.2 dL_put_22)
set_option maxHeartbeats 4000000 in
set_option maxRecDepth 100000 in
/-- the caller of commit, noprim -/
theorem cL_commit_noprim (l : Launch) (hl9 : l.stackTraces = false) (G : va_G) (k : Nat → ClassId) (wx : va_W) (o : Nat) (fo : Nat → Int64) (sz : Nat) (x nd wy : Nat) (f g : Nat → Option Nat) (hF : FX k wx x nd wy f g) (j : Nat) (hj : j < 4) : vx_Met l yL_commit wsL_commit (rzk 3 1 6) (PL G k sz (wL k wx o fo) [.ref x, .int (nI j), .ref o]) (QL G k o 2 0 (va_A (wL k wx o fo) sz)) (fun _ _ _ => False) 1 6 (va_A (wL k wx o fo) sz) := by
  refine vx_ofWH (cc := cL_commit) (maxL := 4) (ret := some .int) (hh := [(0, 16, 19, 13), (0, 16, 22, 15), (0, 16, 25, 26)]) (by decide) rfl ?_
  intro p e s m args below meth c s₁ B hml hv
  obtain ⟨rfl, hsz, hP, hD0, hI⟩ := hv
  subst hsz
  have hK := hI.1
  have hD := hD0.self (sz := s.heap.size)
  have hA : ∀ q : Nat, s.heap.size ≤ q → va_A (wL k wx o fo) s.heap.size q := fun _ h => Or.inr h
  have hS : va_S (va_A (wL k wx o fo) s.heap.size) s.heap s.heap [] := va_S.rf
  have hF := hF.mono (ws' := wL k wx o fo) (fun _ h => List.mem_append_left _ h)
  obtain ⟨kx, h0⟩ := List.getElem?_of_mem hF.1
  have hx := B.exec
  have hb := B.bytes
  have hr := B.returns
  have hts := atoms_spec (ws := wsL_commit) B.pre
  have htb := vx_table (x := yL_commit) B (hts _ List.mem_cons_self)
  have hown : s.vm.findClass RL = some m.cls := findClass_of_methodNamed B.named
  have hlocks := B.notSynchronized
  have hl := lv_entry ([.ref x, .int (nI j), .ref o]) (n := 4) (Nat.le_of_ble_eq_true rfl)
  rw [lg_entry_eq]
  generalize (lg_sl ([.ref x, .int (nI j), .ref o]) ++ List.replicate (4 - (lg_sl ([.ref x, .int (nI j), .ref o])).length) Slot.unset).toArray = ls at hl ⊢
  have hl : lv_has ls 4 [(0, .ref x), (1, .int (nI j)), (2, .ref o)] := hl
  refine lv_aload_n hx hb dL_commit_0 rfl (lv_at hl 2 rfl) ?_
  refine lv_iconst (v := 0) hx hb dL_commit_1 (by decide) ?_
  refine lv_aload_n hx hb dL_commit_2 rfl (lv_at hl 0 rfl) ?_
  refine lv_iload_n hx hb dL_commit_3 rfl (lv_at hl 1 rfl) ?_
  refine bt_call (vx_runV (As := [.int (nI j)]) (rest := [.int 0, .ref o]) ⟨hx, hb, hml, hown, hts⟩ (c_commit_noprim l hl9 G k _ _ x nd wy f g hF j hj) (cwV 1 hts gL_commit_X3_commit rfl rfl rfl (by decide +kernel) ⟨(Nat.le_of_ble_eq_true rfl), (Nat.le_of_ble_eq_true rfl)⟩) (PR.preV hI hS hA hP (ci := 3) rfl h0) rfl rfl hl.1 rfl (lv_room (Nat.le_of_ble_eq_true rfl)) dL_commit_4 ⟨(Nat.le_of_ble_eq_true rfl), (Nat.le_of_ble_eq_true rfl)⟩) (fun _ _ _ h => h) hS hA (fun q h => Or.inr (Nat.le_trans hS.1 h)) (fun ce q9 H1 locs1 hH hS h1 h2 h3 => ?_)
  refine vx_catch hown [⟨0, 16, 19, 13⟩] ⟨0, 16, 22, 15⟩ [⟨0, 16, 25, 26⟩] (htb.trans rfl) (fun z hz => by
      simp only [List.mem_cons, List.not_mem_nil, or_false] at hz
      rcases hz with rfl
      exact Or.inr ⟨by decide, Ioob, hts _ (by decide +kernel), hI.2.2.2.1.2.2 (Istt, Ioob) (by decide +kernel)⟩) rfl (by decide) (name := Istt) (hts _ (by decide +kernel)) (va_Nw.use rfl (hI.2.2.2.1.2.1 Istt (by decide +kernel))) h1 h2 h3 ?_
  refine W.eq (g2 := F0 m 22 ls [.ref q9]) rfl ?_
  refine lv_astore_n (lv' := [(3, .ref q9), (0, .ref x), (1, .int (nI j)), (2, .ref o)]) hx hb dL_commit_22 rfl hl (by decide) rfl (fun ls hl => ?_)
  refine lv_iconst (v := 2) hx hb dL_commit_23 (by decide) ?_
  exact vx_ret (W.iret (v := 2) hx hb hr (fun t ht hW => ⟨⟨2, fo 0, rfl, ⟨rfl, fun h => absurd h (by decide)⟩, fo, by rw [ht]; exact (wL_one hP).old hH, rfl⟩, hS.F ht⟩) hS.2.2 dL_commit_24)
set_option maxHeartbeats 4000000 in
set_option maxRecDepth 100000 in
/-- the caller of standby, bad2 -/
theorem cL_standby_bad2 (l : Launch) (hl9 : l.stackTraces = false) (G : va_G) (k : Nat → ClassId) (wx : va_W) (o : Nat) (fo : Nat → Int64) (sz : Nat) (x nd wy : Nat) (f g : Nat → Option Nat) (hF : FX k wx x nd wy f g) (j : Nat) (hj : j < 4) (p1 : Int32) (h1 : ¬ p1 = -1) (h : bdN p1) : vx_Met l yL_standby wsL_standby (rzk 3 1 6) (PL G k sz (wL k wx o fo) [.ref x, .int (nI j), .int p1, .ref o]) (QL G k o 1 0 (va_A (wL k wx o fo) sz)) (fun _ _ _ => False) 1 6 (va_A (wL k wx o fo) sz) := by
  refine vx_ofWH (cc := cL_standby) (maxL := 5) (ret := some .int) (hh := [(0, 10, 13, 13), (0, 10, 17, 15), (0, 10, 21, 21)]) (by decide) rfl ?_
  intro p e s m args below meth c s₁ B hml hv
  obtain ⟨rfl, hsz, hP, hD0, hI⟩ := hv
  subst hsz
  have hK := hI.1
  have hD := hD0.self (sz := s.heap.size)
  have hA : ∀ q : Nat, s.heap.size ≤ q → va_A (wL k wx o fo) s.heap.size q := fun _ h => Or.inr h
  have hS : va_S (va_A (wL k wx o fo) s.heap.size) s.heap s.heap [] := va_S.rf
  have hF := hF.mono (ws' := wL k wx o fo) (fun _ h => List.mem_append_left _ h)
  obtain ⟨kx, h0⟩ := List.getElem?_of_mem hF.1
  have hx := B.exec
  have hb := B.bytes
  have hr := B.returns
  have hts := atoms_spec (ws := wsL_standby) B.pre
  have htb := vx_table (x := yL_standby) B (hts _ List.mem_cons_self)
  have hown : s.vm.findClass RL = some m.cls := findClass_of_methodNamed B.named
  have hlocks := B.notSynchronized
  have hl := lv_entry ([.ref x, .int (nI j), .int p1, .ref o]) (n := 5) (Nat.le_of_ble_eq_true rfl)
  rw [lg_entry_eq]
  generalize (lg_sl ([.ref x, .int (nI j), .int p1, .ref o]) ++ List.replicate (5 - (lg_sl ([.ref x, .int (nI j), .int p1, .ref o])).length) Slot.unset).toArray = ls at hl ⊢
  have hl : lv_has ls 5 [(0, .ref x), (1, .int (nI j)), (2, .int p1), (3, .ref o)] := hl
  refine lv_aload_n hx hb dL_standby_0 rfl (lv_at hl 3 rfl) ?_
  refine lv_iconst (v := 0) hx hb dL_standby_1 (by decide) ?_
  refine lv_aload_n hx hb dL_standby_2 rfl (lv_at hl 0 rfl) ?_
  refine lv_iload_n hx hb dL_standby_3 rfl (lv_at hl 1 rfl) ?_
  refine lv_iload_n hx hb dL_standby_4 rfl (lv_at hl 2 rfl) ?_
  refine bt_call (vx_runV (As := [.int (nI j), .int p1]) (rest := [.int 0, .ref o]) ⟨hx, hb, hml, hown, hts⟩ (c_standby_bad2 l hl9 G k _ _ x nd wy f g hF j hj p1 h1 h) (cwV 2 hts gL_standby_X3_standby rfl rfl rfl (by decide +kernel) ⟨(Nat.le_of_ble_eq_true rfl), (Nat.le_of_ble_eq_true rfl)⟩) (PR.preV hI hS hA hP (ci := 3) rfl h0) rfl rfl hl.1 rfl (lv_room (Nat.le_of_ble_eq_true rfl)) dL_standby_5 ⟨(Nat.le_of_ble_eq_true rfl), (Nat.le_of_ble_eq_true rfl)⟩) (fun _ _ _ h => h) hS hA (fun q h => Or.inr (Nat.le_trans hS.1 h)) (fun ce q9 H1 locs1 hH hS h1 h2 h3 => ?_)
  refine vx_catch hown [] ⟨0, 10, 13, 13⟩ [⟨0, 10, 17, 15⟩, ⟨0, 10, 21, 21⟩] (htb.trans rfl) (fun _ h => absurd h List.not_mem_nil) rfl (by decide) (name := Ioob) (hts _ (by decide +kernel)) (va_Nw.use rfl (hI.2.2.2.1.2.1 Ioob (by decide +kernel))) h1 h2 h3 ?_
  refine W.eq (g2 := F0 m 13 ls [.ref q9]) rfl ?_
  refine lv_astore (lv' := [(4, .ref q9), (0, .ref x), (1, .int (nI j)), (2, .int p1), (3, .ref o)]) hx hb dL_standby_13 hl (by decide) rfl (fun ls hl => ?_)
  refine lv_iconst (v := 1) hx hb dL_standby_15 (by decide) ?_
  exact vx_ret (W.iret (v := 1) hx hb hr (fun t ht hW => ⟨⟨1, fo 0, rfl, ⟨rfl, fun h => absurd h (by decide)⟩, fo, by rw [ht]; exact (wL_one hP).old hH, rfl⟩, hS.F ht⟩) hS.2.2 dL_standby_16)
set_option maxHeartbeats 4000000 in
set_option maxRecDepth 100000 in
/-- the caller of standby, none -/
theorem cL_standby_none (l : Launch) (hl9 : l.stackTraces = false) (G : va_G) (k : Nat → ClassId) (wx : va_W) (o : Nat) (fo : Nat → Int64) (sz : Nat) (x nd wy : Nat) (f g : Nat → Option Nat) (hF : FX k wx x nd wy f g) (j : Nat) (hj : j < 4) : vx_Met l yL_standby wsL_standby (rzk 3 1 6) (PL G k sz (wL k wx o fo) [.ref x, .int (nI j), .int (-1), .ref o]) (QL G k o 2 0 (va_A (wL k wx o fo) sz)) (fun _ _ _ => False) 1 6 (va_A (wL k wx o fo) sz) := by
  refine vx_ofWH (cc := cL_standby) (maxL := 5) (ret := some .int) (hh := [(0, 10, 13, 13), (0, 10, 17, 15), (0, 10, 21, 21)]) (by decide) rfl ?_
  intro p e s m args below meth c s₁ B hml hv
  obtain ⟨rfl, hsz, hP, hD0, hI⟩ := hv
  subst hsz
  have hK := hI.1
  have hD := hD0.self (sz := s.heap.size)
  have hA : ∀ q : Nat, s.heap.size ≤ q → va_A (wL k wx o fo) s.heap.size q := fun _ h => Or.inr h
  have hS : va_S (va_A (wL k wx o fo) s.heap.size) s.heap s.heap [] := va_S.rf
  have hF := hF.mono (ws' := wL k wx o fo) (fun _ h => List.mem_append_left _ h)
  obtain ⟨kx, h0⟩ := List.getElem?_of_mem hF.1
  have hx := B.exec
  have hb := B.bytes
  have hr := B.returns
  have hts := atoms_spec (ws := wsL_standby) B.pre
  have htb := vx_table (x := yL_standby) B (hts _ List.mem_cons_self)
  have hown : s.vm.findClass RL = some m.cls := findClass_of_methodNamed B.named
  have hlocks := B.notSynchronized
  have hl := lv_entry ([.ref x, .int (nI j), .int (-1), .ref o]) (n := 5) (Nat.le_of_ble_eq_true rfl)
  rw [lg_entry_eq]
  generalize (lg_sl ([.ref x, .int (nI j), .int (-1), .ref o]) ++ List.replicate (5 - (lg_sl ([.ref x, .int (nI j), .int (-1), .ref o])).length) Slot.unset).toArray = ls at hl ⊢
  have hl : lv_has ls 5 [(0, .ref x), (1, .int (nI j)), (2, .int (-1)), (3, .ref o)] := hl
  refine lv_aload_n hx hb dL_standby_0 rfl (lv_at hl 3 rfl) ?_
  refine lv_iconst (v := 0) hx hb dL_standby_1 (by decide) ?_
  refine lv_aload_n hx hb dL_standby_2 rfl (lv_at hl 0 rfl) ?_
  refine lv_iload_n hx hb dL_standby_3 rfl (lv_at hl 1 rfl) ?_
  refine lv_iload_n hx hb dL_standby_4 rfl (lv_at hl 2 rfl) ?_
  refine bt_call (vx_runV (As := [.int (nI j), .int (-1)]) (rest := [.int 0, .ref o]) ⟨hx, hb, hml, hown, hts⟩ (c_standby_none l hl9 G k _ _ x nd wy f g hF j hj) (cwV 2 hts gL_standby_X3_standby rfl rfl rfl (by decide +kernel) ⟨(Nat.le_of_ble_eq_true rfl), (Nat.le_of_ble_eq_true rfl)⟩) (PR.preV hI hS hA hP (ci := 3) rfl h0) rfl rfl hl.1 rfl (lv_room (Nat.le_of_ble_eq_true rfl)) dL_standby_5 ⟨(Nat.le_of_ble_eq_true rfl), (Nat.le_of_ble_eq_true rfl)⟩) (fun _ _ _ h => h) hS hA (fun q h => Or.inr (Nat.le_trans hS.1 h)) (fun ce q9 H1 locs1 hH hS h1 h2 h3 => ?_)
  refine vx_catch hown [⟨0, 10, 13, 13⟩] ⟨0, 10, 17, 15⟩ [⟨0, 10, 21, 21⟩] (htb.trans rfl) (fun z hz => by
      simp only [List.mem_cons, List.not_mem_nil, or_false] at hz
      rcases hz with rfl
      exact Or.inr ⟨by decide, Ioob, hts _ (by decide +kernel), hI.2.2.2.1.2.2 (Istt, Ioob) (by decide +kernel)⟩) rfl (by decide) (name := Istt) (hts _ (by decide +kernel)) (va_Nw.use rfl (hI.2.2.2.1.2.1 Istt (by decide +kernel))) h1 h2 h3 ?_
  refine W.eq (g2 := F0 m 17 ls [.ref q9]) rfl ?_
  refine lv_astore (lv' := [(4, .ref q9), (0, .ref x), (1, .int (nI j)), (2, .int (-1)), (3, .ref o)]) hx hb dL_standby_17 hl (by decide) rfl (fun ls hl => ?_)
  refine lv_iconst (v := 2) hx hb dL_standby_19 (by decide) ?_
  exact vx_ret (W.iret (v := 2) hx hb hr (fun t ht hW => ⟨⟨2, fo 0, rfl, ⟨rfl, fun h => absurd h (by decide)⟩, fo, by rw [ht]; exact (wL_one hP).old hH, rfl⟩, hS.F ht⟩) hS.2.2 dL_standby_20)
set_option maxHeartbeats 4000000 in
set_option maxRecDepth 100000 in
/-- the caller of standby, noprim -/
theorem cL_standby_noprim (l : Launch) (hl9 : l.stackTraces = false) (G : va_G) (k : Nat → ClassId) (wx : va_W) (o : Nat) (fo : Nat → Int64) (sz : Nat) (x nd wy : Nat) (f g : Nat → Option Nat) (hF : FX k wx x nd wy f g) (j : Nat) (hj : j < 4) (i : Nat) (hi : i < 4) : vx_Met l yL_standby wsL_standby (rzk 3 1 6) (PL G k sz (wL k wx o fo) [.ref x, .int (nI j), .int (nI i), .ref o]) (QL G k o 2 0 (va_A (wL k wx o fo) sz)) (fun _ _ _ => False) 1 6 (va_A (wL k wx o fo) sz) := by
  refine vx_ofWH (cc := cL_standby) (maxL := 5) (ret := some .int) (hh := [(0, 10, 13, 13), (0, 10, 17, 15), (0, 10, 21, 21)]) (by decide) rfl ?_
  intro p e s m args below meth c s₁ B hml hv
  obtain ⟨rfl, hsz, hP, hD0, hI⟩ := hv
  subst hsz
  have hK := hI.1
  have hD := hD0.self (sz := s.heap.size)
  have hA : ∀ q : Nat, s.heap.size ≤ q → va_A (wL k wx o fo) s.heap.size q := fun _ h => Or.inr h
  have hS : va_S (va_A (wL k wx o fo) s.heap.size) s.heap s.heap [] := va_S.rf
  have hF := hF.mono (ws' := wL k wx o fo) (fun _ h => List.mem_append_left _ h)
  obtain ⟨kx, h0⟩ := List.getElem?_of_mem hF.1
  have hx := B.exec
  have hb := B.bytes
  have hr := B.returns
  have hts := atoms_spec (ws := wsL_standby) B.pre
  have htb := vx_table (x := yL_standby) B (hts _ List.mem_cons_self)
  have hown : s.vm.findClass RL = some m.cls := findClass_of_methodNamed B.named
  have hlocks := B.notSynchronized
  have hl := lv_entry ([.ref x, .int (nI j), .int (nI i), .ref o]) (n := 5) (Nat.le_of_ble_eq_true rfl)
  rw [lg_entry_eq]
  generalize (lg_sl ([.ref x, .int (nI j), .int (nI i), .ref o]) ++ List.replicate (5 - (lg_sl ([.ref x, .int (nI j), .int (nI i), .ref o])).length) Slot.unset).toArray = ls at hl ⊢
  have hl : lv_has ls 5 [(0, .ref x), (1, .int (nI j)), (2, .int (nI i)), (3, .ref o)] := hl
  refine lv_aload_n hx hb dL_standby_0 rfl (lv_at hl 3 rfl) ?_
  refine lv_iconst (v := 0) hx hb dL_standby_1 (by decide) ?_
  refine lv_aload_n hx hb dL_standby_2 rfl (lv_at hl 0 rfl) ?_
  refine lv_iload_n hx hb dL_standby_3 rfl (lv_at hl 1 rfl) ?_
  refine lv_iload_n hx hb dL_standby_4 rfl (lv_at hl 2 rfl) ?_
  refine bt_call (vx_runV (As := [.int (nI j), .int (nI i)]) (rest := [.int 0, .ref o]) ⟨hx, hb, hml, hown, hts⟩ (c_standby_noprim l hl9 G k _ _ x nd wy f g hF j hj i hi) (cwV 2 hts gL_standby_X3_standby rfl rfl rfl (by decide +kernel) ⟨(Nat.le_of_ble_eq_true rfl), (Nat.le_of_ble_eq_true rfl)⟩) (PR.preV hI hS hA hP (ci := 3) rfl h0) rfl rfl hl.1 rfl (lv_room (Nat.le_of_ble_eq_true rfl)) dL_standby_5 ⟨(Nat.le_of_ble_eq_true rfl), (Nat.le_of_ble_eq_true rfl)⟩) (fun _ _ _ h => h) hS hA (fun q h => Or.inr (Nat.le_trans hS.1 h)) (fun ce q9 H1 locs1 hH hS h1 h2 h3 => ?_)
  refine vx_catch hown [⟨0, 10, 13, 13⟩] ⟨0, 10, 17, 15⟩ [⟨0, 10, 21, 21⟩] (htb.trans rfl) (fun z hz => by
      simp only [List.mem_cons, List.not_mem_nil, or_false] at hz
      rcases hz with rfl
      exact Or.inr ⟨by decide, Ioob, hts _ (by decide +kernel), hI.2.2.2.1.2.2 (Istt, Ioob) (by decide +kernel)⟩) rfl (by decide) (name := Istt) (hts _ (by decide +kernel)) (va_Nw.use rfl (hI.2.2.2.1.2.1 Istt (by decide +kernel))) h1 h2 h3 ?_
  refine W.eq (g2 := F0 m 17 ls [.ref q9]) rfl ?_
  refine lv_astore (lv' := [(4, .ref q9), (0, .ref x), (1, .int (nI j)), (2, .int (nI i)), (3, .ref o)]) hx hb dL_standby_17 hl (by decide) rfl (fun ls hl => ?_)
  refine lv_iconst (v := 2) hx hb dL_standby_19 (by decide) ?_
  exact vx_ret (W.iret (v := 2) hx hb hr (fun t ht hW => ⟨⟨2, fo 0, rfl, ⟨rfl, fun h => absurd h (by decide)⟩, fo, by rw [ht]; exact (wL_one hP).old hH, rfl⟩, hS.F ht⟩) hS.2.2 dL_standby_20)
set_option maxHeartbeats 4000000 in
set_option maxRecDepth 100000 in
/-- the caller of apply, small -/
theorem cL_apply_small (l : Launch) (hl9 : l.stackTraces = false) (G : va_G) (k : Nat → ClassId) (wx : va_W) (o : Nat) (fo : Nat → Int64) (sz : Nat) (x nd wy : Nat) (f g : Nat → Option Nat) (hF : FX k wx x nd wy f g) (j : Nat) (hj : j < 4) (p1 : Int32) (h : p1 < 1) : vx_Met l yL_apply wsL_apply (rzk 3 1 6) (PL G k sz (wL k wx o fo) [.ref x, .int (nI j), .int p1, .ref o]) (QL G k o 2 0 (va_A (wL k wx o fo) sz)) (fun _ _ _ => False) 1 6 (va_A (wL k wx o fo) sz) := by
  refine vx_ofWH (cc := cL_apply) (maxL := 5) (ret := some .int) (hh := [(0, 10, 13, 13), (0, 10, 17, 21), (0, 10, 21, 15)]) (by decide) rfl ?_
  intro p e s m args below meth c s₁ B hml hv
  obtain ⟨rfl, hsz, hP, hD0, hI⟩ := hv
  subst hsz
  have hK := hI.1
  have hD := hD0.self (sz := s.heap.size)
  have hA : ∀ q : Nat, s.heap.size ≤ q → va_A (wL k wx o fo) s.heap.size q := fun _ h => Or.inr h
  have hS : va_S (va_A (wL k wx o fo) s.heap.size) s.heap s.heap [] := va_S.rf
  have hF := hF.mono (ws' := wL k wx o fo) (fun _ h => List.mem_append_left _ h)
  obtain ⟨kx, h0⟩ := List.getElem?_of_mem hF.1
  have hx := B.exec
  have hb := B.bytes
  have hr := B.returns
  have hts := atoms_spec (ws := wsL_apply) B.pre
  have htb := vx_table (x := yL_apply) B (hts _ List.mem_cons_self)
  have hown : s.vm.findClass RL = some m.cls := findClass_of_methodNamed B.named
  have hlocks := B.notSynchronized
  have hl := lv_entry ([.ref x, .int (nI j), .int p1, .ref o]) (n := 5) (Nat.le_of_ble_eq_true rfl)
  rw [lg_entry_eq]
  generalize (lg_sl ([.ref x, .int (nI j), .int p1, .ref o]) ++ List.replicate (5 - (lg_sl ([.ref x, .int (nI j), .int p1, .ref o])).length) Slot.unset).toArray = ls at hl ⊢
  have hl : lv_has ls 5 [(0, .ref x), (1, .int (nI j)), (2, .int p1), (3, .ref o)] := hl
  refine lv_aload_n hx hb dL_apply_0 rfl (lv_at hl 3 rfl) ?_
  refine lv_iconst (v := 0) hx hb dL_apply_1 (by decide) ?_
  refine lv_aload_n hx hb dL_apply_2 rfl (lv_at hl 0 rfl) ?_
  refine lv_iload_n hx hb dL_apply_3 rfl (lv_at hl 1 rfl) ?_
  refine lv_iload_n hx hb dL_apply_4 rfl (lv_at hl 2 rfl) ?_
  refine bt_call (vx_runV (As := [.int (nI j), .int p1]) (rest := [.int 0, .ref o]) ⟨hx, hb, hml, hown, hts⟩ (c_apply_small l hl9 G k _ _ x nd wy f g hF j hj p1 h) (cwV 2 hts gL_apply_X3_apply rfl rfl rfl (by decide +kernel) ⟨(Nat.le_of_ble_eq_true rfl), (Nat.le_of_ble_eq_true rfl)⟩) (PR.preV hI hS hA hP (ci := 3) rfl h0) rfl rfl hl.1 rfl (lv_room (Nat.le_of_ble_eq_true rfl)) dL_apply_5 ⟨(Nat.le_of_ble_eq_true rfl), (Nat.le_of_ble_eq_true rfl)⟩) (fun _ _ _ h => h) hS hA (fun q h => Or.inr (Nat.le_trans hS.1 h)) (fun ce q9 H1 locs1 hH hS h1 h2 h3 => ?_)
  refine vx_catch hown [⟨0, 10, 13, 13⟩] ⟨0, 10, 17, 21⟩ [⟨0, 10, 21, 15⟩] (htb.trans rfl) (fun z hz => by
      simp only [List.mem_cons, List.not_mem_nil, or_false] at hz
      rcases hz with rfl
      exact Or.inr ⟨by decide, Ioob, hts _ (by decide +kernel), hI.2.2.2.1.2.2 (Iarg, Ioob) (by decide +kernel)⟩) rfl (by decide) (name := Iarg) (hts _ (by decide +kernel)) (va_Nw.use rfl (hI.2.2.2.1.2.1 Iarg (by decide +kernel))) h1 h2 h3 ?_
  refine W.eq (g2 := F0 m 17 ls [.ref q9]) rfl ?_
  refine lv_astore (lv' := [(4, .ref q9), (0, .ref x), (1, .int (nI j)), (2, .int p1), (3, .ref o)]) hx hb dL_apply_17 hl (by decide) rfl (fun ls hl => ?_)
  refine lv_iconst (v := 2) hx hb dL_apply_19 (by decide) ?_
  exact vx_ret (W.iret (v := 2) hx hb hr (fun t ht hW => ⟨⟨2, fo 0, rfl, ⟨rfl, fun h => absurd h (by decide)⟩, fo, by rw [ht]; exact (wL_one hP).old hH, rfl⟩, hS.F ht⟩) hS.2.2 dL_apply_20)
set_option maxHeartbeats 4000000 in
set_option maxRecDepth 100000 in
/-- the caller of apply, norep -/
theorem cL_apply_norep (l : Launch) (hl9 : l.stackTraces = false) (G : va_G) (k : Nat → ClassId) (wx : va_W) (o : Nat) (fo : Nat → Int64) (sz : Nat) (x nd wy : Nat) (f g : Nat → Option Nat) (hF : FX k wx x nd wy f g) (j : Nat) (hj : j < 4) (p1 : Int32) (h : ¬ p1 < 1) : vx_Met l yL_apply wsL_apply (rzk 3 1 6) (PL G k sz (wL k wx o fo) [.ref x, .int (nI j), .int p1, .ref o]) (QL G k o 3 0 (va_A (wL k wx o fo) sz)) (fun _ _ _ => False) 1 6 (va_A (wL k wx o fo) sz) := by
  refine vx_ofWH (cc := cL_apply) (maxL := 5) (ret := some .int) (hh := [(0, 10, 13, 13), (0, 10, 17, 21), (0, 10, 21, 15)]) (by decide) rfl ?_
  intro p e s m args below meth c s₁ B hml hv
  obtain ⟨rfl, hsz, hP, hD0, hI⟩ := hv
  subst hsz
  have hK := hI.1
  have hD := hD0.self (sz := s.heap.size)
  have hA : ∀ q : Nat, s.heap.size ≤ q → va_A (wL k wx o fo) s.heap.size q := fun _ h => Or.inr h
  have hS : va_S (va_A (wL k wx o fo) s.heap.size) s.heap s.heap [] := va_S.rf
  have hF := hF.mono (ws' := wL k wx o fo) (fun _ h => List.mem_append_left _ h)
  obtain ⟨kx, h0⟩ := List.getElem?_of_mem hF.1
  have hx := B.exec
  have hb := B.bytes
  have hr := B.returns
  have hts := atoms_spec (ws := wsL_apply) B.pre
  have htb := vx_table (x := yL_apply) B (hts _ List.mem_cons_self)
  have hown : s.vm.findClass RL = some m.cls := findClass_of_methodNamed B.named
  have hlocks := B.notSynchronized
  have hl := lv_entry ([.ref x, .int (nI j), .int p1, .ref o]) (n := 5) (Nat.le_of_ble_eq_true rfl)
  rw [lg_entry_eq]
  generalize (lg_sl ([.ref x, .int (nI j), .int p1, .ref o]) ++ List.replicate (5 - (lg_sl ([.ref x, .int (nI j), .int p1, .ref o])).length) Slot.unset).toArray = ls at hl ⊢
  have hl : lv_has ls 5 [(0, .ref x), (1, .int (nI j)), (2, .int p1), (3, .ref o)] := hl
  refine lv_aload_n hx hb dL_apply_0 rfl (lv_at hl 3 rfl) ?_
  refine lv_iconst (v := 0) hx hb dL_apply_1 (by decide) ?_
  refine lv_aload_n hx hb dL_apply_2 rfl (lv_at hl 0 rfl) ?_
  refine lv_iload_n hx hb dL_apply_3 rfl (lv_at hl 1 rfl) ?_
  refine lv_iload_n hx hb dL_apply_4 rfl (lv_at hl 2 rfl) ?_
  refine bt_call (vx_runV (As := [.int (nI j), .int p1]) (rest := [.int 0, .ref o]) ⟨hx, hb, hml, hown, hts⟩ (c_apply_norep l hl9 G k _ _ x nd wy f g hF j hj p1 h) (cwV 2 hts gL_apply_X3_apply rfl rfl rfl (by decide +kernel) ⟨(Nat.le_of_ble_eq_true rfl), (Nat.le_of_ble_eq_true rfl)⟩) (PR.preV hI hS hA hP (ci := 3) rfl h0) rfl rfl hl.1 rfl (lv_room (Nat.le_of_ble_eq_true rfl)) dL_apply_5 ⟨(Nat.le_of_ble_eq_true rfl), (Nat.le_of_ble_eq_true rfl)⟩) (fun _ _ _ h => h) hS hA (fun q h => Or.inr (Nat.le_trans hS.1 h)) (fun ce q9 H1 locs1 hH hS h1 h2 h3 => ?_)
  refine vx_catch hown [⟨0, 10, 13, 13⟩, ⟨0, 10, 17, 21⟩] ⟨0, 10, 21, 15⟩ [] (htb.trans rfl) (fun z hz => by
      simp only [List.mem_cons, List.not_mem_nil, or_false] at hz
      rcases hz with rfl | rfl
      · exact Or.inr ⟨by decide, Ioob, hts _ (by decide +kernel), hI.2.2.2.1.2.2 (Istt, Ioob) (by decide +kernel)⟩
      · exact Or.inr ⟨by decide, Iarg, hts _ (by decide +kernel), hI.2.2.2.1.2.2 (Istt, Iarg) (by decide +kernel)⟩) rfl (by decide) (name := Istt) (hts _ (by decide +kernel)) (va_Nw.use rfl (hI.2.2.2.1.2.1 Istt (by decide +kernel))) h1 h2 h3 ?_
  refine W.eq (g2 := F0 m 21 ls [.ref q9]) rfl ?_
  refine lv_astore (lv' := [(4, .ref q9), (0, .ref x), (1, .int (nI j)), (2, .int p1), (3, .ref o)]) hx hb dL_apply_21 hl (by decide) rfl (fun ls hl => ?_)
  refine lv_iconst (v := 3) hx hb dL_apply_23 (by decide) ?_
  exact vx_ret (W.iret (v := 3) hx hb hr (fun t ht hW => ⟨⟨3, fo 0, rfl, ⟨rfl, fun h => absurd h (by decide)⟩, fo, by rw [ht]; exact (wL_one hP).old hH, rfl⟩, hS.F ht⟩) hS.2.2 dL_apply_24)
set_option maxHeartbeats 4000000 in
set_option maxRecDepth 100000 in
/-- the caller of get, nokey -/
theorem cL_get_nokey (l : Launch) (hl9 : l.stackTraces = false) (G : va_G) (k : Nat → ClassId) (wx : va_W) (o : Nat) (fo : Nat → Int64) (sz : Nat) (x nd wy : Nat) (f g : Nat → Option Nat) (hF : FX k wx x nd wy f g) (j : Nat) (hj : j < 4) (p1 : Int32) (h : bdK p1) : vx_Met l yL_get wsL_get (rzk 3 1 6) (PL G k sz (wL k wx o fo) [.ref x, .int (nI j), .int p1, .ref o]) (QL G k o 1 0 (va_A (wL k wx o fo) sz)) (fun _ _ _ => False) 1 6 (va_A (wL k wx o fo) sz) := by
  refine vx_ofWH (cc := cL_get) (maxL := 5) (ret := some .int) (hh := [(0, 10, 13, 13), (0, 10, 17, 15)]) (by decide) rfl ?_
  intro p e s m args below meth c s₁ B hml hv
  obtain ⟨rfl, hsz, hP, hD0, hI⟩ := hv
  subst hsz
  have hK := hI.1
  have hD := hD0.self (sz := s.heap.size)
  have hA : ∀ q : Nat, s.heap.size ≤ q → va_A (wL k wx o fo) s.heap.size q := fun _ h => Or.inr h
  have hS : va_S (va_A (wL k wx o fo) s.heap.size) s.heap s.heap [] := va_S.rf
  have hF := hF.mono (ws' := wL k wx o fo) (fun _ h => List.mem_append_left _ h)
  obtain ⟨kx, h0⟩ := List.getElem?_of_mem hF.1
  have hx := B.exec
  have hb := B.bytes
  have hr := B.returns
  have hts := atoms_spec (ws := wsL_get) B.pre
  have htb := vx_table (x := yL_get) B (hts _ List.mem_cons_self)
  have hown : s.vm.findClass RL = some m.cls := findClass_of_methodNamed B.named
  have hlocks := B.notSynchronized
  have hl := lv_entry ([.ref x, .int (nI j), .int p1, .ref o]) (n := 5) (Nat.le_of_ble_eq_true rfl)
  rw [lg_entry_eq]
  generalize (lg_sl ([.ref x, .int (nI j), .int p1, .ref o]) ++ List.replicate (5 - (lg_sl ([.ref x, .int (nI j), .int p1, .ref o])).length) Slot.unset).toArray = ls at hl ⊢
  have hl : lv_has ls 5 [(0, .ref x), (1, .int (nI j)), (2, .int p1), (3, .ref o)] := hl
  refine lv_aload_n hx hb dL_get_0 rfl (lv_at hl 3 rfl) ?_
  refine lv_iconst (v := 0) hx hb dL_get_1 (by decide) ?_
  refine lv_aload_n hx hb dL_get_2 rfl (lv_at hl 0 rfl) ?_
  refine lv_iload_n hx hb dL_get_3 rfl (lv_at hl 1 rfl) ?_
  refine lv_iload_n hx hb dL_get_4 rfl (lv_at hl 2 rfl) ?_
  refine bt_call (vx_runV (As := [.int (nI j), .int p1]) (rest := [.int 0, .ref o]) ⟨hx, hb, hml, hown, hts⟩ (c_get_nokey l hl9 G k _ _ x nd wy f g hF j hj p1 h) (cwV 2 hts gL_get_X3_get rfl rfl rfl (by decide +kernel) ⟨(Nat.le_of_ble_eq_true rfl), (Nat.le_of_ble_eq_true rfl)⟩) (PR.preV hI hS hA hP (ci := 3) rfl h0) rfl rfl hl.1 rfl (lv_room (Nat.le_of_ble_eq_true rfl)) dL_get_5 ⟨(Nat.le_of_ble_eq_true rfl), (Nat.le_of_ble_eq_true rfl)⟩) (fun _ _ _ h => h) hS hA (fun q h => Or.inr (Nat.le_trans hS.1 h)) (fun ce q9 H1 locs1 hH hS h1 h2 h3 => ?_)
  refine vx_catch hown [] ⟨0, 10, 13, 13⟩ [⟨0, 10, 17, 15⟩] (htb.trans rfl) (fun _ h => absurd h List.not_mem_nil) rfl (by decide) (name := Ioob) (hts _ (by decide +kernel)) (va_Nw.use rfl (hI.2.2.2.1.2.1 Ioob (by decide +kernel))) h1 h2 h3 ?_
  refine W.eq (g2 := F0 m 13 ls [.ref q9]) rfl ?_
  refine lv_astore (lv' := [(4, .ref q9), (0, .ref x), (1, .int (nI j)), (2, .int p1), (3, .ref o)]) hx hb dL_get_13 hl (by decide) rfl (fun ls hl => ?_)
  refine lv_iconst (v := 1) hx hb dL_get_15 (by decide) ?_
  exact vx_ret (W.iret (v := 1) hx hb hr (fun t ht hW => ⟨⟨1, fo 0, rfl, ⟨rfl, fun h => absurd h (by decide)⟩, fo, by rw [ht]; exact (wL_one hP).old hH, rfl⟩, hS.F ht⟩) hS.2.2 dL_get_16)
set_option maxHeartbeats 4000000 in
set_option maxRecDepth 100000 in
/-- the caller of get, down -/
theorem cL_get_down (l : Launch) (hl9 : l.stackTraces = false) (G : va_G) (k : Nat → ClassId) (wx : va_W) (o : Nat) (fo : Nat → Int64) (sz : Nat) (x nd wy : Nat) (f g : Nat → Option Nat) (hF : FX k wx x nd wy f g) (j : Nat) (hj : j < 4) (q : Nat) (hq : q < 16) : vx_Met l yL_get wsL_get (rzk 3 1 6) (PL G k sz (wL k wx o fo) [.ref x, .int (nI j), .int (nI q), .ref o]) (QL G k o 2 0 (va_A (wL k wx o fo) sz)) (fun _ _ _ => False) 1 6 (va_A (wL k wx o fo) sz) := by
  refine vx_ofWH (cc := cL_get) (maxL := 5) (ret := some .int) (hh := [(0, 10, 13, 13), (0, 10, 17, 15)]) (by decide) rfl ?_
  intro p e s m args below meth c s₁ B hml hv
  obtain ⟨rfl, hsz, hP, hD0, hI⟩ := hv
  subst hsz
  have hK := hI.1
  have hD := hD0.self (sz := s.heap.size)
  have hA : ∀ q : Nat, s.heap.size ≤ q → va_A (wL k wx o fo) s.heap.size q := fun _ h => Or.inr h
  have hS : va_S (va_A (wL k wx o fo) s.heap.size) s.heap s.heap [] := va_S.rf
  have hF := hF.mono (ws' := wL k wx o fo) (fun _ h => List.mem_append_left _ h)
  obtain ⟨kx, h0⟩ := List.getElem?_of_mem hF.1
  have hx := B.exec
  have hb := B.bytes
  have hr := B.returns
  have hts := atoms_spec (ws := wsL_get) B.pre
  have htb := vx_table (x := yL_get) B (hts _ List.mem_cons_self)
  have hown : s.vm.findClass RL = some m.cls := findClass_of_methodNamed B.named
  have hlocks := B.notSynchronized
  have hl := lv_entry ([.ref x, .int (nI j), .int (nI q), .ref o]) (n := 5) (Nat.le_of_ble_eq_true rfl)
  rw [lg_entry_eq]
  generalize (lg_sl ([.ref x, .int (nI j), .int (nI q), .ref o]) ++ List.replicate (5 - (lg_sl ([.ref x, .int (nI j), .int (nI q), .ref o])).length) Slot.unset).toArray = ls at hl ⊢
  have hl : lv_has ls 5 [(0, .ref x), (1, .int (nI j)), (2, .int (nI q)), (3, .ref o)] := hl
  refine lv_aload_n hx hb dL_get_0 rfl (lv_at hl 3 rfl) ?_
  refine lv_iconst (v := 0) hx hb dL_get_1 (by decide) ?_
  refine lv_aload_n hx hb dL_get_2 rfl (lv_at hl 0 rfl) ?_
  refine lv_iload_n hx hb dL_get_3 rfl (lv_at hl 1 rfl) ?_
  refine lv_iload_n hx hb dL_get_4 rfl (lv_at hl 2 rfl) ?_
  refine bt_call (vx_runV (As := [.int (nI j), .int (nI q)]) (rest := [.int 0, .ref o]) ⟨hx, hb, hml, hown, hts⟩ (c_get_down l hl9 G k _ _ x nd wy f g hF j hj q hq) (cwV 2 hts gL_get_X3_get rfl rfl rfl (by decide +kernel) ⟨(Nat.le_of_ble_eq_true rfl), (Nat.le_of_ble_eq_true rfl)⟩) (PR.preV hI hS hA hP (ci := 3) rfl h0) rfl rfl hl.1 rfl (lv_room (Nat.le_of_ble_eq_true rfl)) dL_get_5 ⟨(Nat.le_of_ble_eq_true rfl), (Nat.le_of_ble_eq_true rfl)⟩) (fun _ _ _ h => h) hS hA (fun q h => Or.inr (Nat.le_trans hS.1 h)) (fun ce q9 H1 locs1 hH hS h1 h2 h3 => ?_)
  refine vx_catch hown [⟨0, 10, 13, 13⟩] ⟨0, 10, 17, 15⟩ [] (htb.trans rfl) (fun z hz => by
      simp only [List.mem_cons, List.not_mem_nil, or_false] at hz
      rcases hz with rfl
      exact Or.inr ⟨by decide, Ioob, hts _ (by decide +kernel), hI.2.2.2.1.2.2 (Istt, Ioob) (by decide +kernel)⟩) rfl (by decide) (name := Istt) (hts _ (by decide +kernel)) (va_Nw.use rfl (hI.2.2.2.1.2.1 Istt (by decide +kernel))) h1 h2 h3 ?_
  refine W.eq (g2 := F0 m 17 ls [.ref q9]) rfl ?_
  refine lv_astore (lv' := [(4, .ref q9), (0, .ref x), (1, .int (nI j)), (2, .int (nI q)), (3, .ref o)]) hx hb dL_get_17 hl (by decide) rfl (fun ls hl => ?_)
  refine lv_iconst (v := 2) hx hb dL_get_19 (by decide) ?_
  exact vx_ret (W.iret (v := 2) hx hb hr (fun t ht hW => ⟨⟨2, fo 0, rfl, ⟨rfl, fun h => absurd h (by decide)⟩, fo, by rw [ht]; exact (wL_one hP).old hH, rfl⟩, hS.F ht⟩) hS.2.2 dL_get_20)
set_option maxHeartbeats 4000000 in
set_option maxRecDepth 100000 in
/-- the caller of byteAt, neg -/
theorem cL_byteAt_neg (l : Launch) (hl9 : l.stackTraces = false) (G : va_G) (k : Nat → ClassId) (wx : va_W) (o : Nat) (fo : Nat → Int64) (sz : Nat) (x nd wy : Nat) (f g : Nat → Option Nat) (hF : FX k wx x nd wy f g) (j : Nat) (hj : j < 4) (p1 p2 : Int32) (h : p1 < 0) : vx_Met l yL_byteAt wsL_byteAt (rzk 3 1 6) (PL G k sz (wL k wx o fo) [.ref x, .int (nI j), .int p1, .int p2, .ref o]) (QL G k o 1 0 (va_A (wL k wx o fo) sz)) (fun _ _ _ => False) 1 6 (va_A (wL k wx o fo) sz) := by
  refine vx_ofWH (cc := cL_byteAt) (maxL := 6) (ret := some .int) (hh := [(0, 12, 15, 13)]) (by decide) rfl ?_
  intro p e s m args below meth c s₁ B hml hv
  obtain ⟨rfl, hsz, hP, hD0, hI⟩ := hv
  subst hsz
  have hK := hI.1
  have hD := hD0.self (sz := s.heap.size)
  have hA : ∀ q : Nat, s.heap.size ≤ q → va_A (wL k wx o fo) s.heap.size q := fun _ h => Or.inr h
  have hS : va_S (va_A (wL k wx o fo) s.heap.size) s.heap s.heap [] := va_S.rf
  have hF := hF.mono (ws' := wL k wx o fo) (fun _ h => List.mem_append_left _ h)
  obtain ⟨kx, h0⟩ := List.getElem?_of_mem hF.1
  have hx := B.exec
  have hb := B.bytes
  have hr := B.returns
  have hts := atoms_spec (ws := wsL_byteAt) B.pre
  have htb := vx_table (x := yL_byteAt) B (hts _ List.mem_cons_self)
  have hown : s.vm.findClass RL = some m.cls := findClass_of_methodNamed B.named
  have hlocks := B.notSynchronized
  have hl := lv_entry ([.ref x, .int (nI j), .int p1, .int p2, .ref o]) (n := 6) (Nat.le_of_ble_eq_true rfl)
  rw [lg_entry_eq]
  generalize (lg_sl ([.ref x, .int (nI j), .int p1, .int p2, .ref o]) ++ List.replicate (6 - (lg_sl ([.ref x, .int (nI j), .int p1, .int p2, .ref o])).length) Slot.unset).toArray = ls at hl ⊢
  have hl : lv_has ls 6 [(0, .ref x), (1, .int (nI j)), (2, .int p1), (3, .int p2), (4, .ref o)] := hl
  refine lv_aload hx hb dL_byteAt_0 (lv_at hl 4 rfl) ?_
  refine lv_iconst (v := 0) hx hb dL_byteAt_2 (by decide) ?_
  refine lv_aload_n hx hb dL_byteAt_3 rfl (lv_at hl 0 rfl) ?_
  refine lv_iload_n hx hb dL_byteAt_4 rfl (lv_at hl 1 rfl) ?_
  refine lv_iload_n hx hb dL_byteAt_5 rfl (lv_at hl 2 rfl) ?_
  refine lv_iload_n hx hb dL_byteAt_6 rfl (lv_at hl 3 rfl) ?_
  refine bt_call (vx_runV (As := [.int (nI j), .int p1, .int p2]) (rest := [.int 0, .ref o]) ⟨hx, hb, hml, hown, hts⟩ (c_byteAt_neg l hl9 G k _ _ x nd wy f g hF j hj p1 p2 h) (cwV 3 hts gL_byteAt_X3_byteAt rfl rfl rfl (by decide +kernel) ⟨(Nat.le_of_ble_eq_true rfl), (Nat.le_of_ble_eq_true rfl)⟩) (PR.preV hI hS hA hP (ci := 3) rfl h0) rfl rfl hl.1 rfl (lv_room (Nat.le_of_ble_eq_true rfl)) dL_byteAt_7 ⟨(Nat.le_of_ble_eq_true rfl), (Nat.le_of_ble_eq_true rfl)⟩) (fun _ _ _ h => h) hS hA (fun q h => Or.inr (Nat.le_trans hS.1 h)) (fun ce q9 H1 locs1 hH hS h1 h2 h3 => ?_)
  refine vx_catch hown [] ⟨0, 12, 15, 13⟩ [] (htb.trans rfl) (fun _ h => absurd h List.not_mem_nil) rfl (by decide) (name := Ioob) (hts _ (by decide +kernel)) (va_Nw.use rfl (hI.2.2.2.1.2.1 Ioob (by decide +kernel))) h1 h2 h3 ?_
  refine W.eq (g2 := F0 m 15 ls [.ref q9]) rfl ?_
  refine lv_astore (lv' := [(5, .ref q9), (0, .ref x), (1, .int (nI j)), (2, .int p1), (3, .int p2), (4, .ref o)]) hx hb dL_byteAt_15 hl (by decide) rfl (fun ls hl => ?_)
  refine lv_iconst (v := 1) hx hb dL_byteAt_17 (by decide) ?_
  exact vx_ret (W.iret (v := 1) hx hb hr (fun t ht hW => ⟨⟨1, fo 0, rfl, ⟨rfl, fun h => absurd h (by decide)⟩, fo, by rw [ht]; exact (wL_one hP).old hH, rfl⟩, hS.F ht⟩) hS.2.2 dL_byteAt_18)
set_option maxHeartbeats 4000000 in
set_option maxRecDepth 100000 in
/-- the caller of byteAt, big -/
theorem cL_byteAt_big (l : Launch) (hl9 : l.stackTraces = false) (G : va_G) (k : Nat → ClassId) (wx : va_W) (o : Nat) (fo : Nat → Int64) (sz : Nat) (x nd wy : Nat) (f g : Nat → Option Nat) (hF : FX k wx x nd wy f g) (j : Nat) (hj : j < 4) (p1 p2 : Int32) (h : 4096 ≤ p1) : vx_Met l yL_byteAt wsL_byteAt (rzk 3 1 6) (PL G k sz (wL k wx o fo) [.ref x, .int (nI j), .int p1, .int p2, .ref o]) (QL G k o 1 0 (va_A (wL k wx o fo) sz)) (fun _ _ _ => False) 1 6 (va_A (wL k wx o fo) sz) := by
  refine vx_ofWH (cc := cL_byteAt) (maxL := 6) (ret := some .int) (hh := [(0, 12, 15, 13)]) (by decide) rfl ?_
  intro p e s m args below meth c s₁ B hml hv
  obtain ⟨rfl, hsz, hP, hD0, hI⟩ := hv
  subst hsz
  have hK := hI.1
  have hD := hD0.self (sz := s.heap.size)
  have hA : ∀ q : Nat, s.heap.size ≤ q → va_A (wL k wx o fo) s.heap.size q := fun _ h => Or.inr h
  have hS : va_S (va_A (wL k wx o fo) s.heap.size) s.heap s.heap [] := va_S.rf
  have hF := hF.mono (ws' := wL k wx o fo) (fun _ h => List.mem_append_left _ h)
  obtain ⟨kx, h0⟩ := List.getElem?_of_mem hF.1
  have hx := B.exec
  have hb := B.bytes
  have hr := B.returns
  have hts := atoms_spec (ws := wsL_byteAt) B.pre
  have htb := vx_table (x := yL_byteAt) B (hts _ List.mem_cons_self)
  have hown : s.vm.findClass RL = some m.cls := findClass_of_methodNamed B.named
  have hlocks := B.notSynchronized
  have hl := lv_entry ([.ref x, .int (nI j), .int p1, .int p2, .ref o]) (n := 6) (Nat.le_of_ble_eq_true rfl)
  rw [lg_entry_eq]
  generalize (lg_sl ([.ref x, .int (nI j), .int p1, .int p2, .ref o]) ++ List.replicate (6 - (lg_sl ([.ref x, .int (nI j), .int p1, .int p2, .ref o])).length) Slot.unset).toArray = ls at hl ⊢
  have hl : lv_has ls 6 [(0, .ref x), (1, .int (nI j)), (2, .int p1), (3, .int p2), (4, .ref o)] := hl
  refine lv_aload hx hb dL_byteAt_0 (lv_at hl 4 rfl) ?_
  refine lv_iconst (v := 0) hx hb dL_byteAt_2 (by decide) ?_
  refine lv_aload_n hx hb dL_byteAt_3 rfl (lv_at hl 0 rfl) ?_
  refine lv_iload_n hx hb dL_byteAt_4 rfl (lv_at hl 1 rfl) ?_
  refine lv_iload_n hx hb dL_byteAt_5 rfl (lv_at hl 2 rfl) ?_
  refine lv_iload_n hx hb dL_byteAt_6 rfl (lv_at hl 3 rfl) ?_
  refine bt_call (vx_runV (As := [.int (nI j), .int p1, .int p2]) (rest := [.int 0, .ref o]) ⟨hx, hb, hml, hown, hts⟩ (c_byteAt_big l hl9 G k _ _ x nd wy f g hF j hj p1 p2 h) (cwV 3 hts gL_byteAt_X3_byteAt rfl rfl rfl (by decide +kernel) ⟨(Nat.le_of_ble_eq_true rfl), (Nat.le_of_ble_eq_true rfl)⟩) (PR.preV hI hS hA hP (ci := 3) rfl h0) rfl rfl hl.1 rfl (lv_room (Nat.le_of_ble_eq_true rfl)) dL_byteAt_7 ⟨(Nat.le_of_ble_eq_true rfl), (Nat.le_of_ble_eq_true rfl)⟩) (fun _ _ _ h => h) hS hA (fun q h => Or.inr (Nat.le_trans hS.1 h)) (fun ce q9 H1 locs1 hH hS h1 h2 h3 => ?_)
  refine vx_catch hown [] ⟨0, 12, 15, 13⟩ [] (htb.trans rfl) (fun _ h => absurd h List.not_mem_nil) rfl (by decide) (name := Ioob) (hts _ (by decide +kernel)) (va_Nw.use rfl (hI.2.2.2.1.2.1 Ioob (by decide +kernel))) h1 h2 h3 ?_
  refine W.eq (g2 := F0 m 15 ls [.ref q9]) rfl ?_
  refine lv_astore (lv' := [(5, .ref q9), (0, .ref x), (1, .int (nI j)), (2, .int p1), (3, .int p2), (4, .ref o)]) hx hb dL_byteAt_15 hl (by decide) rfl (fun ls hl => ?_)
  refine lv_iconst (v := 1) hx hb dL_byteAt_17 (by decide) ?_
  exact vx_ret (W.iret (v := 1) hx hb hr (fun t ht hW => ⟨⟨1, fo 0, rfl, ⟨rfl, fun h => absurd h (by decide)⟩, fo, by rw [ht]; exact (wL_one hP).old hH, rfl⟩, hS.F ht⟩) hS.2.2 dL_byteAt_18)
set_option maxHeartbeats 4000000 in
set_option maxRecDepth 100000 in
/-- the caller of byteAt, where -/
theorem cL_byteAt_where (l : Launch) (hl9 : l.stackTraces = false) (G : va_G) (k : Nat → ClassId) (wx : va_W) (o : Nat) (fo : Nat → Int64) (sz : Nat) (x nd wy : Nat) (f g : Nat → Option Nat) (hF : FX k wx x nd wy f g) (j : Nat) (hj : j < 4) (q : Nat) (hq : q < 4096) (p2 : Int32) (h1 : ¬ p2 = 0) (h2 : ¬ p2 = 1) : vx_Met l yL_byteAt wsL_byteAt (rzk 3 1 6) (PL G k sz (wL k wx o fo) [.ref x, .int (nI j), .int (nI q), .int p2, .ref o]) (QL G k o 1 0 (va_A (wL k wx o fo) sz)) (fun _ _ _ => False) 1 6 (va_A (wL k wx o fo) sz) := by
  refine vx_ofWH (cc := cL_byteAt) (maxL := 6) (ret := some .int) (hh := [(0, 12, 15, 13)]) (by decide) rfl ?_
  intro p e s m args below meth c s₁ B hml hv
  obtain ⟨rfl, hsz, hP, hD0, hI⟩ := hv
  subst hsz
  have hK := hI.1
  have hD := hD0.self (sz := s.heap.size)
  have hA : ∀ q : Nat, s.heap.size ≤ q → va_A (wL k wx o fo) s.heap.size q := fun _ h => Or.inr h
  have hS : va_S (va_A (wL k wx o fo) s.heap.size) s.heap s.heap [] := va_S.rf
  have hF := hF.mono (ws' := wL k wx o fo) (fun _ h => List.mem_append_left _ h)
  obtain ⟨kx, h0⟩ := List.getElem?_of_mem hF.1
  have hx := B.exec
  have hb := B.bytes
  have hr := B.returns
  have hts := atoms_spec (ws := wsL_byteAt) B.pre
  have htb := vx_table (x := yL_byteAt) B (hts _ List.mem_cons_self)
  have hown : s.vm.findClass RL = some m.cls := findClass_of_methodNamed B.named
  have hlocks := B.notSynchronized
  have hl := lv_entry ([.ref x, .int (nI j), .int (nI q), .int p2, .ref o]) (n := 6) (Nat.le_of_ble_eq_true rfl)
  rw [lg_entry_eq]
  generalize (lg_sl ([.ref x, .int (nI j), .int (nI q), .int p2, .ref o]) ++ List.replicate (6 - (lg_sl ([.ref x, .int (nI j), .int (nI q), .int p2, .ref o])).length) Slot.unset).toArray = ls at hl ⊢
  have hl : lv_has ls 6 [(0, .ref x), (1, .int (nI j)), (2, .int (nI q)), (3, .int p2), (4, .ref o)] := hl
  refine lv_aload hx hb dL_byteAt_0 (lv_at hl 4 rfl) ?_
  refine lv_iconst (v := 0) hx hb dL_byteAt_2 (by decide) ?_
  refine lv_aload_n hx hb dL_byteAt_3 rfl (lv_at hl 0 rfl) ?_
  refine lv_iload_n hx hb dL_byteAt_4 rfl (lv_at hl 1 rfl) ?_
  refine lv_iload_n hx hb dL_byteAt_5 rfl (lv_at hl 2 rfl) ?_
  refine lv_iload_n hx hb dL_byteAt_6 rfl (lv_at hl 3 rfl) ?_
  refine bt_call (vx_runV (As := [.int (nI j), .int (nI q), .int p2]) (rest := [.int 0, .ref o]) ⟨hx, hb, hml, hown, hts⟩ (c_byteAt_where l hl9 G k _ _ x nd wy f g hF j hj q hq p2 h1 h2) (cwV 3 hts gL_byteAt_X3_byteAt rfl rfl rfl (by decide +kernel) ⟨(Nat.le_of_ble_eq_true rfl), (Nat.le_of_ble_eq_true rfl)⟩) (PR.preV hI hS hA hP (ci := 3) rfl h0) rfl rfl hl.1 rfl (lv_room (Nat.le_of_ble_eq_true rfl)) dL_byteAt_7 ⟨(Nat.le_of_ble_eq_true rfl), (Nat.le_of_ble_eq_true rfl)⟩) (fun _ _ _ h => h) hS hA (fun q h => Or.inr (Nat.le_trans hS.1 h)) (fun ce q9 H1 locs1 hH hS h1 h2 h3 => ?_)
  refine vx_catch hown [] ⟨0, 12, 15, 13⟩ [] (htb.trans rfl) (fun _ h => absurd h List.not_mem_nil) rfl (by decide) (name := Ioob) (hts _ (by decide +kernel)) (va_Nw.use rfl (hI.2.2.2.1.2.1 Ioob (by decide +kernel))) h1 h2 h3 ?_
  refine W.eq (g2 := F0 m 15 ls [.ref q9]) rfl ?_
  refine lv_astore (lv' := [(5, .ref q9), (0, .ref x), (1, .int (nI j)), (2, .int (nI q)), (3, .int p2), (4, .ref o)]) hx hb dL_byteAt_15 hl (by decide) rfl (fun ls hl => ?_)
  refine lv_iconst (v := 1) hx hb dL_byteAt_17 (by decide) ?_
  exact vx_ret (W.iret (v := 1) hx hb hr (fun t ht hW => ⟨⟨1, fo 0, rfl, ⟨rfl, fun h => absurd h (by decide)⟩, fo, by rw [ht]; exact (wL_one hP).old hH, rfl⟩, hS.F ht⟩) hS.2.2 dL_byteAt_18)
set_option maxHeartbeats 4000000 in
set_option maxRecDepth 100000 in
/-- the caller of byteAt, mem -/
theorem cL_byteAt_mem (l : Launch) (hl9 : l.stackTraces = false) (G : va_G) (k : Nat → ClassId) (wx : va_W) (o : Nat) (fo : Nat → Int64) (sz : Nat) (x nd wy : Nat) (f g : Nat → Option Nat) (hF : FX k wx x nd wy f g) (j : Nat) (hj : j < 4) (q : Nat) (hq : q < 4096) : vx_Met l yL_byteAt wsL_byteAt (rzk 3 1 6) (PL G k sz (wL k wx o fo) [.ref x, .int (nI j), .int (nI q), .int 0, .ref o]) (QL G k o 0 0 (va_A (wL k wx o fo) sz)) (fun _ _ _ => False) 1 6 (va_A (wL k wx o fo) sz) := by
  refine vx_ofWH (cc := cL_byteAt) (maxL := 6) (ret := some .int) (hh := [(0, 12, 15, 13)]) (by decide) rfl ?_
  intro p e s m args below meth c s₁ B hml hv
  obtain ⟨rfl, hsz, hP, hD0, hI⟩ := hv
  subst hsz
  have hK := hI.1
  have hD := hD0.self (sz := s.heap.size)
  have hA : ∀ q : Nat, s.heap.size ≤ q → va_A (wL k wx o fo) s.heap.size q := fun _ h => Or.inr h
  have hS : va_S (va_A (wL k wx o fo) s.heap.size) s.heap s.heap [] := va_S.rf
  have hF := hF.mono (ws' := wL k wx o fo) (fun _ h => List.mem_append_left _ h)
  obtain ⟨kx, h0⟩ := List.getElem?_of_mem hF.1
  have hx := B.exec
  have hb := B.bytes
  have hr := B.returns
  have hts := atoms_spec (ws := wsL_byteAt) B.pre
  have htb := vx_table (x := yL_byteAt) B (hts _ List.mem_cons_self)
  have hown : s.vm.findClass RL = some m.cls := findClass_of_methodNamed B.named
  have hlocks := B.notSynchronized
  have hl := lv_entry ([.ref x, .int (nI j), .int (nI q), .int 0, .ref o]) (n := 6) (Nat.le_of_ble_eq_true rfl)
  rw [lg_entry_eq]
  generalize (lg_sl ([.ref x, .int (nI j), .int (nI q), .int 0, .ref o]) ++ List.replicate (6 - (lg_sl ([.ref x, .int (nI j), .int (nI q), .int 0, .ref o])).length) Slot.unset).toArray = ls at hl ⊢
  have hl : lv_has ls 6 [(0, .ref x), (1, .int (nI j)), (2, .int (nI q)), (3, .int 0), (4, .ref o)] := hl
  refine lv_aload hx hb dL_byteAt_0 (lv_at hl 4 rfl) ?_
  refine lv_iconst (v := 0) hx hb dL_byteAt_2 (by decide) ?_
  refine lv_aload_n hx hb dL_byteAt_3 rfl (lv_at hl 0 rfl) ?_
  refine lv_iload_n hx hb dL_byteAt_4 rfl (lv_at hl 1 rfl) ?_
  refine lv_iload_n hx hb dL_byteAt_5 rfl (lv_at hl 2 rfl) ?_
  refine lv_iload_n hx hb dL_byteAt_6 rfl (lv_at hl 3 rfl) ?_
  refine br_call (W.runV (As := [.int (nI j), .int (nI q), .int 0]) (rest := [.int 0, .ref o]) ⟨hx, hb, hml, hown, hts⟩ (c_byteAt_mem l G k _ x nd wy f g hF j hj q hq) (cwV 3 hts gL_byteAt_X3_byteAt rfl rfl rfl (by decide +kernel) ⟨(Nat.le_of_ble_eq_true rfl), (Nat.le_of_ble_eq_true rfl)⟩) (PQ.preV hK hP (ci := 3) rfl h0) rfl rfl hl.1 rfl (lv_room (Nat.le_of_ble_eq_true rfl)) dL_byteAt_7 ⟨(Nat.le_of_ble_eq_true rfl), (Nat.le_of_ble_eq_true rfl)⟩) ?_
  refine lv_i2l (v := Int32.toInt64 0) hx hb dL_byteAt_10 rfl ?_
  refine va_last hx hb hK hP hD hS wx.length 5 wL_o rfl (vp_in_nI (n := 0) (by decide) (by decide)) dL_byteAt_11 (fun H locs hP hD hS => ?_)
  refine lv_goto (tgt := 19) hx hb dL_byteAt_12 (by decide) ?_
  refine lv_iconst (v := 0) hx hb dL_byteAt_19 (by decide) ?_
  refine W.widen (k := 1) (n := 6) (by decide) (by decide) ?_
  exact vx_ret (W.iret (v := 0) hx hb hr (fun t ht hW => ⟨⟨0, Int32.toInt64 0, rfl, ⟨rfl, fun _ => rfl⟩, vp_updL fo 0 (Int32.toInt64 0), by rw [ht]; exact wL_set hP, rfl⟩, hS.F ht⟩) hS.2.2 dL_byteAt_20)
set_option maxHeartbeats 4000000 in
set_option maxRecDepth 100000 in
/-- the caller of byteAt, disk -/
theorem cL_byteAt_disk (l : Launch) (hl9 : l.stackTraces = false) (G : va_G) (k : Nat → ClassId) (wx : va_W) (o : Nat) (fo : Nat → Int64) (sz : Nat) (x nd wy : Nat) (f g : Nat → Option Nat) (hF : FX k wx x nd wy f g) (j : Nat) (hj : j < 4) (q : Nat) (hq : q < 4096) : vx_Met l yL_byteAt wsL_byteAt (rzk 3 1 6) (PL G k sz (wL k wx o fo) [.ref x, .int (nI j), .int (nI q), .int 1, .ref o]) (QL G k o 0 0 (va_A (wL k wx o fo) sz)) (fun _ _ _ => False) 1 6 (va_A (wL k wx o fo) sz) := by
  refine vx_ofWH (cc := cL_byteAt) (maxL := 6) (ret := some .int) (hh := [(0, 12, 15, 13)]) (by decide) rfl ?_
  intro p e s m args below meth c s₁ B hml hv
  obtain ⟨rfl, hsz, hP, hD0, hI⟩ := hv
  subst hsz
  have hK := hI.1
  have hD := hD0.self (sz := s.heap.size)
  have hA : ∀ q : Nat, s.heap.size ≤ q → va_A (wL k wx o fo) s.heap.size q := fun _ h => Or.inr h
  have hS : va_S (va_A (wL k wx o fo) s.heap.size) s.heap s.heap [] := va_S.rf
  have hF := hF.mono (ws' := wL k wx o fo) (fun _ h => List.mem_append_left _ h)
  obtain ⟨kx, h0⟩ := List.getElem?_of_mem hF.1
  have hx := B.exec
  have hb := B.bytes
  have hr := B.returns
  have hts := atoms_spec (ws := wsL_byteAt) B.pre
  have htb := vx_table (x := yL_byteAt) B (hts _ List.mem_cons_self)
  have hown : s.vm.findClass RL = some m.cls := findClass_of_methodNamed B.named
  have hlocks := B.notSynchronized
  have hl := lv_entry ([.ref x, .int (nI j), .int (nI q), .int 1, .ref o]) (n := 6) (Nat.le_of_ble_eq_true rfl)
  rw [lg_entry_eq]
  generalize (lg_sl ([.ref x, .int (nI j), .int (nI q), .int 1, .ref o]) ++ List.replicate (6 - (lg_sl ([.ref x, .int (nI j), .int (nI q), .int 1, .ref o])).length) Slot.unset).toArray = ls at hl ⊢
  have hl : lv_has ls 6 [(0, .ref x), (1, .int (nI j)), (2, .int (nI q)), (3, .int 1), (4, .ref o)] := hl
  refine lv_aload hx hb dL_byteAt_0 (lv_at hl 4 rfl) ?_
  refine lv_iconst (v := 0) hx hb dL_byteAt_2 (by decide) ?_
  refine lv_aload_n hx hb dL_byteAt_3 rfl (lv_at hl 0 rfl) ?_
  refine lv_iload_n hx hb dL_byteAt_4 rfl (lv_at hl 1 rfl) ?_
  refine lv_iload_n hx hb dL_byteAt_5 rfl (lv_at hl 2 rfl) ?_
  refine lv_iload_n hx hb dL_byteAt_6 rfl (lv_at hl 3 rfl) ?_
  refine br_call (W.runV (As := [.int (nI j), .int (nI q), .int 1]) (rest := [.int 0, .ref o]) ⟨hx, hb, hml, hown, hts⟩ (c_byteAt_disk l G k _ x nd wy f g hF j hj q hq) (cwV 3 hts gL_byteAt_X3_byteAt rfl rfl rfl (by decide +kernel) ⟨(Nat.le_of_ble_eq_true rfl), (Nat.le_of_ble_eq_true rfl)⟩) (PQ.preV hK hP (ci := 3) rfl h0) rfl rfl hl.1 rfl (lv_room (Nat.le_of_ble_eq_true rfl)) dL_byteAt_7 ⟨(Nat.le_of_ble_eq_true rfl), (Nat.le_of_ble_eq_true rfl)⟩) ?_
  refine lv_i2l (v := Int32.toInt64 0) hx hb dL_byteAt_10 rfl ?_
  refine va_last hx hb hK hP hD hS wx.length 5 wL_o rfl (vp_in_nI (n := 0) (by decide) (by decide)) dL_byteAt_11 (fun H locs hP hD hS => ?_)
  refine lv_goto (tgt := 19) hx hb dL_byteAt_12 (by decide) ?_
  refine lv_iconst (v := 0) hx hb dL_byteAt_19 (by decide) ?_
  refine W.widen (k := 1) (n := 6) (by decide) (by decide) ?_
  exact vx_ret (W.iret (v := 0) hx hb hr (fun t ht hW => ⟨⟨0, Int32.toInt64 0, rfl, ⟨rfl, fun _ => rfl⟩, vp_updL fo 0 (Int32.toInt64 0), by rw [ht]; exact wL_set hP, rfl⟩, hS.F ht⟩) hS.2.2 dL_byteAt_20)
set_option maxHeartbeats 4000000 in
set_option maxRecDepth 100000 in
/-- the caller of node, neg -/
theorem cL_node_neg (l : Launch) (hl9 : l.stackTraces = false) (G : va_G) (k : Nat → ClassId) (wx : va_W) (o : Nat) (fo : Nat → Int64) (sz : Nat) (x nd wy : Nat) (f g : Nat → Option Nat) (hF : FX k wx x nd wy f g) (j : Nat) (hj : j < 4) (p1 : Int32) (h : p1 < 0) : vx_Met l yL_node wsL_node (rzk 3 1 6) (PL G k sz (wL k wx o fo) [.ref x, .int (nI j), .int p1, .ref o]) (QL G k o 1 0 (va_A (wL k wx o fo) sz)) (fun _ _ _ => False) 1 6 (va_A (wL k wx o fo) sz) := by
  refine vx_ofWH (cc := cL_node) (maxL := 5) (ret := some .int) (hh := [(0, 10, 13, 13)]) (by decide) rfl ?_
  intro p e s m args below meth c s₁ B hml hv
  obtain ⟨rfl, hsz, hP, hD0, hI⟩ := hv
  subst hsz
  have hK := hI.1
  have hD := hD0.self (sz := s.heap.size)
  have hA : ∀ q : Nat, s.heap.size ≤ q → va_A (wL k wx o fo) s.heap.size q := fun _ h => Or.inr h
  have hS : va_S (va_A (wL k wx o fo) s.heap.size) s.heap s.heap [] := va_S.rf
  have hF := hF.mono (ws' := wL k wx o fo) (fun _ h => List.mem_append_left _ h)
  obtain ⟨kx, h0⟩ := List.getElem?_of_mem hF.1
  have hx := B.exec
  have hb := B.bytes
  have hr := B.returns
  have hts := atoms_spec (ws := wsL_node) B.pre
  have htb := vx_table (x := yL_node) B (hts _ List.mem_cons_self)
  have hown : s.vm.findClass RL = some m.cls := findClass_of_methodNamed B.named
  have hlocks := B.notSynchronized
  have hl := lv_entry ([.ref x, .int (nI j), .int p1, .ref o]) (n := 5) (Nat.le_of_ble_eq_true rfl)
  rw [lg_entry_eq]
  generalize (lg_sl ([.ref x, .int (nI j), .int p1, .ref o]) ++ List.replicate (5 - (lg_sl ([.ref x, .int (nI j), .int p1, .ref o])).length) Slot.unset).toArray = ls at hl ⊢
  have hl : lv_has ls 5 [(0, .ref x), (1, .int (nI j)), (2, .int p1), (3, .ref o)] := hl
  refine lv_aload_n hx hb dL_node_0 rfl (lv_at hl 3 rfl) ?_
  refine lv_iconst (v := 0) hx hb dL_node_1 (by decide) ?_
  refine lv_aload_n hx hb dL_node_2 rfl (lv_at hl 0 rfl) ?_
  refine lv_iload_n hx hb dL_node_3 rfl (lv_at hl 1 rfl) ?_
  refine lv_iload_n hx hb dL_node_4 rfl (lv_at hl 2 rfl) ?_
  refine bt_call (vx_runV (As := [.int (nI j), .int p1]) (rest := [.int 0, .ref o]) ⟨hx, hb, hml, hown, hts⟩ (c_node_neg l hl9 G k _ _ x nd wy f g hF j hj p1 h) (cwV 2 hts gL_node_X3_node rfl rfl rfl (by decide +kernel) ⟨(Nat.le_of_ble_eq_true rfl), (Nat.le_of_ble_eq_true rfl)⟩) (PR.preV hI hS hA hP (ci := 3) rfl h0) rfl rfl hl.1 rfl (lv_room (Nat.le_of_ble_eq_true rfl)) dL_node_5 ⟨(Nat.le_of_ble_eq_true rfl), (Nat.le_of_ble_eq_true rfl)⟩) (fun _ _ _ h => h) hS hA (fun q h => Or.inr (Nat.le_trans hS.1 h)) (fun ce q9 H1 locs1 hH hS h1 h2 h3 => ?_)
  refine vx_catch hown [] ⟨0, 10, 13, 13⟩ [] (htb.trans rfl) (fun _ h => absurd h List.not_mem_nil) rfl (by decide) (name := Ioob) (hts _ (by decide +kernel)) (va_Nw.use rfl (hI.2.2.2.1.2.1 Ioob (by decide +kernel))) h1 h2 h3 ?_
  refine W.eq (g2 := F0 m 13 ls [.ref q9]) rfl ?_
  refine lv_astore (lv' := [(4, .ref q9), (0, .ref x), (1, .int (nI j)), (2, .int p1), (3, .ref o)]) hx hb dL_node_13 hl (by decide) rfl (fun ls hl => ?_)
  refine lv_iconst (v := 1) hx hb dL_node_15 (by decide) ?_
  exact vx_ret (W.iret (v := 1) hx hb hr (fun t ht hW => ⟨⟨1, fo 0, rfl, ⟨rfl, fun h => absurd h (by decide)⟩, fo, by rw [ht]; exact (wL_one hP).old hH, rfl⟩, hS.F ht⟩) hS.2.2 dL_node_16)
set_option maxHeartbeats 4000000 in
set_option maxRecDepth 100000 in
/-- the caller of node, big -/
theorem cL_node_big (l : Launch) (hl9 : l.stackTraces = false) (G : va_G) (k : Nat → ClassId) (wx : va_W) (o : Nat) (fo : Nat → Int64) (sz : Nat) (x nd wy : Nat) (f g : Nat → Option Nat) (hF : FX k wx x nd wy f g) (j : Nat) (hj : j < 4) (p1 : Int32) (h : 8 < p1) : vx_Met l yL_node wsL_node (rzk 3 1 6) (PL G k sz (wL k wx o fo) [.ref x, .int (nI j), .int p1, .ref o]) (QL G k o 1 0 (va_A (wL k wx o fo) sz)) (fun _ _ _ => False) 1 6 (va_A (wL k wx o fo) sz) := by
  refine vx_ofWH (cc := cL_node) (maxL := 5) (ret := some .int) (hh := [(0, 10, 13, 13)]) (by decide) rfl ?_
  intro p e s m args below meth c s₁ B hml hv
  obtain ⟨rfl, hsz, hP, hD0, hI⟩ := hv
  subst hsz
  have hK := hI.1
  have hD := hD0.self (sz := s.heap.size)
  have hA : ∀ q : Nat, s.heap.size ≤ q → va_A (wL k wx o fo) s.heap.size q := fun _ h => Or.inr h
  have hS : va_S (va_A (wL k wx o fo) s.heap.size) s.heap s.heap [] := va_S.rf
  have hF := hF.mono (ws' := wL k wx o fo) (fun _ h => List.mem_append_left _ h)
  obtain ⟨kx, h0⟩ := List.getElem?_of_mem hF.1
  have hx := B.exec
  have hb := B.bytes
  have hr := B.returns
  have hts := atoms_spec (ws := wsL_node) B.pre
  have htb := vx_table (x := yL_node) B (hts _ List.mem_cons_self)
  have hown : s.vm.findClass RL = some m.cls := findClass_of_methodNamed B.named
  have hlocks := B.notSynchronized
  have hl := lv_entry ([.ref x, .int (nI j), .int p1, .ref o]) (n := 5) (Nat.le_of_ble_eq_true rfl)
  rw [lg_entry_eq]
  generalize (lg_sl ([.ref x, .int (nI j), .int p1, .ref o]) ++ List.replicate (5 - (lg_sl ([.ref x, .int (nI j), .int p1, .ref o])).length) Slot.unset).toArray = ls at hl ⊢
  have hl : lv_has ls 5 [(0, .ref x), (1, .int (nI j)), (2, .int p1), (3, .ref o)] := hl
  refine lv_aload_n hx hb dL_node_0 rfl (lv_at hl 3 rfl) ?_
  refine lv_iconst (v := 0) hx hb dL_node_1 (by decide) ?_
  refine lv_aload_n hx hb dL_node_2 rfl (lv_at hl 0 rfl) ?_
  refine lv_iload_n hx hb dL_node_3 rfl (lv_at hl 1 rfl) ?_
  refine lv_iload_n hx hb dL_node_4 rfl (lv_at hl 2 rfl) ?_
  refine bt_call (vx_runV (As := [.int (nI j), .int p1]) (rest := [.int 0, .ref o]) ⟨hx, hb, hml, hown, hts⟩ (c_node_big l hl9 G k _ _ x nd wy f g hF j hj p1 h) (cwV 2 hts gL_node_X3_node rfl rfl rfl (by decide +kernel) ⟨(Nat.le_of_ble_eq_true rfl), (Nat.le_of_ble_eq_true rfl)⟩) (PR.preV hI hS hA hP (ci := 3) rfl h0) rfl rfl hl.1 rfl (lv_room (Nat.le_of_ble_eq_true rfl)) dL_node_5 ⟨(Nat.le_of_ble_eq_true rfl), (Nat.le_of_ble_eq_true rfl)⟩) (fun _ _ _ h => h) hS hA (fun q h => Or.inr (Nat.le_trans hS.1 h)) (fun ce q9 H1 locs1 hH hS h1 h2 h3 => ?_)
  refine vx_catch hown [] ⟨0, 10, 13, 13⟩ [] (htb.trans rfl) (fun _ h => absurd h List.not_mem_nil) rfl (by decide) (name := Ioob) (hts _ (by decide +kernel)) (va_Nw.use rfl (hI.2.2.2.1.2.1 Ioob (by decide +kernel))) h1 h2 h3 ?_
  refine W.eq (g2 := F0 m 13 ls [.ref q9]) rfl ?_
  refine lv_astore (lv' := [(4, .ref q9), (0, .ref x), (1, .int (nI j)), (2, .int p1), (3, .ref o)]) hx hb dL_node_13 hl (by decide) rfl (fun ls hl => ?_)
  refine lv_iconst (v := 1) hx hb dL_node_15 (by decide) ?_
  exact vx_ret (W.iret (v := 1) hx hb hr (fun t ht hW => ⟨⟨1, fo 0, rfl, ⟨rfl, fun h => absurd h (by decide)⟩, fo, by rw [ht]; exact (wL_one hP).old hH, rfl⟩, hS.F ht⟩) hS.2.2 dL_node_16)
set_option maxHeartbeats 4000000 in
set_option maxRecDepth 100000 in
/-- the caller of node, five -/
theorem cL_node_five (l : Launch) (hl9 : l.stackTraces = false) (G : va_G) (k : Nat → ClassId) (wx : va_W) (o : Nat) (fo : Nat → Int64) (sz : Nat) (x nd wy : Nat) (f g : Nat → Option Nat) (hF : FX k wx x nd wy f g) (j : Nat) (hj : j < 4) : vx_Met l yL_node wsL_node (rzk 3 1 6) (PL G k sz (wL k wx o fo) [.ref x, .int (nI j), .int 5, .ref o]) (QL G k o 0 (-1) (va_A (wL k wx o fo) sz)) (fun _ _ _ => False) 1 6 (va_A (wL k wx o fo) sz) := by
  refine vx_ofWH (cc := cL_node) (maxL := 5) (ret := some .int) (hh := [(0, 10, 13, 13)]) (by decide) rfl ?_
  intro p e s m args below meth c s₁ B hml hv
  obtain ⟨rfl, hsz, hP, hD0, hI⟩ := hv
  subst hsz
  have hK := hI.1
  have hD := hD0.self (sz := s.heap.size)
  have hA : ∀ q : Nat, s.heap.size ≤ q → va_A (wL k wx o fo) s.heap.size q := fun _ h => Or.inr h
  have hS : va_S (va_A (wL k wx o fo) s.heap.size) s.heap s.heap [] := va_S.rf
  have hF := hF.mono (ws' := wL k wx o fo) (fun _ h => List.mem_append_left _ h)
  obtain ⟨kx, h0⟩ := List.getElem?_of_mem hF.1
  have hx := B.exec
  have hb := B.bytes
  have hr := B.returns
  have hts := atoms_spec (ws := wsL_node) B.pre
  have htb := vx_table (x := yL_node) B (hts _ List.mem_cons_self)
  have hown : s.vm.findClass RL = some m.cls := findClass_of_methodNamed B.named
  have hlocks := B.notSynchronized
  have hl := lv_entry ([.ref x, .int (nI j), .int 5, .ref o]) (n := 5) (Nat.le_of_ble_eq_true rfl)
  rw [lg_entry_eq]
  generalize (lg_sl ([.ref x, .int (nI j), .int 5, .ref o]) ++ List.replicate (5 - (lg_sl ([.ref x, .int (nI j), .int 5, .ref o])).length) Slot.unset).toArray = ls at hl ⊢
  have hl : lv_has ls 5 [(0, .ref x), (1, .int (nI j)), (2, .int 5), (3, .ref o)] := hl
  refine lv_aload_n hx hb dL_node_0 rfl (lv_at hl 3 rfl) ?_
  refine lv_iconst (v := 0) hx hb dL_node_1 (by decide) ?_
  refine lv_aload_n hx hb dL_node_2 rfl (lv_at hl 0 rfl) ?_
  refine lv_iload_n hx hb dL_node_3 rfl (lv_at hl 1 rfl) ?_
  refine lv_iload_n hx hb dL_node_4 rfl (lv_at hl 2 rfl) ?_
  refine br_call (W.runV (As := [.int (nI j), .int 5]) (rest := [.int 0, .ref o]) ⟨hx, hb, hml, hown, hts⟩ (c_node_five l G k _ x nd wy f g hF j hj) (cwV 2 hts gL_node_X3_node rfl rfl rfl (by decide +kernel) ⟨(Nat.le_of_ble_eq_true rfl), (Nat.le_of_ble_eq_true rfl)⟩) (PQ.preV hK hP (ci := 3) rfl h0) rfl rfl hl.1 rfl (lv_room (Nat.le_of_ble_eq_true rfl)) dL_node_5 ⟨(Nat.le_of_ble_eq_true rfl), (Nat.le_of_ble_eq_true rfl)⟩) ?_
  refine lv_i2l (v := Int32.toInt64 (-1)) hx hb dL_node_8 rfl ?_
  refine va_last hx hb hK hP hD hS wx.length 5 wL_o rfl (vp_in_nI (n := 0) (by decide) (by decide)) dL_node_9 (fun H locs hP hD hS => ?_)
  refine lv_goto (tgt := 17) hx hb dL_node_10 (by decide) ?_
  refine lv_iconst (v := 0) hx hb dL_node_17 (by decide) ?_
  refine W.widen (k := 1) (n := 6) (by decide) (by decide) ?_
  exact vx_ret (W.iret (v := 0) hx hb hr (fun t ht hW => ⟨⟨0, Int32.toInt64 (-1), rfl, ⟨rfl, fun _ => rfl⟩, vp_updL fo 0 (Int32.toInt64 (-1)), by rw [ht]; exact wL_set hP, rfl⟩, hS.F ht⟩) hS.2.2 dL_node_18)
set_option maxHeartbeats 4000000 in
set_option maxRecDepth 100000 in
/-- the caller of node, seven -/
theorem cL_node_seven (l : Launch) (hl9 : l.stackTraces = false) (G : va_G) (k : Nat → ClassId) (wx : va_W) (o : Nat) (fo : Nat → Int64) (sz : Nat) (x nd wy : Nat) (f g : Nat → Option Nat) (hF : FX k wx x nd wy f g) (j : Nat) (hj : j < 4) : vx_Met l yL_node wsL_node (rzk 3 1 6) (PL G k sz (wL k wx o fo) [.ref x, .int (nI j), .int 7, .ref o]) (QL G k o 0 (-1) (va_A (wL k wx o fo) sz)) (fun _ _ _ => False) 1 6 (va_A (wL k wx o fo) sz) := by
  refine vx_ofWH (cc := cL_node) (maxL := 5) (ret := some .int) (hh := [(0, 10, 13, 13)]) (by decide) rfl ?_
  intro p e s m args below meth c s₁ B hml hv
  obtain ⟨rfl, hsz, hP, hD0, hI⟩ := hv
  subst hsz
  have hK := hI.1
  have hD := hD0.self (sz := s.heap.size)
  have hA : ∀ q : Nat, s.heap.size ≤ q → va_A (wL k wx o fo) s.heap.size q := fun _ h => Or.inr h
  have hS : va_S (va_A (wL k wx o fo) s.heap.size) s.heap s.heap [] := va_S.rf
  have hF := hF.mono (ws' := wL k wx o fo) (fun _ h => List.mem_append_left _ h)
  obtain ⟨kx, h0⟩ := List.getElem?_of_mem hF.1
  have hx := B.exec
  have hb := B.bytes
  have hr := B.returns
  have hts := atoms_spec (ws := wsL_node) B.pre
  have htb := vx_table (x := yL_node) B (hts _ List.mem_cons_self)
  have hown : s.vm.findClass RL = some m.cls := findClass_of_methodNamed B.named
  have hlocks := B.notSynchronized
  have hl := lv_entry ([.ref x, .int (nI j), .int 7, .ref o]) (n := 5) (Nat.le_of_ble_eq_true rfl)
  rw [lg_entry_eq]
  generalize (lg_sl ([.ref x, .int (nI j), .int 7, .ref o]) ++ List.replicate (5 - (lg_sl ([.ref x, .int (nI j), .int 7, .ref o])).length) Slot.unset).toArray = ls at hl ⊢
  have hl : lv_has ls 5 [(0, .ref x), (1, .int (nI j)), (2, .int 7), (3, .ref o)] := hl
  refine lv_aload_n hx hb dL_node_0 rfl (lv_at hl 3 rfl) ?_
  refine lv_iconst (v := 0) hx hb dL_node_1 (by decide) ?_
  refine lv_aload_n hx hb dL_node_2 rfl (lv_at hl 0 rfl) ?_
  refine lv_iload_n hx hb dL_node_3 rfl (lv_at hl 1 rfl) ?_
  refine lv_iload_n hx hb dL_node_4 rfl (lv_at hl 2 rfl) ?_
  refine br_call (W.runV (As := [.int (nI j), .int 7]) (rest := [.int 0, .ref o]) ⟨hx, hb, hml, hown, hts⟩ (c_node_seven l G k _ x nd wy f g hF j hj) (cwV 2 hts gL_node_X3_node rfl rfl rfl (by decide +kernel) ⟨(Nat.le_of_ble_eq_true rfl), (Nat.le_of_ble_eq_true rfl)⟩) (PQ.preV hK hP (ci := 3) rfl h0) rfl rfl hl.1 rfl (lv_room (Nat.le_of_ble_eq_true rfl)) dL_node_5 ⟨(Nat.le_of_ble_eq_true rfl), (Nat.le_of_ble_eq_true rfl)⟩) ?_
  refine lv_i2l (v := Int32.toInt64 (-1)) hx hb dL_node_8 rfl ?_
  refine va_last hx hb hK hP hD hS wx.length 5 wL_o rfl (vp_in_nI (n := 0) (by decide) (by decide)) dL_node_9 (fun H locs hP hD hS => ?_)
  refine lv_goto (tgt := 17) hx hb dL_node_10 (by decide) ?_
  refine lv_iconst (v := 0) hx hb dL_node_17 (by decide) ?_
  refine W.widen (k := 1) (n := 6) (by decide) (by decide) ?_
  exact vx_ret (W.iret (v := 0) hx hb hr (fun t ht hW => ⟨⟨0, Int32.toInt64 (-1), rfl, ⟨rfl, fun _ => rfl⟩, vp_updL fo 0 (Int32.toInt64 (-1)), by rw [ht]; exact wL_set hP, rfl⟩, hS.F ht⟩) hS.2.2 dL_node_18)
set_option maxHeartbeats 4000000 in
set_option maxRecDepth 100000 in
/-- the caller of node, zero -/
theorem cL_node_zero (l : Launch) (hl9 : l.stackTraces = false) (G : va_G) (k : Nat → ClassId) (wx : va_W) (o : Nat) (fo : Nat → Int64) (sz : Nat) (x nd wy : Nat) (f g : Nat → Option Nat) (hF : FX k wx x nd wy f g) (j : Nat) (hj : j < 4) (p1 : Int32) (hn : ¬ p1 < 0) (h8 : p1 ≤ 8) (h5 : ¬ p1 = 5) (h7 : ¬ p1 = 7) : vx_Met l yL_node wsL_node (rzk 3 1 6) (PL G k sz (wL k wx o fo) [.ref x, .int (nI j), .int p1, .ref o]) (QL G k o 0 0 (va_A (wL k wx o fo) sz)) (fun _ _ _ => False) 1 6 (va_A (wL k wx o fo) sz) := by
  refine vx_ofWH (cc := cL_node) (maxL := 5) (ret := some .int) (hh := [(0, 10, 13, 13)]) (by decide) rfl ?_
  intro p e s m args below meth c s₁ B hml hv
  obtain ⟨rfl, hsz, hP, hD0, hI⟩ := hv
  subst hsz
  have hK := hI.1
  have hD := hD0.self (sz := s.heap.size)
  have hA : ∀ q : Nat, s.heap.size ≤ q → va_A (wL k wx o fo) s.heap.size q := fun _ h => Or.inr h
  have hS : va_S (va_A (wL k wx o fo) s.heap.size) s.heap s.heap [] := va_S.rf
  have hF := hF.mono (ws' := wL k wx o fo) (fun _ h => List.mem_append_left _ h)
  obtain ⟨kx, h0⟩ := List.getElem?_of_mem hF.1
  have hx := B.exec
  have hb := B.bytes
  have hr := B.returns
  have hts := atoms_spec (ws := wsL_node) B.pre
  have htb := vx_table (x := yL_node) B (hts _ List.mem_cons_self)
  have hown : s.vm.findClass RL = some m.cls := findClass_of_methodNamed B.named
  have hlocks := B.notSynchronized
  have hl := lv_entry ([.ref x, .int (nI j), .int p1, .ref o]) (n := 5) (Nat.le_of_ble_eq_true rfl)
  rw [lg_entry_eq]
  generalize (lg_sl ([.ref x, .int (nI j), .int p1, .ref o]) ++ List.replicate (5 - (lg_sl ([.ref x, .int (nI j), .int p1, .ref o])).length) Slot.unset).toArray = ls at hl ⊢
  have hl : lv_has ls 5 [(0, .ref x), (1, .int (nI j)), (2, .int p1), (3, .ref o)] := hl
  refine lv_aload_n hx hb dL_node_0 rfl (lv_at hl 3 rfl) ?_
  refine lv_iconst (v := 0) hx hb dL_node_1 (by decide) ?_
  refine lv_aload_n hx hb dL_node_2 rfl (lv_at hl 0 rfl) ?_
  refine lv_iload_n hx hb dL_node_3 rfl (lv_at hl 1 rfl) ?_
  refine lv_iload_n hx hb dL_node_4 rfl (lv_at hl 2 rfl) ?_
  refine br_call (W.runV (As := [.int (nI j), .int p1]) (rest := [.int 0, .ref o]) ⟨hx, hb, hml, hown, hts⟩ (c_node_zero l G k _ x nd wy f g hF j hj p1 hn h8 h5 h7) (cwV 2 hts gL_node_X3_node rfl rfl rfl (by decide +kernel) ⟨(Nat.le_of_ble_eq_true rfl), (Nat.le_of_ble_eq_true rfl)⟩) (PQ.preV hK hP (ci := 3) rfl h0) rfl rfl hl.1 rfl (lv_room (Nat.le_of_ble_eq_true rfl)) dL_node_5 ⟨(Nat.le_of_ble_eq_true rfl), (Nat.le_of_ble_eq_true rfl)⟩) ?_
  refine lv_i2l (v := Int32.toInt64 0) hx hb dL_node_8 rfl ?_
  refine va_last hx hb hK hP hD hS wx.length 5 wL_o rfl (vp_in_nI (n := 0) (by decide) (by decide)) dL_node_9 (fun H locs hP hD hS => ?_)
  refine lv_goto (tgt := 17) hx hb dL_node_10 (by decide) ?_
  refine lv_iconst (v := 0) hx hb dL_node_17 (by decide) ?_
  refine W.widen (k := 1) (n := 6) (by decide) (by decide) ?_
  exact vx_ret (W.iret (v := 0) hx hb hr (fun t ht hW => ⟨⟨0, Int32.toInt64 0, rfl, ⟨rfl, fun _ => rfl⟩, vp_updL fo 0 (Int32.toInt64 0), by rw [ht]; exact wL_set hP, rfl⟩, hS.F ht⟩) hS.2.2 dL_node_18)
set_option maxHeartbeats 4000000 in
set_option maxRecDepth 100000 in
/-- the caller of link, bad2 -/
theorem cL_link_bad2 (l : Launch) (hl9 : l.stackTraces = false) (G : va_G) (k : Nat → ClassId) (wx : va_W) (o : Nat) (fo : Nat → Int64) (sz : Nat) (x nd wy : Nat) (f g : Nat → Option Nat) (hF : FX k wx x nd wy f g) (i : Nat) (hi : i < 4) (p1 p2 : Int32) (h : bdN p1) : vx_Met l yL_link wsL_link (rzk 3 1 6) (PL G k sz (wL k wx o fo) [.ref x, .int (nI i), .int p1, .int p2, .ref o]) (QL G k o 1 0 (va_A (wL k wx o fo) sz)) (fun _ _ _ => False) 1 6 (va_A (wL k wx o fo) sz) := by
  refine vx_ofWH (cc := cL_link) (maxL := 6) (ret := some .int) (hh := [(0, 12, 15, 13), (0, 12, 19, 15)]) (by decide) rfl ?_
  intro p e s m args below meth c s₁ B hml hv
  obtain ⟨rfl, hsz, hP, hD0, hI⟩ := hv
  subst hsz
  have hK := hI.1
  have hD := hD0.self (sz := s.heap.size)
  have hA : ∀ q : Nat, s.heap.size ≤ q → va_A (wL k wx o fo) s.heap.size q := fun _ h => Or.inr h
  have hS : va_S (va_A (wL k wx o fo) s.heap.size) s.heap s.heap [] := va_S.rf
  have hF := hF.mono (ws' := wL k wx o fo) (fun _ h => List.mem_append_left _ h)
  obtain ⟨kx, h0⟩ := List.getElem?_of_mem hF.1
  have hx := B.exec
  have hb := B.bytes
  have hr := B.returns
  have hts := atoms_spec (ws := wsL_link) B.pre
  have htb := vx_table (x := yL_link) B (hts _ List.mem_cons_self)
  have hown : s.vm.findClass RL = some m.cls := findClass_of_methodNamed B.named
  have hlocks := B.notSynchronized
  have hl := lv_entry ([.ref x, .int (nI i), .int p1, .int p2, .ref o]) (n := 6) (Nat.le_of_ble_eq_true rfl)
  rw [lg_entry_eq]
  generalize (lg_sl ([.ref x, .int (nI i), .int p1, .int p2, .ref o]) ++ List.replicate (6 - (lg_sl ([.ref x, .int (nI i), .int p1, .int p2, .ref o])).length) Slot.unset).toArray = ls at hl ⊢
  have hl : lv_has ls 6 [(0, .ref x), (1, .int (nI i)), (2, .int p1), (3, .int p2), (4, .ref o)] := hl
  refine lv_aload hx hb dL_link_0 (lv_at hl 4 rfl) ?_
  refine lv_iconst (v := 0) hx hb dL_link_2 (by decide) ?_
  refine lv_aload_n hx hb dL_link_3 rfl (lv_at hl 0 rfl) ?_
  refine lv_iload_n hx hb dL_link_4 rfl (lv_at hl 1 rfl) ?_
  refine lv_iload_n hx hb dL_link_5 rfl (lv_at hl 2 rfl) ?_
  refine lv_iload_n hx hb dL_link_6 rfl (lv_at hl 3 rfl) ?_
  refine bt_call (vx_runV (As := [.int (nI i), .int p1, .int p2]) (rest := [.int 0, .ref o]) ⟨hx, hb, hml, hown, hts⟩ (c_link_bad2 l hl9 G k _ _ x nd wy f g hF i hi p1 p2 h) (cwV 3 hts gL_link_X3_link rfl rfl rfl (by decide +kernel) ⟨(Nat.le_of_ble_eq_true rfl), (Nat.le_of_ble_eq_true rfl)⟩) (PR.preV hI hS hA hP (ci := 3) rfl h0) rfl rfl hl.1 rfl (lv_room (Nat.le_of_ble_eq_true rfl)) dL_link_7 ⟨(Nat.le_of_ble_eq_true rfl), (Nat.le_of_ble_eq_true rfl)⟩) (fun _ _ _ h => h) hS hA (fun q h => Or.inr (Nat.le_trans hS.1 h)) (fun ce q9 H1 locs1 hH hS h1 h2 h3 => ?_)
  refine vx_catch hown [] ⟨0, 12, 15, 13⟩ [⟨0, 12, 19, 15⟩] (htb.trans rfl) (fun _ h => absurd h List.not_mem_nil) rfl (by decide) (name := Ioob) (hts _ (by decide +kernel)) (va_Nw.use rfl (hI.2.2.2.1.2.1 Ioob (by decide +kernel))) h1 h2 h3 ?_
  refine W.eq (g2 := F0 m 15 ls [.ref q9]) rfl ?_
  refine lv_astore (lv' := [(5, .ref q9), (0, .ref x), (1, .int (nI i)), (2, .int p1), (3, .int p2), (4, .ref o)]) hx hb dL_link_15 hl (by decide) rfl (fun ls hl => ?_)
  refine lv_iconst (v := 1) hx hb dL_link_17 (by decide) ?_
  exact vx_ret (W.iret (v := 1) hx hb hr (fun t ht hW => ⟨⟨1, fo 0, rfl, ⟨rfl, fun h => absurd h (by decide)⟩, fo, by rw [ht]; exact (wL_one hP).old hH, rfl⟩, hS.F ht⟩) hS.2.2 dL_link_18)
set_option maxHeartbeats 4000000 in
set_option maxRecDepth 100000 in
/-- the caller of link, what -/
theorem cL_link_what (l : Launch) (hl9 : l.stackTraces = false) (G : va_G) (k : Nat → ClassId) (wx : va_W) (o : Nat) (fo : Nat → Int64) (sz : Nat) (x nd wy : Nat) (f g : Nat → Option Nat) (hF : FX k wx x nd wy f g) (i : Nat) (hi : i < 4) (j : Nat) (hj : j < 4) (p2 : Int32) (hz : ¬ p2 = 0) (h1 : ¬ p2 = 1) : vx_Met l yL_link wsL_link (rzk 3 1 6) (PL G k sz (wL k wx o fo) [.ref x, .int (nI i), .int (nI j), .int p2, .ref o]) (QL G k o 1 0 (va_A (wL k wx o fo) sz)) (fun _ _ _ => False) 1 6 (va_A (wL k wx o fo) sz) := by
  refine vx_ofWH (cc := cL_link) (maxL := 6) (ret := some .int) (hh := [(0, 12, 15, 13), (0, 12, 19, 15)]) (by decide) rfl ?_
  intro p e s m args below meth c s₁ B hml hv
  obtain ⟨rfl, hsz, hP, hD0, hI⟩ := hv
  subst hsz
  have hK := hI.1
  have hD := hD0.self (sz := s.heap.size)
  have hA : ∀ q : Nat, s.heap.size ≤ q → va_A (wL k wx o fo) s.heap.size q := fun _ h => Or.inr h
  have hS : va_S (va_A (wL k wx o fo) s.heap.size) s.heap s.heap [] := va_S.rf
  have hF := hF.mono (ws' := wL k wx o fo) (fun _ h => List.mem_append_left _ h)
  obtain ⟨kx, h0⟩ := List.getElem?_of_mem hF.1
  have hx := B.exec
  have hb := B.bytes
  have hr := B.returns
  have hts := atoms_spec (ws := wsL_link) B.pre
  have htb := vx_table (x := yL_link) B (hts _ List.mem_cons_self)
  have hown : s.vm.findClass RL = some m.cls := findClass_of_methodNamed B.named
  have hlocks := B.notSynchronized
  have hl := lv_entry ([.ref x, .int (nI i), .int (nI j), .int p2, .ref o]) (n := 6) (Nat.le_of_ble_eq_true rfl)
  rw [lg_entry_eq]
  generalize (lg_sl ([.ref x, .int (nI i), .int (nI j), .int p2, .ref o]) ++ List.replicate (6 - (lg_sl ([.ref x, .int (nI i), .int (nI j), .int p2, .ref o])).length) Slot.unset).toArray = ls at hl ⊢
  have hl : lv_has ls 6 [(0, .ref x), (1, .int (nI i)), (2, .int (nI j)), (3, .int p2), (4, .ref o)] := hl
  refine lv_aload hx hb dL_link_0 (lv_at hl 4 rfl) ?_
  refine lv_iconst (v := 0) hx hb dL_link_2 (by decide) ?_
  refine lv_aload_n hx hb dL_link_3 rfl (lv_at hl 0 rfl) ?_
  refine lv_iload_n hx hb dL_link_4 rfl (lv_at hl 1 rfl) ?_
  refine lv_iload_n hx hb dL_link_5 rfl (lv_at hl 2 rfl) ?_
  refine lv_iload_n hx hb dL_link_6 rfl (lv_at hl 3 rfl) ?_
  refine bt_call (vx_runV (As := [.int (nI i), .int (nI j), .int p2]) (rest := [.int 0, .ref o]) ⟨hx, hb, hml, hown, hts⟩ (c_link_what l hl9 G k _ _ x nd wy f g hF i hi j hj p2 hz h1) (cwV 3 hts gL_link_X3_link rfl rfl rfl (by decide +kernel) ⟨(Nat.le_of_ble_eq_true rfl), (Nat.le_of_ble_eq_true rfl)⟩) (PR.preV hI hS hA hP (ci := 3) rfl h0) rfl rfl hl.1 rfl (lv_room (Nat.le_of_ble_eq_true rfl)) dL_link_7 ⟨(Nat.le_of_ble_eq_true rfl), (Nat.le_of_ble_eq_true rfl)⟩) (fun _ _ _ h => h) hS hA (fun q h => Or.inr (Nat.le_trans hS.1 h)) (fun ce q9 H1 locs1 hH hS h1 h2 h3 => ?_)
  refine vx_catch hown [] ⟨0, 12, 15, 13⟩ [⟨0, 12, 19, 15⟩] (htb.trans rfl) (fun _ h => absurd h List.not_mem_nil) rfl (by decide) (name := Ioob) (hts _ (by decide +kernel)) (va_Nw.use rfl (hI.2.2.2.1.2.1 Ioob (by decide +kernel))) h1 h2 h3 ?_
  refine W.eq (g2 := F0 m 15 ls [.ref q9]) rfl ?_
  refine lv_astore (lv' := [(5, .ref q9), (0, .ref x), (1, .int (nI i)), (2, .int (nI j)), (3, .int p2), (4, .ref o)]) hx hb dL_link_15 hl (by decide) rfl (fun ls hl => ?_)
  refine lv_iconst (v := 1) hx hb dL_link_17 (by decide) ?_
  exact vx_ret (W.iret (v := 1) hx hb hr (fun t ht hW => ⟨⟨1, fo 0, rfl, ⟨rfl, fun h => absurd h (by decide)⟩, fo, by rw [ht]; exact (wL_one hP).old hH, rfl⟩, hS.F ht⟩) hS.2.2 dL_link_18)
set_option maxHeartbeats 4000000 in
set_option maxRecDepth 100000 in
/-- the caller of link, nolink -/
theorem cL_link_nolink (l : Launch) (hl9 : l.stackTraces = false) (G : va_G) (k : Nat → ClassId) (wx : va_W) (o : Nat) (fo : Nat → Int64) (sz : Nat) (x nd wy : Nat) (f g : Nat → Option Nat) (hF : FX k wx x nd wy f g) (i : Nat) (hi : i < 4) (j : Nat) (hj : j < 4) : vx_Met l yL_link wsL_link (rzk 3 1 6) (PL G k sz (wL k wx o fo) [.ref x, .int (nI i), .int (nI j), .int 0, .ref o]) (QL G k o 2 0 (va_A (wL k wx o fo) sz)) (fun _ _ _ => False) 1 6 (va_A (wL k wx o fo) sz) := by
  refine vx_ofWH (cc := cL_link) (maxL := 6) (ret := some .int) (hh := [(0, 12, 15, 13), (0, 12, 19, 15)]) (by decide) rfl ?_
  intro p e s m args below meth c s₁ B hml hv
  obtain ⟨rfl, hsz, hP, hD0, hI⟩ := hv
  subst hsz
  have hK := hI.1
  have hD := hD0.self (sz := s.heap.size)
  have hA : ∀ q : Nat, s.heap.size ≤ q → va_A (wL k wx o fo) s.heap.size q := fun _ h => Or.inr h
  have hS : va_S (va_A (wL k wx o fo) s.heap.size) s.heap s.heap [] := va_S.rf
  have hF := hF.mono (ws' := wL k wx o fo) (fun _ h => List.mem_append_left _ h)
  obtain ⟨kx, h0⟩ := List.getElem?_of_mem hF.1
  have hx := B.exec
  have hb := B.bytes
  have hr := B.returns
  have hts := atoms_spec (ws := wsL_link) B.pre
  have htb := vx_table (x := yL_link) B (hts _ List.mem_cons_self)
  have hown : s.vm.findClass RL = some m.cls := findClass_of_methodNamed B.named
  have hlocks := B.notSynchronized
  have hl := lv_entry ([.ref x, .int (nI i), .int (nI j), .int 0, .ref o]) (n := 6) (Nat.le_of_ble_eq_true rfl)
  rw [lg_entry_eq]
  generalize (lg_sl ([.ref x, .int (nI i), .int (nI j), .int 0, .ref o]) ++ List.replicate (6 - (lg_sl ([.ref x, .int (nI i), .int (nI j), .int 0, .ref o])).length) Slot.unset).toArray = ls at hl ⊢
  have hl : lv_has ls 6 [(0, .ref x), (1, .int (nI i)), (2, .int (nI j)), (3, .int 0), (4, .ref o)] := hl
  refine lv_aload hx hb dL_link_0 (lv_at hl 4 rfl) ?_
  refine lv_iconst (v := 0) hx hb dL_link_2 (by decide) ?_
  refine lv_aload_n hx hb dL_link_3 rfl (lv_at hl 0 rfl) ?_
  refine lv_iload_n hx hb dL_link_4 rfl (lv_at hl 1 rfl) ?_
  refine lv_iload_n hx hb dL_link_5 rfl (lv_at hl 2 rfl) ?_
  refine lv_iload_n hx hb dL_link_6 rfl (lv_at hl 3 rfl) ?_
  refine bt_call (vx_runV (As := [.int (nI i), .int (nI j), .int 0]) (rest := [.int 0, .ref o]) ⟨hx, hb, hml, hown, hts⟩ (c_link_nolink l hl9 G k _ _ x nd wy f g hF i hi j hj) (cwV 3 hts gL_link_X3_link rfl rfl rfl (by decide +kernel) ⟨(Nat.le_of_ble_eq_true rfl), (Nat.le_of_ble_eq_true rfl)⟩) (PR.preV hI hS hA hP (ci := 3) rfl h0) rfl rfl hl.1 rfl (lv_room (Nat.le_of_ble_eq_true rfl)) dL_link_7 ⟨(Nat.le_of_ble_eq_true rfl), (Nat.le_of_ble_eq_true rfl)⟩) (fun _ _ _ h => h) hS hA (fun q h => Or.inr (Nat.le_trans hS.1 h)) (fun ce q9 H1 locs1 hH hS h1 h2 h3 => ?_)
  refine vx_catch hown [⟨0, 12, 15, 13⟩] ⟨0, 12, 19, 15⟩ [] (htb.trans rfl) (fun z hz => by
      simp only [List.mem_cons, List.not_mem_nil, or_false] at hz
      rcases hz with rfl
      exact Or.inr ⟨by decide, Ioob, hts _ (by decide +kernel), hI.2.2.2.1.2.2 (Istt, Ioob) (by decide +kernel)⟩) rfl (by decide) (name := Istt) (hts _ (by decide +kernel)) (va_Nw.use rfl (hI.2.2.2.1.2.1 Istt (by decide +kernel))) h1 h2 h3 ?_
  refine W.eq (g2 := F0 m 19 ls [.ref q9]) rfl ?_
  refine lv_astore (lv' := [(5, .ref q9), (0, .ref x), (1, .int (nI i)), (2, .int (nI j)), (3, .int 0), (4, .ref o)]) hx hb dL_link_19 hl (by decide) rfl (fun ls hl => ?_)
  refine lv_iconst (v := 2) hx hb dL_link_21 (by decide) ?_
  exact vx_ret (W.iret (v := 2) hx hb hr (fun t ht hW => ⟨⟨2, fo 0, rfl, ⟨rfl, fun h => absurd h (by decide)⟩, fo, by rw [ht]; exact (wL_one hP).old hH, rfl⟩, hS.F ht⟩) hS.2.2 dL_link_22)
set_option maxHeartbeats 4000000 in
set_option maxRecDepth 100000 in
/-- the caller of link, count -/
theorem cL_link_count (l : Launch) (hl9 : l.stackTraces = false) (G : va_G) (k : Nat → ClassId) (wx : va_W) (o : Nat) (fo : Nat → Int64) (sz : Nat) (x nd wy : Nat) (f g : Nat → Option Nat) (hF : FX k wx x nd wy f g) (i : Nat) (hi : i < 4) (j : Nat) (hj : j < 4) : vx_Met l yL_link wsL_link (rzk 3 1 6) (PL G k sz (wL k wx o fo) [.ref x, .int (nI i), .int (nI j), .int 1, .ref o]) (QL G k o 0 0 (va_A (wL k wx o fo) sz)) (fun _ _ _ => False) 1 6 (va_A (wL k wx o fo) sz) := by
  refine vx_ofWH (cc := cL_link) (maxL := 6) (ret := some .int) (hh := [(0, 12, 15, 13), (0, 12, 19, 15)]) (by decide) rfl ?_
  intro p e s m args below meth c s₁ B hml hv
  obtain ⟨rfl, hsz, hP, hD0, hI⟩ := hv
  subst hsz
  have hK := hI.1
  have hD := hD0.self (sz := s.heap.size)
  have hA : ∀ q : Nat, s.heap.size ≤ q → va_A (wL k wx o fo) s.heap.size q := fun _ h => Or.inr h
  have hS : va_S (va_A (wL k wx o fo) s.heap.size) s.heap s.heap [] := va_S.rf
  have hF := hF.mono (ws' := wL k wx o fo) (fun _ h => List.mem_append_left _ h)
  obtain ⟨kx, h0⟩ := List.getElem?_of_mem hF.1
  have hx := B.exec
  have hb := B.bytes
  have hr := B.returns
  have hts := atoms_spec (ws := wsL_link) B.pre
  have htb := vx_table (x := yL_link) B (hts _ List.mem_cons_self)
  have hown : s.vm.findClass RL = some m.cls := findClass_of_methodNamed B.named
  have hlocks := B.notSynchronized
  have hl := lv_entry ([.ref x, .int (nI i), .int (nI j), .int 1, .ref o]) (n := 6) (Nat.le_of_ble_eq_true rfl)
  rw [lg_entry_eq]
  generalize (lg_sl ([.ref x, .int (nI i), .int (nI j), .int 1, .ref o]) ++ List.replicate (6 - (lg_sl ([.ref x, .int (nI i), .int (nI j), .int 1, .ref o])).length) Slot.unset).toArray = ls at hl ⊢
  have hl : lv_has ls 6 [(0, .ref x), (1, .int (nI i)), (2, .int (nI j)), (3, .int 1), (4, .ref o)] := hl
  refine lv_aload hx hb dL_link_0 (lv_at hl 4 rfl) ?_
  refine lv_iconst (v := 0) hx hb dL_link_2 (by decide) ?_
  refine lv_aload_n hx hb dL_link_3 rfl (lv_at hl 0 rfl) ?_
  refine lv_iload_n hx hb dL_link_4 rfl (lv_at hl 1 rfl) ?_
  refine lv_iload_n hx hb dL_link_5 rfl (lv_at hl 2 rfl) ?_
  refine lv_iload_n hx hb dL_link_6 rfl (lv_at hl 3 rfl) ?_
  refine br_call (W.runV (As := [.int (nI i), .int (nI j), .int 1]) (rest := [.int 0, .ref o]) ⟨hx, hb, hml, hown, hts⟩ (c_link_count l G k _ x nd wy f g hF i hi j hj) (cwV 3 hts gL_link_X3_link rfl rfl rfl (by decide +kernel) ⟨(Nat.le_of_ble_eq_true rfl), (Nat.le_of_ble_eq_true rfl)⟩) (PQ.preV hK hP (ci := 3) rfl h0) rfl rfl hl.1 rfl (lv_room (Nat.le_of_ble_eq_true rfl)) dL_link_7 ⟨(Nat.le_of_ble_eq_true rfl), (Nat.le_of_ble_eq_true rfl)⟩) ?_
  refine lv_i2l (v := Int32.toInt64 0) hx hb dL_link_10 rfl ?_
  refine va_last hx hb hK hP hD hS wx.length 5 wL_o rfl (vp_in_nI (n := 0) (by decide) (by decide)) dL_link_11 (fun H locs hP hD hS => ?_)
  refine lv_goto (tgt := 23) hx hb dL_link_12 (by decide) ?_
  refine lv_iconst (v := 0) hx hb dL_link_23 (by decide) ?_
  refine W.widen (k := 1) (n := 6) (by decide) (by decide) ?_
  exact vx_ret (W.iret (v := 0) hx hb hr (fun t ht hW => ⟨⟨0, Int32.toInt64 0, rfl, ⟨rfl, fun _ => rfl⟩, vp_updL fo 0 (Int32.toInt64 0), by rw [ht]; exact wL_set hP, rfl⟩, hS.F ht⟩) hS.2.2 dL_link_24)
set_option maxHeartbeats 4000000 in
set_option maxRecDepth 100000 in
/-- the caller of deliver, bad -/
theorem cL_deliver_bad (l : Launch) (hl9 : l.stackTraces = false) (G : va_G) (k : Nat → ClassId) (wx : va_W) (o : Nat) (fo : Nat → Int64) (sz : Nat) (x nd wy : Nat) (f g : Nat → Option Nat) (hF : FX k wx x nd wy f g) (p0 : Int32) (h : bdN p0) (p1 : Int32) : vx_Met l yL_deliver wsL_deliver (rzk 3 1 6) (PL G k sz (wL k wx o fo) [.ref x, .int p0, .int p1, .ref o]) (QL G k o 1 0 (va_A (wL k wx o fo) sz)) (fun _ _ _ => False) 1 6 (va_A (wL k wx o fo) sz) := by
  refine vx_ofWH (cc := cL_deliver) (maxL := 5) (ret := some .int) (hh := [(0, 10, 13, 13), (0, 10, 17, 49), (0, 10, 21, 26)]) (by decide) rfl ?_
  intro p e s m args below meth c s₁ B hml hv
  obtain ⟨rfl, hsz, hP, hD0, hI⟩ := hv
  subst hsz
  have hK := hI.1
  have hD := hD0.self (sz := s.heap.size)
  have hA : ∀ q : Nat, s.heap.size ≤ q → va_A (wL k wx o fo) s.heap.size q := fun _ h => Or.inr h
  have hS : va_S (va_A (wL k wx o fo) s.heap.size) s.heap s.heap [] := va_S.rf
  have hF := hF.mono (ws' := wL k wx o fo) (fun _ h => List.mem_append_left _ h)
  obtain ⟨kx, h0⟩ := List.getElem?_of_mem hF.1
  have hx := B.exec
  have hb := B.bytes
  have hr := B.returns
  have hts := atoms_spec (ws := wsL_deliver) B.pre
  have htb := vx_table (x := yL_deliver) B (hts _ List.mem_cons_self)
  have hown : s.vm.findClass RL = some m.cls := findClass_of_methodNamed B.named
  have hlocks := B.notSynchronized
  have hl := lv_entry ([.ref x, .int p0, .int p1, .ref o]) (n := 5) (Nat.le_of_ble_eq_true rfl)
  rw [lg_entry_eq]
  generalize (lg_sl ([.ref x, .int p0, .int p1, .ref o]) ++ List.replicate (5 - (lg_sl ([.ref x, .int p0, .int p1, .ref o])).length) Slot.unset).toArray = ls at hl ⊢
  have hl : lv_has ls 5 [(0, .ref x), (1, .int p0), (2, .int p1), (3, .ref o)] := hl
  refine lv_aload_n hx hb dL_deliver_0 rfl (lv_at hl 3 rfl) ?_
  refine lv_iconst (v := 0) hx hb dL_deliver_1 (by decide) ?_
  refine lv_aload_n hx hb dL_deliver_2 rfl (lv_at hl 0 rfl) ?_
  refine lv_iload_n hx hb dL_deliver_3 rfl (lv_at hl 1 rfl) ?_
  refine lv_iload_n hx hb dL_deliver_4 rfl (lv_at hl 2 rfl) ?_
  refine bt_call (vx_runV (As := [.int p0, .int p1]) (rest := [.int 0, .ref o]) ⟨hx, hb, hml, hown, hts⟩ (c_deliver_bad l hl9 G k _ _ x nd wy f g hF p0 h p1) (cwV 2 hts gL_deliver_X3_deliver rfl rfl rfl (by decide +kernel) ⟨(Nat.le_of_ble_eq_true rfl), (Nat.le_of_ble_eq_true rfl)⟩) (PR.preV hI hS hA hP (ci := 3) rfl h0) rfl rfl hl.1 rfl (lv_room (Nat.le_of_ble_eq_true rfl)) dL_deliver_5 ⟨(Nat.le_of_ble_eq_true rfl), (Nat.le_of_ble_eq_true rfl)⟩) (fun _ _ _ h => h) hS hA (fun q h => Or.inr (Nat.le_trans hS.1 h)) (fun ce q9 H1 locs1 hH hS h1 h2 h3 => ?_)
  refine vx_catch hown [] ⟨0, 10, 13, 13⟩ [⟨0, 10, 17, 49⟩, ⟨0, 10, 21, 26⟩] (htb.trans rfl) (fun _ h => absurd h List.not_mem_nil) rfl (by decide) (name := Ioob) (hts _ (by decide +kernel)) (va_Nw.use rfl (hI.2.2.2.1.2.1 Ioob (by decide +kernel))) h1 h2 h3 ?_
  refine W.eq (g2 := F0 m 13 ls [.ref q9]) rfl ?_
  refine lv_astore (lv' := [(4, .ref q9), (0, .ref x), (1, .int p0), (2, .int p1), (3, .ref o)]) hx hb dL_deliver_13 hl (by decide) rfl (fun ls hl => ?_)
  refine lv_iconst (v := 1) hx hb dL_deliver_15 (by decide) ?_
  exact vx_ret (W.iret (v := 1) hx hb hr (fun t ht hW => ⟨⟨1, fo 0, rfl, ⟨rfl, fun h => absurd h (by decide)⟩, fo, by rw [ht]; exact (wL_one hP).old hH, rfl⟩, hS.F ht⟩) hS.2.2 dL_deliver_16)
set_option maxHeartbeats 4000000 in
set_option maxRecDepth 100000 in
/-- the caller of deliver, bad2 -/
theorem cL_deliver_bad2 (l : Launch) (hl9 : l.stackTraces = false) (G : va_G) (k : Nat → ClassId) (wx : va_W) (o : Nat) (fo : Nat → Int64) (sz : Nat) (x nd wy : Nat) (f g : Nat → Option Nat) (hF : FX k wx x nd wy f g) (i : Nat) (hi : i < 4) (p1 : Int32) (h : bdN p1) : vx_Met l yL_deliver wsL_deliver (rzk 3 1 6) (PL G k sz (wL k wx o fo) [.ref x, .int (nI i), .int p1, .ref o]) (QL G k o 1 0 (va_A (wL k wx o fo) sz)) (fun _ _ _ => False) 1 6 (va_A (wL k wx o fo) sz) := by
  refine vx_ofWH (cc := cL_deliver) (maxL := 5) (ret := some .int) (hh := [(0, 10, 13, 13), (0, 10, 17, 49), (0, 10, 21, 26)]) (by decide) rfl ?_
  intro p e s m args below meth c s₁ B hml hv
  obtain ⟨rfl, hsz, hP, hD0, hI⟩ := hv
  subst hsz
  have hK := hI.1
  have hD := hD0.self (sz := s.heap.size)
  have hA : ∀ q : Nat, s.heap.size ≤ q → va_A (wL k wx o fo) s.heap.size q := fun _ h => Or.inr h
  have hS : va_S (va_A (wL k wx o fo) s.heap.size) s.heap s.heap [] := va_S.rf
  have hF := hF.mono (ws' := wL k wx o fo) (fun _ h => List.mem_append_left _ h)
  obtain ⟨kx, h0⟩ := List.getElem?_of_mem hF.1
  have hx := B.exec
  have hb := B.bytes
  have hr := B.returns
  have hts := atoms_spec (ws := wsL_deliver) B.pre
  have htb := vx_table (x := yL_deliver) B (hts _ List.mem_cons_self)
  have hown : s.vm.findClass RL = some m.cls := findClass_of_methodNamed B.named
  have hlocks := B.notSynchronized
  have hl := lv_entry ([.ref x, .int (nI i), .int p1, .ref o]) (n := 5) (Nat.le_of_ble_eq_true rfl)
  rw [lg_entry_eq]
  generalize (lg_sl ([.ref x, .int (nI i), .int p1, .ref o]) ++ List.replicate (5 - (lg_sl ([.ref x, .int (nI i), .int p1, .ref o])).length) Slot.unset).toArray = ls at hl ⊢
  have hl : lv_has ls 5 [(0, .ref x), (1, .int (nI i)), (2, .int p1), (3, .ref o)] := hl
  refine lv_aload_n hx hb dL_deliver_0 rfl (lv_at hl 3 rfl) ?_
  refine lv_iconst (v := 0) hx hb dL_deliver_1 (by decide) ?_
  refine lv_aload_n hx hb dL_deliver_2 rfl (lv_at hl 0 rfl) ?_
  refine lv_iload_n hx hb dL_deliver_3 rfl (lv_at hl 1 rfl) ?_
  refine lv_iload_n hx hb dL_deliver_4 rfl (lv_at hl 2 rfl) ?_
  refine bt_call (vx_runV (As := [.int (nI i), .int p1]) (rest := [.int 0, .ref o]) ⟨hx, hb, hml, hown, hts⟩ (c_deliver_bad2 l hl9 G k _ _ x nd wy f g hF i hi p1 h) (cwV 2 hts gL_deliver_X3_deliver rfl rfl rfl (by decide +kernel) ⟨(Nat.le_of_ble_eq_true rfl), (Nat.le_of_ble_eq_true rfl)⟩) (PR.preV hI hS hA hP (ci := 3) rfl h0) rfl rfl hl.1 rfl (lv_room (Nat.le_of_ble_eq_true rfl)) dL_deliver_5 ⟨(Nat.le_of_ble_eq_true rfl), (Nat.le_of_ble_eq_true rfl)⟩) (fun _ _ _ h => h) hS hA (fun q h => Or.inr (Nat.le_trans hS.1 h)) (fun ce q9 H1 locs1 hH hS h1 h2 h3 => ?_)
  refine vx_catch hown [] ⟨0, 10, 13, 13⟩ [⟨0, 10, 17, 49⟩, ⟨0, 10, 21, 26⟩] (htb.trans rfl) (fun _ h => absurd h List.not_mem_nil) rfl (by decide) (name := Ioob) (hts _ (by decide +kernel)) (va_Nw.use rfl (hI.2.2.2.1.2.1 Ioob (by decide +kernel))) h1 h2 h3 ?_
  refine W.eq (g2 := F0 m 13 ls [.ref q9]) rfl ?_
  refine lv_astore (lv' := [(4, .ref q9), (0, .ref x), (1, .int (nI i)), (2, .int p1), (3, .ref o)]) hx hb dL_deliver_13 hl (by decide) rfl (fun ls hl => ?_)
  refine lv_iconst (v := 1) hx hb dL_deliver_15 (by decide) ?_
  exact vx_ret (W.iret (v := 1) hx hb hr (fun t ht hW => ⟨⟨1, fo 0, rfl, ⟨rfl, fun h => absurd h (by decide)⟩, fo, by rw [ht]; exact (wL_one hP).old hH, rfl⟩, hS.F ht⟩) hS.2.2 dL_deliver_16)
set_option maxHeartbeats 4000000 in
set_option maxRecDepth 100000 in
/-- the caller of deliver, none -/
theorem cL_deliver_none (l : Launch) (hl9 : l.stackTraces = false) (G : va_G) (k : Nat → ClassId) (wx : va_W) (o : Nat) (fo : Nat → Int64) (sz : Nat) (x nd wy : Nat) (f g : Nat → Option Nat) (hF : FX k wx x nd wy f g) (i : Nat) (hi : i < 4) (j : Nat) (hj : j < 4) : vx_Met l yL_deliver wsL_deliver (rzk 3 1 6) (PL G k sz (wL k wx o fo) [.ref x, .int (nI i), .int (nI j), .ref o]) (QL G k o 2 0 (va_A (wL k wx o fo) sz)) (fun _ _ _ => False) 1 6 (va_A (wL k wx o fo) sz) := by
  refine vx_ofWH (cc := cL_deliver) (maxL := 5) (ret := some .int) (hh := [(0, 10, 13, 13), (0, 10, 17, 49), (0, 10, 21, 26)]) (by decide) rfl ?_
  intro p e s m args below meth c s₁ B hml hv
  obtain ⟨rfl, hsz, hP, hD0, hI⟩ := hv
  subst hsz
  have hK := hI.1
  have hD := hD0.self (sz := s.heap.size)
  have hA : ∀ q : Nat, s.heap.size ≤ q → va_A (wL k wx o fo) s.heap.size q := fun _ h => Or.inr h
  have hS : va_S (va_A (wL k wx o fo) s.heap.size) s.heap s.heap [] := va_S.rf
  have hF := hF.mono (ws' := wL k wx o fo) (fun _ h => List.mem_append_left _ h)
  obtain ⟨kx, h0⟩ := List.getElem?_of_mem hF.1
  have hx := B.exec
  have hb := B.bytes
  have hr := B.returns
  have hts := atoms_spec (ws := wsL_deliver) B.pre
  have htb := vx_table (x := yL_deliver) B (hts _ List.mem_cons_self)
  have hown : s.vm.findClass RL = some m.cls := findClass_of_methodNamed B.named
  have hlocks := B.notSynchronized
  have hl := lv_entry ([.ref x, .int (nI i), .int (nI j), .ref o]) (n := 5) (Nat.le_of_ble_eq_true rfl)
  rw [lg_entry_eq]
  generalize (lg_sl ([.ref x, .int (nI i), .int (nI j), .ref o]) ++ List.replicate (5 - (lg_sl ([.ref x, .int (nI i), .int (nI j), .ref o])).length) Slot.unset).toArray = ls at hl ⊢
  have hl : lv_has ls 5 [(0, .ref x), (1, .int (nI i)), (2, .int (nI j)), (3, .ref o)] := hl
  refine lv_aload_n hx hb dL_deliver_0 rfl (lv_at hl 3 rfl) ?_
  refine lv_iconst (v := 0) hx hb dL_deliver_1 (by decide) ?_
  refine lv_aload_n hx hb dL_deliver_2 rfl (lv_at hl 0 rfl) ?_
  refine lv_iload_n hx hb dL_deliver_3 rfl (lv_at hl 1 rfl) ?_
  refine lv_iload_n hx hb dL_deliver_4 rfl (lv_at hl 2 rfl) ?_
  refine bt_call (vx_runV (As := [.int (nI i), .int (nI j)]) (rest := [.int 0, .ref o]) ⟨hx, hb, hml, hown, hts⟩ (c_deliver_none l hl9 G k _ _ x nd wy f g hF i hi j hj) (cwV 2 hts gL_deliver_X3_deliver rfl rfl rfl (by decide +kernel) ⟨(Nat.le_of_ble_eq_true rfl), (Nat.le_of_ble_eq_true rfl)⟩) (PR.preV hI hS hA hP (ci := 3) rfl h0) rfl rfl hl.1 rfl (lv_room (Nat.le_of_ble_eq_true rfl)) dL_deliver_5 ⟨(Nat.le_of_ble_eq_true rfl), (Nat.le_of_ble_eq_true rfl)⟩) (fun _ _ _ h => h) hS hA (fun q h => Or.inr (Nat.le_trans hS.1 h)) (fun ce q9 H1 locs1 hH hS h1 h2 h3 => ?_)
  refine vx_catch hown [⟨0, 10, 13, 13⟩] ⟨0, 10, 17, 49⟩ [⟨0, 10, 21, 26⟩] (htb.trans rfl) (fun z hz => by
      simp only [List.mem_cons, List.not_mem_nil, or_false] at hz
      rcases hz with rfl
      exact Or.inr ⟨by decide, Ioob, hts _ (by decide +kernel), hI.2.2.2.1.2.2 (Nsee, Ioob) (by decide +kernel)⟩) rfl (by decide) (name := Nsee) (hts _ (by decide +kernel)) (va_Nw.use rfl (hI.2.2.2.1.2.1 Nsee (by decide +kernel))) h1 h2 h3 ?_
  refine W.eq (g2 := F0 m 17 ls [.ref q9]) rfl ?_
  refine lv_astore (lv' := [(4, .ref q9), (0, .ref x), (1, .int (nI i)), (2, .int (nI j)), (3, .ref o)]) hx hb dL_deliver_17 hl (by decide) rfl (fun ls hl => ?_)
  refine lv_iconst (v := 2) hx hb dL_deliver_19 (by decide) ?_
  exact vx_ret (W.iret (v := 2) hx hb hr (fun t ht hW => ⟨⟨2, fo 0, rfl, ⟨rfl, fun h => absurd h (by decide)⟩, fo, by rw [ht]; exact (wL_one hP).old hH, rfl⟩, hS.F ht⟩) hS.2.2 dL_deliver_20)
set_option maxHeartbeats 4000000 in
set_option maxRecDepth 100000 in
/-- the caller of drop, bad -/
theorem cL_drop_bad (l : Launch) (hl9 : l.stackTraces = false) (G : va_G) (k : Nat → ClassId) (wx : va_W) (o : Nat) (fo : Nat → Int64) (sz : Nat) (x nd wy : Nat) (f g : Nat → Option Nat) (hF : FX k wx x nd wy f g) (p0 : Int32) (h : bdN p0) (p1 : Int32) : vx_Met l yL_drop wsL_drop (rzk 3 1 6) (PL G k sz (wL k wx o fo) [.ref x, .int p0, .int p1, .ref o]) (QL G k o 1 0 (va_A (wL k wx o fo) sz)) (fun _ _ _ => False) 1 6 (va_A (wL k wx o fo) sz) := by
  refine vx_ofWH (cc := cL_drop) (maxL := 5) (ret := some .int) (hh := [(0, 10, 13, 13), (0, 10, 17, 49)]) (by decide) rfl ?_
  intro p e s m args below meth c s₁ B hml hv
  obtain ⟨rfl, hsz, hP, hD0, hI⟩ := hv
  subst hsz
  have hK := hI.1
  have hD := hD0.self (sz := s.heap.size)
  have hA : ∀ q : Nat, s.heap.size ≤ q → va_A (wL k wx o fo) s.heap.size q := fun _ h => Or.inr h
  have hS : va_S (va_A (wL k wx o fo) s.heap.size) s.heap s.heap [] := va_S.rf
  have hF := hF.mono (ws' := wL k wx o fo) (fun _ h => List.mem_append_left _ h)
  obtain ⟨kx, h0⟩ := List.getElem?_of_mem hF.1
  have hx := B.exec
  have hb := B.bytes
  have hr := B.returns
  have hts := atoms_spec (ws := wsL_drop) B.pre
  have htb := vx_table (x := yL_drop) B (hts _ List.mem_cons_self)
  have hown : s.vm.findClass RL = some m.cls := findClass_of_methodNamed B.named
  have hlocks := B.notSynchronized
  have hl := lv_entry ([.ref x, .int p0, .int p1, .ref o]) (n := 5) (Nat.le_of_ble_eq_true rfl)
  rw [lg_entry_eq]
  generalize (lg_sl ([.ref x, .int p0, .int p1, .ref o]) ++ List.replicate (5 - (lg_sl ([.ref x, .int p0, .int p1, .ref o])).length) Slot.unset).toArray = ls at hl ⊢
  have hl : lv_has ls 5 [(0, .ref x), (1, .int p0), (2, .int p1), (3, .ref o)] := hl
  refine lv_aload_n hx hb dL_drop_0 rfl (lv_at hl 3 rfl) ?_
  refine lv_iconst (v := 0) hx hb dL_drop_1 (by decide) ?_
  refine lv_aload_n hx hb dL_drop_2 rfl (lv_at hl 0 rfl) ?_
  refine lv_iload_n hx hb dL_drop_3 rfl (lv_at hl 1 rfl) ?_
  refine lv_iload_n hx hb dL_drop_4 rfl (lv_at hl 2 rfl) ?_
  refine bt_call (vx_runV (As := [.int p0, .int p1]) (rest := [.int 0, .ref o]) ⟨hx, hb, hml, hown, hts⟩ (c_drop_bad l hl9 G k _ _ x nd wy f g hF p0 h p1) (cwV 2 hts gL_drop_X3_drop rfl rfl rfl (by decide +kernel) ⟨(Nat.le_of_ble_eq_true rfl), (Nat.le_of_ble_eq_true rfl)⟩) (PR.preV hI hS hA hP (ci := 3) rfl h0) rfl rfl hl.1 rfl (lv_room (Nat.le_of_ble_eq_true rfl)) dL_drop_5 ⟨(Nat.le_of_ble_eq_true rfl), (Nat.le_of_ble_eq_true rfl)⟩) (fun _ _ _ h => h) hS hA (fun q h => Or.inr (Nat.le_trans hS.1 h)) (fun ce q9 H1 locs1 hH hS h1 h2 h3 => ?_)
  refine vx_catch hown [] ⟨0, 10, 13, 13⟩ [⟨0, 10, 17, 49⟩] (htb.trans rfl) (fun _ h => absurd h List.not_mem_nil) rfl (by decide) (name := Ioob) (hts _ (by decide +kernel)) (va_Nw.use rfl (hI.2.2.2.1.2.1 Ioob (by decide +kernel))) h1 h2 h3 ?_
  refine W.eq (g2 := F0 m 13 ls [.ref q9]) rfl ?_
  refine lv_astore (lv' := [(4, .ref q9), (0, .ref x), (1, .int p0), (2, .int p1), (3, .ref o)]) hx hb dL_drop_13 hl (by decide) rfl (fun ls hl => ?_)
  refine lv_iconst (v := 1) hx hb dL_drop_15 (by decide) ?_
  exact vx_ret (W.iret (v := 1) hx hb hr (fun t ht hW => ⟨⟨1, fo 0, rfl, ⟨rfl, fun h => absurd h (by decide)⟩, fo, by rw [ht]; exact (wL_one hP).old hH, rfl⟩, hS.F ht⟩) hS.2.2 dL_drop_16)
set_option maxHeartbeats 4000000 in
set_option maxRecDepth 100000 in
/-- the caller of drop, bad2 -/
theorem cL_drop_bad2 (l : Launch) (hl9 : l.stackTraces = false) (G : va_G) (k : Nat → ClassId) (wx : va_W) (o : Nat) (fo : Nat → Int64) (sz : Nat) (x nd wy : Nat) (f g : Nat → Option Nat) (hF : FX k wx x nd wy f g) (i : Nat) (hi : i < 4) (p1 : Int32) (h : bdN p1) : vx_Met l yL_drop wsL_drop (rzk 3 1 6) (PL G k sz (wL k wx o fo) [.ref x, .int (nI i), .int p1, .ref o]) (QL G k o 1 0 (va_A (wL k wx o fo) sz)) (fun _ _ _ => False) 1 6 (va_A (wL k wx o fo) sz) := by
  refine vx_ofWH (cc := cL_drop) (maxL := 5) (ret := some .int) (hh := [(0, 10, 13, 13), (0, 10, 17, 49)]) (by decide) rfl ?_
  intro p e s m args below meth c s₁ B hml hv
  obtain ⟨rfl, hsz, hP, hD0, hI⟩ := hv
  subst hsz
  have hK := hI.1
  have hD := hD0.self (sz := s.heap.size)
  have hA : ∀ q : Nat, s.heap.size ≤ q → va_A (wL k wx o fo) s.heap.size q := fun _ h => Or.inr h
  have hS : va_S (va_A (wL k wx o fo) s.heap.size) s.heap s.heap [] := va_S.rf
  have hF := hF.mono (ws' := wL k wx o fo) (fun _ h => List.mem_append_left _ h)
  obtain ⟨kx, h0⟩ := List.getElem?_of_mem hF.1
  have hx := B.exec
  have hb := B.bytes
  have hr := B.returns
  have hts := atoms_spec (ws := wsL_drop) B.pre
  have htb := vx_table (x := yL_drop) B (hts _ List.mem_cons_self)
  have hown : s.vm.findClass RL = some m.cls := findClass_of_methodNamed B.named
  have hlocks := B.notSynchronized
  have hl := lv_entry ([.ref x, .int (nI i), .int p1, .ref o]) (n := 5) (Nat.le_of_ble_eq_true rfl)
  rw [lg_entry_eq]
  generalize (lg_sl ([.ref x, .int (nI i), .int p1, .ref o]) ++ List.replicate (5 - (lg_sl ([.ref x, .int (nI i), .int p1, .ref o])).length) Slot.unset).toArray = ls at hl ⊢
  have hl : lv_has ls 5 [(0, .ref x), (1, .int (nI i)), (2, .int p1), (3, .ref o)] := hl
  refine lv_aload_n hx hb dL_drop_0 rfl (lv_at hl 3 rfl) ?_
  refine lv_iconst (v := 0) hx hb dL_drop_1 (by decide) ?_
  refine lv_aload_n hx hb dL_drop_2 rfl (lv_at hl 0 rfl) ?_
  refine lv_iload_n hx hb dL_drop_3 rfl (lv_at hl 1 rfl) ?_
  refine lv_iload_n hx hb dL_drop_4 rfl (lv_at hl 2 rfl) ?_
  refine bt_call (vx_runV (As := [.int (nI i), .int p1]) (rest := [.int 0, .ref o]) ⟨hx, hb, hml, hown, hts⟩ (c_drop_bad2 l hl9 G k _ _ x nd wy f g hF i hi p1 h) (cwV 2 hts gL_drop_X3_drop rfl rfl rfl (by decide +kernel) ⟨(Nat.le_of_ble_eq_true rfl), (Nat.le_of_ble_eq_true rfl)⟩) (PR.preV hI hS hA hP (ci := 3) rfl h0) rfl rfl hl.1 rfl (lv_room (Nat.le_of_ble_eq_true rfl)) dL_drop_5 ⟨(Nat.le_of_ble_eq_true rfl), (Nat.le_of_ble_eq_true rfl)⟩) (fun _ _ _ h => h) hS hA (fun q h => Or.inr (Nat.le_trans hS.1 h)) (fun ce q9 H1 locs1 hH hS h1 h2 h3 => ?_)
  refine vx_catch hown [] ⟨0, 10, 13, 13⟩ [⟨0, 10, 17, 49⟩] (htb.trans rfl) (fun _ h => absurd h List.not_mem_nil) rfl (by decide) (name := Ioob) (hts _ (by decide +kernel)) (va_Nw.use rfl (hI.2.2.2.1.2.1 Ioob (by decide +kernel))) h1 h2 h3 ?_
  refine W.eq (g2 := F0 m 13 ls [.ref q9]) rfl ?_
  refine lv_astore (lv' := [(4, .ref q9), (0, .ref x), (1, .int (nI i)), (2, .int p1), (3, .ref o)]) hx hb dL_drop_13 hl (by decide) rfl (fun ls hl => ?_)
  refine lv_iconst (v := 1) hx hb dL_drop_15 (by decide) ?_
  exact vx_ret (W.iret (v := 1) hx hb hr (fun t ht hW => ⟨⟨1, fo 0, rfl, ⟨rfl, fun h => absurd h (by decide)⟩, fo, by rw [ht]; exact (wL_one hP).old hH, rfl⟩, hS.F ht⟩) hS.2.2 dL_drop_16)
set_option maxHeartbeats 4000000 in
set_option maxRecDepth 100000 in
/-- the caller of drop, none -/
theorem cL_drop_none (l : Launch) (hl9 : l.stackTraces = false) (G : va_G) (k : Nat → ClassId) (wx : va_W) (o : Nat) (fo : Nat → Int64) (sz : Nat) (x nd wy : Nat) (f g : Nat → Option Nat) (hF : FX k wx x nd wy f g) (i : Nat) (hi : i < 4) (j : Nat) (hj : j < 4) : vx_Met l yL_drop wsL_drop (rzk 3 1 6) (PL G k sz (wL k wx o fo) [.ref x, .int (nI i), .int (nI j), .ref o]) (QL G k o 2 0 (va_A (wL k wx o fo) sz)) (fun _ _ _ => False) 1 6 (va_A (wL k wx o fo) sz) := by
  refine vx_ofWH (cc := cL_drop) (maxL := 5) (ret := some .int) (hh := [(0, 10, 13, 13), (0, 10, 17, 49)]) (by decide) rfl ?_
  intro p e s m args below meth c s₁ B hml hv
  obtain ⟨rfl, hsz, hP, hD0, hI⟩ := hv
  subst hsz
  have hK := hI.1
  have hD := hD0.self (sz := s.heap.size)
  have hA : ∀ q : Nat, s.heap.size ≤ q → va_A (wL k wx o fo) s.heap.size q := fun _ h => Or.inr h
  have hS : va_S (va_A (wL k wx o fo) s.heap.size) s.heap s.heap [] := va_S.rf
  have hF := hF.mono (ws' := wL k wx o fo) (fun _ h => List.mem_append_left _ h)
  obtain ⟨kx, h0⟩ := List.getElem?_of_mem hF.1
  have hx := B.exec
  have hb := B.bytes
  have hr := B.returns
  have hts := atoms_spec (ws := wsL_drop) B.pre
  have htb := vx_table (x := yL_drop) B (hts _ List.mem_cons_self)
  have hown : s.vm.findClass RL = some m.cls := findClass_of_methodNamed B.named
  have hlocks := B.notSynchronized
  have hl := lv_entry ([.ref x, .int (nI i), .int (nI j), .ref o]) (n := 5) (Nat.le_of_ble_eq_true rfl)
  rw [lg_entry_eq]
  generalize (lg_sl ([.ref x, .int (nI i), .int (nI j), .ref o]) ++ List.replicate (5 - (lg_sl ([.ref x, .int (nI i), .int (nI j), .ref o])).length) Slot.unset).toArray = ls at hl ⊢
  have hl : lv_has ls 5 [(0, .ref x), (1, .int (nI i)), (2, .int (nI j)), (3, .ref o)] := hl
  refine lv_aload_n hx hb dL_drop_0 rfl (lv_at hl 3 rfl) ?_
  refine lv_iconst (v := 0) hx hb dL_drop_1 (by decide) ?_
  refine lv_aload_n hx hb dL_drop_2 rfl (lv_at hl 0 rfl) ?_
  refine lv_iload_n hx hb dL_drop_3 rfl (lv_at hl 1 rfl) ?_
  refine lv_iload_n hx hb dL_drop_4 rfl (lv_at hl 2 rfl) ?_
  refine bt_call (vx_runV (As := [.int (nI i), .int (nI j)]) (rest := [.int 0, .ref o]) ⟨hx, hb, hml, hown, hts⟩ (c_drop_none l hl9 G k _ _ x nd wy f g hF i hi j hj) (cwV 2 hts gL_drop_X3_drop rfl rfl rfl (by decide +kernel) ⟨(Nat.le_of_ble_eq_true rfl), (Nat.le_of_ble_eq_true rfl)⟩) (PR.preV hI hS hA hP (ci := 3) rfl h0) rfl rfl hl.1 rfl (lv_room (Nat.le_of_ble_eq_true rfl)) dL_drop_5 ⟨(Nat.le_of_ble_eq_true rfl), (Nat.le_of_ble_eq_true rfl)⟩) (fun _ _ _ h => h) hS hA (fun q h => Or.inr (Nat.le_trans hS.1 h)) (fun ce q9 H1 locs1 hH hS h1 h2 h3 => ?_)
  refine vx_catch hown [⟨0, 10, 13, 13⟩] ⟨0, 10, 17, 49⟩ [] (htb.trans rfl) (fun z hz => by
      simp only [List.mem_cons, List.not_mem_nil, or_false] at hz
      rcases hz with rfl
      exact Or.inr ⟨by decide, Ioob, hts _ (by decide +kernel), hI.2.2.2.1.2.2 (Nsee, Ioob) (by decide +kernel)⟩) rfl (by decide) (name := Nsee) (hts _ (by decide +kernel)) (va_Nw.use rfl (hI.2.2.2.1.2.1 Nsee (by decide +kernel))) h1 h2 h3 ?_
  refine W.eq (g2 := F0 m 17 ls [.ref q9]) rfl ?_
  refine lv_astore (lv' := [(4, .ref q9), (0, .ref x), (1, .int (nI i)), (2, .int (nI j)), (3, .ref o)]) hx hb dL_drop_17 hl (by decide) rfl (fun ls hl => ?_)
  refine lv_iconst (v := 2) hx hb dL_drop_19 (by decide) ?_
  exact vx_ret (W.iret (v := 2) hx hb hr (fun t ht hW => ⟨⟨2, fo 0, rfl, ⟨rfl, fun h => absurd h (by decide)⟩, fo, by rw [ht]; exact (wL_one hP).old hH, rfl⟩, hS.F ht⟩) hS.2.2 dL_drop_20)
