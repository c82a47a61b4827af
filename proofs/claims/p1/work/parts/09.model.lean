/-! 09: the reference on a fresh object, road by road (all but up of a good node). Laid by wip/p1/gen09.py -/
abbrev wMo (q : Nat → Nat) : List Value := [.int 0, .ref (q 1), .ref (q 2), .ref (q 3), .ref (q 4), .ref (q 5), .ref (q 6), .ref (q 7), .ref (q 8), .ref (q 9), .ref (q 10), .ref (q 11), .ref (q 12), .ref (q 13), .ref (q 14), .ref (q 15), .ref (q 16), .ref (q 17), .ref (q 18), .int 0]
/-- the reference's cells: th is 'thrown', ro the roles -/
abbrev wM (q : Nat → Nat) (k : Nat → ClassId) (th : Int32) (ro g7 g8 : Nat → Int32) : va_W := [(q 0, .inr (4, .int th :: wMo q)), (q 1, .inl (k 3, 16384, .inl (fun _ => 0))), (q 2, .inl (k 3, 16384, .inl (fun _ => 0))), (q 3, .inl (k 3, 4, .inl ro)), (q 4, .inl (k 3, 4, .inl (fun _ => 0))), (q 5, .inl (k 3, 4, .inl (fun _ => 0))), (q 6, .inl (k 3, 4, .inl (fun _ => 0))), (q 7, .inl (k 3, 4, .inl g7)), (q 8, .inl (k 3, 4, .inl g8)), (q 9, .inl (k 3, 4, .inl (fun _ => 0))), (q 10, .inl (k 3, 4, .inl (fun _ => 0))), (q 11, .inl (k 3, 16, .inl (fun _ => 0))), (q 12, .inl (k 3, 16, .inl (fun _ => 0))), (q 13, .inl (k 3, 256, .inl (fun _ => 0))), (q 14, .inl (k 3, 256, .inl (fun _ => 0))), (q 15, .inl (k 3, 16384, .inl (fun _ => 0))), (q 16, .inl (k 3, 16, .inl (fun _ => 0))), (q 17, .inl (k 3, 16, .inl (fun _ => 0))), (q 18, .inl (k 4, 16, .inl (fun _ => 0)))]
abbrev MP (G : va_G) (k : Nat → ClassId) (sz : Nat) (q : Nat → Nat) (g7 g8 : Nat → Int32) (As : List Value) : Array Value → State → Prop := va_Pc As (fun U => U.heap.size = sz ∧ va_P G vwCl (wM q k 0 (fun _ => 0) g7 g8) U.heap ∧ va_K G vwCl (pT k) U ∧ va_D (fun _ => True) (wM q k 0 (fun _ => 0) g7 g8))
/-- the answer, where nothing is thrown, is V; 'thrown' is K -/
abbrev MQl (G : va_G) (q : Nat → Nat) (K V : Int32) (A : Nat → Prop) : Array Value → State → Outcome → State → Prop := va_Qi (fun (r : Int32) (_ : Unit) => K = 0 → r = V) (fun _ t => ∃ fs : List Value, va_P G vwCl [(q 0, .inr (4, .int K :: fs))] t.heap) A
abbrev MQv (G : va_G) (q : Nat → Nat) (K : Int32) (A : Nat → Prop) : Array Value → State → Outcome → State → Prop := va_Qv (fun (_ : Unit) => True) (fun _ t => ∃ fs : List Value, va_P G vwCl [(q 0, .inr (4, .int K :: fs))] t.heap) A
theorem n_cx (i j : Nat) : 4 * nI i + nI j = nI (4 * i + j) := by
  rw [show (4 : Int32) = nI 4 from rfl, pk_mul, nI_add]
theorem n_at (i j : Nat) : 4096 * nI i + nI j = nI (4096 * i + j) := by
  rw [show (4096 : Int32) = nI 4096 from rfl, pk_mul, nI_add]
theorem n_3 {j : Nat} (h : j < 4) : nI j ≤ 3 := nI_le (a := j) (b := 3) (by omega) (by decide)
theorem n_p0 {j : Nat} (h : j < 2 ^ 31) : 0 ≤ nI j := nI_pos' h
theorem n_up {p : Int32} {n : Nat} (hn : n + 1 < 2 ^ 31) (h : nI (n + 1) ≤ p) : nI n < p := by
  have h1 : (nI (n + 1)).toInt ≤ p.toInt := Int32.le_iff_toInt_le.mp h
  have h2 : (nI (n + 1)).toInt = ((n + 1 : Nat) : Int) := nI_toInt hn
  have h3 : (nI n).toInt = (n : Int) := nI_toInt (by omega)
  exact Int32.lt_iff_toInt_lt.mpr (by omega)
theorem va_P.hd {G : va_G} {ws : va_W} {x : Nat × va_E} {H : Heap} (h : va_P G vwCl (x :: ws) H) : va_P G vwCl [x] H := h.mem (fun q hq => by rw [List.mem_singleton.mp hq]; exact List.mem_cons_self)
theorem va_D.one {a : Nat} {e : va_E} : va_D (fun _ => True) [(a, e)] := ⟨fun i j p q hi hj _ => by
    have h1 : i < 1 := (List.getElem?_eq_some_iff.mp hi).1
    have h2 : j < 1 := (List.getElem?_eq_some_iff.mp hj).1
    omega, fun _ _ _ => trivial⟩
abbrev FP (G : va_G) (k : Nat → ClassId) (sz a : Nat) (t : Int32) (fs : List Value) (As : List Value) : Array Value → State → Prop := va_Pc As (fun U => U.heap.size = sz ∧ va_P G vwCl [(a, .inr (4, .int t :: fs))] U.heap ∧ va_K G vwCl (pT k) U)
theorem mf_pre {G : va_G} {k : Nat → ClassId} {s : State} {H : Heap} {a : Nat} {t : Int32} {fs : List Value} {ws : va_W} {As : List Value} (hK : va_K G vwCl (pT k) s) (hP : va_P G vwCl ((a, .inr (4, .int t :: fs)) :: ws) H) : PreV s H RX4 a (FP G k H.size a t fs (.ref a :: As)) As :=
  ⟨fun _ U _ _ q => ⟨q.1, q.2.1, q.2.2.1, va_K.moved (u := U) (Vm.Alike.refl U.vm) q.2.2.2⟩, va_recv hK hP (ci := 4) (q0 := 0) rfl rfl, fun U hU hW => ⟨rfl, by rw [hU], by rw [hU]; exact hP.hd, va_K.moved hW.alike hK⟩⟩
section MRows
variable {p : Program} {l : Launch} {e : Env} {R : Room} {s : State} {m : MethodId} {args : Array Value} {below : List Frame} {meth : Method} {c : Code} {H : Heap} {locs : List Loc} {cells slots : Nat} {Q : State → Prop}
variable {A : Nat → Prop} {pc : Nat} {ls : Array Slot} {st0 rest : List Value}
theorem mf_call {G : va_G} {a : Nat} {av : Array Value} {K : Int32} {fs : List Value} {el : va_E} {ws : va_W} (hr : va_Run p l e R s m args below meth c H locs cells slots 0 0 (F0 m pc ls st0) rest (va_Qi (fun (r : Int32) (_ : Unit) => r = 0) (fun _ t => va_P G vwCl [(a, .inr (4, .int K :: fs))] t.heap) (va_A [(a, el)] H.size) av) (va_A [(a, el)] H.size))
    (hS : va_S A s.heap H locs) (hD : va_D A ws) (he : ws[0]? = some (a, el)) (hA : ∀ q, s.heap.size ≤ q → A q)
    (kk : ∀ (H1 : Heap) (locs1 : List Loc), va_P G vwCl [(a, .inr (4, .int K :: fs))] H1 → va_S A s.heap H1 locs1 → W p l e R s m args below meth c H1 locs1 cells slots Q (F0 m (pc + 3) ls (.int 0 :: rest))) : W p l e R s m args below meth c H locs cells slots Q (F0 m pc ls st0) := by
  have hF : ∀ q, va_A [(a, el)] H.size q → A q := fun q h => by
    rcases h with ⟨i, e', h⟩ | h
    · have h1 : i < 1 := (List.getElem?_eq_some_iff.mp h).1
      rw [show i = 0 by omega] at h
      have h2 : (a, el) = (q, e') := Option.some.inj h
      have h3 : a = q := congrArg Prod.fst h2
      rw [← h3]
      exact hD.2 0 _ he
    · exact hA q (Nat.le_trans hS.1 h)
  refine va_calli hr hS (fun q _ h => hF q h) hF (fun r u t H1 locs1 ht hvm hp hB h1 h2 hS1 => ?_)
  subst hp
  rw [ht] at hB
  exact kk H1 locs1 hB hS1
end MRows
theorem n_15 {j : Nat} (h : j < 16) : nI j ≤ 15 := nI_le (a := j) (b := 15) (by omega) (by decide)
theorem n_4095 {j : Nat} (h : j < 4096) : nI j ≤ 4095 := nI_le (a := j) (b := 4095) (by omega) (by decide)
theorem n_w2 {p : Int32} (h0 : ¬ p = 0) (h1 : ¬ p = 1) : p < 0 ∨ nI 2 ≤ p := by
  rcases pk_ix p (n := 2) (by decide) with h | h | ⟨j, hj, rfl⟩
  · exact Or.inl h
  · exact Or.inr h
  · rcases (show j = 0 ∨ j = 1 by omega) with rfl | rfl
    · exact absurd rfl h0
    · exact absurd rfl h1
set_option maxHeartbeats 4000000 in
set_option maxRecDepth 100000 in
/-- within t -/
theorem m_within_t (l : Launch) (v lo hi : Int32) (h1 : ¬ v < lo) (h2 : v ≤ hi) : Met l yX4_within wsX4_within (rz0) (va_Pc [.int v, .int lo, .int hi] (fun _ => True)) (QcRead 1) 0 0 (fun _ => False) := by
  refine Met.ofW (cc := cX4_within) (maxL := 3) (ret := (some .boolean)) (by decide) rfl ?_
  intro p e s m args below meth c s₁ B hml hv
  obtain ⟨rfl, -⟩ := hv
  have hx := B.exec
  have hb := B.bytes
  have hr := B.returns
  have hts := atoms_spec (ws := wsX4_within) B.pre
  have hown : s.vm.findClass RX4 = some m.cls := findClass_of_methodNamed B.named
  have hlocks := B.notSynchronized
  have hl := lv_entry ([.int v, .int lo, .int hi]) (n := 3) (Nat.le_of_ble_eq_true rfl)
  rw [lg_entry_eq]
  generalize (lg_sl ([.int v, .int lo, .int hi]) ++ List.replicate (3 - (lg_sl ([.int v, .int lo, .int hi])).length) Slot.unset).toArray = ls at hl ⊢
  have hl : lv_has ls 3 [(0, .int v), (1, .int lo), (2, .int hi)] := hl
  refine lv_iload_n hx hb dX4_within_0 rfl (lv_at hl 0 rfl) ?_
  refine lv_iload_n hx hb dX4_within_1 rfl (lv_at hl 1 rfl) ?_
  refine lv_icmp_lt (tgt := 14) hx hb dX4_within_2 (by decide) (fun c9 => absurd c9 h1) (fun _ => ?_)
  refine lv_iload_n hx hb dX4_within_5 rfl (lv_at hl 0 rfl) ?_
  refine lv_iload_n hx hb dX4_within_6 rfl (lv_at hl 2 rfl) ?_
  refine lv_icmp_gt (tgt := 14) hx hb dX4_within_7 (by decide) (fun c9 => absurd c9 (Int32.not_lt.mpr h2)) (fun _ => ?_)
  refine lv_iconst (v := 1) hx hb dX4_within_10 (by decide) ?_
  refine lv_goto (tgt := 15) hx hb dX4_within_11 (by decide) ?_
  exact W.zret (ty := .boolean) (v := 1) hx hb hr rfl (fun t ht hW => ⟨rfl, ht⟩) (fun q h => by cases h) dX4_within_15
set_option maxHeartbeats 4000000 in
set_option maxRecDepth 100000 in
/-- within lo -/
theorem m_within_lo (l : Launch) (v lo hi : Int32) (h1 : v < lo) : Met l yX4_within wsX4_within (rz0) (va_Pc [.int v, .int lo, .int hi] (fun _ => True)) (QcRead 0) 0 0 (fun _ => False) := by
  refine Met.ofW (cc := cX4_within) (maxL := 3) (ret := (some .boolean)) (by decide) rfl ?_
  intro p e s m args below meth c s₁ B hml hv
  obtain ⟨rfl, -⟩ := hv
  have hx := B.exec
  have hb := B.bytes
  have hr := B.returns
  have hts := atoms_spec (ws := wsX4_within) B.pre
  have hown : s.vm.findClass RX4 = some m.cls := findClass_of_methodNamed B.named
  have hlocks := B.notSynchronized
  have hl := lv_entry ([.int v, .int lo, .int hi]) (n := 3) (Nat.le_of_ble_eq_true rfl)
  rw [lg_entry_eq]
  generalize (lg_sl ([.int v, .int lo, .int hi]) ++ List.replicate (3 - (lg_sl ([.int v, .int lo, .int hi])).length) Slot.unset).toArray = ls at hl ⊢
  have hl : lv_has ls 3 [(0, .int v), (1, .int lo), (2, .int hi)] := hl
  refine lv_iload_n hx hb dX4_within_0 rfl (lv_at hl 0 rfl) ?_
  refine lv_iload_n hx hb dX4_within_1 rfl (lv_at hl 1 rfl) ?_
  refine lv_icmp_lt (tgt := 14) hx hb dX4_within_2 (by decide) (fun _ => ?_) (fun c9 => absurd h1 c9)
  refine lv_iconst (v := 0) hx hb dX4_within_14 (by decide) ?_
  exact W.zret (ty := .boolean) (v := 0) hx hb hr rfl (fun t ht hW => ⟨rfl, ht⟩) (fun q h => by cases h) dX4_within_15
set_option maxHeartbeats 4000000 in
set_option maxRecDepth 100000 in
/-- within hi -/
theorem m_within_hi (l : Launch) (v lo hi : Int32) (h1 : ¬ v < lo) (h2 : hi < v) : Met l yX4_within wsX4_within (rz0) (va_Pc [.int v, .int lo, .int hi] (fun _ => True)) (QcRead 0) 0 0 (fun _ => False) := by
  refine Met.ofW (cc := cX4_within) (maxL := 3) (ret := (some .boolean)) (by decide) rfl ?_
  intro p e s m args below meth c s₁ B hml hv
  obtain ⟨rfl, -⟩ := hv
  have hx := B.exec
  have hb := B.bytes
  have hr := B.returns
  have hts := atoms_spec (ws := wsX4_within) B.pre
  have hown : s.vm.findClass RX4 = some m.cls := findClass_of_methodNamed B.named
  have hlocks := B.notSynchronized
  have hl := lv_entry ([.int v, .int lo, .int hi]) (n := 3) (Nat.le_of_ble_eq_true rfl)
  rw [lg_entry_eq]
  generalize (lg_sl ([.int v, .int lo, .int hi]) ++ List.replicate (3 - (lg_sl ([.int v, .int lo, .int hi])).length) Slot.unset).toArray = ls at hl ⊢
  have hl : lv_has ls 3 [(0, .int v), (1, .int lo), (2, .int hi)] := hl
  refine lv_iload_n hx hb dX4_within_0 rfl (lv_at hl 0 rfl) ?_
  refine lv_iload_n hx hb dX4_within_1 rfl (lv_at hl 1 rfl) ?_
  refine lv_icmp_lt (tgt := 14) hx hb dX4_within_2 (by decide) (fun c9 => absurd c9 h1) (fun _ => ?_)
  refine lv_iload_n hx hb dX4_within_5 rfl (lv_at hl 0 rfl) ?_
  refine lv_iload_n hx hb dX4_within_6 rfl (lv_at hl 2 rfl) ?_
  refine lv_icmp_gt (tgt := 14) hx hb dX4_within_7 (by decide) (fun _ => ?_) (fun c9 => absurd h2 c9)
  refine lv_iconst (v := 0) hx hb dX4_within_14 (by decide) ?_
  exact W.zret (ty := .boolean) (v := 0) hx hb hr rfl (fun t ht hW => ⟨rfl, ht⟩) (fun q h => by cases h) dX4_within_15
set_option maxHeartbeats 4000000 in
set_option maxRecDepth 100000 in
/-- a node -/
theorem m_isNode_t (l : Launch) (j : Nat) (hj : j < 4) : Met l yX4_isNode wsX4_isNode (rz1) (va_Pc [.int (nI j)] (fun _ => True)) (QcRead 1) 0 0 (fun _ => False) := by
  refine Met.ofW (cc := cX4_isNode) (maxL := 1) (ret := (some .boolean)) (by decide) rfl ?_
  intro p e s m args below meth c s₁ B hml hv
  obtain ⟨rfl, -⟩ := hv
  have hx := B.exec
  have hb := B.bytes
  have hr := B.returns
  have hts := atoms_spec (ws := wsX4_isNode) B.pre
  have hown : s.vm.findClass RX4 = some m.cls := findClass_of_methodNamed B.named
  have hlocks := B.notSynchronized
  have hl := lv_entry ([.int (nI j)]) (n := 1) (Nat.le_of_ble_eq_true rfl)
  rw [lg_entry_eq]
  generalize (lg_sl ([.int (nI j)]) ++ List.replicate (1 - (lg_sl ([.int (nI j)])).length) Slot.unset).toArray = ls at hl ⊢
  have hl : lv_has ls 1 [(0, .int (nI j))] := hl
  refine lv_iload_n hx hb dX4_isNode_0 rfl (lv_at hl 0 rfl) ?_
  refine lv_iconst (v := 0) hx hb dX4_isNode_1 (by decide) ?_
  refine lv_iconst (v := 3) hx hb dX4_isNode_2 (by decide) ?_
  refine br_call (W.runS (As := [.int (nI j), .int 0, .int 3]) (rest := []) ⟨hx, hb, hml, hown, hts⟩ (m_within_t l (nI j) 0 3 (n_0 hj) (n_3 hj)) (va_cwS 3 hts gX4_isNode_X4_within rfl rfl rfl (by decide +kernel) ⟨(Nat.le_of_ble_eq_true rfl), (Nat.le_of_ble_eq_true rfl)⟩) (P0.preS) rfl rfl hl.1 rfl (lv_room (Nat.le_of_ble_eq_true rfl)) dX4_isNode_3 ⟨(Nat.le_of_ble_eq_true rfl), (Nat.le_of_ble_eq_true rfl)⟩) ?_
  exact W.zret (ty := .boolean) (v := 1) hx hb hr rfl (fun t ht hW => ⟨rfl, ht⟩) (fun q h => by cases h) dX4_isNode_6
set_option maxHeartbeats 4000000 in
set_option maxRecDepth 100000 in
/-- no node -/
theorem m_isNode_f (l : Launch) (p0 : Int32) (h : bdN p0) : Met l yX4_isNode wsX4_isNode (rz1) (va_Pc [.int p0] (fun _ => True)) (QcRead 0) 0 0 (fun _ => False) := by
  refine Met.ofW (cc := cX4_isNode) (maxL := 1) (ret := (some .boolean)) (by decide) rfl ?_
  intro p e s m args below meth c s₁ B hml hv
  obtain ⟨rfl, -⟩ := hv
  have hx := B.exec
  have hb := B.bytes
  have hr := B.returns
  have hts := atoms_spec (ws := wsX4_isNode) B.pre
  have hown : s.vm.findClass RX4 = some m.cls := findClass_of_methodNamed B.named
  have hlocks := B.notSynchronized
  have hl := lv_entry ([.int p0]) (n := 1) (Nat.le_of_ble_eq_true rfl)
  rw [lg_entry_eq]
  generalize (lg_sl ([.int p0]) ++ List.replicate (1 - (lg_sl ([.int p0])).length) Slot.unset).toArray = ls at hl ⊢
  have hl : lv_has ls 1 [(0, .int p0)] := hl
  rcases h with h | h
  · refine lv_iload_n hx hb dX4_isNode_0 rfl (lv_at hl 0 rfl) ?_
    refine lv_iconst (v := 0) hx hb dX4_isNode_1 (by decide) ?_
    refine lv_iconst (v := 3) hx hb dX4_isNode_2 (by decide) ?_
    refine br_call (W.runS (As := [.int p0, .int 0, .int 3]) (rest := []) ⟨hx, hb, hml, hown, hts⟩ (m_within_lo l p0 0 3 h) (va_cwS 3 hts gX4_isNode_X4_within rfl rfl rfl (by decide +kernel) ⟨(Nat.le_of_ble_eq_true rfl), (Nat.le_of_ble_eq_true rfl)⟩) (P0.preS) rfl rfl hl.1 rfl (lv_room (Nat.le_of_ble_eq_true rfl)) dX4_isNode_3 ⟨(Nat.le_of_ble_eq_true rfl), (Nat.le_of_ble_eq_true rfl)⟩) ?_
    exact W.zret (ty := .boolean) (v := 0) hx hb hr rfl (fun t ht hW => ⟨rfl, ht⟩) (fun q h => by cases h) dX4_isNode_6
  · refine lv_iload_n hx hb dX4_isNode_0 rfl (lv_at hl 0 rfl) ?_
    refine lv_iconst (v := 0) hx hb dX4_isNode_1 (by decide) ?_
    refine lv_iconst (v := 3) hx hb dX4_isNode_2 (by decide) ?_
    refine br_call (W.runS (As := [.int p0, .int 0, .int 3]) (rest := []) ⟨hx, hb, hml, hown, hts⟩ (m_within_hi l p0 0 3 (n_ge0 (n := 4) h (by decide)) (n_up (n := 3) (by decide) h)) (va_cwS 3 hts gX4_isNode_X4_within rfl rfl rfl (by decide +kernel) ⟨(Nat.le_of_ble_eq_true rfl), (Nat.le_of_ble_eq_true rfl)⟩) (P0.preS) rfl rfl hl.1 rfl (lv_room (Nat.le_of_ble_eq_true rfl)) dX4_isNode_3 ⟨(Nat.le_of_ble_eq_true rfl), (Nat.le_of_ble_eq_true rfl)⟩) ?_
    exact W.zret (ty := .boolean) (v := 0) hx hb hr rfl (fun t ht hW => ⟨rfl, ht⟩) (fun q h => by cases h) dX4_isNode_6
set_option maxHeartbeats 4000000 in
set_option maxRecDepth 100000 in
/-- a place -/
theorem m_at (l : Launch) (j i : Nat) : Met l yX4_at wsX4_at (rz0) (va_Pc [.int (nI j), .int (nI i)] (fun _ => True)) (QcRead (nI (4096 * j + i))) 0 0 (fun _ => False) := by
  refine Met.ofW (cc := cX4_at) (maxL := 2) (ret := (some .int)) (by decide) rfl ?_
  intro p e s m args below meth c s₁ B hml hv
  obtain ⟨rfl, -⟩ := hv
  have hx := B.exec
  have hb := B.bytes
  have hr := B.returns
  have hts := atoms_spec (ws := wsX4_at) B.pre
  have hown : s.vm.findClass RX4 = some m.cls := findClass_of_methodNamed B.named
  have hlocks := B.notSynchronized
  have hl := lv_entry ([.int (nI j), .int (nI i)]) (n := 2) (Nat.le_of_ble_eq_true rfl)
  rw [lg_entry_eq]
  generalize (lg_sl ([.int (nI j), .int (nI i)]) ++ List.replicate (2 - (lg_sl ([.int (nI j), .int (nI i)])).length) Slot.unset).toArray = ls at hl ⊢
  have hl : lv_has ls 2 [(0, .int (nI j)), (1, .int (nI i))] := hl
  refine lv_sipush (v := 4096) hx hb dX4_at_0 (by decide) ?_
  refine lv_iload_n hx hb dX4_at_3 rfl (lv_at hl 0 rfl) ?_
  refine lv_imul hx hb dX4_at_4 ?_
  refine lv_iload_n hx hb dX4_at_5 rfl (lv_at hl 1 rfl) ?_
  refine lv_iadd hx hb dX4_at_6 ?_
  exact W.iret (v := 4096 * nI j + nI i) hx hb hr (fun t ht hW => ⟨by rw [n_at], ht⟩) (fun q h => by cases h) dX4_at_7
set_option maxHeartbeats 4000000 in
set_option maxRecDepth 100000 in
/-- 'thrown' is set -/
theorem c_fail (l : Launch) (G : va_G) (k : Nat → ClassId) (sz a : Nat) (t0 : Int32) (fs : List Value) (K : Int32) : Met l yX4_fail wsX4_fail (rz0) (FP G k sz a t0 fs [.ref a, .int K]) (va_Qi (fun (r : Int32) (_ : Unit) => r = 0) (fun _ t => va_P G vwCl [(a, .inr (4, .int K :: fs))] t.heap) (va_A [(a, .inr (4, .int t0 :: fs))] sz)) 0 0 (va_A [(a, .inr (4, .int t0 :: fs))] sz) := by
  refine Met.ofW (cc := cX4_fail) (maxL := 2) (ret := (some .int)) (by decide) rfl ?_
  intro p e s m args below meth c s₁ B hml hv
  obtain ⟨rfl, hsz, hP, hK⟩ := hv
  subst hsz
  have hD := (va_D.one (a := a) (e := .inr (4, .int t0 :: fs))).self (sz := s.heap.size)
  generalize hAe : va_A [(a, .inr (4, .int t0 :: fs))] s.heap.size = A at hD ⊢
  have hA : ∀ q : Nat, s.heap.size ≤ q → A q := fun q h => by rw [← hAe]; exact Or.inr h
  have hS : va_S A s.heap s.heap [] := va_S.rf
  have hx := B.exec
  have hb := B.bytes
  have hr := B.returns
  have hts := atoms_spec (ws := wsX4_fail) B.pre
  have hown : s.vm.findClass RX4 = some m.cls := findClass_of_methodNamed B.named
  have hlocks := B.notSynchronized
  have hl := lv_entry ([.ref a, .int K]) (n := 2) (Nat.le_of_ble_eq_true rfl)
  rw [lg_entry_eq]
  generalize (lg_sl ([.ref a, .int K]) ++ List.replicate (2 - (lg_sl ([.ref a, .int K])).length) Slot.unset).toArray = ls at hl ⊢
  have hl : lv_has ls 2 [(0, .ref a), (1, .int K)] := hl
  refine lv_aload_n hx hb dX4_fail_0 rfl (lv_at hl 0 rfl) ?_
  refine lv_iload_n hx hb dX4_fail_1 rfl (lv_at hl 1 rfl) ?_
  refine va_put (D := G) (ci := 4) (v := .int K) (ty := .int) (C := RX4) (T := TX4) (N := 21) hx hb hts (fun _ h => List.mem_cons_of_mem _ (List.mem_append_right _ h)) tyX4 tyX4_ok nmX4 hown hK hP hD hS 0 rfl rfl 0 (by decide) (hts (.fieldLink RX4 65 "ShippedLogModel" "thrown" "I") (by decide +kernel)) (fun _ h9 => h9) rfl (by decide +kernel) rfl rfl (Nat.succ_pos _) dX4_fail_2 (fun H locs hP hD hS => ?_)
  have hP : va_P G vwCl [(a, .inr (4, .int K :: fs))] H := hP
  have hD : va_D A [(a, .inr (4, .int K :: fs))] := hD
  refine lv_iconst (v := 0) hx hb dX4_fail_5 (by decide) ?_
  exact W.iret (v := 0) hx hb hr (fun t ht hW => ⟨⟨0, (), rfl, rfl, (by show va_P G vwCl _ t.heap; rw [ht]; exact hP)⟩, hS.F ht⟩) hS.2.2 dX4_fail_6
set_option maxHeartbeats 4000000 in
set_option maxRecDepth 100000 in
/-- no primary -/
theorem m_isPrimary_n (l : Launch) (G : va_G) (k : Nat → ClassId) (q : Nat → Nat) (g7 g8 : Nat → Int32) (j : Nat) (hj : j < 4) : Met l yX4_isPrimary wsX4_isPrimary (rz0) (PQ G k (wM q k 0 (fun _ => 0) g7 g8) [.ref (q 0), .int (nI j)]) (QcRead 0) 0 0 (fun _ => False) := by
  refine Met.ofW (cc := cX4_isPrimary) (maxL := 2) (ret := (some .boolean)) (by decide) rfl ?_
  intro p e s m args below meth c s₁ B hml hv
  obtain ⟨rfl, hP, hK⟩ := hv
  have hx := B.exec
  have hb := B.bytes
  have hr := B.returns
  have hts := atoms_spec (ws := wsX4_isPrimary) B.pre
  have hown : s.vm.findClass RX4 = some m.cls := findClass_of_methodNamed B.named
  have hlocks := B.notSynchronized
  have hl := lv_entry ([.ref (q 0), .int (nI j)]) (n := 2) (Nat.le_of_ble_eq_true rfl)
  rw [lg_entry_eq]
  generalize (lg_sl ([.ref (q 0), .int (nI j)]) ++ List.replicate (2 - (lg_sl ([.ref (q 0), .int (nI j)])).length) Slot.unset).toArray = ls at hl ⊢
  have hl : lv_has ls 2 [(0, .ref (q 0)), (1, .int (nI j))] := hl
  refine lv_aload_n hx hb dX4_isPrimary_0 rfl (lv_at hl 0 rfl) ?_
  refine va_get (D := G) (ci := 4) (v := .ref (q 3)) (C := RX4) (T := TX4) (N := 21) hx hb hts (fun _ h => List.mem_cons_of_mem _ (List.mem_append_right _ h)) hown hK hP 0 rfl rfl 4 (by decide) (hts (.fieldLink RX4 16 "ShippedLogModel" "role" "[I") (by decide +kernel)) (fun _ h9 => h9) rfl dX4_isPrimary_1 ?_
  refine lv_iload_n hx hb dX4_isPrimary_4 rfl (lv_at hl 1 rfl) ?_
  refine va_iald hx hb hK hP 3 3 rfl rfl (vp_in_nI hj (by decide)) dX4_isPrimary_5 ?_
  refine lv_iconst (v := 2) hx hb dX4_isPrimary_6 (by decide) ?_
  refine lv_icmp_ne (tgt := 14) hx hb dX4_isPrimary_7 (by decide) (fun _ => ?_) (fun c9 => absurd c9 (by decide : ¬ (0 : Int32) = 2))
  refine lv_iconst (v := 0) hx hb dX4_isPrimary_14 (by decide) ?_
  exact W.zret (ty := .boolean) (v := 0) hx hb hr rfl (fun t ht hW => ⟨rfl, ht⟩) (fun q h => by cases h) dX4_isPrimary_15
set_option maxHeartbeats 4000000 in
set_option maxRecDepth 100000 in
/-- not linked -/
theorem m_isLink_n (l : Launch) (G : va_G) (k : Nat → ClassId) (q : Nat → Nat) (g7 g8 : Nat → Int32) (j : Nat) (hj : j < 4) (p1 : Int32) : Met l yX4_isLink wsX4_isLink (rz0) (PQ G k (wM q k 0 (fun _ => 0) g7 g8) [.ref (q 0), .int (nI j), .int p1]) (QcRead 0) 0 0 (fun _ => False) := by
  refine Met.ofW (cc := cX4_isLink) (maxL := 3) (ret := (some .boolean)) (by decide) rfl ?_
  intro p e s m args below meth c s₁ B hml hv
  obtain ⟨rfl, hP, hK⟩ := hv
  have hx := B.exec
  have hb := B.bytes
  have hr := B.returns
  have hts := atoms_spec (ws := wsX4_isLink) B.pre
  have hown : s.vm.findClass RX4 = some m.cls := findClass_of_methodNamed B.named
  have hlocks := B.notSynchronized
  have hl := lv_entry ([.ref (q 0), .int (nI j), .int p1]) (n := 3) (Nat.le_of_ble_eq_true rfl)
  rw [lg_entry_eq]
  generalize (lg_sl ([.ref (q 0), .int (nI j), .int p1]) ++ List.replicate (3 - (lg_sl ([.ref (q 0), .int (nI j), .int p1])).length) Slot.unset).toArray = ls at hl ⊢
  have hl : lv_has ls 3 [(0, .ref (q 0)), (1, .int (nI j)), (2, .int p1)] := hl
  refine lv_aload_n hx hb dX4_isLink_0 rfl (lv_at hl 0 rfl) ?_
  refine va_get (D := G) (ci := 4) (v := .ref (q 3)) (C := RX4) (T := TX4) (N := 21) hx hb hts (fun _ h => List.mem_cons_of_mem _ (List.mem_append_right _ h)) hown hK hP 0 rfl rfl 4 (by decide) (hts (.fieldLink RX4 16 "ShippedLogModel" "role" "[I") (by decide +kernel)) (fun _ h9 => h9) rfl dX4_isLink_1 ?_
  refine lv_iload_n hx hb dX4_isLink_4 rfl (lv_at hl 1 rfl) ?_
  refine va_iald hx hb hK hP 3 3 rfl rfl (vp_in_nI hj (by decide)) dX4_isLink_5 ?_
  refine lv_iconst (v := 2) hx hb dX4_isLink_6 (by decide) ?_
  refine lv_icmp_ne (tgt := 23) hx hb dX4_isLink_7 (by decide) (fun _ => ?_) (fun c9 => absurd c9 (by decide : ¬ (0 : Int32) = 2))
  refine lv_iconst (v := 0) hx hb dX4_isLink_23 (by decide) ?_
  exact W.zret (ty := .boolean) (v := 0) hx hb hr rfl (fun t ht hW => ⟨rfl, ht⟩) (fun q h => by cases h) dX4_isLink_24
set_option maxHeartbeats 4000000 in
set_option maxRecDepth 100000 in
/-- the reference: up, bad -/
theorem cM_up_bad (l : Launch) (G : va_G) (k : Nat → ClassId) (sz : Nat) (q : Nat → Nat) (g7 g8 : Nat → Int32) (p0 : Int32) (h : bdN p0) : Met l yX4_up wsX4_up (rzk 2 0 0) (MP G k sz q g7 g8 [.ref (q 0), .int p0]) (MQl G q 1 0 (va_A (wM q k 0 (fun _ => 0) g7 g8) sz)) 0 0 (va_A (wM q k 0 (fun _ => 0) g7 g8) sz) := by
  refine Met.ofW (cc := cX4_up) (maxL := 3) (ret := (some .int)) (by decide) rfl ?_
  intro p e s m args below meth c s₁ B hml hv
  obtain ⟨rfl, hsz, hP, hK, hD0⟩ := hv
  subst hsz
  have hD := hD0.self (sz := s.heap.size)
  generalize hAe : va_A (wM q k 0 (fun _ => 0) g7 g8) s.heap.size = A at hD ⊢
  have hA : ∀ q : Nat, s.heap.size ≤ q → A q := fun q h => by rw [← hAe]; exact Or.inr h
  have hS : va_S A s.heap s.heap [] := va_S.rf
  have hx := B.exec
  have hb := B.bytes
  have hr := B.returns
  have hts := atoms_spec (ws := wsX4_up) B.pre
  have hown : s.vm.findClass RX4 = some m.cls := findClass_of_methodNamed B.named
  have hlocks := B.notSynchronized
  have hl := lv_entry ([.ref (q 0), .int p0]) (n := 3) (Nat.le_of_ble_eq_true rfl)
  rw [lg_entry_eq]
  generalize (lg_sl ([.ref (q 0), .int p0]) ++ List.replicate (3 - (lg_sl ([.ref (q 0), .int p0])).length) Slot.unset).toArray = ls at hl ⊢
  have hl : lv_has ls 3 [(0, .ref (q 0)), (1, .int p0)] := hl
  refine lv_aload_n hx hb dX4_up_0 rfl (lv_at hl 0 rfl) ?_
  refine lv_iconst (v := 0) hx hb dX4_up_1 (by decide) ?_
  refine va_put (D := G) (ci := 4) (v := .int 0) (ty := .int) (C := RX4) (T := TX4) (N := 21) hx hb hts (fun _ h => List.mem_cons_of_mem _ (List.mem_append_right _ h)) tyX4 tyX4_ok nmX4 hown hK hP hD hS 0 rfl rfl 0 (by decide) (hts (.fieldLink RX4 65 "ShippedLogModel" "thrown" "I") (by decide +kernel)) (fun _ h9 => h9) rfl (by decide +kernel) rfl rfl (Nat.le_of_ble_eq_true rfl) dX4_up_2 (fun H locs hP hD hS => ?_)
  have hP : va_P G vwCl (wM q k 0 (fun _ => 0) g7 g8) H := hP
  have hD : va_D A (wM q k 0 (fun _ => 0) g7 g8) := hD
  refine lv_iload_n hx hb dX4_up_5 rfl (lv_at hl 1 rfl) ?_
  refine br_call (W.runS (As := [.int p0]) (rest := []) ⟨hx, hb, hml, hown, hts⟩ (m_isNode_f l p0 h) (va_cwS 1 hts gX4_up_X4_isNode rfl rfl rfl (by decide +kernel) ⟨(Nat.le_of_ble_eq_true rfl), (Nat.le_of_ble_eq_true rfl)⟩) (P0.preS) rfl rfl hl.1 rfl (lv_room (Nat.le_of_ble_eq_true rfl)) dX4_up_6 ⟨(Nat.le_of_ble_eq_true rfl), (Nat.le_of_ble_eq_true rfl)⟩) ?_
  refine lv_if_ne (tgt := 18) hx hb dX4_up_9 (by decide) (fun c9 => absurd rfl c9) (fun _ => ?_)
  refine lv_aload_n hx hb dX4_up_12 rfl (lv_at hl 0 rfl) ?_
  refine lv_iconst (v := 1) hx hb dX4_up_13 (by decide) ?_
  refine mf_call (va_runV (As := [.int 1]) (rest := []) ⟨hx, hb, hml, hown, hts⟩ (c_fail l G k _ (q 0) 0 _ 1) (cwV 1 hts gX4_up_X4_fail rfl rfl rfl (by decide +kernel) ⟨(Nat.le_of_ble_eq_true rfl), (Nat.le_of_ble_eq_true rfl)⟩) (mf_pre hK hP) rfl rfl hl.1 rfl (lv_room (Nat.le_of_ble_eq_true rfl)) dX4_up_14 ⟨(Nat.le_of_ble_eq_true rfl), (Nat.le_of_ble_eq_true rfl)⟩) hS hD rfl hA (fun H locs hP hS => ?_)
  exact W.iret (v := 0) hx hb hr (fun t ht hW => ⟨⟨0, (), rfl, fun h => absurd h (by decide), _, by rw [ht]; exact hP⟩, hS.F ht⟩) hS.2.2 dX4_up_17
set_option maxHeartbeats 4000000 in
set_option maxRecDepth 100000 in
/-- the reference: promote, bad -/
theorem cM_promote_bad (l : Launch) (G : va_G) (k : Nat → ClassId) (sz : Nat) (q : Nat → Nat) (g7 g8 : Nat → Int32) (p0 : Int32) (h : bdN p0) : Met l yX4_promote wsX4_promote (rzk 2 0 0) (MP G k sz q g7 g8 [.ref (q 0), .int p0]) (MQl G q 1 0 (va_A (wM q k 0 (fun _ => 0) g7 g8) sz)) 0 0 (va_A (wM q k 0 (fun _ => 0) g7 g8) sz) := by
  refine Met.ofW (cc := cX4_promote) (maxL := 2) (ret := (some .int)) (by decide) rfl ?_
  intro p e s m args below meth c s₁ B hml hv
  obtain ⟨rfl, hsz, hP, hK, hD0⟩ := hv
  subst hsz
  have hD := hD0.self (sz := s.heap.size)
  generalize hAe : va_A (wM q k 0 (fun _ => 0) g7 g8) s.heap.size = A at hD ⊢
  have hA : ∀ q : Nat, s.heap.size ≤ q → A q := fun q h => by rw [← hAe]; exact Or.inr h
  have hS : va_S A s.heap s.heap [] := va_S.rf
  have hx := B.exec
  have hb := B.bytes
  have hr := B.returns
  have hts := atoms_spec (ws := wsX4_promote) B.pre
  have hown : s.vm.findClass RX4 = some m.cls := findClass_of_methodNamed B.named
  have hlocks := B.notSynchronized
  have hl := lv_entry ([.ref (q 0), .int p0]) (n := 2) (Nat.le_of_ble_eq_true rfl)
  rw [lg_entry_eq]
  generalize (lg_sl ([.ref (q 0), .int p0]) ++ List.replicate (2 - (lg_sl ([.ref (q 0), .int p0])).length) Slot.unset).toArray = ls at hl ⊢
  have hl : lv_has ls 2 [(0, .ref (q 0)), (1, .int p0)] := hl
  refine lv_aload_n hx hb dX4_promote_0 rfl (lv_at hl 0 rfl) ?_
  refine lv_iconst (v := 0) hx hb dX4_promote_1 (by decide) ?_
  refine va_put (D := G) (ci := 4) (v := .int 0) (ty := .int) (C := RX4) (T := TX4) (N := 21) hx hb hts (fun _ h => List.mem_cons_of_mem _ (List.mem_append_right _ h)) tyX4 tyX4_ok nmX4 hown hK hP hD hS 0 rfl rfl 0 (by decide) (hts (.fieldLink RX4 65 "ShippedLogModel" "thrown" "I") (by decide +kernel)) (fun _ h9 => h9) rfl (by decide +kernel) rfl rfl (Nat.le_of_ble_eq_true rfl) dX4_promote_2 (fun H locs hP hD hS => ?_)
  have hP : va_P G vwCl (wM q k 0 (fun _ => 0) g7 g8) H := hP
  have hD : va_D A (wM q k 0 (fun _ => 0) g7 g8) := hD
  refine lv_iload_n hx hb dX4_promote_5 rfl (lv_at hl 1 rfl) ?_
  refine br_call (W.runS (As := [.int p0]) (rest := []) ⟨hx, hb, hml, hown, hts⟩ (m_isNode_f l p0 h) (va_cwS 1 hts gX4_promote_X4_isNode rfl rfl rfl (by decide +kernel) ⟨(Nat.le_of_ble_eq_true rfl), (Nat.le_of_ble_eq_true rfl)⟩) (P0.preS) rfl rfl hl.1 rfl (lv_room (Nat.le_of_ble_eq_true rfl)) dX4_promote_6 ⟨(Nat.le_of_ble_eq_true rfl), (Nat.le_of_ble_eq_true rfl)⟩) ?_
  refine lv_if_ne (tgt := 18) hx hb dX4_promote_9 (by decide) (fun c9 => absurd rfl c9) (fun _ => ?_)
  refine lv_aload_n hx hb dX4_promote_12 rfl (lv_at hl 0 rfl) ?_
  refine lv_iconst (v := 1) hx hb dX4_promote_13 (by decide) ?_
  refine mf_call (va_runV (As := [.int 1]) (rest := []) ⟨hx, hb, hml, hown, hts⟩ (c_fail l G k _ (q 0) 0 _ 1) (cwV 1 hts gX4_promote_X4_fail rfl rfl rfl (by decide +kernel) ⟨(Nat.le_of_ble_eq_true rfl), (Nat.le_of_ble_eq_true rfl)⟩) (mf_pre hK hP) rfl rfl hl.1 rfl (lv_room (Nat.le_of_ble_eq_true rfl)) dX4_promote_14 ⟨(Nat.le_of_ble_eq_true rfl), (Nat.le_of_ble_eq_true rfl)⟩) hS hD rfl hA (fun H locs hP hS => ?_)
  exact W.iret (v := 0) hx hb hr (fun t ht hW => ⟨⟨0, (), rfl, fun h => absurd h (by decide), _, by rw [ht]; exact hP⟩, hS.F ht⟩) hS.2.2 dX4_promote_17
set_option maxHeartbeats 4000000 in
set_option maxRecDepth 100000 in
/-- the reference: commit, bad -/
theorem cM_commit_bad (l : Launch) (G : va_G) (k : Nat → ClassId) (sz : Nat) (q : Nat → Nat) (g7 g8 : Nat → Int32) (p0 : Int32) (h : bdN p0) : Met l yX4_commit wsX4_commit (rzk 2 0 0) (MP G k sz q g7 g8 [.ref (q 0), .int p0]) (MQl G q 1 0 (va_A (wM q k 0 (fun _ => 0) g7 g8) sz)) 0 0 (va_A (wM q k 0 (fun _ => 0) g7 g8) sz) := by
  refine Met.ofW (cc := cX4_commit) (maxL := 2) (ret := (some .boolean)) (by decide) rfl ?_
  intro p e s m args below meth c s₁ B hml hv
  obtain ⟨rfl, hsz, hP, hK, hD0⟩ := hv
  subst hsz
  have hD := hD0.self (sz := s.heap.size)
  generalize hAe : va_A (wM q k 0 (fun _ => 0) g7 g8) s.heap.size = A at hD ⊢
  have hA : ∀ q : Nat, s.heap.size ≤ q → A q := fun q h => by rw [← hAe]; exact Or.inr h
  have hS : va_S A s.heap s.heap [] := va_S.rf
  have hx := B.exec
  have hb := B.bytes
  have hr := B.returns
  have hts := atoms_spec (ws := wsX4_commit) B.pre
  have hown : s.vm.findClass RX4 = some m.cls := findClass_of_methodNamed B.named
  have hlocks := B.notSynchronized
  have hl := lv_entry ([.ref (q 0), .int p0]) (n := 2) (Nat.le_of_ble_eq_true rfl)
  rw [lg_entry_eq]
  generalize (lg_sl ([.ref (q 0), .int p0]) ++ List.replicate (2 - (lg_sl ([.ref (q 0), .int p0])).length) Slot.unset).toArray = ls at hl ⊢
  have hl : lv_has ls 2 [(0, .ref (q 0)), (1, .int p0)] := hl
  refine lv_aload_n hx hb dX4_commit_0 rfl (lv_at hl 0 rfl) ?_
  refine lv_iconst (v := 0) hx hb dX4_commit_1 (by decide) ?_
  refine va_put (D := G) (ci := 4) (v := .int 0) (ty := .int) (C := RX4) (T := TX4) (N := 21) hx hb hts (fun _ h => List.mem_cons_of_mem _ (List.mem_append_right _ h)) tyX4 tyX4_ok nmX4 hown hK hP hD hS 0 rfl rfl 0 (by decide) (hts (.fieldLink RX4 65 "ShippedLogModel" "thrown" "I") (by decide +kernel)) (fun _ h9 => h9) rfl (by decide +kernel) rfl rfl (Nat.le_of_ble_eq_true rfl) dX4_commit_2 (fun H locs hP hD hS => ?_)
  have hP : va_P G vwCl (wM q k 0 (fun _ => 0) g7 g8) H := hP
  have hD : va_D A (wM q k 0 (fun _ => 0) g7 g8) := hD
  refine lv_iload_n hx hb dX4_commit_5 rfl (lv_at hl 1 rfl) ?_
  refine br_call (W.runS (As := [.int p0]) (rest := []) ⟨hx, hb, hml, hown, hts⟩ (m_isNode_f l p0 h) (va_cwS 1 hts gX4_commit_X4_isNode rfl rfl rfl (by decide +kernel) ⟨(Nat.le_of_ble_eq_true rfl), (Nat.le_of_ble_eq_true rfl)⟩) (P0.preS) rfl rfl hl.1 rfl (lv_room (Nat.le_of_ble_eq_true rfl)) dX4_commit_6 ⟨(Nat.le_of_ble_eq_true rfl), (Nat.le_of_ble_eq_true rfl)⟩) ?_
  refine lv_if_ne (tgt := 26) hx hb dX4_commit_9 (by decide) (fun c9 => absurd rfl c9) (fun _ => ?_)
  refine lv_aload_n hx hb dX4_commit_12 rfl (lv_at hl 0 rfl) ?_
  refine lv_iconst (v := 1) hx hb dX4_commit_13 (by decide) ?_
  refine mf_call (va_runV (As := [.int 1]) (rest := []) ⟨hx, hb, hml, hown, hts⟩ (c_fail l G k _ (q 0) 0 _ 1) (cwV 1 hts gX4_commit_X4_fail rfl rfl rfl (by decide +kernel) ⟨(Nat.le_of_ble_eq_true rfl), (Nat.le_of_ble_eq_true rfl)⟩) (mf_pre hK hP) rfl rfl hl.1 rfl (lv_room (Nat.le_of_ble_eq_true rfl)) dX4_commit_14 ⟨(Nat.le_of_ble_eq_true rfl), (Nat.le_of_ble_eq_true rfl)⟩) hS hD rfl hA (fun H locs hP hS => ?_)
  refine lv_if_le (tgt := 24) hx hb dX4_commit_17 (by decide) (fun _ => ?_) (fun c9 => absurd (by decide : (0 : Int32) ≤ 0) c9)
  refine lv_iconst (v := 0) hx hb dX4_commit_24 (by decide) ?_
  exact W.zret (ty := .boolean) (v := 0) hx hb hr rfl (fun t ht hW => ⟨⟨0, (), rfl, fun h => absurd h (by decide), _, by rw [ht]; exact hP⟩, hS.F ht⟩) hS.2.2 dX4_commit_25
set_option maxHeartbeats 4000000 in
set_option maxRecDepth 100000 in
/-- the reference: crash, bad -/
theorem cM_crash_bad (l : Launch) (G : va_G) (k : Nat → ClassId) (sz : Nat) (q : Nat → Nat) (g7 g8 : Nat → Int32) (p0 : Int32) (h : bdN p0) (p1 : Int32) : Met l yX4_crash wsX4_crash (rzk 2 0 0) (MP G k sz q g7 g8 [.ref (q 0), .int p0, .int p1]) (MQl G q 1 0 (va_A (wM q k 0 (fun _ => 0) g7 g8) sz)) 0 0 (va_A (wM q k 0 (fun _ => 0) g7 g8) sz) := by
  refine Met.ofW (cc := cX4_crash) (maxL := 5) (ret := (some .int)) (by decide) rfl ?_
  intro p e s m args below meth c s₁ B hml hv
  obtain ⟨rfl, hsz, hP, hK, hD0⟩ := hv
  subst hsz
  have hD := hD0.self (sz := s.heap.size)
  generalize hAe : va_A (wM q k 0 (fun _ => 0) g7 g8) s.heap.size = A at hD ⊢
  have hA : ∀ q : Nat, s.heap.size ≤ q → A q := fun q h => by rw [← hAe]; exact Or.inr h
  have hS : va_S A s.heap s.heap [] := va_S.rf
  have hx := B.exec
  have hb := B.bytes
  have hr := B.returns
  have hts := atoms_spec (ws := wsX4_crash) B.pre
  have hown : s.vm.findClass RX4 = some m.cls := findClass_of_methodNamed B.named
  have hlocks := B.notSynchronized
  have hl := lv_entry ([.ref (q 0), .int p0, .int p1]) (n := 5) (Nat.le_of_ble_eq_true rfl)
  rw [lg_entry_eq]
  generalize (lg_sl ([.ref (q 0), .int p0, .int p1]) ++ List.replicate (5 - (lg_sl ([.ref (q 0), .int p0, .int p1])).length) Slot.unset).toArray = ls at hl ⊢
  have hl : lv_has ls 5 [(0, .ref (q 0)), (1, .int p0), (2, .int p1)] := hl
  refine lv_aload_n hx hb dX4_crash_0 rfl (lv_at hl 0 rfl) ?_
  refine lv_iconst (v := 0) hx hb dX4_crash_1 (by decide) ?_
  refine va_put (D := G) (ci := 4) (v := .int 0) (ty := .int) (C := RX4) (T := TX4) (N := 21) hx hb hts (fun _ h => List.mem_cons_of_mem _ (List.mem_append_right _ h)) tyX4 tyX4_ok nmX4 hown hK hP hD hS 0 rfl rfl 0 (by decide) (hts (.fieldLink RX4 65 "ShippedLogModel" "thrown" "I") (by decide +kernel)) (fun _ h9 => h9) rfl (by decide +kernel) rfl rfl (Nat.le_of_ble_eq_true rfl) dX4_crash_2 (fun H locs hP hD hS => ?_)
  have hP : va_P G vwCl (wM q k 0 (fun _ => 0) g7 g8) H := hP
  have hD : va_D A (wM q k 0 (fun _ => 0) g7 g8) := hD
  refine lv_iload_n hx hb dX4_crash_5 rfl (lv_at hl 1 rfl) ?_
  refine br_call (W.runS (As := [.int p0]) (rest := []) ⟨hx, hb, hml, hown, hts⟩ (m_isNode_f l p0 h) (va_cwS 1 hts gX4_crash_X4_isNode rfl rfl rfl (by decide +kernel) ⟨(Nat.le_of_ble_eq_true rfl), (Nat.le_of_ble_eq_true rfl)⟩) (P0.preS) rfl rfl hl.1 rfl (lv_room (Nat.le_of_ble_eq_true rfl)) dX4_crash_6 ⟨(Nat.le_of_ble_eq_true rfl), (Nat.le_of_ble_eq_true rfl)⟩) ?_
  refine lv_if_ne (tgt := 18) hx hb dX4_crash_9 (by decide) (fun c9 => absurd rfl c9) (fun _ => ?_)
  refine lv_aload_n hx hb dX4_crash_12 rfl (lv_at hl 0 rfl) ?_
  refine lv_iconst (v := 1) hx hb dX4_crash_13 (by decide) ?_
  refine mf_call (va_runV (As := [.int 1]) (rest := []) ⟨hx, hb, hml, hown, hts⟩ (c_fail l G k _ (q 0) 0 _ 1) (cwV 1 hts gX4_crash_X4_fail rfl rfl rfl (by decide +kernel) ⟨(Nat.le_of_ble_eq_true rfl), (Nat.le_of_ble_eq_true rfl)⟩) (mf_pre hK hP) rfl rfl hl.1 rfl (lv_room (Nat.le_of_ble_eq_true rfl)) dX4_crash_14 ⟨(Nat.le_of_ble_eq_true rfl), (Nat.le_of_ble_eq_true rfl)⟩) hS hD rfl hA (fun H locs hP hS => ?_)
  exact W.iret (v := 0) hx hb hr (fun t ht hW => ⟨⟨0, (), rfl, fun h => absurd h (by decide), _, by rw [ht]; exact hP⟩, hS.F ht⟩) hS.2.2 dX4_crash_17
set_option maxHeartbeats 4000000 in
set_option maxRecDepth 100000 in
/-- the reference: follow, bad -/
theorem cM_follow_bad (l : Launch) (G : va_G) (k : Nat → ClassId) (sz : Nat) (q : Nat → Nat) (g7 g8 : Nat → Int32) (p0 : Int32) (h : bdN p0) (p1 : Int32) : Met l yX4_follow wsX4_follow (rzk 2 0 0) (MP G k sz q g7 g8 [.ref (q 0), .int p0, .int p1]) (MQv G q 1 (va_A (wM q k 0 (fun _ => 0) g7 g8) sz)) 0 0 (va_A (wM q k 0 (fun _ => 0) g7 g8) sz) := by
  refine Met.ofW (cc := cX4_follow) (maxL := 3) (ret := none) (by decide) rfl ?_
  intro p e s m args below meth c s₁ B hml hv
  obtain ⟨rfl, hsz, hP, hK, hD0⟩ := hv
  subst hsz
  have hD := hD0.self (sz := s.heap.size)
  generalize hAe : va_A (wM q k 0 (fun _ => 0) g7 g8) s.heap.size = A at hD ⊢
  have hA : ∀ q : Nat, s.heap.size ≤ q → A q := fun q h => by rw [← hAe]; exact Or.inr h
  have hS : va_S A s.heap s.heap [] := va_S.rf
  have hx := B.exec
  have hb := B.bytes
  have hr := B.returns
  have hts := atoms_spec (ws := wsX4_follow) B.pre
  have hown : s.vm.findClass RX4 = some m.cls := findClass_of_methodNamed B.named
  have hlocks := B.notSynchronized
  have hl := lv_entry ([.ref (q 0), .int p0, .int p1]) (n := 3) (Nat.le_of_ble_eq_true rfl)
  rw [lg_entry_eq]
  generalize (lg_sl ([.ref (q 0), .int p0, .int p1]) ++ List.replicate (3 - (lg_sl ([.ref (q 0), .int p0, .int p1])).length) Slot.unset).toArray = ls at hl ⊢
  have hl : lv_has ls 3 [(0, .ref (q 0)), (1, .int p0), (2, .int p1)] := hl
  refine lv_aload_n hx hb dX4_follow_0 rfl (lv_at hl 0 rfl) ?_
  refine lv_iload_n hx hb dX4_follow_1 rfl (lv_at hl 1 rfl) ?_
  refine br_call (W.runS (As := [.int p0]) (rest := [.ref (q 0)]) ⟨hx, hb, hml, hown, hts⟩ (m_isNode_f l p0 h) (va_cwS 1 hts gX4_follow_X4_isNode rfl rfl rfl (by decide +kernel) ⟨(Nat.le_of_ble_eq_true rfl), (Nat.le_of_ble_eq_true rfl)⟩) (P0.preS) rfl rfl hl.1 rfl (lv_room (Nat.le_of_ble_eq_true rfl)) dX4_follow_2 ⟨(Nat.le_of_ble_eq_true rfl), (Nat.le_of_ble_eq_true rfl)⟩) ?_
  refine lv_if_eq (tgt := 15) hx hb dX4_follow_5 (by decide) (fun _ => ?_) (fun c9 => absurd rfl c9)
  refine lv_iconst (v := 1) hx hb dX4_follow_15 (by decide) ?_
  refine lv_goto (tgt := 72) hx hb dX4_follow_16 (by decide) ?_
  refine va_put (D := G) (ci := 4) (v := .int 1) (ty := .int) (C := RX4) (T := TX4) (N := 21) hx hb hts (fun _ h => List.mem_cons_of_mem _ (List.mem_append_right _ h)) tyX4 tyX4_ok nmX4 hown hK hP hD hS 0 rfl rfl 0 (by decide) (hts (.fieldLink RX4 65 "ShippedLogModel" "thrown" "I") (by decide +kernel)) (fun _ h9 => h9) rfl (by decide +kernel) rfl rfl (Nat.le_of_ble_eq_true rfl) dX4_follow_72 (fun H locs hP hD hS => ?_)
  have hP : va_P G vwCl (wM q k 1 (fun _ => 0) g7 g8) H := hP
  have hD : va_D A (wM q k 1 (fun _ => 0) g7 g8) := hD
  refine lv_aload_n hx hb dX4_follow_75 rfl (lv_at hl 0 rfl) ?_
  refine va_get (D := G) (ci := 4) (v := .int 1) (C := RX4) (T := TX4) (N := 21) hx hb hts (fun _ h => List.mem_cons_of_mem _ (List.mem_append_right _ h)) hown hK hP 0 rfl rfl 0 (by decide) (hts (.fieldLink RX4 65 "ShippedLogModel" "thrown" "I") (by decide +kernel)) (fun _ h9 => h9) rfl dX4_follow_76 ?_
  refine lv_if_ne (tgt := 88) hx hb dX4_follow_79 (by decide) (fun _ => ?_) (fun c9 => absurd c9 (by decide : ¬ (1 : Int32) = 0))
  exact W.vret hx hb hr (fun t ht hW => ⟨⟨(), rfl, trivial, _, by rw [ht]; exact hP.hd⟩, hS.F ht⟩) hS.2.2 dX4_follow_88
set_option maxHeartbeats 4000000 in
set_option maxRecDepth 100000 in
/-- the reference: rewind, bad -/
theorem cM_rewind_bad (l : Launch) (G : va_G) (k : Nat → ClassId) (sz : Nat) (q : Nat → Nat) (g7 g8 : Nat → Int32) (p0 : Int32) (h : bdN p0) (p1 : Int32) : Met l yX4_rewind wsX4_rewind (rzk 2 0 0) (MP G k sz q g7 g8 [.ref (q 0), .int p0, .int p1]) (MQl G q 1 0 (va_A (wM q k 0 (fun _ => 0) g7 g8) sz)) 0 0 (va_A (wM q k 0 (fun _ => 0) g7 g8) sz) := by
  refine Met.ofW (cc := cX4_rewind) (maxL := 6) (ret := (some .int)) (by decide) rfl ?_
  intro p e s m args below meth c s₁ B hml hv
  obtain ⟨rfl, hsz, hP, hK, hD0⟩ := hv
  subst hsz
  have hD := hD0.self (sz := s.heap.size)
  generalize hAe : va_A (wM q k 0 (fun _ => 0) g7 g8) s.heap.size = A at hD ⊢
  have hA : ∀ q : Nat, s.heap.size ≤ q → A q := fun q h => by rw [← hAe]; exact Or.inr h
  have hS : va_S A s.heap s.heap [] := va_S.rf
  have hx := B.exec
  have hb := B.bytes
  have hr := B.returns
  have hts := atoms_spec (ws := wsX4_rewind) B.pre
  have hown : s.vm.findClass RX4 = some m.cls := findClass_of_methodNamed B.named
  have hlocks := B.notSynchronized
  have hl := lv_entry ([.ref (q 0), .int p0, .int p1]) (n := 6) (Nat.le_of_ble_eq_true rfl)
  rw [lg_entry_eq]
  generalize (lg_sl ([.ref (q 0), .int p0, .int p1]) ++ List.replicate (6 - (lg_sl ([.ref (q 0), .int p0, .int p1])).length) Slot.unset).toArray = ls at hl ⊢
  have hl : lv_has ls 6 [(0, .ref (q 0)), (1, .int p0), (2, .int p1)] := hl
  refine lv_aload_n hx hb dX4_rewind_0 rfl (lv_at hl 0 rfl) ?_
  refine lv_iconst (v := 0) hx hb dX4_rewind_1 (by decide) ?_
  refine va_put (D := G) (ci := 4) (v := .int 0) (ty := .int) (C := RX4) (T := TX4) (N := 21) hx hb hts (fun _ h => List.mem_cons_of_mem _ (List.mem_append_right _ h)) tyX4 tyX4_ok nmX4 hown hK hP hD hS 0 rfl rfl 0 (by decide) (hts (.fieldLink RX4 65 "ShippedLogModel" "thrown" "I") (by decide +kernel)) (fun _ h9 => h9) rfl (by decide +kernel) rfl rfl (Nat.le_of_ble_eq_true rfl) dX4_rewind_2 (fun H locs hP hD hS => ?_)
  have hP : va_P G vwCl (wM q k 0 (fun _ => 0) g7 g8) H := hP
  have hD : va_D A (wM q k 0 (fun _ => 0) g7 g8) := hD
  refine lv_iload_n hx hb dX4_rewind_5 rfl (lv_at hl 1 rfl) ?_
  refine br_call (W.runS (As := [.int p0]) (rest := []) ⟨hx, hb, hml, hown, hts⟩ (m_isNode_f l p0 h) (va_cwS 1 hts gX4_rewind_X4_isNode rfl rfl rfl (by decide +kernel) ⟨(Nat.le_of_ble_eq_true rfl), (Nat.le_of_ble_eq_true rfl)⟩) (P0.preS) rfl rfl hl.1 rfl (lv_room (Nat.le_of_ble_eq_true rfl)) dX4_rewind_6 ⟨(Nat.le_of_ble_eq_true rfl), (Nat.le_of_ble_eq_true rfl)⟩) ?_
  refine lv_if_eq (tgt := 19) hx hb dX4_rewind_9 (by decide) (fun _ => ?_) (fun c9 => absurd rfl c9)
  refine lv_aload_n hx hb dX4_rewind_19 rfl (lv_at hl 0 rfl) ?_
  refine lv_iconst (v := 1) hx hb dX4_rewind_20 (by decide) ?_
  refine mf_call (va_runV (As := [.int 1]) (rest := []) ⟨hx, hb, hml, hown, hts⟩ (c_fail l G k _ (q 0) 0 _ 1) (cwV 1 hts gX4_rewind_X4_fail rfl rfl rfl (by decide +kernel) ⟨(Nat.le_of_ble_eq_true rfl), (Nat.le_of_ble_eq_true rfl)⟩) (mf_pre hK hP) rfl rfl hl.1 rfl (lv_room (Nat.le_of_ble_eq_true rfl)) dX4_rewind_21 ⟨(Nat.le_of_ble_eq_true rfl), (Nat.le_of_ble_eq_true rfl)⟩) hS hD rfl hA (fun H locs hP hS => ?_)
  exact W.iret (v := 0) hx hb hr (fun t ht hW => ⟨⟨0, (), rfl, fun h => absurd h (by decide), _, by rw [ht]; exact hP⟩, hS.F ht⟩) hS.2.2 dX4_rewind_24
set_option maxHeartbeats 4000000 in
set_option maxRecDepth 100000 in
/-- the reference: standby, bad -/
theorem cM_standby_bad (l : Launch) (G : va_G) (k : Nat → ClassId) (sz : Nat) (q : Nat → Nat) (g7 g8 : Nat → Int32) (p0 : Int32) (h : bdN p0) (p1 : Int32) : Met l yX4_standby wsX4_standby (rzk 2 0 0) (MP G k sz q g7 g8 [.ref (q 0), .int p0, .int p1]) (MQl G q 1 0 (va_A (wM q k 0 (fun _ => 0) g7 g8) sz)) 0 0 (va_A (wM q k 0 (fun _ => 0) g7 g8) sz) := by
  refine Met.ofW (cc := cX4_standby) (maxL := 4) (ret := (some .int)) (by decide) rfl ?_
  intro p e s m args below meth c s₁ B hml hv
  obtain ⟨rfl, hsz, hP, hK, hD0⟩ := hv
  subst hsz
  have hD := hD0.self (sz := s.heap.size)
  generalize hAe : va_A (wM q k 0 (fun _ => 0) g7 g8) s.heap.size = A at hD ⊢
  have hA : ∀ q : Nat, s.heap.size ≤ q → A q := fun q h => by rw [← hAe]; exact Or.inr h
  have hS : va_S A s.heap s.heap [] := va_S.rf
  have hx := B.exec
  have hb := B.bytes
  have hr := B.returns
  have hts := atoms_spec (ws := wsX4_standby) B.pre
  have hown : s.vm.findClass RX4 = some m.cls := findClass_of_methodNamed B.named
  have hlocks := B.notSynchronized
  have hl := lv_entry ([.ref (q 0), .int p0, .int p1]) (n := 4) (Nat.le_of_ble_eq_true rfl)
  rw [lg_entry_eq]
  generalize (lg_sl ([.ref (q 0), .int p0, .int p1]) ++ List.replicate (4 - (lg_sl ([.ref (q 0), .int p0, .int p1])).length) Slot.unset).toArray = ls at hl ⊢
  have hl : lv_has ls 4 [(0, .ref (q 0)), (1, .int p0), (2, .int p1)] := hl
  refine lv_aload_n hx hb dX4_standby_0 rfl (lv_at hl 0 rfl) ?_
  refine lv_iconst (v := 0) hx hb dX4_standby_1 (by decide) ?_
  refine va_put (D := G) (ci := 4) (v := .int 0) (ty := .int) (C := RX4) (T := TX4) (N := 21) hx hb hts (fun _ h => List.mem_cons_of_mem _ (List.mem_append_right _ h)) tyX4 tyX4_ok nmX4 hown hK hP hD hS 0 rfl rfl 0 (by decide) (hts (.fieldLink RX4 65 "ShippedLogModel" "thrown" "I") (by decide +kernel)) (fun _ h9 => h9) rfl (by decide +kernel) rfl rfl (Nat.le_of_ble_eq_true rfl) dX4_standby_2 (fun H locs hP hD hS => ?_)
  have hP : va_P G vwCl (wM q k 0 (fun _ => 0) g7 g8) H := hP
  have hD : va_D A (wM q k 0 (fun _ => 0) g7 g8) := hD
  refine lv_iload_n hx hb dX4_standby_5 rfl (lv_at hl 1 rfl) ?_
  refine br_call (W.runS (As := [.int p0]) (rest := []) ⟨hx, hb, hml, hown, hts⟩ (m_isNode_f l p0 h) (va_cwS 1 hts gX4_standby_X4_isNode rfl rfl rfl (by decide +kernel) ⟨(Nat.le_of_ble_eq_true rfl), (Nat.le_of_ble_eq_true rfl)⟩) (P0.preS) rfl rfl hl.1 rfl (lv_room (Nat.le_of_ble_eq_true rfl)) dX4_standby_6 ⟨(Nat.le_of_ble_eq_true rfl), (Nat.le_of_ble_eq_true rfl)⟩) ?_
  refine lv_if_eq (tgt := 24) hx hb dX4_standby_9 (by decide) (fun _ => ?_) (fun c9 => absurd rfl c9)
  refine lv_aload_n hx hb dX4_standby_24 rfl (lv_at hl 0 rfl) ?_
  refine lv_iconst (v := 1) hx hb dX4_standby_25 (by decide) ?_
  refine mf_call (va_runV (As := [.int 1]) (rest := []) ⟨hx, hb, hml, hown, hts⟩ (c_fail l G k _ (q 0) 0 _ 1) (cwV 1 hts gX4_standby_X4_fail rfl rfl rfl (by decide +kernel) ⟨(Nat.le_of_ble_eq_true rfl), (Nat.le_of_ble_eq_true rfl)⟩) (mf_pre hK hP) rfl rfl hl.1 rfl (lv_room (Nat.le_of_ble_eq_true rfl)) dX4_standby_26 ⟨(Nat.le_of_ble_eq_true rfl), (Nat.le_of_ble_eq_true rfl)⟩) hS hD rfl hA (fun H locs hP hS => ?_)
  exact W.iret (v := 0) hx hb hr (fun t ht hW => ⟨⟨0, (), rfl, fun h => absurd h (by decide), _, by rw [ht]; exact hP⟩, hS.F ht⟩) hS.2.2 dX4_standby_29
set_option maxHeartbeats 4000000 in
set_option maxRecDepth 100000 in
/-- the reference: send, bad -/
theorem cM_send_bad (l : Launch) (G : va_G) (k : Nat → ClassId) (sz : Nat) (q : Nat → Nat) (g7 g8 : Nat → Int32) (p0 : Int32) (h : bdN p0) (p1 : Int32) : Met l yX4_send wsX4_send (rzk 2 0 0) (MP G k sz q g7 g8 [.ref (q 0), .int p0, .int p1]) (MQl G q 1 0 (va_A (wM q k 0 (fun _ => 0) g7 g8) sz)) 0 0 (va_A (wM q k 0 (fun _ => 0) g7 g8) sz) := by
  refine Met.ofW (cc := cX4_send) (maxL := 5) (ret := (some .int)) (by decide) rfl ?_
  intro p e s m args below meth c s₁ B hml hv
  obtain ⟨rfl, hsz, hP, hK, hD0⟩ := hv
  subst hsz
  have hD := hD0.self (sz := s.heap.size)
  generalize hAe : va_A (wM q k 0 (fun _ => 0) g7 g8) s.heap.size = A at hD ⊢
  have hA : ∀ q : Nat, s.heap.size ≤ q → A q := fun q h => by rw [← hAe]; exact Or.inr h
  have hS : va_S A s.heap s.heap [] := va_S.rf
  have hx := B.exec
  have hb := B.bytes
  have hr := B.returns
  have hts := atoms_spec (ws := wsX4_send) B.pre
  have hown : s.vm.findClass RX4 = some m.cls := findClass_of_methodNamed B.named
  have hlocks := B.notSynchronized
  have hl := lv_entry ([.ref (q 0), .int p0, .int p1]) (n := 5) (Nat.le_of_ble_eq_true rfl)
  rw [lg_entry_eq]
  generalize (lg_sl ([.ref (q 0), .int p0, .int p1]) ++ List.replicate (5 - (lg_sl ([.ref (q 0), .int p0, .int p1])).length) Slot.unset).toArray = ls at hl ⊢
  have hl : lv_has ls 5 [(0, .ref (q 0)), (1, .int p0), (2, .int p1)] := hl
  refine lv_aload_n hx hb dX4_send_0 rfl (lv_at hl 0 rfl) ?_
  refine lv_iconst (v := 0) hx hb dX4_send_1 (by decide) ?_
  refine va_put (D := G) (ci := 4) (v := .int 0) (ty := .int) (C := RX4) (T := TX4) (N := 21) hx hb hts (fun _ h => List.mem_cons_of_mem _ (List.mem_append_right _ h)) tyX4 tyX4_ok nmX4 hown hK hP hD hS 0 rfl rfl 0 (by decide) (hts (.fieldLink RX4 65 "ShippedLogModel" "thrown" "I") (by decide +kernel)) (fun _ h9 => h9) rfl (by decide +kernel) rfl rfl (Nat.le_of_ble_eq_true rfl) dX4_send_2 (fun H locs hP hD hS => ?_)
  have hP : va_P G vwCl (wM q k 0 (fun _ => 0) g7 g8) H := hP
  have hD : va_D A (wM q k 0 (fun _ => 0) g7 g8) := hD
  refine lv_iload_n hx hb dX4_send_5 rfl (lv_at hl 1 rfl) ?_
  refine br_call (W.runS (As := [.int p0]) (rest := []) ⟨hx, hb, hml, hown, hts⟩ (m_isNode_f l p0 h) (va_cwS 1 hts gX4_send_X4_isNode rfl rfl rfl (by decide +kernel) ⟨(Nat.le_of_ble_eq_true rfl), (Nat.le_of_ble_eq_true rfl)⟩) (P0.preS) rfl rfl hl.1 rfl (lv_room (Nat.le_of_ble_eq_true rfl)) dX4_send_6 ⟨(Nat.le_of_ble_eq_true rfl), (Nat.le_of_ble_eq_true rfl)⟩) ?_
  refine lv_if_eq (tgt := 19) hx hb dX4_send_9 (by decide) (fun _ => ?_) (fun c9 => absurd rfl c9)
  refine lv_aload_n hx hb dX4_send_19 rfl (lv_at hl 0 rfl) ?_
  refine lv_iconst (v := 1) hx hb dX4_send_20 (by decide) ?_
  refine mf_call (va_runV (As := [.int 1]) (rest := []) ⟨hx, hb, hml, hown, hts⟩ (c_fail l G k _ (q 0) 0 _ 1) (cwV 1 hts gX4_send_X4_fail rfl rfl rfl (by decide +kernel) ⟨(Nat.le_of_ble_eq_true rfl), (Nat.le_of_ble_eq_true rfl)⟩) (mf_pre hK hP) rfl rfl hl.1 rfl (lv_room (Nat.le_of_ble_eq_true rfl)) dX4_send_21 ⟨(Nat.le_of_ble_eq_true rfl), (Nat.le_of_ble_eq_true rfl)⟩) hS hD rfl hA (fun H locs hP hS => ?_)
  exact W.iret (v := 0) hx hb hr (fun t ht hW => ⟨⟨0, (), rfl, fun h => absurd h (by decide), _, by rw [ht]; exact hP⟩, hS.F ht⟩) hS.2.2 dX4_send_24
set_option maxHeartbeats 4000000 in
set_option maxRecDepth 100000 in
/-- the reference: apply, bad -/
theorem cM_apply_bad (l : Launch) (G : va_G) (k : Nat → ClassId) (sz : Nat) (q : Nat → Nat) (g7 g8 : Nat → Int32) (p0 : Int32) (h : bdN p0) (p1 : Int32) : Met l yX4_apply wsX4_apply (rzk 2 0 0) (MP G k sz q g7 g8 [.ref (q 0), .int p0, .int p1]) (MQl G q 1 0 (va_A (wM q k 0 (fun _ => 0) g7 g8) sz)) 0 0 (va_A (wM q k 0 (fun _ => 0) g7 g8) sz) := by
  refine Met.ofW (cc := cX4_apply) (maxL := 4) (ret := (some .int)) (by decide) rfl ?_
  intro p e s m args below meth c s₁ B hml hv
  obtain ⟨rfl, hsz, hP, hK, hD0⟩ := hv
  subst hsz
  have hD := hD0.self (sz := s.heap.size)
  generalize hAe : va_A (wM q k 0 (fun _ => 0) g7 g8) s.heap.size = A at hD ⊢
  have hA : ∀ q : Nat, s.heap.size ≤ q → A q := fun q h => by rw [← hAe]; exact Or.inr h
  have hS : va_S A s.heap s.heap [] := va_S.rf
  have hx := B.exec
  have hb := B.bytes
  have hr := B.returns
  have hts := atoms_spec (ws := wsX4_apply) B.pre
  have hown : s.vm.findClass RX4 = some m.cls := findClass_of_methodNamed B.named
  have hlocks := B.notSynchronized
  have hl := lv_entry ([.ref (q 0), .int p0, .int p1]) (n := 4) (Nat.le_of_ble_eq_true rfl)
  rw [lg_entry_eq]
  generalize (lg_sl ([.ref (q 0), .int p0, .int p1]) ++ List.replicate (4 - (lg_sl ([.ref (q 0), .int p0, .int p1])).length) Slot.unset).toArray = ls at hl ⊢
  have hl : lv_has ls 4 [(0, .ref (q 0)), (1, .int p0), (2, .int p1)] := hl
  refine lv_aload_n hx hb dX4_apply_0 rfl (lv_at hl 0 rfl) ?_
  refine lv_iconst (v := 0) hx hb dX4_apply_1 (by decide) ?_
  refine va_put (D := G) (ci := 4) (v := .int 0) (ty := .int) (C := RX4) (T := TX4) (N := 21) hx hb hts (fun _ h => List.mem_cons_of_mem _ (List.mem_append_right _ h)) tyX4 tyX4_ok nmX4 hown hK hP hD hS 0 rfl rfl 0 (by decide) (hts (.fieldLink RX4 65 "ShippedLogModel" "thrown" "I") (by decide +kernel)) (fun _ h9 => h9) rfl (by decide +kernel) rfl rfl (Nat.le_of_ble_eq_true rfl) dX4_apply_2 (fun H locs hP hD hS => ?_)
  have hP : va_P G vwCl (wM q k 0 (fun _ => 0) g7 g8) H := hP
  have hD : va_D A (wM q k 0 (fun _ => 0) g7 g8) := hD
  refine lv_iload_n hx hb dX4_apply_5 rfl (lv_at hl 1 rfl) ?_
  refine br_call (W.runS (As := [.int p0]) (rest := []) ⟨hx, hb, hml, hown, hts⟩ (m_isNode_f l p0 h) (va_cwS 1 hts gX4_apply_X4_isNode rfl rfl rfl (by decide +kernel) ⟨(Nat.le_of_ble_eq_true rfl), (Nat.le_of_ble_eq_true rfl)⟩) (P0.preS) rfl rfl hl.1 rfl (lv_room (Nat.le_of_ble_eq_true rfl)) dX4_apply_6 ⟨(Nat.le_of_ble_eq_true rfl), (Nat.le_of_ble_eq_true rfl)⟩) ?_
  refine lv_if_ne (tgt := 18) hx hb dX4_apply_9 (by decide) (fun c9 => absurd rfl c9) (fun _ => ?_)
  refine lv_aload_n hx hb dX4_apply_12 rfl (lv_at hl 0 rfl) ?_
  refine lv_iconst (v := 1) hx hb dX4_apply_13 (by decide) ?_
  refine mf_call (va_runV (As := [.int 1]) (rest := []) ⟨hx, hb, hml, hown, hts⟩ (c_fail l G k _ (q 0) 0 _ 1) (cwV 1 hts gX4_apply_X4_fail rfl rfl rfl (by decide +kernel) ⟨(Nat.le_of_ble_eq_true rfl), (Nat.le_of_ble_eq_true rfl)⟩) (mf_pre hK hP) rfl rfl hl.1 rfl (lv_room (Nat.le_of_ble_eq_true rfl)) dX4_apply_14 ⟨(Nat.le_of_ble_eq_true rfl), (Nat.le_of_ble_eq_true rfl)⟩) hS hD rfl hA (fun H locs hP hS => ?_)
  exact W.iret (v := 0) hx hb hr (fun t ht hW => ⟨⟨0, (), rfl, fun h => absurd h (by decide), _, by rw [ht]; exact hP⟩, hS.F ht⟩) hS.2.2 dX4_apply_17
set_option maxHeartbeats 4000000 in
set_option maxRecDepth 100000 in
/-- the reference: get, bad -/
theorem cM_get_bad (l : Launch) (G : va_G) (k : Nat → ClassId) (sz : Nat) (q : Nat → Nat) (g7 g8 : Nat → Int32) (p0 : Int32) (h : bdN p0) (p1 : Int32) : Met l yX4_get wsX4_get (rzk 2 0 0) (MP G k sz q g7 g8 [.ref (q 0), .int p0, .int p1]) (MQl G q 1 0 (va_A (wM q k 0 (fun _ => 0) g7 g8) sz)) 0 0 (va_A (wM q k 0 (fun _ => 0) g7 g8) sz) := by
  refine Met.ofW (cc := cX4_get) (maxL := 3) (ret := (some .int)) (by decide) rfl ?_
  intro p e s m args below meth c s₁ B hml hv
  obtain ⟨rfl, hsz, hP, hK, hD0⟩ := hv
  subst hsz
  have hD := hD0.self (sz := s.heap.size)
  generalize hAe : va_A (wM q k 0 (fun _ => 0) g7 g8) s.heap.size = A at hD ⊢
  have hA : ∀ q : Nat, s.heap.size ≤ q → A q := fun q h => by rw [← hAe]; exact Or.inr h
  have hS : va_S A s.heap s.heap [] := va_S.rf
  have hx := B.exec
  have hb := B.bytes
  have hr := B.returns
  have hts := atoms_spec (ws := wsX4_get) B.pre
  have hown : s.vm.findClass RX4 = some m.cls := findClass_of_methodNamed B.named
  have hlocks := B.notSynchronized
  have hl := lv_entry ([.ref (q 0), .int p0, .int p1]) (n := 3) (Nat.le_of_ble_eq_true rfl)
  rw [lg_entry_eq]
  generalize (lg_sl ([.ref (q 0), .int p0, .int p1]) ++ List.replicate (3 - (lg_sl ([.ref (q 0), .int p0, .int p1])).length) Slot.unset).toArray = ls at hl ⊢
  have hl : lv_has ls 3 [(0, .ref (q 0)), (1, .int p0), (2, .int p1)] := hl
  refine lv_aload_n hx hb dX4_get_0 rfl (lv_at hl 0 rfl) ?_
  refine lv_iconst (v := 0) hx hb dX4_get_1 (by decide) ?_
  refine va_put (D := G) (ci := 4) (v := .int 0) (ty := .int) (C := RX4) (T := TX4) (N := 21) hx hb hts (fun _ h => List.mem_cons_of_mem _ (List.mem_append_right _ h)) tyX4 tyX4_ok nmX4 hown hK hP hD hS 0 rfl rfl 0 (by decide) (hts (.fieldLink RX4 65 "ShippedLogModel" "thrown" "I") (by decide +kernel)) (fun _ h9 => h9) rfl (by decide +kernel) rfl rfl (Nat.le_of_ble_eq_true rfl) dX4_get_2 (fun H locs hP hD hS => ?_)
  have hP : va_P G vwCl (wM q k 0 (fun _ => 0) g7 g8) H := hP
  have hD : va_D A (wM q k 0 (fun _ => 0) g7 g8) := hD
  refine lv_iload_n hx hb dX4_get_5 rfl (lv_at hl 1 rfl) ?_
  refine br_call (W.runS (As := [.int p0]) (rest := []) ⟨hx, hb, hml, hown, hts⟩ (m_isNode_f l p0 h) (va_cwS 1 hts gX4_get_X4_isNode rfl rfl rfl (by decide +kernel) ⟨(Nat.le_of_ble_eq_true rfl), (Nat.le_of_ble_eq_true rfl)⟩) (P0.preS) rfl rfl hl.1 rfl (lv_room (Nat.le_of_ble_eq_true rfl)) dX4_get_6 ⟨(Nat.le_of_ble_eq_true rfl), (Nat.le_of_ble_eq_true rfl)⟩) ?_
  refine lv_if_eq (tgt := 22) hx hb dX4_get_9 (by decide) (fun _ => ?_) (fun c9 => absurd rfl c9)
  refine lv_aload_n hx hb dX4_get_22 rfl (lv_at hl 0 rfl) ?_
  refine lv_iconst (v := 1) hx hb dX4_get_23 (by decide) ?_
  refine mf_call (va_runV (As := [.int 1]) (rest := []) ⟨hx, hb, hml, hown, hts⟩ (c_fail l G k _ (q 0) 0 _ 1) (cwV 1 hts gX4_get_X4_fail rfl rfl rfl (by decide +kernel) ⟨(Nat.le_of_ble_eq_true rfl), (Nat.le_of_ble_eq_true rfl)⟩) (mf_pre hK hP) rfl rfl hl.1 rfl (lv_room (Nat.le_of_ble_eq_true rfl)) dX4_get_24 ⟨(Nat.le_of_ble_eq_true rfl), (Nat.le_of_ble_eq_true rfl)⟩) hS hD rfl hA (fun H locs hP hS => ?_)
  exact W.iret (v := 0) hx hb hr (fun t ht hW => ⟨⟨0, (), rfl, fun h => absurd h (by decide), _, by rw [ht]; exact hP⟩, hS.F ht⟩) hS.2.2 dX4_get_27
set_option maxHeartbeats 4000000 in
set_option maxRecDepth 100000 in
/-- the reference: node, bad -/
theorem cM_node_bad (l : Launch) (G : va_G) (k : Nat → ClassId) (sz : Nat) (q : Nat → Nat) (g7 g8 : Nat → Int32) (p0 : Int32) (h : bdN p0) (p1 : Int32) : Met l yX4_node wsX4_node (rzk 2 0 0) (MP G k sz q g7 g8 [.ref (q 0), .int p0, .int p1]) (MQl G q 1 0 (va_A (wM q k 0 (fun _ => 0) g7 g8) sz)) 0 0 (va_A (wM q k 0 (fun _ => 0) g7 g8) sz) := by
  refine Met.ofW (cc := cX4_node) (maxL := 3) (ret := (some .int)) (by decide) rfl ?_
  intro p e s m args below meth c s₁ B hml hv
  obtain ⟨rfl, hsz, hP, hK, hD0⟩ := hv
  subst hsz
  have hD := hD0.self (sz := s.heap.size)
  generalize hAe : va_A (wM q k 0 (fun _ => 0) g7 g8) s.heap.size = A at hD ⊢
  have hA : ∀ q : Nat, s.heap.size ≤ q → A q := fun q h => by rw [← hAe]; exact Or.inr h
  have hS : va_S A s.heap s.heap [] := va_S.rf
  have hx := B.exec
  have hb := B.bytes
  have hr := B.returns
  have hts := atoms_spec (ws := wsX4_node) B.pre
  have hown : s.vm.findClass RX4 = some m.cls := findClass_of_methodNamed B.named
  have hlocks := B.notSynchronized
  have hl := lv_entry ([.ref (q 0), .int p0, .int p1]) (n := 3) (Nat.le_of_ble_eq_true rfl)
  rw [lg_entry_eq]
  generalize (lg_sl ([.ref (q 0), .int p0, .int p1]) ++ List.replicate (3 - (lg_sl ([.ref (q 0), .int p0, .int p1])).length) Slot.unset).toArray = ls at hl ⊢
  have hl : lv_has ls 3 [(0, .ref (q 0)), (1, .int p0), (2, .int p1)] := hl
  refine lv_aload_n hx hb dX4_node_0 rfl (lv_at hl 0 rfl) ?_
  refine lv_iconst (v := 0) hx hb dX4_node_1 (by decide) ?_
  refine va_put (D := G) (ci := 4) (v := .int 0) (ty := .int) (C := RX4) (T := TX4) (N := 21) hx hb hts (fun _ h => List.mem_cons_of_mem _ (List.mem_append_right _ h)) tyX4 tyX4_ok nmX4 hown hK hP hD hS 0 rfl rfl 0 (by decide) (hts (.fieldLink RX4 65 "ShippedLogModel" "thrown" "I") (by decide +kernel)) (fun _ h9 => h9) rfl (by decide +kernel) rfl rfl (Nat.le_of_ble_eq_true rfl) dX4_node_2 (fun H locs hP hD hS => ?_)
  have hP : va_P G vwCl (wM q k 0 (fun _ => 0) g7 g8) H := hP
  have hD : va_D A (wM q k 0 (fun _ => 0) g7 g8) := hD
  refine lv_iload_n hx hb dX4_node_5 rfl (lv_at hl 1 rfl) ?_
  refine br_call (W.runS (As := [.int p0]) (rest := []) ⟨hx, hb, hml, hown, hts⟩ (m_isNode_f l p0 h) (va_cwS 1 hts gX4_node_X4_isNode rfl rfl rfl (by decide +kernel) ⟨(Nat.le_of_ble_eq_true rfl), (Nat.le_of_ble_eq_true rfl)⟩) (P0.preS) rfl rfl hl.1 rfl (lv_room (Nat.le_of_ble_eq_true rfl)) dX4_node_6 ⟨(Nat.le_of_ble_eq_true rfl), (Nat.le_of_ble_eq_true rfl)⟩) ?_
  refine lv_if_eq (tgt := 22) hx hb dX4_node_9 (by decide) (fun _ => ?_) (fun c9 => absurd rfl c9)
  refine lv_aload_n hx hb dX4_node_22 rfl (lv_at hl 0 rfl) ?_
  refine lv_iconst (v := 1) hx hb dX4_node_23 (by decide) ?_
  refine mf_call (va_runV (As := [.int 1]) (rest := []) ⟨hx, hb, hml, hown, hts⟩ (c_fail l G k _ (q 0) 0 _ 1) (cwV 1 hts gX4_node_X4_fail rfl rfl rfl (by decide +kernel) ⟨(Nat.le_of_ble_eq_true rfl), (Nat.le_of_ble_eq_true rfl)⟩) (mf_pre hK hP) rfl rfl hl.1 rfl (lv_room (Nat.le_of_ble_eq_true rfl)) dX4_node_24 ⟨(Nat.le_of_ble_eq_true rfl), (Nat.le_of_ble_eq_true rfl)⟩) hS hD rfl hA (fun H locs hP hS => ?_)
  exact W.iret (v := 0) hx hb hr (fun t ht hW => ⟨⟨0, (), rfl, fun h => absurd h (by decide), _, by rw [ht]; exact hP⟩, hS.F ht⟩) hS.2.2 dX4_node_27
set_option maxHeartbeats 4000000 in
set_option maxRecDepth 100000 in
/-- the reference: put, bad -/
theorem cM_put_bad (l : Launch) (G : va_G) (k : Nat → ClassId) (sz : Nat) (q : Nat → Nat) (g7 g8 : Nat → Int32) (p0 : Int32) (h : bdN p0) (p1 p2 : Int32) : Met l yX4_put wsX4_put (rzk 2 0 0) (MP G k sz q g7 g8 [.ref (q 0), .int p0, .int p1, .int p2]) (MQl G q 1 0 (va_A (wM q k 0 (fun _ => 0) g7 g8) sz)) 0 0 (va_A (wM q k 0 (fun _ => 0) g7 g8) sz) := by
  refine Met.ofW (cc := cX4_put) (maxL := 4) (ret := (some .int)) (by decide) rfl ?_
  intro p e s m args below meth c s₁ B hml hv
  obtain ⟨rfl, hsz, hP, hK, hD0⟩ := hv
  subst hsz
  have hD := hD0.self (sz := s.heap.size)
  generalize hAe : va_A (wM q k 0 (fun _ => 0) g7 g8) s.heap.size = A at hD ⊢
  have hA : ∀ q : Nat, s.heap.size ≤ q → A q := fun q h => by rw [← hAe]; exact Or.inr h
  have hS : va_S A s.heap s.heap [] := va_S.rf
  have hx := B.exec
  have hb := B.bytes
  have hr := B.returns
  have hts := atoms_spec (ws := wsX4_put) B.pre
  have hown : s.vm.findClass RX4 = some m.cls := findClass_of_methodNamed B.named
  have hlocks := B.notSynchronized
  have hl := lv_entry ([.ref (q 0), .int p0, .int p1, .int p2]) (n := 4) (Nat.le_of_ble_eq_true rfl)
  rw [lg_entry_eq]
  generalize (lg_sl ([.ref (q 0), .int p0, .int p1, .int p2]) ++ List.replicate (4 - (lg_sl ([.ref (q 0), .int p0, .int p1, .int p2])).length) Slot.unset).toArray = ls at hl ⊢
  have hl : lv_has ls 4 [(0, .ref (q 0)), (1, .int p0), (2, .int p1), (3, .int p2)] := hl
  refine lv_aload_n hx hb dX4_put_0 rfl (lv_at hl 0 rfl) ?_
  refine lv_iconst (v := 0) hx hb dX4_put_1 (by decide) ?_
  refine va_put (D := G) (ci := 4) (v := .int 0) (ty := .int) (C := RX4) (T := TX4) (N := 21) hx hb hts (fun _ h => List.mem_cons_of_mem _ (List.mem_append_right _ h)) tyX4 tyX4_ok nmX4 hown hK hP hD hS 0 rfl rfl 0 (by decide) (hts (.fieldLink RX4 65 "ShippedLogModel" "thrown" "I") (by decide +kernel)) (fun _ h9 => h9) rfl (by decide +kernel) rfl rfl (Nat.le_of_ble_eq_true rfl) dX4_put_2 (fun H locs hP hD hS => ?_)
  have hP : va_P G vwCl (wM q k 0 (fun _ => 0) g7 g8) H := hP
  have hD : va_D A (wM q k 0 (fun _ => 0) g7 g8) := hD
  refine lv_iload_n hx hb dX4_put_5 rfl (lv_at hl 1 rfl) ?_
  refine br_call (W.runS (As := [.int p0]) (rest := []) ⟨hx, hb, hml, hown, hts⟩ (m_isNode_f l p0 h) (va_cwS 1 hts gX4_put_X4_isNode rfl rfl rfl (by decide +kernel) ⟨(Nat.le_of_ble_eq_true rfl), (Nat.le_of_ble_eq_true rfl)⟩) (P0.preS) rfl rfl hl.1 rfl (lv_room (Nat.le_of_ble_eq_true rfl)) dX4_put_6 ⟨(Nat.le_of_ble_eq_true rfl), (Nat.le_of_ble_eq_true rfl)⟩) ?_
  refine lv_if_ne (tgt := 18) hx hb dX4_put_9 (by decide) (fun c9 => absurd rfl c9) (fun _ => ?_)
  refine lv_aload_n hx hb dX4_put_12 rfl (lv_at hl 0 rfl) ?_
  refine lv_iconst (v := 1) hx hb dX4_put_13 (by decide) ?_
  refine mf_call (va_runV (As := [.int 1]) (rest := []) ⟨hx, hb, hml, hown, hts⟩ (c_fail l G k _ (q 0) 0 _ 1) (cwV 1 hts gX4_put_X4_fail rfl rfl rfl (by decide +kernel) ⟨(Nat.le_of_ble_eq_true rfl), (Nat.le_of_ble_eq_true rfl)⟩) (mf_pre hK hP) rfl rfl hl.1 rfl (lv_room (Nat.le_of_ble_eq_true rfl)) dX4_put_14 ⟨(Nat.le_of_ble_eq_true rfl), (Nat.le_of_ble_eq_true rfl)⟩) hS hD rfl hA (fun H locs hP hS => ?_)
  exact W.iret (v := 0) hx hb hr (fun t ht hW => ⟨⟨0, (), rfl, fun h => absurd h (by decide), _, by rw [ht]; exact hP⟩, hS.F ht⟩) hS.2.2 dX4_put_17
set_option maxHeartbeats 4000000 in
set_option maxRecDepth 100000 in
/-- the reference: byteAt, bad -/
theorem cM_byteAt_bad (l : Launch) (G : va_G) (k : Nat → ClassId) (sz : Nat) (q : Nat → Nat) (g7 g8 : Nat → Int32) (p0 : Int32) (h : bdN p0) (p1 p2 : Int32) : Met l yX4_byteAt wsX4_byteAt (rzk 2 0 0) (MP G k sz q g7 g8 [.ref (q 0), .int p0, .int p1, .int p2]) (MQl G q 1 0 (va_A (wM q k 0 (fun _ => 0) g7 g8) sz)) 0 0 (va_A (wM q k 0 (fun _ => 0) g7 g8) sz) := by
  refine Met.ofW (cc := cX4_byteAt) (maxL := 4) (ret := (some .int)) (by decide) rfl ?_
  intro p e s m args below meth c s₁ B hml hv
  obtain ⟨rfl, hsz, hP, hK, hD0⟩ := hv
  subst hsz
  have hD := hD0.self (sz := s.heap.size)
  generalize hAe : va_A (wM q k 0 (fun _ => 0) g7 g8) s.heap.size = A at hD ⊢
  have hA : ∀ q : Nat, s.heap.size ≤ q → A q := fun q h => by rw [← hAe]; exact Or.inr h
  have hS : va_S A s.heap s.heap [] := va_S.rf
  have hx := B.exec
  have hb := B.bytes
  have hr := B.returns
  have hts := atoms_spec (ws := wsX4_byteAt) B.pre
  have hown : s.vm.findClass RX4 = some m.cls := findClass_of_methodNamed B.named
  have hlocks := B.notSynchronized
  have hl := lv_entry ([.ref (q 0), .int p0, .int p1, .int p2]) (n := 4) (Nat.le_of_ble_eq_true rfl)
  rw [lg_entry_eq]
  generalize (lg_sl ([.ref (q 0), .int p0, .int p1, .int p2]) ++ List.replicate (4 - (lg_sl ([.ref (q 0), .int p0, .int p1, .int p2])).length) Slot.unset).toArray = ls at hl ⊢
  have hl : lv_has ls 4 [(0, .ref (q 0)), (1, .int p0), (2, .int p1), (3, .int p2)] := hl
  refine lv_aload_n hx hb dX4_byteAt_0 rfl (lv_at hl 0 rfl) ?_
  refine lv_iconst (v := 0) hx hb dX4_byteAt_1 (by decide) ?_
  refine va_put (D := G) (ci := 4) (v := .int 0) (ty := .int) (C := RX4) (T := TX4) (N := 21) hx hb hts (fun _ h => List.mem_cons_of_mem _ (List.mem_append_right _ h)) tyX4 tyX4_ok nmX4 hown hK hP hD hS 0 rfl rfl 0 (by decide) (hts (.fieldLink RX4 65 "ShippedLogModel" "thrown" "I") (by decide +kernel)) (fun _ h9 => h9) rfl (by decide +kernel) rfl rfl (Nat.le_of_ble_eq_true rfl) dX4_byteAt_2 (fun H locs hP hD hS => ?_)
  have hP : va_P G vwCl (wM q k 0 (fun _ => 0) g7 g8) H := hP
  have hD : va_D A (wM q k 0 (fun _ => 0) g7 g8) := hD
  refine lv_iload_n hx hb dX4_byteAt_5 rfl (lv_at hl 1 rfl) ?_
  refine br_call (W.runS (As := [.int p0]) (rest := []) ⟨hx, hb, hml, hown, hts⟩ (m_isNode_f l p0 h) (va_cwS 1 hts gX4_byteAt_X4_isNode rfl rfl rfl (by decide +kernel) ⟨(Nat.le_of_ble_eq_true rfl), (Nat.le_of_ble_eq_true rfl)⟩) (P0.preS) rfl rfl hl.1 rfl (lv_room (Nat.le_of_ble_eq_true rfl)) dX4_byteAt_6 ⟨(Nat.le_of_ble_eq_true rfl), (Nat.le_of_ble_eq_true rfl)⟩) ?_
  refine lv_if_eq (tgt := 32) hx hb dX4_byteAt_9 (by decide) (fun _ => ?_) (fun c9 => absurd rfl c9)
  refine lv_aload_n hx hb dX4_byteAt_32 rfl (lv_at hl 0 rfl) ?_
  refine lv_iconst (v := 1) hx hb dX4_byteAt_33 (by decide) ?_
  refine mf_call (va_runV (As := [.int 1]) (rest := []) ⟨hx, hb, hml, hown, hts⟩ (c_fail l G k _ (q 0) 0 _ 1) (cwV 1 hts gX4_byteAt_X4_fail rfl rfl rfl (by decide +kernel) ⟨(Nat.le_of_ble_eq_true rfl), (Nat.le_of_ble_eq_true rfl)⟩) (mf_pre hK hP) rfl rfl hl.1 rfl (lv_room (Nat.le_of_ble_eq_true rfl)) dX4_byteAt_34 ⟨(Nat.le_of_ble_eq_true rfl), (Nat.le_of_ble_eq_true rfl)⟩) hS hD rfl hA (fun H locs hP hS => ?_)
  exact W.iret (v := 0) hx hb hr (fun t ht hW => ⟨⟨0, (), rfl, fun h => absurd h (by decide), _, by rw [ht]; exact hP⟩, hS.F ht⟩) hS.2.2 dX4_byteAt_37
set_option maxHeartbeats 4000000 in
set_option maxRecDepth 100000 in
/-- the reference: link, bad -/
theorem cM_link_bad (l : Launch) (G : va_G) (k : Nat → ClassId) (sz : Nat) (q : Nat → Nat) (g7 g8 : Nat → Int32) (p0 : Int32) (h : bdN p0) (p1 p2 : Int32) : Met l yX4_link wsX4_link (rzk 2 0 0) (MP G k sz q g7 g8 [.ref (q 0), .int p0, .int p1, .int p2]) (MQl G q 1 0 (va_A (wM q k 0 (fun _ => 0) g7 g8) sz)) 0 0 (va_A (wM q k 0 (fun _ => 0) g7 g8) sz) := by
  refine Met.ofW (cc := cX4_link) (maxL := 4) (ret := (some .int)) (by decide) rfl ?_
  intro p e s m args below meth c s₁ B hml hv
  obtain ⟨rfl, hsz, hP, hK, hD0⟩ := hv
  subst hsz
  have hD := hD0.self (sz := s.heap.size)
  generalize hAe : va_A (wM q k 0 (fun _ => 0) g7 g8) s.heap.size = A at hD ⊢
  have hA : ∀ q : Nat, s.heap.size ≤ q → A q := fun q h => by rw [← hAe]; exact Or.inr h
  have hS : va_S A s.heap s.heap [] := va_S.rf
  have hx := B.exec
  have hb := B.bytes
  have hr := B.returns
  have hts := atoms_spec (ws := wsX4_link) B.pre
  have hown : s.vm.findClass RX4 = some m.cls := findClass_of_methodNamed B.named
  have hlocks := B.notSynchronized
  have hl := lv_entry ([.ref (q 0), .int p0, .int p1, .int p2]) (n := 4) (Nat.le_of_ble_eq_true rfl)
  rw [lg_entry_eq]
  generalize (lg_sl ([.ref (q 0), .int p0, .int p1, .int p2]) ++ List.replicate (4 - (lg_sl ([.ref (q 0), .int p0, .int p1, .int p2])).length) Slot.unset).toArray = ls at hl ⊢
  have hl : lv_has ls 4 [(0, .ref (q 0)), (1, .int p0), (2, .int p1), (3, .int p2)] := hl
  refine lv_aload_n hx hb dX4_link_0 rfl (lv_at hl 0 rfl) ?_
  refine lv_iconst (v := 0) hx hb dX4_link_1 (by decide) ?_
  refine va_put (D := G) (ci := 4) (v := .int 0) (ty := .int) (C := RX4) (T := TX4) (N := 21) hx hb hts (fun _ h => List.mem_cons_of_mem _ (List.mem_append_right _ h)) tyX4 tyX4_ok nmX4 hown hK hP hD hS 0 rfl rfl 0 (by decide) (hts (.fieldLink RX4 65 "ShippedLogModel" "thrown" "I") (by decide +kernel)) (fun _ h9 => h9) rfl (by decide +kernel) rfl rfl (Nat.le_of_ble_eq_true rfl) dX4_link_2 (fun H locs hP hD hS => ?_)
  have hP : va_P G vwCl (wM q k 0 (fun _ => 0) g7 g8) H := hP
  have hD : va_D A (wM q k 0 (fun _ => 0) g7 g8) := hD
  refine lv_iload_n hx hb dX4_link_5 rfl (lv_at hl 1 rfl) ?_
  refine br_call (W.runS (As := [.int p0]) (rest := []) ⟨hx, hb, hml, hown, hts⟩ (m_isNode_f l p0 h) (va_cwS 1 hts gX4_link_X4_isNode rfl rfl rfl (by decide +kernel) ⟨(Nat.le_of_ble_eq_true rfl), (Nat.le_of_ble_eq_true rfl)⟩) (P0.preS) rfl rfl hl.1 rfl (lv_room (Nat.le_of_ble_eq_true rfl)) dX4_link_6 ⟨(Nat.le_of_ble_eq_true rfl), (Nat.le_of_ble_eq_true rfl)⟩) ?_
  refine lv_if_eq (tgt := 28) hx hb dX4_link_9 (by decide) (fun _ => ?_) (fun c9 => absurd rfl c9)
  refine lv_aload_n hx hb dX4_link_28 rfl (lv_at hl 0 rfl) ?_
  refine lv_iconst (v := 1) hx hb dX4_link_29 (by decide) ?_
  refine mf_call (va_runV (As := [.int 1]) (rest := []) ⟨hx, hb, hml, hown, hts⟩ (c_fail l G k _ (q 0) 0 _ 1) (cwV 1 hts gX4_link_X4_fail rfl rfl rfl (by decide +kernel) ⟨(Nat.le_of_ble_eq_true rfl), (Nat.le_of_ble_eq_true rfl)⟩) (mf_pre hK hP) rfl rfl hl.1 rfl (lv_room (Nat.le_of_ble_eq_true rfl)) dX4_link_30 ⟨(Nat.le_of_ble_eq_true rfl), (Nat.le_of_ble_eq_true rfl)⟩) hS hD rfl hA (fun H locs hP hS => ?_)
  exact W.iret (v := 0) hx hb hr (fun t ht hW => ⟨⟨0, (), rfl, fun h => absurd h (by decide), _, by rw [ht]; exact hP⟩, hS.F ht⟩) hS.2.2 dX4_link_33
set_option maxHeartbeats 4000000 in
set_option maxRecDepth 100000 in
/-- the reference: crash, neg -/
theorem cM_crash_neg (l : Launch) (G : va_G) (k : Nat → ClassId) (sz : Nat) (q : Nat → Nat) (g7 g8 : Nat → Int32) (j : Nat) (hj : j < 4) (p1 : Int32) (h : p1 < 0) : Met l yX4_crash wsX4_crash (rzk 2 0 0) (MP G k sz q g7 g8 [.ref (q 0), .int (nI j), .int p1]) (MQl G q 2 0 (va_A (wM q k 0 (fun _ => 0) g7 g8) sz)) 0 0 (va_A (wM q k 0 (fun _ => 0) g7 g8) sz) := by
  refine Met.ofW (cc := cX4_crash) (maxL := 5) (ret := (some .int)) (by decide) rfl ?_
  intro p e s m args below meth c s₁ B hml hv
  obtain ⟨rfl, hsz, hP, hK, hD0⟩ := hv
  subst hsz
  have hD := hD0.self (sz := s.heap.size)
  generalize hAe : va_A (wM q k 0 (fun _ => 0) g7 g8) s.heap.size = A at hD ⊢
  have hA : ∀ q : Nat, s.heap.size ≤ q → A q := fun q h => by rw [← hAe]; exact Or.inr h
  have hS : va_S A s.heap s.heap [] := va_S.rf
  have hx := B.exec
  have hb := B.bytes
  have hr := B.returns
  have hts := atoms_spec (ws := wsX4_crash) B.pre
  have hown : s.vm.findClass RX4 = some m.cls := findClass_of_methodNamed B.named
  have hlocks := B.notSynchronized
  have hl := lv_entry ([.ref (q 0), .int (nI j), .int p1]) (n := 5) (Nat.le_of_ble_eq_true rfl)
  rw [lg_entry_eq]
  generalize (lg_sl ([.ref (q 0), .int (nI j), .int p1]) ++ List.replicate (5 - (lg_sl ([.ref (q 0), .int (nI j), .int p1])).length) Slot.unset).toArray = ls at hl ⊢
  have hl : lv_has ls 5 [(0, .ref (q 0)), (1, .int (nI j)), (2, .int p1)] := hl
  refine lv_aload_n hx hb dX4_crash_0 rfl (lv_at hl 0 rfl) ?_
  refine lv_iconst (v := 0) hx hb dX4_crash_1 (by decide) ?_
  refine va_put (D := G) (ci := 4) (v := .int 0) (ty := .int) (C := RX4) (T := TX4) (N := 21) hx hb hts (fun _ h => List.mem_cons_of_mem _ (List.mem_append_right _ h)) tyX4 tyX4_ok nmX4 hown hK hP hD hS 0 rfl rfl 0 (by decide) (hts (.fieldLink RX4 65 "ShippedLogModel" "thrown" "I") (by decide +kernel)) (fun _ h9 => h9) rfl (by decide +kernel) rfl rfl (Nat.le_of_ble_eq_true rfl) dX4_crash_2 (fun H locs hP hD hS => ?_)
  have hP : va_P G vwCl (wM q k 0 (fun _ => 0) g7 g8) H := hP
  have hD : va_D A (wM q k 0 (fun _ => 0) g7 g8) := hD
  refine lv_iload_n hx hb dX4_crash_5 rfl (lv_at hl 1 rfl) ?_
  refine br_call (W.runS (As := [.int (nI j)]) (rest := []) ⟨hx, hb, hml, hown, hts⟩ (m_isNode_t l j hj) (va_cwS 1 hts gX4_crash_X4_isNode rfl rfl rfl (by decide +kernel) ⟨(Nat.le_of_ble_eq_true rfl), (Nat.le_of_ble_eq_true rfl)⟩) (P0.preS) rfl rfl hl.1 rfl (lv_room (Nat.le_of_ble_eq_true rfl)) dX4_crash_6 ⟨(Nat.le_of_ble_eq_true rfl), (Nat.le_of_ble_eq_true rfl)⟩) ?_
  refine lv_if_ne (tgt := 18) hx hb dX4_crash_9 (by decide) (fun _ => ?_) (fun c9 => absurd c9 (by decide : ¬ (1 : Int32) = 0))
  refine lv_iload_n hx hb dX4_crash_18 rfl (lv_at hl 2 rfl) ?_
  refine lv_if_ge (tgt := 28) hx hb dX4_crash_19 (by decide) (fun c9 => absurd c9 (Int32.not_le.mpr h)) (fun _ => ?_)
  refine lv_aload_n hx hb dX4_crash_22 rfl (lv_at hl 0 rfl) ?_
  refine lv_iconst (v := 2) hx hb dX4_crash_23 (by decide) ?_
  refine mf_call (va_runV (As := [.int 2]) (rest := []) ⟨hx, hb, hml, hown, hts⟩ (c_fail l G k _ (q 0) 0 _ 2) (cwV 1 hts gX4_crash_X4_fail rfl rfl rfl (by decide +kernel) ⟨(Nat.le_of_ble_eq_true rfl), (Nat.le_of_ble_eq_true rfl)⟩) (mf_pre hK hP) rfl rfl hl.1 rfl (lv_room (Nat.le_of_ble_eq_true rfl)) dX4_crash_24 ⟨(Nat.le_of_ble_eq_true rfl), (Nat.le_of_ble_eq_true rfl)⟩) hS hD rfl hA (fun H locs hP hS => ?_)
  exact W.iret (v := 0) hx hb hr (fun t ht hW => ⟨⟨0, (), rfl, fun h => absurd h (by decide), _, by rw [ht]; exact hP⟩, hS.F ht⟩) hS.2.2 dX4_crash_27
set_option maxHeartbeats 4000000 in
set_option maxRecDepth 100000 in
/-- the reference: crash, down -/
theorem cM_crash_down (l : Launch) (G : va_G) (k : Nat → ClassId) (sz : Nat) (q : Nat → Nat) (g7 g8 : Nat → Int32) (j : Nat) (hj : j < 4) (p1 : Int32) (h : ¬ p1 < 0) : Met l yX4_crash wsX4_crash (rzk 2 0 0) (MP G k sz q g7 g8 [.ref (q 0), .int (nI j), .int p1]) (MQl G q 3 0 (va_A (wM q k 0 (fun _ => 0) g7 g8) sz)) 0 0 (va_A (wM q k 0 (fun _ => 0) g7 g8) sz) := by
  refine Met.ofW (cc := cX4_crash) (maxL := 5) (ret := (some .int)) (by decide) rfl ?_
  intro p e s m args below meth c s₁ B hml hv
  obtain ⟨rfl, hsz, hP, hK, hD0⟩ := hv
  subst hsz
  have hD := hD0.self (sz := s.heap.size)
  generalize hAe : va_A (wM q k 0 (fun _ => 0) g7 g8) s.heap.size = A at hD ⊢
  have hA : ∀ q : Nat, s.heap.size ≤ q → A q := fun q h => by rw [← hAe]; exact Or.inr h
  have hS : va_S A s.heap s.heap [] := va_S.rf
  have hx := B.exec
  have hb := B.bytes
  have hr := B.returns
  have hts := atoms_spec (ws := wsX4_crash) B.pre
  have hown : s.vm.findClass RX4 = some m.cls := findClass_of_methodNamed B.named
  have hlocks := B.notSynchronized
  have hl := lv_entry ([.ref (q 0), .int (nI j), .int p1]) (n := 5) (Nat.le_of_ble_eq_true rfl)
  rw [lg_entry_eq]
  generalize (lg_sl ([.ref (q 0), .int (nI j), .int p1]) ++ List.replicate (5 - (lg_sl ([.ref (q 0), .int (nI j), .int p1])).length) Slot.unset).toArray = ls at hl ⊢
  have hl : lv_has ls 5 [(0, .ref (q 0)), (1, .int (nI j)), (2, .int p1)] := hl
  refine lv_aload_n hx hb dX4_crash_0 rfl (lv_at hl 0 rfl) ?_
  refine lv_iconst (v := 0) hx hb dX4_crash_1 (by decide) ?_
  refine va_put (D := G) (ci := 4) (v := .int 0) (ty := .int) (C := RX4) (T := TX4) (N := 21) hx hb hts (fun _ h => List.mem_cons_of_mem _ (List.mem_append_right _ h)) tyX4 tyX4_ok nmX4 hown hK hP hD hS 0 rfl rfl 0 (by decide) (hts (.fieldLink RX4 65 "ShippedLogModel" "thrown" "I") (by decide +kernel)) (fun _ h9 => h9) rfl (by decide +kernel) rfl rfl (Nat.le_of_ble_eq_true rfl) dX4_crash_2 (fun H locs hP hD hS => ?_)
  have hP : va_P G vwCl (wM q k 0 (fun _ => 0) g7 g8) H := hP
  have hD : va_D A (wM q k 0 (fun _ => 0) g7 g8) := hD
  refine lv_iload_n hx hb dX4_crash_5 rfl (lv_at hl 1 rfl) ?_
  refine br_call (W.runS (As := [.int (nI j)]) (rest := []) ⟨hx, hb, hml, hown, hts⟩ (m_isNode_t l j hj) (va_cwS 1 hts gX4_crash_X4_isNode rfl rfl rfl (by decide +kernel) ⟨(Nat.le_of_ble_eq_true rfl), (Nat.le_of_ble_eq_true rfl)⟩) (P0.preS) rfl rfl hl.1 rfl (lv_room (Nat.le_of_ble_eq_true rfl)) dX4_crash_6 ⟨(Nat.le_of_ble_eq_true rfl), (Nat.le_of_ble_eq_true rfl)⟩) ?_
  refine lv_if_ne (tgt := 18) hx hb dX4_crash_9 (by decide) (fun _ => ?_) (fun c9 => absurd c9 (by decide : ¬ (1 : Int32) = 0))
  refine lv_iload_n hx hb dX4_crash_18 rfl (lv_at hl 2 rfl) ?_
  refine lv_if_ge (tgt := 28) hx hb dX4_crash_19 (by decide) (fun _ => ?_) (fun c9 => absurd (Int32.not_lt.mp h) c9)
  refine lv_aload_n hx hb dX4_crash_28 rfl (lv_at hl 0 rfl) ?_
  refine va_get (D := G) (ci := 4) (v := .ref (q 3)) (C := RX4) (T := TX4) (N := 21) hx hb hts (fun _ h => List.mem_cons_of_mem _ (List.mem_append_right _ h)) hown hK hP 0 rfl rfl 4 (by decide) (hts (.fieldLink RX4 16 "ShippedLogModel" "role" "[I") (by decide +kernel)) (fun _ h9 => h9) rfl dX4_crash_29 ?_
  refine lv_iload_n hx hb dX4_crash_32 rfl (lv_at hl 1 rfl) ?_
  refine va_iald hx hb hK hP 3 3 rfl rfl (vp_in_nI hj (by decide)) dX4_crash_33 ?_
  refine lv_if_ne (tgt := 43) hx hb dX4_crash_34 (by decide) (fun c9 => absurd rfl c9) (fun _ => ?_)
  refine lv_aload_n hx hb dX4_crash_37 rfl (lv_at hl 0 rfl) ?_
  refine lv_iconst (v := 3) hx hb dX4_crash_38 (by decide) ?_
  refine mf_call (va_runV (As := [.int 3]) (rest := []) ⟨hx, hb, hml, hown, hts⟩ (c_fail l G k _ (q 0) 0 _ 3) (cwV 1 hts gX4_crash_X4_fail rfl rfl rfl (by decide +kernel) ⟨(Nat.le_of_ble_eq_true rfl), (Nat.le_of_ble_eq_true rfl)⟩) (mf_pre hK hP) rfl rfl hl.1 rfl (lv_room (Nat.le_of_ble_eq_true rfl)) dX4_crash_39 ⟨(Nat.le_of_ble_eq_true rfl), (Nat.le_of_ble_eq_true rfl)⟩) hS hD rfl hA (fun H locs hP hS => ?_)
  exact W.iret (v := 0) hx hb hr (fun t ht hW => ⟨⟨0, (), rfl, fun h => absurd h (by decide), _, by rw [ht]; exact hP⟩, hS.F ht⟩) hS.2.2 dX4_crash_42
set_option maxHeartbeats 4000000 in
set_option maxRecDepth 100000 in
/-- the reference: promote, down -/
theorem cM_promote_down (l : Launch) (G : va_G) (k : Nat → ClassId) (sz : Nat) (q : Nat → Nat) (g7 g8 : Nat → Int32) (j : Nat) (hj : j < 4) : Met l yX4_promote wsX4_promote (rzk 2 0 0) (MP G k sz q g7 g8 [.ref (q 0), .int (nI j)]) (MQl G q 2 0 (va_A (wM q k 0 (fun _ => 0) g7 g8) sz)) 0 0 (va_A (wM q k 0 (fun _ => 0) g7 g8) sz) := by
  refine Met.ofW (cc := cX4_promote) (maxL := 2) (ret := (some .int)) (by decide) rfl ?_
  intro p e s m args below meth c s₁ B hml hv
  obtain ⟨rfl, hsz, hP, hK, hD0⟩ := hv
  subst hsz
  have hD := hD0.self (sz := s.heap.size)
  generalize hAe : va_A (wM q k 0 (fun _ => 0) g7 g8) s.heap.size = A at hD ⊢
  have hA : ∀ q : Nat, s.heap.size ≤ q → A q := fun q h => by rw [← hAe]; exact Or.inr h
  have hS : va_S A s.heap s.heap [] := va_S.rf
  have hx := B.exec
  have hb := B.bytes
  have hr := B.returns
  have hts := atoms_spec (ws := wsX4_promote) B.pre
  have hown : s.vm.findClass RX4 = some m.cls := findClass_of_methodNamed B.named
  have hlocks := B.notSynchronized
  have hl := lv_entry ([.ref (q 0), .int (nI j)]) (n := 2) (Nat.le_of_ble_eq_true rfl)
  rw [lg_entry_eq]
  generalize (lg_sl ([.ref (q 0), .int (nI j)]) ++ List.replicate (2 - (lg_sl ([.ref (q 0), .int (nI j)])).length) Slot.unset).toArray = ls at hl ⊢
  have hl : lv_has ls 2 [(0, .ref (q 0)), (1, .int (nI j))] := hl
  refine lv_aload_n hx hb dX4_promote_0 rfl (lv_at hl 0 rfl) ?_
  refine lv_iconst (v := 0) hx hb dX4_promote_1 (by decide) ?_
  refine va_put (D := G) (ci := 4) (v := .int 0) (ty := .int) (C := RX4) (T := TX4) (N := 21) hx hb hts (fun _ h => List.mem_cons_of_mem _ (List.mem_append_right _ h)) tyX4 tyX4_ok nmX4 hown hK hP hD hS 0 rfl rfl 0 (by decide) (hts (.fieldLink RX4 65 "ShippedLogModel" "thrown" "I") (by decide +kernel)) (fun _ h9 => h9) rfl (by decide +kernel) rfl rfl (Nat.le_of_ble_eq_true rfl) dX4_promote_2 (fun H locs hP hD hS => ?_)
  have hP : va_P G vwCl (wM q k 0 (fun _ => 0) g7 g8) H := hP
  have hD : va_D A (wM q k 0 (fun _ => 0) g7 g8) := hD
  refine lv_iload_n hx hb dX4_promote_5 rfl (lv_at hl 1 rfl) ?_
  refine br_call (W.runS (As := [.int (nI j)]) (rest := []) ⟨hx, hb, hml, hown, hts⟩ (m_isNode_t l j hj) (va_cwS 1 hts gX4_promote_X4_isNode rfl rfl rfl (by decide +kernel) ⟨(Nat.le_of_ble_eq_true rfl), (Nat.le_of_ble_eq_true rfl)⟩) (P0.preS) rfl rfl hl.1 rfl (lv_room (Nat.le_of_ble_eq_true rfl)) dX4_promote_6 ⟨(Nat.le_of_ble_eq_true rfl), (Nat.le_of_ble_eq_true rfl)⟩) ?_
  refine lv_if_ne (tgt := 18) hx hb dX4_promote_9 (by decide) (fun _ => ?_) (fun c9 => absurd c9 (by decide : ¬ (1 : Int32) = 0))
  refine lv_aload_n hx hb dX4_promote_18 rfl (lv_at hl 0 rfl) ?_
  refine va_get (D := G) (ci := 4) (v := .ref (q 3)) (C := RX4) (T := TX4) (N := 21) hx hb hts (fun _ h => List.mem_cons_of_mem _ (List.mem_append_right _ h)) hown hK hP 0 rfl rfl 4 (by decide) (hts (.fieldLink RX4 16 "ShippedLogModel" "role" "[I") (by decide +kernel)) (fun _ h9 => h9) rfl dX4_promote_19 ?_
  refine lv_iload_n hx hb dX4_promote_22 rfl (lv_at hl 1 rfl) ?_
  refine va_iald hx hb hK hP 3 3 rfl rfl (vp_in_nI hj (by decide)) dX4_promote_23 ?_
  refine lv_if_eq (tgt := 37) hx hb dX4_promote_24 (by decide) (fun _ => ?_) (fun c9 => absurd rfl c9)
  refine lv_aload_n hx hb dX4_promote_37 rfl (lv_at hl 0 rfl) ?_
  refine lv_iconst (v := 2) hx hb dX4_promote_38 (by decide) ?_
  refine mf_call (va_runV (As := [.int 2]) (rest := []) ⟨hx, hb, hml, hown, hts⟩ (c_fail l G k _ (q 0) 0 _ 2) (cwV 1 hts gX4_promote_X4_fail rfl rfl rfl (by decide +kernel) ⟨(Nat.le_of_ble_eq_true rfl), (Nat.le_of_ble_eq_true rfl)⟩) (mf_pre hK hP) rfl rfl hl.1 rfl (lv_room (Nat.le_of_ble_eq_true rfl)) dX4_promote_39 ⟨(Nat.le_of_ble_eq_true rfl), (Nat.le_of_ble_eq_true rfl)⟩) hS hD rfl hA (fun H locs hP hS => ?_)
  exact W.iret (v := 0) hx hb hr (fun t ht hW => ⟨⟨0, (), rfl, fun h => absurd h (by decide), _, by rw [ht]; exact hP⟩, hS.F ht⟩) hS.2.2 dX4_promote_42
set_option maxHeartbeats 4000000 in
set_option maxRecDepth 100000 in
/-- the reference: follow, bad2 -/
theorem cM_follow_bad2 (l : Launch) (G : va_G) (k : Nat → ClassId) (sz : Nat) (q : Nat → Nat) (g7 g8 : Nat → Int32) (i : Nat) (hi : i < 4) (p1 : Int32) (h : bdN p1) : Met l yX4_follow wsX4_follow (rzk 2 0 0) (MP G k sz q g7 g8 [.ref (q 0), .int (nI i), .int p1]) (MQv G q 1 (va_A (wM q k 0 (fun _ => 0) g7 g8) sz)) 0 0 (va_A (wM q k 0 (fun _ => 0) g7 g8) sz) := by
  refine Met.ofW (cc := cX4_follow) (maxL := 3) (ret := none) (by decide) rfl ?_
  intro p e s m args below meth c s₁ B hml hv
  obtain ⟨rfl, hsz, hP, hK, hD0⟩ := hv
  subst hsz
  have hD := hD0.self (sz := s.heap.size)
  generalize hAe : va_A (wM q k 0 (fun _ => 0) g7 g8) s.heap.size = A at hD ⊢
  have hA : ∀ q : Nat, s.heap.size ≤ q → A q := fun q h => by rw [← hAe]; exact Or.inr h
  have hS : va_S A s.heap s.heap [] := va_S.rf
  have hx := B.exec
  have hb := B.bytes
  have hr := B.returns
  have hts := atoms_spec (ws := wsX4_follow) B.pre
  have hown : s.vm.findClass RX4 = some m.cls := findClass_of_methodNamed B.named
  have hlocks := B.notSynchronized
  have hl := lv_entry ([.ref (q 0), .int (nI i), .int p1]) (n := 3) (Nat.le_of_ble_eq_true rfl)
  rw [lg_entry_eq]
  generalize (lg_sl ([.ref (q 0), .int (nI i), .int p1]) ++ List.replicate (3 - (lg_sl ([.ref (q 0), .int (nI i), .int p1])).length) Slot.unset).toArray = ls at hl ⊢
  have hl : lv_has ls 3 [(0, .ref (q 0)), (1, .int (nI i)), (2, .int p1)] := hl
  refine lv_aload_n hx hb dX4_follow_0 rfl (lv_at hl 0 rfl) ?_
  refine lv_iload_n hx hb dX4_follow_1 rfl (lv_at hl 1 rfl) ?_
  refine br_call (W.runS (As := [.int (nI i)]) (rest := [.ref (q 0)]) ⟨hx, hb, hml, hown, hts⟩ (m_isNode_t l i hi) (va_cwS 1 hts gX4_follow_X4_isNode rfl rfl rfl (by decide +kernel) ⟨(Nat.le_of_ble_eq_true rfl), (Nat.le_of_ble_eq_true rfl)⟩) (P0.preS) rfl rfl hl.1 rfl (lv_room (Nat.le_of_ble_eq_true rfl)) dX4_follow_2 ⟨(Nat.le_of_ble_eq_true rfl), (Nat.le_of_ble_eq_true rfl)⟩) ?_
  refine lv_if_eq (tgt := 15) hx hb dX4_follow_5 (by decide) (fun c9 => absurd c9 (by decide : ¬ (1 : Int32) = 0)) (fun _ => ?_)
  refine lv_iload_n hx hb dX4_follow_8 rfl (lv_at hl 2 rfl) ?_
  refine br_call (W.runS (As := [.int p1]) (rest := [.ref (q 0)]) ⟨hx, hb, hml, hown, hts⟩ (m_isNode_f l p1 h) (va_cwS 1 hts gX4_follow_X4_isNode rfl rfl rfl (by decide +kernel) ⟨(Nat.le_of_ble_eq_true rfl), (Nat.le_of_ble_eq_true rfl)⟩) (P0.preS) rfl rfl hl.1 rfl (lv_room (Nat.le_of_ble_eq_true rfl)) dX4_follow_9 ⟨(Nat.le_of_ble_eq_true rfl), (Nat.le_of_ble_eq_true rfl)⟩) ?_
  refine lv_if_ne (tgt := 19) hx hb dX4_follow_12 (by decide) (fun c9 => absurd rfl c9) (fun _ => ?_)
  refine lv_iconst (v := 1) hx hb dX4_follow_15 (by decide) ?_
  refine lv_goto (tgt := 72) hx hb dX4_follow_16 (by decide) ?_
  refine va_put (D := G) (ci := 4) (v := .int 1) (ty := .int) (C := RX4) (T := TX4) (N := 21) hx hb hts (fun _ h => List.mem_cons_of_mem _ (List.mem_append_right _ h)) tyX4 tyX4_ok nmX4 hown hK hP hD hS 0 rfl rfl 0 (by decide) (hts (.fieldLink RX4 65 "ShippedLogModel" "thrown" "I") (by decide +kernel)) (fun _ h9 => h9) rfl (by decide +kernel) rfl rfl (Nat.le_of_ble_eq_true rfl) dX4_follow_72 (fun H locs hP hD hS => ?_)
  have hP : va_P G vwCl (wM q k 1 (fun _ => 0) g7 g8) H := hP
  have hD : va_D A (wM q k 1 (fun _ => 0) g7 g8) := hD
  refine lv_aload_n hx hb dX4_follow_75 rfl (lv_at hl 0 rfl) ?_
  refine va_get (D := G) (ci := 4) (v := .int 1) (C := RX4) (T := TX4) (N := 21) hx hb hts (fun _ h => List.mem_cons_of_mem _ (List.mem_append_right _ h)) hown hK hP 0 rfl rfl 0 (by decide) (hts (.fieldLink RX4 65 "ShippedLogModel" "thrown" "I") (by decide +kernel)) (fun _ h9 => h9) rfl dX4_follow_76 ?_
  refine lv_if_ne (tgt := 88) hx hb dX4_follow_79 (by decide) (fun _ => ?_) (fun c9 => absurd c9 (by decide : ¬ (1 : Int32) = 0))
  exact W.vret hx hb hr (fun t ht hW => ⟨⟨(), rfl, trivial, _, by rw [ht]; exact hP.hd⟩, hS.F ht⟩) hS.2.2 dX4_follow_88
set_option maxHeartbeats 4000000 in
set_option maxRecDepth 100000 in
/-- the reference: rewind, bad2 -/
theorem cM_rewind_bad2 (l : Launch) (G : va_G) (k : Nat → ClassId) (sz : Nat) (q : Nat → Nat) (g7 g8 : Nat → Int32) (i : Nat) (hi : i < 4) (p1 : Int32) (h : bdN p1) : Met l yX4_rewind wsX4_rewind (rzk 2 0 0) (MP G k sz q g7 g8 [.ref (q 0), .int (nI i), .int p1]) (MQl G q 1 0 (va_A (wM q k 0 (fun _ => 0) g7 g8) sz)) 0 0 (va_A (wM q k 0 (fun _ => 0) g7 g8) sz) := by
  refine Met.ofW (cc := cX4_rewind) (maxL := 6) (ret := (some .int)) (by decide) rfl ?_
  intro p e s m args below meth c s₁ B hml hv
  obtain ⟨rfl, hsz, hP, hK, hD0⟩ := hv
  subst hsz
  have hD := hD0.self (sz := s.heap.size)
  generalize hAe : va_A (wM q k 0 (fun _ => 0) g7 g8) s.heap.size = A at hD ⊢
  have hA : ∀ q : Nat, s.heap.size ≤ q → A q := fun q h => by rw [← hAe]; exact Or.inr h
  have hS : va_S A s.heap s.heap [] := va_S.rf
  have hx := B.exec
  have hb := B.bytes
  have hr := B.returns
  have hts := atoms_spec (ws := wsX4_rewind) B.pre
  have hown : s.vm.findClass RX4 = some m.cls := findClass_of_methodNamed B.named
  have hlocks := B.notSynchronized
  have hl := lv_entry ([.ref (q 0), .int (nI i), .int p1]) (n := 6) (Nat.le_of_ble_eq_true rfl)
  rw [lg_entry_eq]
  generalize (lg_sl ([.ref (q 0), .int (nI i), .int p1]) ++ List.replicate (6 - (lg_sl ([.ref (q 0), .int (nI i), .int p1])).length) Slot.unset).toArray = ls at hl ⊢
  have hl : lv_has ls 6 [(0, .ref (q 0)), (1, .int (nI i)), (2, .int p1)] := hl
  refine lv_aload_n hx hb dX4_rewind_0 rfl (lv_at hl 0 rfl) ?_
  refine lv_iconst (v := 0) hx hb dX4_rewind_1 (by decide) ?_
  refine va_put (D := G) (ci := 4) (v := .int 0) (ty := .int) (C := RX4) (T := TX4) (N := 21) hx hb hts (fun _ h => List.mem_cons_of_mem _ (List.mem_append_right _ h)) tyX4 tyX4_ok nmX4 hown hK hP hD hS 0 rfl rfl 0 (by decide) (hts (.fieldLink RX4 65 "ShippedLogModel" "thrown" "I") (by decide +kernel)) (fun _ h9 => h9) rfl (by decide +kernel) rfl rfl (Nat.le_of_ble_eq_true rfl) dX4_rewind_2 (fun H locs hP hD hS => ?_)
  have hP : va_P G vwCl (wM q k 0 (fun _ => 0) g7 g8) H := hP
  have hD : va_D A (wM q k 0 (fun _ => 0) g7 g8) := hD
  refine lv_iload_n hx hb dX4_rewind_5 rfl (lv_at hl 1 rfl) ?_
  refine br_call (W.runS (As := [.int (nI i)]) (rest := []) ⟨hx, hb, hml, hown, hts⟩ (m_isNode_t l i hi) (va_cwS 1 hts gX4_rewind_X4_isNode rfl rfl rfl (by decide +kernel) ⟨(Nat.le_of_ble_eq_true rfl), (Nat.le_of_ble_eq_true rfl)⟩) (P0.preS) rfl rfl hl.1 rfl (lv_room (Nat.le_of_ble_eq_true rfl)) dX4_rewind_6 ⟨(Nat.le_of_ble_eq_true rfl), (Nat.le_of_ble_eq_true rfl)⟩) ?_
  refine lv_if_eq (tgt := 19) hx hb dX4_rewind_9 (by decide) (fun c9 => absurd c9 (by decide : ¬ (1 : Int32) = 0)) (fun _ => ?_)
  refine lv_iload_n hx hb dX4_rewind_12 rfl (lv_at hl 2 rfl) ?_
  refine br_call (W.runS (As := [.int p1]) (rest := []) ⟨hx, hb, hml, hown, hts⟩ (m_isNode_f l p1 h) (va_cwS 1 hts gX4_rewind_X4_isNode rfl rfl rfl (by decide +kernel) ⟨(Nat.le_of_ble_eq_true rfl), (Nat.le_of_ble_eq_true rfl)⟩) (P0.preS) rfl rfl hl.1 rfl (lv_room (Nat.le_of_ble_eq_true rfl)) dX4_rewind_13 ⟨(Nat.le_of_ble_eq_true rfl), (Nat.le_of_ble_eq_true rfl)⟩) ?_
  refine lv_if_ne (tgt := 25) hx hb dX4_rewind_16 (by decide) (fun c9 => absurd rfl c9) (fun _ => ?_)
  refine lv_aload_n hx hb dX4_rewind_19 rfl (lv_at hl 0 rfl) ?_
  refine lv_iconst (v := 1) hx hb dX4_rewind_20 (by decide) ?_
  refine mf_call (va_runV (As := [.int 1]) (rest := []) ⟨hx, hb, hml, hown, hts⟩ (c_fail l G k _ (q 0) 0 _ 1) (cwV 1 hts gX4_rewind_X4_fail rfl rfl rfl (by decide +kernel) ⟨(Nat.le_of_ble_eq_true rfl), (Nat.le_of_ble_eq_true rfl)⟩) (mf_pre hK hP) rfl rfl hl.1 rfl (lv_room (Nat.le_of_ble_eq_true rfl)) dX4_rewind_21 ⟨(Nat.le_of_ble_eq_true rfl), (Nat.le_of_ble_eq_true rfl)⟩) hS hD rfl hA (fun H locs hP hS => ?_)
  exact W.iret (v := 0) hx hb hr (fun t ht hW => ⟨⟨0, (), rfl, fun h => absurd h (by decide), _, by rw [ht]; exact hP⟩, hS.F ht⟩) hS.2.2 dX4_rewind_24
set_option maxHeartbeats 4000000 in
set_option maxRecDepth 100000 in
/-- the reference: send, bad2 -/
theorem cM_send_bad2 (l : Launch) (G : va_G) (k : Nat → ClassId) (sz : Nat) (q : Nat → Nat) (g7 g8 : Nat → Int32) (i : Nat) (hi : i < 4) (p1 : Int32) (h : bdN p1) : Met l yX4_send wsX4_send (rzk 2 0 0) (MP G k sz q g7 g8 [.ref (q 0), .int (nI i), .int p1]) (MQl G q 1 0 (va_A (wM q k 0 (fun _ => 0) g7 g8) sz)) 0 0 (va_A (wM q k 0 (fun _ => 0) g7 g8) sz) := by
  refine Met.ofW (cc := cX4_send) (maxL := 5) (ret := (some .int)) (by decide) rfl ?_
  intro p e s m args below meth c s₁ B hml hv
  obtain ⟨rfl, hsz, hP, hK, hD0⟩ := hv
  subst hsz
  have hD := hD0.self (sz := s.heap.size)
  generalize hAe : va_A (wM q k 0 (fun _ => 0) g7 g8) s.heap.size = A at hD ⊢
  have hA : ∀ q : Nat, s.heap.size ≤ q → A q := fun q h => by rw [← hAe]; exact Or.inr h
  have hS : va_S A s.heap s.heap [] := va_S.rf
  have hx := B.exec
  have hb := B.bytes
  have hr := B.returns
  have hts := atoms_spec (ws := wsX4_send) B.pre
  have hown : s.vm.findClass RX4 = some m.cls := findClass_of_methodNamed B.named
  have hlocks := B.notSynchronized
  have hl := lv_entry ([.ref (q 0), .int (nI i), .int p1]) (n := 5) (Nat.le_of_ble_eq_true rfl)
  rw [lg_entry_eq]
  generalize (lg_sl ([.ref (q 0), .int (nI i), .int p1]) ++ List.replicate (5 - (lg_sl ([.ref (q 0), .int (nI i), .int p1])).length) Slot.unset).toArray = ls at hl ⊢
  have hl : lv_has ls 5 [(0, .ref (q 0)), (1, .int (nI i)), (2, .int p1)] := hl
  refine lv_aload_n hx hb dX4_send_0 rfl (lv_at hl 0 rfl) ?_
  refine lv_iconst (v := 0) hx hb dX4_send_1 (by decide) ?_
  refine va_put (D := G) (ci := 4) (v := .int 0) (ty := .int) (C := RX4) (T := TX4) (N := 21) hx hb hts (fun _ h => List.mem_cons_of_mem _ (List.mem_append_right _ h)) tyX4 tyX4_ok nmX4 hown hK hP hD hS 0 rfl rfl 0 (by decide) (hts (.fieldLink RX4 65 "ShippedLogModel" "thrown" "I") (by decide +kernel)) (fun _ h9 => h9) rfl (by decide +kernel) rfl rfl (Nat.le_of_ble_eq_true rfl) dX4_send_2 (fun H locs hP hD hS => ?_)
  have hP : va_P G vwCl (wM q k 0 (fun _ => 0) g7 g8) H := hP
  have hD : va_D A (wM q k 0 (fun _ => 0) g7 g8) := hD
  refine lv_iload_n hx hb dX4_send_5 rfl (lv_at hl 1 rfl) ?_
  refine br_call (W.runS (As := [.int (nI i)]) (rest := []) ⟨hx, hb, hml, hown, hts⟩ (m_isNode_t l i hi) (va_cwS 1 hts gX4_send_X4_isNode rfl rfl rfl (by decide +kernel) ⟨(Nat.le_of_ble_eq_true rfl), (Nat.le_of_ble_eq_true rfl)⟩) (P0.preS) rfl rfl hl.1 rfl (lv_room (Nat.le_of_ble_eq_true rfl)) dX4_send_6 ⟨(Nat.le_of_ble_eq_true rfl), (Nat.le_of_ble_eq_true rfl)⟩) ?_
  refine lv_if_eq (tgt := 19) hx hb dX4_send_9 (by decide) (fun c9 => absurd c9 (by decide : ¬ (1 : Int32) = 0)) (fun _ => ?_)
  refine lv_iload_n hx hb dX4_send_12 rfl (lv_at hl 2 rfl) ?_
  refine br_call (W.runS (As := [.int p1]) (rest := []) ⟨hx, hb, hml, hown, hts⟩ (m_isNode_f l p1 h) (va_cwS 1 hts gX4_send_X4_isNode rfl rfl rfl (by decide +kernel) ⟨(Nat.le_of_ble_eq_true rfl), (Nat.le_of_ble_eq_true rfl)⟩) (P0.preS) rfl rfl hl.1 rfl (lv_room (Nat.le_of_ble_eq_true rfl)) dX4_send_13 ⟨(Nat.le_of_ble_eq_true rfl), (Nat.le_of_ble_eq_true rfl)⟩) ?_
  refine lv_if_ne (tgt := 25) hx hb dX4_send_16 (by decide) (fun c9 => absurd rfl c9) (fun _ => ?_)
  refine lv_aload_n hx hb dX4_send_19 rfl (lv_at hl 0 rfl) ?_
  refine lv_iconst (v := 1) hx hb dX4_send_20 (by decide) ?_
  refine mf_call (va_runV (As := [.int 1]) (rest := []) ⟨hx, hb, hml, hown, hts⟩ (c_fail l G k _ (q 0) 0 _ 1) (cwV 1 hts gX4_send_X4_fail rfl rfl rfl (by decide +kernel) ⟨(Nat.le_of_ble_eq_true rfl), (Nat.le_of_ble_eq_true rfl)⟩) (mf_pre hK hP) rfl rfl hl.1 rfl (lv_room (Nat.le_of_ble_eq_true rfl)) dX4_send_21 ⟨(Nat.le_of_ble_eq_true rfl), (Nat.le_of_ble_eq_true rfl)⟩) hS hD rfl hA (fun H locs hP hS => ?_)
  exact W.iret (v := 0) hx hb hr (fun t ht hW => ⟨⟨0, (), rfl, fun h => absurd h (by decide), _, by rw [ht]; exact hP⟩, hS.F ht⟩) hS.2.2 dX4_send_24
set_option maxHeartbeats 4000000 in
set_option maxRecDepth 100000 in
/-- the reference: follow, down -/
theorem cM_follow_down (l : Launch) (G : va_G) (k : Nat → ClassId) (sz : Nat) (q : Nat → Nat) (g7 g8 : Nat → Int32) (i : Nat) (hi : i < 4) (j : Nat) (hj : j < 4) : Met l yX4_follow wsX4_follow (rzk 2 0 0) (MP G k sz q g7 g8 [.ref (q 0), .int (nI i), .int (nI j)]) (MQv G q 2 (va_A (wM q k 0 (fun _ => 0) g7 g8) sz)) 0 0 (va_A (wM q k 0 (fun _ => 0) g7 g8) sz) := by
  refine Met.ofW (cc := cX4_follow) (maxL := 3) (ret := none) (by decide) rfl ?_
  intro p e s m args below meth c s₁ B hml hv
  obtain ⟨rfl, hsz, hP, hK, hD0⟩ := hv
  subst hsz
  have hD := hD0.self (sz := s.heap.size)
  generalize hAe : va_A (wM q k 0 (fun _ => 0) g7 g8) s.heap.size = A at hD ⊢
  have hA : ∀ q : Nat, s.heap.size ≤ q → A q := fun q h => by rw [← hAe]; exact Or.inr h
  have hS : va_S A s.heap s.heap [] := va_S.rf
  have hx := B.exec
  have hb := B.bytes
  have hr := B.returns
  have hts := atoms_spec (ws := wsX4_follow) B.pre
  have hown : s.vm.findClass RX4 = some m.cls := findClass_of_methodNamed B.named
  have hlocks := B.notSynchronized
  have hl := lv_entry ([.ref (q 0), .int (nI i), .int (nI j)]) (n := 3) (Nat.le_of_ble_eq_true rfl)
  rw [lg_entry_eq]
  generalize (lg_sl ([.ref (q 0), .int (nI i), .int (nI j)]) ++ List.replicate (3 - (lg_sl ([.ref (q 0), .int (nI i), .int (nI j)])).length) Slot.unset).toArray = ls at hl ⊢
  have hl : lv_has ls 3 [(0, .ref (q 0)), (1, .int (nI i)), (2, .int (nI j))] := hl
  refine lv_aload_n hx hb dX4_follow_0 rfl (lv_at hl 0 rfl) ?_
  refine lv_iload_n hx hb dX4_follow_1 rfl (lv_at hl 1 rfl) ?_
  refine br_call (W.runS (As := [.int (nI i)]) (rest := [.ref (q 0)]) ⟨hx, hb, hml, hown, hts⟩ (m_isNode_t l i hi) (va_cwS 1 hts gX4_follow_X4_isNode rfl rfl rfl (by decide +kernel) ⟨(Nat.le_of_ble_eq_true rfl), (Nat.le_of_ble_eq_true rfl)⟩) (P0.preS) rfl rfl hl.1 rfl (lv_room (Nat.le_of_ble_eq_true rfl)) dX4_follow_2 ⟨(Nat.le_of_ble_eq_true rfl), (Nat.le_of_ble_eq_true rfl)⟩) ?_
  refine lv_if_eq (tgt := 15) hx hb dX4_follow_5 (by decide) (fun c9 => absurd c9 (by decide : ¬ (1 : Int32) = 0)) (fun _ => ?_)
  refine lv_iload_n hx hb dX4_follow_8 rfl (lv_at hl 2 rfl) ?_
  refine br_call (W.runS (As := [.int (nI j)]) (rest := [.ref (q 0)]) ⟨hx, hb, hml, hown, hts⟩ (m_isNode_t l j hj) (va_cwS 1 hts gX4_follow_X4_isNode rfl rfl rfl (by decide +kernel) ⟨(Nat.le_of_ble_eq_true rfl), (Nat.le_of_ble_eq_true rfl)⟩) (P0.preS) rfl rfl hl.1 rfl (lv_room (Nat.le_of_ble_eq_true rfl)) dX4_follow_9 ⟨(Nat.le_of_ble_eq_true rfl), (Nat.le_of_ble_eq_true rfl)⟩) ?_
  refine lv_if_ne (tgt := 19) hx hb dX4_follow_12 (by decide) (fun _ => ?_) (fun c9 => absurd c9 (by decide : ¬ (1 : Int32) = 0))
  refine lv_aload_n hx hb dX4_follow_19 rfl (lv_at hl 0 rfl) ?_
  refine va_get (D := G) (ci := 4) (v := .ref (q 3)) (C := RX4) (T := TX4) (N := 21) hx hb hts (fun _ h => List.mem_cons_of_mem _ (List.mem_append_right _ h)) hown hK hP 0 rfl rfl 4 (by decide) (hts (.fieldLink RX4 16 "ShippedLogModel" "role" "[I") (by decide +kernel)) (fun _ h9 => h9) rfl dX4_follow_20 ?_
  refine lv_iload_n hx hb dX4_follow_23 rfl (lv_at hl 1 rfl) ?_
  refine va_iald hx hb hK hP 3 3 rfl rfl (vp_in_nI hi (by decide)) dX4_follow_24 ?_
  refine lv_if_eq (tgt := 48) hx hb dX4_follow_25 (by decide) (fun _ => ?_) (fun c9 => absurd rfl c9)
  refine lv_iconst (v := 2) hx hb dX4_follow_48 (by decide) ?_
  refine lv_goto (tgt := 72) hx hb dX4_follow_49 (by decide) ?_
  refine va_put (D := G) (ci := 4) (v := .int 2) (ty := .int) (C := RX4) (T := TX4) (N := 21) hx hb hts (fun _ h => List.mem_cons_of_mem _ (List.mem_append_right _ h)) tyX4 tyX4_ok nmX4 hown hK hP hD hS 0 rfl rfl 0 (by decide) (hts (.fieldLink RX4 65 "ShippedLogModel" "thrown" "I") (by decide +kernel)) (fun _ h9 => h9) rfl (by decide +kernel) rfl rfl (Nat.le_of_ble_eq_true rfl) dX4_follow_72 (fun H locs hP hD hS => ?_)
  have hP : va_P G vwCl (wM q k 2 (fun _ => 0) g7 g8) H := hP
  have hD : va_D A (wM q k 2 (fun _ => 0) g7 g8) := hD
  refine lv_aload_n hx hb dX4_follow_75 rfl (lv_at hl 0 rfl) ?_
  refine va_get (D := G) (ci := 4) (v := .int 2) (C := RX4) (T := TX4) (N := 21) hx hb hts (fun _ h => List.mem_cons_of_mem _ (List.mem_append_right _ h)) hown hK hP 0 rfl rfl 0 (by decide) (hts (.fieldLink RX4 65 "ShippedLogModel" "thrown" "I") (by decide +kernel)) (fun _ h9 => h9) rfl dX4_follow_76 ?_
  refine lv_if_ne (tgt := 88) hx hb dX4_follow_79 (by decide) (fun _ => ?_) (fun c9 => absurd c9 (by decide : ¬ (2 : Int32) = 0))
  exact W.vret hx hb hr (fun t ht hW => ⟨⟨(), rfl, trivial, _, by rw [ht]; exact hP.hd⟩, hS.F ht⟩) hS.2.2 dX4_follow_88
set_option maxHeartbeats 4000000 in
set_option maxRecDepth 100000 in
/-- the reference: rewind, down -/
theorem cM_rewind_down (l : Launch) (G : va_G) (k : Nat → ClassId) (sz : Nat) (q : Nat → Nat) (g7 g8 : Nat → Int32) (i : Nat) (hi : i < 4) (j : Nat) (hj : j < 4) : Met l yX4_rewind wsX4_rewind (rzk 2 0 0) (MP G k sz q g7 g8 [.ref (q 0), .int (nI i), .int (nI j)]) (MQl G q 2 0 (va_A (wM q k 0 (fun _ => 0) g7 g8) sz)) 0 0 (va_A (wM q k 0 (fun _ => 0) g7 g8) sz) := by
  refine Met.ofW (cc := cX4_rewind) (maxL := 6) (ret := (some .int)) (by decide) rfl ?_
  intro p e s m args below meth c s₁ B hml hv
  obtain ⟨rfl, hsz, hP, hK, hD0⟩ := hv
  subst hsz
  have hD := hD0.self (sz := s.heap.size)
  generalize hAe : va_A (wM q k 0 (fun _ => 0) g7 g8) s.heap.size = A at hD ⊢
  have hA : ∀ q : Nat, s.heap.size ≤ q → A q := fun q h => by rw [← hAe]; exact Or.inr h
  have hS : va_S A s.heap s.heap [] := va_S.rf
  have hx := B.exec
  have hb := B.bytes
  have hr := B.returns
  have hts := atoms_spec (ws := wsX4_rewind) B.pre
  have hown : s.vm.findClass RX4 = some m.cls := findClass_of_methodNamed B.named
  have hlocks := B.notSynchronized
  have hl := lv_entry ([.ref (q 0), .int (nI i), .int (nI j)]) (n := 6) (Nat.le_of_ble_eq_true rfl)
  rw [lg_entry_eq]
  generalize (lg_sl ([.ref (q 0), .int (nI i), .int (nI j)]) ++ List.replicate (6 - (lg_sl ([.ref (q 0), .int (nI i), .int (nI j)])).length) Slot.unset).toArray = ls at hl ⊢
  have hl : lv_has ls 6 [(0, .ref (q 0)), (1, .int (nI i)), (2, .int (nI j))] := hl
  refine lv_aload_n hx hb dX4_rewind_0 rfl (lv_at hl 0 rfl) ?_
  refine lv_iconst (v := 0) hx hb dX4_rewind_1 (by decide) ?_
  refine va_put (D := G) (ci := 4) (v := .int 0) (ty := .int) (C := RX4) (T := TX4) (N := 21) hx hb hts (fun _ h => List.mem_cons_of_mem _ (List.mem_append_right _ h)) tyX4 tyX4_ok nmX4 hown hK hP hD hS 0 rfl rfl 0 (by decide) (hts (.fieldLink RX4 65 "ShippedLogModel" "thrown" "I") (by decide +kernel)) (fun _ h9 => h9) rfl (by decide +kernel) rfl rfl (Nat.le_of_ble_eq_true rfl) dX4_rewind_2 (fun H locs hP hD hS => ?_)
  have hP : va_P G vwCl (wM q k 0 (fun _ => 0) g7 g8) H := hP
  have hD : va_D A (wM q k 0 (fun _ => 0) g7 g8) := hD
  refine lv_iload_n hx hb dX4_rewind_5 rfl (lv_at hl 1 rfl) ?_
  refine br_call (W.runS (As := [.int (nI i)]) (rest := []) ⟨hx, hb, hml, hown, hts⟩ (m_isNode_t l i hi) (va_cwS 1 hts gX4_rewind_X4_isNode rfl rfl rfl (by decide +kernel) ⟨(Nat.le_of_ble_eq_true rfl), (Nat.le_of_ble_eq_true rfl)⟩) (P0.preS) rfl rfl hl.1 rfl (lv_room (Nat.le_of_ble_eq_true rfl)) dX4_rewind_6 ⟨(Nat.le_of_ble_eq_true rfl), (Nat.le_of_ble_eq_true rfl)⟩) ?_
  refine lv_if_eq (tgt := 19) hx hb dX4_rewind_9 (by decide) (fun c9 => absurd c9 (by decide : ¬ (1 : Int32) = 0)) (fun _ => ?_)
  refine lv_iload_n hx hb dX4_rewind_12 rfl (lv_at hl 2 rfl) ?_
  refine br_call (W.runS (As := [.int (nI j)]) (rest := []) ⟨hx, hb, hml, hown, hts⟩ (m_isNode_t l j hj) (va_cwS 1 hts gX4_rewind_X4_isNode rfl rfl rfl (by decide +kernel) ⟨(Nat.le_of_ble_eq_true rfl), (Nat.le_of_ble_eq_true rfl)⟩) (P0.preS) rfl rfl hl.1 rfl (lv_room (Nat.le_of_ble_eq_true rfl)) dX4_rewind_13 ⟨(Nat.le_of_ble_eq_true rfl), (Nat.le_of_ble_eq_true rfl)⟩) ?_
  refine lv_if_ne (tgt := 25) hx hb dX4_rewind_16 (by decide) (fun _ => ?_) (fun c9 => absurd c9 (by decide : ¬ (1 : Int32) = 0))
  refine lv_aload_n hx hb dX4_rewind_25 rfl (lv_at hl 0 rfl) ?_
  refine va_get (D := G) (ci := 4) (v := .ref (q 3)) (C := RX4) (T := TX4) (N := 21) hx hb hts (fun _ h => List.mem_cons_of_mem _ (List.mem_append_right _ h)) hown hK hP 0 rfl rfl 4 (by decide) (hts (.fieldLink RX4 16 "ShippedLogModel" "role" "[I") (by decide +kernel)) (fun _ h9 => h9) rfl dX4_rewind_26 ?_
  refine lv_iload_n hx hb dX4_rewind_29 rfl (lv_at hl 1 rfl) ?_
  refine va_iald hx hb hK hP 3 3 rfl rfl (vp_in_nI hi (by decide)) dX4_rewind_30 ?_
  refine lv_if_eq (tgt := 49) hx hb dX4_rewind_31 (by decide) (fun _ => ?_) (fun c9 => absurd rfl c9)
  refine lv_aload_n hx hb dX4_rewind_49 rfl (lv_at hl 0 rfl) ?_
  refine lv_iconst (v := 2) hx hb dX4_rewind_50 (by decide) ?_
  refine mf_call (va_runV (As := [.int 2]) (rest := []) ⟨hx, hb, hml, hown, hts⟩ (c_fail l G k _ (q 0) 0 _ 2) (cwV 1 hts gX4_rewind_X4_fail rfl rfl rfl (by decide +kernel) ⟨(Nat.le_of_ble_eq_true rfl), (Nat.le_of_ble_eq_true rfl)⟩) (mf_pre hK hP) rfl rfl hl.1 rfl (lv_room (Nat.le_of_ble_eq_true rfl)) dX4_rewind_51 ⟨(Nat.le_of_ble_eq_true rfl), (Nat.le_of_ble_eq_true rfl)⟩) hS hD rfl hA (fun H locs hP hS => ?_)
  exact W.iret (v := 0) hx hb hr (fun t ht hW => ⟨⟨0, (), rfl, fun h => absurd h (by decide), _, by rw [ht]; exact hP⟩, hS.F ht⟩) hS.2.2 dX4_rewind_54
set_option maxHeartbeats 4000000 in
set_option maxRecDepth 100000 in
/-- the reference: send, nolink -/
theorem cM_send_nolink (l : Launch) (G : va_G) (k : Nat → ClassId) (sz : Nat) (q : Nat → Nat) (g7 g8 : Nat → Int32) (i : Nat) (hi : i < 4) (j : Nat) (hj : j < 4) : Met l yX4_send wsX4_send (rzk 2 0 0) (MP G k sz q g7 g8 [.ref (q 0), .int (nI i), .int (nI j)]) (MQl G q 2 0 (va_A (wM q k 0 (fun _ => 0) g7 g8) sz)) 0 0 (va_A (wM q k 0 (fun _ => 0) g7 g8) sz) := by
  refine Met.ofW (cc := cX4_send) (maxL := 5) (ret := (some .int)) (by decide) rfl ?_
  intro p e s m args below meth c s₁ B hml hv
  obtain ⟨rfl, hsz, hP, hK, hD0⟩ := hv
  subst hsz
  have hD := hD0.self (sz := s.heap.size)
  generalize hAe : va_A (wM q k 0 (fun _ => 0) g7 g8) s.heap.size = A at hD ⊢
  have hA : ∀ q : Nat, s.heap.size ≤ q → A q := fun q h => by rw [← hAe]; exact Or.inr h
  have hS : va_S A s.heap s.heap [] := va_S.rf
  have hx := B.exec
  have hb := B.bytes
  have hr := B.returns
  have hts := atoms_spec (ws := wsX4_send) B.pre
  have hown : s.vm.findClass RX4 = some m.cls := findClass_of_methodNamed B.named
  have hlocks := B.notSynchronized
  have hl := lv_entry ([.ref (q 0), .int (nI i), .int (nI j)]) (n := 5) (Nat.le_of_ble_eq_true rfl)
  rw [lg_entry_eq]
  generalize (lg_sl ([.ref (q 0), .int (nI i), .int (nI j)]) ++ List.replicate (5 - (lg_sl ([.ref (q 0), .int (nI i), .int (nI j)])).length) Slot.unset).toArray = ls at hl ⊢
  have hl : lv_has ls 5 [(0, .ref (q 0)), (1, .int (nI i)), (2, .int (nI j))] := hl
  refine lv_aload_n hx hb dX4_send_0 rfl (lv_at hl 0 rfl) ?_
  refine lv_iconst (v := 0) hx hb dX4_send_1 (by decide) ?_
  refine va_put (D := G) (ci := 4) (v := .int 0) (ty := .int) (C := RX4) (T := TX4) (N := 21) hx hb hts (fun _ h => List.mem_cons_of_mem _ (List.mem_append_right _ h)) tyX4 tyX4_ok nmX4 hown hK hP hD hS 0 rfl rfl 0 (by decide) (hts (.fieldLink RX4 65 "ShippedLogModel" "thrown" "I") (by decide +kernel)) (fun _ h9 => h9) rfl (by decide +kernel) rfl rfl (Nat.le_of_ble_eq_true rfl) dX4_send_2 (fun H locs hP hD hS => ?_)
  have hP : va_P G vwCl (wM q k 0 (fun _ => 0) g7 g8) H := hP
  have hD : va_D A (wM q k 0 (fun _ => 0) g7 g8) := hD
  refine lv_iload_n hx hb dX4_send_5 rfl (lv_at hl 1 rfl) ?_
  refine br_call (W.runS (As := [.int (nI i)]) (rest := []) ⟨hx, hb, hml, hown, hts⟩ (m_isNode_t l i hi) (va_cwS 1 hts gX4_send_X4_isNode rfl rfl rfl (by decide +kernel) ⟨(Nat.le_of_ble_eq_true rfl), (Nat.le_of_ble_eq_true rfl)⟩) (P0.preS) rfl rfl hl.1 rfl (lv_room (Nat.le_of_ble_eq_true rfl)) dX4_send_6 ⟨(Nat.le_of_ble_eq_true rfl), (Nat.le_of_ble_eq_true rfl)⟩) ?_
  refine lv_if_eq (tgt := 19) hx hb dX4_send_9 (by decide) (fun c9 => absurd c9 (by decide : ¬ (1 : Int32) = 0)) (fun _ => ?_)
  refine lv_iload_n hx hb dX4_send_12 rfl (lv_at hl 2 rfl) ?_
  refine br_call (W.runS (As := [.int (nI j)]) (rest := []) ⟨hx, hb, hml, hown, hts⟩ (m_isNode_t l j hj) (va_cwS 1 hts gX4_send_X4_isNode rfl rfl rfl (by decide +kernel) ⟨(Nat.le_of_ble_eq_true rfl), (Nat.le_of_ble_eq_true rfl)⟩) (P0.preS) rfl rfl hl.1 rfl (lv_room (Nat.le_of_ble_eq_true rfl)) dX4_send_13 ⟨(Nat.le_of_ble_eq_true rfl), (Nat.le_of_ble_eq_true rfl)⟩) ?_
  refine lv_if_ne (tgt := 25) hx hb dX4_send_16 (by decide) (fun _ => ?_) (fun c9 => absurd c9 (by decide : ¬ (1 : Int32) = 0))
  refine lv_aload_n hx hb dX4_send_25 rfl (lv_at hl 0 rfl) ?_
  refine lv_iload_n hx hb dX4_send_26 rfl (lv_at hl 1 rfl) ?_
  refine lv_iload_n hx hb dX4_send_27 rfl (lv_at hl 2 rfl) ?_
  refine br_call (W.runV (As := [.int (nI i), .int (nI j)]) (rest := []) ⟨hx, hb, hml, hown, hts⟩ (m_isLink_n l G k q g7 g8 i hi (nI j)) (cwV 2 hts gX4_send_X4_isLink rfl rfl rfl (by decide +kernel) ⟨(Nat.le_of_ble_eq_true rfl), (Nat.le_of_ble_eq_true rfl)⟩) (PQ.preV hK hP (ci := 4) (q0 := 0) rfl rfl) rfl rfl hl.1 rfl (lv_room (Nat.le_of_ble_eq_true rfl)) dX4_send_28 ⟨(Nat.le_of_ble_eq_true rfl), (Nat.le_of_ble_eq_true rfl)⟩) ?_
  refine lv_if_ne (tgt := 40) hx hb dX4_send_31 (by decide) (fun c9 => absurd rfl c9) (fun _ => ?_)
  refine lv_aload_n hx hb dX4_send_34 rfl (lv_at hl 0 rfl) ?_
  refine lv_iconst (v := 2) hx hb dX4_send_35 (by decide) ?_
  refine mf_call (va_runV (As := [.int 2]) (rest := []) ⟨hx, hb, hml, hown, hts⟩ (c_fail l G k _ (q 0) 0 _ 2) (cwV 1 hts gX4_send_X4_fail rfl rfl rfl (by decide +kernel) ⟨(Nat.le_of_ble_eq_true rfl), (Nat.le_of_ble_eq_true rfl)⟩) (mf_pre hK hP) rfl rfl hl.1 rfl (lv_room (Nat.le_of_ble_eq_true rfl)) dX4_send_36 ⟨(Nat.le_of_ble_eq_true rfl), (Nat.le_of_ble_eq_true rfl)⟩) hS hD rfl hA (fun H locs hP hS => ?_)
  exact W.iret (v := 0) hx hb hr (fun t ht hW => ⟨⟨0, (), rfl, fun h => absurd h (by decide), _, by rw [ht]; exact hP⟩, hS.F ht⟩) hS.2.2 dX4_send_39
set_option maxHeartbeats 4000000 in
set_option maxRecDepth 100000 in
/-- the reference: put, noprim -/
theorem cM_put_noprim (l : Launch) (G : va_G) (k : Nat → ClassId) (sz : Nat) (q : Nat → Nat) (g7 g8 : Nat → Int32) (j : Nat) (hj : j < 4) (p1 p2 : Int32) : Met l yX4_put wsX4_put (rzk 2 0 0) (MP G k sz q g7 g8 [.ref (q 0), .int (nI j), .int p1, .int p2]) (MQl G q 2 0 (va_A (wM q k 0 (fun _ => 0) g7 g8) sz)) 0 0 (va_A (wM q k 0 (fun _ => 0) g7 g8) sz) := by
  refine Met.ofW (cc := cX4_put) (maxL := 4) (ret := (some .int)) (by decide) rfl ?_
  intro p e s m args below meth c s₁ B hml hv
  obtain ⟨rfl, hsz, hP, hK, hD0⟩ := hv
  subst hsz
  have hD := hD0.self (sz := s.heap.size)
  generalize hAe : va_A (wM q k 0 (fun _ => 0) g7 g8) s.heap.size = A at hD ⊢
  have hA : ∀ q : Nat, s.heap.size ≤ q → A q := fun q h => by rw [← hAe]; exact Or.inr h
  have hS : va_S A s.heap s.heap [] := va_S.rf
  have hx := B.exec
  have hb := B.bytes
  have hr := B.returns
  have hts := atoms_spec (ws := wsX4_put) B.pre
  have hown : s.vm.findClass RX4 = some m.cls := findClass_of_methodNamed B.named
  have hlocks := B.notSynchronized
  have hl := lv_entry ([.ref (q 0), .int (nI j), .int p1, .int p2]) (n := 4) (Nat.le_of_ble_eq_true rfl)
  rw [lg_entry_eq]
  generalize (lg_sl ([.ref (q 0), .int (nI j), .int p1, .int p2]) ++ List.replicate (4 - (lg_sl ([.ref (q 0), .int (nI j), .int p1, .int p2])).length) Slot.unset).toArray = ls at hl ⊢
  have hl : lv_has ls 4 [(0, .ref (q 0)), (1, .int (nI j)), (2, .int p1), (3, .int p2)] := hl
  refine lv_aload_n hx hb dX4_put_0 rfl (lv_at hl 0 rfl) ?_
  refine lv_iconst (v := 0) hx hb dX4_put_1 (by decide) ?_
  refine va_put (D := G) (ci := 4) (v := .int 0) (ty := .int) (C := RX4) (T := TX4) (N := 21) hx hb hts (fun _ h => List.mem_cons_of_mem _ (List.mem_append_right _ h)) tyX4 tyX4_ok nmX4 hown hK hP hD hS 0 rfl rfl 0 (by decide) (hts (.fieldLink RX4 65 "ShippedLogModel" "thrown" "I") (by decide +kernel)) (fun _ h9 => h9) rfl (by decide +kernel) rfl rfl (Nat.le_of_ble_eq_true rfl) dX4_put_2 (fun H locs hP hD hS => ?_)
  have hP : va_P G vwCl (wM q k 0 (fun _ => 0) g7 g8) H := hP
  have hD : va_D A (wM q k 0 (fun _ => 0) g7 g8) := hD
  refine lv_iload_n hx hb dX4_put_5 rfl (lv_at hl 1 rfl) ?_
  refine br_call (W.runS (As := [.int (nI j)]) (rest := []) ⟨hx, hb, hml, hown, hts⟩ (m_isNode_t l j hj) (va_cwS 1 hts gX4_put_X4_isNode rfl rfl rfl (by decide +kernel) ⟨(Nat.le_of_ble_eq_true rfl), (Nat.le_of_ble_eq_true rfl)⟩) (P0.preS) rfl rfl hl.1 rfl (lv_room (Nat.le_of_ble_eq_true rfl)) dX4_put_6 ⟨(Nat.le_of_ble_eq_true rfl), (Nat.le_of_ble_eq_true rfl)⟩) ?_
  refine lv_if_ne (tgt := 18) hx hb dX4_put_9 (by decide) (fun _ => ?_) (fun c9 => absurd c9 (by decide : ¬ (1 : Int32) = 0))
  refine lv_aload_n hx hb dX4_put_18 rfl (lv_at hl 0 rfl) ?_
  refine lv_iload_n hx hb dX4_put_19 rfl (lv_at hl 1 rfl) ?_
  refine br_call (W.runV (As := [.int (nI j)]) (rest := []) ⟨hx, hb, hml, hown, hts⟩ (m_isPrimary_n l G k q g7 g8 j hj) (cwV 1 hts gX4_put_X4_isPrimary rfl rfl rfl (by decide +kernel) ⟨(Nat.le_of_ble_eq_true rfl), (Nat.le_of_ble_eq_true rfl)⟩) (PQ.preV hK hP (ci := 4) (q0 := 0) rfl rfl) rfl rfl hl.1 rfl (lv_room (Nat.le_of_ble_eq_true rfl)) dX4_put_20 ⟨(Nat.le_of_ble_eq_true rfl), (Nat.le_of_ble_eq_true rfl)⟩) ?_
  refine lv_if_ne (tgt := 32) hx hb dX4_put_23 (by decide) (fun c9 => absurd rfl c9) (fun _ => ?_)
  refine lv_aload_n hx hb dX4_put_26 rfl (lv_at hl 0 rfl) ?_
  refine lv_iconst (v := 2) hx hb dX4_put_27 (by decide) ?_
  refine mf_call (va_runV (As := [.int 2]) (rest := []) ⟨hx, hb, hml, hown, hts⟩ (c_fail l G k _ (q 0) 0 _ 2) (cwV 1 hts gX4_put_X4_fail rfl rfl rfl (by decide +kernel) ⟨(Nat.le_of_ble_eq_true rfl), (Nat.le_of_ble_eq_true rfl)⟩) (mf_pre hK hP) rfl rfl hl.1 rfl (lv_room (Nat.le_of_ble_eq_true rfl)) dX4_put_28 ⟨(Nat.le_of_ble_eq_true rfl), (Nat.le_of_ble_eq_true rfl)⟩) hS hD rfl hA (fun H locs hP hS => ?_)
  exact W.iret (v := 0) hx hb hr (fun t ht hW => ⟨⟨0, (), rfl, fun h => absurd h (by decide), _, by rw [ht]; exact hP⟩, hS.F ht⟩) hS.2.2 dX4_put_31
set_option maxHeartbeats 4000000 in
set_option maxRecDepth 100000 in
/-- the reference: commit, noprim -/
theorem cM_commit_noprim (l : Launch) (G : va_G) (k : Nat → ClassId) (sz : Nat) (q : Nat → Nat) (g7 g8 : Nat → Int32) (j : Nat) (hj : j < 4) : Met l yX4_commit wsX4_commit (rzk 2 0 0) (MP G k sz q g7 g8 [.ref (q 0), .int (nI j)]) (MQl G q 2 0 (va_A (wM q k 0 (fun _ => 0) g7 g8) sz)) 0 0 (va_A (wM q k 0 (fun _ => 0) g7 g8) sz) := by
  refine Met.ofW (cc := cX4_commit) (maxL := 2) (ret := (some .boolean)) (by decide) rfl ?_
  intro p e s m args below meth c s₁ B hml hv
  obtain ⟨rfl, hsz, hP, hK, hD0⟩ := hv
  subst hsz
  have hD := hD0.self (sz := s.heap.size)
  generalize hAe : va_A (wM q k 0 (fun _ => 0) g7 g8) s.heap.size = A at hD ⊢
  have hA : ∀ q : Nat, s.heap.size ≤ q → A q := fun q h => by rw [← hAe]; exact Or.inr h
  have hS : va_S A s.heap s.heap [] := va_S.rf
  have hx := B.exec
  have hb := B.bytes
  have hr := B.returns
  have hts := atoms_spec (ws := wsX4_commit) B.pre
  have hown : s.vm.findClass RX4 = some m.cls := findClass_of_methodNamed B.named
  have hlocks := B.notSynchronized
  have hl := lv_entry ([.ref (q 0), .int (nI j)]) (n := 2) (Nat.le_of_ble_eq_true rfl)
  rw [lg_entry_eq]
  generalize (lg_sl ([.ref (q 0), .int (nI j)]) ++ List.replicate (2 - (lg_sl ([.ref (q 0), .int (nI j)])).length) Slot.unset).toArray = ls at hl ⊢
  have hl : lv_has ls 2 [(0, .ref (q 0)), (1, .int (nI j))] := hl
  refine lv_aload_n hx hb dX4_commit_0 rfl (lv_at hl 0 rfl) ?_
  refine lv_iconst (v := 0) hx hb dX4_commit_1 (by decide) ?_
  refine va_put (D := G) (ci := 4) (v := .int 0) (ty := .int) (C := RX4) (T := TX4) (N := 21) hx hb hts (fun _ h => List.mem_cons_of_mem _ (List.mem_append_right _ h)) tyX4 tyX4_ok nmX4 hown hK hP hD hS 0 rfl rfl 0 (by decide) (hts (.fieldLink RX4 65 "ShippedLogModel" "thrown" "I") (by decide +kernel)) (fun _ h9 => h9) rfl (by decide +kernel) rfl rfl (Nat.le_of_ble_eq_true rfl) dX4_commit_2 (fun H locs hP hD hS => ?_)
  have hP : va_P G vwCl (wM q k 0 (fun _ => 0) g7 g8) H := hP
  have hD : va_D A (wM q k 0 (fun _ => 0) g7 g8) := hD
  refine lv_iload_n hx hb dX4_commit_5 rfl (lv_at hl 1 rfl) ?_
  refine br_call (W.runS (As := [.int (nI j)]) (rest := []) ⟨hx, hb, hml, hown, hts⟩ (m_isNode_t l j hj) (va_cwS 1 hts gX4_commit_X4_isNode rfl rfl rfl (by decide +kernel) ⟨(Nat.le_of_ble_eq_true rfl), (Nat.le_of_ble_eq_true rfl)⟩) (P0.preS) rfl rfl hl.1 rfl (lv_room (Nat.le_of_ble_eq_true rfl)) dX4_commit_6 ⟨(Nat.le_of_ble_eq_true rfl), (Nat.le_of_ble_eq_true rfl)⟩) ?_
  refine lv_if_ne (tgt := 26) hx hb dX4_commit_9 (by decide) (fun _ => ?_) (fun c9 => absurd c9 (by decide : ¬ (1 : Int32) = 0))
  refine lv_aload_n hx hb dX4_commit_26 rfl (lv_at hl 0 rfl) ?_
  refine lv_iload_n hx hb dX4_commit_27 rfl (lv_at hl 1 rfl) ?_
  refine br_call (W.runV (As := [.int (nI j)]) (rest := []) ⟨hx, hb, hml, hown, hts⟩ (m_isPrimary_n l G k q g7 g8 j hj) (cwV 1 hts gX4_commit_X4_isPrimary rfl rfl rfl (by decide +kernel) ⟨(Nat.le_of_ble_eq_true rfl), (Nat.le_of_ble_eq_true rfl)⟩) (PQ.preV hK hP (ci := 4) (q0 := 0) rfl rfl) rfl rfl hl.1 rfl (lv_room (Nat.le_of_ble_eq_true rfl)) dX4_commit_28 ⟨(Nat.le_of_ble_eq_true rfl), (Nat.le_of_ble_eq_true rfl)⟩) ?_
  refine lv_if_ne (tgt := 48) hx hb dX4_commit_31 (by decide) (fun c9 => absurd rfl c9) (fun _ => ?_)
  refine lv_aload_n hx hb dX4_commit_34 rfl (lv_at hl 0 rfl) ?_
  refine lv_iconst (v := 2) hx hb dX4_commit_35 (by decide) ?_
  refine mf_call (va_runV (As := [.int 2]) (rest := []) ⟨hx, hb, hml, hown, hts⟩ (c_fail l G k _ (q 0) 0 _ 2) (cwV 1 hts gX4_commit_X4_fail rfl rfl rfl (by decide +kernel) ⟨(Nat.le_of_ble_eq_true rfl), (Nat.le_of_ble_eq_true rfl)⟩) (mf_pre hK hP) rfl rfl hl.1 rfl (lv_room (Nat.le_of_ble_eq_true rfl)) dX4_commit_36 ⟨(Nat.le_of_ble_eq_true rfl), (Nat.le_of_ble_eq_true rfl)⟩) hS hD rfl hA (fun H locs hP hS => ?_)
  refine lv_if_le (tgt := 46) hx hb dX4_commit_39 (by decide) (fun _ => ?_) (fun c9 => absurd (by decide : (0 : Int32) ≤ 0) c9)
  refine lv_iconst (v := 0) hx hb dX4_commit_46 (by decide) ?_
  exact W.zret (ty := .boolean) (v := 0) hx hb hr rfl (fun t ht hW => ⟨⟨0, (), rfl, fun h => absurd h (by decide), _, by rw [ht]; exact hP⟩, hS.F ht⟩) hS.2.2 dX4_commit_47
set_option maxHeartbeats 4000000 in
set_option maxRecDepth 100000 in
/-- the reference: standby, bad2 -/
theorem cM_standby_bad2 (l : Launch) (G : va_G) (k : Nat → ClassId) (sz : Nat) (q : Nat → Nat) (g7 g8 : Nat → Int32) (j : Nat) (hj : j < 4) (p1 : Int32) (h1 : ¬ p1 = -1) (h : bdN p1) : Met l yX4_standby wsX4_standby (rzk 2 0 0) (MP G k sz q g7 g8 [.ref (q 0), .int (nI j), .int p1]) (MQl G q 1 0 (va_A (wM q k 0 (fun _ => 0) g7 g8) sz)) 0 0 (va_A (wM q k 0 (fun _ => 0) g7 g8) sz) := by
  refine Met.ofW (cc := cX4_standby) (maxL := 4) (ret := (some .int)) (by decide) rfl ?_
  intro p e s m args below meth c s₁ B hml hv
  obtain ⟨rfl, hsz, hP, hK, hD0⟩ := hv
  subst hsz
  have hD := hD0.self (sz := s.heap.size)
  generalize hAe : va_A (wM q k 0 (fun _ => 0) g7 g8) s.heap.size = A at hD ⊢
  have hA : ∀ q : Nat, s.heap.size ≤ q → A q := fun q h => by rw [← hAe]; exact Or.inr h
  have hS : va_S A s.heap s.heap [] := va_S.rf
  have hx := B.exec
  have hb := B.bytes
  have hr := B.returns
  have hts := atoms_spec (ws := wsX4_standby) B.pre
  have hown : s.vm.findClass RX4 = some m.cls := findClass_of_methodNamed B.named
  have hlocks := B.notSynchronized
  have hl := lv_entry ([.ref (q 0), .int (nI j), .int p1]) (n := 4) (Nat.le_of_ble_eq_true rfl)
  rw [lg_entry_eq]
  generalize (lg_sl ([.ref (q 0), .int (nI j), .int p1]) ++ List.replicate (4 - (lg_sl ([.ref (q 0), .int (nI j), .int p1])).length) Slot.unset).toArray = ls at hl ⊢
  have hl : lv_has ls 4 [(0, .ref (q 0)), (1, .int (nI j)), (2, .int p1)] := hl
  refine lv_aload_n hx hb dX4_standby_0 rfl (lv_at hl 0 rfl) ?_
  refine lv_iconst (v := 0) hx hb dX4_standby_1 (by decide) ?_
  refine va_put (D := G) (ci := 4) (v := .int 0) (ty := .int) (C := RX4) (T := TX4) (N := 21) hx hb hts (fun _ h => List.mem_cons_of_mem _ (List.mem_append_right _ h)) tyX4 tyX4_ok nmX4 hown hK hP hD hS 0 rfl rfl 0 (by decide) (hts (.fieldLink RX4 65 "ShippedLogModel" "thrown" "I") (by decide +kernel)) (fun _ h9 => h9) rfl (by decide +kernel) rfl rfl (Nat.le_of_ble_eq_true rfl) dX4_standby_2 (fun H locs hP hD hS => ?_)
  have hP : va_P G vwCl (wM q k 0 (fun _ => 0) g7 g8) H := hP
  have hD : va_D A (wM q k 0 (fun _ => 0) g7 g8) := hD
  refine lv_iload_n hx hb dX4_standby_5 rfl (lv_at hl 1 rfl) ?_
  refine br_call (W.runS (As := [.int (nI j)]) (rest := []) ⟨hx, hb, hml, hown, hts⟩ (m_isNode_t l j hj) (va_cwS 1 hts gX4_standby_X4_isNode rfl rfl rfl (by decide +kernel) ⟨(Nat.le_of_ble_eq_true rfl), (Nat.le_of_ble_eq_true rfl)⟩) (P0.preS) rfl rfl hl.1 rfl (lv_room (Nat.le_of_ble_eq_true rfl)) dX4_standby_6 ⟨(Nat.le_of_ble_eq_true rfl), (Nat.le_of_ble_eq_true rfl)⟩) ?_
  refine lv_if_eq (tgt := 24) hx hb dX4_standby_9 (by decide) (fun c9 => absurd c9 (by decide : ¬ (1 : Int32) = 0)) (fun _ => ?_)
  refine lv_iload_n hx hb dX4_standby_12 rfl (lv_at hl 2 rfl) ?_
  refine lv_iconst (v := (-1)) hx hb dX4_standby_13 (by decide) ?_
  refine lv_icmp_eq (tgt := 30) hx hb dX4_standby_14 (by decide) (fun c9 => absurd c9 h1) (fun _ => ?_)
  refine lv_iload_n hx hb dX4_standby_17 rfl (lv_at hl 2 rfl) ?_
  refine br_call (W.runS (As := [.int p1]) (rest := []) ⟨hx, hb, hml, hown, hts⟩ (m_isNode_f l p1 h) (va_cwS 1 hts gX4_standby_X4_isNode rfl rfl rfl (by decide +kernel) ⟨(Nat.le_of_ble_eq_true rfl), (Nat.le_of_ble_eq_true rfl)⟩) (P0.preS) rfl rfl hl.1 rfl (lv_room (Nat.le_of_ble_eq_true rfl)) dX4_standby_18 ⟨(Nat.le_of_ble_eq_true rfl), (Nat.le_of_ble_eq_true rfl)⟩) ?_
  refine lv_if_ne (tgt := 30) hx hb dX4_standby_21 (by decide) (fun c9 => absurd rfl c9) (fun _ => ?_)
  refine lv_aload_n hx hb dX4_standby_24 rfl (lv_at hl 0 rfl) ?_
  refine lv_iconst (v := 1) hx hb dX4_standby_25 (by decide) ?_
  refine mf_call (va_runV (As := [.int 1]) (rest := []) ⟨hx, hb, hml, hown, hts⟩ (c_fail l G k _ (q 0) 0 _ 1) (cwV 1 hts gX4_standby_X4_fail rfl rfl rfl (by decide +kernel) ⟨(Nat.le_of_ble_eq_true rfl), (Nat.le_of_ble_eq_true rfl)⟩) (mf_pre hK hP) rfl rfl hl.1 rfl (lv_room (Nat.le_of_ble_eq_true rfl)) dX4_standby_26 ⟨(Nat.le_of_ble_eq_true rfl), (Nat.le_of_ble_eq_true rfl)⟩) hS hD rfl hA (fun H locs hP hS => ?_)
  exact W.iret (v := 0) hx hb hr (fun t ht hW => ⟨⟨0, (), rfl, fun h => absurd h (by decide), _, by rw [ht]; exact hP⟩, hS.F ht⟩) hS.2.2 dX4_standby_29
set_option maxHeartbeats 4000000 in
set_option maxRecDepth 100000 in
/-- the reference: standby, none -/
theorem cM_standby_none (l : Launch) (G : va_G) (k : Nat → ClassId) (sz : Nat) (q : Nat → Nat) (g7 g8 : Nat → Int32) (j : Nat) (hj : j < 4) : Met l yX4_standby wsX4_standby (rzk 2 0 0) (MP G k sz q g7 g8 [.ref (q 0), .int (nI j), .int (-1)]) (MQl G q 2 0 (va_A (wM q k 0 (fun _ => 0) g7 g8) sz)) 0 0 (va_A (wM q k 0 (fun _ => 0) g7 g8) sz) := by
  refine Met.ofW (cc := cX4_standby) (maxL := 4) (ret := (some .int)) (by decide) rfl ?_
  intro p e s m args below meth c s₁ B hml hv
  obtain ⟨rfl, hsz, hP, hK, hD0⟩ := hv
  subst hsz
  have hD := hD0.self (sz := s.heap.size)
  generalize hAe : va_A (wM q k 0 (fun _ => 0) g7 g8) s.heap.size = A at hD ⊢
  have hA : ∀ q : Nat, s.heap.size ≤ q → A q := fun q h => by rw [← hAe]; exact Or.inr h
  have hS : va_S A s.heap s.heap [] := va_S.rf
  have hx := B.exec
  have hb := B.bytes
  have hr := B.returns
  have hts := atoms_spec (ws := wsX4_standby) B.pre
  have hown : s.vm.findClass RX4 = some m.cls := findClass_of_methodNamed B.named
  have hlocks := B.notSynchronized
  have hl := lv_entry ([.ref (q 0), .int (nI j), .int (-1)]) (n := 4) (Nat.le_of_ble_eq_true rfl)
  rw [lg_entry_eq]
  generalize (lg_sl ([.ref (q 0), .int (nI j), .int (-1)]) ++ List.replicate (4 - (lg_sl ([.ref (q 0), .int (nI j), .int (-1)])).length) Slot.unset).toArray = ls at hl ⊢
  have hl : lv_has ls 4 [(0, .ref (q 0)), (1, .int (nI j)), (2, .int (-1))] := hl
  refine lv_aload_n hx hb dX4_standby_0 rfl (lv_at hl 0 rfl) ?_
  refine lv_iconst (v := 0) hx hb dX4_standby_1 (by decide) ?_
  refine va_put (D := G) (ci := 4) (v := .int 0) (ty := .int) (C := RX4) (T := TX4) (N := 21) hx hb hts (fun _ h => List.mem_cons_of_mem _ (List.mem_append_right _ h)) tyX4 tyX4_ok nmX4 hown hK hP hD hS 0 rfl rfl 0 (by decide) (hts (.fieldLink RX4 65 "ShippedLogModel" "thrown" "I") (by decide +kernel)) (fun _ h9 => h9) rfl (by decide +kernel) rfl rfl (Nat.le_of_ble_eq_true rfl) dX4_standby_2 (fun H locs hP hD hS => ?_)
  have hP : va_P G vwCl (wM q k 0 (fun _ => 0) g7 g8) H := hP
  have hD : va_D A (wM q k 0 (fun _ => 0) g7 g8) := hD
  refine lv_iload_n hx hb dX4_standby_5 rfl (lv_at hl 1 rfl) ?_
  refine br_call (W.runS (As := [.int (nI j)]) (rest := []) ⟨hx, hb, hml, hown, hts⟩ (m_isNode_t l j hj) (va_cwS 1 hts gX4_standby_X4_isNode rfl rfl rfl (by decide +kernel) ⟨(Nat.le_of_ble_eq_true rfl), (Nat.le_of_ble_eq_true rfl)⟩) (P0.preS) rfl rfl hl.1 rfl (lv_room (Nat.le_of_ble_eq_true rfl)) dX4_standby_6 ⟨(Nat.le_of_ble_eq_true rfl), (Nat.le_of_ble_eq_true rfl)⟩) ?_
  refine lv_if_eq (tgt := 24) hx hb dX4_standby_9 (by decide) (fun c9 => absurd c9 (by decide : ¬ (1 : Int32) = 0)) (fun _ => ?_)
  refine lv_iload_n hx hb dX4_standby_12 rfl (lv_at hl 2 rfl) ?_
  refine lv_iconst (v := (-1)) hx hb dX4_standby_13 (by decide) ?_
  refine lv_icmp_eq (tgt := 30) hx hb dX4_standby_14 (by decide) (fun _ => ?_) (fun c9 => absurd rfl c9)
  refine lv_aload_n hx hb dX4_standby_30 rfl (lv_at hl 0 rfl) ?_
  refine lv_iload_n hx hb dX4_standby_31 rfl (lv_at hl 1 rfl) ?_
  refine br_call (W.runV (As := [.int (nI j)]) (rest := []) ⟨hx, hb, hml, hown, hts⟩ (m_isPrimary_n l G k q g7 g8 j hj) (cwV 1 hts gX4_standby_X4_isPrimary rfl rfl rfl (by decide +kernel) ⟨(Nat.le_of_ble_eq_true rfl), (Nat.le_of_ble_eq_true rfl)⟩) (PQ.preV hK hP (ci := 4) (q0 := 0) rfl rfl) rfl rfl hl.1 rfl (lv_room (Nat.le_of_ble_eq_true rfl)) dX4_standby_32 ⟨(Nat.le_of_ble_eq_true rfl), (Nat.le_of_ble_eq_true rfl)⟩) ?_
  refine lv_if_ne (tgt := 44) hx hb dX4_standby_35 (by decide) (fun c9 => absurd rfl c9) (fun _ => ?_)
  refine lv_aload_n hx hb dX4_standby_38 rfl (lv_at hl 0 rfl) ?_
  refine lv_iconst (v := 2) hx hb dX4_standby_39 (by decide) ?_
  refine mf_call (va_runV (As := [.int 2]) (rest := []) ⟨hx, hb, hml, hown, hts⟩ (c_fail l G k _ (q 0) 0 _ 2) (cwV 1 hts gX4_standby_X4_fail rfl rfl rfl (by decide +kernel) ⟨(Nat.le_of_ble_eq_true rfl), (Nat.le_of_ble_eq_true rfl)⟩) (mf_pre hK hP) rfl rfl hl.1 rfl (lv_room (Nat.le_of_ble_eq_true rfl)) dX4_standby_40 ⟨(Nat.le_of_ble_eq_true rfl), (Nat.le_of_ble_eq_true rfl)⟩) hS hD rfl hA (fun H locs hP hS => ?_)
  exact W.iret (v := 0) hx hb hr (fun t ht hW => ⟨⟨0, (), rfl, fun h => absurd h (by decide), _, by rw [ht]; exact hP⟩, hS.F ht⟩) hS.2.2 dX4_standby_43
set_option maxHeartbeats 4000000 in
set_option maxRecDepth 100000 in
/-- the reference: standby, noprim -/
theorem cM_standby_noprim (l : Launch) (G : va_G) (k : Nat → ClassId) (sz : Nat) (q : Nat → Nat) (g7 g8 : Nat → Int32) (j : Nat) (hj : j < 4) (i : Nat) (hi : i < 4) : Met l yX4_standby wsX4_standby (rzk 2 0 0) (MP G k sz q g7 g8 [.ref (q 0), .int (nI j), .int (nI i)]) (MQl G q 2 0 (va_A (wM q k 0 (fun _ => 0) g7 g8) sz)) 0 0 (va_A (wM q k 0 (fun _ => 0) g7 g8) sz) := by
  refine Met.ofW (cc := cX4_standby) (maxL := 4) (ret := (some .int)) (by decide) rfl ?_
  intro p e s m args below meth c s₁ B hml hv
  obtain ⟨rfl, hsz, hP, hK, hD0⟩ := hv
  subst hsz
  have hD := hD0.self (sz := s.heap.size)
  generalize hAe : va_A (wM q k 0 (fun _ => 0) g7 g8) s.heap.size = A at hD ⊢
  have hA : ∀ q : Nat, s.heap.size ≤ q → A q := fun q h => by rw [← hAe]; exact Or.inr h
  have hS : va_S A s.heap s.heap [] := va_S.rf
  have hx := B.exec
  have hb := B.bytes
  have hr := B.returns
  have hts := atoms_spec (ws := wsX4_standby) B.pre
  have hown : s.vm.findClass RX4 = some m.cls := findClass_of_methodNamed B.named
  have hlocks := B.notSynchronized
  have hl := lv_entry ([.ref (q 0), .int (nI j), .int (nI i)]) (n := 4) (Nat.le_of_ble_eq_true rfl)
  rw [lg_entry_eq]
  generalize (lg_sl ([.ref (q 0), .int (nI j), .int (nI i)]) ++ List.replicate (4 - (lg_sl ([.ref (q 0), .int (nI j), .int (nI i)])).length) Slot.unset).toArray = ls at hl ⊢
  have hl : lv_has ls 4 [(0, .ref (q 0)), (1, .int (nI j)), (2, .int (nI i))] := hl
  refine lv_aload_n hx hb dX4_standby_0 rfl (lv_at hl 0 rfl) ?_
  refine lv_iconst (v := 0) hx hb dX4_standby_1 (by decide) ?_
  refine va_put (D := G) (ci := 4) (v := .int 0) (ty := .int) (C := RX4) (T := TX4) (N := 21) hx hb hts (fun _ h => List.mem_cons_of_mem _ (List.mem_append_right _ h)) tyX4 tyX4_ok nmX4 hown hK hP hD hS 0 rfl rfl 0 (by decide) (hts (.fieldLink RX4 65 "ShippedLogModel" "thrown" "I") (by decide +kernel)) (fun _ h9 => h9) rfl (by decide +kernel) rfl rfl (Nat.le_of_ble_eq_true rfl) dX4_standby_2 (fun H locs hP hD hS => ?_)
  have hP : va_P G vwCl (wM q k 0 (fun _ => 0) g7 g8) H := hP
  have hD : va_D A (wM q k 0 (fun _ => 0) g7 g8) := hD
  refine lv_iload_n hx hb dX4_standby_5 rfl (lv_at hl 1 rfl) ?_
  refine br_call (W.runS (As := [.int (nI j)]) (rest := []) ⟨hx, hb, hml, hown, hts⟩ (m_isNode_t l j hj) (va_cwS 1 hts gX4_standby_X4_isNode rfl rfl rfl (by decide +kernel) ⟨(Nat.le_of_ble_eq_true rfl), (Nat.le_of_ble_eq_true rfl)⟩) (P0.preS) rfl rfl hl.1 rfl (lv_room (Nat.le_of_ble_eq_true rfl)) dX4_standby_6 ⟨(Nat.le_of_ble_eq_true rfl), (Nat.le_of_ble_eq_true rfl)⟩) ?_
  refine lv_if_eq (tgt := 24) hx hb dX4_standby_9 (by decide) (fun c9 => absurd c9 (by decide : ¬ (1 : Int32) = 0)) (fun _ => ?_)
  refine lv_iload_n hx hb dX4_standby_12 rfl (lv_at hl 2 rfl) ?_
  refine lv_iconst (v := (-1)) hx hb dX4_standby_13 (by decide) ?_
  refine lv_icmp_eq (tgt := 30) hx hb dX4_standby_14 (by decide) (fun c9 => absurd c9 (n_m1 hi)) (fun _ => ?_)
  refine lv_iload_n hx hb dX4_standby_17 rfl (lv_at hl 2 rfl) ?_
  refine br_call (W.runS (As := [.int (nI i)]) (rest := []) ⟨hx, hb, hml, hown, hts⟩ (m_isNode_t l i hi) (va_cwS 1 hts gX4_standby_X4_isNode rfl rfl rfl (by decide +kernel) ⟨(Nat.le_of_ble_eq_true rfl), (Nat.le_of_ble_eq_true rfl)⟩) (P0.preS) rfl rfl hl.1 rfl (lv_room (Nat.le_of_ble_eq_true rfl)) dX4_standby_18 ⟨(Nat.le_of_ble_eq_true rfl), (Nat.le_of_ble_eq_true rfl)⟩) ?_
  refine lv_if_ne (tgt := 30) hx hb dX4_standby_21 (by decide) (fun _ => ?_) (fun c9 => absurd c9 (by decide : ¬ (1 : Int32) = 0))
  refine lv_aload_n hx hb dX4_standby_30 rfl (lv_at hl 0 rfl) ?_
  refine lv_iload_n hx hb dX4_standby_31 rfl (lv_at hl 1 rfl) ?_
  refine br_call (W.runV (As := [.int (nI j)]) (rest := []) ⟨hx, hb, hml, hown, hts⟩ (m_isPrimary_n l G k q g7 g8 j hj) (cwV 1 hts gX4_standby_X4_isPrimary rfl rfl rfl (by decide +kernel) ⟨(Nat.le_of_ble_eq_true rfl), (Nat.le_of_ble_eq_true rfl)⟩) (PQ.preV hK hP (ci := 4) (q0 := 0) rfl rfl) rfl rfl hl.1 rfl (lv_room (Nat.le_of_ble_eq_true rfl)) dX4_standby_32 ⟨(Nat.le_of_ble_eq_true rfl), (Nat.le_of_ble_eq_true rfl)⟩) ?_
  refine lv_if_ne (tgt := 44) hx hb dX4_standby_35 (by decide) (fun c9 => absurd rfl c9) (fun _ => ?_)
  refine lv_aload_n hx hb dX4_standby_38 rfl (lv_at hl 0 rfl) ?_
  refine lv_iconst (v := 2) hx hb dX4_standby_39 (by decide) ?_
  refine mf_call (va_runV (As := [.int 2]) (rest := []) ⟨hx, hb, hml, hown, hts⟩ (c_fail l G k _ (q 0) 0 _ 2) (cwV 1 hts gX4_standby_X4_fail rfl rfl rfl (by decide +kernel) ⟨(Nat.le_of_ble_eq_true rfl), (Nat.le_of_ble_eq_true rfl)⟩) (mf_pre hK hP) rfl rfl hl.1 rfl (lv_room (Nat.le_of_ble_eq_true rfl)) dX4_standby_40 ⟨(Nat.le_of_ble_eq_true rfl), (Nat.le_of_ble_eq_true rfl)⟩) hS hD rfl hA (fun H locs hP hS => ?_)
  exact W.iret (v := 0) hx hb hr (fun t ht hW => ⟨⟨0, (), rfl, fun h => absurd h (by decide), _, by rw [ht]; exact hP⟩, hS.F ht⟩) hS.2.2 dX4_standby_43
set_option maxHeartbeats 4000000 in
set_option maxRecDepth 100000 in
/-- the reference: apply, small -/
theorem cM_apply_small (l : Launch) (G : va_G) (k : Nat → ClassId) (sz : Nat) (q : Nat → Nat) (g7 g8 : Nat → Int32) (j : Nat) (hj : j < 4) (p1 : Int32) (h : p1 < 1) : Met l yX4_apply wsX4_apply (rzk 2 0 0) (MP G k sz q g7 g8 [.ref (q 0), .int (nI j), .int p1]) (MQl G q 2 0 (va_A (wM q k 0 (fun _ => 0) g7 g8) sz)) 0 0 (va_A (wM q k 0 (fun _ => 0) g7 g8) sz) := by
  refine Met.ofW (cc := cX4_apply) (maxL := 4) (ret := (some .int)) (by decide) rfl ?_
  intro p e s m args below meth c s₁ B hml hv
  obtain ⟨rfl, hsz, hP, hK, hD0⟩ := hv
  subst hsz
  have hD := hD0.self (sz := s.heap.size)
  generalize hAe : va_A (wM q k 0 (fun _ => 0) g7 g8) s.heap.size = A at hD ⊢
  have hA : ∀ q : Nat, s.heap.size ≤ q → A q := fun q h => by rw [← hAe]; exact Or.inr h
  have hS : va_S A s.heap s.heap [] := va_S.rf
  have hx := B.exec
  have hb := B.bytes
  have hr := B.returns
  have hts := atoms_spec (ws := wsX4_apply) B.pre
  have hown : s.vm.findClass RX4 = some m.cls := findClass_of_methodNamed B.named
  have hlocks := B.notSynchronized
  have hl := lv_entry ([.ref (q 0), .int (nI j), .int p1]) (n := 4) (Nat.le_of_ble_eq_true rfl)
  rw [lg_entry_eq]
  generalize (lg_sl ([.ref (q 0), .int (nI j), .int p1]) ++ List.replicate (4 - (lg_sl ([.ref (q 0), .int (nI j), .int p1])).length) Slot.unset).toArray = ls at hl ⊢
  have hl : lv_has ls 4 [(0, .ref (q 0)), (1, .int (nI j)), (2, .int p1)] := hl
  refine lv_aload_n hx hb dX4_apply_0 rfl (lv_at hl 0 rfl) ?_
  refine lv_iconst (v := 0) hx hb dX4_apply_1 (by decide) ?_
  refine va_put (D := G) (ci := 4) (v := .int 0) (ty := .int) (C := RX4) (T := TX4) (N := 21) hx hb hts (fun _ h => List.mem_cons_of_mem _ (List.mem_append_right _ h)) tyX4 tyX4_ok nmX4 hown hK hP hD hS 0 rfl rfl 0 (by decide) (hts (.fieldLink RX4 65 "ShippedLogModel" "thrown" "I") (by decide +kernel)) (fun _ h9 => h9) rfl (by decide +kernel) rfl rfl (Nat.le_of_ble_eq_true rfl) dX4_apply_2 (fun H locs hP hD hS => ?_)
  have hP : va_P G vwCl (wM q k 0 (fun _ => 0) g7 g8) H := hP
  have hD : va_D A (wM q k 0 (fun _ => 0) g7 g8) := hD
  refine lv_iload_n hx hb dX4_apply_5 rfl (lv_at hl 1 rfl) ?_
  refine br_call (W.runS (As := [.int (nI j)]) (rest := []) ⟨hx, hb, hml, hown, hts⟩ (m_isNode_t l j hj) (va_cwS 1 hts gX4_apply_X4_isNode rfl rfl rfl (by decide +kernel) ⟨(Nat.le_of_ble_eq_true rfl), (Nat.le_of_ble_eq_true rfl)⟩) (P0.preS) rfl rfl hl.1 rfl (lv_room (Nat.le_of_ble_eq_true rfl)) dX4_apply_6 ⟨(Nat.le_of_ble_eq_true rfl), (Nat.le_of_ble_eq_true rfl)⟩) ?_
  refine lv_if_ne (tgt := 18) hx hb dX4_apply_9 (by decide) (fun _ => ?_) (fun c9 => absurd c9 (by decide : ¬ (1 : Int32) = 0))
  refine lv_iload_n hx hb dX4_apply_18 rfl (lv_at hl 2 rfl) ?_
  refine lv_iconst (v := 1) hx hb dX4_apply_19 (by decide) ?_
  refine lv_icmp_ge (tgt := 29) hx hb dX4_apply_20 (by decide) (fun c9 => absurd c9 (Int32.not_le.mpr h)) (fun _ => ?_)
  refine lv_aload_n hx hb dX4_apply_23 rfl (lv_at hl 0 rfl) ?_
  refine lv_iconst (v := 2) hx hb dX4_apply_24 (by decide) ?_
  refine mf_call (va_runV (As := [.int 2]) (rest := []) ⟨hx, hb, hml, hown, hts⟩ (c_fail l G k _ (q 0) 0 _ 2) (cwV 1 hts gX4_apply_X4_fail rfl rfl rfl (by decide +kernel) ⟨(Nat.le_of_ble_eq_true rfl), (Nat.le_of_ble_eq_true rfl)⟩) (mf_pre hK hP) rfl rfl hl.1 rfl (lv_room (Nat.le_of_ble_eq_true rfl)) dX4_apply_25 ⟨(Nat.le_of_ble_eq_true rfl), (Nat.le_of_ble_eq_true rfl)⟩) hS hD rfl hA (fun H locs hP hS => ?_)
  exact W.iret (v := 0) hx hb hr (fun t ht hW => ⟨⟨0, (), rfl, fun h => absurd h (by decide), _, by rw [ht]; exact hP⟩, hS.F ht⟩) hS.2.2 dX4_apply_28
set_option maxHeartbeats 4000000 in
set_option maxRecDepth 100000 in
/-- the reference: apply, norep -/
theorem cM_apply_norep (l : Launch) (G : va_G) (k : Nat → ClassId) (sz : Nat) (q : Nat → Nat) (g7 g8 : Nat → Int32) (j : Nat) (hj : j < 4) (p1 : Int32) (h : ¬ p1 < 1) : Met l yX4_apply wsX4_apply (rzk 2 0 0) (MP G k sz q g7 g8 [.ref (q 0), .int (nI j), .int p1]) (MQl G q 3 0 (va_A (wM q k 0 (fun _ => 0) g7 g8) sz)) 0 0 (va_A (wM q k 0 (fun _ => 0) g7 g8) sz) := by
  refine Met.ofW (cc := cX4_apply) (maxL := 4) (ret := (some .int)) (by decide) rfl ?_
  intro p e s m args below meth c s₁ B hml hv
  obtain ⟨rfl, hsz, hP, hK, hD0⟩ := hv
  subst hsz
  have hD := hD0.self (sz := s.heap.size)
  generalize hAe : va_A (wM q k 0 (fun _ => 0) g7 g8) s.heap.size = A at hD ⊢
  have hA : ∀ q : Nat, s.heap.size ≤ q → A q := fun q h => by rw [← hAe]; exact Or.inr h
  have hS : va_S A s.heap s.heap [] := va_S.rf
  have hx := B.exec
  have hb := B.bytes
  have hr := B.returns
  have hts := atoms_spec (ws := wsX4_apply) B.pre
  have hown : s.vm.findClass RX4 = some m.cls := findClass_of_methodNamed B.named
  have hlocks := B.notSynchronized
  have hl := lv_entry ([.ref (q 0), .int (nI j), .int p1]) (n := 4) (Nat.le_of_ble_eq_true rfl)
  rw [lg_entry_eq]
  generalize (lg_sl ([.ref (q 0), .int (nI j), .int p1]) ++ List.replicate (4 - (lg_sl ([.ref (q 0), .int (nI j), .int p1])).length) Slot.unset).toArray = ls at hl ⊢
  have hl : lv_has ls 4 [(0, .ref (q 0)), (1, .int (nI j)), (2, .int p1)] := hl
  refine lv_aload_n hx hb dX4_apply_0 rfl (lv_at hl 0 rfl) ?_
  refine lv_iconst (v := 0) hx hb dX4_apply_1 (by decide) ?_
  refine va_put (D := G) (ci := 4) (v := .int 0) (ty := .int) (C := RX4) (T := TX4) (N := 21) hx hb hts (fun _ h => List.mem_cons_of_mem _ (List.mem_append_right _ h)) tyX4 tyX4_ok nmX4 hown hK hP hD hS 0 rfl rfl 0 (by decide) (hts (.fieldLink RX4 65 "ShippedLogModel" "thrown" "I") (by decide +kernel)) (fun _ h9 => h9) rfl (by decide +kernel) rfl rfl (Nat.le_of_ble_eq_true rfl) dX4_apply_2 (fun H locs hP hD hS => ?_)
  have hP : va_P G vwCl (wM q k 0 (fun _ => 0) g7 g8) H := hP
  have hD : va_D A (wM q k 0 (fun _ => 0) g7 g8) := hD
  refine lv_iload_n hx hb dX4_apply_5 rfl (lv_at hl 1 rfl) ?_
  refine br_call (W.runS (As := [.int (nI j)]) (rest := []) ⟨hx, hb, hml, hown, hts⟩ (m_isNode_t l j hj) (va_cwS 1 hts gX4_apply_X4_isNode rfl rfl rfl (by decide +kernel) ⟨(Nat.le_of_ble_eq_true rfl), (Nat.le_of_ble_eq_true rfl)⟩) (P0.preS) rfl rfl hl.1 rfl (lv_room (Nat.le_of_ble_eq_true rfl)) dX4_apply_6 ⟨(Nat.le_of_ble_eq_true rfl), (Nat.le_of_ble_eq_true rfl)⟩) ?_
  refine lv_if_ne (tgt := 18) hx hb dX4_apply_9 (by decide) (fun _ => ?_) (fun c9 => absurd c9 (by decide : ¬ (1 : Int32) = 0))
  refine lv_iload_n hx hb dX4_apply_18 rfl (lv_at hl 2 rfl) ?_
  refine lv_iconst (v := 1) hx hb dX4_apply_19 (by decide) ?_
  refine lv_icmp_ge (tgt := 29) hx hb dX4_apply_20 (by decide) (fun _ => ?_) (fun c9 => absurd (Int32.not_lt.mp h) c9)
  refine lv_aload_n hx hb dX4_apply_29 rfl (lv_at hl 0 rfl) ?_
  refine va_get (D := G) (ci := 4) (v := .ref (q 3)) (C := RX4) (T := TX4) (N := 21) hx hb hts (fun _ h => List.mem_cons_of_mem _ (List.mem_append_right _ h)) hown hK hP 0 rfl rfl 4 (by decide) (hts (.fieldLink RX4 16 "ShippedLogModel" "role" "[I") (by decide +kernel)) (fun _ h9 => h9) rfl dX4_apply_30 ?_
  refine lv_iload_n hx hb dX4_apply_33 rfl (lv_at hl 1 rfl) ?_
  refine va_iald hx hb hK hP 3 3 rfl rfl (vp_in_nI hj (by decide)) dX4_apply_34 ?_
  refine lv_iconst (v := 3) hx hb dX4_apply_35 (by decide) ?_
  refine lv_icmp_eq (tgt := 45) hx hb dX4_apply_36 (by decide) (fun c9 => absurd c9 (by decide : ¬ (0 : Int32) = 3)) (fun _ => ?_)
  refine lv_aload_n hx hb dX4_apply_39 rfl (lv_at hl 0 rfl) ?_
  refine lv_iconst (v := 3) hx hb dX4_apply_40 (by decide) ?_
  refine mf_call (va_runV (As := [.int 3]) (rest := []) ⟨hx, hb, hml, hown, hts⟩ (c_fail l G k _ (q 0) 0 _ 3) (cwV 1 hts gX4_apply_X4_fail rfl rfl rfl (by decide +kernel) ⟨(Nat.le_of_ble_eq_true rfl), (Nat.le_of_ble_eq_true rfl)⟩) (mf_pre hK hP) rfl rfl hl.1 rfl (lv_room (Nat.le_of_ble_eq_true rfl)) dX4_apply_41 ⟨(Nat.le_of_ble_eq_true rfl), (Nat.le_of_ble_eq_true rfl)⟩) hS hD rfl hA (fun H locs hP hS => ?_)
  exact W.iret (v := 0) hx hb hr (fun t ht hW => ⟨⟨0, (), rfl, fun h => absurd h (by decide), _, by rw [ht]; exact hP⟩, hS.F ht⟩) hS.2.2 dX4_apply_44
set_option maxHeartbeats 4000000 in
set_option maxRecDepth 100000 in
/-- the reference: get, nokey -/
theorem cM_get_nokey (l : Launch) (G : va_G) (k : Nat → ClassId) (sz : Nat) (q : Nat → Nat) (g7 g8 : Nat → Int32) (j : Nat) (hj : j < 4) (p1 : Int32) (h : bdK p1) : Met l yX4_get wsX4_get (rzk 2 0 0) (MP G k sz q g7 g8 [.ref (q 0), .int (nI j), .int p1]) (MQl G q 1 0 (va_A (wM q k 0 (fun _ => 0) g7 g8) sz)) 0 0 (va_A (wM q k 0 (fun _ => 0) g7 g8) sz) := by
  refine Met.ofW (cc := cX4_get) (maxL := 3) (ret := (some .int)) (by decide) rfl ?_
  intro p e s m args below meth c s₁ B hml hv
  obtain ⟨rfl, hsz, hP, hK, hD0⟩ := hv
  subst hsz
  have hD := hD0.self (sz := s.heap.size)
  generalize hAe : va_A (wM q k 0 (fun _ => 0) g7 g8) s.heap.size = A at hD ⊢
  have hA : ∀ q : Nat, s.heap.size ≤ q → A q := fun q h => by rw [← hAe]; exact Or.inr h
  have hS : va_S A s.heap s.heap [] := va_S.rf
  have hx := B.exec
  have hb := B.bytes
  have hr := B.returns
  have hts := atoms_spec (ws := wsX4_get) B.pre
  have hown : s.vm.findClass RX4 = some m.cls := findClass_of_methodNamed B.named
  have hlocks := B.notSynchronized
  have hl := lv_entry ([.ref (q 0), .int (nI j), .int p1]) (n := 3) (Nat.le_of_ble_eq_true rfl)
  rw [lg_entry_eq]
  generalize (lg_sl ([.ref (q 0), .int (nI j), .int p1]) ++ List.replicate (3 - (lg_sl ([.ref (q 0), .int (nI j), .int p1])).length) Slot.unset).toArray = ls at hl ⊢
  have hl : lv_has ls 3 [(0, .ref (q 0)), (1, .int (nI j)), (2, .int p1)] := hl
  refine lv_aload_n hx hb dX4_get_0 rfl (lv_at hl 0 rfl) ?_
  refine lv_iconst (v := 0) hx hb dX4_get_1 (by decide) ?_
  refine va_put (D := G) (ci := 4) (v := .int 0) (ty := .int) (C := RX4) (T := TX4) (N := 21) hx hb hts (fun _ h => List.mem_cons_of_mem _ (List.mem_append_right _ h)) tyX4 tyX4_ok nmX4 hown hK hP hD hS 0 rfl rfl 0 (by decide) (hts (.fieldLink RX4 65 "ShippedLogModel" "thrown" "I") (by decide +kernel)) (fun _ h9 => h9) rfl (by decide +kernel) rfl rfl (Nat.le_of_ble_eq_true rfl) dX4_get_2 (fun H locs hP hD hS => ?_)
  have hP : va_P G vwCl (wM q k 0 (fun _ => 0) g7 g8) H := hP
  have hD : va_D A (wM q k 0 (fun _ => 0) g7 g8) := hD
  refine lv_iload_n hx hb dX4_get_5 rfl (lv_at hl 1 rfl) ?_
  refine br_call (W.runS (As := [.int (nI j)]) (rest := []) ⟨hx, hb, hml, hown, hts⟩ (m_isNode_t l j hj) (va_cwS 1 hts gX4_get_X4_isNode rfl rfl rfl (by decide +kernel) ⟨(Nat.le_of_ble_eq_true rfl), (Nat.le_of_ble_eq_true rfl)⟩) (P0.preS) rfl rfl hl.1 rfl (lv_room (Nat.le_of_ble_eq_true rfl)) dX4_get_6 ⟨(Nat.le_of_ble_eq_true rfl), (Nat.le_of_ble_eq_true rfl)⟩) ?_
  refine lv_if_eq (tgt := 22) hx hb dX4_get_9 (by decide) (fun c9 => absurd c9 (by decide : ¬ (1 : Int32) = 0)) (fun _ => ?_)
  refine lv_iload_n hx hb dX4_get_12 rfl (lv_at hl 2 rfl) ?_
  refine lv_iconst (v := 0) hx hb dX4_get_13 (by decide) ?_
  refine lv_bipush (v := 15) hx hb dX4_get_14 (by decide) ?_
  rcases h with h | h
  · refine br_call (W.runS (As := [.int p1, .int 0, .int 15]) (rest := []) ⟨hx, hb, hml, hown, hts⟩ (m_within_lo l p1 0 15 h) (va_cwS 3 hts gX4_get_X4_within rfl rfl rfl (by decide +kernel) ⟨(Nat.le_of_ble_eq_true rfl), (Nat.le_of_ble_eq_true rfl)⟩) (P0.preS) rfl rfl hl.1 rfl (lv_room (Nat.le_of_ble_eq_true rfl)) dX4_get_16 ⟨(Nat.le_of_ble_eq_true rfl), (Nat.le_of_ble_eq_true rfl)⟩) ?_
    refine lv_if_ne (tgt := 28) hx hb dX4_get_19 (by decide) (fun c9 => absurd rfl c9) (fun _ => ?_)
    refine lv_aload_n hx hb dX4_get_22 rfl (lv_at hl 0 rfl) ?_
    refine lv_iconst (v := 1) hx hb dX4_get_23 (by decide) ?_
    refine mf_call (va_runV (As := [.int 1]) (rest := []) ⟨hx, hb, hml, hown, hts⟩ (c_fail l G k _ (q 0) 0 _ 1) (cwV 1 hts gX4_get_X4_fail rfl rfl rfl (by decide +kernel) ⟨(Nat.le_of_ble_eq_true rfl), (Nat.le_of_ble_eq_true rfl)⟩) (mf_pre hK hP) rfl rfl hl.1 rfl (lv_room (Nat.le_of_ble_eq_true rfl)) dX4_get_24 ⟨(Nat.le_of_ble_eq_true rfl), (Nat.le_of_ble_eq_true rfl)⟩) hS hD rfl hA (fun H locs hP hS => ?_)
    exact W.iret (v := 0) hx hb hr (fun t ht hW => ⟨⟨0, (), rfl, fun h => absurd h (by decide), _, by rw [ht]; exact hP⟩, hS.F ht⟩) hS.2.2 dX4_get_27
  · refine br_call (W.runS (As := [.int p1, .int 0, .int 15]) (rest := []) ⟨hx, hb, hml, hown, hts⟩ (m_within_hi l p1 0 15 (n_ge0 (n := 16) h (by decide)) (n_up (n := 15) (by decide) h)) (va_cwS 3 hts gX4_get_X4_within rfl rfl rfl (by decide +kernel) ⟨(Nat.le_of_ble_eq_true rfl), (Nat.le_of_ble_eq_true rfl)⟩) (P0.preS) rfl rfl hl.1 rfl (lv_room (Nat.le_of_ble_eq_true rfl)) dX4_get_16 ⟨(Nat.le_of_ble_eq_true rfl), (Nat.le_of_ble_eq_true rfl)⟩) ?_
    refine lv_if_ne (tgt := 28) hx hb dX4_get_19 (by decide) (fun c9 => absurd rfl c9) (fun _ => ?_)
    refine lv_aload_n hx hb dX4_get_22 rfl (lv_at hl 0 rfl) ?_
    refine lv_iconst (v := 1) hx hb dX4_get_23 (by decide) ?_
    refine mf_call (va_runV (As := [.int 1]) (rest := []) ⟨hx, hb, hml, hown, hts⟩ (c_fail l G k _ (q 0) 0 _ 1) (cwV 1 hts gX4_get_X4_fail rfl rfl rfl (by decide +kernel) ⟨(Nat.le_of_ble_eq_true rfl), (Nat.le_of_ble_eq_true rfl)⟩) (mf_pre hK hP) rfl rfl hl.1 rfl (lv_room (Nat.le_of_ble_eq_true rfl)) dX4_get_24 ⟨(Nat.le_of_ble_eq_true rfl), (Nat.le_of_ble_eq_true rfl)⟩) hS hD rfl hA (fun H locs hP hS => ?_)
    exact W.iret (v := 0) hx hb hr (fun t ht hW => ⟨⟨0, (), rfl, fun h => absurd h (by decide), _, by rw [ht]; exact hP⟩, hS.F ht⟩) hS.2.2 dX4_get_27
set_option maxHeartbeats 4000000 in
set_option maxRecDepth 100000 in
/-- the reference: get, down -/
theorem cM_get_down (l : Launch) (G : va_G) (k : Nat → ClassId) (sz : Nat) (q : Nat → Nat) (g7 g8 : Nat → Int32) (j : Nat) (hj : j < 4) (q1 : Nat) (hq1 : q1 < 16) : Met l yX4_get wsX4_get (rzk 2 0 0) (MP G k sz q g7 g8 [.ref (q 0), .int (nI j), .int (nI q1)]) (MQl G q 2 0 (va_A (wM q k 0 (fun _ => 0) g7 g8) sz)) 0 0 (va_A (wM q k 0 (fun _ => 0) g7 g8) sz) := by
  refine Met.ofW (cc := cX4_get) (maxL := 3) (ret := (some .int)) (by decide) rfl ?_
  intro p e s m args below meth c s₁ B hml hv
  obtain ⟨rfl, hsz, hP, hK, hD0⟩ := hv
  subst hsz
  have hD := hD0.self (sz := s.heap.size)
  generalize hAe : va_A (wM q k 0 (fun _ => 0) g7 g8) s.heap.size = A at hD ⊢
  have hA : ∀ q : Nat, s.heap.size ≤ q → A q := fun q h => by rw [← hAe]; exact Or.inr h
  have hS : va_S A s.heap s.heap [] := va_S.rf
  have hx := B.exec
  have hb := B.bytes
  have hr := B.returns
  have hts := atoms_spec (ws := wsX4_get) B.pre
  have hown : s.vm.findClass RX4 = some m.cls := findClass_of_methodNamed B.named
  have hlocks := B.notSynchronized
  have hl := lv_entry ([.ref (q 0), .int (nI j), .int (nI q1)]) (n := 3) (Nat.le_of_ble_eq_true rfl)
  rw [lg_entry_eq]
  generalize (lg_sl ([.ref (q 0), .int (nI j), .int (nI q1)]) ++ List.replicate (3 - (lg_sl ([.ref (q 0), .int (nI j), .int (nI q1)])).length) Slot.unset).toArray = ls at hl ⊢
  have hl : lv_has ls 3 [(0, .ref (q 0)), (1, .int (nI j)), (2, .int (nI q1))] := hl
  refine lv_aload_n hx hb dX4_get_0 rfl (lv_at hl 0 rfl) ?_
  refine lv_iconst (v := 0) hx hb dX4_get_1 (by decide) ?_
  refine va_put (D := G) (ci := 4) (v := .int 0) (ty := .int) (C := RX4) (T := TX4) (N := 21) hx hb hts (fun _ h => List.mem_cons_of_mem _ (List.mem_append_right _ h)) tyX4 tyX4_ok nmX4 hown hK hP hD hS 0 rfl rfl 0 (by decide) (hts (.fieldLink RX4 65 "ShippedLogModel" "thrown" "I") (by decide +kernel)) (fun _ h9 => h9) rfl (by decide +kernel) rfl rfl (Nat.le_of_ble_eq_true rfl) dX4_get_2 (fun H locs hP hD hS => ?_)
  have hP : va_P G vwCl (wM q k 0 (fun _ => 0) g7 g8) H := hP
  have hD : va_D A (wM q k 0 (fun _ => 0) g7 g8) := hD
  refine lv_iload_n hx hb dX4_get_5 rfl (lv_at hl 1 rfl) ?_
  refine br_call (W.runS (As := [.int (nI j)]) (rest := []) ⟨hx, hb, hml, hown, hts⟩ (m_isNode_t l j hj) (va_cwS 1 hts gX4_get_X4_isNode rfl rfl rfl (by decide +kernel) ⟨(Nat.le_of_ble_eq_true rfl), (Nat.le_of_ble_eq_true rfl)⟩) (P0.preS) rfl rfl hl.1 rfl (lv_room (Nat.le_of_ble_eq_true rfl)) dX4_get_6 ⟨(Nat.le_of_ble_eq_true rfl), (Nat.le_of_ble_eq_true rfl)⟩) ?_
  refine lv_if_eq (tgt := 22) hx hb dX4_get_9 (by decide) (fun c9 => absurd c9 (by decide : ¬ (1 : Int32) = 0)) (fun _ => ?_)
  refine lv_iload_n hx hb dX4_get_12 rfl (lv_at hl 2 rfl) ?_
  refine lv_iconst (v := 0) hx hb dX4_get_13 (by decide) ?_
  refine lv_bipush (v := 15) hx hb dX4_get_14 (by decide) ?_
  refine br_call (W.runS (As := [.int (nI q1), .int 0, .int 15]) (rest := []) ⟨hx, hb, hml, hown, hts⟩ (m_within_t l (nI q1) 0 15 (n_0k hq1) (n_15 hq1)) (va_cwS 3 hts gX4_get_X4_within rfl rfl rfl (by decide +kernel) ⟨(Nat.le_of_ble_eq_true rfl), (Nat.le_of_ble_eq_true rfl)⟩) (P0.preS) rfl rfl hl.1 rfl (lv_room (Nat.le_of_ble_eq_true rfl)) dX4_get_16 ⟨(Nat.le_of_ble_eq_true rfl), (Nat.le_of_ble_eq_true rfl)⟩) ?_
  refine lv_if_ne (tgt := 28) hx hb dX4_get_19 (by decide) (fun _ => ?_) (fun c9 => absurd c9 (by decide : ¬ (1 : Int32) = 0))
  refine lv_aload_n hx hb dX4_get_28 rfl (lv_at hl 0 rfl) ?_
  refine va_get (D := G) (ci := 4) (v := .ref (q 3)) (C := RX4) (T := TX4) (N := 21) hx hb hts (fun _ h => List.mem_cons_of_mem _ (List.mem_append_right _ h)) hown hK hP 0 rfl rfl 4 (by decide) (hts (.fieldLink RX4 16 "ShippedLogModel" "role" "[I") (by decide +kernel)) (fun _ h9 => h9) rfl dX4_get_29 ?_
  refine lv_iload_n hx hb dX4_get_32 rfl (lv_at hl 1 rfl) ?_
  refine va_iald hx hb hK hP 3 3 rfl rfl (vp_in_nI hj (by decide)) dX4_get_33 ?_
  refine lv_if_ne (tgt := 43) hx hb dX4_get_34 (by decide) (fun c9 => absurd rfl c9) (fun _ => ?_)
  refine lv_aload_n hx hb dX4_get_37 rfl (lv_at hl 0 rfl) ?_
  refine lv_iconst (v := 2) hx hb dX4_get_38 (by decide) ?_
  refine mf_call (va_runV (As := [.int 2]) (rest := []) ⟨hx, hb, hml, hown, hts⟩ (c_fail l G k _ (q 0) 0 _ 2) (cwV 1 hts gX4_get_X4_fail rfl rfl rfl (by decide +kernel) ⟨(Nat.le_of_ble_eq_true rfl), (Nat.le_of_ble_eq_true rfl)⟩) (mf_pre hK hP) rfl rfl hl.1 rfl (lv_room (Nat.le_of_ble_eq_true rfl)) dX4_get_39 ⟨(Nat.le_of_ble_eq_true rfl), (Nat.le_of_ble_eq_true rfl)⟩) hS hD rfl hA (fun H locs hP hS => ?_)
  exact W.iret (v := 0) hx hb hr (fun t ht hW => ⟨⟨0, (), rfl, fun h => absurd h (by decide), _, by rw [ht]; exact hP⟩, hS.F ht⟩) hS.2.2 dX4_get_42
set_option maxHeartbeats 4000000 in
set_option maxRecDepth 100000 in
/-- the reference: byteAt, neg -/
theorem cM_byteAt_neg (l : Launch) (G : va_G) (k : Nat → ClassId) (sz : Nat) (q : Nat → Nat) (g7 g8 : Nat → Int32) (j : Nat) (hj : j < 4) (p1 p2 : Int32) (h : p1 < 0) : Met l yX4_byteAt wsX4_byteAt (rzk 2 0 0) (MP G k sz q g7 g8 [.ref (q 0), .int (nI j), .int p1, .int p2]) (MQl G q 1 0 (va_A (wM q k 0 (fun _ => 0) g7 g8) sz)) 0 0 (va_A (wM q k 0 (fun _ => 0) g7 g8) sz) := by
  refine Met.ofW (cc := cX4_byteAt) (maxL := 4) (ret := (some .int)) (by decide) rfl ?_
  intro p e s m args below meth c s₁ B hml hv
  obtain ⟨rfl, hsz, hP, hK, hD0⟩ := hv
  subst hsz
  have hD := hD0.self (sz := s.heap.size)
  generalize hAe : va_A (wM q k 0 (fun _ => 0) g7 g8) s.heap.size = A at hD ⊢
  have hA : ∀ q : Nat, s.heap.size ≤ q → A q := fun q h => by rw [← hAe]; exact Or.inr h
  have hS : va_S A s.heap s.heap [] := va_S.rf
  have hx := B.exec
  have hb := B.bytes
  have hr := B.returns
  have hts := atoms_spec (ws := wsX4_byteAt) B.pre
  have hown : s.vm.findClass RX4 = some m.cls := findClass_of_methodNamed B.named
  have hlocks := B.notSynchronized
  have hl := lv_entry ([.ref (q 0), .int (nI j), .int p1, .int p2]) (n := 4) (Nat.le_of_ble_eq_true rfl)
  rw [lg_entry_eq]
  generalize (lg_sl ([.ref (q 0), .int (nI j), .int p1, .int p2]) ++ List.replicate (4 - (lg_sl ([.ref (q 0), .int (nI j), .int p1, .int p2])).length) Slot.unset).toArray = ls at hl ⊢
  have hl : lv_has ls 4 [(0, .ref (q 0)), (1, .int (nI j)), (2, .int p1), (3, .int p2)] := hl
  refine lv_aload_n hx hb dX4_byteAt_0 rfl (lv_at hl 0 rfl) ?_
  refine lv_iconst (v := 0) hx hb dX4_byteAt_1 (by decide) ?_
  refine va_put (D := G) (ci := 4) (v := .int 0) (ty := .int) (C := RX4) (T := TX4) (N := 21) hx hb hts (fun _ h => List.mem_cons_of_mem _ (List.mem_append_right _ h)) tyX4 tyX4_ok nmX4 hown hK hP hD hS 0 rfl rfl 0 (by decide) (hts (.fieldLink RX4 65 "ShippedLogModel" "thrown" "I") (by decide +kernel)) (fun _ h9 => h9) rfl (by decide +kernel) rfl rfl (Nat.le_of_ble_eq_true rfl) dX4_byteAt_2 (fun H locs hP hD hS => ?_)
  have hP : va_P G vwCl (wM q k 0 (fun _ => 0) g7 g8) H := hP
  have hD : va_D A (wM q k 0 (fun _ => 0) g7 g8) := hD
  refine lv_iload_n hx hb dX4_byteAt_5 rfl (lv_at hl 1 rfl) ?_
  refine br_call (W.runS (As := [.int (nI j)]) (rest := []) ⟨hx, hb, hml, hown, hts⟩ (m_isNode_t l j hj) (va_cwS 1 hts gX4_byteAt_X4_isNode rfl rfl rfl (by decide +kernel) ⟨(Nat.le_of_ble_eq_true rfl), (Nat.le_of_ble_eq_true rfl)⟩) (P0.preS) rfl rfl hl.1 rfl (lv_room (Nat.le_of_ble_eq_true rfl)) dX4_byteAt_6 ⟨(Nat.le_of_ble_eq_true rfl), (Nat.le_of_ble_eq_true rfl)⟩) ?_
  refine lv_if_eq (tgt := 32) hx hb dX4_byteAt_9 (by decide) (fun c9 => absurd c9 (by decide : ¬ (1 : Int32) = 0)) (fun _ => ?_)
  refine lv_iload_n hx hb dX4_byteAt_12 rfl (lv_at hl 2 rfl) ?_
  refine lv_iconst (v := 0) hx hb dX4_byteAt_13 (by decide) ?_
  refine lv_sipush (v := 4095) hx hb dX4_byteAt_14 (by decide) ?_
  refine br_call (W.runS (As := [.int p1, .int 0, .int 4095]) (rest := []) ⟨hx, hb, hml, hown, hts⟩ (m_within_lo l p1 0 4095 h) (va_cwS 3 hts gX4_byteAt_X4_within rfl rfl rfl (by decide +kernel) ⟨(Nat.le_of_ble_eq_true rfl), (Nat.le_of_ble_eq_true rfl)⟩) (P0.preS) rfl rfl hl.1 rfl (lv_room (Nat.le_of_ble_eq_true rfl)) dX4_byteAt_17 ⟨(Nat.le_of_ble_eq_true rfl), (Nat.le_of_ble_eq_true rfl)⟩) ?_
  refine lv_if_eq (tgt := 32) hx hb dX4_byteAt_20 (by decide) (fun _ => ?_) (fun c9 => absurd rfl c9)
  refine lv_aload_n hx hb dX4_byteAt_32 rfl (lv_at hl 0 rfl) ?_
  refine lv_iconst (v := 1) hx hb dX4_byteAt_33 (by decide) ?_
  refine mf_call (va_runV (As := [.int 1]) (rest := []) ⟨hx, hb, hml, hown, hts⟩ (c_fail l G k _ (q 0) 0 _ 1) (cwV 1 hts gX4_byteAt_X4_fail rfl rfl rfl (by decide +kernel) ⟨(Nat.le_of_ble_eq_true rfl), (Nat.le_of_ble_eq_true rfl)⟩) (mf_pre hK hP) rfl rfl hl.1 rfl (lv_room (Nat.le_of_ble_eq_true rfl)) dX4_byteAt_34 ⟨(Nat.le_of_ble_eq_true rfl), (Nat.le_of_ble_eq_true rfl)⟩) hS hD rfl hA (fun H locs hP hS => ?_)
  exact W.iret (v := 0) hx hb hr (fun t ht hW => ⟨⟨0, (), rfl, fun h => absurd h (by decide), _, by rw [ht]; exact hP⟩, hS.F ht⟩) hS.2.2 dX4_byteAt_37
set_option maxHeartbeats 4000000 in
set_option maxRecDepth 100000 in
/-- the reference: byteAt, big -/
theorem cM_byteAt_big (l : Launch) (G : va_G) (k : Nat → ClassId) (sz : Nat) (q : Nat → Nat) (g7 g8 : Nat → Int32) (j : Nat) (hj : j < 4) (p1 p2 : Int32) (h : 4096 ≤ p1) : Met l yX4_byteAt wsX4_byteAt (rzk 2 0 0) (MP G k sz q g7 g8 [.ref (q 0), .int (nI j), .int p1, .int p2]) (MQl G q 1 0 (va_A (wM q k 0 (fun _ => 0) g7 g8) sz)) 0 0 (va_A (wM q k 0 (fun _ => 0) g7 g8) sz) := by
  refine Met.ofW (cc := cX4_byteAt) (maxL := 4) (ret := (some .int)) (by decide) rfl ?_
  intro p e s m args below meth c s₁ B hml hv
  obtain ⟨rfl, hsz, hP, hK, hD0⟩ := hv
  subst hsz
  have hD := hD0.self (sz := s.heap.size)
  generalize hAe : va_A (wM q k 0 (fun _ => 0) g7 g8) s.heap.size = A at hD ⊢
  have hA : ∀ q : Nat, s.heap.size ≤ q → A q := fun q h => by rw [← hAe]; exact Or.inr h
  have hS : va_S A s.heap s.heap [] := va_S.rf
  have hx := B.exec
  have hb := B.bytes
  have hr := B.returns
  have hts := atoms_spec (ws := wsX4_byteAt) B.pre
  have hown : s.vm.findClass RX4 = some m.cls := findClass_of_methodNamed B.named
  have hlocks := B.notSynchronized
  have hl := lv_entry ([.ref (q 0), .int (nI j), .int p1, .int p2]) (n := 4) (Nat.le_of_ble_eq_true rfl)
  rw [lg_entry_eq]
  generalize (lg_sl ([.ref (q 0), .int (nI j), .int p1, .int p2]) ++ List.replicate (4 - (lg_sl ([.ref (q 0), .int (nI j), .int p1, .int p2])).length) Slot.unset).toArray = ls at hl ⊢
  have hl : lv_has ls 4 [(0, .ref (q 0)), (1, .int (nI j)), (2, .int p1), (3, .int p2)] := hl
  refine lv_aload_n hx hb dX4_byteAt_0 rfl (lv_at hl 0 rfl) ?_
  refine lv_iconst (v := 0) hx hb dX4_byteAt_1 (by decide) ?_
  refine va_put (D := G) (ci := 4) (v := .int 0) (ty := .int) (C := RX4) (T := TX4) (N := 21) hx hb hts (fun _ h => List.mem_cons_of_mem _ (List.mem_append_right _ h)) tyX4 tyX4_ok nmX4 hown hK hP hD hS 0 rfl rfl 0 (by decide) (hts (.fieldLink RX4 65 "ShippedLogModel" "thrown" "I") (by decide +kernel)) (fun _ h9 => h9) rfl (by decide +kernel) rfl rfl (Nat.le_of_ble_eq_true rfl) dX4_byteAt_2 (fun H locs hP hD hS => ?_)
  have hP : va_P G vwCl (wM q k 0 (fun _ => 0) g7 g8) H := hP
  have hD : va_D A (wM q k 0 (fun _ => 0) g7 g8) := hD
  refine lv_iload_n hx hb dX4_byteAt_5 rfl (lv_at hl 1 rfl) ?_
  refine br_call (W.runS (As := [.int (nI j)]) (rest := []) ⟨hx, hb, hml, hown, hts⟩ (m_isNode_t l j hj) (va_cwS 1 hts gX4_byteAt_X4_isNode rfl rfl rfl (by decide +kernel) ⟨(Nat.le_of_ble_eq_true rfl), (Nat.le_of_ble_eq_true rfl)⟩) (P0.preS) rfl rfl hl.1 rfl (lv_room (Nat.le_of_ble_eq_true rfl)) dX4_byteAt_6 ⟨(Nat.le_of_ble_eq_true rfl), (Nat.le_of_ble_eq_true rfl)⟩) ?_
  refine lv_if_eq (tgt := 32) hx hb dX4_byteAt_9 (by decide) (fun c9 => absurd c9 (by decide : ¬ (1 : Int32) = 0)) (fun _ => ?_)
  refine lv_iload_n hx hb dX4_byteAt_12 rfl (lv_at hl 2 rfl) ?_
  refine lv_iconst (v := 0) hx hb dX4_byteAt_13 (by decide) ?_
  refine lv_sipush (v := 4095) hx hb dX4_byteAt_14 (by decide) ?_
  refine br_call (W.runS (As := [.int p1, .int 0, .int 4095]) (rest := []) ⟨hx, hb, hml, hown, hts⟩ (m_within_hi l p1 0 4095 (n_ge0 (n := 4096) h (by decide)) (n_up (n := 4095) (by decide) h)) (va_cwS 3 hts gX4_byteAt_X4_within rfl rfl rfl (by decide +kernel) ⟨(Nat.le_of_ble_eq_true rfl), (Nat.le_of_ble_eq_true rfl)⟩) (P0.preS) rfl rfl hl.1 rfl (lv_room (Nat.le_of_ble_eq_true rfl)) dX4_byteAt_17 ⟨(Nat.le_of_ble_eq_true rfl), (Nat.le_of_ble_eq_true rfl)⟩) ?_
  refine lv_if_eq (tgt := 32) hx hb dX4_byteAt_20 (by decide) (fun _ => ?_) (fun c9 => absurd rfl c9)
  refine lv_aload_n hx hb dX4_byteAt_32 rfl (lv_at hl 0 rfl) ?_
  refine lv_iconst (v := 1) hx hb dX4_byteAt_33 (by decide) ?_
  refine mf_call (va_runV (As := [.int 1]) (rest := []) ⟨hx, hb, hml, hown, hts⟩ (c_fail l G k _ (q 0) 0 _ 1) (cwV 1 hts gX4_byteAt_X4_fail rfl rfl rfl (by decide +kernel) ⟨(Nat.le_of_ble_eq_true rfl), (Nat.le_of_ble_eq_true rfl)⟩) (mf_pre hK hP) rfl rfl hl.1 rfl (lv_room (Nat.le_of_ble_eq_true rfl)) dX4_byteAt_34 ⟨(Nat.le_of_ble_eq_true rfl), (Nat.le_of_ble_eq_true rfl)⟩) hS hD rfl hA (fun H locs hP hS => ?_)
  exact W.iret (v := 0) hx hb hr (fun t ht hW => ⟨⟨0, (), rfl, fun h => absurd h (by decide), _, by rw [ht]; exact hP⟩, hS.F ht⟩) hS.2.2 dX4_byteAt_37
set_option maxHeartbeats 4000000 in
set_option maxRecDepth 100000 in
/-- the reference: byteAt, where -/
theorem cM_byteAt_where (l : Launch) (G : va_G) (k : Nat → ClassId) (sz : Nat) (q : Nat → Nat) (g7 g8 : Nat → Int32) (j : Nat) (hj : j < 4) (q1 : Nat) (hq1 : q1 < 4096) (p2 : Int32) (h1 : ¬ p2 = 0) (h2 : ¬ p2 = 1) : Met l yX4_byteAt wsX4_byteAt (rzk 2 0 0) (MP G k sz q g7 g8 [.ref (q 0), .int (nI j), .int (nI q1), .int p2]) (MQl G q 1 0 (va_A (wM q k 0 (fun _ => 0) g7 g8) sz)) 0 0 (va_A (wM q k 0 (fun _ => 0) g7 g8) sz) := by
  refine Met.ofW (cc := cX4_byteAt) (maxL := 4) (ret := (some .int)) (by decide) rfl ?_
  intro p e s m args below meth c s₁ B hml hv
  obtain ⟨rfl, hsz, hP, hK, hD0⟩ := hv
  subst hsz
  have hD := hD0.self (sz := s.heap.size)
  generalize hAe : va_A (wM q k 0 (fun _ => 0) g7 g8) s.heap.size = A at hD ⊢
  have hA : ∀ q : Nat, s.heap.size ≤ q → A q := fun q h => by rw [← hAe]; exact Or.inr h
  have hS : va_S A s.heap s.heap [] := va_S.rf
  have hx := B.exec
  have hb := B.bytes
  have hr := B.returns
  have hts := atoms_spec (ws := wsX4_byteAt) B.pre
  have hown : s.vm.findClass RX4 = some m.cls := findClass_of_methodNamed B.named
  have hlocks := B.notSynchronized
  have hl := lv_entry ([.ref (q 0), .int (nI j), .int (nI q1), .int p2]) (n := 4) (Nat.le_of_ble_eq_true rfl)
  rw [lg_entry_eq]
  generalize (lg_sl ([.ref (q 0), .int (nI j), .int (nI q1), .int p2]) ++ List.replicate (4 - (lg_sl ([.ref (q 0), .int (nI j), .int (nI q1), .int p2])).length) Slot.unset).toArray = ls at hl ⊢
  have hl : lv_has ls 4 [(0, .ref (q 0)), (1, .int (nI j)), (2, .int (nI q1)), (3, .int p2)] := hl
  refine lv_aload_n hx hb dX4_byteAt_0 rfl (lv_at hl 0 rfl) ?_
  refine lv_iconst (v := 0) hx hb dX4_byteAt_1 (by decide) ?_
  refine va_put (D := G) (ci := 4) (v := .int 0) (ty := .int) (C := RX4) (T := TX4) (N := 21) hx hb hts (fun _ h => List.mem_cons_of_mem _ (List.mem_append_right _ h)) tyX4 tyX4_ok nmX4 hown hK hP hD hS 0 rfl rfl 0 (by decide) (hts (.fieldLink RX4 65 "ShippedLogModel" "thrown" "I") (by decide +kernel)) (fun _ h9 => h9) rfl (by decide +kernel) rfl rfl (Nat.le_of_ble_eq_true rfl) dX4_byteAt_2 (fun H locs hP hD hS => ?_)
  have hP : va_P G vwCl (wM q k 0 (fun _ => 0) g7 g8) H := hP
  have hD : va_D A (wM q k 0 (fun _ => 0) g7 g8) := hD
  refine lv_iload_n hx hb dX4_byteAt_5 rfl (lv_at hl 1 rfl) ?_
  refine br_call (W.runS (As := [.int (nI j)]) (rest := []) ⟨hx, hb, hml, hown, hts⟩ (m_isNode_t l j hj) (va_cwS 1 hts gX4_byteAt_X4_isNode rfl rfl rfl (by decide +kernel) ⟨(Nat.le_of_ble_eq_true rfl), (Nat.le_of_ble_eq_true rfl)⟩) (P0.preS) rfl rfl hl.1 rfl (lv_room (Nat.le_of_ble_eq_true rfl)) dX4_byteAt_6 ⟨(Nat.le_of_ble_eq_true rfl), (Nat.le_of_ble_eq_true rfl)⟩) ?_
  refine lv_if_eq (tgt := 32) hx hb dX4_byteAt_9 (by decide) (fun c9 => absurd c9 (by decide : ¬ (1 : Int32) = 0)) (fun _ => ?_)
  refine lv_iload_n hx hb dX4_byteAt_12 rfl (lv_at hl 2 rfl) ?_
  refine lv_iconst (v := 0) hx hb dX4_byteAt_13 (by decide) ?_
  refine lv_sipush (v := 4095) hx hb dX4_byteAt_14 (by decide) ?_
  refine br_call (W.runS (As := [.int (nI q1), .int 0, .int 4095]) (rest := []) ⟨hx, hb, hml, hown, hts⟩ (m_within_t l (nI q1) 0 4095 (nI_pos (by omega)) (n_4095 hq1)) (va_cwS 3 hts gX4_byteAt_X4_within rfl rfl rfl (by decide +kernel) ⟨(Nat.le_of_ble_eq_true rfl), (Nat.le_of_ble_eq_true rfl)⟩) (P0.preS) rfl rfl hl.1 rfl (lv_room (Nat.le_of_ble_eq_true rfl)) dX4_byteAt_17 ⟨(Nat.le_of_ble_eq_true rfl), (Nat.le_of_ble_eq_true rfl)⟩) ?_
  refine lv_if_eq (tgt := 32) hx hb dX4_byteAt_20 (by decide) (fun c9 => absurd c9 (by decide : ¬ (1 : Int32) = 0)) (fun _ => ?_)
  refine lv_iload_n hx hb dX4_byteAt_23 rfl (lv_at hl 3 rfl) ?_
  refine lv_iconst (v := 0) hx hb dX4_byteAt_24 (by decide) ?_
  refine lv_iconst (v := 1) hx hb dX4_byteAt_25 (by decide) ?_
  rcases n_w2 h1 h2 with h | h
  · refine br_call (W.runS (As := [.int p2, .int 0, .int 1]) (rest := []) ⟨hx, hb, hml, hown, hts⟩ (m_within_lo l p2 0 1 h) (va_cwS 3 hts gX4_byteAt_X4_within rfl rfl rfl (by decide +kernel) ⟨(Nat.le_of_ble_eq_true rfl), (Nat.le_of_ble_eq_true rfl)⟩) (P0.preS) rfl rfl hl.1 rfl (lv_room (Nat.le_of_ble_eq_true rfl)) dX4_byteAt_26 ⟨(Nat.le_of_ble_eq_true rfl), (Nat.le_of_ble_eq_true rfl)⟩) ?_
    refine lv_if_ne (tgt := 38) hx hb dX4_byteAt_29 (by decide) (fun c9 => absurd rfl c9) (fun _ => ?_)
    refine lv_aload_n hx hb dX4_byteAt_32 rfl (lv_at hl 0 rfl) ?_
    refine lv_iconst (v := 1) hx hb dX4_byteAt_33 (by decide) ?_
    refine mf_call (va_runV (As := [.int 1]) (rest := []) ⟨hx, hb, hml, hown, hts⟩ (c_fail l G k _ (q 0) 0 _ 1) (cwV 1 hts gX4_byteAt_X4_fail rfl rfl rfl (by decide +kernel) ⟨(Nat.le_of_ble_eq_true rfl), (Nat.le_of_ble_eq_true rfl)⟩) (mf_pre hK hP) rfl rfl hl.1 rfl (lv_room (Nat.le_of_ble_eq_true rfl)) dX4_byteAt_34 ⟨(Nat.le_of_ble_eq_true rfl), (Nat.le_of_ble_eq_true rfl)⟩) hS hD rfl hA (fun H locs hP hS => ?_)
    exact W.iret (v := 0) hx hb hr (fun t ht hW => ⟨⟨0, (), rfl, fun h => absurd h (by decide), _, by rw [ht]; exact hP⟩, hS.F ht⟩) hS.2.2 dX4_byteAt_37
  · refine br_call (W.runS (As := [.int p2, .int 0, .int 1]) (rest := []) ⟨hx, hb, hml, hown, hts⟩ (m_within_hi l p2 0 1 (n_ge0 (n := 2) h (by decide)) (n_up (n := 1) (by decide) h)) (va_cwS 3 hts gX4_byteAt_X4_within rfl rfl rfl (by decide +kernel) ⟨(Nat.le_of_ble_eq_true rfl), (Nat.le_of_ble_eq_true rfl)⟩) (P0.preS) rfl rfl hl.1 rfl (lv_room (Nat.le_of_ble_eq_true rfl)) dX4_byteAt_26 ⟨(Nat.le_of_ble_eq_true rfl), (Nat.le_of_ble_eq_true rfl)⟩) ?_
    refine lv_if_ne (tgt := 38) hx hb dX4_byteAt_29 (by decide) (fun c9 => absurd rfl c9) (fun _ => ?_)
    refine lv_aload_n hx hb dX4_byteAt_32 rfl (lv_at hl 0 rfl) ?_
    refine lv_iconst (v := 1) hx hb dX4_byteAt_33 (by decide) ?_
    refine mf_call (va_runV (As := [.int 1]) (rest := []) ⟨hx, hb, hml, hown, hts⟩ (c_fail l G k _ (q 0) 0 _ 1) (cwV 1 hts gX4_byteAt_X4_fail rfl rfl rfl (by decide +kernel) ⟨(Nat.le_of_ble_eq_true rfl), (Nat.le_of_ble_eq_true rfl)⟩) (mf_pre hK hP) rfl rfl hl.1 rfl (lv_room (Nat.le_of_ble_eq_true rfl)) dX4_byteAt_34 ⟨(Nat.le_of_ble_eq_true rfl), (Nat.le_of_ble_eq_true rfl)⟩) hS hD rfl hA (fun H locs hP hS => ?_)
    exact W.iret (v := 0) hx hb hr (fun t ht hW => ⟨⟨0, (), rfl, fun h => absurd h (by decide), _, by rw [ht]; exact hP⟩, hS.F ht⟩) hS.2.2 dX4_byteAt_37
set_option maxHeartbeats 4000000 in
set_option maxRecDepth 100000 in
/-- the reference: byteAt, mem -/
theorem cM_byteAt_mem (l : Launch) (G : va_G) (k : Nat → ClassId) (sz : Nat) (q : Nat → Nat) (g7 g8 : Nat → Int32) (j : Nat) (hj : j < 4) (q1 : Nat) (hq1 : q1 < 4096) : Met l yX4_byteAt wsX4_byteAt (rzk 2 0 0) (MP G k sz q g7 g8 [.ref (q 0), .int (nI j), .int (nI q1), .int 0]) (MQl G q 0 0 (va_A (wM q k 0 (fun _ => 0) g7 g8) sz)) 0 0 (va_A (wM q k 0 (fun _ => 0) g7 g8) sz) := by
  refine Met.ofW (cc := cX4_byteAt) (maxL := 4) (ret := (some .int)) (by decide) rfl ?_
  intro p e s m args below meth c s₁ B hml hv
  obtain ⟨rfl, hsz, hP, hK, hD0⟩ := hv
  subst hsz
  have hD := hD0.self (sz := s.heap.size)
  generalize hAe : va_A (wM q k 0 (fun _ => 0) g7 g8) s.heap.size = A at hD ⊢
  have hA : ∀ q : Nat, s.heap.size ≤ q → A q := fun q h => by rw [← hAe]; exact Or.inr h
  have hS : va_S A s.heap s.heap [] := va_S.rf
  have hx := B.exec
  have hb := B.bytes
  have hr := B.returns
  have hts := atoms_spec (ws := wsX4_byteAt) B.pre
  have hown : s.vm.findClass RX4 = some m.cls := findClass_of_methodNamed B.named
  have hlocks := B.notSynchronized
  have hl := lv_entry ([.ref (q 0), .int (nI j), .int (nI q1), .int 0]) (n := 4) (Nat.le_of_ble_eq_true rfl)
  rw [lg_entry_eq]
  generalize (lg_sl ([.ref (q 0), .int (nI j), .int (nI q1), .int 0]) ++ List.replicate (4 - (lg_sl ([.ref (q 0), .int (nI j), .int (nI q1), .int 0])).length) Slot.unset).toArray = ls at hl ⊢
  have hl : lv_has ls 4 [(0, .ref (q 0)), (1, .int (nI j)), (2, .int (nI q1)), (3, .int 0)] := hl
  refine lv_aload_n hx hb dX4_byteAt_0 rfl (lv_at hl 0 rfl) ?_
  refine lv_iconst (v := 0) hx hb dX4_byteAt_1 (by decide) ?_
  refine va_put (D := G) (ci := 4) (v := .int 0) (ty := .int) (C := RX4) (T := TX4) (N := 21) hx hb hts (fun _ h => List.mem_cons_of_mem _ (List.mem_append_right _ h)) tyX4 tyX4_ok nmX4 hown hK hP hD hS 0 rfl rfl 0 (by decide) (hts (.fieldLink RX4 65 "ShippedLogModel" "thrown" "I") (by decide +kernel)) (fun _ h9 => h9) rfl (by decide +kernel) rfl rfl (Nat.le_of_ble_eq_true rfl) dX4_byteAt_2 (fun H locs hP hD hS => ?_)
  have hP : va_P G vwCl (wM q k 0 (fun _ => 0) g7 g8) H := hP
  have hD : va_D A (wM q k 0 (fun _ => 0) g7 g8) := hD
  refine lv_iload_n hx hb dX4_byteAt_5 rfl (lv_at hl 1 rfl) ?_
  refine br_call (W.runS (As := [.int (nI j)]) (rest := []) ⟨hx, hb, hml, hown, hts⟩ (m_isNode_t l j hj) (va_cwS 1 hts gX4_byteAt_X4_isNode rfl rfl rfl (by decide +kernel) ⟨(Nat.le_of_ble_eq_true rfl), (Nat.le_of_ble_eq_true rfl)⟩) (P0.preS) rfl rfl hl.1 rfl (lv_room (Nat.le_of_ble_eq_true rfl)) dX4_byteAt_6 ⟨(Nat.le_of_ble_eq_true rfl), (Nat.le_of_ble_eq_true rfl)⟩) ?_
  refine lv_if_eq (tgt := 32) hx hb dX4_byteAt_9 (by decide) (fun c9 => absurd c9 (by decide : ¬ (1 : Int32) = 0)) (fun _ => ?_)
  refine lv_iload_n hx hb dX4_byteAt_12 rfl (lv_at hl 2 rfl) ?_
  refine lv_iconst (v := 0) hx hb dX4_byteAt_13 (by decide) ?_
  refine lv_sipush (v := 4095) hx hb dX4_byteAt_14 (by decide) ?_
  refine br_call (W.runS (As := [.int (nI q1), .int 0, .int 4095]) (rest := []) ⟨hx, hb, hml, hown, hts⟩ (m_within_t l (nI q1) 0 4095 (nI_pos (by omega)) (n_4095 hq1)) (va_cwS 3 hts gX4_byteAt_X4_within rfl rfl rfl (by decide +kernel) ⟨(Nat.le_of_ble_eq_true rfl), (Nat.le_of_ble_eq_true rfl)⟩) (P0.preS) rfl rfl hl.1 rfl (lv_room (Nat.le_of_ble_eq_true rfl)) dX4_byteAt_17 ⟨(Nat.le_of_ble_eq_true rfl), (Nat.le_of_ble_eq_true rfl)⟩) ?_
  refine lv_if_eq (tgt := 32) hx hb dX4_byteAt_20 (by decide) (fun c9 => absurd c9 (by decide : ¬ (1 : Int32) = 0)) (fun _ => ?_)
  refine lv_iload_n hx hb dX4_byteAt_23 rfl (lv_at hl 3 rfl) ?_
  refine lv_iconst (v := 0) hx hb dX4_byteAt_24 (by decide) ?_
  refine lv_iconst (v := 1) hx hb dX4_byteAt_25 (by decide) ?_
  refine br_call (W.runS (As := [.int 0, .int 0, .int 1]) (rest := []) ⟨hx, hb, hml, hown, hts⟩ (m_within_t l 0 0 1 (by decide) (by decide)) (va_cwS 3 hts gX4_byteAt_X4_within rfl rfl rfl (by decide +kernel) ⟨(Nat.le_of_ble_eq_true rfl), (Nat.le_of_ble_eq_true rfl)⟩) (P0.preS) rfl rfl hl.1 rfl (lv_room (Nat.le_of_ble_eq_true rfl)) dX4_byteAt_26 ⟨(Nat.le_of_ble_eq_true rfl), (Nat.le_of_ble_eq_true rfl)⟩) ?_
  refine lv_if_ne (tgt := 38) hx hb dX4_byteAt_29 (by decide) (fun _ => ?_) (fun c9 => absurd c9 (by decide : ¬ (1 : Int32) = 0))
  refine lv_iload_n hx hb dX4_byteAt_38 rfl (lv_at hl 3 rfl) ?_
  refine lv_if_ne (tgt := 55) hx hb dX4_byteAt_39 (by decide) (fun c9 => absurd rfl c9) (fun _ => ?_)
  refine lv_aload_n hx hb dX4_byteAt_42 rfl (lv_at hl 0 rfl) ?_
  refine va_get (D := G) (ci := 4) (v := .ref (q 1)) (C := RX4) (T := TX4) (N := 21) hx hb hts (fun _ h => List.mem_cons_of_mem _ (List.mem_append_right _ h)) hown hK hP 0 rfl rfl 2 (by decide) (hts (.fieldLink RX4 7 "ShippedLogModel" "memory" "[I") (by decide +kernel)) (fun _ h9 => h9) rfl dX4_byteAt_43 ?_
  refine lv_iload_n hx hb dX4_byteAt_46 rfl (lv_at hl 1 rfl) ?_
  refine lv_iload_n hx hb dX4_byteAt_47 rfl (lv_at hl 2 rfl) ?_
  refine br_call (W.runS (As := [.int (nI j), .int (nI q1)]) (rest := [.ref (q 1)]) ⟨hx, hb, hml, hown, hts⟩ (m_at l j q1) (va_cwS 2 hts gX4_byteAt_X4_at rfl rfl rfl (by decide +kernel) ⟨(Nat.le_of_ble_eq_true rfl), (Nat.le_of_ble_eq_true rfl)⟩) (P0.preS) rfl rfl hl.1 rfl (lv_room (Nat.le_of_ble_eq_true rfl)) dX4_byteAt_48 ⟨(Nat.le_of_ble_eq_true rfl), (Nat.le_of_ble_eq_true rfl)⟩) ?_
  refine va_iald hx hb hK hP 1 3 rfl rfl (vp_in_nI (by omega) (by decide)) dX4_byteAt_51 ?_
  refine lv_goto (tgt := 65) hx hb dX4_byteAt_52 (by decide) ?_
  exact W.iret (v := 0) hx hb hr (fun t ht hW => ⟨⟨0, (), rfl, fun _ => rfl, _, by rw [ht]; exact hP.hd⟩, hS.F ht⟩) hS.2.2 dX4_byteAt_65
set_option maxHeartbeats 4000000 in
set_option maxRecDepth 100000 in
/-- the reference: byteAt, disk -/
theorem cM_byteAt_disk (l : Launch) (G : va_G) (k : Nat → ClassId) (sz : Nat) (q : Nat → Nat) (g7 g8 : Nat → Int32) (j : Nat) (hj : j < 4) (q1 : Nat) (hq1 : q1 < 4096) : Met l yX4_byteAt wsX4_byteAt (rzk 2 0 0) (MP G k sz q g7 g8 [.ref (q 0), .int (nI j), .int (nI q1), .int 1]) (MQl G q 0 0 (va_A (wM q k 0 (fun _ => 0) g7 g8) sz)) 0 0 (va_A (wM q k 0 (fun _ => 0) g7 g8) sz) := by
  refine Met.ofW (cc := cX4_byteAt) (maxL := 4) (ret := (some .int)) (by decide) rfl ?_
  intro p e s m args below meth c s₁ B hml hv
  obtain ⟨rfl, hsz, hP, hK, hD0⟩ := hv
  subst hsz
  have hD := hD0.self (sz := s.heap.size)
  generalize hAe : va_A (wM q k 0 (fun _ => 0) g7 g8) s.heap.size = A at hD ⊢
  have hA : ∀ q : Nat, s.heap.size ≤ q → A q := fun q h => by rw [← hAe]; exact Or.inr h
  have hS : va_S A s.heap s.heap [] := va_S.rf
  have hx := B.exec
  have hb := B.bytes
  have hr := B.returns
  have hts := atoms_spec (ws := wsX4_byteAt) B.pre
  have hown : s.vm.findClass RX4 = some m.cls := findClass_of_methodNamed B.named
  have hlocks := B.notSynchronized
  have hl := lv_entry ([.ref (q 0), .int (nI j), .int (nI q1), .int 1]) (n := 4) (Nat.le_of_ble_eq_true rfl)
  rw [lg_entry_eq]
  generalize (lg_sl ([.ref (q 0), .int (nI j), .int (nI q1), .int 1]) ++ List.replicate (4 - (lg_sl ([.ref (q 0), .int (nI j), .int (nI q1), .int 1])).length) Slot.unset).toArray = ls at hl ⊢
  have hl : lv_has ls 4 [(0, .ref (q 0)), (1, .int (nI j)), (2, .int (nI q1)), (3, .int 1)] := hl
  refine lv_aload_n hx hb dX4_byteAt_0 rfl (lv_at hl 0 rfl) ?_
  refine lv_iconst (v := 0) hx hb dX4_byteAt_1 (by decide) ?_
  refine va_put (D := G) (ci := 4) (v := .int 0) (ty := .int) (C := RX4) (T := TX4) (N := 21) hx hb hts (fun _ h => List.mem_cons_of_mem _ (List.mem_append_right _ h)) tyX4 tyX4_ok nmX4 hown hK hP hD hS 0 rfl rfl 0 (by decide) (hts (.fieldLink RX4 65 "ShippedLogModel" "thrown" "I") (by decide +kernel)) (fun _ h9 => h9) rfl (by decide +kernel) rfl rfl (Nat.le_of_ble_eq_true rfl) dX4_byteAt_2 (fun H locs hP hD hS => ?_)
  have hP : va_P G vwCl (wM q k 0 (fun _ => 0) g7 g8) H := hP
  have hD : va_D A (wM q k 0 (fun _ => 0) g7 g8) := hD
  refine lv_iload_n hx hb dX4_byteAt_5 rfl (lv_at hl 1 rfl) ?_
  refine br_call (W.runS (As := [.int (nI j)]) (rest := []) ⟨hx, hb, hml, hown, hts⟩ (m_isNode_t l j hj) (va_cwS 1 hts gX4_byteAt_X4_isNode rfl rfl rfl (by decide +kernel) ⟨(Nat.le_of_ble_eq_true rfl), (Nat.le_of_ble_eq_true rfl)⟩) (P0.preS) rfl rfl hl.1 rfl (lv_room (Nat.le_of_ble_eq_true rfl)) dX4_byteAt_6 ⟨(Nat.le_of_ble_eq_true rfl), (Nat.le_of_ble_eq_true rfl)⟩) ?_
  refine lv_if_eq (tgt := 32) hx hb dX4_byteAt_9 (by decide) (fun c9 => absurd c9 (by decide : ¬ (1 : Int32) = 0)) (fun _ => ?_)
  refine lv_iload_n hx hb dX4_byteAt_12 rfl (lv_at hl 2 rfl) ?_
  refine lv_iconst (v := 0) hx hb dX4_byteAt_13 (by decide) ?_
  refine lv_sipush (v := 4095) hx hb dX4_byteAt_14 (by decide) ?_
  refine br_call (W.runS (As := [.int (nI q1), .int 0, .int 4095]) (rest := []) ⟨hx, hb, hml, hown, hts⟩ (m_within_t l (nI q1) 0 4095 (nI_pos (by omega)) (n_4095 hq1)) (va_cwS 3 hts gX4_byteAt_X4_within rfl rfl rfl (by decide +kernel) ⟨(Nat.le_of_ble_eq_true rfl), (Nat.le_of_ble_eq_true rfl)⟩) (P0.preS) rfl rfl hl.1 rfl (lv_room (Nat.le_of_ble_eq_true rfl)) dX4_byteAt_17 ⟨(Nat.le_of_ble_eq_true rfl), (Nat.le_of_ble_eq_true rfl)⟩) ?_
  refine lv_if_eq (tgt := 32) hx hb dX4_byteAt_20 (by decide) (fun c9 => absurd c9 (by decide : ¬ (1 : Int32) = 0)) (fun _ => ?_)
  refine lv_iload_n hx hb dX4_byteAt_23 rfl (lv_at hl 3 rfl) ?_
  refine lv_iconst (v := 0) hx hb dX4_byteAt_24 (by decide) ?_
  refine lv_iconst (v := 1) hx hb dX4_byteAt_25 (by decide) ?_
  refine br_call (W.runS (As := [.int 1, .int 0, .int 1]) (rest := []) ⟨hx, hb, hml, hown, hts⟩ (m_within_t l 1 0 1 (by decide) (by decide)) (va_cwS 3 hts gX4_byteAt_X4_within rfl rfl rfl (by decide +kernel) ⟨(Nat.le_of_ble_eq_true rfl), (Nat.le_of_ble_eq_true rfl)⟩) (P0.preS) rfl rfl hl.1 rfl (lv_room (Nat.le_of_ble_eq_true rfl)) dX4_byteAt_26 ⟨(Nat.le_of_ble_eq_true rfl), (Nat.le_of_ble_eq_true rfl)⟩) ?_
  refine lv_if_ne (tgt := 38) hx hb dX4_byteAt_29 (by decide) (fun _ => ?_) (fun c9 => absurd c9 (by decide : ¬ (1 : Int32) = 0))
  refine lv_iload_n hx hb dX4_byteAt_38 rfl (lv_at hl 3 rfl) ?_
  refine lv_if_ne (tgt := 55) hx hb dX4_byteAt_39 (by decide) (fun _ => ?_) (fun c9 => absurd c9 (by decide : ¬ (1 : Int32) = 0))
  refine lv_aload_n hx hb dX4_byteAt_55 rfl (lv_at hl 0 rfl) ?_
  refine va_get (D := G) (ci := 4) (v := .ref (q 2)) (C := RX4) (T := TX4) (N := 21) hx hb hts (fun _ h => List.mem_cons_of_mem _ (List.mem_append_right _ h)) hown hK hP 0 rfl rfl 3 (by decide) (hts (.fieldLink RX4 13 "ShippedLogModel" "disk" "[I") (by decide +kernel)) (fun _ h9 => h9) rfl dX4_byteAt_56 ?_
  refine lv_iload_n hx hb dX4_byteAt_59 rfl (lv_at hl 1 rfl) ?_
  refine lv_iload_n hx hb dX4_byteAt_60 rfl (lv_at hl 2 rfl) ?_
  refine br_call (W.runS (As := [.int (nI j), .int (nI q1)]) (rest := [.ref (q 2)]) ⟨hx, hb, hml, hown, hts⟩ (m_at l j q1) (va_cwS 2 hts gX4_byteAt_X4_at rfl rfl rfl (by decide +kernel) ⟨(Nat.le_of_ble_eq_true rfl), (Nat.le_of_ble_eq_true rfl)⟩) (P0.preS) rfl rfl hl.1 rfl (lv_room (Nat.le_of_ble_eq_true rfl)) dX4_byteAt_61 ⟨(Nat.le_of_ble_eq_true rfl), (Nat.le_of_ble_eq_true rfl)⟩) ?_
  refine va_iald hx hb hK hP 2 3 rfl rfl (vp_in_nI (by omega) (by decide)) dX4_byteAt_64 ?_
  exact W.iret (v := 0) hx hb hr (fun t ht hW => ⟨⟨0, (), rfl, fun _ => rfl, _, by rw [ht]; exact hP.hd⟩, hS.F ht⟩) hS.2.2 dX4_byteAt_65
set_option maxHeartbeats 4000000 in
set_option maxRecDepth 100000 in
/-- the reference: node, neg -/
theorem cM_node_neg (l : Launch) (G : va_G) (k : Nat → ClassId) (sz : Nat) (q : Nat → Nat) (g7 g8 : Nat → Int32) (j : Nat) (hj : j < 4) (p1 : Int32) (h : p1 < 0) : Met l yX4_node wsX4_node (rzk 2 0 0) (MP G k sz q g7 g8 [.ref (q 0), .int (nI j), .int p1]) (MQl G q 1 0 (va_A (wM q k 0 (fun _ => 0) g7 g8) sz)) 0 0 (va_A (wM q k 0 (fun _ => 0) g7 g8) sz) := by
  refine Met.ofW (cc := cX4_node) (maxL := 3) (ret := (some .int)) (by decide) rfl ?_
  intro p e s m args below meth c s₁ B hml hv
  obtain ⟨rfl, hsz, hP, hK, hD0⟩ := hv
  subst hsz
  have hD := hD0.self (sz := s.heap.size)
  generalize hAe : va_A (wM q k 0 (fun _ => 0) g7 g8) s.heap.size = A at hD ⊢
  have hA : ∀ q : Nat, s.heap.size ≤ q → A q := fun q h => by rw [← hAe]; exact Or.inr h
  have hS : va_S A s.heap s.heap [] := va_S.rf
  have hx := B.exec
  have hb := B.bytes
  have hr := B.returns
  have hts := atoms_spec (ws := wsX4_node) B.pre
  have hown : s.vm.findClass RX4 = some m.cls := findClass_of_methodNamed B.named
  have hlocks := B.notSynchronized
  have hl := lv_entry ([.ref (q 0), .int (nI j), .int p1]) (n := 3) (Nat.le_of_ble_eq_true rfl)
  rw [lg_entry_eq]
  generalize (lg_sl ([.ref (q 0), .int (nI j), .int p1]) ++ List.replicate (3 - (lg_sl ([.ref (q 0), .int (nI j), .int p1])).length) Slot.unset).toArray = ls at hl ⊢
  have hl : lv_has ls 3 [(0, .ref (q 0)), (1, .int (nI j)), (2, .int p1)] := hl
  refine lv_aload_n hx hb dX4_node_0 rfl (lv_at hl 0 rfl) ?_
  refine lv_iconst (v := 0) hx hb dX4_node_1 (by decide) ?_
  refine va_put (D := G) (ci := 4) (v := .int 0) (ty := .int) (C := RX4) (T := TX4) (N := 21) hx hb hts (fun _ h => List.mem_cons_of_mem _ (List.mem_append_right _ h)) tyX4 tyX4_ok nmX4 hown hK hP hD hS 0 rfl rfl 0 (by decide) (hts (.fieldLink RX4 65 "ShippedLogModel" "thrown" "I") (by decide +kernel)) (fun _ h9 => h9) rfl (by decide +kernel) rfl rfl (Nat.le_of_ble_eq_true rfl) dX4_node_2 (fun H locs hP hD hS => ?_)
  have hP : va_P G vwCl (wM q k 0 (fun _ => 0) g7 g8) H := hP
  have hD : va_D A (wM q k 0 (fun _ => 0) g7 g8) := hD
  refine lv_iload_n hx hb dX4_node_5 rfl (lv_at hl 1 rfl) ?_
  refine br_call (W.runS (As := [.int (nI j)]) (rest := []) ⟨hx, hb, hml, hown, hts⟩ (m_isNode_t l j hj) (va_cwS 1 hts gX4_node_X4_isNode rfl rfl rfl (by decide +kernel) ⟨(Nat.le_of_ble_eq_true rfl), (Nat.le_of_ble_eq_true rfl)⟩) (P0.preS) rfl rfl hl.1 rfl (lv_room (Nat.le_of_ble_eq_true rfl)) dX4_node_6 ⟨(Nat.le_of_ble_eq_true rfl), (Nat.le_of_ble_eq_true rfl)⟩) ?_
  refine lv_if_eq (tgt := 22) hx hb dX4_node_9 (by decide) (fun c9 => absurd c9 (by decide : ¬ (1 : Int32) = 0)) (fun _ => ?_)
  refine lv_iload_n hx hb dX4_node_12 rfl (lv_at hl 2 rfl) ?_
  refine lv_iconst (v := 0) hx hb dX4_node_13 (by decide) ?_
  refine lv_bipush (v := 8) hx hb dX4_node_14 (by decide) ?_
  refine br_call (W.runS (As := [.int p1, .int 0, .int 8]) (rest := []) ⟨hx, hb, hml, hown, hts⟩ (m_within_lo l p1 0 8 h) (va_cwS 3 hts gX4_node_X4_within rfl rfl rfl (by decide +kernel) ⟨(Nat.le_of_ble_eq_true rfl), (Nat.le_of_ble_eq_true rfl)⟩) (P0.preS) rfl rfl hl.1 rfl (lv_room (Nat.le_of_ble_eq_true rfl)) dX4_node_16 ⟨(Nat.le_of_ble_eq_true rfl), (Nat.le_of_ble_eq_true rfl)⟩) ?_
  refine lv_if_ne (tgt := 28) hx hb dX4_node_19 (by decide) (fun c9 => absurd rfl c9) (fun _ => ?_)
  refine lv_aload_n hx hb dX4_node_22 rfl (lv_at hl 0 rfl) ?_
  refine lv_iconst (v := 1) hx hb dX4_node_23 (by decide) ?_
  refine mf_call (va_runV (As := [.int 1]) (rest := []) ⟨hx, hb, hml, hown, hts⟩ (c_fail l G k _ (q 0) 0 _ 1) (cwV 1 hts gX4_node_X4_fail rfl rfl rfl (by decide +kernel) ⟨(Nat.le_of_ble_eq_true rfl), (Nat.le_of_ble_eq_true rfl)⟩) (mf_pre hK hP) rfl rfl hl.1 rfl (lv_room (Nat.le_of_ble_eq_true rfl)) dX4_node_24 ⟨(Nat.le_of_ble_eq_true rfl), (Nat.le_of_ble_eq_true rfl)⟩) hS hD rfl hA (fun H locs hP hS => ?_)
  exact W.iret (v := 0) hx hb hr (fun t ht hW => ⟨⟨0, (), rfl, fun h => absurd h (by decide), _, by rw [ht]; exact hP⟩, hS.F ht⟩) hS.2.2 dX4_node_27
set_option maxHeartbeats 4000000 in
set_option maxRecDepth 100000 in
/-- the reference: node, big -/
theorem cM_node_big (l : Launch) (G : va_G) (k : Nat → ClassId) (sz : Nat) (q : Nat → Nat) (g7 g8 : Nat → Int32) (j : Nat) (hj : j < 4) (p1 : Int32) (h : 8 < p1) : Met l yX4_node wsX4_node (rzk 2 0 0) (MP G k sz q g7 g8 [.ref (q 0), .int (nI j), .int p1]) (MQl G q 1 0 (va_A (wM q k 0 (fun _ => 0) g7 g8) sz)) 0 0 (va_A (wM q k 0 (fun _ => 0) g7 g8) sz) := by
  refine Met.ofW (cc := cX4_node) (maxL := 3) (ret := (some .int)) (by decide) rfl ?_
  intro p e s m args below meth c s₁ B hml hv
  obtain ⟨rfl, hsz, hP, hK, hD0⟩ := hv
  subst hsz
  have hD := hD0.self (sz := s.heap.size)
  generalize hAe : va_A (wM q k 0 (fun _ => 0) g7 g8) s.heap.size = A at hD ⊢
  have hA : ∀ q : Nat, s.heap.size ≤ q → A q := fun q h => by rw [← hAe]; exact Or.inr h
  have hS : va_S A s.heap s.heap [] := va_S.rf
  have hx := B.exec
  have hb := B.bytes
  have hr := B.returns
  have hts := atoms_spec (ws := wsX4_node) B.pre
  have hown : s.vm.findClass RX4 = some m.cls := findClass_of_methodNamed B.named
  have hlocks := B.notSynchronized
  have hl := lv_entry ([.ref (q 0), .int (nI j), .int p1]) (n := 3) (Nat.le_of_ble_eq_true rfl)
  rw [lg_entry_eq]
  generalize (lg_sl ([.ref (q 0), .int (nI j), .int p1]) ++ List.replicate (3 - (lg_sl ([.ref (q 0), .int (nI j), .int p1])).length) Slot.unset).toArray = ls at hl ⊢
  have hl : lv_has ls 3 [(0, .ref (q 0)), (1, .int (nI j)), (2, .int p1)] := hl
  refine lv_aload_n hx hb dX4_node_0 rfl (lv_at hl 0 rfl) ?_
  refine lv_iconst (v := 0) hx hb dX4_node_1 (by decide) ?_
  refine va_put (D := G) (ci := 4) (v := .int 0) (ty := .int) (C := RX4) (T := TX4) (N := 21) hx hb hts (fun _ h => List.mem_cons_of_mem _ (List.mem_append_right _ h)) tyX4 tyX4_ok nmX4 hown hK hP hD hS 0 rfl rfl 0 (by decide) (hts (.fieldLink RX4 65 "ShippedLogModel" "thrown" "I") (by decide +kernel)) (fun _ h9 => h9) rfl (by decide +kernel) rfl rfl (Nat.le_of_ble_eq_true rfl) dX4_node_2 (fun H locs hP hD hS => ?_)
  have hP : va_P G vwCl (wM q k 0 (fun _ => 0) g7 g8) H := hP
  have hD : va_D A (wM q k 0 (fun _ => 0) g7 g8) := hD
  refine lv_iload_n hx hb dX4_node_5 rfl (lv_at hl 1 rfl) ?_
  refine br_call (W.runS (As := [.int (nI j)]) (rest := []) ⟨hx, hb, hml, hown, hts⟩ (m_isNode_t l j hj) (va_cwS 1 hts gX4_node_X4_isNode rfl rfl rfl (by decide +kernel) ⟨(Nat.le_of_ble_eq_true rfl), (Nat.le_of_ble_eq_true rfl)⟩) (P0.preS) rfl rfl hl.1 rfl (lv_room (Nat.le_of_ble_eq_true rfl)) dX4_node_6 ⟨(Nat.le_of_ble_eq_true rfl), (Nat.le_of_ble_eq_true rfl)⟩) ?_
  refine lv_if_eq (tgt := 22) hx hb dX4_node_9 (by decide) (fun c9 => absurd c9 (by decide : ¬ (1 : Int32) = 0)) (fun _ => ?_)
  refine lv_iload_n hx hb dX4_node_12 rfl (lv_at hl 2 rfl) ?_
  refine lv_iconst (v := 0) hx hb dX4_node_13 (by decide) ?_
  refine lv_bipush (v := 8) hx hb dX4_node_14 (by decide) ?_
  refine br_call (W.runS (As := [.int p1, .int 0, .int 8]) (rest := []) ⟨hx, hb, hml, hown, hts⟩ (m_within_hi l p1 0 8 (n_ge0 (n := 9) (n_9 h) (by decide)) h) (va_cwS 3 hts gX4_node_X4_within rfl rfl rfl (by decide +kernel) ⟨(Nat.le_of_ble_eq_true rfl), (Nat.le_of_ble_eq_true rfl)⟩) (P0.preS) rfl rfl hl.1 rfl (lv_room (Nat.le_of_ble_eq_true rfl)) dX4_node_16 ⟨(Nat.le_of_ble_eq_true rfl), (Nat.le_of_ble_eq_true rfl)⟩) ?_
  refine lv_if_ne (tgt := 28) hx hb dX4_node_19 (by decide) (fun c9 => absurd rfl c9) (fun _ => ?_)
  refine lv_aload_n hx hb dX4_node_22 rfl (lv_at hl 0 rfl) ?_
  refine lv_iconst (v := 1) hx hb dX4_node_23 (by decide) ?_
  refine mf_call (va_runV (As := [.int 1]) (rest := []) ⟨hx, hb, hml, hown, hts⟩ (c_fail l G k _ (q 0) 0 _ 1) (cwV 1 hts gX4_node_X4_fail rfl rfl rfl (by decide +kernel) ⟨(Nat.le_of_ble_eq_true rfl), (Nat.le_of_ble_eq_true rfl)⟩) (mf_pre hK hP) rfl rfl hl.1 rfl (lv_room (Nat.le_of_ble_eq_true rfl)) dX4_node_24 ⟨(Nat.le_of_ble_eq_true rfl), (Nat.le_of_ble_eq_true rfl)⟩) hS hD rfl hA (fun H locs hP hS => ?_)
  exact W.iret (v := 0) hx hb hr (fun t ht hW => ⟨⟨0, (), rfl, fun h => absurd h (by decide), _, by rw [ht]; exact hP⟩, hS.F ht⟩) hS.2.2 dX4_node_27
set_option maxHeartbeats 4000000 in
set_option maxRecDepth 100000 in
/-- the reference: node, five -/
theorem cM_node_five (l : Launch) (G : va_G) (k : Nat → ClassId) (sz : Nat) (q : Nat → Nat) (g7 g8 : Nat → Int32) (j : Nat) (hj : j < 4) : Met l yX4_node wsX4_node (rzk 2 0 0) (MP G k sz q g7 g8 [.ref (q 0), .int (nI j), .int 5]) (MQl G q 0 (-1) (va_A (wM q k 0 (fun _ => 0) g7 g8) sz)) 0 0 (va_A (wM q k 0 (fun _ => 0) g7 g8) sz) := by
  refine Met.ofW (cc := cX4_node) (maxL := 3) (ret := (some .int)) (by decide) rfl ?_
  intro p e s m args below meth c s₁ B hml hv
  obtain ⟨rfl, hsz, hP, hK, hD0⟩ := hv
  subst hsz
  have hD := hD0.self (sz := s.heap.size)
  generalize hAe : va_A (wM q k 0 (fun _ => 0) g7 g8) s.heap.size = A at hD ⊢
  have hA : ∀ q : Nat, s.heap.size ≤ q → A q := fun q h => by rw [← hAe]; exact Or.inr h
  have hS : va_S A s.heap s.heap [] := va_S.rf
  have hx := B.exec
  have hb := B.bytes
  have hr := B.returns
  have hts := atoms_spec (ws := wsX4_node) B.pre
  have hown : s.vm.findClass RX4 = some m.cls := findClass_of_methodNamed B.named
  have hlocks := B.notSynchronized
  have hl := lv_entry ([.ref (q 0), .int (nI j), .int 5]) (n := 3) (Nat.le_of_ble_eq_true rfl)
  rw [lg_entry_eq]
  generalize (lg_sl ([.ref (q 0), .int (nI j), .int 5]) ++ List.replicate (3 - (lg_sl ([.ref (q 0), .int (nI j), .int 5])).length) Slot.unset).toArray = ls at hl ⊢
  have hl : lv_has ls 3 [(0, .ref (q 0)), (1, .int (nI j)), (2, .int 5)] := hl
  refine lv_aload_n hx hb dX4_node_0 rfl (lv_at hl 0 rfl) ?_
  refine lv_iconst (v := 0) hx hb dX4_node_1 (by decide) ?_
  refine va_put (D := G) (ci := 4) (v := .int 0) (ty := .int) (C := RX4) (T := TX4) (N := 21) hx hb hts (fun _ h => List.mem_cons_of_mem _ (List.mem_append_right _ h)) tyX4 tyX4_ok nmX4 hown hK hP hD hS 0 rfl rfl 0 (by decide) (hts (.fieldLink RX4 65 "ShippedLogModel" "thrown" "I") (by decide +kernel)) (fun _ h9 => h9) rfl (by decide +kernel) rfl rfl (Nat.le_of_ble_eq_true rfl) dX4_node_2 (fun H locs hP hD hS => ?_)
  have hP : va_P G vwCl (wM q k 0 (fun _ => 0) g7 g8) H := hP
  have hD : va_D A (wM q k 0 (fun _ => 0) g7 g8) := hD
  refine lv_iload_n hx hb dX4_node_5 rfl (lv_at hl 1 rfl) ?_
  refine br_call (W.runS (As := [.int (nI j)]) (rest := []) ⟨hx, hb, hml, hown, hts⟩ (m_isNode_t l j hj) (va_cwS 1 hts gX4_node_X4_isNode rfl rfl rfl (by decide +kernel) ⟨(Nat.le_of_ble_eq_true rfl), (Nat.le_of_ble_eq_true rfl)⟩) (P0.preS) rfl rfl hl.1 rfl (lv_room (Nat.le_of_ble_eq_true rfl)) dX4_node_6 ⟨(Nat.le_of_ble_eq_true rfl), (Nat.le_of_ble_eq_true rfl)⟩) ?_
  refine lv_if_eq (tgt := 22) hx hb dX4_node_9 (by decide) (fun c9 => absurd c9 (by decide : ¬ (1 : Int32) = 0)) (fun _ => ?_)
  refine lv_iload_n hx hb dX4_node_12 rfl (lv_at hl 2 rfl) ?_
  refine lv_iconst (v := 0) hx hb dX4_node_13 (by decide) ?_
  refine lv_bipush (v := 8) hx hb dX4_node_14 (by decide) ?_
  refine br_call (W.runS (As := [.int 5, .int 0, .int 8]) (rest := []) ⟨hx, hb, hml, hown, hts⟩ (m_within_t l 5 0 8 (by decide) (by decide)) (va_cwS 3 hts gX4_node_X4_within rfl rfl rfl (by decide +kernel) ⟨(Nat.le_of_ble_eq_true rfl), (Nat.le_of_ble_eq_true rfl)⟩) (P0.preS) rfl rfl hl.1 rfl (lv_room (Nat.le_of_ble_eq_true rfl)) dX4_node_16 ⟨(Nat.le_of_ble_eq_true rfl), (Nat.le_of_ble_eq_true rfl)⟩) ?_
  refine lv_if_ne (tgt := 28) hx hb dX4_node_19 (by decide) (fun _ => ?_) (fun c9 => absurd c9 (by decide : ¬ (1 : Int32) = 0))
  refine lv_aload_n hx hb dX4_node_28 rfl (lv_at hl 0 rfl) ?_
  refine va_get (D := G) (ci := 4) (v := .ref (q 3)) (C := RX4) (T := TX4) (N := 21) hx hb hts (fun _ h => List.mem_cons_of_mem _ (List.mem_append_right _ h)) hown hK hP 0 rfl rfl 4 (by decide) (hts (.fieldLink RX4 16 "ShippedLogModel" "role" "[I") (by decide +kernel)) (fun _ h9 => h9) rfl dX4_node_29 ?_
  refine lv_iload_n hx hb dX4_node_32 rfl (lv_at hl 1 rfl) ?_
  refine va_iald hx hb hK hP 3 3 rfl rfl (vp_in_nI hj (by decide)) dX4_node_33 ?_
  refine lv_if_ne (tgt := 54) hx hb dX4_node_34 (by decide) (fun c9 => absurd rfl c9) (fun _ => ?_)
  refine lv_iload_n hx hb dX4_node_37 rfl (lv_at hl 2 rfl) ?_
  refine lv_iconst (v := 5) hx hb dX4_node_38 (by decide) ?_
  refine lv_icmp_eq (tgt := 48) hx hb dX4_node_39 (by decide) (fun _ => ?_) (fun c9 => absurd rfl c9)
  refine lv_iconst (v := (-1)) hx hb dX4_node_48 (by decide) ?_
  refine lv_goto (tgt := 53) hx hb dX4_node_49 (by decide) ?_
  exact W.iret (v := (-1)) hx hb hr (fun t ht hW => ⟨⟨(-1), (), rfl, fun _ => rfl, _, by rw [ht]; exact hP.hd⟩, hS.F ht⟩) hS.2.2 dX4_node_53
set_option maxHeartbeats 4000000 in
set_option maxRecDepth 100000 in
/-- the reference: node, seven -/
theorem cM_node_seven (l : Launch) (G : va_G) (k : Nat → ClassId) (sz : Nat) (q : Nat → Nat) (g7 g8 : Nat → Int32) (j : Nat) (hj : j < 4) : Met l yX4_node wsX4_node (rzk 2 0 0) (MP G k sz q g7 g8 [.ref (q 0), .int (nI j), .int 7]) (MQl G q 0 (-1) (va_A (wM q k 0 (fun _ => 0) g7 g8) sz)) 0 0 (va_A (wM q k 0 (fun _ => 0) g7 g8) sz) := by
  refine Met.ofW (cc := cX4_node) (maxL := 3) (ret := (some .int)) (by decide) rfl ?_
  intro p e s m args below meth c s₁ B hml hv
  obtain ⟨rfl, hsz, hP, hK, hD0⟩ := hv
  subst hsz
  have hD := hD0.self (sz := s.heap.size)
  generalize hAe : va_A (wM q k 0 (fun _ => 0) g7 g8) s.heap.size = A at hD ⊢
  have hA : ∀ q : Nat, s.heap.size ≤ q → A q := fun q h => by rw [← hAe]; exact Or.inr h
  have hS : va_S A s.heap s.heap [] := va_S.rf
  have hx := B.exec
  have hb := B.bytes
  have hr := B.returns
  have hts := atoms_spec (ws := wsX4_node) B.pre
  have hown : s.vm.findClass RX4 = some m.cls := findClass_of_methodNamed B.named
  have hlocks := B.notSynchronized
  have hl := lv_entry ([.ref (q 0), .int (nI j), .int 7]) (n := 3) (Nat.le_of_ble_eq_true rfl)
  rw [lg_entry_eq]
  generalize (lg_sl ([.ref (q 0), .int (nI j), .int 7]) ++ List.replicate (3 - (lg_sl ([.ref (q 0), .int (nI j), .int 7])).length) Slot.unset).toArray = ls at hl ⊢
  have hl : lv_has ls 3 [(0, .ref (q 0)), (1, .int (nI j)), (2, .int 7)] := hl
  refine lv_aload_n hx hb dX4_node_0 rfl (lv_at hl 0 rfl) ?_
  refine lv_iconst (v := 0) hx hb dX4_node_1 (by decide) ?_
  refine va_put (D := G) (ci := 4) (v := .int 0) (ty := .int) (C := RX4) (T := TX4) (N := 21) hx hb hts (fun _ h => List.mem_cons_of_mem _ (List.mem_append_right _ h)) tyX4 tyX4_ok nmX4 hown hK hP hD hS 0 rfl rfl 0 (by decide) (hts (.fieldLink RX4 65 "ShippedLogModel" "thrown" "I") (by decide +kernel)) (fun _ h9 => h9) rfl (by decide +kernel) rfl rfl (Nat.le_of_ble_eq_true rfl) dX4_node_2 (fun H locs hP hD hS => ?_)
  have hP : va_P G vwCl (wM q k 0 (fun _ => 0) g7 g8) H := hP
  have hD : va_D A (wM q k 0 (fun _ => 0) g7 g8) := hD
  refine lv_iload_n hx hb dX4_node_5 rfl (lv_at hl 1 rfl) ?_
  refine br_call (W.runS (As := [.int (nI j)]) (rest := []) ⟨hx, hb, hml, hown, hts⟩ (m_isNode_t l j hj) (va_cwS 1 hts gX4_node_X4_isNode rfl rfl rfl (by decide +kernel) ⟨(Nat.le_of_ble_eq_true rfl), (Nat.le_of_ble_eq_true rfl)⟩) (P0.preS) rfl rfl hl.1 rfl (lv_room (Nat.le_of_ble_eq_true rfl)) dX4_node_6 ⟨(Nat.le_of_ble_eq_true rfl), (Nat.le_of_ble_eq_true rfl)⟩) ?_
  refine lv_if_eq (tgt := 22) hx hb dX4_node_9 (by decide) (fun c9 => absurd c9 (by decide : ¬ (1 : Int32) = 0)) (fun _ => ?_)
  refine lv_iload_n hx hb dX4_node_12 rfl (lv_at hl 2 rfl) ?_
  refine lv_iconst (v := 0) hx hb dX4_node_13 (by decide) ?_
  refine lv_bipush (v := 8) hx hb dX4_node_14 (by decide) ?_
  refine br_call (W.runS (As := [.int 7, .int 0, .int 8]) (rest := []) ⟨hx, hb, hml, hown, hts⟩ (m_within_t l 7 0 8 (by decide) (by decide)) (va_cwS 3 hts gX4_node_X4_within rfl rfl rfl (by decide +kernel) ⟨(Nat.le_of_ble_eq_true rfl), (Nat.le_of_ble_eq_true rfl)⟩) (P0.preS) rfl rfl hl.1 rfl (lv_room (Nat.le_of_ble_eq_true rfl)) dX4_node_16 ⟨(Nat.le_of_ble_eq_true rfl), (Nat.le_of_ble_eq_true rfl)⟩) ?_
  refine lv_if_ne (tgt := 28) hx hb dX4_node_19 (by decide) (fun _ => ?_) (fun c9 => absurd c9 (by decide : ¬ (1 : Int32) = 0))
  refine lv_aload_n hx hb dX4_node_28 rfl (lv_at hl 0 rfl) ?_
  refine va_get (D := G) (ci := 4) (v := .ref (q 3)) (C := RX4) (T := TX4) (N := 21) hx hb hts (fun _ h => List.mem_cons_of_mem _ (List.mem_append_right _ h)) hown hK hP 0 rfl rfl 4 (by decide) (hts (.fieldLink RX4 16 "ShippedLogModel" "role" "[I") (by decide +kernel)) (fun _ h9 => h9) rfl dX4_node_29 ?_
  refine lv_iload_n hx hb dX4_node_32 rfl (lv_at hl 1 rfl) ?_
  refine va_iald hx hb hK hP 3 3 rfl rfl (vp_in_nI hj (by decide)) dX4_node_33 ?_
  refine lv_if_ne (tgt := 54) hx hb dX4_node_34 (by decide) (fun c9 => absurd rfl c9) (fun _ => ?_)
  refine lv_iload_n hx hb dX4_node_37 rfl (lv_at hl 2 rfl) ?_
  refine lv_iconst (v := 5) hx hb dX4_node_38 (by decide) ?_
  refine lv_icmp_eq (tgt := 48) hx hb dX4_node_39 (by decide) (fun c9 => absurd c9 (by decide : ¬ (7 : Int32) = 5)) (fun _ => ?_)
  refine lv_iload_n hx hb dX4_node_42 rfl (lv_at hl 2 rfl) ?_
  refine lv_bipush (v := 7) hx hb dX4_node_43 (by decide) ?_
  refine lv_icmp_ne (tgt := 52) hx hb dX4_node_45 (by decide) (fun c9 => absurd rfl c9) (fun _ => ?_)
  refine lv_iconst (v := (-1)) hx hb dX4_node_48 (by decide) ?_
  refine lv_goto (tgt := 53) hx hb dX4_node_49 (by decide) ?_
  exact W.iret (v := (-1)) hx hb hr (fun t ht hW => ⟨⟨(-1), (), rfl, fun _ => rfl, _, by rw [ht]; exact hP.hd⟩, hS.F ht⟩) hS.2.2 dX4_node_53
set_option maxHeartbeats 4000000 in
set_option maxRecDepth 100000 in
/-- the reference: node, zero -/
theorem cM_node_zero (l : Launch) (G : va_G) (k : Nat → ClassId) (sz : Nat) (q : Nat → Nat) (g7 g8 : Nat → Int32) (j : Nat) (hj : j < 4) (p1 : Int32) (hn : ¬ p1 < 0) (h8 : p1 ≤ 8) (h5 : ¬ p1 = 5) (h7 : ¬ p1 = 7) : Met l yX4_node wsX4_node (rzk 2 0 0) (MP G k sz q g7 g8 [.ref (q 0), .int (nI j), .int p1]) (MQl G q 0 0 (va_A (wM q k 0 (fun _ => 0) g7 g8) sz)) 0 0 (va_A (wM q k 0 (fun _ => 0) g7 g8) sz) := by
  refine Met.ofW (cc := cX4_node) (maxL := 3) (ret := (some .int)) (by decide) rfl ?_
  intro p e s m args below meth c s₁ B hml hv
  obtain ⟨rfl, hsz, hP, hK, hD0⟩ := hv
  subst hsz
  have hD := hD0.self (sz := s.heap.size)
  generalize hAe : va_A (wM q k 0 (fun _ => 0) g7 g8) s.heap.size = A at hD ⊢
  have hA : ∀ q : Nat, s.heap.size ≤ q → A q := fun q h => by rw [← hAe]; exact Or.inr h
  have hS : va_S A s.heap s.heap [] := va_S.rf
  have hx := B.exec
  have hb := B.bytes
  have hr := B.returns
  have hts := atoms_spec (ws := wsX4_node) B.pre
  have hown : s.vm.findClass RX4 = some m.cls := findClass_of_methodNamed B.named
  have hlocks := B.notSynchronized
  have hl := lv_entry ([.ref (q 0), .int (nI j), .int p1]) (n := 3) (Nat.le_of_ble_eq_true rfl)
  rw [lg_entry_eq]
  generalize (lg_sl ([.ref (q 0), .int (nI j), .int p1]) ++ List.replicate (3 - (lg_sl ([.ref (q 0), .int (nI j), .int p1])).length) Slot.unset).toArray = ls at hl ⊢
  have hl : lv_has ls 3 [(0, .ref (q 0)), (1, .int (nI j)), (2, .int p1)] := hl
  refine lv_aload_n hx hb dX4_node_0 rfl (lv_at hl 0 rfl) ?_
  refine lv_iconst (v := 0) hx hb dX4_node_1 (by decide) ?_
  refine va_put (D := G) (ci := 4) (v := .int 0) (ty := .int) (C := RX4) (T := TX4) (N := 21) hx hb hts (fun _ h => List.mem_cons_of_mem _ (List.mem_append_right _ h)) tyX4 tyX4_ok nmX4 hown hK hP hD hS 0 rfl rfl 0 (by decide) (hts (.fieldLink RX4 65 "ShippedLogModel" "thrown" "I") (by decide +kernel)) (fun _ h9 => h9) rfl (by decide +kernel) rfl rfl (Nat.le_of_ble_eq_true rfl) dX4_node_2 (fun H locs hP hD hS => ?_)
  have hP : va_P G vwCl (wM q k 0 (fun _ => 0) g7 g8) H := hP
  have hD : va_D A (wM q k 0 (fun _ => 0) g7 g8) := hD
  refine lv_iload_n hx hb dX4_node_5 rfl (lv_at hl 1 rfl) ?_
  refine br_call (W.runS (As := [.int (nI j)]) (rest := []) ⟨hx, hb, hml, hown, hts⟩ (m_isNode_t l j hj) (va_cwS 1 hts gX4_node_X4_isNode rfl rfl rfl (by decide +kernel) ⟨(Nat.le_of_ble_eq_true rfl), (Nat.le_of_ble_eq_true rfl)⟩) (P0.preS) rfl rfl hl.1 rfl (lv_room (Nat.le_of_ble_eq_true rfl)) dX4_node_6 ⟨(Nat.le_of_ble_eq_true rfl), (Nat.le_of_ble_eq_true rfl)⟩) ?_
  refine lv_if_eq (tgt := 22) hx hb dX4_node_9 (by decide) (fun c9 => absurd c9 (by decide : ¬ (1 : Int32) = 0)) (fun _ => ?_)
  refine lv_iload_n hx hb dX4_node_12 rfl (lv_at hl 2 rfl) ?_
  refine lv_iconst (v := 0) hx hb dX4_node_13 (by decide) ?_
  refine lv_bipush (v := 8) hx hb dX4_node_14 (by decide) ?_
  refine br_call (W.runS (As := [.int p1, .int 0, .int 8]) (rest := []) ⟨hx, hb, hml, hown, hts⟩ (m_within_t l p1 0 8 hn h8) (va_cwS 3 hts gX4_node_X4_within rfl rfl rfl (by decide +kernel) ⟨(Nat.le_of_ble_eq_true rfl), (Nat.le_of_ble_eq_true rfl)⟩) (P0.preS) rfl rfl hl.1 rfl (lv_room (Nat.le_of_ble_eq_true rfl)) dX4_node_16 ⟨(Nat.le_of_ble_eq_true rfl), (Nat.le_of_ble_eq_true rfl)⟩) ?_
  refine lv_if_ne (tgt := 28) hx hb dX4_node_19 (by decide) (fun _ => ?_) (fun c9 => absurd c9 (by decide : ¬ (1 : Int32) = 0))
  refine lv_aload_n hx hb dX4_node_28 rfl (lv_at hl 0 rfl) ?_
  refine va_get (D := G) (ci := 4) (v := .ref (q 3)) (C := RX4) (T := TX4) (N := 21) hx hb hts (fun _ h => List.mem_cons_of_mem _ (List.mem_append_right _ h)) hown hK hP 0 rfl rfl 4 (by decide) (hts (.fieldLink RX4 16 "ShippedLogModel" "role" "[I") (by decide +kernel)) (fun _ h9 => h9) rfl dX4_node_29 ?_
  refine lv_iload_n hx hb dX4_node_32 rfl (lv_at hl 1 rfl) ?_
  refine va_iald hx hb hK hP 3 3 rfl rfl (vp_in_nI hj (by decide)) dX4_node_33 ?_
  refine lv_if_ne (tgt := 54) hx hb dX4_node_34 (by decide) (fun c9 => absurd rfl c9) (fun _ => ?_)
  refine lv_iload_n hx hb dX4_node_37 rfl (lv_at hl 2 rfl) ?_
  refine lv_iconst (v := 5) hx hb dX4_node_38 (by decide) ?_
  refine lv_icmp_eq (tgt := 48) hx hb dX4_node_39 (by decide) (fun c9 => absurd c9 h5) (fun _ => ?_)
  refine lv_iload_n hx hb dX4_node_42 rfl (lv_at hl 2 rfl) ?_
  refine lv_bipush (v := 7) hx hb dX4_node_43 (by decide) ?_
  refine lv_icmp_ne (tgt := 52) hx hb dX4_node_45 (by decide) (fun _ => ?_) (fun c9 => absurd c9 h7)
  refine lv_iconst (v := 0) hx hb dX4_node_52 (by decide) ?_
  exact W.iret (v := 0) hx hb hr (fun t ht hW => ⟨⟨0, (), rfl, fun _ => rfl, _, by rw [ht]; exact hP.hd⟩, hS.F ht⟩) hS.2.2 dX4_node_53
set_option maxHeartbeats 4000000 in
set_option maxRecDepth 100000 in
/-- the reference: link, bad2 -/
theorem cM_link_bad2 (l : Launch) (G : va_G) (k : Nat → ClassId) (sz : Nat) (q : Nat → Nat) (g7 g8 : Nat → Int32) (i : Nat) (hi : i < 4) (p1 p2 : Int32) (h : bdN p1) : Met l yX4_link wsX4_link (rzk 2 0 0) (MP G k sz q g7 g8 [.ref (q 0), .int (nI i), .int p1, .int p2]) (MQl G q 1 0 (va_A (wM q k 0 (fun _ => 0) g7 g8) sz)) 0 0 (va_A (wM q k 0 (fun _ => 0) g7 g8) sz) := by
  refine Met.ofW (cc := cX4_link) (maxL := 4) (ret := (some .int)) (by decide) rfl ?_
  intro p e s m args below meth c s₁ B hml hv
  obtain ⟨rfl, hsz, hP, hK, hD0⟩ := hv
  subst hsz
  have hD := hD0.self (sz := s.heap.size)
  generalize hAe : va_A (wM q k 0 (fun _ => 0) g7 g8) s.heap.size = A at hD ⊢
  have hA : ∀ q : Nat, s.heap.size ≤ q → A q := fun q h => by rw [← hAe]; exact Or.inr h
  have hS : va_S A s.heap s.heap [] := va_S.rf
  have hx := B.exec
  have hb := B.bytes
  have hr := B.returns
  have hts := atoms_spec (ws := wsX4_link) B.pre
  have hown : s.vm.findClass RX4 = some m.cls := findClass_of_methodNamed B.named
  have hlocks := B.notSynchronized
  have hl := lv_entry ([.ref (q 0), .int (nI i), .int p1, .int p2]) (n := 4) (Nat.le_of_ble_eq_true rfl)
  rw [lg_entry_eq]
  generalize (lg_sl ([.ref (q 0), .int (nI i), .int p1, .int p2]) ++ List.replicate (4 - (lg_sl ([.ref (q 0), .int (nI i), .int p1, .int p2])).length) Slot.unset).toArray = ls at hl ⊢
  have hl : lv_has ls 4 [(0, .ref (q 0)), (1, .int (nI i)), (2, .int p1), (3, .int p2)] := hl
  refine lv_aload_n hx hb dX4_link_0 rfl (lv_at hl 0 rfl) ?_
  refine lv_iconst (v := 0) hx hb dX4_link_1 (by decide) ?_
  refine va_put (D := G) (ci := 4) (v := .int 0) (ty := .int) (C := RX4) (T := TX4) (N := 21) hx hb hts (fun _ h => List.mem_cons_of_mem _ (List.mem_append_right _ h)) tyX4 tyX4_ok nmX4 hown hK hP hD hS 0 rfl rfl 0 (by decide) (hts (.fieldLink RX4 65 "ShippedLogModel" "thrown" "I") (by decide +kernel)) (fun _ h9 => h9) rfl (by decide +kernel) rfl rfl (Nat.le_of_ble_eq_true rfl) dX4_link_2 (fun H locs hP hD hS => ?_)
  have hP : va_P G vwCl (wM q k 0 (fun _ => 0) g7 g8) H := hP
  have hD : va_D A (wM q k 0 (fun _ => 0) g7 g8) := hD
  refine lv_iload_n hx hb dX4_link_5 rfl (lv_at hl 1 rfl) ?_
  refine br_call (W.runS (As := [.int (nI i)]) (rest := []) ⟨hx, hb, hml, hown, hts⟩ (m_isNode_t l i hi) (va_cwS 1 hts gX4_link_X4_isNode rfl rfl rfl (by decide +kernel) ⟨(Nat.le_of_ble_eq_true rfl), (Nat.le_of_ble_eq_true rfl)⟩) (P0.preS) rfl rfl hl.1 rfl (lv_room (Nat.le_of_ble_eq_true rfl)) dX4_link_6 ⟨(Nat.le_of_ble_eq_true rfl), (Nat.le_of_ble_eq_true rfl)⟩) ?_
  refine lv_if_eq (tgt := 28) hx hb dX4_link_9 (by decide) (fun c9 => absurd c9 (by decide : ¬ (1 : Int32) = 0)) (fun _ => ?_)
  refine lv_iload_n hx hb dX4_link_12 rfl (lv_at hl 2 rfl) ?_
  refine br_call (W.runS (As := [.int p1]) (rest := []) ⟨hx, hb, hml, hown, hts⟩ (m_isNode_f l p1 h) (va_cwS 1 hts gX4_link_X4_isNode rfl rfl rfl (by decide +kernel) ⟨(Nat.le_of_ble_eq_true rfl), (Nat.le_of_ble_eq_true rfl)⟩) (P0.preS) rfl rfl hl.1 rfl (lv_room (Nat.le_of_ble_eq_true rfl)) dX4_link_13 ⟨(Nat.le_of_ble_eq_true rfl), (Nat.le_of_ble_eq_true rfl)⟩) ?_
  refine lv_if_eq (tgt := 28) hx hb dX4_link_16 (by decide) (fun _ => ?_) (fun c9 => absurd rfl c9)
  refine lv_aload_n hx hb dX4_link_28 rfl (lv_at hl 0 rfl) ?_
  refine lv_iconst (v := 1) hx hb dX4_link_29 (by decide) ?_
  refine mf_call (va_runV (As := [.int 1]) (rest := []) ⟨hx, hb, hml, hown, hts⟩ (c_fail l G k _ (q 0) 0 _ 1) (cwV 1 hts gX4_link_X4_fail rfl rfl rfl (by decide +kernel) ⟨(Nat.le_of_ble_eq_true rfl), (Nat.le_of_ble_eq_true rfl)⟩) (mf_pre hK hP) rfl rfl hl.1 rfl (lv_room (Nat.le_of_ble_eq_true rfl)) dX4_link_30 ⟨(Nat.le_of_ble_eq_true rfl), (Nat.le_of_ble_eq_true rfl)⟩) hS hD rfl hA (fun H locs hP hS => ?_)
  exact W.iret (v := 0) hx hb hr (fun t ht hW => ⟨⟨0, (), rfl, fun h => absurd h (by decide), _, by rw [ht]; exact hP⟩, hS.F ht⟩) hS.2.2 dX4_link_33
set_option maxHeartbeats 4000000 in
set_option maxRecDepth 100000 in
/-- the reference: link, what -/
theorem cM_link_what (l : Launch) (G : va_G) (k : Nat → ClassId) (sz : Nat) (q : Nat → Nat) (g7 g8 : Nat → Int32) (i : Nat) (hi : i < 4) (j : Nat) (hj : j < 4) (p2 : Int32) (hz : ¬ p2 = 0) (h1 : ¬ p2 = 1) : Met l yX4_link wsX4_link (rzk 2 0 0) (MP G k sz q g7 g8 [.ref (q 0), .int (nI i), .int (nI j), .int p2]) (MQl G q 1 0 (va_A (wM q k 0 (fun _ => 0) g7 g8) sz)) 0 0 (va_A (wM q k 0 (fun _ => 0) g7 g8) sz) := by
  refine Met.ofW (cc := cX4_link) (maxL := 4) (ret := (some .int)) (by decide) rfl ?_
  intro p e s m args below meth c s₁ B hml hv
  obtain ⟨rfl, hsz, hP, hK, hD0⟩ := hv
  subst hsz
  have hD := hD0.self (sz := s.heap.size)
  generalize hAe : va_A (wM q k 0 (fun _ => 0) g7 g8) s.heap.size = A at hD ⊢
  have hA : ∀ q : Nat, s.heap.size ≤ q → A q := fun q h => by rw [← hAe]; exact Or.inr h
  have hS : va_S A s.heap s.heap [] := va_S.rf
  have hx := B.exec
  have hb := B.bytes
  have hr := B.returns
  have hts := atoms_spec (ws := wsX4_link) B.pre
  have hown : s.vm.findClass RX4 = some m.cls := findClass_of_methodNamed B.named
  have hlocks := B.notSynchronized
  have hl := lv_entry ([.ref (q 0), .int (nI i), .int (nI j), .int p2]) (n := 4) (Nat.le_of_ble_eq_true rfl)
  rw [lg_entry_eq]
  generalize (lg_sl ([.ref (q 0), .int (nI i), .int (nI j), .int p2]) ++ List.replicate (4 - (lg_sl ([.ref (q 0), .int (nI i), .int (nI j), .int p2])).length) Slot.unset).toArray = ls at hl ⊢
  have hl : lv_has ls 4 [(0, .ref (q 0)), (1, .int (nI i)), (2, .int (nI j)), (3, .int p2)] := hl
  refine lv_aload_n hx hb dX4_link_0 rfl (lv_at hl 0 rfl) ?_
  refine lv_iconst (v := 0) hx hb dX4_link_1 (by decide) ?_
  refine va_put (D := G) (ci := 4) (v := .int 0) (ty := .int) (C := RX4) (T := TX4) (N := 21) hx hb hts (fun _ h => List.mem_cons_of_mem _ (List.mem_append_right _ h)) tyX4 tyX4_ok nmX4 hown hK hP hD hS 0 rfl rfl 0 (by decide) (hts (.fieldLink RX4 65 "ShippedLogModel" "thrown" "I") (by decide +kernel)) (fun _ h9 => h9) rfl (by decide +kernel) rfl rfl (Nat.le_of_ble_eq_true rfl) dX4_link_2 (fun H locs hP hD hS => ?_)
  have hP : va_P G vwCl (wM q k 0 (fun _ => 0) g7 g8) H := hP
  have hD : va_D A (wM q k 0 (fun _ => 0) g7 g8) := hD
  refine lv_iload_n hx hb dX4_link_5 rfl (lv_at hl 1 rfl) ?_
  refine br_call (W.runS (As := [.int (nI i)]) (rest := []) ⟨hx, hb, hml, hown, hts⟩ (m_isNode_t l i hi) (va_cwS 1 hts gX4_link_X4_isNode rfl rfl rfl (by decide +kernel) ⟨(Nat.le_of_ble_eq_true rfl), (Nat.le_of_ble_eq_true rfl)⟩) (P0.preS) rfl rfl hl.1 rfl (lv_room (Nat.le_of_ble_eq_true rfl)) dX4_link_6 ⟨(Nat.le_of_ble_eq_true rfl), (Nat.le_of_ble_eq_true rfl)⟩) ?_
  refine lv_if_eq (tgt := 28) hx hb dX4_link_9 (by decide) (fun c9 => absurd c9 (by decide : ¬ (1 : Int32) = 0)) (fun _ => ?_)
  refine lv_iload_n hx hb dX4_link_12 rfl (lv_at hl 2 rfl) ?_
  refine br_call (W.runS (As := [.int (nI j)]) (rest := []) ⟨hx, hb, hml, hown, hts⟩ (m_isNode_t l j hj) (va_cwS 1 hts gX4_link_X4_isNode rfl rfl rfl (by decide +kernel) ⟨(Nat.le_of_ble_eq_true rfl), (Nat.le_of_ble_eq_true rfl)⟩) (P0.preS) rfl rfl hl.1 rfl (lv_room (Nat.le_of_ble_eq_true rfl)) dX4_link_13 ⟨(Nat.le_of_ble_eq_true rfl), (Nat.le_of_ble_eq_true rfl)⟩) ?_
  refine lv_if_eq (tgt := 28) hx hb dX4_link_16 (by decide) (fun c9 => absurd c9 (by decide : ¬ (1 : Int32) = 0)) (fun _ => ?_)
  refine lv_iload_n hx hb dX4_link_19 rfl (lv_at hl 3 rfl) ?_
  refine lv_iconst (v := 0) hx hb dX4_link_20 (by decide) ?_
  refine lv_iconst (v := 1) hx hb dX4_link_21 (by decide) ?_
  rcases n_w2 hz h1 with h | h
  · refine br_call (W.runS (As := [.int p2, .int 0, .int 1]) (rest := []) ⟨hx, hb, hml, hown, hts⟩ (m_within_lo l p2 0 1 h) (va_cwS 3 hts gX4_link_X4_within rfl rfl rfl (by decide +kernel) ⟨(Nat.le_of_ble_eq_true rfl), (Nat.le_of_ble_eq_true rfl)⟩) (P0.preS) rfl rfl hl.1 rfl (lv_room (Nat.le_of_ble_eq_true rfl)) dX4_link_22 ⟨(Nat.le_of_ble_eq_true rfl), (Nat.le_of_ble_eq_true rfl)⟩) ?_
    refine lv_if_ne (tgt := 34) hx hb dX4_link_25 (by decide) (fun c9 => absurd rfl c9) (fun _ => ?_)
    refine lv_aload_n hx hb dX4_link_28 rfl (lv_at hl 0 rfl) ?_
    refine lv_iconst (v := 1) hx hb dX4_link_29 (by decide) ?_
    refine mf_call (va_runV (As := [.int 1]) (rest := []) ⟨hx, hb, hml, hown, hts⟩ (c_fail l G k _ (q 0) 0 _ 1) (cwV 1 hts gX4_link_X4_fail rfl rfl rfl (by decide +kernel) ⟨(Nat.le_of_ble_eq_true rfl), (Nat.le_of_ble_eq_true rfl)⟩) (mf_pre hK hP) rfl rfl hl.1 rfl (lv_room (Nat.le_of_ble_eq_true rfl)) dX4_link_30 ⟨(Nat.le_of_ble_eq_true rfl), (Nat.le_of_ble_eq_true rfl)⟩) hS hD rfl hA (fun H locs hP hS => ?_)
    exact W.iret (v := 0) hx hb hr (fun t ht hW => ⟨⟨0, (), rfl, fun h => absurd h (by decide), _, by rw [ht]; exact hP⟩, hS.F ht⟩) hS.2.2 dX4_link_33
  · refine br_call (W.runS (As := [.int p2, .int 0, .int 1]) (rest := []) ⟨hx, hb, hml, hown, hts⟩ (m_within_hi l p2 0 1 (n_ge0 (n := 2) h (by decide)) (n_up (n := 1) (by decide) h)) (va_cwS 3 hts gX4_link_X4_within rfl rfl rfl (by decide +kernel) ⟨(Nat.le_of_ble_eq_true rfl), (Nat.le_of_ble_eq_true rfl)⟩) (P0.preS) rfl rfl hl.1 rfl (lv_room (Nat.le_of_ble_eq_true rfl)) dX4_link_22 ⟨(Nat.le_of_ble_eq_true rfl), (Nat.le_of_ble_eq_true rfl)⟩) ?_
    refine lv_if_ne (tgt := 34) hx hb dX4_link_25 (by decide) (fun c9 => absurd rfl c9) (fun _ => ?_)
    refine lv_aload_n hx hb dX4_link_28 rfl (lv_at hl 0 rfl) ?_
    refine lv_iconst (v := 1) hx hb dX4_link_29 (by decide) ?_
    refine mf_call (va_runV (As := [.int 1]) (rest := []) ⟨hx, hb, hml, hown, hts⟩ (c_fail l G k _ (q 0) 0 _ 1) (cwV 1 hts gX4_link_X4_fail rfl rfl rfl (by decide +kernel) ⟨(Nat.le_of_ble_eq_true rfl), (Nat.le_of_ble_eq_true rfl)⟩) (mf_pre hK hP) rfl rfl hl.1 rfl (lv_room (Nat.le_of_ble_eq_true rfl)) dX4_link_30 ⟨(Nat.le_of_ble_eq_true rfl), (Nat.le_of_ble_eq_true rfl)⟩) hS hD rfl hA (fun H locs hP hS => ?_)
    exact W.iret (v := 0) hx hb hr (fun t ht hW => ⟨⟨0, (), rfl, fun h => absurd h (by decide), _, by rw [ht]; exact hP⟩, hS.F ht⟩) hS.2.2 dX4_link_33
set_option maxHeartbeats 4000000 in
set_option maxRecDepth 100000 in
/-- the reference: link, nolink -/
theorem cM_link_nolink (l : Launch) (G : va_G) (k : Nat → ClassId) (sz : Nat) (q : Nat → Nat) (g7 g8 : Nat → Int32) (i : Nat) (hi : i < 4) (j : Nat) (hj : j < 4) : Met l yX4_link wsX4_link (rzk 2 0 0) (MP G k sz q g7 g8 [.ref (q 0), .int (nI i), .int (nI j), .int 0]) (MQl G q 2 0 (va_A (wM q k 0 (fun _ => 0) g7 g8) sz)) 0 0 (va_A (wM q k 0 (fun _ => 0) g7 g8) sz) := by
  refine Met.ofW (cc := cX4_link) (maxL := 4) (ret := (some .int)) (by decide) rfl ?_
  intro p e s m args below meth c s₁ B hml hv
  obtain ⟨rfl, hsz, hP, hK, hD0⟩ := hv
  subst hsz
  have hD := hD0.self (sz := s.heap.size)
  generalize hAe : va_A (wM q k 0 (fun _ => 0) g7 g8) s.heap.size = A at hD ⊢
  have hA : ∀ q : Nat, s.heap.size ≤ q → A q := fun q h => by rw [← hAe]; exact Or.inr h
  have hS : va_S A s.heap s.heap [] := va_S.rf
  have hx := B.exec
  have hb := B.bytes
  have hr := B.returns
  have hts := atoms_spec (ws := wsX4_link) B.pre
  have hown : s.vm.findClass RX4 = some m.cls := findClass_of_methodNamed B.named
  have hlocks := B.notSynchronized
  have hl := lv_entry ([.ref (q 0), .int (nI i), .int (nI j), .int 0]) (n := 4) (Nat.le_of_ble_eq_true rfl)
  rw [lg_entry_eq]
  generalize (lg_sl ([.ref (q 0), .int (nI i), .int (nI j), .int 0]) ++ List.replicate (4 - (lg_sl ([.ref (q 0), .int (nI i), .int (nI j), .int 0])).length) Slot.unset).toArray = ls at hl ⊢
  have hl : lv_has ls 4 [(0, .ref (q 0)), (1, .int (nI i)), (2, .int (nI j)), (3, .int 0)] := hl
  refine lv_aload_n hx hb dX4_link_0 rfl (lv_at hl 0 rfl) ?_
  refine lv_iconst (v := 0) hx hb dX4_link_1 (by decide) ?_
  refine va_put (D := G) (ci := 4) (v := .int 0) (ty := .int) (C := RX4) (T := TX4) (N := 21) hx hb hts (fun _ h => List.mem_cons_of_mem _ (List.mem_append_right _ h)) tyX4 tyX4_ok nmX4 hown hK hP hD hS 0 rfl rfl 0 (by decide) (hts (.fieldLink RX4 65 "ShippedLogModel" "thrown" "I") (by decide +kernel)) (fun _ h9 => h9) rfl (by decide +kernel) rfl rfl (Nat.le_of_ble_eq_true rfl) dX4_link_2 (fun H locs hP hD hS => ?_)
  have hP : va_P G vwCl (wM q k 0 (fun _ => 0) g7 g8) H := hP
  have hD : va_D A (wM q k 0 (fun _ => 0) g7 g8) := hD
  refine lv_iload_n hx hb dX4_link_5 rfl (lv_at hl 1 rfl) ?_
  refine br_call (W.runS (As := [.int (nI i)]) (rest := []) ⟨hx, hb, hml, hown, hts⟩ (m_isNode_t l i hi) (va_cwS 1 hts gX4_link_X4_isNode rfl rfl rfl (by decide +kernel) ⟨(Nat.le_of_ble_eq_true rfl), (Nat.le_of_ble_eq_true rfl)⟩) (P0.preS) rfl rfl hl.1 rfl (lv_room (Nat.le_of_ble_eq_true rfl)) dX4_link_6 ⟨(Nat.le_of_ble_eq_true rfl), (Nat.le_of_ble_eq_true rfl)⟩) ?_
  refine lv_if_eq (tgt := 28) hx hb dX4_link_9 (by decide) (fun c9 => absurd c9 (by decide : ¬ (1 : Int32) = 0)) (fun _ => ?_)
  refine lv_iload_n hx hb dX4_link_12 rfl (lv_at hl 2 rfl) ?_
  refine br_call (W.runS (As := [.int (nI j)]) (rest := []) ⟨hx, hb, hml, hown, hts⟩ (m_isNode_t l j hj) (va_cwS 1 hts gX4_link_X4_isNode rfl rfl rfl (by decide +kernel) ⟨(Nat.le_of_ble_eq_true rfl), (Nat.le_of_ble_eq_true rfl)⟩) (P0.preS) rfl rfl hl.1 rfl (lv_room (Nat.le_of_ble_eq_true rfl)) dX4_link_13 ⟨(Nat.le_of_ble_eq_true rfl), (Nat.le_of_ble_eq_true rfl)⟩) ?_
  refine lv_if_eq (tgt := 28) hx hb dX4_link_16 (by decide) (fun c9 => absurd c9 (by decide : ¬ (1 : Int32) = 0)) (fun _ => ?_)
  refine lv_iload_n hx hb dX4_link_19 rfl (lv_at hl 3 rfl) ?_
  refine lv_iconst (v := 0) hx hb dX4_link_20 (by decide) ?_
  refine lv_iconst (v := 1) hx hb dX4_link_21 (by decide) ?_
  refine br_call (W.runS (As := [.int 0, .int 0, .int 1]) (rest := []) ⟨hx, hb, hml, hown, hts⟩ (m_within_t l 0 0 1 (by decide) (by decide)) (va_cwS 3 hts gX4_link_X4_within rfl rfl rfl (by decide +kernel) ⟨(Nat.le_of_ble_eq_true rfl), (Nat.le_of_ble_eq_true rfl)⟩) (P0.preS) rfl rfl hl.1 rfl (lv_room (Nat.le_of_ble_eq_true rfl)) dX4_link_22 ⟨(Nat.le_of_ble_eq_true rfl), (Nat.le_of_ble_eq_true rfl)⟩) ?_
  refine lv_if_ne (tgt := 34) hx hb dX4_link_25 (by decide) (fun _ => ?_) (fun c9 => absurd c9 (by decide : ¬ (1 : Int32) = 0))
  refine lv_iload_n hx hb dX4_link_34 rfl (lv_at hl 3 rfl) ?_
  refine lv_iconst (v := 1) hx hb dX4_link_35 (by decide) ?_
  refine lv_icmp_ne (tgt := 50) hx hb dX4_link_36 (by decide) (fun _ => ?_) (fun c9 => absurd c9 (by decide : ¬ (0 : Int32) = 1))
  refine lv_aload_n hx hb dX4_link_50 rfl (lv_at hl 0 rfl) ?_
  refine lv_iload_n hx hb dX4_link_51 rfl (lv_at hl 1 rfl) ?_
  refine lv_iload_n hx hb dX4_link_52 rfl (lv_at hl 2 rfl) ?_
  refine br_call (W.runV (As := [.int (nI i), .int (nI j)]) (rest := []) ⟨hx, hb, hml, hown, hts⟩ (m_isLink_n l G k q g7 g8 i hi (nI j)) (cwV 2 hts gX4_link_X4_isLink rfl rfl rfl (by decide +kernel) ⟨(Nat.le_of_ble_eq_true rfl), (Nat.le_of_ble_eq_true rfl)⟩) (PQ.preV hK hP (ci := 4) (q0 := 0) rfl rfl) rfl rfl hl.1 rfl (lv_room (Nat.le_of_ble_eq_true rfl)) dX4_link_53 ⟨(Nat.le_of_ble_eq_true rfl), (Nat.le_of_ble_eq_true rfl)⟩) ?_
  refine lv_if_eq (tgt := 72) hx hb dX4_link_56 (by decide) (fun _ => ?_) (fun c9 => absurd rfl c9)
  refine lv_aload_n hx hb dX4_link_72 rfl (lv_at hl 0 rfl) ?_
  refine lv_iconst (v := 2) hx hb dX4_link_73 (by decide) ?_
  refine mf_call (va_runV (As := [.int 2]) (rest := []) ⟨hx, hb, hml, hown, hts⟩ (c_fail l G k _ (q 0) 0 _ 2) (cwV 1 hts gX4_link_X4_fail rfl rfl rfl (by decide +kernel) ⟨(Nat.le_of_ble_eq_true rfl), (Nat.le_of_ble_eq_true rfl)⟩) (mf_pre hK hP) rfl rfl hl.1 rfl (lv_room (Nat.le_of_ble_eq_true rfl)) dX4_link_74 ⟨(Nat.le_of_ble_eq_true rfl), (Nat.le_of_ble_eq_true rfl)⟩) hS hD rfl hA (fun H locs hP hS => ?_)
  exact W.iret (v := 0) hx hb hr (fun t ht hW => ⟨⟨0, (), rfl, fun h => absurd h (by decide), _, by rw [ht]; exact hP⟩, hS.F ht⟩) hS.2.2 dX4_link_77
set_option maxHeartbeats 4000000 in
set_option maxRecDepth 100000 in
/-- the reference: link, count -/
theorem cM_link_count (l : Launch) (G : va_G) (k : Nat → ClassId) (sz : Nat) (q : Nat → Nat) (g7 g8 : Nat → Int32) (i : Nat) (hi : i < 4) (j : Nat) (hj : j < 4) : Met l yX4_link wsX4_link (rzk 2 0 0) (MP G k sz q g7 g8 [.ref (q 0), .int (nI i), .int (nI j), .int 1]) (MQl G q 0 0 (va_A (wM q k 0 (fun _ => 0) g7 g8) sz)) 0 0 (va_A (wM q k 0 (fun _ => 0) g7 g8) sz) := by
  refine Met.ofW (cc := cX4_link) (maxL := 4) (ret := (some .int)) (by decide) rfl ?_
  intro p e s m args below meth c s₁ B hml hv
  obtain ⟨rfl, hsz, hP, hK, hD0⟩ := hv
  subst hsz
  have hD := hD0.self (sz := s.heap.size)
  generalize hAe : va_A (wM q k 0 (fun _ => 0) g7 g8) s.heap.size = A at hD ⊢
  have hA : ∀ q : Nat, s.heap.size ≤ q → A q := fun q h => by rw [← hAe]; exact Or.inr h
  have hS : va_S A s.heap s.heap [] := va_S.rf
  have hx := B.exec
  have hb := B.bytes
  have hr := B.returns
  have hts := atoms_spec (ws := wsX4_link) B.pre
  have hown : s.vm.findClass RX4 = some m.cls := findClass_of_methodNamed B.named
  have hlocks := B.notSynchronized
  have hl := lv_entry ([.ref (q 0), .int (nI i), .int (nI j), .int 1]) (n := 4) (Nat.le_of_ble_eq_true rfl)
  rw [lg_entry_eq]
  generalize (lg_sl ([.ref (q 0), .int (nI i), .int (nI j), .int 1]) ++ List.replicate (4 - (lg_sl ([.ref (q 0), .int (nI i), .int (nI j), .int 1])).length) Slot.unset).toArray = ls at hl ⊢
  have hl : lv_has ls 4 [(0, .ref (q 0)), (1, .int (nI i)), (2, .int (nI j)), (3, .int 1)] := hl
  refine lv_aload_n hx hb dX4_link_0 rfl (lv_at hl 0 rfl) ?_
  refine lv_iconst (v := 0) hx hb dX4_link_1 (by decide) ?_
  refine va_put (D := G) (ci := 4) (v := .int 0) (ty := .int) (C := RX4) (T := TX4) (N := 21) hx hb hts (fun _ h => List.mem_cons_of_mem _ (List.mem_append_right _ h)) tyX4 tyX4_ok nmX4 hown hK hP hD hS 0 rfl rfl 0 (by decide) (hts (.fieldLink RX4 65 "ShippedLogModel" "thrown" "I") (by decide +kernel)) (fun _ h9 => h9) rfl (by decide +kernel) rfl rfl (Nat.le_of_ble_eq_true rfl) dX4_link_2 (fun H locs hP hD hS => ?_)
  have hP : va_P G vwCl (wM q k 0 (fun _ => 0) g7 g8) H := hP
  have hD : va_D A (wM q k 0 (fun _ => 0) g7 g8) := hD
  refine lv_iload_n hx hb dX4_link_5 rfl (lv_at hl 1 rfl) ?_
  refine br_call (W.runS (As := [.int (nI i)]) (rest := []) ⟨hx, hb, hml, hown, hts⟩ (m_isNode_t l i hi) (va_cwS 1 hts gX4_link_X4_isNode rfl rfl rfl (by decide +kernel) ⟨(Nat.le_of_ble_eq_true rfl), (Nat.le_of_ble_eq_true rfl)⟩) (P0.preS) rfl rfl hl.1 rfl (lv_room (Nat.le_of_ble_eq_true rfl)) dX4_link_6 ⟨(Nat.le_of_ble_eq_true rfl), (Nat.le_of_ble_eq_true rfl)⟩) ?_
  refine lv_if_eq (tgt := 28) hx hb dX4_link_9 (by decide) (fun c9 => absurd c9 (by decide : ¬ (1 : Int32) = 0)) (fun _ => ?_)
  refine lv_iload_n hx hb dX4_link_12 rfl (lv_at hl 2 rfl) ?_
  refine br_call (W.runS (As := [.int (nI j)]) (rest := []) ⟨hx, hb, hml, hown, hts⟩ (m_isNode_t l j hj) (va_cwS 1 hts gX4_link_X4_isNode rfl rfl rfl (by decide +kernel) ⟨(Nat.le_of_ble_eq_true rfl), (Nat.le_of_ble_eq_true rfl)⟩) (P0.preS) rfl rfl hl.1 rfl (lv_room (Nat.le_of_ble_eq_true rfl)) dX4_link_13 ⟨(Nat.le_of_ble_eq_true rfl), (Nat.le_of_ble_eq_true rfl)⟩) ?_
  refine lv_if_eq (tgt := 28) hx hb dX4_link_16 (by decide) (fun c9 => absurd c9 (by decide : ¬ (1 : Int32) = 0)) (fun _ => ?_)
  refine lv_iload_n hx hb dX4_link_19 rfl (lv_at hl 3 rfl) ?_
  refine lv_iconst (v := 0) hx hb dX4_link_20 (by decide) ?_
  refine lv_iconst (v := 1) hx hb dX4_link_21 (by decide) ?_
  refine br_call (W.runS (As := [.int 1, .int 0, .int 1]) (rest := []) ⟨hx, hb, hml, hown, hts⟩ (m_within_t l 1 0 1 (by decide) (by decide)) (va_cwS 3 hts gX4_link_X4_within rfl rfl rfl (by decide +kernel) ⟨(Nat.le_of_ble_eq_true rfl), (Nat.le_of_ble_eq_true rfl)⟩) (P0.preS) rfl rfl hl.1 rfl (lv_room (Nat.le_of_ble_eq_true rfl)) dX4_link_22 ⟨(Nat.le_of_ble_eq_true rfl), (Nat.le_of_ble_eq_true rfl)⟩) ?_
  refine lv_if_ne (tgt := 34) hx hb dX4_link_25 (by decide) (fun _ => ?_) (fun c9 => absurd c9 (by decide : ¬ (1 : Int32) = 0))
  refine lv_iload_n hx hb dX4_link_34 rfl (lv_at hl 3 rfl) ?_
  refine lv_iconst (v := 1) hx hb dX4_link_35 (by decide) ?_
  refine lv_icmp_ne (tgt := 50) hx hb dX4_link_36 (by decide) (fun c9 => absurd rfl c9) (fun _ => ?_)
  refine lv_aload_n hx hb dX4_link_39 rfl (lv_at hl 0 rfl) ?_
  refine va_get (D := G) (ci := 4) (v := .ref (q 12)) (C := RX4) (T := TX4) (N := 21) hx hb hts (fun _ h => List.mem_cons_of_mem _ (List.mem_append_right _ h)) hown hK hP 0 rfl rfl 13 (by decide) (hts (.fieldLink RX4 43 "ShippedLogModel" "count" "[I") (by decide +kernel)) (fun _ h9 => h9) rfl dX4_link_40 ?_
  refine lv_iconst (v := 4) hx hb dX4_link_43 (by decide) ?_
  refine lv_iload_n hx hb dX4_link_44 rfl (lv_at hl 1 rfl) ?_
  refine lv_imul hx hb dX4_link_45 ?_
  refine lv_iload_n hx hb dX4_link_46 rfl (lv_at hl 2 rfl) ?_
  refine lv_iadd hx hb dX4_link_47 ?_
  refine va_iald hx hb hK hP 12 3 rfl rfl (by rw [n_cx]; exact vp_in_nI (by omega) (by decide)) dX4_link_48 ?_
  exact W.iret (v := 0) hx hb hr (fun t ht hW => ⟨⟨0, (), rfl, fun _ => rfl, _, by rw [ht]; exact hP.hd⟩, hS.F ht⟩) hS.2.2 dX4_link_49
set_option maxHeartbeats 4000000 in
set_option maxRecDepth 100000 in
/-- the reference: deliver, bad -/
theorem cM_deliver_bad (l : Launch) (G : va_G) (k : Nat → ClassId) (sz : Nat) (q : Nat → Nat) (g7 g8 : Nat → Int32) (p0 : Int32) (h : bdN p0) (p1 : Int32) : Met l yX4_deliver wsX4_deliver (rzk 2 0 0) (MP G k sz q g7 g8 [.ref (q 0), .int p0, .int p1]) (MQl G q 1 0 (va_A (wM q k 0 (fun _ => 0) g7 g8) sz)) 0 0 (va_A (wM q k 0 (fun _ => 0) g7 g8) sz) := by
  refine Met.ofW (cc := cX4_deliver) (maxL := 5) (ret := (some .int)) (by decide) rfl ?_
  intro p e s m args below meth c s₁ B hml hv
  obtain ⟨rfl, hsz, hP, hK, hD0⟩ := hv
  subst hsz
  have hD := hD0.self (sz := s.heap.size)
  generalize hAe : va_A (wM q k 0 (fun _ => 0) g7 g8) s.heap.size = A at hD ⊢
  have hA : ∀ q : Nat, s.heap.size ≤ q → A q := fun q h => by rw [← hAe]; exact Or.inr h
  have hS : va_S A s.heap s.heap [] := va_S.rf
  have hx := B.exec
  have hb := B.bytes
  have hr := B.returns
  have hts := atoms_spec (ws := wsX4_deliver) B.pre
  have hown : s.vm.findClass RX4 = some m.cls := findClass_of_methodNamed B.named
  have hlocks := B.notSynchronized
  have hl := lv_entry ([.ref (q 0), .int p0, .int p1]) (n := 5) (Nat.le_of_ble_eq_true rfl)
  rw [lg_entry_eq]
  generalize (lg_sl ([.ref (q 0), .int p0, .int p1]) ++ List.replicate (5 - (lg_sl ([.ref (q 0), .int p0, .int p1])).length) Slot.unset).toArray = ls at hl ⊢
  have hl : lv_has ls 5 [(0, .ref (q 0)), (1, .int p0), (2, .int p1)] := hl
  refine lv_aload_n hx hb dX4_deliver_0 rfl (lv_at hl 0 rfl) ?_
  refine lv_iconst (v := 0) hx hb dX4_deliver_1 (by decide) ?_
  refine va_put (D := G) (ci := 4) (v := .int 0) (ty := .int) (C := RX4) (T := TX4) (N := 21) hx hb hts (fun _ h => List.mem_cons_of_mem _ (List.mem_append_right _ h)) tyX4 tyX4_ok nmX4 hown hK hP hD hS 0 rfl rfl 0 (by decide) (hts (.fieldLink RX4 65 "ShippedLogModel" "thrown" "I") (by decide +kernel)) (fun _ h9 => h9) rfl (by decide +kernel) rfl rfl (Nat.le_of_ble_eq_true rfl) dX4_deliver_2 (fun H locs hP hD hS => ?_)
  have hP : va_P G vwCl (wM q k 0 (fun _ => 0) g7 g8) H := hP
  have hD : va_D A (wM q k 0 (fun _ => 0) g7 g8) := hD
  refine lv_iload_n hx hb dX4_deliver_5 rfl (lv_at hl 1 rfl) ?_
  refine br_call (W.runS (As := [.int p0]) (rest := []) ⟨hx, hb, hml, hown, hts⟩ (m_isNode_f l p0 h) (va_cwS 1 hts gX4_deliver_X4_isNode rfl rfl rfl (by decide +kernel) ⟨(Nat.le_of_ble_eq_true rfl), (Nat.le_of_ble_eq_true rfl)⟩) (P0.preS) rfl rfl hl.1 rfl (lv_room (Nat.le_of_ble_eq_true rfl)) dX4_deliver_6 ⟨(Nat.le_of_ble_eq_true rfl), (Nat.le_of_ble_eq_true rfl)⟩) ?_
  refine lv_if_eq (tgt := 19) hx hb dX4_deliver_9 (by decide) (fun _ => ?_) (fun c9 => absurd rfl c9)
  refine lv_aload_n hx hb dX4_deliver_19 rfl (lv_at hl 0 rfl) ?_
  refine lv_iconst (v := 1) hx hb dX4_deliver_20 (by decide) ?_
  refine mf_call (va_runV (As := [.int 1]) (rest := []) ⟨hx, hb, hml, hown, hts⟩ (c_fail l G k _ (q 0) 0 _ 1) (cwV 1 hts gX4_deliver_X4_fail rfl rfl rfl (by decide +kernel) ⟨(Nat.le_of_ble_eq_true rfl), (Nat.le_of_ble_eq_true rfl)⟩) (mf_pre hK hP) rfl rfl hl.1 rfl (lv_room (Nat.le_of_ble_eq_true rfl)) dX4_deliver_21 ⟨(Nat.le_of_ble_eq_true rfl), (Nat.le_of_ble_eq_true rfl)⟩) hS hD rfl hA (fun H locs hP hS => ?_)
  exact W.iret (v := 0) hx hb hr (fun t ht hW => ⟨⟨0, (), rfl, fun h => absurd h (by decide), _, by rw [ht]; exact hP⟩, hS.F ht⟩) hS.2.2 dX4_deliver_24
set_option maxHeartbeats 4000000 in
set_option maxRecDepth 100000 in
/-- the reference: deliver, bad2 -/
theorem cM_deliver_bad2 (l : Launch) (G : va_G) (k : Nat → ClassId) (sz : Nat) (q : Nat → Nat) (g7 g8 : Nat → Int32) (i : Nat) (hi : i < 4) (p1 : Int32) (h : bdN p1) : Met l yX4_deliver wsX4_deliver (rzk 2 0 0) (MP G k sz q g7 g8 [.ref (q 0), .int (nI i), .int p1]) (MQl G q 1 0 (va_A (wM q k 0 (fun _ => 0) g7 g8) sz)) 0 0 (va_A (wM q k 0 (fun _ => 0) g7 g8) sz) := by
  refine Met.ofW (cc := cX4_deliver) (maxL := 5) (ret := (some .int)) (by decide) rfl ?_
  intro p e s m args below meth c s₁ B hml hv
  obtain ⟨rfl, hsz, hP, hK, hD0⟩ := hv
  subst hsz
  have hD := hD0.self (sz := s.heap.size)
  generalize hAe : va_A (wM q k 0 (fun _ => 0) g7 g8) s.heap.size = A at hD ⊢
  have hA : ∀ q : Nat, s.heap.size ≤ q → A q := fun q h => by rw [← hAe]; exact Or.inr h
  have hS : va_S A s.heap s.heap [] := va_S.rf
  have hx := B.exec
  have hb := B.bytes
  have hr := B.returns
  have hts := atoms_spec (ws := wsX4_deliver) B.pre
  have hown : s.vm.findClass RX4 = some m.cls := findClass_of_methodNamed B.named
  have hlocks := B.notSynchronized
  have hl := lv_entry ([.ref (q 0), .int (nI i), .int p1]) (n := 5) (Nat.le_of_ble_eq_true rfl)
  rw [lg_entry_eq]
  generalize (lg_sl ([.ref (q 0), .int (nI i), .int p1]) ++ List.replicate (5 - (lg_sl ([.ref (q 0), .int (nI i), .int p1])).length) Slot.unset).toArray = ls at hl ⊢
  have hl : lv_has ls 5 [(0, .ref (q 0)), (1, .int (nI i)), (2, .int p1)] := hl
  refine lv_aload_n hx hb dX4_deliver_0 rfl (lv_at hl 0 rfl) ?_
  refine lv_iconst (v := 0) hx hb dX4_deliver_1 (by decide) ?_
  refine va_put (D := G) (ci := 4) (v := .int 0) (ty := .int) (C := RX4) (T := TX4) (N := 21) hx hb hts (fun _ h => List.mem_cons_of_mem _ (List.mem_append_right _ h)) tyX4 tyX4_ok nmX4 hown hK hP hD hS 0 rfl rfl 0 (by decide) (hts (.fieldLink RX4 65 "ShippedLogModel" "thrown" "I") (by decide +kernel)) (fun _ h9 => h9) rfl (by decide +kernel) rfl rfl (Nat.le_of_ble_eq_true rfl) dX4_deliver_2 (fun H locs hP hD hS => ?_)
  have hP : va_P G vwCl (wM q k 0 (fun _ => 0) g7 g8) H := hP
  have hD : va_D A (wM q k 0 (fun _ => 0) g7 g8) := hD
  refine lv_iload_n hx hb dX4_deliver_5 rfl (lv_at hl 1 rfl) ?_
  refine br_call (W.runS (As := [.int (nI i)]) (rest := []) ⟨hx, hb, hml, hown, hts⟩ (m_isNode_t l i hi) (va_cwS 1 hts gX4_deliver_X4_isNode rfl rfl rfl (by decide +kernel) ⟨(Nat.le_of_ble_eq_true rfl), (Nat.le_of_ble_eq_true rfl)⟩) (P0.preS) rfl rfl hl.1 rfl (lv_room (Nat.le_of_ble_eq_true rfl)) dX4_deliver_6 ⟨(Nat.le_of_ble_eq_true rfl), (Nat.le_of_ble_eq_true rfl)⟩) ?_
  refine lv_if_eq (tgt := 19) hx hb dX4_deliver_9 (by decide) (fun c9 => absurd c9 (by decide : ¬ (1 : Int32) = 0)) (fun _ => ?_)
  refine lv_iload_n hx hb dX4_deliver_12 rfl (lv_at hl 2 rfl) ?_
  refine br_call (W.runS (As := [.int p1]) (rest := []) ⟨hx, hb, hml, hown, hts⟩ (m_isNode_f l p1 h) (va_cwS 1 hts gX4_deliver_X4_isNode rfl rfl rfl (by decide +kernel) ⟨(Nat.le_of_ble_eq_true rfl), (Nat.le_of_ble_eq_true rfl)⟩) (P0.preS) rfl rfl hl.1 rfl (lv_room (Nat.le_of_ble_eq_true rfl)) dX4_deliver_13 ⟨(Nat.le_of_ble_eq_true rfl), (Nat.le_of_ble_eq_true rfl)⟩) ?_
  refine lv_if_ne (tgt := 25) hx hb dX4_deliver_16 (by decide) (fun c9 => absurd rfl c9) (fun _ => ?_)
  refine lv_aload_n hx hb dX4_deliver_19 rfl (lv_at hl 0 rfl) ?_
  refine lv_iconst (v := 1) hx hb dX4_deliver_20 (by decide) ?_
  refine mf_call (va_runV (As := [.int 1]) (rest := []) ⟨hx, hb, hml, hown, hts⟩ (c_fail l G k _ (q 0) 0 _ 1) (cwV 1 hts gX4_deliver_X4_fail rfl rfl rfl (by decide +kernel) ⟨(Nat.le_of_ble_eq_true rfl), (Nat.le_of_ble_eq_true rfl)⟩) (mf_pre hK hP) rfl rfl hl.1 rfl (lv_room (Nat.le_of_ble_eq_true rfl)) dX4_deliver_21 ⟨(Nat.le_of_ble_eq_true rfl), (Nat.le_of_ble_eq_true rfl)⟩) hS hD rfl hA (fun H locs hP hS => ?_)
  exact W.iret (v := 0) hx hb hr (fun t ht hW => ⟨⟨0, (), rfl, fun h => absurd h (by decide), _, by rw [ht]; exact hP⟩, hS.F ht⟩) hS.2.2 dX4_deliver_24
set_option maxHeartbeats 4000000 in
set_option maxRecDepth 100000 in
/-- the reference: deliver, none -/
theorem cM_deliver_none (l : Launch) (G : va_G) (k : Nat → ClassId) (sz : Nat) (q : Nat → Nat) (g7 g8 : Nat → Int32) (i : Nat) (hi : i < 4) (j : Nat) (hj : j < 4) : Met l yX4_deliver wsX4_deliver (rzk 2 0 0) (MP G k sz q g7 g8 [.ref (q 0), .int (nI i), .int (nI j)]) (MQl G q 2 0 (va_A (wM q k 0 (fun _ => 0) g7 g8) sz)) 0 0 (va_A (wM q k 0 (fun _ => 0) g7 g8) sz) := by
  refine Met.ofW (cc := cX4_deliver) (maxL := 5) (ret := (some .int)) (by decide) rfl ?_
  intro p e s m args below meth c s₁ B hml hv
  obtain ⟨rfl, hsz, hP, hK, hD0⟩ := hv
  subst hsz
  have hD := hD0.self (sz := s.heap.size)
  generalize hAe : va_A (wM q k 0 (fun _ => 0) g7 g8) s.heap.size = A at hD ⊢
  have hA : ∀ q : Nat, s.heap.size ≤ q → A q := fun q h => by rw [← hAe]; exact Or.inr h
  have hS : va_S A s.heap s.heap [] := va_S.rf
  have hx := B.exec
  have hb := B.bytes
  have hr := B.returns
  have hts := atoms_spec (ws := wsX4_deliver) B.pre
  have hown : s.vm.findClass RX4 = some m.cls := findClass_of_methodNamed B.named
  have hlocks := B.notSynchronized
  have hl := lv_entry ([.ref (q 0), .int (nI i), .int (nI j)]) (n := 5) (Nat.le_of_ble_eq_true rfl)
  rw [lg_entry_eq]
  generalize (lg_sl ([.ref (q 0), .int (nI i), .int (nI j)]) ++ List.replicate (5 - (lg_sl ([.ref (q 0), .int (nI i), .int (nI j)])).length) Slot.unset).toArray = ls at hl ⊢
  have hl : lv_has ls 5 [(0, .ref (q 0)), (1, .int (nI i)), (2, .int (nI j))] := hl
  refine lv_aload_n hx hb dX4_deliver_0 rfl (lv_at hl 0 rfl) ?_
  refine lv_iconst (v := 0) hx hb dX4_deliver_1 (by decide) ?_
  refine va_put (D := G) (ci := 4) (v := .int 0) (ty := .int) (C := RX4) (T := TX4) (N := 21) hx hb hts (fun _ h => List.mem_cons_of_mem _ (List.mem_append_right _ h)) tyX4 tyX4_ok nmX4 hown hK hP hD hS 0 rfl rfl 0 (by decide) (hts (.fieldLink RX4 65 "ShippedLogModel" "thrown" "I") (by decide +kernel)) (fun _ h9 => h9) rfl (by decide +kernel) rfl rfl (Nat.le_of_ble_eq_true rfl) dX4_deliver_2 (fun H locs hP hD hS => ?_)
  have hP : va_P G vwCl (wM q k 0 (fun _ => 0) g7 g8) H := hP
  have hD : va_D A (wM q k 0 (fun _ => 0) g7 g8) := hD
  refine lv_iload_n hx hb dX4_deliver_5 rfl (lv_at hl 1 rfl) ?_
  refine br_call (W.runS (As := [.int (nI i)]) (rest := []) ⟨hx, hb, hml, hown, hts⟩ (m_isNode_t l i hi) (va_cwS 1 hts gX4_deliver_X4_isNode rfl rfl rfl (by decide +kernel) ⟨(Nat.le_of_ble_eq_true rfl), (Nat.le_of_ble_eq_true rfl)⟩) (P0.preS) rfl rfl hl.1 rfl (lv_room (Nat.le_of_ble_eq_true rfl)) dX4_deliver_6 ⟨(Nat.le_of_ble_eq_true rfl), (Nat.le_of_ble_eq_true rfl)⟩) ?_
  refine lv_if_eq (tgt := 19) hx hb dX4_deliver_9 (by decide) (fun c9 => absurd c9 (by decide : ¬ (1 : Int32) = 0)) (fun _ => ?_)
  refine lv_iload_n hx hb dX4_deliver_12 rfl (lv_at hl 2 rfl) ?_
  refine br_call (W.runS (As := [.int (nI j)]) (rest := []) ⟨hx, hb, hml, hown, hts⟩ (m_isNode_t l j hj) (va_cwS 1 hts gX4_deliver_X4_isNode rfl rfl rfl (by decide +kernel) ⟨(Nat.le_of_ble_eq_true rfl), (Nat.le_of_ble_eq_true rfl)⟩) (P0.preS) rfl rfl hl.1 rfl (lv_room (Nat.le_of_ble_eq_true rfl)) dX4_deliver_13 ⟨(Nat.le_of_ble_eq_true rfl), (Nat.le_of_ble_eq_true rfl)⟩) ?_
  refine lv_if_ne (tgt := 25) hx hb dX4_deliver_16 (by decide) (fun _ => ?_) (fun c9 => absurd c9 (by decide : ¬ (1 : Int32) = 0))
  refine lv_aload_n hx hb dX4_deliver_25 rfl (lv_at hl 0 rfl) ?_
  refine va_get (D := G) (ci := 4) (v := .ref (q 12)) (C := RX4) (T := TX4) (N := 21) hx hb hts (fun _ h => List.mem_cons_of_mem _ (List.mem_append_right _ h)) hown hK hP 0 rfl rfl 13 (by decide) (hts (.fieldLink RX4 43 "ShippedLogModel" "count" "[I") (by decide +kernel)) (fun _ h9 => h9) rfl dX4_deliver_26 ?_
  refine lv_iconst (v := 4) hx hb dX4_deliver_29 (by decide) ?_
  refine lv_iload_n hx hb dX4_deliver_30 rfl (lv_at hl 1 rfl) ?_
  refine lv_imul hx hb dX4_deliver_31 ?_
  refine lv_iload_n hx hb dX4_deliver_32 rfl (lv_at hl 2 rfl) ?_
  refine lv_iadd hx hb dX4_deliver_33 ?_
  refine va_iald hx hb hK hP 12 3 rfl rfl (by rw [n_cx]; exact vp_in_nI (by omega) (by decide)) dX4_deliver_34 ?_
  refine lv_if_ne (tgt := 44) hx hb dX4_deliver_35 (by decide) (fun c9 => absurd rfl c9) (fun _ => ?_)
  refine lv_aload_n hx hb dX4_deliver_38 rfl (lv_at hl 0 rfl) ?_
  refine lv_iconst (v := 2) hx hb dX4_deliver_39 (by decide) ?_
  refine mf_call (va_runV (As := [.int 2]) (rest := []) ⟨hx, hb, hml, hown, hts⟩ (c_fail l G k _ (q 0) 0 _ 2) (cwV 1 hts gX4_deliver_X4_fail rfl rfl rfl (by decide +kernel) ⟨(Nat.le_of_ble_eq_true rfl), (Nat.le_of_ble_eq_true rfl)⟩) (mf_pre hK hP) rfl rfl hl.1 rfl (lv_room (Nat.le_of_ble_eq_true rfl)) dX4_deliver_40 ⟨(Nat.le_of_ble_eq_true rfl), (Nat.le_of_ble_eq_true rfl)⟩) hS hD rfl hA (fun H locs hP hS => ?_)
  exact W.iret (v := 0) hx hb hr (fun t ht hW => ⟨⟨0, (), rfl, fun h => absurd h (by decide), _, by rw [ht]; exact hP⟩, hS.F ht⟩) hS.2.2 dX4_deliver_43
set_option maxHeartbeats 4000000 in
set_option maxRecDepth 100000 in
/-- the reference: drop, bad -/
theorem cM_drop_bad (l : Launch) (G : va_G) (k : Nat → ClassId) (sz : Nat) (q : Nat → Nat) (g7 g8 : Nat → Int32) (p0 : Int32) (h : bdN p0) (p1 : Int32) : Met l yX4_drop wsX4_drop (rzk 2 0 0) (MP G k sz q g7 g8 [.ref (q 0), .int p0, .int p1]) (MQl G q 1 0 (va_A (wM q k 0 (fun _ => 0) g7 g8) sz)) 0 0 (va_A (wM q k 0 (fun _ => 0) g7 g8) sz) := by
  refine Met.ofW (cc := cX4_drop) (maxL := 3) (ret := (some .int)) (by decide) rfl ?_
  intro p e s m args below meth c s₁ B hml hv
  obtain ⟨rfl, hsz, hP, hK, hD0⟩ := hv
  subst hsz
  have hD := hD0.self (sz := s.heap.size)
  generalize hAe : va_A (wM q k 0 (fun _ => 0) g7 g8) s.heap.size = A at hD ⊢
  have hA : ∀ q : Nat, s.heap.size ≤ q → A q := fun q h => by rw [← hAe]; exact Or.inr h
  have hS : va_S A s.heap s.heap [] := va_S.rf
  have hx := B.exec
  have hb := B.bytes
  have hr := B.returns
  have hts := atoms_spec (ws := wsX4_drop) B.pre
  have hown : s.vm.findClass RX4 = some m.cls := findClass_of_methodNamed B.named
  have hlocks := B.notSynchronized
  have hl := lv_entry ([.ref (q 0), .int p0, .int p1]) (n := 3) (Nat.le_of_ble_eq_true rfl)
  rw [lg_entry_eq]
  generalize (lg_sl ([.ref (q 0), .int p0, .int p1]) ++ List.replicate (3 - (lg_sl ([.ref (q 0), .int p0, .int p1])).length) Slot.unset).toArray = ls at hl ⊢
  have hl : lv_has ls 3 [(0, .ref (q 0)), (1, .int p0), (2, .int p1)] := hl
  refine lv_aload_n hx hb dX4_drop_0 rfl (lv_at hl 0 rfl) ?_
  refine lv_iconst (v := 0) hx hb dX4_drop_1 (by decide) ?_
  refine va_put (D := G) (ci := 4) (v := .int 0) (ty := .int) (C := RX4) (T := TX4) (N := 21) hx hb hts (fun _ h => List.mem_cons_of_mem _ (List.mem_append_right _ h)) tyX4 tyX4_ok nmX4 hown hK hP hD hS 0 rfl rfl 0 (by decide) (hts (.fieldLink RX4 65 "ShippedLogModel" "thrown" "I") (by decide +kernel)) (fun _ h9 => h9) rfl (by decide +kernel) rfl rfl (Nat.le_of_ble_eq_true rfl) dX4_drop_2 (fun H locs hP hD hS => ?_)
  have hP : va_P G vwCl (wM q k 0 (fun _ => 0) g7 g8) H := hP
  have hD : va_D A (wM q k 0 (fun _ => 0) g7 g8) := hD
  refine lv_iload_n hx hb dX4_drop_5 rfl (lv_at hl 1 rfl) ?_
  refine br_call (W.runS (As := [.int p0]) (rest := []) ⟨hx, hb, hml, hown, hts⟩ (m_isNode_f l p0 h) (va_cwS 1 hts gX4_drop_X4_isNode rfl rfl rfl (by decide +kernel) ⟨(Nat.le_of_ble_eq_true rfl), (Nat.le_of_ble_eq_true rfl)⟩) (P0.preS) rfl rfl hl.1 rfl (lv_room (Nat.le_of_ble_eq_true rfl)) dX4_drop_6 ⟨(Nat.le_of_ble_eq_true rfl), (Nat.le_of_ble_eq_true rfl)⟩) ?_
  refine lv_if_eq (tgt := 19) hx hb dX4_drop_9 (by decide) (fun _ => ?_) (fun c9 => absurd rfl c9)
  refine lv_aload_n hx hb dX4_drop_19 rfl (lv_at hl 0 rfl) ?_
  refine lv_iconst (v := 1) hx hb dX4_drop_20 (by decide) ?_
  refine mf_call (va_runV (As := [.int 1]) (rest := []) ⟨hx, hb, hml, hown, hts⟩ (c_fail l G k _ (q 0) 0 _ 1) (cwV 1 hts gX4_drop_X4_fail rfl rfl rfl (by decide +kernel) ⟨(Nat.le_of_ble_eq_true rfl), (Nat.le_of_ble_eq_true rfl)⟩) (mf_pre hK hP) rfl rfl hl.1 rfl (lv_room (Nat.le_of_ble_eq_true rfl)) dX4_drop_21 ⟨(Nat.le_of_ble_eq_true rfl), (Nat.le_of_ble_eq_true rfl)⟩) hS hD rfl hA (fun H locs hP hS => ?_)
  exact W.iret (v := 0) hx hb hr (fun t ht hW => ⟨⟨0, (), rfl, fun h => absurd h (by decide), _, by rw [ht]; exact hP⟩, hS.F ht⟩) hS.2.2 dX4_drop_24
set_option maxHeartbeats 4000000 in
set_option maxRecDepth 100000 in
/-- the reference: drop, bad2 -/
theorem cM_drop_bad2 (l : Launch) (G : va_G) (k : Nat → ClassId) (sz : Nat) (q : Nat → Nat) (g7 g8 : Nat → Int32) (i : Nat) (hi : i < 4) (p1 : Int32) (h : bdN p1) : Met l yX4_drop wsX4_drop (rzk 2 0 0) (MP G k sz q g7 g8 [.ref (q 0), .int (nI i), .int p1]) (MQl G q 1 0 (va_A (wM q k 0 (fun _ => 0) g7 g8) sz)) 0 0 (va_A (wM q k 0 (fun _ => 0) g7 g8) sz) := by
  refine Met.ofW (cc := cX4_drop) (maxL := 3) (ret := (some .int)) (by decide) rfl ?_
  intro p e s m args below meth c s₁ B hml hv
  obtain ⟨rfl, hsz, hP, hK, hD0⟩ := hv
  subst hsz
  have hD := hD0.self (sz := s.heap.size)
  generalize hAe : va_A (wM q k 0 (fun _ => 0) g7 g8) s.heap.size = A at hD ⊢
  have hA : ∀ q : Nat, s.heap.size ≤ q → A q := fun q h => by rw [← hAe]; exact Or.inr h
  have hS : va_S A s.heap s.heap [] := va_S.rf
  have hx := B.exec
  have hb := B.bytes
  have hr := B.returns
  have hts := atoms_spec (ws := wsX4_drop) B.pre
  have hown : s.vm.findClass RX4 = some m.cls := findClass_of_methodNamed B.named
  have hlocks := B.notSynchronized
  have hl := lv_entry ([.ref (q 0), .int (nI i), .int p1]) (n := 3) (Nat.le_of_ble_eq_true rfl)
  rw [lg_entry_eq]
  generalize (lg_sl ([.ref (q 0), .int (nI i), .int p1]) ++ List.replicate (3 - (lg_sl ([.ref (q 0), .int (nI i), .int p1])).length) Slot.unset).toArray = ls at hl ⊢
  have hl : lv_has ls 3 [(0, .ref (q 0)), (1, .int (nI i)), (2, .int p1)] := hl
  refine lv_aload_n hx hb dX4_drop_0 rfl (lv_at hl 0 rfl) ?_
  refine lv_iconst (v := 0) hx hb dX4_drop_1 (by decide) ?_
  refine va_put (D := G) (ci := 4) (v := .int 0) (ty := .int) (C := RX4) (T := TX4) (N := 21) hx hb hts (fun _ h => List.mem_cons_of_mem _ (List.mem_append_right _ h)) tyX4 tyX4_ok nmX4 hown hK hP hD hS 0 rfl rfl 0 (by decide) (hts (.fieldLink RX4 65 "ShippedLogModel" "thrown" "I") (by decide +kernel)) (fun _ h9 => h9) rfl (by decide +kernel) rfl rfl (Nat.le_of_ble_eq_true rfl) dX4_drop_2 (fun H locs hP hD hS => ?_)
  have hP : va_P G vwCl (wM q k 0 (fun _ => 0) g7 g8) H := hP
  have hD : va_D A (wM q k 0 (fun _ => 0) g7 g8) := hD
  refine lv_iload_n hx hb dX4_drop_5 rfl (lv_at hl 1 rfl) ?_
  refine br_call (W.runS (As := [.int (nI i)]) (rest := []) ⟨hx, hb, hml, hown, hts⟩ (m_isNode_t l i hi) (va_cwS 1 hts gX4_drop_X4_isNode rfl rfl rfl (by decide +kernel) ⟨(Nat.le_of_ble_eq_true rfl), (Nat.le_of_ble_eq_true rfl)⟩) (P0.preS) rfl rfl hl.1 rfl (lv_room (Nat.le_of_ble_eq_true rfl)) dX4_drop_6 ⟨(Nat.le_of_ble_eq_true rfl), (Nat.le_of_ble_eq_true rfl)⟩) ?_
  refine lv_if_eq (tgt := 19) hx hb dX4_drop_9 (by decide) (fun c9 => absurd c9 (by decide : ¬ (1 : Int32) = 0)) (fun _ => ?_)
  refine lv_iload_n hx hb dX4_drop_12 rfl (lv_at hl 2 rfl) ?_
  refine br_call (W.runS (As := [.int p1]) (rest := []) ⟨hx, hb, hml, hown, hts⟩ (m_isNode_f l p1 h) (va_cwS 1 hts gX4_drop_X4_isNode rfl rfl rfl (by decide +kernel) ⟨(Nat.le_of_ble_eq_true rfl), (Nat.le_of_ble_eq_true rfl)⟩) (P0.preS) rfl rfl hl.1 rfl (lv_room (Nat.le_of_ble_eq_true rfl)) dX4_drop_13 ⟨(Nat.le_of_ble_eq_true rfl), (Nat.le_of_ble_eq_true rfl)⟩) ?_
  refine lv_if_ne (tgt := 25) hx hb dX4_drop_16 (by decide) (fun c9 => absurd rfl c9) (fun _ => ?_)
  refine lv_aload_n hx hb dX4_drop_19 rfl (lv_at hl 0 rfl) ?_
  refine lv_iconst (v := 1) hx hb dX4_drop_20 (by decide) ?_
  refine mf_call (va_runV (As := [.int 1]) (rest := []) ⟨hx, hb, hml, hown, hts⟩ (c_fail l G k _ (q 0) 0 _ 1) (cwV 1 hts gX4_drop_X4_fail rfl rfl rfl (by decide +kernel) ⟨(Nat.le_of_ble_eq_true rfl), (Nat.le_of_ble_eq_true rfl)⟩) (mf_pre hK hP) rfl rfl hl.1 rfl (lv_room (Nat.le_of_ble_eq_true rfl)) dX4_drop_21 ⟨(Nat.le_of_ble_eq_true rfl), (Nat.le_of_ble_eq_true rfl)⟩) hS hD rfl hA (fun H locs hP hS => ?_)
  exact W.iret (v := 0) hx hb hr (fun t ht hW => ⟨⟨0, (), rfl, fun h => absurd h (by decide), _, by rw [ht]; exact hP⟩, hS.F ht⟩) hS.2.2 dX4_drop_24
set_option maxHeartbeats 4000000 in
set_option maxRecDepth 100000 in
/-- the reference: drop, none -/
theorem cM_drop_none (l : Launch) (G : va_G) (k : Nat → ClassId) (sz : Nat) (q : Nat → Nat) (g7 g8 : Nat → Int32) (i : Nat) (hi : i < 4) (j : Nat) (hj : j < 4) : Met l yX4_drop wsX4_drop (rzk 2 0 0) (MP G k sz q g7 g8 [.ref (q 0), .int (nI i), .int (nI j)]) (MQl G q 2 0 (va_A (wM q k 0 (fun _ => 0) g7 g8) sz)) 0 0 (va_A (wM q k 0 (fun _ => 0) g7 g8) sz) := by
  refine Met.ofW (cc := cX4_drop) (maxL := 3) (ret := (some .int)) (by decide) rfl ?_
  intro p e s m args below meth c s₁ B hml hv
  obtain ⟨rfl, hsz, hP, hK, hD0⟩ := hv
  subst hsz
  have hD := hD0.self (sz := s.heap.size)
  generalize hAe : va_A (wM q k 0 (fun _ => 0) g7 g8) s.heap.size = A at hD ⊢
  have hA : ∀ q : Nat, s.heap.size ≤ q → A q := fun q h => by rw [← hAe]; exact Or.inr h
  have hS : va_S A s.heap s.heap [] := va_S.rf
  have hx := B.exec
  have hb := B.bytes
  have hr := B.returns
  have hts := atoms_spec (ws := wsX4_drop) B.pre
  have hown : s.vm.findClass RX4 = some m.cls := findClass_of_methodNamed B.named
  have hlocks := B.notSynchronized
  have hl := lv_entry ([.ref (q 0), .int (nI i), .int (nI j)]) (n := 3) (Nat.le_of_ble_eq_true rfl)
  rw [lg_entry_eq]
  generalize (lg_sl ([.ref (q 0), .int (nI i), .int (nI j)]) ++ List.replicate (3 - (lg_sl ([.ref (q 0), .int (nI i), .int (nI j)])).length) Slot.unset).toArray = ls at hl ⊢
  have hl : lv_has ls 3 [(0, .ref (q 0)), (1, .int (nI i)), (2, .int (nI j))] := hl
  refine lv_aload_n hx hb dX4_drop_0 rfl (lv_at hl 0 rfl) ?_
  refine lv_iconst (v := 0) hx hb dX4_drop_1 (by decide) ?_
  refine va_put (D := G) (ci := 4) (v := .int 0) (ty := .int) (C := RX4) (T := TX4) (N := 21) hx hb hts (fun _ h => List.mem_cons_of_mem _ (List.mem_append_right _ h)) tyX4 tyX4_ok nmX4 hown hK hP hD hS 0 rfl rfl 0 (by decide) (hts (.fieldLink RX4 65 "ShippedLogModel" "thrown" "I") (by decide +kernel)) (fun _ h9 => h9) rfl (by decide +kernel) rfl rfl (Nat.le_of_ble_eq_true rfl) dX4_drop_2 (fun H locs hP hD hS => ?_)
  have hP : va_P G vwCl (wM q k 0 (fun _ => 0) g7 g8) H := hP
  have hD : va_D A (wM q k 0 (fun _ => 0) g7 g8) := hD
  refine lv_iload_n hx hb dX4_drop_5 rfl (lv_at hl 1 rfl) ?_
  refine br_call (W.runS (As := [.int (nI i)]) (rest := []) ⟨hx, hb, hml, hown, hts⟩ (m_isNode_t l i hi) (va_cwS 1 hts gX4_drop_X4_isNode rfl rfl rfl (by decide +kernel) ⟨(Nat.le_of_ble_eq_true rfl), (Nat.le_of_ble_eq_true rfl)⟩) (P0.preS) rfl rfl hl.1 rfl (lv_room (Nat.le_of_ble_eq_true rfl)) dX4_drop_6 ⟨(Nat.le_of_ble_eq_true rfl), (Nat.le_of_ble_eq_true rfl)⟩) ?_
  refine lv_if_eq (tgt := 19) hx hb dX4_drop_9 (by decide) (fun c9 => absurd c9 (by decide : ¬ (1 : Int32) = 0)) (fun _ => ?_)
  refine lv_iload_n hx hb dX4_drop_12 rfl (lv_at hl 2 rfl) ?_
  refine br_call (W.runS (As := [.int (nI j)]) (rest := []) ⟨hx, hb, hml, hown, hts⟩ (m_isNode_t l j hj) (va_cwS 1 hts gX4_drop_X4_isNode rfl rfl rfl (by decide +kernel) ⟨(Nat.le_of_ble_eq_true rfl), (Nat.le_of_ble_eq_true rfl)⟩) (P0.preS) rfl rfl hl.1 rfl (lv_room (Nat.le_of_ble_eq_true rfl)) dX4_drop_13 ⟨(Nat.le_of_ble_eq_true rfl), (Nat.le_of_ble_eq_true rfl)⟩) ?_
  refine lv_if_ne (tgt := 25) hx hb dX4_drop_16 (by decide) (fun _ => ?_) (fun c9 => absurd c9 (by decide : ¬ (1 : Int32) = 0))
  refine lv_aload_n hx hb dX4_drop_25 rfl (lv_at hl 0 rfl) ?_
  refine va_get (D := G) (ci := 4) (v := .ref (q 12)) (C := RX4) (T := TX4) (N := 21) hx hb hts (fun _ h => List.mem_cons_of_mem _ (List.mem_append_right _ h)) hown hK hP 0 rfl rfl 13 (by decide) (hts (.fieldLink RX4 43 "ShippedLogModel" "count" "[I") (by decide +kernel)) (fun _ h9 => h9) rfl dX4_drop_26 ?_
  refine lv_iconst (v := 4) hx hb dX4_drop_29 (by decide) ?_
  refine lv_iload_n hx hb dX4_drop_30 rfl (lv_at hl 1 rfl) ?_
  refine lv_imul hx hb dX4_drop_31 ?_
  refine lv_iload_n hx hb dX4_drop_32 rfl (lv_at hl 2 rfl) ?_
  refine lv_iadd hx hb dX4_drop_33 ?_
  refine va_iald hx hb hK hP 12 3 rfl rfl (by rw [n_cx]; exact vp_in_nI (by omega) (by decide)) dX4_drop_34 ?_
  refine lv_if_ne (tgt := 44) hx hb dX4_drop_35 (by decide) (fun c9 => absurd rfl c9) (fun _ => ?_)
  refine lv_aload_n hx hb dX4_drop_38 rfl (lv_at hl 0 rfl) ?_
  refine lv_iconst (v := 2) hx hb dX4_drop_39 (by decide) ?_
  refine mf_call (va_runV (As := [.int 2]) (rest := []) ⟨hx, hb, hml, hown, hts⟩ (c_fail l G k _ (q 0) 0 _ 2) (cwV 1 hts gX4_drop_X4_fail rfl rfl rfl (by decide +kernel) ⟨(Nat.le_of_ble_eq_true rfl), (Nat.le_of_ble_eq_true rfl)⟩) (mf_pre hK hP) rfl rfl hl.1 rfl (lv_room (Nat.le_of_ble_eq_true rfl)) dX4_drop_40 ⟨(Nat.le_of_ble_eq_true rfl), (Nat.le_of_ble_eq_true rfl)⟩) hS hD rfl hA (fun H locs hP hS => ?_)
  exact W.iret (v := 0) hx hb hr (fun t ht hW => ⟨⟨0, (), rfl, fun h => absurd h (by decide), _, by rw [ht]; exact hP⟩, hS.F ht⟩) hS.2.2 dX4_drop_43
