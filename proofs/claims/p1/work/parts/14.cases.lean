/-! 14: the law's sixteen cases, each given what its caller of the class and the reference answer. Laid by wip/p1/gen14.py -/
theorem va_D.left {A : Nat → Prop} {a b : va_W} (h : va_D A (a ++ b)) : va_D A a := h.by id (fun i q hq => by
  show (a ++ b)[i]? = some q
  rw [List.getElem?_append_left (List.getElem?_eq_some_iff.mp hq).1]
  exact hq) (fun _ _ _ _ h => h)
theorem va_D.flip {A : Nat → Prop} {a b : va_W} (h : va_D A (a ++ b)) : va_D A (b ++ a) := va_D.swap (a := []) (b := a) (c := b) h
theorem va_P.flip {D : va_G} {cl : List vw_C} {a b : va_W} {H : Heap} (h : va_P D cl (a ++ b) H) : va_P D cl (b ++ a) H := va_P.swap (a := []) (b := a) (c := b) h
/-- the first of two worlds is apart from the second's part of the heap -/
theorem two_apart {D : va_G} {cl : List vw_C} {A : Nat → Prop} {wa wc : va_W} {H : Heap} (hP : va_P D cl wa H) (hD : va_D A (wa ++ wc)) : ∀ (i : Nat) (q : Nat × va_E), wa[i]? = some q → q.1 < H.size ∧ ¬ va_A wc H.size q.1 := by
  intro i q hq
  have hi := (List.getElem?_eq_some_iff.mp hq).1
  refine ⟨(hP i q hq).lt, fun h => ?_⟩
  rcases h with ⟨k2, e, h⟩ | h
  · have h1 : (wa ++ wc)[i]? = some q := by rw [List.getElem?_append_left hi]; exact hq
    have h2 : (wa ++ wc)[wa.length + k2]? = some (q.1, e) := by rw [List.getElem?_append_right (by omega), Nat.add_sub_cancel_left]; exact h
    have := hD.1 _ _ _ _ h1 h2 rfl
    omega
  · exact absurd (hP i q hq).lt (Nat.not_lt.mpr h)
theorem two_keep {D : va_G} {cl : List vw_C} {A : Nat → Prop} {wa wc : va_W} {H H1 : Heap} (hP : va_P D cl wa H) (hD : va_D A (wa ++ wc)) (h : ∀ q : Nat, q < H.size → ¬ va_A wc H.size q → H1[q]? = H[q]?) : va_P D cl wa H1 := fun i q hq => (hP i q hq).kept (h q.1 (two_apart hP hD i q hq).1 (two_apart hP hD i q hq).2)
theorem two_join {D : va_G} {cl : List vw_C} {A : Nat → Prop} {wa wc w1 : va_W} {H H1 : Heap} (hP : va_P D cl wa H) (hD : va_D A (wa ++ wc)) (hk : ∀ q : Nat, q < H.size → ¬ va_A wc H.size q → H1[q]? = H[q]?) (hF : ∀ q, va_A wc H.size q → A q) (hP1 : va_P D cl w1 H1) (hD1 : va_D (va_A wc H.size) w1) : va_P D cl (wa ++ w1) H1 ∧ va_D A (wa ++ w1) :=
  ⟨(two_keep hP hD hk).app hP1, va_D.app hD.left (hD1.weaken (fun _ q _ h => hF q.1 h)) (fun i j p q hi hj e => (two_apart hP hD i p hi).2 (by rw [e]; exact hD1.2 j q hj))⟩
theorem PL.preS {G : va_G} {k : Nat → ClassId} {A : Nat → Prop} {s : State} {H : Heap} {locs : List Loc} {ws : va_W} {As : List Value} (hI : IV G k A s) (hS : va_S A s.heap H locs) (hA : ∀ q, s.heap.size ≤ q → A q) (hP : va_P G vwCl ws H) (hD : va_D A ws) : PreS s H (PL G k H.size ws As) As :=
  ⟨fun _ _ _ _ q => ⟨q.1, q.2.1, q.2.2.1, q.2.2.2.1, q.2.2.2.2.blind⟩, fun U hU hW => ⟨rfl, by rw [hU], by rw [hU]; exact hP, hD.weaken (fun _ _ _ _ => trivial), hI.go hS hU hW (va_A.all hD (fun q h => hA q (Nat.le_trans hS.1 h)))⟩⟩
theorem MP.preV {G : va_G} {k : Nat → ClassId} {A : Nat → Prop} {s : State} {H : Heap} {q : Nat → Nat} {g7 g8 : Nat → Int32} {As : List Value} (hK : va_K G vwCl (pT k) s) (hP : va_P G vwCl (wM q k 0 (fun _ => 0) g7 g8) H) (hD : va_D A (wM q k 0 (fun _ => 0) g7 g8)) : PreV s H RX4 (q 0) (MP G k H.size q g7 g8 (.ref (q 0) :: As)) As :=
  ⟨fun _ U _ _ z => ⟨z.1, z.2.1, z.2.2.1, va_K.moved (u := U) (Vm.Alike.refl U.vm) z.2.2.2.1, z.2.2.2.2⟩, va_recv hK hP (ci := 4) (q0 := 0) rfl rfl, fun U hU hW => ⟨rfl, by rw [hU], by rw [hU]; exact hP, va_K.moved hW.alike hK, hD.weaken (fun _ _ _ _ => trivial)⟩⟩
section LRows
variable {p : Program} {l : Launch} {e : Env} {R : Room} {s : State} {m : MethodId} {args : Array Value} {below : List Frame} {meth : Method} {c : Code} {H : Heap} {locs : List Loc} {cells slots : Nat} {Q : State → Prop}
variable {mc ms : Nat} {free : Addr → Prop} {A0 A1 : Nat → Prop} {H0 : Heap} {a : Array Value} {pc : Nat} {ls : Array Slot} {st0 rest : List Value}
theorem wl_call {S : Type} {post : Int32 → S → Prop} {B : S → State → Prop} (hr : vx_Run p l e R s m args below meth c H locs cells slots mc ms (F0 m pc ls st0) rest (va_Qi post B A1 a) (fun _ _ _ => False) free) (hS : va_S A0 H0 H locs) (hA : ∀ q, q < H.size → A1 q → A0 q) (hf : ∀ q, free q → A0 q)
    (kk : ∀ (r : Int32) (u : S) (t : State) (H1 : Heap) (locs1 : List Loc), t.heap = H1 → post r u → B u t → (∀ q : Nat, q < H.size → ¬ A1 q → H1[q]? = H[q]?) → va_S A0 H0 H1 locs1 → W p l e R s m args below meth c H1 locs1 (cells + mc) (slots + ms) Q (F0 m (pc + 3) ls (.int r :: rest))) : W p l e R s m args below meth c H locs cells slots Q (F0 m pc ls st0) := by
  intro T hT X
  rcases hr T hT X with ⟨v, st₀, t, T', L, h0, X', hL, e1, e2, ⟨⟨r, u, hv, hp, hb⟩, hF⟩, st⟩ | ⟨q, st₀, t, T', L, E, ce, h0, X', hL, e1, e2, hx, -⟩
  · cases hv
    obtain ⟨k1, k2, k3⟩ := vx_keep h0 e1 hS hA hf hL hF
    obtain ⟨t2, a1, b1⟩ := kk r u t T'.heap (locs ++ L) e1.symm hp hb k2 k3 T' rfl X'
    exact ⟨t2, st t2 a1, b1⟩
  · exact hx.elim
end LRows
set_option maxHeartbeats 4000000 in
set_option maxRecDepth 100000 in
/-- what is 'thrown' -/
theorem m_thrown (l : Launch) (G : va_G) (k : Nat → ClassId) (a : Nat) (K : Int32) (fs : List Value) : Met l yX4_thrown wsX4_thrown (rz0) (PQ G k [(a, .inr (4, .int K :: fs))] [.ref a]) (QcRead K) 0 0 (fun _ => False) := by
  refine Met.ofW (cc := cX4_thrown) (maxL := 1) (ret := (some .int)) (by decide) rfl ?_
  intro p e s m args below meth c s₁ B hml hv
  obtain ⟨rfl, hP, hK⟩ := hv
  have hx := B.exec
  have hb := B.bytes
  have hr := B.returns
  have hts := atoms_spec (ws := wsX4_thrown) B.pre
  have hown : s.vm.findClass RX4 = some m.cls := findClass_of_methodNamed B.named
  have hlocks := B.notSynchronized
  have hl := lv_entry ([.ref a]) (n := 1) (Nat.le_of_ble_eq_true rfl)
  rw [lg_entry_eq]
  generalize (lg_sl ([.ref a]) ++ List.replicate (1 - (lg_sl ([.ref a])).length) Slot.unset).toArray = ls at hl ⊢
  have hl : lv_has ls 1 [(0, .ref a)] := hl
  refine lv_aload_n hx hb dX4_thrown_0 rfl (lv_at hl 0 rfl) ?_
  refine va_get (D := G) (ci := 4) (v := .int K) (C := RX4) (T := TX4) (N := 21) hx hb hts (fun _ h => List.mem_cons_of_mem _ (List.mem_append_right _ h)) hown hK hP 0 rfl rfl 0 (by decide) (hts (.fieldLink RX4 65 "ShippedLogModel" "thrown" "I") (by decide +kernel)) (fun _ h9 => h9) rfl dX4_thrown_1 ?_
  exact W.iret (v := K) hx hb hr (fun t ht hW => ⟨rfl, ht⟩) (fun q h => by cases h) dX4_thrown_4
set_option maxHeartbeats 4000000 in
set_option maxRecDepth 100000 in
/-- behind the one case: the loop ends, the answer is 1 -/
theorem lc_end {p : Program} {e : Env} {s : State} {m : MethodId} {below : List Frame} {meth : Method} {c : Code} (l : Launch) {b : Nat} {xs : Nat → Int32} (C0 : lw_At p s m meth c b 4 xs) (H : Heap) (locs : List Loc) (ls : Array Slot) (hS : va_S (fun q : Nat => s.heap.size ≤ q) s.heap H locs) (hl : lv_has ls 7 [(0, .ref b), (4, .int 0)]) : W p l e room_1 s m #[Value.ref b] below meth c H locs 88 83219 (lw_Z below #[Value.ref b] s) (F0 m 1191 ls []) := by
  obtain ⟨hx, hb, hr, hml, hown, hts0, hX, hbl, hlocks, hgv⟩ := C0
  have hts := fun w h => hts0 w (wsL_law_in w h)
  have hA : ∀ q : Nat, s.heap.size ≤ q → (fun q : Nat => s.heap.size ≤ q) q := fun _ h => h
  have hbA : ¬ (fun q : Nat => s.heap.size ≤ q) b := Nat.not_le.mpr hbl
  refine lv_iinc (v := 4) (lv' := [(4, .int 4), (0, .ref b)]) hx hb dL_law_1191 hl (k := 1) rfl (by decide) (by decide) rfl (fun ls hl => ?_)
  refine lv_goto (tgt := 23) hx hb dL_law_1194 (by decide) ?_
  refine lv_iload hx hb dL_law_23 (lv_at hl 0 rfl) ?_
  refine lv_aload_n hx hb dL_law_25 rfl (lv_at hl 1 rfl) ?_
  refine va_slen hx hb hX hbl hbA hS dL_law_26 ?_
  refine lv_iconst (v := 4) hx hb dL_law_27 (by decide) ?_
  refine lv_isub hx hb dL_law_28 ?_
  refine lv_icmp_gt (tgt := 1197) hx hb dL_law_29 (by decide) (fun _ => ?_) (fun c9 => absurd (by decide) c9)
  refine lv_iconst (v := 1) hx hb dL_law_1197 (by decide) ?_
  refine va_forget (fun q hq => hS.2.2 q hq) ?_
  refine W.widen (k := 600002) (n := 7302232) (Nat.le_of_ble_eq_true rfl) (Nat.le_of_ble_eq_true rfl) ?_
  exact lw_ret hx hb hr hlocks dL_law_1198
set_option maxHeartbeats 4000000 in
set_option maxRecDepth 100000 in
/-- the law's case of up -/
theorem lc_up {p : Program} {e : Env} {s : State} {m : MethodId} {below : List Frame} {meth : Method} {c : Code} (l : Launch) {b : Nat} {xs : Nat → Int32} (C0 : lw_At p s m meth c b 4 xs) {G : va_G} {k : Nat → ClassId} (hI : IV G k (fun q : Nat => s.heap.size ≤ q) s) {wx : va_W} {o x : Nat} {fo : Nat → Int64} {q : Nat → Nat} {g7 g8 : Nat → Int32} (K V : Int32) (hC : ∀ sz, vx_Met l yL_up wsL_up (rzk 3 1 6) (PL G k sz (wL k wx o fo) [.ref x, .int (xs 1), .ref o]) (QL G k o K V (va_A (wL k wx o fo) sz)) (fun _ _ _ => False) 1 6 (va_A (wL k wx o fo) sz)) (hM : ∀ sz, Met l yX4_up wsX4_up (rzk 2 0 0) (MP G k sz q g7 g8 [.ref (q 0), .int (xs 1)]) (MQl G q K V (va_A (wM q k 0 (fun _ => 0) g7 g8) sz)) 0 0 (va_A (wM q k 0 (fun _ => 0) g7 g8) sz)) (H : Heap) (locs : List Loc) (ls : Array Slot) (hP : va_P G vwCl (wM q k 0 (fun _ => 0) g7 g8 ++ wL k wx o fo) H) (hD : va_D (fun q : Nat => s.heap.size ≤ q) (wM q k 0 (fun _ => 0) g7 g8 ++ wL k wx o fo)) (hS : va_S (fun q : Nat => s.heap.size ≤ q) s.heap H locs) (hl : lv_has ls 7 [(0, .ref b), (1, .ref x), (2, .ref (q 0)), (3, .ref o), (4, .int 0)]) : W p l e room_1 s m #[Value.ref b] below meth c H locs 87 83213 (lw_Z below #[Value.ref b] s) (F0 m 116 ls []) := by
  have C1 := C0
  obtain ⟨hx, hb, hr, hml, hown, hts0, hX, hbl, hlocks, hgv⟩ := C0
  have hts := fun w h => hts0 w (wsL_law_in w h)
  have hA : ∀ q : Nat, s.heap.size ≤ q → (fun q : Nat => s.heap.size ≤ q) q := fun _ h => h
  have hbA : ¬ (fun q : Nat => s.heap.size ≤ q) b := Nat.not_le.mpr hbl
  have hK := hI.1
  have hPm : va_P G vwCl (wM q k 0 (fun _ => 0) g7 g8) H := hP.mem (fun z hz => List.mem_append_left _ hz)
  have hPl : va_P G vwCl (wL k wx o fo) H := hP.mem (fun z hz => List.mem_append_right _ hz)
  have hDm := hD.left
  have hDl := hD.flip.left
  refine lv_aload_n hx hb dL_law_116 rfl (lv_at hl 1 rfl) ?_
  refine lv_aload_n hx hb dL_law_117 rfl (lv_at hl 0 rfl) ?_
  refine lv_iload hx hb dL_law_118 (lv_at hl 4 rfl) ?_
  refine lv_iconst (v := 1) hx hb dL_law_120 (by decide) ?_
  refine lv_iadd hx hb dL_law_121 ?_
  refine va_sld hx hb hX hbl hbA hS (show vp_in (0 + 1) 4 from by unfold vp_in; decide) dL_law_122 ?_
  refine lv_topi (fun y ey => ?_)
  have hy : y = xs 1 := ey.trans (congrArg xs (by decide))
  subst hy
  refine lv_aload_n hx hb dL_law_123 rfl (lv_at hl 3 rfl) ?_
  refine wl_call (vx_runSX (As := [.ref x, .int (xs 1), .ref o]) (rest := []) ⟨hx, hb, hml, hown, hts⟩ (hC H.size) (vx_cwSW 3 hts gL_law_L_up rfl rfl rfl (by decide +kernel) ⟨(Nat.le_of_ble_eq_true rfl), (Nat.le_of_ble_eq_true rfl)⟩) (PL.preS hI hS hA hPl hDl) rfl rfl hl.1 rfl (lv_room (Nat.le_of_ble_eq_true rfl)) dL_law_124 ⟨(Nat.le_of_ble_eq_true rfl), (Nat.le_of_ble_eq_true rfl)⟩) hS (fun z _ h => va_A.all hDl (fun z h => Nat.le_trans hS.1 h) z h) (va_A.all hDl (fun z h => Nat.le_trans hS.1 h)) (fun r u t H1 locs ht hp hB hk1 hS => ?_)
  obtain ⟨rfl, hV⟩ := hp
  obtain ⟨fo1, hPo, hf0⟩ := hB
  rw [ht] at hPo
  have hPm0 := two_keep hPm hD hk1
  have hPm := hPm0
  refine lv_istore (lv' := [(5, .int r), (0, .ref b), (1, .ref x), (2, .ref (q 0)), (3, .ref o), (4, .int 0)]) hx hb dL_law_127 hl (by decide) rfl (fun ls hl => ?_)
  refine lv_aload_n hx hb dL_law_129 rfl (lv_at hl 3 rfl) ?_
  refine lv_aload_n hx hb dL_law_130 rfl (lv_at hl 1 rfl) ?_
  refine lv_iload hx hb dL_law_131 (lv_at hl 5 rfl) ?_
  refine lv_iconst (v := 1) hx hb dL_law_133 (by decide) ?_
  refine lv_iadd hx hb dL_law_134 ?_
  refine va_sld hx hb hX hbl hbA hS (show vp_in (0 + 1) 4 from by unfold vp_in; decide) dL_law_135 ?_
  refine lv_topi (fun y ey => ?_)
  have hy : y = xs 1 := ey.trans (congrArg xs (by decide))
  subst hy
  refine va_calli (va_runV (As := [.int (xs 1)]) (rest := []) ⟨hx, hb, hml, hown, hts⟩ (hM H1.size) (cwV 1 hts gL_law_X4_up rfl rfl rfl (by decide +kernel) ⟨(Nat.le_of_ble_eq_true rfl), (Nat.le_of_ble_eq_true rfl)⟩) (MP.preV hK hPm hDm) rfl rfl hl.1 rfl (lv_room (Nat.le_of_ble_eq_true rfl)) dL_law_136 ⟨(Nat.le_of_ble_eq_true rfl), (Nat.le_of_ble_eq_true rfl)⟩) hS (fun z _ h => va_A.all hDm (fun z h => Nat.le_trans hS.1 h) z h) (va_A.all hDm (fun z h => Nat.le_trans hS.1 h)) (fun r2 u2 t2 H2 locs ht2 hvm2 hp2 hB2 hz2 hk2 hS => ?_)
  obtain ⟨fs, hPt⟩ := hB2
  rw [ht2] at hPt
  refine lv_istore (lv' := [(6, .int r2), (5, .int r), (0, .ref b), (1, .ref x), (2, .ref (q 0)), (3, .ref o), (4, .int 0)]) hx hb dL_law_139 hl (by decide) rfl (fun ls hl => ?_)
  refine lv_aload_n hx hb dL_law_141 rfl (lv_at hl 4 rfl) ?_
  have hPo : va_P G vwCl [(o, eO k fo1)] H2 := fun i z hz => by
    have h9 : i < 1 := (List.getElem?_eq_some_iff.mp hz).1
    rw [show i = 0 by omega] at hz
    cases hz
    have hlt : o < H1.size := (hPo 0 _ rfl).lt
    refine (hPo 0 _ rfl).kept (hk2 o hlt (fun h => ?_))
    rcases h with ⟨i3, e3, h3⟩ | h3
    · exact (two_apart hPm0 hD i3 _ h3).2 (Or.inl ⟨wx.length, _, wL_o⟩)
    · exact absurd hlt (Nat.not_lt.mpr h3)
  refine br_call (W.runV (As := []) (rest := []) ⟨hx, hb, hml, hown, hts⟩ (m_thrown l G k (q 0) r fs) (cwV 0 hts gL_law_X4_thrown rfl rfl rfl (by decide +kernel) ⟨(Nat.le_of_ble_eq_true rfl), (Nat.le_of_ble_eq_true rfl)⟩) (PQ.preV hK hPt (ci := 4) (q0 := 0) rfl rfl) rfl rfl hl.1 rfl (lv_room (Nat.le_of_ble_eq_true rfl)) dL_law_142 ⟨(Nat.le_of_ble_eq_true rfl), (Nat.le_of_ble_eq_true rfl)⟩) ?_
  refine lv_iload hx hb dL_law_145 (lv_at hl 1 rfl) ?_
  refine lv_icmp_eq (tgt := 152) hx hb dL_law_147 (by decide) (fun _ => ?_) (fun c9 => absurd rfl c9)
  refine lv_iload hx hb dL_law_152 (lv_at hl 1 rfl) ?_
  refine lv_if_ne (tgt := 169) hx hb dL_law_154 (by decide) (fun h9 => ?_) (fun h9 => ?_)
  · refine lv_goto (tgt := 1191) hx hb dL_law_169 (by decide) ?_
    exact lc_end l C1 H2 locs ls hS (lv_sub hl [2, 6] rfl)
  · refine lv_aload_n hx hb dL_law_157 rfl (lv_at hl 5 rfl) ?_
    refine lv_iconst (v := 0) hx hb dL_law_158 (by decide) ?_
    refine va_lald hx hb hK hPo 0 5 rfl rfl (vp_in_nI (n := 0) (by decide) (by decide)) dL_law_159 ?_
    refine lv_topl (fun y ey => ?_)
    have hy : y = V.toInt64 := ey.trans (hf0.trans (hV h9))
    subst hy
    have hr2 : r2 = V := hp2 h9
    subst hr2
    refine lv_iload hx hb dL_law_160 (lv_at hl 0 rfl) ?_
    refine lv_i2l (v := Int32.toInt64 r2) hx hb dL_law_162 rfl ?_
    refine W.lcmp hx hb dL_law_163 ?_
    refine lv_if_eq (tgt := 169) hx hb dL_law_164 (by decide) (fun _ => ?_) (fun c9 => absurd ((lg_cmp_eq _ _).mpr rfl) c9)
    refine lv_goto (tgt := 1191) hx hb dL_law_169 (by decide) ?_
    exact lc_end l C1 H2 locs ls hS (lv_sub hl [2, 6] rfl)
set_option maxHeartbeats 4000000 in
set_option maxRecDepth 100000 in
/-- the law's case of crash -/
theorem lc_crash {p : Program} {e : Env} {s : State} {m : MethodId} {below : List Frame} {meth : Method} {c : Code} (l : Launch) {b : Nat} {xs : Nat → Int32} (C0 : lw_At p s m meth c b 4 xs) {G : va_G} {k : Nat → ClassId} (hI : IV G k (fun q : Nat => s.heap.size ≤ q) s) {wx : va_W} {o x : Nat} {fo : Nat → Int64} {q : Nat → Nat} {g7 g8 : Nat → Int32} (K V : Int32) (hC : ∀ sz, vx_Met l yL_crash wsL_crash (rzk 3 1 6) (PL G k sz (wL k wx o fo) [.ref x, .int (xs 1), .int (xs 2), .ref o]) (QL G k o K V (va_A (wL k wx o fo) sz)) (fun _ _ _ => False) 1 6 (va_A (wL k wx o fo) sz)) (hM : ∀ sz, Met l yX4_crash wsX4_crash (rzk 2 0 0) (MP G k sz q g7 g8 [.ref (q 0), .int (xs 1), .int (xs 2)]) (MQl G q K V (va_A (wM q k 0 (fun _ => 0) g7 g8) sz)) 0 0 (va_A (wM q k 0 (fun _ => 0) g7 g8) sz)) (H : Heap) (locs : List Loc) (ls : Array Slot) (hP : va_P G vwCl (wM q k 0 (fun _ => 0) g7 g8 ++ wL k wx o fo) H) (hD : va_D (fun q : Nat => s.heap.size ≤ q) (wM q k 0 (fun _ => 0) g7 g8 ++ wL k wx o fo)) (hS : va_S (fun q : Nat => s.heap.size ≤ q) s.heap H locs) (hl : lv_has ls 7 [(0, .ref b), (1, .ref x), (2, .ref (q 0)), (3, .ref o), (4, .int 0)]) : W p l e room_1 s m #[Value.ref b] below meth c H locs 87 83213 (lw_Z below #[Value.ref b] s) (F0 m 172 ls []) := by
  have C1 := C0
  obtain ⟨hx, hb, hr, hml, hown, hts0, hX, hbl, hlocks, hgv⟩ := C0
  have hts := fun w h => hts0 w (wsL_law_in w h)
  have hA : ∀ q : Nat, s.heap.size ≤ q → (fun q : Nat => s.heap.size ≤ q) q := fun _ h => h
  have hbA : ¬ (fun q : Nat => s.heap.size ≤ q) b := Nat.not_le.mpr hbl
  have hK := hI.1
  have hPm : va_P G vwCl (wM q k 0 (fun _ => 0) g7 g8) H := hP.mem (fun z hz => List.mem_append_left _ hz)
  have hPl : va_P G vwCl (wL k wx o fo) H := hP.mem (fun z hz => List.mem_append_right _ hz)
  have hDm := hD.left
  have hDl := hD.flip.left
  refine lv_aload_n hx hb dL_law_172 rfl (lv_at hl 1 rfl) ?_
  refine lv_aload_n hx hb dL_law_173 rfl (lv_at hl 0 rfl) ?_
  refine lv_iload hx hb dL_law_174 (lv_at hl 4 rfl) ?_
  refine lv_iconst (v := 1) hx hb dL_law_176 (by decide) ?_
  refine lv_iadd hx hb dL_law_177 ?_
  refine va_sld hx hb hX hbl hbA hS (show vp_in (0 + 1) 4 from by unfold vp_in; decide) dL_law_178 ?_
  refine lv_topi (fun y ey => ?_)
  have hy : y = xs 1 := ey.trans (congrArg xs (by decide))
  subst hy
  refine lv_aload_n hx hb dL_law_179 rfl (lv_at hl 0 rfl) ?_
  refine lv_iload hx hb dL_law_180 (lv_at hl 4 rfl) ?_
  refine lv_iconst (v := 2) hx hb dL_law_182 (by decide) ?_
  refine lv_iadd hx hb dL_law_183 ?_
  refine va_sld hx hb hX hbl hbA hS (show vp_in (0 + 2) 4 from by unfold vp_in; decide) dL_law_184 ?_
  refine lv_topi (fun y ey => ?_)
  have hy : y = xs 2 := ey.trans (congrArg xs (by decide))
  subst hy
  refine lv_aload_n hx hb dL_law_185 rfl (lv_at hl 3 rfl) ?_
  refine wl_call (vx_runSX (As := [.ref x, .int (xs 1), .int (xs 2), .ref o]) (rest := []) ⟨hx, hb, hml, hown, hts⟩ (hC H.size) (vx_cwSW 4 hts gL_law_L_crash rfl rfl rfl (by decide +kernel) ⟨(Nat.le_of_ble_eq_true rfl), (Nat.le_of_ble_eq_true rfl)⟩) (PL.preS hI hS hA hPl hDl) rfl rfl hl.1 rfl (lv_room (Nat.le_of_ble_eq_true rfl)) dL_law_186 ⟨(Nat.le_of_ble_eq_true rfl), (Nat.le_of_ble_eq_true rfl)⟩) hS (fun z _ h => va_A.all hDl (fun z h => Nat.le_trans hS.1 h) z h) (va_A.all hDl (fun z h => Nat.le_trans hS.1 h)) (fun r u t H1 locs ht hp hB hk1 hS => ?_)
  obtain ⟨rfl, hV⟩ := hp
  obtain ⟨fo1, hPo, hf0⟩ := hB
  rw [ht] at hPo
  have hPm0 := two_keep hPm hD hk1
  have hPm := hPm0
  refine lv_istore (lv' := [(5, .int r), (0, .ref b), (1, .ref x), (2, .ref (q 0)), (3, .ref o), (4, .int 0)]) hx hb dL_law_189 hl (by decide) rfl (fun ls hl => ?_)
  refine lv_aload_n hx hb dL_law_191 rfl (lv_at hl 3 rfl) ?_
  refine lv_aload_n hx hb dL_law_192 rfl (lv_at hl 1 rfl) ?_
  refine lv_iload hx hb dL_law_193 (lv_at hl 5 rfl) ?_
  refine lv_iconst (v := 1) hx hb dL_law_195 (by decide) ?_
  refine lv_iadd hx hb dL_law_196 ?_
  refine va_sld hx hb hX hbl hbA hS (show vp_in (0 + 1) 4 from by unfold vp_in; decide) dL_law_197 ?_
  refine lv_topi (fun y ey => ?_)
  have hy : y = xs 1 := ey.trans (congrArg xs (by decide))
  subst hy
  refine lv_aload_n hx hb dL_law_198 rfl (lv_at hl 1 rfl) ?_
  refine lv_iload hx hb dL_law_199 (lv_at hl 5 rfl) ?_
  refine lv_iconst (v := 2) hx hb dL_law_201 (by decide) ?_
  refine lv_iadd hx hb dL_law_202 ?_
  refine va_sld hx hb hX hbl hbA hS (show vp_in (0 + 2) 4 from by unfold vp_in; decide) dL_law_203 ?_
  refine lv_topi (fun y ey => ?_)
  have hy : y = xs 2 := ey.trans (congrArg xs (by decide))
  subst hy
  refine va_calli (va_runV (As := [.int (xs 1), .int (xs 2)]) (rest := []) ⟨hx, hb, hml, hown, hts⟩ (hM H1.size) (cwV 2 hts gL_law_X4_crash rfl rfl rfl (by decide +kernel) ⟨(Nat.le_of_ble_eq_true rfl), (Nat.le_of_ble_eq_true rfl)⟩) (MP.preV hK hPm hDm) rfl rfl hl.1 rfl (lv_room (Nat.le_of_ble_eq_true rfl)) dL_law_204 ⟨(Nat.le_of_ble_eq_true rfl), (Nat.le_of_ble_eq_true rfl)⟩) hS (fun z _ h => va_A.all hDm (fun z h => Nat.le_trans hS.1 h) z h) (va_A.all hDm (fun z h => Nat.le_trans hS.1 h)) (fun r2 u2 t2 H2 locs ht2 hvm2 hp2 hB2 hz2 hk2 hS => ?_)
  obtain ⟨fs, hPt⟩ := hB2
  rw [ht2] at hPt
  refine lv_istore (lv' := [(6, .int r2), (5, .int r), (0, .ref b), (1, .ref x), (2, .ref (q 0)), (3, .ref o), (4, .int 0)]) hx hb dL_law_207 hl (by decide) rfl (fun ls hl => ?_)
  refine lv_aload_n hx hb dL_law_209 rfl (lv_at hl 4 rfl) ?_
  have hPo : va_P G vwCl [(o, eO k fo1)] H2 := fun i z hz => by
    have h9 : i < 1 := (List.getElem?_eq_some_iff.mp hz).1
    rw [show i = 0 by omega] at hz
    cases hz
    have hlt : o < H1.size := (hPo 0 _ rfl).lt
    refine (hPo 0 _ rfl).kept (hk2 o hlt (fun h => ?_))
    rcases h with ⟨i3, e3, h3⟩ | h3
    · exact (two_apart hPm0 hD i3 _ h3).2 (Or.inl ⟨wx.length, _, wL_o⟩)
    · exact absurd hlt (Nat.not_lt.mpr h3)
  refine br_call (W.runV (As := []) (rest := []) ⟨hx, hb, hml, hown, hts⟩ (m_thrown l G k (q 0) r fs) (cwV 0 hts gL_law_X4_thrown rfl rfl rfl (by decide +kernel) ⟨(Nat.le_of_ble_eq_true rfl), (Nat.le_of_ble_eq_true rfl)⟩) (PQ.preV hK hPt (ci := 4) (q0 := 0) rfl rfl) rfl rfl hl.1 rfl (lv_room (Nat.le_of_ble_eq_true rfl)) dL_law_210 ⟨(Nat.le_of_ble_eq_true rfl), (Nat.le_of_ble_eq_true rfl)⟩) ?_
  refine lv_iload hx hb dL_law_213 (lv_at hl 1 rfl) ?_
  refine lv_icmp_eq (tgt := 220) hx hb dL_law_215 (by decide) (fun _ => ?_) (fun c9 => absurd rfl c9)
  refine lv_iload hx hb dL_law_220 (lv_at hl 1 rfl) ?_
  refine lv_if_ne (tgt := 237) hx hb dL_law_222 (by decide) (fun h9 => ?_) (fun h9 => ?_)
  · refine lv_goto (tgt := 1191) hx hb dL_law_237 (by decide) ?_
    exact lc_end l C1 H2 locs ls hS (lv_sub hl [2, 6] rfl)
  · refine lv_aload_n hx hb dL_law_225 rfl (lv_at hl 5 rfl) ?_
    refine lv_iconst (v := 0) hx hb dL_law_226 (by decide) ?_
    refine va_lald hx hb hK hPo 0 5 rfl rfl (vp_in_nI (n := 0) (by decide) (by decide)) dL_law_227 ?_
    refine lv_topl (fun y ey => ?_)
    have hy : y = V.toInt64 := ey.trans (hf0.trans (hV h9))
    subst hy
    have hr2 : r2 = V := hp2 h9
    subst hr2
    refine lv_iload hx hb dL_law_228 (lv_at hl 0 rfl) ?_
    refine lv_i2l (v := Int32.toInt64 r2) hx hb dL_law_230 rfl ?_
    refine W.lcmp hx hb dL_law_231 ?_
    refine lv_if_eq (tgt := 237) hx hb dL_law_232 (by decide) (fun _ => ?_) (fun c9 => absurd ((lg_cmp_eq _ _).mpr rfl) c9)
    refine lv_goto (tgt := 1191) hx hb dL_law_237 (by decide) ?_
    exact lc_end l C1 H2 locs ls hS (lv_sub hl [2, 6] rfl)
set_option maxHeartbeats 4000000 in
set_option maxRecDepth 100000 in
/-- the law's case of promote -/
theorem lc_promote {p : Program} {e : Env} {s : State} {m : MethodId} {below : List Frame} {meth : Method} {c : Code} (l : Launch) {b : Nat} {xs : Nat → Int32} (C0 : lw_At p s m meth c b 4 xs) {G : va_G} {k : Nat → ClassId} (hI : IV G k (fun q : Nat => s.heap.size ≤ q) s) {wx : va_W} {o x : Nat} {fo : Nat → Int64} {q : Nat → Nat} {g7 g8 : Nat → Int32} (K V : Int32) (hC : ∀ sz, vx_Met l yL_promote wsL_promote (rzk 3 1 6) (PL G k sz (wL k wx o fo) [.ref x, .int (xs 1), .ref o]) (QL G k o K V (va_A (wL k wx o fo) sz)) (fun _ _ _ => False) 1 6 (va_A (wL k wx o fo) sz)) (hM : ∀ sz, Met l yX4_promote wsX4_promote (rzk 2 0 0) (MP G k sz q g7 g8 [.ref (q 0), .int (xs 1)]) (MQl G q K V (va_A (wM q k 0 (fun _ => 0) g7 g8) sz)) 0 0 (va_A (wM q k 0 (fun _ => 0) g7 g8) sz)) (H : Heap) (locs : List Loc) (ls : Array Slot) (hP : va_P G vwCl (wM q k 0 (fun _ => 0) g7 g8 ++ wL k wx o fo) H) (hD : va_D (fun q : Nat => s.heap.size ≤ q) (wM q k 0 (fun _ => 0) g7 g8 ++ wL k wx o fo)) (hS : va_S (fun q : Nat => s.heap.size ≤ q) s.heap H locs) (hl : lv_has ls 7 [(0, .ref b), (1, .ref x), (2, .ref (q 0)), (3, .ref o), (4, .int 0)]) : W p l e room_1 s m #[Value.ref b] below meth c H locs 87 83213 (lw_Z below #[Value.ref b] s) (F0 m 240 ls []) := by
  have C1 := C0
  obtain ⟨hx, hb, hr, hml, hown, hts0, hX, hbl, hlocks, hgv⟩ := C0
  have hts := fun w h => hts0 w (wsL_law_in w h)
  have hA : ∀ q : Nat, s.heap.size ≤ q → (fun q : Nat => s.heap.size ≤ q) q := fun _ h => h
  have hbA : ¬ (fun q : Nat => s.heap.size ≤ q) b := Nat.not_le.mpr hbl
  have hK := hI.1
  have hPm : va_P G vwCl (wM q k 0 (fun _ => 0) g7 g8) H := hP.mem (fun z hz => List.mem_append_left _ hz)
  have hPl : va_P G vwCl (wL k wx o fo) H := hP.mem (fun z hz => List.mem_append_right _ hz)
  have hDm := hD.left
  have hDl := hD.flip.left
  refine lv_aload_n hx hb dL_law_240 rfl (lv_at hl 1 rfl) ?_
  refine lv_aload_n hx hb dL_law_241 rfl (lv_at hl 0 rfl) ?_
  refine lv_iload hx hb dL_law_242 (lv_at hl 4 rfl) ?_
  refine lv_iconst (v := 1) hx hb dL_law_244 (by decide) ?_
  refine lv_iadd hx hb dL_law_245 ?_
  refine va_sld hx hb hX hbl hbA hS (show vp_in (0 + 1) 4 from by unfold vp_in; decide) dL_law_246 ?_
  refine lv_topi (fun y ey => ?_)
  have hy : y = xs 1 := ey.trans (congrArg xs (by decide))
  subst hy
  refine lv_aload_n hx hb dL_law_247 rfl (lv_at hl 3 rfl) ?_
  refine wl_call (vx_runSX (As := [.ref x, .int (xs 1), .ref o]) (rest := []) ⟨hx, hb, hml, hown, hts⟩ (hC H.size) (vx_cwSW 3 hts gL_law_L_promote rfl rfl rfl (by decide +kernel) ⟨(Nat.le_of_ble_eq_true rfl), (Nat.le_of_ble_eq_true rfl)⟩) (PL.preS hI hS hA hPl hDl) rfl rfl hl.1 rfl (lv_room (Nat.le_of_ble_eq_true rfl)) dL_law_248 ⟨(Nat.le_of_ble_eq_true rfl), (Nat.le_of_ble_eq_true rfl)⟩) hS (fun z _ h => va_A.all hDl (fun z h => Nat.le_trans hS.1 h) z h) (va_A.all hDl (fun z h => Nat.le_trans hS.1 h)) (fun r u t H1 locs ht hp hB hk1 hS => ?_)
  obtain ⟨rfl, hV⟩ := hp
  obtain ⟨fo1, hPo, hf0⟩ := hB
  rw [ht] at hPo
  have hPm0 := two_keep hPm hD hk1
  have hPm := hPm0
  refine lv_istore (lv' := [(5, .int r), (0, .ref b), (1, .ref x), (2, .ref (q 0)), (3, .ref o), (4, .int 0)]) hx hb dL_law_251 hl (by decide) rfl (fun ls hl => ?_)
  refine lv_aload_n hx hb dL_law_253 rfl (lv_at hl 3 rfl) ?_
  refine lv_aload_n hx hb dL_law_254 rfl (lv_at hl 1 rfl) ?_
  refine lv_iload hx hb dL_law_255 (lv_at hl 5 rfl) ?_
  refine lv_iconst (v := 1) hx hb dL_law_257 (by decide) ?_
  refine lv_iadd hx hb dL_law_258 ?_
  refine va_sld hx hb hX hbl hbA hS (show vp_in (0 + 1) 4 from by unfold vp_in; decide) dL_law_259 ?_
  refine lv_topi (fun y ey => ?_)
  have hy : y = xs 1 := ey.trans (congrArg xs (by decide))
  subst hy
  refine va_calli (va_runV (As := [.int (xs 1)]) (rest := []) ⟨hx, hb, hml, hown, hts⟩ (hM H1.size) (cwV 1 hts gL_law_X4_promote rfl rfl rfl (by decide +kernel) ⟨(Nat.le_of_ble_eq_true rfl), (Nat.le_of_ble_eq_true rfl)⟩) (MP.preV hK hPm hDm) rfl rfl hl.1 rfl (lv_room (Nat.le_of_ble_eq_true rfl)) dL_law_260 ⟨(Nat.le_of_ble_eq_true rfl), (Nat.le_of_ble_eq_true rfl)⟩) hS (fun z _ h => va_A.all hDm (fun z h => Nat.le_trans hS.1 h) z h) (va_A.all hDm (fun z h => Nat.le_trans hS.1 h)) (fun r2 u2 t2 H2 locs ht2 hvm2 hp2 hB2 hz2 hk2 hS => ?_)
  obtain ⟨fs, hPt⟩ := hB2
  rw [ht2] at hPt
  refine lv_istore (lv' := [(6, .int r2), (5, .int r), (0, .ref b), (1, .ref x), (2, .ref (q 0)), (3, .ref o), (4, .int 0)]) hx hb dL_law_263 hl (by decide) rfl (fun ls hl => ?_)
  refine lv_aload_n hx hb dL_law_265 rfl (lv_at hl 4 rfl) ?_
  have hPo : va_P G vwCl [(o, eO k fo1)] H2 := fun i z hz => by
    have h9 : i < 1 := (List.getElem?_eq_some_iff.mp hz).1
    rw [show i = 0 by omega] at hz
    cases hz
    have hlt : o < H1.size := (hPo 0 _ rfl).lt
    refine (hPo 0 _ rfl).kept (hk2 o hlt (fun h => ?_))
    rcases h with ⟨i3, e3, h3⟩ | h3
    · exact (two_apart hPm0 hD i3 _ h3).2 (Or.inl ⟨wx.length, _, wL_o⟩)
    · exact absurd hlt (Nat.not_lt.mpr h3)
  refine br_call (W.runV (As := []) (rest := []) ⟨hx, hb, hml, hown, hts⟩ (m_thrown l G k (q 0) r fs) (cwV 0 hts gL_law_X4_thrown rfl rfl rfl (by decide +kernel) ⟨(Nat.le_of_ble_eq_true rfl), (Nat.le_of_ble_eq_true rfl)⟩) (PQ.preV hK hPt (ci := 4) (q0 := 0) rfl rfl) rfl rfl hl.1 rfl (lv_room (Nat.le_of_ble_eq_true rfl)) dL_law_266 ⟨(Nat.le_of_ble_eq_true rfl), (Nat.le_of_ble_eq_true rfl)⟩) ?_
  refine lv_iload hx hb dL_law_269 (lv_at hl 1 rfl) ?_
  refine lv_icmp_eq (tgt := 276) hx hb dL_law_271 (by decide) (fun _ => ?_) (fun c9 => absurd rfl c9)
  refine lv_iload hx hb dL_law_276 (lv_at hl 1 rfl) ?_
  refine lv_if_ne (tgt := 293) hx hb dL_law_278 (by decide) (fun h9 => ?_) (fun h9 => ?_)
  · refine lv_goto (tgt := 1191) hx hb dL_law_293 (by decide) ?_
    exact lc_end l C1 H2 locs ls hS (lv_sub hl [2, 6] rfl)
  · refine lv_aload_n hx hb dL_law_281 rfl (lv_at hl 5 rfl) ?_
    refine lv_iconst (v := 0) hx hb dL_law_282 (by decide) ?_
    refine va_lald hx hb hK hPo 0 5 rfl rfl (vp_in_nI (n := 0) (by decide) (by decide)) dL_law_283 ?_
    refine lv_topl (fun y ey => ?_)
    have hy : y = V.toInt64 := ey.trans (hf0.trans (hV h9))
    subst hy
    have hr2 : r2 = V := hp2 h9
    subst hr2
    refine lv_iload hx hb dL_law_284 (lv_at hl 0 rfl) ?_
    refine lv_i2l (v := Int32.toInt64 r2) hx hb dL_law_286 rfl ?_
    refine W.lcmp hx hb dL_law_287 ?_
    refine lv_if_eq (tgt := 293) hx hb dL_law_288 (by decide) (fun _ => ?_) (fun c9 => absurd ((lg_cmp_eq _ _).mpr rfl) c9)
    refine lv_goto (tgt := 1191) hx hb dL_law_293 (by decide) ?_
    exact lc_end l C1 H2 locs ls hS (lv_sub hl [2, 6] rfl)
set_option maxHeartbeats 4000000 in
set_option maxRecDepth 100000 in
/-- the law's case of follow -/
theorem lc_follow {p : Program} {e : Env} {s : State} {m : MethodId} {below : List Frame} {meth : Method} {c : Code} (l : Launch) {b : Nat} {xs : Nat → Int32} (C0 : lw_At p s m meth c b 4 xs) {G : va_G} {k : Nat → ClassId} (hI : IV G k (fun q : Nat => s.heap.size ≤ q) s) {wx : va_W} {o x : Nat} {fo : Nat → Int64} {q : Nat → Nat} {g7 g8 : Nat → Int32} (K V : Int32) (hC : ∀ sz, vx_Met l yL_follow wsL_follow (rzk 3 1 6) (PL G k sz (wL k wx o fo) [.ref x, .int (xs 1), .int (xs 2)]) (QL G k o K V (va_A (wL k wx o fo) sz)) (fun _ _ _ => False) 1 6 (va_A (wL k wx o fo) sz)) (hM : ∀ sz, Met l yX4_follow wsX4_follow (rzk 2 0 0) (MP G k sz q g7 g8 [.ref (q 0), .int (xs 1), .int (xs 2)]) (MQv G q K (va_A (wM q k 0 (fun _ => 0) g7 g8) sz)) 0 0 (va_A (wM q k 0 (fun _ => 0) g7 g8) sz)) (H : Heap) (locs : List Loc) (ls : Array Slot) (hP : va_P G vwCl (wM q k 0 (fun _ => 0) g7 g8 ++ wL k wx o fo) H) (hD : va_D (fun q : Nat => s.heap.size ≤ q) (wM q k 0 (fun _ => 0) g7 g8 ++ wL k wx o fo)) (hS : va_S (fun q : Nat => s.heap.size ≤ q) s.heap H locs) (hl : lv_has ls 7 [(0, .ref b), (1, .ref x), (2, .ref (q 0)), (3, .ref o), (4, .int 0)]) : W p l e room_1 s m #[Value.ref b] below meth c H locs 87 83213 (lw_Z below #[Value.ref b] s) (F0 m 296 ls []) := by
  have C1 := C0
  obtain ⟨hx, hb, hr, hml, hown, hts0, hX, hbl, hlocks, hgv⟩ := C0
  have hts := fun w h => hts0 w (wsL_law_in w h)
  have hA : ∀ q : Nat, s.heap.size ≤ q → (fun q : Nat => s.heap.size ≤ q) q := fun _ h => h
  have hbA : ¬ (fun q : Nat => s.heap.size ≤ q) b := Nat.not_le.mpr hbl
  have hK := hI.1
  have hPm : va_P G vwCl (wM q k 0 (fun _ => 0) g7 g8) H := hP.mem (fun z hz => List.mem_append_left _ hz)
  have hPl : va_P G vwCl (wL k wx o fo) H := hP.mem (fun z hz => List.mem_append_right _ hz)
  have hDm := hD.left
  have hDl := hD.flip.left
  refine lv_aload_n hx hb dL_law_296 rfl (lv_at hl 1 rfl) ?_
  refine lv_aload_n hx hb dL_law_297 rfl (lv_at hl 0 rfl) ?_
  refine lv_iload hx hb dL_law_298 (lv_at hl 4 rfl) ?_
  refine lv_iconst (v := 1) hx hb dL_law_300 (by decide) ?_
  refine lv_iadd hx hb dL_law_301 ?_
  refine va_sld hx hb hX hbl hbA hS (show vp_in (0 + 1) 4 from by unfold vp_in; decide) dL_law_302 ?_
  refine lv_topi (fun y ey => ?_)
  have hy : y = xs 1 := ey.trans (congrArg xs (by decide))
  subst hy
  refine lv_aload_n hx hb dL_law_303 rfl (lv_at hl 0 rfl) ?_
  refine lv_iload hx hb dL_law_304 (lv_at hl 4 rfl) ?_
  refine lv_iconst (v := 2) hx hb dL_law_306 (by decide) ?_
  refine lv_iadd hx hb dL_law_307 ?_
  refine va_sld hx hb hX hbl hbA hS (show vp_in (0 + 2) 4 from by unfold vp_in; decide) dL_law_308 ?_
  refine lv_topi (fun y ey => ?_)
  have hy : y = xs 2 := ey.trans (congrArg xs (by decide))
  subst hy
  refine wl_call (vx_runSX (As := [.ref x, .int (xs 1), .int (xs 2)]) (rest := []) ⟨hx, hb, hml, hown, hts⟩ (hC H.size) (vx_cwSW 3 hts gL_law_L_follow rfl rfl rfl (by decide +kernel) ⟨(Nat.le_of_ble_eq_true rfl), (Nat.le_of_ble_eq_true rfl)⟩) (PL.preS hI hS hA hPl hDl) rfl rfl hl.1 rfl (lv_room (Nat.le_of_ble_eq_true rfl)) dL_law_309 ⟨(Nat.le_of_ble_eq_true rfl), (Nat.le_of_ble_eq_true rfl)⟩) hS (fun z _ h => va_A.all hDl (fun z h => Nat.le_trans hS.1 h) z h) (va_A.all hDl (fun z h => Nat.le_trans hS.1 h)) (fun r u t H1 locs ht hp hB hk1 hS => ?_)
  obtain ⟨rfl, hV⟩ := hp
  obtain ⟨fo1, hPo, hf0⟩ := hB
  rw [ht] at hPo
  have hPm0 := two_keep hPm hD hk1
  have hPm := hPm0
  refine lv_istore (lv' := [(5, .int r), (0, .ref b), (1, .ref x), (2, .ref (q 0)), (3, .ref o), (4, .int 0)]) hx hb dL_law_312 hl (by decide) rfl (fun ls hl => ?_)
  refine lv_aload_n hx hb dL_law_314 rfl (lv_at hl 3 rfl) ?_
  refine lv_aload_n hx hb dL_law_315 rfl (lv_at hl 1 rfl) ?_
  refine lv_iload hx hb dL_law_316 (lv_at hl 5 rfl) ?_
  refine lv_iconst (v := 1) hx hb dL_law_318 (by decide) ?_
  refine lv_iadd hx hb dL_law_319 ?_
  refine va_sld hx hb hX hbl hbA hS (show vp_in (0 + 1) 4 from by unfold vp_in; decide) dL_law_320 ?_
  refine lv_topi (fun y ey => ?_)
  have hy : y = xs 1 := ey.trans (congrArg xs (by decide))
  subst hy
  refine lv_aload_n hx hb dL_law_321 rfl (lv_at hl 1 rfl) ?_
  refine lv_iload hx hb dL_law_322 (lv_at hl 5 rfl) ?_
  refine lv_iconst (v := 2) hx hb dL_law_324 (by decide) ?_
  refine lv_iadd hx hb dL_law_325 ?_
  refine va_sld hx hb hX hbl hbA hS (show vp_in (0 + 2) 4 from by unfold vp_in; decide) dL_law_326 ?_
  refine lv_topi (fun y ey => ?_)
  have hy : y = xs 2 := ey.trans (congrArg xs (by decide))
  subst hy
  refine va_callv (va_runV (As := [.int (xs 1), .int (xs 2)]) (rest := []) ⟨hx, hb, hml, hown, hts⟩ (hM H1.size) (cwV 2 hts gL_law_X4_follow rfl rfl rfl (by decide +kernel) ⟨(Nat.le_of_ble_eq_true rfl), (Nat.le_of_ble_eq_true rfl)⟩) (MP.preV hK hPm hDm) rfl rfl hl.1 rfl (lv_room (Nat.le_of_ble_eq_true rfl)) dL_law_327 ⟨(Nat.le_of_ble_eq_true rfl), (Nat.le_of_ble_eq_true rfl)⟩) hS (fun z _ h => va_A.all hDm (fun z h => Nat.le_trans hS.1 h) z h) (va_A.all hDm (fun z h => Nat.le_trans hS.1 h)) (fun u2 t2 H2 locs ht2 hvm2 hp2 hB2 hz2 hk2 hS => ?_)
  obtain ⟨fs, hPt⟩ := hB2
  rw [ht2] at hPt
  refine lv_aload_n hx hb dL_law_330 rfl (lv_at hl 3 rfl) ?_
  refine br_call (W.runV (As := []) (rest := []) ⟨hx, hb, hml, hown, hts⟩ (m_thrown l G k (q 0) r fs) (cwV 0 hts gL_law_X4_thrown rfl rfl rfl (by decide +kernel) ⟨(Nat.le_of_ble_eq_true rfl), (Nat.le_of_ble_eq_true rfl)⟩) (PQ.preV hK hPt (ci := 4) (q0 := 0) rfl rfl) rfl rfl hl.1 rfl (lv_room (Nat.le_of_ble_eq_true rfl)) dL_law_331 ⟨(Nat.le_of_ble_eq_true rfl), (Nat.le_of_ble_eq_true rfl)⟩) ?_
  refine lv_iload hx hb dL_law_334 (lv_at hl 0 rfl) ?_
  refine lv_icmp_eq (tgt := 341) hx hb dL_law_336 (by decide) (fun _ => ?_) (fun c9 => absurd rfl c9)
  refine lv_goto (tgt := 1191) hx hb dL_law_341 (by decide) ?_
  exact lc_end l C1 H2 locs ls hS (lv_sub hl [1, 5] rfl)
set_option maxHeartbeats 4000000 in
set_option maxRecDepth 100000 in
/-- the law's case of rewind -/
theorem lc_rewind {p : Program} {e : Env} {s : State} {m : MethodId} {below : List Frame} {meth : Method} {c : Code} (l : Launch) {b : Nat} {xs : Nat → Int32} (C0 : lw_At p s m meth c b 4 xs) {G : va_G} {k : Nat → ClassId} (hI : IV G k (fun q : Nat => s.heap.size ≤ q) s) {wx : va_W} {o x : Nat} {fo : Nat → Int64} {q : Nat → Nat} {g7 g8 : Nat → Int32} (K V : Int32) (hC : ∀ sz, vx_Met l yL_rewind wsL_rewind (rzk 3 1 6) (PL G k sz (wL k wx o fo) [.ref x, .int (xs 1), .int (xs 2), .ref o]) (QL G k o K V (va_A (wL k wx o fo) sz)) (fun _ _ _ => False) 1 6 (va_A (wL k wx o fo) sz)) (hM : ∀ sz, Met l yX4_rewind wsX4_rewind (rzk 2 0 0) (MP G k sz q g7 g8 [.ref (q 0), .int (xs 1), .int (xs 2)]) (MQl G q K V (va_A (wM q k 0 (fun _ => 0) g7 g8) sz)) 0 0 (va_A (wM q k 0 (fun _ => 0) g7 g8) sz)) (H : Heap) (locs : List Loc) (ls : Array Slot) (hP : va_P G vwCl (wM q k 0 (fun _ => 0) g7 g8 ++ wL k wx o fo) H) (hD : va_D (fun q : Nat => s.heap.size ≤ q) (wM q k 0 (fun _ => 0) g7 g8 ++ wL k wx o fo)) (hS : va_S (fun q : Nat => s.heap.size ≤ q) s.heap H locs) (hl : lv_has ls 7 [(0, .ref b), (1, .ref x), (2, .ref (q 0)), (3, .ref o), (4, .int 0)]) : W p l e room_1 s m #[Value.ref b] below meth c H locs 87 83213 (lw_Z below #[Value.ref b] s) (F0 m 344 ls []) := by
  have C1 := C0
  obtain ⟨hx, hb, hr, hml, hown, hts0, hX, hbl, hlocks, hgv⟩ := C0
  have hts := fun w h => hts0 w (wsL_law_in w h)
  have hA : ∀ q : Nat, s.heap.size ≤ q → (fun q : Nat => s.heap.size ≤ q) q := fun _ h => h
  have hbA : ¬ (fun q : Nat => s.heap.size ≤ q) b := Nat.not_le.mpr hbl
  have hK := hI.1
  have hPm : va_P G vwCl (wM q k 0 (fun _ => 0) g7 g8) H := hP.mem (fun z hz => List.mem_append_left _ hz)
  have hPl : va_P G vwCl (wL k wx o fo) H := hP.mem (fun z hz => List.mem_append_right _ hz)
  have hDm := hD.left
  have hDl := hD.flip.left
  refine lv_aload_n hx hb dL_law_344 rfl (lv_at hl 1 rfl) ?_
  refine lv_aload_n hx hb dL_law_345 rfl (lv_at hl 0 rfl) ?_
  refine lv_iload hx hb dL_law_346 (lv_at hl 4 rfl) ?_
  refine lv_iconst (v := 1) hx hb dL_law_348 (by decide) ?_
  refine lv_iadd hx hb dL_law_349 ?_
  refine va_sld hx hb hX hbl hbA hS (show vp_in (0 + 1) 4 from by unfold vp_in; decide) dL_law_350 ?_
  refine lv_topi (fun y ey => ?_)
  have hy : y = xs 1 := ey.trans (congrArg xs (by decide))
  subst hy
  refine lv_aload_n hx hb dL_law_351 rfl (lv_at hl 0 rfl) ?_
  refine lv_iload hx hb dL_law_352 (lv_at hl 4 rfl) ?_
  refine lv_iconst (v := 2) hx hb dL_law_354 (by decide) ?_
  refine lv_iadd hx hb dL_law_355 ?_
  refine va_sld hx hb hX hbl hbA hS (show vp_in (0 + 2) 4 from by unfold vp_in; decide) dL_law_356 ?_
  refine lv_topi (fun y ey => ?_)
  have hy : y = xs 2 := ey.trans (congrArg xs (by decide))
  subst hy
  refine lv_aload_n hx hb dL_law_357 rfl (lv_at hl 3 rfl) ?_
  refine wl_call (vx_runSX (As := [.ref x, .int (xs 1), .int (xs 2), .ref o]) (rest := []) ⟨hx, hb, hml, hown, hts⟩ (hC H.size) (vx_cwSW 4 hts gL_law_L_rewind rfl rfl rfl (by decide +kernel) ⟨(Nat.le_of_ble_eq_true rfl), (Nat.le_of_ble_eq_true rfl)⟩) (PL.preS hI hS hA hPl hDl) rfl rfl hl.1 rfl (lv_room (Nat.le_of_ble_eq_true rfl)) dL_law_358 ⟨(Nat.le_of_ble_eq_true rfl), (Nat.le_of_ble_eq_true rfl)⟩) hS (fun z _ h => va_A.all hDl (fun z h => Nat.le_trans hS.1 h) z h) (va_A.all hDl (fun z h => Nat.le_trans hS.1 h)) (fun r u t H1 locs ht hp hB hk1 hS => ?_)
  obtain ⟨rfl, hV⟩ := hp
  obtain ⟨fo1, hPo, hf0⟩ := hB
  rw [ht] at hPo
  have hPm0 := two_keep hPm hD hk1
  have hPm := hPm0
  refine lv_istore (lv' := [(5, .int r), (0, .ref b), (1, .ref x), (2, .ref (q 0)), (3, .ref o), (4, .int 0)]) hx hb dL_law_361 hl (by decide) rfl (fun ls hl => ?_)
  refine lv_aload_n hx hb dL_law_363 rfl (lv_at hl 3 rfl) ?_
  refine lv_aload_n hx hb dL_law_364 rfl (lv_at hl 1 rfl) ?_
  refine lv_iload hx hb dL_law_365 (lv_at hl 5 rfl) ?_
  refine lv_iconst (v := 1) hx hb dL_law_367 (by decide) ?_
  refine lv_iadd hx hb dL_law_368 ?_
  refine va_sld hx hb hX hbl hbA hS (show vp_in (0 + 1) 4 from by unfold vp_in; decide) dL_law_369 ?_
  refine lv_topi (fun y ey => ?_)
  have hy : y = xs 1 := ey.trans (congrArg xs (by decide))
  subst hy
  refine lv_aload_n hx hb dL_law_370 rfl (lv_at hl 1 rfl) ?_
  refine lv_iload hx hb dL_law_371 (lv_at hl 5 rfl) ?_
  refine lv_iconst (v := 2) hx hb dL_law_373 (by decide) ?_
  refine lv_iadd hx hb dL_law_374 ?_
  refine va_sld hx hb hX hbl hbA hS (show vp_in (0 + 2) 4 from by unfold vp_in; decide) dL_law_375 ?_
  refine lv_topi (fun y ey => ?_)
  have hy : y = xs 2 := ey.trans (congrArg xs (by decide))
  subst hy
  refine va_calli (va_runV (As := [.int (xs 1), .int (xs 2)]) (rest := []) ⟨hx, hb, hml, hown, hts⟩ (hM H1.size) (cwV 2 hts gL_law_X4_rewind rfl rfl rfl (by decide +kernel) ⟨(Nat.le_of_ble_eq_true rfl), (Nat.le_of_ble_eq_true rfl)⟩) (MP.preV hK hPm hDm) rfl rfl hl.1 rfl (lv_room (Nat.le_of_ble_eq_true rfl)) dL_law_376 ⟨(Nat.le_of_ble_eq_true rfl), (Nat.le_of_ble_eq_true rfl)⟩) hS (fun z _ h => va_A.all hDm (fun z h => Nat.le_trans hS.1 h) z h) (va_A.all hDm (fun z h => Nat.le_trans hS.1 h)) (fun r2 u2 t2 H2 locs ht2 hvm2 hp2 hB2 hz2 hk2 hS => ?_)
  obtain ⟨fs, hPt⟩ := hB2
  rw [ht2] at hPt
  refine lv_istore (lv' := [(6, .int r2), (5, .int r), (0, .ref b), (1, .ref x), (2, .ref (q 0)), (3, .ref o), (4, .int 0)]) hx hb dL_law_379 hl (by decide) rfl (fun ls hl => ?_)
  refine lv_aload_n hx hb dL_law_381 rfl (lv_at hl 4 rfl) ?_
  have hPo : va_P G vwCl [(o, eO k fo1)] H2 := fun i z hz => by
    have h9 : i < 1 := (List.getElem?_eq_some_iff.mp hz).1
    rw [show i = 0 by omega] at hz
    cases hz
    have hlt : o < H1.size := (hPo 0 _ rfl).lt
    refine (hPo 0 _ rfl).kept (hk2 o hlt (fun h => ?_))
    rcases h with ⟨i3, e3, h3⟩ | h3
    · exact (two_apart hPm0 hD i3 _ h3).2 (Or.inl ⟨wx.length, _, wL_o⟩)
    · exact absurd hlt (Nat.not_lt.mpr h3)
  refine br_call (W.runV (As := []) (rest := []) ⟨hx, hb, hml, hown, hts⟩ (m_thrown l G k (q 0) r fs) (cwV 0 hts gL_law_X4_thrown rfl rfl rfl (by decide +kernel) ⟨(Nat.le_of_ble_eq_true rfl), (Nat.le_of_ble_eq_true rfl)⟩) (PQ.preV hK hPt (ci := 4) (q0 := 0) rfl rfl) rfl rfl hl.1 rfl (lv_room (Nat.le_of_ble_eq_true rfl)) dL_law_382 ⟨(Nat.le_of_ble_eq_true rfl), (Nat.le_of_ble_eq_true rfl)⟩) ?_
  refine lv_iload hx hb dL_law_385 (lv_at hl 1 rfl) ?_
  refine lv_icmp_eq (tgt := 392) hx hb dL_law_387 (by decide) (fun _ => ?_) (fun c9 => absurd rfl c9)
  refine lv_iload hx hb dL_law_392 (lv_at hl 1 rfl) ?_
  refine lv_if_ne (tgt := 409) hx hb dL_law_394 (by decide) (fun h9 => ?_) (fun h9 => ?_)
  · refine lv_goto (tgt := 1191) hx hb dL_law_409 (by decide) ?_
    exact lc_end l C1 H2 locs ls hS (lv_sub hl [2, 6] rfl)
  · refine lv_aload_n hx hb dL_law_397 rfl (lv_at hl 5 rfl) ?_
    refine lv_iconst (v := 0) hx hb dL_law_398 (by decide) ?_
    refine va_lald hx hb hK hPo 0 5 rfl rfl (vp_in_nI (n := 0) (by decide) (by decide)) dL_law_399 ?_
    refine lv_topl (fun y ey => ?_)
    have hy : y = V.toInt64 := ey.trans (hf0.trans (hV h9))
    subst hy
    have hr2 : r2 = V := hp2 h9
    subst hr2
    refine lv_iload hx hb dL_law_400 (lv_at hl 0 rfl) ?_
    refine lv_i2l (v := Int32.toInt64 r2) hx hb dL_law_402 rfl ?_
    refine W.lcmp hx hb dL_law_403 ?_
    refine lv_if_eq (tgt := 409) hx hb dL_law_404 (by decide) (fun _ => ?_) (fun c9 => absurd ((lg_cmp_eq _ _).mpr rfl) c9)
    refine lv_goto (tgt := 1191) hx hb dL_law_409 (by decide) ?_
    exact lc_end l C1 H2 locs ls hS (lv_sub hl [2, 6] rfl)
set_option maxHeartbeats 4000000 in
set_option maxRecDepth 100000 in
/-- the law's case of put -/
theorem lc_put {p : Program} {e : Env} {s : State} {m : MethodId} {below : List Frame} {meth : Method} {c : Code} (l : Launch) {b : Nat} {xs : Nat → Int32} (C0 : lw_At p s m meth c b 4 xs) {G : va_G} {k : Nat → ClassId} (hI : IV G k (fun q : Nat => s.heap.size ≤ q) s) {wx : va_W} {o x : Nat} {fo : Nat → Int64} {q : Nat → Nat} {g7 g8 : Nat → Int32} (K V : Int32) (hC : ∀ sz, vx_Met l yL_put wsL_put (rzk 3 1 6) (PL G k sz (wL k wx o fo) [.ref x, .int (xs 1), .int (xs 2), .int (xs 3), .ref o]) (QL G k o K V (va_A (wL k wx o fo) sz)) (fun _ _ _ => False) 1 6 (va_A (wL k wx o fo) sz)) (hM : ∀ sz, Met l yX4_put wsX4_put (rzk 2 0 0) (MP G k sz q g7 g8 [.ref (q 0), .int (xs 1), .int (xs 2), .int (xs 3)]) (MQl G q K V (va_A (wM q k 0 (fun _ => 0) g7 g8) sz)) 0 0 (va_A (wM q k 0 (fun _ => 0) g7 g8) sz)) (H : Heap) (locs : List Loc) (ls : Array Slot) (hP : va_P G vwCl (wM q k 0 (fun _ => 0) g7 g8 ++ wL k wx o fo) H) (hD : va_D (fun q : Nat => s.heap.size ≤ q) (wM q k 0 (fun _ => 0) g7 g8 ++ wL k wx o fo)) (hS : va_S (fun q : Nat => s.heap.size ≤ q) s.heap H locs) (hl : lv_has ls 7 [(0, .ref b), (1, .ref x), (2, .ref (q 0)), (3, .ref o), (4, .int 0)]) : W p l e room_1 s m #[Value.ref b] below meth c H locs 87 83213 (lw_Z below #[Value.ref b] s) (F0 m 412 ls []) := by
  have C1 := C0
  obtain ⟨hx, hb, hr, hml, hown, hts0, hX, hbl, hlocks, hgv⟩ := C0
  have hts := fun w h => hts0 w (wsL_law_in w h)
  have hA : ∀ q : Nat, s.heap.size ≤ q → (fun q : Nat => s.heap.size ≤ q) q := fun _ h => h
  have hbA : ¬ (fun q : Nat => s.heap.size ≤ q) b := Nat.not_le.mpr hbl
  have hK := hI.1
  have hPm : va_P G vwCl (wM q k 0 (fun _ => 0) g7 g8) H := hP.mem (fun z hz => List.mem_append_left _ hz)
  have hPl : va_P G vwCl (wL k wx o fo) H := hP.mem (fun z hz => List.mem_append_right _ hz)
  have hDm := hD.left
  have hDl := hD.flip.left
  refine lv_aload_n hx hb dL_law_412 rfl (lv_at hl 1 rfl) ?_
  refine lv_aload_n hx hb dL_law_413 rfl (lv_at hl 0 rfl) ?_
  refine lv_iload hx hb dL_law_414 (lv_at hl 4 rfl) ?_
  refine lv_iconst (v := 1) hx hb dL_law_416 (by decide) ?_
  refine lv_iadd hx hb dL_law_417 ?_
  refine va_sld hx hb hX hbl hbA hS (show vp_in (0 + 1) 4 from by unfold vp_in; decide) dL_law_418 ?_
  refine lv_topi (fun y ey => ?_)
  have hy : y = xs 1 := ey.trans (congrArg xs (by decide))
  subst hy
  refine lv_aload_n hx hb dL_law_419 rfl (lv_at hl 0 rfl) ?_
  refine lv_iload hx hb dL_law_420 (lv_at hl 4 rfl) ?_
  refine lv_iconst (v := 2) hx hb dL_law_422 (by decide) ?_
  refine lv_iadd hx hb dL_law_423 ?_
  refine va_sld hx hb hX hbl hbA hS (show vp_in (0 + 2) 4 from by unfold vp_in; decide) dL_law_424 ?_
  refine lv_topi (fun y ey => ?_)
  have hy : y = xs 2 := ey.trans (congrArg xs (by decide))
  subst hy
  refine lv_aload_n hx hb dL_law_425 rfl (lv_at hl 0 rfl) ?_
  refine lv_iload hx hb dL_law_426 (lv_at hl 4 rfl) ?_
  refine lv_iconst (v := 3) hx hb dL_law_428 (by decide) ?_
  refine lv_iadd hx hb dL_law_429 ?_
  refine va_sld hx hb hX hbl hbA hS (show vp_in (0 + 3) 4 from by unfold vp_in; decide) dL_law_430 ?_
  refine lv_topi (fun y ey => ?_)
  have hy : y = xs 3 := ey.trans (congrArg xs (by decide))
  subst hy
  refine lv_aload_n hx hb dL_law_431 rfl (lv_at hl 3 rfl) ?_
  refine wl_call (vx_runSX (As := [.ref x, .int (xs 1), .int (xs 2), .int (xs 3), .ref o]) (rest := []) ⟨hx, hb, hml, hown, hts⟩ (hC H.size) (vx_cwSW 5 hts gL_law_L_put rfl rfl rfl (by decide +kernel) ⟨(Nat.le_of_ble_eq_true rfl), (Nat.le_of_ble_eq_true rfl)⟩) (PL.preS hI hS hA hPl hDl) rfl rfl hl.1 rfl (lv_room (Nat.le_of_ble_eq_true rfl)) dL_law_432 ⟨(Nat.le_of_ble_eq_true rfl), (Nat.le_of_ble_eq_true rfl)⟩) hS (fun z _ h => va_A.all hDl (fun z h => Nat.le_trans hS.1 h) z h) (va_A.all hDl (fun z h => Nat.le_trans hS.1 h)) (fun r u t H1 locs ht hp hB hk1 hS => ?_)
  obtain ⟨rfl, hV⟩ := hp
  obtain ⟨fo1, hPo, hf0⟩ := hB
  rw [ht] at hPo
  have hPm0 := two_keep hPm hD hk1
  have hPm := hPm0
  refine lv_istore (lv' := [(5, .int r), (0, .ref b), (1, .ref x), (2, .ref (q 0)), (3, .ref o), (4, .int 0)]) hx hb dL_law_435 hl (by decide) rfl (fun ls hl => ?_)
  refine lv_aload_n hx hb dL_law_437 rfl (lv_at hl 3 rfl) ?_
  refine lv_aload_n hx hb dL_law_438 rfl (lv_at hl 1 rfl) ?_
  refine lv_iload hx hb dL_law_439 (lv_at hl 5 rfl) ?_
  refine lv_iconst (v := 1) hx hb dL_law_441 (by decide) ?_
  refine lv_iadd hx hb dL_law_442 ?_
  refine va_sld hx hb hX hbl hbA hS (show vp_in (0 + 1) 4 from by unfold vp_in; decide) dL_law_443 ?_
  refine lv_topi (fun y ey => ?_)
  have hy : y = xs 1 := ey.trans (congrArg xs (by decide))
  subst hy
  refine lv_aload_n hx hb dL_law_444 rfl (lv_at hl 1 rfl) ?_
  refine lv_iload hx hb dL_law_445 (lv_at hl 5 rfl) ?_
  refine lv_iconst (v := 2) hx hb dL_law_447 (by decide) ?_
  refine lv_iadd hx hb dL_law_448 ?_
  refine va_sld hx hb hX hbl hbA hS (show vp_in (0 + 2) 4 from by unfold vp_in; decide) dL_law_449 ?_
  refine lv_topi (fun y ey => ?_)
  have hy : y = xs 2 := ey.trans (congrArg xs (by decide))
  subst hy
  refine lv_aload_n hx hb dL_law_450 rfl (lv_at hl 1 rfl) ?_
  refine lv_iload hx hb dL_law_451 (lv_at hl 5 rfl) ?_
  refine lv_iconst (v := 3) hx hb dL_law_453 (by decide) ?_
  refine lv_iadd hx hb dL_law_454 ?_
  refine va_sld hx hb hX hbl hbA hS (show vp_in (0 + 3) 4 from by unfold vp_in; decide) dL_law_455 ?_
  refine lv_topi (fun y ey => ?_)
  have hy : y = xs 3 := ey.trans (congrArg xs (by decide))
  subst hy
  refine va_calli (va_runV (As := [.int (xs 1), .int (xs 2), .int (xs 3)]) (rest := []) ⟨hx, hb, hml, hown, hts⟩ (hM H1.size) (cwV 3 hts gL_law_X4_put rfl rfl rfl (by decide +kernel) ⟨(Nat.le_of_ble_eq_true rfl), (Nat.le_of_ble_eq_true rfl)⟩) (MP.preV hK hPm hDm) rfl rfl hl.1 rfl (lv_room (Nat.le_of_ble_eq_true rfl)) dL_law_456 ⟨(Nat.le_of_ble_eq_true rfl), (Nat.le_of_ble_eq_true rfl)⟩) hS (fun z _ h => va_A.all hDm (fun z h => Nat.le_trans hS.1 h) z h) (va_A.all hDm (fun z h => Nat.le_trans hS.1 h)) (fun r2 u2 t2 H2 locs ht2 hvm2 hp2 hB2 hz2 hk2 hS => ?_)
  obtain ⟨fs, hPt⟩ := hB2
  rw [ht2] at hPt
  refine lv_istore (lv' := [(6, .int r2), (5, .int r), (0, .ref b), (1, .ref x), (2, .ref (q 0)), (3, .ref o), (4, .int 0)]) hx hb dL_law_459 hl (by decide) rfl (fun ls hl => ?_)
  refine lv_aload_n hx hb dL_law_461 rfl (lv_at hl 4 rfl) ?_
  have hPo : va_P G vwCl [(o, eO k fo1)] H2 := fun i z hz => by
    have h9 : i < 1 := (List.getElem?_eq_some_iff.mp hz).1
    rw [show i = 0 by omega] at hz
    cases hz
    have hlt : o < H1.size := (hPo 0 _ rfl).lt
    refine (hPo 0 _ rfl).kept (hk2 o hlt (fun h => ?_))
    rcases h with ⟨i3, e3, h3⟩ | h3
    · exact (two_apart hPm0 hD i3 _ h3).2 (Or.inl ⟨wx.length, _, wL_o⟩)
    · exact absurd hlt (Nat.not_lt.mpr h3)
  refine br_call (W.runV (As := []) (rest := []) ⟨hx, hb, hml, hown, hts⟩ (m_thrown l G k (q 0) r fs) (cwV 0 hts gL_law_X4_thrown rfl rfl rfl (by decide +kernel) ⟨(Nat.le_of_ble_eq_true rfl), (Nat.le_of_ble_eq_true rfl)⟩) (PQ.preV hK hPt (ci := 4) (q0 := 0) rfl rfl) rfl rfl hl.1 rfl (lv_room (Nat.le_of_ble_eq_true rfl)) dL_law_462 ⟨(Nat.le_of_ble_eq_true rfl), (Nat.le_of_ble_eq_true rfl)⟩) ?_
  refine lv_iload hx hb dL_law_465 (lv_at hl 1 rfl) ?_
  refine lv_icmp_eq (tgt := 472) hx hb dL_law_467 (by decide) (fun _ => ?_) (fun c9 => absurd rfl c9)
  refine lv_iload hx hb dL_law_472 (lv_at hl 1 rfl) ?_
  refine lv_if_ne (tgt := 489) hx hb dL_law_474 (by decide) (fun h9 => ?_) (fun h9 => ?_)
  · refine lv_goto (tgt := 1191) hx hb dL_law_489 (by decide) ?_
    exact lc_end l C1 H2 locs ls hS (lv_sub hl [2, 6] rfl)
  · refine lv_aload_n hx hb dL_law_477 rfl (lv_at hl 5 rfl) ?_
    refine lv_iconst (v := 0) hx hb dL_law_478 (by decide) ?_
    refine va_lald hx hb hK hPo 0 5 rfl rfl (vp_in_nI (n := 0) (by decide) (by decide)) dL_law_479 ?_
    refine lv_topl (fun y ey => ?_)
    have hy : y = V.toInt64 := ey.trans (hf0.trans (hV h9))
    subst hy
    have hr2 : r2 = V := hp2 h9
    subst hr2
    refine lv_iload hx hb dL_law_480 (lv_at hl 0 rfl) ?_
    refine lv_i2l (v := Int32.toInt64 r2) hx hb dL_law_482 rfl ?_
    refine W.lcmp hx hb dL_law_483 ?_
    refine lv_if_eq (tgt := 489) hx hb dL_law_484 (by decide) (fun _ => ?_) (fun c9 => absurd ((lg_cmp_eq _ _).mpr rfl) c9)
    refine lv_goto (tgt := 1191) hx hb dL_law_489 (by decide) ?_
    exact lc_end l C1 H2 locs ls hS (lv_sub hl [2, 6] rfl)
set_option maxHeartbeats 4000000 in
set_option maxRecDepth 100000 in
/-- the law's case of commit -/
theorem lc_commit {p : Program} {e : Env} {s : State} {m : MethodId} {below : List Frame} {meth : Method} {c : Code} (l : Launch) {b : Nat} {xs : Nat → Int32} (C0 : lw_At p s m meth c b 4 xs) {G : va_G} {k : Nat → ClassId} (hI : IV G k (fun q : Nat => s.heap.size ≤ q) s) {wx : va_W} {o x : Nat} {fo : Nat → Int64} {q : Nat → Nat} {g7 g8 : Nat → Int32} (K V : Int32) (hK0 : ¬ K = 0) (hC : ∀ sz, vx_Met l yL_commit wsL_commit (rzk 3 1 6) (PL G k sz (wL k wx o fo) [.ref x, .int (xs 1), .ref o]) (QL G k o K V (va_A (wL k wx o fo) sz)) (fun _ _ _ => False) 1 6 (va_A (wL k wx o fo) sz)) (hM : ∀ sz, Met l yX4_commit wsX4_commit (rzk 2 0 0) (MP G k sz q g7 g8 [.ref (q 0), .int (xs 1)]) (MQl G q K V (va_A (wM q k 0 (fun _ => 0) g7 g8) sz)) 0 0 (va_A (wM q k 0 (fun _ => 0) g7 g8) sz)) (H : Heap) (locs : List Loc) (ls : Array Slot) (hP : va_P G vwCl (wM q k 0 (fun _ => 0) g7 g8 ++ wL k wx o fo) H) (hD : va_D (fun q : Nat => s.heap.size ≤ q) (wM q k 0 (fun _ => 0) g7 g8 ++ wL k wx o fo)) (hS : va_S (fun q : Nat => s.heap.size ≤ q) s.heap H locs) (hl : lv_has ls 7 [(0, .ref b), (1, .ref x), (2, .ref (q 0)), (3, .ref o), (4, .int 0)]) : W p l e room_1 s m #[Value.ref b] below meth c H locs 87 83213 (lw_Z below #[Value.ref b] s) (F0 m 492 ls []) := by
  have C1 := C0
  obtain ⟨hx, hb, hr, hml, hown, hts0, hX, hbl, hlocks, hgv⟩ := C0
  have hts := fun w h => hts0 w (wsL_law_in w h)
  have hA : ∀ q : Nat, s.heap.size ≤ q → (fun q : Nat => s.heap.size ≤ q) q := fun _ h => h
  have hbA : ¬ (fun q : Nat => s.heap.size ≤ q) b := Nat.not_le.mpr hbl
  have hK := hI.1
  have hPm : va_P G vwCl (wM q k 0 (fun _ => 0) g7 g8) H := hP.mem (fun z hz => List.mem_append_left _ hz)
  have hPl : va_P G vwCl (wL k wx o fo) H := hP.mem (fun z hz => List.mem_append_right _ hz)
  have hDm := hD.left
  have hDl := hD.flip.left
  refine lv_aload_n hx hb dL_law_492 rfl (lv_at hl 1 rfl) ?_
  refine lv_aload_n hx hb dL_law_493 rfl (lv_at hl 0 rfl) ?_
  refine lv_iload hx hb dL_law_494 (lv_at hl 4 rfl) ?_
  refine lv_iconst (v := 1) hx hb dL_law_496 (by decide) ?_
  refine lv_iadd hx hb dL_law_497 ?_
  refine va_sld hx hb hX hbl hbA hS (show vp_in (0 + 1) 4 from by unfold vp_in; decide) dL_law_498 ?_
  refine lv_topi (fun y ey => ?_)
  have hy : y = xs 1 := ey.trans (congrArg xs (by decide))
  subst hy
  refine lv_aload_n hx hb dL_law_499 rfl (lv_at hl 3 rfl) ?_
  refine wl_call (vx_runSX (As := [.ref x, .int (xs 1), .ref o]) (rest := []) ⟨hx, hb, hml, hown, hts⟩ (hC H.size) (vx_cwSW 3 hts gL_law_L_commit rfl rfl rfl (by decide +kernel) ⟨(Nat.le_of_ble_eq_true rfl), (Nat.le_of_ble_eq_true rfl)⟩) (PL.preS hI hS hA hPl hDl) rfl rfl hl.1 rfl (lv_room (Nat.le_of_ble_eq_true rfl)) dL_law_500 ⟨(Nat.le_of_ble_eq_true rfl), (Nat.le_of_ble_eq_true rfl)⟩) hS (fun z _ h => va_A.all hDl (fun z h => Nat.le_trans hS.1 h) z h) (va_A.all hDl (fun z h => Nat.le_trans hS.1 h)) (fun r u t H1 locs ht hp hB hk1 hS => ?_)
  obtain ⟨rfl, hV⟩ := hp
  obtain ⟨fo1, hPo, hf0⟩ := hB
  rw [ht] at hPo
  have hPm0 := two_keep hPm hD hk1
  have hPm := hPm0
  refine lv_istore (lv' := [(5, .int r), (0, .ref b), (1, .ref x), (2, .ref (q 0)), (3, .ref o), (4, .int 0)]) hx hb dL_law_503 hl (by decide) rfl (fun ls hl => ?_)
  refine lv_aload_n hx hb dL_law_505 rfl (lv_at hl 3 rfl) ?_
  refine lv_aload_n hx hb dL_law_506 rfl (lv_at hl 1 rfl) ?_
  refine lv_iload hx hb dL_law_507 (lv_at hl 5 rfl) ?_
  refine lv_iconst (v := 1) hx hb dL_law_509 (by decide) ?_
  refine lv_iadd hx hb dL_law_510 ?_
  refine va_sld hx hb hX hbl hbA hS (show vp_in (0 + 1) 4 from by unfold vp_in; decide) dL_law_511 ?_
  refine lv_topi (fun y ey => ?_)
  have hy : y = xs 1 := ey.trans (congrArg xs (by decide))
  subst hy
  refine va_calli (va_runV (As := [.int (xs 1)]) (rest := []) ⟨hx, hb, hml, hown, hts⟩ (hM H1.size) (cwV 1 hts gL_law_X4_commit rfl rfl rfl (by decide +kernel) ⟨(Nat.le_of_ble_eq_true rfl), (Nat.le_of_ble_eq_true rfl)⟩) (MP.preV hK hPm hDm) rfl rfl hl.1 rfl (lv_room (Nat.le_of_ble_eq_true rfl)) dL_law_512 ⟨(Nat.le_of_ble_eq_true rfl), (Nat.le_of_ble_eq_true rfl)⟩) hS (fun z _ h => va_A.all hDm (fun z h => Nat.le_trans hS.1 h) z h) (va_A.all hDm (fun z h => Nat.le_trans hS.1 h)) (fun r2 u2 t2 H2 locs ht2 hvm2 hp2 hB2 hz2 hk2 hS => ?_)
  obtain ⟨fs, hPt⟩ := hB2
  rw [ht2] at hPt
  refine lv_istore (lv' := [(6, .int r2), (5, .int r), (0, .ref b), (1, .ref x), (2, .ref (q 0)), (3, .ref o), (4, .int 0)]) hx hb dL_law_515 hl (by decide) rfl (fun ls hl => ?_)
  refine lv_aload_n hx hb dL_law_517 rfl (lv_at hl 4 rfl) ?_
  have hPo : va_P G vwCl [(o, eO k fo1)] H2 := fun i z hz => by
    have h9 : i < 1 := (List.getElem?_eq_some_iff.mp hz).1
    rw [show i = 0 by omega] at hz
    cases hz
    have hlt : o < H1.size := (hPo 0 _ rfl).lt
    refine (hPo 0 _ rfl).kept (hk2 o hlt (fun h => ?_))
    rcases h with ⟨i3, e3, h3⟩ | h3
    · exact (two_apart hPm0 hD i3 _ h3).2 (Or.inl ⟨wx.length, _, wL_o⟩)
    · exact absurd hlt (Nat.not_lt.mpr h3)
  refine br_call (W.runV (As := []) (rest := []) ⟨hx, hb, hml, hown, hts⟩ (m_thrown l G k (q 0) r fs) (cwV 0 hts gL_law_X4_thrown rfl rfl rfl (by decide +kernel) ⟨(Nat.le_of_ble_eq_true rfl), (Nat.le_of_ble_eq_true rfl)⟩) (PQ.preV hK hPt (ci := 4) (q0 := 0) rfl rfl) rfl rfl hl.1 rfl (lv_room (Nat.le_of_ble_eq_true rfl)) dL_law_518 ⟨(Nat.le_of_ble_eq_true rfl), (Nat.le_of_ble_eq_true rfl)⟩) ?_
  refine lv_iload hx hb dL_law_521 (lv_at hl 1 rfl) ?_
  refine lv_icmp_eq (tgt := 528) hx hb dL_law_523 (by decide) (fun _ => ?_) (fun c9 => absurd rfl c9)
  refine lv_iload hx hb dL_law_528 (lv_at hl 1 rfl) ?_
  refine lv_if_ne (tgt := 552) hx hb dL_law_530 (by decide) (fun _ => ?_) (fun c9 => absurd c9 hK0)
  refine lv_goto (tgt := 1191) hx hb dL_law_552 (by decide) ?_
  exact lc_end l C1 H2 locs ls hS (lv_sub hl [2, 6] rfl)
set_option maxHeartbeats 4000000 in
set_option maxRecDepth 100000 in
/-- the law's case of standby -/
theorem lc_standby {p : Program} {e : Env} {s : State} {m : MethodId} {below : List Frame} {meth : Method} {c : Code} (l : Launch) {b : Nat} {xs : Nat → Int32} (C0 : lw_At p s m meth c b 4 xs) {G : va_G} {k : Nat → ClassId} (hI : IV G k (fun q : Nat => s.heap.size ≤ q) s) {wx : va_W} {o x : Nat} {fo : Nat → Int64} {q : Nat → Nat} {g7 g8 : Nat → Int32} (K V : Int32) (hC : ∀ sz, vx_Met l yL_standby wsL_standby (rzk 3 1 6) (PL G k sz (wL k wx o fo) [.ref x, .int (xs 1), .int (xs 2), .ref o]) (QL G k o K V (va_A (wL k wx o fo) sz)) (fun _ _ _ => False) 1 6 (va_A (wL k wx o fo) sz)) (hM : ∀ sz, Met l yX4_standby wsX4_standby (rzk 2 0 0) (MP G k sz q g7 g8 [.ref (q 0), .int (xs 1), .int (xs 2)]) (MQl G q K V (va_A (wM q k 0 (fun _ => 0) g7 g8) sz)) 0 0 (va_A (wM q k 0 (fun _ => 0) g7 g8) sz)) (H : Heap) (locs : List Loc) (ls : Array Slot) (hP : va_P G vwCl (wM q k 0 (fun _ => 0) g7 g8 ++ wL k wx o fo) H) (hD : va_D (fun q : Nat => s.heap.size ≤ q) (wM q k 0 (fun _ => 0) g7 g8 ++ wL k wx o fo)) (hS : va_S (fun q : Nat => s.heap.size ≤ q) s.heap H locs) (hl : lv_has ls 7 [(0, .ref b), (1, .ref x), (2, .ref (q 0)), (3, .ref o), (4, .int 0)]) : W p l e room_1 s m #[Value.ref b] below meth c H locs 87 83213 (lw_Z below #[Value.ref b] s) (F0 m 555 ls []) := by
  have C1 := C0
  obtain ⟨hx, hb, hr, hml, hown, hts0, hX, hbl, hlocks, hgv⟩ := C0
  have hts := fun w h => hts0 w (wsL_law_in w h)
  have hA : ∀ q : Nat, s.heap.size ≤ q → (fun q : Nat => s.heap.size ≤ q) q := fun _ h => h
  have hbA : ¬ (fun q : Nat => s.heap.size ≤ q) b := Nat.not_le.mpr hbl
  have hK := hI.1
  have hPm : va_P G vwCl (wM q k 0 (fun _ => 0) g7 g8) H := hP.mem (fun z hz => List.mem_append_left _ hz)
  have hPl : va_P G vwCl (wL k wx o fo) H := hP.mem (fun z hz => List.mem_append_right _ hz)
  have hDm := hD.left
  have hDl := hD.flip.left
  refine lv_aload_n hx hb dL_law_555 rfl (lv_at hl 1 rfl) ?_
  refine lv_aload_n hx hb dL_law_556 rfl (lv_at hl 0 rfl) ?_
  refine lv_iload hx hb dL_law_557 (lv_at hl 4 rfl) ?_
  refine lv_iconst (v := 1) hx hb dL_law_559 (by decide) ?_
  refine lv_iadd hx hb dL_law_560 ?_
  refine va_sld hx hb hX hbl hbA hS (show vp_in (0 + 1) 4 from by unfold vp_in; decide) dL_law_561 ?_
  refine lv_topi (fun y ey => ?_)
  have hy : y = xs 1 := ey.trans (congrArg xs (by decide))
  subst hy
  refine lv_aload_n hx hb dL_law_562 rfl (lv_at hl 0 rfl) ?_
  refine lv_iload hx hb dL_law_563 (lv_at hl 4 rfl) ?_
  refine lv_iconst (v := 2) hx hb dL_law_565 (by decide) ?_
  refine lv_iadd hx hb dL_law_566 ?_
  refine va_sld hx hb hX hbl hbA hS (show vp_in (0 + 2) 4 from by unfold vp_in; decide) dL_law_567 ?_
  refine lv_topi (fun y ey => ?_)
  have hy : y = xs 2 := ey.trans (congrArg xs (by decide))
  subst hy
  refine lv_aload_n hx hb dL_law_568 rfl (lv_at hl 3 rfl) ?_
  refine wl_call (vx_runSX (As := [.ref x, .int (xs 1), .int (xs 2), .ref o]) (rest := []) ⟨hx, hb, hml, hown, hts⟩ (hC H.size) (vx_cwSW 4 hts gL_law_L_standby rfl rfl rfl (by decide +kernel) ⟨(Nat.le_of_ble_eq_true rfl), (Nat.le_of_ble_eq_true rfl)⟩) (PL.preS hI hS hA hPl hDl) rfl rfl hl.1 rfl (lv_room (Nat.le_of_ble_eq_true rfl)) dL_law_569 ⟨(Nat.le_of_ble_eq_true rfl), (Nat.le_of_ble_eq_true rfl)⟩) hS (fun z _ h => va_A.all hDl (fun z h => Nat.le_trans hS.1 h) z h) (va_A.all hDl (fun z h => Nat.le_trans hS.1 h)) (fun r u t H1 locs ht hp hB hk1 hS => ?_)
  obtain ⟨rfl, hV⟩ := hp
  obtain ⟨fo1, hPo, hf0⟩ := hB
  rw [ht] at hPo
  have hPm0 := two_keep hPm hD hk1
  have hPm := hPm0
  refine lv_istore (lv' := [(5, .int r), (0, .ref b), (1, .ref x), (2, .ref (q 0)), (3, .ref o), (4, .int 0)]) hx hb dL_law_572 hl (by decide) rfl (fun ls hl => ?_)
  refine lv_aload_n hx hb dL_law_574 rfl (lv_at hl 3 rfl) ?_
  refine lv_aload_n hx hb dL_law_575 rfl (lv_at hl 1 rfl) ?_
  refine lv_iload hx hb dL_law_576 (lv_at hl 5 rfl) ?_
  refine lv_iconst (v := 1) hx hb dL_law_578 (by decide) ?_
  refine lv_iadd hx hb dL_law_579 ?_
  refine va_sld hx hb hX hbl hbA hS (show vp_in (0 + 1) 4 from by unfold vp_in; decide) dL_law_580 ?_
  refine lv_topi (fun y ey => ?_)
  have hy : y = xs 1 := ey.trans (congrArg xs (by decide))
  subst hy
  refine lv_aload_n hx hb dL_law_581 rfl (lv_at hl 1 rfl) ?_
  refine lv_iload hx hb dL_law_582 (lv_at hl 5 rfl) ?_
  refine lv_iconst (v := 2) hx hb dL_law_584 (by decide) ?_
  refine lv_iadd hx hb dL_law_585 ?_
  refine va_sld hx hb hX hbl hbA hS (show vp_in (0 + 2) 4 from by unfold vp_in; decide) dL_law_586 ?_
  refine lv_topi (fun y ey => ?_)
  have hy : y = xs 2 := ey.trans (congrArg xs (by decide))
  subst hy
  refine va_calli (va_runV (As := [.int (xs 1), .int (xs 2)]) (rest := []) ⟨hx, hb, hml, hown, hts⟩ (hM H1.size) (cwV 2 hts gL_law_X4_standby rfl rfl rfl (by decide +kernel) ⟨(Nat.le_of_ble_eq_true rfl), (Nat.le_of_ble_eq_true rfl)⟩) (MP.preV hK hPm hDm) rfl rfl hl.1 rfl (lv_room (Nat.le_of_ble_eq_true rfl)) dL_law_587 ⟨(Nat.le_of_ble_eq_true rfl), (Nat.le_of_ble_eq_true rfl)⟩) hS (fun z _ h => va_A.all hDm (fun z h => Nat.le_trans hS.1 h) z h) (va_A.all hDm (fun z h => Nat.le_trans hS.1 h)) (fun r2 u2 t2 H2 locs ht2 hvm2 hp2 hB2 hz2 hk2 hS => ?_)
  obtain ⟨fs, hPt⟩ := hB2
  rw [ht2] at hPt
  refine lv_istore (lv' := [(6, .int r2), (5, .int r), (0, .ref b), (1, .ref x), (2, .ref (q 0)), (3, .ref o), (4, .int 0)]) hx hb dL_law_590 hl (by decide) rfl (fun ls hl => ?_)
  refine lv_aload_n hx hb dL_law_592 rfl (lv_at hl 4 rfl) ?_
  have hPo : va_P G vwCl [(o, eO k fo1)] H2 := fun i z hz => by
    have h9 : i < 1 := (List.getElem?_eq_some_iff.mp hz).1
    rw [show i = 0 by omega] at hz
    cases hz
    have hlt : o < H1.size := (hPo 0 _ rfl).lt
    refine (hPo 0 _ rfl).kept (hk2 o hlt (fun h => ?_))
    rcases h with ⟨i3, e3, h3⟩ | h3
    · exact (two_apart hPm0 hD i3 _ h3).2 (Or.inl ⟨wx.length, _, wL_o⟩)
    · exact absurd hlt (Nat.not_lt.mpr h3)
  refine br_call (W.runV (As := []) (rest := []) ⟨hx, hb, hml, hown, hts⟩ (m_thrown l G k (q 0) r fs) (cwV 0 hts gL_law_X4_thrown rfl rfl rfl (by decide +kernel) ⟨(Nat.le_of_ble_eq_true rfl), (Nat.le_of_ble_eq_true rfl)⟩) (PQ.preV hK hPt (ci := 4) (q0 := 0) rfl rfl) rfl rfl hl.1 rfl (lv_room (Nat.le_of_ble_eq_true rfl)) dL_law_593 ⟨(Nat.le_of_ble_eq_true rfl), (Nat.le_of_ble_eq_true rfl)⟩) ?_
  refine lv_iload hx hb dL_law_596 (lv_at hl 1 rfl) ?_
  refine lv_icmp_eq (tgt := 603) hx hb dL_law_598 (by decide) (fun _ => ?_) (fun c9 => absurd rfl c9)
  refine lv_iload hx hb dL_law_603 (lv_at hl 1 rfl) ?_
  refine lv_if_ne (tgt := 620) hx hb dL_law_605 (by decide) (fun h9 => ?_) (fun h9 => ?_)
  · refine lv_goto (tgt := 1191) hx hb dL_law_620 (by decide) ?_
    exact lc_end l C1 H2 locs ls hS (lv_sub hl [2, 6] rfl)
  · refine lv_aload_n hx hb dL_law_608 rfl (lv_at hl 5 rfl) ?_
    refine lv_iconst (v := 0) hx hb dL_law_609 (by decide) ?_
    refine va_lald hx hb hK hPo 0 5 rfl rfl (vp_in_nI (n := 0) (by decide) (by decide)) dL_law_610 ?_
    refine lv_topl (fun y ey => ?_)
    have hy : y = V.toInt64 := ey.trans (hf0.trans (hV h9))
    subst hy
    have hr2 : r2 = V := hp2 h9
    subst hr2
    refine lv_iload hx hb dL_law_611 (lv_at hl 0 rfl) ?_
    refine lv_i2l (v := Int32.toInt64 r2) hx hb dL_law_613 rfl ?_
    refine W.lcmp hx hb dL_law_614 ?_
    refine lv_if_eq (tgt := 620) hx hb dL_law_615 (by decide) (fun _ => ?_) (fun c9 => absurd ((lg_cmp_eq _ _).mpr rfl) c9)
    refine lv_goto (tgt := 1191) hx hb dL_law_620 (by decide) ?_
    exact lc_end l C1 H2 locs ls hS (lv_sub hl [2, 6] rfl)
set_option maxHeartbeats 4000000 in
set_option maxRecDepth 100000 in
/-- the law's case of send -/
theorem lc_send {p : Program} {e : Env} {s : State} {m : MethodId} {below : List Frame} {meth : Method} {c : Code} (l : Launch) {b : Nat} {xs : Nat → Int32} (C0 : lw_At p s m meth c b 4 xs) {G : va_G} {k : Nat → ClassId} (hI : IV G k (fun q : Nat => s.heap.size ≤ q) s) {wx : va_W} {o x : Nat} {fo : Nat → Int64} {q : Nat → Nat} {g7 g8 : Nat → Int32} (K V : Int32) (hC : ∀ sz, vx_Met l yL_send wsL_send (rzk 3 1 6) (PL G k sz (wL k wx o fo) [.ref x, .int (xs 1), .int (xs 2), .ref o]) (QL G k o K V (va_A (wL k wx o fo) sz)) (fun _ _ _ => False) 1 6 (va_A (wL k wx o fo) sz)) (hM : ∀ sz, Met l yX4_send wsX4_send (rzk 2 0 0) (MP G k sz q g7 g8 [.ref (q 0), .int (xs 1), .int (xs 2)]) (MQl G q K V (va_A (wM q k 0 (fun _ => 0) g7 g8) sz)) 0 0 (va_A (wM q k 0 (fun _ => 0) g7 g8) sz)) (H : Heap) (locs : List Loc) (ls : Array Slot) (hP : va_P G vwCl (wM q k 0 (fun _ => 0) g7 g8 ++ wL k wx o fo) H) (hD : va_D (fun q : Nat => s.heap.size ≤ q) (wM q k 0 (fun _ => 0) g7 g8 ++ wL k wx o fo)) (hS : va_S (fun q : Nat => s.heap.size ≤ q) s.heap H locs) (hl : lv_has ls 7 [(0, .ref b), (1, .ref x), (2, .ref (q 0)), (3, .ref o), (4, .int 0)]) : W p l e room_1 s m #[Value.ref b] below meth c H locs 87 83213 (lw_Z below #[Value.ref b] s) (F0 m 623 ls []) := by
  have C1 := C0
  obtain ⟨hx, hb, hr, hml, hown, hts0, hX, hbl, hlocks, hgv⟩ := C0
  have hts := fun w h => hts0 w (wsL_law_in w h)
  have hA : ∀ q : Nat, s.heap.size ≤ q → (fun q : Nat => s.heap.size ≤ q) q := fun _ h => h
  have hbA : ¬ (fun q : Nat => s.heap.size ≤ q) b := Nat.not_le.mpr hbl
  have hK := hI.1
  have hPm : va_P G vwCl (wM q k 0 (fun _ => 0) g7 g8) H := hP.mem (fun z hz => List.mem_append_left _ hz)
  have hPl : va_P G vwCl (wL k wx o fo) H := hP.mem (fun z hz => List.mem_append_right _ hz)
  have hDm := hD.left
  have hDl := hD.flip.left
  refine lv_aload_n hx hb dL_law_623 rfl (lv_at hl 1 rfl) ?_
  refine lv_aload_n hx hb dL_law_624 rfl (lv_at hl 0 rfl) ?_
  refine lv_iload hx hb dL_law_625 (lv_at hl 4 rfl) ?_
  refine lv_iconst (v := 1) hx hb dL_law_627 (by decide) ?_
  refine lv_iadd hx hb dL_law_628 ?_
  refine va_sld hx hb hX hbl hbA hS (show vp_in (0 + 1) 4 from by unfold vp_in; decide) dL_law_629 ?_
  refine lv_topi (fun y ey => ?_)
  have hy : y = xs 1 := ey.trans (congrArg xs (by decide))
  subst hy
  refine lv_aload_n hx hb dL_law_630 rfl (lv_at hl 0 rfl) ?_
  refine lv_iload hx hb dL_law_631 (lv_at hl 4 rfl) ?_
  refine lv_iconst (v := 2) hx hb dL_law_633 (by decide) ?_
  refine lv_iadd hx hb dL_law_634 ?_
  refine va_sld hx hb hX hbl hbA hS (show vp_in (0 + 2) 4 from by unfold vp_in; decide) dL_law_635 ?_
  refine lv_topi (fun y ey => ?_)
  have hy : y = xs 2 := ey.trans (congrArg xs (by decide))
  subst hy
  refine lv_aload_n hx hb dL_law_636 rfl (lv_at hl 3 rfl) ?_
  refine wl_call (vx_runSX (As := [.ref x, .int (xs 1), .int (xs 2), .ref o]) (rest := []) ⟨hx, hb, hml, hown, hts⟩ (hC H.size) (vx_cwSW 4 hts gL_law_L_send rfl rfl rfl (by decide +kernel) ⟨(Nat.le_of_ble_eq_true rfl), (Nat.le_of_ble_eq_true rfl)⟩) (PL.preS hI hS hA hPl hDl) rfl rfl hl.1 rfl (lv_room (Nat.le_of_ble_eq_true rfl)) dL_law_637 ⟨(Nat.le_of_ble_eq_true rfl), (Nat.le_of_ble_eq_true rfl)⟩) hS (fun z _ h => va_A.all hDl (fun z h => Nat.le_trans hS.1 h) z h) (va_A.all hDl (fun z h => Nat.le_trans hS.1 h)) (fun r u t H1 locs ht hp hB hk1 hS => ?_)
  obtain ⟨rfl, hV⟩ := hp
  obtain ⟨fo1, hPo, hf0⟩ := hB
  rw [ht] at hPo
  have hPm0 := two_keep hPm hD hk1
  have hPm := hPm0
  refine lv_istore (lv' := [(5, .int r), (0, .ref b), (1, .ref x), (2, .ref (q 0)), (3, .ref o), (4, .int 0)]) hx hb dL_law_640 hl (by decide) rfl (fun ls hl => ?_)
  refine lv_aload_n hx hb dL_law_642 rfl (lv_at hl 3 rfl) ?_
  refine lv_aload_n hx hb dL_law_643 rfl (lv_at hl 1 rfl) ?_
  refine lv_iload hx hb dL_law_644 (lv_at hl 5 rfl) ?_
  refine lv_iconst (v := 1) hx hb dL_law_646 (by decide) ?_
  refine lv_iadd hx hb dL_law_647 ?_
  refine va_sld hx hb hX hbl hbA hS (show vp_in (0 + 1) 4 from by unfold vp_in; decide) dL_law_648 ?_
  refine lv_topi (fun y ey => ?_)
  have hy : y = xs 1 := ey.trans (congrArg xs (by decide))
  subst hy
  refine lv_aload_n hx hb dL_law_649 rfl (lv_at hl 1 rfl) ?_
  refine lv_iload hx hb dL_law_650 (lv_at hl 5 rfl) ?_
  refine lv_iconst (v := 2) hx hb dL_law_652 (by decide) ?_
  refine lv_iadd hx hb dL_law_653 ?_
  refine va_sld hx hb hX hbl hbA hS (show vp_in (0 + 2) 4 from by unfold vp_in; decide) dL_law_654 ?_
  refine lv_topi (fun y ey => ?_)
  have hy : y = xs 2 := ey.trans (congrArg xs (by decide))
  subst hy
  refine va_calli (va_runV (As := [.int (xs 1), .int (xs 2)]) (rest := []) ⟨hx, hb, hml, hown, hts⟩ (hM H1.size) (cwV 2 hts gL_law_X4_send rfl rfl rfl (by decide +kernel) ⟨(Nat.le_of_ble_eq_true rfl), (Nat.le_of_ble_eq_true rfl)⟩) (MP.preV hK hPm hDm) rfl rfl hl.1 rfl (lv_room (Nat.le_of_ble_eq_true rfl)) dL_law_655 ⟨(Nat.le_of_ble_eq_true rfl), (Nat.le_of_ble_eq_true rfl)⟩) hS (fun z _ h => va_A.all hDm (fun z h => Nat.le_trans hS.1 h) z h) (va_A.all hDm (fun z h => Nat.le_trans hS.1 h)) (fun r2 u2 t2 H2 locs ht2 hvm2 hp2 hB2 hz2 hk2 hS => ?_)
  obtain ⟨fs, hPt⟩ := hB2
  rw [ht2] at hPt
  refine lv_istore (lv' := [(6, .int r2), (5, .int r), (0, .ref b), (1, .ref x), (2, .ref (q 0)), (3, .ref o), (4, .int 0)]) hx hb dL_law_658 hl (by decide) rfl (fun ls hl => ?_)
  refine lv_aload_n hx hb dL_law_660 rfl (lv_at hl 4 rfl) ?_
  have hPo : va_P G vwCl [(o, eO k fo1)] H2 := fun i z hz => by
    have h9 : i < 1 := (List.getElem?_eq_some_iff.mp hz).1
    rw [show i = 0 by omega] at hz
    cases hz
    have hlt : o < H1.size := (hPo 0 _ rfl).lt
    refine (hPo 0 _ rfl).kept (hk2 o hlt (fun h => ?_))
    rcases h with ⟨i3, e3, h3⟩ | h3
    · exact (two_apart hPm0 hD i3 _ h3).2 (Or.inl ⟨wx.length, _, wL_o⟩)
    · exact absurd hlt (Nat.not_lt.mpr h3)
  refine br_call (W.runV (As := []) (rest := []) ⟨hx, hb, hml, hown, hts⟩ (m_thrown l G k (q 0) r fs) (cwV 0 hts gL_law_X4_thrown rfl rfl rfl (by decide +kernel) ⟨(Nat.le_of_ble_eq_true rfl), (Nat.le_of_ble_eq_true rfl)⟩) (PQ.preV hK hPt (ci := 4) (q0 := 0) rfl rfl) rfl rfl hl.1 rfl (lv_room (Nat.le_of_ble_eq_true rfl)) dL_law_661 ⟨(Nat.le_of_ble_eq_true rfl), (Nat.le_of_ble_eq_true rfl)⟩) ?_
  refine lv_iload hx hb dL_law_664 (lv_at hl 1 rfl) ?_
  refine lv_icmp_eq (tgt := 671) hx hb dL_law_666 (by decide) (fun _ => ?_) (fun c9 => absurd rfl c9)
  refine lv_iload hx hb dL_law_671 (lv_at hl 1 rfl) ?_
  refine lv_if_ne (tgt := 688) hx hb dL_law_673 (by decide) (fun h9 => ?_) (fun h9 => ?_)
  · refine lv_goto (tgt := 1191) hx hb dL_law_688 (by decide) ?_
    exact lc_end l C1 H2 locs ls hS (lv_sub hl [2, 6] rfl)
  · refine lv_aload_n hx hb dL_law_676 rfl (lv_at hl 5 rfl) ?_
    refine lv_iconst (v := 0) hx hb dL_law_677 (by decide) ?_
    refine va_lald hx hb hK hPo 0 5 rfl rfl (vp_in_nI (n := 0) (by decide) (by decide)) dL_law_678 ?_
    refine lv_topl (fun y ey => ?_)
    have hy : y = V.toInt64 := ey.trans (hf0.trans (hV h9))
    subst hy
    have hr2 : r2 = V := hp2 h9
    subst hr2
    refine lv_iload hx hb dL_law_679 (lv_at hl 0 rfl) ?_
    refine lv_i2l (v := Int32.toInt64 r2) hx hb dL_law_681 rfl ?_
    refine W.lcmp hx hb dL_law_682 ?_
    refine lv_if_eq (tgt := 688) hx hb dL_law_683 (by decide) (fun _ => ?_) (fun c9 => absurd ((lg_cmp_eq _ _).mpr rfl) c9)
    refine lv_goto (tgt := 1191) hx hb dL_law_688 (by decide) ?_
    exact lc_end l C1 H2 locs ls hS (lv_sub hl [2, 6] rfl)
set_option maxHeartbeats 4000000 in
set_option maxRecDepth 100000 in
/-- the law's case of deliver -/
theorem lc_deliver {p : Program} {e : Env} {s : State} {m : MethodId} {below : List Frame} {meth : Method} {c : Code} (l : Launch) {b : Nat} {xs : Nat → Int32} (C0 : lw_At p s m meth c b 4 xs) {G : va_G} {k : Nat → ClassId} (hI : IV G k (fun q : Nat => s.heap.size ≤ q) s) {wx : va_W} {o x : Nat} {fo : Nat → Int64} {q : Nat → Nat} {g7 g8 : Nat → Int32} (K V : Int32) (hC : ∀ sz, vx_Met l yL_deliver wsL_deliver (rzk 3 1 6) (PL G k sz (wL k wx o fo) [.ref x, .int (xs 1), .int (xs 2), .ref o]) (QL G k o K V (va_A (wL k wx o fo) sz)) (fun _ _ _ => False) 1 6 (va_A (wL k wx o fo) sz)) (hM : ∀ sz, Met l yX4_deliver wsX4_deliver (rzk 2 0 0) (MP G k sz q g7 g8 [.ref (q 0), .int (xs 1), .int (xs 2)]) (MQl G q K V (va_A (wM q k 0 (fun _ => 0) g7 g8) sz)) 0 0 (va_A (wM q k 0 (fun _ => 0) g7 g8) sz)) (H : Heap) (locs : List Loc) (ls : Array Slot) (hP : va_P G vwCl (wM q k 0 (fun _ => 0) g7 g8 ++ wL k wx o fo) H) (hD : va_D (fun q : Nat => s.heap.size ≤ q) (wM q k 0 (fun _ => 0) g7 g8 ++ wL k wx o fo)) (hS : va_S (fun q : Nat => s.heap.size ≤ q) s.heap H locs) (hl : lv_has ls 7 [(0, .ref b), (1, .ref x), (2, .ref (q 0)), (3, .ref o), (4, .int 0)]) : W p l e room_1 s m #[Value.ref b] below meth c H locs 87 83213 (lw_Z below #[Value.ref b] s) (F0 m 691 ls []) := by
  have C1 := C0
  obtain ⟨hx, hb, hr, hml, hown, hts0, hX, hbl, hlocks, hgv⟩ := C0
  have hts := fun w h => hts0 w (wsL_law_in w h)
  have hA : ∀ q : Nat, s.heap.size ≤ q → (fun q : Nat => s.heap.size ≤ q) q := fun _ h => h
  have hbA : ¬ (fun q : Nat => s.heap.size ≤ q) b := Nat.not_le.mpr hbl
  have hK := hI.1
  have hPm : va_P G vwCl (wM q k 0 (fun _ => 0) g7 g8) H := hP.mem (fun z hz => List.mem_append_left _ hz)
  have hPl : va_P G vwCl (wL k wx o fo) H := hP.mem (fun z hz => List.mem_append_right _ hz)
  have hDm := hD.left
  have hDl := hD.flip.left
  refine lv_aload_n hx hb dL_law_691 rfl (lv_at hl 1 rfl) ?_
  refine lv_aload_n hx hb dL_law_692 rfl (lv_at hl 0 rfl) ?_
  refine lv_iload hx hb dL_law_693 (lv_at hl 4 rfl) ?_
  refine lv_iconst (v := 1) hx hb dL_law_695 (by decide) ?_
  refine lv_iadd hx hb dL_law_696 ?_
  refine va_sld hx hb hX hbl hbA hS (show vp_in (0 + 1) 4 from by unfold vp_in; decide) dL_law_697 ?_
  refine lv_topi (fun y ey => ?_)
  have hy : y = xs 1 := ey.trans (congrArg xs (by decide))
  subst hy
  refine lv_aload_n hx hb dL_law_698 rfl (lv_at hl 0 rfl) ?_
  refine lv_iload hx hb dL_law_699 (lv_at hl 4 rfl) ?_
  refine lv_iconst (v := 2) hx hb dL_law_701 (by decide) ?_
  refine lv_iadd hx hb dL_law_702 ?_
  refine va_sld hx hb hX hbl hbA hS (show vp_in (0 + 2) 4 from by unfold vp_in; decide) dL_law_703 ?_
  refine lv_topi (fun y ey => ?_)
  have hy : y = xs 2 := ey.trans (congrArg xs (by decide))
  subst hy
  refine lv_aload_n hx hb dL_law_704 rfl (lv_at hl 3 rfl) ?_
  refine wl_call (vx_runSX (As := [.ref x, .int (xs 1), .int (xs 2), .ref o]) (rest := []) ⟨hx, hb, hml, hown, hts⟩ (hC H.size) (vx_cwSW 4 hts gL_law_L_deliver rfl rfl rfl (by decide +kernel) ⟨(Nat.le_of_ble_eq_true rfl), (Nat.le_of_ble_eq_true rfl)⟩) (PL.preS hI hS hA hPl hDl) rfl rfl hl.1 rfl (lv_room (Nat.le_of_ble_eq_true rfl)) dL_law_705 ⟨(Nat.le_of_ble_eq_true rfl), (Nat.le_of_ble_eq_true rfl)⟩) hS (fun z _ h => va_A.all hDl (fun z h => Nat.le_trans hS.1 h) z h) (va_A.all hDl (fun z h => Nat.le_trans hS.1 h)) (fun r u t H1 locs ht hp hB hk1 hS => ?_)
  obtain ⟨rfl, hV⟩ := hp
  obtain ⟨fo1, hPo, hf0⟩ := hB
  rw [ht] at hPo
  have hPm0 := two_keep hPm hD hk1
  have hPm := hPm0
  refine lv_istore (lv' := [(5, .int r), (0, .ref b), (1, .ref x), (2, .ref (q 0)), (3, .ref o), (4, .int 0)]) hx hb dL_law_708 hl (by decide) rfl (fun ls hl => ?_)
  refine lv_aload_n hx hb dL_law_710 rfl (lv_at hl 3 rfl) ?_
  refine lv_aload_n hx hb dL_law_711 rfl (lv_at hl 1 rfl) ?_
  refine lv_iload hx hb dL_law_712 (lv_at hl 5 rfl) ?_
  refine lv_iconst (v := 1) hx hb dL_law_714 (by decide) ?_
  refine lv_iadd hx hb dL_law_715 ?_
  refine va_sld hx hb hX hbl hbA hS (show vp_in (0 + 1) 4 from by unfold vp_in; decide) dL_law_716 ?_
  refine lv_topi (fun y ey => ?_)
  have hy : y = xs 1 := ey.trans (congrArg xs (by decide))
  subst hy
  refine lv_aload_n hx hb dL_law_717 rfl (lv_at hl 1 rfl) ?_
  refine lv_iload hx hb dL_law_718 (lv_at hl 5 rfl) ?_
  refine lv_iconst (v := 2) hx hb dL_law_720 (by decide) ?_
  refine lv_iadd hx hb dL_law_721 ?_
  refine va_sld hx hb hX hbl hbA hS (show vp_in (0 + 2) 4 from by unfold vp_in; decide) dL_law_722 ?_
  refine lv_topi (fun y ey => ?_)
  have hy : y = xs 2 := ey.trans (congrArg xs (by decide))
  subst hy
  refine va_calli (va_runV (As := [.int (xs 1), .int (xs 2)]) (rest := []) ⟨hx, hb, hml, hown, hts⟩ (hM H1.size) (cwV 2 hts gL_law_X4_deliver rfl rfl rfl (by decide +kernel) ⟨(Nat.le_of_ble_eq_true rfl), (Nat.le_of_ble_eq_true rfl)⟩) (MP.preV hK hPm hDm) rfl rfl hl.1 rfl (lv_room (Nat.le_of_ble_eq_true rfl)) dL_law_723 ⟨(Nat.le_of_ble_eq_true rfl), (Nat.le_of_ble_eq_true rfl)⟩) hS (fun z _ h => va_A.all hDm (fun z h => Nat.le_trans hS.1 h) z h) (va_A.all hDm (fun z h => Nat.le_trans hS.1 h)) (fun r2 u2 t2 H2 locs ht2 hvm2 hp2 hB2 hz2 hk2 hS => ?_)
  obtain ⟨fs, hPt⟩ := hB2
  rw [ht2] at hPt
  refine lv_istore (lv' := [(6, .int r2), (5, .int r), (0, .ref b), (1, .ref x), (2, .ref (q 0)), (3, .ref o), (4, .int 0)]) hx hb dL_law_726 hl (by decide) rfl (fun ls hl => ?_)
  refine lv_aload_n hx hb dL_law_728 rfl (lv_at hl 4 rfl) ?_
  have hPo : va_P G vwCl [(o, eO k fo1)] H2 := fun i z hz => by
    have h9 : i < 1 := (List.getElem?_eq_some_iff.mp hz).1
    rw [show i = 0 by omega] at hz
    cases hz
    have hlt : o < H1.size := (hPo 0 _ rfl).lt
    refine (hPo 0 _ rfl).kept (hk2 o hlt (fun h => ?_))
    rcases h with ⟨i3, e3, h3⟩ | h3
    · exact (two_apart hPm0 hD i3 _ h3).2 (Or.inl ⟨wx.length, _, wL_o⟩)
    · exact absurd hlt (Nat.not_lt.mpr h3)
  refine br_call (W.runV (As := []) (rest := []) ⟨hx, hb, hml, hown, hts⟩ (m_thrown l G k (q 0) r fs) (cwV 0 hts gL_law_X4_thrown rfl rfl rfl (by decide +kernel) ⟨(Nat.le_of_ble_eq_true rfl), (Nat.le_of_ble_eq_true rfl)⟩) (PQ.preV hK hPt (ci := 4) (q0 := 0) rfl rfl) rfl rfl hl.1 rfl (lv_room (Nat.le_of_ble_eq_true rfl)) dL_law_729 ⟨(Nat.le_of_ble_eq_true rfl), (Nat.le_of_ble_eq_true rfl)⟩) ?_
  refine lv_iload hx hb dL_law_732 (lv_at hl 1 rfl) ?_
  refine lv_icmp_eq (tgt := 739) hx hb dL_law_734 (by decide) (fun _ => ?_) (fun c9 => absurd rfl c9)
  refine lv_iload hx hb dL_law_739 (lv_at hl 1 rfl) ?_
  refine lv_if_ne (tgt := 756) hx hb dL_law_741 (by decide) (fun h9 => ?_) (fun h9 => ?_)
  · refine lv_goto (tgt := 1191) hx hb dL_law_756 (by decide) ?_
    exact lc_end l C1 H2 locs ls hS (lv_sub hl [2, 6] rfl)
  · refine lv_aload_n hx hb dL_law_744 rfl (lv_at hl 5 rfl) ?_
    refine lv_iconst (v := 0) hx hb dL_law_745 (by decide) ?_
    refine va_lald hx hb hK hPo 0 5 rfl rfl (vp_in_nI (n := 0) (by decide) (by decide)) dL_law_746 ?_
    refine lv_topl (fun y ey => ?_)
    have hy : y = V.toInt64 := ey.trans (hf0.trans (hV h9))
    subst hy
    have hr2 : r2 = V := hp2 h9
    subst hr2
    refine lv_iload hx hb dL_law_747 (lv_at hl 0 rfl) ?_
    refine lv_i2l (v := Int32.toInt64 r2) hx hb dL_law_749 rfl ?_
    refine W.lcmp hx hb dL_law_750 ?_
    refine lv_if_eq (tgt := 756) hx hb dL_law_751 (by decide) (fun _ => ?_) (fun c9 => absurd ((lg_cmp_eq _ _).mpr rfl) c9)
    refine lv_goto (tgt := 1191) hx hb dL_law_756 (by decide) ?_
    exact lc_end l C1 H2 locs ls hS (lv_sub hl [2, 6] rfl)
set_option maxHeartbeats 4000000 in
set_option maxRecDepth 100000 in
/-- the law's case of drop -/
theorem lc_drop {p : Program} {e : Env} {s : State} {m : MethodId} {below : List Frame} {meth : Method} {c : Code} (l : Launch) {b : Nat} {xs : Nat → Int32} (C0 : lw_At p s m meth c b 4 xs) {G : va_G} {k : Nat → ClassId} (hI : IV G k (fun q : Nat => s.heap.size ≤ q) s) {wx : va_W} {o x : Nat} {fo : Nat → Int64} {q : Nat → Nat} {g7 g8 : Nat → Int32} (K V : Int32) (hC : ∀ sz, vx_Met l yL_drop wsL_drop (rzk 3 1 6) (PL G k sz (wL k wx o fo) [.ref x, .int (xs 1), .int (xs 2), .ref o]) (QL G k o K V (va_A (wL k wx o fo) sz)) (fun _ _ _ => False) 1 6 (va_A (wL k wx o fo) sz)) (hM : ∀ sz, Met l yX4_drop wsX4_drop (rzk 2 0 0) (MP G k sz q g7 g8 [.ref (q 0), .int (xs 1), .int (xs 2)]) (MQl G q K V (va_A (wM q k 0 (fun _ => 0) g7 g8) sz)) 0 0 (va_A (wM q k 0 (fun _ => 0) g7 g8) sz)) (H : Heap) (locs : List Loc) (ls : Array Slot) (hP : va_P G vwCl (wM q k 0 (fun _ => 0) g7 g8 ++ wL k wx o fo) H) (hD : va_D (fun q : Nat => s.heap.size ≤ q) (wM q k 0 (fun _ => 0) g7 g8 ++ wL k wx o fo)) (hS : va_S (fun q : Nat => s.heap.size ≤ q) s.heap H locs) (hl : lv_has ls 7 [(0, .ref b), (1, .ref x), (2, .ref (q 0)), (3, .ref o), (4, .int 0)]) : W p l e room_1 s m #[Value.ref b] below meth c H locs 87 83213 (lw_Z below #[Value.ref b] s) (F0 m 759 ls []) := by
  have C1 := C0
  obtain ⟨hx, hb, hr, hml, hown, hts0, hX, hbl, hlocks, hgv⟩ := C0
  have hts := fun w h => hts0 w (wsL_law_in w h)
  have hA : ∀ q : Nat, s.heap.size ≤ q → (fun q : Nat => s.heap.size ≤ q) q := fun _ h => h
  have hbA : ¬ (fun q : Nat => s.heap.size ≤ q) b := Nat.not_le.mpr hbl
  have hK := hI.1
  have hPm : va_P G vwCl (wM q k 0 (fun _ => 0) g7 g8) H := hP.mem (fun z hz => List.mem_append_left _ hz)
  have hPl : va_P G vwCl (wL k wx o fo) H := hP.mem (fun z hz => List.mem_append_right _ hz)
  have hDm := hD.left
  have hDl := hD.flip.left
  refine lv_aload_n hx hb dL_law_759 rfl (lv_at hl 1 rfl) ?_
  refine lv_aload_n hx hb dL_law_760 rfl (lv_at hl 0 rfl) ?_
  refine lv_iload hx hb dL_law_761 (lv_at hl 4 rfl) ?_
  refine lv_iconst (v := 1) hx hb dL_law_763 (by decide) ?_
  refine lv_iadd hx hb dL_law_764 ?_
  refine va_sld hx hb hX hbl hbA hS (show vp_in (0 + 1) 4 from by unfold vp_in; decide) dL_law_765 ?_
  refine lv_topi (fun y ey => ?_)
  have hy : y = xs 1 := ey.trans (congrArg xs (by decide))
  subst hy
  refine lv_aload_n hx hb dL_law_766 rfl (lv_at hl 0 rfl) ?_
  refine lv_iload hx hb dL_law_767 (lv_at hl 4 rfl) ?_
  refine lv_iconst (v := 2) hx hb dL_law_769 (by decide) ?_
  refine lv_iadd hx hb dL_law_770 ?_
  refine va_sld hx hb hX hbl hbA hS (show vp_in (0 + 2) 4 from by unfold vp_in; decide) dL_law_771 ?_
  refine lv_topi (fun y ey => ?_)
  have hy : y = xs 2 := ey.trans (congrArg xs (by decide))
  subst hy
  refine lv_aload_n hx hb dL_law_772 rfl (lv_at hl 3 rfl) ?_
  refine wl_call (vx_runSX (As := [.ref x, .int (xs 1), .int (xs 2), .ref o]) (rest := []) ⟨hx, hb, hml, hown, hts⟩ (hC H.size) (vx_cwSW 4 hts gL_law_L_drop rfl rfl rfl (by decide +kernel) ⟨(Nat.le_of_ble_eq_true rfl), (Nat.le_of_ble_eq_true rfl)⟩) (PL.preS hI hS hA hPl hDl) rfl rfl hl.1 rfl (lv_room (Nat.le_of_ble_eq_true rfl)) dL_law_773 ⟨(Nat.le_of_ble_eq_true rfl), (Nat.le_of_ble_eq_true rfl)⟩) hS (fun z _ h => va_A.all hDl (fun z h => Nat.le_trans hS.1 h) z h) (va_A.all hDl (fun z h => Nat.le_trans hS.1 h)) (fun r u t H1 locs ht hp hB hk1 hS => ?_)
  obtain ⟨rfl, hV⟩ := hp
  obtain ⟨fo1, hPo, hf0⟩ := hB
  rw [ht] at hPo
  have hPm0 := two_keep hPm hD hk1
  have hPm := hPm0
  refine lv_istore (lv' := [(5, .int r), (0, .ref b), (1, .ref x), (2, .ref (q 0)), (3, .ref o), (4, .int 0)]) hx hb dL_law_776 hl (by decide) rfl (fun ls hl => ?_)
  refine lv_aload_n hx hb dL_law_778 rfl (lv_at hl 3 rfl) ?_
  refine lv_aload_n hx hb dL_law_779 rfl (lv_at hl 1 rfl) ?_
  refine lv_iload hx hb dL_law_780 (lv_at hl 5 rfl) ?_
  refine lv_iconst (v := 1) hx hb dL_law_782 (by decide) ?_
  refine lv_iadd hx hb dL_law_783 ?_
  refine va_sld hx hb hX hbl hbA hS (show vp_in (0 + 1) 4 from by unfold vp_in; decide) dL_law_784 ?_
  refine lv_topi (fun y ey => ?_)
  have hy : y = xs 1 := ey.trans (congrArg xs (by decide))
  subst hy
  refine lv_aload_n hx hb dL_law_785 rfl (lv_at hl 1 rfl) ?_
  refine lv_iload hx hb dL_law_786 (lv_at hl 5 rfl) ?_
  refine lv_iconst (v := 2) hx hb dL_law_788 (by decide) ?_
  refine lv_iadd hx hb dL_law_789 ?_
  refine va_sld hx hb hX hbl hbA hS (show vp_in (0 + 2) 4 from by unfold vp_in; decide) dL_law_790 ?_
  refine lv_topi (fun y ey => ?_)
  have hy : y = xs 2 := ey.trans (congrArg xs (by decide))
  subst hy
  refine va_calli (va_runV (As := [.int (xs 1), .int (xs 2)]) (rest := []) ⟨hx, hb, hml, hown, hts⟩ (hM H1.size) (cwV 2 hts gL_law_X4_drop rfl rfl rfl (by decide +kernel) ⟨(Nat.le_of_ble_eq_true rfl), (Nat.le_of_ble_eq_true rfl)⟩) (MP.preV hK hPm hDm) rfl rfl hl.1 rfl (lv_room (Nat.le_of_ble_eq_true rfl)) dL_law_791 ⟨(Nat.le_of_ble_eq_true rfl), (Nat.le_of_ble_eq_true rfl)⟩) hS (fun z _ h => va_A.all hDm (fun z h => Nat.le_trans hS.1 h) z h) (va_A.all hDm (fun z h => Nat.le_trans hS.1 h)) (fun r2 u2 t2 H2 locs ht2 hvm2 hp2 hB2 hz2 hk2 hS => ?_)
  obtain ⟨fs, hPt⟩ := hB2
  rw [ht2] at hPt
  refine lv_istore (lv' := [(6, .int r2), (5, .int r), (0, .ref b), (1, .ref x), (2, .ref (q 0)), (3, .ref o), (4, .int 0)]) hx hb dL_law_794 hl (by decide) rfl (fun ls hl => ?_)
  refine lv_aload_n hx hb dL_law_796 rfl (lv_at hl 4 rfl) ?_
  have hPo : va_P G vwCl [(o, eO k fo1)] H2 := fun i z hz => by
    have h9 : i < 1 := (List.getElem?_eq_some_iff.mp hz).1
    rw [show i = 0 by omega] at hz
    cases hz
    have hlt : o < H1.size := (hPo 0 _ rfl).lt
    refine (hPo 0 _ rfl).kept (hk2 o hlt (fun h => ?_))
    rcases h with ⟨i3, e3, h3⟩ | h3
    · exact (two_apart hPm0 hD i3 _ h3).2 (Or.inl ⟨wx.length, _, wL_o⟩)
    · exact absurd hlt (Nat.not_lt.mpr h3)
  refine br_call (W.runV (As := []) (rest := []) ⟨hx, hb, hml, hown, hts⟩ (m_thrown l G k (q 0) r fs) (cwV 0 hts gL_law_X4_thrown rfl rfl rfl (by decide +kernel) ⟨(Nat.le_of_ble_eq_true rfl), (Nat.le_of_ble_eq_true rfl)⟩) (PQ.preV hK hPt (ci := 4) (q0 := 0) rfl rfl) rfl rfl hl.1 rfl (lv_room (Nat.le_of_ble_eq_true rfl)) dL_law_797 ⟨(Nat.le_of_ble_eq_true rfl), (Nat.le_of_ble_eq_true rfl)⟩) ?_
  refine lv_iload hx hb dL_law_800 (lv_at hl 1 rfl) ?_
  refine lv_icmp_eq (tgt := 807) hx hb dL_law_802 (by decide) (fun _ => ?_) (fun c9 => absurd rfl c9)
  refine lv_iload hx hb dL_law_807 (lv_at hl 1 rfl) ?_
  refine lv_if_ne (tgt := 824) hx hb dL_law_809 (by decide) (fun h9 => ?_) (fun h9 => ?_)
  · refine lv_goto (tgt := 1191) hx hb dL_law_824 (by decide) ?_
    exact lc_end l C1 H2 locs ls hS (lv_sub hl [2, 6] rfl)
  · refine lv_aload_n hx hb dL_law_812 rfl (lv_at hl 5 rfl) ?_
    refine lv_iconst (v := 0) hx hb dL_law_813 (by decide) ?_
    refine va_lald hx hb hK hPo 0 5 rfl rfl (vp_in_nI (n := 0) (by decide) (by decide)) dL_law_814 ?_
    refine lv_topl (fun y ey => ?_)
    have hy : y = V.toInt64 := ey.trans (hf0.trans (hV h9))
    subst hy
    have hr2 : r2 = V := hp2 h9
    subst hr2
    refine lv_iload hx hb dL_law_815 (lv_at hl 0 rfl) ?_
    refine lv_i2l (v := Int32.toInt64 r2) hx hb dL_law_817 rfl ?_
    refine W.lcmp hx hb dL_law_818 ?_
    refine lv_if_eq (tgt := 824) hx hb dL_law_819 (by decide) (fun _ => ?_) (fun c9 => absurd ((lg_cmp_eq _ _).mpr rfl) c9)
    refine lv_goto (tgt := 1191) hx hb dL_law_824 (by decide) ?_
    exact lc_end l C1 H2 locs ls hS (lv_sub hl [2, 6] rfl)
set_option maxHeartbeats 4000000 in
set_option maxRecDepth 100000 in
/-- the law's case of apply -/
theorem lc_apply {p : Program} {e : Env} {s : State} {m : MethodId} {below : List Frame} {meth : Method} {c : Code} (l : Launch) {b : Nat} {xs : Nat → Int32} (C0 : lw_At p s m meth c b 4 xs) {G : va_G} {k : Nat → ClassId} (hI : IV G k (fun q : Nat => s.heap.size ≤ q) s) {wx : va_W} {o x : Nat} {fo : Nat → Int64} {q : Nat → Nat} {g7 g8 : Nat → Int32} (K V : Int32) (hC : ∀ sz, vx_Met l yL_apply wsL_apply (rzk 3 1 6) (PL G k sz (wL k wx o fo) [.ref x, .int (xs 1), .int (xs 2), .ref o]) (QL G k o K V (va_A (wL k wx o fo) sz)) (fun _ _ _ => False) 1 6 (va_A (wL k wx o fo) sz)) (hM : ∀ sz, Met l yX4_apply wsX4_apply (rzk 2 0 0) (MP G k sz q g7 g8 [.ref (q 0), .int (xs 1), .int (xs 2)]) (MQl G q K V (va_A (wM q k 0 (fun _ => 0) g7 g8) sz)) 0 0 (va_A (wM q k 0 (fun _ => 0) g7 g8) sz)) (H : Heap) (locs : List Loc) (ls : Array Slot) (hP : va_P G vwCl (wM q k 0 (fun _ => 0) g7 g8 ++ wL k wx o fo) H) (hD : va_D (fun q : Nat => s.heap.size ≤ q) (wM q k 0 (fun _ => 0) g7 g8 ++ wL k wx o fo)) (hS : va_S (fun q : Nat => s.heap.size ≤ q) s.heap H locs) (hl : lv_has ls 7 [(0, .ref b), (1, .ref x), (2, .ref (q 0)), (3, .ref o), (4, .int 0)]) : W p l e room_1 s m #[Value.ref b] below meth c H locs 87 83213 (lw_Z below #[Value.ref b] s) (F0 m 827 ls []) := by
  have C1 := C0
  obtain ⟨hx, hb, hr, hml, hown, hts0, hX, hbl, hlocks, hgv⟩ := C0
  have hts := fun w h => hts0 w (wsL_law_in w h)
  have hA : ∀ q : Nat, s.heap.size ≤ q → (fun q : Nat => s.heap.size ≤ q) q := fun _ h => h
  have hbA : ¬ (fun q : Nat => s.heap.size ≤ q) b := Nat.not_le.mpr hbl
  have hK := hI.1
  have hPm : va_P G vwCl (wM q k 0 (fun _ => 0) g7 g8) H := hP.mem (fun z hz => List.mem_append_left _ hz)
  have hPl : va_P G vwCl (wL k wx o fo) H := hP.mem (fun z hz => List.mem_append_right _ hz)
  have hDm := hD.left
  have hDl := hD.flip.left
  refine lv_aload_n hx hb dL_law_827 rfl (lv_at hl 1 rfl) ?_
  refine lv_aload_n hx hb dL_law_828 rfl (lv_at hl 0 rfl) ?_
  refine lv_iload hx hb dL_law_829 (lv_at hl 4 rfl) ?_
  refine lv_iconst (v := 1) hx hb dL_law_831 (by decide) ?_
  refine lv_iadd hx hb dL_law_832 ?_
  refine va_sld hx hb hX hbl hbA hS (show vp_in (0 + 1) 4 from by unfold vp_in; decide) dL_law_833 ?_
  refine lv_topi (fun y ey => ?_)
  have hy : y = xs 1 := ey.trans (congrArg xs (by decide))
  subst hy
  refine lv_aload_n hx hb dL_law_834 rfl (lv_at hl 0 rfl) ?_
  refine lv_iload hx hb dL_law_835 (lv_at hl 4 rfl) ?_
  refine lv_iconst (v := 2) hx hb dL_law_837 (by decide) ?_
  refine lv_iadd hx hb dL_law_838 ?_
  refine va_sld hx hb hX hbl hbA hS (show vp_in (0 + 2) 4 from by unfold vp_in; decide) dL_law_839 ?_
  refine lv_topi (fun y ey => ?_)
  have hy : y = xs 2 := ey.trans (congrArg xs (by decide))
  subst hy
  refine lv_aload_n hx hb dL_law_840 rfl (lv_at hl 3 rfl) ?_
  refine wl_call (vx_runSX (As := [.ref x, .int (xs 1), .int (xs 2), .ref o]) (rest := []) ⟨hx, hb, hml, hown, hts⟩ (hC H.size) (vx_cwSW 4 hts gL_law_L_apply rfl rfl rfl (by decide +kernel) ⟨(Nat.le_of_ble_eq_true rfl), (Nat.le_of_ble_eq_true rfl)⟩) (PL.preS hI hS hA hPl hDl) rfl rfl hl.1 rfl (lv_room (Nat.le_of_ble_eq_true rfl)) dL_law_841 ⟨(Nat.le_of_ble_eq_true rfl), (Nat.le_of_ble_eq_true rfl)⟩) hS (fun z _ h => va_A.all hDl (fun z h => Nat.le_trans hS.1 h) z h) (va_A.all hDl (fun z h => Nat.le_trans hS.1 h)) (fun r u t H1 locs ht hp hB hk1 hS => ?_)
  obtain ⟨rfl, hV⟩ := hp
  obtain ⟨fo1, hPo, hf0⟩ := hB
  rw [ht] at hPo
  have hPm0 := two_keep hPm hD hk1
  have hPm := hPm0
  refine lv_istore (lv' := [(5, .int r), (0, .ref b), (1, .ref x), (2, .ref (q 0)), (3, .ref o), (4, .int 0)]) hx hb dL_law_844 hl (by decide) rfl (fun ls hl => ?_)
  refine lv_aload_n hx hb dL_law_846 rfl (lv_at hl 3 rfl) ?_
  refine lv_aload_n hx hb dL_law_847 rfl (lv_at hl 1 rfl) ?_
  refine lv_iload hx hb dL_law_848 (lv_at hl 5 rfl) ?_
  refine lv_iconst (v := 1) hx hb dL_law_850 (by decide) ?_
  refine lv_iadd hx hb dL_law_851 ?_
  refine va_sld hx hb hX hbl hbA hS (show vp_in (0 + 1) 4 from by unfold vp_in; decide) dL_law_852 ?_
  refine lv_topi (fun y ey => ?_)
  have hy : y = xs 1 := ey.trans (congrArg xs (by decide))
  subst hy
  refine lv_aload_n hx hb dL_law_853 rfl (lv_at hl 1 rfl) ?_
  refine lv_iload hx hb dL_law_854 (lv_at hl 5 rfl) ?_
  refine lv_iconst (v := 2) hx hb dL_law_856 (by decide) ?_
  refine lv_iadd hx hb dL_law_857 ?_
  refine va_sld hx hb hX hbl hbA hS (show vp_in (0 + 2) 4 from by unfold vp_in; decide) dL_law_858 ?_
  refine lv_topi (fun y ey => ?_)
  have hy : y = xs 2 := ey.trans (congrArg xs (by decide))
  subst hy
  refine va_calli (va_runV (As := [.int (xs 1), .int (xs 2)]) (rest := []) ⟨hx, hb, hml, hown, hts⟩ (hM H1.size) (cwV 2 hts gL_law_X4_apply rfl rfl rfl (by decide +kernel) ⟨(Nat.le_of_ble_eq_true rfl), (Nat.le_of_ble_eq_true rfl)⟩) (MP.preV hK hPm hDm) rfl rfl hl.1 rfl (lv_room (Nat.le_of_ble_eq_true rfl)) dL_law_859 ⟨(Nat.le_of_ble_eq_true rfl), (Nat.le_of_ble_eq_true rfl)⟩) hS (fun z _ h => va_A.all hDm (fun z h => Nat.le_trans hS.1 h) z h) (va_A.all hDm (fun z h => Nat.le_trans hS.1 h)) (fun r2 u2 t2 H2 locs ht2 hvm2 hp2 hB2 hz2 hk2 hS => ?_)
  obtain ⟨fs, hPt⟩ := hB2
  rw [ht2] at hPt
  refine lv_istore (lv' := [(6, .int r2), (5, .int r), (0, .ref b), (1, .ref x), (2, .ref (q 0)), (3, .ref o), (4, .int 0)]) hx hb dL_law_862 hl (by decide) rfl (fun ls hl => ?_)
  refine lv_aload_n hx hb dL_law_864 rfl (lv_at hl 4 rfl) ?_
  have hPo : va_P G vwCl [(o, eO k fo1)] H2 := fun i z hz => by
    have h9 : i < 1 := (List.getElem?_eq_some_iff.mp hz).1
    rw [show i = 0 by omega] at hz
    cases hz
    have hlt : o < H1.size := (hPo 0 _ rfl).lt
    refine (hPo 0 _ rfl).kept (hk2 o hlt (fun h => ?_))
    rcases h with ⟨i3, e3, h3⟩ | h3
    · exact (two_apart hPm0 hD i3 _ h3).2 (Or.inl ⟨wx.length, _, wL_o⟩)
    · exact absurd hlt (Nat.not_lt.mpr h3)
  refine br_call (W.runV (As := []) (rest := []) ⟨hx, hb, hml, hown, hts⟩ (m_thrown l G k (q 0) r fs) (cwV 0 hts gL_law_X4_thrown rfl rfl rfl (by decide +kernel) ⟨(Nat.le_of_ble_eq_true rfl), (Nat.le_of_ble_eq_true rfl)⟩) (PQ.preV hK hPt (ci := 4) (q0 := 0) rfl rfl) rfl rfl hl.1 rfl (lv_room (Nat.le_of_ble_eq_true rfl)) dL_law_865 ⟨(Nat.le_of_ble_eq_true rfl), (Nat.le_of_ble_eq_true rfl)⟩) ?_
  refine lv_iload hx hb dL_law_868 (lv_at hl 1 rfl) ?_
  refine lv_icmp_eq (tgt := 875) hx hb dL_law_870 (by decide) (fun _ => ?_) (fun c9 => absurd rfl c9)
  refine lv_iload hx hb dL_law_875 (lv_at hl 1 rfl) ?_
  refine lv_if_ne (tgt := 892) hx hb dL_law_877 (by decide) (fun h9 => ?_) (fun h9 => ?_)
  · refine lv_goto (tgt := 1191) hx hb dL_law_892 (by decide) ?_
    exact lc_end l C1 H2 locs ls hS (lv_sub hl [2, 6] rfl)
  · refine lv_aload_n hx hb dL_law_880 rfl (lv_at hl 5 rfl) ?_
    refine lv_iconst (v := 0) hx hb dL_law_881 (by decide) ?_
    refine va_lald hx hb hK hPo 0 5 rfl rfl (vp_in_nI (n := 0) (by decide) (by decide)) dL_law_882 ?_
    refine lv_topl (fun y ey => ?_)
    have hy : y = V.toInt64 := ey.trans (hf0.trans (hV h9))
    subst hy
    have hr2 : r2 = V := hp2 h9
    subst hr2
    refine lv_iload hx hb dL_law_883 (lv_at hl 0 rfl) ?_
    refine lv_i2l (v := Int32.toInt64 r2) hx hb dL_law_885 rfl ?_
    refine W.lcmp hx hb dL_law_886 ?_
    refine lv_if_eq (tgt := 892) hx hb dL_law_887 (by decide) (fun _ => ?_) (fun c9 => absurd ((lg_cmp_eq _ _).mpr rfl) c9)
    refine lv_goto (tgt := 1191) hx hb dL_law_892 (by decide) ?_
    exact lc_end l C1 H2 locs ls hS (lv_sub hl [2, 6] rfl)
set_option maxHeartbeats 4000000 in
set_option maxRecDepth 100000 in
/-- the law's case of get -/
theorem lc_get {p : Program} {e : Env} {s : State} {m : MethodId} {below : List Frame} {meth : Method} {c : Code} (l : Launch) {b : Nat} {xs : Nat → Int32} (C0 : lw_At p s m meth c b 4 xs) {G : va_G} {k : Nat → ClassId} (hI : IV G k (fun q : Nat => s.heap.size ≤ q) s) {wx : va_W} {o x : Nat} {fo : Nat → Int64} {q : Nat → Nat} {g7 g8 : Nat → Int32} (K V : Int32) (hC : ∀ sz, vx_Met l yL_get wsL_get (rzk 3 1 6) (PL G k sz (wL k wx o fo) [.ref x, .int (xs 1), .int (xs 2), .ref o]) (QL G k o K V (va_A (wL k wx o fo) sz)) (fun _ _ _ => False) 1 6 (va_A (wL k wx o fo) sz)) (hM : ∀ sz, Met l yX4_get wsX4_get (rzk 2 0 0) (MP G k sz q g7 g8 [.ref (q 0), .int (xs 1), .int (xs 2)]) (MQl G q K V (va_A (wM q k 0 (fun _ => 0) g7 g8) sz)) 0 0 (va_A (wM q k 0 (fun _ => 0) g7 g8) sz)) (H : Heap) (locs : List Loc) (ls : Array Slot) (hP : va_P G vwCl (wM q k 0 (fun _ => 0) g7 g8 ++ wL k wx o fo) H) (hD : va_D (fun q : Nat => s.heap.size ≤ q) (wM q k 0 (fun _ => 0) g7 g8 ++ wL k wx o fo)) (hS : va_S (fun q : Nat => s.heap.size ≤ q) s.heap H locs) (hl : lv_has ls 7 [(0, .ref b), (1, .ref x), (2, .ref (q 0)), (3, .ref o), (4, .int 0)]) : W p l e room_1 s m #[Value.ref b] below meth c H locs 87 83213 (lw_Z below #[Value.ref b] s) (F0 m 895 ls []) := by
  have C1 := C0
  obtain ⟨hx, hb, hr, hml, hown, hts0, hX, hbl, hlocks, hgv⟩ := C0
  have hts := fun w h => hts0 w (wsL_law_in w h)
  have hA : ∀ q : Nat, s.heap.size ≤ q → (fun q : Nat => s.heap.size ≤ q) q := fun _ h => h
  have hbA : ¬ (fun q : Nat => s.heap.size ≤ q) b := Nat.not_le.mpr hbl
  have hK := hI.1
  have hPm : va_P G vwCl (wM q k 0 (fun _ => 0) g7 g8) H := hP.mem (fun z hz => List.mem_append_left _ hz)
  have hPl : va_P G vwCl (wL k wx o fo) H := hP.mem (fun z hz => List.mem_append_right _ hz)
  have hDm := hD.left
  have hDl := hD.flip.left
  refine lv_aload_n hx hb dL_law_895 rfl (lv_at hl 1 rfl) ?_
  refine lv_aload_n hx hb dL_law_896 rfl (lv_at hl 0 rfl) ?_
  refine lv_iload hx hb dL_law_897 (lv_at hl 4 rfl) ?_
  refine lv_iconst (v := 1) hx hb dL_law_899 (by decide) ?_
  refine lv_iadd hx hb dL_law_900 ?_
  refine va_sld hx hb hX hbl hbA hS (show vp_in (0 + 1) 4 from by unfold vp_in; decide) dL_law_901 ?_
  refine lv_topi (fun y ey => ?_)
  have hy : y = xs 1 := ey.trans (congrArg xs (by decide))
  subst hy
  refine lv_aload_n hx hb dL_law_902 rfl (lv_at hl 0 rfl) ?_
  refine lv_iload hx hb dL_law_903 (lv_at hl 4 rfl) ?_
  refine lv_iconst (v := 2) hx hb dL_law_905 (by decide) ?_
  refine lv_iadd hx hb dL_law_906 ?_
  refine va_sld hx hb hX hbl hbA hS (show vp_in (0 + 2) 4 from by unfold vp_in; decide) dL_law_907 ?_
  refine lv_topi (fun y ey => ?_)
  have hy : y = xs 2 := ey.trans (congrArg xs (by decide))
  subst hy
  refine lv_aload_n hx hb dL_law_908 rfl (lv_at hl 3 rfl) ?_
  refine wl_call (vx_runSX (As := [.ref x, .int (xs 1), .int (xs 2), .ref o]) (rest := []) ⟨hx, hb, hml, hown, hts⟩ (hC H.size) (vx_cwSW 4 hts gL_law_L_get rfl rfl rfl (by decide +kernel) ⟨(Nat.le_of_ble_eq_true rfl), (Nat.le_of_ble_eq_true rfl)⟩) (PL.preS hI hS hA hPl hDl) rfl rfl hl.1 rfl (lv_room (Nat.le_of_ble_eq_true rfl)) dL_law_909 ⟨(Nat.le_of_ble_eq_true rfl), (Nat.le_of_ble_eq_true rfl)⟩) hS (fun z _ h => va_A.all hDl (fun z h => Nat.le_trans hS.1 h) z h) (va_A.all hDl (fun z h => Nat.le_trans hS.1 h)) (fun r u t H1 locs ht hp hB hk1 hS => ?_)
  obtain ⟨rfl, hV⟩ := hp
  obtain ⟨fo1, hPo, hf0⟩ := hB
  rw [ht] at hPo
  have hPm0 := two_keep hPm hD hk1
  have hPm := hPm0
  refine lv_istore (lv' := [(5, .int r), (0, .ref b), (1, .ref x), (2, .ref (q 0)), (3, .ref o), (4, .int 0)]) hx hb dL_law_912 hl (by decide) rfl (fun ls hl => ?_)
  refine lv_aload_n hx hb dL_law_914 rfl (lv_at hl 3 rfl) ?_
  refine lv_aload_n hx hb dL_law_915 rfl (lv_at hl 1 rfl) ?_
  refine lv_iload hx hb dL_law_916 (lv_at hl 5 rfl) ?_
  refine lv_iconst (v := 1) hx hb dL_law_918 (by decide) ?_
  refine lv_iadd hx hb dL_law_919 ?_
  refine va_sld hx hb hX hbl hbA hS (show vp_in (0 + 1) 4 from by unfold vp_in; decide) dL_law_920 ?_
  refine lv_topi (fun y ey => ?_)
  have hy : y = xs 1 := ey.trans (congrArg xs (by decide))
  subst hy
  refine lv_aload_n hx hb dL_law_921 rfl (lv_at hl 1 rfl) ?_
  refine lv_iload hx hb dL_law_922 (lv_at hl 5 rfl) ?_
  refine lv_iconst (v := 2) hx hb dL_law_924 (by decide) ?_
  refine lv_iadd hx hb dL_law_925 ?_
  refine va_sld hx hb hX hbl hbA hS (show vp_in (0 + 2) 4 from by unfold vp_in; decide) dL_law_926 ?_
  refine lv_topi (fun y ey => ?_)
  have hy : y = xs 2 := ey.trans (congrArg xs (by decide))
  subst hy
  refine va_calli (va_runV (As := [.int (xs 1), .int (xs 2)]) (rest := []) ⟨hx, hb, hml, hown, hts⟩ (hM H1.size) (cwV 2 hts gL_law_X4_get rfl rfl rfl (by decide +kernel) ⟨(Nat.le_of_ble_eq_true rfl), (Nat.le_of_ble_eq_true rfl)⟩) (MP.preV hK hPm hDm) rfl rfl hl.1 rfl (lv_room (Nat.le_of_ble_eq_true rfl)) dL_law_927 ⟨(Nat.le_of_ble_eq_true rfl), (Nat.le_of_ble_eq_true rfl)⟩) hS (fun z _ h => va_A.all hDm (fun z h => Nat.le_trans hS.1 h) z h) (va_A.all hDm (fun z h => Nat.le_trans hS.1 h)) (fun r2 u2 t2 H2 locs ht2 hvm2 hp2 hB2 hz2 hk2 hS => ?_)
  obtain ⟨fs, hPt⟩ := hB2
  rw [ht2] at hPt
  refine lv_istore (lv' := [(6, .int r2), (5, .int r), (0, .ref b), (1, .ref x), (2, .ref (q 0)), (3, .ref o), (4, .int 0)]) hx hb dL_law_930 hl (by decide) rfl (fun ls hl => ?_)
  refine lv_aload_n hx hb dL_law_932 rfl (lv_at hl 4 rfl) ?_
  have hPo : va_P G vwCl [(o, eO k fo1)] H2 := fun i z hz => by
    have h9 : i < 1 := (List.getElem?_eq_some_iff.mp hz).1
    rw [show i = 0 by omega] at hz
    cases hz
    have hlt : o < H1.size := (hPo 0 _ rfl).lt
    refine (hPo 0 _ rfl).kept (hk2 o hlt (fun h => ?_))
    rcases h with ⟨i3, e3, h3⟩ | h3
    · exact (two_apart hPm0 hD i3 _ h3).2 (Or.inl ⟨wx.length, _, wL_o⟩)
    · exact absurd hlt (Nat.not_lt.mpr h3)
  refine br_call (W.runV (As := []) (rest := []) ⟨hx, hb, hml, hown, hts⟩ (m_thrown l G k (q 0) r fs) (cwV 0 hts gL_law_X4_thrown rfl rfl rfl (by decide +kernel) ⟨(Nat.le_of_ble_eq_true rfl), (Nat.le_of_ble_eq_true rfl)⟩) (PQ.preV hK hPt (ci := 4) (q0 := 0) rfl rfl) rfl rfl hl.1 rfl (lv_room (Nat.le_of_ble_eq_true rfl)) dL_law_933 ⟨(Nat.le_of_ble_eq_true rfl), (Nat.le_of_ble_eq_true rfl)⟩) ?_
  refine lv_iload hx hb dL_law_936 (lv_at hl 1 rfl) ?_
  refine lv_icmp_eq (tgt := 943) hx hb dL_law_938 (by decide) (fun _ => ?_) (fun c9 => absurd rfl c9)
  refine lv_iload hx hb dL_law_943 (lv_at hl 1 rfl) ?_
  refine lv_if_ne (tgt := 960) hx hb dL_law_945 (by decide) (fun h9 => ?_) (fun h9 => ?_)
  · refine lv_goto (tgt := 1191) hx hb dL_law_960 (by decide) ?_
    exact lc_end l C1 H2 locs ls hS (lv_sub hl [2, 6] rfl)
  · refine lv_aload_n hx hb dL_law_948 rfl (lv_at hl 5 rfl) ?_
    refine lv_iconst (v := 0) hx hb dL_law_949 (by decide) ?_
    refine va_lald hx hb hK hPo 0 5 rfl rfl (vp_in_nI (n := 0) (by decide) (by decide)) dL_law_950 ?_
    refine lv_topl (fun y ey => ?_)
    have hy : y = V.toInt64 := ey.trans (hf0.trans (hV h9))
    subst hy
    have hr2 : r2 = V := hp2 h9
    subst hr2
    refine lv_iload hx hb dL_law_951 (lv_at hl 0 rfl) ?_
    refine lv_i2l (v := Int32.toInt64 r2) hx hb dL_law_953 rfl ?_
    refine W.lcmp hx hb dL_law_954 ?_
    refine lv_if_eq (tgt := 960) hx hb dL_law_955 (by decide) (fun _ => ?_) (fun c9 => absurd ((lg_cmp_eq _ _).mpr rfl) c9)
    refine lv_goto (tgt := 1191) hx hb dL_law_960 (by decide) ?_
    exact lc_end l C1 H2 locs ls hS (lv_sub hl [2, 6] rfl)
set_option maxHeartbeats 4000000 in
set_option maxRecDepth 100000 in
/-- the law's case of byteAt -/
theorem lc_byteAt {p : Program} {e : Env} {s : State} {m : MethodId} {below : List Frame} {meth : Method} {c : Code} (l : Launch) {b : Nat} {xs : Nat → Int32} (C0 : lw_At p s m meth c b 4 xs) {G : va_G} {k : Nat → ClassId} (hI : IV G k (fun q : Nat => s.heap.size ≤ q) s) {wx : va_W} {o x : Nat} {fo : Nat → Int64} {q : Nat → Nat} {g7 g8 : Nat → Int32} (K V : Int32) (hC : ∀ sz, vx_Met l yL_byteAt wsL_byteAt (rzk 3 1 6) (PL G k sz (wL k wx o fo) [.ref x, .int (xs 1), .int (xs 2), .int (xs 3), .ref o]) (QL G k o K V (va_A (wL k wx o fo) sz)) (fun _ _ _ => False) 1 6 (va_A (wL k wx o fo) sz)) (hM : ∀ sz, Met l yX4_byteAt wsX4_byteAt (rzk 2 0 0) (MP G k sz q g7 g8 [.ref (q 0), .int (xs 1), .int (xs 2), .int (xs 3)]) (MQl G q K V (va_A (wM q k 0 (fun _ => 0) g7 g8) sz)) 0 0 (va_A (wM q k 0 (fun _ => 0) g7 g8) sz)) (H : Heap) (locs : List Loc) (ls : Array Slot) (hP : va_P G vwCl (wM q k 0 (fun _ => 0) g7 g8 ++ wL k wx o fo) H) (hD : va_D (fun q : Nat => s.heap.size ≤ q) (wM q k 0 (fun _ => 0) g7 g8 ++ wL k wx o fo)) (hS : va_S (fun q : Nat => s.heap.size ≤ q) s.heap H locs) (hl : lv_has ls 7 [(0, .ref b), (1, .ref x), (2, .ref (q 0)), (3, .ref o), (4, .int 0)]) : W p l e room_1 s m #[Value.ref b] below meth c H locs 87 83213 (lw_Z below #[Value.ref b] s) (F0 m 963 ls []) := by
  have C1 := C0
  obtain ⟨hx, hb, hr, hml, hown, hts0, hX, hbl, hlocks, hgv⟩ := C0
  have hts := fun w h => hts0 w (wsL_law_in w h)
  have hA : ∀ q : Nat, s.heap.size ≤ q → (fun q : Nat => s.heap.size ≤ q) q := fun _ h => h
  have hbA : ¬ (fun q : Nat => s.heap.size ≤ q) b := Nat.not_le.mpr hbl
  have hK := hI.1
  have hPm : va_P G vwCl (wM q k 0 (fun _ => 0) g7 g8) H := hP.mem (fun z hz => List.mem_append_left _ hz)
  have hPl : va_P G vwCl (wL k wx o fo) H := hP.mem (fun z hz => List.mem_append_right _ hz)
  have hDm := hD.left
  have hDl := hD.flip.left
  refine lv_aload_n hx hb dL_law_963 rfl (lv_at hl 1 rfl) ?_
  refine lv_aload_n hx hb dL_law_964 rfl (lv_at hl 0 rfl) ?_
  refine lv_iload hx hb dL_law_965 (lv_at hl 4 rfl) ?_
  refine lv_iconst (v := 1) hx hb dL_law_967 (by decide) ?_
  refine lv_iadd hx hb dL_law_968 ?_
  refine va_sld hx hb hX hbl hbA hS (show vp_in (0 + 1) 4 from by unfold vp_in; decide) dL_law_969 ?_
  refine lv_topi (fun y ey => ?_)
  have hy : y = xs 1 := ey.trans (congrArg xs (by decide))
  subst hy
  refine lv_aload_n hx hb dL_law_970 rfl (lv_at hl 0 rfl) ?_
  refine lv_iload hx hb dL_law_971 (lv_at hl 4 rfl) ?_
  refine lv_iconst (v := 2) hx hb dL_law_973 (by decide) ?_
  refine lv_iadd hx hb dL_law_974 ?_
  refine va_sld hx hb hX hbl hbA hS (show vp_in (0 + 2) 4 from by unfold vp_in; decide) dL_law_975 ?_
  refine lv_topi (fun y ey => ?_)
  have hy : y = xs 2 := ey.trans (congrArg xs (by decide))
  subst hy
  refine lv_aload_n hx hb dL_law_976 rfl (lv_at hl 0 rfl) ?_
  refine lv_iload hx hb dL_law_977 (lv_at hl 4 rfl) ?_
  refine lv_iconst (v := 3) hx hb dL_law_979 (by decide) ?_
  refine lv_iadd hx hb dL_law_980 ?_
  refine va_sld hx hb hX hbl hbA hS (show vp_in (0 + 3) 4 from by unfold vp_in; decide) dL_law_981 ?_
  refine lv_topi (fun y ey => ?_)
  have hy : y = xs 3 := ey.trans (congrArg xs (by decide))
  subst hy
  refine lv_aload_n hx hb dL_law_982 rfl (lv_at hl 3 rfl) ?_
  refine wl_call (vx_runSX (As := [.ref x, .int (xs 1), .int (xs 2), .int (xs 3), .ref o]) (rest := []) ⟨hx, hb, hml, hown, hts⟩ (hC H.size) (vx_cwSW 5 hts gL_law_L_byteAt rfl rfl rfl (by decide +kernel) ⟨(Nat.le_of_ble_eq_true rfl), (Nat.le_of_ble_eq_true rfl)⟩) (PL.preS hI hS hA hPl hDl) rfl rfl hl.1 rfl (lv_room (Nat.le_of_ble_eq_true rfl)) dL_law_983 ⟨(Nat.le_of_ble_eq_true rfl), (Nat.le_of_ble_eq_true rfl)⟩) hS (fun z _ h => va_A.all hDl (fun z h => Nat.le_trans hS.1 h) z h) (va_A.all hDl (fun z h => Nat.le_trans hS.1 h)) (fun r u t H1 locs ht hp hB hk1 hS => ?_)
  obtain ⟨rfl, hV⟩ := hp
  obtain ⟨fo1, hPo, hf0⟩ := hB
  rw [ht] at hPo
  have hPm0 := two_keep hPm hD hk1
  have hPm := hPm0
  refine lv_istore (lv' := [(5, .int r), (0, .ref b), (1, .ref x), (2, .ref (q 0)), (3, .ref o), (4, .int 0)]) hx hb dL_law_986 hl (by decide) rfl (fun ls hl => ?_)
  refine lv_aload_n hx hb dL_law_988 rfl (lv_at hl 3 rfl) ?_
  refine lv_aload_n hx hb dL_law_989 rfl (lv_at hl 1 rfl) ?_
  refine lv_iload hx hb dL_law_990 (lv_at hl 5 rfl) ?_
  refine lv_iconst (v := 1) hx hb dL_law_992 (by decide) ?_
  refine lv_iadd hx hb dL_law_993 ?_
  refine va_sld hx hb hX hbl hbA hS (show vp_in (0 + 1) 4 from by unfold vp_in; decide) dL_law_994 ?_
  refine lv_topi (fun y ey => ?_)
  have hy : y = xs 1 := ey.trans (congrArg xs (by decide))
  subst hy
  refine lv_aload_n hx hb dL_law_995 rfl (lv_at hl 1 rfl) ?_
  refine lv_iload hx hb dL_law_996 (lv_at hl 5 rfl) ?_
  refine lv_iconst (v := 2) hx hb dL_law_998 (by decide) ?_
  refine lv_iadd hx hb dL_law_999 ?_
  refine va_sld hx hb hX hbl hbA hS (show vp_in (0 + 2) 4 from by unfold vp_in; decide) dL_law_1000 ?_
  refine lv_topi (fun y ey => ?_)
  have hy : y = xs 2 := ey.trans (congrArg xs (by decide))
  subst hy
  refine lv_aload_n hx hb dL_law_1001 rfl (lv_at hl 1 rfl) ?_
  refine lv_iload hx hb dL_law_1002 (lv_at hl 5 rfl) ?_
  refine lv_iconst (v := 3) hx hb dL_law_1004 (by decide) ?_
  refine lv_iadd hx hb dL_law_1005 ?_
  refine va_sld hx hb hX hbl hbA hS (show vp_in (0 + 3) 4 from by unfold vp_in; decide) dL_law_1006 ?_
  refine lv_topi (fun y ey => ?_)
  have hy : y = xs 3 := ey.trans (congrArg xs (by decide))
  subst hy
  refine va_calli (va_runV (As := [.int (xs 1), .int (xs 2), .int (xs 3)]) (rest := []) ⟨hx, hb, hml, hown, hts⟩ (hM H1.size) (cwV 3 hts gL_law_X4_byteAt rfl rfl rfl (by decide +kernel) ⟨(Nat.le_of_ble_eq_true rfl), (Nat.le_of_ble_eq_true rfl)⟩) (MP.preV hK hPm hDm) rfl rfl hl.1 rfl (lv_room (Nat.le_of_ble_eq_true rfl)) dL_law_1007 ⟨(Nat.le_of_ble_eq_true rfl), (Nat.le_of_ble_eq_true rfl)⟩) hS (fun z _ h => va_A.all hDm (fun z h => Nat.le_trans hS.1 h) z h) (va_A.all hDm (fun z h => Nat.le_trans hS.1 h)) (fun r2 u2 t2 H2 locs ht2 hvm2 hp2 hB2 hz2 hk2 hS => ?_)
  obtain ⟨fs, hPt⟩ := hB2
  rw [ht2] at hPt
  refine lv_istore (lv' := [(6, .int r2), (5, .int r), (0, .ref b), (1, .ref x), (2, .ref (q 0)), (3, .ref o), (4, .int 0)]) hx hb dL_law_1010 hl (by decide) rfl (fun ls hl => ?_)
  refine lv_aload_n hx hb dL_law_1012 rfl (lv_at hl 4 rfl) ?_
  have hPo : va_P G vwCl [(o, eO k fo1)] H2 := fun i z hz => by
    have h9 : i < 1 := (List.getElem?_eq_some_iff.mp hz).1
    rw [show i = 0 by omega] at hz
    cases hz
    have hlt : o < H1.size := (hPo 0 _ rfl).lt
    refine (hPo 0 _ rfl).kept (hk2 o hlt (fun h => ?_))
    rcases h with ⟨i3, e3, h3⟩ | h3
    · exact (two_apart hPm0 hD i3 _ h3).2 (Or.inl ⟨wx.length, _, wL_o⟩)
    · exact absurd hlt (Nat.not_lt.mpr h3)
  refine br_call (W.runV (As := []) (rest := []) ⟨hx, hb, hml, hown, hts⟩ (m_thrown l G k (q 0) r fs) (cwV 0 hts gL_law_X4_thrown rfl rfl rfl (by decide +kernel) ⟨(Nat.le_of_ble_eq_true rfl), (Nat.le_of_ble_eq_true rfl)⟩) (PQ.preV hK hPt (ci := 4) (q0 := 0) rfl rfl) rfl rfl hl.1 rfl (lv_room (Nat.le_of_ble_eq_true rfl)) dL_law_1013 ⟨(Nat.le_of_ble_eq_true rfl), (Nat.le_of_ble_eq_true rfl)⟩) ?_
  refine lv_iload hx hb dL_law_1016 (lv_at hl 1 rfl) ?_
  refine lv_icmp_eq (tgt := 1023) hx hb dL_law_1018 (by decide) (fun _ => ?_) (fun c9 => absurd rfl c9)
  refine lv_iload hx hb dL_law_1023 (lv_at hl 1 rfl) ?_
  refine lv_if_ne (tgt := 1040) hx hb dL_law_1025 (by decide) (fun h9 => ?_) (fun h9 => ?_)
  · refine lv_goto (tgt := 1191) hx hb dL_law_1040 (by decide) ?_
    exact lc_end l C1 H2 locs ls hS (lv_sub hl [2, 6] rfl)
  · refine lv_aload_n hx hb dL_law_1028 rfl (lv_at hl 5 rfl) ?_
    refine lv_iconst (v := 0) hx hb dL_law_1029 (by decide) ?_
    refine va_lald hx hb hK hPo 0 5 rfl rfl (vp_in_nI (n := 0) (by decide) (by decide)) dL_law_1030 ?_
    refine lv_topl (fun y ey => ?_)
    have hy : y = V.toInt64 := ey.trans (hf0.trans (hV h9))
    subst hy
    have hr2 : r2 = V := hp2 h9
    subst hr2
    refine lv_iload hx hb dL_law_1031 (lv_at hl 0 rfl) ?_
    refine lv_i2l (v := Int32.toInt64 r2) hx hb dL_law_1033 rfl ?_
    refine W.lcmp hx hb dL_law_1034 ?_
    refine lv_if_eq (tgt := 1040) hx hb dL_law_1035 (by decide) (fun _ => ?_) (fun c9 => absurd ((lg_cmp_eq _ _).mpr rfl) c9)
    refine lv_goto (tgt := 1191) hx hb dL_law_1040 (by decide) ?_
    exact lc_end l C1 H2 locs ls hS (lv_sub hl [2, 6] rfl)
set_option maxHeartbeats 4000000 in
set_option maxRecDepth 100000 in
/-- the law's case of node -/
theorem lc_node {p : Program} {e : Env} {s : State} {m : MethodId} {below : List Frame} {meth : Method} {c : Code} (l : Launch) {b : Nat} {xs : Nat → Int32} (C0 : lw_At p s m meth c b 4 xs) {G : va_G} {k : Nat → ClassId} (hI : IV G k (fun q : Nat => s.heap.size ≤ q) s) {wx : va_W} {o x : Nat} {fo : Nat → Int64} {q : Nat → Nat} {g7 g8 : Nat → Int32} (K V : Int32) (hC : ∀ sz, vx_Met l yL_node wsL_node (rzk 3 1 6) (PL G k sz (wL k wx o fo) [.ref x, .int (xs 1), .int (xs 2), .ref o]) (QL G k o K V (va_A (wL k wx o fo) sz)) (fun _ _ _ => False) 1 6 (va_A (wL k wx o fo) sz)) (hM : ∀ sz, Met l yX4_node wsX4_node (rzk 2 0 0) (MP G k sz q g7 g8 [.ref (q 0), .int (xs 1), .int (xs 2)]) (MQl G q K V (va_A (wM q k 0 (fun _ => 0) g7 g8) sz)) 0 0 (va_A (wM q k 0 (fun _ => 0) g7 g8) sz)) (H : Heap) (locs : List Loc) (ls : Array Slot) (hP : va_P G vwCl (wM q k 0 (fun _ => 0) g7 g8 ++ wL k wx o fo) H) (hD : va_D (fun q : Nat => s.heap.size ≤ q) (wM q k 0 (fun _ => 0) g7 g8 ++ wL k wx o fo)) (hS : va_S (fun q : Nat => s.heap.size ≤ q) s.heap H locs) (hl : lv_has ls 7 [(0, .ref b), (1, .ref x), (2, .ref (q 0)), (3, .ref o), (4, .int 0)]) : W p l e room_1 s m #[Value.ref b] below meth c H locs 87 83213 (lw_Z below #[Value.ref b] s) (F0 m 1043 ls []) := by
  have C1 := C0
  obtain ⟨hx, hb, hr, hml, hown, hts0, hX, hbl, hlocks, hgv⟩ := C0
  have hts := fun w h => hts0 w (wsL_law_in w h)
  have hA : ∀ q : Nat, s.heap.size ≤ q → (fun q : Nat => s.heap.size ≤ q) q := fun _ h => h
  have hbA : ¬ (fun q : Nat => s.heap.size ≤ q) b := Nat.not_le.mpr hbl
  have hK := hI.1
  have hPm : va_P G vwCl (wM q k 0 (fun _ => 0) g7 g8) H := hP.mem (fun z hz => List.mem_append_left _ hz)
  have hPl : va_P G vwCl (wL k wx o fo) H := hP.mem (fun z hz => List.mem_append_right _ hz)
  have hDm := hD.left
  have hDl := hD.flip.left
  refine lv_aload_n hx hb dL_law_1043 rfl (lv_at hl 1 rfl) ?_
  refine lv_aload_n hx hb dL_law_1044 rfl (lv_at hl 0 rfl) ?_
  refine lv_iload hx hb dL_law_1045 (lv_at hl 4 rfl) ?_
  refine lv_iconst (v := 1) hx hb dL_law_1047 (by decide) ?_
  refine lv_iadd hx hb dL_law_1048 ?_
  refine va_sld hx hb hX hbl hbA hS (show vp_in (0 + 1) 4 from by unfold vp_in; decide) dL_law_1049 ?_
  refine lv_topi (fun y ey => ?_)
  have hy : y = xs 1 := ey.trans (congrArg xs (by decide))
  subst hy
  refine lv_aload_n hx hb dL_law_1050 rfl (lv_at hl 0 rfl) ?_
  refine lv_iload hx hb dL_law_1051 (lv_at hl 4 rfl) ?_
  refine lv_iconst (v := 2) hx hb dL_law_1053 (by decide) ?_
  refine lv_iadd hx hb dL_law_1054 ?_
  refine va_sld hx hb hX hbl hbA hS (show vp_in (0 + 2) 4 from by unfold vp_in; decide) dL_law_1055 ?_
  refine lv_topi (fun y ey => ?_)
  have hy : y = xs 2 := ey.trans (congrArg xs (by decide))
  subst hy
  refine lv_aload_n hx hb dL_law_1056 rfl (lv_at hl 3 rfl) ?_
  refine wl_call (vx_runSX (As := [.ref x, .int (xs 1), .int (xs 2), .ref o]) (rest := []) ⟨hx, hb, hml, hown, hts⟩ (hC H.size) (vx_cwSW 4 hts gL_law_L_node rfl rfl rfl (by decide +kernel) ⟨(Nat.le_of_ble_eq_true rfl), (Nat.le_of_ble_eq_true rfl)⟩) (PL.preS hI hS hA hPl hDl) rfl rfl hl.1 rfl (lv_room (Nat.le_of_ble_eq_true rfl)) dL_law_1057 ⟨(Nat.le_of_ble_eq_true rfl), (Nat.le_of_ble_eq_true rfl)⟩) hS (fun z _ h => va_A.all hDl (fun z h => Nat.le_trans hS.1 h) z h) (va_A.all hDl (fun z h => Nat.le_trans hS.1 h)) (fun r u t H1 locs ht hp hB hk1 hS => ?_)
  obtain ⟨rfl, hV⟩ := hp
  obtain ⟨fo1, hPo, hf0⟩ := hB
  rw [ht] at hPo
  have hPm0 := two_keep hPm hD hk1
  have hPm := hPm0
  refine lv_istore (lv' := [(5, .int r), (0, .ref b), (1, .ref x), (2, .ref (q 0)), (3, .ref o), (4, .int 0)]) hx hb dL_law_1060 hl (by decide) rfl (fun ls hl => ?_)
  refine lv_aload_n hx hb dL_law_1062 rfl (lv_at hl 3 rfl) ?_
  refine lv_aload_n hx hb dL_law_1063 rfl (lv_at hl 1 rfl) ?_
  refine lv_iload hx hb dL_law_1064 (lv_at hl 5 rfl) ?_
  refine lv_iconst (v := 1) hx hb dL_law_1066 (by decide) ?_
  refine lv_iadd hx hb dL_law_1067 ?_
  refine va_sld hx hb hX hbl hbA hS (show vp_in (0 + 1) 4 from by unfold vp_in; decide) dL_law_1068 ?_
  refine lv_topi (fun y ey => ?_)
  have hy : y = xs 1 := ey.trans (congrArg xs (by decide))
  subst hy
  refine lv_aload_n hx hb dL_law_1069 rfl (lv_at hl 1 rfl) ?_
  refine lv_iload hx hb dL_law_1070 (lv_at hl 5 rfl) ?_
  refine lv_iconst (v := 2) hx hb dL_law_1072 (by decide) ?_
  refine lv_iadd hx hb dL_law_1073 ?_
  refine va_sld hx hb hX hbl hbA hS (show vp_in (0 + 2) 4 from by unfold vp_in; decide) dL_law_1074 ?_
  refine lv_topi (fun y ey => ?_)
  have hy : y = xs 2 := ey.trans (congrArg xs (by decide))
  subst hy
  refine va_calli (va_runV (As := [.int (xs 1), .int (xs 2)]) (rest := []) ⟨hx, hb, hml, hown, hts⟩ (hM H1.size) (cwV 2 hts gL_law_X4_node rfl rfl rfl (by decide +kernel) ⟨(Nat.le_of_ble_eq_true rfl), (Nat.le_of_ble_eq_true rfl)⟩) (MP.preV hK hPm hDm) rfl rfl hl.1 rfl (lv_room (Nat.le_of_ble_eq_true rfl)) dL_law_1075 ⟨(Nat.le_of_ble_eq_true rfl), (Nat.le_of_ble_eq_true rfl)⟩) hS (fun z _ h => va_A.all hDm (fun z h => Nat.le_trans hS.1 h) z h) (va_A.all hDm (fun z h => Nat.le_trans hS.1 h)) (fun r2 u2 t2 H2 locs ht2 hvm2 hp2 hB2 hz2 hk2 hS => ?_)
  obtain ⟨fs, hPt⟩ := hB2
  rw [ht2] at hPt
  refine lv_istore (lv' := [(6, .int r2), (5, .int r), (0, .ref b), (1, .ref x), (2, .ref (q 0)), (3, .ref o), (4, .int 0)]) hx hb dL_law_1078 hl (by decide) rfl (fun ls hl => ?_)
  refine lv_aload_n hx hb dL_law_1080 rfl (lv_at hl 4 rfl) ?_
  have hPo : va_P G vwCl [(o, eO k fo1)] H2 := fun i z hz => by
    have h9 : i < 1 := (List.getElem?_eq_some_iff.mp hz).1
    rw [show i = 0 by omega] at hz
    cases hz
    have hlt : o < H1.size := (hPo 0 _ rfl).lt
    refine (hPo 0 _ rfl).kept (hk2 o hlt (fun h => ?_))
    rcases h with ⟨i3, e3, h3⟩ | h3
    · exact (two_apart hPm0 hD i3 _ h3).2 (Or.inl ⟨wx.length, _, wL_o⟩)
    · exact absurd hlt (Nat.not_lt.mpr h3)
  refine br_call (W.runV (As := []) (rest := []) ⟨hx, hb, hml, hown, hts⟩ (m_thrown l G k (q 0) r fs) (cwV 0 hts gL_law_X4_thrown rfl rfl rfl (by decide +kernel) ⟨(Nat.le_of_ble_eq_true rfl), (Nat.le_of_ble_eq_true rfl)⟩) (PQ.preV hK hPt (ci := 4) (q0 := 0) rfl rfl) rfl rfl hl.1 rfl (lv_room (Nat.le_of_ble_eq_true rfl)) dL_law_1081 ⟨(Nat.le_of_ble_eq_true rfl), (Nat.le_of_ble_eq_true rfl)⟩) ?_
  refine lv_iload hx hb dL_law_1084 (lv_at hl 1 rfl) ?_
  refine lv_icmp_eq (tgt := 1091) hx hb dL_law_1086 (by decide) (fun _ => ?_) (fun c9 => absurd rfl c9)
  refine lv_iload hx hb dL_law_1091 (lv_at hl 1 rfl) ?_
  refine lv_if_ne (tgt := 1108) hx hb dL_law_1093 (by decide) (fun h9 => ?_) (fun h9 => ?_)
  · refine lv_goto (tgt := 1191) hx hb dL_law_1108 (by decide) ?_
    exact lc_end l C1 H2 locs ls hS (lv_sub hl [2, 6] rfl)
  · refine lv_aload_n hx hb dL_law_1096 rfl (lv_at hl 5 rfl) ?_
    refine lv_iconst (v := 0) hx hb dL_law_1097 (by decide) ?_
    refine va_lald hx hb hK hPo 0 5 rfl rfl (vp_in_nI (n := 0) (by decide) (by decide)) dL_law_1098 ?_
    refine lv_topl (fun y ey => ?_)
    have hy : y = V.toInt64 := ey.trans (hf0.trans (hV h9))
    subst hy
    have hr2 : r2 = V := hp2 h9
    subst hr2
    refine lv_iload hx hb dL_law_1099 (lv_at hl 0 rfl) ?_
    refine lv_i2l (v := Int32.toInt64 r2) hx hb dL_law_1101 rfl ?_
    refine W.lcmp hx hb dL_law_1102 ?_
    refine lv_if_eq (tgt := 1108) hx hb dL_law_1103 (by decide) (fun _ => ?_) (fun c9 => absurd ((lg_cmp_eq _ _).mpr rfl) c9)
    refine lv_goto (tgt := 1191) hx hb dL_law_1108 (by decide) ?_
    exact lc_end l C1 H2 locs ls hS (lv_sub hl [2, 6] rfl)
set_option maxHeartbeats 4000000 in
set_option maxRecDepth 100000 in
/-- the law's case of link -/
theorem lc_link {p : Program} {e : Env} {s : State} {m : MethodId} {below : List Frame} {meth : Method} {c : Code} (l : Launch) {b : Nat} {xs : Nat → Int32} (C0 : lw_At p s m meth c b 4 xs) {G : va_G} {k : Nat → ClassId} (hI : IV G k (fun q : Nat => s.heap.size ≤ q) s) {wx : va_W} {o x : Nat} {fo : Nat → Int64} {q : Nat → Nat} {g7 g8 : Nat → Int32} (K V : Int32) (hC : ∀ sz, vx_Met l yL_link wsL_link (rzk 3 1 6) (PL G k sz (wL k wx o fo) [.ref x, .int (xs 1), .int (xs 2), .int (xs 3), .ref o]) (QL G k o K V (va_A (wL k wx o fo) sz)) (fun _ _ _ => False) 1 6 (va_A (wL k wx o fo) sz)) (hM : ∀ sz, Met l yX4_link wsX4_link (rzk 2 0 0) (MP G k sz q g7 g8 [.ref (q 0), .int (xs 1), .int (xs 2), .int (xs 3)]) (MQl G q K V (va_A (wM q k 0 (fun _ => 0) g7 g8) sz)) 0 0 (va_A (wM q k 0 (fun _ => 0) g7 g8) sz)) (H : Heap) (locs : List Loc) (ls : Array Slot) (hP : va_P G vwCl (wM q k 0 (fun _ => 0) g7 g8 ++ wL k wx o fo) H) (hD : va_D (fun q : Nat => s.heap.size ≤ q) (wM q k 0 (fun _ => 0) g7 g8 ++ wL k wx o fo)) (hS : va_S (fun q : Nat => s.heap.size ≤ q) s.heap H locs) (hl : lv_has ls 7 [(0, .ref b), (1, .ref x), (2, .ref (q 0)), (3, .ref o), (4, .int 0)]) : W p l e room_1 s m #[Value.ref b] below meth c H locs 87 83213 (lw_Z below #[Value.ref b] s) (F0 m 1111 ls []) := by
  have C1 := C0
  obtain ⟨hx, hb, hr, hml, hown, hts0, hX, hbl, hlocks, hgv⟩ := C0
  have hts := fun w h => hts0 w (wsL_law_in w h)
  have hA : ∀ q : Nat, s.heap.size ≤ q → (fun q : Nat => s.heap.size ≤ q) q := fun _ h => h
  have hbA : ¬ (fun q : Nat => s.heap.size ≤ q) b := Nat.not_le.mpr hbl
  have hK := hI.1
  have hPm : va_P G vwCl (wM q k 0 (fun _ => 0) g7 g8) H := hP.mem (fun z hz => List.mem_append_left _ hz)
  have hPl : va_P G vwCl (wL k wx o fo) H := hP.mem (fun z hz => List.mem_append_right _ hz)
  have hDm := hD.left
  have hDl := hD.flip.left
  refine lv_aload_n hx hb dL_law_1111 rfl (lv_at hl 1 rfl) ?_
  refine lv_aload_n hx hb dL_law_1112 rfl (lv_at hl 0 rfl) ?_
  refine lv_iload hx hb dL_law_1113 (lv_at hl 4 rfl) ?_
  refine lv_iconst (v := 1) hx hb dL_law_1115 (by decide) ?_
  refine lv_iadd hx hb dL_law_1116 ?_
  refine va_sld hx hb hX hbl hbA hS (show vp_in (0 + 1) 4 from by unfold vp_in; decide) dL_law_1117 ?_
  refine lv_topi (fun y ey => ?_)
  have hy : y = xs 1 := ey.trans (congrArg xs (by decide))
  subst hy
  refine lv_aload_n hx hb dL_law_1118 rfl (lv_at hl 0 rfl) ?_
  refine lv_iload hx hb dL_law_1119 (lv_at hl 4 rfl) ?_
  refine lv_iconst (v := 2) hx hb dL_law_1121 (by decide) ?_
  refine lv_iadd hx hb dL_law_1122 ?_
  refine va_sld hx hb hX hbl hbA hS (show vp_in (0 + 2) 4 from by unfold vp_in; decide) dL_law_1123 ?_
  refine lv_topi (fun y ey => ?_)
  have hy : y = xs 2 := ey.trans (congrArg xs (by decide))
  subst hy
  refine lv_aload_n hx hb dL_law_1124 rfl (lv_at hl 0 rfl) ?_
  refine lv_iload hx hb dL_law_1125 (lv_at hl 4 rfl) ?_
  refine lv_iconst (v := 3) hx hb dL_law_1127 (by decide) ?_
  refine lv_iadd hx hb dL_law_1128 ?_
  refine va_sld hx hb hX hbl hbA hS (show vp_in (0 + 3) 4 from by unfold vp_in; decide) dL_law_1129 ?_
  refine lv_topi (fun y ey => ?_)
  have hy : y = xs 3 := ey.trans (congrArg xs (by decide))
  subst hy
  refine lv_aload_n hx hb dL_law_1130 rfl (lv_at hl 3 rfl) ?_
  refine wl_call (vx_runSX (As := [.ref x, .int (xs 1), .int (xs 2), .int (xs 3), .ref o]) (rest := []) ⟨hx, hb, hml, hown, hts⟩ (hC H.size) (vx_cwSW 5 hts gL_law_L_link rfl rfl rfl (by decide +kernel) ⟨(Nat.le_of_ble_eq_true rfl), (Nat.le_of_ble_eq_true rfl)⟩) (PL.preS hI hS hA hPl hDl) rfl rfl hl.1 rfl (lv_room (Nat.le_of_ble_eq_true rfl)) dL_law_1131 ⟨(Nat.le_of_ble_eq_true rfl), (Nat.le_of_ble_eq_true rfl)⟩) hS (fun z _ h => va_A.all hDl (fun z h => Nat.le_trans hS.1 h) z h) (va_A.all hDl (fun z h => Nat.le_trans hS.1 h)) (fun r u t H1 locs ht hp hB hk1 hS => ?_)
  obtain ⟨rfl, hV⟩ := hp
  obtain ⟨fo1, hPo, hf0⟩ := hB
  rw [ht] at hPo
  have hPm0 := two_keep hPm hD hk1
  have hPm := hPm0
  refine lv_istore (lv' := [(5, .int r), (0, .ref b), (1, .ref x), (2, .ref (q 0)), (3, .ref o), (4, .int 0)]) hx hb dL_law_1134 hl (by decide) rfl (fun ls hl => ?_)
  refine lv_aload_n hx hb dL_law_1136 rfl (lv_at hl 3 rfl) ?_
  refine lv_aload_n hx hb dL_law_1137 rfl (lv_at hl 1 rfl) ?_
  refine lv_iload hx hb dL_law_1138 (lv_at hl 5 rfl) ?_
  refine lv_iconst (v := 1) hx hb dL_law_1140 (by decide) ?_
  refine lv_iadd hx hb dL_law_1141 ?_
  refine va_sld hx hb hX hbl hbA hS (show vp_in (0 + 1) 4 from by unfold vp_in; decide) dL_law_1142 ?_
  refine lv_topi (fun y ey => ?_)
  have hy : y = xs 1 := ey.trans (congrArg xs (by decide))
  subst hy
  refine lv_aload_n hx hb dL_law_1143 rfl (lv_at hl 1 rfl) ?_
  refine lv_iload hx hb dL_law_1144 (lv_at hl 5 rfl) ?_
  refine lv_iconst (v := 2) hx hb dL_law_1146 (by decide) ?_
  refine lv_iadd hx hb dL_law_1147 ?_
  refine va_sld hx hb hX hbl hbA hS (show vp_in (0 + 2) 4 from by unfold vp_in; decide) dL_law_1148 ?_
  refine lv_topi (fun y ey => ?_)
  have hy : y = xs 2 := ey.trans (congrArg xs (by decide))
  subst hy
  refine lv_aload_n hx hb dL_law_1149 rfl (lv_at hl 1 rfl) ?_
  refine lv_iload hx hb dL_law_1150 (lv_at hl 5 rfl) ?_
  refine lv_iconst (v := 3) hx hb dL_law_1152 (by decide) ?_
  refine lv_iadd hx hb dL_law_1153 ?_
  refine va_sld hx hb hX hbl hbA hS (show vp_in (0 + 3) 4 from by unfold vp_in; decide) dL_law_1154 ?_
  refine lv_topi (fun y ey => ?_)
  have hy : y = xs 3 := ey.trans (congrArg xs (by decide))
  subst hy
  refine va_calli (va_runV (As := [.int (xs 1), .int (xs 2), .int (xs 3)]) (rest := []) ⟨hx, hb, hml, hown, hts⟩ (hM H1.size) (cwV 3 hts gL_law_X4_link rfl rfl rfl (by decide +kernel) ⟨(Nat.le_of_ble_eq_true rfl), (Nat.le_of_ble_eq_true rfl)⟩) (MP.preV hK hPm hDm) rfl rfl hl.1 rfl (lv_room (Nat.le_of_ble_eq_true rfl)) dL_law_1155 ⟨(Nat.le_of_ble_eq_true rfl), (Nat.le_of_ble_eq_true rfl)⟩) hS (fun z _ h => va_A.all hDm (fun z h => Nat.le_trans hS.1 h) z h) (va_A.all hDm (fun z h => Nat.le_trans hS.1 h)) (fun r2 u2 t2 H2 locs ht2 hvm2 hp2 hB2 hz2 hk2 hS => ?_)
  obtain ⟨fs, hPt⟩ := hB2
  rw [ht2] at hPt
  refine lv_istore (lv' := [(6, .int r2), (5, .int r), (0, .ref b), (1, .ref x), (2, .ref (q 0)), (3, .ref o), (4, .int 0)]) hx hb dL_law_1158 hl (by decide) rfl (fun ls hl => ?_)
  refine lv_aload_n hx hb dL_law_1160 rfl (lv_at hl 4 rfl) ?_
  have hPo : va_P G vwCl [(o, eO k fo1)] H2 := fun i z hz => by
    have h9 : i < 1 := (List.getElem?_eq_some_iff.mp hz).1
    rw [show i = 0 by omega] at hz
    cases hz
    have hlt : o < H1.size := (hPo 0 _ rfl).lt
    refine (hPo 0 _ rfl).kept (hk2 o hlt (fun h => ?_))
    rcases h with ⟨i3, e3, h3⟩ | h3
    · exact (two_apart hPm0 hD i3 _ h3).2 (Or.inl ⟨wx.length, _, wL_o⟩)
    · exact absurd hlt (Nat.not_lt.mpr h3)
  refine br_call (W.runV (As := []) (rest := []) ⟨hx, hb, hml, hown, hts⟩ (m_thrown l G k (q 0) r fs) (cwV 0 hts gL_law_X4_thrown rfl rfl rfl (by decide +kernel) ⟨(Nat.le_of_ble_eq_true rfl), (Nat.le_of_ble_eq_true rfl)⟩) (PQ.preV hK hPt (ci := 4) (q0 := 0) rfl rfl) rfl rfl hl.1 rfl (lv_room (Nat.le_of_ble_eq_true rfl)) dL_law_1161 ⟨(Nat.le_of_ble_eq_true rfl), (Nat.le_of_ble_eq_true rfl)⟩) ?_
  refine lv_iload hx hb dL_law_1164 (lv_at hl 1 rfl) ?_
  refine lv_icmp_eq (tgt := 1171) hx hb dL_law_1166 (by decide) (fun _ => ?_) (fun c9 => absurd rfl c9)
  refine lv_iload hx hb dL_law_1171 (lv_at hl 1 rfl) ?_
  refine lv_if_ne (tgt := 1188) hx hb dL_law_1173 (by decide) (fun h9 => ?_) (fun h9 => ?_)
  · refine lv_goto (tgt := 1191) hx hb dL_law_1188 (by decide) ?_
    exact lc_end l C1 H2 locs ls hS (lv_sub hl [2, 6] rfl)
  · refine lv_aload_n hx hb dL_law_1176 rfl (lv_at hl 5 rfl) ?_
    refine lv_iconst (v := 0) hx hb dL_law_1177 (by decide) ?_
    refine va_lald hx hb hK hPo 0 5 rfl rfl (vp_in_nI (n := 0) (by decide) (by decide)) dL_law_1178 ?_
    refine lv_topl (fun y ey => ?_)
    have hy : y = V.toInt64 := ey.trans (hf0.trans (hV h9))
    subst hy
    have hr2 : r2 = V := hp2 h9
    subst hr2
    refine lv_iload hx hb dL_law_1179 (lv_at hl 0 rfl) ?_
    refine lv_i2l (v := Int32.toInt64 r2) hx hb dL_law_1181 rfl ?_
    refine W.lcmp hx hb dL_law_1182 ?_
    refine lv_if_eq (tgt := 1188) hx hb dL_law_1183 (by decide) (fun _ => ?_) (fun c9 => absurd ((lg_cmp_eq _ _).mpr rfl) c9)
    refine lv_goto (tgt := 1191) hx hb dL_law_1188 (by decide) ?_
    exact lc_end l C1 H2 locs ls hS (lv_sub hl [2, 6] rfl)
