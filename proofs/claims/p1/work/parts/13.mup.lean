/-! 13: up of a good node: the reference, and the law's caller of the class. Laid by wip/p1/gen13.py -/
theorem upd_0 {n : Nat} : upd (fun _ : Nat => (0 : Int32)) n 0 = fun _ => 0 := by
  funext z
  unfold upd
  split <;> rfl
/-- one bit of the checksum, eight, and twelve bytes of zeros -/
def cst (c : Int32) : Int32 := if c &&& 1 = 1 then (c.toUInt32 >>> ((1 : Int32).toUInt32 &&& Int32.toUInt32 31)).toInt32 ^^^ (-306674912) else (c.toUInt32 >>> ((1 : Int32).toUInt32 &&& Int32.toUInt32 31)).toInt32
def cit : Nat → Int32 → Int32
  | 0, c => c
  | n + 1, c => cst (cit n c)
def crk : Nat → Int32
  | 0 => -1
  | n + 1 => cit 8 (crk n ^^^ 0)
theorem crk_ne : ¬ crk 12 ^^^ (-1) = 0 := by decide +kernel
set_option maxHeartbeats 4000000 in
set_option maxRecDepth 100000 in
/-- a place -/
theorem m_atw (l : Launch) (j i : Nat) (v : Int32) (hv : v = nI i) : Met l yX4_at wsX4_at (rz0) (va_Pc [.int (nI j), .int v] (fun _ => True)) (QcRead (nI (4096 * j + i))) 0 0 (fun _ => False) := by
  refine Met.ofW (cc := cX4_at) (maxL := 2) (ret := (some .int)) (by decide) rfl ?_
  intro p e s m args below meth c s₁ B hml hv9
  obtain ⟨rfl, -⟩ := hv9
  have hx := B.exec
  have hb := B.bytes
  have hr := B.returns
  have hts := atoms_spec (ws := wsX4_at) B.pre
  have hown : s.vm.findClass RX4 = some m.cls := findClass_of_methodNamed B.named
  have hlocks := B.notSynchronized
  have hl := lv_entry ([.int (nI j), .int v]) (n := 2) (Nat.le_of_ble_eq_true rfl)
  rw [lg_entry_eq]
  generalize (lg_sl ([.int (nI j), .int v]) ++ List.replicate (2 - (lg_sl ([.int (nI j), .int v])).length) Slot.unset).toArray = ls at hl ⊢
  have hl : lv_has ls 2 [(0, .int (nI j)), (1, .int v)] := hl
  refine lv_sipush (v := 4096) hx hb dX4_at_0 (by decide) ?_
  refine lv_iload_n hx hb dX4_at_3 rfl (lv_at hl 0 rfl) ?_
  refine lv_imul hx hb dX4_at_4 ?_
  refine lv_iload_n hx hb dX4_at_5 rfl (lv_at hl 1 rfl) ?_
  refine lv_iadd hx hb dX4_at_6 ?_
  exact W.iret (v := 4096 * nI j + v) hx hb hr (fun t ht hW => ⟨by rw [hv, n_at], ht⟩) (fun q h => by cases h) dX4_at_7
set_option maxHeartbeats 4000000 in
set_option maxRecDepth 100000 in
/-- a word of zeros -/
theorem m_wordAt (l : Launch) (G : va_G) (k : Nat → ClassId) (q : Nat → Nat) (g7 g8 : Nat → Int32) (j : Nat) (hj : j < 4) (b : Nat) (hb4 : b + 4 ≤ 4096) (v : Int32) (hv : v = nI b) : Met l yX4_wordAt wsX4_wordAt rz1 (PQ G k (wM q k 0 (fun _ => 0) g7 g8) [.ref (q 0), .int (nI j), .int v]) (QcRead 0) 0 0 (fun _ => False) := by
  refine Met.ofW (cc := cX4_wordAt) (maxL := 5) (ret := (some .int)) (by decide) rfl ?_
  intro p e s m args below meth c s₁ B hml hv9
  obtain ⟨rfl, hP, hK⟩ := hv9
  have hx := B.exec
  have hb := B.bytes
  have hr := B.returns
  have hts := atoms_spec (ws := wsX4_wordAt) B.pre
  have hown : s.vm.findClass RX4 = some m.cls := findClass_of_methodNamed B.named
  have hlocks := B.notSynchronized
  have hl := lv_entry ([.ref (q 0), .int (nI j), .int v]) (n := 5) (Nat.le_of_ble_eq_true rfl)
  rw [lg_entry_eq]
  generalize (lg_sl ([.ref (q 0), .int (nI j), .int v]) ++ List.replicate (5 - (lg_sl ([.ref (q 0), .int (nI j), .int v])).length) Slot.unset).toArray = ls at hl ⊢
  have hl : lv_has ls 5 [(0, .ref (q 0)), (1, .int (nI j)), (2, .int v)] := hl
  refine lv_iconst (v := 0) hx hb dX4_wordAt_0 (by decide) ?_
  refine lv_istore_n (lv' := [(3, .int 0), (0, .ref (q 0)), (1, .int (nI j)), (2, .int v)]) hx hb dX4_wordAt_1 rfl hl (by decide) rfl (fun ls hl => ?_)
  refine lv_iconst (v := 0) hx hb dX4_wordAt_2 (by decide) ?_
  refine lv_istore (lv' := [(4, .int 0), (3, .int 0), (0, .ref (q 0)), (1, .int (nI j)), (2, .int v)]) hx hb dX4_wordAt_3 hl (by decide) rfl (fun ls hl => ?_)
  have key : ∀ (n i : Nat), i + n = 4 → ∀ (ls : Array Slot), lv_has ls 5 [(0, .ref (q 0)), (1, .int (nI j)), (2, .int v), (3, .int 0), (4, .int (nI i))] → W p l e (headSpec wsX4_wordAt rz1).room s m #[.ref (q 0), .int (nI j), .int v] below meth c s.heap [] 0 0 (MQ below (QcRead 0) #[.ref (q 0), .int (nI j), .int v] s 0 0 (fun _ => False)) (F0 m 5 ls []) := by
    intro n
    induction n with
    | zero =>
      intro i hi ls hl
      have hi4 : i = 4 := by omega
      subst hi4
      refine lv_iload hx hb dX4_wordAt_5 (lv_at hl 4 rfl) ?_
      refine lv_iconst (v := 4) hx hb dX4_wordAt_7 (by decide) ?_
      refine lv_icmp_ge (tgt := 36) hx hb dX4_wordAt_8 (by decide) (fun _ => ?_) (fun c9 => absurd (show (4 : Int32) ≤ nI 4 from by decide) c9)
      refine lv_iload_n hx hb dX4_wordAt_36 rfl (lv_at hl 3 rfl) ?_
      exact W.iret (v := 0) hx hb hr (fun t ht hW => ⟨rfl, ht⟩) (fun q h => by cases h) dX4_wordAt_37
    | succ n ih =>
      intro i hi ls hl
      refine lv_iload hx hb dX4_wordAt_5 (lv_at hl 4 rfl) ?_
      refine lv_iconst (v := 4) hx hb dX4_wordAt_7 (by decide) ?_
      refine lv_icmp_ge (tgt := 36) hx hb dX4_wordAt_8 (by decide) (fun c9 => absurd c9 (nI_ge (a := i) (b := 4) (by omega) (by decide))) (fun _ => ?_)
      refine lv_iload_n hx hb dX4_wordAt_11 rfl (lv_at hl 3 rfl) ?_
      refine lv_bipush (v := 8) hx hb dX4_wordAt_12 (by decide) ?_
      refine lv_ishl hx hb dX4_wordAt_14 ?_
      refine lv_aload_n hx hb dX4_wordAt_15 rfl (lv_at hl 0 rfl) ?_
      refine va_get (D := G) (ci := 4) (v := .ref (q 1)) (C := RX4) (T := TX4) (N := 21) hx hb hts (fun _ h => List.mem_cons_of_mem _ (List.mem_append_right _ h)) hown hK hP 0 rfl rfl 2 (by decide) (hts (.fieldLink RX4 7 "ShippedLogModel" "memory" "[I") (by decide +kernel)) (fun _ h9 => h9) rfl dX4_wordAt_16 ?_
      refine lv_iload_n hx hb dX4_wordAt_19 rfl (lv_at hl 1 rfl) ?_
      refine lv_iload_n hx hb dX4_wordAt_20 rfl (lv_at hl 2 rfl) ?_
      refine lv_iload hx hb dX4_wordAt_21 (lv_at hl 4 rfl) ?_
      refine lv_iadd hx hb dX4_wordAt_23 ?_
      refine br_call (W.runS (As := [.int (nI j), .int (v + (nI i))]) (rest := [.ref (q 1), .int ((0 : Int32) <<< ((8 : Int32) &&& 31))]) ⟨hx, hb, hml, hown, hts⟩ (m_atw l j (b + i) (v + (nI i)) (by rw [hv, nI_add])) (va_cwS 2 hts gX4_wordAt_X4_at rfl rfl rfl (by decide +kernel) ⟨(Nat.le_of_ble_eq_true rfl), (Nat.le_of_ble_eq_true rfl)⟩) (P0.preS) rfl rfl hl.1 rfl (lv_room (Nat.le_of_ble_eq_true rfl)) dX4_wordAt_24 ⟨(Nat.le_of_ble_eq_true rfl), (Nat.le_of_ble_eq_true rfl)⟩) ?_
      refine va_iald hx hb hK hP 1 3 rfl rfl (vp_in_nI (by omega) (by decide)) dX4_wordAt_27 ?_
      refine lv_ior hx hb dX4_wordAt_28 ?_
      refine lv_topi (fun y ey => ?_)
      have hy : y = 0 := ey.trans (by decide)
      subst hy
      refine lv_istore_n (lv' := [(3, .int 0), (0, .ref (q 0)), (1, .int (nI j)), (2, .int v), (4, .int (nI i))]) hx hb dX4_wordAt_29 rfl hl (by decide) rfl (fun ls hl => ?_)
      refine lv_iinc (v := nI (i + 1)) (lv' := [(4, .int (nI (i + 1))), (3, .int 0), (0, .ref (q 0)), (1, .int (nI j)), (2, .int v)]) hx hb dX4_wordAt_30 hl (k := 4) rfl (nI_succ i).symm (by decide) rfl (fun ls hl => ?_)
      refine lv_goto (tgt := 5) hx hb dX4_wordAt_33 (by decide) ?_
      exact ih (i + 1) (by omega) ls (lv_sub hl [2, 3, 4, 1, 0] rfl)
  exact key 4 0 rfl ls (lv_sub hl [2, 3, 4, 1, 0] rfl)
set_option maxHeartbeats 4000000 in
set_option maxRecDepth 100000 in
/-- the checksum of twelve zeros -/
theorem m_sumAt (l : Launch) (G : va_G) (k : Nat → ClassId) (q : Nat → Nat) (g7 g8 : Nat → Int32) (j : Nat) (hj : j < 4) : Met l yX4_sumAt wsX4_sumAt rz1 (PQ G k (wM q k 0 (fun _ => 0) g7 g8) [.ref (q 0), .int (nI j), .int 0]) (QcRead (crk 12 ^^^ (-1))) 0 0 (fun _ => False) := by
  refine Met.ofW (cc := cX4_sumAt) (maxL := 6) (ret := (some .int)) (by decide) rfl ?_
  intro p e s m args below meth c s₁ B hml hv
  obtain ⟨rfl, hP, hK⟩ := hv
  have hx := B.exec
  have hb := B.bytes
  have hr := B.returns
  have hts := atoms_spec (ws := wsX4_sumAt) B.pre
  have hown : s.vm.findClass RX4 = some m.cls := findClass_of_methodNamed B.named
  have hlocks := B.notSynchronized
  have hl := lv_entry ([.ref (q 0), .int (nI j), .int 0]) (n := 6) (Nat.le_of_ble_eq_true rfl)
  rw [lg_entry_eq]
  generalize (lg_sl ([.ref (q 0), .int (nI j), .int 0]) ++ List.replicate (6 - (lg_sl ([.ref (q 0), .int (nI j), .int 0])).length) Slot.unset).toArray = ls at hl ⊢
  have hl : lv_has ls 6 [(0, .ref (q 0)), (1, .int (nI j)), (2, .int 0)] := hl
  refine lv_iconst (v := (-1)) hx hb dX4_sumAt_0 (by decide) ?_
  refine lv_istore_n (lv' := [(3, .int (-1)), (0, .ref (q 0)), (1, .int (nI j)), (2, .int 0)]) hx hb dX4_sumAt_1 rfl hl (by decide) rfl (fun ls hl => ?_)
  refine lv_iconst (v := 0) hx hb dX4_sumAt_2 (by decide) ?_
  refine lv_istore (lv' := [(4, .int 0), (3, .int (-1)), (0, .ref (q 0)), (1, .int (nI j)), (2, .int 0)]) hx hb dX4_sumAt_3 hl (by decide) rfl (fun ls hl => ?_)
  have inner : ∀ (kk : Nat) (c0 : Int32), (∀ (ls : Array Slot), lv_has ls 6 [(0, .ref (q 0)), (1, .int (nI j)), (2, .int 0), (3, .int (cit 8 c0)), (4, .int (nI kk))] → W p l e (headSpec wsX4_sumAt rz1).room s m #[.ref (q 0), .int (nI j), .int 0] below meth c s.heap [] 0 0 (MQ below (QcRead (crk 12 ^^^ (-1))) #[.ref (q 0), .int (nI j), .int 0] s 0 0 (fun _ => False)) (F0 m 64 ls [])) → ∀ (n i : Nat), i + n = 8 → ∀ (ls : Array Slot), lv_has ls 6 [(0, .ref (q 0)), (1, .int (nI j)), (2, .int 0), (3, .int (cit i c0)), (4, .int (nI kk)), (5, .int (nI i))] → W p l e (headSpec wsX4_sumAt rz1).room s m #[.ref (q 0), .int (nI j), .int 0] below meth c s.heap [] 0 0 (MQ below (QcRead (crk 12 ^^^ (-1))) #[.ref (q 0), .int (nI j), .int 0] s 0 0 (fun _ => False)) (F0 m 31 ls []) := by
    intro kk c0 kx n
    induction n with
    | zero =>
      intro i hi ls hl
      have hi4 : i = 8 := by omega
      subst hi4
      refine lv_iload hx hb dX4_sumAt_31 (lv_at hl 5 rfl) ?_
      refine lv_bipush (v := 8) hx hb dX4_sumAt_33 (by decide) ?_
      refine lv_icmp_ge (tgt := 64) hx hb dX4_sumAt_35 (by decide) (fun _ => ?_) (fun c9 => absurd (show (8 : Int32) ≤ nI 8 from by decide) c9)
      exact kx ls (lv_sub hl [0, 1, 2, 3, 4] rfl)
    | succ n ih =>
      intro i hi ls hl
      have hbi : ∀ (y : Int32), y = cst (cit i c0) → W p l e (headSpec wsX4_sumAt rz1).room s m #[.ref (q 0), .int (nI j), .int 0] below meth c s.heap [] 0 0 (MQ below (QcRead (crk 12 ^^^ (-1))) #[.ref (q 0), .int (nI j), .int 0] s 0 0 (fun _ => False)) (F0 m 57 ls [.int y]) := by
        intro y ey
        subst ey
        refine lv_istore_n (lv' := [(3, .int (cst (cit i c0))), (0, .ref (q 0)), (1, .int (nI j)), (2, .int 0), (4, .int (nI kk)), (5, .int (nI i))]) hx hb dX4_sumAt_57 rfl hl (by decide) rfl (fun ls hl => ?_)
        refine lv_iinc (v := nI (i + 1)) (lv' := [(5, .int (nI (i + 1))), (3, .int (cst (cit i c0))), (0, .ref (q 0)), (1, .int (nI j)), (2, .int 0), (4, .int (nI kk))]) hx hb dX4_sumAt_58 hl (k := 5) rfl (nI_succ i).symm (by decide) rfl (fun ls hl => ?_)
        refine lv_goto (tgt := 31) hx hb dX4_sumAt_61 (by decide) ?_
        exact ih (i + 1) (by omega) ls (lv_sub hl [2, 3, 4, 1, 5, 0] rfl)
      refine lv_iload hx hb dX4_sumAt_31 (lv_at hl 5 rfl) ?_
      refine lv_bipush (v := 8) hx hb dX4_sumAt_33 (by decide) ?_
      refine lv_icmp_ge (tgt := 64) hx hb dX4_sumAt_35 (by decide) (fun c9 => absurd c9 (nI_ge (a := i) (b := 8) (by omega) (by decide))) (fun _ => ?_)
      refine lv_iload_n hx hb dX4_sumAt_38 rfl (lv_at hl 3 rfl) ?_
      refine lv_iconst (v := 1) hx hb dX4_sumAt_39 (by decide) ?_
      refine lv_iand hx hb dX4_sumAt_40 ?_
      refine lv_iconst (v := 1) hx hb dX4_sumAt_41 (by decide) ?_
      refine lv_icmp_ne (tgt := 54) hx hb dX4_sumAt_42 (by decide) (fun h9 => ?_) (fun h9 => ?_)
      · refine lv_iload_n hx hb dX4_sumAt_54 rfl (lv_at hl 3 rfl) ?_
        refine lv_iconst (v := 1) hx hb dX4_sumAt_55 (by decide) ?_
        refine lv_iushr hx hb dX4_sumAt_56 rfl ?_
        exact hbi _ (by unfold cst; rw [if_neg h9])
      · refine lv_iload_n hx hb dX4_sumAt_45 rfl (lv_at hl 3 rfl) ?_
        refine lv_iconst (v := 1) hx hb dX4_sumAt_46 (by decide) ?_
        refine lv_iushr hx hb dX4_sumAt_47 rfl ?_
        refine lv_ldc hx hb hown (hts (.constant RX4 77 (-306674912)) (by decide +kernel)) dX4_sumAt_48 ?_
        refine lv_ixor hx hb dX4_sumAt_50 ?_
        refine lv_goto (tgt := 57) hx hb dX4_sumAt_51 (by decide) ?_
        exact hbi _ (by unfold cst; rw [if_pos h9])
  have outer : ∀ (n i : Nat), i + n = 12 → ∀ (ls : Array Slot), lv_has ls 6 [(0, .ref (q 0)), (1, .int (nI j)), (2, .int 0), (3, .int (crk i)), (4, .int (nI i))] → W p l e (headSpec wsX4_sumAt rz1).room s m #[.ref (q 0), .int (nI j), .int 0] below meth c s.heap [] 0 0 (MQ below (QcRead (crk 12 ^^^ (-1))) #[.ref (q 0), .int (nI j), .int 0] s 0 0 (fun _ => False)) (F0 m 5 ls []) := by
    intro n
    induction n with
    | zero =>
      intro i hi ls hl
      have hi4 : i = 12 := by omega
      subst hi4
      refine lv_iload hx hb dX4_sumAt_5 (lv_at hl 4 rfl) ?_
      refine lv_bipush (v := 12) hx hb dX4_sumAt_7 (by decide) ?_
      refine lv_icmp_ge (tgt := 70) hx hb dX4_sumAt_9 (by decide) (fun _ => ?_) (fun c9 => absurd (show (12 : Int32) ≤ nI 12 from by decide) c9)
      refine lv_iload_n hx hb dX4_sumAt_70 rfl (lv_at hl 3 rfl) ?_
      refine lv_iconst (v := (-1)) hx hb dX4_sumAt_71 (by decide) ?_
      refine lv_ixor hx hb dX4_sumAt_72 ?_
      exact W.iret (v := crk 12 ^^^ (-1)) hx hb hr (fun t ht hW => ⟨rfl, ht⟩) (fun q h => by cases h) dX4_sumAt_73
    | succ n ih =>
      intro i hi ls hl
      refine lv_iload hx hb dX4_sumAt_5 (lv_at hl 4 rfl) ?_
      refine lv_bipush (v := 12) hx hb dX4_sumAt_7 (by decide) ?_
      refine lv_icmp_ge (tgt := 70) hx hb dX4_sumAt_9 (by decide) (fun c9 => absurd c9 (nI_ge (a := i) (b := 12) (by omega) (by decide))) (fun _ => ?_)
      refine lv_iload_n hx hb dX4_sumAt_12 rfl (lv_at hl 3 rfl) ?_
      refine lv_aload_n hx hb dX4_sumAt_13 rfl (lv_at hl 0 rfl) ?_
      refine va_get (D := G) (ci := 4) (v := .ref (q 1)) (C := RX4) (T := TX4) (N := 21) hx hb hts (fun _ h => List.mem_cons_of_mem _ (List.mem_append_right _ h)) hown hK hP 0 rfl rfl 2 (by decide) (hts (.fieldLink RX4 7 "ShippedLogModel" "memory" "[I") (by decide +kernel)) (fun _ h9 => h9) rfl dX4_sumAt_14 ?_
      refine lv_iload_n hx hb dX4_sumAt_17 rfl (lv_at hl 1 rfl) ?_
      refine lv_iload_n hx hb dX4_sumAt_18 rfl (lv_at hl 2 rfl) ?_
      refine lv_iload hx hb dX4_sumAt_19 (lv_at hl 4 rfl) ?_
      refine lv_iadd hx hb dX4_sumAt_21 ?_
      refine br_call (W.runS (As := [.int (nI j), .int (0 + (nI i))]) (rest := [.ref (q 1), .int (crk i)]) ⟨hx, hb, hml, hown, hts⟩ (m_atw l j (i) (0 + (nI i)) (Int32.zero_add _)) (va_cwS 2 hts gX4_sumAt_X4_at rfl rfl rfl (by decide +kernel) ⟨(Nat.le_of_ble_eq_true rfl), (Nat.le_of_ble_eq_true rfl)⟩) (P0.preS) rfl rfl hl.1 rfl (lv_room (Nat.le_of_ble_eq_true rfl)) dX4_sumAt_22 ⟨(Nat.le_of_ble_eq_true rfl), (Nat.le_of_ble_eq_true rfl)⟩) ?_
      refine va_iald hx hb hK hP 1 3 rfl rfl (vp_in_nI (by omega) (by decide)) dX4_sumAt_25 ?_
      refine lv_ixor hx hb dX4_sumAt_26 ?_
      refine lv_istore_n (lv' := [(3, .int ((crk i) ^^^ 0)), (0, .ref (q 0)), (1, .int (nI j)), (2, .int 0), (4, .int (nI i))]) hx hb dX4_sumAt_27 rfl hl (by decide) rfl (fun ls hl => ?_)
      refine lv_iconst (v := 0) hx hb dX4_sumAt_28 (by decide) ?_
      refine lv_istore (lv' := [(5, .int 0), (3, .int ((crk i) ^^^ 0)), (0, .ref (q 0)), (1, .int (nI j)), (2, .int 0), (4, .int (nI i))]) hx hb dX4_sumAt_29 hl (by decide) rfl (fun ls hl => ?_)
      refine inner i (crk i ^^^ 0) (fun ls hl => ?_) 8 0 rfl ls (lv_sub hl [2, 3, 4, 1, 5, 0] rfl)
      refine lv_iinc (v := nI (i + 1)) (lv' := [(4, .int (nI (i + 1))), (0, .ref (q 0)), (1, .int (nI j)), (2, .int 0), (3, .int (cit 8 (crk i ^^^ 0)))]) hx hb dX4_sumAt_64 hl (k := 4) rfl (nI_succ i).symm (by decide) rfl (fun ls hl => ?_)
      refine lv_goto (tgt := 5) hx hb dX4_sumAt_67 (by decide) ?_
      exact ih (i + 1) (by omega) ls (lv_sub hl [1, 2, 3, 4, 0] rfl)
  exact outer 12 0 rfl ls (lv_sub hl [2, 3, 4, 1, 0] rfl)
set_option maxHeartbeats 4000000 in
set_option maxRecDepth 100000 in
/-- zeros are no good record -/
theorem m_isGood (l : Launch) (G : va_G) (k : Nat → ClassId) (q : Nat → Nat) (g7 g8 : Nat → Int32) (j : Nat) (hj : j < 4) : Met l yX4_isGood wsX4_isGood (rz2) (PQ G k (wM q k 0 (fun _ => 0) g7 g8) [.ref (q 0), .int (nI j), .int 0]) (QcRead 0) 0 0 (fun _ => False) := by
  refine Met.ofW (cc := cX4_isGood) (maxL := 5) (ret := (some .boolean)) (by decide) rfl ?_
  intro p e s m args below meth c s₁ B hml hv
  obtain ⟨rfl, hP, hK⟩ := hv
  have hx := B.exec
  have hb := B.bytes
  have hr := B.returns
  have hts := atoms_spec (ws := wsX4_isGood) B.pre
  have hown : s.vm.findClass RX4 = some m.cls := findClass_of_methodNamed B.named
  have hlocks := B.notSynchronized
  have hl := lv_entry ([.ref (q 0), .int (nI j), .int 0]) (n := 5) (Nat.le_of_ble_eq_true rfl)
  rw [lg_entry_eq]
  generalize (lg_sl ([.ref (q 0), .int (nI j), .int 0]) ++ List.replicate (5 - (lg_sl ([.ref (q 0), .int (nI j), .int 0])).length) Slot.unset).toArray = ls at hl ⊢
  have hl : lv_has ls 5 [(0, .ref (q 0)), (1, .int (nI j)), (2, .int 0)] := hl
  refine lv_iload_n hx hb dX4_isGood_0 rfl (lv_at hl 2 rfl) ?_
  refine lv_bipush (v := 16) hx hb dX4_isGood_1 (by decide) ?_
  refine lv_iadd hx hb dX4_isGood_3 ?_
  refine lv_sipush (v := 4096) hx hb dX4_isGood_4 (by decide) ?_
  refine lv_icmp_gt (tgt := 55) hx hb dX4_isGood_7 (by decide) (fun c9 => absurd c9 (by decide : ¬ (4096 : Int32) < 0 + 16)) (fun _ => ?_)
  refine lv_aload_n hx hb dX4_isGood_10 rfl (lv_at hl 0 rfl) ?_
  refine lv_iload_n hx hb dX4_isGood_11 rfl (lv_at hl 1 rfl) ?_
  refine lv_iload_n hx hb dX4_isGood_12 rfl (lv_at hl 2 rfl) ?_
  refine br_call (W.runV (As := [.int (nI j), .int 0]) (rest := []) ⟨hx, hb, hml, hown, hts⟩ (m_sumAt l G k q g7 g8 j hj) (cwV 2 hts gX4_isGood_X4_sumAt rfl rfl rfl (by decide +kernel) ⟨(Nat.le_of_ble_eq_true rfl), (Nat.le_of_ble_eq_true rfl)⟩) (PQ.preV hK hP (ci := 4) (q0 := 0) rfl rfl) rfl rfl hl.1 rfl (lv_room (Nat.le_of_ble_eq_true rfl)) dX4_isGood_13 ⟨(Nat.le_of_ble_eq_true rfl), (Nat.le_of_ble_eq_true rfl)⟩) ?_
  refine lv_aload_n hx hb dX4_isGood_16 rfl (lv_at hl 0 rfl) ?_
  refine lv_iload_n hx hb dX4_isGood_17 rfl (lv_at hl 1 rfl) ?_
  refine lv_iload_n hx hb dX4_isGood_18 rfl (lv_at hl 2 rfl) ?_
  refine lv_bipush (v := 12) hx hb dX4_isGood_19 (by decide) ?_
  refine lv_iadd hx hb dX4_isGood_21 ?_
  refine br_call (W.runV (As := [.int (nI j), .int (0 + 12)]) (rest := [.int (crk 12 ^^^ (-1))]) ⟨hx, hb, hml, hown, hts⟩ (m_wordAt l G k q g7 g8 j hj 12 (by decide) (0 + 12) (by decide)) (cwV 2 hts gX4_isGood_X4_wordAt rfl rfl rfl (by decide +kernel) ⟨(Nat.le_of_ble_eq_true rfl), (Nat.le_of_ble_eq_true rfl)⟩) (PQ.preV hK hP (ci := 4) (q0 := 0) rfl rfl) rfl rfl hl.1 rfl (lv_room (Nat.le_of_ble_eq_true rfl)) dX4_isGood_22 ⟨(Nat.le_of_ble_eq_true rfl), (Nat.le_of_ble_eq_true rfl)⟩) ?_
  refine lv_icmp_ne (tgt := 55) hx hb dX4_isGood_25 (by decide) (fun _ => ?_) (fun c9 => absurd c9 crk_ne)
  refine lv_iconst (v := 0) hx hb dX4_isGood_55 (by decide) ?_
  exact W.zret (ty := .boolean) (v := 0) hx hb hr rfl (fun t ht hW => ⟨rfl, ht⟩) (fun q h => by cases h) dX4_isGood_56
set_option maxHeartbeats 4000000 in
set_option maxRecDepth 100000 in
/-- the reference: up of a fresh node -/
theorem cM_up_ok (l : Launch) (G : va_G) (k : Nat → ClassId) (sz : Nat) (q : Nat → Nat) (g7 g8 : Nat → Int32) (j : Nat) (hj : j < 4) : Met l yX4_up wsX4_up (rzk 2 0 0) (MP G k sz q g7 g8 [.ref (q 0), .int (nI j)]) (MQl G q 0 0 (va_A (wM q k 0 (fun _ => 0) g7 g8) sz)) 0 0 (va_A (wM q k 0 (fun _ => 0) g7 g8) sz) := by
  refine Met.ofW (cc := cX4_up) (maxL := 3) (ret := (some .int)) (by decide) rfl ?_
  intro p e s m args below meth c s₁ B hml hv
  obtain ⟨rfl, hsz, hP, hK, hD0⟩ := hv
  subst hsz
  have hD := hD0.self (sz := s.heap.size)
  generalize hAe : va_A (wM q k 0 (fun _ => 0) g7 g8) s.heap.size = A at hD ⊢
  have hA : ∀ q : Nat, s.heap.size ≤ q → A q := fun q h => by rw [← hAe]; exact Or.inr h
  have hS : va_S A s.heap s.heap [] := va_S.rf
  have hx := B.exec
  have hb := B.bytes
  have hr := B.returns
  have hts := atoms_spec (ws := wsX4_up) B.pre
  have hown : s.vm.findClass RX4 = some m.cls := findClass_of_methodNamed B.named
  have hlocks := B.notSynchronized
  have hl := lv_entry ([.ref (q 0), .int (nI j)]) (n := 3) (Nat.le_of_ble_eq_true rfl)
  rw [lg_entry_eq]
  generalize (lg_sl ([.ref (q 0), .int (nI j)]) ++ List.replicate (3 - (lg_sl ([.ref (q 0), .int (nI j)])).length) Slot.unset).toArray = ls at hl ⊢
  have hl : lv_has ls 3 [(0, .ref (q 0)), (1, .int (nI j))] := hl
  have fin : ∀ (H : Heap) (locs : List Loc) (ls : Array Slot), va_P G vwCl (wM q k 0 (fun _ => 0) g7 g8) H → va_D A (wM q k 0 (fun _ => 0) g7 g8) → va_S A s.heap H locs → lv_has ls 3 [(0, .ref (q 0)), (1, .int (nI j))] → W p l e (headSpec wsX4_up (rzk 2 0 0)).room s m #[.ref (q 0), .int (nI j)] below meth c H locs 0 0 (MQ below (MQl G q 0 0 A) #[.ref (q 0), .int (nI j)] s 0 0 A) (F0 m 68 ls []) := by
    intro H locs ls hP hD hS hl
    refine lv_iconst (v := 0) hx hb dX4_up_68 (by decide) ?_
    refine lv_istore_n (lv' := [(2, .int 0), (0, .ref (q 0)), (1, .int (nI j))]) hx hb dX4_up_69 rfl hl (by decide) rfl (fun ls hl => ?_)
    refine lv_aload_n hx hb dX4_up_70 rfl (lv_at hl 1 rfl) ?_
    refine lv_iload_n hx hb dX4_up_71 rfl (lv_at hl 2 rfl) ?_
    refine lv_iload_n hx hb dX4_up_72 rfl (lv_at hl 0 rfl) ?_
    refine br_call (W.runV (As := [.int (nI j), .int 0]) (rest := []) ⟨hx, hb, hml, hown, hts⟩ (m_isGood l G k q g7 g8 j hj) (cwV 2 hts gX4_up_X4_isGood rfl rfl rfl (by decide +kernel) ⟨(Nat.le_of_ble_eq_true rfl), (Nat.le_of_ble_eq_true rfl)⟩) (PQ.preV hK hP (ci := 4) (q0 := 0) rfl rfl) rfl rfl hl.1 rfl (lv_room (Nat.le_of_ble_eq_true rfl)) dX4_up_73 ⟨(Nat.le_of_ble_eq_true rfl), (Nat.le_of_ble_eq_true rfl)⟩) ?_
    refine lv_if_eq (tgt := 85) hx hb dX4_up_76 (by decide) (fun _ => ?_) (fun c9 => absurd rfl c9)
    refine lv_aload_n hx hb dX4_up_85 rfl (lv_at hl 1 rfl) ?_
    refine va_get (D := G) (ci := 4) (v := .ref (q 3)) (C := RX4) (T := TX4) (N := 21) hx hb hts (fun _ h => List.mem_cons_of_mem _ (List.mem_append_right _ h)) hown hK hP 0 rfl rfl 4 (by decide) (hts (.fieldLink RX4 16 "ShippedLogModel" "role" "[I") (by decide +kernel)) (fun _ h9 => h9) rfl dX4_up_86 ?_
    refine lv_iload_n hx hb dX4_up_89 rfl (lv_at hl 2 rfl) ?_
    refine lv_iconst (v := 1) hx hb dX4_up_90 (by decide) ?_
    refine va_iast hx hb hK hP hD hS 3 3 rfl rfl (vp_in_nI hj (by decide)) dX4_up_91 (fun H locs hP hD hS => ?_)
    have hP : va_P G vwCl (wM q k 0 (upd (fun _ => 0) (nI j).toNatClampNeg 1) g7 g8) H := hP
    have hD : va_D A (wM q k 0 (upd (fun _ => 0) (nI j).toNatClampNeg 1) g7 g8) := hD
    refine lv_aload_n hx hb dX4_up_92 rfl (lv_at hl 1 rfl) ?_
    refine va_get (D := G) (ci := 4) (v := .ref (q 4)) (C := RX4) (T := TX4) (N := 21) hx hb hts (fun _ h => List.mem_cons_of_mem _ (List.mem_append_right _ h)) hown hK hP 0 rfl rfl 5 (by decide) (hts (.fieldLink RX4 19 "ShippedLogModel" "end" "[I") (by decide +kernel)) (fun _ h9 => h9) rfl dX4_up_93 ?_
    refine lv_iload_n hx hb dX4_up_96 rfl (lv_at hl 2 rfl) ?_
    refine lv_iload_n hx hb dX4_up_97 rfl (lv_at hl 0 rfl) ?_
    refine va_iast hx hb hK hP hD hS 4 3 rfl rfl (vp_in_nI hj (by decide)) dX4_up_98 (fun H locs hP hD hS => ?_)
    rw [upd_0] at hP hD
    have hP : va_P G vwCl (wM q k 0 (upd (fun _ => 0) (nI j).toNatClampNeg 1) g7 g8) H := hP
    have hD : va_D A (wM q k 0 (upd (fun _ => 0) (nI j).toNatClampNeg 1) g7 g8) := hD
    refine lv_aload_n hx hb dX4_up_99 rfl (lv_at hl 1 rfl) ?_
    refine va_get (D := G) (ci := 4) (v := .ref (q 5)) (C := RX4) (T := TX4) (N := 21) hx hb hts (fun _ h => List.mem_cons_of_mem _ (List.mem_append_right _ h)) hown hK hP 0 rfl rfl 6 (by decide) (hts (.fieldLink RX4 22 "ShippedLogModel" "synced" "[I") (by decide +kernel)) (fun _ h9 => h9) rfl dX4_up_100 ?_
    refine lv_iload_n hx hb dX4_up_103 rfl (lv_at hl 2 rfl) ?_
    refine lv_iload_n hx hb dX4_up_104 rfl (lv_at hl 0 rfl) ?_
    refine va_iast hx hb hK hP hD hS 5 3 rfl rfl (vp_in_nI hj (by decide)) dX4_up_105 (fun H locs hP hD hS => ?_)
    rw [upd_0] at hP hD
    have hP : va_P G vwCl (wM q k 0 (upd (fun _ => 0) (nI j).toNatClampNeg 1) g7 g8) H := hP
    have hD : va_D A (wM q k 0 (upd (fun _ => 0) (nI j).toNatClampNeg 1) g7 g8) := hD
    refine lv_aload_n hx hb dX4_up_106 rfl (lv_at hl 1 rfl) ?_
    refine va_get (D := G) (ci := 4) (v := .ref (q 6)) (C := RX4) (T := TX4) (N := 21) hx hb hts (fun _ h => List.mem_cons_of_mem _ (List.mem_append_right _ h)) hown hK hP 0 rfl rfl 7 (by decide) (hts (.fieldLink RX4 25 "ShippedLogModel" "applied" "[I") (by decide +kernel)) (fun _ h9 => h9) rfl dX4_up_107 ?_
    refine lv_iload_n hx hb dX4_up_110 rfl (lv_at hl 2 rfl) ?_
    refine lv_iload_n hx hb dX4_up_111 rfl (lv_at hl 0 rfl) ?_
    refine va_iast hx hb hK hP hD hS 6 3 rfl rfl (vp_in_nI hj (by decide)) dX4_up_112 (fun H locs hP hD hS => ?_)
    rw [upd_0] at hP hD
    have hP : va_P G vwCl (wM q k 0 (upd (fun _ => 0) (nI j).toNatClampNeg 1) g7 g8) H := hP
    have hD : va_D A (wM q k 0 (upd (fun _ => 0) (nI j).toNatClampNeg 1) g7 g8) := hD
    refine lv_iload_n hx hb dX4_up_113 rfl (lv_at hl 0 rfl) ?_
    exact W.iret (v := 0) hx hb hr (fun t ht hW => ⟨⟨0, (), rfl, fun _ => rfl, _, by rw [ht]; exact hP.hd⟩, hS.F ht⟩) hS.2.2 dX4_up_114
  have key : ∀ (n i : Nat), i + n = 4096 → ∀ (H : Heap) (locs : List Loc) (ls : Array Slot), va_P G vwCl (wM q k 0 (fun _ => 0) g7 g8) H → va_D A (wM q k 0 (fun _ => 0) g7 g8) → va_S A s.heap H locs → lv_has ls 3 [(0, .ref (q 0)), (1, .int (nI j)), (2, .int (nI i))] → W p l e (headSpec wsX4_up (rzk 2 0 0)).room s m #[.ref (q 0), .int (nI j)] below meth c H locs 0 0 (MQ below (MQl G q 0 0 A) #[.ref (q 0), .int (nI j)] s 0 0 A) (F0 m 35 ls []) := by
    intro n
    induction n with
    | zero =>
      intro i hi H locs ls hP hD hS hl
      have hi4 : i = 4096 := by omega
      subst hi4
      refine lv_iload_n hx hb dX4_up_35 rfl (lv_at hl 2 rfl) ?_
      refine lv_sipush (v := 4096) hx hb dX4_up_36 (by decide) ?_
      refine lv_icmp_ge (tgt := 68) hx hb dX4_up_39 (by decide) (fun _ => ?_) (fun c9 => absurd (show (4096 : Int32) ≤ nI 4096 from by decide) c9)
      exact fin H locs ls hP hD hS (lv_sub hl [0, 1] rfl)
    | succ n ih =>
      intro i hi H locs ls hP hD hS hl
      refine lv_iload_n hx hb dX4_up_35 rfl (lv_at hl 2 rfl) ?_
      refine lv_sipush (v := 4096) hx hb dX4_up_36 (by decide) ?_
      refine lv_icmp_ge (tgt := 68) hx hb dX4_up_39 (by decide) (fun c9 => absurd c9 (nI_ge (a := i) (b := 4096) (by omega) (by decide))) (fun _ => ?_)
      refine lv_aload_n hx hb dX4_up_42 rfl (lv_at hl 0 rfl) ?_
      refine va_get (D := G) (ci := 4) (v := .ref (q 1)) (C := RX4) (T := TX4) (N := 21) hx hb hts (fun _ h => List.mem_cons_of_mem _ (List.mem_append_right _ h)) hown hK hP 0 rfl rfl 2 (by decide) (hts (.fieldLink RX4 7 "ShippedLogModel" "memory" "[I") (by decide +kernel)) (fun _ h9 => h9) rfl dX4_up_43 ?_
      refine lv_iload_n hx hb dX4_up_46 rfl (lv_at hl 1 rfl) ?_
      refine lv_iload_n hx hb dX4_up_47 rfl (lv_at hl 2 rfl) ?_
      refine br_call (W.runS (As := [.int (nI j), .int (nI i)]) (rest := [.ref (q 1)]) ⟨hx, hb, hml, hown, hts⟩ (m_atw l j (i) (nI i) rfl) (va_cwS 2 hts gX4_up_X4_at rfl rfl rfl (by decide +kernel) ⟨(Nat.le_of_ble_eq_true rfl), (Nat.le_of_ble_eq_true rfl)⟩) (P0.preS) rfl rfl hl.1 rfl (lv_room (Nat.le_of_ble_eq_true rfl)) dX4_up_48 ⟨(Nat.le_of_ble_eq_true rfl), (Nat.le_of_ble_eq_true rfl)⟩) ?_
      refine lv_aload_n hx hb dX4_up_51 rfl (lv_at hl 0 rfl) ?_
      refine va_get (D := G) (ci := 4) (v := .ref (q 2)) (C := RX4) (T := TX4) (N := 21) hx hb hts (fun _ h => List.mem_cons_of_mem _ (List.mem_append_right _ h)) hown hK hP 0 rfl rfl 3 (by decide) (hts (.fieldLink RX4 13 "ShippedLogModel" "disk" "[I") (by decide +kernel)) (fun _ h9 => h9) rfl dX4_up_52 ?_
      refine lv_iload_n hx hb dX4_up_55 rfl (lv_at hl 1 rfl) ?_
      refine lv_iload_n hx hb dX4_up_56 rfl (lv_at hl 2 rfl) ?_
      refine br_call (W.runS (As := [.int (nI j), .int (nI i)]) (rest := [.ref (q 2), .int (nI (4096 * j + (i))), .ref (q 1)]) ⟨hx, hb, hml, hown, hts⟩ (m_atw l j (i) (nI i) rfl) (va_cwS 2 hts gX4_up_X4_at rfl rfl rfl (by decide +kernel) ⟨(Nat.le_of_ble_eq_true rfl), (Nat.le_of_ble_eq_true rfl)⟩) (P0.preS) rfl rfl hl.1 rfl (lv_room (Nat.le_of_ble_eq_true rfl)) dX4_up_57 ⟨(Nat.le_of_ble_eq_true rfl), (Nat.le_of_ble_eq_true rfl)⟩) ?_
      refine va_iald hx hb hK hP 2 3 rfl rfl (vp_in_nI (by omega) (by decide)) dX4_up_60 ?_
      refine va_iast hx hb hK hP hD hS 1 3 rfl rfl (vp_in_nI (by omega) (by decide)) dX4_up_61 (fun H locs hP hD hS => ?_)
      rw [upd_0] at hP hD
      have hP : va_P G vwCl (wM q k 0 (fun _ => 0) g7 g8) H := hP
      have hD : va_D A (wM q k 0 (fun _ => 0) g7 g8) := hD
      refine lv_iinc (v := nI (i + 1)) (lv' := [(2, .int (nI (i + 1))), (0, .ref (q 0)), (1, .int (nI j))]) hx hb dX4_up_62 hl (k := 2) rfl (nI_succ i).symm (by decide) rfl (fun ls hl => ?_)
      refine lv_goto (tgt := 35) hx hb dX4_up_65 (by decide) ?_
      exact ih (i + 1) (by omega) H locs ls hP hD hS (lv_sub hl [1, 2, 0] rfl)
  refine lv_aload_n hx hb dX4_up_0 rfl (lv_at hl 0 rfl) ?_
  refine lv_iconst (v := 0) hx hb dX4_up_1 (by decide) ?_
  refine va_put (D := G) (ci := 4) (v := .int 0) (ty := .int) (C := RX4) (T := TX4) (N := 21) hx hb hts (fun _ h => List.mem_cons_of_mem _ (List.mem_append_right _ h)) tyX4 tyX4_ok nmX4 hown hK hP hD hS 0 rfl rfl 0 (by decide) (hts (.fieldLink RX4 65 "ShippedLogModel" "thrown" "I") (by decide +kernel)) (fun _ h9 => h9) rfl (by decide +kernel) rfl rfl (Nat.le_of_ble_eq_true rfl) dX4_up_2 (fun H locs hP hD hS => ?_)
  have hP : va_P G vwCl (wM q k 0 (fun _ => 0) g7 g8) H := hP
  have hD : va_D A (wM q k 0 (fun _ => 0) g7 g8) := hD
  refine lv_iload_n hx hb dX4_up_5 rfl (lv_at hl 1 rfl) ?_
  refine br_call (W.runS (As := [.int (nI j)]) (rest := []) ⟨hx, hb, hml, hown, hts⟩ (m_isNode_t l j hj) (va_cwS 1 hts gX4_up_X4_isNode rfl rfl rfl (by decide +kernel) ⟨(Nat.le_of_ble_eq_true rfl), (Nat.le_of_ble_eq_true rfl)⟩) (P0.preS) rfl rfl hl.1 rfl (lv_room (Nat.le_of_ble_eq_true rfl)) dX4_up_6 ⟨(Nat.le_of_ble_eq_true rfl), (Nat.le_of_ble_eq_true rfl)⟩) ?_
  refine lv_if_ne (tgt := 18) hx hb dX4_up_9 (by decide) (fun _ => ?_) (fun c9 => absurd c9 (by decide : ¬ (1 : Int32) = 0))
  refine lv_aload_n hx hb dX4_up_18 rfl (lv_at hl 0 rfl) ?_
  refine va_get (D := G) (ci := 4) (v := .ref (q 3)) (C := RX4) (T := TX4) (N := 21) hx hb hts (fun _ h => List.mem_cons_of_mem _ (List.mem_append_right _ h)) hown hK hP 0 rfl rfl 4 (by decide) (hts (.fieldLink RX4 16 "ShippedLogModel" "role" "[I") (by decide +kernel)) (fun _ h9 => h9) rfl dX4_up_19 ?_
  refine lv_iload_n hx hb dX4_up_22 rfl (lv_at hl 1 rfl) ?_
  refine va_iald hx hb hK hP 3 3 rfl rfl (vp_in_nI hj (by decide)) dX4_up_23 ?_
  refine lv_if_eq (tgt := 33) hx hb dX4_up_24 (by decide) (fun _ => ?_) (fun c9 => absurd rfl c9)
  refine lv_iconst (v := 0) hx hb dX4_up_33 (by decide) ?_
  refine lv_istore_n (lv' := [(2, .int 0), (0, .ref (q 0)), (1, .int (nI j))]) hx hb dX4_up_34 rfl hl (by decide) rfl (fun ls hl => ?_)
  exact key 4096 0 rfl H locs ls hP hD hS (lv_sub hl [1, 2, 0] rfl)
set_option maxHeartbeats 4000000 in
set_option maxRecDepth 100000 in
/-- the caller of up, of a fresh node -/
theorem cL_up_ok (l : Launch) (hl9 : l.stackTraces = false) (G : va_G) (k : Nat → ClassId) (wx : va_W) (o : Nat) (fo : Nat → Int64) (sz : Nat) (x nd wy : Nat) (f g : Nat → Option Nat) (hF : FX k wx x nd wy f g) (j : Nat) (hj : j < 4) : vx_Met l yL_up wsL_up (rzk 3 1 6) (PL G k sz (wL k wx o fo) [.ref x, .int (nI j), .ref o]) (QL G k o 0 0 (va_A (wL k wx o fo) sz)) (fun _ _ _ => False) 1 6 (va_A (wL k wx o fo) sz) := by
  refine vx_ofWH (cc := cL_up) (maxL := 4) (ret := some .int) (hh := [(0, 9, 12, 13), (0, 9, 15, 15)]) (by decide) rfl ?_
  intro p e s m args below meth c s₁ B hml hv
  obtain ⟨rfl, hsz, hP, hD0, hI⟩ := hv
  subst hsz
  have hK := hI.1
  have hD := hD0.self (sz := s.heap.size)
  have hA : ∀ q : Nat, s.heap.size ≤ q → va_A (wL k wx o fo) s.heap.size q := fun _ h => Or.inr h
  have hS : va_S (va_A (wL k wx o fo) s.heap.size) s.heap s.heap [] := va_S.rf
  obtain ⟨kx, h0⟩ := List.getElem?_of_mem hF.1
  have hx := B.exec
  have hb := B.bytes
  have hr := B.returns
  have hts := atoms_spec (ws := wsL_up) B.pre
  have hown : s.vm.findClass RL = some m.cls := findClass_of_methodNamed B.named
  have hlocks := B.notSynchronized
  have hl := lv_entry ([.ref x, .int (nI j), .ref o]) (n := 4) (Nat.le_of_ble_eq_true rfl)
  rw [lg_entry_eq]
  generalize (lg_sl ([.ref x, .int (nI j), .ref o]) ++ List.replicate (4 - (lg_sl ([.ref x, .int (nI j), .ref o])).length) Slot.unset).toArray = ls at hl ⊢
  have hl : lv_has ls 4 [(0, .ref x), (1, .int (nI j)), (2, .ref o)] := hl
  refine lv_aload_n hx hb dL_up_0 rfl (lv_at hl 2 rfl) ?_
  refine lv_iconst (v := 0) hx hb dL_up_1 (by decide) ?_
  refine lv_aload_n hx hb dL_up_2 rfl (lv_at hl 0 rfl) ?_
  refine lv_iload_n hx hb dL_up_3 rfl (lv_at hl 1 rfl) ?_
  have hPx : va_P G vwCl wx s.heap := hP.mem (fun q hq => List.mem_append_left _ hq)
  have hDx : va_D (va_A (wL k wx o fo) s.heap.size) wx := hD.by id (fun i q hq => by
    show (wx ++ [(o, eO k fo)])[i]? = some q
    rw [List.getElem?_append_left (List.getElem?_eq_some_iff.mp hq).1]; exact hq) (fun _ _ _ _ h => h)
  refine va_calli (va_runV (As := [.int (nI j)]) (rest := [.int 0, .ref o]) ⟨hx, hb, hml, hown, hts⟩ (c_up_ok l G k _ wx x nd wy f g hF j hj) (cwV 1 hts gL_up_X3_up rfl rfl rfl (by decide +kernel) ⟨(Nat.le_of_ble_eq_true rfl), (Nat.le_of_ble_eq_true rfl)⟩) (UP.preV hK hPx hDx (ci := 3) rfl h0) rfl rfl hl.1 rfl (lv_room (Nat.le_of_ble_eq_true rfl)) dL_up_4 ⟨(Nat.le_of_ble_eq_true rfl), (Nat.le_of_ble_eq_true rfl)⟩) hS (fun q _ h => va_A.all hDx hA q h) (va_A.all hDx hA) (fun r u t H1 locs ht hvm hp hB h1 h2 hS => ?_)
  subst hp
  have ho : va_P G vwCl [(o, eO k fo)] H1 := hP.keep hD (wc := wx) (fun q hq => List.mem_append_left _ hq) (fun q hq => by
    rw [List.mem_singleton.mp hq]
    refine ⟨List.mem_append_right _ (List.mem_singleton.mpr rfl), fun hm => ?_⟩
    obtain ⟨i, hi⟩ := List.getElem?_of_mem hm
    have hlt := (List.getElem?_eq_some_iff.mp hi).1
    have e9 := hD.1 i wx.length _ _ (by rw [List.getElem?_append_left hlt]; exact hi) wL_o rfl
    omega) h2
  have hDo : va_D (va_A (wL k wx o fo) s.heap.size) [(o, eO k fo)] := ⟨va_D.one.1, fun i q hq => by
    have h9 : i < 1 := (List.getElem?_eq_some_iff.mp hq).1
    rw [show i = 0 by omega] at hq
    cases hq
    exact hD.2 wx.length _ wL_o⟩
  refine lv_i2l (v := Int32.toInt64 0) hx hb dL_up_7 rfl ?_
  refine va_last hx hb hK ho hDo hS 0 5 rfl rfl (vp_in_nI (n := 0) (by decide) (by decide)) dL_up_8 (fun H locs hP hD hS => ?_)
  refine lv_goto (tgt := 18) hx hb dL_up_9 (by decide) ?_
  refine lv_iconst (v := 0) hx hb dL_up_18 (by decide) ?_
  refine W.widen (k := 1) (n := 6) (by decide) (by decide) ?_
  exact vx_ret (W.iret (v := 0) hx hb hr (fun t ht hW => ⟨⟨0, Int32.toInt64 0, rfl, ⟨rfl, fun _ => rfl⟩, vp_updL fo 0 (Int32.toInt64 0), by rw [ht]; exact hP, rfl⟩, hS.F ht⟩) hS.2.2 dL_up_19)
