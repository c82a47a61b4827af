/-! 15c: the law from its entry. Laid by wip/p1/gen15.py -/
set_option maxHeartbeats 4000000 in
set_option maxRecDepth 100000 in
theorem whole_start {p : Program} {e : Env} {s : State} {m : MethodId} {below : List Frame} {meth : Method} {c : Code} (l : Launch) (hflags : l.flags = flags0) {b L : Nat} {xs : Nat → Int32} (hL : L ≤ 4) (C0 : lw_At p s m meth c b L xs) : W p l e room_1 s m #[Value.ref b] below meth c s.heap [] 0 0 (lw_Z below #[Value.ref b] s) (entryFrame m ([Value.ref b] : List Value).toArray 7) := by
  have C1 := C0
  obtain ⟨hx, hb, hr, hml, hown, hts0, hX, hbl, hlocks, hgv⟩ := C1
  have hl9 := no_traces hflags
  have hts := fun w h => hts0 w (wsL_law_in w h)
  obtain ⟨G, k, hI⟩ := iv_start hts0 hgv
  have hK := hI.1
  have hN := hI.2.2.2.2
  have hA : ∀ q : Nat, s.heap.size ≤ q → (fun q : Nat => s.heap.size ≤ q) q := fun _ h => h
  have hbA : ¬ (fun q : Nat => s.heap.size ≤ q) b := Nat.not_le.mpr hbl
  have hS : va_S (fun q : Nat => s.heap.size ≤ q) s.heap s.heap [] := va_S.rf
  have hP : va_P G vwCl [] s.heap := fun k q h => by simp at h
  have hD : va_D (fun q : Nat => s.heap.size ≤ q) [] := ⟨fun i j p q h => by simp at h, fun k q h => by simp at h⟩
  have hl := lv_entry ([.ref b]) (n := 7) (Nat.le_of_ble_eq_true rfl)
  rw [lg_entry_eq]
  generalize (lg_sl ([.ref b]) ++ List.replicate (7 - (lg_sl ([.ref b])).length) Slot.unset).toArray = ls at hl ⊢
  have hl : lv_has ls 7 [(0, .ref b)] := hl
  refine va_new (ci := 3) (fs := [.null, .null, .int 0]) (C := RX3) (T := TX3) (N := 3) hx hb hts0 inX3 tyX3 tyX3_ok hown (hts0 (.classLink R_law 8 RX3) (by decide +kernel)) (hts0 (.instantiable RX3 3) (by decide +kernel)) (hts0 (.initialized RX3) (by decide +kernel)) hK hP hD hS hA rfl (fun j hj => by rcases (show j = 0 ∨ j = 1 ∨ j = 2 by omega) with rfl | rfl | rfl <;> rfl) (Nat.le_of_ble_eq_true rfl) (Nat.le_of_ble_eq_true rfl) dL_law_0 (fun x H hP hD hS => ?_)
  have hP : va_P G vwCl [(x, .inr (3, [.null, .null, .int 0]))] H := hP
  have hD : va_D (fun q : Nat => s.heap.size ≤ q) [(x, .inr (3, [.null, .null, .int 0]))] := hD
  have hfr := va_A.all hD (fun z h => Nat.le_trans hS.1 h)
  refine lv_dup hx hb dL_law_3 rfl ?_
  refine va_callv (va_runI (As := []) (rest := [.ref x]) ⟨hx, hb, hml, hown, hts⟩ (c_ShippedLog_init l G k H.size x) (cwI 0 hts gL_law_X3_init rfl rfl rfl (hts0 (.initialized RX3) (by decide +kernel)) (hts0 (.methodLink R_law 72 yX3_init) (by decide +kernel)) (hts0 (.instanceMethod yX3_init) (by decide +kernel)) rfl (by decide +kernel) ⟨Nat.le_of_ble_eq_true rfl, Nat.le_of_ble_eq_true rfl⟩) (PC0.preS hK hN hP) rfl rfl hl.1 rfl (lv_room (Nat.le_of_ble_eq_true rfl)) dL_law_4 ⟨Nat.le_of_ble_eq_true rfl, Nat.le_of_ble_eq_true rfl⟩) hS (fun z _ h => hfr z h) hfr (fun u t H1 locs ht hvm hw hB hz1 hk1 hS => ?_)
  obtain ⟨wx, nd, wy, f, g⟩ := u
  obtain ⟨hP1, hD1⟩ := hB
  rw [ht] at hP1
  have hF : FX k wx x nd wy f g := hw
  have hPx : va_P G vwCl wx H1 := hP1
  have hDx : va_D (fun q : Nat => s.heap.size ≤ q) wx := hD1.weaken (fun _ z _ h => hfr z.1 h)
  refine lv_astore_n (lv' := [(1, .ref x), (0, .ref b)]) hx hb dL_law_7 rfl hl (by decide) rfl (fun ls hl => ?_)
  refine va_new (ci := 4) (fs := [.int 0, .int 0, .null, .null, .null, .null, .null, .null, .null, .null, .null, .null, .null, .null, .null, .null, .null, .null, .null, .null, .int 0]) (C := RX4) (T := TX4) (N := 21) hx hb hts0 inX4 tyX4 tyX4_ok hown (hts0 (.classLink R_law 73 RX4) (by decide +kernel)) (hts0 (.instantiable RX4 21) (by decide +kernel)) (hts0 (.initialized RX4) (by decide +kernel)) hK hPx hDx hS hA rfl (by decide +kernel) (Nat.le_of_ble_eq_true rfl) (Nat.le_of_ble_eq_true rfl) dL_law_8 (fun a H hP hD hS => ?_)
  have hPa : va_P G vwCl [(a, .inr (4, [.int 0, .int 0, .null, .null, .null, .null, .null, .null, .null, .null, .null, .null, .null, .null, .null, .null, .null, .null, .null, .null, .int 0]))] H := hP.mem (fun z hz => List.mem_append_right _ hz)
  have hPx : va_P G vwCl wx H := hP.mem (fun z hz => List.mem_append_left _ hz)
  have hDa : va_D (fun q : Nat => s.heap.size ≤ q) [(a, .inr (4, [.int 0, .int 0, .null, .null, .null, .null, .null, .null, .null, .null, .null, .null, .null, .null, .null, .null, .null, .null, .null, .null, .int 0]))] := hD.flip.left
  have hfr := va_A.all hDa (fun z h => Nat.le_trans hS.1 h)
  refine lv_dup hx hb dL_law_11 rfl ?_
  refine va_callv (va_runI (As := []) (rest := [.ref a]) ⟨hx, hb, hml, hown, hts⟩ (c_Model_init l G k H.size a) (cwI 0 hts gL_law_X4_init rfl rfl rfl (hts0 (.initialized RX4) (by decide +kernel)) (hts0 (.methodLink R_law 75 yX4_init) (by decide +kernel)) (hts0 (.instanceMethod yX4_init) (by decide +kernel)) rfl (by decide +kernel) ⟨Nat.le_of_ble_eq_true rfl, Nat.le_of_ble_eq_true rfl⟩) (PC0.preS hK hN hPa) rfl rfl hl.1 rfl (lv_room (Nat.le_of_ble_eq_true rfl)) dL_law_12 ⟨Nat.le_of_ble_eq_true rfl, Nat.le_of_ble_eq_true rfl⟩) hS (fun z _ h => hfr z h) hfr (fun u t2 H2 locs2 ht2 hvm2 hw2 hB2 hz2 hk2 hS => ?_)
  obtain ⟨q, g7, g8⟩ := u
  obtain ⟨hP2, hD2⟩ := hB2
  rw [ht2] at hP2
  have hq : q 0 = a := hw2
  obtain ⟨hP, hD⟩ := two_join hPx hD hk2 hfr hP2 hD2
  have hP3 := va_P.flip hP
  have hD3 := va_D.flip hD
  refine lv_astore_n (lv' := [(2, .ref a), (1, .ref x), (0, .ref b)]) hx hb dL_law_15 rfl hl (by decide) rfl (fun ls hl => ?_)
  subst hq
  refine lv_iconst (v := 1) hx hb dL_law_16 (by decide) ?_
  show W p l e room_1 s m #[Value.ref b] below meth c H2 locs2 86 83212 (lw_Z below #[Value.ref b] s) (F0 m 17 ls [.int 1])
  refine b_newa (cells := 86) (slots := 83212) (R := room_1) (n := 1) (atype := .long) (ty := .long) (t0 := 5) hx hb (hts0 (.arrayClass .long) (by decide +kernel)) rfl hK rfl hP3 hD3 hS hA (N' := 1) (a0 := (1, .inr (.inl (fun _ => 0)))) (fun _ => rfl) (by decide) rfl (Nat.le_of_ble_eq_true rfl) (Nat.le_of_ble_eq_true rfl) (Nat.le_of_ble_eq_true rfl) dL_law_17 (fun o H3 hP hD hS => ?_)
  have hP : va_P G vwCl (wM q k 0 (fun _ => 0) g7 g8 ++ wL k wx o (fun _ => 0)) H3 := by
    have h9 := hP
    rw [List.append_assoc] at h9
    exact h9
  have hD : va_D (fun q : Nat => s.heap.size ≤ q) (wM q k 0 (fun _ => 0) g7 g8 ++ wL k wx o (fun _ => 0)) := by
    have h9 := hD
    rw [List.append_assoc] at h9
    exact h9
  refine lv_astore_n (lv' := [(3, .ref o), (2, .ref (q 0)), (1, .ref x), (0, .ref b)]) hx hb dL_law_19 rfl hl (by decide) rfl (fun ls hl => ?_)
  refine lv_iconst (v := 0) hx hb dL_law_20 (by decide) ?_
  refine lv_istore (lv' := [(4, .int 0), (3, .ref o), (2, .ref (q 0)), (1, .ref x), (0, .ref b)]) hx hb dL_law_21 hl (by decide) rfl (fun ls hl => ?_)
  refine lv_iload hx hb dL_law_23 (lv_at hl 0 rfl) ?_
  refine lv_aload_n hx hb dL_law_25 rfl (lv_at hl 4 rfl) ?_
  refine va_slen hx hb hX hbl hbA hS dL_law_26 ?_
  refine lv_iconst (v := 4) hx hb dL_law_27 (by decide) ?_
  refine lv_isub hx hb dL_law_28 ?_
  by_cases h4 : L = 4
  · subst h4
    refine lv_icmp_gt (tgt := 1197) hx hb dL_law_29 (by decide) (fun c9 => absurd c9 (by decide)) (fun _ => ?_)
    exact law_case l hl9 C0 hI hF H3 _ ls hP hD hS (lv_sub hl [4, 3, 2, 1, 0] rfl)
  · refine lv_icmp_gt (tgt := 1197) hx hb dL_law_29 (by decide) (fun _ => ?_) (fun c9 => absurd (by rcases (show L = 0 ∨ L = 1 ∨ L = 2 ∨ L = 3 by omega) with rfl | rfl | rfl | rfl <;> decide) c9)
    refine lv_iconst (v := 1) hx hb dL_law_1197 (by decide) ?_
    refine va_forget (fun q hq => hS.2.2 q hq) ?_
    refine W.widen (k := 600002) (n := 7302232) (Nat.le_of_ble_eq_true rfl) (Nat.le_of_ble_eq_true rfl) ?_
    exact lw_ret hx hb hr hlocks dL_law_1198
