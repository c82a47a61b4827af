/-! 15a: what every contract carries, at the law's entry. Laid by wip/p1/gen15.py -/
theorem st_str : ∀ q ∈ strL, Cond.stringRef RX3 q.1 q.2 ∈ lw_tbl := by decide +kernel
theorem st_exa : ∀ q ∈ strL, Cond.exactly (Term.string RX3 q.1) "java/lang/String" ∈ flatC (Jvm.Cond.and given_1 narrow_1) := by decide +kernel
theorem st_dec : ∀ n ∈ deL, Cond.declares (Bundle.initS n) ∈ lw_tbl := by decide +kernel
theorem st_cst : ∀ n ∈ exL, Cond.castable n n ∈ lw_tbl := by decide +kernel
theorem st_not : ∀ q ∈ ncL, Cond.not (.castable q.1 q.2) ∈ flatC (Jvm.Cond.and given_1 narrow_1) := by decide +kernel
theorem sk_start {s : State} {b : Nat} (hts0 : ∀ w ∈ lw_tbl, w.before #[Value.ref b] s = true) (hgv : (Jvm.Cond.and given_1 narrow_1).before #[Value.ref b] s = true) : SK s := fun q hq => by
  have hs := flat_of_before _ hgv
  obtain ⟨a, c, cell, k, q1, -⟩ := Cond.exactly_spec (args := #[Value.ref b]) (first := s) (o := none) (s := s) (idx := []) (t := .string RX3 q.1) (cls := "java/lang/String") (hs _ (st_exa q hq))
  exact ⟨a, vk_R.of (A := #[Value.ref b]) (hts0 _ (st_str q hq)) q1⟩
theorem xb_start {s : State} {b : Nat} (hts0 : ∀ w ∈ lw_tbl, w.before #[Value.ref b] s = true) (hgv : (Jvm.Cond.and given_1 narrow_1).before #[Value.ref b] s = true) : XB s :=
  ⟨fun n hn => va_Nw.of (w := .declares (Bundle.initS n)) rfl (hts0 _ (st_dec n hn)), fun n hn => va_Nw.of (w := .castable n n) rfl (hts0 _ (st_cst n hn)), fun q hq => va_Nc.of (flat_of_before _ hgv _ (st_not q hq))⟩
theorem nb_start {s : State} {b : Nat} (hts0 : ∀ w ∈ lw_tbl, w.before #[Value.ref b] s = true) : NB s :=
  ⟨va_Nw.of (w := .methodLinkNest RX3 15 yX1_init "ShippedLog") rfl (hts0 _ (by decide +kernel)), va_Nw.of (w := .methodLinkNest RX3 22 yX2_init "ShippedLog") rfl (hts0 _ (by decide +kernel)), va_Nw.of (w := .methodLinkNest RX1 11 yX0_init "ShippedLog") rfl (hts0 _ (by decide +kernel)), va_AO.of (hts0 (.arrayOver (.object "ShippedLog$Node")) (by decide +kernel)), va_AO.of (hts0 (.arrayOver (.object "ShippedLog$Way")) (by decide +kernel))⟩
theorem zz_start {s : State} {b : Nat} (hts0 : ∀ w ∈ lw_tbl, w.before #[Value.ref b] s = true) (hgv : (Jvm.Cond.and given_1 narrow_1).before #[Value.ref b] s = true) : ZZ (fun q : Nat => s.heap.size ≤ q) s s.heap :=
  ⟨vx_Zqof (hts0 (.laysStatic Bundle.tN "UNASSIGNED_STACK" Bundle.steD) (by decide +kernel)) (hts0 (.initialized Bundle.tN) (by decide +kernel)) (flat_of_before _ hgv (.isRef (.static Bundle.tN "UNASSIGNED_STACK" Bundle.steD)) (by decide +kernel)) (fun _ h => Nat.not_le.mpr h),
   vx_Zqof (hts0 (.laysStatic Bundle.tN "SUPPRESSED_SENTINEL" Bundle.listD) (by decide +kernel)) (hts0 (.initialized Bundle.tN) (by decide +kernel)) (flat_of_before _ hgv (.isRef (.static Bundle.tN "SUPPRESSED_SENTINEL" Bundle.listD)) (by decide +kernel)) (fun _ h => Nat.not_le.mpr h)⟩
set_option maxHeartbeats 4000000 in
set_option maxRecDepth 100000 in
theorem k_start {s : State} {b : Nat} (hts0 : ∀ w ∈ lw_tbl, w.before #[Value.ref b] s = true) : ∃ (G : va_G) (k : Nat → ClassId), va_K G vwCl (pT k) s := by
  obtain ⟨c0, i0, k0⟩ := u_known (C := RX0) (T := TX0) (N := 4) (n := 4) hts0 inX0 (hts0 (.instantiable RX0 4) (by decide +kernel))
  obtain ⟨c1, i1, k1⟩ := u_known (C := RX1) (T := TX1) (N := 8) (n := 8) hts0 inX1 (hts0 (.instantiable RX1 8) (by decide +kernel))
  obtain ⟨c2, i2, k2⟩ := u_known (C := RX2) (T := TX2) (N := 4) (n := 4) hts0 inX2 (hts0 (.instantiable RX2 4) (by decide +kernel))
  obtain ⟨c3, i3, k3⟩ := u_known (C := RX3) (T := TX3) (N := 3) (n := 3) hts0 inX3 (hts0 (.instantiable RX3 3) (by decide +kernel))
  obtain ⟨c4, i4, k4⟩ := u_known (C := RX4) (T := TX4) (N := 21) (n := 21) hts0 inX4 (hts0 (.instantiable RX4 21) (by decide +kernel))
  obtain ⟨pN, aN, kN, n1, n2, n3, n4, n5⟩ := Cond.arrayOver_spec (hts0 (.arrayOver (.object "ShippedLog$Node")) (by decide +kernel))
  obtain ⟨pW, aW, kW, w1, w2, w3, w4, w5⟩ := Cond.arrayOver_spec (hts0 (.arrayOver (.object "ShippedLog$Way")) (by decide +kernel))
  obtain ⟨aB, kB, pB, b1, b2, b3⟩ := Cond.arrayClass_spec (hts0 (.arrayClass .byte) (by decide +kernel))
  obtain ⟨aI, kI, pI, j1, j2, j3⟩ := Cond.arrayClass_spec (hts0 (.arrayClass .int) (by decide +kernel))
  obtain ⟨aZ, kZ, pZ, z1, z2, z3⟩ := Cond.arrayClass_spec (hts0 (.arrayClass .boolean) (by decide +kernel))
  obtain ⟨aL, kL, pL, l1, l2, l3⟩ := Cond.arrayClass_spec (hts0 (.arrayClass .long) (by decide +kernel))
  refine ⟨(fun n => match n with | 0 => c0 | 1 => c1 | 2 => c2 | 3 => c3 | _ => c4, fun n => match n with | 0 => i0 | 1 => i1 | 2 => i2 | 3 => i3 | _ => i4), fun n => match n with | 0 => aN | 1 => aW | 2 => aB | 3 => aI | 4 => aZ | _ => aL, fun n q hq => ?_, fun n q hq => ?_⟩
  · match n, hq with
    | 0, hq => cases hq; exact k0
    | 1, hq => cases hq; exact k1
    | 2, hq => cases hq; exact k2
    | 3, hq => cases hq; exact k3
    | 4, hq => cases hq; exact k4
    | n + 5, hq => simp [vwCl] at hq
  · match n, hq with
    | 0, hq => cases hq; exact ⟨fun N z => ⟨(fun k h => by cases h), kN, n3, pN, n4⟩, kN, pN, n3, n4, n1, n5⟩
    | 1, hq => cases hq; exact ⟨fun N z => ⟨(fun k h => by cases h), kW, w3, pW, w4⟩, kW, pW, w3, w4, w1, w5⟩
    | 2, hq => cases hq; exact ⟨fun N z => ⟨(fun k h => by cases h), kB, b2, pB, b3⟩, b1⟩
    | 3, hq => cases hq; exact ⟨fun N z => ⟨(fun k h => by cases h), kI, j2, pI, j3⟩, j1⟩
    | 4, hq => cases hq; exact ⟨fun N z => ⟨(fun k h => by cases h), kZ, z2, pZ, z3⟩, z1⟩
    | 5, hq => cases hq; exact ⟨fun N z => ⟨(fun k h => by cases h), kL, l2, pL, l3⟩, l1⟩
    | n + 6, hq => simp [pT] at hq
theorem iv_start {s : State} {b : Nat} (hts0 : ∀ w ∈ lw_tbl, w.before #[Value.ref b] s = true) (hgv : (Jvm.Cond.and given_1 narrow_1).before #[Value.ref b] s = true) : ∃ (G : va_G) (k : Nat → ClassId), IV G k (fun q : Nat => s.heap.size ≤ q) s := by
  obtain ⟨G, k, hK⟩ := k_start hts0
  exact ⟨G, k, hK, zz_start hts0 hgv, sk_start hts0 hgv, xb_start hts0 hgv, nb_start hts0⟩
theorem no_traces {l : Launch} (h : l.flags = flags0) : l.stackTraces = false := by
  unfold Launch.stackTraces
  rw [h]
  decide +kernel
