theorem sa_cls {s : State} {args : Array Value} {ty : FieldType} (h : (Cond.arrayClass ty).before args s = true) : ∃ cA, s.vm.findClass ("[" ++ ty.toString) = some cA ∧ ArrOfT s cA ty := by
  obtain ⟨cA, k, comp, h1, h2, h3⟩ := Cond.arrayClass_spec h
  exact ⟨cA, h1, fun n z => ⟨fun k h => (by cases h), k, h2, comp, h3⟩⟩
theorem sa_grid {s : State} (h : va_AOA .int s) : ∃ cA, s.vm.findClass ("[" ++ (FieldType.array .int).toString) = some cA ∧ ArrOfT s cA (.array .int) := by
  unfold va_AOA Cond.before at h
  obtain ⟨comp, c, k, h1, h2, h3, h4, h5⟩ := Stand.arrayOver_specB h
  exact ⟨c, h5, fun n z => ⟨fun k h => (by cases h), k, h3, comp, h4⟩⟩
set_option maxHeartbeats 8000000 in
set_option maxRecDepth 100000 in
theorem whole_from {Rel : St → St → Prop} (hR0 : Rel t0C s0M) (hS0 : StpAll Rel) {p : Program} {e : Env} {s : State} {m : MethodId} {below : List Frame} {meth : Method} {c : Code} (l : Launch) {b L : Nat} {xs : Nat → Int32} (hL : L ≤ 3072) (C0 : lw_At p s m meth c b L xs) : W p l e room_1 s m #[Value.ref b] below meth c s.heap [] 0 0 (lw_Z below #[Value.ref b] s) (entryFrame m ([Value.ref b] : List Value).toArray 4) := by
  have C := cf_law C0
  obtain ⟨hx, hb, hr, hml, hown, hts, hX, hbl, hlocks, hgv⟩ := id C0
  have hA : ∀ q : Nat, s.heap.size ≤ q → (fun q : Nat => s.heap.size ≤ q) q := fun _ h => h
  obtain ⟨c0, i0, hKn0⟩ := u_known (C := RX0) (T := TX0) (N := 4) (n := 4) C.2.2.2.2 inX0 (C.2.2.2.2 _ mw_273)
  obtain ⟨c1, i1, hKn1⟩ := u_known (C := RX1) (T := TX1) (N := 1) (n := 1) C.2.2.2.2 inX1 (C.2.2.2.2 _ mw_263)
  obtain ⟨c2, i2, hKn2⟩ := u_known (C := RX3) (T := TX3) (N := 5) (n := 5) C.2.2.2.2 inX3 (C.2.2.2.2 _ mw_135)
  obtain ⟨c3, i3, hKn3⟩ := u_known (C := RX4) (T := TX4) (N := 4) (n := 4) C.2.2.2.2 inX4 (C.2.2.2.2 _ mw_244)
  obtain ⟨c4, i4, hKn4⟩ := u_known (C := RX6) (T := TX6) (N := 8) (n := 8) C.2.2.2.2 inX6 (C.2.2.2.2 _ mw_147)
  obtain ⟨c5, i5, hKn5⟩ := u_known (C := RX7) (T := TX7) (N := 2) (n := 2) C.2.2.2.2 inX7 (C.2.2.2.2 _ mw_71)
  obtain ⟨c6, i6, hKn6⟩ := u_known (C := RX8) (T := TX8) (N := 9) (n := 9) C.2.2.2.2 inX8 (C.2.2.2.2 _ mw_93)
  obtain ⟨c7, i7, hKn7⟩ := u_known (C := RX9) (T := TX9) (N := 4) (n := 4) C.2.2.2.2 inX9 (C.2.2.2.2 _ mw_141)
  obtain ⟨c8, i8, hKn8⟩ := u_known (C := RX10) (T := TX10) (N := 12) (n := 12) C.2.2.2.2 inX10 (C.2.2.2.2 _ mw_63)
  obtain ⟨c9, i9, hKn9⟩ := u_known (C := RX11) (T := TX11) (N := 35) (n := 35) C.2.2.2.2 inX11 (C.2.2.2.2 _ mw_947)
  obtain ⟨D, hKc⟩ : ∃ D : va_G, ∀ (k : Nat) (q : vw_C), clsL[k]? = some q → u_Kn s q.1 q.2.1 q.2.2 (D.1 k) (D.2 k) := by
    refine ⟨(fun k => match k with | 0 => c0 | 1 => c1 | 2 => c2 | 3 => c3 | 4 => c4 | 5 => c5 | 6 => c6 | 7 => c7 | 8 => c8 | _ => c9, fun k => match k with | 0 => i0 | 1 => i1 | 2 => i2 | 3 => i3 | 4 => i4 | 5 => i5 | 6 => i6 | 7 => i7 | 8 => i8 | _ => i9), ?_⟩
    intro k q hq
    match k, hq with
    | 0, hq => cases hq; exact hKn0
    | 1, hq => cases hq; exact hKn1
    | 2, hq => cases hq; exact hKn2
    | 3, hq => cases hq; exact hKn3
    | 4, hq => cases hq; exact hKn4
    | 5, hq => cases hq; exact hKn5
    | 6, hq => cases hq; exact hKn6
    | 7, hq => cases hq; exact hKn7
    | 8, hq => cases hq; exact hKn8
    | 9, hq => cases hq; exact hKn9
    | k + 10, hq => simp [clsL] at hq
  obtain ⟨cI, fI, aI⟩ := sa_cls (C.2.2.2.2 _ mw_arrI)
  obtain ⟨cZ, fZ, aZ⟩ := sa_cls (C.2.2.2.2 _ mw_arrZ)
  have hov : va_AOA .int s := hts (Cond.arrayOver (.array .int)) (List.mem_of_getElem? (i := 80) (by decide +kernel))
  obtain ⟨cG, fG, aG⟩ := sa_grid hov
  have hN : NX s := ⟨va_Nw.of rfl (hts _ (List.mem_of_getElem? (i := 94) (by decide +kernel))), va_Nw.of rfl (hts _ (List.mem_of_getElem? (i := 142) (by decide +kernel))), va_Nw.of rfl (hts _ (List.mem_of_getElem? (i := 148) (by decide +kernel))), va_Nw.of rfl (hts _ (List.mem_of_getElem? (i := 245) (by decide +kernel))), va_Nw.of rfl (hts _ (List.mem_of_getElem? (i := 264) (by decide +kernel))), va_Nw.of rfl (hts _ (List.mem_of_getElem? (i := 274) (by decide +kernel))), hov⟩
  have hKS : KS (D, fun _ => 0, cI, cG, cZ) s := ⟨hKc, fun k q h => by
    match k, h with
    | 0, h => cases h; exact ⟨aI, fI⟩
    | 1, h => cases h; exact ⟨aG, fG⟩
    | 2, h => cases h; exact ⟨aZ, fZ⟩
    | k + 3, h => simp [tysG] at h⟩
  obtain ⟨g, hg⟩ : ∃ g : GG, g = (D, fun _ => 0, cI, cG, cZ) := ⟨_, rfl⟩
  rw [← hg] at hKS
  have hS : va_S (fun q : Nat => s.heap.size ≤ q) s.heap s.heap [] := va_S.rf
  have hP : va_P g.1 clsL [] s.heap := fun k q h => by simp at h
  have hD : va_D (fun q : Nat => s.heap.size ≤ q) [] := ⟨fun i j p q h => by simp at h, fun k q h => by simp at h⟩
  have hl := lv_entry ([.ref b]) (n := 4) (Nat.le_of_ble_eq_true rfl)
  rw [lg_entry_eq]
  generalize (lg_sl ([.ref b]) ++ List.replicate (4 - (lg_sl ([.ref b])).length) Slot.unset).toArray = ls at hl ⊢
  have hl : lv_has ls 4 [(0, .ref b)] := hl
  refine va_new (D := g.1) (ws := []) (ci := 8) (fs := [.null, .null, .null, .null, .null, .null, .null, .null, .null, .null, .int 0, .int 0]) (C := RX10) (T := TX10) (N := 12) hx hb C.2.2.2.2 inX10 tyX10 tyX10_ok C.2.2.2.1 (C.2.2.2.2 _ mw_62) (C.2.2.2.2 _ mw_63) (C.2.2.2.2 _ mw_46) hKS hP hD hS hA rfl (fun j hj => match j, hj with | 0, _ => rfl | 1, _ => rfl | 2, _ => rfl | 3, _ => rfl | 4, _ => rfl | 5, _ => rfl | 6, _ => rfl | 7, _ => rfl | 8, _ => rfl | 9, _ => rfl | 10, _ => rfl | 11, _ => rfl | j + 12, h => absurd h (by omega)) (Nat.le_of_ble_eq_true rfl) (Nat.le_of_ble_eq_true rfl) dL_law_0 (fun q1 H hP hD hS => ?_)
  refine lv_dup hx hb dL_law_3 rfl ?_
  refine z_cI (X := []) (As := []) (rest := [.ref q1]) C hl.1 hKS hN hP hD hS hA ⟨Nat.le_of_ble_eq_true rfl, Nat.le_of_ble_eq_true rfl⟩ (ci_X10 l g q1) (cwI 0 C.2.2.2.2 (gtbl_gi mw_66) rfl rfl rfl (C.2.2.2.2 _ mw_46) (C.2.2.2.2 _ mw_64) (C.2.2.2.2 _ mw_65) rfl (by decide +kernel) ⟨Nat.le_of_ble_eq_true rfl, Nat.le_of_ble_eq_true rfl⟩) rfl rfl (Nat.le_of_ble_eq_true rfl) dL_law_4 (fun uC H locs huuC hP hD hS => ?_)
  have hP : va_P g.1 clsL (wE 52 entC (g.1, uC, g.2.2) t0C) H := hP
  have hD : va_D (fun q : Nat => s.heap.size ≤ q) (wE 52 entC (g.1, uC, g.2.2) t0C) := hD
  refine lv_astore_n (lv' := [(1, .ref q1), (0, .ref b)]) hx hb dL_law_7 rfl hl (by decide) rfl (fun ls hl => ?_)
  refine va_new (D := g.1) (ws := wE 52 entC (g.1, uC, g.2.2) t0C) (ci := 9) (fs := [.null, .null, .null, .null, .int 0, .null, .null, .int 0, .null, .null, .null, .null, .null, .null, .int 0, .null, .null, .int 0, .long 0, .long 0, .int 0, .null, .int 0, .int 0, .null, .null, .int 0, .null, .null, .null, .int 0, .null, .null, .null, .null]) (C := RX11) (T := TX11) (N := 35) hx hb C.2.2.2.2 inX11 tyX11 tyX11_ok C.2.2.2.1 (C.2.2.2.2 _ mw_946) (C.2.2.2.2 _ mw_947) (C.2.2.2.2 _ mw_57) hKS hP hD hS hA rfl (fun j hj => match j, hj with | 0, _ => rfl | 1, _ => rfl | 2, _ => rfl | 3, _ => rfl | 4, _ => rfl | 5, _ => rfl | 6, _ => rfl | 7, _ => rfl | 8, _ => rfl | 9, _ => rfl | 10, _ => rfl | 11, _ => rfl | 12, _ => rfl | 13, _ => rfl | 14, _ => rfl | 15, _ => rfl | 16, _ => rfl | 17, _ => rfl | 18, _ => rfl | 19, _ => rfl | 20, _ => rfl | 21, _ => rfl | 22, _ => rfl | 23, _ => rfl | 24, _ => rfl | 25, _ => rfl | 26, _ => rfl | 27, _ => rfl | 28, _ => rfl | 29, _ => rfl | 30, _ => rfl | 31, _ => rfl | 32, _ => rfl | 33, _ => rfl | 34, _ => rfl | j + 35, h => absurd h (by omega)) (Nat.le_of_ble_eq_true rfl) (Nat.le_of_ble_eq_true rfl) dL_law_8 (fun q2 H hP hD hS => ?_)
  refine lv_dup hx hb dL_law_11 rfl ?_
  refine z_cI (X := wE 52 entC (g.1, uC, g.2.2) t0C) (As := []) (rest := [.ref q2]) C hl.1 hKS hN hP hD hS hA ⟨Nat.le_of_ble_eq_true rfl, Nat.le_of_ble_eq_true rfl⟩ (ci_X11 l g q2) (cwI 0 C.2.2.2.2 (gtbl_gi mw_950) rfl rfl rfl (C.2.2.2.2 _ mw_57) (C.2.2.2.2 _ mw_948) (C.2.2.2.2 _ mw_949) rfl (by decide +kernel) ⟨Nat.le_of_ble_eq_true rfl, Nat.le_of_ble_eq_true rfl⟩) rfl rfl (Nat.le_of_ble_eq_true rfl) dL_law_12 (fun uM H locs huuM hP hD hS => ?_)
  refine W.widen (k := 600000) (n := 7302250) (Nat.le_of_ble_eq_true rfl) (Nat.le_of_ble_eq_true rfl) ?_
  refine lv_astore_n (lv' := [(2, .ref q2), (1, .ref q1), (0, .ref b)]) hx hb dL_law_15 rfl hl (by decide) rfl (fun ls hl => ?_)
  refine lv_iconst (v := 0) hx hb dL_law_16 (by decide) ?_
  refine lv_istore_n (lv' := [(3, .int 0), (2, .ref q2), (1, .ref q1), (0, .ref b)]) hx hb dL_law_17 rfl hl (by decide) rfl (fun ls hl => ?_)
  refine law_loop (gC := (g.1, uC, g.2.2)) (gM := (g.1, uM, g.2.2)) hL C0 hKS hKS (fun i j hi hj => ?_) hS0 (L + 1) 0 (by omega) t0C s0M H locs ls hR0 ⟨hP.left, hD.left, hS⟩ ⟨hP.right, hD.right, hS⟩ ?_ (by omega)
  · exact hD.apart (i := i) (j := j) (wl_get hi) (wl_get hj)
  · rw [← huuC, ← huuM] at hl
    exact lv_sub hl [3, 2, 1, 0] rfl
