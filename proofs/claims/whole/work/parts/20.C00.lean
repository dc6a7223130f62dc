theorem dX2_purseBehind_0 : decode cX2_purseBehind 0 = .ok (.iload_n 0, 1) := by decide +kernel
theorem dX2_purseBehind_1 : decode cX2_purseBehind 1 = .ok (.tableswitch 62 1 5 #[35, 62, 62, 42, 53], 35) := by decide +kernel
theorem dX2_purseBehind_36 : decode cX2_purseBehind 36 = .ok (.iload_n 2, 1) := by decide +kernel
theorem dX2_purseBehind_37 : decode cX2_purseBehind 37 = .ok (.iload_n 1, 1) := by decide +kernel
theorem dX2_purseBehind_38 : decode cX2_purseBehind 38 = .ok (.iadd, 1) := by decide +kernel
theorem dX2_purseBehind_39 : decode cX2_purseBehind 39 = .ok (.istore_n 3, 1) := by decide +kernel
theorem dX2_purseBehind_40 : decode cX2_purseBehind 40 = .ok (.goto 25, 3) := by decide +kernel
theorem dX2_purseBehind_43 : decode cX2_purseBehind 43 = .ok (.iload_n 2, 1) := by decide +kernel
theorem dX2_purseBehind_44 : decode cX2_purseBehind 44 = .ok (.iload_n 1, 1) := by decide +kernel
theorem dX2_purseBehind_45 : decode cX2_purseBehind 45 = .ok (.iadd, 1) := by decide +kernel
theorem dX2_purseBehind_46 : decode cX2_purseBehind 46 = .ok (.iload_n 2, 1) := by decide +kernel
theorem dX2_purseBehind_47 : decode cX2_purseBehind 47 = .ok (.iconst 5, 1) := by decide +kernel
theorem dX2_purseBehind_48 : decode cX2_purseBehind 48 = .ok (.idiv, 1) := by decide +kernel
theorem dX2_purseBehind_49 : decode cX2_purseBehind 49 = .ok (.iadd, 1) := by decide +kernel
theorem dX2_purseBehind_50 : decode cX2_purseBehind 50 = .ok (.istore_n 3, 1) := by decide +kernel
theorem dX2_purseBehind_51 : decode cX2_purseBehind 51 = .ok (.goto 14, 3) := by decide +kernel
theorem dX2_purseBehind_54 : decode cX2_purseBehind 54 = .ok (.iload_n 1, 1) := by decide +kernel
theorem dX2_purseBehind_55 : decode cX2_purseBehind 55 = .ok (.iload_n 2, 1) := by decide +kernel
theorem dX2_purseBehind_56 : decode cX2_purseBehind 56 = .ok (.iconst 2, 1) := by decide +kernel
theorem dX2_purseBehind_57 : decode cX2_purseBehind 57 = .ok (.idiv, 1) := by decide +kernel
theorem dX2_purseBehind_58 : decode cX2_purseBehind 58 = .ok (.iadd, 1) := by decide +kernel
theorem dX2_purseBehind_59 : decode cX2_purseBehind 59 = .ok (.istore_n 3, 1) := by decide +kernel
theorem dX2_purseBehind_60 : decode cX2_purseBehind 60 = .ok (.goto 5, 3) := by decide +kernel
theorem dX2_purseBehind_63 : decode cX2_purseBehind 63 = .ok (.iload_n 1, 1) := by decide +kernel
theorem dX2_purseBehind_64 : decode cX2_purseBehind 64 = .ok (.istore_n 3, 1) := by decide +kernel
theorem dX2_purseBehind_65 : decode cX2_purseBehind 65 = .ok (.bipush 99, 2) := by decide +kernel
theorem dX2_purseBehind_67 : decode cX2_purseBehind 67 = .ok (.iload_n 3, 1) := by decide +kernel
theorem dX2_purseBehind_68 : decode cX2_purseBehind 68 = .ok (.invokestatic 11, 3) := by decide +kernel
theorem dX2_purseBehind_71 : decode cX2_purseBehind 71 = .ok (.ireturn, 1) := by decide +kernel
def fX2_purseBehind (σ : St) (p0 : Int32) (p1 : Int32) (p2 : Int32) : Option (St × Int32) := pv (if p0 = 1 then (p2 + p1) else (if p0 = 4 then ((p2 + p1) + (p2 / 5)) else (if p0 = 5 then (p1 + (p2 / 2)) else p1))) (fun (z2 : Int32) => some (σ, (if z2 < 99 then z2 else 99)))
set_option maxHeartbeats 4000000 in
set_option maxRecDepth 100000 in
theorem ctX2_purseBehind (l : Launch) (g : GG) (σ : St) (p0 : Int32) (p1 : Int32) (p2 : Int32) (σ' : St) (r : Int32) (hE : fX2_purseBehind σ p0 p1 p2 = some (σ', r)) : MI 52 entC l g yX2_purseBehind (Cond.code yX2_purseBehind cX2_purseBehind 4 (some .int) :: gtbl) (rmD 1) [.int p0, .int p1, .int p2] σ σ' r := by
  refine mi_i (own := RX2) (lv := [(0, .int p0), (1, .int p1), (2, .int p2)]) (by decide) rfl (Nat.le_of_ble_eq_true rfl) rfl (fun p e s m below meth c ls args Q A H0 H locs C hK hA hQ hs hl => ?_)
  have hx := C.1
  have hb := C.2.1
  unfold fX2_purseBehind at hE
  refine lv_iload_n hx hb dX2_purseBehind_0 rfl (lv_at hl 0 rfl) ?_
  refine pvw hE (fun k1 hE hk1 => ?_)
  have hJk1 : ∀ (z2 : Int32) (H : Heap) (locs : List Loc) (ls : Array Slot), HW 52 entC g A H0 H locs σ → lv_has ls 4 [(3, .int z2)] → k1 z2 = some (σ', r) → W p l e (rmD 1) s m args below meth c H locs 0 0 Q (F0 m 65 ls []) := by
    intro z2 H locs ls hs hl hE
    have hE := hk1 _ hE
    refine lv_bipush (v := 99) hx hb dX2_purseBehind_65 (by decide) ?_
    refine lv_iload_n hx hb dX2_purseBehind_67 rfl (lv_at hl 0 rfl) ?_
    refine va_mmin hx hb (C.2.2.1.trans hl.1.symm) C.2.2.2.1 (C.2.2.2.2 _ mw_554) (C.2.2.2.2 _ mw_448) (C.2.2.2.2 _ mw_48) (C.2.2.2.2 _ mw_449) (Nat.le_of_ble_eq_true rfl) (Nat.le_of_ble_eq_true rfl) (Nat.le_refl 0) (Nat.le_refl 0) dX2_purseBehind_68 ?_
    exact hQ hs hE dX2_purseBehind_71
  by_cases hn1 : p0 = 1
  · have hE := pv_t hn1 hE
    refine lv_tableIn (off := 35) (tgt := 36) hx hb dX2_purseBehind_1 (by rw [hn1]; decide) (by rw [hn1]; decide) (by rw [hn1]; decide) (by decide) ?_
    refine lv_iload_n hx hb dX2_purseBehind_36 rfl (lv_at hl 2 rfl) ?_
    refine lv_iload_n hx hb dX2_purseBehind_37 rfl (lv_at hl 1 rfl) ?_
    refine lv_iadd hx hb dX2_purseBehind_38 ?_
    refine lv_istore_n (lv' := [(3, .int (p2 + p1)), (0, .int p0), (1, .int p1), (2, .int p2)]) hx hb dX2_purseBehind_39 rfl hl (by decide) rfl (fun ls hl => ?_)
    refine lv_goto (tgt := 65) hx hb dX2_purseBehind_40 (by decide) ?_
    exact hJk1 (p2 + p1) _ _ _ hs (lv_sub hl [0] rfl) hE
  have hE := pv_f hn1 hE
  by_cases hn4 : p0 = 4
  · have hE := pv_t hn4 hE
    refine lv_tableIn (off := 42) (tgt := 43) hx hb dX2_purseBehind_1 (by rw [hn4]; decide) (by rw [hn4]; decide) (by rw [hn4]; decide) (by decide) ?_
    refine lv_iload_n hx hb dX2_purseBehind_43 rfl (lv_at hl 2 rfl) ?_
    refine lv_iload_n hx hb dX2_purseBehind_44 rfl (lv_at hl 1 rfl) ?_
    refine lv_iadd hx hb dX2_purseBehind_45 ?_
    refine lv_iload_n hx hb dX2_purseBehind_46 rfl (lv_at hl 2 rfl) ?_
    refine lv_iconst (v := 5) hx hb dX2_purseBehind_47 (by decide) ?_
    refine lv_idiv hx hb dX2_purseBehind_48 (by decide) ?_
    refine lv_iadd hx hb dX2_purseBehind_49 ?_
    refine lv_istore_n (lv' := [(3, .int ((p2 + p1) + (p2 / 5))), (0, .int p0), (1, .int p1), (2, .int p2)]) hx hb dX2_purseBehind_50 rfl hl (by decide) rfl (fun ls hl => ?_)
    refine lv_goto (tgt := 65) hx hb dX2_purseBehind_51 (by decide) ?_
    exact hJk1 ((p2 + p1) + (p2 / 5)) _ _ _ hs (lv_sub hl [0] rfl) hE
  have hE := pv_f hn4 hE
  by_cases hn5 : p0 = 5
  · have hE := pv_t hn5 hE
    refine lv_tableIn (off := 53) (tgt := 54) hx hb dX2_purseBehind_1 (by rw [hn5]; decide) (by rw [hn5]; decide) (by rw [hn5]; decide) (by decide) ?_
    refine lv_iload_n hx hb dX2_purseBehind_54 rfl (lv_at hl 1 rfl) ?_
    refine lv_iload_n hx hb dX2_purseBehind_55 rfl (lv_at hl 2 rfl) ?_
    refine lv_iconst (v := 2) hx hb dX2_purseBehind_56 (by decide) ?_
    refine lv_idiv hx hb dX2_purseBehind_57 (by decide) ?_
    refine lv_iadd hx hb dX2_purseBehind_58 ?_
    refine lv_istore_n (lv' := [(3, .int (p1 + (p2 / 2))), (0, .int p0), (1, .int p1), (2, .int p2)]) hx hb dX2_purseBehind_59 rfl hl (by decide) rfl (fun ls hl => ?_)
    refine lv_goto (tgt := 65) hx hb dX2_purseBehind_60 (by decide) ?_
    exact hJk1 (p1 + (p2 / 2)) _ _ _ hs (lv_sub hl [0] rfl) hE
  have hE := pv_f hn5 hE
  have hDf : W p l e (rmD 1) s m args below meth c H locs 0 0 Q (F0 m 63 ls []) := by
    refine lv_iload_n hx hb dX2_purseBehind_63 rfl (lv_at hl 1 rfl) ?_
    refine lv_istore_n (lv' := [(3, .int p1), (0, .int p0), (1, .int p1), (2, .int p2)]) hx hb dX2_purseBehind_64 rfl hl (by decide) rfl (fun ls hl => ?_)
    exact hJk1 p1 _ _ _ hs (lv_sub hl [0] rfl) hE
  by_cases hn2 : p0 = 2
  · exact lv_tableIn (off := 62) (tgt := 63) hx hb dX2_purseBehind_1 (by rw [hn2]; decide) (by rw [hn2]; decide) (by rw [hn2]; decide) (by decide) hDf
  by_cases hn3 : p0 = 3
  · exact lv_tableIn (off := 62) (tgt := 63) hx hb dX2_purseBehind_1 (by rw [hn3]; decide) (by rw [hn3]; decide) (by rw [hn3]; decide) (by decide) hDf
  exact lv_tableOut (tgt := 63) hx hb dX2_purseBehind_1 (by have q0 := sw_n 1 hn1 (by decide); have q1 := sw_n 2 hn2 (by decide); have q2 := sw_n 3 hn3 (by decide); have q3 := sw_n 4 hn4 (by decide); have q4 := sw_n 5 hn5 (by decide); omega) (by decide) hDf
theorem dX0_purseIn_0 : decode cX0_purseIn 0 = .ok (.aload_n 0, 1) := by decide +kernel
theorem dX0_purseIn_1 : decode cX0_purseIn 1 = .ok (.getfield 42, 3) := by decide +kernel
theorem dX0_purseIn_4 : decode cX0_purseIn 4 = .ok (.iload_n 1, 1) := by decide +kernel
theorem dX0_purseIn_5 : decode cX0_purseIn 5 = .ok (.iaload, 1) := by decide +kernel
theorem dX0_purseIn_6 : decode cX0_purseIn 6 = .ok (.istore 4, 2) := by decide +kernel
theorem dX0_purseIn_8 : decode cX0_purseIn 8 = .ok (.iconst 0, 1) := by decide +kernel
theorem dX0_purseIn_9 : decode cX0_purseIn 9 = .ok (.istore 5, 2) := by decide +kernel
theorem dX0_purseIn_11 : decode cX0_purseIn 11 = .ok (.iload 5, 2) := by decide +kernel
theorem dX0_purseIn_13 : decode cX0_purseIn 13 = .ok (.iload_n 3, 1) := by decide +kernel
theorem dX0_purseIn_14 : decode cX0_purseIn 14 = .ok (.if_icmp .ge 26, 3) := by decide +kernel
theorem dX0_purseIn_17 : decode cX0_purseIn 17 = .ok (.aload_n 0, 1) := by decide +kernel
theorem dX0_purseIn_18 : decode cX0_purseIn 18 = .ok (.getfield 25, 3) := by decide +kernel
theorem dX0_purseIn_21 : decode cX0_purseIn 21 = .ok (.getfield 45, 3) := by decide +kernel
theorem dX0_purseIn_24 : decode cX0_purseIn 24 = .ok (.iload_n 1, 1) := by decide +kernel
theorem dX0_purseIn_25 : decode cX0_purseIn 25 = .ok (.iaload, 1) := by decide +kernel
theorem dX0_purseIn_26 : decode cX0_purseIn 26 = .ok (.iload_n 2, 1) := by decide +kernel
theorem dX0_purseIn_27 : decode cX0_purseIn 27 = .ok (.iload 4, 2) := by decide +kernel
theorem dX0_purseIn_29 : decode cX0_purseIn 29 = .ok (.invokestatic 48, 3) := by decide +kernel
theorem dX0_purseIn_32 : decode cX0_purseIn 32 = .ok (.istore 4, 2) := by decide +kernel
theorem dX0_purseIn_34 : decode cX0_purseIn 34 = .ok (.iinc 5 1, 3) := by decide +kernel
theorem dX0_purseIn_37 : decode cX0_purseIn 37 = .ok (.goto (-26), 3) := by decide +kernel
theorem dX0_purseIn_40 : decode cX0_purseIn 40 = .ok (.iload 4, 2) := by decide +kernel
theorem dX0_purseIn_42 : decode cX0_purseIn 42 = .ok (.ireturn, 1) := by decide +kernel
def fX0_purseIn_L11 (p1 : Int32) (p2 : Int32) (p3 : Int32) : Nat → St → Int32 → Int32 → (St → Int32 → Int32 → Option (St × Int32)) → Option (St × Int32)
  | 0, _, _, _, _ => none
  | n + 1, σ2, v3, v4, k => (if p3 ≤ v4 then k σ2 v3 v4 else rd LC σ2 31 p1 (fun x5 => cl (fX2_purseBehind σ2 x5 p2 v3) (fun σ6 r7 => fX0_purseIn_L11 p1 p2 p3 n σ6 r7 (v4 + 1) k)))
def fX0_purseIn (σ : St) (p1 : Int32) (p2 : Int32) (p3 : Int32) : Option (St × Int32) := rd LC σ 33 p1 (fun x1 => fX0_purseIn_L11 p1 p2 p3 10000 σ x1 0 (fun σ8 v9 v10 => some (σ8, v9)))
set_option maxHeartbeats 4000000 in
set_option maxRecDepth 100000 in
theorem ctX0_purseIn (l : Launch) (g : GG) (σ : St) (p1 : Int32) (p2 : Int32) (p3 : Int32) (σ' : St) (r : Int32) (hE : fX0_purseIn σ p1 p2 p3 = some (σ', r)) : MI 52 entC l g yX0_purseIn (Cond.code yX0_purseIn cX0_purseIn 6 (some .int) :: gtbl) (rmD 2) [.ref (g.2.1 25), .int p1, .int p2, .int p3] σ σ' r := by
  refine mi_i (own := RX0) (lv := [(0, .ref (g.2.1 25)), (1, .int p1), (2, .int p2), (3, .int p3)]) (by decide) rfl (Nat.le_of_ble_eq_true rfl) rfl (fun p e s m below meth c ls args Q A H0 H locs C hK hA hQ hs hl => ?_)
  have hx := C.1
  have hb := C.2.1
  unfold fX0_purseIn at hE
  refine lv_aload_n hx hb dX0_purseIn_0 rfl (lv_at hl 0 rfl) ?_
  refine gf_X0_42_25 C hK hs dX0_purseIn_1 ?_
  refine lv_iload_n hx hb dX0_purseIn_4 rfl (lv_at hl 1 rfl) ?_
  obtain ⟨hi, x1, ex1, hE⟩ := rd_w hE
  refine y_ald layC C hK hs hi ex1 dX0_purseIn_5 ?_
  refine lv_istore (lv' := [(4, .int x1), (0, .ref (g.2.1 25)), (1, .int p1), (2, .int p2), (3, .int p3)]) hx hb dX0_purseIn_6 hl (by decide) rfl (fun ls hl => ?_)
  refine lv_iconst (v := 0) hx hb dX0_purseIn_8 (by decide) ?_
  refine lv_istore (lv' := [(5, .int 0), (4, .int x1), (0, .ref (g.2.1 25)), (1, .int p1), (2, .int p2), (3, .int p3)]) hx hb dX0_purseIn_9 hl (by decide) rfl (fun ls hl => ?_)
  have hL11 : ∀ (n : Nat) (σ2 : St) (v3 : Int32) (v4 : Int32) (k : St → Int32 → Int32 → Option (St × Int32)), fX0_purseIn_L11 p1 p2 p3 n σ2 v3 v4 k = some (σ', r) → (∀ (σ2 : St) (v3 : Int32) (v4 : Int32) (H : Heap) (locs : List Loc) (ls : Array Slot), HW 52 entC g A H0 H locs σ2 → lv_has ls 6 [(0, .ref (g.2.1 25)), (1, .int p1), (2, .int p2), (3, .int p3), (4, .int v3), (5, .int v4)] → k σ2 v3 v4 = some (σ', r) → W p l e (rmD 2) s m args below meth c H locs 0 0 Q (F0 m 40 ls [])) → ∀ (H : Heap) (locs : List Loc) (ls : Array Slot), HW 52 entC g A H0 H locs σ2 → lv_has ls 6 [(0, .ref (g.2.1 25)), (1, .int p1), (2, .int p2), (3, .int p3), (4, .int v3), (5, .int v4)] → W p l e (rmD 2) s m args below meth c H locs 0 0 Q (F0 m 11 ls []) := by
    intro n
    induction n with
    | zero =>
      intro σ2 v3 v4 k hE
      rw [fX0_purseIn_L11] at hE
      exact no_e hE
    | succ n ih =>
      intro σ2 v3 v4 k hE hk H locs ls hs hl
      rw [fX0_purseIn_L11] at hE
      refine lv_iload hx hb dX0_purseIn_11 (lv_at hl 5 rfl) ?_
      refine lv_iload_n hx hb dX0_purseIn_13 rfl (lv_at hl 3 rfl) ?_
      refine lv_icmp_ge (tgt := 40) hx hb dX0_purseIn_14 (by decide) (fun hc => ?_) (fun hc => ?_)
      · have hE := if_t hc hE
        exact hk σ2 v3 v4 _ _ _ hs (lv_sub hl [0, 1, 2, 3, 4, 5] rfl) hE
      · have hE := if_f hc hE
        refine lv_aload_n hx hb dX0_purseIn_17 rfl (lv_at hl 0 rfl) ?_
        refine gf_X0_25_25 C hK hs dX0_purseIn_18 ?_
        refine gf_X0_45_26 C hK hs dX0_purseIn_21 ?_
        refine lv_iload_n hx hb dX0_purseIn_24 rfl (lv_at hl 1 rfl) ?_
        obtain ⟨hi, x5, ex5, hE⟩ := rd_w hE
        refine y_ald layC C hK hs hi ex5 dX0_purseIn_25 ?_
        refine lv_iload_n hx hb dX0_purseIn_26 rfl (lv_at hl 2 rfl) ?_
        refine lv_iload hx hb dX0_purseIn_27 (lv_at hl 4 rfl) ?_
        obtain ⟨σ6, r7, hE1, hE⟩ := cl_e hE
        refine x_cis (As := [.int x5, .int p2, .int v3]) (rest := []) C hl.1 hK hs hA ⟨Nat.le_refl 0, Nat.le_refl 0⟩ (ctX2_purseBehind l g _ _ _ _ _ _ hE1) (cw_X0_48 C ⟨Nat.le_of_ble_eq_true rfl, Nat.le_of_ble_eq_true rfl⟩) rfl rfl (Nat.le_of_ble_eq_true rfl) dX0_purseIn_29 (fun H locs hs => ?_)
        refine lv_istore (lv' := [(4, .int r7), (0, .ref (g.2.1 25)), (1, .int p1), (2, .int p2), (3, .int p3), (5, .int v4)]) hx hb dX0_purseIn_32 hl (by decide) rfl (fun ls hl => ?_)
        refine lv_iinc (v := v4 + 1) (lv' := [(5, .int (v4 + 1)), (4, .int r7), (0, .ref (g.2.1 25)), (1, .int p1), (2, .int p2), (3, .int p3)]) hx hb dX0_purseIn_34 hl (k := 5) rfl rfl (by decide) rfl (fun ls hl => ?_)
        refine lv_goto (tgt := 11) hx hb dX0_purseIn_37 (by decide) ?_
        exact ih _ _ _ _ hE hk _ _ _ hs (lv_sub hl [2, 3, 4, 5, 1, 0] rfl)
  refine hL11 _ _ _ _ _ hE (fun σ8 v9 v10 H locs ls hs hl hE => ?_) H locs ls hs (lv_sub hl [2, 3, 4, 5, 1, 0] rfl)
  refine lv_iload hx hb dX0_purseIn_40 (lv_at hl 4 rfl) ?_
  exact hQ hs hE dX0_purseIn_42
theorem dX0_lookAhead_0 : decode cX0_lookAhead 0 = .ok (.iconst 0, 1) := by decide +kernel
theorem dX0_lookAhead_1 : decode cX0_lookAhead 1 = .ok (.istore_n 3, 1) := by decide +kernel
theorem dX0_lookAhead_2 : decode cX0_lookAhead 2 = .ok (.iload_n 3, 1) := by decide +kernel
theorem dX0_lookAhead_3 : decode cX0_lookAhead 3 = .ok (.aload_n 1, 1) := by decide +kernel
theorem dX0_lookAhead_4 : decode cX0_lookAhead 4 = .ok (.getfield 25, 3) := by decide +kernel
theorem dX0_lookAhead_7 : decode cX0_lookAhead 7 = .ok (.getfield 31, 3) := by decide +kernel
theorem dX0_lookAhead_10 : decode cX0_lookAhead 10 = .ok (.if_icmp .ge 43, 3) := by decide +kernel
theorem dX0_lookAhead_13 : decode cX0_lookAhead 13 = .ok (.aload_n 0, 1) := by decide +kernel
theorem dX0_lookAhead_14 : decode cX0_lookAhead 14 = .ok (.getfield 9, 3) := by decide +kernel
theorem dX0_lookAhead_17 : decode cX0_lookAhead 17 = .ok (.iload_n 3, 1) := by decide +kernel
theorem dX0_lookAhead_18 : decode cX0_lookAhead 18 = .ok (.aload_n 1, 1) := by decide +kernel
theorem dX0_lookAhead_19 : decode cX0_lookAhead 19 = .ok (.iload_n 3, 1) := by decide +kernel
theorem dX0_lookAhead_20 : decode cX0_lookAhead 20 = .ok (.aload_n 1, 1) := by decide +kernel
theorem dX0_lookAhead_21 : decode cX0_lookAhead 21 = .ok (.getfield 25, 3) := by decide +kernel
theorem dX0_lookAhead_24 : decode cX0_lookAhead 24 = .ok (.getfield 35, 3) := by decide +kernel
theorem dX0_lookAhead_27 : decode cX0_lookAhead 27 = .ok (.iload_n 3, 1) := by decide +kernel
theorem dX0_lookAhead_28 : decode cX0_lookAhead 28 = .ok (.iaload, 1) := by decide +kernel
theorem dX0_lookAhead_29 : decode cX0_lookAhead 29 = .ok (.iload_n 2, 1) := by decide +kernel
theorem dX0_lookAhead_30 : decode cX0_lookAhead 30 = .ok (.invokestatic 38, 3) := by decide +kernel
theorem dX0_lookAhead_33 : decode cX0_lookAhead 33 = .ok (.iastore, 1) := by decide +kernel
theorem dX0_lookAhead_34 : decode cX0_lookAhead 34 = .ok (.aload_n 0, 1) := by decide +kernel
theorem dX0_lookAhead_35 : decode cX0_lookAhead 35 = .ok (.getfield 15, 3) := by decide +kernel
theorem dX0_lookAhead_38 : decode cX0_lookAhead 38 = .ok (.iload_n 3, 1) := by decide +kernel
theorem dX0_lookAhead_39 : decode cX0_lookAhead 39 = .ok (.aload_n 1, 1) := by decide +kernel
theorem dX0_lookAhead_40 : decode cX0_lookAhead 40 = .ok (.iload_n 3, 1) := by decide +kernel
theorem dX0_lookAhead_41 : decode cX0_lookAhead 41 = .ok (.iconst 0, 1) := by decide +kernel
theorem dX0_lookAhead_42 : decode cX0_lookAhead 42 = .ok (.iload_n 2, 1) := by decide +kernel
theorem dX0_lookAhead_43 : decode cX0_lookAhead 43 = .ok (.invokestatic 38, 3) := by decide +kernel
theorem dX0_lookAhead_46 : decode cX0_lookAhead 46 = .ok (.iastore, 1) := by decide +kernel
theorem dX0_lookAhead_47 : decode cX0_lookAhead 47 = .ok (.iinc 3 1, 3) := by decide +kernel
theorem dX0_lookAhead_50 : decode cX0_lookAhead 50 = .ok (.goto (-48), 3) := by decide +kernel
theorem dX0_lookAhead_53 : decode cX0_lookAhead 53 = .ok (.return_, 1) := by decide +kernel
def fX0_lookAhead_L2 (p2 : Int32) : Nat → St → Int32 → (St → Int32 → Option (St × Unit)) → Option (St × Unit)
  | 0, _, _, _ => none
  | n + 1, σ1, v2, k => (if (σ1.1 26 7) ≤ v2 then k σ1 v2 else rd LC σ1 32 v2 (fun x3 => cl (fX0_purseIn σ1 v2 x3 p2) (fun σ4 r5 => wr LC σ4 49 v2 r5 (fun σ6 => cl (fX0_purseIn σ6 v2 0 p2) (fun σ7 r8 => wr LC σ7 50 v2 r8 (fun σ9 => fX0_lookAhead_L2 p2 n σ9 (v2 + 1) k))))))
def fX0_lookAhead (σ : St) (p2 : Int32) : Option (St × Unit) := fX0_lookAhead_L2 p2 10000 σ 0 (fun σ10 v11 => some (σ10, ()))
set_option maxHeartbeats 4000000 in
set_option maxRecDepth 100000 in
theorem ctX0_lookAhead (l : Launch) (g : GG) (σ : St) (p2 : Int32) (σ' : St) (r : Unit) (hE : fX0_lookAhead σ p2 = some (σ', r)) : MV 52 entC l g yX0_lookAhead (Cond.code yX0_lookAhead cX0_lookAhead 4 none :: gtbl) (rmD 3) [.ref (g.2.1 48), .ref (g.2.1 25), .int p2] σ σ' := by
  refine mi_v (own := RX0) (lv := [(0, .ref (g.2.1 48)), (1, .ref (g.2.1 25)), (2, .int p2)]) (by decide) rfl (Nat.le_of_ble_eq_true rfl) rfl (fun p e s m below meth c ls args Q A H0 H locs C hK hA hQ hs hl => ?_)
  have hx := C.1
  have hb := C.2.1
  unfold fX0_lookAhead at hE
  refine lv_iconst (v := 0) hx hb dX0_lookAhead_0 (by decide) ?_
  refine lv_istore_n (lv' := [(3, .int 0), (0, .ref (g.2.1 48)), (1, .ref (g.2.1 25)), (2, .int p2)]) hx hb dX0_lookAhead_1 rfl hl (by decide) rfl (fun ls hl => ?_)
  have hL2 : ∀ (n : Nat) (σ1 : St) (v2 : Int32) (k : St → Int32 → Option (St × Unit)), fX0_lookAhead_L2 p2 n σ1 v2 k = some (σ', r) → (∀ (σ1 : St) (v2 : Int32) (H : Heap) (locs : List Loc) (ls : Array Slot), HW 52 entC g A H0 H locs σ1 → lv_has ls 4 [(0, .ref (g.2.1 48)), (1, .ref (g.2.1 25)), (2, .int p2), (3, .int v2)] → k σ1 v2 = some (σ', r) → W p l e (rmD 3) s m args below meth c H locs 0 0 Q (F0 m 53 ls [])) → ∀ (H : Heap) (locs : List Loc) (ls : Array Slot), HW 52 entC g A H0 H locs σ1 → lv_has ls 4 [(0, .ref (g.2.1 48)), (1, .ref (g.2.1 25)), (2, .int p2), (3, .int v2)] → W p l e (rmD 3) s m args below meth c H locs 0 0 Q (F0 m 2 ls []) := by
    intro n
    induction n with
    | zero =>
      intro σ1 v2 k hE
      rw [fX0_lookAhead_L2] at hE
      exact no_e hE
    | succ n ih =>
      intro σ1 v2 k hE hk H locs ls hs hl
      rw [fX0_lookAhead_L2] at hE
      refine lv_iload_n hx hb dX0_lookAhead_2 rfl (lv_at hl 3 rfl) ?_
      refine lv_aload_n hx hb dX0_lookAhead_3 rfl (lv_at hl 1 rfl) ?_
      refine gf_X0_25_25 C hK hs dX0_lookAhead_4 ?_
      refine gf_X0_31_26 C hK hs dX0_lookAhead_7 ?_
      refine lv_icmp_ge (tgt := 53) hx hb dX0_lookAhead_10 (by decide) (fun hc => ?_) (fun hc => ?_)
      · have hE := if_t hc hE
        exact hk σ1 v2 _ _ _ hs (lv_sub hl [0, 1, 2, 3] rfl) hE
      · have hE := if_f hc hE
        refine lv_aload_n hx hb dX0_lookAhead_13 rfl (lv_at hl 0 rfl) ?_
        refine gf_X0_9_48 C hK hs dX0_lookAhead_14 ?_
        refine lv_iload_n hx hb dX0_lookAhead_17 rfl (lv_at hl 3 rfl) ?_
        refine lv_aload_n hx hb dX0_lookAhead_18 rfl (lv_at hl 1 rfl) ?_
        refine lv_iload_n hx hb dX0_lookAhead_19 rfl (lv_at hl 3 rfl) ?_
        refine lv_aload_n hx hb dX0_lookAhead_20 rfl (lv_at hl 1 rfl) ?_
        refine gf_X0_25_25 C hK hs dX0_lookAhead_21 ?_
        refine gf_X0_35_26 C hK hs dX0_lookAhead_24 ?_
        refine lv_iload_n hx hb dX0_lookAhead_27 rfl (lv_at hl 3 rfl) ?_
        obtain ⟨hi, x3, ex3, hE⟩ := rd_w hE
        refine y_ald layC C hK hs hi ex3 dX0_lookAhead_28 ?_
        refine lv_iload_n hx hb dX0_lookAhead_29 rfl (lv_at hl 2 rfl) ?_
        obtain ⟨σ4, r5, hE1, hE⟩ := cl_e hE
        refine x_cis (As := [.ref (g.2.1 25), .int v2, .int x3, .int p2]) (rest := [.int v2, .ref (g.2.1 49)]) C hl.1 hK hs hA ⟨Nat.le_refl 0, Nat.le_refl 0⟩ (ctX0_purseIn l g _ _ _ _ _ _ hE1) (cw_X0_38 C ⟨Nat.le_of_ble_eq_true rfl, Nat.le_of_ble_eq_true rfl⟩) rfl rfl (Nat.le_of_ble_eq_true rfl) dX0_lookAhead_30 (fun H locs hs => ?_)
        obtain ⟨hi, σ6, eσ6, hE⟩ := wr_w hE
        refine y_ast layC C hK hs hi eσ6 dX0_lookAhead_33 (fun H locs hs => ?_)
        refine lv_aload_n hx hb dX0_lookAhead_34 rfl (lv_at hl 0 rfl) ?_
        refine gf_X0_15_48 C hK hs dX0_lookAhead_35 ?_
        refine lv_iload_n hx hb dX0_lookAhead_38 rfl (lv_at hl 3 rfl) ?_
        refine lv_aload_n hx hb dX0_lookAhead_39 rfl (lv_at hl 1 rfl) ?_
        refine lv_iload_n hx hb dX0_lookAhead_40 rfl (lv_at hl 3 rfl) ?_
        refine lv_iconst (v := 0) hx hb dX0_lookAhead_41 (by decide) ?_
        refine lv_iload_n hx hb dX0_lookAhead_42 rfl (lv_at hl 2 rfl) ?_
        obtain ⟨σ7, r8, hE1, hE⟩ := cl_e hE
        refine x_cis (As := [.ref (g.2.1 25), .int v2, .int 0, .int p2]) (rest := [.int v2, .ref (g.2.1 50)]) C hl.1 hK hs hA ⟨Nat.le_refl 0, Nat.le_refl 0⟩ (ctX0_purseIn l g _ _ _ _ _ _ hE1) (cw_X0_38 C ⟨Nat.le_of_ble_eq_true rfl, Nat.le_of_ble_eq_true rfl⟩) rfl rfl (Nat.le_of_ble_eq_true rfl) dX0_lookAhead_43 (fun H locs hs => ?_)
        obtain ⟨hi, σ9, eσ9, hE⟩ := wr_w hE
        refine y_ast layC C hK hs hi eσ9 dX0_lookAhead_46 (fun H locs hs => ?_)
        refine lv_iinc (v := v2 + 1) (lv' := [(3, .int (v2 + 1)), (0, .ref (g.2.1 48)), (1, .ref (g.2.1 25)), (2, .int p2)]) hx hb dX0_lookAhead_47 hl (k := 3) rfl rfl (by decide) rfl (fun ls hl => ?_)
        refine lv_goto (tgt := 2) hx hb dX0_lookAhead_50 (by decide) ?_
        exact ih _ _ _ hE hk _ _ _ hs (lv_sub hl [1, 2, 3, 0] rfl)
  refine hL2 _ _ _ _ hE (fun σ10 v11 H locs ls hs hl hE => ?_) H locs ls hs (lv_sub hl [1, 2, 3, 0] rfl)
  exact hQ hs hE dX0_lookAhead_53
theorem dX0_pursesIf_0 : decode cX0_pursesIf 0 = .ok (.iconst 0, 1) := by decide +kernel
theorem dX0_pursesIf_1 : decode cX0_pursesIf 1 = .ok (.istore_n 3, 1) := by decide +kernel
theorem dX0_pursesIf_2 : decode cX0_pursesIf 2 = .ok (.iconst 0, 1) := by decide +kernel
theorem dX0_pursesIf_3 : decode cX0_pursesIf 3 = .ok (.istore 4, 2) := by decide +kernel
theorem dX0_pursesIf_5 : decode cX0_pursesIf 5 = .ok (.iload 4, 2) := by decide +kernel
theorem dX0_pursesIf_7 : decode cX0_pursesIf 7 = .ok (.iload_n 1, 1) := by decide +kernel
theorem dX0_pursesIf_8 : decode cX0_pursesIf 8 = .ok (.if_icmp .ge 38, 3) := by decide +kernel
theorem dX0_pursesIf_11 : decode cX0_pursesIf 11 = .ok (.iload_n 3, 1) := by decide +kernel
theorem dX0_pursesIf_12 : decode cX0_pursesIf 12 = .ok (.iload_n 2, 1) := by decide +kernel
theorem dX0_pursesIf_13 : decode cX0_pursesIf 13 = .ok (.iload 4, 2) := by decide +kernel
theorem dX0_pursesIf_15 : decode cX0_pursesIf 15 = .ok (.ishr, 1) := by decide +kernel
theorem dX0_pursesIf_16 : decode cX0_pursesIf 16 = .ok (.iconst 1, 1) := by decide +kernel
theorem dX0_pursesIf_17 : decode cX0_pursesIf 17 = .ok (.iand, 1) := by decide +kernel
theorem dX0_pursesIf_18 : decode cX0_pursesIf 18 = .ok (.ifCond .eq 13, 3) := by decide +kernel
theorem dX0_pursesIf_21 : decode cX0_pursesIf 21 = .ok (.aload_n 0, 1) := by decide +kernel
theorem dX0_pursesIf_22 : decode cX0_pursesIf 22 = .ok (.getfield 15, 3) := by decide +kernel
theorem dX0_pursesIf_25 : decode cX0_pursesIf 25 = .ok (.iload 4, 2) := by decide +kernel
theorem dX0_pursesIf_27 : decode cX0_pursesIf 27 = .ok (.iaload, 1) := by decide +kernel
theorem dX0_pursesIf_28 : decode cX0_pursesIf 28 = .ok (.goto 10, 3) := by decide +kernel
theorem dX0_pursesIf_31 : decode cX0_pursesIf 31 = .ok (.aload_n 0, 1) := by decide +kernel
theorem dX0_pursesIf_32 : decode cX0_pursesIf 32 = .ok (.getfield 9, 3) := by decide +kernel
theorem dX0_pursesIf_35 : decode cX0_pursesIf 35 = .ok (.iload 4, 2) := by decide +kernel
theorem dX0_pursesIf_37 : decode cX0_pursesIf 37 = .ok (.iaload, 1) := by decide +kernel
theorem dX0_pursesIf_38 : decode cX0_pursesIf 38 = .ok (.iadd, 1) := by decide +kernel
theorem dX0_pursesIf_39 : decode cX0_pursesIf 39 = .ok (.istore_n 3, 1) := by decide +kernel
theorem dX0_pursesIf_40 : decode cX0_pursesIf 40 = .ok (.iinc 4 1, 3) := by decide +kernel
theorem dX0_pursesIf_43 : decode cX0_pursesIf 43 = .ok (.goto (-38), 3) := by decide +kernel
theorem dX0_pursesIf_46 : decode cX0_pursesIf 46 = .ok (.iload_n 3, 1) := by decide +kernel
theorem dX0_pursesIf_47 : decode cX0_pursesIf 47 = .ok (.ireturn, 1) := by decide +kernel
def fX0_pursesIf_L5 (p1 : Int32) (p2 : Int32) : Nat → St → Int32 → Int32 → (St → Int32 → Int32 → Option (St × Int32)) → Option (St × Int32)
  | 0, _, _, _, _ => none
  | n + 1, σ1, v2, v3, k => (if p1 ≤ v3 then k σ1 v2 v3 else jn (fun (y5 : Int32) => fX0_pursesIf_L5 p1 p2 n σ1 (v2 + y5) (v3 + 1) k) (fun k4 => (if ((p2 >>> (v3 &&& 31)) &&& 1) = 0 then rd LC σ1 49 v3 (fun x6 => k4 x6) else rd LC σ1 50 v3 (fun x7 => k4 x7))))
def fX0_pursesIf (σ : St) (p1 : Int32) (p2 : Int32) : Option (St × Int32) := fX0_pursesIf_L5 p1 p2 10000 σ 0 0 (fun σ8 v9 v10 => some (σ8, v9))
set_option maxHeartbeats 4000000 in
set_option maxRecDepth 100000 in
theorem ctX0_pursesIf (l : Launch) (g : GG) (σ : St) (p1 : Int32) (p2 : Int32) (σ' : St) (r : Int32) (hE : fX0_pursesIf σ p1 p2 = some (σ', r)) : MI 52 entC l g yX0_pursesIf (Cond.code yX0_pursesIf cX0_pursesIf 5 (some .int) :: gtbl) (rmD 1) [.ref (g.2.1 48), .int p1, .int p2] σ σ' r := by
  refine mi_i (own := RX0) (lv := [(0, .ref (g.2.1 48)), (1, .int p1), (2, .int p2)]) (by decide) rfl (Nat.le_of_ble_eq_true rfl) rfl (fun p e s m below meth c ls args Q A H0 H locs C hK hA hQ hs hl => ?_)
  have hx := C.1
  have hb := C.2.1
  unfold fX0_pursesIf at hE
  refine lv_iconst (v := 0) hx hb dX0_pursesIf_0 (by decide) ?_
  refine lv_istore_n (lv' := [(3, .int 0), (0, .ref (g.2.1 48)), (1, .int p1), (2, .int p2)]) hx hb dX0_pursesIf_1 rfl hl (by decide) rfl (fun ls hl => ?_)
  refine lv_iconst (v := 0) hx hb dX0_pursesIf_2 (by decide) ?_
  refine lv_istore (lv' := [(4, .int 0), (3, .int 0), (0, .ref (g.2.1 48)), (1, .int p1), (2, .int p2)]) hx hb dX0_pursesIf_3 hl (by decide) rfl (fun ls hl => ?_)
  have hL5 : ∀ (n : Nat) (σ1 : St) (v2 : Int32) (v3 : Int32) (k : St → Int32 → Int32 → Option (St × Int32)), fX0_pursesIf_L5 p1 p2 n σ1 v2 v3 k = some (σ', r) → (∀ (σ1 : St) (v2 : Int32) (v3 : Int32) (H : Heap) (locs : List Loc) (ls : Array Slot), HW 52 entC g A H0 H locs σ1 → lv_has ls 5 [(0, .ref (g.2.1 48)), (1, .int p1), (2, .int p2), (3, .int v2), (4, .int v3)] → k σ1 v2 v3 = some (σ', r) → W p l e (rmD 1) s m args below meth c H locs 0 0 Q (F0 m 46 ls [])) → ∀ (H : Heap) (locs : List Loc) (ls : Array Slot), HW 52 entC g A H0 H locs σ1 → lv_has ls 5 [(0, .ref (g.2.1 48)), (1, .int p1), (2, .int p2), (3, .int v2), (4, .int v3)] → W p l e (rmD 1) s m args below meth c H locs 0 0 Q (F0 m 5 ls []) := by
    intro n
    induction n with
    | zero =>
      intro σ1 v2 v3 k hE
      rw [fX0_pursesIf_L5] at hE
      exact no_e hE
    | succ n ih =>
      intro σ1 v2 v3 k hE hk H locs ls hs hl
      rw [fX0_pursesIf_L5] at hE
      refine lv_iload hx hb dX0_pursesIf_5 (lv_at hl 4 rfl) ?_
      refine lv_iload_n hx hb dX0_pursesIf_7 rfl (lv_at hl 1 rfl) ?_
      refine lv_icmp_ge (tgt := 46) hx hb dX0_pursesIf_8 (by decide) (fun hc => ?_) (fun hc => ?_)
      · have hE := if_t hc hE
        exact hk σ1 v2 v3 _ _ _ hs (lv_sub hl [0, 1, 2, 3, 4] rfl) hE
      · have hE := if_f hc hE
        refine lv_iload_n hx hb dX0_pursesIf_11 rfl (lv_at hl 3 rfl) ?_
        refine lv_iload_n hx hb dX0_pursesIf_12 rfl (lv_at hl 2 rfl) ?_
        refine lv_iload hx hb dX0_pursesIf_13 (lv_at hl 4 rfl) ?_
        refine lv_ishr hx hb dX0_pursesIf_15 ?_
        refine lv_iconst (v := 1) hx hb dX0_pursesIf_16 (by decide) ?_
        refine lv_iand hx hb dX0_pursesIf_17 ?_
        refine jn1 hE (fun k4 hE hk4 => ?_)
        have hJk4 : ∀ (y5 : Int32) (H : Heap) (locs : List Loc) (ls : Array Slot), HW 52 entC g A H0 H locs σ1 → lv_has ls 5 [(0, .ref (g.2.1 48)), (1, .int p1), (2, .int p2), (4, .int v3)] → k4 y5 = some (σ', r) → W p l e (rmD 1) s m args below meth c H locs 0 0 Q (F0 m 38 ls [.int y5, .int v2]) := by
          intro y5 H locs ls hs hl hE
          have hE := hk4 _ hE
          refine lv_iadd hx hb dX0_pursesIf_38 ?_
          refine lv_istore_n (lv' := [(3, .int (v2 + y5)), (0, .ref (g.2.1 48)), (1, .int p1), (2, .int p2), (4, .int v3)]) hx hb dX0_pursesIf_39 rfl hl (by decide) rfl (fun ls hl => ?_)
          refine lv_iinc (v := v3 + 1) (lv' := [(4, .int (v3 + 1)), (3, .int (v2 + y5)), (0, .ref (g.2.1 48)), (1, .int p1), (2, .int p2)]) hx hb dX0_pursesIf_40 hl (k := 4) rfl rfl (by decide) rfl (fun ls hl => ?_)
          refine lv_goto (tgt := 5) hx hb dX0_pursesIf_43 (by decide) ?_
          exact ih _ _ _ _ hE hk _ _ _ hs (lv_sub hl [2, 3, 4, 1, 0] rfl)
        refine lv_if_eq (tgt := 31) hx hb dX0_pursesIf_18 (by decide) (fun hc => ?_) (fun hc => ?_)
        · have hE := if_t hc hE
          refine lv_aload_n hx hb dX0_pursesIf_31 rfl (lv_at hl 0 rfl) ?_
          refine gf_X0_9_48 C hK hs dX0_pursesIf_32 ?_
          refine lv_iload hx hb dX0_pursesIf_35 (lv_at hl 4 rfl) ?_
          obtain ⟨hi, x6, ex6, hE⟩ := rd_w hE
          refine y_ald layC C hK hs hi ex6 dX0_pursesIf_37 ?_
          exact hJk4 x6 _ _ _ hs (lv_sub hl [0, 1, 2, 4] rfl) hE
        · have hE := if_f hc hE
          refine lv_aload_n hx hb dX0_pursesIf_21 rfl (lv_at hl 0 rfl) ?_
          refine gf_X0_15_48 C hK hs dX0_pursesIf_22 ?_
          refine lv_iload hx hb dX0_pursesIf_25 (lv_at hl 4 rfl) ?_
          obtain ⟨hi, x7, ex7, hE⟩ := rd_w hE
          refine y_ald layC C hK hs hi ex7 dX0_pursesIf_27 ?_
          refine lv_goto (tgt := 38) hx hb dX0_pursesIf_28 (by decide) ?_
          exact hJk4 x7 _ _ _ hs (lv_sub hl [0, 1, 2, 4] rfl) hE
  refine hL5 _ _ _ _ _ hE (fun σ8 v9 v10 H locs ls hs hl hE => ?_) H locs ls hs (lv_sub hl [2, 3, 4, 1, 0] rfl)
  refine lv_iload_n hx hb dX0_pursesIf_46 rfl (lv_at hl 3 rfl) ?_
  exact hQ hs hE dX0_pursesIf_47
theorem dX0_divisorOf_0 : decode cX0_divisorOf 0 = .ok (.lload_n 0, 1) := by decide +kernel
theorem dX0_divisorOf_1 : decode cX0_divisorOf 1 = .ok (.lstore 4, 2) := by decide +kernel
theorem dX0_divisorOf_3 : decode cX0_divisorOf 3 = .ok (.lload_n 2, 1) := by decide +kernel
theorem dX0_divisorOf_4 : decode cX0_divisorOf 4 = .ok (.lstore 6, 2) := by decide +kernel
theorem dX0_divisorOf_6 : decode cX0_divisorOf 6 = .ok (.iconst 0, 1) := by decide +kernel
theorem dX0_divisorOf_7 : decode cX0_divisorOf 7 = .ok (.istore 8, 2) := by decide +kernel
theorem dX0_divisorOf_9 : decode cX0_divisorOf 9 = .ok (.iload 8, 2) := by decide +kernel
theorem dX0_divisorOf_11 : decode cX0_divisorOf 11 = .ok (.bipush 100, 2) := by decide +kernel
theorem dX0_divisorOf_13 : decode cX0_divisorOf 13 = .ok (.if_icmp .ge 31, 3) := by decide +kernel
theorem dX0_divisorOf_16 : decode cX0_divisorOf 16 = .ok (.lload 6, 2) := by decide +kernel
theorem dX0_divisorOf_18 : decode cX0_divisorOf 18 = .ok (.lconst 0, 1) := by decide +kernel
theorem dX0_divisorOf_19 : decode cX0_divisorOf 19 = .ok (.lcmp, 1) := by decide +kernel
theorem dX0_divisorOf_20 : decode cX0_divisorOf 20 = .ok (.ifCond .eq 24, 3) := by decide +kernel
theorem dX0_divisorOf_23 : decode cX0_divisorOf 23 = .ok (.lload 4, 2) := by decide +kernel
theorem dX0_divisorOf_25 : decode cX0_divisorOf 25 = .ok (.lload 6, 2) := by decide +kernel
theorem dX0_divisorOf_27 : decode cX0_divisorOf 27 = .ok (.lrem, 1) := by decide +kernel
theorem dX0_divisorOf_28 : decode cX0_divisorOf 28 = .ok (.lstore 9, 2) := by decide +kernel
theorem dX0_divisorOf_30 : decode cX0_divisorOf 30 = .ok (.lload 6, 2) := by decide +kernel
theorem dX0_divisorOf_32 : decode cX0_divisorOf 32 = .ok (.lstore 4, 2) := by decide +kernel
theorem dX0_divisorOf_34 : decode cX0_divisorOf 34 = .ok (.lload 9, 2) := by decide +kernel
theorem dX0_divisorOf_36 : decode cX0_divisorOf 36 = .ok (.lstore 6, 2) := by decide +kernel
theorem dX0_divisorOf_38 : decode cX0_divisorOf 38 = .ok (.iinc 8 1, 3) := by decide +kernel
theorem dX0_divisorOf_41 : decode cX0_divisorOf 41 = .ok (.goto (-32), 3) := by decide +kernel
theorem dX0_divisorOf_44 : decode cX0_divisorOf 44 = .ok (.lload 4, 2) := by decide +kernel
theorem dX0_divisorOf_46 : decode cX0_divisorOf 46 = .ok (.lreturn, 1) := by decide +kernel
def fX0_divisorOf_L9 : Nat → St → Int64 → Int64 → Int32 → (St → Int64 → Int64 → Int32 → Option (St × Int64)) → Option (St × Int64)
  | 0, _, _, _, _, _ => none
  | n + 1, σ1, v2, v3, v4, k => (if 100 ≤ v4 then k σ1 v2 v3 v4 else (if (lg_cmp v3 0) = 0 then k σ1 v2 v3 v4 else gd (decide (¬ v3 = 0)) (fX0_divisorOf_L9 n σ1 v3 (v2 - v2 / v3 * v3) (v4 + 1) k)))
def fX0_divisorOf (σ : St) (p0 : Int64) (p2 : Int64) : Option (St × Int64) := fX0_divisorOf_L9 10000 σ p0 p2 0 (fun σ5 v6 v7 v8 => some (σ5, v6))
set_option maxHeartbeats 4000000 in
set_option maxRecDepth 100000 in
theorem ctX0_divisorOf (l : Launch) (g : GG) (σ : St) (p0 : Int64) (p2 : Int64) (σ' : St) (r : Int64) (hE : fX0_divisorOf σ p0 p2 = some (σ', r)) : ML 52 entC l g yX0_divisorOf (Cond.code yX0_divisorOf cX0_divisorOf 11 (some .long) :: gtbl) (rmD 1) [.long p0, .long p2] σ σ' r := by
  refine mi_l (own := RX0) (lv := [(0, .long p0), (2, .long p2)]) (by decide) rfl (Nat.le_of_ble_eq_true rfl) rfl (fun p e s m below meth c ls args Q A H0 H locs C hK hA hQ hs hl => ?_)
  have hx := C.1
  have hb := C.2.1
  unfold fX0_divisorOf at hE
  refine lv_lload_n hx hb dX0_divisorOf_0 rfl (lv_at hl 0 rfl) ?_
  refine lv_lstore (lv' := [(4, .long p0), (0, .long p0), (2, .long p2)]) hx hb dX0_divisorOf_1 hl (by decide) rfl (fun ls hl => ?_)
  refine lv_lload_n hx hb dX0_divisorOf_3 rfl (lv_at hl 2 rfl) ?_
  refine lv_lstore (lv' := [(6, .long p2), (4, .long p0), (0, .long p0), (2, .long p2)]) hx hb dX0_divisorOf_4 hl (by decide) rfl (fun ls hl => ?_)
  refine lv_iconst (v := 0) hx hb dX0_divisorOf_6 (by decide) ?_
  refine lv_istore (lv' := [(8, .int 0), (6, .long p2), (4, .long p0), (0, .long p0), (2, .long p2)]) hx hb dX0_divisorOf_7 hl (by decide) rfl (fun ls hl => ?_)
  have hL9 : ∀ (n : Nat) (σ1 : St) (v2 : Int64) (v3 : Int64) (v4 : Int32) (k : St → Int64 → Int64 → Int32 → Option (St × Int64)), fX0_divisorOf_L9 n σ1 v2 v3 v4 k = some (σ', r) → (∀ (σ1 : St) (v2 : Int64) (v3 : Int64) (v4 : Int32) (H : Heap) (locs : List Loc) (ls : Array Slot), HW 52 entC g A H0 H locs σ1 → lv_has ls 11 [(4, .long v2), (6, .long v3), (8, .int v4)] → k σ1 v2 v3 v4 = some (σ', r) → W p l e (rmD 1) s m args below meth c H locs 0 0 Q (F0 m 44 ls [])) → ∀ (H : Heap) (locs : List Loc) (ls : Array Slot), HW 52 entC g A H0 H locs σ1 → lv_has ls 11 [(4, .long v2), (6, .long v3), (8, .int v4)] → W p l e (rmD 1) s m args below meth c H locs 0 0 Q (F0 m 9 ls []) := by
    intro n
    induction n with
    | zero =>
      intro σ1 v2 v3 v4 k hE
      rw [fX0_divisorOf_L9] at hE
      exact no_e hE
    | succ n ih =>
      intro σ1 v2 v3 v4 k hE hk H locs ls hs hl
      rw [fX0_divisorOf_L9] at hE
      refine lv_iload hx hb dX0_divisorOf_9 (lv_at hl 2 rfl) ?_
      refine lv_bipush (v := 100) hx hb dX0_divisorOf_11 (by decide) ?_
      refine lv_icmp_ge (tgt := 44) hx hb dX0_divisorOf_13 (by decide) (fun hc => ?_) (fun hc => ?_)
      · have hE := if_t hc hE
        exact hk σ1 v2 v3 v4 _ _ _ hs (lv_sub hl [0, 1, 2] rfl) hE
      · have hE := if_f hc hE
        refine lv_lload hx hb dX0_divisorOf_16 (lv_at hl 1 rfl) ?_
        refine lv_lconst (v := 0) hx hb dX0_divisorOf_18 (by decide) ?_
        refine W.lcmp hx hb dX0_divisorOf_19 ?_
        refine lv_if_eq (tgt := 44) hx hb dX0_divisorOf_20 (by decide) (fun hc => ?_) (fun hc => ?_)
        · have hE := if_t hc hE
          exact hk σ1 v2 v3 v4 _ _ _ hs (lv_sub hl [0, 1, 2] rfl) hE
        · have hE := if_f hc hE
          refine lv_lload hx hb dX0_divisorOf_23 (lv_at hl 0 rfl) ?_
          refine lv_lload hx hb dX0_divisorOf_25 (lv_at hl 1 rfl) ?_
          obtain ⟨hc, hE⟩ := gd_e hE
          refine lv_lrem hx hb dX0_divisorOf_27 (of_decide_eq_true hc) ?_
          refine lv_lstore (lv' := [(9, .long (v2 - v2 / v3 * v3)), (4, .long v2), (6, .long v3), (8, .int v4)]) hx hb dX0_divisorOf_28 hl (by decide) rfl (fun ls hl => ?_)
          refine lv_lload hx hb dX0_divisorOf_30 (lv_at hl 2 rfl) ?_
          refine lv_lstore (lv' := [(4, .long v3), (9, .long (v2 - v2 / v3 * v3)), (6, .long v3), (8, .int v4)]) hx hb dX0_divisorOf_32 hl (by decide) rfl (fun ls hl => ?_)
          refine lv_lload hx hb dX0_divisorOf_34 (lv_at hl 1 rfl) ?_
          refine lv_lstore (lv' := [(6, .long (v2 - v2 / v3 * v3)), (4, .long v3), (9, .long (v2 - v2 / v3 * v3)), (8, .int v4)]) hx hb dX0_divisorOf_36 hl (by decide) rfl (fun ls hl => ?_)
          refine lv_iinc (v := v4 + 1) (lv' := [(8, .int (v4 + 1)), (6, .long (v2 - v2 / v3 * v3)), (4, .long v3), (9, .long (v2 - v2 / v3 * v3))]) hx hb dX0_divisorOf_38 hl (k := 3) rfl rfl (by decide) rfl (fun ls hl => ?_)
          refine lv_goto (tgt := 9) hx hb dX0_divisorOf_41 (by decide) ?_
          exact ih _ _ _ _ _ hE hk _ _ _ hs (lv_sub hl [2, 1, 0] rfl)
  refine hL9 _ _ _ _ _ _ hE (fun σ5 v6 v7 v8 H locs ls hs hl hE => ?_) H locs ls hs (lv_sub hl [2, 1, 0] rfl)
  refine lv_lload hx hb dX0_divisorOf_44 (lv_at hl 0 rfl) ?_
  exact hQ hs hE dX0_divisorOf_46
theorem dX0_tell_0 : decode cX0_tell 0 = .ok (.lload_n 1, 1) := by decide +kernel
theorem dX0_tell_1 : decode cX0_tell 1 = .ok (.lload_n 3, 1) := by decide +kernel
theorem dX0_tell_2 : decode cX0_tell 2 = .ok (.invokestatic 72, 3) := by decide +kernel
theorem dX0_tell_5 : decode cX0_tell 5 = .ok (.lstore 5, 2) := by decide +kernel
theorem dX0_tell_7 : decode cX0_tell 7 = .ok (.lload 5, 2) := by decide +kernel
theorem dX0_tell_9 : decode cX0_tell 9 = .ok (.lconst 0, 1) := by decide +kernel
theorem dX0_tell_10 : decode cX0_tell 10 = .ok (.lcmp, 1) := by decide +kernel
theorem dX0_tell_11 : decode cX0_tell 11 = .ok (.ifCond .gt 4, 3) := by decide +kernel
theorem dX0_tell_14 : decode cX0_tell 14 = .ok (.return_, 1) := by decide +kernel
theorem dX0_tell_15 : decode cX0_tell 15 = .ok (.aload_n 0, 1) := by decide +kernel
theorem dX0_tell_16 : decode cX0_tell 16 = .ok (.lload_n 1, 1) := by decide +kernel
theorem dX0_tell_17 : decode cX0_tell 17 = .ok (.lload 5, 2) := by decide +kernel
theorem dX0_tell_19 : decode cX0_tell 19 = .ok (.ldiv, 1) := by decide +kernel
theorem dX0_tell_20 : decode cX0_tell 20 = .ok (.putfield 18, 3) := by decide +kernel
theorem dX0_tell_23 : decode cX0_tell 23 = .ok (.aload_n 0, 1) := by decide +kernel
theorem dX0_tell_24 : decode cX0_tell 24 = .ok (.lload_n 3, 1) := by decide +kernel
theorem dX0_tell_25 : decode cX0_tell 25 = .ok (.lload 5, 2) := by decide +kernel
theorem dX0_tell_27 : decode cX0_tell 27 = .ok (.ldiv, 1) := by decide +kernel
theorem dX0_tell_28 : decode cX0_tell 28 = .ok (.putfield 22, 3) := by decide +kernel
theorem dX0_tell_31 : decode cX0_tell 31 = .ok (.return_, 1) := by decide +kernel
def fX0_tell (σ : St) (p1 : Int64) (p3 : Int64) : Option (St × Unit) := cl (fX0_divisorOf σ p1 p3) (fun σ1 r2 => (if 0 < (lg_cmp r2 0) then gd (decide (¬ r2 = 0)) (pt (sl σ1 48 2 (p1 / r2)) (fun σ3 => gd (decide (¬ r2 = 0)) (pt (sl σ3 48 3 (p3 / r2)) (fun σ4 => some (σ4, ()))))) else some (σ1, ())))
set_option maxHeartbeats 4000000 in
set_option maxRecDepth 100000 in
theorem ctX0_tell (l : Launch) (g : GG) (σ : St) (p1 : Int64) (p3 : Int64) (σ' : St) (r : Unit) (hE : fX0_tell σ p1 p3 = some (σ', r)) : MV 52 entC l g yX0_tell (Cond.code yX0_tell cX0_tell 7 none :: gtbl) (rmD 2) [.ref (g.2.1 48), .long p1, .long p3] σ σ' := by
  refine mi_v (own := RX0) (lv := [(0, .ref (g.2.1 48)), (1, .long p1), (3, .long p3)]) (by decide) rfl (Nat.le_of_ble_eq_true rfl) rfl (fun p e s m below meth c ls args Q A H0 H locs C hK hA hQ hs hl => ?_)
  have hx := C.1
  have hb := C.2.1
  unfold fX0_tell at hE
  refine lv_lload_n hx hb dX0_tell_0 rfl (lv_at hl 1 rfl) ?_
  refine lv_lload_n hx hb dX0_tell_1 rfl (lv_at hl 2 rfl) ?_
  obtain ⟨σ1, r2, hE1, hE⟩ := cl_e hE
  refine x_cls (As := [.long p1, .long p3]) (rest := []) C hl.1 hK hs hA ⟨Nat.le_refl 0, Nat.le_refl 0⟩ (ctX0_divisorOf l g _ _ _ _ _ hE1) (cw_X0_72 C ⟨Nat.le_of_ble_eq_true rfl, Nat.le_of_ble_eq_true rfl⟩) rfl rfl (Nat.le_of_ble_eq_true rfl) dX0_tell_2 (fun H locs hs => ?_)
  refine lv_lstore (lv' := [(5, .long r2), (0, .ref (g.2.1 48)), (1, .long p1), (3, .long p3)]) hx hb dX0_tell_5 hl (by decide) rfl (fun ls hl => ?_)
  refine lv_lload hx hb dX0_tell_7 (lv_at hl 0 rfl) ?_
  refine lv_lconst (v := 0) hx hb dX0_tell_9 (by decide) ?_
  refine W.lcmp hx hb dX0_tell_10 ?_
  refine lv_if_gt (tgt := 15) hx hb dX0_tell_11 (by decide) (fun hc => ?_) (fun hc => ?_)
  · have hE := if_t hc hE
    refine lv_aload_n hx hb dX0_tell_15 rfl (lv_at hl 1 rfl) ?_
    refine lv_lload_n hx hb dX0_tell_16 rfl (lv_at hl 2 rfl) ?_
    refine lv_lload hx hb dX0_tell_17 (lv_at hl 0 rfl) ?_
    obtain ⟨hc, hE⟩ := gd_e hE
    refine lv_ldiv hx hb dX0_tell_19 (of_decide_eq_true hc) ?_
    obtain ⟨σ3, eσ3, hE⟩ := pt_w hE
    refine pf_X0_18_48 C hK hs eσ3 dX0_tell_20 (fun H locs hs => ?_)
    refine lv_aload_n hx hb dX0_tell_23 rfl (lv_at hl 1 rfl) ?_
    refine lv_lload_n hx hb dX0_tell_24 rfl (lv_at hl 3 rfl) ?_
    refine lv_lload hx hb dX0_tell_25 (lv_at hl 0 rfl) ?_
    obtain ⟨hc, hE⟩ := gd_e hE
    refine lv_ldiv hx hb dX0_tell_27 (of_decide_eq_true hc) ?_
    obtain ⟨σ4, eσ4, hE⟩ := pt_w hE
    refine pf_X0_22_48 C hK hs eσ4 dX0_tell_28 (fun H locs hs => ?_)
    exact hQ hs hE dX0_tell_31
  · have hE := if_f hc hE
    exact hQ hs hE dX0_tell_14
theorem dX0_weightOf_0 : decode cX0_weightOf 0 = .ok (.lconst 1, 1) := by decide +kernel
theorem dX0_weightOf_1 : decode cX0_weightOf 1 = .ok (.lstore_n 3, 1) := by decide +kernel
theorem dX0_weightOf_2 : decode cX0_weightOf 2 = .ok (.iconst 0, 1) := by decide +kernel
theorem dX0_weightOf_3 : decode cX0_weightOf 3 = .ok (.istore 5, 2) := by decide +kernel
theorem dX0_weightOf_5 : decode cX0_weightOf 5 = .ok (.iload 5, 2) := by decide +kernel
theorem dX0_weightOf_7 : decode cX0_weightOf 7 = .ok (.iload_n 0, 1) := by decide +kernel
theorem dX0_weightOf_8 : decode cX0_weightOf 8 = .ok (.if_icmp .ge 31, 3) := by decide +kernel
theorem dX0_weightOf_11 : decode cX0_weightOf 11 = .ok (.lload_n 3, 1) := by decide +kernel
theorem dX0_weightOf_12 : decode cX0_weightOf 12 = .ok (.iload_n 1, 1) := by decide +kernel
theorem dX0_weightOf_13 : decode cX0_weightOf 13 = .ok (.iload 5, 2) := by decide +kernel
theorem dX0_weightOf_15 : decode cX0_weightOf 15 = .ok (.ishr, 1) := by decide +kernel
theorem dX0_weightOf_16 : decode cX0_weightOf 16 = .ok (.iconst 1, 1) := by decide +kernel
theorem dX0_weightOf_17 : decode cX0_weightOf 17 = .ok (.iand, 1) := by decide +kernel
theorem dX0_weightOf_18 : decode cX0_weightOf 18 = .ok (.ifCond .eq 8, 3) := by decide +kernel
theorem dX0_weightOf_21 : decode cX0_weightOf 21 = .ok (.iload_n 2, 1) := by decide +kernel
theorem dX0_weightOf_22 : decode cX0_weightOf 22 = .ok (.i2l, 1) := by decide +kernel
theorem dX0_weightOf_23 : decode cX0_weightOf 23 = .ok (.goto 8, 3) := by decide +kernel
theorem dX0_weightOf_26 : decode cX0_weightOf 26 = .ok (.bipush 12, 2) := by decide +kernel
theorem dX0_weightOf_28 : decode cX0_weightOf 28 = .ok (.iload_n 2, 1) := by decide +kernel
theorem dX0_weightOf_29 : decode cX0_weightOf 29 = .ok (.isub, 1) := by decide +kernel
theorem dX0_weightOf_30 : decode cX0_weightOf 30 = .ok (.i2l, 1) := by decide +kernel
theorem dX0_weightOf_31 : decode cX0_weightOf 31 = .ok (.lmul, 1) := by decide +kernel
theorem dX0_weightOf_32 : decode cX0_weightOf 32 = .ok (.lstore_n 3, 1) := by decide +kernel
theorem dX0_weightOf_33 : decode cX0_weightOf 33 = .ok (.iinc 5 1, 3) := by decide +kernel
theorem dX0_weightOf_36 : decode cX0_weightOf 36 = .ok (.goto (-31), 3) := by decide +kernel
theorem dX0_weightOf_39 : decode cX0_weightOf 39 = .ok (.lload_n 3, 1) := by decide +kernel
theorem dX0_weightOf_40 : decode cX0_weightOf 40 = .ok (.lreturn, 1) := by decide +kernel
def fX0_weightOf_L5 (p0 : Int32) (p1 : Int32) (p2 : Int32) : Nat → St → Int64 → Int32 → (St → Int64 → Int32 → Option (St × Int64)) → Option (St × Int64)
  | 0, _, _, _, _ => none
  | n + 1, σ1, v2, v3, k => (if p0 ≤ v3 then k σ1 v2 v3 else pv (if ((p1 >>> (v3 &&& 31)) &&& 1) = 0 then ((12 - p2).toInt64) else (p2.toInt64)) (fun (y5 : Int64) => fX0_weightOf_L5 p0 p1 p2 n σ1 (v2 * y5) (v3 + 1) k))
def fX0_weightOf (σ : St) (p0 : Int32) (p1 : Int32) (p2 : Int32) : Option (St × Int64) := fX0_weightOf_L5 p0 p1 p2 10000 σ 1 0 (fun σ6 v7 v8 => some (σ6, v7))
set_option maxHeartbeats 4000000 in
set_option maxRecDepth 100000 in
theorem ctX0_weightOf (l : Launch) (g : GG) (σ : St) (p0 : Int32) (p1 : Int32) (p2 : Int32) (σ' : St) (r : Int64) (hE : fX0_weightOf σ p0 p1 p2 = some (σ', r)) : ML 52 entC l g yX0_weightOf (Cond.code yX0_weightOf cX0_weightOf 6 (some .long) :: gtbl) (rmD 1) [.int p0, .int p1, .int p2] σ σ' r := by
  refine mi_l (own := RX0) (lv := [(0, .int p0), (1, .int p1), (2, .int p2)]) (by decide) rfl (Nat.le_of_ble_eq_true rfl) rfl (fun p e s m below meth c ls args Q A H0 H locs C hK hA hQ hs hl => ?_)
  have hx := C.1
  have hb := C.2.1
  unfold fX0_weightOf at hE
  refine lv_lconst (v := 1) hx hb dX0_weightOf_0 (by decide) ?_
  refine lv_lstore_n (lv' := [(3, .long 1), (0, .int p0), (1, .int p1), (2, .int p2)]) hx hb dX0_weightOf_1 rfl hl (by decide) rfl (fun ls hl => ?_)
  refine lv_iconst (v := 0) hx hb dX0_weightOf_2 (by decide) ?_
  refine lv_istore (lv' := [(5, .int 0), (3, .long 1), (0, .int p0), (1, .int p1), (2, .int p2)]) hx hb dX0_weightOf_3 hl (by decide) rfl (fun ls hl => ?_)
  have hL5 : ∀ (n : Nat) (σ1 : St) (v2 : Int64) (v3 : Int32) (k : St → Int64 → Int32 → Option (St × Int64)), fX0_weightOf_L5 p0 p1 p2 n σ1 v2 v3 k = some (σ', r) → (∀ (σ1 : St) (v2 : Int64) (v3 : Int32) (H : Heap) (locs : List Loc) (ls : Array Slot), HW 52 entC g A H0 H locs σ1 → lv_has ls 6 [(0, .int p0), (1, .int p1), (2, .int p2), (3, .long v2), (5, .int v3)] → k σ1 v2 v3 = some (σ', r) → W p l e (rmD 1) s m args below meth c H locs 0 0 Q (F0 m 39 ls [])) → ∀ (H : Heap) (locs : List Loc) (ls : Array Slot), HW 52 entC g A H0 H locs σ1 → lv_has ls 6 [(0, .int p0), (1, .int p1), (2, .int p2), (3, .long v2), (5, .int v3)] → W p l e (rmD 1) s m args below meth c H locs 0 0 Q (F0 m 5 ls []) := by
    intro n
    induction n with
    | zero =>
      intro σ1 v2 v3 k hE
      rw [fX0_weightOf_L5] at hE
      exact no_e hE
    | succ n ih =>
      intro σ1 v2 v3 k hE hk H locs ls hs hl
      rw [fX0_weightOf_L5] at hE
      refine lv_iload hx hb dX0_weightOf_5 (lv_at hl 4 rfl) ?_
      refine lv_iload_n hx hb dX0_weightOf_7 rfl (lv_at hl 0 rfl) ?_
      refine lv_icmp_ge (tgt := 39) hx hb dX0_weightOf_8 (by decide) (fun hc => ?_) (fun hc => ?_)
      · have hE := if_t hc hE
        exact hk σ1 v2 v3 _ _ _ hs (lv_sub hl [0, 1, 2, 3, 4] rfl) hE
      · have hE := if_f hc hE
        refine lv_lload_n hx hb dX0_weightOf_11 rfl (lv_at hl 3 rfl) ?_
        refine lv_iload_n hx hb dX0_weightOf_12 rfl (lv_at hl 1 rfl) ?_
        refine lv_iload hx hb dX0_weightOf_13 (lv_at hl 4 rfl) ?_
        refine lv_ishr hx hb dX0_weightOf_15 ?_
        refine lv_iconst (v := 1) hx hb dX0_weightOf_16 (by decide) ?_
        refine lv_iand hx hb dX0_weightOf_17 ?_
        refine pvw hE (fun k4 hE hk4 => ?_)
        have hJk4 : ∀ (y5 : Int64) (H : Heap) (locs : List Loc) (ls : Array Slot), HW 52 entC g A H0 H locs σ1 → lv_has ls 6 [(0, .int p0), (1, .int p1), (2, .int p2), (5, .int v3)] → k4 y5 = some (σ', r) → W p l e (rmD 1) s m args below meth c H locs 0 0 Q (F0 m 31 ls [.long y5, .long v2]) := by
          intro y5 H locs ls hs hl hE
          have hE := hk4 _ hE
          refine lv_lmul hx hb dX0_weightOf_31 ?_
          refine lv_lstore_n (lv' := [(3, .long (v2 * y5)), (0, .int p0), (1, .int p1), (2, .int p2), (5, .int v3)]) hx hb dX0_weightOf_32 rfl hl (by decide) rfl (fun ls hl => ?_)
          refine lv_iinc (v := v3 + 1) (lv' := [(5, .int (v3 + 1)), (3, .long (v2 * y5)), (0, .int p0), (1, .int p1), (2, .int p2)]) hx hb dX0_weightOf_33 hl (k := 4) rfl rfl (by decide) rfl (fun ls hl => ?_)
          refine lv_goto (tgt := 5) hx hb dX0_weightOf_36 (by decide) ?_
          exact ih _ _ _ _ hE hk _ _ _ hs (lv_sub hl [2, 3, 4, 1, 0] rfl)
        refine lv_if_eq (tgt := 26) hx hb dX0_weightOf_18 (by decide) (fun hc => ?_) (fun hc => ?_)
        · have hE := pv_t hc hE
          refine lv_bipush (v := 12) hx hb dX0_weightOf_26 (by decide) ?_
          refine lv_iload_n hx hb dX0_weightOf_28 rfl (lv_at hl 2 rfl) ?_
          refine lv_isub hx hb dX0_weightOf_29 ?_
          refine lv_i2l (v := (12 - p2).toInt64) hx hb dX0_weightOf_30 rfl ?_
          exact hJk4 ((12 - p2).toInt64) _ _ _ hs (lv_sub hl [0, 1, 2, 4] rfl) hE
        · have hE := pv_f hc hE
          refine lv_iload_n hx hb dX0_weightOf_21 rfl (lv_at hl 2 rfl) ?_
          refine lv_i2l (v := p2.toInt64) hx hb dX0_weightOf_22 rfl ?_
          refine lv_goto (tgt := 31) hx hb dX0_weightOf_23 (by decide) ?_
          exact hJk4 (p2.toInt64) _ _ _ hs (lv_sub hl [0, 1, 2, 4] rfl) hE
  refine hL5 _ _ _ _ _ hE (fun σ6 v7 v8 H locs ls hs hl hE => ?_) H locs ls hs (lv_sub hl [2, 3, 4, 1, 0] rfl)
  refine lv_lload_n hx hb dX0_weightOf_39 rfl (lv_at hl 3 rfl) ?_
  exact hQ hs hE dX0_weightOf_40
theorem dX0_tellOdds_0 : decode cX0_tellOdds 0 = .ok (.aload_n 0, 1) := by decide +kernel
theorem dX0_tellOdds_1 : decode cX0_tellOdds 1 = .ok (.aload_n 1, 1) := by decide +kernel
theorem dX0_tellOdds_2 : decode cX0_tellOdds 2 = .ok (.iload_n 3, 1) := by decide +kernel
theorem dX0_tellOdds_3 : decode cX0_tellOdds 3 = .ok (.invokevirtual 54, 3) := by decide +kernel
theorem dX0_tellOdds_6 : decode cX0_tellOdds 6 = .ok (.lconst 0, 1) := by decide +kernel
theorem dX0_tellOdds_7 : decode cX0_tellOdds 7 = .ok (.lstore 5, 2) := by decide +kernel
theorem dX0_tellOdds_9 : decode cX0_tellOdds 9 = .ok (.lconst 1, 1) := by decide +kernel
theorem dX0_tellOdds_10 : decode cX0_tellOdds 10 = .ok (.lstore 7, 2) := by decide +kernel
theorem dX0_tellOdds_12 : decode cX0_tellOdds 12 = .ok (.iconst 0, 1) := by decide +kernel
theorem dX0_tellOdds_13 : decode cX0_tellOdds 13 = .ok (.istore 9, 2) := by decide +kernel
theorem dX0_tellOdds_15 : decode cX0_tellOdds 15 = .ok (.iload 9, 2) := by decide +kernel
theorem dX0_tellOdds_17 : decode cX0_tellOdds 17 = .ok (.aload_n 1, 1) := by decide +kernel
theorem dX0_tellOdds_18 : decode cX0_tellOdds 18 = .ok (.getfield 25, 3) := by decide +kernel
theorem dX0_tellOdds_21 : decode cX0_tellOdds 21 = .ok (.getfield 31, 3) := by decide +kernel
theorem dX0_tellOdds_24 : decode cX0_tellOdds 24 = .ok (.if_icmp .ge 17, 3) := by decide +kernel
theorem dX0_tellOdds_27 : decode cX0_tellOdds 27 = .ok (.lload 7, 2) := by decide +kernel
theorem dX0_tellOdds_29 : decode cX0_tellOdds 29 = .ok (.ldc2_w 58, 3) := by decide +kernel
theorem dX0_tellOdds_32 : decode cX0_tellOdds 32 = .ok (.lmul, 1) := by decide +kernel
theorem dX0_tellOdds_33 : decode cX0_tellOdds 33 = .ok (.lstore 7, 2) := by decide +kernel
theorem dX0_tellOdds_35 : decode cX0_tellOdds 35 = .ok (.iinc 9 1, 3) := by decide +kernel
theorem dX0_tellOdds_38 : decode cX0_tellOdds 38 = .ok (.goto (-23), 3) := by decide +kernel
theorem dX0_tellOdds_41 : decode cX0_tellOdds 41 = .ok (.iconst 0, 1) := by decide +kernel
theorem dX0_tellOdds_42 : decode cX0_tellOdds 42 = .ok (.istore 9, 2) := by decide +kernel
theorem dX0_tellOdds_44 : decode cX0_tellOdds 44 = .ok (.iload 9, 2) := by decide +kernel
theorem dX0_tellOdds_46 : decode cX0_tellOdds 46 = .ok (.iconst 1, 1) := by decide +kernel
theorem dX0_tellOdds_47 : decode cX0_tellOdds 47 = .ok (.aload_n 1, 1) := by decide +kernel
theorem dX0_tellOdds_48 : decode cX0_tellOdds 48 = .ok (.getfield 25, 3) := by decide +kernel
theorem dX0_tellOdds_51 : decode cX0_tellOdds 51 = .ok (.getfield 31, 3) := by decide +kernel
theorem dX0_tellOdds_54 : decode cX0_tellOdds 54 = .ok (.ishl, 1) := by decide +kernel
theorem dX0_tellOdds_55 : decode cX0_tellOdds 55 = .ok (.if_icmp .ge 45, 3) := by decide +kernel
theorem dX0_tellOdds_58 : decode cX0_tellOdds 58 = .ok (.aload_n 0, 1) := by decide +kernel
theorem dX0_tellOdds_59 : decode cX0_tellOdds 59 = .ok (.aload_n 1, 1) := by decide +kernel
theorem dX0_tellOdds_60 : decode cX0_tellOdds 60 = .ok (.getfield 25, 3) := by decide +kernel
theorem dX0_tellOdds_63 : decode cX0_tellOdds 63 = .ok (.getfield 31, 3) := by decide +kernel
theorem dX0_tellOdds_66 : decode cX0_tellOdds 66 = .ok (.iload 9, 2) := by decide +kernel
theorem dX0_tellOdds_68 : decode cX0_tellOdds 68 = .ok (.invokevirtual 60, 3) := by decide +kernel
theorem dX0_tellOdds_71 : decode cX0_tellOdds 71 = .ok (.iload_n 2, 1) := by decide +kernel
theorem dX0_tellOdds_72 : decode cX0_tellOdds 72 = .ok (.if_icmp .lt 22, 3) := by decide +kernel
theorem dX0_tellOdds_75 : decode cX0_tellOdds 75 = .ok (.lload 5, 2) := by decide +kernel
theorem dX0_tellOdds_77 : decode cX0_tellOdds 77 = .ok (.aload_n 1, 1) := by decide +kernel
theorem dX0_tellOdds_78 : decode cX0_tellOdds 78 = .ok (.getfield 25, 3) := by decide +kernel
theorem dX0_tellOdds_81 : decode cX0_tellOdds 81 = .ok (.getfield 31, 3) := by decide +kernel
theorem dX0_tellOdds_84 : decode cX0_tellOdds 84 = .ok (.iload 9, 2) := by decide +kernel
theorem dX0_tellOdds_86 : decode cX0_tellOdds 86 = .ok (.iload 4, 2) := by decide +kernel
theorem dX0_tellOdds_88 : decode cX0_tellOdds 88 = .ok (.invokestatic 64, 3) := by decide +kernel
theorem dX0_tellOdds_91 : decode cX0_tellOdds 91 = .ok (.ladd, 1) := by decide +kernel
theorem dX0_tellOdds_92 : decode cX0_tellOdds 92 = .ok (.lstore 5, 2) := by decide +kernel
theorem dX0_tellOdds_94 : decode cX0_tellOdds 94 = .ok (.iinc 9 1, 3) := by decide +kernel
theorem dX0_tellOdds_97 : decode cX0_tellOdds 97 = .ok (.goto (-53), 3) := by decide +kernel
theorem dX0_tellOdds_100 : decode cX0_tellOdds 100 = .ok (.aload_n 0, 1) := by decide +kernel
theorem dX0_tellOdds_101 : decode cX0_tellOdds 101 = .ok (.lload 5, 2) := by decide +kernel
theorem dX0_tellOdds_103 : decode cX0_tellOdds 103 = .ok (.lload 7, 2) := by decide +kernel
theorem dX0_tellOdds_105 : decode cX0_tellOdds 105 = .ok (.invokevirtual 68, 3) := by decide +kernel
theorem dX0_tellOdds_108 : decode cX0_tellOdds 108 = .ok (.return_, 1) := by decide +kernel
def fX0_tellOdds_L15 (p2 : Int32) (p4 : Int32) (w3 : Int64) : Nat → St → Int64 → Int32 → (St → Int64 → Int32 → Option (St × Unit)) → Option (St × Unit)
  | 0, _, _, _, _ => none
  | n + 1, σ4, v5, v6, k => (if (σ4.1 26 7) ≤ v6 then k σ4 v5 v6 else fX0_tellOdds_L15 p2 p4 w3 n σ4 (v5 * 12) (v6 + 1) k)
def fX0_tellOdds_L44 (p2 : Int32) (p4 : Int32) (v8 : Int64) : Nat → St → Int64 → Int32 → (St → Int64 → Int32 → Option (St × Unit)) → Option (St × Unit)
  | 0, _, _, _, _ => none
  | n + 1, σ10, v11, v12, k => (if (1 <<< ((σ10.1 26 7) &&& 31)) ≤ v12 then k σ10 v11 v12 else cl (fX0_pursesIf σ10 (σ10.1 26 7) v12) (fun σ13 r14 => jn (fun (σ16 : St) (z17 : Int64) => fX0_tellOdds_L44 p2 p4 v8 n σ16 z17 (v12 + 1) k) (fun k15 => (if r14 < p2 then k15 σ13 v11 else cl (fX0_weightOf σ13 (σ13.1 26 7) v12 p4) (fun σ18 r19 => k15 σ18 (v11 + r19))))))
def fX0_tellOdds (σ : St) (p2 : Int32) (p3 : Int32) (p4 : Int32) : Option (St × Unit) := cl (fX0_lookAhead σ p3) (fun σ1 r2 => pv (0) (fun (w3 : Int64) => fX0_tellOdds_L15 p2 p4 w3 10000 σ1 1 0 (fun σ7 v8 v9 => fX0_tellOdds_L44 p2 p4 v8 10000 σ7 w3 0 (fun σ20 v21 v22 => cl (fX0_tell σ20 v21 v8) (fun σ23 r24 => some (σ23, ()))))))
set_option maxHeartbeats 4000000 in
set_option maxRecDepth 100000 in
theorem ctX0_tellOdds (l : Launch) (g : GG) (σ : St) (p2 : Int32) (p3 : Int32) (p4 : Int32) (σ' : St) (r : Unit) (hE : fX0_tellOdds σ p2 p3 p4 = some (σ', r)) : MV 52 entC l g yX0_tellOdds (Cond.code yX0_tellOdds cX0_tellOdds 10 none :: gtbl) (rmD 4) [.ref (g.2.1 48), .ref (g.2.1 25), .int p2, .int p3, .int p4] σ σ' := by
  refine mi_v (own := RX0) (lv := [(0, .ref (g.2.1 48)), (1, .ref (g.2.1 25)), (2, .int p2), (3, .int p3), (4, .int p4)]) (by decide) rfl (Nat.le_of_ble_eq_true rfl) rfl (fun p e s m below meth c ls args Q A H0 H locs C hK hA hQ hs hl => ?_)
  have hx := C.1
  have hb := C.2.1
  unfold fX0_tellOdds at hE
  refine lv_aload_n hx hb dX0_tellOdds_0 rfl (lv_at hl 0 rfl) ?_
  refine lv_aload_n hx hb dX0_tellOdds_1 rfl (lv_at hl 1 rfl) ?_
  refine lv_iload_n hx hb dX0_tellOdds_2 rfl (lv_at hl 3 rfl) ?_
  obtain ⟨σ1, r2, hE1, hE⟩ := cl_e hE
  refine x_cvv (As := [.ref (g.2.1 25), .int p3]) (rest := []) C hl.1 hK hs hA ⟨Nat.le_refl 0, Nat.le_refl 0⟩ (ctX0_lookAhead l g _ _ _ _ hE1) (cw_X0_54 C ⟨Nat.le_of_ble_eq_true rfl, Nat.le_of_ble_eq_true rfl⟩) (hs.recv hK 48 (by decide) rfl rfl) rfl rfl (Nat.le_of_ble_eq_true rfl) dX0_tellOdds_3 (fun H locs hs => ?_)
  refine lv_lconst (v := 0) hx hb dX0_tellOdds_6 (by decide) ?_
  refine lv_lstore (lv' := [(5, .long 0), (0, .ref (g.2.1 48)), (1, .ref (g.2.1 25)), (2, .int p2), (3, .int p3), (4, .int p4)]) hx hb dX0_tellOdds_7 hl (by decide) rfl (fun ls hl => ?_)
  refine lv_lconst (v := 1) hx hb dX0_tellOdds_9 (by decide) ?_
  refine lv_lstore (lv' := [(7, .long 1), (5, .long 0), (0, .ref (g.2.1 48)), (1, .ref (g.2.1 25)), (2, .int p2), (3, .int p3), (4, .int p4)]) hx hb dX0_tellOdds_10 hl (by decide) rfl (fun ls hl => ?_)
  refine lv_iconst (v := 0) hx hb dX0_tellOdds_12 (by decide) ?_
  refine lv_istore (lv' := [(9, .int 0), (7, .long 1), (5, .long 0), (0, .ref (g.2.1 48)), (1, .ref (g.2.1 25)), (2, .int p2), (3, .int p3), (4, .int p4)]) hx hb dX0_tellOdds_13 hl (by decide) rfl (fun ls hl => ?_)
  obtain ⟨w3, ew3, hE⟩ := pv_w hE
  have hl : lv_has ls 10 [(9, .int 0), (7, .long 1), (5, .long w3), (0, .ref (g.2.1 48)), (1, .ref (g.2.1 25)), (2, .int p2), (3, .int p3), (4, .int p4)] := by rw [ew3]; exact hl
  have hL15 : ∀ (n : Nat) (σ4 : St) (v5 : Int64) (v6 : Int32) (k : St → Int64 → Int32 → Option (St × Unit)), fX0_tellOdds_L15 p2 p4 w3 n σ4 v5 v6 k = some (σ', r) → (∀ (σ4 : St) (v5 : Int64) (v6 : Int32) (H : Heap) (locs : List Loc) (ls : Array Slot), HW 52 entC g A H0 H locs σ4 → lv_has ls 10 [(0, .ref (g.2.1 48)), (1, .ref (g.2.1 25)), (2, .int p2), (4, .int p4), (5, .long w3), (7, .long v5), (9, .int v6)] → k σ4 v5 v6 = some (σ', r) → W p l e (rmD 4) s m args below meth c H locs 0 0 Q (F0 m 41 ls [])) → ∀ (H : Heap) (locs : List Loc) (ls : Array Slot), HW 52 entC g A H0 H locs σ4 → lv_has ls 10 [(0, .ref (g.2.1 48)), (1, .ref (g.2.1 25)), (2, .int p2), (4, .int p4), (5, .long w3), (7, .long v5), (9, .int v6)] → W p l e (rmD 4) s m args below meth c H locs 0 0 Q (F0 m 15 ls []) := by
    intro n
    induction n with
    | zero =>
      intro σ4 v5 v6 k hE
      rw [fX0_tellOdds_L15] at hE
      exact no_e hE
    | succ n ih =>
      intro σ4 v5 v6 k hE hk H locs ls hs hl
      rw [fX0_tellOdds_L15] at hE
      refine lv_iload hx hb dX0_tellOdds_15 (lv_at hl 6 rfl) ?_
      refine lv_aload_n hx hb dX0_tellOdds_17 rfl (lv_at hl 1 rfl) ?_
      refine gf_X0_25_25 C hK hs dX0_tellOdds_18 ?_
      refine gf_X0_31_26 C hK hs dX0_tellOdds_21 ?_
      refine lv_icmp_ge (tgt := 41) hx hb dX0_tellOdds_24 (by decide) (fun hc => ?_) (fun hc => ?_)
      · have hE := if_t hc hE
        exact hk σ4 v5 v6 _ _ _ hs (lv_sub hl [0, 1, 2, 3, 4, 5, 6] rfl) hE
      · have hE := if_f hc hE
        refine lv_lload hx hb dX0_tellOdds_27 (lv_at hl 5 rfl) ?_
        refine lv_ldc2 (v := 12) hx hb C.2.2.2.1 (C.2.2.2.2 _ mw_856) dX0_tellOdds_29 ?_
        refine lv_lmul hx hb dX0_tellOdds_32 ?_
        refine lv_lstore (lv' := [(7, .long (v5 * 12)), (0, .ref (g.2.1 48)), (1, .ref (g.2.1 25)), (2, .int p2), (4, .int p4), (5, .long w3), (9, .int v6)]) hx hb dX0_tellOdds_33 hl (by decide) rfl (fun ls hl => ?_)
        refine lv_iinc (v := v6 + 1) (lv' := [(9, .int (v6 + 1)), (7, .long (v5 * 12)), (0, .ref (g.2.1 48)), (1, .ref (g.2.1 25)), (2, .int p2), (4, .int p4), (5, .long w3)]) hx hb dX0_tellOdds_35 hl (k := 6) rfl rfl (by decide) rfl (fun ls hl => ?_)
        refine lv_goto (tgt := 15) hx hb dX0_tellOdds_38 (by decide) ?_
        exact ih _ _ _ _ hE hk _ _ _ hs (lv_sub hl [2, 3, 4, 5, 6, 1, 0] rfl)
  refine hL15 _ _ _ _ _ hE (fun σ7 v8 v9 H locs ls hs hl hE => ?_) H locs ls hs (lv_sub hl [3, 4, 5, 7, 2, 1, 0] rfl)
  refine lv_iconst (v := 0) hx hb dX0_tellOdds_41 (by decide) ?_
  refine lv_istore (lv' := [(9, .int 0), (0, .ref (g.2.1 48)), (1, .ref (g.2.1 25)), (2, .int p2), (4, .int p4), (5, .long w3), (7, .long v8)]) hx hb dX0_tellOdds_42 hl (by decide) rfl (fun ls hl => ?_)
  have hL44 : ∀ (n : Nat) (σ10 : St) (v11 : Int64) (v12 : Int32) (k : St → Int64 → Int32 → Option (St × Unit)), fX0_tellOdds_L44 p2 p4 v8 n σ10 v11 v12 k = some (σ', r) → (∀ (σ10 : St) (v11 : Int64) (v12 : Int32) (H : Heap) (locs : List Loc) (ls : Array Slot), HW 52 entC g A H0 H locs σ10 → lv_has ls 10 [(0, .ref (g.2.1 48)), (1, .ref (g.2.1 25)), (2, .int p2), (4, .int p4), (5, .long v11), (7, .long v8), (9, .int v12)] → k σ10 v11 v12 = some (σ', r) → W p l e (rmD 4) s m args below meth c H locs 0 0 Q (F0 m 100 ls [])) → ∀ (H : Heap) (locs : List Loc) (ls : Array Slot), HW 52 entC g A H0 H locs σ10 → lv_has ls 10 [(0, .ref (g.2.1 48)), (1, .ref (g.2.1 25)), (2, .int p2), (4, .int p4), (5, .long v11), (7, .long v8), (9, .int v12)] → W p l e (rmD 4) s m args below meth c H locs 0 0 Q (F0 m 44 ls []) := by
    intro n
    induction n with
    | zero =>
      intro σ10 v11 v12 k hE
      rw [fX0_tellOdds_L44] at hE
      exact no_e hE
    | succ n ih =>
      intro σ10 v11 v12 k hE hk H locs ls hs hl
      rw [fX0_tellOdds_L44] at hE
      refine lv_iload hx hb dX0_tellOdds_44 (lv_at hl 6 rfl) ?_
      refine lv_iconst (v := 1) hx hb dX0_tellOdds_46 (by decide) ?_
      refine lv_aload_n hx hb dX0_tellOdds_47 rfl (lv_at hl 1 rfl) ?_
      refine gf_X0_25_25 C hK hs dX0_tellOdds_48 ?_
      refine gf_X0_31_26 C hK hs dX0_tellOdds_51 ?_
      refine lv_ishl hx hb dX0_tellOdds_54 ?_
      refine lv_icmp_ge (tgt := 100) hx hb dX0_tellOdds_55 (by decide) (fun hc => ?_) (fun hc => ?_)
      · have hE := if_t hc hE
        exact hk σ10 v11 v12 _ _ _ hs (lv_sub hl [0, 1, 2, 3, 4, 5, 6] rfl) hE
      · have hE := if_f hc hE
        refine lv_aload_n hx hb dX0_tellOdds_58 rfl (lv_at hl 0 rfl) ?_
        refine lv_aload_n hx hb dX0_tellOdds_59 rfl (lv_at hl 1 rfl) ?_
        refine gf_X0_25_25 C hK hs dX0_tellOdds_60 ?_
        refine gf_X0_31_26 C hK hs dX0_tellOdds_63 ?_
        refine lv_iload hx hb dX0_tellOdds_66 (lv_at hl 6 rfl) ?_
        obtain ⟨σ13, r14, hE1, hE⟩ := cl_e hE
        refine x_civ (As := [.int (σ10.1 26 7), .int v12]) (rest := []) C hl.1 hK hs hA ⟨Nat.le_refl 0, Nat.le_refl 0⟩ (ctX0_pursesIf l g _ _ _ _ _ hE1) (cw_X0_60 C ⟨Nat.le_of_ble_eq_true rfl, Nat.le_of_ble_eq_true rfl⟩) (hs.recv hK 48 (by decide) rfl rfl) rfl rfl (Nat.le_of_ble_eq_true rfl) dX0_tellOdds_68 (fun H locs hs => ?_)
        refine lv_iload_n hx hb dX0_tellOdds_71 rfl (lv_at hl 2 rfl) ?_
        refine jn2 hE (fun k15 hE hk15 => ?_)
        have hJk15 : ∀ (σ16 : St) (z17 : Int64) (H : Heap) (locs : List Loc) (ls : Array Slot), HW 52 entC g A H0 H locs σ16 → lv_has ls 10 [(0, .ref (g.2.1 48)), (1, .ref (g.2.1 25)), (2, .int p2), (4, .int p4), (5, .long z17), (7, .long v8), (9, .int v12)] → k15 σ16 z17 = some (σ', r) → W p l e (rmD 4) s m args below meth c H locs 0 0 Q (F0 m 94 ls []) := by
          intro σ16 z17 H locs ls hs hl hE
          have hE := hk15 _ _ hE
          refine lv_iinc (v := v12 + 1) (lv' := [(9, .int (v12 + 1)), (0, .ref (g.2.1 48)), (1, .ref (g.2.1 25)), (2, .int p2), (4, .int p4), (5, .long z17), (7, .long v8)]) hx hb dX0_tellOdds_94 hl (k := 6) rfl rfl (by decide) rfl (fun ls hl => ?_)
          refine lv_goto (tgt := 44) hx hb dX0_tellOdds_97 (by decide) ?_
          exact ih _ _ _ _ hE hk _ _ _ hs (lv_sub hl [1, 2, 3, 4, 5, 6, 0] rfl)
        refine lv_icmp_lt (tgt := 94) hx hb dX0_tellOdds_72 (by decide) (fun hc => ?_) (fun hc => ?_)
        · have hE := if_t hc hE
          exact hJk15 σ13 v11 _ _ _ hs (lv_sub hl [0, 1, 2, 3, 4, 5, 6] rfl) hE
        · have hE := if_f hc hE
          refine lv_lload hx hb dX0_tellOdds_75 (lv_at hl 4 rfl) ?_
          refine lv_aload_n hx hb dX0_tellOdds_77 rfl (lv_at hl 1 rfl) ?_
          refine gf_X0_25_25 C hK hs dX0_tellOdds_78 ?_
          refine gf_X0_31_26 C hK hs dX0_tellOdds_81 ?_
          refine lv_iload hx hb dX0_tellOdds_84 (lv_at hl 6 rfl) ?_
          refine lv_iload hx hb dX0_tellOdds_86 (lv_at hl 3 rfl) ?_
          obtain ⟨σ18, r19, hE1, hE⟩ := cl_e hE
          refine x_cls (As := [.int (σ13.1 26 7), .int v12, .int p4]) (rest := [.long v11]) C hl.1 hK hs hA ⟨Nat.le_refl 0, Nat.le_refl 0⟩ (ctX0_weightOf l g _ _ _ _ _ _ hE1) (cw_X0_64 C ⟨Nat.le_of_ble_eq_true rfl, Nat.le_of_ble_eq_true rfl⟩) rfl rfl (Nat.le_of_ble_eq_true rfl) dX0_tellOdds_88 (fun H locs hs => ?_)
          refine lv_ladd hx hb dX0_tellOdds_91 ?_
          refine lv_lstore (lv' := [(5, .long (v11 + r19)), (0, .ref (g.2.1 48)), (1, .ref (g.2.1 25)), (2, .int p2), (4, .int p4), (7, .long v8), (9, .int v12)]) hx hb dX0_tellOdds_92 hl (by decide) rfl (fun ls hl => ?_)
          exact hJk15 σ18 (v11 + r19) _ _ _ hs (lv_sub hl [1, 2, 3, 4, 0, 5, 6] rfl) hE
  refine hL44 _ _ _ _ _ hE (fun σ20 v21 v22 H locs ls hs hl hE => ?_) H locs ls hs (lv_sub hl [1, 2, 3, 4, 5, 6, 0] rfl)
  refine lv_aload_n hx hb dX0_tellOdds_100 rfl (lv_at hl 0 rfl) ?_
  refine lv_lload hx hb dX0_tellOdds_101 (lv_at hl 4 rfl) ?_
  refine lv_lload hx hb dX0_tellOdds_103 (lv_at hl 5 rfl) ?_
  obtain ⟨σ23, r24, hE1, hE⟩ := cl_e hE
  refine x_cvv (As := [.long v21, .long v8]) (rest := []) C hl.1 hK hs hA ⟨Nat.le_refl 0, Nat.le_refl 0⟩ (ctX0_tell l g _ _ _ _ _ hE1) (cw_X0_68 C ⟨Nat.le_of_ble_eq_true rfl, Nat.le_of_ble_eq_true rfl⟩) (hs.recv hK 48 (by decide) rfl rfl) rfl rfl (Nat.le_of_ble_eq_true rfl) dX0_tellOdds_105 (fun H locs hs => ?_)
  exact hQ hs hE dX0_tellOdds_108
theorem dX0_tellMean_0 : decode cX0_tellMean 0 = .ok (.aload_n 0, 1) := by decide +kernel
theorem dX0_tellMean_1 : decode cX0_tellMean 1 = .ok (.aload_n 1, 1) := by decide +kernel
theorem dX0_tellMean_2 : decode cX0_tellMean 2 = .ok (.iload_n 2, 1) := by decide +kernel
theorem dX0_tellMean_3 : decode cX0_tellMean 3 = .ok (.invokevirtual 54, 3) := by decide +kernel
theorem dX0_tellMean_6 : decode cX0_tellMean 6 = .ok (.lconst 0, 1) := by decide +kernel
theorem dX0_tellMean_7 : decode cX0_tellMean 7 = .ok (.lstore 4, 2) := by decide +kernel
theorem dX0_tellMean_9 : decode cX0_tellMean 9 = .ok (.iconst 0, 1) := by decide +kernel
theorem dX0_tellMean_10 : decode cX0_tellMean 10 = .ok (.istore 6, 2) := by decide +kernel
theorem dX0_tellMean_12 : decode cX0_tellMean 12 = .ok (.iload 6, 2) := by decide +kernel
theorem dX0_tellMean_14 : decode cX0_tellMean 14 = .ok (.aload_n 1, 1) := by decide +kernel
theorem dX0_tellMean_15 : decode cX0_tellMean 15 = .ok (.getfield 25, 3) := by decide +kernel
theorem dX0_tellMean_18 : decode cX0_tellMean 18 = .ok (.getfield 31, 3) := by decide +kernel
theorem dX0_tellMean_21 : decode cX0_tellMean 21 = .ok (.if_icmp .ge 40, 3) := by decide +kernel
theorem dX0_tellMean_24 : decode cX0_tellMean 24 = .ok (.lload 4, 2) := by decide +kernel
theorem dX0_tellMean_26 : decode cX0_tellMean 26 = .ok (.iload_n 3, 1) := by decide +kernel
theorem dX0_tellMean_27 : decode cX0_tellMean 27 = .ok (.i2l, 1) := by decide +kernel
theorem dX0_tellMean_28 : decode cX0_tellMean 28 = .ok (.aload_n 0, 1) := by decide +kernel
theorem dX0_tellMean_29 : decode cX0_tellMean 29 = .ok (.getfield 15, 3) := by decide +kernel
theorem dX0_tellMean_32 : decode cX0_tellMean 32 = .ok (.iload 6, 2) := by decide +kernel
theorem dX0_tellMean_34 : decode cX0_tellMean 34 = .ok (.iaload, 1) := by decide +kernel
theorem dX0_tellMean_35 : decode cX0_tellMean 35 = .ok (.i2l, 1) := by decide +kernel
theorem dX0_tellMean_36 : decode cX0_tellMean 36 = .ok (.lmul, 1) := by decide +kernel
theorem dX0_tellMean_37 : decode cX0_tellMean 37 = .ok (.bipush 12, 2) := by decide +kernel
theorem dX0_tellMean_39 : decode cX0_tellMean 39 = .ok (.iload_n 3, 1) := by decide +kernel
theorem dX0_tellMean_40 : decode cX0_tellMean 40 = .ok (.isub, 1) := by decide +kernel
theorem dX0_tellMean_41 : decode cX0_tellMean 41 = .ok (.i2l, 1) := by decide +kernel
theorem dX0_tellMean_42 : decode cX0_tellMean 42 = .ok (.aload_n 0, 1) := by decide +kernel
theorem dX0_tellMean_43 : decode cX0_tellMean 43 = .ok (.getfield 9, 3) := by decide +kernel
theorem dX0_tellMean_46 : decode cX0_tellMean 46 = .ok (.iload 6, 2) := by decide +kernel
theorem dX0_tellMean_48 : decode cX0_tellMean 48 = .ok (.iaload, 1) := by decide +kernel
theorem dX0_tellMean_49 : decode cX0_tellMean 49 = .ok (.i2l, 1) := by decide +kernel
theorem dX0_tellMean_50 : decode cX0_tellMean 50 = .ok (.lmul, 1) := by decide +kernel
theorem dX0_tellMean_51 : decode cX0_tellMean 51 = .ok (.ladd, 1) := by decide +kernel
theorem dX0_tellMean_52 : decode cX0_tellMean 52 = .ok (.ladd, 1) := by decide +kernel
theorem dX0_tellMean_53 : decode cX0_tellMean 53 = .ok (.lstore 4, 2) := by decide +kernel
theorem dX0_tellMean_55 : decode cX0_tellMean 55 = .ok (.iinc 6 1, 3) := by decide +kernel
theorem dX0_tellMean_58 : decode cX0_tellMean 58 = .ok (.goto (-46), 3) := by decide +kernel
theorem dX0_tellMean_61 : decode cX0_tellMean 61 = .ok (.aload_n 0, 1) := by decide +kernel
theorem dX0_tellMean_62 : decode cX0_tellMean 62 = .ok (.lload 4, 2) := by decide +kernel
theorem dX0_tellMean_64 : decode cX0_tellMean 64 = .ok (.ldc2_w 58, 3) := by decide +kernel
theorem dX0_tellMean_67 : decode cX0_tellMean 67 = .ok (.invokevirtual 68, 3) := by decide +kernel
theorem dX0_tellMean_70 : decode cX0_tellMean 70 = .ok (.return_, 1) := by decide +kernel
def fX0_tellMean_L12 (p3 : Int32) : Nat → St → Int64 → Int32 → (St → Int64 → Int32 → Option (St × Unit)) → Option (St × Unit)
  | 0, _, _, _, _ => none
  | n + 1, σ3, v4, v5, k => (if (σ3.1 26 7) ≤ v5 then k σ3 v4 v5 else rd LC σ3 50 v5 (fun x6 => rd LC σ3 49 v5 (fun x7 => fX0_tellMean_L12 p3 n σ3 (v4 + (((p3.toInt64) * (x6.toInt64)) + (((12 - p3).toInt64) * (x7.toInt64)))) (v5 + 1) k)))
def fX0_tellMean (σ : St) (p2 : Int32) (p3 : Int32) : Option (St × Unit) := cl (fX0_lookAhead σ p2) (fun σ1 r2 => fX0_tellMean_L12 p3 10000 σ1 0 0 (fun σ8 v9 v10 => cl (fX0_tell σ8 v9 12) (fun σ11 r12 => some (σ11, ()))))
set_option maxHeartbeats 4000000 in
set_option maxRecDepth 100000 in
theorem ctX0_tellMean (l : Launch) (g : GG) (σ : St) (p2 : Int32) (p3 : Int32) (σ' : St) (r : Unit) (hE : fX0_tellMean σ p2 p3 = some (σ', r)) : MV 52 entC l g yX0_tellMean (Cond.code yX0_tellMean cX0_tellMean 7 none :: gtbl) (rmD 4) [.ref (g.2.1 48), .ref (g.2.1 25), .int p2, .int p3] σ σ' := by
  refine mi_v (own := RX0) (lv := [(0, .ref (g.2.1 48)), (1, .ref (g.2.1 25)), (2, .int p2), (3, .int p3)]) (by decide) rfl (Nat.le_of_ble_eq_true rfl) rfl (fun p e s m below meth c ls args Q A H0 H locs C hK hA hQ hs hl => ?_)
  have hx := C.1
  have hb := C.2.1
  unfold fX0_tellMean at hE
  refine lv_aload_n hx hb dX0_tellMean_0 rfl (lv_at hl 0 rfl) ?_
  refine lv_aload_n hx hb dX0_tellMean_1 rfl (lv_at hl 1 rfl) ?_
  refine lv_iload_n hx hb dX0_tellMean_2 rfl (lv_at hl 2 rfl) ?_
  obtain ⟨σ1, r2, hE1, hE⟩ := cl_e hE
  refine x_cvv (As := [.ref (g.2.1 25), .int p2]) (rest := []) C hl.1 hK hs hA ⟨Nat.le_refl 0, Nat.le_refl 0⟩ (ctX0_lookAhead l g _ _ _ _ hE1) (cw_X0_54 C ⟨Nat.le_of_ble_eq_true rfl, Nat.le_of_ble_eq_true rfl⟩) (hs.recv hK 48 (by decide) rfl rfl) rfl rfl (Nat.le_of_ble_eq_true rfl) dX0_tellMean_3 (fun H locs hs => ?_)
  refine lv_lconst (v := 0) hx hb dX0_tellMean_6 (by decide) ?_
  refine lv_lstore (lv' := [(4, .long 0), (0, .ref (g.2.1 48)), (1, .ref (g.2.1 25)), (2, .int p2), (3, .int p3)]) hx hb dX0_tellMean_7 hl (by decide) rfl (fun ls hl => ?_)
  refine lv_iconst (v := 0) hx hb dX0_tellMean_9 (by decide) ?_
  refine lv_istore (lv' := [(6, .int 0), (4, .long 0), (0, .ref (g.2.1 48)), (1, .ref (g.2.1 25)), (2, .int p2), (3, .int p3)]) hx hb dX0_tellMean_10 hl (by decide) rfl (fun ls hl => ?_)
  have hL12 : ∀ (n : Nat) (σ3 : St) (v4 : Int64) (v5 : Int32) (k : St → Int64 → Int32 → Option (St × Unit)), fX0_tellMean_L12 p3 n σ3 v4 v5 k = some (σ', r) → (∀ (σ3 : St) (v4 : Int64) (v5 : Int32) (H : Heap) (locs : List Loc) (ls : Array Slot), HW 52 entC g A H0 H locs σ3 → lv_has ls 7 [(0, .ref (g.2.1 48)), (1, .ref (g.2.1 25)), (3, .int p3), (4, .long v4), (6, .int v5)] → k σ3 v4 v5 = some (σ', r) → W p l e (rmD 4) s m args below meth c H locs 0 0 Q (F0 m 61 ls [])) → ∀ (H : Heap) (locs : List Loc) (ls : Array Slot), HW 52 entC g A H0 H locs σ3 → lv_has ls 7 [(0, .ref (g.2.1 48)), (1, .ref (g.2.1 25)), (3, .int p3), (4, .long v4), (6, .int v5)] → W p l e (rmD 4) s m args below meth c H locs 0 0 Q (F0 m 12 ls []) := by
    intro n
    induction n with
    | zero =>
      intro σ3 v4 v5 k hE
      rw [fX0_tellMean_L12] at hE
      exact no_e hE
    | succ n ih =>
      intro σ3 v4 v5 k hE hk H locs ls hs hl
      rw [fX0_tellMean_L12] at hE
      refine lv_iload hx hb dX0_tellMean_12 (lv_at hl 4 rfl) ?_
      refine lv_aload_n hx hb dX0_tellMean_14 rfl (lv_at hl 1 rfl) ?_
      refine gf_X0_25_25 C hK hs dX0_tellMean_15 ?_
      refine gf_X0_31_26 C hK hs dX0_tellMean_18 ?_
      refine lv_icmp_ge (tgt := 61) hx hb dX0_tellMean_21 (by decide) (fun hc => ?_) (fun hc => ?_)
      · have hE := if_t hc hE
        exact hk σ3 v4 v5 _ _ _ hs (lv_sub hl [0, 1, 2, 3, 4] rfl) hE
      · have hE := if_f hc hE
        refine lv_lload hx hb dX0_tellMean_24 (lv_at hl 3 rfl) ?_
        refine lv_iload_n hx hb dX0_tellMean_26 rfl (lv_at hl 2 rfl) ?_
        refine lv_i2l (v := p3.toInt64) hx hb dX0_tellMean_27 rfl ?_
        refine lv_aload_n hx hb dX0_tellMean_28 rfl (lv_at hl 0 rfl) ?_
        refine gf_X0_15_48 C hK hs dX0_tellMean_29 ?_
        refine lv_iload hx hb dX0_tellMean_32 (lv_at hl 4 rfl) ?_
        obtain ⟨hi, x6, ex6, hE⟩ := rd_w hE
        refine y_ald layC C hK hs hi ex6 dX0_tellMean_34 ?_
        refine lv_i2l (v := x6.toInt64) hx hb dX0_tellMean_35 rfl ?_
        refine lv_lmul hx hb dX0_tellMean_36 ?_
        refine lv_bipush (v := 12) hx hb dX0_tellMean_37 (by decide) ?_
        refine lv_iload_n hx hb dX0_tellMean_39 rfl (lv_at hl 2 rfl) ?_
        refine lv_isub hx hb dX0_tellMean_40 ?_
        refine lv_i2l (v := (12 - p3).toInt64) hx hb dX0_tellMean_41 rfl ?_
        refine lv_aload_n hx hb dX0_tellMean_42 rfl (lv_at hl 0 rfl) ?_
        refine gf_X0_9_48 C hK hs dX0_tellMean_43 ?_
        refine lv_iload hx hb dX0_tellMean_46 (lv_at hl 4 rfl) ?_
        obtain ⟨hi, x7, ex7, hE⟩ := rd_w hE
        refine y_ald layC C hK hs hi ex7 dX0_tellMean_48 ?_
        refine lv_i2l (v := x7.toInt64) hx hb dX0_tellMean_49 rfl ?_
        refine lv_lmul hx hb dX0_tellMean_50 ?_
        refine lv_ladd hx hb dX0_tellMean_51 ?_
        refine lv_ladd hx hb dX0_tellMean_52 ?_
        refine lv_lstore (lv' := [(4, .long (v4 + (((p3.toInt64) * (x6.toInt64)) + (((12 - p3).toInt64) * (x7.toInt64))))), (0, .ref (g.2.1 48)), (1, .ref (g.2.1 25)), (3, .int p3), (6, .int v5)]) hx hb dX0_tellMean_53 hl (by decide) rfl (fun ls hl => ?_)
        refine lv_iinc (v := v5 + 1) (lv' := [(6, .int (v5 + 1)), (4, .long (v4 + (((p3.toInt64) * (x6.toInt64)) + (((12 - p3).toInt64) * (x7.toInt64))))), (0, .ref (g.2.1 48)), (1, .ref (g.2.1 25)), (3, .int p3)]) hx hb dX0_tellMean_55 hl (k := 4) rfl rfl (by decide) rfl (fun ls hl => ?_)
        refine lv_goto (tgt := 12) hx hb dX0_tellMean_58 (by decide) ?_
        exact ih _ _ _ _ hE hk _ _ _ hs (lv_sub hl [2, 3, 4, 1, 0] rfl)
  refine hL12 _ _ _ _ _ hE (fun σ8 v9 v10 H locs ls hs hl hE => ?_) H locs ls hs (lv_sub hl [2, 3, 5, 1, 0] rfl)
  refine lv_aload_n hx hb dX0_tellMean_61 rfl (lv_at hl 0 rfl) ?_
  refine lv_lload hx hb dX0_tellMean_62 (lv_at hl 3 rfl) ?_
  refine lv_ldc2 (v := 12) hx hb C.2.2.2.1 (C.2.2.2.2 _ mw_856) dX0_tellMean_64 ?_
  obtain ⟨σ11, r12, hE1, hE⟩ := cl_e hE
  refine x_cvv (As := [.long v9, .long 12]) (rest := []) C hl.1 hK hs hA ⟨Nat.le_refl 0, Nat.le_refl 0⟩ (ctX0_tell l g _ _ _ _ _ hE1) (cw_X0_68 C ⟨Nat.le_of_ble_eq_true rfl, Nat.le_of_ble_eq_true rfl⟩) (hs.recv hK 48 (by decide) rfl rfl) rfl rfl (Nat.le_of_ble_eq_true rfl) dX0_tellMean_67 (fun H locs hs => ?_)
  exact hQ hs hE dX0_tellMean_70
theorem dX1_fits_0 : decode cX1_fits 0 = .ok (.iload_n 2, 1) := by decide +kernel
theorem dX1_fits_1 : decode cX1_fits 1 = .ok (.istore 5, 2) := by decide +kernel
theorem dX1_fits_3 : decode cX1_fits 3 = .ok (.iconst 0, 1) := by decide +kernel
theorem dX1_fits_4 : decode cX1_fits 4 = .ok (.istore 6, 2) := by decide +kernel
theorem dX1_fits_6 : decode cX1_fits 6 = .ok (.iload 6, 2) := by decide +kernel
theorem dX1_fits_8 : decode cX1_fits 8 = .ok (.iload 4, 2) := by decide +kernel
theorem dX1_fits_10 : decode cX1_fits 10 = .ok (.if_icmp .ge 29, 3) := by decide +kernel
theorem dX1_fits_13 : decode cX1_fits 13 = .ok (.iload_n 0, 1) := by decide +kernel
theorem dX1_fits_14 : decode cX1_fits 14 = .ok (.iload_n 1, 1) := by decide +kernel
theorem dX1_fits_15 : decode cX1_fits 15 = .ok (.iload 5, 2) := by decide +kernel
theorem dX1_fits_17 : decode cX1_fits 17 = .ok (.invokestatic 34, 3) := by decide +kernel
theorem dX1_fits_20 : decode cX1_fits 20 = .ok (.istore 5, 2) := by decide +kernel
theorem dX1_fits_22 : decode cX1_fits 22 = .ok (.iload 5, 2) := by decide +kernel
theorem dX1_fits_24 : decode cX1_fits 24 = .ok (.aload_n 3, 1) := by decide +kernel
theorem dX1_fits_25 : decode cX1_fits 25 = .ok (.iload 6, 2) := by decide +kernel
theorem dX1_fits_27 : decode cX1_fits 27 = .ok (.iaload, 1) := by decide +kernel
theorem dX1_fits_28 : decode cX1_fits 28 = .ok (.if_icmp .eq 5, 3) := by decide +kernel
theorem dX1_fits_31 : decode cX1_fits 31 = .ok (.iconst 0, 1) := by decide +kernel
theorem dX1_fits_32 : decode cX1_fits 32 = .ok (.ireturn, 1) := by decide +kernel
theorem dX1_fits_33 : decode cX1_fits 33 = .ok (.iinc 6 1, 3) := by decide +kernel
theorem dX1_fits_36 : decode cX1_fits 36 = .ok (.goto (-30), 3) := by decide +kernel
theorem dX1_fits_39 : decode cX1_fits 39 = .ok (.iconst 1, 1) := by decide +kernel
theorem dX1_fits_40 : decode cX1_fits 40 = .ok (.ireturn, 1) := by decide +kernel
def fX1_fits_L6 (p0 : Int32) (p1 : Int32) (p3 : Nat) (p4 : Int32) : Nat → St → Int32 → Int32 → (St → Int32 → Int32 → Option (St × Int32)) → Option (St × Int32)
  | 0, _, _, _, _ => none
  | n + 1, σ1, v2, v3, k => (if p4 ≤ v3 then k σ1 v2 v3 else cl (fX2_purseBehind σ1 p0 p1 v2) (fun σ4 r5 => rd LC σ4 p3 v3 (fun x6 => (if r5 = x6 then fX1_fits_L6 p0 p1 p3 p4 n σ4 r5 (v3 + 1) k else some (σ4, 0)))))
def fX1_fits (σ : St) (p0 : Int32) (p1 : Int32) (p2 : Int32) (p3 : Nat) (p4 : Int32) : Option (St × Int32) := fX1_fits_L6 p0 p1 p3 p4 10000 σ p2 0 (fun σ7 v8 v9 => some (σ7, 1))
set_option maxHeartbeats 4000000 in
set_option maxRecDepth 100000 in
theorem ctX1_fits (l : Launch) (g : GG) (σ : St) (p0 : Int32) (p1 : Int32) (p2 : Int32) (p3 : Nat) (p4 : Int32) (σ' : St) (r : Int32) (hE : fX1_fits σ p0 p1 p2 p3 p4 = some (σ', r)) : MI 52 entC l g yX1_fits (Cond.code yX1_fits cX1_fits 7 (some .boolean) :: gtbl) (rmD 2) [.int p0, .int p1, .int p2, .ref (g.2.1 p3), .int p4] σ σ' r := by
  refine mi_z (own := RX1) (lv := [(0, .int p0), (1, .int p1), (2, .int p2), (3, .ref (g.2.1 p3)), (4, .int p4)]) (by decide) rfl (Nat.le_of_ble_eq_true rfl) rfl (fun p e s m below meth c ls args Q A H0 H locs C hK hA hQ hs hl => ?_)
  have hx := C.1
  have hb := C.2.1
  unfold fX1_fits at hE
  refine lv_iload_n hx hb dX1_fits_0 rfl (lv_at hl 2 rfl) ?_
  refine lv_istore (lv' := [(5, .int p2), (0, .int p0), (1, .int p1), (2, .int p2), (3, .ref (g.2.1 p3)), (4, .int p4)]) hx hb dX1_fits_1 hl (by decide) rfl (fun ls hl => ?_)
  refine lv_iconst (v := 0) hx hb dX1_fits_3 (by decide) ?_
  refine lv_istore (lv' := [(6, .int 0), (5, .int p2), (0, .int p0), (1, .int p1), (2, .int p2), (3, .ref (g.2.1 p3)), (4, .int p4)]) hx hb dX1_fits_4 hl (by decide) rfl (fun ls hl => ?_)
  have hL6 : ∀ (n : Nat) (σ1 : St) (v2 : Int32) (v3 : Int32) (k : St → Int32 → Int32 → Option (St × Int32)), fX1_fits_L6 p0 p1 p3 p4 n σ1 v2 v3 k = some (σ', r) → (∀ (σ1 : St) (v2 : Int32) (v3 : Int32) (H : Heap) (locs : List Loc) (ls : Array Slot), HW 52 entC g A H0 H locs σ1 → lv_has ls 7 [(0, .int p0), (1, .int p1), (3, .ref (g.2.1 p3)), (4, .int p4), (5, .int v2), (6, .int v3)] → k σ1 v2 v3 = some (σ', r) → W p l e (rmD 2) s m args below meth c H locs 0 0 Q (F0 m 39 ls [])) → ∀ (H : Heap) (locs : List Loc) (ls : Array Slot), HW 52 entC g A H0 H locs σ1 → lv_has ls 7 [(0, .int p0), (1, .int p1), (3, .ref (g.2.1 p3)), (4, .int p4), (5, .int v2), (6, .int v3)] → W p l e (rmD 2) s m args below meth c H locs 0 0 Q (F0 m 6 ls []) := by
    intro n
    induction n with
    | zero =>
      intro σ1 v2 v3 k hE
      rw [fX1_fits_L6] at hE
      exact no_e hE
    | succ n ih =>
      intro σ1 v2 v3 k hE hk H locs ls hs hl
      rw [fX1_fits_L6] at hE
      refine lv_iload hx hb dX1_fits_6 (lv_at hl 5 rfl) ?_
      refine lv_iload hx hb dX1_fits_8 (lv_at hl 3 rfl) ?_
      refine lv_icmp_ge (tgt := 39) hx hb dX1_fits_10 (by decide) (fun hc => ?_) (fun hc => ?_)
      · have hE := if_t hc hE
        exact hk σ1 v2 v3 _ _ _ hs (lv_sub hl [0, 1, 2, 3, 4, 5] rfl) hE
      · have hE := if_f hc hE
        refine lv_iload_n hx hb dX1_fits_13 rfl (lv_at hl 0 rfl) ?_
        refine lv_iload_n hx hb dX1_fits_14 rfl (lv_at hl 1 rfl) ?_
        refine lv_iload hx hb dX1_fits_15 (lv_at hl 4 rfl) ?_
        obtain ⟨σ4, r5, hE1, hE⟩ := cl_e hE
        refine x_cis (As := [.int p0, .int p1, .int v2]) (rest := []) C hl.1 hK hs hA ⟨Nat.le_refl 0, Nat.le_refl 0⟩ (ctX2_purseBehind l g _ _ _ _ _ _ hE1) (cw_X1_34 C ⟨Nat.le_of_ble_eq_true rfl, Nat.le_of_ble_eq_true rfl⟩) rfl rfl (Nat.le_of_ble_eq_true rfl) dX1_fits_17 (fun H locs hs => ?_)
        refine lv_istore (lv' := [(5, .int r5), (0, .int p0), (1, .int p1), (3, .ref (g.2.1 p3)), (4, .int p4), (6, .int v3)]) hx hb dX1_fits_20 hl (by decide) rfl (fun ls hl => ?_)
        refine lv_iload hx hb dX1_fits_22 (lv_at hl 0 rfl) ?_
        refine lv_aload_n hx hb dX1_fits_24 rfl (lv_at hl 3 rfl) ?_
        refine lv_iload hx hb dX1_fits_25 (lv_at hl 5 rfl) ?_
        obtain ⟨hi, x6, ex6, hE⟩ := rd_w hE
        refine y_ald layC C hK hs hi ex6 dX1_fits_27 ?_
        refine lv_icmp_eq (tgt := 33) hx hb dX1_fits_28 (by decide) (fun hc => ?_) (fun hc => ?_)
        · have hE := if_t hc hE
          refine lv_iinc (v := v3 + 1) (lv' := [(6, .int (v3 + 1)), (5, .int r5), (0, .int p0), (1, .int p1), (3, .ref (g.2.1 p3)), (4, .int p4)]) hx hb dX1_fits_33 hl (k := 5) rfl rfl (by decide) rfl (fun ls hl => ?_)
          refine lv_goto (tgt := 6) hx hb dX1_fits_36 (by decide) ?_
          exact ih _ _ _ _ hE hk _ _ _ hs (lv_sub hl [2, 3, 4, 5, 1, 0] rfl)
        · have hE := if_f hc hE
          refine lv_iconst (v := 0) hx hb dX1_fits_31 (by decide) ?_
          exact hQ hs rfl hE dX1_fits_32
  refine hL6 _ _ _ _ _ hE (fun σ7 v8 v9 H locs ls hs hl hE => ?_) H locs ls hs (lv_sub hl [2, 3, 5, 6, 1, 0] rfl)
  refine lv_iconst (v := 1) hx hb dX1_fits_39 (by decide) ?_
  exact hQ hs rfl hE dX1_fits_40
theorem dX1_kindsBy_0 : decode cX1_kindsBy 0 = .ok (.iconst 0, 1) := by decide +kernel
theorem dX1_kindsBy_1 : decode cX1_kindsBy 1 = .ok (.istore 4, 2) := by decide +kernel
theorem dX1_kindsBy_3 : decode cX1_kindsBy 3 = .ok (.iconst 0, 1) := by decide +kernel
theorem dX1_kindsBy_4 : decode cX1_kindsBy 4 = .ok (.istore 5, 2) := by decide +kernel
theorem dX1_kindsBy_6 : decode cX1_kindsBy 6 = .ok (.iload 5, 2) := by decide +kernel
theorem dX1_kindsBy_8 : decode cX1_kindsBy 8 = .ok (.bipush 6, 2) := by decide +kernel
theorem dX1_kindsBy_10 : decode cX1_kindsBy 10 = .ok (.if_icmp .ge 43, 3) := by decide +kernel
theorem dX1_kindsBy_13 : decode cX1_kindsBy 13 = .ok (.iload 5, 2) := by decide +kernel
theorem dX1_kindsBy_15 : decode cX1_kindsBy 15 = .ok (.aload_n 0, 1) := by decide +kernel
theorem dX1_kindsBy_16 : decode cX1_kindsBy 16 = .ok (.getfield 15, 3) := by decide +kernel
theorem dX1_kindsBy_19 : decode cX1_kindsBy 19 = .ok (.getfield 21, 3) := by decide +kernel
theorem dX1_kindsBy_22 : decode cX1_kindsBy 22 = .ok (.iload_n 1, 1) := by decide +kernel
theorem dX1_kindsBy_23 : decode cX1_kindsBy 23 = .ok (.iaload, 1) := by decide +kernel
theorem dX1_kindsBy_24 : decode cX1_kindsBy 24 = .ok (.aload_n 0, 1) := by decide +kernel
theorem dX1_kindsBy_25 : decode cX1_kindsBy 25 = .ok (.getfield 26, 3) := by decide +kernel
theorem dX1_kindsBy_28 : decode cX1_kindsBy 28 = .ok (.iload_n 1, 1) := by decide +kernel
theorem dX1_kindsBy_29 : decode cX1_kindsBy 29 = .ok (.iaload, 1) := by decide +kernel
theorem dX1_kindsBy_30 : decode cX1_kindsBy 30 = .ok (.aload_n 2, 1) := by decide +kernel
theorem dX1_kindsBy_31 : decode cX1_kindsBy 31 = .ok (.iload_n 3, 1) := by decide +kernel
theorem dX1_kindsBy_32 : decode cX1_kindsBy 32 = .ok (.invokestatic 27, 3) := by decide +kernel
theorem dX1_kindsBy_35 : decode cX1_kindsBy 35 = .ok (.ifCond .eq 12, 3) := by decide +kernel
theorem dX1_kindsBy_38 : decode cX1_kindsBy 38 = .ok (.iload 4, 2) := by decide +kernel
theorem dX1_kindsBy_40 : decode cX1_kindsBy 40 = .ok (.iconst 1, 1) := by decide +kernel
theorem dX1_kindsBy_41 : decode cX1_kindsBy 41 = .ok (.iload 5, 2) := by decide +kernel
theorem dX1_kindsBy_43 : decode cX1_kindsBy 43 = .ok (.ishl, 1) := by decide +kernel
theorem dX1_kindsBy_44 : decode cX1_kindsBy 44 = .ok (.ior, 1) := by decide +kernel
theorem dX1_kindsBy_45 : decode cX1_kindsBy 45 = .ok (.istore 4, 2) := by decide +kernel
theorem dX1_kindsBy_47 : decode cX1_kindsBy 47 = .ok (.iinc 5 1, 3) := by decide +kernel
theorem dX1_kindsBy_50 : decode cX1_kindsBy 50 = .ok (.goto (-44), 3) := by decide +kernel
theorem dX1_kindsBy_53 : decode cX1_kindsBy 53 = .ok (.iload 4, 2) := by decide +kernel
theorem dX1_kindsBy_55 : decode cX1_kindsBy 55 = .ok (.ireturn, 1) := by decide +kernel
def fX1_kindsBy_L6 (p1 : Int32) (p2 : Nat) (p3 : Int32) : Nat → St → Int32 → Int32 → (St → Int32 → Int32 → Option (St × Int32)) → Option (St × Int32)
  | 0, _, _, _, _ => none
  | n + 1, σ1, v2, v3, k => (if 6 ≤ v3 then k σ1 v2 v3 else rd LC σ1 32 p1 (fun x4 => rd LC σ1 33 p1 (fun x5 => cl (fX1_fits σ1 v3 x4 x5 p2 p3) (fun σ6 r7 => pv (if r7 = 0 then v2 else (v2 ||| (1 <<< (v3 &&& 31)))) (fun (z9 : Int32) => fX1_kindsBy_L6 p1 p2 p3 n σ6 z9 (v3 + 1) k)))))
def fX1_kindsBy (σ : St) (p1 : Int32) (p2 : Nat) (p3 : Int32) : Option (St × Int32) := fX1_kindsBy_L6 p1 p2 p3 10000 σ 0 0 (fun σ10 v11 v12 => some (σ10, v11))
set_option maxHeartbeats 4000000 in
set_option maxRecDepth 100000 in
theorem ctX1_kindsBy (l : Launch) (g : GG) (σ : St) (p1 : Int32) (p2 : Nat) (p3 : Int32) (σ' : St) (r : Int32) (hE : fX1_kindsBy σ p1 p2 p3 = some (σ', r)) : MI 52 entC l g yX1_kindsBy (Cond.code yX1_kindsBy cX1_kindsBy 6 (some .int) :: gtbl) (rmD 3) [.ref (g.2.1 25), .int p1, .ref (g.2.1 p2), .int p3] σ σ' r := by
  refine mi_i (own := RX1) (lv := [(0, .ref (g.2.1 25)), (1, .int p1), (2, .ref (g.2.1 p2)), (3, .int p3)]) (by decide) rfl (Nat.le_of_ble_eq_true rfl) rfl (fun p e s m below meth c ls args Q A H0 H locs C hK hA hQ hs hl => ?_)
  have hx := C.1
  have hb := C.2.1
  unfold fX1_kindsBy at hE
  refine lv_iconst (v := 0) hx hb dX1_kindsBy_0 (by decide) ?_
  refine lv_istore (lv' := [(4, .int 0), (0, .ref (g.2.1 25)), (1, .int p1), (2, .ref (g.2.1 p2)), (3, .int p3)]) hx hb dX1_kindsBy_1 hl (by decide) rfl (fun ls hl => ?_)
  refine lv_iconst (v := 0) hx hb dX1_kindsBy_3 (by decide) ?_
  refine lv_istore (lv' := [(5, .int 0), (4, .int 0), (0, .ref (g.2.1 25)), (1, .int p1), (2, .ref (g.2.1 p2)), (3, .int p3)]) hx hb dX1_kindsBy_4 hl (by decide) rfl (fun ls hl => ?_)
  have hL6 : ∀ (n : Nat) (σ1 : St) (v2 : Int32) (v3 : Int32) (k : St → Int32 → Int32 → Option (St × Int32)), fX1_kindsBy_L6 p1 p2 p3 n σ1 v2 v3 k = some (σ', r) → (∀ (σ1 : St) (v2 : Int32) (v3 : Int32) (H : Heap) (locs : List Loc) (ls : Array Slot), HW 52 entC g A H0 H locs σ1 → lv_has ls 6 [(0, .ref (g.2.1 25)), (1, .int p1), (2, .ref (g.2.1 p2)), (3, .int p3), (4, .int v2), (5, .int v3)] → k σ1 v2 v3 = some (σ', r) → W p l e (rmD 3) s m args below meth c H locs 0 0 Q (F0 m 53 ls [])) → ∀ (H : Heap) (locs : List Loc) (ls : Array Slot), HW 52 entC g A H0 H locs σ1 → lv_has ls 6 [(0, .ref (g.2.1 25)), (1, .int p1), (2, .ref (g.2.1 p2)), (3, .int p3), (4, .int v2), (5, .int v3)] → W p l e (rmD 3) s m args below meth c H locs 0 0 Q (F0 m 6 ls []) := by
    intro n
    induction n with
    | zero =>
      intro σ1 v2 v3 k hE
      rw [fX1_kindsBy_L6] at hE
      exact no_e hE
    | succ n ih =>
      intro σ1 v2 v3 k hE hk H locs ls hs hl
      rw [fX1_kindsBy_L6] at hE
      refine lv_iload hx hb dX1_kindsBy_6 (lv_at hl 5 rfl) ?_
      refine lv_bipush (v := 6) hx hb dX1_kindsBy_8 (by decide) ?_
      refine lv_icmp_ge (tgt := 53) hx hb dX1_kindsBy_10 (by decide) (fun hc => ?_) (fun hc => ?_)
      · have hE := if_t hc hE
        exact hk σ1 v2 v3 _ _ _ hs (lv_sub hl [0, 1, 2, 3, 4, 5] rfl) hE
      · have hE := if_f hc hE
        refine lv_iload hx hb dX1_kindsBy_13 (lv_at hl 5 rfl) ?_
        refine lv_aload_n hx hb dX1_kindsBy_15 rfl (lv_at hl 0 rfl) ?_
        refine gf_X1_15_25 C hK hs dX1_kindsBy_16 ?_
        refine gf_X1_21_26 C hK hs dX1_kindsBy_19 ?_
        refine lv_iload_n hx hb dX1_kindsBy_22 rfl (lv_at hl 1 rfl) ?_
        obtain ⟨hi, x4, ex4, hE⟩ := rd_w hE
        refine y_ald layC C hK hs hi ex4 dX1_kindsBy_23 ?_
        refine lv_aload_n hx hb dX1_kindsBy_24 rfl (lv_at hl 0 rfl) ?_
        refine gf_X1_26_25 C hK hs dX1_kindsBy_25 ?_
        refine lv_iload_n hx hb dX1_kindsBy_28 rfl (lv_at hl 1 rfl) ?_
        obtain ⟨hi, x5, ex5, hE⟩ := rd_w hE
        refine y_ald layC C hK hs hi ex5 dX1_kindsBy_29 ?_
        refine lv_aload_n hx hb dX1_kindsBy_30 rfl (lv_at hl 2 rfl) ?_
        refine lv_iload_n hx hb dX1_kindsBy_31 rfl (lv_at hl 3 rfl) ?_
        obtain ⟨σ6, r7, hE1, hE⟩ := cl_e hE
        refine x_cis (As := [.int v3, .int x4, .int x5, .ref (g.2.1 p2), .int p3]) (rest := []) C hl.1 hK hs hA ⟨Nat.le_refl 0, Nat.le_refl 0⟩ (ctX1_fits l g _ _ _ _ _ _ _ _ hE1) (cw_X1_27 C ⟨Nat.le_of_ble_eq_true rfl, Nat.le_of_ble_eq_true rfl⟩) rfl rfl (Nat.le_of_ble_eq_true rfl) dX1_kindsBy_32 (fun H locs hs => ?_)
        refine pvw hE (fun k8 hE hk8 => ?_)
        have hJk8 : ∀ (z9 : Int32) (H : Heap) (locs : List Loc) (ls : Array Slot), HW 52 entC g A H0 H locs σ6 → lv_has ls 6 [(0, .ref (g.2.1 25)), (1, .int p1), (2, .ref (g.2.1 p2)), (3, .int p3), (4, .int z9), (5, .int v3)] → k8 z9 = some (σ', r) → W p l e (rmD 3) s m args below meth c H locs 0 0 Q (F0 m 47 ls []) := by
          intro z9 H locs ls hs hl hE
          have hE := hk8 _ hE
          refine lv_iinc (v := v3 + 1) (lv' := [(5, .int (v3 + 1)), (0, .ref (g.2.1 25)), (1, .int p1), (2, .ref (g.2.1 p2)), (3, .int p3), (4, .int z9)]) hx hb dX1_kindsBy_47 hl (k := 5) rfl rfl (by decide) rfl (fun ls hl => ?_)
          refine lv_goto (tgt := 6) hx hb dX1_kindsBy_50 (by decide) ?_
          exact ih _ _ _ _ hE hk _ _ _ hs (lv_sub hl [1, 2, 3, 4, 5, 0] rfl)
        refine lv_if_eq (tgt := 47) hx hb dX1_kindsBy_35 (by decide) (fun hc => ?_) (fun hc => ?_)
        · have hE := pv_t hc hE
          exact hJk8 v2 _ _ _ hs (lv_sub hl [0, 1, 2, 3, 4, 5] rfl) hE
        · have hE := pv_f hc hE
          refine lv_iload hx hb dX1_kindsBy_38 (lv_at hl 4 rfl) ?_
          refine lv_iconst (v := 1) hx hb dX1_kindsBy_40 (by decide) ?_
          refine lv_iload hx hb dX1_kindsBy_41 (lv_at hl 5 rfl) ?_
          refine lv_ishl hx hb dX1_kindsBy_43 ?_
          refine lv_ior hx hb dX1_kindsBy_44 ?_
          refine lv_istore (lv' := [(4, .int (v2 ||| (1 <<< (v3 &&& 31)))), (0, .ref (g.2.1 25)), (1, .int p1), (2, .ref (g.2.1 p2)), (3, .int p3), (5, .int v3)]) hx hb dX1_kindsBy_45 hl (by decide) rfl (fun ls hl => ?_)
          exact hJk8 (v2 ||| (1 <<< (v3 &&& 31))) _ _ _ hs (lv_sub hl [1, 2, 3, 4, 0, 5] rfl) hE
  refine hL6 _ _ _ _ _ hE (fun σ10 v11 v12 H locs ls hs hl hE => ?_) H locs ls hs (lv_sub hl [2, 3, 4, 5, 1, 0] rfl)
  refine lv_iload hx hb dX1_kindsBy_53 (lv_at hl 4 rfl) ?_
  exact hQ hs hE dX1_kindsBy_55
theorem dX1_incomesBy_0 : decode cX1_incomesBy 0 = .ok (.iconst 0, 1) := by decide +kernel
theorem dX1_incomesBy_1 : decode cX1_incomesBy 1 = .ok (.istore 4, 2) := by decide +kernel
theorem dX1_incomesBy_3 : decode cX1_incomesBy 3 = .ok (.iconst 0, 1) := by decide +kernel
theorem dX1_incomesBy_4 : decode cX1_incomesBy 4 = .ok (.istore 5, 2) := by decide +kernel
theorem dX1_incomesBy_6 : decode cX1_incomesBy 6 = .ok (.iload 5, 2) := by decide +kernel
theorem dX1_incomesBy_8 : decode cX1_incomesBy 8 = .ok (.bipush 9, 2) := by decide +kernel
theorem dX1_incomesBy_10 : decode cX1_incomesBy 10 = .ok (.if_icmp .gt 43, 3) := by decide +kernel
theorem dX1_incomesBy_13 : decode cX1_incomesBy 13 = .ok (.aload_n 0, 1) := by decide +kernel
theorem dX1_incomesBy_14 : decode cX1_incomesBy 14 = .ok (.getfield 15, 3) := by decide +kernel
theorem dX1_incomesBy_17 : decode cX1_incomesBy 17 = .ok (.getfield 31, 3) := by decide +kernel
theorem dX1_incomesBy_20 : decode cX1_incomesBy 20 = .ok (.iload_n 1, 1) := by decide +kernel
theorem dX1_incomesBy_21 : decode cX1_incomesBy 21 = .ok (.iaload, 1) := by decide +kernel
theorem dX1_incomesBy_22 : decode cX1_incomesBy 22 = .ok (.iload 5, 2) := by decide +kernel
theorem dX1_incomesBy_24 : decode cX1_incomesBy 24 = .ok (.aload_n 0, 1) := by decide +kernel
theorem dX1_incomesBy_25 : decode cX1_incomesBy 25 = .ok (.getfield 26, 3) := by decide +kernel
theorem dX1_incomesBy_28 : decode cX1_incomesBy 28 = .ok (.iload_n 1, 1) := by decide +kernel
theorem dX1_incomesBy_29 : decode cX1_incomesBy 29 = .ok (.iaload, 1) := by decide +kernel
theorem dX1_incomesBy_30 : decode cX1_incomesBy 30 = .ok (.aload_n 2, 1) := by decide +kernel
theorem dX1_incomesBy_31 : decode cX1_incomesBy 31 = .ok (.iload_n 3, 1) := by decide +kernel
theorem dX1_incomesBy_32 : decode cX1_incomesBy 32 = .ok (.invokestatic 27, 3) := by decide +kernel
theorem dX1_incomesBy_35 : decode cX1_incomesBy 35 = .ok (.ifCond .eq 12, 3) := by decide +kernel
theorem dX1_incomesBy_38 : decode cX1_incomesBy 38 = .ok (.iload 4, 2) := by decide +kernel
theorem dX1_incomesBy_40 : decode cX1_incomesBy 40 = .ok (.iconst 1, 1) := by decide +kernel
theorem dX1_incomesBy_41 : decode cX1_incomesBy 41 = .ok (.iload 5, 2) := by decide +kernel
theorem dX1_incomesBy_43 : decode cX1_incomesBy 43 = .ok (.ishl, 1) := by decide +kernel
theorem dX1_incomesBy_44 : decode cX1_incomesBy 44 = .ok (.ior, 1) := by decide +kernel
theorem dX1_incomesBy_45 : decode cX1_incomesBy 45 = .ok (.istore 4, 2) := by decide +kernel
theorem dX1_incomesBy_47 : decode cX1_incomesBy 47 = .ok (.iinc 5 1, 3) := by decide +kernel
theorem dX1_incomesBy_50 : decode cX1_incomesBy 50 = .ok (.goto (-44), 3) := by decide +kernel
theorem dX1_incomesBy_53 : decode cX1_incomesBy 53 = .ok (.iload 4, 2) := by decide +kernel
theorem dX1_incomesBy_55 : decode cX1_incomesBy 55 = .ok (.ireturn, 1) := by decide +kernel
def fX1_incomesBy_L6 (p1 : Int32) (p2 : Nat) (p3 : Int32) : Nat → St → Int32 → Int32 → (St → Int32 → Int32 → Option (St × Int32)) → Option (St × Int32)
  | 0, _, _, _, _ => none
  | n + 1, σ1, v2, v3, k => (if 9 < v3 then k σ1 v2 v3 else rd LC σ1 31 p1 (fun x4 => rd LC σ1 33 p1 (fun x5 => cl (fX1_fits σ1 x4 v3 x5 p2 p3) (fun σ6 r7 => pv (if r7 = 0 then v2 else (v2 ||| (1 <<< (v3 &&& 31)))) (fun (z9 : Int32) => fX1_incomesBy_L6 p1 p2 p3 n σ6 z9 (v3 + 1) k)))))
def fX1_incomesBy (σ : St) (p1 : Int32) (p2 : Nat) (p3 : Int32) : Option (St × Int32) := fX1_incomesBy_L6 p1 p2 p3 10000 σ 0 0 (fun σ10 v11 v12 => some (σ10, v11))
set_option maxHeartbeats 4000000 in
set_option maxRecDepth 100000 in
theorem ctX1_incomesBy (l : Launch) (g : GG) (σ : St) (p1 : Int32) (p2 : Nat) (p3 : Int32) (σ' : St) (r : Int32) (hE : fX1_incomesBy σ p1 p2 p3 = some (σ', r)) : MI 52 entC l g yX1_incomesBy (Cond.code yX1_incomesBy cX1_incomesBy 6 (some .int) :: gtbl) (rmD 3) [.ref (g.2.1 25), .int p1, .ref (g.2.1 p2), .int p3] σ σ' r := by
  refine mi_i (own := RX1) (lv := [(0, .ref (g.2.1 25)), (1, .int p1), (2, .ref (g.2.1 p2)), (3, .int p3)]) (by decide) rfl (Nat.le_of_ble_eq_true rfl) rfl (fun p e s m below meth c ls args Q A H0 H locs C hK hA hQ hs hl => ?_)
  have hx := C.1
  have hb := C.2.1
  unfold fX1_incomesBy at hE
  refine lv_iconst (v := 0) hx hb dX1_incomesBy_0 (by decide) ?_
  refine lv_istore (lv' := [(4, .int 0), (0, .ref (g.2.1 25)), (1, .int p1), (2, .ref (g.2.1 p2)), (3, .int p3)]) hx hb dX1_incomesBy_1 hl (by decide) rfl (fun ls hl => ?_)
  refine lv_iconst (v := 0) hx hb dX1_incomesBy_3 (by decide) ?_
  refine lv_istore (lv' := [(5, .int 0), (4, .int 0), (0, .ref (g.2.1 25)), (1, .int p1), (2, .ref (g.2.1 p2)), (3, .int p3)]) hx hb dX1_incomesBy_4 hl (by decide) rfl (fun ls hl => ?_)
  have hL6 : ∀ (n : Nat) (σ1 : St) (v2 : Int32) (v3 : Int32) (k : St → Int32 → Int32 → Option (St × Int32)), fX1_incomesBy_L6 p1 p2 p3 n σ1 v2 v3 k = some (σ', r) → (∀ (σ1 : St) (v2 : Int32) (v3 : Int32) (H : Heap) (locs : List Loc) (ls : Array Slot), HW 52 entC g A H0 H locs σ1 → lv_has ls 6 [(0, .ref (g.2.1 25)), (1, .int p1), (2, .ref (g.2.1 p2)), (3, .int p3), (4, .int v2), (5, .int v3)] → k σ1 v2 v3 = some (σ', r) → W p l e (rmD 3) s m args below meth c H locs 0 0 Q (F0 m 53 ls [])) → ∀ (H : Heap) (locs : List Loc) (ls : Array Slot), HW 52 entC g A H0 H locs σ1 → lv_has ls 6 [(0, .ref (g.2.1 25)), (1, .int p1), (2, .ref (g.2.1 p2)), (3, .int p3), (4, .int v2), (5, .int v3)] → W p l e (rmD 3) s m args below meth c H locs 0 0 Q (F0 m 6 ls []) := by
    intro n
    induction n with
    | zero =>
      intro σ1 v2 v3 k hE
      rw [fX1_incomesBy_L6] at hE
      exact no_e hE
    | succ n ih =>
      intro σ1 v2 v3 k hE hk H locs ls hs hl
      rw [fX1_incomesBy_L6] at hE
      refine lv_iload hx hb dX1_incomesBy_6 (lv_at hl 5 rfl) ?_
      refine lv_bipush (v := 9) hx hb dX1_incomesBy_8 (by decide) ?_
      refine lv_icmp_gt (tgt := 53) hx hb dX1_incomesBy_10 (by decide) (fun hc => ?_) (fun hc => ?_)
      · have hE := if_t hc hE
        exact hk σ1 v2 v3 _ _ _ hs (lv_sub hl [0, 1, 2, 3, 4, 5] rfl) hE
      · have hE := if_f hc hE
        refine lv_aload_n hx hb dX1_incomesBy_13 rfl (lv_at hl 0 rfl) ?_
        refine gf_X1_15_25 C hK hs dX1_incomesBy_14 ?_
        refine gf_X1_31_26 C hK hs dX1_incomesBy_17 ?_
        refine lv_iload_n hx hb dX1_incomesBy_20 rfl (lv_at hl 1 rfl) ?_
        obtain ⟨hi, x4, ex4, hE⟩ := rd_w hE
        refine y_ald layC C hK hs hi ex4 dX1_incomesBy_21 ?_
        refine lv_iload hx hb dX1_incomesBy_22 (lv_at hl 5 rfl) ?_
        refine lv_aload_n hx hb dX1_incomesBy_24 rfl (lv_at hl 0 rfl) ?_
        refine gf_X1_26_25 C hK hs dX1_incomesBy_25 ?_
        refine lv_iload_n hx hb dX1_incomesBy_28 rfl (lv_at hl 1 rfl) ?_
        obtain ⟨hi, x5, ex5, hE⟩ := rd_w hE
        refine y_ald layC C hK hs hi ex5 dX1_incomesBy_29 ?_
        refine lv_aload_n hx hb dX1_incomesBy_30 rfl (lv_at hl 2 rfl) ?_
        refine lv_iload_n hx hb dX1_incomesBy_31 rfl (lv_at hl 3 rfl) ?_
        obtain ⟨σ6, r7, hE1, hE⟩ := cl_e hE
        refine x_cis (As := [.int x4, .int v3, .int x5, .ref (g.2.1 p2), .int p3]) (rest := []) C hl.1 hK hs hA ⟨Nat.le_refl 0, Nat.le_refl 0⟩ (ctX1_fits l g _ _ _ _ _ _ _ _ hE1) (cw_X1_27 C ⟨Nat.le_of_ble_eq_true rfl, Nat.le_of_ble_eq_true rfl⟩) rfl rfl (Nat.le_of_ble_eq_true rfl) dX1_incomesBy_32 (fun H locs hs => ?_)
        refine pvw hE (fun k8 hE hk8 => ?_)
        have hJk8 : ∀ (z9 : Int32) (H : Heap) (locs : List Loc) (ls : Array Slot), HW 52 entC g A H0 H locs σ6 → lv_has ls 6 [(0, .ref (g.2.1 25)), (1, .int p1), (2, .ref (g.2.1 p2)), (3, .int p3), (4, .int z9), (5, .int v3)] → k8 z9 = some (σ', r) → W p l e (rmD 3) s m args below meth c H locs 0 0 Q (F0 m 47 ls []) := by
          intro z9 H locs ls hs hl hE
          have hE := hk8 _ hE
          refine lv_iinc (v := v3 + 1) (lv' := [(5, .int (v3 + 1)), (0, .ref (g.2.1 25)), (1, .int p1), (2, .ref (g.2.1 p2)), (3, .int p3), (4, .int z9)]) hx hb dX1_incomesBy_47 hl (k := 5) rfl rfl (by decide) rfl (fun ls hl => ?_)
          refine lv_goto (tgt := 6) hx hb dX1_incomesBy_50 (by decide) ?_
          exact ih _ _ _ _ hE hk _ _ _ hs (lv_sub hl [1, 2, 3, 4, 5, 0] rfl)
        refine lv_if_eq (tgt := 47) hx hb dX1_incomesBy_35 (by decide) (fun hc => ?_) (fun hc => ?_)
        · have hE := pv_t hc hE
          exact hJk8 v2 _ _ _ hs (lv_sub hl [0, 1, 2, 3, 4, 5] rfl) hE
        · have hE := pv_f hc hE
          refine lv_iload hx hb dX1_incomesBy_38 (lv_at hl 4 rfl) ?_
          refine lv_iconst (v := 1) hx hb dX1_incomesBy_40 (by decide) ?_
          refine lv_iload hx hb dX1_incomesBy_41 (lv_at hl 5 rfl) ?_
          refine lv_ishl hx hb dX1_incomesBy_43 ?_
          refine lv_ior hx hb dX1_incomesBy_44 ?_
          refine lv_istore (lv' := [(4, .int (v2 ||| (1 <<< (v3 &&& 31)))), (0, .ref (g.2.1 25)), (1, .int p1), (2, .ref (g.2.1 p2)), (3, .int p3), (5, .int v3)]) hx hb dX1_incomesBy_45 hl (by decide) rfl (fun ls hl => ?_)
          exact hJk8 (v2 ||| (1 <<< (v3 &&& 31))) _ _ _ hs (lv_sub hl [1, 2, 3, 4, 0, 5] rfl) hE
  refine hL6 _ _ _ _ _ hE (fun σ10 v11 v12 H locs ls hs hl hE => ?_) H locs ls hs (lv_sub hl [2, 3, 4, 5, 1, 0] rfl)
  refine lv_iload hx hb dX1_incomesBy_53 (lv_at hl 4 rfl) ?_
  exact hQ hs hE dX1_incomesBy_55
theorem dJ7_fill_53178_0 : decode cJ7_fill_53178 0 = .ok (.iconst 0, 1) := by decide +kernel
theorem dJ7_fill_53178_1 : decode cJ7_fill_53178 1 = .ok (.istore_n 2, 1) := by decide +kernel
theorem dJ7_fill_53178_2 : decode cJ7_fill_53178 2 = .ok (.aload_n 0, 1) := by decide +kernel
theorem dJ7_fill_53178_3 : decode cJ7_fill_53178 3 = .ok (.arraylength, 1) := by decide +kernel
theorem dJ7_fill_53178_4 : decode cJ7_fill_53178 4 = .ok (.istore_n 3, 1) := by decide +kernel
theorem dJ7_fill_53178_5 : decode cJ7_fill_53178 5 = .ok (.iload_n 2, 1) := by decide +kernel
theorem dJ7_fill_53178_6 : decode cJ7_fill_53178 6 = .ok (.iload_n 3, 1) := by decide +kernel
theorem dJ7_fill_53178_7 : decode cJ7_fill_53178 7 = .ok (.if_icmp .ge 13, 3) := by decide +kernel
theorem dJ7_fill_53178_10 : decode cJ7_fill_53178 10 = .ok (.aload_n 0, 1) := by decide +kernel
theorem dJ7_fill_53178_11 : decode cJ7_fill_53178 11 = .ok (.iload_n 2, 1) := by decide +kernel
theorem dJ7_fill_53178_12 : decode cJ7_fill_53178 12 = .ok (.iload_n 1, 1) := by decide +kernel
theorem dJ7_fill_53178_13 : decode cJ7_fill_53178 13 = .ok (.iastore, 1) := by decide +kernel
theorem dJ7_fill_53178_14 : decode cJ7_fill_53178 14 = .ok (.iinc 2 1, 3) := by decide +kernel
theorem dJ7_fill_53178_17 : decode cJ7_fill_53178 17 = .ok (.goto (-12), 3) := by decide +kernel
theorem dJ7_fill_53178_20 : decode cJ7_fill_53178 20 = .ok (.return_, 1) := by decide +kernel
def fJ7_fill_53178_L5 (p0 : Nat) (p1 : Int32) (w1 : Int32) : Nat → St → Int32 → (St → Int32 → Option (St × Unit)) → Option (St × Unit)
  | 0, _, _, _ => none
  | n + 1, σ2, v3, k => (if w1 ≤ v3 then k σ2 v3 else wr LC σ2 p0 v3 p1 (fun σ4 => fJ7_fill_53178_L5 p0 p1 w1 n σ4 (v3 + 1) k))
def fJ7_fill_53178 (σ : St) (p0 : Nat) (p1 : Int32) : Option (St × Unit) := gd (decide (LC p0 ≠ 0)) (pv (nI (LC p0)) (fun (w1 : Int32) => fJ7_fill_53178_L5 p0 p1 w1 10000 σ 0 (fun σ5 v6 => some (σ5, ()))))
set_option maxHeartbeats 4000000 in
set_option maxRecDepth 100000 in
theorem ctJ7_fill_53178 (l : Launch) (g : GG) (σ : St) (p0 : Nat) (p1 : Int32) (σ' : St) (r : Unit) (hE : fJ7_fill_53178 σ p0 p1 = some (σ', r)) : MV 52 entC l g yJ7_fill_53178 (Cond.code yJ7_fill_53178 cJ7_fill_53178 4 none :: gtbl) (rmD 1) [.ref (g.2.1 p0), .int p1] σ σ' := by
  refine mi_v (own := RJ7) (lv := [(0, .ref (g.2.1 p0)), (1, .int p1)]) (by decide) rfl (Nat.le_of_ble_eq_true rfl) rfl (fun p e s m below meth c ls args Q A H0 H locs C hK hA hQ hs hl => ?_)
  have hx := C.1
  have hb := C.2.1
  unfold fJ7_fill_53178 at hE
  refine lv_iconst (v := 0) hx hb dJ7_fill_53178_0 (by decide) ?_
  refine lv_istore_n (lv' := [(2, .int 0), (0, .ref (g.2.1 p0)), (1, .int p1)]) hx hb dJ7_fill_53178_1 rfl hl (by decide) rfl (fun ls hl => ?_)
  refine lv_aload_n hx hb dJ7_fill_53178_2 rfl (lv_at hl 1 rfl) ?_
  obtain ⟨hc, hE⟩ := gd_e hE
  refine x_len layC C hK hs (of_decide_eq_true hc) dJ7_fill_53178_3 ?_
  refine lv_istore_n (lv' := [(3, .int (nI (LC p0))), (2, .int 0), (0, .ref (g.2.1 p0)), (1, .int p1)]) hx hb dJ7_fill_53178_4 rfl hl (by decide) rfl (fun ls hl => ?_)
  obtain ⟨w1, ew1, hE⟩ := pv_w hE
  have hl : lv_has ls 4 [(3, .int w1), (2, .int 0), (0, .ref (g.2.1 p0)), (1, .int p1)] := by rw [ew1]; exact hl
  have hL5 : ∀ (n : Nat) (σ2 : St) (v3 : Int32) (k : St → Int32 → Option (St × Unit)), fJ7_fill_53178_L5 p0 p1 w1 n σ2 v3 k = some (σ', r) → (∀ (σ2 : St) (v3 : Int32) (H : Heap) (locs : List Loc) (ls : Array Slot), HW 52 entC g A H0 H locs σ2 → lv_has ls 4 [(0, .ref (g.2.1 p0)), (1, .int p1), (2, .int v3), (3, .int w1)] → k σ2 v3 = some (σ', r) → W p l e (rmD 1) s m args below meth c H locs 0 0 Q (F0 m 20 ls [])) → ∀ (H : Heap) (locs : List Loc) (ls : Array Slot), HW 52 entC g A H0 H locs σ2 → lv_has ls 4 [(0, .ref (g.2.1 p0)), (1, .int p1), (2, .int v3), (3, .int w1)] → W p l e (rmD 1) s m args below meth c H locs 0 0 Q (F0 m 5 ls []) := by
    intro n
    induction n with
    | zero =>
      intro σ2 v3 k hE
      rw [fJ7_fill_53178_L5] at hE
      exact no_e hE
    | succ n ih =>
      intro σ2 v3 k hE hk H locs ls hs hl
      rw [fJ7_fill_53178_L5] at hE
      refine lv_iload_n hx hb dJ7_fill_53178_5 rfl (lv_at hl 2 rfl) ?_
      refine lv_iload_n hx hb dJ7_fill_53178_6 rfl (lv_at hl 3 rfl) ?_
      refine lv_icmp_ge (tgt := 20) hx hb dJ7_fill_53178_7 (by decide) (fun hc => ?_) (fun hc => ?_)
      · have hE := if_t hc hE
        exact hk σ2 v3 _ _ _ hs (lv_sub hl [0, 1, 2, 3] rfl) hE
      · have hE := if_f hc hE
        refine lv_aload_n hx hb dJ7_fill_53178_10 rfl (lv_at hl 0 rfl) ?_
        refine lv_iload_n hx hb dJ7_fill_53178_11 rfl (lv_at hl 2 rfl) ?_
        refine lv_iload_n hx hb dJ7_fill_53178_12 rfl (lv_at hl 1 rfl) ?_
        obtain ⟨hi, σ4, eσ4, hE⟩ := wr_w hE
        refine y_ast layC C hK hs hi eσ4 dJ7_fill_53178_13 (fun H locs hs => ?_)
        refine lv_iinc (v := v3 + 1) (lv' := [(2, .int (v3 + 1)), (0, .ref (g.2.1 p0)), (1, .int p1), (3, .int w1)]) hx hb dJ7_fill_53178_14 hl (k := 2) rfl rfl (by decide) rfl (fun ls hl => ?_)
        refine lv_goto (tgt := 5) hx hb dJ7_fill_53178_17 (by decide) ?_
        exact ih _ _ _ hE hk _ _ _ hs (lv_sub hl [1, 2, 0, 3] rfl)
  refine hL5 _ _ _ _ hE (fun σ5 v6 H locs ls hs hl hE => ?_) H locs ls hs (lv_sub hl [2, 3, 1, 0] rfl)
  exact hQ hs hE dJ7_fill_53178_20
theorem dX1_start_0 : decode cX1_start 0 = .ok (.aload_n 0, 1) := by decide +kernel
theorem dX1_start_1 : decode cX1_start 1 = .ok (.getfield 9, 3) := by decide +kernel
theorem dX1_start_4 : decode cX1_start 4 = .ok (.aload_n 1, 1) := by decide +kernel
theorem dX1_start_5 : decode cX1_start 5 = .ok (.getfield 26, 3) := by decide +kernel
theorem dX1_start_8 : decode cX1_start 8 = .ok (.iload_n 2, 1) := by decide +kernel
theorem dX1_start_9 : decode cX1_start 9 = .ok (.iaload, 1) := by decide +kernel
theorem dX1_start_10 : decode cX1_start 10 = .ok (.invokestatic 38, 3) := by decide +kernel
theorem dX1_start_13 : decode cX1_start 13 = .ok (.return_, 1) := by decide +kernel
def fX1_start (σ : St) (p2 : Int32) : Option (St × Unit) := rd LC σ 33 p2 (fun x1 => cl (fJ7_fill_53178 σ 47 x1) (fun σ2 r3 => some (σ2, ())))
set_option maxHeartbeats 4000000 in
set_option maxRecDepth 100000 in
theorem ctX1_start (l : Launch) (g : GG) (σ : St) (p2 : Int32) (σ' : St) (r : Unit) (hE : fX1_start σ p2 = some (σ', r)) : MV 52 entC l g yX1_start (Cond.code yX1_start cX1_start 3 none :: gtbl) (rmD 2) [.ref (g.2.1 46), .ref (g.2.1 25), .int p2] σ σ' := by
  refine mi_v (own := RX1) (lv := [(0, .ref (g.2.1 46)), (1, .ref (g.2.1 25)), (2, .int p2)]) (by decide) rfl (Nat.le_of_ble_eq_true rfl) rfl (fun p e s m below meth c ls args Q A H0 H locs C hK hA hQ hs hl => ?_)
  have hx := C.1
  have hb := C.2.1
  unfold fX1_start at hE
  refine lv_aload_n hx hb dX1_start_0 rfl (lv_at hl 0 rfl) ?_
  refine gf_X1_9_46 C hK hs dX1_start_1 ?_
  refine lv_aload_n hx hb dX1_start_4 rfl (lv_at hl 1 rfl) ?_
  refine gf_X1_26_25 C hK hs dX1_start_5 ?_
  refine lv_iload_n hx hb dX1_start_8 rfl (lv_at hl 2 rfl) ?_
  obtain ⟨hi, x1, ex1, hE⟩ := rd_w hE
  refine y_ald layC C hK hs hi ex1 dX1_start_9 ?_
  obtain ⟨σ2, r3, hE1, hE⟩ := cl_e hE
  refine x_cvs (As := [.ref (g.2.1 47), .int x1]) (rest := []) C hl.1 hK hs hA ⟨Nat.le_refl 0, Nat.le_refl 0⟩ (ctJ7_fill_53178 l g _ _ _ _ _ hE1) (cw_X1_38 C ⟨Nat.le_of_ble_eq_true rfl, Nat.le_of_ble_eq_true rfl⟩) rfl rfl (Nat.le_of_ble_eq_true rfl) dX1_start_10 (fun H locs hs => ?_)
  exact hQ hs hE dX1_start_13
theorem dX1_passMonth_0 : decode cX1_passMonth 0 = .ok (.iconst 0, 1) := by decide +kernel
theorem dX1_passMonth_1 : decode cX1_passMonth 1 = .ok (.istore_n 3, 1) := by decide +kernel
theorem dX1_passMonth_2 : decode cX1_passMonth 2 = .ok (.iload_n 3, 1) := by decide +kernel
theorem dX1_passMonth_3 : decode cX1_passMonth 3 = .ok (.bipush 6, 2) := by decide +kernel
theorem dX1_passMonth_5 : decode cX1_passMonth 5 = .ok (.if_icmp .ge 34, 3) := by decide +kernel
theorem dX1_passMonth_8 : decode cX1_passMonth 8 = .ok (.aload_n 0, 1) := by decide +kernel
theorem dX1_passMonth_9 : decode cX1_passMonth 9 = .ok (.getfield 9, 3) := by decide +kernel
theorem dX1_passMonth_12 : decode cX1_passMonth 12 = .ok (.iload_n 3, 1) := by decide +kernel
theorem dX1_passMonth_13 : decode cX1_passMonth 13 = .ok (.iload_n 3, 1) := by decide +kernel
theorem dX1_passMonth_14 : decode cX1_passMonth 14 = .ok (.aload_n 1, 1) := by decide +kernel
theorem dX1_passMonth_15 : decode cX1_passMonth 15 = .ok (.getfield 15, 3) := by decide +kernel
theorem dX1_passMonth_18 : decode cX1_passMonth 18 = .ok (.getfield 21, 3) := by decide +kernel
theorem dX1_passMonth_21 : decode cX1_passMonth 21 = .ok (.iload_n 2, 1) := by decide +kernel
theorem dX1_passMonth_22 : decode cX1_passMonth 22 = .ok (.iaload, 1) := by decide +kernel
theorem dX1_passMonth_23 : decode cX1_passMonth 23 = .ok (.aload_n 0, 1) := by decide +kernel
theorem dX1_passMonth_24 : decode cX1_passMonth 24 = .ok (.getfield 9, 3) := by decide +kernel
theorem dX1_passMonth_27 : decode cX1_passMonth 27 = .ok (.iload_n 3, 1) := by decide +kernel
theorem dX1_passMonth_28 : decode cX1_passMonth 28 = .ok (.iaload, 1) := by decide +kernel
theorem dX1_passMonth_29 : decode cX1_passMonth 29 = .ok (.invokestatic 34, 3) := by decide +kernel
theorem dX1_passMonth_32 : decode cX1_passMonth 32 = .ok (.iastore, 1) := by decide +kernel
theorem dX1_passMonth_33 : decode cX1_passMonth 33 = .ok (.iinc 3 1, 3) := by decide +kernel
theorem dX1_passMonth_36 : decode cX1_passMonth 36 = .ok (.goto (-34), 3) := by decide +kernel
theorem dX1_passMonth_39 : decode cX1_passMonth 39 = .ok (.return_, 1) := by decide +kernel
def fX1_passMonth_L2 (p2 : Int32) : Nat → St → Int32 → (St → Int32 → Option (St × Unit)) → Option (St × Unit)
  | 0, _, _, _ => none
  | n + 1, σ1, v2, k => (if 6 ≤ v2 then k σ1 v2 else rd LC σ1 32 p2 (fun x3 => rd LC σ1 47 v2 (fun x4 => cl (fX2_purseBehind σ1 v2 x3 x4) (fun σ5 r6 => wr LC σ5 47 v2 r6 (fun σ7 => fX1_passMonth_L2 p2 n σ7 (v2 + 1) k)))))
def fX1_passMonth (σ : St) (p2 : Int32) : Option (St × Unit) := fX1_passMonth_L2 p2 10000 σ 0 (fun σ8 v9 => some (σ8, ()))
set_option maxHeartbeats 4000000 in
set_option maxRecDepth 100000 in
theorem ctX1_passMonth (l : Launch) (g : GG) (σ : St) (p2 : Int32) (σ' : St) (r : Unit) (hE : fX1_passMonth σ p2 = some (σ', r)) : MV 52 entC l g yX1_passMonth (Cond.code yX1_passMonth cX1_passMonth 4 none :: gtbl) (rmD 2) [.ref (g.2.1 46), .ref (g.2.1 25), .int p2] σ σ' := by
  refine mi_v (own := RX1) (lv := [(0, .ref (g.2.1 46)), (1, .ref (g.2.1 25)), (2, .int p2)]) (by decide) rfl (Nat.le_of_ble_eq_true rfl) rfl (fun p e s m below meth c ls args Q A H0 H locs C hK hA hQ hs hl => ?_)
  have hx := C.1
  have hb := C.2.1
  unfold fX1_passMonth at hE
  refine lv_iconst (v := 0) hx hb dX1_passMonth_0 (by decide) ?_
  refine lv_istore_n (lv' := [(3, .int 0), (0, .ref (g.2.1 46)), (1, .ref (g.2.1 25)), (2, .int p2)]) hx hb dX1_passMonth_1 rfl hl (by decide) rfl (fun ls hl => ?_)
  have hL2 : ∀ (n : Nat) (σ1 : St) (v2 : Int32) (k : St → Int32 → Option (St × Unit)), fX1_passMonth_L2 p2 n σ1 v2 k = some (σ', r) → (∀ (σ1 : St) (v2 : Int32) (H : Heap) (locs : List Loc) (ls : Array Slot), HW 52 entC g A H0 H locs σ1 → lv_has ls 4 [(0, .ref (g.2.1 46)), (1, .ref (g.2.1 25)), (2, .int p2), (3, .int v2)] → k σ1 v2 = some (σ', r) → W p l e (rmD 2) s m args below meth c H locs 0 0 Q (F0 m 39 ls [])) → ∀ (H : Heap) (locs : List Loc) (ls : Array Slot), HW 52 entC g A H0 H locs σ1 → lv_has ls 4 [(0, .ref (g.2.1 46)), (1, .ref (g.2.1 25)), (2, .int p2), (3, .int v2)] → W p l e (rmD 2) s m args below meth c H locs 0 0 Q (F0 m 2 ls []) := by
    intro n
    induction n with
    | zero =>
      intro σ1 v2 k hE
      rw [fX1_passMonth_L2] at hE
      exact no_e hE
    | succ n ih =>
      intro σ1 v2 k hE hk H locs ls hs hl
      rw [fX1_passMonth_L2] at hE
      refine lv_iload_n hx hb dX1_passMonth_2 rfl (lv_at hl 3 rfl) ?_
      refine lv_bipush (v := 6) hx hb dX1_passMonth_3 (by decide) ?_
      refine lv_icmp_ge (tgt := 39) hx hb dX1_passMonth_5 (by decide) (fun hc => ?_) (fun hc => ?_)
      · have hE := if_t hc hE
        exact hk σ1 v2 _ _ _ hs (lv_sub hl [0, 1, 2, 3] rfl) hE
      · have hE := if_f hc hE
        refine lv_aload_n hx hb dX1_passMonth_8 rfl (lv_at hl 0 rfl) ?_
        refine gf_X1_9_46 C hK hs dX1_passMonth_9 ?_
        refine lv_iload_n hx hb dX1_passMonth_12 rfl (lv_at hl 3 rfl) ?_
        refine lv_iload_n hx hb dX1_passMonth_13 rfl (lv_at hl 3 rfl) ?_
        refine lv_aload_n hx hb dX1_passMonth_14 rfl (lv_at hl 1 rfl) ?_
        refine gf_X1_15_25 C hK hs dX1_passMonth_15 ?_
        refine gf_X1_21_26 C hK hs dX1_passMonth_18 ?_
        refine lv_iload_n hx hb dX1_passMonth_21 rfl (lv_at hl 2 rfl) ?_
        obtain ⟨hi, x3, ex3, hE⟩ := rd_w hE
        refine y_ald layC C hK hs hi ex3 dX1_passMonth_22 ?_
        refine lv_aload_n hx hb dX1_passMonth_23 rfl (lv_at hl 0 rfl) ?_
        refine gf_X1_9_46 C hK hs dX1_passMonth_24 ?_
        refine lv_iload_n hx hb dX1_passMonth_27 rfl (lv_at hl 3 rfl) ?_
        obtain ⟨hi, x4, ex4, hE⟩ := rd_w hE
        refine y_ald layC C hK hs hi ex4 dX1_passMonth_28 ?_
        obtain ⟨σ5, r6, hE1, hE⟩ := cl_e hE
        refine x_cis (As := [.int v2, .int x3, .int x4]) (rest := [.int v2, .ref (g.2.1 47)]) C hl.1 hK hs hA ⟨Nat.le_refl 0, Nat.le_refl 0⟩ (ctX2_purseBehind l g _ _ _ _ _ _ hE1) (cw_X1_34 C ⟨Nat.le_of_ble_eq_true rfl, Nat.le_of_ble_eq_true rfl⟩) rfl rfl (Nat.le_of_ble_eq_true rfl) dX1_passMonth_29 (fun H locs hs => ?_)
        obtain ⟨hi, σ7, eσ7, hE⟩ := wr_w hE
        refine y_ast layC C hK hs hi eσ7 dX1_passMonth_32 (fun H locs hs => ?_)
        refine lv_iinc (v := v2 + 1) (lv' := [(3, .int (v2 + 1)), (0, .ref (g.2.1 46)), (1, .ref (g.2.1 25)), (2, .int p2)]) hx hb dX1_passMonth_33 hl (k := 3) rfl rfl (by decide) rfl (fun ls hl => ?_)
        refine lv_goto (tgt := 2) hx hb dX1_passMonth_36 (by decide) ?_
        exact ih _ _ _ hE hk _ _ _ hs (lv_sub hl [1, 2, 3, 0] rfl)
  refine hL2 _ _ _ _ hE (fun σ8 v9 H locs ls hs hl hE => ?_) H locs ls hs (lv_sub hl [1, 2, 3, 0] rfl)
  exact hQ hs hE dX1_passMonth_39
