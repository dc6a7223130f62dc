theorem dX1_alike_0 : decode cX1_alike 0 = .ok (.iconst 0, 1) := by decide +kernel
theorem dX1_alike_1 : decode cX1_alike 1 = .ok (.istore_n 3, 1) := by decide +kernel
theorem dX1_alike_2 : decode cX1_alike 2 = .ok (.iconst 0, 1) := by decide +kernel
theorem dX1_alike_3 : decode cX1_alike 3 = .ok (.istore 4, 2) := by decide +kernel
theorem dX1_alike_5 : decode cX1_alike 5 = .ok (.iload 4, 2) := by decide +kernel
theorem dX1_alike_7 : decode cX1_alike 7 = .ok (.bipush 6, 2) := by decide +kernel
theorem dX1_alike_9 : decode cX1_alike 9 = .ok (.if_icmp .ge 37, 3) := by decide +kernel
theorem dX1_alike_12 : decode cX1_alike 12 = .ok (.iload_n 2, 1) := by decide +kernel
theorem dX1_alike_13 : decode cX1_alike 13 = .ok (.iload 4, 2) := by decide +kernel
theorem dX1_alike_15 : decode cX1_alike 15 = .ok (.ishr, 1) := by decide +kernel
theorem dX1_alike_16 : decode cX1_alike 16 = .ok (.iconst 1, 1) := by decide +kernel
theorem dX1_alike_17 : decode cX1_alike 17 = .ok (.iand, 1) := by decide +kernel
theorem dX1_alike_18 : decode cX1_alike 18 = .ok (.ifCond .eq 22, 3) := by decide +kernel
theorem dX1_alike_21 : decode cX1_alike 21 = .ok (.aload_n 0, 1) := by decide +kernel
theorem dX1_alike_22 : decode cX1_alike 22 = .ok (.getfield 9, 3) := by decide +kernel
theorem dX1_alike_25 : decode cX1_alike 25 = .ok (.iload 4, 2) := by decide +kernel
theorem dX1_alike_27 : decode cX1_alike 27 = .ok (.iaload, 1) := by decide +kernel
theorem dX1_alike_28 : decode cX1_alike 28 = .ok (.aload_n 0, 1) := by decide +kernel
theorem dX1_alike_29 : decode cX1_alike 29 = .ok (.getfield 9, 3) := by decide +kernel
theorem dX1_alike_32 : decode cX1_alike 32 = .ok (.iload_n 1, 1) := by decide +kernel
theorem dX1_alike_33 : decode cX1_alike 33 = .ok (.iaload, 1) := by decide +kernel
theorem dX1_alike_34 : decode cX1_alike 34 = .ok (.if_icmp .ne 6, 3) := by decide +kernel
theorem dX1_alike_37 : decode cX1_alike 37 = .ok (.iinc 3 1, 3) := by decide +kernel
theorem dX1_alike_40 : decode cX1_alike 40 = .ok (.iinc 4 1, 3) := by decide +kernel
theorem dX1_alike_43 : decode cX1_alike 43 = .ok (.goto (-38), 3) := by decide +kernel
theorem dX1_alike_46 : decode cX1_alike 46 = .ok (.iload_n 3, 1) := by decide +kernel
theorem dX1_alike_47 : decode cX1_alike 47 = .ok (.ireturn, 1) := by decide +kernel
def fX1_alike_L5 (p1 : Int32) (p2 : Int32) : Nat → St → Int32 → Int32 → (St → Int32 → Int32 → Option (St × Int32)) → Option (St × Int32)
  | 0, _, _, _, _ => none
  | n + 1, σ1, v2, v3, k => (if 6 ≤ v3 then k σ1 v2 v3 else jn (fun (z5 : Int32) => fX1_alike_L5 p1 p2 n σ1 z5 (v3 + 1) k) (fun k4 => (if ((p2 >>> (v3 &&& 31)) &&& 1) = 0 then k4 v2 else rd LC σ1 47 v3 (fun x6 => rd LC σ1 47 p1 (fun x7 => (if x6 = x7 then k4 (v2 + 1) else k4 v2))))))
def fX1_alike (σ : St) (p1 : Int32) (p2 : Int32) : Option (St × Int32) := fX1_alike_L5 p1 p2 10000 σ 0 0 (fun σ8 v9 v10 => some (σ8, v9))
set_option maxHeartbeats 4000000 in
set_option maxRecDepth 100000 in
theorem ctX1_alike (l : Launch) (g : GG) (σ : St) (p1 : Int32) (p2 : Int32) (σ' : St) (r : Int32) (hE : fX1_alike σ p1 p2 = some (σ', r)) : MI 52 entC l g yX1_alike (Cond.code yX1_alike cX1_alike 5 (some .int) :: gtbl) (rmD 1) [.ref (g.2.1 46), .int p1, .int p2] σ σ' r := by
  refine mi_i (own := RX1) (lv := [(0, .ref (g.2.1 46)), (1, .int p1), (2, .int p2)]) (by decide) rfl (Nat.le_of_ble_eq_true rfl) rfl (fun p e s m below meth c ls args Q A H0 H locs C hK hA hQ hs hl => ?_)
  have hx := C.1
  have hb := C.2.1
  unfold fX1_alike at hE
  refine lv_iconst (v := 0) hx hb dX1_alike_0 (by decide) ?_
  refine lv_istore_n (lv' := [(3, .int 0), (0, .ref (g.2.1 46)), (1, .int p1), (2, .int p2)]) hx hb dX1_alike_1 rfl hl (by decide) rfl (fun ls hl => ?_)
  refine lv_iconst (v := 0) hx hb dX1_alike_2 (by decide) ?_
  refine lv_istore (lv' := [(4, .int 0), (3, .int 0), (0, .ref (g.2.1 46)), (1, .int p1), (2, .int p2)]) hx hb dX1_alike_3 hl (by decide) rfl (fun ls hl => ?_)
  have hL5 : ∀ (n : Nat) (σ1 : St) (v2 : Int32) (v3 : Int32) (k : St → Int32 → Int32 → Option (St × Int32)), fX1_alike_L5 p1 p2 n σ1 v2 v3 k = some (σ', r) → (∀ (σ1 : St) (v2 : Int32) (v3 : Int32) (H : Heap) (locs : List Loc) (ls : Array Slot), HW 52 entC g A H0 H locs σ1 → lv_has ls 5 [(0, .ref (g.2.1 46)), (1, .int p1), (2, .int p2), (3, .int v2), (4, .int v3)] → k σ1 v2 v3 = some (σ', r) → W p l e (rmD 1) s m args below meth c H locs 0 0 Q (F0 m 46 ls [])) → ∀ (H : Heap) (locs : List Loc) (ls : Array Slot), HW 52 entC g A H0 H locs σ1 → lv_has ls 5 [(0, .ref (g.2.1 46)), (1, .int p1), (2, .int p2), (3, .int v2), (4, .int v3)] → W p l e (rmD 1) s m args below meth c H locs 0 0 Q (F0 m 5 ls []) := by
    intro n
    induction n with
    | zero =>
      intro σ1 v2 v3 k hE
      rw [fX1_alike_L5] at hE
      exact no_e hE
    | succ n ih =>
      intro σ1 v2 v3 k hE hk H locs ls hs hl
      rw [fX1_alike_L5] at hE
      refine lv_iload hx hb dX1_alike_5 (lv_at hl 4 rfl) ?_
      refine lv_bipush (v := 6) hx hb dX1_alike_7 (by decide) ?_
      refine lv_icmp_ge (tgt := 46) hx hb dX1_alike_9 (by decide) (fun hc => ?_) (fun hc => ?_)
      · have hE := if_t hc hE
        exact hk σ1 v2 v3 _ _ _ hs (lv_sub hl [0, 1, 2, 3, 4] rfl) hE
      · have hE := if_f hc hE
        refine lv_iload_n hx hb dX1_alike_12 rfl (lv_at hl 2 rfl) ?_
        refine lv_iload hx hb dX1_alike_13 (lv_at hl 4 rfl) ?_
        refine lv_ishr hx hb dX1_alike_15 ?_
        refine lv_iconst (v := 1) hx hb dX1_alike_16 (by decide) ?_
        refine lv_iand hx hb dX1_alike_17 ?_
        refine jn1 hE (fun k4 hE hk4 => ?_)
        have hJk4 : ∀ (z5 : Int32) (H : Heap) (locs : List Loc) (ls : Array Slot), HW 52 entC g A H0 H locs σ1 → lv_has ls 5 [(0, .ref (g.2.1 46)), (1, .int p1), (2, .int p2), (3, .int z5), (4, .int v3)] → k4 z5 = some (σ', r) → W p l e (rmD 1) s m args below meth c H locs 0 0 Q (F0 m 40 ls []) := by
          intro z5 H locs ls hs hl hE
          have hE := hk4 _ hE
          refine lv_iinc (v := v3 + 1) (lv' := [(4, .int (v3 + 1)), (0, .ref (g.2.1 46)), (1, .int p1), (2, .int p2), (3, .int z5)]) hx hb dX1_alike_40 hl (k := 4) rfl rfl (by decide) rfl (fun ls hl => ?_)
          refine lv_goto (tgt := 5) hx hb dX1_alike_43 (by decide) ?_
          exact ih _ _ _ _ hE hk _ _ _ hs (lv_sub hl [1, 2, 3, 4, 0] rfl)
        refine lv_if_eq (tgt := 40) hx hb dX1_alike_18 (by decide) (fun hc => ?_) (fun hc => ?_)
        · have hE := if_t hc hE
          exact hJk4 v2 _ _ _ hs (lv_sub hl [0, 1, 2, 3, 4] rfl) hE
        · have hE := if_f hc hE
          refine lv_aload_n hx hb dX1_alike_21 rfl (lv_at hl 0 rfl) ?_
          refine gf_X1_9_46 C hK hs dX1_alike_22 ?_
          refine lv_iload hx hb dX1_alike_25 (lv_at hl 4 rfl) ?_
          obtain ⟨hi, x6, ex6, hE⟩ := rd_w hE
          refine y_ald layC C hK hs hi ex6 dX1_alike_27 ?_
          refine lv_aload_n hx hb dX1_alike_28 rfl (lv_at hl 0 rfl) ?_
          refine gf_X1_9_46 C hK hs dX1_alike_29 ?_
          refine lv_iload_n hx hb dX1_alike_32 rfl (lv_at hl 1 rfl) ?_
          obtain ⟨hi, x7, ex7, hE⟩ := rd_w hE
          refine y_ald layC C hK hs hi ex7 dX1_alike_33 ?_
          refine lv_icmp_ne (tgt := 40) hx hb dX1_alike_34 (by decide) (fun hc => ?_) (fun hc => ?_)
          · have hE := if_f hc hE
            exact hJk4 v2 _ _ _ hs (lv_sub hl [0, 1, 2, 3, 4] rfl) hE
          · have hE := if_t hc hE
            refine lv_iinc (v := v2 + 1) (lv' := [(3, .int (v2 + 1)), (0, .ref (g.2.1 46)), (1, .int p1), (2, .int p2), (4, .int v3)]) hx hb dX1_alike_37 hl (k := 3) rfl rfl (by decide) rfl (fun ls hl => ?_)
            exact hJk4 (v2 + 1) _ _ _ hs (lv_sub hl [1, 2, 3, 0, 4] rfl) hE
  refine hL5 _ _ _ _ _ hE (fun σ8 v9 v10 H locs ls hs hl hE => ?_) H locs ls hs (lv_sub hl [2, 3, 4, 1, 0] rfl)
  refine lv_iload_n hx hb dX1_alike_46 rfl (lv_at hl 3 rfl) ?_
  exact hQ hs hE dX1_alike_47
theorem dX1_greatestPart_0 : decode cX1_greatestPart 0 = .ok (.iconst 0, 1) := by decide +kernel
theorem dX1_greatestPart_1 : decode cX1_greatestPart 1 = .ok (.istore_n 2, 1) := by decide +kernel
theorem dX1_greatestPart_2 : decode cX1_greatestPart 2 = .ok (.iconst 0, 1) := by decide +kernel
theorem dX1_greatestPart_3 : decode cX1_greatestPart 3 = .ok (.istore_n 3, 1) := by decide +kernel
theorem dX1_greatestPart_4 : decode cX1_greatestPart 4 = .ok (.iload_n 3, 1) := by decide +kernel
theorem dX1_greatestPart_5 : decode cX1_greatestPart 5 = .ok (.bipush 6, 2) := by decide +kernel
theorem dX1_greatestPart_7 : decode cX1_greatestPart 7 = .ok (.if_icmp .ge 28, 3) := by decide +kernel
theorem dX1_greatestPart_10 : decode cX1_greatestPart 10 = .ok (.iload_n 1, 1) := by decide +kernel
theorem dX1_greatestPart_11 : decode cX1_greatestPart 11 = .ok (.iload_n 3, 1) := by decide +kernel
theorem dX1_greatestPart_12 : decode cX1_greatestPart 12 = .ok (.ishr, 1) := by decide +kernel
theorem dX1_greatestPart_13 : decode cX1_greatestPart 13 = .ok (.iconst 1, 1) := by decide +kernel
theorem dX1_greatestPart_14 : decode cX1_greatestPart 14 = .ok (.iand, 1) := by decide +kernel
theorem dX1_greatestPart_15 : decode cX1_greatestPart 15 = .ok (.ifCond .eq 14, 3) := by decide +kernel
theorem dX1_greatestPart_18 : decode cX1_greatestPart 18 = .ok (.iload_n 2, 1) := by decide +kernel
theorem dX1_greatestPart_19 : decode cX1_greatestPart 19 = .ok (.aload_n 0, 1) := by decide +kernel
theorem dX1_greatestPart_20 : decode cX1_greatestPart 20 = .ok (.iload_n 3, 1) := by decide +kernel
theorem dX1_greatestPart_21 : decode cX1_greatestPart 21 = .ok (.iload_n 1, 1) := by decide +kernel
theorem dX1_greatestPart_22 : decode cX1_greatestPart 22 = .ok (.invokevirtual 44, 3) := by decide +kernel
theorem dX1_greatestPart_25 : decode cX1_greatestPart 25 = .ok (.invokestatic 48, 3) := by decide +kernel
theorem dX1_greatestPart_28 : decode cX1_greatestPart 28 = .ok (.istore_n 2, 1) := by decide +kernel
theorem dX1_greatestPart_29 : decode cX1_greatestPart 29 = .ok (.iinc 3 1, 3) := by decide +kernel
theorem dX1_greatestPart_32 : decode cX1_greatestPart 32 = .ok (.goto (-28), 3) := by decide +kernel
theorem dX1_greatestPart_35 : decode cX1_greatestPart 35 = .ok (.iload_n 2, 1) := by decide +kernel
theorem dX1_greatestPart_36 : decode cX1_greatestPart 36 = .ok (.ireturn, 1) := by decide +kernel
def fX1_greatestPart_L4 (p1 : Int32) : Nat → St → Int32 → Int32 → (St → Int32 → Int32 → Option (St × Int32)) → Option (St × Int32)
  | 0, _, _, _, _ => none
  | n + 1, σ1, v2, v3, k => (if 6 ≤ v3 then k σ1 v2 v3 else jn (fun (σ5 : St) (z6 : Int32) => fX1_greatestPart_L4 p1 n σ5 z6 (v3 + 1) k) (fun k4 => (if ((p1 >>> (v3 &&& 31)) &&& 1) = 0 then k4 σ1 v2 else cl (fX1_alike σ1 v3 p1) (fun σ7 r8 => k4 σ7 (if v2 < r8 then r8 else v2)))))
def fX1_greatestPart (σ : St) (p1 : Int32) : Option (St × Int32) := fX1_greatestPart_L4 p1 10000 σ 0 0 (fun σ9 v10 v11 => some (σ9, v10))
set_option maxHeartbeats 4000000 in
set_option maxRecDepth 100000 in
theorem ctX1_greatestPart (l : Launch) (g : GG) (σ : St) (p1 : Int32) (σ' : St) (r : Int32) (hE : fX1_greatestPart σ p1 = some (σ', r)) : MI 52 entC l g yX1_greatestPart (Cond.code yX1_greatestPart cX1_greatestPart 4 (some .int) :: gtbl) (rmD 2) [.ref (g.2.1 46), .int p1] σ σ' r := by
  refine mi_i (own := RX1) (lv := [(0, .ref (g.2.1 46)), (1, .int p1)]) (by decide) rfl (Nat.le_of_ble_eq_true rfl) rfl (fun p e s m below meth c ls args Q A H0 H locs C hK hA hQ hs hl => ?_)
  have hx := C.1
  have hb := C.2.1
  unfold fX1_greatestPart at hE
  refine lv_iconst (v := 0) hx hb dX1_greatestPart_0 (by decide) ?_
  refine lv_istore_n (lv' := [(2, .int 0), (0, .ref (g.2.1 46)), (1, .int p1)]) hx hb dX1_greatestPart_1 rfl hl (by decide) rfl (fun ls hl => ?_)
  refine lv_iconst (v := 0) hx hb dX1_greatestPart_2 (by decide) ?_
  refine lv_istore_n (lv' := [(3, .int 0), (2, .int 0), (0, .ref (g.2.1 46)), (1, .int p1)]) hx hb dX1_greatestPart_3 rfl hl (by decide) rfl (fun ls hl => ?_)
  have hL4 : ∀ (n : Nat) (σ1 : St) (v2 : Int32) (v3 : Int32) (k : St → Int32 → Int32 → Option (St × Int32)), fX1_greatestPart_L4 p1 n σ1 v2 v3 k = some (σ', r) → (∀ (σ1 : St) (v2 : Int32) (v3 : Int32) (H : Heap) (locs : List Loc) (ls : Array Slot), HW 52 entC g A H0 H locs σ1 → lv_has ls 4 [(0, .ref (g.2.1 46)), (1, .int p1), (2, .int v2), (3, .int v3)] → k σ1 v2 v3 = some (σ', r) → W p l e (rmD 2) s m args below meth c H locs 0 0 Q (F0 m 35 ls [])) → ∀ (H : Heap) (locs : List Loc) (ls : Array Slot), HW 52 entC g A H0 H locs σ1 → lv_has ls 4 [(0, .ref (g.2.1 46)), (1, .int p1), (2, .int v2), (3, .int v3)] → W p l e (rmD 2) s m args below meth c H locs 0 0 Q (F0 m 4 ls []) := by
    intro n
    induction n with
    | zero =>
      intro σ1 v2 v3 k hE
      rw [fX1_greatestPart_L4] at hE
      exact no_e hE
    | succ n ih =>
      intro σ1 v2 v3 k hE hk H locs ls hs hl
      rw [fX1_greatestPart_L4] at hE
      refine lv_iload_n hx hb dX1_greatestPart_4 rfl (lv_at hl 3 rfl) ?_
      refine lv_bipush (v := 6) hx hb dX1_greatestPart_5 (by decide) ?_
      refine lv_icmp_ge (tgt := 35) hx hb dX1_greatestPart_7 (by decide) (fun hc => ?_) (fun hc => ?_)
      · have hE := if_t hc hE
        exact hk σ1 v2 v3 _ _ _ hs (lv_sub hl [0, 1, 2, 3] rfl) hE
      · have hE := if_f hc hE
        refine lv_iload_n hx hb dX1_greatestPart_10 rfl (lv_at hl 1 rfl) ?_
        refine lv_iload_n hx hb dX1_greatestPart_11 rfl (lv_at hl 3 rfl) ?_
        refine lv_ishr hx hb dX1_greatestPart_12 ?_
        refine lv_iconst (v := 1) hx hb dX1_greatestPart_13 (by decide) ?_
        refine lv_iand hx hb dX1_greatestPart_14 ?_
        refine jn2 hE (fun k4 hE hk4 => ?_)
        have hJk4 : ∀ (σ5 : St) (z6 : Int32) (H : Heap) (locs : List Loc) (ls : Array Slot), HW 52 entC g A H0 H locs σ5 → lv_has ls 4 [(0, .ref (g.2.1 46)), (1, .int p1), (2, .int z6), (3, .int v3)] → k4 σ5 z6 = some (σ', r) → W p l e (rmD 2) s m args below meth c H locs 0 0 Q (F0 m 29 ls []) := by
          intro σ5 z6 H locs ls hs hl hE
          have hE := hk4 _ _ hE
          refine lv_iinc (v := v3 + 1) (lv' := [(3, .int (v3 + 1)), (0, .ref (g.2.1 46)), (1, .int p1), (2, .int z6)]) hx hb dX1_greatestPart_29 hl (k := 3) rfl rfl (by decide) rfl (fun ls hl => ?_)
          refine lv_goto (tgt := 4) hx hb dX1_greatestPart_32 (by decide) ?_
          exact ih _ _ _ _ hE hk _ _ _ hs (lv_sub hl [1, 2, 3, 0] rfl)
        refine lv_if_eq (tgt := 29) hx hb dX1_greatestPart_15 (by decide) (fun hc => ?_) (fun hc => ?_)
        · have hE := if_t hc hE
          exact hJk4 σ1 v2 _ _ _ hs (lv_sub hl [0, 1, 2, 3] rfl) hE
        · have hE := if_f hc hE
          refine lv_iload_n hx hb dX1_greatestPart_18 rfl (lv_at hl 2 rfl) ?_
          refine lv_aload_n hx hb dX1_greatestPart_19 rfl (lv_at hl 0 rfl) ?_
          refine lv_iload_n hx hb dX1_greatestPart_20 rfl (lv_at hl 3 rfl) ?_
          refine lv_iload_n hx hb dX1_greatestPart_21 rfl (lv_at hl 1 rfl) ?_
          obtain ⟨σ7, r8, hE1, hE⟩ := cl_e hE
          refine x_civ (As := [.int v3, .int p1]) (rest := [.int v2]) C hl.1 hK hs hA ⟨Nat.le_refl 0, Nat.le_refl 0⟩ (ctX1_alike l g _ _ _ _ _ hE1) (cw_X1_44 C ⟨Nat.le_of_ble_eq_true rfl, Nat.le_of_ble_eq_true rfl⟩) (hs.recv hK 46 (by decide) rfl rfl) rfl rfl (Nat.le_of_ble_eq_true rfl) dX1_greatestPart_22 (fun H locs hs => ?_)
          refine va_mmax hx hb (C.2.2.1.trans hl.1.symm) C.2.2.2.1 (C.2.2.2.2 _ mw_812) (C.2.2.2.2 _ mw_77) (C.2.2.2.2 _ mw_48) (C.2.2.2.2 _ mw_78) (Nat.le_of_ble_eq_true rfl) (Nat.le_of_ble_eq_true rfl) (Nat.le_refl 0) (Nat.le_refl 0) dX1_greatestPart_25 ?_
          refine lv_istore_n (lv' := [(2, .int (if v2 < r8 then r8 else v2)), (0, .ref (g.2.1 46)), (1, .int p1), (3, .int v3)]) hx hb dX1_greatestPart_28 rfl hl (by decide) rfl (fun ls hl => ?_)
          exact hJk4 σ7 (if v2 < r8 then r8 else v2) _ _ _ hs (lv_sub hl [1, 2, 0, 3] rfl) hE
  refine hL4 _ _ _ _ _ hE (fun σ9 v10 v11 H locs ls hs hl hE => ?_) H locs ls hs (lv_sub hl [2, 3, 1, 0] rfl)
  refine lv_iload_n hx hb dX1_greatestPart_35 rfl (lv_at hl 2 rfl) ?_
  exact hQ hs hE dX1_greatestPart_36
theorem dX2_bySign_0 : decode cX2_bySign 0 = .ok (.iload_n 0, 1) := by decide +kernel
theorem dX2_bySign_1 : decode cX2_bySign 1 = .ok (.lookupswitch 71 #[(66, 65), (72, 59), (73, 67), (77, 63), (83, 61), (87, 69)], 59) := by decide +kernel
theorem dX2_bySign_60 : decode cX2_bySign 60 = .ok (.iconst 0, 1) := by decide +kernel
theorem dX2_bySign_61 : decode cX2_bySign 61 = .ok (.ireturn, 1) := by decide +kernel
theorem dX2_bySign_62 : decode cX2_bySign 62 = .ok (.iconst 1, 1) := by decide +kernel
theorem dX2_bySign_63 : decode cX2_bySign 63 = .ok (.ireturn, 1) := by decide +kernel
theorem dX2_bySign_64 : decode cX2_bySign 64 = .ok (.iconst 2, 1) := by decide +kernel
theorem dX2_bySign_65 : decode cX2_bySign 65 = .ok (.ireturn, 1) := by decide +kernel
theorem dX2_bySign_66 : decode cX2_bySign 66 = .ok (.iconst 3, 1) := by decide +kernel
theorem dX2_bySign_67 : decode cX2_bySign 67 = .ok (.ireturn, 1) := by decide +kernel
theorem dX2_bySign_68 : decode cX2_bySign 68 = .ok (.iconst 4, 1) := by decide +kernel
theorem dX2_bySign_69 : decode cX2_bySign 69 = .ok (.ireturn, 1) := by decide +kernel
theorem dX2_bySign_70 : decode cX2_bySign 70 = .ok (.iconst 5, 1) := by decide +kernel
theorem dX2_bySign_71 : decode cX2_bySign 71 = .ok (.ireturn, 1) := by decide +kernel
theorem dX2_bySign_72 : decode cX2_bySign 72 = .ok (.bipush (-9), 2) := by decide +kernel
theorem dX2_bySign_74 : decode cX2_bySign 74 = .ok (.ireturn, 1) := by decide +kernel
def fX2_bySign (σ : St) (p0 : Int32) : Option (St × Int32) := (if p0 = 66 then some (σ, 3) else (if p0 = 72 then some (σ, 0) else (if p0 = 73 then some (σ, 4) else (if p0 = 77 then some (σ, 2) else (if p0 = 83 then some (σ, 1) else (if p0 = 87 then some (σ, 5) else some (σ, (-9))))))))
set_option maxHeartbeats 4000000 in
set_option maxRecDepth 100000 in
theorem ctX2_bySign (l : Launch) (g : GG) (σ : St) (p0 : Int32) (σ' : St) (r : Int32) (hE : fX2_bySign σ p0 = some (σ', r)) : MI 52 entC l g yX2_bySign (Cond.code yX2_bySign cX2_bySign 1 (some .int) :: gtbl) (rmD 1) [.int p0] σ σ' r := by
  refine mi_i (own := RX2) (lv := [(0, .int p0)]) (by decide) rfl (Nat.le_of_ble_eq_true rfl) rfl (fun p e s m below meth c ls args Q A H0 H locs C hK hA hQ hs hl => ?_)
  have hx := C.1
  have hb := C.2.1
  unfold fX2_bySign at hE
  refine lv_iload_n hx hb dX2_bySign_0 rfl (lv_at hl 0 rfl) ?_
  by_cases hn66 : p0 = 66
  · have hE := if_t hn66 hE
    refine lv_lookup (off := 65) (tgt := 66) hx hb dX2_bySign_1 (by decide) (by rw [hn66]; decide) (by decide) ?_
    refine lv_iconst (v := 3) hx hb dX2_bySign_66 (by decide) ?_
    exact hQ hs hE dX2_bySign_67
  have hE := if_f hn66 hE
  by_cases hn72 : p0 = 72
  · have hE := if_t hn72 hE
    refine lv_lookup (off := 59) (tgt := 60) hx hb dX2_bySign_1 (by decide) (by rw [hn72]; decide) (by decide) ?_
    refine lv_iconst (v := 0) hx hb dX2_bySign_60 (by decide) ?_
    exact hQ hs hE dX2_bySign_61
  have hE := if_f hn72 hE
  by_cases hn73 : p0 = 73
  · have hE := if_t hn73 hE
    refine lv_lookup (off := 67) (tgt := 68) hx hb dX2_bySign_1 (by decide) (by rw [hn73]; decide) (by decide) ?_
    refine lv_iconst (v := 4) hx hb dX2_bySign_68 (by decide) ?_
    exact hQ hs hE dX2_bySign_69
  have hE := if_f hn73 hE
  by_cases hn77 : p0 = 77
  · have hE := if_t hn77 hE
    refine lv_lookup (off := 63) (tgt := 64) hx hb dX2_bySign_1 (by decide) (by rw [hn77]; decide) (by decide) ?_
    refine lv_iconst (v := 2) hx hb dX2_bySign_64 (by decide) ?_
    exact hQ hs hE dX2_bySign_65
  have hE := if_f hn77 hE
  by_cases hn83 : p0 = 83
  · have hE := if_t hn83 hE
    refine lv_lookup (off := 61) (tgt := 62) hx hb dX2_bySign_1 (by decide) (by rw [hn83]; decide) (by decide) ?_
    refine lv_iconst (v := 1) hx hb dX2_bySign_62 (by decide) ?_
    exact hQ hs hE dX2_bySign_63
  have hE := if_f hn83 hE
  by_cases hn87 : p0 = 87
  · have hE := if_t hn87 hE
    refine lv_lookup (off := 69) (tgt := 70) hx hb dX2_bySign_1 (by decide) (by rw [hn87]; decide) (by decide) ?_
    refine lv_iconst (v := 5) hx hb dX2_bySign_70 (by decide) ?_
    exact hQ hs hE dX2_bySign_71
  have hE := if_f hn87 hE
  refine lv_lookup (off := 71) (tgt := 72) hx hb dX2_bySign_1 (by decide) (sw_lc (sw_n 66 hn66 (by decide)) (sw_lc (sw_n 72 hn72 (by decide)) (sw_lc (sw_n 73 hn73 (by decide)) (sw_lc (sw_n 77 hn77 (by decide)) (sw_lc (sw_n 83 hn83 (by decide)) (sw_lc (sw_n 87 hn87 (by decide)) rfl)))))) (by decide) ?_
  refine lv_bipush (v := (-9)) hx hb dX2_bySign_72 (by decide) ?_
  exact hQ hs hE dX2_bySign_74
theorem dX2_isOf_0 : decode cX2_isOf 0 = .ok (.iload_n 0, 1) := by decide +kernel
theorem dX2_isOf_1 : decode cX2_isOf 1 = .ok (.iload_n 1, 1) := by decide +kernel
theorem dX2_isOf_2 : decode cX2_isOf 2 = .ok (.if_icmp .eq 27, 3) := by decide +kernel
theorem dX2_isOf_5 : decode cX2_isOf 5 = .ok (.iload_n 1, 1) := by decide +kernel
theorem dX2_isOf_6 : decode cX2_isOf 6 = .ok (.ifCond .eq 23, 3) := by decide +kernel
theorem dX2_isOf_9 : decode cX2_isOf 9 = .ok (.iload_n 0, 1) := by decide +kernel
theorem dX2_isOf_10 : decode cX2_isOf 10 = .ok (.iconst 4, 1) := by decide +kernel
theorem dX2_isOf_11 : decode cX2_isOf 11 = .ok (.if_icmp .ne 8, 3) := by decide +kernel
theorem dX2_isOf_14 : decode cX2_isOf 14 = .ok (.iload_n 1, 1) := by decide +kernel
theorem dX2_isOf_15 : decode cX2_isOf 15 = .ok (.iconst 1, 1) := by decide +kernel
theorem dX2_isOf_16 : decode cX2_isOf 16 = .ok (.if_icmp .eq 13, 3) := by decide +kernel
theorem dX2_isOf_19 : decode cX2_isOf 19 = .ok (.iload_n 0, 1) := by decide +kernel
theorem dX2_isOf_20 : decode cX2_isOf 20 = .ok (.iconst 5, 1) := by decide +kernel
theorem dX2_isOf_21 : decode cX2_isOf 21 = .ok (.if_icmp .ne 12, 3) := by decide +kernel
theorem dX2_isOf_24 : decode cX2_isOf 24 = .ok (.iload_n 1, 1) := by decide +kernel
theorem dX2_isOf_25 : decode cX2_isOf 25 = .ok (.iconst 2, 1) := by decide +kernel
theorem dX2_isOf_26 : decode cX2_isOf 26 = .ok (.if_icmp .ne 7, 3) := by decide +kernel
theorem dX2_isOf_29 : decode cX2_isOf 29 = .ok (.iconst 1, 1) := by decide +kernel
theorem dX2_isOf_30 : decode cX2_isOf 30 = .ok (.goto 4, 3) := by decide +kernel
theorem dX2_isOf_33 : decode cX2_isOf 33 = .ok (.iconst 0, 1) := by decide +kernel
theorem dX2_isOf_34 : decode cX2_isOf 34 = .ok (.ireturn, 1) := by decide +kernel
def fX2_isOf (σ : St) (p0 : Int32) (p1 : Int32) : Option (St × Int32) := jn (some (σ, 1)) (fun k1 => (if p0 = p1 then k1 else (if p1 = 0 then k1 else jn ((if p0 = 5 then (if p1 = 2 then k1 else some (σ, 0)) else some (σ, 0))) (fun k2 => (if p0 = 4 then (if p1 = 1 then k1 else k2) else k2)))))
set_option maxHeartbeats 4000000 in
set_option maxRecDepth 100000 in
theorem ctX2_isOf (l : Launch) (g : GG) (σ : St) (p0 : Int32) (p1 : Int32) (σ' : St) (r : Int32) (hE : fX2_isOf σ p0 p1 = some (σ', r)) : MI 52 entC l g yX2_isOf (Cond.code yX2_isOf cX2_isOf 2 (some .boolean) :: gtbl) (rmD 1) [.int p0, .int p1] σ σ' r := by
  refine mi_z (own := RX2) (lv := [(0, .int p0), (1, .int p1)]) (by decide) rfl (Nat.le_of_ble_eq_true rfl) rfl (fun p e s m below meth c ls args Q A H0 H locs C hK hA hQ hs hl => ?_)
  have hx := C.1
  have hb := C.2.1
  unfold fX2_isOf at hE
  refine lv_iload_n hx hb dX2_isOf_0 rfl (lv_at hl 0 rfl) ?_
  refine lv_iload_n hx hb dX2_isOf_1 rfl (lv_at hl 1 rfl) ?_
  refine jn0 hE (fun k1 hE hk1 => ?_)
  have hJk1 : ∀  (H : Heap) (locs : List Loc) (ls : Array Slot), HW 52 entC g A H0 H locs σ → lv_has ls 2 [] → k1 = some (σ', r) → W p l e (rmD 1) s m args below meth c H locs 0 0 Q (F0 m 29 ls []) := by
    intro H locs ls hs hl hE
    have hE := hk1 hE
    refine lv_iconst (v := 1) hx hb dX2_isOf_29 (by decide) ?_
    refine lv_goto (tgt := 34) hx hb dX2_isOf_30 (by decide) ?_
    exact hQ hs rfl hE dX2_isOf_34
  refine lv_icmp_eq (tgt := 29) hx hb dX2_isOf_2 (by decide) (fun hc => ?_) (fun hc => ?_)
  · have hE := if_t hc hE
    exact hJk1  _ _ _ hs (lv_sub hl [] rfl) hE
  · have hE := if_f hc hE
    refine lv_iload_n hx hb dX2_isOf_5 rfl (lv_at hl 1 rfl) ?_
    refine lv_if_eq (tgt := 29) hx hb dX2_isOf_6 (by decide) (fun hc => ?_) (fun hc => ?_)
    · have hE := if_t hc hE
      exact hJk1  _ _ _ hs (lv_sub hl [] rfl) hE
    · have hE := if_f hc hE
      refine lv_iload_n hx hb dX2_isOf_9 rfl (lv_at hl 0 rfl) ?_
      refine lv_iconst (v := 4) hx hb dX2_isOf_10 (by decide) ?_
      refine jn0 hE (fun k2 hE hk2 => ?_)
      have hJk2 : ∀  (H : Heap) (locs : List Loc) (ls : Array Slot), HW 52 entC g A H0 H locs σ → lv_has ls 2 [(0, .int p0), (1, .int p1)] → k2 = some (σ', r) → W p l e (rmD 1) s m args below meth c H locs 0 0 Q (F0 m 19 ls []) := by
        intro H locs ls hs hl hE
        have hE := hk2 hE
        refine lv_iload_n hx hb dX2_isOf_19 rfl (lv_at hl 0 rfl) ?_
        refine lv_iconst (v := 5) hx hb dX2_isOf_20 (by decide) ?_
        refine lv_icmp_ne (tgt := 33) hx hb dX2_isOf_21 (by decide) (fun hc => ?_) (fun hc => ?_)
        · have hE := if_f hc hE
          refine lv_iconst (v := 0) hx hb dX2_isOf_33 (by decide) ?_
          exact hQ hs rfl hE dX2_isOf_34
        · have hE := if_t hc hE
          refine lv_iload_n hx hb dX2_isOf_24 rfl (lv_at hl 1 rfl) ?_
          refine lv_iconst (v := 2) hx hb dX2_isOf_25 (by decide) ?_
          refine lv_icmp_ne (tgt := 33) hx hb dX2_isOf_26 (by decide) (fun hc => ?_) (fun hc => ?_)
          · have hE := if_f hc hE
            refine lv_iconst (v := 0) hx hb dX2_isOf_33 (by decide) ?_
            exact hQ hs rfl hE dX2_isOf_34
          · have hE := if_t hc hE
            exact hJk1  _ _ _ hs (lv_sub hl [] rfl) hE
      refine lv_icmp_ne (tgt := 19) hx hb dX2_isOf_11 (by decide) (fun hc => ?_) (fun hc => ?_)
      · have hE := if_f hc hE
        exact hJk2  _ _ _ hs (lv_sub hl [0, 1] rfl) hE
      · have hE := if_t hc hE
        refine lv_iload_n hx hb dX2_isOf_14 rfl (lv_at hl 1 rfl) ?_
        refine lv_iconst (v := 1) hx hb dX2_isOf_15 (by decide) ?_
        refine lv_icmp_eq (tgt := 29) hx hb dX2_isOf_16 (by decide) (fun hc => ?_) (fun hc => ?_)
        · have hE := if_t hc hE
          exact hJk1  _ _ _ hs (lv_sub hl [] rfl) hE
        · have hE := if_f hc hE
          exact hJk2  _ _ _ hs (lv_sub hl [0, 1] rfl) hE
theorem dX2_pays_0 : decode cX2_pays 0 = .ok (.iload_n 0, 1) := by decide +kernel
theorem dX2_pays_1 : decode cX2_pays 1 = .ok (.tableswitch 52 2 5 #[31, 44, 52, 35], 31) := by decide +kernel
theorem dX2_pays_32 : decode cX2_pays 32 = .ok (.iconst 2, 1) := by decide +kernel
theorem dX2_pays_33 : decode cX2_pays 33 = .ok (.iload_n 1, 1) := by decide +kernel
theorem dX2_pays_34 : decode cX2_pays 34 = .ok (.imul, 1) := by decide +kernel
theorem dX2_pays_35 : decode cX2_pays 35 = .ok (.ireturn, 1) := by decide +kernel
theorem dX2_pays_36 : decode cX2_pays 36 = .ok (.bipush 9, 2) := by decide +kernel
theorem dX2_pays_38 : decode cX2_pays 38 = .ok (.iconst 2, 1) := by decide +kernel
theorem dX2_pays_39 : decode cX2_pays 39 = .ok (.iload_n 1, 1) := by decide +kernel
theorem dX2_pays_40 : decode cX2_pays 40 = .ok (.imul, 1) := by decide +kernel
theorem dX2_pays_41 : decode cX2_pays 41 = .ok (.invokestatic 11, 3) := by decide +kernel
theorem dX2_pays_44 : decode cX2_pays 44 = .ok (.ireturn, 1) := by decide +kernel
theorem dX2_pays_45 : decode cX2_pays 45 = .ok (.iconst 1, 1) := by decide +kernel
theorem dX2_pays_46 : decode cX2_pays 46 = .ok (.iload_n 1, 1) := by decide +kernel
theorem dX2_pays_47 : decode cX2_pays 47 = .ok (.iconst 1, 1) := by decide +kernel
theorem dX2_pays_48 : decode cX2_pays 48 = .ok (.isub, 1) := by decide +kernel
theorem dX2_pays_49 : decode cX2_pays 49 = .ok (.invokestatic 17, 3) := by decide +kernel
theorem dX2_pays_52 : decode cX2_pays 52 = .ok (.ireturn, 1) := by decide +kernel
theorem dX2_pays_53 : decode cX2_pays 53 = .ok (.iload_n 1, 1) := by decide +kernel
theorem dX2_pays_54 : decode cX2_pays 54 = .ok (.ireturn, 1) := by decide +kernel
def fX2_pays (σ : St) (p0 : Int32) (p1 : Int32) : Option (St × Int32) := (if p0 = 2 then some (σ, 2 * p1) else (if p0 = 3 then some (σ, (if 1 < (p1 - 1) then (p1 - 1) else 1)) else (if p0 = 5 then some (σ, (if (2 * p1) < 9 then (2 * p1) else 9)) else some (σ, p1))))
set_option maxHeartbeats 4000000 in
set_option maxRecDepth 100000 in
theorem ctX2_pays (l : Launch) (g : GG) (σ : St) (p0 : Int32) (p1 : Int32) (σ' : St) (r : Int32) (hE : fX2_pays σ p0 p1 = some (σ', r)) : MI 52 entC l g yX2_pays (Cond.code yX2_pays cX2_pays 2 (some .int) :: gtbl) (rmD 1) [.int p0, .int p1] σ σ' r := by
  refine mi_i (own := RX2) (lv := [(0, .int p0), (1, .int p1)]) (by decide) rfl (Nat.le_of_ble_eq_true rfl) rfl (fun p e s m below meth c ls args Q A H0 H locs C hK hA hQ hs hl => ?_)
  have hx := C.1
  have hb := C.2.1
  unfold fX2_pays at hE
  refine lv_iload_n hx hb dX2_pays_0 rfl (lv_at hl 0 rfl) ?_
  by_cases hn2 : p0 = 2
  · have hE := if_t hn2 hE
    refine lv_tableIn (off := 31) (tgt := 32) hx hb dX2_pays_1 (by rw [hn2]; decide) (by rw [hn2]; decide) (by rw [hn2]; decide) (by decide) ?_
    refine lv_iconst (v := 2) hx hb dX2_pays_32 (by decide) ?_
    refine lv_iload_n hx hb dX2_pays_33 rfl (lv_at hl 1 rfl) ?_
    refine lv_imul hx hb dX2_pays_34 ?_
    exact hQ hs hE dX2_pays_35
  have hE := if_f hn2 hE
  by_cases hn3 : p0 = 3
  · have hE := if_t hn3 hE
    refine lv_tableIn (off := 44) (tgt := 45) hx hb dX2_pays_1 (by rw [hn3]; decide) (by rw [hn3]; decide) (by rw [hn3]; decide) (by decide) ?_
    refine lv_iconst (v := 1) hx hb dX2_pays_45 (by decide) ?_
    refine lv_iload_n hx hb dX2_pays_46 rfl (lv_at hl 1 rfl) ?_
    refine lv_iconst (v := 1) hx hb dX2_pays_47 (by decide) ?_
    refine lv_isub hx hb dX2_pays_48 ?_
    refine va_mmax hx hb (C.2.2.1.trans hl.1.symm) C.2.2.2.1 (C.2.2.2.2 _ mw_555) (C.2.2.2.2 _ mw_77) (C.2.2.2.2 _ mw_48) (C.2.2.2.2 _ mw_78) (Nat.le_of_ble_eq_true rfl) (Nat.le_of_ble_eq_true rfl) (Nat.le_refl 0) (Nat.le_refl 0) dX2_pays_49 ?_
    exact hQ hs hE dX2_pays_52
  have hE := if_f hn3 hE
  by_cases hn5 : p0 = 5
  · have hE := if_t hn5 hE
    refine lv_tableIn (off := 35) (tgt := 36) hx hb dX2_pays_1 (by rw [hn5]; decide) (by rw [hn5]; decide) (by rw [hn5]; decide) (by decide) ?_
    refine lv_bipush (v := 9) hx hb dX2_pays_36 (by decide) ?_
    refine lv_iconst (v := 2) hx hb dX2_pays_38 (by decide) ?_
    refine lv_iload_n hx hb dX2_pays_39 rfl (lv_at hl 1 rfl) ?_
    refine lv_imul hx hb dX2_pays_40 ?_
    refine va_mmin hx hb (C.2.2.1.trans hl.1.symm) C.2.2.2.1 (C.2.2.2.2 _ mw_554) (C.2.2.2.2 _ mw_448) (C.2.2.2.2 _ mw_48) (C.2.2.2.2 _ mw_449) (Nat.le_of_ble_eq_true rfl) (Nat.le_of_ble_eq_true rfl) (Nat.le_refl 0) (Nat.le_refl 0) dX2_pays_41 ?_
    exact hQ hs hE dX2_pays_44
  have hE := if_f hn5 hE
  have hDf : W p l e (rmD 1) s m args below meth c H locs 0 0 Q (F0 m 53 ls []) := by
    refine lv_iload_n hx hb dX2_pays_53 rfl (lv_at hl 1 rfl) ?_
    exact hQ hs hE dX2_pays_54
  by_cases hn4 : p0 = 4
  · exact lv_tableIn (off := 52) (tgt := 53) hx hb dX2_pays_1 (by rw [hn4]; decide) (by rw [hn4]; decide) (by rw [hn4]; decide) (by decide) hDf
  exact lv_tableOut (tgt := 53) hx hb dX2_pays_1 (by have q0 := sw_n 2 hn2 (by decide); have q1 := sw_n 3 hn3 (by decide); have q2 := sw_n 4 hn4 (by decide); have q3 := sw_n 5 hn5 (by decide); omega) (by decide) hDf
theorem dX2_holds_0 : decode cX2_holds 0 = .ok (.iload_n 0, 1) := by decide +kernel
theorem dX2_holds_1 : decode cX2_holds 1 = .ok (.lookupswitch 35 #[(3, 27), (5, 31)], 27) := by decide +kernel
theorem dX2_holds_28 : decode cX2_holds 28 = .ok (.iload_n 1, 1) := by decide +kernel
theorem dX2_holds_29 : decode cX2_holds 29 = .ok (.iconst 1, 1) := by decide +kernel
theorem dX2_holds_30 : decode cX2_holds 30 = .ok (.iadd, 1) := by decide +kernel
theorem dX2_holds_31 : decode cX2_holds 31 = .ok (.ireturn, 1) := by decide +kernel
theorem dX2_holds_32 : decode cX2_holds 32 = .ok (.iload_n 1, 1) := by decide +kernel
theorem dX2_holds_33 : decode cX2_holds 33 = .ok (.iconst 2, 1) := by decide +kernel
theorem dX2_holds_34 : decode cX2_holds 34 = .ok (.iadd, 1) := by decide +kernel
theorem dX2_holds_35 : decode cX2_holds 35 = .ok (.ireturn, 1) := by decide +kernel
theorem dX2_holds_36 : decode cX2_holds 36 = .ok (.iload_n 1, 1) := by decide +kernel
theorem dX2_holds_37 : decode cX2_holds 37 = .ok (.ireturn, 1) := by decide +kernel
def fX2_holds (σ : St) (p0 : Int32) (p1 : Int32) : Option (St × Int32) := (if p0 = 3 then some (σ, p1 + 1) else (if p0 = 5 then some (σ, p1 + 2) else some (σ, p1)))
set_option maxHeartbeats 4000000 in
set_option maxRecDepth 100000 in
theorem ctX2_holds (l : Launch) (g : GG) (σ : St) (p0 : Int32) (p1 : Int32) (σ' : St) (r : Int32) (hE : fX2_holds σ p0 p1 = some (σ', r)) : MI 52 entC l g yX2_holds (Cond.code yX2_holds cX2_holds 2 (some .int) :: gtbl) (rmD 1) [.int p0, .int p1] σ σ' r := by
  refine mi_i (own := RX2) (lv := [(0, .int p0), (1, .int p1)]) (by decide) rfl (Nat.le_of_ble_eq_true rfl) rfl (fun p e s m below meth c ls args Q A H0 H locs C hK hA hQ hs hl => ?_)
  have hx := C.1
  have hb := C.2.1
  unfold fX2_holds at hE
  refine lv_iload_n hx hb dX2_holds_0 rfl (lv_at hl 0 rfl) ?_
  by_cases hn3 : p0 = 3
  · have hE := if_t hn3 hE
    refine lv_lookup (off := 27) (tgt := 28) hx hb dX2_holds_1 (by decide) (by rw [hn3]; decide) (by decide) ?_
    refine lv_iload_n hx hb dX2_holds_28 rfl (lv_at hl 1 rfl) ?_
    refine lv_iconst (v := 1) hx hb dX2_holds_29 (by decide) ?_
    refine lv_iadd hx hb dX2_holds_30 ?_
    exact hQ hs hE dX2_holds_31
  have hE := if_f hn3 hE
  by_cases hn5 : p0 = 5
  · have hE := if_t hn5 hE
    refine lv_lookup (off := 31) (tgt := 32) hx hb dX2_holds_1 (by decide) (by rw [hn5]; decide) (by decide) ?_
    refine lv_iload_n hx hb dX2_holds_32 rfl (lv_at hl 1 rfl) ?_
    refine lv_iconst (v := 2) hx hb dX2_holds_33 (by decide) ?_
    refine lv_iadd hx hb dX2_holds_34 ?_
    exact hQ hs hE dX2_holds_35
  have hE := if_f hn5 hE
  refine lv_lookup (off := 35) (tgt := 36) hx hb dX2_holds_1 (by decide) (sw_lc (sw_n 3 hn3 (by decide)) (sw_lc (sw_n 5 hn5 (by decide)) rfl)) (by decide) ?_
  refine lv_iload_n hx hb dX2_holds_36 rfl (lv_at hl 1 rfl) ?_
  exact hQ hs hE dX2_holds_37
theorem dX3_pack_0 : decode cX3_pack 0 = .ok (.iload_n 0, 1) := by decide +kernel
theorem dX3_pack_1 : decode cX3_pack 1 = .ok (.iload_n 1, 1) := by decide +kernel
theorem dX3_pack_2 : decode cX3_pack 2 = .ok (.iconst 4, 1) := by decide +kernel
theorem dX3_pack_3 : decode cX3_pack 3 = .ok (.ishl, 1) := by decide +kernel
theorem dX3_pack_4 : decode cX3_pack 4 = .ok (.ior, 1) := by decide +kernel
theorem dX3_pack_5 : decode cX3_pack 5 = .ok (.iload_n 2, 1) := by decide +kernel
theorem dX3_pack_6 : decode cX3_pack 6 = .ok (.bipush 8, 2) := by decide +kernel
theorem dX3_pack_8 : decode cX3_pack 8 = .ok (.ishl, 1) := by decide +kernel
theorem dX3_pack_9 : decode cX3_pack 9 = .ok (.ior, 1) := by decide +kernel
theorem dX3_pack_10 : decode cX3_pack 10 = .ok (.iload_n 3, 1) := by decide +kernel
theorem dX3_pack_11 : decode cX3_pack 11 = .ok (.bipush 12, 2) := by decide +kernel
theorem dX3_pack_13 : decode cX3_pack 13 = .ok (.ishl, 1) := by decide +kernel
theorem dX3_pack_14 : decode cX3_pack 14 = .ok (.ior, 1) := by decide +kernel
theorem dX3_pack_15 : decode cX3_pack 15 = .ok (.iload 4, 2) := by decide +kernel
theorem dX3_pack_17 : decode cX3_pack 17 = .ok (.bipush 16, 2) := by decide +kernel
theorem dX3_pack_19 : decode cX3_pack 19 = .ok (.ishl, 1) := by decide +kernel
theorem dX3_pack_20 : decode cX3_pack 20 = .ok (.ior, 1) := by decide +kernel
theorem dX3_pack_21 : decode cX3_pack 21 = .ok (.ireturn, 1) := by decide +kernel
def fX3_pack (σ : St) (p0 : Int32) (p1 : Int32) (p2 : Int32) (p3 : Int32) (p4 : Int32) : Option (St × Int32) := some (σ, (((p0 ||| (p1 <<< (4 &&& 31))) ||| (p2 <<< (8 &&& 31))) ||| (p3 <<< (12 &&& 31))) ||| (p4 <<< (16 &&& 31)))
set_option maxHeartbeats 4000000 in
set_option maxRecDepth 100000 in
theorem ctX3_pack (l : Launch) (g : GG) (σ : St) (p0 : Int32) (p1 : Int32) (p2 : Int32) (p3 : Int32) (p4 : Int32) (σ' : St) (r : Int32) (hE : fX3_pack σ p0 p1 p2 p3 p4 = some (σ', r)) : MI 52 entC l g yX3_pack (Cond.code yX3_pack cX3_pack 5 (some .int) :: gtbl) (rmD 1) [.int p0, .int p1, .int p2, .int p3, .int p4] σ σ' r := by
  refine mi_i (own := RX3) (lv := [(0, .int p0), (1, .int p1), (2, .int p2), (3, .int p3), (4, .int p4)]) (by decide) rfl (Nat.le_of_ble_eq_true rfl) rfl (fun p e s m below meth c ls args Q A H0 H locs C hK hA hQ hs hl => ?_)
  have hx := C.1
  have hb := C.2.1
  unfold fX3_pack at hE
  refine lv_iload_n hx hb dX3_pack_0 rfl (lv_at hl 0 rfl) ?_
  refine lv_iload_n hx hb dX3_pack_1 rfl (lv_at hl 1 rfl) ?_
  refine lv_iconst (v := 4) hx hb dX3_pack_2 (by decide) ?_
  refine lv_ishl hx hb dX3_pack_3 ?_
  refine lv_ior hx hb dX3_pack_4 ?_
  refine lv_iload_n hx hb dX3_pack_5 rfl (lv_at hl 2 rfl) ?_
  refine lv_bipush (v := 8) hx hb dX3_pack_6 (by decide) ?_
  refine lv_ishl hx hb dX3_pack_8 ?_
  refine lv_ior hx hb dX3_pack_9 ?_
  refine lv_iload_n hx hb dX3_pack_10 rfl (lv_at hl 3 rfl) ?_
  refine lv_bipush (v := 12) hx hb dX3_pack_11 (by decide) ?_
  refine lv_ishl hx hb dX3_pack_13 ?_
  refine lv_ior hx hb dX3_pack_14 ?_
  refine lv_iload hx hb dX3_pack_15 (lv_at hl 4 rfl) ?_
  refine lv_bipush (v := 16) hx hb dX3_pack_17 (by decide) ?_
  refine lv_ishl hx hb dX3_pack_19 ?_
  refine lv_ior hx hb dX3_pack_20 ?_
  exact hQ hs hE dX3_pack_21
theorem dX9_begin_0 : decode cX9_begin 0 = .ok (.aload_n 0, 1) := by decide +kernel
theorem dX9_begin_1 : decode cX9_begin 1 = .ok (.iconst 0, 1) := by decide +kernel
theorem dX9_begin_2 : decode cX9_begin 2 = .ok (.putfield 23, 3) := by decide +kernel
theorem dX9_begin_5 : decode cX9_begin 5 = .ok (.aload_n 0, 1) := by decide +kernel
theorem dX9_begin_6 : decode cX9_begin 6 = .ok (.getfield 20, 3) := by decide +kernel
theorem dX9_begin_9 : decode cX9_begin 9 = .ok (.iconst 0, 1) := by decide +kernel
theorem dX9_begin_10 : decode cX9_begin 10 = .ok (.invokestatic 27, 3) := by decide +kernel
theorem dX9_begin_13 : decode cX9_begin 13 = .ok (.aload_n 0, 1) := by decide +kernel
theorem dX9_begin_14 : decode cX9_begin 14 = .ok (.getfield 10, 3) := by decide +kernel
theorem dX9_begin_17 : decode cX9_begin 17 = .ok (.getfield 33, 3) := by decide +kernel
theorem dX9_begin_20 : decode cX9_begin 20 = .ok (.iconst 0, 1) := by decide +kernel
theorem dX9_begin_21 : decode cX9_begin 21 = .ok (.aload_n 0, 1) := by decide +kernel
theorem dX9_begin_22 : decode cX9_begin 22 = .ok (.getfield 16, 3) := by decide +kernel
theorem dX9_begin_25 : decode cX9_begin 25 = .ok (.iconst 0, 1) := by decide +kernel
theorem dX9_begin_26 : decode cX9_begin 26 = .ok (.bipush 6, 2) := by decide +kernel
theorem dX9_begin_28 : decode cX9_begin 28 = .ok (.invokestatic 36, 3) := by decide +kernel
theorem dX9_begin_31 : decode cX9_begin 31 = .ok (.return_, 1) := by decide +kernel
def fX9_begin (σ : St) : Option (St × Unit) := pt (su σ 25 3 0) (fun σ1 => cl (fJ7_fill_53178 σ1 34 0) (fun σ2 r3 => gd (arrOk LC 32 33 0 0 6) (pt (sc σ2 33 (va_cpy (σ2.1 32) (σ2.1 33) (Int32.toNatClampNeg 0) (Int32.toNatClampNeg 0) (Int32.toNatClampNeg 6))) (fun σ4 => some (σ4, ())))))
set_option maxHeartbeats 4000000 in
set_option maxRecDepth 100000 in
theorem ctX9_begin (l : Launch) (g : GG) (σ : St) (σ' : St) (r : Unit) (hE : fX9_begin σ  = some (σ', r)) : MV 52 entC l g yX9_begin (Cond.code yX9_begin cX9_begin 1 none :: gtbl) (rmD 2) [.ref (g.2.1 25)] σ σ' := by
  refine mi_v (own := RX9) (lv := [(0, .ref (g.2.1 25))]) (by decide) rfl (Nat.le_of_ble_eq_true rfl) rfl (fun p e s m below meth c ls args Q A H0 H locs C hK hA hQ hs hl => ?_)
  have hx := C.1
  have hb := C.2.1
  unfold fX9_begin at hE
  refine lv_aload_n hx hb dX9_begin_0 rfl (lv_at hl 0 rfl) ?_
  refine lv_iconst (v := 0) hx hb dX9_begin_1 (by decide) ?_
  obtain ⟨σ1, eσ1, hE⟩ := pt_w hE
  refine pf_X9_23_25 C hK hs eσ1 dX9_begin_2 (fun H locs hs => ?_)
  refine lv_aload_n hx hb dX9_begin_5 rfl (lv_at hl 0 rfl) ?_
  refine gf_X9_20_25 C hK hs dX9_begin_6 ?_
  refine lv_iconst (v := 0) hx hb dX9_begin_9 (by decide) ?_
  obtain ⟨σ2, r3, hE1, hE⟩ := cl_e hE
  refine x_cvs (As := [.ref (g.2.1 34), .int 0]) (rest := []) C hl.1 hK hs hA ⟨Nat.le_refl 0, Nat.le_refl 0⟩ (ctJ7_fill_53178 l g _ _ _ _ _ hE1) (cw_X9_27 C ⟨Nat.le_of_ble_eq_true rfl, Nat.le_of_ble_eq_true rfl⟩) rfl rfl (Nat.le_of_ble_eq_true rfl) dX9_begin_10 (fun H locs hs => ?_)
  refine lv_aload_n hx hb dX9_begin_13 rfl (lv_at hl 0 rfl) ?_
  refine gf_X9_10_25 C hK hs dX9_begin_14 ?_
  refine gf_X9_33_26 C hK hs dX9_begin_17 ?_
  refine lv_iconst (v := 0) hx hb dX9_begin_20 (by decide) ?_
  refine lv_aload_n hx hb dX9_begin_21 rfl (lv_at hl 0 rfl) ?_
  refine gf_X9_16_25 C hK hs dX9_begin_22 ?_
  refine lv_iconst (v := 0) hx hb dX9_begin_25 (by decide) ?_
  refine lv_bipush (v := 6) hx hb dX9_begin_26 (by decide) ?_
  obtain ⟨hi, hE⟩ := gd_e hE
  obtain ⟨σ4, eσ4, hE⟩ := pt_w hE
  refine y_copy layC C hl.1 hK hs mw_498 hi eσ4 (Nat.le_of_ble_eq_true rfl) (Nat.le_of_ble_eq_true rfl) dX9_begin_28 (fun H locs hs => ?_)
  exact hQ hs hE dX9_begin_31
theorem dX3_begin_0 : decode cX3_begin 0 = .ok (.aload_n 0, 1) := by decide +kernel
theorem dX3_begin_1 : decode cX3_begin 1 = .ok (.iconst 0, 1) := by decide +kernel
theorem dX3_begin_2 : decode cX3_begin 2 = .ok (.putfield 34, 3) := by decide +kernel
theorem dX3_begin_5 : decode cX3_begin 5 = .ok (.aload_n 0, 1) := by decide +kernel
theorem dX3_begin_6 : decode cX3_begin 6 = .ok (.getfield 25, 3) := by decide +kernel
theorem dX3_begin_9 : decode cX3_begin 9 = .ok (.iconst (-1), 1) := by decide +kernel
theorem dX3_begin_10 : decode cX3_begin 10 = .ok (.invokestatic 28, 3) := by decide +kernel
theorem dX3_begin_13 : decode cX3_begin 13 = .ok (.aload_n 0, 1) := by decide +kernel
theorem dX3_begin_14 : decode cX3_begin 14 = .ok (.getfield 10, 3) := by decide +kernel
theorem dX3_begin_17 : decode cX3_begin 17 = .ok (.invokevirtual 38, 3) := by decide +kernel
theorem dX3_begin_20 : decode cX3_begin 20 = .ok (.return_, 1) := by decide +kernel
def fX3_begin (σ : St) : Option (St × Unit) := pt (su σ 24 4 0) (fun σ1 => cl (fJ7_fill_53178 σ1 40 (-1)) (fun σ2 r3 => cl (fX9_begin σ2) (fun σ4 r5 => some (σ4, ()))))
set_option maxHeartbeats 4000000 in
set_option maxRecDepth 100000 in
theorem ctX3_begin (l : Launch) (g : GG) (σ : St) (σ' : St) (r : Unit) (hE : fX3_begin σ  = some (σ', r)) : MV 52 entC l g yX3_begin (Cond.code yX3_begin cX3_begin 1 none :: gtbl) (rmD 3) [.ref (g.2.1 24)] σ σ' := by
  refine mi_v (own := RX3) (lv := [(0, .ref (g.2.1 24))]) (by decide) rfl (Nat.le_of_ble_eq_true rfl) rfl (fun p e s m below meth c ls args Q A H0 H locs C hK hA hQ hs hl => ?_)
  have hx := C.1
  have hb := C.2.1
  unfold fX3_begin at hE
  refine lv_aload_n hx hb dX3_begin_0 rfl (lv_at hl 0 rfl) ?_
  refine lv_iconst (v := 0) hx hb dX3_begin_1 (by decide) ?_
  obtain ⟨σ1, eσ1, hE⟩ := pt_w hE
  refine pf_X3_34_24 C hK hs eσ1 dX3_begin_2 (fun H locs hs => ?_)
  refine lv_aload_n hx hb dX3_begin_5 rfl (lv_at hl 0 rfl) ?_
  refine gf_X3_25_24 C hK hs dX3_begin_6 ?_
  refine lv_iconst (v := (-1)) hx hb dX3_begin_9 (by decide) ?_
  obtain ⟨σ2, r3, hE1, hE⟩ := cl_e hE
  refine x_cvs (As := [.ref (g.2.1 40), .int (-1)]) (rest := []) C hl.1 hK hs hA ⟨Nat.le_refl 0, Nat.le_refl 0⟩ (ctJ7_fill_53178 l g _ _ _ _ _ hE1) (cw_X3_28 C ⟨Nat.le_of_ble_eq_true rfl, Nat.le_of_ble_eq_true rfl⟩) rfl rfl (Nat.le_of_ble_eq_true rfl) dX3_begin_10 (fun H locs hs => ?_)
  refine lv_aload_n hx hb dX3_begin_13 rfl (lv_at hl 0 rfl) ?_
  refine gf_X3_10_24 C hK hs dX3_begin_14 ?_
  obtain ⟨σ4, r5, hE1, hE⟩ := cl_e hE
  refine x_cvv (As := []) (rest := []) C hl.1 hK hs hA ⟨Nat.le_refl 0, Nat.le_refl 0⟩ (ctX9_begin l g _  _ _ hE1) (cw_X3_38 C ⟨Nat.le_of_ble_eq_true rfl, Nat.le_of_ble_eq_true rfl⟩) (hs.recv hK 25 (by decide) rfl rfl) rfl rfl (Nat.le_of_ble_eq_true rfl) dX3_begin_17 (fun H locs hs => ?_)
  exact hQ hs hE dX3_begin_20
theorem dX3_hasRoomFor_0 : decode cX3_hasRoomFor 0 = .ok (.aload_n 0, 1) := by decide +kernel
theorem dX3_hasRoomFor_1 : decode cX3_hasRoomFor 1 = .ok (.getfield 34, 3) := by decide +kernel
theorem dX3_hasRoomFor_4 : decode cX3_hasRoomFor 4 = .ok (.iload_n 1, 1) := by decide +kernel
theorem dX3_hasRoomFor_5 : decode cX3_hasRoomFor 5 = .ok (.iadd, 1) := by decide +kernel
theorem dX3_hasRoomFor_6 : decode cX3_hasRoomFor 6 = .ok (.bipush 40, 2) := by decide +kernel
theorem dX3_hasRoomFor_8 : decode cX3_hasRoomFor 8 = .ok (.if_icmp .gt 7, 3) := by decide +kernel
theorem dX3_hasRoomFor_11 : decode cX3_hasRoomFor 11 = .ok (.iconst 1, 1) := by decide +kernel
theorem dX3_hasRoomFor_12 : decode cX3_hasRoomFor 12 = .ok (.goto 4, 3) := by decide +kernel
theorem dX3_hasRoomFor_15 : decode cX3_hasRoomFor 15 = .ok (.iconst 0, 1) := by decide +kernel
theorem dX3_hasRoomFor_16 : decode cX3_hasRoomFor 16 = .ok (.ireturn, 1) := by decide +kernel
def fX3_hasRoomFor (σ : St) (p1 : Int32) : Option (St × Int32) := (if 40 < ((σ.1 24 4) + p1) then some (σ, 0) else some (σ, 1))
set_option maxHeartbeats 4000000 in
set_option maxRecDepth 100000 in
theorem ctX3_hasRoomFor (l : Launch) (g : GG) (σ : St) (p1 : Int32) (σ' : St) (r : Int32) (hE : fX3_hasRoomFor σ p1 = some (σ', r)) : MI 52 entC l g yX3_hasRoomFor (Cond.code yX3_hasRoomFor cX3_hasRoomFor 2 (some .boolean) :: gtbl) (rmD 1) [.ref (g.2.1 24), .int p1] σ σ' r := by
  refine mi_z (own := RX3) (lv := [(0, .ref (g.2.1 24)), (1, .int p1)]) (by decide) rfl (Nat.le_of_ble_eq_true rfl) rfl (fun p e s m below meth c ls args Q A H0 H locs C hK hA hQ hs hl => ?_)
  have hx := C.1
  have hb := C.2.1
  unfold fX3_hasRoomFor at hE
  refine lv_aload_n hx hb dX3_hasRoomFor_0 rfl (lv_at hl 0 rfl) ?_
  refine gf_X3_34_24 C hK hs dX3_hasRoomFor_1 ?_
  refine lv_iload_n hx hb dX3_hasRoomFor_4 rfl (lv_at hl 1 rfl) ?_
  refine lv_iadd hx hb dX3_hasRoomFor_5 ?_
  refine lv_bipush (v := 40) hx hb dX3_hasRoomFor_6 (by decide) ?_
  refine lv_icmp_gt (tgt := 15) hx hb dX3_hasRoomFor_8 (by decide) (fun hc => ?_) (fun hc => ?_)
  · have hE := if_t hc hE
    refine lv_iconst (v := 0) hx hb dX3_hasRoomFor_15 (by decide) ?_
    exact hQ hs rfl hE dX3_hasRoomFor_16
  · have hE := if_f hc hE
    refine lv_iconst (v := 1) hx hb dX3_hasRoomFor_11 (by decide) ?_
    refine lv_goto (tgt := 16) hx hb dX3_hasRoomFor_12 (by decide) ?_
    exact hQ hs rfl hE dX3_hasRoomFor_16
theorem dX6_holds_0 : decode cX6_holds 0 = .ok (.aload_n 0, 1) := by decide +kernel
theorem dX6_holds_1 : decode cX6_holds 1 = .ok (.getfield 22, 3) := by decide +kernel
theorem dX6_holds_4 : decode cX6_holds 4 = .ok (.iload_n 1, 1) := by decide +kernel
theorem dX6_holds_5 : decode cX6_holds 5 = .ok (.iaload, 1) := by decide +kernel
theorem dX6_holds_6 : decode cX6_holds 6 = .ok (.aload_n 0, 1) := by decide +kernel
theorem dX6_holds_7 : decode cX6_holds 7 = .ok (.getfield 19, 3) := by decide +kernel
theorem dX6_holds_10 : decode cX6_holds 10 = .ok (.iload_n 2, 1) := by decide +kernel
theorem dX6_holds_11 : decode cX6_holds 11 = .ok (.iaload, 1) := by decide +kernel
theorem dX6_holds_12 : decode cX6_holds 12 = .ok (.invokestatic 61, 3) := by decide +kernel
theorem dX6_holds_15 : decode cX6_holds 15 = .ok (.ireturn, 1) := by decide +kernel
def fX6_holds (σ : St) (p1 : Int32) (p2 : Int32) : Option (St × Int32) := rd LC σ 31 p1 (fun x1 => rd LC σ 30 p2 (fun x2 => cl (fX2_holds σ x1 x2) (fun σ3 r4 => some (σ3, r4))))
set_option maxHeartbeats 4000000 in
set_option maxRecDepth 100000 in
theorem ctX6_holds (l : Launch) (g : GG) (σ : St) (p1 : Int32) (p2 : Int32) (σ' : St) (r : Int32) (hE : fX6_holds σ p1 p2 = some (σ', r)) : MI 52 entC l g yX6_holds (Cond.code yX6_holds cX6_holds 3 (some .int) :: gtbl) (rmD 2) [.ref (g.2.1 26), .int p1, .int p2] σ σ' r := by
  refine mi_i (own := RX6) (lv := [(0, .ref (g.2.1 26)), (1, .int p1), (2, .int p2)]) (by decide) rfl (Nat.le_of_ble_eq_true rfl) rfl (fun p e s m below meth c ls args Q A H0 H locs C hK hA hQ hs hl => ?_)
  have hx := C.1
  have hb := C.2.1
  unfold fX6_holds at hE
  refine lv_aload_n hx hb dX6_holds_0 rfl (lv_at hl 0 rfl) ?_
  refine gf_X6_22_26 C hK hs dX6_holds_1 ?_
  refine lv_iload_n hx hb dX6_holds_4 rfl (lv_at hl 1 rfl) ?_
  obtain ⟨hi, x1, ex1, hE⟩ := rd_w hE
  refine y_ald layC C hK hs hi ex1 dX6_holds_5 ?_
  refine lv_aload_n hx hb dX6_holds_6 rfl (lv_at hl 0 rfl) ?_
  refine gf_X6_19_26 C hK hs dX6_holds_7 ?_
  refine lv_iload_n hx hb dX6_holds_10 rfl (lv_at hl 2 rfl) ?_
  obtain ⟨hi, x2, ex2, hE⟩ := rd_w hE
  refine y_ald layC C hK hs hi ex2 dX6_holds_11 ?_
  obtain ⟨σ3, r4, hE1, hE⟩ := cl_e hE
  refine x_cis (As := [.int x1, .int x2]) (rest := []) C hl.1 hK hs hA ⟨Nat.le_refl 0, Nat.le_refl 0⟩ (ctX2_holds l g _ _ _ _ _ hE1) (cw_X6_61 C ⟨Nat.le_of_ble_eq_true rfl, Nat.le_of_ble_eq_true rfl⟩) rfl rfl (Nat.le_of_ble_eq_true rfl) dX6_holds_12 (fun H locs hs => ?_)
  exact hQ hs hE dX6_holds_15
theorem dX6_pays_0 : decode cX6_pays 0 = .ok (.aload_n 0, 1) := by decide +kernel
theorem dX6_pays_1 : decode cX6_pays 1 = .ok (.getfield 22, 3) := by decide +kernel
theorem dX6_pays_4 : decode cX6_pays 4 = .ok (.iload_n 1, 1) := by decide +kernel
theorem dX6_pays_5 : decode cX6_pays 5 = .ok (.iaload, 1) := by decide +kernel
theorem dX6_pays_6 : decode cX6_pays 6 = .ok (.aload_n 0, 1) := by decide +kernel
theorem dX6_pays_7 : decode cX6_pays 7 = .ok (.getfield 16, 3) := by decide +kernel
theorem dX6_pays_10 : decode cX6_pays 10 = .ok (.iload_n 2, 1) := by decide +kernel
theorem dX6_pays_11 : decode cX6_pays 11 = .ok (.iaload, 1) := by decide +kernel
theorem dX6_pays_12 : decode cX6_pays 12 = .ok (.invokestatic 55, 3) := by decide +kernel
theorem dX6_pays_15 : decode cX6_pays 15 = .ok (.ireturn, 1) := by decide +kernel
def fX6_pays (σ : St) (p1 : Int32) (p2 : Int32) : Option (St × Int32) := rd LC σ 31 p1 (fun x1 => rd LC σ 29 p2 (fun x2 => cl (fX2_pays σ x1 x2) (fun σ3 r4 => some (σ3, r4))))
set_option maxHeartbeats 4000000 in
set_option maxRecDepth 100000 in
theorem ctX6_pays (l : Launch) (g : GG) (σ : St) (p1 : Int32) (p2 : Int32) (σ' : St) (r : Int32) (hE : fX6_pays σ p1 p2 = some (σ', r)) : MI 52 entC l g yX6_pays (Cond.code yX6_pays cX6_pays 3 (some .int) :: gtbl) (rmD 2) [.ref (g.2.1 26), .int p1, .int p2] σ σ' r := by
  refine mi_i (own := RX6) (lv := [(0, .ref (g.2.1 26)), (1, .int p1), (2, .int p2)]) (by decide) rfl (Nat.le_of_ble_eq_true rfl) rfl (fun p e s m below meth c ls args Q A H0 H locs C hK hA hQ hs hl => ?_)
  have hx := C.1
  have hb := C.2.1
  unfold fX6_pays at hE
  refine lv_aload_n hx hb dX6_pays_0 rfl (lv_at hl 0 rfl) ?_
  refine gf_X6_22_26 C hK hs dX6_pays_1 ?_
  refine lv_iload_n hx hb dX6_pays_4 rfl (lv_at hl 1 rfl) ?_
  obtain ⟨hi, x1, ex1, hE⟩ := rd_w hE
  refine y_ald layC C hK hs hi ex1 dX6_pays_5 ?_
  refine lv_aload_n hx hb dX6_pays_6 rfl (lv_at hl 0 rfl) ?_
  refine gf_X6_16_26 C hK hs dX6_pays_7 ?_
  refine lv_iload_n hx hb dX6_pays_10 rfl (lv_at hl 2 rfl) ?_
  obtain ⟨hi, x2, ex2, hE⟩ := rd_w hE
  refine y_ald layC C hK hs hi ex2 dX6_pays_11 ?_
  obtain ⟨σ3, r4, hE1, hE⟩ := cl_e hE
  refine x_cis (As := [.int x1, .int x2]) (rest := []) C hl.1 hK hs hA ⟨Nat.le_refl 0, Nat.le_refl 0⟩ (ctX2_pays l g _ _ _ _ _ hE1) (cw_X6_55 C ⟨Nat.le_of_ble_eq_true rfl, Nat.le_of_ble_eq_true rfl⟩) rfl rfl (Nat.le_of_ble_eq_true rfl) dX6_pays_12 (fun H locs hs => ?_)
  exact hQ hs hE dX6_pays_15
theorem dX9_slot_0 : decode cX9_slot 0 = .ok (.iload_n 0, 1) := by decide +kernel
theorem dX9_slot_1 : decode cX9_slot 1 = .ok (.bipush 8, 2) := by decide +kernel
theorem dX9_slot_3 : decode cX9_slot 3 = .ok (.imul, 1) := by decide +kernel
theorem dX9_slot_4 : decode cX9_slot 4 = .ok (.iload_n 1, 1) := by decide +kernel
theorem dX9_slot_5 : decode cX9_slot 5 = .ok (.iadd, 1) := by decide +kernel
theorem dX9_slot_6 : decode cX9_slot 6 = .ok (.ireturn, 1) := by decide +kernel
def fX9_slot (σ : St) (p0 : Int32) (p1 : Int32) : Option (St × Int32) := some (σ, (p0 * 8) + p1)
set_option maxHeartbeats 4000000 in
set_option maxRecDepth 100000 in
theorem ctX9_slot (l : Launch) (g : GG) (σ : St) (p0 : Int32) (p1 : Int32) (σ' : St) (r : Int32) (hE : fX9_slot σ p0 p1 = some (σ', r)) : MI 52 entC l g yX9_slot (Cond.code yX9_slot cX9_slot 2 (some .int) :: gtbl) (rmD 1) [.int p0, .int p1] σ σ' r := by
  refine mi_i (own := RX9) (lv := [(0, .int p0), (1, .int p1)]) (by decide) rfl (Nat.le_of_ble_eq_true rfl) rfl (fun p e s m below meth c ls args Q A H0 H locs C hK hA hQ hs hl => ?_)
  have hx := C.1
  have hb := C.2.1
  unfold fX9_slot at hE
  refine lv_iload_n hx hb dX9_slot_0 rfl (lv_at hl 0 rfl) ?_
  refine lv_bipush (v := 8) hx hb dX9_slot_1 (by decide) ?_
  refine lv_imul hx hb dX9_slot_3 ?_
  refine lv_iload_n hx hb dX9_slot_4 rfl (lv_at hl 1 rfl) ?_
  refine lv_iadd hx hb dX9_slot_5 ?_
  exact hQ hs hE dX9_slot_6
theorem dX9_acquire_0 : decode cX9_acquire 0 = .ok (.aload_n 0, 1) := by decide +kernel
theorem dX9_acquire_1 : decode cX9_acquire 1 = .ok (.getfield 16, 3) := by decide +kernel
theorem dX9_acquire_4 : decode cX9_acquire 4 = .ok (.iload_n 1, 1) := by decide +kernel
theorem dX9_acquire_5 : decode cX9_acquire 5 = .ok (.dup2, 1) := by decide +kernel
theorem dX9_acquire_6 : decode cX9_acquire 6 = .ok (.iaload, 1) := by decide +kernel
theorem dX9_acquire_7 : decode cX9_acquire 7 = .ok (.aload_n 0, 1) := by decide +kernel
theorem dX9_acquire_8 : decode cX9_acquire 8 = .ok (.getfield 10, 3) := by decide +kernel
theorem dX9_acquire_11 : decode cX9_acquire 11 = .ok (.iload_n 1, 1) := by decide +kernel
theorem dX9_acquire_12 : decode cX9_acquire 12 = .ok (.iload_n 2, 1) := by decide +kernel
theorem dX9_acquire_13 : decode cX9_acquire 13 = .ok (.invokevirtual 46, 3) := by decide +kernel
theorem dX9_acquire_16 : decode cX9_acquire 16 = .ok (.isub, 1) := by decide +kernel
theorem dX9_acquire_17 : decode cX9_acquire 17 = .ok (.iastore, 1) := by decide +kernel
theorem dX9_acquire_18 : decode cX9_acquire 18 = .ok (.aload_n 0, 1) := by decide +kernel
theorem dX9_acquire_19 : decode cX9_acquire 19 = .ok (.getfield 20, 3) := by decide +kernel
theorem dX9_acquire_22 : decode cX9_acquire 22 = .ok (.iload_n 1, 1) := by decide +kernel
theorem dX9_acquire_23 : decode cX9_acquire 23 = .ok (.iload_n 2, 1) := by decide +kernel
theorem dX9_acquire_24 : decode cX9_acquire 24 = .ok (.invokestatic 42, 3) := by decide +kernel
theorem dX9_acquire_27 : decode cX9_acquire 27 = .ok (.aload_n 0, 1) := by decide +kernel
theorem dX9_acquire_28 : decode cX9_acquire 28 = .ok (.getfield 23, 3) := by decide +kernel
theorem dX9_acquire_31 : decode cX9_acquire 31 = .ok (.aload_n 0, 1) := by decide +kernel
theorem dX9_acquire_32 : decode cX9_acquire 32 = .ok (.getfield 10, 3) := by decide +kernel
theorem dX9_acquire_35 : decode cX9_acquire 35 = .ok (.iload_n 1, 1) := by decide +kernel
theorem dX9_acquire_36 : decode cX9_acquire 36 = .ok (.iload_n 2, 1) := by decide +kernel
theorem dX9_acquire_37 : decode cX9_acquire 37 = .ok (.invokevirtual 49, 3) := by decide +kernel
theorem dX9_acquire_40 : decode cX9_acquire 40 = .ok (.iadd, 1) := by decide +kernel
theorem dX9_acquire_41 : decode cX9_acquire 41 = .ok (.iastore, 1) := by decide +kernel
theorem dX9_acquire_42 : decode cX9_acquire 42 = .ok (.return_, 1) := by decide +kernel
def fX9_acquire (σ : St) (p1 : Int32) (p2 : Int32) : Option (St × Unit) := rd LC σ 33 p1 (fun x1 => cl (fX6_pays σ p1 p2) (fun σ2 r3 => wr LC σ2 33 p1 (x1 - r3) (fun σ4 => cl (fX9_slot σ4 p1 p2) (fun σ5 r6 => cl (fX6_holds σ5 p1 p2) (fun σ7 r8 => wr LC σ7 34 r6 ((σ5.1 25 3) + r8) (fun σ9 => some (σ9, ())))))))
set_option maxHeartbeats 4000000 in
set_option maxRecDepth 100000 in
theorem ctX9_acquire (l : Launch) (g : GG) (σ : St) (p1 : Int32) (p2 : Int32) (σ' : St) (r : Unit) (hE : fX9_acquire σ p1 p2 = some (σ', r)) : MV 52 entC l g yX9_acquire (Cond.code yX9_acquire cX9_acquire 3 none :: gtbl) (rmD 3) [.ref (g.2.1 25), .int p1, .int p2] σ σ' := by
  refine mi_v (own := RX9) (lv := [(0, .ref (g.2.1 25)), (1, .int p1), (2, .int p2)]) (by decide) rfl (Nat.le_of_ble_eq_true rfl) rfl (fun p e s m below meth c ls args Q A H0 H locs C hK hA hQ hs hl => ?_)
  have hx := C.1
  have hb := C.2.1
  unfold fX9_acquire at hE
  refine lv_aload_n hx hb dX9_acquire_0 rfl (lv_at hl 0 rfl) ?_
  refine gf_X9_16_25 C hK hs dX9_acquire_1 ?_
  refine lv_iload_n hx hb dX9_acquire_4 rfl (lv_at hl 1 rfl) ?_
  refine lv_dup2_11 hx hb dX9_acquire_5 rfl rfl ?_
  obtain ⟨hi, x1, ex1, hE⟩ := rd_w hE
  refine y_ald layC C hK hs hi ex1 dX9_acquire_6 ?_
  refine lv_aload_n hx hb dX9_acquire_7 rfl (lv_at hl 0 rfl) ?_
  refine gf_X9_10_25 C hK hs dX9_acquire_8 ?_
  refine lv_iload_n hx hb dX9_acquire_11 rfl (lv_at hl 1 rfl) ?_
  refine lv_iload_n hx hb dX9_acquire_12 rfl (lv_at hl 2 rfl) ?_
  obtain ⟨σ2, r3, hE1, hE⟩ := cl_e hE
  refine x_civ (As := [.int p1, .int p2]) (rest := [.int x1, .int p1, .ref (g.2.1 33)]) C hl.1 hK hs hA ⟨Nat.le_refl 0, Nat.le_refl 0⟩ (ctX6_pays l g _ _ _ _ _ hE1) (cw_X9_46 C ⟨Nat.le_of_ble_eq_true rfl, Nat.le_of_ble_eq_true rfl⟩) (hs.recv hK 26 (by decide) rfl rfl) rfl rfl (Nat.le_of_ble_eq_true rfl) dX9_acquire_13 (fun H locs hs => ?_)
  refine lv_isub hx hb dX9_acquire_16 ?_
  obtain ⟨hi, σ4, eσ4, hE⟩ := wr_w hE
  refine y_ast layC C hK hs hi eσ4 dX9_acquire_17 (fun H locs hs => ?_)
  refine lv_aload_n hx hb dX9_acquire_18 rfl (lv_at hl 0 rfl) ?_
  refine gf_X9_20_25 C hK hs dX9_acquire_19 ?_
  refine lv_iload_n hx hb dX9_acquire_22 rfl (lv_at hl 1 rfl) ?_
  refine lv_iload_n hx hb dX9_acquire_23 rfl (lv_at hl 2 rfl) ?_
  obtain ⟨σ5, r6, hE1, hE⟩ := cl_e hE
  refine x_cis (As := [.int p1, .int p2]) (rest := [.ref (g.2.1 34)]) C hl.1 hK hs hA ⟨Nat.le_refl 0, Nat.le_refl 0⟩ (ctX9_slot l g _ _ _ _ _ hE1) (cw_X9_42 C ⟨Nat.le_of_ble_eq_true rfl, Nat.le_of_ble_eq_true rfl⟩) rfl rfl (Nat.le_of_ble_eq_true rfl) dX9_acquire_24 (fun H locs hs => ?_)
  refine lv_aload_n hx hb dX9_acquire_27 rfl (lv_at hl 0 rfl) ?_
  refine gf_X9_23_25 C hK hs dX9_acquire_28 ?_
  refine lv_aload_n hx hb dX9_acquire_31 rfl (lv_at hl 0 rfl) ?_
  refine gf_X9_10_25 C hK hs dX9_acquire_32 ?_
  refine lv_iload_n hx hb dX9_acquire_35 rfl (lv_at hl 1 rfl) ?_
  refine lv_iload_n hx hb dX9_acquire_36 rfl (lv_at hl 2 rfl) ?_
  obtain ⟨σ7, r8, hE1, hE⟩ := cl_e hE
  refine x_civ (As := [.int p1, .int p2]) (rest := [.int (σ5.1 25 3), .int r6, .ref (g.2.1 34)]) C hl.1 hK hs hA ⟨Nat.le_refl 0, Nat.le_refl 0⟩ (ctX6_holds l g _ _ _ _ _ hE1) (cw_X9_49 C ⟨Nat.le_of_ble_eq_true rfl, Nat.le_of_ble_eq_true rfl⟩) (hs.recv hK 26 (by decide) rfl rfl) rfl rfl (Nat.le_of_ble_eq_true rfl) dX9_acquire_37 (fun H locs hs => ?_)
  refine lv_iadd hx hb dX9_acquire_40 ?_
  obtain ⟨hi, σ9, eσ9, hE⟩ := wr_w hE
  refine y_ast layC C hK hs hi eσ9 dX9_acquire_41 (fun H locs hs => ?_)
  exact hQ hs hE dX9_acquire_42
theorem dX9_pass_0 : decode cX9_pass 0 = .ok (.aload_n 0, 1) := by decide +kernel
theorem dX9_pass_1 : decode cX9_pass 1 = .ok (.getfield 16, 3) := by decide +kernel
theorem dX9_pass_4 : decode cX9_pass 4 = .ok (.iload_n 1, 1) := by decide +kernel
theorem dX9_pass_5 : decode cX9_pass 5 = .ok (.dup2, 1) := by decide +kernel
theorem dX9_pass_6 : decode cX9_pass 6 = .ok (.iaload, 1) := by decide +kernel
theorem dX9_pass_7 : decode cX9_pass 7 = .ok (.iload_n 3, 1) := by decide +kernel
theorem dX9_pass_8 : decode cX9_pass 8 = .ok (.isub, 1) := by decide +kernel
theorem dX9_pass_9 : decode cX9_pass 9 = .ok (.iastore, 1) := by decide +kernel
theorem dX9_pass_10 : decode cX9_pass 10 = .ok (.aload_n 0, 1) := by decide +kernel
theorem dX9_pass_11 : decode cX9_pass 11 = .ok (.getfield 16, 3) := by decide +kernel
theorem dX9_pass_14 : decode cX9_pass 14 = .ok (.iload_n 2, 1) := by decide +kernel
theorem dX9_pass_15 : decode cX9_pass 15 = .ok (.dup2, 1) := by decide +kernel
theorem dX9_pass_16 : decode cX9_pass 16 = .ok (.iaload, 1) := by decide +kernel
theorem dX9_pass_17 : decode cX9_pass 17 = .ok (.iload_n 3, 1) := by decide +kernel
theorem dX9_pass_18 : decode cX9_pass 18 = .ok (.iadd, 1) := by decide +kernel
theorem dX9_pass_19 : decode cX9_pass 19 = .ok (.iastore, 1) := by decide +kernel
theorem dX9_pass_20 : decode cX9_pass 20 = .ok (.return_, 1) := by decide +kernel
def fX9_pass (σ : St) (p1 : Int32) (p2 : Int32) (p3 : Int32) : Option (St × Unit) := rd LC σ 33 p1 (fun x1 => wr LC σ 33 p1 (x1 - p3) (fun σ2 => rd LC σ2 33 p2 (fun x3 => wr LC σ2 33 p2 (x3 + p3) (fun σ4 => some (σ4, ())))))
set_option maxHeartbeats 4000000 in
set_option maxRecDepth 100000 in
theorem ctX9_pass (l : Launch) (g : GG) (σ : St) (p1 : Int32) (p2 : Int32) (p3 : Int32) (σ' : St) (r : Unit) (hE : fX9_pass σ p1 p2 p3 = some (σ', r)) : MV 52 entC l g yX9_pass (Cond.code yX9_pass cX9_pass 4 none :: gtbl) (rmD 1) [.ref (g.2.1 25), .int p1, .int p2, .int p3] σ σ' := by
  refine mi_v (own := RX9) (lv := [(0, .ref (g.2.1 25)), (1, .int p1), (2, .int p2), (3, .int p3)]) (by decide) rfl (Nat.le_of_ble_eq_true rfl) rfl (fun p e s m below meth c ls args Q A H0 H locs C hK hA hQ hs hl => ?_)
  have hx := C.1
  have hb := C.2.1
  unfold fX9_pass at hE
  refine lv_aload_n hx hb dX9_pass_0 rfl (lv_at hl 0 rfl) ?_
  refine gf_X9_16_25 C hK hs dX9_pass_1 ?_
  refine lv_iload_n hx hb dX9_pass_4 rfl (lv_at hl 1 rfl) ?_
  refine lv_dup2_11 hx hb dX9_pass_5 rfl rfl ?_
  obtain ⟨hi, x1, ex1, hE⟩ := rd_w hE
  refine y_ald layC C hK hs hi ex1 dX9_pass_6 ?_
  refine lv_iload_n hx hb dX9_pass_7 rfl (lv_at hl 3 rfl) ?_
  refine lv_isub hx hb dX9_pass_8 ?_
  obtain ⟨hi, σ2, eσ2, hE⟩ := wr_w hE
  refine y_ast layC C hK hs hi eσ2 dX9_pass_9 (fun H locs hs => ?_)
  refine lv_aload_n hx hb dX9_pass_10 rfl (lv_at hl 0 rfl) ?_
  refine gf_X9_16_25 C hK hs dX9_pass_11 ?_
  refine lv_iload_n hx hb dX9_pass_14 rfl (lv_at hl 2 rfl) ?_
  refine lv_dup2_11 hx hb dX9_pass_15 rfl rfl ?_
  obtain ⟨hi, x3, ex3, hE⟩ := rd_w hE
  refine y_ald layC C hK hs hi ex3 dX9_pass_16 ?_
  refine lv_iload_n hx hb dX9_pass_17 rfl (lv_at hl 3 rfl) ?_
  refine lv_iadd hx hb dX9_pass_18 ?_
  obtain ⟨hi, σ4, eσ4, hE⟩ := wr_w hE
  refine y_ast layC C hK hs hi eσ4 dX9_pass_19 (fun H locs hs => ?_)
  exact hQ hs hE dX9_pass_20
theorem dX6_purseBehind_0 : decode cX6_purseBehind 0 = .ok (.aload_n 0, 1) := by decide +kernel
theorem dX6_purseBehind_1 : decode cX6_purseBehind 1 = .ok (.getfield 22, 3) := by decide +kernel
theorem dX6_purseBehind_4 : decode cX6_purseBehind 4 = .ok (.iload_n 1, 1) := by decide +kernel
theorem dX6_purseBehind_5 : decode cX6_purseBehind 5 = .ok (.iaload, 1) := by decide +kernel
theorem dX6_purseBehind_6 : decode cX6_purseBehind 6 = .ok (.aload_n 0, 1) := by decide +kernel
theorem dX6_purseBehind_7 : decode cX6_purseBehind 7 = .ok (.getfield 25, 3) := by decide +kernel
theorem dX6_purseBehind_10 : decode cX6_purseBehind 10 = .ok (.iload_n 1, 1) := by decide +kernel
theorem dX6_purseBehind_11 : decode cX6_purseBehind 11 = .ok (.iaload, 1) := by decide +kernel
theorem dX6_purseBehind_12 : decode cX6_purseBehind 12 = .ok (.iload_n 2, 1) := by decide +kernel
theorem dX6_purseBehind_13 : decode cX6_purseBehind 13 = .ok (.invokestatic 64, 3) := by decide +kernel
theorem dX6_purseBehind_16 : decode cX6_purseBehind 16 = .ok (.ireturn, 1) := by decide +kernel
def fX6_purseBehind (σ : St) (p1 : Int32) (p2 : Int32) : Option (St × Int32) := rd LC σ 31 p1 (fun x1 => rd LC σ 32 p1 (fun x2 => cl (fX2_purseBehind σ x1 x2 p2) (fun σ3 r4 => some (σ3, r4))))
set_option maxHeartbeats 4000000 in
set_option maxRecDepth 100000 in
theorem ctX6_purseBehind (l : Launch) (g : GG) (σ : St) (p1 : Int32) (p2 : Int32) (σ' : St) (r : Int32) (hE : fX6_purseBehind σ p1 p2 = some (σ', r)) : MI 52 entC l g yX6_purseBehind (Cond.code yX6_purseBehind cX6_purseBehind 3 (some .int) :: gtbl) (rmD 2) [.ref (g.2.1 26), .int p1, .int p2] σ σ' r := by
  refine mi_i (own := RX6) (lv := [(0, .ref (g.2.1 26)), (1, .int p1), (2, .int p2)]) (by decide) rfl (Nat.le_of_ble_eq_true rfl) rfl (fun p e s m below meth c ls args Q A H0 H locs C hK hA hQ hs hl => ?_)
  have hx := C.1
  have hb := C.2.1
  unfold fX6_purseBehind at hE
  refine lv_aload_n hx hb dX6_purseBehind_0 rfl (lv_at hl 0 rfl) ?_
  refine gf_X6_22_26 C hK hs dX6_purseBehind_1 ?_
  refine lv_iload_n hx hb dX6_purseBehind_4 rfl (lv_at hl 1 rfl) ?_
  obtain ⟨hi, x1, ex1, hE⟩ := rd_w hE
  refine y_ald layC C hK hs hi ex1 dX6_purseBehind_5 ?_
  refine lv_aload_n hx hb dX6_purseBehind_6 rfl (lv_at hl 0 rfl) ?_
  refine gf_X6_25_26 C hK hs dX6_purseBehind_7 ?_
  refine lv_iload_n hx hb dX6_purseBehind_10 rfl (lv_at hl 1 rfl) ?_
  obtain ⟨hi, x2, ex2, hE⟩ := rd_w hE
  refine y_ald layC C hK hs hi ex2 dX6_purseBehind_11 ?_
  refine lv_iload_n hx hb dX6_purseBehind_12 rfl (lv_at hl 2 rfl) ?_
  obtain ⟨σ3, r4, hE1, hE⟩ := cl_e hE
  refine x_cis (As := [.int x1, .int x2, .int p2]) (rest := []) C hl.1 hK hs hA ⟨Nat.le_refl 0, Nat.le_refl 0⟩ (ctX2_purseBehind l g _ _ _ _ _ _ hE1) (cw_X6_64 C ⟨Nat.le_of_ble_eq_true rfl, Nat.le_of_ble_eq_true rfl⟩) rfl rfl (Nat.le_of_ble_eq_true rfl) dX6_purseBehind_13 (fun H locs hs => ?_)
  exact hQ hs hE dX6_purseBehind_16
theorem dX9_passMonth_0 : decode cX9_passMonth 0 = .ok (.aload_n 0, 1) := by decide +kernel
theorem dX9_passMonth_1 : decode cX9_passMonth 1 = .ok (.dup, 1) := by decide +kernel
theorem dX9_passMonth_2 : decode cX9_passMonth 2 = .ok (.getfield 23, 3) := by decide +kernel
theorem dX9_passMonth_5 : decode cX9_passMonth 5 = .ok (.iconst 1, 1) := by decide +kernel
theorem dX9_passMonth_6 : decode cX9_passMonth 6 = .ok (.iadd, 1) := by decide +kernel
theorem dX9_passMonth_7 : decode cX9_passMonth 7 = .ok (.putfield 23, 3) := by decide +kernel
theorem dX9_passMonth_10 : decode cX9_passMonth 10 = .ok (.iconst 0, 1) := by decide +kernel
theorem dX9_passMonth_11 : decode cX9_passMonth 11 = .ok (.istore_n 1, 1) := by decide +kernel
theorem dX9_passMonth_12 : decode cX9_passMonth 12 = .ok (.iload_n 1, 1) := by decide +kernel
theorem dX9_passMonth_13 : decode cX9_passMonth 13 = .ok (.aload_n 0, 1) := by decide +kernel
theorem dX9_passMonth_14 : decode cX9_passMonth 14 = .ok (.getfield 20, 3) := by decide +kernel
theorem dX9_passMonth_17 : decode cX9_passMonth 17 = .ok (.arraylength, 1) := by decide +kernel
theorem dX9_passMonth_18 : decode cX9_passMonth 18 = .ok (.if_icmp .ge 29, 3) := by decide +kernel
theorem dX9_passMonth_21 : decode cX9_passMonth 21 = .ok (.aload_n 0, 1) := by decide +kernel
theorem dX9_passMonth_22 : decode cX9_passMonth 22 = .ok (.getfield 20, 3) := by decide +kernel
theorem dX9_passMonth_25 : decode cX9_passMonth 25 = .ok (.iload_n 1, 1) := by decide +kernel
theorem dX9_passMonth_26 : decode cX9_passMonth 26 = .ok (.iaload, 1) := by decide +kernel
theorem dX9_passMonth_27 : decode cX9_passMonth 27 = .ok (.aload_n 0, 1) := by decide +kernel
theorem dX9_passMonth_28 : decode cX9_passMonth 28 = .ok (.getfield 23, 3) := by decide +kernel
theorem dX9_passMonth_31 : decode cX9_passMonth 31 = .ok (.if_icmp .gt 10, 3) := by decide +kernel
theorem dX9_passMonth_34 : decode cX9_passMonth 34 = .ok (.aload_n 0, 1) := by decide +kernel
theorem dX9_passMonth_35 : decode cX9_passMonth 35 = .ok (.getfield 20, 3) := by decide +kernel
theorem dX9_passMonth_38 : decode cX9_passMonth 38 = .ok (.iload_n 1, 1) := by decide +kernel
theorem dX9_passMonth_39 : decode cX9_passMonth 39 = .ok (.iconst 0, 1) := by decide +kernel
theorem dX9_passMonth_40 : decode cX9_passMonth 40 = .ok (.iastore, 1) := by decide +kernel
theorem dX9_passMonth_41 : decode cX9_passMonth 41 = .ok (.iinc 1 1, 3) := by decide +kernel
theorem dX9_passMonth_44 : decode cX9_passMonth 44 = .ok (.goto (-32), 3) := by decide +kernel
theorem dX9_passMonth_47 : decode cX9_passMonth 47 = .ok (.iconst 0, 1) := by decide +kernel
theorem dX9_passMonth_48 : decode cX9_passMonth 48 = .ok (.istore_n 1, 1) := by decide +kernel
theorem dX9_passMonth_49 : decode cX9_passMonth 49 = .ok (.iload_n 1, 1) := by decide +kernel
theorem dX9_passMonth_50 : decode cX9_passMonth 50 = .ok (.aload_n 0, 1) := by decide +kernel
theorem dX9_passMonth_51 : decode cX9_passMonth 51 = .ok (.getfield 10, 3) := by decide +kernel
theorem dX9_passMonth_54 : decode cX9_passMonth 54 = .ok (.getfield 52, 3) := by decide +kernel
theorem dX9_passMonth_57 : decode cX9_passMonth 57 = .ok (.if_icmp .ge 29, 3) := by decide +kernel
theorem dX9_passMonth_60 : decode cX9_passMonth 60 = .ok (.aload_n 0, 1) := by decide +kernel
theorem dX9_passMonth_61 : decode cX9_passMonth 61 = .ok (.getfield 16, 3) := by decide +kernel
theorem dX9_passMonth_64 : decode cX9_passMonth 64 = .ok (.iload_n 1, 1) := by decide +kernel
theorem dX9_passMonth_65 : decode cX9_passMonth 65 = .ok (.aload_n 0, 1) := by decide +kernel
theorem dX9_passMonth_66 : decode cX9_passMonth 66 = .ok (.getfield 10, 3) := by decide +kernel
theorem dX9_passMonth_69 : decode cX9_passMonth 69 = .ok (.iload_n 1, 1) := by decide +kernel
theorem dX9_passMonth_70 : decode cX9_passMonth 70 = .ok (.aload_n 0, 1) := by decide +kernel
theorem dX9_passMonth_71 : decode cX9_passMonth 71 = .ok (.getfield 16, 3) := by decide +kernel
theorem dX9_passMonth_74 : decode cX9_passMonth 74 = .ok (.iload_n 1, 1) := by decide +kernel
theorem dX9_passMonth_75 : decode cX9_passMonth 75 = .ok (.iaload, 1) := by decide +kernel
theorem dX9_passMonth_76 : decode cX9_passMonth 76 = .ok (.invokevirtual 55, 3) := by decide +kernel
theorem dX9_passMonth_79 : decode cX9_passMonth 79 = .ok (.iastore, 1) := by decide +kernel
theorem dX9_passMonth_80 : decode cX9_passMonth 80 = .ok (.iinc 1 1, 3) := by decide +kernel
theorem dX9_passMonth_83 : decode cX9_passMonth 83 = .ok (.goto (-34), 3) := by decide +kernel
theorem dX9_passMonth_86 : decode cX9_passMonth 86 = .ok (.return_, 1) := by decide +kernel
def fX9_passMonth_L12 : Nat → St → Int32 → (St → Int32 → Option (St × Unit)) → Option (St × Unit)
  | 0, _, _, _ => none
  | n + 1, σ2, v3, k => (if (nI (LC 34)) ≤ v3 then k σ2 v3 else rd LC σ2 34 v3 (fun x4 => jn (fun (σ6 : St) => fX9_passMonth_L12 n σ6 (v3 + 1) k) (fun k5 => (if (σ2.1 25 3) < x4 then k5 σ2 else wr LC σ2 34 v3 0 (fun σ7 => k5 σ7)))))
def fX9_passMonth_L49 : Nat → St → Int32 → (St → Int32 → Option (St × Unit)) → Option (St × Unit)
  | 0, _, _, _ => none
  | n + 1, σ10, v11, k => (if (σ10.1 26 7) ≤ v11 then k σ10 v11 else rd LC σ10 33 v11 (fun x12 => cl (fX6_purseBehind σ10 v11 x12) (fun σ13 r14 => wr LC σ13 33 v11 r14 (fun σ15 => fX9_passMonth_L49 n σ15 (v11 + 1) k))))
def fX9_passMonth (σ : St) : Option (St × Unit) := pt (su σ 25 3 ((σ.1 25 3) + 1)) (fun σ1 => fX9_passMonth_L12 10000 σ1 0 (fun σ8 v9 => fX9_passMonth_L49 10000 σ8 0 (fun σ16 v17 => some (σ16, ()))))
set_option maxHeartbeats 4000000 in
set_option maxRecDepth 100000 in
theorem ctX9_passMonth (l : Launch) (g : GG) (σ : St) (σ' : St) (r : Unit) (hE : fX9_passMonth σ  = some (σ', r)) : MV 52 entC l g yX9_passMonth (Cond.code yX9_passMonth cX9_passMonth 2 none :: gtbl) (rmD 3) [.ref (g.2.1 25)] σ σ' := by
  refine mi_v (own := RX9) (lv := [(0, .ref (g.2.1 25))]) (by decide) rfl (Nat.le_of_ble_eq_true rfl) rfl (fun p e s m below meth c ls args Q A H0 H locs C hK hA hQ hs hl => ?_)
  have hx := C.1
  have hb := C.2.1
  unfold fX9_passMonth at hE
  refine lv_aload_n hx hb dX9_passMonth_0 rfl (lv_at hl 0 rfl) ?_
  refine lv_dup hx hb dX9_passMonth_1 rfl ?_
  refine gf_X9_23_25 C hK hs dX9_passMonth_2 ?_
  refine lv_iconst (v := 1) hx hb dX9_passMonth_5 (by decide) ?_
  refine lv_iadd hx hb dX9_passMonth_6 ?_
  obtain ⟨σ1, eσ1, hE⟩ := pt_w hE
  refine pf_X9_23_25 C hK hs eσ1 dX9_passMonth_7 (fun H locs hs => ?_)
  refine lv_iconst (v := 0) hx hb dX9_passMonth_10 (by decide) ?_
  refine lv_istore_n (lv' := [(1, .int 0), (0, .ref (g.2.1 25))]) hx hb dX9_passMonth_11 rfl hl (by decide) rfl (fun ls hl => ?_)
  have hL12 : ∀ (n : Nat) (σ2 : St) (v3 : Int32) (k : St → Int32 → Option (St × Unit)), fX9_passMonth_L12 n σ2 v3 k = some (σ', r) → (∀ (σ2 : St) (v3 : Int32) (H : Heap) (locs : List Loc) (ls : Array Slot), HW 52 entC g A H0 H locs σ2 → lv_has ls 2 [(0, .ref (g.2.1 25)), (1, .int v3)] → k σ2 v3 = some (σ', r) → W p l e (rmD 3) s m args below meth c H locs 0 0 Q (F0 m 47 ls [])) → ∀ (H : Heap) (locs : List Loc) (ls : Array Slot), HW 52 entC g A H0 H locs σ2 → lv_has ls 2 [(0, .ref (g.2.1 25)), (1, .int v3)] → W p l e (rmD 3) s m args below meth c H locs 0 0 Q (F0 m 12 ls []) := by
    intro n
    induction n with
    | zero =>
      intro σ2 v3 k hE
      rw [fX9_passMonth_L12] at hE
      exact no_e hE
    | succ n ih =>
      intro σ2 v3 k hE hk H locs ls hs hl
      rw [fX9_passMonth_L12] at hE
      refine lv_iload_n hx hb dX9_passMonth_12 rfl (lv_at hl 1 rfl) ?_
      refine lv_aload_n hx hb dX9_passMonth_13 rfl (lv_at hl 0 rfl) ?_
      refine gf_X9_20_25 C hK hs dX9_passMonth_14 ?_
      refine x_len layC C hK hs (k := 34) (by decide) dX9_passMonth_17 ?_
      refine lv_icmp_ge (tgt := 47) hx hb dX9_passMonth_18 (by decide) (fun hc => ?_) (fun hc => ?_)
      · have hE := if_t hc hE
        exact hk σ2 v3 _ _ _ hs (lv_sub hl [0, 1] rfl) hE
      · have hE := if_f hc hE
        refine lv_aload_n hx hb dX9_passMonth_21 rfl (lv_at hl 0 rfl) ?_
        refine gf_X9_20_25 C hK hs dX9_passMonth_22 ?_
        refine lv_iload_n hx hb dX9_passMonth_25 rfl (lv_at hl 1 rfl) ?_
        obtain ⟨hi, x4, ex4, hE⟩ := rd_w hE
        refine y_ald layC C hK hs hi ex4 dX9_passMonth_26 ?_
        refine lv_aload_n hx hb dX9_passMonth_27 rfl (lv_at hl 0 rfl) ?_
        refine gf_X9_23_25 C hK hs dX9_passMonth_28 ?_
        refine jn1 hE (fun k5 hE hk5 => ?_)
        have hJk5 : ∀ (σ6 : St) (H : Heap) (locs : List Loc) (ls : Array Slot), HW 52 entC g A H0 H locs σ6 → lv_has ls 2 [(0, .ref (g.2.1 25)), (1, .int v3)] → k5 σ6 = some (σ', r) → W p l e (rmD 3) s m args below meth c H locs 0 0 Q (F0 m 41 ls []) := by
          intro σ6 H locs ls hs hl hE
          have hE := hk5 _ hE
          refine lv_iinc (v := v3 + 1) (lv' := [(1, .int (v3 + 1)), (0, .ref (g.2.1 25))]) hx hb dX9_passMonth_41 hl (k := 1) rfl rfl (by decide) rfl (fun ls hl => ?_)
          refine lv_goto (tgt := 12) hx hb dX9_passMonth_44 (by decide) ?_
          exact ih _ _ _ hE hk _ _ _ hs (lv_sub hl [1, 0] rfl)
        refine lv_icmp_gt (tgt := 41) hx hb dX9_passMonth_31 (by decide) (fun hc => ?_) (fun hc => ?_)
        · have hE := if_t hc hE
          exact hJk5 σ2 _ _ _ hs (lv_sub hl [0, 1] rfl) hE
        · have hE := if_f hc hE
          refine lv_aload_n hx hb dX9_passMonth_34 rfl (lv_at hl 0 rfl) ?_
          refine gf_X9_20_25 C hK hs dX9_passMonth_35 ?_
          refine lv_iload_n hx hb dX9_passMonth_38 rfl (lv_at hl 1 rfl) ?_
          refine lv_iconst (v := 0) hx hb dX9_passMonth_39 (by decide) ?_
          obtain ⟨hi, σ7, eσ7, hE⟩ := wr_w hE
          refine y_ast layC C hK hs hi eσ7 dX9_passMonth_40 (fun H locs hs => ?_)
          exact hJk5 σ7 _ _ _ hs (lv_sub hl [0, 1] rfl) hE
  refine hL12 _ _ _ _ hE (fun σ8 v9 H locs ls hs hl hE => ?_) H locs ls hs (lv_sub hl [1, 0] rfl)
  refine lv_iconst (v := 0) hx hb dX9_passMonth_47 (by decide) ?_
  refine lv_istore_n (lv' := [(1, .int 0), (0, .ref (g.2.1 25))]) hx hb dX9_passMonth_48 rfl hl (by decide) rfl (fun ls hl => ?_)
  have hL49 : ∀ (n : Nat) (σ10 : St) (v11 : Int32) (k : St → Int32 → Option (St × Unit)), fX9_passMonth_L49 n σ10 v11 k = some (σ', r) → (∀ (σ10 : St) (v11 : Int32) (H : Heap) (locs : List Loc) (ls : Array Slot), HW 52 entC g A H0 H locs σ10 → lv_has ls 2 [(0, .ref (g.2.1 25)), (1, .int v11)] → k σ10 v11 = some (σ', r) → W p l e (rmD 3) s m args below meth c H locs 0 0 Q (F0 m 86 ls [])) → ∀ (H : Heap) (locs : List Loc) (ls : Array Slot), HW 52 entC g A H0 H locs σ10 → lv_has ls 2 [(0, .ref (g.2.1 25)), (1, .int v11)] → W p l e (rmD 3) s m args below meth c H locs 0 0 Q (F0 m 49 ls []) := by
    intro n
    induction n with
    | zero =>
      intro σ10 v11 k hE
      rw [fX9_passMonth_L49] at hE
      exact no_e hE
    | succ n ih =>
      intro σ10 v11 k hE hk H locs ls hs hl
      rw [fX9_passMonth_L49] at hE
      refine lv_iload_n hx hb dX9_passMonth_49 rfl (lv_at hl 1 rfl) ?_
      refine lv_aload_n hx hb dX9_passMonth_50 rfl (lv_at hl 0 rfl) ?_
      refine gf_X9_10_25 C hK hs dX9_passMonth_51 ?_
      refine gf_X9_52_26 C hK hs dX9_passMonth_54 ?_
      refine lv_icmp_ge (tgt := 86) hx hb dX9_passMonth_57 (by decide) (fun hc => ?_) (fun hc => ?_)
      · have hE := if_t hc hE
        exact hk σ10 v11 _ _ _ hs (lv_sub hl [0, 1] rfl) hE
      · have hE := if_f hc hE
        refine lv_aload_n hx hb dX9_passMonth_60 rfl (lv_at hl 0 rfl) ?_
        refine gf_X9_16_25 C hK hs dX9_passMonth_61 ?_
        refine lv_iload_n hx hb dX9_passMonth_64 rfl (lv_at hl 1 rfl) ?_
        refine lv_aload_n hx hb dX9_passMonth_65 rfl (lv_at hl 0 rfl) ?_
        refine gf_X9_10_25 C hK hs dX9_passMonth_66 ?_
        refine lv_iload_n hx hb dX9_passMonth_69 rfl (lv_at hl 1 rfl) ?_
        refine lv_aload_n hx hb dX9_passMonth_70 rfl (lv_at hl 0 rfl) ?_
        refine gf_X9_16_25 C hK hs dX9_passMonth_71 ?_
        refine lv_iload_n hx hb dX9_passMonth_74 rfl (lv_at hl 1 rfl) ?_
        obtain ⟨hi, x12, ex12, hE⟩ := rd_w hE
        refine y_ald layC C hK hs hi ex12 dX9_passMonth_75 ?_
        obtain ⟨σ13, r14, hE1, hE⟩ := cl_e hE
        refine x_civ (As := [.int v11, .int x12]) (rest := [.int v11, .ref (g.2.1 33)]) C hl.1 hK hs hA ⟨Nat.le_refl 0, Nat.le_refl 0⟩ (ctX6_purseBehind l g _ _ _ _ _ hE1) (cw_X9_55 C ⟨Nat.le_of_ble_eq_true rfl, Nat.le_of_ble_eq_true rfl⟩) (hs.recv hK 26 (by decide) rfl rfl) rfl rfl (Nat.le_of_ble_eq_true rfl) dX9_passMonth_76 (fun H locs hs => ?_)
        obtain ⟨hi, σ15, eσ15, hE⟩ := wr_w hE
        refine y_ast layC C hK hs hi eσ15 dX9_passMonth_79 (fun H locs hs => ?_)
        refine lv_iinc (v := v11 + 1) (lv' := [(1, .int (v11 + 1)), (0, .ref (g.2.1 25))]) hx hb dX9_passMonth_80 hl (k := 1) rfl rfl (by decide) rfl (fun ls hl => ?_)
        refine lv_goto (tgt := 49) hx hb dX9_passMonth_83 (by decide) ?_
        exact ih _ _ _ hE hk _ _ _ hs (lv_sub hl [1, 0] rfl)
  refine hL49 _ _ _ _ hE (fun σ16 v17 H locs ls hs hl hE => ?_) H locs ls hs (lv_sub hl [1, 0] rfl)
  exact hQ hs hE dX9_passMonth_86
theorem dX9_swap_0 : decode cX9_swap 0 = .ok (.aload_n 0, 1) := by decide +kernel
theorem dX9_swap_1 : decode cX9_swap 1 = .ok (.getfield 20, 3) := by decide +kernel
theorem dX9_swap_4 : decode cX9_swap 4 = .ok (.iload_n 3, 1) := by decide +kernel
theorem dX9_swap_5 : decode cX9_swap 5 = .ok (.iload_n 2, 1) := by decide +kernel
theorem dX9_swap_6 : decode cX9_swap 6 = .ok (.invokestatic 42, 3) := by decide +kernel
theorem dX9_swap_9 : decode cX9_swap 9 = .ok (.aload_n 0, 1) := by decide +kernel
theorem dX9_swap_10 : decode cX9_swap 10 = .ok (.getfield 20, 3) := by decide +kernel
theorem dX9_swap_13 : decode cX9_swap 13 = .ok (.iload_n 1, 1) := by decide +kernel
theorem dX9_swap_14 : decode cX9_swap 14 = .ok (.iload_n 2, 1) := by decide +kernel
theorem dX9_swap_15 : decode cX9_swap 15 = .ok (.invokestatic 42, 3) := by decide +kernel
theorem dX9_swap_18 : decode cX9_swap 18 = .ok (.iaload, 1) := by decide +kernel
theorem dX9_swap_19 : decode cX9_swap 19 = .ok (.iastore, 1) := by decide +kernel
theorem dX9_swap_20 : decode cX9_swap 20 = .ok (.aload_n 0, 1) := by decide +kernel
theorem dX9_swap_21 : decode cX9_swap 21 = .ok (.getfield 20, 3) := by decide +kernel
theorem dX9_swap_24 : decode cX9_swap 24 = .ok (.iload_n 1, 1) := by decide +kernel
theorem dX9_swap_25 : decode cX9_swap 25 = .ok (.iload 4, 2) := by decide +kernel
theorem dX9_swap_27 : decode cX9_swap 27 = .ok (.invokestatic 42, 3) := by decide +kernel
theorem dX9_swap_30 : decode cX9_swap 30 = .ok (.aload_n 0, 1) := by decide +kernel
theorem dX9_swap_31 : decode cX9_swap 31 = .ok (.getfield 20, 3) := by decide +kernel
theorem dX9_swap_34 : decode cX9_swap 34 = .ok (.iload_n 3, 1) := by decide +kernel
theorem dX9_swap_35 : decode cX9_swap 35 = .ok (.iload 4, 2) := by decide +kernel
theorem dX9_swap_37 : decode cX9_swap 37 = .ok (.invokestatic 42, 3) := by decide +kernel
theorem dX9_swap_40 : decode cX9_swap 40 = .ok (.iaload, 1) := by decide +kernel
theorem dX9_swap_41 : decode cX9_swap 41 = .ok (.iastore, 1) := by decide +kernel
theorem dX9_swap_42 : decode cX9_swap 42 = .ok (.aload_n 0, 1) := by decide +kernel
theorem dX9_swap_43 : decode cX9_swap 43 = .ok (.getfield 20, 3) := by decide +kernel
theorem dX9_swap_46 : decode cX9_swap 46 = .ok (.iload_n 1, 1) := by decide +kernel
theorem dX9_swap_47 : decode cX9_swap 47 = .ok (.iload_n 2, 1) := by decide +kernel
theorem dX9_swap_48 : decode cX9_swap 48 = .ok (.invokestatic 42, 3) := by decide +kernel
theorem dX9_swap_51 : decode cX9_swap 51 = .ok (.iconst 0, 1) := by decide +kernel
theorem dX9_swap_52 : decode cX9_swap 52 = .ok (.iastore, 1) := by decide +kernel
theorem dX9_swap_53 : decode cX9_swap 53 = .ok (.aload_n 0, 1) := by decide +kernel
theorem dX9_swap_54 : decode cX9_swap 54 = .ok (.getfield 20, 3) := by decide +kernel
theorem dX9_swap_57 : decode cX9_swap 57 = .ok (.iload_n 3, 1) := by decide +kernel
theorem dX9_swap_58 : decode cX9_swap 58 = .ok (.iload 4, 2) := by decide +kernel
theorem dX9_swap_60 : decode cX9_swap 60 = .ok (.invokestatic 42, 3) := by decide +kernel
theorem dX9_swap_63 : decode cX9_swap 63 = .ok (.iconst 0, 1) := by decide +kernel
theorem dX9_swap_64 : decode cX9_swap 64 = .ok (.iastore, 1) := by decide +kernel
theorem dX9_swap_65 : decode cX9_swap 65 = .ok (.return_, 1) := by decide +kernel
def fX9_swap (σ : St) (p1 : Int32) (p2 : Int32) (p3 : Int32) (p4 : Int32) : Option (St × Unit) := cl (fX9_slot σ p3 p2) (fun σ1 r2 => cl (fX9_slot σ1 p1 p2) (fun σ3 r4 => rd LC σ3 34 r4 (fun x5 => wr LC σ3 34 r2 x5 (fun σ6 => cl (fX9_slot σ6 p1 p4) (fun σ7 r8 => cl (fX9_slot σ7 p3 p4) (fun σ9 r10 => rd LC σ9 34 r10 (fun x11 => wr LC σ9 34 r8 x11 (fun σ12 => cl (fX9_slot σ12 p1 p2) (fun σ13 r14 => wr LC σ13 34 r14 0 (fun σ15 => cl (fX9_slot σ15 p3 p4) (fun σ16 r17 => wr LC σ16 34 r17 0 (fun σ18 => some (σ18, ())))))))))))))
set_option maxHeartbeats 4000000 in
set_option maxRecDepth 100000 in
theorem ctX9_swap (l : Launch) (g : GG) (σ : St) (p1 : Int32) (p2 : Int32) (p3 : Int32) (p4 : Int32) (σ' : St) (r : Unit) (hE : fX9_swap σ p1 p2 p3 p4 = some (σ', r)) : MV 52 entC l g yX9_swap (Cond.code yX9_swap cX9_swap 5 none :: gtbl) (rmD 2) [.ref (g.2.1 25), .int p1, .int p2, .int p3, .int p4] σ σ' := by
  refine mi_v (own := RX9) (lv := [(0, .ref (g.2.1 25)), (1, .int p1), (2, .int p2), (3, .int p3), (4, .int p4)]) (by decide) rfl (Nat.le_of_ble_eq_true rfl) rfl (fun p e s m below meth c ls args Q A H0 H locs C hK hA hQ hs hl => ?_)
  have hx := C.1
  have hb := C.2.1
  unfold fX9_swap at hE
  refine lv_aload_n hx hb dX9_swap_0 rfl (lv_at hl 0 rfl) ?_
  refine gf_X9_20_25 C hK hs dX9_swap_1 ?_
  refine lv_iload_n hx hb dX9_swap_4 rfl (lv_at hl 3 rfl) ?_
  refine lv_iload_n hx hb dX9_swap_5 rfl (lv_at hl 2 rfl) ?_
  obtain ⟨σ1, r2, hE1, hE⟩ := cl_e hE
  refine x_cis (As := [.int p3, .int p2]) (rest := [.ref (g.2.1 34)]) C hl.1 hK hs hA ⟨Nat.le_refl 0, Nat.le_refl 0⟩ (ctX9_slot l g _ _ _ _ _ hE1) (cw_X9_42 C ⟨Nat.le_of_ble_eq_true rfl, Nat.le_of_ble_eq_true rfl⟩) rfl rfl (Nat.le_of_ble_eq_true rfl) dX9_swap_6 (fun H locs hs => ?_)
  refine lv_aload_n hx hb dX9_swap_9 rfl (lv_at hl 0 rfl) ?_
  refine gf_X9_20_25 C hK hs dX9_swap_10 ?_
  refine lv_iload_n hx hb dX9_swap_13 rfl (lv_at hl 1 rfl) ?_
  refine lv_iload_n hx hb dX9_swap_14 rfl (lv_at hl 2 rfl) ?_
  obtain ⟨σ3, r4, hE1, hE⟩ := cl_e hE
  refine x_cis (As := [.int p1, .int p2]) (rest := [.ref (g.2.1 34), .int r2, .ref (g.2.1 34)]) C hl.1 hK hs hA ⟨Nat.le_refl 0, Nat.le_refl 0⟩ (ctX9_slot l g _ _ _ _ _ hE1) (cw_X9_42 C ⟨Nat.le_of_ble_eq_true rfl, Nat.le_of_ble_eq_true rfl⟩) rfl rfl (Nat.le_of_ble_eq_true rfl) dX9_swap_15 (fun H locs hs => ?_)
  obtain ⟨hi, x5, ex5, hE⟩ := rd_w hE
  refine y_ald layC C hK hs hi ex5 dX9_swap_18 ?_
  obtain ⟨hi, σ6, eσ6, hE⟩ := wr_w hE
  refine y_ast layC C hK hs hi eσ6 dX9_swap_19 (fun H locs hs => ?_)
  refine lv_aload_n hx hb dX9_swap_20 rfl (lv_at hl 0 rfl) ?_
  refine gf_X9_20_25 C hK hs dX9_swap_21 ?_
  refine lv_iload_n hx hb dX9_swap_24 rfl (lv_at hl 1 rfl) ?_
  refine lv_iload hx hb dX9_swap_25 (lv_at hl 4 rfl) ?_
  obtain ⟨σ7, r8, hE1, hE⟩ := cl_e hE
  refine x_cis (As := [.int p1, .int p4]) (rest := [.ref (g.2.1 34)]) C hl.1 hK hs hA ⟨Nat.le_refl 0, Nat.le_refl 0⟩ (ctX9_slot l g _ _ _ _ _ hE1) (cw_X9_42 C ⟨Nat.le_of_ble_eq_true rfl, Nat.le_of_ble_eq_true rfl⟩) rfl rfl (Nat.le_of_ble_eq_true rfl) dX9_swap_27 (fun H locs hs => ?_)
  refine lv_aload_n hx hb dX9_swap_30 rfl (lv_at hl 0 rfl) ?_
  refine gf_X9_20_25 C hK hs dX9_swap_31 ?_
  refine lv_iload_n hx hb dX9_swap_34 rfl (lv_at hl 3 rfl) ?_
  refine lv_iload hx hb dX9_swap_35 (lv_at hl 4 rfl) ?_
  obtain ⟨σ9, r10, hE1, hE⟩ := cl_e hE
  refine x_cis (As := [.int p3, .int p4]) (rest := [.ref (g.2.1 34), .int r8, .ref (g.2.1 34)]) C hl.1 hK hs hA ⟨Nat.le_refl 0, Nat.le_refl 0⟩ (ctX9_slot l g _ _ _ _ _ hE1) (cw_X9_42 C ⟨Nat.le_of_ble_eq_true rfl, Nat.le_of_ble_eq_true rfl⟩) rfl rfl (Nat.le_of_ble_eq_true rfl) dX9_swap_37 (fun H locs hs => ?_)
  obtain ⟨hi, x11, ex11, hE⟩ := rd_w hE
  refine y_ald layC C hK hs hi ex11 dX9_swap_40 ?_
  obtain ⟨hi, σ12, eσ12, hE⟩ := wr_w hE
  refine y_ast layC C hK hs hi eσ12 dX9_swap_41 (fun H locs hs => ?_)
  refine lv_aload_n hx hb dX9_swap_42 rfl (lv_at hl 0 rfl) ?_
  refine gf_X9_20_25 C hK hs dX9_swap_43 ?_
  refine lv_iload_n hx hb dX9_swap_46 rfl (lv_at hl 1 rfl) ?_
  refine lv_iload_n hx hb dX9_swap_47 rfl (lv_at hl 2 rfl) ?_
  obtain ⟨σ13, r14, hE1, hE⟩ := cl_e hE
  refine x_cis (As := [.int p1, .int p2]) (rest := [.ref (g.2.1 34)]) C hl.1 hK hs hA ⟨Nat.le_refl 0, Nat.le_refl 0⟩ (ctX9_slot l g _ _ _ _ _ hE1) (cw_X9_42 C ⟨Nat.le_of_ble_eq_true rfl, Nat.le_of_ble_eq_true rfl⟩) rfl rfl (Nat.le_of_ble_eq_true rfl) dX9_swap_48 (fun H locs hs => ?_)
  refine lv_iconst (v := 0) hx hb dX9_swap_51 (by decide) ?_
  obtain ⟨hi, σ15, eσ15, hE⟩ := wr_w hE
  refine y_ast layC C hK hs hi eσ15 dX9_swap_52 (fun H locs hs => ?_)
  refine lv_aload_n hx hb dX9_swap_53 rfl (lv_at hl 0 rfl) ?_
  refine gf_X9_20_25 C hK hs dX9_swap_54 ?_
  refine lv_iload_n hx hb dX9_swap_57 rfl (lv_at hl 3 rfl) ?_
  refine lv_iload hx hb dX9_swap_58 (lv_at hl 4 rfl) ?_
  obtain ⟨σ16, r17, hE1, hE⟩ := cl_e hE
  refine x_cis (As := [.int p3, .int p4]) (rest := [.ref (g.2.1 34)]) C hl.1 hK hs hA ⟨Nat.le_refl 0, Nat.le_refl 0⟩ (ctX9_slot l g _ _ _ _ _ hE1) (cw_X9_42 C ⟨Nat.le_of_ble_eq_true rfl, Nat.le_of_ble_eq_true rfl⟩) rfl rfl (Nat.le_of_ble_eq_true rfl) dX9_swap_60 (fun H locs hs => ?_)
  refine lv_iconst (v := 0) hx hb dX9_swap_63 (by decide) ?_
  obtain ⟨hi, σ18, eσ18, hE⟩ := wr_w hE
  refine y_ast layC C hK hs hi eσ18 dX9_swap_64 (fun H locs hs => ?_)
  exact hQ hs hE dX9_swap_65
theorem dX3_perform_0 : decode cX3_perform 0 = .ok (.iload_n 1, 1) := by decide +kernel
theorem dX3_perform_1 : decode cX3_perform 1 = .ok (.iconst 4, 1) := by decide +kernel
theorem dX3_perform_2 : decode cX3_perform 2 = .ok (.ishr, 1) := by decide +kernel
theorem dX3_perform_3 : decode cX3_perform 3 = .ok (.bipush 15, 2) := by decide +kernel
theorem dX3_perform_5 : decode cX3_perform 5 = .ok (.iand, 1) := by decide +kernel
theorem dX3_perform_6 : decode cX3_perform 6 = .ok (.istore_n 2, 1) := by decide +kernel
theorem dX3_perform_7 : decode cX3_perform 7 = .ok (.iload_n 1, 1) := by decide +kernel
theorem dX3_perform_8 : decode cX3_perform 8 = .ok (.bipush 8, 2) := by decide +kernel
theorem dX3_perform_10 : decode cX3_perform 10 = .ok (.ishr, 1) := by decide +kernel
theorem dX3_perform_11 : decode cX3_perform 11 = .ok (.bipush 15, 2) := by decide +kernel
theorem dX3_perform_13 : decode cX3_perform 13 = .ok (.iand, 1) := by decide +kernel
theorem dX3_perform_14 : decode cX3_perform 14 = .ok (.istore_n 3, 1) := by decide +kernel
theorem dX3_perform_15 : decode cX3_perform 15 = .ok (.iload_n 1, 1) := by decide +kernel
theorem dX3_perform_16 : decode cX3_perform 16 = .ok (.bipush 12, 2) := by decide +kernel
theorem dX3_perform_18 : decode cX3_perform 18 = .ok (.ishr, 1) := by decide +kernel
theorem dX3_perform_19 : decode cX3_perform 19 = .ok (.bipush 15, 2) := by decide +kernel
theorem dX3_perform_21 : decode cX3_perform 21 = .ok (.iand, 1) := by decide +kernel
theorem dX3_perform_22 : decode cX3_perform 22 = .ok (.istore 4, 2) := by decide +kernel
theorem dX3_perform_24 : decode cX3_perform 24 = .ok (.iload_n 1, 1) := by decide +kernel
theorem dX3_perform_25 : decode cX3_perform 25 = .ok (.bipush 16, 2) := by decide +kernel
theorem dX3_perform_27 : decode cX3_perform 27 = .ok (.ishr, 1) := by decide +kernel
theorem dX3_perform_28 : decode cX3_perform 28 = .ok (.bipush 15, 2) := by decide +kernel
theorem dX3_perform_30 : decode cX3_perform 30 = .ok (.iand, 1) := by decide +kernel
theorem dX3_perform_31 : decode cX3_perform 31 = .ok (.istore 5, 2) := by decide +kernel
theorem dX3_perform_33 : decode cX3_perform 33 = .ok (.iload_n 1, 1) := by decide +kernel
theorem dX3_perform_34 : decode cX3_perform 34 = .ok (.bipush 15, 2) := by decide +kernel
theorem dX3_perform_36 : decode cX3_perform 36 = .ok (.iand, 1) := by decide +kernel
theorem dX3_perform_37 : decode cX3_perform 37 = .ok (.tableswitch 84 1 4 #[31, 41, 53, 69], 31) := by decide +kernel
theorem dX3_perform_68 : decode cX3_perform 68 = .ok (.aload_n 0, 1) := by decide +kernel
theorem dX3_perform_69 : decode cX3_perform 69 = .ok (.getfield 10, 3) := by decide +kernel
theorem dX3_perform_72 : decode cX3_perform 72 = .ok (.invokevirtual 45, 3) := by decide +kernel
theorem dX3_perform_75 : decode cX3_perform 75 = .ok (.goto 46, 3) := by decide +kernel
theorem dX3_perform_78 : decode cX3_perform 78 = .ok (.aload_n 0, 1) := by decide +kernel
theorem dX3_perform_79 : decode cX3_perform 79 = .ok (.getfield 10, 3) := by decide +kernel
theorem dX3_perform_82 : decode cX3_perform 82 = .ok (.iload_n 2, 1) := by decide +kernel
theorem dX3_perform_83 : decode cX3_perform 83 = .ok (.iload_n 3, 1) := by decide +kernel
theorem dX3_perform_84 : decode cX3_perform 84 = .ok (.invokevirtual 48, 3) := by decide +kernel
theorem dX3_perform_87 : decode cX3_perform 87 = .ok (.goto 34, 3) := by decide +kernel
theorem dX3_perform_90 : decode cX3_perform 90 = .ok (.aload_n 0, 1) := by decide +kernel
theorem dX3_perform_91 : decode cX3_perform 91 = .ok (.getfield 10, 3) := by decide +kernel
theorem dX3_perform_94 : decode cX3_perform 94 = .ok (.iload_n 2, 1) := by decide +kernel
theorem dX3_perform_95 : decode cX3_perform 95 = .ok (.iload_n 3, 1) := by decide +kernel
theorem dX3_perform_96 : decode cX3_perform 96 = .ok (.iload 4, 2) := by decide +kernel
theorem dX3_perform_98 : decode cX3_perform 98 = .ok (.iload 5, 2) := by decide +kernel
theorem dX3_perform_100 : decode cX3_perform 100 = .ok (.invokevirtual 52, 3) := by decide +kernel
theorem dX3_perform_103 : decode cX3_perform 103 = .ok (.goto 18, 3) := by decide +kernel
theorem dX3_perform_106 : decode cX3_perform 106 = .ok (.aload_n 0, 1) := by decide +kernel
theorem dX3_perform_107 : decode cX3_perform 107 = .ok (.getfield 10, 3) := by decide +kernel
theorem dX3_perform_110 : decode cX3_perform 110 = .ok (.iload_n 2, 1) := by decide +kernel
theorem dX3_perform_111 : decode cX3_perform 111 = .ok (.iload 4, 2) := by decide +kernel
theorem dX3_perform_113 : decode cX3_perform 113 = .ok (.iload 5, 2) := by decide +kernel
theorem dX3_perform_115 : decode cX3_perform 115 = .ok (.invokevirtual 56, 3) := by decide +kernel
theorem dX3_perform_118 : decode cX3_perform 118 = .ok (.goto 3, 3) := by decide +kernel
theorem dX3_perform_121 : decode cX3_perform 121 = .ok (.return_, 1) := by decide +kernel
def fX3_perform (σ : St) (p1 : Int32) : Option (St × Unit) := (if (p1 &&& 15) = 1 then cl (fX9_passMonth σ) (fun σ1 r2 => some (σ1, ())) else (if (p1 &&& 15) = 2 then cl (fX9_acquire σ ((p1 >>> (4 &&& 31)) &&& 15) ((p1 >>> (8 &&& 31)) &&& 15)) (fun σ3 r4 => some (σ3, ())) else (if (p1 &&& 15) = 3 then cl (fX9_swap σ ((p1 >>> (4 &&& 31)) &&& 15) ((p1 >>> (8 &&& 31)) &&& 15) ((p1 >>> (12 &&& 31)) &&& 15) ((p1 >>> (16 &&& 31)) &&& 15)) (fun σ5 r6 => some (σ5, ())) else (if (p1 &&& 15) = 4 then cl (fX9_pass σ ((p1 >>> (4 &&& 31)) &&& 15) ((p1 >>> (12 &&& 31)) &&& 15) ((p1 >>> (16 &&& 31)) &&& 15)) (fun σ7 r8 => some (σ7, ())) else some (σ, ())))))
set_option maxHeartbeats 4000000 in
set_option maxRecDepth 100000 in
theorem ctX3_perform (l : Launch) (g : GG) (σ : St) (p1 : Int32) (σ' : St) (r : Unit) (hE : fX3_perform σ p1 = some (σ', r)) : MV 52 entC l g yX3_perform (Cond.code yX3_perform cX3_perform 6 none :: gtbl) (rmD 4) [.ref (g.2.1 24), .int p1] σ σ' := by
  refine mi_v (own := RX3) (lv := [(0, .ref (g.2.1 24)), (1, .int p1)]) (by decide) rfl (Nat.le_of_ble_eq_true rfl) rfl (fun p e s m below meth c ls args Q A H0 H locs C hK hA hQ hs hl => ?_)
  have hx := C.1
  have hb := C.2.1
  unfold fX3_perform at hE
  refine lv_iload_n hx hb dX3_perform_0 rfl (lv_at hl 1 rfl) ?_
  refine lv_iconst (v := 4) hx hb dX3_perform_1 (by decide) ?_
  refine lv_ishr hx hb dX3_perform_2 ?_
  refine lv_bipush (v := 15) hx hb dX3_perform_3 (by decide) ?_
  refine lv_iand hx hb dX3_perform_5 ?_
  refine lv_istore_n (lv' := [(2, .int ((p1 >>> (4 &&& 31)) &&& 15)), (0, .ref (g.2.1 24)), (1, .int p1)]) hx hb dX3_perform_6 rfl hl (by decide) rfl (fun ls hl => ?_)
  refine lv_iload_n hx hb dX3_perform_7 rfl (lv_at hl 2 rfl) ?_
  refine lv_bipush (v := 8) hx hb dX3_perform_8 (by decide) ?_
  refine lv_ishr hx hb dX3_perform_10 ?_
  refine lv_bipush (v := 15) hx hb dX3_perform_11 (by decide) ?_
  refine lv_iand hx hb dX3_perform_13 ?_
  refine lv_istore_n (lv' := [(3, .int ((p1 >>> (8 &&& 31)) &&& 15)), (2, .int ((p1 >>> (4 &&& 31)) &&& 15)), (0, .ref (g.2.1 24)), (1, .int p1)]) hx hb dX3_perform_14 rfl hl (by decide) rfl (fun ls hl => ?_)
  refine lv_iload_n hx hb dX3_perform_15 rfl (lv_at hl 3 rfl) ?_
  refine lv_bipush (v := 12) hx hb dX3_perform_16 (by decide) ?_
  refine lv_ishr hx hb dX3_perform_18 ?_
  refine lv_bipush (v := 15) hx hb dX3_perform_19 (by decide) ?_
  refine lv_iand hx hb dX3_perform_21 ?_
  refine lv_istore (lv' := [(4, .int ((p1 >>> (12 &&& 31)) &&& 15)), (3, .int ((p1 >>> (8 &&& 31)) &&& 15)), (2, .int ((p1 >>> (4 &&& 31)) &&& 15)), (0, .ref (g.2.1 24)), (1, .int p1)]) hx hb dX3_perform_22 hl (by decide) rfl (fun ls hl => ?_)
  refine lv_iload_n hx hb dX3_perform_24 rfl (lv_at hl 4 rfl) ?_
  refine lv_bipush (v := 16) hx hb dX3_perform_25 (by decide) ?_
  refine lv_ishr hx hb dX3_perform_27 ?_
  refine lv_bipush (v := 15) hx hb dX3_perform_28 (by decide) ?_
  refine lv_iand hx hb dX3_perform_30 ?_
  refine lv_istore (lv' := [(5, .int ((p1 >>> (16 &&& 31)) &&& 15)), (4, .int ((p1 >>> (12 &&& 31)) &&& 15)), (3, .int ((p1 >>> (8 &&& 31)) &&& 15)), (2, .int ((p1 >>> (4 &&& 31)) &&& 15)), (0, .ref (g.2.1 24)), (1, .int p1)]) hx hb dX3_perform_31 hl (by decide) rfl (fun ls hl => ?_)
  refine lv_iload_n hx hb dX3_perform_33 rfl (lv_at hl 5 rfl) ?_
  refine lv_bipush (v := 15) hx hb dX3_perform_34 (by decide) ?_
  refine lv_iand hx hb dX3_perform_36 ?_
  by_cases hn1 : (p1 &&& 15) = 1
  · have hE := if_t hn1 hE
    refine lv_tableIn (off := 31) (tgt := 68) hx hb dX3_perform_37 (by rw [hn1]; decide) (by rw [hn1]; decide) (by rw [hn1]; decide) (by decide) ?_
    refine lv_aload_n hx hb dX3_perform_68 rfl (lv_at hl 4 rfl) ?_
    refine gf_X3_10_24 C hK hs dX3_perform_69 ?_
    obtain ⟨σ1, r2, hE1, hE⟩ := cl_e hE
    refine x_cvv (As := []) (rest := []) C hl.1 hK hs hA ⟨Nat.le_refl 0, Nat.le_refl 0⟩ (ctX9_passMonth l g _  _ _ hE1) (cw_X3_45 C ⟨Nat.le_of_ble_eq_true rfl, Nat.le_of_ble_eq_true rfl⟩) (hs.recv hK 25 (by decide) rfl rfl) rfl rfl (Nat.le_of_ble_eq_true rfl) dX3_perform_72 (fun H locs hs => ?_)
    refine lv_goto (tgt := 121) hx hb dX3_perform_75 (by decide) ?_
    exact hQ hs hE dX3_perform_121
  have hE := if_f hn1 hE
  by_cases hn2 : (p1 &&& 15) = 2
  · have hE := if_t hn2 hE
    refine lv_tableIn (off := 41) (tgt := 78) hx hb dX3_perform_37 (by rw [hn2]; decide) (by rw [hn2]; decide) (by rw [hn2]; decide) (by decide) ?_
    refine lv_aload_n hx hb dX3_perform_78 rfl (lv_at hl 4 rfl) ?_
    refine gf_X3_10_24 C hK hs dX3_perform_79 ?_
    refine lv_iload_n hx hb dX3_perform_82 rfl (lv_at hl 3 rfl) ?_
    refine lv_iload_n hx hb dX3_perform_83 rfl (lv_at hl 2 rfl) ?_
    obtain ⟨σ3, r4, hE1, hE⟩ := cl_e hE
    refine x_cvv (As := [.int ((p1 >>> (4 &&& 31)) &&& 15), .int ((p1 >>> (8 &&& 31)) &&& 15)]) (rest := []) C hl.1 hK hs hA ⟨Nat.le_refl 0, Nat.le_refl 0⟩ (ctX9_acquire l g _ _ _ _ _ hE1) (cw_X3_48 C ⟨Nat.le_of_ble_eq_true rfl, Nat.le_of_ble_eq_true rfl⟩) (hs.recv hK 25 (by decide) rfl rfl) rfl rfl (Nat.le_of_ble_eq_true rfl) dX3_perform_84 (fun H locs hs => ?_)
    refine lv_goto (tgt := 121) hx hb dX3_perform_87 (by decide) ?_
    exact hQ hs hE dX3_perform_121
  have hE := if_f hn2 hE
  by_cases hn3 : (p1 &&& 15) = 3
  · have hE := if_t hn3 hE
    refine lv_tableIn (off := 53) (tgt := 90) hx hb dX3_perform_37 (by rw [hn3]; decide) (by rw [hn3]; decide) (by rw [hn3]; decide) (by decide) ?_
    refine lv_aload_n hx hb dX3_perform_90 rfl (lv_at hl 4 rfl) ?_
    refine gf_X3_10_24 C hK hs dX3_perform_91 ?_
    refine lv_iload_n hx hb dX3_perform_94 rfl (lv_at hl 3 rfl) ?_
    refine lv_iload_n hx hb dX3_perform_95 rfl (lv_at hl 2 rfl) ?_
    refine lv_iload hx hb dX3_perform_96 (lv_at hl 1 rfl) ?_
    refine lv_iload hx hb dX3_perform_98 (lv_at hl 0 rfl) ?_
    obtain ⟨σ5, r6, hE1, hE⟩ := cl_e hE
    refine x_cvv (As := [.int ((p1 >>> (4 &&& 31)) &&& 15), .int ((p1 >>> (8 &&& 31)) &&& 15), .int ((p1 >>> (12 &&& 31)) &&& 15), .int ((p1 >>> (16 &&& 31)) &&& 15)]) (rest := []) C hl.1 hK hs hA ⟨Nat.le_refl 0, Nat.le_refl 0⟩ (ctX9_swap l g _ _ _ _ _ _ _ hE1) (cw_X3_52 C ⟨Nat.le_of_ble_eq_true rfl, Nat.le_of_ble_eq_true rfl⟩) (hs.recv hK 25 (by decide) rfl rfl) rfl rfl (Nat.le_of_ble_eq_true rfl) dX3_perform_100 (fun H locs hs => ?_)
    refine lv_goto (tgt := 121) hx hb dX3_perform_103 (by decide) ?_
    exact hQ hs hE dX3_perform_121
  have hE := if_f hn3 hE
  by_cases hn4 : (p1 &&& 15) = 4
  · have hE := if_t hn4 hE
    refine lv_tableIn (off := 69) (tgt := 106) hx hb dX3_perform_37 (by rw [hn4]; decide) (by rw [hn4]; decide) (by rw [hn4]; decide) (by decide) ?_
    refine lv_aload_n hx hb dX3_perform_106 rfl (lv_at hl 4 rfl) ?_
    refine gf_X3_10_24 C hK hs dX3_perform_107 ?_
    refine lv_iload_n hx hb dX3_perform_110 rfl (lv_at hl 3 rfl) ?_
    refine lv_iload hx hb dX3_perform_111 (lv_at hl 1 rfl) ?_
    refine lv_iload hx hb dX3_perform_113 (lv_at hl 0 rfl) ?_
    obtain ⟨σ7, r8, hE1, hE⟩ := cl_e hE
    refine x_cvv (As := [.int ((p1 >>> (4 &&& 31)) &&& 15), .int ((p1 >>> (12 &&& 31)) &&& 15), .int ((p1 >>> (16 &&& 31)) &&& 15)]) (rest := []) C hl.1 hK hs hA ⟨Nat.le_refl 0, Nat.le_refl 0⟩ (ctX9_pass l g _ _ _ _ _ _ hE1) (cw_X3_56 C ⟨Nat.le_of_ble_eq_true rfl, Nat.le_of_ble_eq_true rfl⟩) (hs.recv hK 25 (by decide) rfl rfl) rfl rfl (Nat.le_of_ble_eq_true rfl) dX3_perform_115 (fun H locs hs => ?_)
    refine lv_goto (tgt := 121) hx hb dX3_perform_118 (by decide) ?_
    exact hQ hs hE dX3_perform_121
  have hE := if_f hn4 hE
  have hDf : W p l e (rmD 4) s m args below meth c H locs 0 0 Q (F0 m 121 ls []) := by
    exact hQ hs hE dX3_perform_121
  exact lv_tableOut (tgt := 121) hx hb dX3_perform_37 (by have q0 := sw_n 1 hn1 (by decide); have q1 := sw_n 2 hn2 (by decide); have q2 := sw_n 3 hn3 (by decide); have q3 := sw_n 4 hn4 (by decide); omega) (by decide) hDf
theorem dX3_add_0 : decode cX3_add 0 = .ok (.aload_n 0, 1) := by decide +kernel
theorem dX3_add_1 : decode cX3_add 1 = .ok (.getfield 34, 3) := by decide +kernel
theorem dX3_add_4 : decode cX3_add 4 = .ok (.bipush 40, 2) := by decide +kernel
theorem dX3_add_6 : decode cX3_add 6 = .ok (.if_icmp .lt 4, 3) := by decide +kernel
theorem dX3_add_9 : decode cX3_add 9 = .ok (.return_, 1) := by decide +kernel
theorem dX3_add_10 : decode cX3_add 10 = .ok (.aload_n 0, 1) := by decide +kernel
theorem dX3_add_11 : decode cX3_add 11 = .ok (.getfield 16, 3) := by decide +kernel
theorem dX3_add_14 : decode cX3_add 14 = .ok (.aload_n 0, 1) := by decide +kernel
theorem dX3_add_15 : decode cX3_add 15 = .ok (.getfield 34, 3) := by decide +kernel
theorem dX3_add_18 : decode cX3_add 18 = .ok (.iload_n 1, 1) := by decide +kernel
theorem dX3_add_19 : decode cX3_add 19 = .ok (.iastore, 1) := by decide +kernel
theorem dX3_add_20 : decode cX3_add 20 = .ok (.aload_n 0, 1) := by decide +kernel
theorem dX3_add_21 : decode cX3_add 21 = .ok (.dup, 1) := by decide +kernel
theorem dX3_add_22 : decode cX3_add 22 = .ok (.getfield 34, 3) := by decide +kernel
theorem dX3_add_25 : decode cX3_add 25 = .ok (.iconst 1, 1) := by decide +kernel
theorem dX3_add_26 : decode cX3_add 26 = .ok (.iadd, 1) := by decide +kernel
theorem dX3_add_27 : decode cX3_add 27 = .ok (.putfield 34, 3) := by decide +kernel
theorem dX3_add_30 : decode cX3_add 30 = .ok (.aload_n 0, 1) := by decide +kernel
theorem dX3_add_31 : decode cX3_add 31 = .ok (.iload_n 1, 1) := by decide +kernel
theorem dX3_add_32 : decode cX3_add 32 = .ok (.invokevirtual 41, 3) := by decide +kernel
theorem dX3_add_35 : decode cX3_add 35 = .ok (.return_, 1) := by decide +kernel
def fX3_add (σ : St) (p1 : Int32) : Option (St × Unit) := (if (σ.1 24 4) < 40 then wr LC σ 35 (σ.1 24 4) p1 (fun σ1 => pt (su σ1 24 4 ((σ1.1 24 4) + 1)) (fun σ2 => cl (fX3_perform σ2 p1) (fun σ3 r4 => some (σ3, ())))) else some (σ, ()))
set_option maxHeartbeats 4000000 in
set_option maxRecDepth 100000 in
theorem ctX3_add (l : Launch) (g : GG) (σ : St) (p1 : Int32) (σ' : St) (r : Unit) (hE : fX3_add σ p1 = some (σ', r)) : MV 52 entC l g yX3_add (Cond.code yX3_add cX3_add 2 none :: gtbl) (rmD 5) [.ref (g.2.1 24), .int p1] σ σ' := by
  refine mi_v (own := RX3) (lv := [(0, .ref (g.2.1 24)), (1, .int p1)]) (by decide) rfl (Nat.le_of_ble_eq_true rfl) rfl (fun p e s m below meth c ls args Q A H0 H locs C hK hA hQ hs hl => ?_)
  have hx := C.1
  have hb := C.2.1
  unfold fX3_add at hE
  refine lv_aload_n hx hb dX3_add_0 rfl (lv_at hl 0 rfl) ?_
  refine gf_X3_34_24 C hK hs dX3_add_1 ?_
  refine lv_bipush (v := 40) hx hb dX3_add_4 (by decide) ?_
  refine lv_icmp_lt (tgt := 10) hx hb dX3_add_6 (by decide) (fun hc => ?_) (fun hc => ?_)
  · have hE := if_t hc hE
    refine lv_aload_n hx hb dX3_add_10 rfl (lv_at hl 0 rfl) ?_
    refine gf_X3_16_24 C hK hs dX3_add_11 ?_
    refine lv_aload_n hx hb dX3_add_14 rfl (lv_at hl 0 rfl) ?_
    refine gf_X3_34_24 C hK hs dX3_add_15 ?_
    refine lv_iload_n hx hb dX3_add_18 rfl (lv_at hl 1 rfl) ?_
    obtain ⟨hi, σ1, eσ1, hE⟩ := wr_w hE
    refine y_ast layC C hK hs hi eσ1 dX3_add_19 (fun H locs hs => ?_)
    refine lv_aload_n hx hb dX3_add_20 rfl (lv_at hl 0 rfl) ?_
    refine lv_dup hx hb dX3_add_21 rfl ?_
    refine gf_X3_34_24 C hK hs dX3_add_22 ?_
    refine lv_iconst (v := 1) hx hb dX3_add_25 (by decide) ?_
    refine lv_iadd hx hb dX3_add_26 ?_
    obtain ⟨σ2, eσ2, hE⟩ := pt_w hE
    refine pf_X3_34_24 C hK hs eσ2 dX3_add_27 (fun H locs hs => ?_)
    refine lv_aload_n hx hb dX3_add_30 rfl (lv_at hl 0 rfl) ?_
    refine lv_iload_n hx hb dX3_add_31 rfl (lv_at hl 1 rfl) ?_
    obtain ⟨σ3, r4, hE1, hE⟩ := cl_e hE
    refine x_cvv (As := [.int p1]) (rest := []) C hl.1 hK hs hA ⟨Nat.le_refl 0, Nat.le_refl 0⟩ (ctX3_perform l g _ _ _ _ hE1) (cw_X3_41 C ⟨Nat.le_of_ble_eq_true rfl, Nat.le_of_ble_eq_true rfl⟩) (hs.recv hK 24 (by decide) rfl rfl) rfl rfl (Nat.le_of_ble_eq_true rfl) dX3_add_32 (fun H locs hs => ?_)
    exact hQ hs hE dX3_add_35
  · have hE := if_f hc hE
    exact hQ hs hE dX3_add_9
