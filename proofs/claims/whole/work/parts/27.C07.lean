theorem dX9_things_0 : decode cX9_things 0 = .ok (.iconst 0, 1) := by decide +kernel
theorem dX9_things_1 : decode cX9_things 1 = .ok (.istore_n 1, 1) := by decide +kernel
theorem dX9_things_2 : decode cX9_things 2 = .ok (.iconst 0, 1) := by decide +kernel
theorem dX9_things_3 : decode cX9_things 3 = .ok (.istore_n 2, 1) := by decide +kernel
theorem dX9_things_4 : decode cX9_things 4 = .ok (.iload_n 2, 1) := by decide +kernel
theorem dX9_things_5 : decode cX9_things 5 = .ok (.aload_n 0, 1) := by decide +kernel
theorem dX9_things_6 : decode cX9_things 6 = .ok (.getfield 20, 3) := by decide +kernel
theorem dX9_things_9 : decode cX9_things 9 = .ok (.arraylength, 1) := by decide +kernel
theorem dX9_things_10 : decode cX9_things 10 = .ok (.if_icmp .ge 21, 3) := by decide +kernel
theorem dX9_things_13 : decode cX9_things 13 = .ok (.aload_n 0, 1) := by decide +kernel
theorem dX9_things_14 : decode cX9_things 14 = .ok (.getfield 20, 3) := by decide +kernel
theorem dX9_things_17 : decode cX9_things 17 = .ok (.iload_n 2, 1) := by decide +kernel
theorem dX9_things_18 : decode cX9_things 18 = .ok (.iaload, 1) := by decide +kernel
theorem dX9_things_19 : decode cX9_things 19 = .ok (.ifCond .eq 6, 3) := by decide +kernel
theorem dX9_things_22 : decode cX9_things 22 = .ok (.iinc 1 1, 3) := by decide +kernel
theorem dX9_things_25 : decode cX9_things 25 = .ok (.iinc 2 1, 3) := by decide +kernel
theorem dX9_things_28 : decode cX9_things 28 = .ok (.goto (-24), 3) := by decide +kernel
theorem dX9_things_31 : decode cX9_things 31 = .ok (.iload_n 1, 1) := by decide +kernel
theorem dX9_things_32 : decode cX9_things 32 = .ok (.ireturn, 1) := by decide +kernel
def fX9_things_L4 : Nat → St → Int32 → Int32 → (St → Int32 → Int32 → Option (St × Int32)) → Option (St × Int32)
  | 0, _, _, _, _ => none
  | n + 1, σ1, v2, v3, k => (if (nI (LC 34)) ≤ v3 then k σ1 v2 v3 else rd LC σ1 34 v3 (fun x4 => pv (if x4 = 0 then v2 else (v2 + 1)) (fun (z6 : Int32) => fX9_things_L4 n σ1 z6 (v3 + 1) k)))
def fX9_things (σ : St) : Option (St × Int32) := fX9_things_L4 10000 σ 0 0 (fun σ7 v8 v9 => some (σ7, v8))
set_option maxHeartbeats 4000000 in
set_option maxRecDepth 100000 in
theorem ctX9_things (l : Launch) (g : GG) (σ : St) (σ' : St) (r : Int32) (hE : fX9_things σ  = some (σ', r)) : MI 52 entC l g yX9_things (Cond.code yX9_things cX9_things 3 (some .int) :: gtbl) (rmD 1) [.ref (g.2.1 25)] σ σ' r := by
  refine mi_i (own := RX9) (lv := [(0, .ref (g.2.1 25))]) (by decide) rfl (Nat.le_of_ble_eq_true rfl) rfl (fun p e s m below meth c ls args Q A H0 H locs C hK hA hQ hs hl => ?_)
  have hx := C.1
  have hb := C.2.1
  unfold fX9_things at hE
  refine lv_iconst (v := 0) hx hb dX9_things_0 (by decide) ?_
  refine lv_istore_n (lv' := [(1, .int 0), (0, .ref (g.2.1 25))]) hx hb dX9_things_1 rfl hl (by decide) rfl (fun ls hl => ?_)
  refine lv_iconst (v := 0) hx hb dX9_things_2 (by decide) ?_
  refine lv_istore_n (lv' := [(2, .int 0), (1, .int 0), (0, .ref (g.2.1 25))]) hx hb dX9_things_3 rfl hl (by decide) rfl (fun ls hl => ?_)
  have hL4 : ∀ (n : Nat) (σ1 : St) (v2 : Int32) (v3 : Int32) (k : St → Int32 → Int32 → Option (St × Int32)), fX9_things_L4 n σ1 v2 v3 k = some (σ', r) → (∀ (σ1 : St) (v2 : Int32) (v3 : Int32) (H : Heap) (locs : List Loc) (ls : Array Slot), HW 52 entC g A H0 H locs σ1 → lv_has ls 3 [(0, .ref (g.2.1 25)), (1, .int v2), (2, .int v3)] → k σ1 v2 v3 = some (σ', r) → W p l e (rmD 1) s m args below meth c H locs 0 0 Q (F0 m 31 ls [])) → ∀ (H : Heap) (locs : List Loc) (ls : Array Slot), HW 52 entC g A H0 H locs σ1 → lv_has ls 3 [(0, .ref (g.2.1 25)), (1, .int v2), (2, .int v3)] → W p l e (rmD 1) s m args below meth c H locs 0 0 Q (F0 m 4 ls []) := by
    intro n
    induction n with
    | zero =>
      intro σ1 v2 v3 k hE
      rw [fX9_things_L4] at hE
      exact no_e hE
    | succ n ih =>
      intro σ1 v2 v3 k hE hk H locs ls hs hl
      rw [fX9_things_L4] at hE
      refine lv_iload_n hx hb dX9_things_4 rfl (lv_at hl 2 rfl) ?_
      refine lv_aload_n hx hb dX9_things_5 rfl (lv_at hl 0 rfl) ?_
      refine gf_X9_20_25 C hK hs dX9_things_6 ?_
      refine x_len layC C hK hs (k := 34) (by decide) dX9_things_9 ?_
      refine lv_icmp_ge (tgt := 31) hx hb dX9_things_10 (by decide) (fun hc => ?_) (fun hc => ?_)
      · have hE := if_t hc hE
        exact hk σ1 v2 v3 _ _ _ hs (lv_sub hl [0, 1, 2] rfl) hE
      · have hE := if_f hc hE
        refine lv_aload_n hx hb dX9_things_13 rfl (lv_at hl 0 rfl) ?_
        refine gf_X9_20_25 C hK hs dX9_things_14 ?_
        refine lv_iload_n hx hb dX9_things_17 rfl (lv_at hl 2 rfl) ?_
        obtain ⟨hi, x4, ex4, hE⟩ := rd_w hE
        refine y_ald layC C hK hs hi ex4 dX9_things_18 ?_
        refine pvw hE (fun k5 hE hk5 => ?_)
        have hJk5 : ∀ (z6 : Int32) (H : Heap) (locs : List Loc) (ls : Array Slot), HW 52 entC g A H0 H locs σ1 → lv_has ls 3 [(0, .ref (g.2.1 25)), (1, .int z6), (2, .int v3)] → k5 z6 = some (σ', r) → W p l e (rmD 1) s m args below meth c H locs 0 0 Q (F0 m 25 ls []) := by
          intro z6 H locs ls hs hl hE
          have hE := hk5 _ hE
          refine lv_iinc (v := v3 + 1) (lv' := [(2, .int (v3 + 1)), (0, .ref (g.2.1 25)), (1, .int z6)]) hx hb dX9_things_25 hl (k := 2) rfl rfl (by decide) rfl (fun ls hl => ?_)
          refine lv_goto (tgt := 4) hx hb dX9_things_28 (by decide) ?_
          exact ih _ _ _ _ hE hk _ _ _ hs (lv_sub hl [1, 2, 0] rfl)
        refine lv_if_eq (tgt := 25) hx hb dX9_things_19 (by decide) (fun hc => ?_) (fun hc => ?_)
        · have hE := pv_t hc hE
          exact hJk5 v2 _ _ _ hs (lv_sub hl [0, 1, 2] rfl) hE
        · have hE := pv_f hc hE
          refine lv_iinc (v := v2 + 1) (lv' := [(1, .int (v2 + 1)), (0, .ref (g.2.1 25)), (2, .int v3)]) hx hb dX9_things_22 hl (k := 1) rfl rfl (by decide) rfl (fun ls hl => ?_)
          exact hJk5 (v2 + 1) _ _ _ hs (lv_sub hl [1, 0, 2] rfl) hE
  refine hL4 _ _ _ _ _ hE (fun σ7 v8 v9 H locs ls hs hl hE => ?_) H locs ls hs (lv_sub hl [2, 1, 0] rfl)
  refine lv_iload_n hx hb dX9_things_31 rfl (lv_at hl 1 rfl) ?_
  exact hQ hs hE dX9_things_32
theorem dX9_holders_0 : decode cX9_holders 0 = .ok (.iconst 0, 1) := by decide +kernel
theorem dX9_holders_1 : decode cX9_holders 1 = .ok (.istore_n 2, 1) := by decide +kernel
theorem dX9_holders_2 : decode cX9_holders 2 = .ok (.iconst 0, 1) := by decide +kernel
theorem dX9_holders_3 : decode cX9_holders 3 = .ok (.istore_n 3, 1) := by decide +kernel
theorem dX9_holders_4 : decode cX9_holders 4 = .ok (.iload_n 3, 1) := by decide +kernel
theorem dX9_holders_5 : decode cX9_holders 5 = .ok (.aload_n 0, 1) := by decide +kernel
theorem dX9_holders_6 : decode cX9_holders 6 = .ok (.getfield 10, 3) := by decide +kernel
theorem dX9_holders_9 : decode cX9_holders 9 = .ok (.getfield 52, 3) := by decide +kernel
theorem dX9_holders_12 : decode cX9_holders 12 = .ok (.if_icmp .ge 21, 3) := by decide +kernel
theorem dX9_holders_15 : decode cX9_holders 15 = .ok (.aload_n 0, 1) := by decide +kernel
theorem dX9_holders_16 : decode cX9_holders 16 = .ok (.iload_n 3, 1) := by decide +kernel
theorem dX9_holders_17 : decode cX9_holders 17 = .ok (.iload_n 1, 1) := by decide +kernel
theorem dX9_holders_18 : decode cX9_holders 18 = .ok (.invokevirtual 63, 3) := by decide +kernel
theorem dX9_holders_21 : decode cX9_holders 21 = .ok (.ifCond .eq 6, 3) := by decide +kernel
theorem dX9_holders_24 : decode cX9_holders 24 = .ok (.iinc 2 1, 3) := by decide +kernel
theorem dX9_holders_27 : decode cX9_holders 27 = .ok (.iinc 3 1, 3) := by decide +kernel
theorem dX9_holders_30 : decode cX9_holders 30 = .ok (.goto (-26), 3) := by decide +kernel
theorem dX9_holders_33 : decode cX9_holders 33 = .ok (.iload_n 2, 1) := by decide +kernel
theorem dX9_holders_34 : decode cX9_holders 34 = .ok (.ireturn, 1) := by decide +kernel
def fX9_holders_L4 (p1 : Int32) : Nat → St → Int32 → Int32 → (St → Int32 → Int32 → Option (St × Int32)) → Option (St × Int32)
  | 0, _, _, _, _ => none
  | n + 1, σ1, v2, v3, k => (if (σ1.1 26 7) ≤ v3 then k σ1 v2 v3 else cl (fX9_has σ1 v3 p1) (fun σ4 r5 => pv (if r5 = 0 then v2 else (v2 + 1)) (fun (z7 : Int32) => fX9_holders_L4 p1 n σ4 z7 (v3 + 1) k)))
def fX9_holders (σ : St) (p1 : Int32) : Option (St × Int32) := fX9_holders_L4 p1 10000 σ 0 0 (fun σ8 v9 v10 => some (σ8, v9))
set_option maxHeartbeats 4000000 in
set_option maxRecDepth 100000 in
theorem ctX9_holders (l : Launch) (g : GG) (σ : St) (p1 : Int32) (σ' : St) (r : Int32) (hE : fX9_holders σ p1 = some (σ', r)) : MI 52 entC l g yX9_holders (Cond.code yX9_holders cX9_holders 4 (some .int) :: gtbl) (rmD 3) [.ref (g.2.1 25), .int p1] σ σ' r := by
  refine mi_i (own := RX9) (lv := [(0, .ref (g.2.1 25)), (1, .int p1)]) (by decide) rfl (Nat.le_of_ble_eq_true rfl) rfl (fun p e s m below meth c ls args Q A H0 H locs C hK hA hQ hs hl => ?_)
  have hx := C.1
  have hb := C.2.1
  unfold fX9_holders at hE
  refine lv_iconst (v := 0) hx hb dX9_holders_0 (by decide) ?_
  refine lv_istore_n (lv' := [(2, .int 0), (0, .ref (g.2.1 25)), (1, .int p1)]) hx hb dX9_holders_1 rfl hl (by decide) rfl (fun ls hl => ?_)
  refine lv_iconst (v := 0) hx hb dX9_holders_2 (by decide) ?_
  refine lv_istore_n (lv' := [(3, .int 0), (2, .int 0), (0, .ref (g.2.1 25)), (1, .int p1)]) hx hb dX9_holders_3 rfl hl (by decide) rfl (fun ls hl => ?_)
  have hL4 : ∀ (n : Nat) (σ1 : St) (v2 : Int32) (v3 : Int32) (k : St → Int32 → Int32 → Option (St × Int32)), fX9_holders_L4 p1 n σ1 v2 v3 k = some (σ', r) → (∀ (σ1 : St) (v2 : Int32) (v3 : Int32) (H : Heap) (locs : List Loc) (ls : Array Slot), HW 52 entC g A H0 H locs σ1 → lv_has ls 4 [(0, .ref (g.2.1 25)), (1, .int p1), (2, .int v2), (3, .int v3)] → k σ1 v2 v3 = some (σ', r) → W p l e (rmD 3) s m args below meth c H locs 0 0 Q (F0 m 33 ls [])) → ∀ (H : Heap) (locs : List Loc) (ls : Array Slot), HW 52 entC g A H0 H locs σ1 → lv_has ls 4 [(0, .ref (g.2.1 25)), (1, .int p1), (2, .int v2), (3, .int v3)] → W p l e (rmD 3) s m args below meth c H locs 0 0 Q (F0 m 4 ls []) := by
    intro n
    induction n with
    | zero =>
      intro σ1 v2 v3 k hE
      rw [fX9_holders_L4] at hE
      exact no_e hE
    | succ n ih =>
      intro σ1 v2 v3 k hE hk H locs ls hs hl
      rw [fX9_holders_L4] at hE
      refine lv_iload_n hx hb dX9_holders_4 rfl (lv_at hl 3 rfl) ?_
      refine lv_aload_n hx hb dX9_holders_5 rfl (lv_at hl 0 rfl) ?_
      refine gf_X9_10_25 C hK hs dX9_holders_6 ?_
      refine gf_X9_52_26 C hK hs dX9_holders_9 ?_
      refine lv_icmp_ge (tgt := 33) hx hb dX9_holders_12 (by decide) (fun hc => ?_) (fun hc => ?_)
      · have hE := if_t hc hE
        exact hk σ1 v2 v3 _ _ _ hs (lv_sub hl [0, 1, 2, 3] rfl) hE
      · have hE := if_f hc hE
        refine lv_aload_n hx hb dX9_holders_15 rfl (lv_at hl 0 rfl) ?_
        refine lv_iload_n hx hb dX9_holders_16 rfl (lv_at hl 3 rfl) ?_
        refine lv_iload_n hx hb dX9_holders_17 rfl (lv_at hl 1 rfl) ?_
        obtain ⟨σ4, r5, hE1, hE⟩ := cl_e hE
        refine x_civ (As := [.int v3, .int p1]) (rest := []) C hl.1 hK hs hA ⟨Nat.le_refl 0, Nat.le_refl 0⟩ (ctX9_has l g _ _ _ _ _ hE1) (cw_X9_63 C ⟨Nat.le_of_ble_eq_true rfl, Nat.le_of_ble_eq_true rfl⟩) (hs.recv hK 25 (by decide) rfl rfl) rfl rfl (Nat.le_of_ble_eq_true rfl) dX9_holders_18 (fun H locs hs => ?_)
        refine pvw hE (fun k6 hE hk6 => ?_)
        have hJk6 : ∀ (z7 : Int32) (H : Heap) (locs : List Loc) (ls : Array Slot), HW 52 entC g A H0 H locs σ4 → lv_has ls 4 [(0, .ref (g.2.1 25)), (1, .int p1), (2, .int z7), (3, .int v3)] → k6 z7 = some (σ', r) → W p l e (rmD 3) s m args below meth c H locs 0 0 Q (F0 m 27 ls []) := by
          intro z7 H locs ls hs hl hE
          have hE := hk6 _ hE
          refine lv_iinc (v := v3 + 1) (lv' := [(3, .int (v3 + 1)), (0, .ref (g.2.1 25)), (1, .int p1), (2, .int z7)]) hx hb dX9_holders_27 hl (k := 3) rfl rfl (by decide) rfl (fun ls hl => ?_)
          refine lv_goto (tgt := 4) hx hb dX9_holders_30 (by decide) ?_
          exact ih _ _ _ _ hE hk _ _ _ hs (lv_sub hl [1, 2, 3, 0] rfl)
        refine lv_if_eq (tgt := 27) hx hb dX9_holders_21 (by decide) (fun hc => ?_) (fun hc => ?_)
        · have hE := pv_t hc hE
          exact hJk6 v2 _ _ _ hs (lv_sub hl [0, 1, 2, 3] rfl) hE
        · have hE := pv_f hc hE
          refine lv_iinc (v := v2 + 1) (lv' := [(2, .int (v2 + 1)), (0, .ref (g.2.1 25)), (1, .int p1), (3, .int v3)]) hx hb dX9_holders_24 hl (k := 2) rfl rfl (by decide) rfl (fun ls hl => ?_)
          exact hJk6 (v2 + 1) _ _ _ hs (lv_sub hl [1, 2, 0, 3] rfl) hE
  refine hL4 _ _ _ _ _ hE (fun σ8 v9 v10 H locs ls hs hl hE => ?_) H locs ls hs (lv_sub hl [2, 3, 1, 0] rfl)
  refine lv_iload_n hx hb dX9_holders_33 rfl (lv_at hl 2 rfl) ?_
  exact hQ hs hE dX9_holders_34
theorem dX9_coloursOf_0 : decode cX9_coloursOf 0 = .ok (.iconst 0, 1) := by decide +kernel
theorem dX9_coloursOf_1 : decode cX9_coloursOf 1 = .ok (.istore_n 2, 1) := by decide +kernel
theorem dX9_coloursOf_2 : decode cX9_coloursOf 2 = .ok (.iconst 0, 1) := by decide +kernel
theorem dX9_coloursOf_3 : decode cX9_coloursOf 3 = .ok (.istore_n 3, 1) := by decide +kernel
theorem dX9_coloursOf_4 : decode cX9_coloursOf 4 = .ok (.iload_n 3, 1) := by decide +kernel
theorem dX9_coloursOf_5 : decode cX9_coloursOf 5 = .ok (.aload_n 0, 1) := by decide +kernel
theorem dX9_coloursOf_6 : decode cX9_coloursOf 6 = .ok (.getfield 10, 3) := by decide +kernel
theorem dX9_coloursOf_9 : decode cX9_coloursOf 9 = .ok (.getfield 67, 3) := by decide +kernel
theorem dX9_coloursOf_12 : decode cX9_coloursOf 12 = .ok (.if_icmp .ge 24, 3) := by decide +kernel
theorem dX9_coloursOf_15 : decode cX9_coloursOf 15 = .ok (.aload_n 0, 1) := by decide +kernel
theorem dX9_coloursOf_16 : decode cX9_coloursOf 16 = .ok (.iload_n 1, 1) := by decide +kernel
theorem dX9_coloursOf_17 : decode cX9_coloursOf 17 = .ok (.iload_n 3, 1) := by decide +kernel
theorem dX9_coloursOf_18 : decode cX9_coloursOf 18 = .ok (.invokevirtual 63, 3) := by decide +kernel
theorem dX9_coloursOf_21 : decode cX9_coloursOf 21 = .ok (.ifCond .eq 9, 3) := by decide +kernel
theorem dX9_coloursOf_24 : decode cX9_coloursOf 24 = .ok (.iload_n 2, 1) := by decide +kernel
theorem dX9_coloursOf_25 : decode cX9_coloursOf 25 = .ok (.iconst 1, 1) := by decide +kernel
theorem dX9_coloursOf_26 : decode cX9_coloursOf 26 = .ok (.iload_n 3, 1) := by decide +kernel
theorem dX9_coloursOf_27 : decode cX9_coloursOf 27 = .ok (.ishl, 1) := by decide +kernel
theorem dX9_coloursOf_28 : decode cX9_coloursOf 28 = .ok (.ior, 1) := by decide +kernel
theorem dX9_coloursOf_29 : decode cX9_coloursOf 29 = .ok (.istore_n 2, 1) := by decide +kernel
theorem dX9_coloursOf_30 : decode cX9_coloursOf 30 = .ok (.iinc 3 1, 3) := by decide +kernel
theorem dX9_coloursOf_33 : decode cX9_coloursOf 33 = .ok (.goto (-29), 3) := by decide +kernel
theorem dX9_coloursOf_36 : decode cX9_coloursOf 36 = .ok (.iload_n 2, 1) := by decide +kernel
theorem dX9_coloursOf_37 : decode cX9_coloursOf 37 = .ok (.ireturn, 1) := by decide +kernel
def fX9_coloursOf_L4 (p1 : Int32) : Nat → St → Int32 → Int32 → (St → Int32 → Int32 → Option (St × Int32)) → Option (St × Int32)
  | 0, _, _, _, _ => none
  | n + 1, σ1, v2, v3, k => (if (σ1.1 26 6) ≤ v3 then k σ1 v2 v3 else cl (fX9_has σ1 p1 v3) (fun σ4 r5 => pv (if r5 = 0 then v2 else (v2 ||| (1 <<< (v3 &&& 31)))) (fun (z7 : Int32) => fX9_coloursOf_L4 p1 n σ4 z7 (v3 + 1) k)))
def fX9_coloursOf (σ : St) (p1 : Int32) : Option (St × Int32) := fX9_coloursOf_L4 p1 10000 σ 0 0 (fun σ8 v9 v10 => some (σ8, v9))
set_option maxHeartbeats 4000000 in
set_option maxRecDepth 100000 in
theorem ctX9_coloursOf (l : Launch) (g : GG) (σ : St) (p1 : Int32) (σ' : St) (r : Int32) (hE : fX9_coloursOf σ p1 = some (σ', r)) : MI 52 entC l g yX9_coloursOf (Cond.code yX9_coloursOf cX9_coloursOf 4 (some .int) :: gtbl) (rmD 3) [.ref (g.2.1 25), .int p1] σ σ' r := by
  refine mi_i (own := RX9) (lv := [(0, .ref (g.2.1 25)), (1, .int p1)]) (by decide) rfl (Nat.le_of_ble_eq_true rfl) rfl (fun p e s m below meth c ls args Q A H0 H locs C hK hA hQ hs hl => ?_)
  have hx := C.1
  have hb := C.2.1
  unfold fX9_coloursOf at hE
  refine lv_iconst (v := 0) hx hb dX9_coloursOf_0 (by decide) ?_
  refine lv_istore_n (lv' := [(2, .int 0), (0, .ref (g.2.1 25)), (1, .int p1)]) hx hb dX9_coloursOf_1 rfl hl (by decide) rfl (fun ls hl => ?_)
  refine lv_iconst (v := 0) hx hb dX9_coloursOf_2 (by decide) ?_
  refine lv_istore_n (lv' := [(3, .int 0), (2, .int 0), (0, .ref (g.2.1 25)), (1, .int p1)]) hx hb dX9_coloursOf_3 rfl hl (by decide) rfl (fun ls hl => ?_)
  have hL4 : ∀ (n : Nat) (σ1 : St) (v2 : Int32) (v3 : Int32) (k : St → Int32 → Int32 → Option (St × Int32)), fX9_coloursOf_L4 p1 n σ1 v2 v3 k = some (σ', r) → (∀ (σ1 : St) (v2 : Int32) (v3 : Int32) (H : Heap) (locs : List Loc) (ls : Array Slot), HW 52 entC g A H0 H locs σ1 → lv_has ls 4 [(0, .ref (g.2.1 25)), (1, .int p1), (2, .int v2), (3, .int v3)] → k σ1 v2 v3 = some (σ', r) → W p l e (rmD 3) s m args below meth c H locs 0 0 Q (F0 m 36 ls [])) → ∀ (H : Heap) (locs : List Loc) (ls : Array Slot), HW 52 entC g A H0 H locs σ1 → lv_has ls 4 [(0, .ref (g.2.1 25)), (1, .int p1), (2, .int v2), (3, .int v3)] → W p l e (rmD 3) s m args below meth c H locs 0 0 Q (F0 m 4 ls []) := by
    intro n
    induction n with
    | zero =>
      intro σ1 v2 v3 k hE
      rw [fX9_coloursOf_L4] at hE
      exact no_e hE
    | succ n ih =>
      intro σ1 v2 v3 k hE hk H locs ls hs hl
      rw [fX9_coloursOf_L4] at hE
      refine lv_iload_n hx hb dX9_coloursOf_4 rfl (lv_at hl 3 rfl) ?_
      refine lv_aload_n hx hb dX9_coloursOf_5 rfl (lv_at hl 0 rfl) ?_
      refine gf_X9_10_25 C hK hs dX9_coloursOf_6 ?_
      refine gf_X9_67_26 C hK hs dX9_coloursOf_9 ?_
      refine lv_icmp_ge (tgt := 36) hx hb dX9_coloursOf_12 (by decide) (fun hc => ?_) (fun hc => ?_)
      · have hE := if_t hc hE
        exact hk σ1 v2 v3 _ _ _ hs (lv_sub hl [0, 1, 2, 3] rfl) hE
      · have hE := if_f hc hE
        refine lv_aload_n hx hb dX9_coloursOf_15 rfl (lv_at hl 0 rfl) ?_
        refine lv_iload_n hx hb dX9_coloursOf_16 rfl (lv_at hl 1 rfl) ?_
        refine lv_iload_n hx hb dX9_coloursOf_17 rfl (lv_at hl 3 rfl) ?_
        obtain ⟨σ4, r5, hE1, hE⟩ := cl_e hE
        refine x_civ (As := [.int p1, .int v3]) (rest := []) C hl.1 hK hs hA ⟨Nat.le_refl 0, Nat.le_refl 0⟩ (ctX9_has l g _ _ _ _ _ hE1) (cw_X9_63 C ⟨Nat.le_of_ble_eq_true rfl, Nat.le_of_ble_eq_true rfl⟩) (hs.recv hK 25 (by decide) rfl rfl) rfl rfl (Nat.le_of_ble_eq_true rfl) dX9_coloursOf_18 (fun H locs hs => ?_)
        refine pvw hE (fun k6 hE hk6 => ?_)
        have hJk6 : ∀ (z7 : Int32) (H : Heap) (locs : List Loc) (ls : Array Slot), HW 52 entC g A H0 H locs σ4 → lv_has ls 4 [(0, .ref (g.2.1 25)), (1, .int p1), (2, .int z7), (3, .int v3)] → k6 z7 = some (σ', r) → W p l e (rmD 3) s m args below meth c H locs 0 0 Q (F0 m 30 ls []) := by
          intro z7 H locs ls hs hl hE
          have hE := hk6 _ hE
          refine lv_iinc (v := v3 + 1) (lv' := [(3, .int (v3 + 1)), (0, .ref (g.2.1 25)), (1, .int p1), (2, .int z7)]) hx hb dX9_coloursOf_30 hl (k := 3) rfl rfl (by decide) rfl (fun ls hl => ?_)
          refine lv_goto (tgt := 4) hx hb dX9_coloursOf_33 (by decide) ?_
          exact ih _ _ _ _ hE hk _ _ _ hs (lv_sub hl [1, 2, 3, 0] rfl)
        refine lv_if_eq (tgt := 30) hx hb dX9_coloursOf_21 (by decide) (fun hc => ?_) (fun hc => ?_)
        · have hE := pv_t hc hE
          exact hJk6 v2 _ _ _ hs (lv_sub hl [0, 1, 2, 3] rfl) hE
        · have hE := pv_f hc hE
          refine lv_iload_n hx hb dX9_coloursOf_24 rfl (lv_at hl 2 rfl) ?_
          refine lv_iconst (v := 1) hx hb dX9_coloursOf_25 (by decide) ?_
          refine lv_iload_n hx hb dX9_coloursOf_26 rfl (lv_at hl 3 rfl) ?_
          refine lv_ishl hx hb dX9_coloursOf_27 ?_
          refine lv_ior hx hb dX9_coloursOf_28 ?_
          refine lv_istore_n (lv' := [(2, .int (v2 ||| (1 <<< (v3 &&& 31)))), (0, .ref (g.2.1 25)), (1, .int p1), (3, .int v3)]) hx hb dX9_coloursOf_29 rfl hl (by decide) rfl (fun ls hl => ?_)
          exact hJk6 (v2 ||| (1 <<< (v3 &&& 31))) _ _ _ hs (lv_sub hl [1, 2, 0, 3] rfl) hE
  refine hL4 _ _ _ _ _ hE (fun σ8 v9 v10 H locs ls hs hl hE => ?_) H locs ls hs (lv_sub hl [2, 3, 1, 0] rfl)
  refine lv_iload_n hx hb dX9_coloursOf_36 rfl (lv_at hl 2 rfl) ?_
  exact hQ hs hE dX9_coloursOf_37
theorem dX9_allPurses_0 : decode cX9_allPurses 0 = .ok (.iconst 0, 1) := by decide +kernel
theorem dX9_allPurses_1 : decode cX9_allPurses 1 = .ok (.istore_n 1, 1) := by decide +kernel
theorem dX9_allPurses_2 : decode cX9_allPurses 2 = .ok (.iconst 0, 1) := by decide +kernel
theorem dX9_allPurses_3 : decode cX9_allPurses 3 = .ok (.istore_n 2, 1) := by decide +kernel
theorem dX9_allPurses_4 : decode cX9_allPurses 4 = .ok (.iload_n 2, 1) := by decide +kernel
theorem dX9_allPurses_5 : decode cX9_allPurses 5 = .ok (.aload_n 0, 1) := by decide +kernel
theorem dX9_allPurses_6 : decode cX9_allPurses 6 = .ok (.getfield 10, 3) := by decide +kernel
theorem dX9_allPurses_9 : decode cX9_allPurses 9 = .ok (.getfield 52, 3) := by decide +kernel
theorem dX9_allPurses_12 : decode cX9_allPurses 12 = .ok (.if_icmp .ge 18, 3) := by decide +kernel
theorem dX9_allPurses_15 : decode cX9_allPurses 15 = .ok (.iload_n 1, 1) := by decide +kernel
theorem dX9_allPurses_16 : decode cX9_allPurses 16 = .ok (.aload_n 0, 1) := by decide +kernel
theorem dX9_allPurses_17 : decode cX9_allPurses 17 = .ok (.getfield 16, 3) := by decide +kernel
theorem dX9_allPurses_20 : decode cX9_allPurses 20 = .ok (.iload_n 2, 1) := by decide +kernel
theorem dX9_allPurses_21 : decode cX9_allPurses 21 = .ok (.iaload, 1) := by decide +kernel
theorem dX9_allPurses_22 : decode cX9_allPurses 22 = .ok (.iadd, 1) := by decide +kernel
theorem dX9_allPurses_23 : decode cX9_allPurses 23 = .ok (.istore_n 1, 1) := by decide +kernel
theorem dX9_allPurses_24 : decode cX9_allPurses 24 = .ok (.iinc 2 1, 3) := by decide +kernel
theorem dX9_allPurses_27 : decode cX9_allPurses 27 = .ok (.goto (-23), 3) := by decide +kernel
theorem dX9_allPurses_30 : decode cX9_allPurses 30 = .ok (.iload_n 1, 1) := by decide +kernel
theorem dX9_allPurses_31 : decode cX9_allPurses 31 = .ok (.ireturn, 1) := by decide +kernel
def fX9_allPurses_L4 : Nat → St → Int32 → Int32 → (St → Int32 → Int32 → Option (St × Int32)) → Option (St × Int32)
  | 0, _, _, _, _ => none
  | n + 1, σ1, v2, v3, k => (if (σ1.1 26 7) ≤ v3 then k σ1 v2 v3 else rd LC σ1 33 v3 (fun x4 => fX9_allPurses_L4 n σ1 (v2 + x4) (v3 + 1) k))
def fX9_allPurses (σ : St) : Option (St × Int32) := fX9_allPurses_L4 10000 σ 0 0 (fun σ5 v6 v7 => some (σ5, v6))
set_option maxHeartbeats 4000000 in
set_option maxRecDepth 100000 in
theorem ctX9_allPurses (l : Launch) (g : GG) (σ : St) (σ' : St) (r : Int32) (hE : fX9_allPurses σ  = some (σ', r)) : MI 52 entC l g yX9_allPurses (Cond.code yX9_allPurses cX9_allPurses 3 (some .int) :: gtbl) (rmD 1) [.ref (g.2.1 25)] σ σ' r := by
  refine mi_i (own := RX9) (lv := [(0, .ref (g.2.1 25))]) (by decide) rfl (Nat.le_of_ble_eq_true rfl) rfl (fun p e s m below meth c ls args Q A H0 H locs C hK hA hQ hs hl => ?_)
  have hx := C.1
  have hb := C.2.1
  unfold fX9_allPurses at hE
  refine lv_iconst (v := 0) hx hb dX9_allPurses_0 (by decide) ?_
  refine lv_istore_n (lv' := [(1, .int 0), (0, .ref (g.2.1 25))]) hx hb dX9_allPurses_1 rfl hl (by decide) rfl (fun ls hl => ?_)
  refine lv_iconst (v := 0) hx hb dX9_allPurses_2 (by decide) ?_
  refine lv_istore_n (lv' := [(2, .int 0), (1, .int 0), (0, .ref (g.2.1 25))]) hx hb dX9_allPurses_3 rfl hl (by decide) rfl (fun ls hl => ?_)
  have hL4 : ∀ (n : Nat) (σ1 : St) (v2 : Int32) (v3 : Int32) (k : St → Int32 → Int32 → Option (St × Int32)), fX9_allPurses_L4 n σ1 v2 v3 k = some (σ', r) → (∀ (σ1 : St) (v2 : Int32) (v3 : Int32) (H : Heap) (locs : List Loc) (ls : Array Slot), HW 52 entC g A H0 H locs σ1 → lv_has ls 3 [(0, .ref (g.2.1 25)), (1, .int v2), (2, .int v3)] → k σ1 v2 v3 = some (σ', r) → W p l e (rmD 1) s m args below meth c H locs 0 0 Q (F0 m 30 ls [])) → ∀ (H : Heap) (locs : List Loc) (ls : Array Slot), HW 52 entC g A H0 H locs σ1 → lv_has ls 3 [(0, .ref (g.2.1 25)), (1, .int v2), (2, .int v3)] → W p l e (rmD 1) s m args below meth c H locs 0 0 Q (F0 m 4 ls []) := by
    intro n
    induction n with
    | zero =>
      intro σ1 v2 v3 k hE
      rw [fX9_allPurses_L4] at hE
      exact no_e hE
    | succ n ih =>
      intro σ1 v2 v3 k hE hk H locs ls hs hl
      rw [fX9_allPurses_L4] at hE
      refine lv_iload_n hx hb dX9_allPurses_4 rfl (lv_at hl 2 rfl) ?_
      refine lv_aload_n hx hb dX9_allPurses_5 rfl (lv_at hl 0 rfl) ?_
      refine gf_X9_10_25 C hK hs dX9_allPurses_6 ?_
      refine gf_X9_52_26 C hK hs dX9_allPurses_9 ?_
      refine lv_icmp_ge (tgt := 30) hx hb dX9_allPurses_12 (by decide) (fun hc => ?_) (fun hc => ?_)
      · have hE := if_t hc hE
        exact hk σ1 v2 v3 _ _ _ hs (lv_sub hl [0, 1, 2] rfl) hE
      · have hE := if_f hc hE
        refine lv_iload_n hx hb dX9_allPurses_15 rfl (lv_at hl 1 rfl) ?_
        refine lv_aload_n hx hb dX9_allPurses_16 rfl (lv_at hl 0 rfl) ?_
        refine gf_X9_16_25 C hK hs dX9_allPurses_17 ?_
        refine lv_iload_n hx hb dX9_allPurses_20 rfl (lv_at hl 2 rfl) ?_
        obtain ⟨hi, x4, ex4, hE⟩ := rd_w hE
        refine y_ald layC C hK hs hi ex4 dX9_allPurses_21 ?_
        refine lv_iadd hx hb dX9_allPurses_22 ?_
        refine lv_istore_n (lv' := [(1, .int (v2 + x4)), (0, .ref (g.2.1 25)), (2, .int v3)]) hx hb dX9_allPurses_23 rfl hl (by decide) rfl (fun ls hl => ?_)
        refine lv_iinc (v := v3 + 1) (lv' := [(2, .int (v3 + 1)), (1, .int (v2 + x4)), (0, .ref (g.2.1 25))]) hx hb dX9_allPurses_24 hl (k := 2) rfl rfl (by decide) rfl (fun ls hl => ?_)
        refine lv_goto (tgt := 4) hx hb dX9_allPurses_27 (by decide) ?_
        exact ih _ _ _ _ hE hk _ _ _ hs (lv_sub hl [2, 1, 0] rfl)
  refine hL4 _ _ _ _ _ hE (fun σ5 v6 v7 H locs ls hs hl hE => ?_) H locs ls hs (lv_sub hl [2, 1, 0] rfl)
  refine lv_iload_n hx hb dX9_allPurses_30 rfl (lv_at hl 1 rfl) ?_
  exact hQ hs hE dX9_allPurses_31
theorem dX10_refuse_0 : decode cX10_refuse 0 = .ok (.aload_n 0, 1) := by decide +kernel
theorem dX10_refuse_1 : decode cX10_refuse 1 = .ok (.iload_n 1, 1) := by decide +kernel
theorem dX10_refuse_2 : decode cX10_refuse 2 = .ok (.putfield 327, 3) := by decide +kernel
theorem dX10_refuse_5 : decode cX10_refuse 5 = .ok (.aload_n 0, 1) := by decide +kernel
theorem dX10_refuse_6 : decode cX10_refuse 6 = .ok (.getfield 68, 3) := by decide +kernel
theorem dX10_refuse_9 : decode cX10_refuse 9 = .ok (.iload_n 1, 1) := by decide +kernel
theorem dX10_refuse_10 : decode cX10_refuse 10 = .ok (.dup2, 1) := by decide +kernel
theorem dX10_refuse_11 : decode cX10_refuse 11 = .ok (.iaload, 1) := by decide +kernel
theorem dX10_refuse_12 : decode cX10_refuse 12 = .ok (.iconst 1, 1) := by decide +kernel
theorem dX10_refuse_13 : decode cX10_refuse 13 = .ok (.iadd, 1) := by decide +kernel
theorem dX10_refuse_14 : decode cX10_refuse 14 = .ok (.iastore, 1) := by decide +kernel
theorem dX10_refuse_15 : decode cX10_refuse 15 = .ok (.bipush (-3), 2) := by decide +kernel
theorem dX10_refuse_17 : decode cX10_refuse 17 = .ok (.ireturn, 1) := by decide +kernel
def fX10_refuse (σ : St) (p1 : Int32) : Option (St × Int32) := pt (su σ 0 10 p1) (fun σ1 => rd LC σ1 51 p1 (fun x2 => wr LC σ1 51 p1 (x2 + 1) (fun σ3 => some (σ3, (-3)))))
set_option maxHeartbeats 4000000 in
set_option maxRecDepth 100000 in
theorem ctX10_refuse (l : Launch) (g : GG) (σ : St) (p1 : Int32) (σ' : St) (r : Int32) (hE : fX10_refuse σ p1 = some (σ', r)) : MI 52 entC l g yX10_refuse (Cond.code yX10_refuse cX10_refuse 2 (some .int) :: gtbl) (rmD 1) [.ref (g.2.1 0), .int p1] σ σ' r := by
  refine mi_i (own := RX10) (lv := [(0, .ref (g.2.1 0)), (1, .int p1)]) (by decide) rfl (Nat.le_of_ble_eq_true rfl) rfl (fun p e s m below meth c ls args Q A H0 H locs C hK hA hQ hs hl => ?_)
  have hx := C.1
  have hb := C.2.1
  unfold fX10_refuse at hE
  refine lv_aload_n hx hb dX10_refuse_0 rfl (lv_at hl 0 rfl) ?_
  refine lv_iload_n hx hb dX10_refuse_1 rfl (lv_at hl 1 rfl) ?_
  obtain ⟨σ1, eσ1, hE⟩ := pt_w hE
  refine pf_X10_327_0 C hK hs eσ1 dX10_refuse_2 (fun H locs hs => ?_)
  refine lv_aload_n hx hb dX10_refuse_5 rfl (lv_at hl 0 rfl) ?_
  refine gf_X10_68_0 C hK hs dX10_refuse_6 ?_
  refine lv_iload_n hx hb dX10_refuse_9 rfl (lv_at hl 1 rfl) ?_
  refine lv_dup2_11 hx hb dX10_refuse_10 rfl rfl ?_
  obtain ⟨hi, x2, ex2, hE⟩ := rd_w hE
  refine y_ald layC C hK hs hi ex2 dX10_refuse_11 ?_
  refine lv_iconst (v := 1) hx hb dX10_refuse_12 (by decide) ?_
  refine lv_iadd hx hb dX10_refuse_13 ?_
  obtain ⟨hi, σ3, eσ3, hE⟩ := wr_w hE
  refine y_ast layC C hK hs hi eσ3 dX10_refuse_14 (fun H locs hs => ?_)
  refine lv_bipush (v := (-3)) hx hb dX10_refuse_15 (by decide) ?_
  exact hQ hs hE dX10_refuse_17
theorem dX10_row_0 : decode cX10_row 0 = .ok (.aload_n 0, 1) := by decide +kernel
theorem dX10_row_1 : decode cX10_row 1 = .ok (.getfield 14, 3) := by decide +kernel
theorem dX10_row_4 : decode cX10_row 4 = .ok (.iload_n 1, 1) := by decide +kernel
theorem dX10_row_5 : decode cX10_row 5 = .ok (.invokevirtual 72, 3) := by decide +kernel
theorem dX10_row_8 : decode cX10_row 8 = .ok (.ifCond .eq 9, 3) := by decide +kernel
theorem dX10_row_11 : decode cX10_row 11 = .ok (.iload_n 2, 1) := by decide +kernel
theorem dX10_row_12 : decode cX10_row 12 = .ok (.bipush 40, 2) := by decide +kernel
theorem dX10_row_14 : decode cX10_row 14 = .ok (.if_icmp .le 5, 3) := by decide +kernel
theorem dX10_row_17 : decode cX10_row 17 = .ok (.iconst (-1), 1) := by decide +kernel
theorem dX10_row_18 : decode cX10_row 18 = .ok (.ireturn, 1) := by decide +kernel
theorem dX10_row_19 : decode cX10_row 19 = .ok (.iload_n 2, 1) := by decide +kernel
theorem dX10_row_20 : decode cX10_row 20 = .ok (.ifCond .ge 9, 3) := by decide +kernel
theorem dX10_row_23 : decode cX10_row 23 = .ok (.aload_n 0, 1) := by decide +kernel
theorem dX10_row_24 : decode cX10_row 24 = .ok (.iconst 5, 1) := by decide +kernel
theorem dX10_row_25 : decode cX10_row 25 = .ok (.invokevirtual 76, 3) := by decide +kernel
theorem dX10_row_28 : decode cX10_row 28 = .ok (.ireturn, 1) := by decide +kernel
theorem dX10_row_29 : decode cX10_row 29 = .ok (.aload_n 0, 1) := by decide +kernel
theorem dX10_row_30 : decode cX10_row 30 = .ok (.getfield 14, 3) := by decide +kernel
theorem dX10_row_33 : decode cX10_row 33 = .ok (.iload_n 1, 1) := by decide +kernel
theorem dX10_row_34 : decode cX10_row 34 = .ok (.iload_n 2, 1) := by decide +kernel
theorem dX10_row_35 : decode cX10_row 35 = .ok (.iconst 0, 1) := by decide +kernel
theorem dX10_row_36 : decode cX10_row 36 = .ok (.invokevirtual 80, 3) := by decide +kernel
theorem dX10_row_39 : decode cX10_row 39 = .ok (.iload_n 2, 1) := by decide +kernel
theorem dX10_row_40 : decode cX10_row 40 = .ok (.ireturn, 1) := by decide +kernel
def fX10_row (σ : St) (p1 : Int32) (p2 : Int32) : Option (St × Int32) := cl (fX7_isOne_1 σ p1) (fun σ1 r2 => (if r2 = 0 then some (σ1, (-1)) else (if p2 ≤ 40 then (if 0 ≤ p2 then cl (fX7_make_1 σ1 p1 p2 0) (fun σ3 r4 => some (σ3, p2)) else cl (fX10_refuse σ1 5) (fun σ5 r6 => some (σ5, r6))) else some (σ1, (-1)))))
set_option maxHeartbeats 4000000 in
set_option maxRecDepth 100000 in
theorem ctX10_row (l : Launch) (g : GG) (σ : St) (p1 : Int32) (p2 : Int32) (σ' : St) (r : Int32) (hE : fX10_row σ p1 p2 = some (σ', r)) : MI 52 entC l g yX10_row (Cond.code yX10_row cX10_row 3 (some .int) :: gtbl) (rmD 3) [.ref (g.2.1 0), .int p1, .int p2] σ σ' r := by
  refine mi_i (own := RX10) (lv := [(0, .ref (g.2.1 0)), (1, .int p1), (2, .int p2)]) (by decide) rfl (Nat.le_of_ble_eq_true rfl) rfl (fun p e s m below meth c ls args Q A H0 H locs C hK hA hQ hs hl => ?_)
  have hx := C.1
  have hb := C.2.1
  unfold fX10_row at hE
  refine lv_aload_n hx hb dX10_row_0 rfl (lv_at hl 0 rfl) ?_
  refine gf_X10_14_0 C hK hs dX10_row_1 ?_
  refine lv_iload_n hx hb dX10_row_4 rfl (lv_at hl 1 rfl) ?_
  obtain ⟨σ1, r2, hE1, hE⟩ := cl_e hE
  refine x_civ (As := [.int p1]) (rest := []) C hl.1 hK hs hA ⟨Nat.le_refl 0, Nat.le_refl 0⟩ (ctX7_isOne_1 l g _ _ _ _ hE1) (cw_X10_72 C ⟨Nat.le_of_ble_eq_true rfl, Nat.le_of_ble_eq_true rfl⟩) (hs.recv hK 1 (by decide) rfl rfl) rfl rfl (Nat.le_of_ble_eq_true rfl) dX10_row_5 (fun H locs hs => ?_)
  refine lv_if_eq (tgt := 17) hx hb dX10_row_8 (by decide) (fun hc => ?_) (fun hc => ?_)
  · have hE := if_t hc hE
    refine lv_iconst (v := (-1)) hx hb dX10_row_17 (by decide) ?_
    exact hQ hs hE dX10_row_18
  · have hE := if_f hc hE
    refine lv_iload_n hx hb dX10_row_11 rfl (lv_at hl 2 rfl) ?_
    refine lv_bipush (v := 40) hx hb dX10_row_12 (by decide) ?_
    refine lv_icmp_le (tgt := 19) hx hb dX10_row_14 (by decide) (fun hc => ?_) (fun hc => ?_)
    · have hE := if_t hc hE
      refine lv_iload_n hx hb dX10_row_19 rfl (lv_at hl 2 rfl) ?_
      refine lv_if_ge (tgt := 29) hx hb dX10_row_20 (by decide) (fun hc => ?_) (fun hc => ?_)
      · have hE := if_t hc hE
        refine lv_aload_n hx hb dX10_row_29 rfl (lv_at hl 0 rfl) ?_
        refine gf_X10_14_0 C hK hs dX10_row_30 ?_
        refine lv_iload_n hx hb dX10_row_33 rfl (lv_at hl 1 rfl) ?_
        refine lv_iload_n hx hb dX10_row_34 rfl (lv_at hl 2 rfl) ?_
        refine lv_iconst (v := 0) hx hb dX10_row_35 (by decide) ?_
        obtain ⟨σ3, r4, hE1, hE⟩ := cl_e hE
        refine x_cvv (As := [.int p1, .int p2, .int 0]) (rest := []) C hl.1 hK hs hA ⟨Nat.le_refl 0, Nat.le_refl 0⟩ (ctX7_make_1 l g _ _ _ _ _ _ hE1) (cw_X10_80 C ⟨Nat.le_of_ble_eq_true rfl, Nat.le_of_ble_eq_true rfl⟩) (hs.recv hK 1 (by decide) rfl rfl) rfl rfl (Nat.le_of_ble_eq_true rfl) dX10_row_36 (fun H locs hs => ?_)
        refine lv_iload_n hx hb dX10_row_39 rfl (lv_at hl 2 rfl) ?_
        exact hQ hs hE dX10_row_40
      · have hE := if_f hc hE
        refine lv_aload_n hx hb dX10_row_23 rfl (lv_at hl 0 rfl) ?_
        refine lv_iconst (v := 5) hx hb dX10_row_24 (by decide) ?_
        obtain ⟨σ5, r6, hE1, hE⟩ := cl_e hE
        refine x_civ (As := [.int 5]) (rest := []) C hl.1 hK hs hA ⟨Nat.le_refl 0, Nat.le_refl 0⟩ (ctX10_refuse l g _ _ _ _ hE1) (cw_X10_76 C ⟨Nat.le_of_ble_eq_true rfl, Nat.le_of_ble_eq_true rfl⟩) (hs.recv hK 0 (by decide) rfl rfl) rfl rfl (Nat.le_of_ble_eq_true rfl) dX10_row_25 (fun H locs hs => ?_)
        exact hQ hs hE dX10_row_28
    · have hE := if_f hc hE
      refine lv_iconst (v := (-1)) hx hb dX10_row_17 (by decide) ?_
      exact hQ hs hE dX10_row_18
theorem dX10_lay_0 : decode cX10_lay 0 = .ok (.aload_n 0, 1) := by decide +kernel
theorem dX10_lay_1 : decode cX10_lay 1 = .ok (.getfield 14, 3) := by decide +kernel
theorem dX10_lay_4 : decode cX10_lay 4 = .ok (.iload_n 1, 1) := by decide +kernel
theorem dX10_lay_5 : decode cX10_lay 5 = .ok (.invokevirtual 72, 3) := by decide +kernel
theorem dX10_lay_8 : decode cX10_lay 8 = .ok (.ifCond .ne 5, 3) := by decide +kernel
theorem dX10_lay_11 : decode cX10_lay 11 = .ok (.iconst (-1), 1) := by decide +kernel
theorem dX10_lay_12 : decode cX10_lay 12 = .ok (.ireturn, 1) := by decide +kernel
theorem dX10_lay_13 : decode cX10_lay 13 = .ok (.aload_n 0, 1) := by decide +kernel
theorem dX10_lay_14 : decode cX10_lay 14 = .ok (.getfield 14, 3) := by decide +kernel
theorem dX10_lay_17 : decode cX10_lay 17 = .ok (.iload_n 1, 1) := by decide +kernel
theorem dX10_lay_18 : decode cX10_lay 18 = .ok (.invokevirtual 84, 3) := by decide +kernel
theorem dX10_lay_21 : decode cX10_lay 21 = .ok (.ifCond .eq 9, 3) := by decide +kernel
theorem dX10_lay_24 : decode cX10_lay 24 = .ok (.aload_n 0, 1) := by decide +kernel
theorem dX10_lay_25 : decode cX10_lay 25 = .ok (.iconst 1, 1) := by decide +kernel
theorem dX10_lay_26 : decode cX10_lay 26 = .ok (.invokevirtual 76, 3) := by decide +kernel
theorem dX10_lay_29 : decode cX10_lay 29 = .ok (.ireturn, 1) := by decide +kernel
theorem dX10_lay_30 : decode cX10_lay 30 = .ok (.aload_n 0, 1) := by decide +kernel
theorem dX10_lay_31 : decode cX10_lay 31 = .ok (.getfield 14, 3) := by decide +kernel
theorem dX10_lay_34 : decode cX10_lay 34 = .ok (.iload_n 1, 1) := by decide +kernel
theorem dX10_lay_35 : decode cX10_lay 35 = .ok (.iload_n 2, 1) := by decide +kernel
theorem dX10_lay_36 : decode cX10_lay 36 = .ok (.invokevirtual 87, 3) := by decide +kernel
theorem dX10_lay_39 : decode cX10_lay 39 = .ok (.ifCond .ne 9, 3) := by decide +kernel
theorem dX10_lay_42 : decode cX10_lay 42 = .ok (.aload_n 0, 1) := by decide +kernel
theorem dX10_lay_43 : decode cX10_lay 43 = .ok (.iconst 2, 1) := by decide +kernel
theorem dX10_lay_44 : decode cX10_lay 44 = .ok (.invokevirtual 76, 3) := by decide +kernel
theorem dX10_lay_47 : decode cX10_lay 47 = .ok (.ireturn, 1) := by decide +kernel
theorem dX10_lay_48 : decode cX10_lay 48 = .ok (.aload_n 0, 1) := by decide +kernel
theorem dX10_lay_49 : decode cX10_lay 49 = .ok (.aload_n 0, 1) := by decide +kernel
theorem dX10_lay_50 : decode cX10_lay 50 = .ok (.getfield 14, 3) := by decide +kernel
theorem dX10_lay_53 : decode cX10_lay 53 = .ok (.iload_n 1, 1) := by decide +kernel
theorem dX10_lay_54 : decode cX10_lay 54 = .ok (.iload_n 2, 1) := by decide +kernel
theorem dX10_lay_55 : decode cX10_lay 55 = .ok (.invokevirtual 91, 3) := by decide +kernel
theorem dX10_lay_58 : decode cX10_lay 58 = .ok (.putfield 95, 3) := by decide +kernel
theorem dX10_lay_61 : decode cX10_lay 61 = .ok (.aload_n 0, 1) := by decide +kernel
theorem dX10_lay_62 : decode cX10_lay 62 = .ok (.getfield 14, 3) := by decide +kernel
theorem dX10_lay_65 : decode cX10_lay 65 = .ok (.iload_n 1, 1) := by decide +kernel
theorem dX10_lay_66 : decode cX10_lay 66 = .ok (.iload_n 2, 1) := by decide +kernel
theorem dX10_lay_67 : decode cX10_lay 67 = .ok (.iload_n 3, 1) := by decide +kernel
theorem dX10_lay_68 : decode cX10_lay 68 = .ok (.invokevirtual 99, 3) := by decide +kernel
theorem dX10_lay_71 : decode cX10_lay 71 = .ok (.iconst 1, 1) := by decide +kernel
theorem dX10_lay_72 : decode cX10_lay 72 = .ok (.ireturn, 1) := by decide +kernel
def fX10_lay (σ : St) (p1 : Int32) (p2 : Int32) (p3 : Int32) : Option (St × Int32) := cl (fX7_isOne_1 σ p1) (fun σ1 r2 => (if r2 = 0 then some (σ1, (-1)) else cl (fX7_isMissing_1 σ1 p1) (fun σ3 r4 => (if r4 = 0 then cl (fX7_hasPlace_1 σ3 p1 p2) (fun σ5 r6 => (if r6 = 0 then cl (fX10_refuse σ5 2) (fun σ12 r13 => some (σ12, r13)) else cl (fX7_get_1 σ5 p1 p2) (fun σ7 r8 => pt (su σ7 0 11 r8) (fun σ9 => cl (fX7_set_1 σ9 p1 p2 p3) (fun σ10 r11 => some (σ10, 1)))))) else cl (fX10_refuse σ3 1) (fun σ14 r15 => some (σ14, r15))))))
set_option maxHeartbeats 4000000 in
set_option maxRecDepth 100000 in
theorem ctX10_lay (l : Launch) (g : GG) (σ : St) (p1 : Int32) (p2 : Int32) (p3 : Int32) (σ' : St) (r : Int32) (hE : fX10_lay σ p1 p2 p3 = some (σ', r)) : MI 52 entC l g yX10_lay (Cond.code yX10_lay cX10_lay 4 (some .int) :: gtbl) (rmD 2) [.ref (g.2.1 0), .int p1, .int p2, .int p3] σ σ' r := by
  refine mi_i (own := RX10) (lv := [(0, .ref (g.2.1 0)), (1, .int p1), (2, .int p2), (3, .int p3)]) (by decide) rfl (Nat.le_of_ble_eq_true rfl) rfl (fun p e s m below meth c ls args Q A H0 H locs C hK hA hQ hs hl => ?_)
  have hx := C.1
  have hb := C.2.1
  unfold fX10_lay at hE
  refine lv_aload_n hx hb dX10_lay_0 rfl (lv_at hl 0 rfl) ?_
  refine gf_X10_14_0 C hK hs dX10_lay_1 ?_
  refine lv_iload_n hx hb dX10_lay_4 rfl (lv_at hl 1 rfl) ?_
  obtain ⟨σ1, r2, hE1, hE⟩ := cl_e hE
  refine x_civ (As := [.int p1]) (rest := []) C hl.1 hK hs hA ⟨Nat.le_refl 0, Nat.le_refl 0⟩ (ctX7_isOne_1 l g _ _ _ _ hE1) (cw_X10_72 C ⟨Nat.le_of_ble_eq_true rfl, Nat.le_of_ble_eq_true rfl⟩) (hs.recv hK 1 (by decide) rfl rfl) rfl rfl (Nat.le_of_ble_eq_true rfl) dX10_lay_5 (fun H locs hs => ?_)
  refine lv_if_ne (tgt := 13) hx hb dX10_lay_8 (by decide) (fun hc => ?_) (fun hc => ?_)
  · have hE := if_f hc hE
    refine lv_aload_n hx hb dX10_lay_13 rfl (lv_at hl 0 rfl) ?_
    refine gf_X10_14_0 C hK hs dX10_lay_14 ?_
    refine lv_iload_n hx hb dX10_lay_17 rfl (lv_at hl 1 rfl) ?_
    obtain ⟨σ3, r4, hE1, hE⟩ := cl_e hE
    refine x_civ (As := [.int p1]) (rest := []) C hl.1 hK hs hA ⟨Nat.le_refl 0, Nat.le_refl 0⟩ (ctX7_isMissing_1 l g _ _ _ _ hE1) (cw_X10_84 C ⟨Nat.le_of_ble_eq_true rfl, Nat.le_of_ble_eq_true rfl⟩) (hs.recv hK 1 (by decide) rfl rfl) rfl rfl (Nat.le_of_ble_eq_true rfl) dX10_lay_18 (fun H locs hs => ?_)
    refine lv_if_eq (tgt := 30) hx hb dX10_lay_21 (by decide) (fun hc => ?_) (fun hc => ?_)
    · have hE := if_t hc hE
      refine lv_aload_n hx hb dX10_lay_30 rfl (lv_at hl 0 rfl) ?_
      refine gf_X10_14_0 C hK hs dX10_lay_31 ?_
      refine lv_iload_n hx hb dX10_lay_34 rfl (lv_at hl 1 rfl) ?_
      refine lv_iload_n hx hb dX10_lay_35 rfl (lv_at hl 2 rfl) ?_
      obtain ⟨σ5, r6, hE1, hE⟩ := cl_e hE
      refine x_civ (As := [.int p1, .int p2]) (rest := []) C hl.1 hK hs hA ⟨Nat.le_refl 0, Nat.le_refl 0⟩ (ctX7_hasPlace_1 l g _ _ _ _ _ hE1) (cw_X10_87 C ⟨Nat.le_of_ble_eq_true rfl, Nat.le_of_ble_eq_true rfl⟩) (hs.recv hK 1 (by decide) rfl rfl) rfl rfl (Nat.le_of_ble_eq_true rfl) dX10_lay_36 (fun H locs hs => ?_)
      refine lv_if_ne (tgt := 48) hx hb dX10_lay_39 (by decide) (fun hc => ?_) (fun hc => ?_)
      · have hE := if_f hc hE
        refine lv_aload_n hx hb dX10_lay_48 rfl (lv_at hl 0 rfl) ?_
        refine lv_aload_n hx hb dX10_lay_49 rfl (lv_at hl 0 rfl) ?_
        refine gf_X10_14_0 C hK hs dX10_lay_50 ?_
        refine lv_iload_n hx hb dX10_lay_53 rfl (lv_at hl 1 rfl) ?_
        refine lv_iload_n hx hb dX10_lay_54 rfl (lv_at hl 2 rfl) ?_
        obtain ⟨σ7, r8, hE1, hE⟩ := cl_e hE
        refine x_civ (As := [.int p1, .int p2]) (rest := [.ref (g.2.1 0)]) C hl.1 hK hs hA ⟨Nat.le_refl 0, Nat.le_refl 0⟩ (ctX7_get_1 l g _ _ _ _ _ hE1) (cw_X10_91 C ⟨Nat.le_of_ble_eq_true rfl, Nat.le_of_ble_eq_true rfl⟩) (hs.recv hK 1 (by decide) rfl rfl) rfl rfl (Nat.le_of_ble_eq_true rfl) dX10_lay_55 (fun H locs hs => ?_)
        obtain ⟨σ9, eσ9, hE⟩ := pt_w hE
        refine pf_X10_95_0 C hK hs eσ9 dX10_lay_58 (fun H locs hs => ?_)
        refine lv_aload_n hx hb dX10_lay_61 rfl (lv_at hl 0 rfl) ?_
        refine gf_X10_14_0 C hK hs dX10_lay_62 ?_
        refine lv_iload_n hx hb dX10_lay_65 rfl (lv_at hl 1 rfl) ?_
        refine lv_iload_n hx hb dX10_lay_66 rfl (lv_at hl 2 rfl) ?_
        refine lv_iload_n hx hb dX10_lay_67 rfl (lv_at hl 3 rfl) ?_
        obtain ⟨σ10, r11, hE1, hE⟩ := cl_e hE
        refine x_cvv (As := [.int p1, .int p2, .int p3]) (rest := []) C hl.1 hK hs hA ⟨Nat.le_refl 0, Nat.le_refl 0⟩ (ctX7_set_1 l g _ _ _ _ _ _ hE1) (cw_X10_99 C ⟨Nat.le_of_ble_eq_true rfl, Nat.le_of_ble_eq_true rfl⟩) (hs.recv hK 1 (by decide) rfl rfl) rfl rfl (Nat.le_of_ble_eq_true rfl) dX10_lay_68 (fun H locs hs => ?_)
        refine lv_iconst (v := 1) hx hb dX10_lay_71 (by decide) ?_
        exact hQ hs hE dX10_lay_72
      · have hE := if_t hc hE
        refine lv_aload_n hx hb dX10_lay_42 rfl (lv_at hl 0 rfl) ?_
        refine lv_iconst (v := 2) hx hb dX10_lay_43 (by decide) ?_
        obtain ⟨σ12, r13, hE1, hE⟩ := cl_e hE
        refine x_civ (As := [.int 2]) (rest := []) C hl.1 hK hs hA ⟨Nat.le_refl 0, Nat.le_refl 0⟩ (ctX10_refuse l g _ _ _ _ hE1) (cw_X10_76 C ⟨Nat.le_of_ble_eq_true rfl, Nat.le_of_ble_eq_true rfl⟩) (hs.recv hK 0 (by decide) rfl rfl) rfl rfl (Nat.le_of_ble_eq_true rfl) dX10_lay_44 (fun H locs hs => ?_)
        exact hQ hs hE dX10_lay_47
    · have hE := if_f hc hE
      refine lv_aload_n hx hb dX10_lay_24 rfl (lv_at hl 0 rfl) ?_
      refine lv_iconst (v := 1) hx hb dX10_lay_25 (by decide) ?_
      obtain ⟨σ14, r15, hE1, hE⟩ := cl_e hE
      refine x_civ (As := [.int 1]) (rest := []) C hl.1 hK hs hA ⟨Nat.le_refl 0, Nat.le_refl 0⟩ (ctX10_refuse l g _ _ _ _ hE1) (cw_X10_76 C ⟨Nat.le_of_ble_eq_true rfl, Nat.le_of_ble_eq_true rfl⟩) (hs.recv hK 0 (by decide) rfl rfl) rfl rfl (Nat.le_of_ble_eq_true rfl) dX10_lay_26 (fun H locs hs => ?_)
      exact hQ hs hE dX10_lay_29
  · have hE := if_t hc hE
    refine lv_iconst (v := (-1)) hx hb dX10_lay_11 (by decide) ?_
    exact hQ hs hE dX10_lay_12
theorem dX10_at_0 : decode cX10_at 0 = .ok (.aload_n 0, 1) := by decide +kernel
theorem dX10_at_1 : decode cX10_at 1 = .ok (.getfield 14, 3) := by decide +kernel
theorem dX10_at_4 : decode cX10_at 4 = .ok (.iload_n 1, 1) := by decide +kernel
theorem dX10_at_5 : decode cX10_at 5 = .ok (.invokevirtual 72, 3) := by decide +kernel
theorem dX10_at_8 : decode cX10_at 8 = .ok (.ifCond .ne 5, 3) := by decide +kernel
theorem dX10_at_11 : decode cX10_at 11 = .ok (.iconst (-1), 1) := by decide +kernel
theorem dX10_at_12 : decode cX10_at 12 = .ok (.ireturn, 1) := by decide +kernel
theorem dX10_at_13 : decode cX10_at 13 = .ok (.aload_n 0, 1) := by decide +kernel
theorem dX10_at_14 : decode cX10_at 14 = .ok (.getfield 14, 3) := by decide +kernel
theorem dX10_at_17 : decode cX10_at 17 = .ok (.iload_n 1, 1) := by decide +kernel
theorem dX10_at_18 : decode cX10_at 18 = .ok (.invokevirtual 84, 3) := by decide +kernel
theorem dX10_at_21 : decode cX10_at 21 = .ok (.ifCond .eq 9, 3) := by decide +kernel
theorem dX10_at_24 : decode cX10_at 24 = .ok (.aload_n 0, 1) := by decide +kernel
theorem dX10_at_25 : decode cX10_at 25 = .ok (.iconst 1, 1) := by decide +kernel
theorem dX10_at_26 : decode cX10_at 26 = .ok (.invokevirtual 76, 3) := by decide +kernel
theorem dX10_at_29 : decode cX10_at 29 = .ok (.ireturn, 1) := by decide +kernel
theorem dX10_at_30 : decode cX10_at 30 = .ok (.aload_n 0, 1) := by decide +kernel
theorem dX10_at_31 : decode cX10_at 31 = .ok (.getfield 14, 3) := by decide +kernel
theorem dX10_at_34 : decode cX10_at 34 = .ok (.iload_n 1, 1) := by decide +kernel
theorem dX10_at_35 : decode cX10_at 35 = .ok (.iload_n 2, 1) := by decide +kernel
theorem dX10_at_36 : decode cX10_at 36 = .ok (.invokevirtual 87, 3) := by decide +kernel
theorem dX10_at_39 : decode cX10_at 39 = .ok (.ifCond .ne 9, 3) := by decide +kernel
theorem dX10_at_42 : decode cX10_at 42 = .ok (.aload_n 0, 1) := by decide +kernel
theorem dX10_at_43 : decode cX10_at 43 = .ok (.iconst 2, 1) := by decide +kernel
theorem dX10_at_44 : decode cX10_at 44 = .ok (.invokevirtual 76, 3) := by decide +kernel
theorem dX10_at_47 : decode cX10_at 47 = .ok (.ireturn, 1) := by decide +kernel
theorem dX10_at_48 : decode cX10_at 48 = .ok (.aload_n 0, 1) := by decide +kernel
theorem dX10_at_49 : decode cX10_at 49 = .ok (.aload_n 0, 1) := by decide +kernel
theorem dX10_at_50 : decode cX10_at 50 = .ok (.getfield 14, 3) := by decide +kernel
theorem dX10_at_53 : decode cX10_at 53 = .ok (.iload_n 1, 1) := by decide +kernel
theorem dX10_at_54 : decode cX10_at 54 = .ok (.iload_n 2, 1) := by decide +kernel
theorem dX10_at_55 : decode cX10_at 55 = .ok (.invokevirtual 91, 3) := by decide +kernel
theorem dX10_at_58 : decode cX10_at 58 = .ok (.putfield 95, 3) := by decide +kernel
theorem dX10_at_61 : decode cX10_at 61 = .ok (.iconst 1, 1) := by decide +kernel
theorem dX10_at_62 : decode cX10_at 62 = .ok (.ireturn, 1) := by decide +kernel
def fX10_at (σ : St) (p1 : Int32) (p2 : Int32) : Option (St × Int32) := cl (fX7_isOne_1 σ p1) (fun σ1 r2 => (if r2 = 0 then some (σ1, (-1)) else cl (fX7_isMissing_1 σ1 p1) (fun σ3 r4 => (if r4 = 0 then cl (fX7_hasPlace_1 σ3 p1 p2) (fun σ5 r6 => (if r6 = 0 then cl (fX10_refuse σ5 2) (fun σ10 r11 => some (σ10, r11)) else cl (fX7_get_1 σ5 p1 p2) (fun σ7 r8 => pt (su σ7 0 11 r8) (fun σ9 => some (σ9, 1))))) else cl (fX10_refuse σ3 1) (fun σ12 r13 => some (σ12, r13))))))
set_option maxHeartbeats 4000000 in
set_option maxRecDepth 100000 in
theorem ctX10_at (l : Launch) (g : GG) (σ : St) (p1 : Int32) (p2 : Int32) (σ' : St) (r : Int32) (hE : fX10_at σ p1 p2 = some (σ', r)) : MI 52 entC l g yX10_at (Cond.code yX10_at cX10_at 3 (some .int) :: gtbl) (rmD 2) [.ref (g.2.1 0), .int p1, .int p2] σ σ' r := by
  refine mi_i (own := RX10) (lv := [(0, .ref (g.2.1 0)), (1, .int p1), (2, .int p2)]) (by decide) rfl (Nat.le_of_ble_eq_true rfl) rfl (fun p e s m below meth c ls args Q A H0 H locs C hK hA hQ hs hl => ?_)
  have hx := C.1
  have hb := C.2.1
  unfold fX10_at at hE
  refine lv_aload_n hx hb dX10_at_0 rfl (lv_at hl 0 rfl) ?_
  refine gf_X10_14_0 C hK hs dX10_at_1 ?_
  refine lv_iload_n hx hb dX10_at_4 rfl (lv_at hl 1 rfl) ?_
  obtain ⟨σ1, r2, hE1, hE⟩ := cl_e hE
  refine x_civ (As := [.int p1]) (rest := []) C hl.1 hK hs hA ⟨Nat.le_refl 0, Nat.le_refl 0⟩ (ctX7_isOne_1 l g _ _ _ _ hE1) (cw_X10_72 C ⟨Nat.le_of_ble_eq_true rfl, Nat.le_of_ble_eq_true rfl⟩) (hs.recv hK 1 (by decide) rfl rfl) rfl rfl (Nat.le_of_ble_eq_true rfl) dX10_at_5 (fun H locs hs => ?_)
  refine lv_if_ne (tgt := 13) hx hb dX10_at_8 (by decide) (fun hc => ?_) (fun hc => ?_)
  · have hE := if_f hc hE
    refine lv_aload_n hx hb dX10_at_13 rfl (lv_at hl 0 rfl) ?_
    refine gf_X10_14_0 C hK hs dX10_at_14 ?_
    refine lv_iload_n hx hb dX10_at_17 rfl (lv_at hl 1 rfl) ?_
    obtain ⟨σ3, r4, hE1, hE⟩ := cl_e hE
    refine x_civ (As := [.int p1]) (rest := []) C hl.1 hK hs hA ⟨Nat.le_refl 0, Nat.le_refl 0⟩ (ctX7_isMissing_1 l g _ _ _ _ hE1) (cw_X10_84 C ⟨Nat.le_of_ble_eq_true rfl, Nat.le_of_ble_eq_true rfl⟩) (hs.recv hK 1 (by decide) rfl rfl) rfl rfl (Nat.le_of_ble_eq_true rfl) dX10_at_18 (fun H locs hs => ?_)
    refine lv_if_eq (tgt := 30) hx hb dX10_at_21 (by decide) (fun hc => ?_) (fun hc => ?_)
    · have hE := if_t hc hE
      refine lv_aload_n hx hb dX10_at_30 rfl (lv_at hl 0 rfl) ?_
      refine gf_X10_14_0 C hK hs dX10_at_31 ?_
      refine lv_iload_n hx hb dX10_at_34 rfl (lv_at hl 1 rfl) ?_
      refine lv_iload_n hx hb dX10_at_35 rfl (lv_at hl 2 rfl) ?_
      obtain ⟨σ5, r6, hE1, hE⟩ := cl_e hE
      refine x_civ (As := [.int p1, .int p2]) (rest := []) C hl.1 hK hs hA ⟨Nat.le_refl 0, Nat.le_refl 0⟩ (ctX7_hasPlace_1 l g _ _ _ _ _ hE1) (cw_X10_87 C ⟨Nat.le_of_ble_eq_true rfl, Nat.le_of_ble_eq_true rfl⟩) (hs.recv hK 1 (by decide) rfl rfl) rfl rfl (Nat.le_of_ble_eq_true rfl) dX10_at_36 (fun H locs hs => ?_)
      refine lv_if_ne (tgt := 48) hx hb dX10_at_39 (by decide) (fun hc => ?_) (fun hc => ?_)
      · have hE := if_f hc hE
        refine lv_aload_n hx hb dX10_at_48 rfl (lv_at hl 0 rfl) ?_
        refine lv_aload_n hx hb dX10_at_49 rfl (lv_at hl 0 rfl) ?_
        refine gf_X10_14_0 C hK hs dX10_at_50 ?_
        refine lv_iload_n hx hb dX10_at_53 rfl (lv_at hl 1 rfl) ?_
        refine lv_iload_n hx hb dX10_at_54 rfl (lv_at hl 2 rfl) ?_
        obtain ⟨σ7, r8, hE1, hE⟩ := cl_e hE
        refine x_civ (As := [.int p1, .int p2]) (rest := [.ref (g.2.1 0)]) C hl.1 hK hs hA ⟨Nat.le_refl 0, Nat.le_refl 0⟩ (ctX7_get_1 l g _ _ _ _ _ hE1) (cw_X10_91 C ⟨Nat.le_of_ble_eq_true rfl, Nat.le_of_ble_eq_true rfl⟩) (hs.recv hK 1 (by decide) rfl rfl) rfl rfl (Nat.le_of_ble_eq_true rfl) dX10_at_55 (fun H locs hs => ?_)
        obtain ⟨σ9, eσ9, hE⟩ := pt_w hE
        refine pf_X10_95_0 C hK hs eσ9 dX10_at_58 (fun H locs hs => ?_)
        refine lv_iconst (v := 1) hx hb dX10_at_61 (by decide) ?_
        exact hQ hs hE dX10_at_62
      · have hE := if_t hc hE
        refine lv_aload_n hx hb dX10_at_42 rfl (lv_at hl 0 rfl) ?_
        refine lv_iconst (v := 2) hx hb dX10_at_43 (by decide) ?_
        obtain ⟨σ10, r11, hE1, hE⟩ := cl_e hE
        refine x_civ (As := [.int 2]) (rest := []) C hl.1 hK hs hA ⟨Nat.le_refl 0, Nat.le_refl 0⟩ (ctX10_refuse l g _ _ _ _ hE1) (cw_X10_76 C ⟨Nat.le_of_ble_eq_true rfl, Nat.le_of_ble_eq_true rfl⟩) (hs.recv hK 0 (by decide) rfl rfl) rfl rfl (Nat.le_of_ble_eq_true rfl) dX10_at_44 (fun H locs hs => ?_)
        exact hQ hs hE dX10_at_47
    · have hE := if_f hc hE
      refine lv_aload_n hx hb dX10_at_24 rfl (lv_at hl 0 rfl) ?_
      refine lv_iconst (v := 1) hx hb dX10_at_25 (by decide) ?_
      obtain ⟨σ12, r13, hE1, hE⟩ := cl_e hE
      refine x_civ (As := [.int 1]) (rest := []) C hl.1 hK hs hA ⟨Nat.le_refl 0, Nat.le_refl 0⟩ (ctX10_refuse l g _ _ _ _ hE1) (cw_X10_76 C ⟨Nat.le_of_ble_eq_true rfl, Nat.le_of_ble_eq_true rfl⟩) (hs.recv hK 0 (by decide) rfl rfl) rfl rfl (Nat.le_of_ble_eq_true rfl) dX10_at_26 (fun H locs hs => ?_)
      exact hQ hs hE dX10_at_29
  · have hE := if_t hc hE
    refine lv_iconst (v := (-1)) hx hb dX10_at_11 (by decide) ?_
    exact hQ hs hE dX10_at_12
theorem dX10_tear_0 : decode cX10_tear 0 = .ok (.aload_n 0, 1) := by decide +kernel
theorem dX10_tear_1 : decode cX10_tear 1 = .ok (.getfield 14, 3) := by decide +kernel
theorem dX10_tear_4 : decode cX10_tear 4 = .ok (.iload_n 1, 1) := by decide +kernel
theorem dX10_tear_5 : decode cX10_tear 5 = .ok (.invokevirtual 72, 3) := by decide +kernel
theorem dX10_tear_8 : decode cX10_tear 8 = .ok (.ifCond .ne 5, 3) := by decide +kernel
theorem dX10_tear_11 : decode cX10_tear 11 = .ok (.iconst (-1), 1) := by decide +kernel
theorem dX10_tear_12 : decode cX10_tear 12 = .ok (.ireturn, 1) := by decide +kernel
theorem dX10_tear_13 : decode cX10_tear 13 = .ok (.aload_n 0, 1) := by decide +kernel
theorem dX10_tear_14 : decode cX10_tear 14 = .ok (.getfield 14, 3) := by decide +kernel
theorem dX10_tear_17 : decode cX10_tear 17 = .ok (.iload_n 1, 1) := by decide +kernel
theorem dX10_tear_18 : decode cX10_tear 18 = .ok (.invokevirtual 84, 3) := by decide +kernel
theorem dX10_tear_21 : decode cX10_tear 21 = .ok (.ifCond .eq 9, 3) := by decide +kernel
theorem dX10_tear_24 : decode cX10_tear 24 = .ok (.aload_n 0, 1) := by decide +kernel
theorem dX10_tear_25 : decode cX10_tear 25 = .ok (.iconst 1, 1) := by decide +kernel
theorem dX10_tear_26 : decode cX10_tear 26 = .ok (.invokevirtual 76, 3) := by decide +kernel
theorem dX10_tear_29 : decode cX10_tear 29 = .ok (.ireturn, 1) := by decide +kernel
theorem dX10_tear_30 : decode cX10_tear 30 = .ok (.aload_n 0, 1) := by decide +kernel
theorem dX10_tear_31 : decode cX10_tear 31 = .ok (.getfield 14, 3) := by decide +kernel
theorem dX10_tear_34 : decode cX10_tear 34 = .ok (.iload_n 1, 1) := by decide +kernel
theorem dX10_tear_35 : decode cX10_tear 35 = .ok (.invokevirtual 102, 3) := by decide +kernel
theorem dX10_tear_38 : decode cX10_tear 38 = .ok (.iconst 1, 1) := by decide +kernel
theorem dX10_tear_39 : decode cX10_tear 39 = .ok (.ireturn, 1) := by decide +kernel
def fX10_tear (σ : St) (p1 : Int32) : Option (St × Int32) := cl (fX7_isOne_1 σ p1) (fun σ1 r2 => (if r2 = 0 then some (σ1, (-1)) else cl (fX7_isMissing_1 σ1 p1) (fun σ3 r4 => (if r4 = 0 then cl (fX7_remove_1 σ3 p1) (fun σ5 r6 => some (σ5, 1)) else cl (fX10_refuse σ3 1) (fun σ7 r8 => some (σ7, r8))))))
set_option maxHeartbeats 4000000 in
set_option maxRecDepth 100000 in
theorem ctX10_tear (l : Launch) (g : GG) (σ : St) (p1 : Int32) (σ' : St) (r : Int32) (hE : fX10_tear σ p1 = some (σ', r)) : MI 52 entC l g yX10_tear (Cond.code yX10_tear cX10_tear 2 (some .int) :: gtbl) (rmD 2) [.ref (g.2.1 0), .int p1] σ σ' r := by
  refine mi_i (own := RX10) (lv := [(0, .ref (g.2.1 0)), (1, .int p1)]) (by decide) rfl (Nat.le_of_ble_eq_true rfl) rfl (fun p e s m below meth c ls args Q A H0 H locs C hK hA hQ hs hl => ?_)
  have hx := C.1
  have hb := C.2.1
  unfold fX10_tear at hE
  refine lv_aload_n hx hb dX10_tear_0 rfl (lv_at hl 0 rfl) ?_
  refine gf_X10_14_0 C hK hs dX10_tear_1 ?_
  refine lv_iload_n hx hb dX10_tear_4 rfl (lv_at hl 1 rfl) ?_
  obtain ⟨σ1, r2, hE1, hE⟩ := cl_e hE
  refine x_civ (As := [.int p1]) (rest := []) C hl.1 hK hs hA ⟨Nat.le_refl 0, Nat.le_refl 0⟩ (ctX7_isOne_1 l g _ _ _ _ hE1) (cw_X10_72 C ⟨Nat.le_of_ble_eq_true rfl, Nat.le_of_ble_eq_true rfl⟩) (hs.recv hK 1 (by decide) rfl rfl) rfl rfl (Nat.le_of_ble_eq_true rfl) dX10_tear_5 (fun H locs hs => ?_)
  refine lv_if_ne (tgt := 13) hx hb dX10_tear_8 (by decide) (fun hc => ?_) (fun hc => ?_)
  · have hE := if_f hc hE
    refine lv_aload_n hx hb dX10_tear_13 rfl (lv_at hl 0 rfl) ?_
    refine gf_X10_14_0 C hK hs dX10_tear_14 ?_
    refine lv_iload_n hx hb dX10_tear_17 rfl (lv_at hl 1 rfl) ?_
    obtain ⟨σ3, r4, hE1, hE⟩ := cl_e hE
    refine x_civ (As := [.int p1]) (rest := []) C hl.1 hK hs hA ⟨Nat.le_refl 0, Nat.le_refl 0⟩ (ctX7_isMissing_1 l g _ _ _ _ hE1) (cw_X10_84 C ⟨Nat.le_of_ble_eq_true rfl, Nat.le_of_ble_eq_true rfl⟩) (hs.recv hK 1 (by decide) rfl rfl) rfl rfl (Nat.le_of_ble_eq_true rfl) dX10_tear_18 (fun H locs hs => ?_)
    refine lv_if_eq (tgt := 30) hx hb dX10_tear_21 (by decide) (fun hc => ?_) (fun hc => ?_)
    · have hE := if_t hc hE
      refine lv_aload_n hx hb dX10_tear_30 rfl (lv_at hl 0 rfl) ?_
      refine gf_X10_14_0 C hK hs dX10_tear_31 ?_
      refine lv_iload_n hx hb dX10_tear_34 rfl (lv_at hl 1 rfl) ?_
      obtain ⟨σ5, r6, hE1, hE⟩ := cl_e hE
      refine x_cvv (As := [.int p1]) (rest := []) C hl.1 hK hs hA ⟨Nat.le_refl 0, Nat.le_refl 0⟩ (ctX7_remove_1 l g _ _ _ _ hE1) (cw_X10_102 C ⟨Nat.le_of_ble_eq_true rfl, Nat.le_of_ble_eq_true rfl⟩) (hs.recv hK 1 (by decide) rfl rfl) rfl rfl (Nat.le_of_ble_eq_true rfl) dX10_tear_35 (fun H locs hs => ?_)
      refine lv_iconst (v := 1) hx hb dX10_tear_38 (by decide) ?_
      exact hQ hs hE dX10_tear_39
    · have hE := if_f hc hE
      refine lv_aload_n hx hb dX10_tear_24 rfl (lv_at hl 0 rfl) ?_
      refine lv_iconst (v := 1) hx hb dX10_tear_25 (by decide) ?_
      obtain ⟨σ7, r8, hE1, hE⟩ := cl_e hE
      refine x_civ (As := [.int 1]) (rest := []) C hl.1 hK hs hA ⟨Nat.le_refl 0, Nat.le_refl 0⟩ (ctX10_refuse l g _ _ _ _ hE1) (cw_X10_76 C ⟨Nat.le_of_ble_eq_true rfl, Nat.le_of_ble_eq_true rfl⟩) (hs.recv hK 0 (by decide) rfl rfl) rfl rfl (Nat.le_of_ble_eq_true rfl) dX10_tear_26 (fun H locs hs => ?_)
      exact hQ hs hE dX10_tear_29
  · have hE := if_t hc hE
    refine lv_iconst (v := (-1)) hx hb dX10_tear_11 (by decide) ?_
    exact hQ hs hE dX10_tear_12
theorem dX10_copy_0 : decode cX10_copy 0 = .ok (.aload_n 0, 1) := by decide +kernel
theorem dX10_copy_1 : decode cX10_copy 1 = .ok (.getfield 14, 3) := by decide +kernel
theorem dX10_copy_4 : decode cX10_copy 4 = .ok (.iload_n 1, 1) := by decide +kernel
theorem dX10_copy_5 : decode cX10_copy 5 = .ok (.invokevirtual 72, 3) := by decide +kernel
theorem dX10_copy_8 : decode cX10_copy 8 = .ok (.ifCond .eq 14, 3) := by decide +kernel
theorem dX10_copy_11 : decode cX10_copy 11 = .ok (.aload_n 0, 1) := by decide +kernel
theorem dX10_copy_12 : decode cX10_copy 12 = .ok (.getfield 14, 3) := by decide +kernel
theorem dX10_copy_15 : decode cX10_copy 15 = .ok (.iload_n 3, 1) := by decide +kernel
theorem dX10_copy_16 : decode cX10_copy 16 = .ok (.invokevirtual 72, 3) := by decide +kernel
theorem dX10_copy_19 : decode cX10_copy 19 = .ok (.ifCond .ne 5, 3) := by decide +kernel
theorem dX10_copy_22 : decode cX10_copy 22 = .ok (.iconst (-1), 1) := by decide +kernel
theorem dX10_copy_23 : decode cX10_copy 23 = .ok (.ireturn, 1) := by decide +kernel
theorem dX10_copy_24 : decode cX10_copy 24 = .ok (.iload 5, 2) := by decide +kernel
theorem dX10_copy_26 : decode cX10_copy 26 = .ok (.ifCond .ge 9, 3) := by decide +kernel
theorem dX10_copy_29 : decode cX10_copy 29 = .ok (.aload_n 0, 1) := by decide +kernel
theorem dX10_copy_30 : decode cX10_copy 30 = .ok (.iconst 5, 1) := by decide +kernel
theorem dX10_copy_31 : decode cX10_copy 31 = .ok (.invokevirtual 76, 3) := by decide +kernel
theorem dX10_copy_34 : decode cX10_copy 34 = .ok (.ireturn, 1) := by decide +kernel
theorem dX10_copy_35 : decode cX10_copy 35 = .ok (.aload_n 0, 1) := by decide +kernel
theorem dX10_copy_36 : decode cX10_copy 36 = .ok (.getfield 14, 3) := by decide +kernel
theorem dX10_copy_39 : decode cX10_copy 39 = .ok (.iload_n 1, 1) := by decide +kernel
theorem dX10_copy_40 : decode cX10_copy 40 = .ok (.invokevirtual 84, 3) := by decide +kernel
theorem dX10_copy_43 : decode cX10_copy 43 = .ok (.ifCond .ne 14, 3) := by decide +kernel
theorem dX10_copy_46 : decode cX10_copy 46 = .ok (.aload_n 0, 1) := by decide +kernel
theorem dX10_copy_47 : decode cX10_copy 47 = .ok (.getfield 14, 3) := by decide +kernel
theorem dX10_copy_50 : decode cX10_copy 50 = .ok (.iload_n 3, 1) := by decide +kernel
theorem dX10_copy_51 : decode cX10_copy 51 = .ok (.invokevirtual 84, 3) := by decide +kernel
theorem dX10_copy_54 : decode cX10_copy 54 = .ok (.ifCond .eq 9, 3) := by decide +kernel
theorem dX10_copy_57 : decode cX10_copy 57 = .ok (.aload_n 0, 1) := by decide +kernel
theorem dX10_copy_58 : decode cX10_copy 58 = .ok (.iconst 1, 1) := by decide +kernel
theorem dX10_copy_59 : decode cX10_copy 59 = .ok (.invokevirtual 76, 3) := by decide +kernel
theorem dX10_copy_62 : decode cX10_copy 62 = .ok (.ireturn, 1) := by decide +kernel
theorem dX10_copy_63 : decode cX10_copy 63 = .ok (.aload_n 0, 1) := by decide +kernel
theorem dX10_copy_64 : decode cX10_copy 64 = .ok (.getfield 14, 3) := by decide +kernel
theorem dX10_copy_67 : decode cX10_copy 67 = .ok (.iload_n 1, 1) := by decide +kernel
theorem dX10_copy_68 : decode cX10_copy 68 = .ok (.iload_n 2, 1) := by decide +kernel
theorem dX10_copy_69 : decode cX10_copy 69 = .ok (.iload 5, 2) := by decide +kernel
theorem dX10_copy_71 : decode cX10_copy 71 = .ok (.invokevirtual 106, 3) := by decide +kernel
theorem dX10_copy_74 : decode cX10_copy 74 = .ok (.ifCond .eq 18, 3) := by decide +kernel
theorem dX10_copy_77 : decode cX10_copy 77 = .ok (.aload_n 0, 1) := by decide +kernel
theorem dX10_copy_78 : decode cX10_copy 78 = .ok (.getfield 14, 3) := by decide +kernel
theorem dX10_copy_81 : decode cX10_copy 81 = .ok (.iload_n 3, 1) := by decide +kernel
theorem dX10_copy_82 : decode cX10_copy 82 = .ok (.iload 4, 2) := by decide +kernel
theorem dX10_copy_84 : decode cX10_copy 84 = .ok (.iload 5, 2) := by decide +kernel
theorem dX10_copy_86 : decode cX10_copy 86 = .ok (.invokevirtual 106, 3) := by decide +kernel
theorem dX10_copy_89 : decode cX10_copy 89 = .ok (.ifCond .ne 9, 3) := by decide +kernel
theorem dX10_copy_92 : decode cX10_copy 92 = .ok (.aload_n 0, 1) := by decide +kernel
theorem dX10_copy_93 : decode cX10_copy 93 = .ok (.iconst 2, 1) := by decide +kernel
theorem dX10_copy_94 : decode cX10_copy 94 = .ok (.invokevirtual 76, 3) := by decide +kernel
theorem dX10_copy_97 : decode cX10_copy 97 = .ok (.ireturn, 1) := by decide +kernel
theorem dX10_copy_98 : decode cX10_copy 98 = .ok (.aload_n 0, 1) := by decide +kernel
theorem dX10_copy_99 : decode cX10_copy 99 = .ok (.getfield 14, 3) := by decide +kernel
theorem dX10_copy_102 : decode cX10_copy 102 = .ok (.iload_n 1, 1) := by decide +kernel
theorem dX10_copy_103 : decode cX10_copy 103 = .ok (.iload_n 2, 1) := by decide +kernel
theorem dX10_copy_104 : decode cX10_copy 104 = .ok (.iload_n 3, 1) := by decide +kernel
theorem dX10_copy_105 : decode cX10_copy 105 = .ok (.iload 4, 2) := by decide +kernel
theorem dX10_copy_107 : decode cX10_copy 107 = .ok (.iload 5, 2) := by decide +kernel
theorem dX10_copy_109 : decode cX10_copy 109 = .ok (.invokevirtual 110, 3) := by decide +kernel
theorem dX10_copy_112 : decode cX10_copy 112 = .ok (.iconst 1, 1) := by decide +kernel
theorem dX10_copy_113 : decode cX10_copy 113 = .ok (.ireturn, 1) := by decide +kernel
def fX10_copy (σ : St) (p1 : Int32) (p2 : Int32) (p3 : Int32) (p4 : Int32) (p5 : Int32) : Option (St × Int32) := cl (fX7_isOne_1 σ p1) (fun σ1 r2 => (if r2 = 0 then some (σ1, (-1)) else cl (fX7_isOne_1 σ1 p3) (fun σ3 r4 => (if r4 = 0 then some (σ3, (-1)) else (if 0 ≤ p5 then cl (fX7_isMissing_1 σ3 p1) (fun σ5 r6 => jn (fun (σ8 : St) => cl (fX10_refuse σ8 1) (fun σ9 r10 => some (σ9, r10))) (fun k7 => (if r6 = 0 then cl (fX7_isMissing_1 σ5 p3) (fun σ11 r12 => (if r12 = 0 then cl (fX7_hasSpan_1 σ11 p1 p2 p5) (fun σ13 r14 => jn (fun (σ16 : St) => cl (fX10_refuse σ16 2) (fun σ17 r18 => some (σ17, r18))) (fun k15 => (if r14 = 0 then k15 σ13 else cl (fX7_hasSpan_1 σ13 p3 p4 p5) (fun σ19 r20 => (if r20 = 0 then k15 σ19 else cl (fX7_move_1 σ19 p1 p2 p3 p4 p5) (fun σ21 r22 => some (σ21, 1))))))) else k7 σ11)) else k7 σ5))) else cl (fX10_refuse σ3 5) (fun σ23 r24 => some (σ23, r24)))))))
set_option maxHeartbeats 4000000 in
set_option maxRecDepth 100000 in
theorem ctX10_copy (l : Launch) (g : GG) (σ : St) (p1 : Int32) (p2 : Int32) (p3 : Int32) (p4 : Int32) (p5 : Int32) (σ' : St) (r : Int32) (hE : fX10_copy σ p1 p2 p3 p4 p5 = some (σ', r)) : MI 52 entC l g yX10_copy (Cond.code yX10_copy cX10_copy 6 (some .int) :: gtbl) (rmD 2) [.ref (g.2.1 0), .int p1, .int p2, .int p3, .int p4, .int p5] σ σ' r := by
  refine mi_i (own := RX10) (lv := [(0, .ref (g.2.1 0)), (1, .int p1), (2, .int p2), (3, .int p3), (4, .int p4), (5, .int p5)]) (by decide) rfl (Nat.le_of_ble_eq_true rfl) rfl (fun p e s m below meth c ls args Q A H0 H locs C hK hA hQ hs hl => ?_)
  have hx := C.1
  have hb := C.2.1
  unfold fX10_copy at hE
  refine lv_aload_n hx hb dX10_copy_0 rfl (lv_at hl 0 rfl) ?_
  refine gf_X10_14_0 C hK hs dX10_copy_1 ?_
  refine lv_iload_n hx hb dX10_copy_4 rfl (lv_at hl 1 rfl) ?_
  obtain ⟨σ1, r2, hE1, hE⟩ := cl_e hE
  refine x_civ (As := [.int p1]) (rest := []) C hl.1 hK hs hA ⟨Nat.le_refl 0, Nat.le_refl 0⟩ (ctX7_isOne_1 l g _ _ _ _ hE1) (cw_X10_72 C ⟨Nat.le_of_ble_eq_true rfl, Nat.le_of_ble_eq_true rfl⟩) (hs.recv hK 1 (by decide) rfl rfl) rfl rfl (Nat.le_of_ble_eq_true rfl) dX10_copy_5 (fun H locs hs => ?_)
  refine lv_if_eq (tgt := 22) hx hb dX10_copy_8 (by decide) (fun hc => ?_) (fun hc => ?_)
  · have hE := if_t hc hE
    refine lv_iconst (v := (-1)) hx hb dX10_copy_22 (by decide) ?_
    exact hQ hs hE dX10_copy_23
  · have hE := if_f hc hE
    refine lv_aload_n hx hb dX10_copy_11 rfl (lv_at hl 0 rfl) ?_
    refine gf_X10_14_0 C hK hs dX10_copy_12 ?_
    refine lv_iload_n hx hb dX10_copy_15 rfl (lv_at hl 3 rfl) ?_
    obtain ⟨σ3, r4, hE1, hE⟩ := cl_e hE
    refine x_civ (As := [.int p3]) (rest := []) C hl.1 hK hs hA ⟨Nat.le_refl 0, Nat.le_refl 0⟩ (ctX7_isOne_1 l g _ _ _ _ hE1) (cw_X10_72 C ⟨Nat.le_of_ble_eq_true rfl, Nat.le_of_ble_eq_true rfl⟩) (hs.recv hK 1 (by decide) rfl rfl) rfl rfl (Nat.le_of_ble_eq_true rfl) dX10_copy_16 (fun H locs hs => ?_)
    refine lv_if_ne (tgt := 24) hx hb dX10_copy_19 (by decide) (fun hc => ?_) (fun hc => ?_)
    · have hE := if_f hc hE
      refine lv_iload hx hb dX10_copy_24 (lv_at hl 5 rfl) ?_
      refine lv_if_ge (tgt := 35) hx hb dX10_copy_26 (by decide) (fun hc => ?_) (fun hc => ?_)
      · have hE := if_t hc hE
        refine lv_aload_n hx hb dX10_copy_35 rfl (lv_at hl 0 rfl) ?_
        refine gf_X10_14_0 C hK hs dX10_copy_36 ?_
        refine lv_iload_n hx hb dX10_copy_39 rfl (lv_at hl 1 rfl) ?_
        obtain ⟨σ5, r6, hE1, hE⟩ := cl_e hE
        refine x_civ (As := [.int p1]) (rest := []) C hl.1 hK hs hA ⟨Nat.le_refl 0, Nat.le_refl 0⟩ (ctX7_isMissing_1 l g _ _ _ _ hE1) (cw_X10_84 C ⟨Nat.le_of_ble_eq_true rfl, Nat.le_of_ble_eq_true rfl⟩) (hs.recv hK 1 (by decide) rfl rfl) rfl rfl (Nat.le_of_ble_eq_true rfl) dX10_copy_40 (fun H locs hs => ?_)
        refine jn1 hE (fun k7 hE hk7 => ?_)
        have hJk7 : ∀ (σ8 : St) (H : Heap) (locs : List Loc) (ls : Array Slot), HW 52 entC g A H0 H locs σ8 → lv_has ls 6 [(0, .ref (g.2.1 0))] → k7 σ8 = some (σ', r) → W p l e (rmD 2) s m args below meth c H locs 0 0 Q (F0 m 57 ls []) := by
          intro σ8 H locs ls hs hl hE
          have hE := hk7 _ hE
          refine lv_aload_n hx hb dX10_copy_57 rfl (lv_at hl 0 rfl) ?_
          refine lv_iconst (v := 1) hx hb dX10_copy_58 (by decide) ?_
          obtain ⟨σ9, r10, hE1, hE⟩ := cl_e hE
          refine x_civ (As := [.int 1]) (rest := []) C hl.1 hK hs hA ⟨Nat.le_refl 0, Nat.le_refl 0⟩ (ctX10_refuse l g _ _ _ _ hE1) (cw_X10_76 C ⟨Nat.le_of_ble_eq_true rfl, Nat.le_of_ble_eq_true rfl⟩) (hs.recv hK 0 (by decide) rfl rfl) rfl rfl (Nat.le_of_ble_eq_true rfl) dX10_copy_59 (fun H locs hs => ?_)
          exact hQ hs hE dX10_copy_62
        refine lv_if_ne (tgt := 57) hx hb dX10_copy_43 (by decide) (fun hc => ?_) (fun hc => ?_)
        · have hE := if_f hc hE
          exact hJk7 σ5 _ _ _ hs (lv_sub hl [0] rfl) hE
        · have hE := if_t hc hE
          refine lv_aload_n hx hb dX10_copy_46 rfl (lv_at hl 0 rfl) ?_
          refine gf_X10_14_0 C hK hs dX10_copy_47 ?_
          refine lv_iload_n hx hb dX10_copy_50 rfl (lv_at hl 3 rfl) ?_
          obtain ⟨σ11, r12, hE1, hE⟩ := cl_e hE
          refine x_civ (As := [.int p3]) (rest := []) C hl.1 hK hs hA ⟨Nat.le_refl 0, Nat.le_refl 0⟩ (ctX7_isMissing_1 l g _ _ _ _ hE1) (cw_X10_84 C ⟨Nat.le_of_ble_eq_true rfl, Nat.le_of_ble_eq_true rfl⟩) (hs.recv hK 1 (by decide) rfl rfl) rfl rfl (Nat.le_of_ble_eq_true rfl) dX10_copy_51 (fun H locs hs => ?_)
          refine lv_if_eq (tgt := 63) hx hb dX10_copy_54 (by decide) (fun hc => ?_) (fun hc => ?_)
          · have hE := if_t hc hE
            refine lv_aload_n hx hb dX10_copy_63 rfl (lv_at hl 0 rfl) ?_
            refine gf_X10_14_0 C hK hs dX10_copy_64 ?_
            refine lv_iload_n hx hb dX10_copy_67 rfl (lv_at hl 1 rfl) ?_
            refine lv_iload_n hx hb dX10_copy_68 rfl (lv_at hl 2 rfl) ?_
            refine lv_iload hx hb dX10_copy_69 (lv_at hl 5 rfl) ?_
            obtain ⟨σ13, r14, hE1, hE⟩ := cl_e hE
            refine x_civ (As := [.int p1, .int p2, .int p5]) (rest := []) C hl.1 hK hs hA ⟨Nat.le_refl 0, Nat.le_refl 0⟩ (ctX7_hasSpan_1 l g _ _ _ _ _ _ hE1) (cw_X10_106 C ⟨Nat.le_of_ble_eq_true rfl, Nat.le_of_ble_eq_true rfl⟩) (hs.recv hK 1 (by decide) rfl rfl) rfl rfl (Nat.le_of_ble_eq_true rfl) dX10_copy_71 (fun H locs hs => ?_)
            refine jn1 hE (fun k15 hE hk15 => ?_)
            have hJk15 : ∀ (σ16 : St) (H : Heap) (locs : List Loc) (ls : Array Slot), HW 52 entC g A H0 H locs σ16 → lv_has ls 6 [(0, .ref (g.2.1 0))] → k15 σ16 = some (σ', r) → W p l e (rmD 2) s m args below meth c H locs 0 0 Q (F0 m 92 ls []) := by
              intro σ16 H locs ls hs hl hE
              have hE := hk15 _ hE
              refine lv_aload_n hx hb dX10_copy_92 rfl (lv_at hl 0 rfl) ?_
              refine lv_iconst (v := 2) hx hb dX10_copy_93 (by decide) ?_
              obtain ⟨σ17, r18, hE1, hE⟩ := cl_e hE
              refine x_civ (As := [.int 2]) (rest := []) C hl.1 hK hs hA ⟨Nat.le_refl 0, Nat.le_refl 0⟩ (ctX10_refuse l g _ _ _ _ hE1) (cw_X10_76 C ⟨Nat.le_of_ble_eq_true rfl, Nat.le_of_ble_eq_true rfl⟩) (hs.recv hK 0 (by decide) rfl rfl) rfl rfl (Nat.le_of_ble_eq_true rfl) dX10_copy_94 (fun H locs hs => ?_)
              exact hQ hs hE dX10_copy_97
            refine lv_if_eq (tgt := 92) hx hb dX10_copy_74 (by decide) (fun hc => ?_) (fun hc => ?_)
            · have hE := if_t hc hE
              exact hJk15 σ13 _ _ _ hs (lv_sub hl [0] rfl) hE
            · have hE := if_f hc hE
              refine lv_aload_n hx hb dX10_copy_77 rfl (lv_at hl 0 rfl) ?_
              refine gf_X10_14_0 C hK hs dX10_copy_78 ?_
              refine lv_iload_n hx hb dX10_copy_81 rfl (lv_at hl 3 rfl) ?_
              refine lv_iload hx hb dX10_copy_82 (lv_at hl 4 rfl) ?_
              refine lv_iload hx hb dX10_copy_84 (lv_at hl 5 rfl) ?_
              obtain ⟨σ19, r20, hE1, hE⟩ := cl_e hE
              refine x_civ (As := [.int p3, .int p4, .int p5]) (rest := []) C hl.1 hK hs hA ⟨Nat.le_refl 0, Nat.le_refl 0⟩ (ctX7_hasSpan_1 l g _ _ _ _ _ _ hE1) (cw_X10_106 C ⟨Nat.le_of_ble_eq_true rfl, Nat.le_of_ble_eq_true rfl⟩) (hs.recv hK 1 (by decide) rfl rfl) rfl rfl (Nat.le_of_ble_eq_true rfl) dX10_copy_86 (fun H locs hs => ?_)
              refine lv_if_ne (tgt := 98) hx hb dX10_copy_89 (by decide) (fun hc => ?_) (fun hc => ?_)
              · have hE := if_f hc hE
                refine lv_aload_n hx hb dX10_copy_98 rfl (lv_at hl 0 rfl) ?_
                refine gf_X10_14_0 C hK hs dX10_copy_99 ?_
                refine lv_iload_n hx hb dX10_copy_102 rfl (lv_at hl 1 rfl) ?_
                refine lv_iload_n hx hb dX10_copy_103 rfl (lv_at hl 2 rfl) ?_
                refine lv_iload_n hx hb dX10_copy_104 rfl (lv_at hl 3 rfl) ?_
                refine lv_iload hx hb dX10_copy_105 (lv_at hl 4 rfl) ?_
                refine lv_iload hx hb dX10_copy_107 (lv_at hl 5 rfl) ?_
                obtain ⟨σ21, r22, hE1, hE⟩ := cl_e hE
                refine x_cvv (As := [.int p1, .int p2, .int p3, .int p4, .int p5]) (rest := []) C hl.1 hK hs hA ⟨Nat.le_refl 0, Nat.le_refl 0⟩ (ctX7_move_1 l g _ _ _ _ _ _ _ _ hE1) (cw_X10_110 C ⟨Nat.le_of_ble_eq_true rfl, Nat.le_of_ble_eq_true rfl⟩) (hs.recv hK 1 (by decide) rfl rfl) rfl rfl (Nat.le_of_ble_eq_true rfl) dX10_copy_109 (fun H locs hs => ?_)
                refine lv_iconst (v := 1) hx hb dX10_copy_112 (by decide) ?_
                exact hQ hs hE dX10_copy_113
              · have hE := if_t hc hE
                exact hJk15 σ19 _ _ _ hs (lv_sub hl [0] rfl) hE
          · have hE := if_f hc hE
            exact hJk7 σ11 _ _ _ hs (lv_sub hl [0] rfl) hE
      · have hE := if_f hc hE
        refine lv_aload_n hx hb dX10_copy_29 rfl (lv_at hl 0 rfl) ?_
        refine lv_iconst (v := 5) hx hb dX10_copy_30 (by decide) ?_
        obtain ⟨σ23, r24, hE1, hE⟩ := cl_e hE
        refine x_civ (As := [.int 5]) (rest := []) C hl.1 hK hs hA ⟨Nat.le_refl 0, Nat.le_refl 0⟩ (ctX10_refuse l g _ _ _ _ hE1) (cw_X10_76 C ⟨Nat.le_of_ble_eq_true rfl, Nat.le_of_ble_eq_true rfl⟩) (hs.recv hK 0 (by decide) rfl rfl) rfl rfl (Nat.le_of_ble_eq_true rfl) dX10_copy_31 (fun H locs hs => ?_)
        exact hQ hs hE dX10_copy_34
    · have hE := if_t hc hE
      refine lv_iconst (v := (-1)) hx hb dX10_copy_22 (by decide) ?_
      exact hQ hs hE dX10_copy_23
theorem dX10_mean_0 : decode cX10_mean 0 = .ok (.aload_n 0, 1) := by decide +kernel
theorem dX10_mean_1 : decode cX10_mean 1 = .ok (.getfield 14, 3) := by decide +kernel
theorem dX10_mean_4 : decode cX10_mean 4 = .ok (.iload_n 1, 1) := by decide +kernel
theorem dX10_mean_5 : decode cX10_mean 5 = .ok (.invokevirtual 72, 3) := by decide +kernel
theorem dX10_mean_8 : decode cX10_mean 8 = .ok (.ifCond .ne 5, 3) := by decide +kernel
theorem dX10_mean_11 : decode cX10_mean 11 = .ok (.iconst (-1), 1) := by decide +kernel
theorem dX10_mean_12 : decode cX10_mean 12 = .ok (.ireturn, 1) := by decide +kernel
theorem dX10_mean_13 : decode cX10_mean 13 = .ok (.aload_n 0, 1) := by decide +kernel
theorem dX10_mean_14 : decode cX10_mean 14 = .ok (.getfield 14, 3) := by decide +kernel
theorem dX10_mean_17 : decode cX10_mean 17 = .ok (.iload_n 1, 1) := by decide +kernel
theorem dX10_mean_18 : decode cX10_mean 18 = .ok (.invokevirtual 84, 3) := by decide +kernel
theorem dX10_mean_21 : decode cX10_mean 21 = .ok (.ifCond .eq 9, 3) := by decide +kernel
theorem dX10_mean_24 : decode cX10_mean 24 = .ok (.aload_n 0, 1) := by decide +kernel
theorem dX10_mean_25 : decode cX10_mean 25 = .ok (.iconst 1, 1) := by decide +kernel
theorem dX10_mean_26 : decode cX10_mean 26 = .ok (.invokevirtual 76, 3) := by decide +kernel
theorem dX10_mean_29 : decode cX10_mean 29 = .ok (.ireturn, 1) := by decide +kernel
theorem dX10_mean_30 : decode cX10_mean 30 = .ok (.aload_n 0, 1) := by decide +kernel
theorem dX10_mean_31 : decode cX10_mean 31 = .ok (.getfield 14, 3) := by decide +kernel
theorem dX10_mean_34 : decode cX10_mean 34 = .ok (.iload_n 1, 1) := by decide +kernel
theorem dX10_mean_35 : decode cX10_mean 35 = .ok (.invokevirtual 114, 3) := by decide +kernel
theorem dX10_mean_38 : decode cX10_mean 38 = .ok (.istore_n 2, 1) := by decide +kernel
theorem dX10_mean_39 : decode cX10_mean 39 = .ok (.iload_n 2, 1) := by decide +kernel
theorem dX10_mean_40 : decode cX10_mean 40 = .ok (.ifCond .gt 9, 3) := by decide +kernel
theorem dX10_mean_43 : decode cX10_mean 43 = .ok (.aload_n 0, 1) := by decide +kernel
theorem dX10_mean_44 : decode cX10_mean 44 = .ok (.iconst 4, 1) := by decide +kernel
theorem dX10_mean_45 : decode cX10_mean 45 = .ok (.invokevirtual 76, 3) := by decide +kernel
theorem dX10_mean_48 : decode cX10_mean 48 = .ok (.ireturn, 1) := by decide +kernel
theorem dX10_mean_49 : decode cX10_mean 49 = .ok (.aload_n 0, 1) := by decide +kernel
theorem dX10_mean_50 : decode cX10_mean 50 = .ok (.aload_n 0, 1) := by decide +kernel
theorem dX10_mean_51 : decode cX10_mean 51 = .ok (.getfield 14, 3) := by decide +kernel
theorem dX10_mean_54 : decode cX10_mean 54 = .ok (.iload_n 1, 1) := by decide +kernel
theorem dX10_mean_55 : decode cX10_mean 55 = .ok (.invokevirtual 117, 3) := by decide +kernel
theorem dX10_mean_58 : decode cX10_mean 58 = .ok (.iload_n 2, 1) := by decide +kernel
theorem dX10_mean_59 : decode cX10_mean 59 = .ok (.i2l, 1) := by decide +kernel
theorem dX10_mean_60 : decode cX10_mean 60 = .ok (.ldiv, 1) := by decide +kernel
theorem dX10_mean_61 : decode cX10_mean 61 = .ok (.l2i, 1) := by decide +kernel
theorem dX10_mean_62 : decode cX10_mean 62 = .ok (.putfield 95, 3) := by decide +kernel
theorem dX10_mean_65 : decode cX10_mean 65 = .ok (.iconst 1, 1) := by decide +kernel
theorem dX10_mean_66 : decode cX10_mean 66 = .ok (.ireturn, 1) := by decide +kernel
def fX10_mean (σ : St) (p1 : Int32) : Option (St × Int32) := cl (fX7_isOne_1 σ p1) (fun σ1 r2 => (if r2 = 0 then some (σ1, (-1)) else cl (fX7_isMissing_1 σ1 p1) (fun σ3 r4 => (if r4 = 0 then cl (fX7_sizeOf_1 σ3 p1) (fun σ5 r6 => (if 0 < r6 then cl (fX7_sumOf_1 σ5 p1) (fun σ7 r8 => gd (decide (¬ (r6.toInt64) = 0)) (pt (su σ7 0 11 ((r8 / (r6.toInt64)).toInt32)) (fun σ9 => some (σ9, 1)))) else cl (fX10_refuse σ5 4) (fun σ10 r11 => some (σ10, r11)))) else cl (fX10_refuse σ3 1) (fun σ12 r13 => some (σ12, r13))))))
set_option maxHeartbeats 4000000 in
set_option maxRecDepth 100000 in
theorem ctX10_mean (l : Launch) (g : GG) (σ : St) (p1 : Int32) (σ' : St) (r : Int32) (hE : fX10_mean σ p1 = some (σ', r)) : MI 52 entC l g yX10_mean (Cond.code yX10_mean cX10_mean 3 (some .int) :: gtbl) (rmD 2) [.ref (g.2.1 0), .int p1] σ σ' r := by
  refine mi_i (own := RX10) (lv := [(0, .ref (g.2.1 0)), (1, .int p1)]) (by decide) rfl (Nat.le_of_ble_eq_true rfl) rfl (fun p e s m below meth c ls args Q A H0 H locs C hK hA hQ hs hl => ?_)
  have hx := C.1
  have hb := C.2.1
  unfold fX10_mean at hE
  refine lv_aload_n hx hb dX10_mean_0 rfl (lv_at hl 0 rfl) ?_
  refine gf_X10_14_0 C hK hs dX10_mean_1 ?_
  refine lv_iload_n hx hb dX10_mean_4 rfl (lv_at hl 1 rfl) ?_
  obtain ⟨σ1, r2, hE1, hE⟩ := cl_e hE
  refine x_civ (As := [.int p1]) (rest := []) C hl.1 hK hs hA ⟨Nat.le_refl 0, Nat.le_refl 0⟩ (ctX7_isOne_1 l g _ _ _ _ hE1) (cw_X10_72 C ⟨Nat.le_of_ble_eq_true rfl, Nat.le_of_ble_eq_true rfl⟩) (hs.recv hK 1 (by decide) rfl rfl) rfl rfl (Nat.le_of_ble_eq_true rfl) dX10_mean_5 (fun H locs hs => ?_)
  refine lv_if_ne (tgt := 13) hx hb dX10_mean_8 (by decide) (fun hc => ?_) (fun hc => ?_)
  · have hE := if_f hc hE
    refine lv_aload_n hx hb dX10_mean_13 rfl (lv_at hl 0 rfl) ?_
    refine gf_X10_14_0 C hK hs dX10_mean_14 ?_
    refine lv_iload_n hx hb dX10_mean_17 rfl (lv_at hl 1 rfl) ?_
    obtain ⟨σ3, r4, hE1, hE⟩ := cl_e hE
    refine x_civ (As := [.int p1]) (rest := []) C hl.1 hK hs hA ⟨Nat.le_refl 0, Nat.le_refl 0⟩ (ctX7_isMissing_1 l g _ _ _ _ hE1) (cw_X10_84 C ⟨Nat.le_of_ble_eq_true rfl, Nat.le_of_ble_eq_true rfl⟩) (hs.recv hK 1 (by decide) rfl rfl) rfl rfl (Nat.le_of_ble_eq_true rfl) dX10_mean_18 (fun H locs hs => ?_)
    refine lv_if_eq (tgt := 30) hx hb dX10_mean_21 (by decide) (fun hc => ?_) (fun hc => ?_)
    · have hE := if_t hc hE
      refine lv_aload_n hx hb dX10_mean_30 rfl (lv_at hl 0 rfl) ?_
      refine gf_X10_14_0 C hK hs dX10_mean_31 ?_
      refine lv_iload_n hx hb dX10_mean_34 rfl (lv_at hl 1 rfl) ?_
      obtain ⟨σ5, r6, hE1, hE⟩ := cl_e hE
      refine x_civ (As := [.int p1]) (rest := []) C hl.1 hK hs hA ⟨Nat.le_refl 0, Nat.le_refl 0⟩ (ctX7_sizeOf_1 l g _ _ _ _ hE1) (cw_X10_114 C ⟨Nat.le_of_ble_eq_true rfl, Nat.le_of_ble_eq_true rfl⟩) (hs.recv hK 1 (by decide) rfl rfl) rfl rfl (Nat.le_of_ble_eq_true rfl) dX10_mean_35 (fun H locs hs => ?_)
      refine lv_istore_n (lv' := [(2, .int r6), (0, .ref (g.2.1 0)), (1, .int p1)]) hx hb dX10_mean_38 rfl hl (by decide) rfl (fun ls hl => ?_)
      refine lv_iload_n hx hb dX10_mean_39 rfl (lv_at hl 0 rfl) ?_
      refine lv_if_gt (tgt := 49) hx hb dX10_mean_40 (by decide) (fun hc => ?_) (fun hc => ?_)
      · have hE := if_t hc hE
        refine lv_aload_n hx hb dX10_mean_49 rfl (lv_at hl 1 rfl) ?_
        refine lv_aload_n hx hb dX10_mean_50 rfl (lv_at hl 1 rfl) ?_
        refine gf_X10_14_0 C hK hs dX10_mean_51 ?_
        refine lv_iload_n hx hb dX10_mean_54 rfl (lv_at hl 2 rfl) ?_
        obtain ⟨σ7, r8, hE1, hE⟩ := cl_e hE
        refine x_clv (As := [.int p1]) (rest := [.ref (g.2.1 0)]) C hl.1 hK hs hA ⟨Nat.le_refl 0, Nat.le_refl 0⟩ (ctX7_sumOf_1 l g _ _ _ _ hE1) (cw_X10_117 C ⟨Nat.le_of_ble_eq_true rfl, Nat.le_of_ble_eq_true rfl⟩) (hs.recv hK 1 (by decide) rfl rfl) rfl rfl (Nat.le_of_ble_eq_true rfl) dX10_mean_55 (fun H locs hs => ?_)
        refine lv_iload_n hx hb dX10_mean_58 rfl (lv_at hl 0 rfl) ?_
        refine lv_i2l (v := r6.toInt64) hx hb dX10_mean_59 rfl ?_
        obtain ⟨hc, hE⟩ := gd_e hE
        refine lv_ldiv hx hb dX10_mean_60 (of_decide_eq_true hc) ?_
        refine lv_l2i (v := (r8 / (r6.toInt64)).toInt32) hx hb dX10_mean_61 rfl ?_
        obtain ⟨σ9, eσ9, hE⟩ := pt_w hE
        refine pf_X10_95_0 C hK hs eσ9 dX10_mean_62 (fun H locs hs => ?_)
        refine lv_iconst (v := 1) hx hb dX10_mean_65 (by decide) ?_
        exact hQ hs hE dX10_mean_66
      · have hE := if_f hc hE
        refine lv_aload_n hx hb dX10_mean_43 rfl (lv_at hl 1 rfl) ?_
        refine lv_iconst (v := 4) hx hb dX10_mean_44 (by decide) ?_
        obtain ⟨σ10, r11, hE1, hE⟩ := cl_e hE
        refine x_civ (As := [.int 4]) (rest := []) C hl.1 hK hs hA ⟨Nat.le_refl 0, Nat.le_refl 0⟩ (ctX10_refuse l g _ _ _ _ hE1) (cw_X10_76 C ⟨Nat.le_of_ble_eq_true rfl, Nat.le_of_ble_eq_true rfl⟩) (hs.recv hK 0 (by decide) rfl rfl) rfl rfl (Nat.le_of_ble_eq_true rfl) dX10_mean_45 (fun H locs hs => ?_)
        exact hQ hs hE dX10_mean_48
    · have hE := if_f hc hE
      refine lv_aload_n hx hb dX10_mean_24 rfl (lv_at hl 0 rfl) ?_
      refine lv_iconst (v := 1) hx hb dX10_mean_25 (by decide) ?_
      obtain ⟨σ12, r13, hE1, hE⟩ := cl_e hE
      refine x_civ (As := [.int 1]) (rest := []) C hl.1 hK hs hA ⟨Nat.le_refl 0, Nat.le_refl 0⟩ (ctX10_refuse l g _ _ _ _ hE1) (cw_X10_76 C ⟨Nat.le_of_ble_eq_true rfl, Nat.le_of_ble_eq_true rfl⟩) (hs.recv hK 0 (by decide) rfl rfl) rfl rfl (Nat.le_of_ble_eq_true rfl) dX10_mean_26 (fun H locs hs => ?_)
      exact hQ hs hE dX10_mean_29
  · have hE := if_t hc hE
    refine lv_iconst (v := (-1)) hx hb dX10_mean_11 (by decide) ?_
    exact hQ hs hE dX10_mean_12
theorem dX10_text_0 : decode cX10_text 0 = .ok (.aload_n 0, 1) := by decide +kernel
theorem dX10_text_1 : decode cX10_text 1 = .ok (.getfield 18, 3) := by decide +kernel
theorem dX10_text_4 : decode cX10_text 4 = .ok (.iload_n 1, 1) := by decide +kernel
theorem dX10_text_5 : decode cX10_text 5 = .ok (.invokevirtual 72, 3) := by decide +kernel
theorem dX10_text_8 : decode cX10_text 8 = .ok (.ifCond .eq 9, 3) := by decide +kernel
theorem dX10_text_11 : decode cX10_text 11 = .ok (.iload_n 2, 1) := by decide +kernel
theorem dX10_text_12 : decode cX10_text 12 = .ok (.bipush 90, 2) := by decide +kernel
theorem dX10_text_14 : decode cX10_text 14 = .ok (.if_icmp .le 5, 3) := by decide +kernel
theorem dX10_text_17 : decode cX10_text 17 = .ok (.iconst (-1), 1) := by decide +kernel
theorem dX10_text_18 : decode cX10_text 18 = .ok (.ireturn, 1) := by decide +kernel
theorem dX10_text_19 : decode cX10_text 19 = .ok (.iload_n 2, 1) := by decide +kernel
theorem dX10_text_20 : decode cX10_text 20 = .ok (.ifCond .ge 9, 3) := by decide +kernel
theorem dX10_text_23 : decode cX10_text 23 = .ok (.aload_n 0, 1) := by decide +kernel
theorem dX10_text_24 : decode cX10_text 24 = .ok (.iconst 5, 1) := by decide +kernel
theorem dX10_text_25 : decode cX10_text 25 = .ok (.invokevirtual 76, 3) := by decide +kernel
theorem dX10_text_28 : decode cX10_text 28 = .ok (.ireturn, 1) := by decide +kernel
theorem dX10_text_29 : decode cX10_text 29 = .ok (.aload_n 0, 1) := by decide +kernel
theorem dX10_text_30 : decode cX10_text 30 = .ok (.getfield 18, 3) := by decide +kernel
theorem dX10_text_33 : decode cX10_text 33 = .ok (.iload_n 1, 1) := by decide +kernel
theorem dX10_text_34 : decode cX10_text 34 = .ok (.iload_n 2, 1) := by decide +kernel
theorem dX10_text_35 : decode cX10_text 35 = .ok (.bipush 32, 2) := by decide +kernel
theorem dX10_text_37 : decode cX10_text 37 = .ok (.invokevirtual 80, 3) := by decide +kernel
theorem dX10_text_40 : decode cX10_text 40 = .ok (.iload_n 2, 1) := by decide +kernel
theorem dX10_text_41 : decode cX10_text 41 = .ok (.ireturn, 1) := by decide +kernel
def fX10_text (σ : St) (p1 : Int32) (p2 : Int32) : Option (St × Int32) := cl (fX7_isOne_10 σ p1) (fun σ1 r2 => (if r2 = 0 then some (σ1, (-1)) else (if p2 ≤ 90 then (if 0 ≤ p2 then cl (fX7_make_10 σ1 p1 p2 32) (fun σ3 r4 => some (σ3, p2)) else cl (fX10_refuse σ1 5) (fun σ5 r6 => some (σ5, r6))) else some (σ1, (-1)))))
set_option maxHeartbeats 4000000 in
set_option maxRecDepth 100000 in
theorem ctX10_text (l : Launch) (g : GG) (σ : St) (p1 : Int32) (p2 : Int32) (σ' : St) (r : Int32) (hE : fX10_text σ p1 p2 = some (σ', r)) : MI 52 entC l g yX10_text (Cond.code yX10_text cX10_text 3 (some .int) :: gtbl) (rmD 3) [.ref (g.2.1 0), .int p1, .int p2] σ σ' r := by
  refine mi_i (own := RX10) (lv := [(0, .ref (g.2.1 0)), (1, .int p1), (2, .int p2)]) (by decide) rfl (Nat.le_of_ble_eq_true rfl) rfl (fun p e s m below meth c ls args Q A H0 H locs C hK hA hQ hs hl => ?_)
  have hx := C.1
  have hb := C.2.1
  unfold fX10_text at hE
  refine lv_aload_n hx hb dX10_text_0 rfl (lv_at hl 0 rfl) ?_
  refine gf_X10_18_0 C hK hs dX10_text_1 ?_
  refine lv_iload_n hx hb dX10_text_4 rfl (lv_at hl 1 rfl) ?_
  obtain ⟨σ1, r2, hE1, hE⟩ := cl_e hE
  refine x_civ (As := [.int p1]) (rest := []) C hl.1 hK hs hA ⟨Nat.le_refl 0, Nat.le_refl 0⟩ (ctX7_isOne_10 l g _ _ _ _ hE1) (cw_X10_72 C ⟨Nat.le_of_ble_eq_true rfl, Nat.le_of_ble_eq_true rfl⟩) (hs.recv hK 10 (by decide) rfl rfl) rfl rfl (Nat.le_of_ble_eq_true rfl) dX10_text_5 (fun H locs hs => ?_)
  refine lv_if_eq (tgt := 17) hx hb dX10_text_8 (by decide) (fun hc => ?_) (fun hc => ?_)
  · have hE := if_t hc hE
    refine lv_iconst (v := (-1)) hx hb dX10_text_17 (by decide) ?_
    exact hQ hs hE dX10_text_18
  · have hE := if_f hc hE
    refine lv_iload_n hx hb dX10_text_11 rfl (lv_at hl 2 rfl) ?_
    refine lv_bipush (v := 90) hx hb dX10_text_12 (by decide) ?_
    refine lv_icmp_le (tgt := 19) hx hb dX10_text_14 (by decide) (fun hc => ?_) (fun hc => ?_)
    · have hE := if_t hc hE
      refine lv_iload_n hx hb dX10_text_19 rfl (lv_at hl 2 rfl) ?_
      refine lv_if_ge (tgt := 29) hx hb dX10_text_20 (by decide) (fun hc => ?_) (fun hc => ?_)
      · have hE := if_t hc hE
        refine lv_aload_n hx hb dX10_text_29 rfl (lv_at hl 0 rfl) ?_
        refine gf_X10_18_0 C hK hs dX10_text_30 ?_
        refine lv_iload_n hx hb dX10_text_33 rfl (lv_at hl 1 rfl) ?_
        refine lv_iload_n hx hb dX10_text_34 rfl (lv_at hl 2 rfl) ?_
        refine lv_bipush (v := 32) hx hb dX10_text_35 (by decide) ?_
        obtain ⟨σ3, r4, hE1, hE⟩ := cl_e hE
        refine x_cvv (As := [.int p1, .int p2, .int 32]) (rest := []) C hl.1 hK hs hA ⟨Nat.le_refl 0, Nat.le_refl 0⟩ (ctX7_make_10 l g _ _ _ _ _ _ hE1) (cw_X10_80 C ⟨Nat.le_of_ble_eq_true rfl, Nat.le_of_ble_eq_true rfl⟩) (hs.recv hK 10 (by decide) rfl rfl) rfl rfl (Nat.le_of_ble_eq_true rfl) dX10_text_37 (fun H locs hs => ?_)
        refine lv_iload_n hx hb dX10_text_40 rfl (lv_at hl 2 rfl) ?_
        exact hQ hs hE dX10_text_41
      · have hE := if_f hc hE
        refine lv_aload_n hx hb dX10_text_23 rfl (lv_at hl 0 rfl) ?_
        refine lv_iconst (v := 5) hx hb dX10_text_24 (by decide) ?_
        obtain ⟨σ5, r6, hE1, hE⟩ := cl_e hE
        refine x_civ (As := [.int 5]) (rest := []) C hl.1 hK hs hA ⟨Nat.le_refl 0, Nat.le_refl 0⟩ (ctX10_refuse l g _ _ _ _ hE1) (cw_X10_76 C ⟨Nat.le_of_ble_eq_true rfl, Nat.le_of_ble_eq_true rfl⟩) (hs.recv hK 0 (by decide) rfl rfl) rfl rfl (Nat.le_of_ble_eq_true rfl) dX10_text_25 (fun H locs hs => ?_)
        exact hQ hs hE dX10_text_28
    · have hE := if_f hc hE
      refine lv_iconst (v := (-1)) hx hb dX10_text_17 (by decide) ?_
      exact hQ hs hE dX10_text_18
theorem dX10_put_0 : decode cX10_put 0 = .ok (.aload_n 0, 1) := by decide +kernel
theorem dX10_put_1 : decode cX10_put 1 = .ok (.getfield 18, 3) := by decide +kernel
theorem dX10_put_4 : decode cX10_put 4 = .ok (.iload_n 1, 1) := by decide +kernel
theorem dX10_put_5 : decode cX10_put 5 = .ok (.invokevirtual 72, 3) := by decide +kernel
theorem dX10_put_8 : decode cX10_put 8 = .ok (.ifCond .ne 5, 3) := by decide +kernel
theorem dX10_put_11 : decode cX10_put 11 = .ok (.iconst (-1), 1) := by decide +kernel
theorem dX10_put_12 : decode cX10_put 12 = .ok (.ireturn, 1) := by decide +kernel
theorem dX10_put_13 : decode cX10_put 13 = .ok (.aload_n 0, 1) := by decide +kernel
theorem dX10_put_14 : decode cX10_put 14 = .ok (.getfield 18, 3) := by decide +kernel
theorem dX10_put_17 : decode cX10_put 17 = .ok (.iload_n 1, 1) := by decide +kernel
theorem dX10_put_18 : decode cX10_put 18 = .ok (.invokevirtual 84, 3) := by decide +kernel
theorem dX10_put_21 : decode cX10_put 21 = .ok (.ifCond .eq 9, 3) := by decide +kernel
theorem dX10_put_24 : decode cX10_put 24 = .ok (.aload_n 0, 1) := by decide +kernel
theorem dX10_put_25 : decode cX10_put 25 = .ok (.iconst 1, 1) := by decide +kernel
theorem dX10_put_26 : decode cX10_put 26 = .ok (.invokevirtual 76, 3) := by decide +kernel
theorem dX10_put_29 : decode cX10_put 29 = .ok (.ireturn, 1) := by decide +kernel
theorem dX10_put_30 : decode cX10_put 30 = .ok (.aload_n 0, 1) := by decide +kernel
theorem dX10_put_31 : decode cX10_put 31 = .ok (.getfield 18, 3) := by decide +kernel
theorem dX10_put_34 : decode cX10_put 34 = .ok (.iload_n 1, 1) := by decide +kernel
theorem dX10_put_35 : decode cX10_put 35 = .ok (.iload_n 2, 1) := by decide +kernel
theorem dX10_put_36 : decode cX10_put 36 = .ok (.invokevirtual 87, 3) := by decide +kernel
theorem dX10_put_39 : decode cX10_put 39 = .ok (.ifCond .ne 9, 3) := by decide +kernel
theorem dX10_put_42 : decode cX10_put 42 = .ok (.aload_n 0, 1) := by decide +kernel
theorem dX10_put_43 : decode cX10_put 43 = .ok (.iconst 2, 1) := by decide +kernel
theorem dX10_put_44 : decode cX10_put 44 = .ok (.invokevirtual 76, 3) := by decide +kernel
theorem dX10_put_47 : decode cX10_put 47 = .ok (.ireturn, 1) := by decide +kernel
theorem dX10_put_48 : decode cX10_put 48 = .ok (.aload_n 0, 1) := by decide +kernel
theorem dX10_put_49 : decode cX10_put 49 = .ok (.getfield 18, 3) := by decide +kernel
theorem dX10_put_52 : decode cX10_put 52 = .ok (.iload_n 1, 1) := by decide +kernel
theorem dX10_put_53 : decode cX10_put 53 = .ok (.iload_n 2, 1) := by decide +kernel
theorem dX10_put_54 : decode cX10_put 54 = .ok (.invokevirtual 91, 3) := by decide +kernel
theorem dX10_put_57 : decode cX10_put 57 = .ok (.istore 4, 2) := by decide +kernel
theorem dX10_put_59 : decode cX10_put 59 = .ok (.aload_n 0, 1) := by decide +kernel
theorem dX10_put_60 : decode cX10_put 60 = .ok (.getfield 18, 3) := by decide +kernel
theorem dX10_put_63 : decode cX10_put 63 = .ok (.iload_n 1, 1) := by decide +kernel
theorem dX10_put_64 : decode cX10_put 64 = .ok (.iload_n 2, 1) := by decide +kernel
theorem dX10_put_65 : decode cX10_put 65 = .ok (.iload_n 3, 1) := by decide +kernel
theorem dX10_put_66 : decode cX10_put 66 = .ok (.i2b, 1) := by decide +kernel
theorem dX10_put_67 : decode cX10_put 67 = .ok (.invokevirtual 99, 3) := by decide +kernel
theorem dX10_put_70 : decode cX10_put 70 = .ok (.iload 4, 2) := by decide +kernel
theorem dX10_put_72 : decode cX10_put 72 = .ok (.sipush 1000, 3) := by decide +kernel
theorem dX10_put_75 : decode cX10_put 75 = .ok (.iadd, 1) := by decide +kernel
theorem dX10_put_76 : decode cX10_put 76 = .ok (.ireturn, 1) := by decide +kernel
def fX10_put (σ : St) (p1 : Int32) (p2 : Int32) (p3 : Int32) : Option (St × Int32) := cl (fX7_isOne_10 σ p1) (fun σ1 r2 => (if r2 = 0 then some (σ1, (-1)) else cl (fX7_isMissing_10 σ1 p1) (fun σ3 r4 => (if r4 = 0 then cl (fX7_hasPlace_10 σ3 p1 p2) (fun σ5 r6 => (if r6 = 0 then cl (fX10_refuse σ5 2) (fun σ11 r12 => some (σ11, r12)) else cl (fX7_get_10 σ5 p1 p2) (fun σ7 r8 => cl (fX7_set_10 σ7 p1 p2 (p3.toInt8.toInt32)) (fun σ9 r10 => some (σ9, r8 + 1000))))) else cl (fX10_refuse σ3 1) (fun σ13 r14 => some (σ13, r14))))))
set_option maxHeartbeats 4000000 in
set_option maxRecDepth 100000 in
theorem ctX10_put (l : Launch) (g : GG) (σ : St) (p1 : Int32) (p2 : Int32) (p3 : Int32) (σ' : St) (r : Int32) (hE : fX10_put σ p1 p2 p3 = some (σ', r)) : MI 52 entC l g yX10_put (Cond.code yX10_put cX10_put 5 (some .int) :: gtbl) (rmD 2) [.ref (g.2.1 0), .int p1, .int p2, .int p3] σ σ' r := by
  refine mi_i (own := RX10) (lv := [(0, .ref (g.2.1 0)), (1, .int p1), (2, .int p2), (3, .int p3)]) (by decide) rfl (Nat.le_of_ble_eq_true rfl) rfl (fun p e s m below meth c ls args Q A H0 H locs C hK hA hQ hs hl => ?_)
  have hx := C.1
  have hb := C.2.1
  unfold fX10_put at hE
  refine lv_aload_n hx hb dX10_put_0 rfl (lv_at hl 0 rfl) ?_
  refine gf_X10_18_0 C hK hs dX10_put_1 ?_
  refine lv_iload_n hx hb dX10_put_4 rfl (lv_at hl 1 rfl) ?_
  obtain ⟨σ1, r2, hE1, hE⟩ := cl_e hE
  refine x_civ (As := [.int p1]) (rest := []) C hl.1 hK hs hA ⟨Nat.le_refl 0, Nat.le_refl 0⟩ (ctX7_isOne_10 l g _ _ _ _ hE1) (cw_X10_72 C ⟨Nat.le_of_ble_eq_true rfl, Nat.le_of_ble_eq_true rfl⟩) (hs.recv hK 10 (by decide) rfl rfl) rfl rfl (Nat.le_of_ble_eq_true rfl) dX10_put_5 (fun H locs hs => ?_)
  refine lv_if_ne (tgt := 13) hx hb dX10_put_8 (by decide) (fun hc => ?_) (fun hc => ?_)
  · have hE := if_f hc hE
    refine lv_aload_n hx hb dX10_put_13 rfl (lv_at hl 0 rfl) ?_
    refine gf_X10_18_0 C hK hs dX10_put_14 ?_
    refine lv_iload_n hx hb dX10_put_17 rfl (lv_at hl 1 rfl) ?_
    obtain ⟨σ3, r4, hE1, hE⟩ := cl_e hE
    refine x_civ (As := [.int p1]) (rest := []) C hl.1 hK hs hA ⟨Nat.le_refl 0, Nat.le_refl 0⟩ (ctX7_isMissing_10 l g _ _ _ _ hE1) (cw_X10_84 C ⟨Nat.le_of_ble_eq_true rfl, Nat.le_of_ble_eq_true rfl⟩) (hs.recv hK 10 (by decide) rfl rfl) rfl rfl (Nat.le_of_ble_eq_true rfl) dX10_put_18 (fun H locs hs => ?_)
    refine lv_if_eq (tgt := 30) hx hb dX10_put_21 (by decide) (fun hc => ?_) (fun hc => ?_)
    · have hE := if_t hc hE
      refine lv_aload_n hx hb dX10_put_30 rfl (lv_at hl 0 rfl) ?_
      refine gf_X10_18_0 C hK hs dX10_put_31 ?_
      refine lv_iload_n hx hb dX10_put_34 rfl (lv_at hl 1 rfl) ?_
      refine lv_iload_n hx hb dX10_put_35 rfl (lv_at hl 2 rfl) ?_
      obtain ⟨σ5, r6, hE1, hE⟩ := cl_e hE
      refine x_civ (As := [.int p1, .int p2]) (rest := []) C hl.1 hK hs hA ⟨Nat.le_refl 0, Nat.le_refl 0⟩ (ctX7_hasPlace_10 l g _ _ _ _ _ hE1) (cw_X10_87 C ⟨Nat.le_of_ble_eq_true rfl, Nat.le_of_ble_eq_true rfl⟩) (hs.recv hK 10 (by decide) rfl rfl) rfl rfl (Nat.le_of_ble_eq_true rfl) dX10_put_36 (fun H locs hs => ?_)
      refine lv_if_ne (tgt := 48) hx hb dX10_put_39 (by decide) (fun hc => ?_) (fun hc => ?_)
      · have hE := if_f hc hE
        refine lv_aload_n hx hb dX10_put_48 rfl (lv_at hl 0 rfl) ?_
        refine gf_X10_18_0 C hK hs dX10_put_49 ?_
        refine lv_iload_n hx hb dX10_put_52 rfl (lv_at hl 1 rfl) ?_
        refine lv_iload_n hx hb dX10_put_53 rfl (lv_at hl 2 rfl) ?_
        obtain ⟨σ7, r8, hE1, hE⟩ := cl_e hE
        refine x_civ (As := [.int p1, .int p2]) (rest := []) C hl.1 hK hs hA ⟨Nat.le_refl 0, Nat.le_refl 0⟩ (ctX7_get_10 l g _ _ _ _ _ hE1) (cw_X10_91 C ⟨Nat.le_of_ble_eq_true rfl, Nat.le_of_ble_eq_true rfl⟩) (hs.recv hK 10 (by decide) rfl rfl) rfl rfl (Nat.le_of_ble_eq_true rfl) dX10_put_54 (fun H locs hs => ?_)
        refine lv_istore (lv' := [(4, .int r8), (0, .ref (g.2.1 0)), (1, .int p1), (2, .int p2), (3, .int p3)]) hx hb dX10_put_57 hl (by decide) rfl (fun ls hl => ?_)
        refine lv_aload_n hx hb dX10_put_59 rfl (lv_at hl 1 rfl) ?_
        refine gf_X10_18_0 C hK hs dX10_put_60 ?_
        refine lv_iload_n hx hb dX10_put_63 rfl (lv_at hl 2 rfl) ?_
        refine lv_iload_n hx hb dX10_put_64 rfl (lv_at hl 3 rfl) ?_
        refine lv_iload_n hx hb dX10_put_65 rfl (lv_at hl 4 rfl) ?_
        refine lv_i2b (v := p3.toInt8.toInt32) hx hb dX10_put_66 rfl ?_
        obtain ⟨σ9, r10, hE1, hE⟩ := cl_e hE
        refine x_cvv (As := [.int p1, .int p2, .int (p3.toInt8.toInt32)]) (rest := []) C hl.1 hK hs hA ⟨Nat.le_refl 0, Nat.le_refl 0⟩ (ctX7_set_10 l g _ _ _ _ _ _ hE1) (cw_X10_99 C ⟨Nat.le_of_ble_eq_true rfl, Nat.le_of_ble_eq_true rfl⟩) (hs.recv hK 10 (by decide) rfl rfl) rfl rfl (Nat.le_of_ble_eq_true rfl) dX10_put_67 (fun H locs hs => ?_)
        refine lv_iload hx hb dX10_put_70 (lv_at hl 0 rfl) ?_
        refine lv_sipush (v := 1000) hx hb dX10_put_72 (by decide) ?_
        refine lv_iadd hx hb dX10_put_75 ?_
        exact hQ hs hE dX10_put_76
      · have hE := if_t hc hE
        refine lv_aload_n hx hb dX10_put_42 rfl (lv_at hl 0 rfl) ?_
        refine lv_iconst (v := 2) hx hb dX10_put_43 (by decide) ?_
        obtain ⟨σ11, r12, hE1, hE⟩ := cl_e hE
        refine x_civ (As := [.int 2]) (rest := []) C hl.1 hK hs hA ⟨Nat.le_refl 0, Nat.le_refl 0⟩ (ctX10_refuse l g _ _ _ _ hE1) (cw_X10_76 C ⟨Nat.le_of_ble_eq_true rfl, Nat.le_of_ble_eq_true rfl⟩) (hs.recv hK 0 (by decide) rfl rfl) rfl rfl (Nat.le_of_ble_eq_true rfl) dX10_put_44 (fun H locs hs => ?_)
        exact hQ hs hE dX10_put_47
    · have hE := if_f hc hE
      refine lv_aload_n hx hb dX10_put_24 rfl (lv_at hl 0 rfl) ?_
      refine lv_iconst (v := 1) hx hb dX10_put_25 (by decide) ?_
      obtain ⟨σ13, r14, hE1, hE⟩ := cl_e hE
      refine x_civ (As := [.int 1]) (rest := []) C hl.1 hK hs hA ⟨Nat.le_refl 0, Nat.le_refl 0⟩ (ctX10_refuse l g _ _ _ _ hE1) (cw_X10_76 C ⟨Nat.le_of_ble_eq_true rfl, Nat.le_of_ble_eq_true rfl⟩) (hs.recv hK 0 (by decide) rfl rfl) rfl rfl (Nat.le_of_ble_eq_true rfl) dX10_put_26 (fun H locs hs => ?_)
      exact hQ hs hE dX10_put_29
  · have hE := if_t hc hE
    refine lv_iconst (v := (-1)) hx hb dX10_put_11 (by decide) ?_
    exact hQ hs hE dX10_put_12
theorem dX10_fault_0 : decode cX10_fault 0 = .ok (.aload_n 0, 1) := by decide +kernel
theorem dX10_fault_1 : decode cX10_fault 1 = .ok (.getfield 18, 3) := by decide +kernel
theorem dX10_fault_4 : decode cX10_fault 4 = .ok (.iload_n 1, 1) := by decide +kernel
theorem dX10_fault_5 : decode cX10_fault 5 = .ok (.invokevirtual 72, 3) := by decide +kernel
theorem dX10_fault_8 : decode cX10_fault 8 = .ok (.ifCond .ne 5, 3) := by decide +kernel
theorem dX10_fault_11 : decode cX10_fault 11 = .ok (.iconst (-1), 1) := by decide +kernel
theorem dX10_fault_12 : decode cX10_fault 12 = .ok (.ireturn, 1) := by decide +kernel
theorem dX10_fault_13 : decode cX10_fault 13 = .ok (.aload_n 0, 1) := by decide +kernel
theorem dX10_fault_14 : decode cX10_fault 14 = .ok (.getfield 18, 3) := by decide +kernel
theorem dX10_fault_17 : decode cX10_fault 17 = .ok (.iload_n 1, 1) := by decide +kernel
theorem dX10_fault_18 : decode cX10_fault 18 = .ok (.invokevirtual 84, 3) := by decide +kernel
theorem dX10_fault_21 : decode cX10_fault 21 = .ok (.ifCond .eq 9, 3) := by decide +kernel
theorem dX10_fault_24 : decode cX10_fault 24 = .ok (.aload_n 0, 1) := by decide +kernel
theorem dX10_fault_25 : decode cX10_fault 25 = .ok (.iconst 1, 1) := by decide +kernel
theorem dX10_fault_26 : decode cX10_fault 26 = .ok (.invokevirtual 76, 3) := by decide +kernel
theorem dX10_fault_29 : decode cX10_fault 29 = .ok (.ireturn, 1) := by decide +kernel
theorem dX10_fault_30 : decode cX10_fault 30 = .ok (.aload_n 0, 1) := by decide +kernel
theorem dX10_fault_31 : decode cX10_fault 31 = .ok (.getfield 24, 3) := by decide +kernel
theorem dX10_fault_34 : decode cX10_fault 34 = .ok (.aload_n 0, 1) := by decide +kernel
theorem dX10_fault_35 : decode cX10_fault 35 = .ok (.getfield 18, 3) := by decide +kernel
theorem dX10_fault_38 : decode cX10_fault 38 = .ok (.iload_n 1, 1) := by decide +kernel
theorem dX10_fault_39 : decode cX10_fault 39 = .ok (.invokevirtual 121, 3) := by decide +kernel
theorem dX10_fault_42 : decode cX10_fault 42 = .ok (.aload_n 0, 1) := by decide +kernel
theorem dX10_fault_43 : decode cX10_fault 43 = .ok (.getfield 18, 3) := by decide +kernel
theorem dX10_fault_46 : decode cX10_fault 46 = .ok (.iload_n 1, 1) := by decide +kernel
theorem dX10_fault_47 : decode cX10_fault 47 = .ok (.invokevirtual 114, 3) := by decide +kernel
theorem dX10_fault_50 : decode cX10_fault 50 = .ok (.invokevirtual 125, 3) := by decide +kernel
theorem dX10_fault_53 : decode cX10_fault 53 = .ok (.ireturn, 1) := by decide +kernel
def fX10_fault (σ : St) (p1 : Int32) : Option (St × Int32) := cl (fX7_isOne_10 σ p1) (fun σ1 r2 => (if r2 = 0 then some (σ1, (-1)) else cl (fX7_isMissing_10 σ1 p1) (fun σ3 r4 => (if r4 = 0 then cl (fX7_cellsOf_10 σ3 p1) (fun σ5 r6 => cl (fX7_sizeOf_10 σ5 p1) (fun σ7 r8 => cl (fX8_read σ7 r6 r8) (fun σ9 r10 => some (σ9, r10)))) else cl (fX10_refuse σ3 1) (fun σ11 r12 => some (σ11, r12))))))
set_option maxHeartbeats 4000000 in
set_option maxRecDepth 100000 in
theorem ctX10_fault (l : Launch) (g : GG) (σ : St) (p1 : Int32) (σ' : St) (r : Int32) (hE : fX10_fault σ p1 = some (σ', r)) : MI 52 entC l g yX10_fault (Cond.code yX10_fault cX10_fault 2 (some .int) :: gtbl) (rmD 7) [.ref (g.2.1 0), .int p1] σ σ' r := by
  refine mi_i (own := RX10) (lv := [(0, .ref (g.2.1 0)), (1, .int p1)]) (by decide) rfl (Nat.le_of_ble_eq_true rfl) rfl (fun p e s m below meth c ls args Q A H0 H locs C hK hA hQ hs hl => ?_)
  have hx := C.1
  have hb := C.2.1
  unfold fX10_fault at hE
  refine lv_aload_n hx hb dX10_fault_0 rfl (lv_at hl 0 rfl) ?_
  refine gf_X10_18_0 C hK hs dX10_fault_1 ?_
  refine lv_iload_n hx hb dX10_fault_4 rfl (lv_at hl 1 rfl) ?_
  obtain ⟨σ1, r2, hE1, hE⟩ := cl_e hE
  refine x_civ (As := [.int p1]) (rest := []) C hl.1 hK hs hA ⟨Nat.le_refl 0, Nat.le_refl 0⟩ (ctX7_isOne_10 l g _ _ _ _ hE1) (cw_X10_72 C ⟨Nat.le_of_ble_eq_true rfl, Nat.le_of_ble_eq_true rfl⟩) (hs.recv hK 10 (by decide) rfl rfl) rfl rfl (Nat.le_of_ble_eq_true rfl) dX10_fault_5 (fun H locs hs => ?_)
  refine lv_if_ne (tgt := 13) hx hb dX10_fault_8 (by decide) (fun hc => ?_) (fun hc => ?_)
  · have hE := if_f hc hE
    refine lv_aload_n hx hb dX10_fault_13 rfl (lv_at hl 0 rfl) ?_
    refine gf_X10_18_0 C hK hs dX10_fault_14 ?_
    refine lv_iload_n hx hb dX10_fault_17 rfl (lv_at hl 1 rfl) ?_
    obtain ⟨σ3, r4, hE1, hE⟩ := cl_e hE
    refine x_civ (As := [.int p1]) (rest := []) C hl.1 hK hs hA ⟨Nat.le_refl 0, Nat.le_refl 0⟩ (ctX7_isMissing_10 l g _ _ _ _ hE1) (cw_X10_84 C ⟨Nat.le_of_ble_eq_true rfl, Nat.le_of_ble_eq_true rfl⟩) (hs.recv hK 10 (by decide) rfl rfl) rfl rfl (Nat.le_of_ble_eq_true rfl) dX10_fault_18 (fun H locs hs => ?_)
    refine lv_if_eq (tgt := 30) hx hb dX10_fault_21 (by decide) (fun hc => ?_) (fun hc => ?_)
    · have hE := if_t hc hE
      refine lv_aload_n hx hb dX10_fault_30 rfl (lv_at hl 0 rfl) ?_
      refine gf_X10_24_0 C hK hs dX10_fault_31 ?_
      refine lv_aload_n hx hb dX10_fault_34 rfl (lv_at hl 0 rfl) ?_
      refine gf_X10_18_0 C hK hs dX10_fault_35 ?_
      refine lv_iload_n hx hb dX10_fault_38 rfl (lv_at hl 1 rfl) ?_
      obtain ⟨σ5, r6, hE1, hE⟩ := cl_e hE
      refine x_crv (As := [.int p1]) (rest := [.ref (g.2.1 17)]) C hl.1 hK hs hA ⟨Nat.le_refl 0, Nat.le_refl 0⟩ (ctX7_cellsOf_10 l g _ _ _ _ hE1) (cw_X10_121 C ⟨Nat.le_of_ble_eq_true rfl, Nat.le_of_ble_eq_true rfl⟩) (hs.recv hK 10 (by decide) rfl rfl) rfl rfl (Nat.le_of_ble_eq_true rfl) dX10_fault_39 (fun H locs hs => ?_)
      refine lv_aload_n hx hb dX10_fault_42 rfl (lv_at hl 0 rfl) ?_
      refine gf_X10_18_0 C hK hs dX10_fault_43 ?_
      refine lv_iload_n hx hb dX10_fault_46 rfl (lv_at hl 1 rfl) ?_
      obtain ⟨σ7, r8, hE1, hE⟩ := cl_e hE
      refine x_civ (As := [.int p1]) (rest := [.ref (g.2.1 r6), .ref (g.2.1 17)]) C hl.1 hK hs hA ⟨Nat.le_refl 0, Nat.le_refl 0⟩ (ctX7_sizeOf_10 l g _ _ _ _ hE1) (cw_X10_114 C ⟨Nat.le_of_ble_eq_true rfl, Nat.le_of_ble_eq_true rfl⟩) (hs.recv hK 10 (by decide) rfl rfl) rfl rfl (Nat.le_of_ble_eq_true rfl) dX10_fault_47 (fun H locs hs => ?_)
      obtain ⟨σ9, r10, hE1, hE⟩ := cl_e hE
      refine x_civ (As := [.ref (g.2.1 r6), .int r8]) (rest := []) C hl.1 hK hs hA ⟨Nat.le_refl 0, Nat.le_refl 0⟩ (ctX8_read l g _ _ _ _ _ hE1) (cw_X10_125 C ⟨Nat.le_of_ble_eq_true rfl, Nat.le_of_ble_eq_true rfl⟩) (hs.recv hK 17 (by decide) rfl rfl) rfl rfl (Nat.le_of_ble_eq_true rfl) dX10_fault_50 (fun H locs hs => ?_)
      exact hQ hs hE dX10_fault_53
    · have hE := if_f hc hE
      refine lv_aload_n hx hb dX10_fault_24 rfl (lv_at hl 0 rfl) ?_
      refine lv_iconst (v := 1) hx hb dX10_fault_25 (by decide) ?_
      obtain ⟨σ11, r12, hE1, hE⟩ := cl_e hE
      refine x_civ (As := [.int 1]) (rest := []) C hl.1 hK hs hA ⟨Nat.le_refl 0, Nat.le_refl 0⟩ (ctX10_refuse l g _ _ _ _ hE1) (cw_X10_76 C ⟨Nat.le_of_ble_eq_true rfl, Nat.le_of_ble_eq_true rfl⟩) (hs.recv hK 0 (by decide) rfl rfl) rfl rfl (Nat.le_of_ble_eq_true rfl) dX10_fault_26 (fun H locs hs => ?_)
      exact hQ hs hE dX10_fault_29
  · have hE := if_t hc hE
    refine lv_iconst (v := (-1)) hx hb dX10_fault_11 (by decide) ?_
    exact hQ hs hE dX10_fault_12
