theorem dX6_isColour_0 : decode cX6_isColour 0 = .ok (.iload_n 1, 1) := by decide +kernel
theorem dX6_isColour_1 : decode cX6_isColour 1 = .ok (.ifCond .lt 15, 3) := by decide +kernel
theorem dX6_isColour_4 : decode cX6_isColour 4 = .ok (.iload_n 1, 1) := by decide +kernel
theorem dX6_isColour_5 : decode cX6_isColour 5 = .ok (.aload_n 0, 1) := by decide +kernel
theorem dX6_isColour_6 : decode cX6_isColour 6 = .ok (.getfield 34, 3) := by decide +kernel
theorem dX6_isColour_9 : decode cX6_isColour 9 = .ok (.if_icmp .ge 7, 3) := by decide +kernel
theorem dX6_isColour_12 : decode cX6_isColour 12 = .ok (.iconst 1, 1) := by decide +kernel
theorem dX6_isColour_13 : decode cX6_isColour 13 = .ok (.goto 4, 3) := by decide +kernel
theorem dX6_isColour_16 : decode cX6_isColour 16 = .ok (.iconst 0, 1) := by decide +kernel
theorem dX6_isColour_17 : decode cX6_isColour 17 = .ok (.ireturn, 1) := by decide +kernel
def fX6_isColour (σ : St) (p1 : Int32) : Option (St × Int32) := (if p1 < 0 then some (σ, 0) else (if (σ.1 26 6) ≤ p1 then some (σ, 0) else some (σ, 1)))
set_option maxHeartbeats 4000000 in
set_option maxRecDepth 100000 in
theorem ctX6_isColour (l : Launch) (g : GG) (σ : St) (p1 : Int32) (σ' : St) (r : Int32) (hE : fX6_isColour σ p1 = some (σ', r)) : MI 52 entC l g yX6_isColour (Cond.code yX6_isColour cX6_isColour 2 (some .boolean) :: gtbl) (rmD 1) [.ref (g.2.1 26), .int p1] σ σ' r := by
  refine mi_z (own := RX6) (lv := [(0, .ref (g.2.1 26)), (1, .int p1)]) (by decide) rfl (Nat.le_of_ble_eq_true rfl) rfl (fun p e s m below meth c ls args Q A H0 H locs C hK hA hQ hs hl => ?_)
  have hx := C.1
  have hb := C.2.1
  unfold fX6_isColour at hE
  refine lv_iload_n hx hb dX6_isColour_0 rfl (lv_at hl 1 rfl) ?_
  refine lv_if_lt (tgt := 16) hx hb dX6_isColour_1 (by decide) (fun hc => ?_) (fun hc => ?_)
  · have hE := if_t hc hE
    refine lv_iconst (v := 0) hx hb dX6_isColour_16 (by decide) ?_
    exact hQ hs rfl hE dX6_isColour_17
  · have hE := if_f hc hE
    refine lv_iload_n hx hb dX6_isColour_4 rfl (lv_at hl 1 rfl) ?_
    refine lv_aload_n hx hb dX6_isColour_5 rfl (lv_at hl 0 rfl) ?_
    refine gf_X6_34_26 C hK hs dX6_isColour_6 ?_
    refine lv_icmp_ge (tgt := 16) hx hb dX6_isColour_9 (by decide) (fun hc => ?_) (fun hc => ?_)
    · have hE := if_t hc hE
      refine lv_iconst (v := 0) hx hb dX6_isColour_16 (by decide) ?_
      exact hQ hs rfl hE dX6_isColour_17
    · have hE := if_f hc hE
      refine lv_iconst (v := 1) hx hb dX6_isColour_12 (by decide) ?_
      refine lv_goto (tgt := 17) hx hb dX6_isColour_13 (by decide) ?_
      exact hQ hs rfl hE dX6_isColour_17
theorem dX6_isHouse_0 : decode cX6_isHouse 0 = .ok (.iload_n 1, 1) := by decide +kernel
theorem dX6_isHouse_1 : decode cX6_isHouse 1 = .ok (.ifCond .lt 15, 3) := by decide +kernel
theorem dX6_isHouse_4 : decode cX6_isHouse 4 = .ok (.iload_n 1, 1) := by decide +kernel
theorem dX6_isHouse_5 : decode cX6_isHouse 5 = .ok (.aload_n 0, 1) := by decide +kernel
theorem dX6_isHouse_6 : decode cX6_isHouse 6 = .ok (.getfield 38, 3) := by decide +kernel
theorem dX6_isHouse_9 : decode cX6_isHouse 9 = .ok (.if_icmp .ge 7, 3) := by decide +kernel
theorem dX6_isHouse_12 : decode cX6_isHouse 12 = .ok (.iconst 1, 1) := by decide +kernel
theorem dX6_isHouse_13 : decode cX6_isHouse 13 = .ok (.goto 4, 3) := by decide +kernel
theorem dX6_isHouse_16 : decode cX6_isHouse 16 = .ok (.iconst 0, 1) := by decide +kernel
theorem dX6_isHouse_17 : decode cX6_isHouse 17 = .ok (.ireturn, 1) := by decide +kernel
def fX6_isHouse (σ : St) (p1 : Int32) : Option (St × Int32) := (if p1 < 0 then some (σ, 0) else (if (σ.1 26 7) ≤ p1 then some (σ, 0) else some (σ, 1)))
set_option maxHeartbeats 4000000 in
set_option maxRecDepth 100000 in
theorem ctX6_isHouse (l : Launch) (g : GG) (σ : St) (p1 : Int32) (σ' : St) (r : Int32) (hE : fX6_isHouse σ p1 = some (σ', r)) : MI 52 entC l g yX6_isHouse (Cond.code yX6_isHouse cX6_isHouse 2 (some .boolean) :: gtbl) (rmD 1) [.ref (g.2.1 26), .int p1] σ σ' r := by
  refine mi_z (own := RX6) (lv := [(0, .ref (g.2.1 26)), (1, .int p1)]) (by decide) rfl (Nat.le_of_ble_eq_true rfl) rfl (fun p e s m below meth c ls args Q A H0 H locs C hK hA hQ hs hl => ?_)
  have hx := C.1
  have hb := C.2.1
  unfold fX6_isHouse at hE
  refine lv_iload_n hx hb dX6_isHouse_0 rfl (lv_at hl 1 rfl) ?_
  refine lv_if_lt (tgt := 16) hx hb dX6_isHouse_1 (by decide) (fun hc => ?_) (fun hc => ?_)
  · have hE := if_t hc hE
    refine lv_iconst (v := 0) hx hb dX6_isHouse_16 (by decide) ?_
    exact hQ hs rfl hE dX6_isHouse_17
  · have hE := if_f hc hE
    refine lv_iload_n hx hb dX6_isHouse_4 rfl (lv_at hl 1 rfl) ?_
    refine lv_aload_n hx hb dX6_isHouse_5 rfl (lv_at hl 0 rfl) ?_
    refine gf_X6_38_26 C hK hs dX6_isHouse_6 ?_
    refine lv_icmp_ge (tgt := 16) hx hb dX6_isHouse_9 (by decide) (fun hc => ?_) (fun hc => ?_)
    · have hE := if_t hc hE
      refine lv_iconst (v := 0) hx hb dX6_isHouse_16 (by decide) ?_
      exact hQ hs rfl hE dX6_isHouse_17
    · have hE := if_f hc hE
      refine lv_iconst (v := 1) hx hb dX6_isHouse_12 (by decide) ?_
      refine lv_goto (tgt := 17) hx hb dX6_isHouse_13 (by decide) ?_
      exact hQ hs rfl hE dX6_isHouse_17
theorem dX6_dearest_0 : decode cX6_dearest 0 = .ok (.iconst 0, 1) := by decide +kernel
theorem dX6_dearest_1 : decode cX6_dearest 1 = .ok (.istore_n 1, 1) := by decide +kernel
theorem dX6_dearest_2 : decode cX6_dearest 2 = .ok (.iconst 1, 1) := by decide +kernel
theorem dX6_dearest_3 : decode cX6_dearest 3 = .ok (.istore_n 2, 1) := by decide +kernel
theorem dX6_dearest_4 : decode cX6_dearest 4 = .ok (.iload_n 2, 1) := by decide +kernel
theorem dX6_dearest_5 : decode cX6_dearest 5 = .ok (.aload_n 0, 1) := by decide +kernel
theorem dX6_dearest_6 : decode cX6_dearest 6 = .ok (.getfield 34, 3) := by decide +kernel
theorem dX6_dearest_9 : decode cX6_dearest 9 = .ok (.if_icmp .ge 26, 3) := by decide +kernel
theorem dX6_dearest_12 : decode cX6_dearest 12 = .ok (.aload_n 0, 1) := by decide +kernel
theorem dX6_dearest_13 : decode cX6_dearest 13 = .ok (.getfield 16, 3) := by decide +kernel
theorem dX6_dearest_16 : decode cX6_dearest 16 = .ok (.iload_n 2, 1) := by decide +kernel
theorem dX6_dearest_17 : decode cX6_dearest 17 = .ok (.iaload, 1) := by decide +kernel
theorem dX6_dearest_18 : decode cX6_dearest 18 = .ok (.aload_n 0, 1) := by decide +kernel
theorem dX6_dearest_19 : decode cX6_dearest 19 = .ok (.getfield 16, 3) := by decide +kernel
theorem dX6_dearest_22 : decode cX6_dearest 22 = .ok (.iload_n 1, 1) := by decide +kernel
theorem dX6_dearest_23 : decode cX6_dearest 23 = .ok (.iaload, 1) := by decide +kernel
theorem dX6_dearest_24 : decode cX6_dearest 24 = .ok (.if_icmp .le 5, 3) := by decide +kernel
theorem dX6_dearest_27 : decode cX6_dearest 27 = .ok (.iload_n 2, 1) := by decide +kernel
theorem dX6_dearest_28 : decode cX6_dearest 28 = .ok (.istore_n 1, 1) := by decide +kernel
theorem dX6_dearest_29 : decode cX6_dearest 29 = .ok (.iinc 2 1, 3) := by decide +kernel
theorem dX6_dearest_32 : decode cX6_dearest 32 = .ok (.goto (-28), 3) := by decide +kernel
theorem dX6_dearest_35 : decode cX6_dearest 35 = .ok (.iload_n 1, 1) := by decide +kernel
theorem dX6_dearest_36 : decode cX6_dearest 36 = .ok (.ireturn, 1) := by decide +kernel
def fX6_dearest_L4 : Nat → St → Int32 → Int32 → (St → Int32 → Int32 → Option (St × Int32)) → Option (St × Int32)
  | 0, _, _, _, _ => none
  | n + 1, σ1, v2, v3, k => (if (σ1.1 26 6) ≤ v3 then k σ1 v2 v3 else rd LC σ1 29 v3 (fun x4 => rd LC σ1 29 v2 (fun x5 => pv (if x4 ≤ x5 then v2 else v3) (fun (z7 : Int32) => fX6_dearest_L4 n σ1 z7 (v3 + 1) k))))
def fX6_dearest (σ : St) : Option (St × Int32) := fX6_dearest_L4 10000 σ 0 1 (fun σ8 v9 v10 => some (σ8, v9))
set_option maxHeartbeats 4000000 in
set_option maxRecDepth 100000 in
theorem ctX6_dearest (l : Launch) (g : GG) (σ : St) (σ' : St) (r : Int32) (hE : fX6_dearest σ  = some (σ', r)) : MI 52 entC l g yX6_dearest (Cond.code yX6_dearest cX6_dearest 3 (some .int) :: gtbl) (rmD 1) [.ref (g.2.1 26)] σ σ' r := by
  refine mi_i (own := RX6) (lv := [(0, .ref (g.2.1 26))]) (by decide) rfl (Nat.le_of_ble_eq_true rfl) rfl (fun p e s m below meth c ls args Q A H0 H locs C hK hA hQ hs hl => ?_)
  have hx := C.1
  have hb := C.2.1
  unfold fX6_dearest at hE
  refine lv_iconst (v := 0) hx hb dX6_dearest_0 (by decide) ?_
  refine lv_istore_n (lv' := [(1, .int 0), (0, .ref (g.2.1 26))]) hx hb dX6_dearest_1 rfl hl (by decide) rfl (fun ls hl => ?_)
  refine lv_iconst (v := 1) hx hb dX6_dearest_2 (by decide) ?_
  refine lv_istore_n (lv' := [(2, .int 1), (1, .int 0), (0, .ref (g.2.1 26))]) hx hb dX6_dearest_3 rfl hl (by decide) rfl (fun ls hl => ?_)
  have hL4 : ∀ (n : Nat) (σ1 : St) (v2 : Int32) (v3 : Int32) (k : St → Int32 → Int32 → Option (St × Int32)), fX6_dearest_L4 n σ1 v2 v3 k = some (σ', r) → (∀ (σ1 : St) (v2 : Int32) (v3 : Int32) (H : Heap) (locs : List Loc) (ls : Array Slot), HW 52 entC g A H0 H locs σ1 → lv_has ls 3 [(0, .ref (g.2.1 26)), (1, .int v2), (2, .int v3)] → k σ1 v2 v3 = some (σ', r) → W p l e (rmD 1) s m args below meth c H locs 0 0 Q (F0 m 35 ls [])) → ∀ (H : Heap) (locs : List Loc) (ls : Array Slot), HW 52 entC g A H0 H locs σ1 → lv_has ls 3 [(0, .ref (g.2.1 26)), (1, .int v2), (2, .int v3)] → W p l e (rmD 1) s m args below meth c H locs 0 0 Q (F0 m 4 ls []) := by
    intro n
    induction n with
    | zero =>
      intro σ1 v2 v3 k hE
      rw [fX6_dearest_L4] at hE
      exact no_e hE
    | succ n ih =>
      intro σ1 v2 v3 k hE hk H locs ls hs hl
      rw [fX6_dearest_L4] at hE
      refine lv_iload_n hx hb dX6_dearest_4 rfl (lv_at hl 2 rfl) ?_
      refine lv_aload_n hx hb dX6_dearest_5 rfl (lv_at hl 0 rfl) ?_
      refine gf_X6_34_26 C hK hs dX6_dearest_6 ?_
      refine lv_icmp_ge (tgt := 35) hx hb dX6_dearest_9 (by decide) (fun hc => ?_) (fun hc => ?_)
      · have hE := if_t hc hE
        exact hk σ1 v2 v3 _ _ _ hs (lv_sub hl [0, 1, 2] rfl) hE
      · have hE := if_f hc hE
        refine lv_aload_n hx hb dX6_dearest_12 rfl (lv_at hl 0 rfl) ?_
        refine gf_X6_16_26 C hK hs dX6_dearest_13 ?_
        refine lv_iload_n hx hb dX6_dearest_16 rfl (lv_at hl 2 rfl) ?_
        obtain ⟨hi, x4, ex4, hE⟩ := rd_w hE
        refine y_ald layC C hK hs hi ex4 dX6_dearest_17 ?_
        refine lv_aload_n hx hb dX6_dearest_18 rfl (lv_at hl 0 rfl) ?_
        refine gf_X6_16_26 C hK hs dX6_dearest_19 ?_
        refine lv_iload_n hx hb dX6_dearest_22 rfl (lv_at hl 1 rfl) ?_
        obtain ⟨hi, x5, ex5, hE⟩ := rd_w hE
        refine y_ald layC C hK hs hi ex5 dX6_dearest_23 ?_
        refine pvw hE (fun k6 hE hk6 => ?_)
        have hJk6 : ∀ (z7 : Int32) (H : Heap) (locs : List Loc) (ls : Array Slot), HW 52 entC g A H0 H locs σ1 → lv_has ls 3 [(0, .ref (g.2.1 26)), (1, .int z7), (2, .int v3)] → k6 z7 = some (σ', r) → W p l e (rmD 1) s m args below meth c H locs 0 0 Q (F0 m 29 ls []) := by
          intro z7 H locs ls hs hl hE
          have hE := hk6 _ hE
          refine lv_iinc (v := v3 + 1) (lv' := [(2, .int (v3 + 1)), (0, .ref (g.2.1 26)), (1, .int z7)]) hx hb dX6_dearest_29 hl (k := 2) rfl rfl (by decide) rfl (fun ls hl => ?_)
          refine lv_goto (tgt := 4) hx hb dX6_dearest_32 (by decide) ?_
          exact ih _ _ _ _ hE hk _ _ _ hs (lv_sub hl [1, 2, 0] rfl)
        refine lv_icmp_le (tgt := 29) hx hb dX6_dearest_24 (by decide) (fun hc => ?_) (fun hc => ?_)
        · have hE := pv_t hc hE
          exact hJk6 v2 _ _ _ hs (lv_sub hl [0, 1, 2] rfl) hE
        · have hE := pv_f hc hE
          refine lv_iload_n hx hb dX6_dearest_27 rfl (lv_at hl 2 rfl) ?_
          refine lv_istore_n (lv' := [(1, .int v3), (0, .ref (g.2.1 26)), (2, .int v3)]) hx hb dX6_dearest_28 rfl hl (by decide) rfl (fun ls hl => ?_)
          exact hJk6 v3 _ _ _ hs (lv_sub hl [1, 0, 2] rfl) hE
  refine hL4 _ _ _ _ _ hE (fun σ8 v9 v10 H locs ls hs hl hE => ?_) H locs ls hs (lv_sub hl [2, 1, 0] rfl)
  refine lv_iload_n hx hb dX6_dearest_35 rfl (lv_at hl 1 rfl) ?_
  exact hQ hs hE dX6_dearest_36
theorem dX6_manyOf_0 : decode cX6_manyOf 0 = .ok (.iconst 0, 1) := by decide +kernel
theorem dX6_manyOf_1 : decode cX6_manyOf 1 = .ok (.istore_n 2, 1) := by decide +kernel
theorem dX6_manyOf_2 : decode cX6_manyOf 2 = .ok (.iconst 0, 1) := by decide +kernel
theorem dX6_manyOf_3 : decode cX6_manyOf 3 = .ok (.istore_n 3, 1) := by decide +kernel
theorem dX6_manyOf_4 : decode cX6_manyOf 4 = .ok (.iload_n 3, 1) := by decide +kernel
theorem dX6_manyOf_5 : decode cX6_manyOf 5 = .ok (.aload_n 0, 1) := by decide +kernel
theorem dX6_manyOf_6 : decode cX6_manyOf 6 = .ok (.getfield 38, 3) := by decide +kernel
theorem dX6_manyOf_9 : decode cX6_manyOf 9 = .ok (.if_icmp .ge 25, 3) := by decide +kernel
theorem dX6_manyOf_12 : decode cX6_manyOf 12 = .ok (.aload_n 0, 1) := by decide +kernel
theorem dX6_manyOf_13 : decode cX6_manyOf 13 = .ok (.getfield 22, 3) := by decide +kernel
theorem dX6_manyOf_16 : decode cX6_manyOf 16 = .ok (.iload_n 3, 1) := by decide +kernel
theorem dX6_manyOf_17 : decode cX6_manyOf 17 = .ok (.iaload, 1) := by decide +kernel
theorem dX6_manyOf_18 : decode cX6_manyOf 18 = .ok (.iload_n 1, 1) := by decide +kernel
theorem dX6_manyOf_19 : decode cX6_manyOf 19 = .ok (.invokestatic 68, 3) := by decide +kernel
theorem dX6_manyOf_22 : decode cX6_manyOf 22 = .ok (.ifCond .eq 6, 3) := by decide +kernel
theorem dX6_manyOf_25 : decode cX6_manyOf 25 = .ok (.iinc 2 1, 3) := by decide +kernel
theorem dX6_manyOf_28 : decode cX6_manyOf 28 = .ok (.iinc 3 1, 3) := by decide +kernel
theorem dX6_manyOf_31 : decode cX6_manyOf 31 = .ok (.goto (-27), 3) := by decide +kernel
theorem dX6_manyOf_34 : decode cX6_manyOf 34 = .ok (.iload_n 2, 1) := by decide +kernel
theorem dX6_manyOf_35 : decode cX6_manyOf 35 = .ok (.ireturn, 1) := by decide +kernel
def fX6_manyOf_L4 (p1 : Int32) : Nat → St → Int32 → Int32 → (St → Int32 → Int32 → Option (St × Int32)) → Option (St × Int32)
  | 0, _, _, _, _ => none
  | n + 1, σ1, v2, v3, k => (if (σ1.1 26 7) ≤ v3 then k σ1 v2 v3 else rd LC σ1 31 v3 (fun x4 => cl (fX2_isOf σ1 x4 p1) (fun σ5 r6 => pv (if r6 = 0 then v2 else (v2 + 1)) (fun (z8 : Int32) => fX6_manyOf_L4 p1 n σ5 z8 (v3 + 1) k))))
def fX6_manyOf (σ : St) (p1 : Int32) : Option (St × Int32) := fX6_manyOf_L4 p1 10000 σ 0 0 (fun σ9 v10 v11 => some (σ9, v10))
set_option maxHeartbeats 4000000 in
set_option maxRecDepth 100000 in
theorem ctX6_manyOf (l : Launch) (g : GG) (σ : St) (p1 : Int32) (σ' : St) (r : Int32) (hE : fX6_manyOf σ p1 = some (σ', r)) : MI 52 entC l g yX6_manyOf (Cond.code yX6_manyOf cX6_manyOf 4 (some .int) :: gtbl) (rmD 2) [.ref (g.2.1 26), .int p1] σ σ' r := by
  refine mi_i (own := RX6) (lv := [(0, .ref (g.2.1 26)), (1, .int p1)]) (by decide) rfl (Nat.le_of_ble_eq_true rfl) rfl (fun p e s m below meth c ls args Q A H0 H locs C hK hA hQ hs hl => ?_)
  have hx := C.1
  have hb := C.2.1
  unfold fX6_manyOf at hE
  refine lv_iconst (v := 0) hx hb dX6_manyOf_0 (by decide) ?_
  refine lv_istore_n (lv' := [(2, .int 0), (0, .ref (g.2.1 26)), (1, .int p1)]) hx hb dX6_manyOf_1 rfl hl (by decide) rfl (fun ls hl => ?_)
  refine lv_iconst (v := 0) hx hb dX6_manyOf_2 (by decide) ?_
  refine lv_istore_n (lv' := [(3, .int 0), (2, .int 0), (0, .ref (g.2.1 26)), (1, .int p1)]) hx hb dX6_manyOf_3 rfl hl (by decide) rfl (fun ls hl => ?_)
  have hL4 : ∀ (n : Nat) (σ1 : St) (v2 : Int32) (v3 : Int32) (k : St → Int32 → Int32 → Option (St × Int32)), fX6_manyOf_L4 p1 n σ1 v2 v3 k = some (σ', r) → (∀ (σ1 : St) (v2 : Int32) (v3 : Int32) (H : Heap) (locs : List Loc) (ls : Array Slot), HW 52 entC g A H0 H locs σ1 → lv_has ls 4 [(0, .ref (g.2.1 26)), (1, .int p1), (2, .int v2), (3, .int v3)] → k σ1 v2 v3 = some (σ', r) → W p l e (rmD 2) s m args below meth c H locs 0 0 Q (F0 m 34 ls [])) → ∀ (H : Heap) (locs : List Loc) (ls : Array Slot), HW 52 entC g A H0 H locs σ1 → lv_has ls 4 [(0, .ref (g.2.1 26)), (1, .int p1), (2, .int v2), (3, .int v3)] → W p l e (rmD 2) s m args below meth c H locs 0 0 Q (F0 m 4 ls []) := by
    intro n
    induction n with
    | zero =>
      intro σ1 v2 v3 k hE
      rw [fX6_manyOf_L4] at hE
      exact no_e hE
    | succ n ih =>
      intro σ1 v2 v3 k hE hk H locs ls hs hl
      rw [fX6_manyOf_L4] at hE
      refine lv_iload_n hx hb dX6_manyOf_4 rfl (lv_at hl 3 rfl) ?_
      refine lv_aload_n hx hb dX6_manyOf_5 rfl (lv_at hl 0 rfl) ?_
      refine gf_X6_38_26 C hK hs dX6_manyOf_6 ?_
      refine lv_icmp_ge (tgt := 34) hx hb dX6_manyOf_9 (by decide) (fun hc => ?_) (fun hc => ?_)
      · have hE := if_t hc hE
        exact hk σ1 v2 v3 _ _ _ hs (lv_sub hl [0, 1, 2, 3] rfl) hE
      · have hE := if_f hc hE
        refine lv_aload_n hx hb dX6_manyOf_12 rfl (lv_at hl 0 rfl) ?_
        refine gf_X6_22_26 C hK hs dX6_manyOf_13 ?_
        refine lv_iload_n hx hb dX6_manyOf_16 rfl (lv_at hl 3 rfl) ?_
        obtain ⟨hi, x4, ex4, hE⟩ := rd_w hE
        refine y_ald layC C hK hs hi ex4 dX6_manyOf_17 ?_
        refine lv_iload_n hx hb dX6_manyOf_18 rfl (lv_at hl 1 rfl) ?_
        obtain ⟨σ5, r6, hE1, hE⟩ := cl_e hE
        refine x_cis (As := [.int x4, .int p1]) (rest := []) C hl.1 hK hs hA ⟨Nat.le_refl 0, Nat.le_refl 0⟩ (ctX2_isOf l g _ _ _ _ _ hE1) (cw_X6_68 C ⟨Nat.le_of_ble_eq_true rfl, Nat.le_of_ble_eq_true rfl⟩) rfl rfl (Nat.le_of_ble_eq_true rfl) dX6_manyOf_19 (fun H locs hs => ?_)
        refine pvw hE (fun k7 hE hk7 => ?_)
        have hJk7 : ∀ (z8 : Int32) (H : Heap) (locs : List Loc) (ls : Array Slot), HW 52 entC g A H0 H locs σ5 → lv_has ls 4 [(0, .ref (g.2.1 26)), (1, .int p1), (2, .int z8), (3, .int v3)] → k7 z8 = some (σ', r) → W p l e (rmD 2) s m args below meth c H locs 0 0 Q (F0 m 28 ls []) := by
          intro z8 H locs ls hs hl hE
          have hE := hk7 _ hE
          refine lv_iinc (v := v3 + 1) (lv' := [(3, .int (v3 + 1)), (0, .ref (g.2.1 26)), (1, .int p1), (2, .int z8)]) hx hb dX6_manyOf_28 hl (k := 3) rfl rfl (by decide) rfl (fun ls hl => ?_)
          refine lv_goto (tgt := 4) hx hb dX6_manyOf_31 (by decide) ?_
          exact ih _ _ _ _ hE hk _ _ _ hs (lv_sub hl [1, 2, 3, 0] rfl)
        refine lv_if_eq (tgt := 28) hx hb dX6_manyOf_22 (by decide) (fun hc => ?_) (fun hc => ?_)
        · have hE := pv_t hc hE
          exact hJk7 v2 _ _ _ hs (lv_sub hl [0, 1, 2, 3] rfl) hE
        · have hE := pv_f hc hE
          refine lv_iinc (v := v2 + 1) (lv' := [(2, .int (v2 + 1)), (0, .ref (g.2.1 26)), (1, .int p1), (3, .int v3)]) hx hb dX6_manyOf_25 hl (k := 2) rfl rfl (by decide) rfl (fun ls hl => ?_)
          exact hJk7 (v2 + 1) _ _ _ hs (lv_sub hl [1, 2, 0, 3] rfl) hE
  refine hL4 _ _ _ _ _ hE (fun σ9 v10 v11 H locs ls hs hl hE => ?_) H locs ls hs (lv_sub hl [2, 3, 1, 0] rfl)
  refine lv_iload_n hx hb dX6_manyOf_34 rfl (lv_at hl 2 rfl) ?_
  exact hQ hs hE dX6_manyOf_35
theorem dX6_compareName_0 : decode cX6_compareName 0 = .ok (.aload_n 0, 1) := by decide +kernel
theorem dX6_compareName_1 : decode cX6_compareName 1 = .ok (.getfield 9, 3) := by decide +kernel
theorem dX6_compareName_4 : decode cX6_compareName 4 = .ok (.iload_n 1, 1) := by decide +kernel
theorem dX6_compareName_5 : decode cX6_compareName 5 = .ok (.bipush 7, 2) := by decide +kernel
theorem dX6_compareName_7 : decode cX6_compareName 7 = .ok (.imul, 1) := by decide +kernel
theorem dX6_compareName_8 : decode cX6_compareName 8 = .ok (.aload_n 0, 1) := by decide +kernel
theorem dX6_compareName_9 : decode cX6_compareName 9 = .ok (.getfield 13, 3) := by decide +kernel
theorem dX6_compareName_12 : decode cX6_compareName 12 = .ok (.iload_n 1, 1) := by decide +kernel
theorem dX6_compareName_13 : decode cX6_compareName 13 = .ok (.iaload, 1) := by decide +kernel
theorem dX6_compareName_14 : decode cX6_compareName 14 = .ok (.aload_n 2, 1) := by decide +kernel
theorem dX6_compareName_15 : decode cX6_compareName 15 = .ok (.iconst 0, 1) := by decide +kernel
theorem dX6_compareName_16 : decode cX6_compareName 16 = .ok (.iload_n 3, 1) := by decide +kernel
theorem dX6_compareName_17 : decode cX6_compareName 17 = .ok (.invokestatic 72, 3) := by decide +kernel
theorem dX6_compareName_20 : decode cX6_compareName 20 = .ok (.ireturn, 1) := by decide +kernel
def fX6_compareName (σ : St) (p1 : Int32) (p2 : Nat) (p3 : Int32) : Option (St × Int32) := rd LC σ 28 p1 (fun x1 => cl (fX6_compareRuns σ 27 (p1 * 7) x1 p2 0 p3) (fun σ2 r3 => some (σ2, r3)))
set_option maxHeartbeats 4000000 in
set_option maxRecDepth 100000 in
theorem ctX6_compareName (l : Launch) (g : GG) (σ : St) (p1 : Int32) (p2 : Nat) (p3 : Int32) (σ' : St) (r : Int32) (hE : fX6_compareName σ p1 p2 p3 = some (σ', r)) : MI 52 entC l g yX6_compareName (Cond.code yX6_compareName cX6_compareName 4 (some .int) :: gtbl) (rmD 2) [.ref (g.2.1 26), .int p1, .ref (g.2.1 p2), .int p3] σ σ' r := by
  refine mi_i (own := RX6) (lv := [(0, .ref (g.2.1 26)), (1, .int p1), (2, .ref (g.2.1 p2)), (3, .int p3)]) (by decide) rfl (Nat.le_of_ble_eq_true rfl) rfl (fun p e s m below meth c ls args Q A H0 H locs C hK hA hQ hs hl => ?_)
  have hx := C.1
  have hb := C.2.1
  unfold fX6_compareName at hE
  refine lv_aload_n hx hb dX6_compareName_0 rfl (lv_at hl 0 rfl) ?_
  refine gf_X6_9_26 C hK hs dX6_compareName_1 ?_
  refine lv_iload_n hx hb dX6_compareName_4 rfl (lv_at hl 1 rfl) ?_
  refine lv_bipush (v := 7) hx hb dX6_compareName_5 (by decide) ?_
  refine lv_imul hx hb dX6_compareName_7 ?_
  refine lv_aload_n hx hb dX6_compareName_8 rfl (lv_at hl 0 rfl) ?_
  refine gf_X6_13_26 C hK hs dX6_compareName_9 ?_
  refine lv_iload_n hx hb dX6_compareName_12 rfl (lv_at hl 1 rfl) ?_
  obtain ⟨hi, x1, ex1, hE⟩ := rd_w hE
  refine y_ald layC C hK hs hi ex1 dX6_compareName_13 ?_
  refine lv_aload_n hx hb dX6_compareName_14 rfl (lv_at hl 2 rfl) ?_
  refine lv_iconst (v := 0) hx hb dX6_compareName_15 (by decide) ?_
  refine lv_iload_n hx hb dX6_compareName_16 rfl (lv_at hl 3 rfl) ?_
  obtain ⟨σ2, r3, hE1, hE⟩ := cl_e hE
  refine x_cis (As := [.ref (g.2.1 27), .int (p1 * 7), .int x1, .ref (g.2.1 p2), .int 0, .int p3]) (rest := []) C hl.1 hK hs hA ⟨Nat.le_refl 0, Nat.le_refl 0⟩ (ctX6_compareRuns l g _ _ _ _ _ _ _ _ _ hE1) (cw_X6_72 C ⟨Nat.le_of_ble_eq_true rfl, Nat.le_of_ble_eq_true rfl⟩) rfl rfl (Nat.le_of_ble_eq_true rfl) dX6_compareName_17 (fun H locs hs => ?_)
  exact hQ hs hE dX6_compareName_20
theorem dX7_isOne_0 : decode cX7_isOne 0 = .ok (.iload_n 1, 1) := by decide +kernel
theorem dX7_isOne_1 : decode cX7_isOne 1 = .ok (.ifCond .lt 16, 3) := by decide +kernel
theorem dX7_isOne_4 : decode cX7_isOne 4 = .ok (.iload_n 1, 1) := by decide +kernel
theorem dX7_isOne_5 : decode cX7_isOne 5 = .ok (.aload_n 0, 1) := by decide +kernel
theorem dX7_isOne_6 : decode cX7_isOne 6 = .ok (.getfield 20, 3) := by decide +kernel
theorem dX7_isOne_9 : decode cX7_isOne 9 = .ok (.arraylength, 1) := by decide +kernel
theorem dX7_isOne_10 : decode cX7_isOne 10 = .ok (.if_icmp .ge 7, 3) := by decide +kernel
theorem dX7_isOne_13 : decode cX7_isOne 13 = .ok (.iconst 1, 1) := by decide +kernel
theorem dX7_isOne_14 : decode cX7_isOne 14 = .ok (.goto 4, 3) := by decide +kernel
theorem dX7_isOne_17 : decode cX7_isOne 17 = .ok (.iconst 0, 1) := by decide +kernel
theorem dX7_isOne_18 : decode cX7_isOne 18 = .ok (.ireturn, 1) := by decide +kernel
def fX7_isOne_1 (σ : St) (p1 : Int32) : Option (St × Int32) := (if p1 < 0 then some (σ, 0) else (if (nI (LC 3)) ≤ p1 then some (σ, 0) else some (σ, 1)))
set_option maxHeartbeats 4000000 in
set_option maxRecDepth 100000 in
theorem ctX7_isOne_1 (l : Launch) (g : GG) (σ : St) (p1 : Int32) (σ' : St) (r : Int32) (hE : fX7_isOne_1 σ p1 = some (σ', r)) : MI 52 entC l g yX7_isOne (Cond.code yX7_isOne cX7_isOne 2 (some .boolean) :: gtbl) (rmD 1) [.ref (g.2.1 1), .int p1] σ σ' r := by
  refine mi_z (own := RX7) (lv := [(0, .ref (g.2.1 1)), (1, .int p1)]) (by decide) rfl (Nat.le_of_ble_eq_true rfl) rfl (fun p e s m below meth c ls args Q A H0 H locs C hK hA hQ hs hl => ?_)
  have hx := C.1
  have hb := C.2.1
  unfold fX7_isOne_1 at hE
  refine lv_iload_n hx hb dX7_isOne_0 rfl (lv_at hl 1 rfl) ?_
  refine lv_if_lt (tgt := 17) hx hb dX7_isOne_1 (by decide) (fun hc => ?_) (fun hc => ?_)
  · have hE := if_t hc hE
    refine lv_iconst (v := 0) hx hb dX7_isOne_17 (by decide) ?_
    exact hQ hs rfl hE dX7_isOne_18
  · have hE := if_f hc hE
    refine lv_iload_n hx hb dX7_isOne_4 rfl (lv_at hl 1 rfl) ?_
    refine lv_aload_n hx hb dX7_isOne_5 rfl (lv_at hl 0 rfl) ?_
    refine gf_X7_20_1 C hK hs dX7_isOne_6 ?_
    refine x_len layC C hK hs (k := 3) (by decide) dX7_isOne_9 ?_
    refine lv_icmp_ge (tgt := 17) hx hb dX7_isOne_10 (by decide) (fun hc => ?_) (fun hc => ?_)
    · have hE := if_t hc hE
      refine lv_iconst (v := 0) hx hb dX7_isOne_17 (by decide) ?_
      exact hQ hs rfl hE dX7_isOne_18
    · have hE := if_f hc hE
      refine lv_iconst (v := 1) hx hb dX7_isOne_13 (by decide) ?_
      refine lv_goto (tgt := 18) hx hb dX7_isOne_14 (by decide) ?_
      exact hQ hs rfl hE dX7_isOne_18
def fX7_isOne_10 (σ : St) (p1 : Int32) : Option (St × Int32) := (if p1 < 0 then some (σ, 0) else (if (nI (LC 12)) ≤ p1 then some (σ, 0) else some (σ, 1)))
set_option maxHeartbeats 4000000 in
set_option maxRecDepth 100000 in
theorem ctX7_isOne_10 (l : Launch) (g : GG) (σ : St) (p1 : Int32) (σ' : St) (r : Int32) (hE : fX7_isOne_10 σ p1 = some (σ', r)) : MI 52 entC l g yX7_isOne (Cond.code yX7_isOne cX7_isOne 2 (some .boolean) :: gtbl) (rmD 1) [.ref (g.2.1 10), .int p1] σ σ' r := by
  refine mi_z (own := RX7) (lv := [(0, .ref (g.2.1 10)), (1, .int p1)]) (by decide) rfl (Nat.le_of_ble_eq_true rfl) rfl (fun p e s m below meth c ls args Q A H0 H locs C hK hA hQ hs hl => ?_)
  have hx := C.1
  have hb := C.2.1
  unfold fX7_isOne_10 at hE
  refine lv_iload_n hx hb dX7_isOne_0 rfl (lv_at hl 1 rfl) ?_
  refine lv_if_lt (tgt := 17) hx hb dX7_isOne_1 (by decide) (fun hc => ?_) (fun hc => ?_)
  · have hE := if_t hc hE
    refine lv_iconst (v := 0) hx hb dX7_isOne_17 (by decide) ?_
    exact hQ hs rfl hE dX7_isOne_18
  · have hE := if_f hc hE
    refine lv_iload_n hx hb dX7_isOne_4 rfl (lv_at hl 1 rfl) ?_
    refine lv_aload_n hx hb dX7_isOne_5 rfl (lv_at hl 0 rfl) ?_
    refine gf_X7_20_10 C hK hs dX7_isOne_6 ?_
    refine x_len layC C hK hs (k := 12) (by decide) dX7_isOne_9 ?_
    refine lv_icmp_ge (tgt := 17) hx hb dX7_isOne_10 (by decide) (fun hc => ?_) (fun hc => ?_)
    · have hE := if_t hc hE
      refine lv_iconst (v := 0) hx hb dX7_isOne_17 (by decide) ?_
      exact hQ hs rfl hE dX7_isOne_18
    · have hE := if_f hc hE
      refine lv_iconst (v := 1) hx hb dX7_isOne_13 (by decide) ?_
      refine lv_goto (tgt := 18) hx hb dX7_isOne_14 (by decide) ?_
      exact hQ hs rfl hE dX7_isOne_18
theorem dX7_isMissing_0 : decode cX7_isMissing 0 = .ok (.aload_n 0, 1) := by decide +kernel
theorem dX7_isMissing_1 : decode cX7_isMissing 1 = .ok (.getfield 20, 3) := by decide +kernel
theorem dX7_isMissing_4 : decode cX7_isMissing 4 = .ok (.iload_n 1, 1) := by decide +kernel
theorem dX7_isMissing_5 : decode cX7_isMissing 5 = .ok (.iaload, 1) := by decide +kernel
theorem dX7_isMissing_6 : decode cX7_isMissing 6 = .ok (.ifCond .ge 7, 3) := by decide +kernel
theorem dX7_isMissing_9 : decode cX7_isMissing 9 = .ok (.iconst 1, 1) := by decide +kernel
theorem dX7_isMissing_10 : decode cX7_isMissing 10 = .ok (.goto 4, 3) := by decide +kernel
theorem dX7_isMissing_13 : decode cX7_isMissing 13 = .ok (.iconst 0, 1) := by decide +kernel
theorem dX7_isMissing_14 : decode cX7_isMissing 14 = .ok (.ireturn, 1) := by decide +kernel
def fX7_isMissing_1 (σ : St) (p1 : Int32) : Option (St × Int32) := rd LC σ 3 p1 (fun x1 => (if 0 ≤ x1 then some (σ, 0) else some (σ, 1)))
set_option maxHeartbeats 4000000 in
set_option maxRecDepth 100000 in
theorem ctX7_isMissing_1 (l : Launch) (g : GG) (σ : St) (p1 : Int32) (σ' : St) (r : Int32) (hE : fX7_isMissing_1 σ p1 = some (σ', r)) : MI 52 entC l g yX7_isMissing (Cond.code yX7_isMissing cX7_isMissing 2 (some .boolean) :: gtbl) (rmD 1) [.ref (g.2.1 1), .int p1] σ σ' r := by
  refine mi_z (own := RX7) (lv := [(0, .ref (g.2.1 1)), (1, .int p1)]) (by decide) rfl (Nat.le_of_ble_eq_true rfl) rfl (fun p e s m below meth c ls args Q A H0 H locs C hK hA hQ hs hl => ?_)
  have hx := C.1
  have hb := C.2.1
  unfold fX7_isMissing_1 at hE
  refine lv_aload_n hx hb dX7_isMissing_0 rfl (lv_at hl 0 rfl) ?_
  refine gf_X7_20_1 C hK hs dX7_isMissing_1 ?_
  refine lv_iload_n hx hb dX7_isMissing_4 rfl (lv_at hl 1 rfl) ?_
  obtain ⟨hi, x1, ex1, hE⟩ := rd_w hE
  refine y_ald layC C hK hs hi ex1 dX7_isMissing_5 ?_
  refine lv_if_ge (tgt := 13) hx hb dX7_isMissing_6 (by decide) (fun hc => ?_) (fun hc => ?_)
  · have hE := if_t hc hE
    refine lv_iconst (v := 0) hx hb dX7_isMissing_13 (by decide) ?_
    exact hQ hs rfl hE dX7_isMissing_14
  · have hE := if_f hc hE
    refine lv_iconst (v := 1) hx hb dX7_isMissing_9 (by decide) ?_
    refine lv_goto (tgt := 14) hx hb dX7_isMissing_10 (by decide) ?_
    exact hQ hs rfl hE dX7_isMissing_14
def fX7_isMissing_10 (σ : St) (p1 : Int32) : Option (St × Int32) := rd LC σ 12 p1 (fun x1 => (if 0 ≤ x1 then some (σ, 0) else some (σ, 1)))
set_option maxHeartbeats 4000000 in
set_option maxRecDepth 100000 in
theorem ctX7_isMissing_10 (l : Launch) (g : GG) (σ : St) (p1 : Int32) (σ' : St) (r : Int32) (hE : fX7_isMissing_10 σ p1 = some (σ', r)) : MI 52 entC l g yX7_isMissing (Cond.code yX7_isMissing cX7_isMissing 2 (some .boolean) :: gtbl) (rmD 1) [.ref (g.2.1 10), .int p1] σ σ' r := by
  refine mi_z (own := RX7) (lv := [(0, .ref (g.2.1 10)), (1, .int p1)]) (by decide) rfl (Nat.le_of_ble_eq_true rfl) rfl (fun p e s m below meth c ls args Q A H0 H locs C hK hA hQ hs hl => ?_)
  have hx := C.1
  have hb := C.2.1
  unfold fX7_isMissing_10 at hE
  refine lv_aload_n hx hb dX7_isMissing_0 rfl (lv_at hl 0 rfl) ?_
  refine gf_X7_20_10 C hK hs dX7_isMissing_1 ?_
  refine lv_iload_n hx hb dX7_isMissing_4 rfl (lv_at hl 1 rfl) ?_
  obtain ⟨hi, x1, ex1, hE⟩ := rd_w hE
  refine y_ald layC C hK hs hi ex1 dX7_isMissing_5 ?_
  refine lv_if_ge (tgt := 13) hx hb dX7_isMissing_6 (by decide) (fun hc => ?_) (fun hc => ?_)
  · have hE := if_t hc hE
    refine lv_iconst (v := 0) hx hb dX7_isMissing_13 (by decide) ?_
    exact hQ hs rfl hE dX7_isMissing_14
  · have hE := if_f hc hE
    refine lv_iconst (v := 1) hx hb dX7_isMissing_9 (by decide) ?_
    refine lv_goto (tgt := 14) hx hb dX7_isMissing_10 (by decide) ?_
    exact hQ hs rfl hE dX7_isMissing_14
theorem dX7_sizeOf_0 : decode cX7_sizeOf 0 = .ok (.aload_n 0, 1) := by decide +kernel
theorem dX7_sizeOf_1 : decode cX7_sizeOf 1 = .ok (.getfield 20, 3) := by decide +kernel
theorem dX7_sizeOf_4 : decode cX7_sizeOf 4 = .ok (.iload_n 1, 1) := by decide +kernel
theorem dX7_sizeOf_5 : decode cX7_sizeOf 5 = .ok (.iaload, 1) := by decide +kernel
theorem dX7_sizeOf_6 : decode cX7_sizeOf 6 = .ok (.ireturn, 1) := by decide +kernel
def fX7_sizeOf_1 (σ : St) (p1 : Int32) : Option (St × Int32) := rd LC σ 3 p1 (fun x1 => some (σ, x1))
set_option maxHeartbeats 4000000 in
set_option maxRecDepth 100000 in
theorem ctX7_sizeOf_1 (l : Launch) (g : GG) (σ : St) (p1 : Int32) (σ' : St) (r : Int32) (hE : fX7_sizeOf_1 σ p1 = some (σ', r)) : MI 52 entC l g yX7_sizeOf (Cond.code yX7_sizeOf cX7_sizeOf 2 (some .int) :: gtbl) (rmD 1) [.ref (g.2.1 1), .int p1] σ σ' r := by
  refine mi_i (own := RX7) (lv := [(0, .ref (g.2.1 1)), (1, .int p1)]) (by decide) rfl (Nat.le_of_ble_eq_true rfl) rfl (fun p e s m below meth c ls args Q A H0 H locs C hK hA hQ hs hl => ?_)
  have hx := C.1
  have hb := C.2.1
  unfold fX7_sizeOf_1 at hE
  refine lv_aload_n hx hb dX7_sizeOf_0 rfl (lv_at hl 0 rfl) ?_
  refine gf_X7_20_1 C hK hs dX7_sizeOf_1 ?_
  refine lv_iload_n hx hb dX7_sizeOf_4 rfl (lv_at hl 1 rfl) ?_
  obtain ⟨hi, x1, ex1, hE⟩ := rd_w hE
  refine y_ald layC C hK hs hi ex1 dX7_sizeOf_5 ?_
  exact hQ hs hE dX7_sizeOf_6
def fX7_sizeOf_10 (σ : St) (p1 : Int32) : Option (St × Int32) := rd LC σ 12 p1 (fun x1 => some (σ, x1))
set_option maxHeartbeats 4000000 in
set_option maxRecDepth 100000 in
theorem ctX7_sizeOf_10 (l : Launch) (g : GG) (σ : St) (p1 : Int32) (σ' : St) (r : Int32) (hE : fX7_sizeOf_10 σ p1 = some (σ', r)) : MI 52 entC l g yX7_sizeOf (Cond.code yX7_sizeOf cX7_sizeOf 2 (some .int) :: gtbl) (rmD 1) [.ref (g.2.1 10), .int p1] σ σ' r := by
  refine mi_i (own := RX7) (lv := [(0, .ref (g.2.1 10)), (1, .int p1)]) (by decide) rfl (Nat.le_of_ble_eq_true rfl) rfl (fun p e s m below meth c ls args Q A H0 H locs C hK hA hQ hs hl => ?_)
  have hx := C.1
  have hb := C.2.1
  unfold fX7_sizeOf_10 at hE
  refine lv_aload_n hx hb dX7_sizeOf_0 rfl (lv_at hl 0 rfl) ?_
  refine gf_X7_20_10 C hK hs dX7_sizeOf_1 ?_
  refine lv_iload_n hx hb dX7_sizeOf_4 rfl (lv_at hl 1 rfl) ?_
  obtain ⟨hi, x1, ex1, hE⟩ := rd_w hE
  refine y_ald layC C hK hs hi ex1 dX7_sizeOf_5 ?_
  exact hQ hs hE dX7_sizeOf_6
theorem dX7_cellsOf_0 : decode cX7_cellsOf 0 = .ok (.aload_n 0, 1) := by decide +kernel
theorem dX7_cellsOf_1 : decode cX7_cellsOf 1 = .ok (.getfield 15, 3) := by decide +kernel
theorem dX7_cellsOf_4 : decode cX7_cellsOf 4 = .ok (.iload_n 1, 1) := by decide +kernel
theorem dX7_cellsOf_5 : decode cX7_cellsOf 5 = .ok (.aaload, 1) := by decide +kernel
theorem dX7_cellsOf_6 : decode cX7_cellsOf 6 = .ok (.areturn, 1) := by decide +kernel
def fX7_cellsOf_1 (σ : St) (p1 : Int32) : Option (St × Nat) := gd (inb p1 6) (some (σ, 4 + p1.toNatClampNeg))
set_option maxHeartbeats 4000000 in
set_option maxRecDepth 100000 in
theorem ctX7_cellsOf_1 (l : Launch) (g : GG) (σ : St) (p1 : Int32) (σ' : St) (r : Nat) (hE : fX7_cellsOf_1 σ p1 = some (σ', r)) : MR 52 entC l g yX7_cellsOf (Cond.code yX7_cellsOf cX7_cellsOf 2 (some (.array .int)) :: gtbl) (rmD 1) [.ref (g.2.1 1), .int p1] σ σ' r := by
  refine mi_r (own := RX7) (lv := [(0, .ref (g.2.1 1)), (1, .int p1)]) (by decide) rfl (Nat.le_of_ble_eq_true rfl) rfl (fun p e s m below meth c ls args Q A H0 H locs C hK hA hQ hs hl => ?_)
  have hx := C.1
  have hb := C.2.1
  unfold fX7_cellsOf_1 at hE
  refine lv_aload_n hx hb dX7_cellsOf_0 rfl (lv_at hl 0 rfl) ?_
  refine gf_X7_15_1 C hK hs dX7_cellsOf_1 ?_
  refine lv_iload_n hx hb dX7_cellsOf_4 rfl (lv_at hl 1 rfl) ?_
  obtain ⟨hi, hE⟩ := gd_e hE
  refine y_gld C hK hs 2 6 4 (by decide) rfl hi dX7_cellsOf_5 ?_
  exact hQ hs hE dX7_cellsOf_6
def fX7_cellsOf_10 (σ : St) (p1 : Int32) : Option (St × Nat) := gd (inb p1 4) (some (σ, 13 + p1.toNatClampNeg))
set_option maxHeartbeats 4000000 in
set_option maxRecDepth 100000 in
theorem ctX7_cellsOf_10 (l : Launch) (g : GG) (σ : St) (p1 : Int32) (σ' : St) (r : Nat) (hE : fX7_cellsOf_10 σ p1 = some (σ', r)) : MR 52 entC l g yX7_cellsOf (Cond.code yX7_cellsOf cX7_cellsOf 2 (some (.array .int)) :: gtbl) (rmD 1) [.ref (g.2.1 10), .int p1] σ σ' r := by
  refine mi_r (own := RX7) (lv := [(0, .ref (g.2.1 10)), (1, .int p1)]) (by decide) rfl (Nat.le_of_ble_eq_true rfl) rfl (fun p e s m below meth c ls args Q A H0 H locs C hK hA hQ hs hl => ?_)
  have hx := C.1
  have hb := C.2.1
  unfold fX7_cellsOf_10 at hE
  refine lv_aload_n hx hb dX7_cellsOf_0 rfl (lv_at hl 0 rfl) ?_
  refine gf_X7_15_10 C hK hs dX7_cellsOf_1 ?_
  refine lv_iload_n hx hb dX7_cellsOf_4 rfl (lv_at hl 1 rfl) ?_
  obtain ⟨hi, hE⟩ := gd_e hE
  refine y_gld C hK hs 11 4 13 (by decide) rfl hi dX7_cellsOf_5 ?_
  exact hQ hs hE dX7_cellsOf_6
theorem dX7_hasPlace_0 : decode cX7_hasPlace 0 = .ok (.iload_n 2, 1) := by decide +kernel
theorem dX7_hasPlace_1 : decode cX7_hasPlace 1 = .ok (.ifCond .lt 17, 3) := by decide +kernel
theorem dX7_hasPlace_4 : decode cX7_hasPlace 4 = .ok (.iload_n 2, 1) := by decide +kernel
theorem dX7_hasPlace_5 : decode cX7_hasPlace 5 = .ok (.aload_n 0, 1) := by decide +kernel
theorem dX7_hasPlace_6 : decode cX7_hasPlace 6 = .ok (.getfield 20, 3) := by decide +kernel
theorem dX7_hasPlace_9 : decode cX7_hasPlace 9 = .ok (.iload_n 1, 1) := by decide +kernel
theorem dX7_hasPlace_10 : decode cX7_hasPlace 10 = .ok (.iaload, 1) := by decide +kernel
theorem dX7_hasPlace_11 : decode cX7_hasPlace 11 = .ok (.if_icmp .ge 7, 3) := by decide +kernel
theorem dX7_hasPlace_14 : decode cX7_hasPlace 14 = .ok (.iconst 1, 1) := by decide +kernel
theorem dX7_hasPlace_15 : decode cX7_hasPlace 15 = .ok (.goto 4, 3) := by decide +kernel
theorem dX7_hasPlace_18 : decode cX7_hasPlace 18 = .ok (.iconst 0, 1) := by decide +kernel
theorem dX7_hasPlace_19 : decode cX7_hasPlace 19 = .ok (.ireturn, 1) := by decide +kernel
def fX7_hasPlace_1 (σ : St) (p1 : Int32) (p2 : Int32) : Option (St × Int32) := (if p2 < 0 then some (σ, 0) else rd LC σ 3 p1 (fun x1 => (if x1 ≤ p2 then some (σ, 0) else some (σ, 1))))
set_option maxHeartbeats 4000000 in
set_option maxRecDepth 100000 in
theorem ctX7_hasPlace_1 (l : Launch) (g : GG) (σ : St) (p1 : Int32) (p2 : Int32) (σ' : St) (r : Int32) (hE : fX7_hasPlace_1 σ p1 p2 = some (σ', r)) : MI 52 entC l g yX7_hasPlace (Cond.code yX7_hasPlace cX7_hasPlace 3 (some .boolean) :: gtbl) (rmD 1) [.ref (g.2.1 1), .int p1, .int p2] σ σ' r := by
  refine mi_z (own := RX7) (lv := [(0, .ref (g.2.1 1)), (1, .int p1), (2, .int p2)]) (by decide) rfl (Nat.le_of_ble_eq_true rfl) rfl (fun p e s m below meth c ls args Q A H0 H locs C hK hA hQ hs hl => ?_)
  have hx := C.1
  have hb := C.2.1
  unfold fX7_hasPlace_1 at hE
  refine lv_iload_n hx hb dX7_hasPlace_0 rfl (lv_at hl 2 rfl) ?_
  refine lv_if_lt (tgt := 18) hx hb dX7_hasPlace_1 (by decide) (fun hc => ?_) (fun hc => ?_)
  · have hE := if_t hc hE
    refine lv_iconst (v := 0) hx hb dX7_hasPlace_18 (by decide) ?_
    exact hQ hs rfl hE dX7_hasPlace_19
  · have hE := if_f hc hE
    refine lv_iload_n hx hb dX7_hasPlace_4 rfl (lv_at hl 2 rfl) ?_
    refine lv_aload_n hx hb dX7_hasPlace_5 rfl (lv_at hl 0 rfl) ?_
    refine gf_X7_20_1 C hK hs dX7_hasPlace_6 ?_
    refine lv_iload_n hx hb dX7_hasPlace_9 rfl (lv_at hl 1 rfl) ?_
    obtain ⟨hi, x1, ex1, hE⟩ := rd_w hE
    refine y_ald layC C hK hs hi ex1 dX7_hasPlace_10 ?_
    refine lv_icmp_ge (tgt := 18) hx hb dX7_hasPlace_11 (by decide) (fun hc => ?_) (fun hc => ?_)
    · have hE := if_t hc hE
      refine lv_iconst (v := 0) hx hb dX7_hasPlace_18 (by decide) ?_
      exact hQ hs rfl hE dX7_hasPlace_19
    · have hE := if_f hc hE
      refine lv_iconst (v := 1) hx hb dX7_hasPlace_14 (by decide) ?_
      refine lv_goto (tgt := 19) hx hb dX7_hasPlace_15 (by decide) ?_
      exact hQ hs rfl hE dX7_hasPlace_19
def fX7_hasPlace_10 (σ : St) (p1 : Int32) (p2 : Int32) : Option (St × Int32) := (if p2 < 0 then some (σ, 0) else rd LC σ 12 p1 (fun x1 => (if x1 ≤ p2 then some (σ, 0) else some (σ, 1))))
set_option maxHeartbeats 4000000 in
set_option maxRecDepth 100000 in
theorem ctX7_hasPlace_10 (l : Launch) (g : GG) (σ : St) (p1 : Int32) (p2 : Int32) (σ' : St) (r : Int32) (hE : fX7_hasPlace_10 σ p1 p2 = some (σ', r)) : MI 52 entC l g yX7_hasPlace (Cond.code yX7_hasPlace cX7_hasPlace 3 (some .boolean) :: gtbl) (rmD 1) [.ref (g.2.1 10), .int p1, .int p2] σ σ' r := by
  refine mi_z (own := RX7) (lv := [(0, .ref (g.2.1 10)), (1, .int p1), (2, .int p2)]) (by decide) rfl (Nat.le_of_ble_eq_true rfl) rfl (fun p e s m below meth c ls args Q A H0 H locs C hK hA hQ hs hl => ?_)
  have hx := C.1
  have hb := C.2.1
  unfold fX7_hasPlace_10 at hE
  refine lv_iload_n hx hb dX7_hasPlace_0 rfl (lv_at hl 2 rfl) ?_
  refine lv_if_lt (tgt := 18) hx hb dX7_hasPlace_1 (by decide) (fun hc => ?_) (fun hc => ?_)
  · have hE := if_t hc hE
    refine lv_iconst (v := 0) hx hb dX7_hasPlace_18 (by decide) ?_
    exact hQ hs rfl hE dX7_hasPlace_19
  · have hE := if_f hc hE
    refine lv_iload_n hx hb dX7_hasPlace_4 rfl (lv_at hl 2 rfl) ?_
    refine lv_aload_n hx hb dX7_hasPlace_5 rfl (lv_at hl 0 rfl) ?_
    refine gf_X7_20_10 C hK hs dX7_hasPlace_6 ?_
    refine lv_iload_n hx hb dX7_hasPlace_9 rfl (lv_at hl 1 rfl) ?_
    obtain ⟨hi, x1, ex1, hE⟩ := rd_w hE
    refine y_ald layC C hK hs hi ex1 dX7_hasPlace_10 ?_
    refine lv_icmp_ge (tgt := 18) hx hb dX7_hasPlace_11 (by decide) (fun hc => ?_) (fun hc => ?_)
    · have hE := if_t hc hE
      refine lv_iconst (v := 0) hx hb dX7_hasPlace_18 (by decide) ?_
      exact hQ hs rfl hE dX7_hasPlace_19
    · have hE := if_f hc hE
      refine lv_iconst (v := 1) hx hb dX7_hasPlace_14 (by decide) ?_
      refine lv_goto (tgt := 19) hx hb dX7_hasPlace_15 (by decide) ?_
      exact hQ hs rfl hE dX7_hasPlace_19
theorem dX7_hasSpan_0 : decode cX7_hasSpan 0 = .ok (.iload_n 2, 1) := by decide +kernel
theorem dX7_hasSpan_1 : decode cX7_hasSpan 1 = .ok (.ifCond .lt 33, 3) := by decide +kernel
theorem dX7_hasSpan_4 : decode cX7_hasSpan 4 = .ok (.iload_n 2, 1) := by decide +kernel
theorem dX7_hasSpan_5 : decode cX7_hasSpan 5 = .ok (.aload_n 0, 1) := by decide +kernel
theorem dX7_hasSpan_6 : decode cX7_hasSpan 6 = .ok (.getfield 20, 3) := by decide +kernel
theorem dX7_hasSpan_9 : decode cX7_hasSpan 9 = .ok (.iload_n 1, 1) := by decide +kernel
theorem dX7_hasSpan_10 : decode cX7_hasSpan 10 = .ok (.iaload, 1) := by decide +kernel
theorem dX7_hasSpan_11 : decode cX7_hasSpan 11 = .ok (.if_icmp .gt 23, 3) := by decide +kernel
theorem dX7_hasSpan_14 : decode cX7_hasSpan 14 = .ok (.iload_n 3, 1) := by decide +kernel
theorem dX7_hasSpan_15 : decode cX7_hasSpan 15 = .ok (.ifCond .lt 19, 3) := by decide +kernel
theorem dX7_hasSpan_18 : decode cX7_hasSpan 18 = .ok (.iload_n 3, 1) := by decide +kernel
theorem dX7_hasSpan_19 : decode cX7_hasSpan 19 = .ok (.aload_n 0, 1) := by decide +kernel
theorem dX7_hasSpan_20 : decode cX7_hasSpan 20 = .ok (.getfield 20, 3) := by decide +kernel
theorem dX7_hasSpan_23 : decode cX7_hasSpan 23 = .ok (.iload_n 1, 1) := by decide +kernel
theorem dX7_hasSpan_24 : decode cX7_hasSpan 24 = .ok (.iaload, 1) := by decide +kernel
theorem dX7_hasSpan_25 : decode cX7_hasSpan 25 = .ok (.iload_n 2, 1) := by decide +kernel
theorem dX7_hasSpan_26 : decode cX7_hasSpan 26 = .ok (.isub, 1) := by decide +kernel
theorem dX7_hasSpan_27 : decode cX7_hasSpan 27 = .ok (.if_icmp .gt 7, 3) := by decide +kernel
theorem dX7_hasSpan_30 : decode cX7_hasSpan 30 = .ok (.iconst 1, 1) := by decide +kernel
theorem dX7_hasSpan_31 : decode cX7_hasSpan 31 = .ok (.goto 4, 3) := by decide +kernel
theorem dX7_hasSpan_34 : decode cX7_hasSpan 34 = .ok (.iconst 0, 1) := by decide +kernel
theorem dX7_hasSpan_35 : decode cX7_hasSpan 35 = .ok (.ireturn, 1) := by decide +kernel
def fX7_hasSpan_1 (σ : St) (p1 : Int32) (p2 : Int32) (p3 : Int32) : Option (St × Int32) := (if p2 < 0 then some (σ, 0) else rd LC σ 3 p1 (fun x1 => (if x1 < p2 then some (σ, 0) else (if p3 < 0 then some (σ, 0) else rd LC σ 3 p1 (fun x2 => (if (x2 - p2) < p3 then some (σ, 0) else some (σ, 1)))))))
set_option maxHeartbeats 4000000 in
set_option maxRecDepth 100000 in
theorem ctX7_hasSpan_1 (l : Launch) (g : GG) (σ : St) (p1 : Int32) (p2 : Int32) (p3 : Int32) (σ' : St) (r : Int32) (hE : fX7_hasSpan_1 σ p1 p2 p3 = some (σ', r)) : MI 52 entC l g yX7_hasSpan (Cond.code yX7_hasSpan cX7_hasSpan 4 (some .boolean) :: gtbl) (rmD 1) [.ref (g.2.1 1), .int p1, .int p2, .int p3] σ σ' r := by
  refine mi_z (own := RX7) (lv := [(0, .ref (g.2.1 1)), (1, .int p1), (2, .int p2), (3, .int p3)]) (by decide) rfl (Nat.le_of_ble_eq_true rfl) rfl (fun p e s m below meth c ls args Q A H0 H locs C hK hA hQ hs hl => ?_)
  have hx := C.1
  have hb := C.2.1
  unfold fX7_hasSpan_1 at hE
  refine lv_iload_n hx hb dX7_hasSpan_0 rfl (lv_at hl 2 rfl) ?_
  refine lv_if_lt (tgt := 34) hx hb dX7_hasSpan_1 (by decide) (fun hc => ?_) (fun hc => ?_)
  · have hE := if_t hc hE
    refine lv_iconst (v := 0) hx hb dX7_hasSpan_34 (by decide) ?_
    exact hQ hs rfl hE dX7_hasSpan_35
  · have hE := if_f hc hE
    refine lv_iload_n hx hb dX7_hasSpan_4 rfl (lv_at hl 2 rfl) ?_
    refine lv_aload_n hx hb dX7_hasSpan_5 rfl (lv_at hl 0 rfl) ?_
    refine gf_X7_20_1 C hK hs dX7_hasSpan_6 ?_
    refine lv_iload_n hx hb dX7_hasSpan_9 rfl (lv_at hl 1 rfl) ?_
    obtain ⟨hi, x1, ex1, hE⟩ := rd_w hE
    refine y_ald layC C hK hs hi ex1 dX7_hasSpan_10 ?_
    refine lv_icmp_gt (tgt := 34) hx hb dX7_hasSpan_11 (by decide) (fun hc => ?_) (fun hc => ?_)
    · have hE := if_t hc hE
      refine lv_iconst (v := 0) hx hb dX7_hasSpan_34 (by decide) ?_
      exact hQ hs rfl hE dX7_hasSpan_35
    · have hE := if_f hc hE
      refine lv_iload_n hx hb dX7_hasSpan_14 rfl (lv_at hl 3 rfl) ?_
      refine lv_if_lt (tgt := 34) hx hb dX7_hasSpan_15 (by decide) (fun hc => ?_) (fun hc => ?_)
      · have hE := if_t hc hE
        refine lv_iconst (v := 0) hx hb dX7_hasSpan_34 (by decide) ?_
        exact hQ hs rfl hE dX7_hasSpan_35
      · have hE := if_f hc hE
        refine lv_iload_n hx hb dX7_hasSpan_18 rfl (lv_at hl 3 rfl) ?_
        refine lv_aload_n hx hb dX7_hasSpan_19 rfl (lv_at hl 0 rfl) ?_
        refine gf_X7_20_1 C hK hs dX7_hasSpan_20 ?_
        refine lv_iload_n hx hb dX7_hasSpan_23 rfl (lv_at hl 1 rfl) ?_
        obtain ⟨hi, x2, ex2, hE⟩ := rd_w hE
        refine y_ald layC C hK hs hi ex2 dX7_hasSpan_24 ?_
        refine lv_iload_n hx hb dX7_hasSpan_25 rfl (lv_at hl 2 rfl) ?_
        refine lv_isub hx hb dX7_hasSpan_26 ?_
        refine lv_icmp_gt (tgt := 34) hx hb dX7_hasSpan_27 (by decide) (fun hc => ?_) (fun hc => ?_)
        · have hE := if_t hc hE
          refine lv_iconst (v := 0) hx hb dX7_hasSpan_34 (by decide) ?_
          exact hQ hs rfl hE dX7_hasSpan_35
        · have hE := if_f hc hE
          refine lv_iconst (v := 1) hx hb dX7_hasSpan_30 (by decide) ?_
          refine lv_goto (tgt := 35) hx hb dX7_hasSpan_31 (by decide) ?_
          exact hQ hs rfl hE dX7_hasSpan_35
def fX7_hasSpan_10 (σ : St) (p1 : Int32) (p2 : Int32) (p3 : Int32) : Option (St × Int32) := (if p2 < 0 then some (σ, 0) else rd LC σ 12 p1 (fun x1 => (if x1 < p2 then some (σ, 0) else (if p3 < 0 then some (σ, 0) else rd LC σ 12 p1 (fun x2 => (if (x2 - p2) < p3 then some (σ, 0) else some (σ, 1)))))))
set_option maxHeartbeats 4000000 in
set_option maxRecDepth 100000 in
theorem ctX7_hasSpan_10 (l : Launch) (g : GG) (σ : St) (p1 : Int32) (p2 : Int32) (p3 : Int32) (σ' : St) (r : Int32) (hE : fX7_hasSpan_10 σ p1 p2 p3 = some (σ', r)) : MI 52 entC l g yX7_hasSpan (Cond.code yX7_hasSpan cX7_hasSpan 4 (some .boolean) :: gtbl) (rmD 1) [.ref (g.2.1 10), .int p1, .int p2, .int p3] σ σ' r := by
  refine mi_z (own := RX7) (lv := [(0, .ref (g.2.1 10)), (1, .int p1), (2, .int p2), (3, .int p3)]) (by decide) rfl (Nat.le_of_ble_eq_true rfl) rfl (fun p e s m below meth c ls args Q A H0 H locs C hK hA hQ hs hl => ?_)
  have hx := C.1
  have hb := C.2.1
  unfold fX7_hasSpan_10 at hE
  refine lv_iload_n hx hb dX7_hasSpan_0 rfl (lv_at hl 2 rfl) ?_
  refine lv_if_lt (tgt := 34) hx hb dX7_hasSpan_1 (by decide) (fun hc => ?_) (fun hc => ?_)
  · have hE := if_t hc hE
    refine lv_iconst (v := 0) hx hb dX7_hasSpan_34 (by decide) ?_
    exact hQ hs rfl hE dX7_hasSpan_35
  · have hE := if_f hc hE
    refine lv_iload_n hx hb dX7_hasSpan_4 rfl (lv_at hl 2 rfl) ?_
    refine lv_aload_n hx hb dX7_hasSpan_5 rfl (lv_at hl 0 rfl) ?_
    refine gf_X7_20_10 C hK hs dX7_hasSpan_6 ?_
    refine lv_iload_n hx hb dX7_hasSpan_9 rfl (lv_at hl 1 rfl) ?_
    obtain ⟨hi, x1, ex1, hE⟩ := rd_w hE
    refine y_ald layC C hK hs hi ex1 dX7_hasSpan_10 ?_
    refine lv_icmp_gt (tgt := 34) hx hb dX7_hasSpan_11 (by decide) (fun hc => ?_) (fun hc => ?_)
    · have hE := if_t hc hE
      refine lv_iconst (v := 0) hx hb dX7_hasSpan_34 (by decide) ?_
      exact hQ hs rfl hE dX7_hasSpan_35
    · have hE := if_f hc hE
      refine lv_iload_n hx hb dX7_hasSpan_14 rfl (lv_at hl 3 rfl) ?_
      refine lv_if_lt (tgt := 34) hx hb dX7_hasSpan_15 (by decide) (fun hc => ?_) (fun hc => ?_)
      · have hE := if_t hc hE
        refine lv_iconst (v := 0) hx hb dX7_hasSpan_34 (by decide) ?_
        exact hQ hs rfl hE dX7_hasSpan_35
      · have hE := if_f hc hE
        refine lv_iload_n hx hb dX7_hasSpan_18 rfl (lv_at hl 3 rfl) ?_
        refine lv_aload_n hx hb dX7_hasSpan_19 rfl (lv_at hl 0 rfl) ?_
        refine gf_X7_20_10 C hK hs dX7_hasSpan_20 ?_
        refine lv_iload_n hx hb dX7_hasSpan_23 rfl (lv_at hl 1 rfl) ?_
        obtain ⟨hi, x2, ex2, hE⟩ := rd_w hE
        refine y_ald layC C hK hs hi ex2 dX7_hasSpan_24 ?_
        refine lv_iload_n hx hb dX7_hasSpan_25 rfl (lv_at hl 2 rfl) ?_
        refine lv_isub hx hb dX7_hasSpan_26 ?_
        refine lv_icmp_gt (tgt := 34) hx hb dX7_hasSpan_27 (by decide) (fun hc => ?_) (fun hc => ?_)
        · have hE := if_t hc hE
          refine lv_iconst (v := 0) hx hb dX7_hasSpan_34 (by decide) ?_
          exact hQ hs rfl hE dX7_hasSpan_35
        · have hE := if_f hc hE
          refine lv_iconst (v := 1) hx hb dX7_hasSpan_30 (by decide) ?_
          refine lv_goto (tgt := 35) hx hb dX7_hasSpan_31 (by decide) ?_
          exact hQ hs rfl hE dX7_hasSpan_35
theorem dX7_get_0 : decode cX7_get 0 = .ok (.aload_n 0, 1) := by decide +kernel
theorem dX7_get_1 : decode cX7_get 1 = .ok (.getfield 15, 3) := by decide +kernel
theorem dX7_get_4 : decode cX7_get 4 = .ok (.iload_n 1, 1) := by decide +kernel
theorem dX7_get_5 : decode cX7_get 5 = .ok (.aaload, 1) := by decide +kernel
theorem dX7_get_6 : decode cX7_get 6 = .ok (.iload_n 2, 1) := by decide +kernel
theorem dX7_get_7 : decode cX7_get 7 = .ok (.iaload, 1) := by decide +kernel
theorem dX7_get_8 : decode cX7_get 8 = .ok (.ireturn, 1) := by decide +kernel
def fX7_get_1 (σ : St) (p1 : Int32) (p2 : Int32) : Option (St × Int32) := gd (inb p1 6) (rd LC σ (4 + p1.toNatClampNeg) p2 (fun x1 => some (σ, x1)))
set_option maxHeartbeats 4000000 in
set_option maxRecDepth 100000 in
theorem ctX7_get_1 (l : Launch) (g : GG) (σ : St) (p1 : Int32) (p2 : Int32) (σ' : St) (r : Int32) (hE : fX7_get_1 σ p1 p2 = some (σ', r)) : MI 52 entC l g yX7_get (Cond.code yX7_get cX7_get 3 (some .int) :: gtbl) (rmD 1) [.ref (g.2.1 1), .int p1, .int p2] σ σ' r := by
  refine mi_i (own := RX7) (lv := [(0, .ref (g.2.1 1)), (1, .int p1), (2, .int p2)]) (by decide) rfl (Nat.le_of_ble_eq_true rfl) rfl (fun p e s m below meth c ls args Q A H0 H locs C hK hA hQ hs hl => ?_)
  have hx := C.1
  have hb := C.2.1
  unfold fX7_get_1 at hE
  refine lv_aload_n hx hb dX7_get_0 rfl (lv_at hl 0 rfl) ?_
  refine gf_X7_15_1 C hK hs dX7_get_1 ?_
  refine lv_iload_n hx hb dX7_get_4 rfl (lv_at hl 1 rfl) ?_
  obtain ⟨hi, hE⟩ := gd_e hE
  refine y_gld C hK hs 2 6 4 (by decide) rfl hi dX7_get_5 ?_
  refine lv_iload_n hx hb dX7_get_6 rfl (lv_at hl 2 rfl) ?_
  obtain ⟨hi, x1, ex1, hE⟩ := rd_w hE
  refine y_ald layC C hK hs hi ex1 dX7_get_7 ?_
  exact hQ hs hE dX7_get_8
def fX7_get_10 (σ : St) (p1 : Int32) (p2 : Int32) : Option (St × Int32) := gd (inb p1 4) (rd LC σ (13 + p1.toNatClampNeg) p2 (fun x1 => some (σ, x1)))
set_option maxHeartbeats 4000000 in
set_option maxRecDepth 100000 in
theorem ctX7_get_10 (l : Launch) (g : GG) (σ : St) (p1 : Int32) (p2 : Int32) (σ' : St) (r : Int32) (hE : fX7_get_10 σ p1 p2 = some (σ', r)) : MI 52 entC l g yX7_get (Cond.code yX7_get cX7_get 3 (some .int) :: gtbl) (rmD 1) [.ref (g.2.1 10), .int p1, .int p2] σ σ' r := by
  refine mi_i (own := RX7) (lv := [(0, .ref (g.2.1 10)), (1, .int p1), (2, .int p2)]) (by decide) rfl (Nat.le_of_ble_eq_true rfl) rfl (fun p e s m below meth c ls args Q A H0 H locs C hK hA hQ hs hl => ?_)
  have hx := C.1
  have hb := C.2.1
  unfold fX7_get_10 at hE
  refine lv_aload_n hx hb dX7_get_0 rfl (lv_at hl 0 rfl) ?_
  refine gf_X7_15_10 C hK hs dX7_get_1 ?_
  refine lv_iload_n hx hb dX7_get_4 rfl (lv_at hl 1 rfl) ?_
  obtain ⟨hi, hE⟩ := gd_e hE
  refine y_gld C hK hs 11 4 13 (by decide) rfl hi dX7_get_5 ?_
  refine lv_iload_n hx hb dX7_get_6 rfl (lv_at hl 2 rfl) ?_
  obtain ⟨hi, x1, ex1, hE⟩ := rd_w hE
  refine y_ald layC C hK hs hi ex1 dX7_get_7 ?_
  exact hQ hs hE dX7_get_8
theorem dX7_set_0 : decode cX7_set 0 = .ok (.aload_n 0, 1) := by decide +kernel
theorem dX7_set_1 : decode cX7_set 1 = .ok (.getfield 15, 3) := by decide +kernel
theorem dX7_set_4 : decode cX7_set 4 = .ok (.iload_n 1, 1) := by decide +kernel
theorem dX7_set_5 : decode cX7_set 5 = .ok (.aaload, 1) := by decide +kernel
theorem dX7_set_6 : decode cX7_set 6 = .ok (.iload_n 2, 1) := by decide +kernel
theorem dX7_set_7 : decode cX7_set 7 = .ok (.iload_n 3, 1) := by decide +kernel
theorem dX7_set_8 : decode cX7_set 8 = .ok (.iastore, 1) := by decide +kernel
theorem dX7_set_9 : decode cX7_set 9 = .ok (.return_, 1) := by decide +kernel
def fX7_set_1 (σ : St) (p1 : Int32) (p2 : Int32) (p3 : Int32) : Option (St × Unit) := gd (inb p1 6) (wr LC σ (4 + p1.toNatClampNeg) p2 p3 (fun σ1 => some (σ1, ())))
set_option maxHeartbeats 4000000 in
set_option maxRecDepth 100000 in
theorem ctX7_set_1 (l : Launch) (g : GG) (σ : St) (p1 : Int32) (p2 : Int32) (p3 : Int32) (σ' : St) (r : Unit) (hE : fX7_set_1 σ p1 p2 p3 = some (σ', r)) : MV 52 entC l g yX7_set (Cond.code yX7_set cX7_set 4 none :: gtbl) (rmD 1) [.ref (g.2.1 1), .int p1, .int p2, .int p3] σ σ' := by
  refine mi_v (own := RX7) (lv := [(0, .ref (g.2.1 1)), (1, .int p1), (2, .int p2), (3, .int p3)]) (by decide) rfl (Nat.le_of_ble_eq_true rfl) rfl (fun p e s m below meth c ls args Q A H0 H locs C hK hA hQ hs hl => ?_)
  have hx := C.1
  have hb := C.2.1
  unfold fX7_set_1 at hE
  refine lv_aload_n hx hb dX7_set_0 rfl (lv_at hl 0 rfl) ?_
  refine gf_X7_15_1 C hK hs dX7_set_1 ?_
  refine lv_iload_n hx hb dX7_set_4 rfl (lv_at hl 1 rfl) ?_
  obtain ⟨hi, hE⟩ := gd_e hE
  refine y_gld C hK hs 2 6 4 (by decide) rfl hi dX7_set_5 ?_
  refine lv_iload_n hx hb dX7_set_6 rfl (lv_at hl 2 rfl) ?_
  refine lv_iload_n hx hb dX7_set_7 rfl (lv_at hl 3 rfl) ?_
  obtain ⟨hi, σ1, eσ1, hE⟩ := wr_w hE
  refine y_ast layC C hK hs hi eσ1 dX7_set_8 (fun H locs hs => ?_)
  exact hQ hs hE dX7_set_9
def fX7_set_10 (σ : St) (p1 : Int32) (p2 : Int32) (p3 : Int32) : Option (St × Unit) := gd (inb p1 4) (wr LC σ (13 + p1.toNatClampNeg) p2 p3 (fun σ1 => some (σ1, ())))
set_option maxHeartbeats 4000000 in
set_option maxRecDepth 100000 in
theorem ctX7_set_10 (l : Launch) (g : GG) (σ : St) (p1 : Int32) (p2 : Int32) (p3 : Int32) (σ' : St) (r : Unit) (hE : fX7_set_10 σ p1 p2 p3 = some (σ', r)) : MV 52 entC l g yX7_set (Cond.code yX7_set cX7_set 4 none :: gtbl) (rmD 1) [.ref (g.2.1 10), .int p1, .int p2, .int p3] σ σ' := by
  refine mi_v (own := RX7) (lv := [(0, .ref (g.2.1 10)), (1, .int p1), (2, .int p2), (3, .int p3)]) (by decide) rfl (Nat.le_of_ble_eq_true rfl) rfl (fun p e s m below meth c ls args Q A H0 H locs C hK hA hQ hs hl => ?_)
  have hx := C.1
  have hb := C.2.1
  unfold fX7_set_10 at hE
  refine lv_aload_n hx hb dX7_set_0 rfl (lv_at hl 0 rfl) ?_
  refine gf_X7_15_10 C hK hs dX7_set_1 ?_
  refine lv_iload_n hx hb dX7_set_4 rfl (lv_at hl 1 rfl) ?_
  obtain ⟨hi, hE⟩ := gd_e hE
  refine y_gld C hK hs 11 4 13 (by decide) rfl hi dX7_set_5 ?_
  refine lv_iload_n hx hb dX7_set_6 rfl (lv_at hl 2 rfl) ?_
  refine lv_iload_n hx hb dX7_set_7 rfl (lv_at hl 3 rfl) ?_
  obtain ⟨hi, σ1, eσ1, hE⟩ := wr_w hE
  refine y_ast layC C hK hs hi eσ1 dX7_set_8 (fun H locs hs => ?_)
  exact hQ hs hE dX7_set_9
theorem dX7_make_0 : decode cX7_make 0 = .ok (.aload_n 0, 1) := by decide +kernel
theorem dX7_make_1 : decode cX7_make 1 = .ok (.getfield 20, 3) := by decide +kernel
theorem dX7_make_4 : decode cX7_make 4 = .ok (.iload_n 1, 1) := by decide +kernel
theorem dX7_make_5 : decode cX7_make 5 = .ok (.iload_n 2, 1) := by decide +kernel
theorem dX7_make_6 : decode cX7_make 6 = .ok (.iastore, 1) := by decide +kernel
theorem dX7_make_7 : decode cX7_make 7 = .ok (.aload_n 0, 1) := by decide +kernel
theorem dX7_make_8 : decode cX7_make 8 = .ok (.getfield 15, 3) := by decide +kernel
theorem dX7_make_11 : decode cX7_make 11 = .ok (.iload_n 1, 1) := by decide +kernel
theorem dX7_make_12 : decode cX7_make 12 = .ok (.aaload, 1) := by decide +kernel
theorem dX7_make_13 : decode cX7_make 13 = .ok (.iload_n 3, 1) := by decide +kernel
theorem dX7_make_14 : decode cX7_make 14 = .ok (.invokestatic 24, 3) := by decide +kernel
theorem dX7_make_17 : decode cX7_make 17 = .ok (.return_, 1) := by decide +kernel
def fX7_make_1 (σ : St) (p1 : Int32) (p2 : Int32) (p3 : Int32) : Option (St × Unit) := wr LC σ 3 p1 p2 (fun σ1 => gd (inb p1 6) (cl (fJ7_fill_53178 σ1 (4 + p1.toNatClampNeg) p3) (fun σ2 r3 => some (σ2, ()))))
set_option maxHeartbeats 4000000 in
set_option maxRecDepth 100000 in
theorem ctX7_make_1 (l : Launch) (g : GG) (σ : St) (p1 : Int32) (p2 : Int32) (p3 : Int32) (σ' : St) (r : Unit) (hE : fX7_make_1 σ p1 p2 p3 = some (σ', r)) : MV 52 entC l g yX7_make (Cond.code yX7_make cX7_make 4 none :: gtbl) (rmD 2) [.ref (g.2.1 1), .int p1, .int p2, .int p3] σ σ' := by
  refine mi_v (own := RX7) (lv := [(0, .ref (g.2.1 1)), (1, .int p1), (2, .int p2), (3, .int p3)]) (by decide) rfl (Nat.le_of_ble_eq_true rfl) rfl (fun p e s m below meth c ls args Q A H0 H locs C hK hA hQ hs hl => ?_)
  have hx := C.1
  have hb := C.2.1
  unfold fX7_make_1 at hE
  refine lv_aload_n hx hb dX7_make_0 rfl (lv_at hl 0 rfl) ?_
  refine gf_X7_20_1 C hK hs dX7_make_1 ?_
  refine lv_iload_n hx hb dX7_make_4 rfl (lv_at hl 1 rfl) ?_
  refine lv_iload_n hx hb dX7_make_5 rfl (lv_at hl 2 rfl) ?_
  obtain ⟨hi, σ1, eσ1, hE⟩ := wr_w hE
  refine y_ast layC C hK hs hi eσ1 dX7_make_6 (fun H locs hs => ?_)
  refine lv_aload_n hx hb dX7_make_7 rfl (lv_at hl 0 rfl) ?_
  refine gf_X7_15_1 C hK hs dX7_make_8 ?_
  refine lv_iload_n hx hb dX7_make_11 rfl (lv_at hl 1 rfl) ?_
  obtain ⟨hi, hE⟩ := gd_e hE
  refine y_gld C hK hs 2 6 4 (by decide) rfl hi dX7_make_12 ?_
  refine lv_iload_n hx hb dX7_make_13 rfl (lv_at hl 3 rfl) ?_
  obtain ⟨σ2, r3, hE1, hE⟩ := cl_e hE
  refine x_cvs (As := [.ref (g.2.1 (4 + p1.toNatClampNeg)), .int p3]) (rest := []) C hl.1 hK hs hA ⟨Nat.le_refl 0, Nat.le_refl 0⟩ (ctJ7_fill_53178 l g _ _ _ _ _ hE1) (cw_X7_24 C ⟨Nat.le_of_ble_eq_true rfl, Nat.le_of_ble_eq_true rfl⟩) rfl rfl (Nat.le_of_ble_eq_true rfl) dX7_make_14 (fun H locs hs => ?_)
  exact hQ hs hE dX7_make_17
def fX7_make_10 (σ : St) (p1 : Int32) (p2 : Int32) (p3 : Int32) : Option (St × Unit) := wr LC σ 12 p1 p2 (fun σ1 => gd (inb p1 4) (cl (fJ7_fill_53178 σ1 (13 + p1.toNatClampNeg) p3) (fun σ2 r3 => some (σ2, ()))))
set_option maxHeartbeats 4000000 in
set_option maxRecDepth 100000 in
theorem ctX7_make_10 (l : Launch) (g : GG) (σ : St) (p1 : Int32) (p2 : Int32) (p3 : Int32) (σ' : St) (r : Unit) (hE : fX7_make_10 σ p1 p2 p3 = some (σ', r)) : MV 52 entC l g yX7_make (Cond.code yX7_make cX7_make 4 none :: gtbl) (rmD 2) [.ref (g.2.1 10), .int p1, .int p2, .int p3] σ σ' := by
  refine mi_v (own := RX7) (lv := [(0, .ref (g.2.1 10)), (1, .int p1), (2, .int p2), (3, .int p3)]) (by decide) rfl (Nat.le_of_ble_eq_true rfl) rfl (fun p e s m below meth c ls args Q A H0 H locs C hK hA hQ hs hl => ?_)
  have hx := C.1
  have hb := C.2.1
  unfold fX7_make_10 at hE
  refine lv_aload_n hx hb dX7_make_0 rfl (lv_at hl 0 rfl) ?_
  refine gf_X7_20_10 C hK hs dX7_make_1 ?_
  refine lv_iload_n hx hb dX7_make_4 rfl (lv_at hl 1 rfl) ?_
  refine lv_iload_n hx hb dX7_make_5 rfl (lv_at hl 2 rfl) ?_
  obtain ⟨hi, σ1, eσ1, hE⟩ := wr_w hE
  refine y_ast layC C hK hs hi eσ1 dX7_make_6 (fun H locs hs => ?_)
  refine lv_aload_n hx hb dX7_make_7 rfl (lv_at hl 0 rfl) ?_
  refine gf_X7_15_10 C hK hs dX7_make_8 ?_
  refine lv_iload_n hx hb dX7_make_11 rfl (lv_at hl 1 rfl) ?_
  obtain ⟨hi, hE⟩ := gd_e hE
  refine y_gld C hK hs 11 4 13 (by decide) rfl hi dX7_make_12 ?_
  refine lv_iload_n hx hb dX7_make_13 rfl (lv_at hl 3 rfl) ?_
  obtain ⟨σ2, r3, hE1, hE⟩ := cl_e hE
  refine x_cvs (As := [.ref (g.2.1 (13 + p1.toNatClampNeg)), .int p3]) (rest := []) C hl.1 hK hs hA ⟨Nat.le_refl 0, Nat.le_refl 0⟩ (ctJ7_fill_53178 l g _ _ _ _ _ hE1) (cw_X7_24 C ⟨Nat.le_of_ble_eq_true rfl, Nat.le_of_ble_eq_true rfl⟩) rfl rfl (Nat.le_of_ble_eq_true rfl) dX7_make_14 (fun H locs hs => ?_)
  exact hQ hs hE dX7_make_17
theorem dX7_remove_0 : decode cX7_remove 0 = .ok (.aload_n 0, 1) := by decide +kernel
theorem dX7_remove_1 : decode cX7_remove 1 = .ok (.getfield 20, 3) := by decide +kernel
theorem dX7_remove_4 : decode cX7_remove 4 = .ok (.iload_n 1, 1) := by decide +kernel
theorem dX7_remove_5 : decode cX7_remove 5 = .ok (.iconst (-1), 1) := by decide +kernel
theorem dX7_remove_6 : decode cX7_remove 6 = .ok (.iastore, 1) := by decide +kernel
theorem dX7_remove_7 : decode cX7_remove 7 = .ok (.return_, 1) := by decide +kernel
def fX7_remove_1 (σ : St) (p1 : Int32) : Option (St × Unit) := wr LC σ 3 p1 (-1) (fun σ1 => some (σ1, ()))
set_option maxHeartbeats 4000000 in
set_option maxRecDepth 100000 in
theorem ctX7_remove_1 (l : Launch) (g : GG) (σ : St) (p1 : Int32) (σ' : St) (r : Unit) (hE : fX7_remove_1 σ p1 = some (σ', r)) : MV 52 entC l g yX7_remove (Cond.code yX7_remove cX7_remove 2 none :: gtbl) (rmD 1) [.ref (g.2.1 1), .int p1] σ σ' := by
  refine mi_v (own := RX7) (lv := [(0, .ref (g.2.1 1)), (1, .int p1)]) (by decide) rfl (Nat.le_of_ble_eq_true rfl) rfl (fun p e s m below meth c ls args Q A H0 H locs C hK hA hQ hs hl => ?_)
  have hx := C.1
  have hb := C.2.1
  unfold fX7_remove_1 at hE
  refine lv_aload_n hx hb dX7_remove_0 rfl (lv_at hl 0 rfl) ?_
  refine gf_X7_20_1 C hK hs dX7_remove_1 ?_
  refine lv_iload_n hx hb dX7_remove_4 rfl (lv_at hl 1 rfl) ?_
  refine lv_iconst (v := (-1)) hx hb dX7_remove_5 (by decide) ?_
  obtain ⟨hi, σ1, eσ1, hE⟩ := wr_w hE
  refine y_ast layC C hK hs hi eσ1 dX7_remove_6 (fun H locs hs => ?_)
  exact hQ hs hE dX7_remove_7
def fX7_remove_10 (σ : St) (p1 : Int32) : Option (St × Unit) := wr LC σ 12 p1 (-1) (fun σ1 => some (σ1, ()))
set_option maxHeartbeats 4000000 in
set_option maxRecDepth 100000 in
theorem ctX7_remove_10 (l : Launch) (g : GG) (σ : St) (p1 : Int32) (σ' : St) (r : Unit) (hE : fX7_remove_10 σ p1 = some (σ', r)) : MV 52 entC l g yX7_remove (Cond.code yX7_remove cX7_remove 2 none :: gtbl) (rmD 1) [.ref (g.2.1 10), .int p1] σ σ' := by
  refine mi_v (own := RX7) (lv := [(0, .ref (g.2.1 10)), (1, .int p1)]) (by decide) rfl (Nat.le_of_ble_eq_true rfl) rfl (fun p e s m below meth c ls args Q A H0 H locs C hK hA hQ hs hl => ?_)
  have hx := C.1
  have hb := C.2.1
  unfold fX7_remove_10 at hE
  refine lv_aload_n hx hb dX7_remove_0 rfl (lv_at hl 0 rfl) ?_
  refine gf_X7_20_10 C hK hs dX7_remove_1 ?_
  refine lv_iload_n hx hb dX7_remove_4 rfl (lv_at hl 1 rfl) ?_
  refine lv_iconst (v := (-1)) hx hb dX7_remove_5 (by decide) ?_
  obtain ⟨hi, σ1, eσ1, hE⟩ := wr_w hE
  refine y_ast layC C hK hs hi eσ1 dX7_remove_6 (fun H locs hs => ?_)
  exact hQ hs hE dX7_remove_7
theorem dX7_move_0 : decode cX7_move 0 = .ok (.aload_n 0, 1) := by decide +kernel
theorem dX7_move_1 : decode cX7_move 1 = .ok (.getfield 15, 3) := by decide +kernel
theorem dX7_move_4 : decode cX7_move 4 = .ok (.iload_n 1, 1) := by decide +kernel
theorem dX7_move_5 : decode cX7_move 5 = .ok (.aaload, 1) := by decide +kernel
theorem dX7_move_6 : decode cX7_move 6 = .ok (.iload_n 2, 1) := by decide +kernel
theorem dX7_move_7 : decode cX7_move 7 = .ok (.aload_n 0, 1) := by decide +kernel
theorem dX7_move_8 : decode cX7_move 8 = .ok (.getfield 15, 3) := by decide +kernel
theorem dX7_move_11 : decode cX7_move 11 = .ok (.iload_n 3, 1) := by decide +kernel
theorem dX7_move_12 : decode cX7_move 12 = .ok (.aaload, 1) := by decide +kernel
theorem dX7_move_13 : decode cX7_move 13 = .ok (.iload 4, 2) := by decide +kernel
theorem dX7_move_15 : decode cX7_move 15 = .ok (.iload 5, 2) := by decide +kernel
theorem dX7_move_17 : decode cX7_move 17 = .ok (.invokestatic 30, 3) := by decide +kernel
theorem dX7_move_20 : decode cX7_move 20 = .ok (.return_, 1) := by decide +kernel
def fX7_move_1 (σ : St) (p1 : Int32) (p2 : Int32) (p3 : Int32) (p4 : Int32) (p5 : Int32) : Option (St × Unit) := gd (inb p1 6) (gd (inb p3 6) (gd (arrOk LC (4 + p1.toNatClampNeg) (4 + p3.toNatClampNeg) p2 p4 p5) (pt (sc σ (4 + p3.toNatClampNeg) (va_cpy (σ.1 (4 + p1.toNatClampNeg)) (σ.1 (4 + p3.toNatClampNeg)) (Int32.toNatClampNeg p2) (Int32.toNatClampNeg p4) (Int32.toNatClampNeg p5))) (fun σ1 => some (σ1, ())))))
set_option maxHeartbeats 4000000 in
set_option maxRecDepth 100000 in
theorem ctX7_move_1 (l : Launch) (g : GG) (σ : St) (p1 : Int32) (p2 : Int32) (p3 : Int32) (p4 : Int32) (p5 : Int32) (σ' : St) (r : Unit) (hE : fX7_move_1 σ p1 p2 p3 p4 p5 = some (σ', r)) : MV 52 entC l g yX7_move (Cond.code yX7_move cX7_move 6 none :: gtbl) (rmD 1) [.ref (g.2.1 1), .int p1, .int p2, .int p3, .int p4, .int p5] σ σ' := by
  refine mi_v (own := RX7) (lv := [(0, .ref (g.2.1 1)), (1, .int p1), (2, .int p2), (3, .int p3), (4, .int p4), (5, .int p5)]) (by decide) rfl (Nat.le_of_ble_eq_true rfl) rfl (fun p e s m below meth c ls args Q A H0 H locs C hK hA hQ hs hl => ?_)
  have hx := C.1
  have hb := C.2.1
  unfold fX7_move_1 at hE
  refine lv_aload_n hx hb dX7_move_0 rfl (lv_at hl 0 rfl) ?_
  refine gf_X7_15_1 C hK hs dX7_move_1 ?_
  refine lv_iload_n hx hb dX7_move_4 rfl (lv_at hl 1 rfl) ?_
  obtain ⟨hi, hE⟩ := gd_e hE
  refine y_gld C hK hs 2 6 4 (by decide) rfl hi dX7_move_5 ?_
  refine lv_iload_n hx hb dX7_move_6 rfl (lv_at hl 2 rfl) ?_
  refine lv_aload_n hx hb dX7_move_7 rfl (lv_at hl 0 rfl) ?_
  refine gf_X7_15_1 C hK hs dX7_move_8 ?_
  refine lv_iload_n hx hb dX7_move_11 rfl (lv_at hl 3 rfl) ?_
  obtain ⟨hi, hE⟩ := gd_e hE
  refine y_gld C hK hs 2 6 4 (by decide) rfl hi dX7_move_12 ?_
  refine lv_iload hx hb dX7_move_13 (lv_at hl 4 rfl) ?_
  refine lv_iload hx hb dX7_move_15 (lv_at hl 5 rfl) ?_
  obtain ⟨hi, hE⟩ := gd_e hE
  obtain ⟨σ1, eσ1, hE⟩ := pt_w hE
  refine y_copy layC C hl.1 hK hs mw_390 hi eσ1 (Nat.le_of_ble_eq_true rfl) (Nat.le_of_ble_eq_true rfl) dX7_move_17 (fun H locs hs => ?_)
  exact hQ hs hE dX7_move_20
def fX7_move_10 (σ : St) (p1 : Int32) (p2 : Int32) (p3 : Int32) (p4 : Int32) (p5 : Int32) : Option (St × Unit) := gd (inb p1 4) (gd (inb p3 4) (gd (arrOk LC (13 + p1.toNatClampNeg) (13 + p3.toNatClampNeg) p2 p4 p5) (pt (sc σ (13 + p3.toNatClampNeg) (va_cpy (σ.1 (13 + p1.toNatClampNeg)) (σ.1 (13 + p3.toNatClampNeg)) (Int32.toNatClampNeg p2) (Int32.toNatClampNeg p4) (Int32.toNatClampNeg p5))) (fun σ1 => some (σ1, ())))))
set_option maxHeartbeats 4000000 in
set_option maxRecDepth 100000 in
theorem ctX7_move_10 (l : Launch) (g : GG) (σ : St) (p1 : Int32) (p2 : Int32) (p3 : Int32) (p4 : Int32) (p5 : Int32) (σ' : St) (r : Unit) (hE : fX7_move_10 σ p1 p2 p3 p4 p5 = some (σ', r)) : MV 52 entC l g yX7_move (Cond.code yX7_move cX7_move 6 none :: gtbl) (rmD 1) [.ref (g.2.1 10), .int p1, .int p2, .int p3, .int p4, .int p5] σ σ' := by
  refine mi_v (own := RX7) (lv := [(0, .ref (g.2.1 10)), (1, .int p1), (2, .int p2), (3, .int p3), (4, .int p4), (5, .int p5)]) (by decide) rfl (Nat.le_of_ble_eq_true rfl) rfl (fun p e s m below meth c ls args Q A H0 H locs C hK hA hQ hs hl => ?_)
  have hx := C.1
  have hb := C.2.1
  unfold fX7_move_10 at hE
  refine lv_aload_n hx hb dX7_move_0 rfl (lv_at hl 0 rfl) ?_
  refine gf_X7_15_10 C hK hs dX7_move_1 ?_
  refine lv_iload_n hx hb dX7_move_4 rfl (lv_at hl 1 rfl) ?_
  obtain ⟨hi, hE⟩ := gd_e hE
  refine y_gld C hK hs 11 4 13 (by decide) rfl hi dX7_move_5 ?_
  refine lv_iload_n hx hb dX7_move_6 rfl (lv_at hl 2 rfl) ?_
  refine lv_aload_n hx hb dX7_move_7 rfl (lv_at hl 0 rfl) ?_
  refine gf_X7_15_10 C hK hs dX7_move_8 ?_
  refine lv_iload_n hx hb dX7_move_11 rfl (lv_at hl 3 rfl) ?_
  obtain ⟨hi, hE⟩ := gd_e hE
  refine y_gld C hK hs 11 4 13 (by decide) rfl hi dX7_move_12 ?_
  refine lv_iload hx hb dX7_move_13 (lv_at hl 4 rfl) ?_
  refine lv_iload hx hb dX7_move_15 (lv_at hl 5 rfl) ?_
  obtain ⟨hi, hE⟩ := gd_e hE
  obtain ⟨σ1, eσ1, hE⟩ := pt_w hE
  refine y_copy layC C hl.1 hK hs mw_390 hi eσ1 (Nat.le_of_ble_eq_true rfl) (Nat.le_of_ble_eq_true rfl) dX7_move_17 (fun H locs hs => ?_)
  exact hQ hs hE dX7_move_20
theorem dX7_sumOf_0 : decode cX7_sumOf 0 = .ok (.lconst 0, 1) := by decide +kernel
theorem dX7_sumOf_1 : decode cX7_sumOf 1 = .ok (.lstore_n 2, 1) := by decide +kernel
theorem dX7_sumOf_2 : decode cX7_sumOf 2 = .ok (.iconst 0, 1) := by decide +kernel
theorem dX7_sumOf_3 : decode cX7_sumOf 3 = .ok (.istore 4, 2) := by decide +kernel
theorem dX7_sumOf_5 : decode cX7_sumOf 5 = .ok (.iload 4, 2) := by decide +kernel
theorem dX7_sumOf_7 : decode cX7_sumOf 7 = .ok (.aload_n 0, 1) := by decide +kernel
theorem dX7_sumOf_8 : decode cX7_sumOf 8 = .ok (.getfield 20, 3) := by decide +kernel
theorem dX7_sumOf_11 : decode cX7_sumOf 11 = .ok (.iload_n 1, 1) := by decide +kernel
theorem dX7_sumOf_12 : decode cX7_sumOf 12 = .ok (.iaload, 1) := by decide +kernel
theorem dX7_sumOf_13 : decode cX7_sumOf 13 = .ok (.if_icmp .ge 22, 3) := by decide +kernel
theorem dX7_sumOf_16 : decode cX7_sumOf 16 = .ok (.lload_n 2, 1) := by decide +kernel
theorem dX7_sumOf_17 : decode cX7_sumOf 17 = .ok (.aload_n 0, 1) := by decide +kernel
theorem dX7_sumOf_18 : decode cX7_sumOf 18 = .ok (.getfield 15, 3) := by decide +kernel
theorem dX7_sumOf_21 : decode cX7_sumOf 21 = .ok (.iload_n 1, 1) := by decide +kernel
theorem dX7_sumOf_22 : decode cX7_sumOf 22 = .ok (.aaload, 1) := by decide +kernel
theorem dX7_sumOf_23 : decode cX7_sumOf 23 = .ok (.iload 4, 2) := by decide +kernel
theorem dX7_sumOf_25 : decode cX7_sumOf 25 = .ok (.iaload, 1) := by decide +kernel
theorem dX7_sumOf_26 : decode cX7_sumOf 26 = .ok (.i2l, 1) := by decide +kernel
theorem dX7_sumOf_27 : decode cX7_sumOf 27 = .ok (.ladd, 1) := by decide +kernel
theorem dX7_sumOf_28 : decode cX7_sumOf 28 = .ok (.lstore_n 2, 1) := by decide +kernel
theorem dX7_sumOf_29 : decode cX7_sumOf 29 = .ok (.iinc 4 1, 3) := by decide +kernel
theorem dX7_sumOf_32 : decode cX7_sumOf 32 = .ok (.goto (-27), 3) := by decide +kernel
theorem dX7_sumOf_35 : decode cX7_sumOf 35 = .ok (.lload_n 2, 1) := by decide +kernel
theorem dX7_sumOf_36 : decode cX7_sumOf 36 = .ok (.lreturn, 1) := by decide +kernel
def fX7_sumOf_1_L5 (p1 : Int32) : Nat → St → Int64 → Int32 → (St → Int64 → Int32 → Option (St × Int64)) → Option (St × Int64)
  | 0, _, _, _, _ => none
  | n + 1, σ1, v2, v3, k => rd LC σ1 3 p1 (fun x4 => (if x4 ≤ v3 then k σ1 v2 v3 else gd (inb p1 6) (rd LC σ1 (4 + p1.toNatClampNeg) v3 (fun x5 => fX7_sumOf_1_L5 p1 n σ1 (v2 + (x5.toInt64)) (v3 + 1) k))))
def fX7_sumOf_1 (σ : St) (p1 : Int32) : Option (St × Int64) := fX7_sumOf_1_L5 p1 10000 σ 0 0 (fun σ6 v7 v8 => some (σ6, v7))
set_option maxHeartbeats 4000000 in
set_option maxRecDepth 100000 in
theorem ctX7_sumOf_1 (l : Launch) (g : GG) (σ : St) (p1 : Int32) (σ' : St) (r : Int64) (hE : fX7_sumOf_1 σ p1 = some (σ', r)) : ML 52 entC l g yX7_sumOf (Cond.code yX7_sumOf cX7_sumOf 5 (some .long) :: gtbl) (rmD 1) [.ref (g.2.1 1), .int p1] σ σ' r := by
  refine mi_l (own := RX7) (lv := [(0, .ref (g.2.1 1)), (1, .int p1)]) (by decide) rfl (Nat.le_of_ble_eq_true rfl) rfl (fun p e s m below meth c ls args Q A H0 H locs C hK hA hQ hs hl => ?_)
  have hx := C.1
  have hb := C.2.1
  unfold fX7_sumOf_1 at hE
  refine lv_lconst (v := 0) hx hb dX7_sumOf_0 (by decide) ?_
  refine lv_lstore_n (lv' := [(2, .long 0), (0, .ref (g.2.1 1)), (1, .int p1)]) hx hb dX7_sumOf_1 rfl hl (by decide) rfl (fun ls hl => ?_)
  refine lv_iconst (v := 0) hx hb dX7_sumOf_2 (by decide) ?_
  refine lv_istore (lv' := [(4, .int 0), (2, .long 0), (0, .ref (g.2.1 1)), (1, .int p1)]) hx hb dX7_sumOf_3 hl (by decide) rfl (fun ls hl => ?_)
  have hL5 : ∀ (n : Nat) (σ1 : St) (v2 : Int64) (v3 : Int32) (k : St → Int64 → Int32 → Option (St × Int64)), fX7_sumOf_1_L5 p1 n σ1 v2 v3 k = some (σ', r) → (∀ (σ1 : St) (v2 : Int64) (v3 : Int32) (H : Heap) (locs : List Loc) (ls : Array Slot), HW 52 entC g A H0 H locs σ1 → lv_has ls 5 [(0, .ref (g.2.1 1)), (1, .int p1), (2, .long v2), (4, .int v3)] → k σ1 v2 v3 = some (σ', r) → W p l e (rmD 1) s m args below meth c H locs 0 0 Q (F0 m 35 ls [])) → ∀ (H : Heap) (locs : List Loc) (ls : Array Slot), HW 52 entC g A H0 H locs σ1 → lv_has ls 5 [(0, .ref (g.2.1 1)), (1, .int p1), (2, .long v2), (4, .int v3)] → W p l e (rmD 1) s m args below meth c H locs 0 0 Q (F0 m 5 ls []) := by
    intro n
    induction n with
    | zero =>
      intro σ1 v2 v3 k hE
      rw [fX7_sumOf_1_L5] at hE
      exact no_e hE
    | succ n ih =>
      intro σ1 v2 v3 k hE hk H locs ls hs hl
      rw [fX7_sumOf_1_L5] at hE
      refine lv_iload hx hb dX7_sumOf_5 (lv_at hl 3 rfl) ?_
      refine lv_aload_n hx hb dX7_sumOf_7 rfl (lv_at hl 0 rfl) ?_
      refine gf_X7_20_1 C hK hs dX7_sumOf_8 ?_
      refine lv_iload_n hx hb dX7_sumOf_11 rfl (lv_at hl 1 rfl) ?_
      obtain ⟨hi, x4, ex4, hE⟩ := rd_w hE
      refine y_ald layC C hK hs hi ex4 dX7_sumOf_12 ?_
      refine lv_icmp_ge (tgt := 35) hx hb dX7_sumOf_13 (by decide) (fun hc => ?_) (fun hc => ?_)
      · have hE := if_t hc hE
        exact hk σ1 v2 v3 _ _ _ hs (lv_sub hl [0, 1, 2, 3] rfl) hE
      · have hE := if_f hc hE
        refine lv_lload_n hx hb dX7_sumOf_16 rfl (lv_at hl 2 rfl) ?_
        refine lv_aload_n hx hb dX7_sumOf_17 rfl (lv_at hl 0 rfl) ?_
        refine gf_X7_15_1 C hK hs dX7_sumOf_18 ?_
        refine lv_iload_n hx hb dX7_sumOf_21 rfl (lv_at hl 1 rfl) ?_
        obtain ⟨hi, hE⟩ := gd_e hE
        refine y_gld C hK hs 2 6 4 (by decide) rfl hi dX7_sumOf_22 ?_
        refine lv_iload hx hb dX7_sumOf_23 (lv_at hl 3 rfl) ?_
        obtain ⟨hi, x5, ex5, hE⟩ := rd_w hE
        refine y_ald layC C hK hs hi ex5 dX7_sumOf_25 ?_
        refine lv_i2l (v := x5.toInt64) hx hb dX7_sumOf_26 rfl ?_
        refine lv_ladd hx hb dX7_sumOf_27 ?_
        refine lv_lstore_n (lv' := [(2, .long (v2 + (x5.toInt64))), (0, .ref (g.2.1 1)), (1, .int p1), (4, .int v3)]) hx hb dX7_sumOf_28 rfl hl (by decide) rfl (fun ls hl => ?_)
        refine lv_iinc (v := v3 + 1) (lv' := [(4, .int (v3 + 1)), (2, .long (v2 + (x5.toInt64))), (0, .ref (g.2.1 1)), (1, .int p1)]) hx hb dX7_sumOf_29 hl (k := 3) rfl rfl (by decide) rfl (fun ls hl => ?_)
        refine lv_goto (tgt := 5) hx hb dX7_sumOf_32 (by decide) ?_
        exact ih _ _ _ _ hE hk _ _ _ hs (lv_sub hl [2, 3, 1, 0] rfl)
  refine hL5 _ _ _ _ _ hE (fun σ6 v7 v8 H locs ls hs hl hE => ?_) H locs ls hs (lv_sub hl [2, 3, 1, 0] rfl)
  refine lv_lload_n hx hb dX7_sumOf_35 rfl (lv_at hl 2 rfl) ?_
  exact hQ hs hE dX7_sumOf_36
def fX7_sumOf_10_L5 (p1 : Int32) : Nat → St → Int64 → Int32 → (St → Int64 → Int32 → Option (St × Int64)) → Option (St × Int64)
  | 0, _, _, _, _ => none
  | n + 1, σ1, v2, v3, k => rd LC σ1 12 p1 (fun x4 => (if x4 ≤ v3 then k σ1 v2 v3 else gd (inb p1 4) (rd LC σ1 (13 + p1.toNatClampNeg) v3 (fun x5 => fX7_sumOf_10_L5 p1 n σ1 (v2 + (x5.toInt64)) (v3 + 1) k))))
def fX7_sumOf_10 (σ : St) (p1 : Int32) : Option (St × Int64) := fX7_sumOf_10_L5 p1 10000 σ 0 0 (fun σ6 v7 v8 => some (σ6, v7))
set_option maxHeartbeats 4000000 in
set_option maxRecDepth 100000 in
theorem ctX7_sumOf_10 (l : Launch) (g : GG) (σ : St) (p1 : Int32) (σ' : St) (r : Int64) (hE : fX7_sumOf_10 σ p1 = some (σ', r)) : ML 52 entC l g yX7_sumOf (Cond.code yX7_sumOf cX7_sumOf 5 (some .long) :: gtbl) (rmD 1) [.ref (g.2.1 10), .int p1] σ σ' r := by
  refine mi_l (own := RX7) (lv := [(0, .ref (g.2.1 10)), (1, .int p1)]) (by decide) rfl (Nat.le_of_ble_eq_true rfl) rfl (fun p e s m below meth c ls args Q A H0 H locs C hK hA hQ hs hl => ?_)
  have hx := C.1
  have hb := C.2.1
  unfold fX7_sumOf_10 at hE
  refine lv_lconst (v := 0) hx hb dX7_sumOf_0 (by decide) ?_
  refine lv_lstore_n (lv' := [(2, .long 0), (0, .ref (g.2.1 10)), (1, .int p1)]) hx hb dX7_sumOf_1 rfl hl (by decide) rfl (fun ls hl => ?_)
  refine lv_iconst (v := 0) hx hb dX7_sumOf_2 (by decide) ?_
  refine lv_istore (lv' := [(4, .int 0), (2, .long 0), (0, .ref (g.2.1 10)), (1, .int p1)]) hx hb dX7_sumOf_3 hl (by decide) rfl (fun ls hl => ?_)
  have hL5 : ∀ (n : Nat) (σ1 : St) (v2 : Int64) (v3 : Int32) (k : St → Int64 → Int32 → Option (St × Int64)), fX7_sumOf_10_L5 p1 n σ1 v2 v3 k = some (σ', r) → (∀ (σ1 : St) (v2 : Int64) (v3 : Int32) (H : Heap) (locs : List Loc) (ls : Array Slot), HW 52 entC g A H0 H locs σ1 → lv_has ls 5 [(0, .ref (g.2.1 10)), (1, .int p1), (2, .long v2), (4, .int v3)] → k σ1 v2 v3 = some (σ', r) → W p l e (rmD 1) s m args below meth c H locs 0 0 Q (F0 m 35 ls [])) → ∀ (H : Heap) (locs : List Loc) (ls : Array Slot), HW 52 entC g A H0 H locs σ1 → lv_has ls 5 [(0, .ref (g.2.1 10)), (1, .int p1), (2, .long v2), (4, .int v3)] → W p l e (rmD 1) s m args below meth c H locs 0 0 Q (F0 m 5 ls []) := by
    intro n
    induction n with
    | zero =>
      intro σ1 v2 v3 k hE
      rw [fX7_sumOf_10_L5] at hE
      exact no_e hE
    | succ n ih =>
      intro σ1 v2 v3 k hE hk H locs ls hs hl
      rw [fX7_sumOf_10_L5] at hE
      refine lv_iload hx hb dX7_sumOf_5 (lv_at hl 3 rfl) ?_
      refine lv_aload_n hx hb dX7_sumOf_7 rfl (lv_at hl 0 rfl) ?_
      refine gf_X7_20_10 C hK hs dX7_sumOf_8 ?_
      refine lv_iload_n hx hb dX7_sumOf_11 rfl (lv_at hl 1 rfl) ?_
      obtain ⟨hi, x4, ex4, hE⟩ := rd_w hE
      refine y_ald layC C hK hs hi ex4 dX7_sumOf_12 ?_
      refine lv_icmp_ge (tgt := 35) hx hb dX7_sumOf_13 (by decide) (fun hc => ?_) (fun hc => ?_)
      · have hE := if_t hc hE
        exact hk σ1 v2 v3 _ _ _ hs (lv_sub hl [0, 1, 2, 3] rfl) hE
      · have hE := if_f hc hE
        refine lv_lload_n hx hb dX7_sumOf_16 rfl (lv_at hl 2 rfl) ?_
        refine lv_aload_n hx hb dX7_sumOf_17 rfl (lv_at hl 0 rfl) ?_
        refine gf_X7_15_10 C hK hs dX7_sumOf_18 ?_
        refine lv_iload_n hx hb dX7_sumOf_21 rfl (lv_at hl 1 rfl) ?_
        obtain ⟨hi, hE⟩ := gd_e hE
        refine y_gld C hK hs 11 4 13 (by decide) rfl hi dX7_sumOf_22 ?_
        refine lv_iload hx hb dX7_sumOf_23 (lv_at hl 3 rfl) ?_
        obtain ⟨hi, x5, ex5, hE⟩ := rd_w hE
        refine y_ald layC C hK hs hi ex5 dX7_sumOf_25 ?_
        refine lv_i2l (v := x5.toInt64) hx hb dX7_sumOf_26 rfl ?_
        refine lv_ladd hx hb dX7_sumOf_27 ?_
        refine lv_lstore_n (lv' := [(2, .long (v2 + (x5.toInt64))), (0, .ref (g.2.1 10)), (1, .int p1), (4, .int v3)]) hx hb dX7_sumOf_28 rfl hl (by decide) rfl (fun ls hl => ?_)
        refine lv_iinc (v := v3 + 1) (lv' := [(4, .int (v3 + 1)), (2, .long (v2 + (x5.toInt64))), (0, .ref (g.2.1 10)), (1, .int p1)]) hx hb dX7_sumOf_29 hl (k := 3) rfl rfl (by decide) rfl (fun ls hl => ?_)
        refine lv_goto (tgt := 5) hx hb dX7_sumOf_32 (by decide) ?_
        exact ih _ _ _ _ hE hk _ _ _ hs (lv_sub hl [2, 3, 1, 0] rfl)
  refine hL5 _ _ _ _ _ hE (fun σ6 v7 v8 H locs ls hs hl hE => ?_) H locs ls hs (lv_sub hl [2, 3, 1, 0] rfl)
  refine lv_lload_n hx hb dX7_sumOf_35 rfl (lv_at hl 2 rfl) ?_
  exact hQ hs hE dX7_sumOf_36
theorem dX7_present_0 : decode cX7_present 0 = .ok (.iconst 0, 1) := by decide +kernel
theorem dX7_present_1 : decode cX7_present 1 = .ok (.istore_n 1, 1) := by decide +kernel
theorem dX7_present_2 : decode cX7_present 2 = .ok (.iconst 0, 1) := by decide +kernel
theorem dX7_present_3 : decode cX7_present 3 = .ok (.istore_n 2, 1) := by decide +kernel
theorem dX7_present_4 : decode cX7_present 4 = .ok (.iload_n 2, 1) := by decide +kernel
theorem dX7_present_5 : decode cX7_present 5 = .ok (.aload_n 0, 1) := by decide +kernel
theorem dX7_present_6 : decode cX7_present 6 = .ok (.getfield 20, 3) := by decide +kernel
theorem dX7_present_9 : decode cX7_present 9 = .ok (.arraylength, 1) := by decide +kernel
theorem dX7_present_10 : decode cX7_present 10 = .ok (.if_icmp .ge 21, 3) := by decide +kernel
theorem dX7_present_13 : decode cX7_present 13 = .ok (.aload_n 0, 1) := by decide +kernel
theorem dX7_present_14 : decode cX7_present 14 = .ok (.getfield 20, 3) := by decide +kernel
theorem dX7_present_17 : decode cX7_present 17 = .ok (.iload_n 2, 1) := by decide +kernel
theorem dX7_present_18 : decode cX7_present 18 = .ok (.iaload, 1) := by decide +kernel
theorem dX7_present_19 : decode cX7_present 19 = .ok (.ifCond .lt 6, 3) := by decide +kernel
theorem dX7_present_22 : decode cX7_present 22 = .ok (.iinc 1 1, 3) := by decide +kernel
theorem dX7_present_25 : decode cX7_present 25 = .ok (.iinc 2 1, 3) := by decide +kernel
theorem dX7_present_28 : decode cX7_present 28 = .ok (.goto (-24), 3) := by decide +kernel
theorem dX7_present_31 : decode cX7_present 31 = .ok (.iload_n 1, 1) := by decide +kernel
theorem dX7_present_32 : decode cX7_present 32 = .ok (.ireturn, 1) := by decide +kernel
def fX7_present_1_L4 : Nat → St → Int32 → Int32 → (St → Int32 → Int32 → Option (St × Int32)) → Option (St × Int32)
  | 0, _, _, _, _ => none
  | n + 1, σ1, v2, v3, k => (if (nI (LC 3)) ≤ v3 then k σ1 v2 v3 else rd LC σ1 3 v3 (fun x4 => pv (if x4 < 0 then v2 else (v2 + 1)) (fun (z6 : Int32) => fX7_present_1_L4 n σ1 z6 (v3 + 1) k)))
def fX7_present_1 (σ : St) : Option (St × Int32) := fX7_present_1_L4 10000 σ 0 0 (fun σ7 v8 v9 => some (σ7, v8))
set_option maxHeartbeats 4000000 in
set_option maxRecDepth 100000 in
theorem ctX7_present_1 (l : Launch) (g : GG) (σ : St) (σ' : St) (r : Int32) (hE : fX7_present_1 σ  = some (σ', r)) : MI 52 entC l g yX7_present (Cond.code yX7_present cX7_present 3 (some .int) :: gtbl) (rmD 1) [.ref (g.2.1 1)] σ σ' r := by
  refine mi_i (own := RX7) (lv := [(0, .ref (g.2.1 1))]) (by decide) rfl (Nat.le_of_ble_eq_true rfl) rfl (fun p e s m below meth c ls args Q A H0 H locs C hK hA hQ hs hl => ?_)
  have hx := C.1
  have hb := C.2.1
  unfold fX7_present_1 at hE
  refine lv_iconst (v := 0) hx hb dX7_present_0 (by decide) ?_
  refine lv_istore_n (lv' := [(1, .int 0), (0, .ref (g.2.1 1))]) hx hb dX7_present_1 rfl hl (by decide) rfl (fun ls hl => ?_)
  refine lv_iconst (v := 0) hx hb dX7_present_2 (by decide) ?_
  refine lv_istore_n (lv' := [(2, .int 0), (1, .int 0), (0, .ref (g.2.1 1))]) hx hb dX7_present_3 rfl hl (by decide) rfl (fun ls hl => ?_)
  have hL4 : ∀ (n : Nat) (σ1 : St) (v2 : Int32) (v3 : Int32) (k : St → Int32 → Int32 → Option (St × Int32)), fX7_present_1_L4 n σ1 v2 v3 k = some (σ', r) → (∀ (σ1 : St) (v2 : Int32) (v3 : Int32) (H : Heap) (locs : List Loc) (ls : Array Slot), HW 52 entC g A H0 H locs σ1 → lv_has ls 3 [(0, .ref (g.2.1 1)), (1, .int v2), (2, .int v3)] → k σ1 v2 v3 = some (σ', r) → W p l e (rmD 1) s m args below meth c H locs 0 0 Q (F0 m 31 ls [])) → ∀ (H : Heap) (locs : List Loc) (ls : Array Slot), HW 52 entC g A H0 H locs σ1 → lv_has ls 3 [(0, .ref (g.2.1 1)), (1, .int v2), (2, .int v3)] → W p l e (rmD 1) s m args below meth c H locs 0 0 Q (F0 m 4 ls []) := by
    intro n
    induction n with
    | zero =>
      intro σ1 v2 v3 k hE
      rw [fX7_present_1_L4] at hE
      exact no_e hE
    | succ n ih =>
      intro σ1 v2 v3 k hE hk H locs ls hs hl
      rw [fX7_present_1_L4] at hE
      refine lv_iload_n hx hb dX7_present_4 rfl (lv_at hl 2 rfl) ?_
      refine lv_aload_n hx hb dX7_present_5 rfl (lv_at hl 0 rfl) ?_
      refine gf_X7_20_1 C hK hs dX7_present_6 ?_
      refine x_len layC C hK hs (k := 3) (by decide) dX7_present_9 ?_
      refine lv_icmp_ge (tgt := 31) hx hb dX7_present_10 (by decide) (fun hc => ?_) (fun hc => ?_)
      · have hE := if_t hc hE
        exact hk σ1 v2 v3 _ _ _ hs (lv_sub hl [0, 1, 2] rfl) hE
      · have hE := if_f hc hE
        refine lv_aload_n hx hb dX7_present_13 rfl (lv_at hl 0 rfl) ?_
        refine gf_X7_20_1 C hK hs dX7_present_14 ?_
        refine lv_iload_n hx hb dX7_present_17 rfl (lv_at hl 2 rfl) ?_
        obtain ⟨hi, x4, ex4, hE⟩ := rd_w hE
        refine y_ald layC C hK hs hi ex4 dX7_present_18 ?_
        refine pvw hE (fun k5 hE hk5 => ?_)
        have hJk5 : ∀ (z6 : Int32) (H : Heap) (locs : List Loc) (ls : Array Slot), HW 52 entC g A H0 H locs σ1 → lv_has ls 3 [(0, .ref (g.2.1 1)), (1, .int z6), (2, .int v3)] → k5 z6 = some (σ', r) → W p l e (rmD 1) s m args below meth c H locs 0 0 Q (F0 m 25 ls []) := by
          intro z6 H locs ls hs hl hE
          have hE := hk5 _ hE
          refine lv_iinc (v := v3 + 1) (lv' := [(2, .int (v3 + 1)), (0, .ref (g.2.1 1)), (1, .int z6)]) hx hb dX7_present_25 hl (k := 2) rfl rfl (by decide) rfl (fun ls hl => ?_)
          refine lv_goto (tgt := 4) hx hb dX7_present_28 (by decide) ?_
          exact ih _ _ _ _ hE hk _ _ _ hs (lv_sub hl [1, 2, 0] rfl)
        refine lv_if_lt (tgt := 25) hx hb dX7_present_19 (by decide) (fun hc => ?_) (fun hc => ?_)
        · have hE := pv_t hc hE
          exact hJk5 v2 _ _ _ hs (lv_sub hl [0, 1, 2] rfl) hE
        · have hE := pv_f hc hE
          refine lv_iinc (v := v2 + 1) (lv' := [(1, .int (v2 + 1)), (0, .ref (g.2.1 1)), (2, .int v3)]) hx hb dX7_present_22 hl (k := 1) rfl rfl (by decide) rfl (fun ls hl => ?_)
          exact hJk5 (v2 + 1) _ _ _ hs (lv_sub hl [1, 0, 2] rfl) hE
  refine hL4 _ _ _ _ _ hE (fun σ7 v8 v9 H locs ls hs hl hE => ?_) H locs ls hs (lv_sub hl [2, 1, 0] rfl)
  refine lv_iload_n hx hb dX7_present_31 rfl (lv_at hl 1 rfl) ?_
  exact hQ hs hE dX7_present_32
def fX7_present_10_L4 : Nat → St → Int32 → Int32 → (St → Int32 → Int32 → Option (St × Int32)) → Option (St × Int32)
  | 0, _, _, _, _ => none
  | n + 1, σ1, v2, v3, k => (if (nI (LC 12)) ≤ v3 then k σ1 v2 v3 else rd LC σ1 12 v3 (fun x4 => pv (if x4 < 0 then v2 else (v2 + 1)) (fun (z6 : Int32) => fX7_present_10_L4 n σ1 z6 (v3 + 1) k)))
def fX7_present_10 (σ : St) : Option (St × Int32) := fX7_present_10_L4 10000 σ 0 0 (fun σ7 v8 v9 => some (σ7, v8))
set_option maxHeartbeats 4000000 in
set_option maxRecDepth 100000 in
theorem ctX7_present_10 (l : Launch) (g : GG) (σ : St) (σ' : St) (r : Int32) (hE : fX7_present_10 σ  = some (σ', r)) : MI 52 entC l g yX7_present (Cond.code yX7_present cX7_present 3 (some .int) :: gtbl) (rmD 1) [.ref (g.2.1 10)] σ σ' r := by
  refine mi_i (own := RX7) (lv := [(0, .ref (g.2.1 10))]) (by decide) rfl (Nat.le_of_ble_eq_true rfl) rfl (fun p e s m below meth c ls args Q A H0 H locs C hK hA hQ hs hl => ?_)
  have hx := C.1
  have hb := C.2.1
  unfold fX7_present_10 at hE
  refine lv_iconst (v := 0) hx hb dX7_present_0 (by decide) ?_
  refine lv_istore_n (lv' := [(1, .int 0), (0, .ref (g.2.1 10))]) hx hb dX7_present_1 rfl hl (by decide) rfl (fun ls hl => ?_)
  refine lv_iconst (v := 0) hx hb dX7_present_2 (by decide) ?_
  refine lv_istore_n (lv' := [(2, .int 0), (1, .int 0), (0, .ref (g.2.1 10))]) hx hb dX7_present_3 rfl hl (by decide) rfl (fun ls hl => ?_)
  have hL4 : ∀ (n : Nat) (σ1 : St) (v2 : Int32) (v3 : Int32) (k : St → Int32 → Int32 → Option (St × Int32)), fX7_present_10_L4 n σ1 v2 v3 k = some (σ', r) → (∀ (σ1 : St) (v2 : Int32) (v3 : Int32) (H : Heap) (locs : List Loc) (ls : Array Slot), HW 52 entC g A H0 H locs σ1 → lv_has ls 3 [(0, .ref (g.2.1 10)), (1, .int v2), (2, .int v3)] → k σ1 v2 v3 = some (σ', r) → W p l e (rmD 1) s m args below meth c H locs 0 0 Q (F0 m 31 ls [])) → ∀ (H : Heap) (locs : List Loc) (ls : Array Slot), HW 52 entC g A H0 H locs σ1 → lv_has ls 3 [(0, .ref (g.2.1 10)), (1, .int v2), (2, .int v3)] → W p l e (rmD 1) s m args below meth c H locs 0 0 Q (F0 m 4 ls []) := by
    intro n
    induction n with
    | zero =>
      intro σ1 v2 v3 k hE
      rw [fX7_present_10_L4] at hE
      exact no_e hE
    | succ n ih =>
      intro σ1 v2 v3 k hE hk H locs ls hs hl
      rw [fX7_present_10_L4] at hE
      refine lv_iload_n hx hb dX7_present_4 rfl (lv_at hl 2 rfl) ?_
      refine lv_aload_n hx hb dX7_present_5 rfl (lv_at hl 0 rfl) ?_
      refine gf_X7_20_10 C hK hs dX7_present_6 ?_
      refine x_len layC C hK hs (k := 12) (by decide) dX7_present_9 ?_
      refine lv_icmp_ge (tgt := 31) hx hb dX7_present_10 (by decide) (fun hc => ?_) (fun hc => ?_)
      · have hE := if_t hc hE
        exact hk σ1 v2 v3 _ _ _ hs (lv_sub hl [0, 1, 2] rfl) hE
      · have hE := if_f hc hE
        refine lv_aload_n hx hb dX7_present_13 rfl (lv_at hl 0 rfl) ?_
        refine gf_X7_20_10 C hK hs dX7_present_14 ?_
        refine lv_iload_n hx hb dX7_present_17 rfl (lv_at hl 2 rfl) ?_
        obtain ⟨hi, x4, ex4, hE⟩ := rd_w hE
        refine y_ald layC C hK hs hi ex4 dX7_present_18 ?_
        refine pvw hE (fun k5 hE hk5 => ?_)
        have hJk5 : ∀ (z6 : Int32) (H : Heap) (locs : List Loc) (ls : Array Slot), HW 52 entC g A H0 H locs σ1 → lv_has ls 3 [(0, .ref (g.2.1 10)), (1, .int z6), (2, .int v3)] → k5 z6 = some (σ', r) → W p l e (rmD 1) s m args below meth c H locs 0 0 Q (F0 m 25 ls []) := by
          intro z6 H locs ls hs hl hE
          have hE := hk5 _ hE
          refine lv_iinc (v := v3 + 1) (lv' := [(2, .int (v3 + 1)), (0, .ref (g.2.1 10)), (1, .int z6)]) hx hb dX7_present_25 hl (k := 2) rfl rfl (by decide) rfl (fun ls hl => ?_)
          refine lv_goto (tgt := 4) hx hb dX7_present_28 (by decide) ?_
          exact ih _ _ _ _ hE hk _ _ _ hs (lv_sub hl [1, 2, 0] rfl)
        refine lv_if_lt (tgt := 25) hx hb dX7_present_19 (by decide) (fun hc => ?_) (fun hc => ?_)
        · have hE := pv_t hc hE
          exact hJk5 v2 _ _ _ hs (lv_sub hl [0, 1, 2] rfl) hE
        · have hE := pv_f hc hE
          refine lv_iinc (v := v2 + 1) (lv' := [(1, .int (v2 + 1)), (0, .ref (g.2.1 10)), (2, .int v3)]) hx hb dX7_present_22 hl (k := 1) rfl rfl (by decide) rfl (fun ls hl => ?_)
          exact hJk5 (v2 + 1) _ _ _ hs (lv_sub hl [1, 0, 2] rfl) hE
  refine hL4 _ _ _ _ _ hE (fun σ7 v8 v9 H locs ls hs hl hE => ?_) H locs ls hs (lv_sub hl [2, 1, 0] rfl)
  refine lv_iload_n hx hb dX7_present_31 rfl (lv_at hl 1 rfl) ?_
  exact hQ hs hE dX7_present_32
