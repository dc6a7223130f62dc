theorem dX7_mixInto_0 : decode cX7_mixInto 0 = .ok (.lload_n 1, 1) := by decide +kernel
theorem dX7_mixInto_1 : decode cX7_mixInto 1 = .ok (.lstore_n 3, 1) := by decide +kernel
theorem dX7_mixInto_2 : decode cX7_mixInto 2 = .ok (.iconst 0, 1) := by decide +kernel
theorem dX7_mixInto_3 : decode cX7_mixInto 3 = .ok (.istore 5, 2) := by decide +kernel
theorem dX7_mixInto_5 : decode cX7_mixInto 5 = .ok (.iload 5, 2) := by decide +kernel
theorem dX7_mixInto_7 : decode cX7_mixInto 7 = .ok (.aload_n 0, 1) := by decide +kernel
theorem dX7_mixInto_8 : decode cX7_mixInto 8 = .ok (.getfield 20, 3) := by decide +kernel
theorem dX7_mixInto_11 : decode cX7_mixInto 11 = .ok (.arraylength, 1) := by decide +kernel
theorem dX7_mixInto_12 : decode cX7_mixInto 12 = .ok (.if_icmp .ge 63, 3) := by decide +kernel
theorem dX7_mixInto_15 : decode cX7_mixInto 15 = .ok (.ldc2_w 36, 3) := by decide +kernel
theorem dX7_mixInto_18 : decode cX7_mixInto 18 = .ok (.lload_n 3, 1) := by decide +kernel
theorem dX7_mixInto_19 : decode cX7_mixInto 19 = .ok (.lmul, 1) := by decide +kernel
theorem dX7_mixInto_20 : decode cX7_mixInto 20 = .ok (.aload_n 0, 1) := by decide +kernel
theorem dX7_mixInto_21 : decode cX7_mixInto 21 = .ok (.getfield 20, 3) := by decide +kernel
theorem dX7_mixInto_24 : decode cX7_mixInto 24 = .ok (.iload 5, 2) := by decide +kernel
theorem dX7_mixInto_26 : decode cX7_mixInto 26 = .ok (.iaload, 1) := by decide +kernel
theorem dX7_mixInto_27 : decode cX7_mixInto 27 = .ok (.i2l, 1) := by decide +kernel
theorem dX7_mixInto_28 : decode cX7_mixInto 28 = .ok (.ladd, 1) := by decide +kernel
theorem dX7_mixInto_29 : decode cX7_mixInto 29 = .ok (.lstore_n 3, 1) := by decide +kernel
theorem dX7_mixInto_30 : decode cX7_mixInto 30 = .ok (.iconst 0, 1) := by decide +kernel
theorem dX7_mixInto_31 : decode cX7_mixInto 31 = .ok (.istore 6, 2) := by decide +kernel
theorem dX7_mixInto_33 : decode cX7_mixInto 33 = .ok (.iload 6, 2) := by decide +kernel
theorem dX7_mixInto_35 : decode cX7_mixInto 35 = .ok (.aload_n 0, 1) := by decide +kernel
theorem dX7_mixInto_36 : decode cX7_mixInto 36 = .ok (.getfield 20, 3) := by decide +kernel
theorem dX7_mixInto_39 : decode cX7_mixInto 39 = .ok (.iload 5, 2) := by decide +kernel
theorem dX7_mixInto_41 : decode cX7_mixInto 41 = .ok (.iaload, 1) := by decide +kernel
theorem dX7_mixInto_42 : decode cX7_mixInto 42 = .ok (.if_icmp .ge 27, 3) := by decide +kernel
theorem dX7_mixInto_45 : decode cX7_mixInto 45 = .ok (.ldc2_w 36, 3) := by decide +kernel
theorem dX7_mixInto_48 : decode cX7_mixInto 48 = .ok (.lload_n 3, 1) := by decide +kernel
theorem dX7_mixInto_49 : decode cX7_mixInto 49 = .ok (.lmul, 1) := by decide +kernel
theorem dX7_mixInto_50 : decode cX7_mixInto 50 = .ok (.aload_n 0, 1) := by decide +kernel
theorem dX7_mixInto_51 : decode cX7_mixInto 51 = .ok (.getfield 15, 3) := by decide +kernel
theorem dX7_mixInto_54 : decode cX7_mixInto 54 = .ok (.iload 5, 2) := by decide +kernel
theorem dX7_mixInto_56 : decode cX7_mixInto 56 = .ok (.aaload, 1) := by decide +kernel
theorem dX7_mixInto_57 : decode cX7_mixInto 57 = .ok (.iload 6, 2) := by decide +kernel
theorem dX7_mixInto_59 : decode cX7_mixInto 59 = .ok (.iaload, 1) := by decide +kernel
theorem dX7_mixInto_60 : decode cX7_mixInto 60 = .ok (.i2l, 1) := by decide +kernel
theorem dX7_mixInto_61 : decode cX7_mixInto 61 = .ok (.ladd, 1) := by decide +kernel
theorem dX7_mixInto_62 : decode cX7_mixInto 62 = .ok (.lstore_n 3, 1) := by decide +kernel
theorem dX7_mixInto_63 : decode cX7_mixInto 63 = .ok (.iinc 6 1, 3) := by decide +kernel
theorem dX7_mixInto_66 : decode cX7_mixInto 66 = .ok (.goto (-33), 3) := by decide +kernel
theorem dX7_mixInto_69 : decode cX7_mixInto 69 = .ok (.iinc 5 1, 3) := by decide +kernel
theorem dX7_mixInto_72 : decode cX7_mixInto 72 = .ok (.goto (-67), 3) := by decide +kernel
theorem dX7_mixInto_75 : decode cX7_mixInto 75 = .ok (.lload_n 3, 1) := by decide +kernel
theorem dX7_mixInto_76 : decode cX7_mixInto 76 = .ok (.lreturn, 1) := by decide +kernel
def fX7_mixInto_1_L33 (v3 : Int32) : Nat → St → Int64 → Int32 → (St → Int64 → Int32 → Option (St × Int64)) → Option (St × Int64)
  | 0, _, _, _, _ => none
  | n + 1, σ5, v6, v7, k => rd LC σ5 3 v3 (fun x8 => (if x8 ≤ v7 then k σ5 v6 v7 else gd (inb v3 6) (rd LC σ5 (4 + v3.toNatClampNeg) v7 (fun x9 => fX7_mixInto_1_L33 v3 n σ5 ((31 * v6) + (x9.toInt64)) (v7 + 1) k))))
def fX7_mixInto_1_L5 : Nat → St → Int64 → Int32 → (St → Int64 → Int32 → Option (St × Int64)) → Option (St × Int64)
  | 0, _, _, _, _ => none
  | n + 1, σ1, v2, v3, k => (if (nI (LC 3)) ≤ v3 then k σ1 v2 v3 else rd LC σ1 3 v3 (fun x4 => fX7_mixInto_1_L33 v3 10000 σ1 ((31 * v2) + (x4.toInt64)) 0 (fun σ10 v11 v12 => fX7_mixInto_1_L5 n σ10 v11 (v3 + 1) k)))
def fX7_mixInto_1 (σ : St) (p1 : Int64) : Option (St × Int64) := fX7_mixInto_1_L5 10000 σ p1 0 (fun σ13 v14 v15 => some (σ13, v14))
set_option maxHeartbeats 4000000 in
set_option maxRecDepth 100000 in
theorem ctX7_mixInto_1 (l : Launch) (g : GG) (σ : St) (p1 : Int64) (σ' : St) (r : Int64) (hE : fX7_mixInto_1 σ p1 = some (σ', r)) : ML 52 entC l g yX7_mixInto (Cond.code yX7_mixInto cX7_mixInto 7 (some .long) :: gtbl) (rmD 1) [.ref (g.2.1 1), .long p1] σ σ' r := by
  refine mi_l (own := RX7) (lv := [(0, .ref (g.2.1 1)), (1, .long p1)]) (by decide) rfl (Nat.le_of_ble_eq_true rfl) rfl (fun p e s m below meth c ls args Q A H0 H locs C hK hA hQ hs hl => ?_)
  have hx := C.1
  have hb := C.2.1
  unfold fX7_mixInto_1 at hE
  refine lv_lload_n hx hb dX7_mixInto_0 rfl (lv_at hl 1 rfl) ?_
  refine lv_lstore_n (lv' := [(3, .long p1), (0, .ref (g.2.1 1)), (1, .long p1)]) hx hb dX7_mixInto_1 rfl hl (by decide) rfl (fun ls hl => ?_)
  refine lv_iconst (v := 0) hx hb dX7_mixInto_2 (by decide) ?_
  refine lv_istore (lv' := [(5, .int 0), (3, .long p1), (0, .ref (g.2.1 1)), (1, .long p1)]) hx hb dX7_mixInto_3 hl (by decide) rfl (fun ls hl => ?_)
  have hL5 : ∀ (n : Nat) (σ1 : St) (v2 : Int64) (v3 : Int32) (k : St → Int64 → Int32 → Option (St × Int64)), fX7_mixInto_1_L5 n σ1 v2 v3 k = some (σ', r) → (∀ (σ1 : St) (v2 : Int64) (v3 : Int32) (H : Heap) (locs : List Loc) (ls : Array Slot), HW 52 entC g A H0 H locs σ1 → lv_has ls 7 [(0, .ref (g.2.1 1)), (3, .long v2), (5, .int v3)] → k σ1 v2 v3 = some (σ', r) → W p l e (rmD 1) s m args below meth c H locs 0 0 Q (F0 m 75 ls [])) → ∀ (H : Heap) (locs : List Loc) (ls : Array Slot), HW 52 entC g A H0 H locs σ1 → lv_has ls 7 [(0, .ref (g.2.1 1)), (3, .long v2), (5, .int v3)] → W p l e (rmD 1) s m args below meth c H locs 0 0 Q (F0 m 5 ls []) := by
    intro n
    induction n with
    | zero =>
      intro σ1 v2 v3 k hE
      rw [fX7_mixInto_1_L5] at hE
      exact no_e hE
    | succ n ih =>
      intro σ1 v2 v3 k hE hk H locs ls hs hl
      rw [fX7_mixInto_1_L5] at hE
      refine lv_iload hx hb dX7_mixInto_5 (lv_at hl 2 rfl) ?_
      refine lv_aload_n hx hb dX7_mixInto_7 rfl (lv_at hl 0 rfl) ?_
      refine gf_X7_20_1 C hK hs dX7_mixInto_8 ?_
      refine x_len layC C hK hs (k := 3) (by decide) dX7_mixInto_11 ?_
      refine lv_icmp_ge (tgt := 75) hx hb dX7_mixInto_12 (by decide) (fun hc => ?_) (fun hc => ?_)
      · have hE := if_t hc hE
        exact hk σ1 v2 v3 _ _ _ hs (lv_sub hl [0, 1, 2] rfl) hE
      · have hE := if_f hc hE
        refine lv_ldc2 (v := 31) hx hb C.2.2.2.1 (C.2.2.2.2 _ mw_945) dX7_mixInto_15 ?_
        refine lv_lload_n hx hb dX7_mixInto_18 rfl (lv_at hl 1 rfl) ?_
        refine lv_lmul hx hb dX7_mixInto_19 ?_
        refine lv_aload_n hx hb dX7_mixInto_20 rfl (lv_at hl 0 rfl) ?_
        refine gf_X7_20_1 C hK hs dX7_mixInto_21 ?_
        refine lv_iload hx hb dX7_mixInto_24 (lv_at hl 2 rfl) ?_
        obtain ⟨hi, x4, ex4, hE⟩ := rd_w hE
        refine y_ald layC C hK hs hi ex4 dX7_mixInto_26 ?_
        refine lv_i2l (v := x4.toInt64) hx hb dX7_mixInto_27 rfl ?_
        refine lv_ladd hx hb dX7_mixInto_28 ?_
        refine lv_lstore_n (lv' := [(3, .long ((31 * v2) + (x4.toInt64))), (0, .ref (g.2.1 1)), (5, .int v3)]) hx hb dX7_mixInto_29 rfl hl (by decide) rfl (fun ls hl => ?_)
        refine lv_iconst (v := 0) hx hb dX7_mixInto_30 (by decide) ?_
        refine lv_istore (lv' := [(6, .int 0), (3, .long ((31 * v2) + (x4.toInt64))), (0, .ref (g.2.1 1)), (5, .int v3)]) hx hb dX7_mixInto_31 hl (by decide) rfl (fun ls hl => ?_)
        have hL33 : ∀ (n : Nat) (σ5 : St) (v6 : Int64) (v7 : Int32) (k : St → Int64 → Int32 → Option (St × Int64)), fX7_mixInto_1_L33 v3 n σ5 v6 v7 k = some (σ', r) → (∀ (σ5 : St) (v6 : Int64) (v7 : Int32) (H : Heap) (locs : List Loc) (ls : Array Slot), HW 52 entC g A H0 H locs σ5 → lv_has ls 7 [(0, .ref (g.2.1 1)), (3, .long v6), (5, .int v3), (6, .int v7)] → k σ5 v6 v7 = some (σ', r) → W p l e (rmD 1) s m args below meth c H locs 0 0 Q (F0 m 69 ls [])) → ∀ (H : Heap) (locs : List Loc) (ls : Array Slot), HW 52 entC g A H0 H locs σ5 → lv_has ls 7 [(0, .ref (g.2.1 1)), (3, .long v6), (5, .int v3), (6, .int v7)] → W p l e (rmD 1) s m args below meth c H locs 0 0 Q (F0 m 33 ls []) := by
          intro n
          induction n with
          | zero =>
            intro σ5 v6 v7 k hE
            rw [fX7_mixInto_1_L33] at hE
            exact no_e hE
          | succ n ih =>
            intro σ5 v6 v7 k hE hk H locs ls hs hl
            rw [fX7_mixInto_1_L33] at hE
            refine lv_iload hx hb dX7_mixInto_33 (lv_at hl 3 rfl) ?_
            refine lv_aload_n hx hb dX7_mixInto_35 rfl (lv_at hl 0 rfl) ?_
            refine gf_X7_20_1 C hK hs dX7_mixInto_36 ?_
            refine lv_iload hx hb dX7_mixInto_39 (lv_at hl 2 rfl) ?_
            obtain ⟨hi, x8, ex8, hE⟩ := rd_w hE
            refine y_ald layC C hK hs hi ex8 dX7_mixInto_41 ?_
            refine lv_icmp_ge (tgt := 69) hx hb dX7_mixInto_42 (by decide) (fun hc => ?_) (fun hc => ?_)
            · have hE := if_t hc hE
              exact hk σ5 v6 v7 _ _ _ hs (lv_sub hl [0, 1, 2, 3] rfl) hE
            · have hE := if_f hc hE
              refine lv_ldc2 (v := 31) hx hb C.2.2.2.1 (C.2.2.2.2 _ mw_945) dX7_mixInto_45 ?_
              refine lv_lload_n hx hb dX7_mixInto_48 rfl (lv_at hl 1 rfl) ?_
              refine lv_lmul hx hb dX7_mixInto_49 ?_
              refine lv_aload_n hx hb dX7_mixInto_50 rfl (lv_at hl 0 rfl) ?_
              refine gf_X7_15_1 C hK hs dX7_mixInto_51 ?_
              refine lv_iload hx hb dX7_mixInto_54 (lv_at hl 2 rfl) ?_
              obtain ⟨hi, hE⟩ := gd_e hE
              refine y_gld C hK hs 2 6 4 (by decide) rfl hi dX7_mixInto_56 ?_
              refine lv_iload hx hb dX7_mixInto_57 (lv_at hl 3 rfl) ?_
              obtain ⟨hi, x9, ex9, hE⟩ := rd_w hE
              refine y_ald layC C hK hs hi ex9 dX7_mixInto_59 ?_
              refine lv_i2l (v := x9.toInt64) hx hb dX7_mixInto_60 rfl ?_
              refine lv_ladd hx hb dX7_mixInto_61 ?_
              refine lv_lstore_n (lv' := [(3, .long ((31 * v6) + (x9.toInt64))), (0, .ref (g.2.1 1)), (5, .int v3), (6, .int v7)]) hx hb dX7_mixInto_62 rfl hl (by decide) rfl (fun ls hl => ?_)
              refine lv_iinc (v := v7 + 1) (lv' := [(6, .int (v7 + 1)), (3, .long ((31 * v6) + (x9.toInt64))), (0, .ref (g.2.1 1)), (5, .int v3)]) hx hb dX7_mixInto_63 hl (k := 3) rfl rfl (by decide) rfl (fun ls hl => ?_)
              refine lv_goto (tgt := 33) hx hb dX7_mixInto_66 (by decide) ?_
              exact ih _ _ _ _ hE hk _ _ _ hs (lv_sub hl [2, 1, 3, 0] rfl)
        refine hL33 _ _ _ _ _ hE (fun σ10 v11 v12 H locs ls hs hl hE => ?_) H locs ls hs (lv_sub hl [2, 1, 3, 0] rfl)
        refine lv_iinc (v := v3 + 1) (lv' := [(5, .int (v3 + 1)), (0, .ref (g.2.1 1)), (3, .long v11), (6, .int v12)]) hx hb dX7_mixInto_69 hl (k := 2) rfl rfl (by decide) rfl (fun ls hl => ?_)
        refine lv_goto (tgt := 5) hx hb dX7_mixInto_72 (by decide) ?_
        exact ih _ _ _ _ hE hk _ _ _ hs (lv_sub hl [1, 2, 0] rfl)
  refine hL5 _ _ _ _ _ hE (fun σ13 v14 v15 H locs ls hs hl hE => ?_) H locs ls hs (lv_sub hl [2, 1, 0] rfl)
  refine lv_lload_n hx hb dX7_mixInto_75 rfl (lv_at hl 1 rfl) ?_
  exact hQ hs hE dX7_mixInto_76
def fX7_mixInto_10_L33 (v3 : Int32) : Nat → St → Int64 → Int32 → (St → Int64 → Int32 → Option (St × Int64)) → Option (St × Int64)
  | 0, _, _, _, _ => none
  | n + 1, σ5, v6, v7, k => rd LC σ5 12 v3 (fun x8 => (if x8 ≤ v7 then k σ5 v6 v7 else gd (inb v3 4) (rd LC σ5 (13 + v3.toNatClampNeg) v7 (fun x9 => fX7_mixInto_10_L33 v3 n σ5 ((31 * v6) + (x9.toInt64)) (v7 + 1) k))))
def fX7_mixInto_10_L5 : Nat → St → Int64 → Int32 → (St → Int64 → Int32 → Option (St × Int64)) → Option (St × Int64)
  | 0, _, _, _, _ => none
  | n + 1, σ1, v2, v3, k => (if (nI (LC 12)) ≤ v3 then k σ1 v2 v3 else rd LC σ1 12 v3 (fun x4 => fX7_mixInto_10_L33 v3 10000 σ1 ((31 * v2) + (x4.toInt64)) 0 (fun σ10 v11 v12 => fX7_mixInto_10_L5 n σ10 v11 (v3 + 1) k)))
def fX7_mixInto_10 (σ : St) (p1 : Int64) : Option (St × Int64) := fX7_mixInto_10_L5 10000 σ p1 0 (fun σ13 v14 v15 => some (σ13, v14))
set_option maxHeartbeats 4000000 in
set_option maxRecDepth 100000 in
theorem ctX7_mixInto_10 (l : Launch) (g : GG) (σ : St) (p1 : Int64) (σ' : St) (r : Int64) (hE : fX7_mixInto_10 σ p1 = some (σ', r)) : ML 52 entC l g yX7_mixInto (Cond.code yX7_mixInto cX7_mixInto 7 (some .long) :: gtbl) (rmD 1) [.ref (g.2.1 10), .long p1] σ σ' r := by
  refine mi_l (own := RX7) (lv := [(0, .ref (g.2.1 10)), (1, .long p1)]) (by decide) rfl (Nat.le_of_ble_eq_true rfl) rfl (fun p e s m below meth c ls args Q A H0 H locs C hK hA hQ hs hl => ?_)
  have hx := C.1
  have hb := C.2.1
  unfold fX7_mixInto_10 at hE
  refine lv_lload_n hx hb dX7_mixInto_0 rfl (lv_at hl 1 rfl) ?_
  refine lv_lstore_n (lv' := [(3, .long p1), (0, .ref (g.2.1 10)), (1, .long p1)]) hx hb dX7_mixInto_1 rfl hl (by decide) rfl (fun ls hl => ?_)
  refine lv_iconst (v := 0) hx hb dX7_mixInto_2 (by decide) ?_
  refine lv_istore (lv' := [(5, .int 0), (3, .long p1), (0, .ref (g.2.1 10)), (1, .long p1)]) hx hb dX7_mixInto_3 hl (by decide) rfl (fun ls hl => ?_)
  have hL5 : ∀ (n : Nat) (σ1 : St) (v2 : Int64) (v3 : Int32) (k : St → Int64 → Int32 → Option (St × Int64)), fX7_mixInto_10_L5 n σ1 v2 v3 k = some (σ', r) → (∀ (σ1 : St) (v2 : Int64) (v3 : Int32) (H : Heap) (locs : List Loc) (ls : Array Slot), HW 52 entC g A H0 H locs σ1 → lv_has ls 7 [(0, .ref (g.2.1 10)), (3, .long v2), (5, .int v3)] → k σ1 v2 v3 = some (σ', r) → W p l e (rmD 1) s m args below meth c H locs 0 0 Q (F0 m 75 ls [])) → ∀ (H : Heap) (locs : List Loc) (ls : Array Slot), HW 52 entC g A H0 H locs σ1 → lv_has ls 7 [(0, .ref (g.2.1 10)), (3, .long v2), (5, .int v3)] → W p l e (rmD 1) s m args below meth c H locs 0 0 Q (F0 m 5 ls []) := by
    intro n
    induction n with
    | zero =>
      intro σ1 v2 v3 k hE
      rw [fX7_mixInto_10_L5] at hE
      exact no_e hE
    | succ n ih =>
      intro σ1 v2 v3 k hE hk H locs ls hs hl
      rw [fX7_mixInto_10_L5] at hE
      refine lv_iload hx hb dX7_mixInto_5 (lv_at hl 2 rfl) ?_
      refine lv_aload_n hx hb dX7_mixInto_7 rfl (lv_at hl 0 rfl) ?_
      refine gf_X7_20_10 C hK hs dX7_mixInto_8 ?_
      refine x_len layC C hK hs (k := 12) (by decide) dX7_mixInto_11 ?_
      refine lv_icmp_ge (tgt := 75) hx hb dX7_mixInto_12 (by decide) (fun hc => ?_) (fun hc => ?_)
      · have hE := if_t hc hE
        exact hk σ1 v2 v3 _ _ _ hs (lv_sub hl [0, 1, 2] rfl) hE
      · have hE := if_f hc hE
        refine lv_ldc2 (v := 31) hx hb C.2.2.2.1 (C.2.2.2.2 _ mw_945) dX7_mixInto_15 ?_
        refine lv_lload_n hx hb dX7_mixInto_18 rfl (lv_at hl 1 rfl) ?_
        refine lv_lmul hx hb dX7_mixInto_19 ?_
        refine lv_aload_n hx hb dX7_mixInto_20 rfl (lv_at hl 0 rfl) ?_
        refine gf_X7_20_10 C hK hs dX7_mixInto_21 ?_
        refine lv_iload hx hb dX7_mixInto_24 (lv_at hl 2 rfl) ?_
        obtain ⟨hi, x4, ex4, hE⟩ := rd_w hE
        refine y_ald layC C hK hs hi ex4 dX7_mixInto_26 ?_
        refine lv_i2l (v := x4.toInt64) hx hb dX7_mixInto_27 rfl ?_
        refine lv_ladd hx hb dX7_mixInto_28 ?_
        refine lv_lstore_n (lv' := [(3, .long ((31 * v2) + (x4.toInt64))), (0, .ref (g.2.1 10)), (5, .int v3)]) hx hb dX7_mixInto_29 rfl hl (by decide) rfl (fun ls hl => ?_)
        refine lv_iconst (v := 0) hx hb dX7_mixInto_30 (by decide) ?_
        refine lv_istore (lv' := [(6, .int 0), (3, .long ((31 * v2) + (x4.toInt64))), (0, .ref (g.2.1 10)), (5, .int v3)]) hx hb dX7_mixInto_31 hl (by decide) rfl (fun ls hl => ?_)
        have hL33 : ∀ (n : Nat) (σ5 : St) (v6 : Int64) (v7 : Int32) (k : St → Int64 → Int32 → Option (St × Int64)), fX7_mixInto_10_L33 v3 n σ5 v6 v7 k = some (σ', r) → (∀ (σ5 : St) (v6 : Int64) (v7 : Int32) (H : Heap) (locs : List Loc) (ls : Array Slot), HW 52 entC g A H0 H locs σ5 → lv_has ls 7 [(0, .ref (g.2.1 10)), (3, .long v6), (5, .int v3), (6, .int v7)] → k σ5 v6 v7 = some (σ', r) → W p l e (rmD 1) s m args below meth c H locs 0 0 Q (F0 m 69 ls [])) → ∀ (H : Heap) (locs : List Loc) (ls : Array Slot), HW 52 entC g A H0 H locs σ5 → lv_has ls 7 [(0, .ref (g.2.1 10)), (3, .long v6), (5, .int v3), (6, .int v7)] → W p l e (rmD 1) s m args below meth c H locs 0 0 Q (F0 m 33 ls []) := by
          intro n
          induction n with
          | zero =>
            intro σ5 v6 v7 k hE
            rw [fX7_mixInto_10_L33] at hE
            exact no_e hE
          | succ n ih =>
            intro σ5 v6 v7 k hE hk H locs ls hs hl
            rw [fX7_mixInto_10_L33] at hE
            refine lv_iload hx hb dX7_mixInto_33 (lv_at hl 3 rfl) ?_
            refine lv_aload_n hx hb dX7_mixInto_35 rfl (lv_at hl 0 rfl) ?_
            refine gf_X7_20_10 C hK hs dX7_mixInto_36 ?_
            refine lv_iload hx hb dX7_mixInto_39 (lv_at hl 2 rfl) ?_
            obtain ⟨hi, x8, ex8, hE⟩ := rd_w hE
            refine y_ald layC C hK hs hi ex8 dX7_mixInto_41 ?_
            refine lv_icmp_ge (tgt := 69) hx hb dX7_mixInto_42 (by decide) (fun hc => ?_) (fun hc => ?_)
            · have hE := if_t hc hE
              exact hk σ5 v6 v7 _ _ _ hs (lv_sub hl [0, 1, 2, 3] rfl) hE
            · have hE := if_f hc hE
              refine lv_ldc2 (v := 31) hx hb C.2.2.2.1 (C.2.2.2.2 _ mw_945) dX7_mixInto_45 ?_
              refine lv_lload_n hx hb dX7_mixInto_48 rfl (lv_at hl 1 rfl) ?_
              refine lv_lmul hx hb dX7_mixInto_49 ?_
              refine lv_aload_n hx hb dX7_mixInto_50 rfl (lv_at hl 0 rfl) ?_
              refine gf_X7_15_10 C hK hs dX7_mixInto_51 ?_
              refine lv_iload hx hb dX7_mixInto_54 (lv_at hl 2 rfl) ?_
              obtain ⟨hi, hE⟩ := gd_e hE
              refine y_gld C hK hs 11 4 13 (by decide) rfl hi dX7_mixInto_56 ?_
              refine lv_iload hx hb dX7_mixInto_57 (lv_at hl 3 rfl) ?_
              obtain ⟨hi, x9, ex9, hE⟩ := rd_w hE
              refine y_ald layC C hK hs hi ex9 dX7_mixInto_59 ?_
              refine lv_i2l (v := x9.toInt64) hx hb dX7_mixInto_60 rfl ?_
              refine lv_ladd hx hb dX7_mixInto_61 ?_
              refine lv_lstore_n (lv' := [(3, .long ((31 * v6) + (x9.toInt64))), (0, .ref (g.2.1 10)), (5, .int v3), (6, .int v7)]) hx hb dX7_mixInto_62 rfl hl (by decide) rfl (fun ls hl => ?_)
              refine lv_iinc (v := v7 + 1) (lv' := [(6, .int (v7 + 1)), (3, .long ((31 * v6) + (x9.toInt64))), (0, .ref (g.2.1 10)), (5, .int v3)]) hx hb dX7_mixInto_63 hl (k := 3) rfl rfl (by decide) rfl (fun ls hl => ?_)
              refine lv_goto (tgt := 33) hx hb dX7_mixInto_66 (by decide) ?_
              exact ih _ _ _ _ hE hk _ _ _ hs (lv_sub hl [2, 1, 3, 0] rfl)
        refine hL33 _ _ _ _ _ hE (fun σ10 v11 v12 H locs ls hs hl hE => ?_) H locs ls hs (lv_sub hl [2, 1, 3, 0] rfl)
        refine lv_iinc (v := v3 + 1) (lv' := [(5, .int (v3 + 1)), (0, .ref (g.2.1 10)), (3, .long v11), (6, .int v12)]) hx hb dX7_mixInto_69 hl (k := 2) rfl rfl (by decide) rfl (fun ls hl => ?_)
        refine lv_goto (tgt := 5) hx hb dX7_mixInto_72 (by decide) ?_
        exact ih _ _ _ _ hE hk _ _ _ hs (lv_sub hl [1, 2, 0] rfl)
  refine hL5 _ _ _ _ _ hE (fun σ13 v14 v15 H locs ls hs hl hE => ?_) H locs ls hs (lv_sub hl [2, 1, 0] rfl)
  refine lv_lload_n hx hb dX7_mixInto_75 rfl (lv_at hl 1 rfl) ?_
  exact hQ hs hE dX7_mixInto_76
theorem dX8_isToldAlready_0 : decode cX8_isToldAlready 0 = .ok (.iconst 0, 1) := by decide +kernel
theorem dX8_isToldAlready_1 : decode cX8_isToldAlready 1 = .ok (.istore_n 2, 1) := by decide +kernel
theorem dX8_isToldAlready_2 : decode cX8_isToldAlready 2 = .ok (.iload_n 2, 1) := by decide +kernel
theorem dX8_isToldAlready_3 : decode cX8_isToldAlready 3 = .ok (.aload_n 0, 1) := by decide +kernel
theorem dX8_isToldAlready_4 : decode cX8_isToldAlready 4 = .ok (.getfield 32, 3) := by decide +kernel
theorem dX8_isToldAlready_7 : decode cX8_isToldAlready 7 = .ok (.if_icmp .ge 24, 3) := by decide +kernel
theorem dX8_isToldAlready_10 : decode cX8_isToldAlready 10 = .ok (.aload_n 0, 1) := by decide +kernel
theorem dX8_isToldAlready_11 : decode cX8_isToldAlready 11 = .ok (.aload_n 1, 1) := by decide +kernel
theorem dX8_isToldAlready_12 : decode cX8_isToldAlready 12 = .ok (.iload_n 2, 1) := by decide +kernel
theorem dX8_isToldAlready_13 : decode cX8_isToldAlready 13 = .ok (.aload_n 0, 1) := by decide +kernel
theorem dX8_isToldAlready_14 : decode cX8_isToldAlready 14 = .ok (.getfield 32, 3) := by decide +kernel
theorem dX8_isToldAlready_17 : decode cX8_isToldAlready 17 = .ok (.invokevirtual 84, 3) := by decide +kernel
theorem dX8_isToldAlready_20 : decode cX8_isToldAlready 20 = .ok (.ifCond .ne 5, 3) := by decide +kernel
theorem dX8_isToldAlready_23 : decode cX8_isToldAlready 23 = .ok (.iconst 1, 1) := by decide +kernel
theorem dX8_isToldAlready_24 : decode cX8_isToldAlready 24 = .ok (.ireturn, 1) := by decide +kernel
theorem dX8_isToldAlready_25 : decode cX8_isToldAlready 25 = .ok (.iinc 2 1, 3) := by decide +kernel
theorem dX8_isToldAlready_28 : decode cX8_isToldAlready 28 = .ok (.goto (-26), 3) := by decide +kernel
theorem dX8_isToldAlready_31 : decode cX8_isToldAlready 31 = .ok (.iconst 0, 1) := by decide +kernel
theorem dX8_isToldAlready_32 : decode cX8_isToldAlready 32 = .ok (.ireturn, 1) := by decide +kernel
def fX8_isToldAlready_L2 (p1 : Nat) : Nat → St → Int32 → (St → Int32 → Option (St × Int32)) → Option (St × Int32)
  | 0, _, _, _ => none
  | n + 1, σ1, v2, k => (if (σ1.1 17 6) ≤ v2 then k σ1 v2 else cl (fX8_compareNames σ1 p1 v2 (σ1.1 17 6)) (fun σ3 r4 => (if r4 = 0 then some (σ3, 1) else fX8_isToldAlready_L2 p1 n σ3 (v2 + 1) k)))
def fX8_isToldAlready (σ : St) (p1 : Nat) : Option (St × Int32) := fX8_isToldAlready_L2 p1 10000 σ 0 (fun σ5 v6 => some (σ5, 0))
set_option maxHeartbeats 4000000 in
set_option maxRecDepth 100000 in
theorem ctX8_isToldAlready (l : Launch) (g : GG) (σ : St) (p1 : Nat) (σ' : St) (r : Int32) (hE : fX8_isToldAlready σ p1 = some (σ', r)) : MI 52 entC l g yX8_isToldAlready (Cond.code yX8_isToldAlready cX8_isToldAlready 3 (some .boolean) :: gtbl) (rmD 3) [.ref (g.2.1 17), .ref (g.2.1 p1)] σ σ' r := by
  refine mi_z (own := RX8) (lv := [(0, .ref (g.2.1 17)), (1, .ref (g.2.1 p1))]) (by decide) rfl (Nat.le_of_ble_eq_true rfl) rfl (fun p e s m below meth c ls args Q A H0 H locs C hK hA hQ hs hl => ?_)
  have hx := C.1
  have hb := C.2.1
  unfold fX8_isToldAlready at hE
  refine lv_iconst (v := 0) hx hb dX8_isToldAlready_0 (by decide) ?_
  refine lv_istore_n (lv' := [(2, .int 0), (0, .ref (g.2.1 17)), (1, .ref (g.2.1 p1))]) hx hb dX8_isToldAlready_1 rfl hl (by decide) rfl (fun ls hl => ?_)
  have hL2 : ∀ (n : Nat) (σ1 : St) (v2 : Int32) (k : St → Int32 → Option (St × Int32)), fX8_isToldAlready_L2 p1 n σ1 v2 k = some (σ', r) → (∀ (σ1 : St) (v2 : Int32) (H : Heap) (locs : List Loc) (ls : Array Slot), HW 52 entC g A H0 H locs σ1 → lv_has ls 3 [(0, .ref (g.2.1 17)), (1, .ref (g.2.1 p1)), (2, .int v2)] → k σ1 v2 = some (σ', r) → W p l e (rmD 3) s m args below meth c H locs 0 0 Q (F0 m 31 ls [])) → ∀ (H : Heap) (locs : List Loc) (ls : Array Slot), HW 52 entC g A H0 H locs σ1 → lv_has ls 3 [(0, .ref (g.2.1 17)), (1, .ref (g.2.1 p1)), (2, .int v2)] → W p l e (rmD 3) s m args below meth c H locs 0 0 Q (F0 m 2 ls []) := by
    intro n
    induction n with
    | zero =>
      intro σ1 v2 k hE
      rw [fX8_isToldAlready_L2] at hE
      exact no_e hE
    | succ n ih =>
      intro σ1 v2 k hE hk H locs ls hs hl
      rw [fX8_isToldAlready_L2] at hE
      refine lv_iload_n hx hb dX8_isToldAlready_2 rfl (lv_at hl 2 rfl) ?_
      refine lv_aload_n hx hb dX8_isToldAlready_3 rfl (lv_at hl 0 rfl) ?_
      refine gf_X8_32_17 C hK hs dX8_isToldAlready_4 ?_
      refine lv_icmp_ge (tgt := 31) hx hb dX8_isToldAlready_7 (by decide) (fun hc => ?_) (fun hc => ?_)
      · have hE := if_t hc hE
        exact hk σ1 v2 _ _ _ hs (lv_sub hl [0, 1, 2] rfl) hE
      · have hE := if_f hc hE
        refine lv_aload_n hx hb dX8_isToldAlready_10 rfl (lv_at hl 0 rfl) ?_
        refine lv_aload_n hx hb dX8_isToldAlready_11 rfl (lv_at hl 1 rfl) ?_
        refine lv_iload_n hx hb dX8_isToldAlready_12 rfl (lv_at hl 2 rfl) ?_
        refine lv_aload_n hx hb dX8_isToldAlready_13 rfl (lv_at hl 0 rfl) ?_
        refine gf_X8_32_17 C hK hs dX8_isToldAlready_14 ?_
        obtain ⟨σ3, r4, hE1, hE⟩ := cl_e hE
        refine x_civ (As := [.ref (g.2.1 p1), .int v2, .int (σ1.1 17 6)]) (rest := []) C hl.1 hK hs hA ⟨Nat.le_refl 0, Nat.le_refl 0⟩ (ctX8_compareNames l g _ _ _ _ _ _ hE1) (cw_X8_84 C ⟨Nat.le_of_ble_eq_true rfl, Nat.le_of_ble_eq_true rfl⟩) (hs.recv hK 17 (by decide) rfl rfl) rfl rfl (Nat.le_of_ble_eq_true rfl) dX8_isToldAlready_17 (fun H locs hs => ?_)
        refine lv_if_ne (tgt := 25) hx hb dX8_isToldAlready_20 (by decide) (fun hc => ?_) (fun hc => ?_)
        · have hE := if_f hc hE
          refine lv_iinc (v := v2 + 1) (lv' := [(2, .int (v2 + 1)), (0, .ref (g.2.1 17)), (1, .ref (g.2.1 p1))]) hx hb dX8_isToldAlready_25 hl (k := 2) rfl rfl (by decide) rfl (fun ls hl => ?_)
          refine lv_goto (tgt := 2) hx hb dX8_isToldAlready_28 (by decide) ?_
          exact ih _ _ _ hE hk _ _ _ hs (lv_sub hl [1, 2, 0] rfl)
        · have hE := if_t hc hE
          refine lv_iconst (v := 1) hx hb dX8_isToldAlready_23 (by decide) ?_
          exact hQ hs rfl hE dX8_isToldAlready_24
  refine hL2 _ _ _ _ hE (fun σ5 v6 H locs ls hs hl hE => ?_) H locs ls hs (lv_sub hl [1, 2, 0] rfl)
  refine lv_iconst (v := 0) hx hb dX8_isToldAlready_31 (by decide) ?_
  exact hQ hs rfl hE dX8_isToldAlready_32
theorem dX8_closeColour_0 : decode cX8_closeColour 0 = .ok (.aload_n 0, 1) := by decide +kernel
theorem dX8_closeColour_1 : decode cX8_closeColour 1 = .ok (.dup, 1) := by decide +kernel
theorem dX8_closeColour_2 : decode cX8_closeColour 2 = .ok (.getfield 32, 3) := by decide +kernel
theorem dX8_closeColour_5 : decode cX8_closeColour 5 = .ok (.iconst 1, 1) := by decide +kernel
theorem dX8_closeColour_6 : decode cX8_closeColour 6 = .ok (.iadd, 1) := by decide +kernel
theorem dX8_closeColour_7 : decode cX8_closeColour 7 = .ok (.putfield 32, 3) := by decide +kernel
theorem dX8_closeColour_10 : decode cX8_closeColour 10 = .ok (.aload_n 0, 1) := by decide +kernel
theorem dX8_closeColour_11 : decode cX8_closeColour 11 = .ok (.iconst 0, 1) := by decide +kernel
theorem dX8_closeColour_12 : decode cX8_closeColour 12 = .ok (.putfield 39, 3) := by decide +kernel
theorem dX8_closeColour_15 : decode cX8_closeColour 15 = .ok (.bipush (-9), 2) := by decide +kernel
theorem dX8_closeColour_17 : decode cX8_closeColour 17 = .ok (.ireturn, 1) := by decide +kernel
def fX8_closeColour (σ : St) : Option (St × Int32) := pt (su σ 17 6 ((σ.1 17 6) + 1)) (fun σ1 => pt (su σ1 17 8 0) (fun σ2 => some (σ2, (-9))))
set_option maxHeartbeats 4000000 in
set_option maxRecDepth 100000 in
theorem ctX8_closeColour (l : Launch) (g : GG) (σ : St) (σ' : St) (r : Int32) (hE : fX8_closeColour σ  = some (σ', r)) : MI 52 entC l g yX8_closeColour (Cond.code yX8_closeColour cX8_closeColour 1 (some .int) :: gtbl) (rmD 1) [.ref (g.2.1 17)] σ σ' r := by
  refine mi_i (own := RX8) (lv := [(0, .ref (g.2.1 17))]) (by decide) rfl (Nat.le_of_ble_eq_true rfl) rfl (fun p e s m below meth c ls args Q A H0 H locs C hK hA hQ hs hl => ?_)
  have hx := C.1
  have hb := C.2.1
  unfold fX8_closeColour at hE
  refine lv_aload_n hx hb dX8_closeColour_0 rfl (lv_at hl 0 rfl) ?_
  refine lv_dup hx hb dX8_closeColour_1 rfl ?_
  refine gf_X8_32_17 C hK hs dX8_closeColour_2 ?_
  refine lv_iconst (v := 1) hx hb dX8_closeColour_5 (by decide) ?_
  refine lv_iadd hx hb dX8_closeColour_6 ?_
  obtain ⟨σ1, eσ1, hE⟩ := pt_w hE
  refine pf_X8_32_17 C hK hs eσ1 dX8_closeColour_7 (fun H locs hs => ?_)
  refine lv_aload_n hx hb dX8_closeColour_10 rfl (lv_at hl 0 rfl) ?_
  refine lv_iconst (v := 0) hx hb dX8_closeColour_11 (by decide) ?_
  obtain ⟨σ2, eσ2, hE⟩ := pt_w hE
  refine pf_X8_39_17 C hK hs eσ2 dX8_closeColour_12 (fun H locs hs => ?_)
  refine lv_bipush (v := (-9)) hx hb dX8_closeColour_15 (by decide) ?_
  exact hQ hs hE dX8_closeColour_17
theorem dX8_closeHouse_0 : decode cX8_closeHouse 0 = .ok (.aload_n 0, 1) := by decide +kernel
theorem dX8_closeHouse_1 : decode cX8_closeHouse 1 = .ok (.dup, 1) := by decide +kernel
theorem dX8_closeHouse_2 : decode cX8_closeHouse 2 = .ok (.getfield 36, 3) := by decide +kernel
theorem dX8_closeHouse_5 : decode cX8_closeHouse 5 = .ok (.iconst 1, 1) := by decide +kernel
theorem dX8_closeHouse_6 : decode cX8_closeHouse 6 = .ok (.iadd, 1) := by decide +kernel
theorem dX8_closeHouse_7 : decode cX8_closeHouse 7 = .ok (.putfield 36, 3) := by decide +kernel
theorem dX8_closeHouse_10 : decode cX8_closeHouse 10 = .ok (.aload_n 0, 1) := by decide +kernel
theorem dX8_closeHouse_11 : decode cX8_closeHouse 11 = .ok (.iconst 0, 1) := by decide +kernel
theorem dX8_closeHouse_12 : decode cX8_closeHouse 12 = .ok (.putfield 39, 3) := by decide +kernel
theorem dX8_closeHouse_15 : decode cX8_closeHouse 15 = .ok (.bipush (-9), 2) := by decide +kernel
theorem dX8_closeHouse_17 : decode cX8_closeHouse 17 = .ok (.ireturn, 1) := by decide +kernel
def fX8_closeHouse (σ : St) : Option (St × Int32) := pt (su σ 17 7 ((σ.1 17 7) + 1)) (fun σ1 => pt (su σ1 17 8 0) (fun σ2 => some (σ2, (-9))))
set_option maxHeartbeats 4000000 in
set_option maxRecDepth 100000 in
theorem ctX8_closeHouse (l : Launch) (g : GG) (σ : St) (σ' : St) (r : Int32) (hE : fX8_closeHouse σ  = some (σ', r)) : MI 52 entC l g yX8_closeHouse (Cond.code yX8_closeHouse cX8_closeHouse 1 (some .int) :: gtbl) (rmD 1) [.ref (g.2.1 17)] σ σ' r := by
  refine mi_i (own := RX8) (lv := [(0, .ref (g.2.1 17))]) (by decide) rfl (Nat.le_of_ble_eq_true rfl) rfl (fun p e s m below meth c ls args Q A H0 H locs C hK hA hQ hs hl => ?_)
  have hx := C.1
  have hb := C.2.1
  unfold fX8_closeHouse at hE
  refine lv_aload_n hx hb dX8_closeHouse_0 rfl (lv_at hl 0 rfl) ?_
  refine lv_dup hx hb dX8_closeHouse_1 rfl ?_
  refine gf_X8_36_17 C hK hs dX8_closeHouse_2 ?_
  refine lv_iconst (v := 1) hx hb dX8_closeHouse_5 (by decide) ?_
  refine lv_iadd hx hb dX8_closeHouse_6 ?_
  obtain ⟨σ1, eσ1, hE⟩ := pt_w hE
  refine pf_X8_36_17 C hK hs eσ1 dX8_closeHouse_7 (fun H locs hs => ?_)
  refine lv_aload_n hx hb dX8_closeHouse_10 rfl (lv_at hl 0 rfl) ?_
  refine lv_iconst (v := 0) hx hb dX8_closeHouse_11 (by decide) ?_
  obtain ⟨σ2, eσ2, hE⟩ := pt_w hE
  refine pf_X8_39_17 C hK hs eσ2 dX8_closeHouse_12 (fun H locs hs => ?_)
  refine lv_bipush (v := (-9)) hx hb dX8_closeHouse_15 (by decide) ?_
  exact hQ hs hE dX8_closeHouse_17
theorem dX8_isFigure_0 : decode cX8_isFigure 0 = .ok (.iload_n 0, 1) := by decide +kernel
theorem dX8_isFigure_1 : decode cX8_isFigure 1 = .ok (.bipush 48, 2) := by decide +kernel
theorem dX8_isFigure_3 : decode cX8_isFigure 3 = .ok (.iload_n 1, 1) := by decide +kernel
theorem dX8_isFigure_4 : decode cX8_isFigure 4 = .ok (.iadd, 1) := by decide +kernel
theorem dX8_isFigure_5 : decode cX8_isFigure 5 = .ok (.if_icmp .lt 13, 3) := by decide +kernel
theorem dX8_isFigure_8 : decode cX8_isFigure 8 = .ok (.iload_n 0, 1) := by decide +kernel
theorem dX8_isFigure_9 : decode cX8_isFigure 9 = .ok (.bipush 57, 2) := by decide +kernel
theorem dX8_isFigure_11 : decode cX8_isFigure 11 = .ok (.if_icmp .gt 7, 3) := by decide +kernel
theorem dX8_isFigure_14 : decode cX8_isFigure 14 = .ok (.iconst 1, 1) := by decide +kernel
theorem dX8_isFigure_15 : decode cX8_isFigure 15 = .ok (.goto 4, 3) := by decide +kernel
theorem dX8_isFigure_18 : decode cX8_isFigure 18 = .ok (.iconst 0, 1) := by decide +kernel
theorem dX8_isFigure_19 : decode cX8_isFigure 19 = .ok (.ireturn, 1) := by decide +kernel
def fX8_isFigure (σ : St) (p0 : Int32) (p1 : Int32) : Option (St × Int32) := (if p0 < (48 + p1) then some (σ, 0) else (if 57 < p0 then some (σ, 0) else some (σ, 1)))
set_option maxHeartbeats 4000000 in
set_option maxRecDepth 100000 in
theorem ctX8_isFigure (l : Launch) (g : GG) (σ : St) (p0 : Int32) (p1 : Int32) (σ' : St) (r : Int32) (hE : fX8_isFigure σ p0 p1 = some (σ', r)) : MI 52 entC l g yX8_isFigure (Cond.code yX8_isFigure cX8_isFigure 2 (some .boolean) :: gtbl) (rmD 1) [.int p0, .int p1] σ σ' r := by
  refine mi_z (own := RX8) (lv := [(0, .int p0), (1, .int p1)]) (by decide) rfl (Nat.le_of_ble_eq_true rfl) rfl (fun p e s m below meth c ls args Q A H0 H locs C hK hA hQ hs hl => ?_)
  have hx := C.1
  have hb := C.2.1
  unfold fX8_isFigure at hE
  refine lv_iload_n hx hb dX8_isFigure_0 rfl (lv_at hl 0 rfl) ?_
  refine lv_bipush (v := 48) hx hb dX8_isFigure_1 (by decide) ?_
  refine lv_iload_n hx hb dX8_isFigure_3 rfl (lv_at hl 1 rfl) ?_
  refine lv_iadd hx hb dX8_isFigure_4 ?_
  refine lv_icmp_lt (tgt := 18) hx hb dX8_isFigure_5 (by decide) (fun hc => ?_) (fun hc => ?_)
  · have hE := if_t hc hE
    refine lv_iconst (v := 0) hx hb dX8_isFigure_18 (by decide) ?_
    exact hQ hs rfl hE dX8_isFigure_19
  · have hE := if_f hc hE
    refine lv_iload_n hx hb dX8_isFigure_8 rfl (lv_at hl 0 rfl) ?_
    refine lv_bipush (v := 57) hx hb dX8_isFigure_9 (by decide) ?_
    refine lv_icmp_gt (tgt := 18) hx hb dX8_isFigure_11 (by decide) (fun hc => ?_) (fun hc => ?_)
    · have hE := if_t hc hE
      refine lv_iconst (v := 0) hx hb dX8_isFigure_18 (by decide) ?_
      exact hQ hs rfl hE dX8_isFigure_19
    · have hE := if_f hc hE
      refine lv_iconst (v := 1) hx hb dX8_isFigure_14 (by decide) ?_
      refine lv_goto (tgt := 19) hx hb dX8_isFigure_15 (by decide) ?_
      exact hQ hs rfl hE dX8_isFigure_19
theorem dX8_isSmall_0 : decode cX8_isSmall 0 = .ok (.iload_n 0, 1) := by decide +kernel
theorem dX8_isSmall_1 : decode cX8_isSmall 1 = .ok (.bipush 97, 2) := by decide +kernel
theorem dX8_isSmall_3 : decode cX8_isSmall 3 = .ok (.if_icmp .lt 13, 3) := by decide +kernel
theorem dX8_isSmall_6 : decode cX8_isSmall 6 = .ok (.iload_n 0, 1) := by decide +kernel
theorem dX8_isSmall_7 : decode cX8_isSmall 7 = .ok (.bipush 122, 2) := by decide +kernel
theorem dX8_isSmall_9 : decode cX8_isSmall 9 = .ok (.if_icmp .gt 7, 3) := by decide +kernel
theorem dX8_isSmall_12 : decode cX8_isSmall 12 = .ok (.iconst 1, 1) := by decide +kernel
theorem dX8_isSmall_13 : decode cX8_isSmall 13 = .ok (.goto 4, 3) := by decide +kernel
theorem dX8_isSmall_16 : decode cX8_isSmall 16 = .ok (.iconst 0, 1) := by decide +kernel
theorem dX8_isSmall_17 : decode cX8_isSmall 17 = .ok (.ireturn, 1) := by decide +kernel
def fX8_isSmall (σ : St) (p0 : Int32) : Option (St × Int32) := (if p0 < 97 then some (σ, 0) else (if 122 < p0 then some (σ, 0) else some (σ, 1)))
set_option maxHeartbeats 4000000 in
set_option maxRecDepth 100000 in
theorem ctX8_isSmall (l : Launch) (g : GG) (σ : St) (p0 : Int32) (σ' : St) (r : Int32) (hE : fX8_isSmall σ p0 = some (σ', r)) : MI 52 entC l g yX8_isSmall (Cond.code yX8_isSmall cX8_isSmall 1 (some .boolean) :: gtbl) (rmD 1) [.int p0] σ σ' r := by
  refine mi_z (own := RX8) (lv := [(0, .int p0)]) (by decide) rfl (Nat.le_of_ble_eq_true rfl) rfl (fun p e s m below meth c ls args Q A H0 H locs C hK hA hQ hs hl => ?_)
  have hx := C.1
  have hb := C.2.1
  unfold fX8_isSmall at hE
  refine lv_iload_n hx hb dX8_isSmall_0 rfl (lv_at hl 0 rfl) ?_
  refine lv_bipush (v := 97) hx hb dX8_isSmall_1 (by decide) ?_
  refine lv_icmp_lt (tgt := 16) hx hb dX8_isSmall_3 (by decide) (fun hc => ?_) (fun hc => ?_)
  · have hE := if_t hc hE
    refine lv_iconst (v := 0) hx hb dX8_isSmall_16 (by decide) ?_
    exact hQ hs rfl hE dX8_isSmall_17
  · have hE := if_f hc hE
    refine lv_iload_n hx hb dX8_isSmall_6 rfl (lv_at hl 0 rfl) ?_
    refine lv_bipush (v := 122) hx hb dX8_isSmall_7 (by decide) ?_
    refine lv_icmp_gt (tgt := 16) hx hb dX8_isSmall_9 (by decide) (fun hc => ?_) (fun hc => ?_)
    · have hE := if_t hc hE
      refine lv_iconst (v := 0) hx hb dX8_isSmall_16 (by decide) ?_
      exact hQ hs rfl hE dX8_isSmall_17
    · have hE := if_f hc hE
      refine lv_iconst (v := 1) hx hb dX8_isSmall_12 (by decide) ?_
      refine lv_goto (tgt := 17) hx hb dX8_isSmall_13 (by decide) ?_
      exact hQ hs rfl hE dX8_isSmall_17
theorem dX8_inName_0 : decode cX8_inName 0 = .ok (.aload_n 1, 1) := by decide +kernel
theorem dX8_inName_1 : decode cX8_inName 1 = .ok (.iload_n 2, 1) := by decide +kernel
theorem dX8_inName_2 : decode cX8_inName 2 = .ok (.iaload, 1) := by decide +kernel
theorem dX8_inName_3 : decode cX8_inName 3 = .ok (.istore_n 3, 1) := by decide +kernel
theorem dX8_inName_4 : decode cX8_inName 4 = .ok (.iload_n 3, 1) := by decide +kernel
theorem dX8_inName_5 : decode cX8_inName 5 = .ok (.invokestatic 75, 3) := by decide +kernel
theorem dX8_inName_8 : decode cX8_inName 8 = .ok (.ifCond .eq 35, 3) := by decide +kernel
theorem dX8_inName_11 : decode cX8_inName 11 = .ok (.aload_n 0, 1) := by decide +kernel
theorem dX8_inName_12 : decode cX8_inName 12 = .ok (.getfield 17, 3) := by decide +kernel
theorem dX8_inName_15 : decode cX8_inName 15 = .ok (.aload_n 0, 1) := by decide +kernel
theorem dX8_inName_16 : decode cX8_inName 16 = .ok (.getfield 32, 3) := by decide +kernel
theorem dX8_inName_19 : decode cX8_inName 19 = .ok (.iaload, 1) := by decide +kernel
theorem dX8_inName_20 : decode cX8_inName 20 = .ok (.bipush 7, 2) := by decide +kernel
theorem dX8_inName_22 : decode cX8_inName 22 = .ok (.if_icmp .lt 5, 3) := by decide +kernel
theorem dX8_inName_25 : decode cX8_inName 25 = .ok (.iload_n 2, 1) := by decide +kernel
theorem dX8_inName_26 : decode cX8_inName 26 = .ok (.ireturn, 1) := by decide +kernel
theorem dX8_inName_27 : decode cX8_inName 27 = .ok (.aload_n 0, 1) := by decide +kernel
theorem dX8_inName_28 : decode cX8_inName 28 = .ok (.getfield 17, 3) := by decide +kernel
theorem dX8_inName_31 : decode cX8_inName 31 = .ok (.aload_n 0, 1) := by decide +kernel
theorem dX8_inName_32 : decode cX8_inName 32 = .ok (.getfield 32, 3) := by decide +kernel
theorem dX8_inName_35 : decode cX8_inName 35 = .ok (.dup2, 1) := by decide +kernel
theorem dX8_inName_36 : decode cX8_inName 36 = .ok (.iaload, 1) := by decide +kernel
theorem dX8_inName_37 : decode cX8_inName 37 = .ok (.iconst 1, 1) := by decide +kernel
theorem dX8_inName_38 : decode cX8_inName 38 = .ok (.iadd, 1) := by decide +kernel
theorem dX8_inName_39 : decode cX8_inName 39 = .ok (.iastore, 1) := by decide +kernel
theorem dX8_inName_40 : decode cX8_inName 40 = .ok (.bipush (-9), 2) := by decide +kernel
theorem dX8_inName_42 : decode cX8_inName 42 = .ok (.ireturn, 1) := by decide +kernel
theorem dX8_inName_43 : decode cX8_inName 43 = .ok (.aload_n 0, 1) := by decide +kernel
theorem dX8_inName_44 : decode cX8_inName 44 = .ok (.aload_n 1, 1) := by decide +kernel
theorem dX8_inName_45 : decode cX8_inName 45 = .ok (.invokevirtual 46, 3) := by decide +kernel
theorem dX8_inName_48 : decode cX8_inName 48 = .ok (.ifCond .eq 13, 3) := by decide +kernel
theorem dX8_inName_51 : decode cX8_inName 51 = .ok (.aload_n 0, 1) := by decide +kernel
theorem dX8_inName_52 : decode cX8_inName 52 = .ok (.getfield 11, 3) := by decide +kernel
theorem dX8_inName_55 : decode cX8_inName 55 = .ok (.aload_n 0, 1) := by decide +kernel
theorem dX8_inName_56 : decode cX8_inName 56 = .ok (.getfield 32, 3) := by decide +kernel
theorem dX8_inName_59 : decode cX8_inName 59 = .ok (.iaload, 1) := by decide +kernel
theorem dX8_inName_60 : decode cX8_inName 60 = .ok (.ireturn, 1) := by decide +kernel
theorem dX8_inName_61 : decode cX8_inName 61 = .ok (.iload_n 3, 1) := by decide +kernel
theorem dX8_inName_62 : decode cX8_inName 62 = .ok (.iconst 1, 1) := by decide +kernel
theorem dX8_inName_63 : decode cX8_inName 63 = .ok (.invokestatic 53, 3) := by decide +kernel
theorem dX8_inName_66 : decode cX8_inName 66 = .ok (.ifCond .ne 5, 3) := by decide +kernel
theorem dX8_inName_69 : decode cX8_inName 69 = .ok (.iload_n 2, 1) := by decide +kernel
theorem dX8_inName_70 : decode cX8_inName 70 = .ok (.ireturn, 1) := by decide +kernel
theorem dX8_inName_71 : decode cX8_inName 71 = .ok (.aload_n 0, 1) := by decide +kernel
theorem dX8_inName_72 : decode cX8_inName 72 = .ok (.getfield 20, 3) := by decide +kernel
theorem dX8_inName_75 : decode cX8_inName 75 = .ok (.aload_n 0, 1) := by decide +kernel
theorem dX8_inName_76 : decode cX8_inName 76 = .ok (.getfield 32, 3) := by decide +kernel
theorem dX8_inName_79 : decode cX8_inName 79 = .ok (.iload_n 3, 1) := by decide +kernel
theorem dX8_inName_80 : decode cX8_inName 80 = .ok (.bipush 48, 2) := by decide +kernel
theorem dX8_inName_82 : decode cX8_inName 82 = .ok (.isub, 1) := by decide +kernel
theorem dX8_inName_83 : decode cX8_inName 83 = .ok (.iastore, 1) := by decide +kernel
theorem dX8_inName_84 : decode cX8_inName 84 = .ok (.aload_n 0, 1) := by decide +kernel
theorem dX8_inName_85 : decode cX8_inName 85 = .ok (.iconst 2, 1) := by decide +kernel
theorem dX8_inName_86 : decode cX8_inName 86 = .ok (.putfield 39, 3) := by decide +kernel
theorem dX8_inName_89 : decode cX8_inName 89 = .ok (.bipush (-9), 2) := by decide +kernel
theorem dX8_inName_91 : decode cX8_inName 91 = .ok (.ireturn, 1) := by decide +kernel
def fX8_inName (σ : St) (p1 : Nat) (p2 : Int32) : Option (St × Int32) := rd LC σ p1 p2 (fun x1 => cl (fX8_isSmall σ x1) (fun σ2 r3 => (if r3 = 0 then cl (fX8_isToldAlready σ2 p1) (fun σ4 r5 => (if r5 = 0 then cl (fX8_isFigure σ4 x1 1) (fun σ6 r7 => (if r7 = 0 then some (σ6, p2) else wr LC σ6 20 (σ6.1 17 6) (x1 - 48) (fun σ8 => pt (su σ8 17 8 2) (fun σ9 => some (σ9, (-9)))))) else rd LC σ4 18 (σ4.1 17 6) (fun x10 => some (σ4, x10)))) else rd LC σ2 19 (σ2.1 17 6) (fun x11 => (if x11 < 7 then rd LC σ2 19 (σ2.1 17 6) (fun x12 => wr LC σ2 19 (σ2.1 17 6) (x12 + 1) (fun σ13 => some (σ13, (-9)))) else some (σ2, p2))))))
set_option maxHeartbeats 4000000 in
set_option maxRecDepth 100000 in
theorem ctX8_inName (l : Launch) (g : GG) (σ : St) (p1 : Nat) (p2 : Int32) (σ' : St) (r : Int32) (hE : fX8_inName σ p1 p2 = some (σ', r)) : MI 52 entC l g yX8_inName (Cond.code yX8_inName cX8_inName 4 (some .int) :: gtbl) (rmD 4) [.ref (g.2.1 17), .ref (g.2.1 p1), .int p2] σ σ' r := by
  refine mi_i (own := RX8) (lv := [(0, .ref (g.2.1 17)), (1, .ref (g.2.1 p1)), (2, .int p2)]) (by decide) rfl (Nat.le_of_ble_eq_true rfl) rfl (fun p e s m below meth c ls args Q A H0 H locs C hK hA hQ hs hl => ?_)
  have hx := C.1
  have hb := C.2.1
  unfold fX8_inName at hE
  refine lv_aload_n hx hb dX8_inName_0 rfl (lv_at hl 1 rfl) ?_
  refine lv_iload_n hx hb dX8_inName_1 rfl (lv_at hl 2 rfl) ?_
  obtain ⟨hi, x1, ex1, hE⟩ := rd_w hE
  refine y_ald layC C hK hs hi ex1 dX8_inName_2 ?_
  refine lv_istore_n (lv' := [(3, .int x1), (0, .ref (g.2.1 17)), (1, .ref (g.2.1 p1)), (2, .int p2)]) hx hb dX8_inName_3 rfl hl (by decide) rfl (fun ls hl => ?_)
  refine lv_iload_n hx hb dX8_inName_4 rfl (lv_at hl 0 rfl) ?_
  obtain ⟨σ2, r3, hE1, hE⟩ := cl_e hE
  refine x_cis (As := [.int x1]) (rest := []) C hl.1 hK hs hA ⟨Nat.le_refl 0, Nat.le_refl 0⟩ (ctX8_isSmall l g _ _ _ _ hE1) (cw_X8_75 C ⟨Nat.le_of_ble_eq_true rfl, Nat.le_of_ble_eq_true rfl⟩) rfl rfl (Nat.le_of_ble_eq_true rfl) dX8_inName_5 (fun H locs hs => ?_)
  refine lv_if_eq (tgt := 43) hx hb dX8_inName_8 (by decide) (fun hc => ?_) (fun hc => ?_)
  · have hE := if_t hc hE
    refine lv_aload_n hx hb dX8_inName_43 rfl (lv_at hl 1 rfl) ?_
    refine lv_aload_n hx hb dX8_inName_44 rfl (lv_at hl 2 rfl) ?_
    obtain ⟨σ4, r5, hE1, hE⟩ := cl_e hE
    refine x_civ (As := [.ref (g.2.1 p1)]) (rest := []) C hl.1 hK hs hA ⟨Nat.le_refl 0, Nat.le_refl 0⟩ (ctX8_isToldAlready l g _ _ _ _ hE1) (cw_X8_46 C ⟨Nat.le_of_ble_eq_true rfl, Nat.le_of_ble_eq_true rfl⟩) (hs.recv hK 17 (by decide) rfl rfl) rfl rfl (Nat.le_of_ble_eq_true rfl) dX8_inName_45 (fun H locs hs => ?_)
    refine lv_if_eq (tgt := 61) hx hb dX8_inName_48 (by decide) (fun hc => ?_) (fun hc => ?_)
    · have hE := if_t hc hE
      refine lv_iload_n hx hb dX8_inName_61 rfl (lv_at hl 0 rfl) ?_
      refine lv_iconst (v := 1) hx hb dX8_inName_62 (by decide) ?_
      obtain ⟨σ6, r7, hE1, hE⟩ := cl_e hE
      refine x_cis (As := [.int x1, .int 1]) (rest := []) C hl.1 hK hs hA ⟨Nat.le_refl 0, Nat.le_refl 0⟩ (ctX8_isFigure l g _ _ _ _ _ hE1) (cw_X8_53 C ⟨Nat.le_of_ble_eq_true rfl, Nat.le_of_ble_eq_true rfl⟩) rfl rfl (Nat.le_of_ble_eq_true rfl) dX8_inName_63 (fun H locs hs => ?_)
      refine lv_if_ne (tgt := 71) hx hb dX8_inName_66 (by decide) (fun hc => ?_) (fun hc => ?_)
      · have hE := if_f hc hE
        refine lv_aload_n hx hb dX8_inName_71 rfl (lv_at hl 1 rfl) ?_
        refine gf_X8_20_17 C hK hs dX8_inName_72 ?_
        refine lv_aload_n hx hb dX8_inName_75 rfl (lv_at hl 1 rfl) ?_
        refine gf_X8_32_17 C hK hs dX8_inName_76 ?_
        refine lv_iload_n hx hb dX8_inName_79 rfl (lv_at hl 0 rfl) ?_
        refine lv_bipush (v := 48) hx hb dX8_inName_80 (by decide) ?_
        refine lv_isub hx hb dX8_inName_82 ?_
        obtain ⟨hi, σ8, eσ8, hE⟩ := wr_w hE
        refine y_ast layC C hK hs hi eσ8 dX8_inName_83 (fun H locs hs => ?_)
        refine lv_aload_n hx hb dX8_inName_84 rfl (lv_at hl 1 rfl) ?_
        refine lv_iconst (v := 2) hx hb dX8_inName_85 (by decide) ?_
        obtain ⟨σ9, eσ9, hE⟩ := pt_w hE
        refine pf_X8_39_17 C hK hs eσ9 dX8_inName_86 (fun H locs hs => ?_)
        refine lv_bipush (v := (-9)) hx hb dX8_inName_89 (by decide) ?_
        exact hQ hs hE dX8_inName_91
      · have hE := if_t hc hE
        refine lv_iload_n hx hb dX8_inName_69 rfl (lv_at hl 3 rfl) ?_
        exact hQ hs hE dX8_inName_70
    · have hE := if_f hc hE
      refine lv_aload_n hx hb dX8_inName_51 rfl (lv_at hl 1 rfl) ?_
      refine gf_X8_11_17 C hK hs dX8_inName_52 ?_
      refine lv_aload_n hx hb dX8_inName_55 rfl (lv_at hl 1 rfl) ?_
      refine gf_X8_32_17 C hK hs dX8_inName_56 ?_
      obtain ⟨hi, x10, ex10, hE⟩ := rd_w hE
      refine y_ald layC C hK hs hi ex10 dX8_inName_59 ?_
      exact hQ hs hE dX8_inName_60
  · have hE := if_f hc hE
    refine lv_aload_n hx hb dX8_inName_11 rfl (lv_at hl 1 rfl) ?_
    refine gf_X8_17_17 C hK hs dX8_inName_12 ?_
    refine lv_aload_n hx hb dX8_inName_15 rfl (lv_at hl 1 rfl) ?_
    refine gf_X8_32_17 C hK hs dX8_inName_16 ?_
    obtain ⟨hi, x11, ex11, hE⟩ := rd_w hE
    refine y_ald layC C hK hs hi ex11 dX8_inName_19 ?_
    refine lv_bipush (v := 7) hx hb dX8_inName_20 (by decide) ?_
    refine lv_icmp_lt (tgt := 27) hx hb dX8_inName_22 (by decide) (fun hc => ?_) (fun hc => ?_)
    · have hE := if_t hc hE
      refine lv_aload_n hx hb dX8_inName_27 rfl (lv_at hl 1 rfl) ?_
      refine gf_X8_17_17 C hK hs dX8_inName_28 ?_
      refine lv_aload_n hx hb dX8_inName_31 rfl (lv_at hl 1 rfl) ?_
      refine gf_X8_32_17 C hK hs dX8_inName_32 ?_
      refine lv_dup2_11 hx hb dX8_inName_35 rfl rfl ?_
      obtain ⟨hi, x12, ex12, hE⟩ := rd_w hE
      refine y_ald layC C hK hs hi ex12 dX8_inName_36 ?_
      refine lv_iconst (v := 1) hx hb dX8_inName_37 (by decide) ?_
      refine lv_iadd hx hb dX8_inName_38 ?_
      obtain ⟨hi, σ13, eσ13, hE⟩ := wr_w hE
      refine y_ast layC C hK hs hi eσ13 dX8_inName_39 (fun H locs hs => ?_)
      refine lv_bipush (v := (-9)) hx hb dX8_inName_40 (by decide) ?_
      exact hQ hs hE dX8_inName_42
    · have hE := if_f hc hE
      refine lv_iload_n hx hb dX8_inName_25 rfl (lv_at hl 3 rfl) ?_
      exact hQ hs hE dX8_inName_26
theorem dX8_openItem_0 : decode cX8_openItem 0 = .ok (.iload_n 1, 1) := by decide +kernel
theorem dX8_openItem_1 : decode cX8_openItem 1 = .ok (.invokestatic 75, 3) := by decide +kernel
theorem dX8_openItem_4 : decode cX8_openItem 4 = .ok (.ifCond .eq 42, 3) := by decide +kernel
theorem dX8_openItem_7 : decode cX8_openItem 7 = .ok (.aload_n 0, 1) := by decide +kernel
theorem dX8_openItem_8 : decode cX8_openItem 8 = .ok (.getfield 32, 3) := by decide +kernel
theorem dX8_openItem_11 : decode cX8_openItem 11 = .ok (.bipush 8, 2) := by decide +kernel
theorem dX8_openItem_13 : decode cX8_openItem 13 = .ok (.if_icmp .lt 5, 3) := by decide +kernel
theorem dX8_openItem_16 : decode cX8_openItem 16 = .ok (.iload_n 2, 1) := by decide +kernel
theorem dX8_openItem_17 : decode cX8_openItem 17 = .ok (.ireturn, 1) := by decide +kernel
theorem dX8_openItem_18 : decode cX8_openItem 18 = .ok (.aload_n 0, 1) := by decide +kernel
theorem dX8_openItem_19 : decode cX8_openItem 19 = .ok (.getfield 11, 3) := by decide +kernel
theorem dX8_openItem_22 : decode cX8_openItem 22 = .ok (.aload_n 0, 1) := by decide +kernel
theorem dX8_openItem_23 : decode cX8_openItem 23 = .ok (.getfield 32, 3) := by decide +kernel
theorem dX8_openItem_26 : decode cX8_openItem 26 = .ok (.iload_n 2, 1) := by decide +kernel
theorem dX8_openItem_27 : decode cX8_openItem 27 = .ok (.iastore, 1) := by decide +kernel
theorem dX8_openItem_28 : decode cX8_openItem 28 = .ok (.aload_n 0, 1) := by decide +kernel
theorem dX8_openItem_29 : decode cX8_openItem 29 = .ok (.getfield 17, 3) := by decide +kernel
theorem dX8_openItem_32 : decode cX8_openItem 32 = .ok (.aload_n 0, 1) := by decide +kernel
theorem dX8_openItem_33 : decode cX8_openItem 33 = .ok (.getfield 32, 3) := by decide +kernel
theorem dX8_openItem_36 : decode cX8_openItem 36 = .ok (.iconst 1, 1) := by decide +kernel
theorem dX8_openItem_37 : decode cX8_openItem 37 = .ok (.iastore, 1) := by decide +kernel
theorem dX8_openItem_38 : decode cX8_openItem 38 = .ok (.aload_n 0, 1) := by decide +kernel
theorem dX8_openItem_39 : decode cX8_openItem 39 = .ok (.iconst 1, 1) := by decide +kernel
theorem dX8_openItem_40 : decode cX8_openItem 40 = .ok (.putfield 39, 3) := by decide +kernel
theorem dX8_openItem_43 : decode cX8_openItem 43 = .ok (.bipush (-9), 2) := by decide +kernel
theorem dX8_openItem_45 : decode cX8_openItem 45 = .ok (.ireturn, 1) := by decide +kernel
theorem dX8_openItem_46 : decode cX8_openItem 46 = .ok (.iload_n 1, 1) := by decide +kernel
theorem dX8_openItem_47 : decode cX8_openItem 47 = .ok (.invokestatic 79, 3) := by decide +kernel
theorem dX8_openItem_50 : decode cX8_openItem 50 = .ok (.istore_n 3, 1) := by decide +kernel
theorem dX8_openItem_51 : decode cX8_openItem 51 = .ok (.iload_n 3, 1) := by decide +kernel
theorem dX8_openItem_52 : decode cX8_openItem 52 = .ok (.bipush (-9), 2) := by decide +kernel
theorem dX8_openItem_54 : decode cX8_openItem 54 = .ok (.if_icmp .eq 12, 3) := by decide +kernel
theorem dX8_openItem_57 : decode cX8_openItem 57 = .ok (.aload_n 0, 1) := by decide +kernel
theorem dX8_openItem_58 : decode cX8_openItem 58 = .ok (.getfield 36, 3) := by decide +kernel
theorem dX8_openItem_61 : decode cX8_openItem 61 = .ok (.bipush 6, 2) := by decide +kernel
theorem dX8_openItem_63 : decode cX8_openItem 63 = .ok (.if_icmp .lt 5, 3) := by decide +kernel
theorem dX8_openItem_66 : decode cX8_openItem 66 = .ok (.iload_n 2, 1) := by decide +kernel
theorem dX8_openItem_67 : decode cX8_openItem 67 = .ok (.ireturn, 1) := by decide +kernel
theorem dX8_openItem_68 : decode cX8_openItem 68 = .ok (.aload_n 0, 1) := by decide +kernel
theorem dX8_openItem_69 : decode cX8_openItem 69 = .ok (.getfield 26, 3) := by decide +kernel
theorem dX8_openItem_72 : decode cX8_openItem 72 = .ok (.aload_n 0, 1) := by decide +kernel
theorem dX8_openItem_73 : decode cX8_openItem 73 = .ok (.getfield 36, 3) := by decide +kernel
theorem dX8_openItem_76 : decode cX8_openItem 76 = .ok (.iload_n 3, 1) := by decide +kernel
theorem dX8_openItem_77 : decode cX8_openItem 77 = .ok (.iastore, 1) := by decide +kernel
theorem dX8_openItem_78 : decode cX8_openItem 78 = .ok (.aload_n 0, 1) := by decide +kernel
theorem dX8_openItem_79 : decode cX8_openItem 79 = .ok (.iconst 4, 1) := by decide +kernel
theorem dX8_openItem_80 : decode cX8_openItem 80 = .ok (.putfield 39, 3) := by decide +kernel
theorem dX8_openItem_83 : decode cX8_openItem 83 = .ok (.bipush (-9), 2) := by decide +kernel
theorem dX8_openItem_85 : decode cX8_openItem 85 = .ok (.ireturn, 1) := by decide +kernel
def fX8_openItem (σ : St) (p1 : Int32) (p2 : Int32) : Option (St × Int32) := cl (fX8_isSmall σ p1) (fun σ1 r2 => (if r2 = 0 then cl (fX2_bySign σ1 p1) (fun σ3 r4 => (if r4 = (-9) then some (σ3, p2) else (if (σ3.1 17 7) < 6 then wr LC σ3 22 (σ3.1 17 7) r4 (fun σ5 => pt (su σ5 17 8 4) (fun σ6 => some (σ6, (-9)))) else some (σ3, p2)))) else (if (σ1.1 17 6) < 8 then wr LC σ1 18 (σ1.1 17 6) p2 (fun σ7 => wr LC σ7 19 (σ7.1 17 6) 1 (fun σ8 => pt (su σ8 17 8 1) (fun σ9 => some (σ9, (-9))))) else some (σ1, p2))))
set_option maxHeartbeats 4000000 in
set_option maxRecDepth 100000 in
theorem ctX8_openItem (l : Launch) (g : GG) (σ : St) (p1 : Int32) (p2 : Int32) (σ' : St) (r : Int32) (hE : fX8_openItem σ p1 p2 = some (σ', r)) : MI 52 entC l g yX8_openItem (Cond.code yX8_openItem cX8_openItem 4 (some .int) :: gtbl) (rmD 2) [.ref (g.2.1 17), .int p1, .int p2] σ σ' r := by
  refine mi_i (own := RX8) (lv := [(0, .ref (g.2.1 17)), (1, .int p1), (2, .int p2)]) (by decide) rfl (Nat.le_of_ble_eq_true rfl) rfl (fun p e s m below meth c ls args Q A H0 H locs C hK hA hQ hs hl => ?_)
  have hx := C.1
  have hb := C.2.1
  unfold fX8_openItem at hE
  refine lv_iload_n hx hb dX8_openItem_0 rfl (lv_at hl 1 rfl) ?_
  obtain ⟨σ1, r2, hE1, hE⟩ := cl_e hE
  refine x_cis (As := [.int p1]) (rest := []) C hl.1 hK hs hA ⟨Nat.le_refl 0, Nat.le_refl 0⟩ (ctX8_isSmall l g _ _ _ _ hE1) (cw_X8_75 C ⟨Nat.le_of_ble_eq_true rfl, Nat.le_of_ble_eq_true rfl⟩) rfl rfl (Nat.le_of_ble_eq_true rfl) dX8_openItem_1 (fun H locs hs => ?_)
  refine lv_if_eq (tgt := 46) hx hb dX8_openItem_4 (by decide) (fun hc => ?_) (fun hc => ?_)
  · have hE := if_t hc hE
    refine lv_iload_n hx hb dX8_openItem_46 rfl (lv_at hl 1 rfl) ?_
    obtain ⟨σ3, r4, hE1, hE⟩ := cl_e hE
    refine x_cis (As := [.int p1]) (rest := []) C hl.1 hK hs hA ⟨Nat.le_refl 0, Nat.le_refl 0⟩ (ctX2_bySign l g _ _ _ _ hE1) (cw_X8_79 C ⟨Nat.le_of_ble_eq_true rfl, Nat.le_of_ble_eq_true rfl⟩) rfl rfl (Nat.le_of_ble_eq_true rfl) dX8_openItem_47 (fun H locs hs => ?_)
    refine lv_istore_n (lv' := [(3, .int r4), (0, .ref (g.2.1 17)), (1, .int p1), (2, .int p2)]) hx hb dX8_openItem_50 rfl hl (by decide) rfl (fun ls hl => ?_)
    refine lv_iload_n hx hb dX8_openItem_51 rfl (lv_at hl 0 rfl) ?_
    refine lv_bipush (v := (-9)) hx hb dX8_openItem_52 (by decide) ?_
    refine lv_icmp_eq (tgt := 66) hx hb dX8_openItem_54 (by decide) (fun hc => ?_) (fun hc => ?_)
    · have hE := if_t hc hE
      refine lv_iload_n hx hb dX8_openItem_66 rfl (lv_at hl 3 rfl) ?_
      exact hQ hs hE dX8_openItem_67
    · have hE := if_f hc hE
      refine lv_aload_n hx hb dX8_openItem_57 rfl (lv_at hl 1 rfl) ?_
      refine gf_X8_36_17 C hK hs dX8_openItem_58 ?_
      refine lv_bipush (v := 6) hx hb dX8_openItem_61 (by decide) ?_
      refine lv_icmp_lt (tgt := 68) hx hb dX8_openItem_63 (by decide) (fun hc => ?_) (fun hc => ?_)
      · have hE := if_t hc hE
        refine lv_aload_n hx hb dX8_openItem_68 rfl (lv_at hl 1 rfl) ?_
        refine gf_X8_26_17 C hK hs dX8_openItem_69 ?_
        refine lv_aload_n hx hb dX8_openItem_72 rfl (lv_at hl 1 rfl) ?_
        refine gf_X8_36_17 C hK hs dX8_openItem_73 ?_
        refine lv_iload_n hx hb dX8_openItem_76 rfl (lv_at hl 0 rfl) ?_
        obtain ⟨hi, σ5, eσ5, hE⟩ := wr_w hE
        refine y_ast layC C hK hs hi eσ5 dX8_openItem_77 (fun H locs hs => ?_)
        refine lv_aload_n hx hb dX8_openItem_78 rfl (lv_at hl 1 rfl) ?_
        refine lv_iconst (v := 4) hx hb dX8_openItem_79 (by decide) ?_
        obtain ⟨σ6, eσ6, hE⟩ := pt_w hE
        refine pf_X8_39_17 C hK hs eσ6 dX8_openItem_80 (fun H locs hs => ?_)
        refine lv_bipush (v := (-9)) hx hb dX8_openItem_83 (by decide) ?_
        exact hQ hs hE dX8_openItem_85
      · have hE := if_f hc hE
        refine lv_iload_n hx hb dX8_openItem_66 rfl (lv_at hl 3 rfl) ?_
        exact hQ hs hE dX8_openItem_67
  · have hE := if_f hc hE
    refine lv_aload_n hx hb dX8_openItem_7 rfl (lv_at hl 0 rfl) ?_
    refine gf_X8_32_17 C hK hs dX8_openItem_8 ?_
    refine lv_bipush (v := 8) hx hb dX8_openItem_11 (by decide) ?_
    refine lv_icmp_lt (tgt := 18) hx hb dX8_openItem_13 (by decide) (fun hc => ?_) (fun hc => ?_)
    · have hE := if_t hc hE
      refine lv_aload_n hx hb dX8_openItem_18 rfl (lv_at hl 0 rfl) ?_
      refine gf_X8_11_17 C hK hs dX8_openItem_19 ?_
      refine lv_aload_n hx hb dX8_openItem_22 rfl (lv_at hl 0 rfl) ?_
      refine gf_X8_32_17 C hK hs dX8_openItem_23 ?_
      refine lv_iload_n hx hb dX8_openItem_26 rfl (lv_at hl 2 rfl) ?_
      obtain ⟨hi, σ7, eσ7, hE⟩ := wr_w hE
      refine y_ast layC C hK hs hi eσ7 dX8_openItem_27 (fun H locs hs => ?_)
      refine lv_aload_n hx hb dX8_openItem_28 rfl (lv_at hl 0 rfl) ?_
      refine gf_X8_17_17 C hK hs dX8_openItem_29 ?_
      refine lv_aload_n hx hb dX8_openItem_32 rfl (lv_at hl 0 rfl) ?_
      refine gf_X8_32_17 C hK hs dX8_openItem_33 ?_
      refine lv_iconst (v := 1) hx hb dX8_openItem_36 (by decide) ?_
      obtain ⟨hi, σ8, eσ8, hE⟩ := wr_w hE
      refine y_ast layC C hK hs hi eσ8 dX8_openItem_37 (fun H locs hs => ?_)
      refine lv_aload_n hx hb dX8_openItem_38 rfl (lv_at hl 0 rfl) ?_
      refine lv_iconst (v := 1) hx hb dX8_openItem_39 (by decide) ?_
      obtain ⟨σ9, eσ9, hE⟩ := pt_w hE
      refine pf_X8_39_17 C hK hs eσ9 dX8_openItem_40 (fun H locs hs => ?_)
      refine lv_bipush (v := (-9)) hx hb dX8_openItem_43 (by decide) ?_
      exact hQ hs hE dX8_openItem_45
    · have hE := if_f hc hE
      refine lv_iload_n hx hb dX8_openItem_16 rfl (lv_at hl 2 rfl) ?_
      exact hQ hs hE dX8_openItem_17
theorem dX8_takeIncome_0 : decode cX8_takeIncome 0 = .ok (.aload_n 0, 1) := by decide +kernel
theorem dX8_takeIncome_1 : decode cX8_takeIncome 1 = .ok (.getfield 29, 3) := by decide +kernel
theorem dX8_takeIncome_4 : decode cX8_takeIncome 4 = .ok (.aload_n 0, 1) := by decide +kernel
theorem dX8_takeIncome_5 : decode cX8_takeIncome 5 = .ok (.getfield 36, 3) := by decide +kernel
theorem dX8_takeIncome_8 : decode cX8_takeIncome 8 = .ok (.iload_n 1, 1) := by decide +kernel
theorem dX8_takeIncome_9 : decode cX8_takeIncome 9 = .ok (.bipush 48, 2) := by decide +kernel
theorem dX8_takeIncome_11 : decode cX8_takeIncome 11 = .ok (.isub, 1) := by decide +kernel
theorem dX8_takeIncome_12 : decode cX8_takeIncome 12 = .ok (.iastore, 1) := by decide +kernel
theorem dX8_takeIncome_13 : decode cX8_takeIncome 13 = .ok (.aload_n 0, 1) := by decide +kernel
theorem dX8_takeIncome_14 : decode cX8_takeIncome 14 = .ok (.iconst 5, 1) := by decide +kernel
theorem dX8_takeIncome_15 : decode cX8_takeIncome 15 = .ok (.putfield 39, 3) := by decide +kernel
theorem dX8_takeIncome_18 : decode cX8_takeIncome 18 = .ok (.bipush (-9), 2) := by decide +kernel
theorem dX8_takeIncome_20 : decode cX8_takeIncome 20 = .ok (.ireturn, 1) := by decide +kernel
def fX8_takeIncome (σ : St) (p1 : Int32) : Option (St × Int32) := wr LC σ 23 (σ.1 17 7) (p1 - 48) (fun σ1 => pt (su σ1 17 8 5) (fun σ2 => some (σ2, (-9))))
set_option maxHeartbeats 4000000 in
set_option maxRecDepth 100000 in
theorem ctX8_takeIncome (l : Launch) (g : GG) (σ : St) (p1 : Int32) (σ' : St) (r : Int32) (hE : fX8_takeIncome σ p1 = some (σ', r)) : MI 52 entC l g yX8_takeIncome (Cond.code yX8_takeIncome cX8_takeIncome 2 (some .int) :: gtbl) (rmD 1) [.ref (g.2.1 17), .int p1] σ σ' r := by
  refine mi_i (own := RX8) (lv := [(0, .ref (g.2.1 17)), (1, .int p1)]) (by decide) rfl (Nat.le_of_ble_eq_true rfl) rfl (fun p e s m below meth c ls args Q A H0 H locs C hK hA hQ hs hl => ?_)
  have hx := C.1
  have hb := C.2.1
  unfold fX8_takeIncome at hE
  refine lv_aload_n hx hb dX8_takeIncome_0 rfl (lv_at hl 0 rfl) ?_
  refine gf_X8_29_17 C hK hs dX8_takeIncome_1 ?_
  refine lv_aload_n hx hb dX8_takeIncome_4 rfl (lv_at hl 0 rfl) ?_
  refine gf_X8_36_17 C hK hs dX8_takeIncome_5 ?_
  refine lv_iload_n hx hb dX8_takeIncome_8 rfl (lv_at hl 1 rfl) ?_
  refine lv_bipush (v := 48) hx hb dX8_takeIncome_9 (by decide) ?_
  refine lv_isub hx hb dX8_takeIncome_11 ?_
  obtain ⟨hi, σ1, eσ1, hE⟩ := wr_w hE
  refine y_ast layC C hK hs hi eσ1 dX8_takeIncome_12 (fun H locs hs => ?_)
  refine lv_aload_n hx hb dX8_takeIncome_13 rfl (lv_at hl 0 rfl) ?_
  refine lv_iconst (v := 5) hx hb dX8_takeIncome_14 (by decide) ?_
  obtain ⟨σ2, eσ2, hE⟩ := pt_w hE
  refine pf_X8_39_17 C hK hs eσ2 dX8_takeIncome_15 (fun H locs hs => ?_)
  refine lv_bipush (v := (-9)) hx hb dX8_takeIncome_18 (by decide) ?_
  exact hQ hs hE dX8_takeIncome_20
theorem dX8_takeLasts_0 : decode cX8_takeLasts 0 = .ok (.aload_n 0, 1) := by decide +kernel
theorem dX8_takeLasts_1 : decode cX8_takeLasts 1 = .ok (.getfield 23, 3) := by decide +kernel
theorem dX8_takeLasts_4 : decode cX8_takeLasts 4 = .ok (.aload_n 0, 1) := by decide +kernel
theorem dX8_takeLasts_5 : decode cX8_takeLasts 5 = .ok (.getfield 32, 3) := by decide +kernel
theorem dX8_takeLasts_8 : decode cX8_takeLasts 8 = .ok (.iload_n 1, 1) := by decide +kernel
theorem dX8_takeLasts_9 : decode cX8_takeLasts 9 = .ok (.bipush 48, 2) := by decide +kernel
theorem dX8_takeLasts_11 : decode cX8_takeLasts 11 = .ok (.isub, 1) := by decide +kernel
theorem dX8_takeLasts_12 : decode cX8_takeLasts 12 = .ok (.iastore, 1) := by decide +kernel
theorem dX8_takeLasts_13 : decode cX8_takeLasts 13 = .ok (.aload_n 0, 1) := by decide +kernel
theorem dX8_takeLasts_14 : decode cX8_takeLasts 14 = .ok (.iconst 3, 1) := by decide +kernel
theorem dX8_takeLasts_15 : decode cX8_takeLasts 15 = .ok (.putfield 39, 3) := by decide +kernel
theorem dX8_takeLasts_18 : decode cX8_takeLasts 18 = .ok (.bipush (-9), 2) := by decide +kernel
theorem dX8_takeLasts_20 : decode cX8_takeLasts 20 = .ok (.ireturn, 1) := by decide +kernel
def fX8_takeLasts (σ : St) (p1 : Int32) : Option (St × Int32) := wr LC σ 21 (σ.1 17 6) (p1 - 48) (fun σ1 => pt (su σ1 17 8 3) (fun σ2 => some (σ2, (-9))))
set_option maxHeartbeats 4000000 in
set_option maxRecDepth 100000 in
theorem ctX8_takeLasts (l : Launch) (g : GG) (σ : St) (p1 : Int32) (σ' : St) (r : Int32) (hE : fX8_takeLasts σ p1 = some (σ', r)) : MI 52 entC l g yX8_takeLasts (Cond.code yX8_takeLasts cX8_takeLasts 2 (some .int) :: gtbl) (rmD 1) [.ref (g.2.1 17), .int p1] σ σ' r := by
  refine mi_i (own := RX8) (lv := [(0, .ref (g.2.1 17)), (1, .int p1)]) (by decide) rfl (Nat.le_of_ble_eq_true rfl) rfl (fun p e s m below meth c ls args Q A H0 H locs C hK hA hQ hs hl => ?_)
  have hx := C.1
  have hb := C.2.1
  unfold fX8_takeLasts at hE
  refine lv_aload_n hx hb dX8_takeLasts_0 rfl (lv_at hl 0 rfl) ?_
  refine gf_X8_23_17 C hK hs dX8_takeLasts_1 ?_
  refine lv_aload_n hx hb dX8_takeLasts_4 rfl (lv_at hl 0 rfl) ?_
  refine gf_X8_32_17 C hK hs dX8_takeLasts_5 ?_
  refine lv_iload_n hx hb dX8_takeLasts_8 rfl (lv_at hl 1 rfl) ?_
  refine lv_bipush (v := 48) hx hb dX8_takeLasts_9 (by decide) ?_
  refine lv_isub hx hb dX8_takeLasts_11 ?_
  obtain ⟨hi, σ1, eσ1, hE⟩ := wr_w hE
  refine y_ast layC C hK hs hi eσ1 dX8_takeLasts_12 (fun H locs hs => ?_)
  refine lv_aload_n hx hb dX8_takeLasts_13 rfl (lv_at hl 0 rfl) ?_
  refine lv_iconst (v := 3) hx hb dX8_takeLasts_14 (by decide) ?_
  obtain ⟨σ2, eσ2, hE⟩ := pt_w hE
  refine pf_X8_39_17 C hK hs eσ2 dX8_takeLasts_15 (fun H locs hs => ?_)
  refine lv_bipush (v := (-9)) hx hb dX8_takeLasts_18 (by decide) ?_
  exact hQ hs hE dX8_takeLasts_20
theorem dX8_step_0 : decode cX8_step 0 = .ok (.aload_n 1, 1) := by decide +kernel
theorem dX8_step_1 : decode cX8_step 1 = .ok (.iload_n 2, 1) := by decide +kernel
theorem dX8_step_2 : decode cX8_step 2 = .ok (.iaload, 1) := by decide +kernel
theorem dX8_step_3 : decode cX8_step 3 = .ok (.istore_n 3, 1) := by decide +kernel
theorem dX8_step_4 : decode cX8_step 4 = .ok (.aload_n 0, 1) := by decide +kernel
theorem dX8_step_5 : decode cX8_step 5 = .ok (.getfield 39, 3) := by decide +kernel
theorem dX8_step_8 : decode cX8_step 8 = .ok (.tableswitch 109 1 5 #[36, 43, 79, 61, 94], 36) := by decide +kernel
theorem dX8_step_44 : decode cX8_step 44 = .ok (.aload_n 0, 1) := by decide +kernel
theorem dX8_step_45 : decode cX8_step 45 = .ok (.aload_n 1, 1) := by decide +kernel
theorem dX8_step_46 : decode cX8_step 46 = .ok (.iload_n 2, 1) := by decide +kernel
theorem dX8_step_47 : decode cX8_step 47 = .ok (.invokevirtual 50, 3) := by decide +kernel
theorem dX8_step_50 : decode cX8_step 50 = .ok (.ireturn, 1) := by decide +kernel
theorem dX8_step_51 : decode cX8_step 51 = .ok (.iload_n 3, 1) := by decide +kernel
theorem dX8_step_52 : decode cX8_step 52 = .ok (.iconst 1, 1) := by decide +kernel
theorem dX8_step_53 : decode cX8_step 53 = .ok (.invokestatic 53, 3) := by decide +kernel
theorem dX8_step_56 : decode cX8_step 56 = .ok (.ifCond .eq 11, 3) := by decide +kernel
theorem dX8_step_59 : decode cX8_step 59 = .ok (.aload_n 0, 1) := by decide +kernel
theorem dX8_step_60 : decode cX8_step 60 = .ok (.iload_n 3, 1) := by decide +kernel
theorem dX8_step_61 : decode cX8_step 61 = .ok (.invokevirtual 57, 3) := by decide +kernel
theorem dX8_step_64 : decode cX8_step 64 = .ok (.goto 4, 3) := by decide +kernel
theorem dX8_step_67 : decode cX8_step 67 = .ok (.iload_n 2, 1) := by decide +kernel
theorem dX8_step_68 : decode cX8_step 68 = .ok (.ireturn, 1) := by decide +kernel
theorem dX8_step_69 : decode cX8_step 69 = .ok (.iload_n 3, 1) := by decide +kernel
theorem dX8_step_70 : decode cX8_step 70 = .ok (.iconst 0, 1) := by decide +kernel
theorem dX8_step_71 : decode cX8_step 71 = .ok (.invokestatic 53, 3) := by decide +kernel
theorem dX8_step_74 : decode cX8_step 74 = .ok (.ifCond .eq 11, 3) := by decide +kernel
theorem dX8_step_77 : decode cX8_step 77 = .ok (.aload_n 0, 1) := by decide +kernel
theorem dX8_step_78 : decode cX8_step 78 = .ok (.iload_n 3, 1) := by decide +kernel
theorem dX8_step_79 : decode cX8_step 79 = .ok (.invokevirtual 61, 3) := by decide +kernel
theorem dX8_step_82 : decode cX8_step 82 = .ok (.goto 4, 3) := by decide +kernel
theorem dX8_step_85 : decode cX8_step 85 = .ok (.iload_n 2, 1) := by decide +kernel
theorem dX8_step_86 : decode cX8_step 86 = .ok (.ireturn, 1) := by decide +kernel
theorem dX8_step_87 : decode cX8_step 87 = .ok (.iload_n 3, 1) := by decide +kernel
theorem dX8_step_88 : decode cX8_step 88 = .ok (.bipush 59, 2) := by decide +kernel
theorem dX8_step_90 : decode cX8_step 90 = .ok (.if_icmp .ne 10, 3) := by decide +kernel
theorem dX8_step_93 : decode cX8_step 93 = .ok (.aload_n 0, 1) := by decide +kernel
theorem dX8_step_94 : decode cX8_step 94 = .ok (.invokevirtual 64, 3) := by decide +kernel
theorem dX8_step_97 : decode cX8_step 97 = .ok (.goto 4, 3) := by decide +kernel
theorem dX8_step_100 : decode cX8_step 100 = .ok (.iload_n 2, 1) := by decide +kernel
theorem dX8_step_101 : decode cX8_step 101 = .ok (.ireturn, 1) := by decide +kernel
theorem dX8_step_102 : decode cX8_step 102 = .ok (.iload_n 3, 1) := by decide +kernel
theorem dX8_step_103 : decode cX8_step 103 = .ok (.bipush 59, 2) := by decide +kernel
theorem dX8_step_105 : decode cX8_step 105 = .ok (.if_icmp .ne 10, 3) := by decide +kernel
theorem dX8_step_108 : decode cX8_step 108 = .ok (.aload_n 0, 1) := by decide +kernel
theorem dX8_step_109 : decode cX8_step 109 = .ok (.invokevirtual 68, 3) := by decide +kernel
theorem dX8_step_112 : decode cX8_step 112 = .ok (.goto 4, 3) := by decide +kernel
theorem dX8_step_115 : decode cX8_step 115 = .ok (.iload_n 2, 1) := by decide +kernel
theorem dX8_step_116 : decode cX8_step 116 = .ok (.ireturn, 1) := by decide +kernel
theorem dX8_step_117 : decode cX8_step 117 = .ok (.iload_n 3, 1) := by decide +kernel
theorem dX8_step_118 : decode cX8_step 118 = .ok (.bipush 32, 2) := by decide +kernel
theorem dX8_step_120 : decode cX8_step 120 = .ok (.if_icmp .ne 8, 3) := by decide +kernel
theorem dX8_step_123 : decode cX8_step 123 = .ok (.bipush (-9), 2) := by decide +kernel
theorem dX8_step_125 : decode cX8_step 125 = .ok (.goto 9, 3) := by decide +kernel
theorem dX8_step_128 : decode cX8_step 128 = .ok (.aload_n 0, 1) := by decide +kernel
theorem dX8_step_129 : decode cX8_step 129 = .ok (.iload_n 3, 1) := by decide +kernel
theorem dX8_step_130 : decode cX8_step 130 = .ok (.iload_n 2, 1) := by decide +kernel
theorem dX8_step_131 : decode cX8_step 131 = .ok (.invokevirtual 71, 3) := by decide +kernel
theorem dX8_step_134 : decode cX8_step 134 = .ok (.ireturn, 1) := by decide +kernel
def fX8_step (σ : St) (p1 : Nat) (p2 : Int32) : Option (St × Int32) := rd LC σ p1 p2 (fun x1 => (if (σ.1 17 8) = 1 then cl (fX8_inName σ p1 p2) (fun σ4 r5 => some (σ4, r5)) else (if (σ.1 17 8) = 2 then cl (fX8_isFigure σ x1 1) (fun σ6 r7 => (if r7 = 0 then some (σ6, p2) else cl (fX8_takeLasts σ6 x1) (fun σ8 r9 => some (σ8, r9)))) else (if (σ.1 17 8) = 3 then (if x1 = 59 then cl (fX8_closeColour σ) (fun σ10 r11 => some (σ10, r11)) else some (σ, p2)) else (if (σ.1 17 8) = 4 then cl (fX8_isFigure σ x1 0) (fun σ12 r13 => (if r13 = 0 then some (σ12, p2) else cl (fX8_takeIncome σ12 x1) (fun σ14 r15 => some (σ14, r15)))) else (if (σ.1 17 8) = 5 then (if x1 = 59 then cl (fX8_closeHouse σ) (fun σ16 r17 => some (σ16, r17)) else some (σ, p2)) else (if x1 = 32 then some (σ, (-9)) else cl (fX8_openItem σ x1 p2) (fun σ2 r3 => some (σ2, r3)))))))))
set_option maxHeartbeats 4000000 in
set_option maxRecDepth 100000 in
theorem ctX8_step (l : Launch) (g : GG) (σ : St) (p1 : Nat) (p2 : Int32) (σ' : St) (r : Int32) (hE : fX8_step σ p1 p2 = some (σ', r)) : MI 52 entC l g yX8_step (Cond.code yX8_step cX8_step 4 (some .int) :: gtbl) (rmD 5) [.ref (g.2.1 17), .ref (g.2.1 p1), .int p2] σ σ' r := by
  refine mi_i (own := RX8) (lv := [(0, .ref (g.2.1 17)), (1, .ref (g.2.1 p1)), (2, .int p2)]) (by decide) rfl (Nat.le_of_ble_eq_true rfl) rfl (fun p e s m below meth c ls args Q A H0 H locs C hK hA hQ hs hl => ?_)
  have hx := C.1
  have hb := C.2.1
  unfold fX8_step at hE
  refine lv_aload_n hx hb dX8_step_0 rfl (lv_at hl 1 rfl) ?_
  refine lv_iload_n hx hb dX8_step_1 rfl (lv_at hl 2 rfl) ?_
  obtain ⟨hi, x1, ex1, hE⟩ := rd_w hE
  refine y_ald layC C hK hs hi ex1 dX8_step_2 ?_
  refine lv_istore_n (lv' := [(3, .int x1), (0, .ref (g.2.1 17)), (1, .ref (g.2.1 p1)), (2, .int p2)]) hx hb dX8_step_3 rfl hl (by decide) rfl (fun ls hl => ?_)
  refine lv_aload_n hx hb dX8_step_4 rfl (lv_at hl 1 rfl) ?_
  refine gf_X8_39_17 C hK hs dX8_step_5 ?_
  by_cases hn1 : (σ.1 17 8) = 1
  · have hE := if_t hn1 hE
    refine lv_tableIn (off := 36) (tgt := 44) hx hb dX8_step_8 (by rw [hn1]; decide) (by rw [hn1]; decide) (by rw [hn1]; decide) (by decide) ?_
    refine lv_aload_n hx hb dX8_step_44 rfl (lv_at hl 1 rfl) ?_
    refine lv_aload_n hx hb dX8_step_45 rfl (lv_at hl 2 rfl) ?_
    refine lv_iload_n hx hb dX8_step_46 rfl (lv_at hl 3 rfl) ?_
    obtain ⟨σ4, r5, hE1, hE⟩ := cl_e hE
    refine x_civ (As := [.ref (g.2.1 p1), .int p2]) (rest := []) C hl.1 hK hs hA ⟨Nat.le_refl 0, Nat.le_refl 0⟩ (ctX8_inName l g _ _ _ _ _ hE1) (cw_X8_50 C ⟨Nat.le_of_ble_eq_true rfl, Nat.le_of_ble_eq_true rfl⟩) (hs.recv hK 17 (by decide) rfl rfl) rfl rfl (Nat.le_of_ble_eq_true rfl) dX8_step_47 (fun H locs hs => ?_)
    exact hQ hs hE dX8_step_50
  have hE := if_f hn1 hE
  by_cases hn2 : (σ.1 17 8) = 2
  · have hE := if_t hn2 hE
    refine lv_tableIn (off := 43) (tgt := 51) hx hb dX8_step_8 (by rw [hn2]; decide) (by rw [hn2]; decide) (by rw [hn2]; decide) (by decide) ?_
    refine lv_iload_n hx hb dX8_step_51 rfl (lv_at hl 0 rfl) ?_
    refine lv_iconst (v := 1) hx hb dX8_step_52 (by decide) ?_
    obtain ⟨σ6, r7, hE1, hE⟩ := cl_e hE
    refine x_cis (As := [.int x1, .int 1]) (rest := []) C hl.1 hK hs hA ⟨Nat.le_refl 0, Nat.le_refl 0⟩ (ctX8_isFigure l g _ _ _ _ _ hE1) (cw_X8_53 C ⟨Nat.le_of_ble_eq_true rfl, Nat.le_of_ble_eq_true rfl⟩) rfl rfl (Nat.le_of_ble_eq_true rfl) dX8_step_53 (fun H locs hs => ?_)
    refine lv_if_eq (tgt := 67) hx hb dX8_step_56 (by decide) (fun hc => ?_) (fun hc => ?_)
    · have hE := if_t hc hE
      refine lv_iload_n hx hb dX8_step_67 rfl (lv_at hl 3 rfl) ?_
      exact hQ hs hE dX8_step_68
    · have hE := if_f hc hE
      refine lv_aload_n hx hb dX8_step_59 rfl (lv_at hl 1 rfl) ?_
      refine lv_iload_n hx hb dX8_step_60 rfl (lv_at hl 0 rfl) ?_
      obtain ⟨σ8, r9, hE1, hE⟩ := cl_e hE
      refine x_civ (As := [.int x1]) (rest := []) C hl.1 hK hs hA ⟨Nat.le_refl 0, Nat.le_refl 0⟩ (ctX8_takeLasts l g _ _ _ _ hE1) (cw_X8_57 C ⟨Nat.le_of_ble_eq_true rfl, Nat.le_of_ble_eq_true rfl⟩) (hs.recv hK 17 (by decide) rfl rfl) rfl rfl (Nat.le_of_ble_eq_true rfl) dX8_step_61 (fun H locs hs => ?_)
      refine lv_goto (tgt := 68) hx hb dX8_step_64 (by decide) ?_
      exact hQ hs hE dX8_step_68
  have hE := if_f hn2 hE
  by_cases hn3 : (σ.1 17 8) = 3
  · have hE := if_t hn3 hE
    refine lv_tableIn (off := 79) (tgt := 87) hx hb dX8_step_8 (by rw [hn3]; decide) (by rw [hn3]; decide) (by rw [hn3]; decide) (by decide) ?_
    refine lv_iload_n hx hb dX8_step_87 rfl (lv_at hl 0 rfl) ?_
    refine lv_bipush (v := 59) hx hb dX8_step_88 (by decide) ?_
    refine lv_icmp_ne (tgt := 100) hx hb dX8_step_90 (by decide) (fun hc => ?_) (fun hc => ?_)
    · have hE := if_f hc hE
      refine lv_iload_n hx hb dX8_step_100 rfl (lv_at hl 3 rfl) ?_
      exact hQ hs hE dX8_step_101
    · have hE := if_t hc hE
      refine lv_aload_n hx hb dX8_step_93 rfl (lv_at hl 1 rfl) ?_
      obtain ⟨σ10, r11, hE1, hE⟩ := cl_e hE
      refine x_civ (As := []) (rest := []) C hl.1 hK hs hA ⟨Nat.le_refl 0, Nat.le_refl 0⟩ (ctX8_closeColour l g _  _ _ hE1) (cw_X8_64 C ⟨Nat.le_of_ble_eq_true rfl, Nat.le_of_ble_eq_true rfl⟩) (hs.recv hK 17 (by decide) rfl rfl) rfl rfl (Nat.le_of_ble_eq_true rfl) dX8_step_94 (fun H locs hs => ?_)
      refine lv_goto (tgt := 101) hx hb dX8_step_97 (by decide) ?_
      exact hQ hs hE dX8_step_101
  have hE := if_f hn3 hE
  by_cases hn4 : (σ.1 17 8) = 4
  · have hE := if_t hn4 hE
    refine lv_tableIn (off := 61) (tgt := 69) hx hb dX8_step_8 (by rw [hn4]; decide) (by rw [hn4]; decide) (by rw [hn4]; decide) (by decide) ?_
    refine lv_iload_n hx hb dX8_step_69 rfl (lv_at hl 0 rfl) ?_
    refine lv_iconst (v := 0) hx hb dX8_step_70 (by decide) ?_
    obtain ⟨σ12, r13, hE1, hE⟩ := cl_e hE
    refine x_cis (As := [.int x1, .int 0]) (rest := []) C hl.1 hK hs hA ⟨Nat.le_refl 0, Nat.le_refl 0⟩ (ctX8_isFigure l g _ _ _ _ _ hE1) (cw_X8_53 C ⟨Nat.le_of_ble_eq_true rfl, Nat.le_of_ble_eq_true rfl⟩) rfl rfl (Nat.le_of_ble_eq_true rfl) dX8_step_71 (fun H locs hs => ?_)
    refine lv_if_eq (tgt := 85) hx hb dX8_step_74 (by decide) (fun hc => ?_) (fun hc => ?_)
    · have hE := if_t hc hE
      refine lv_iload_n hx hb dX8_step_85 rfl (lv_at hl 3 rfl) ?_
      exact hQ hs hE dX8_step_86
    · have hE := if_f hc hE
      refine lv_aload_n hx hb dX8_step_77 rfl (lv_at hl 1 rfl) ?_
      refine lv_iload_n hx hb dX8_step_78 rfl (lv_at hl 0 rfl) ?_
      obtain ⟨σ14, r15, hE1, hE⟩ := cl_e hE
      refine x_civ (As := [.int x1]) (rest := []) C hl.1 hK hs hA ⟨Nat.le_refl 0, Nat.le_refl 0⟩ (ctX8_takeIncome l g _ _ _ _ hE1) (cw_X8_61 C ⟨Nat.le_of_ble_eq_true rfl, Nat.le_of_ble_eq_true rfl⟩) (hs.recv hK 17 (by decide) rfl rfl) rfl rfl (Nat.le_of_ble_eq_true rfl) dX8_step_79 (fun H locs hs => ?_)
      refine lv_goto (tgt := 86) hx hb dX8_step_82 (by decide) ?_
      exact hQ hs hE dX8_step_86
  have hE := if_f hn4 hE
  by_cases hn5 : (σ.1 17 8) = 5
  · have hE := if_t hn5 hE
    refine lv_tableIn (off := 94) (tgt := 102) hx hb dX8_step_8 (by rw [hn5]; decide) (by rw [hn5]; decide) (by rw [hn5]; decide) (by decide) ?_
    refine lv_iload_n hx hb dX8_step_102 rfl (lv_at hl 0 rfl) ?_
    refine lv_bipush (v := 59) hx hb dX8_step_103 (by decide) ?_
    refine lv_icmp_ne (tgt := 115) hx hb dX8_step_105 (by decide) (fun hc => ?_) (fun hc => ?_)
    · have hE := if_f hc hE
      refine lv_iload_n hx hb dX8_step_115 rfl (lv_at hl 3 rfl) ?_
      exact hQ hs hE dX8_step_116
    · have hE := if_t hc hE
      refine lv_aload_n hx hb dX8_step_108 rfl (lv_at hl 1 rfl) ?_
      obtain ⟨σ16, r17, hE1, hE⟩ := cl_e hE
      refine x_civ (As := []) (rest := []) C hl.1 hK hs hA ⟨Nat.le_refl 0, Nat.le_refl 0⟩ (ctX8_closeHouse l g _  _ _ hE1) (cw_X8_68 C ⟨Nat.le_of_ble_eq_true rfl, Nat.le_of_ble_eq_true rfl⟩) (hs.recv hK 17 (by decide) rfl rfl) rfl rfl (Nat.le_of_ble_eq_true rfl) dX8_step_109 (fun H locs hs => ?_)
      refine lv_goto (tgt := 116) hx hb dX8_step_112 (by decide) ?_
      exact hQ hs hE dX8_step_116
  have hE := if_f hn5 hE
  have hDf : W p l e (rmD 5) s m args below meth c H locs 0 0 Q (F0 m 117 ls []) := by
    refine lv_iload_n hx hb dX8_step_117 rfl (lv_at hl 0 rfl) ?_
    refine lv_bipush (v := 32) hx hb dX8_step_118 (by decide) ?_
    refine lv_icmp_ne (tgt := 128) hx hb dX8_step_120 (by decide) (fun hc => ?_) (fun hc => ?_)
    · have hE := if_f hc hE
      refine lv_aload_n hx hb dX8_step_128 rfl (lv_at hl 1 rfl) ?_
      refine lv_iload_n hx hb dX8_step_129 rfl (lv_at hl 0 rfl) ?_
      refine lv_iload_n hx hb dX8_step_130 rfl (lv_at hl 3 rfl) ?_
      obtain ⟨σ2, r3, hE1, hE⟩ := cl_e hE
      refine x_civ (As := [.int x1, .int p2]) (rest := []) C hl.1 hK hs hA ⟨Nat.le_refl 0, Nat.le_refl 0⟩ (ctX8_openItem l g _ _ _ _ _ hE1) (cw_X8_71 C ⟨Nat.le_of_ble_eq_true rfl, Nat.le_of_ble_eq_true rfl⟩) (hs.recv hK 17 (by decide) rfl rfl) rfl rfl (Nat.le_of_ble_eq_true rfl) dX8_step_131 (fun H locs hs => ?_)
      exact hQ hs hE dX8_step_134
    · have hE := if_t hc hE
      refine lv_bipush (v := (-9)) hx hb dX8_step_123 (by decide) ?_
      refine lv_goto (tgt := 134) hx hb dX8_step_125 (by decide) ?_
      exact hQ hs hE dX8_step_134
  exact lv_tableOut (tgt := 117) hx hb dX8_step_8 (by have q0 := sw_n 1 hn1 (by decide); have q1 := sw_n 2 hn2 (by decide); have q2 := sw_n 3 hn3 (by decide); have q3 := sw_n 4 hn4 (by decide); have q4 := sw_n 5 hn5 (by decide); omega) (by decide) hDf
theorem dX8_read_0 : decode cX8_read 0 = .ok (.aload_n 0, 1) := by decide +kernel
theorem dX8_read_1 : decode cX8_read 1 = .ok (.iconst 0, 1) := by decide +kernel
theorem dX8_read_2 : decode cX8_read 2 = .ok (.putfield 32, 3) := by decide +kernel
theorem dX8_read_5 : decode cX8_read 5 = .ok (.aload_n 0, 1) := by decide +kernel
theorem dX8_read_6 : decode cX8_read 6 = .ok (.iconst 0, 1) := by decide +kernel
theorem dX8_read_7 : decode cX8_read 7 = .ok (.putfield 36, 3) := by decide +kernel
theorem dX8_read_10 : decode cX8_read 10 = .ok (.aload_n 0, 1) := by decide +kernel
theorem dX8_read_11 : decode cX8_read 11 = .ok (.iconst 0, 1) := by decide +kernel
theorem dX8_read_12 : decode cX8_read 12 = .ok (.putfield 39, 3) := by decide +kernel
theorem dX8_read_15 : decode cX8_read 15 = .ok (.iconst 0, 1) := by decide +kernel
theorem dX8_read_16 : decode cX8_read 16 = .ok (.istore_n 3, 1) := by decide +kernel
theorem dX8_read_17 : decode cX8_read 17 = .ok (.iload_n 3, 1) := by decide +kernel
theorem dX8_read_18 : decode cX8_read 18 = .ok (.iload_n 2, 1) := by decide +kernel
theorem dX8_read_19 : decode cX8_read 19 = .ok (.if_icmp .ge 27, 3) := by decide +kernel
theorem dX8_read_22 : decode cX8_read 22 = .ok (.aload_n 0, 1) := by decide +kernel
theorem dX8_read_23 : decode cX8_read 23 = .ok (.aload_n 1, 1) := by decide +kernel
theorem dX8_read_24 : decode cX8_read 24 = .ok (.iload_n 3, 1) := by decide +kernel
theorem dX8_read_25 : decode cX8_read 25 = .ok (.invokevirtual 42, 3) := by decide +kernel
theorem dX8_read_28 : decode cX8_read 28 = .ok (.istore 4, 2) := by decide +kernel
theorem dX8_read_30 : decode cX8_read 30 = .ok (.iload 4, 2) := by decide +kernel
theorem dX8_read_32 : decode cX8_read 32 = .ok (.bipush (-9), 2) := by decide +kernel
theorem dX8_read_34 : decode cX8_read 34 = .ok (.if_icmp .eq 6, 3) := by decide +kernel
theorem dX8_read_37 : decode cX8_read 37 = .ok (.iload 4, 2) := by decide +kernel
theorem dX8_read_39 : decode cX8_read 39 = .ok (.ireturn, 1) := by decide +kernel
theorem dX8_read_40 : decode cX8_read 40 = .ok (.iinc 3 1, 3) := by decide +kernel
theorem dX8_read_43 : decode cX8_read 43 = .ok (.goto (-26), 3) := by decide +kernel
theorem dX8_read_46 : decode cX8_read 46 = .ok (.aload_n 0, 1) := by decide +kernel
theorem dX8_read_47 : decode cX8_read 47 = .ok (.getfield 39, 3) := by decide +kernel
theorem dX8_read_50 : decode cX8_read 50 = .ok (.iconst 1, 1) := by decide +kernel
theorem dX8_read_51 : decode cX8_read 51 = .ok (.if_icmp .ne 21, 3) := by decide +kernel
theorem dX8_read_54 : decode cX8_read 54 = .ok (.aload_n 0, 1) := by decide +kernel
theorem dX8_read_55 : decode cX8_read 55 = .ok (.aload_n 1, 1) := by decide +kernel
theorem dX8_read_56 : decode cX8_read 56 = .ok (.invokevirtual 46, 3) := by decide +kernel
theorem dX8_read_59 : decode cX8_read 59 = .ok (.ifCond .eq 13, 3) := by decide +kernel
theorem dX8_read_62 : decode cX8_read 62 = .ok (.aload_n 0, 1) := by decide +kernel
theorem dX8_read_63 : decode cX8_read 63 = .ok (.getfield 11, 3) := by decide +kernel
theorem dX8_read_66 : decode cX8_read 66 = .ok (.aload_n 0, 1) := by decide +kernel
theorem dX8_read_67 : decode cX8_read 67 = .ok (.getfield 32, 3) := by decide +kernel
theorem dX8_read_70 : decode cX8_read 70 = .ok (.iaload, 1) := by decide +kernel
theorem dX8_read_71 : decode cX8_read 71 = .ok (.ireturn, 1) := by decide +kernel
theorem dX8_read_72 : decode cX8_read 72 = .ok (.aload_n 0, 1) := by decide +kernel
theorem dX8_read_73 : decode cX8_read 73 = .ok (.getfield 39, 3) := by decide +kernel
theorem dX8_read_76 : decode cX8_read 76 = .ok (.ifCond .ne 19, 3) := by decide +kernel
theorem dX8_read_79 : decode cX8_read 79 = .ok (.aload_n 0, 1) := by decide +kernel
theorem dX8_read_80 : decode cX8_read 80 = .ok (.getfield 36, 3) := by decide +kernel
theorem dX8_read_83 : decode cX8_read 83 = .ok (.iconst 2, 1) := by decide +kernel
theorem dX8_read_84 : decode cX8_read 84 = .ok (.if_icmp .lt 11, 3) := by decide +kernel
theorem dX8_read_87 : decode cX8_read 87 = .ok (.aload_n 0, 1) := by decide +kernel
theorem dX8_read_88 : decode cX8_read 88 = .ok (.getfield 32, 3) := by decide +kernel
theorem dX8_read_91 : decode cX8_read 91 = .ok (.iconst 1, 1) := by decide +kernel
theorem dX8_read_92 : decode cX8_read 92 = .ok (.if_icmp .ge 5, 3) := by decide +kernel
theorem dX8_read_95 : decode cX8_read 95 = .ok (.iload_n 2, 1) := by decide +kernel
theorem dX8_read_96 : decode cX8_read 96 = .ok (.ireturn, 1) := by decide +kernel
theorem dX8_read_97 : decode cX8_read 97 = .ok (.bipush (-9), 2) := by decide +kernel
theorem dX8_read_99 : decode cX8_read 99 = .ok (.ireturn, 1) := by decide +kernel
def fX8_read_L17 (p1 : Nat) (p2 : Int32) : Nat → St → Int32 → (St → Int32 → Option (St × Int32)) → Option (St × Int32)
  | 0, _, _, _ => none
  | n + 1, σ4, v5, k => (if p2 ≤ v5 then k σ4 v5 else cl (fX8_step σ4 p1 v5) (fun σ6 r7 => (if r7 = (-9) then fX8_read_L17 p1 p2 n σ6 (v5 + 1) k else some (σ6, r7))))
def fX8_read (σ : St) (p1 : Nat) (p2 : Int32) : Option (St × Int32) := pt (su σ 17 6 0) (fun σ1 => pt (su σ1 17 7 0) (fun σ2 => pt (su σ2 17 8 0) (fun σ3 => fX8_read_L17 p1 p2 10000 σ3 0 (fun σ8 v9 => jn (fun (σ11 : St) => (if (σ11.1 17 8) = 0 then (if (σ11.1 17 7) < 2 then some (σ11, p2) else (if 1 ≤ (σ11.1 17 6) then some (σ11, (-9)) else some (σ11, p2))) else some (σ11, p2))) (fun k10 => (if (σ8.1 17 8) = 1 then cl (fX8_isToldAlready σ8 p1) (fun σ12 r13 => (if r13 = 0 then k10 σ12 else rd LC σ12 18 (σ12.1 17 6) (fun x14 => some (σ12, x14)))) else k10 σ8))))))
set_option maxHeartbeats 4000000 in
set_option maxRecDepth 100000 in
theorem ctX8_read (l : Launch) (g : GG) (σ : St) (p1 : Nat) (p2 : Int32) (σ' : St) (r : Int32) (hE : fX8_read σ p1 p2 = some (σ', r)) : MI 52 entC l g yX8_read (Cond.code yX8_read cX8_read 5 (some .int) :: gtbl) (rmD 6) [.ref (g.2.1 17), .ref (g.2.1 p1), .int p2] σ σ' r := by
  refine mi_i (own := RX8) (lv := [(0, .ref (g.2.1 17)), (1, .ref (g.2.1 p1)), (2, .int p2)]) (by decide) rfl (Nat.le_of_ble_eq_true rfl) rfl (fun p e s m below meth c ls args Q A H0 H locs C hK hA hQ hs hl => ?_)
  have hx := C.1
  have hb := C.2.1
  unfold fX8_read at hE
  refine lv_aload_n hx hb dX8_read_0 rfl (lv_at hl 0 rfl) ?_
  refine lv_iconst (v := 0) hx hb dX8_read_1 (by decide) ?_
  obtain ⟨σ1, eσ1, hE⟩ := pt_w hE
  refine pf_X8_32_17 C hK hs eσ1 dX8_read_2 (fun H locs hs => ?_)
  refine lv_aload_n hx hb dX8_read_5 rfl (lv_at hl 0 rfl) ?_
  refine lv_iconst (v := 0) hx hb dX8_read_6 (by decide) ?_
  obtain ⟨σ2, eσ2, hE⟩ := pt_w hE
  refine pf_X8_36_17 C hK hs eσ2 dX8_read_7 (fun H locs hs => ?_)
  refine lv_aload_n hx hb dX8_read_10 rfl (lv_at hl 0 rfl) ?_
  refine lv_iconst (v := 0) hx hb dX8_read_11 (by decide) ?_
  obtain ⟨σ3, eσ3, hE⟩ := pt_w hE
  refine pf_X8_39_17 C hK hs eσ3 dX8_read_12 (fun H locs hs => ?_)
  refine lv_iconst (v := 0) hx hb dX8_read_15 (by decide) ?_
  refine lv_istore_n (lv' := [(3, .int 0), (0, .ref (g.2.1 17)), (1, .ref (g.2.1 p1)), (2, .int p2)]) hx hb dX8_read_16 rfl hl (by decide) rfl (fun ls hl => ?_)
  have hL17 : ∀ (n : Nat) (σ4 : St) (v5 : Int32) (k : St → Int32 → Option (St × Int32)), fX8_read_L17 p1 p2 n σ4 v5 k = some (σ', r) → (∀ (σ4 : St) (v5 : Int32) (H : Heap) (locs : List Loc) (ls : Array Slot), HW 52 entC g A H0 H locs σ4 → lv_has ls 5 [(0, .ref (g.2.1 17)), (1, .ref (g.2.1 p1)), (2, .int p2), (3, .int v5)] → k σ4 v5 = some (σ', r) → W p l e (rmD 6) s m args below meth c H locs 0 0 Q (F0 m 46 ls [])) → ∀ (H : Heap) (locs : List Loc) (ls : Array Slot), HW 52 entC g A H0 H locs σ4 → lv_has ls 5 [(0, .ref (g.2.1 17)), (1, .ref (g.2.1 p1)), (2, .int p2), (3, .int v5)] → W p l e (rmD 6) s m args below meth c H locs 0 0 Q (F0 m 17 ls []) := by
    intro n
    induction n with
    | zero =>
      intro σ4 v5 k hE
      rw [fX8_read_L17] at hE
      exact no_e hE
    | succ n ih =>
      intro σ4 v5 k hE hk H locs ls hs hl
      rw [fX8_read_L17] at hE
      refine lv_iload_n hx hb dX8_read_17 rfl (lv_at hl 3 rfl) ?_
      refine lv_iload_n hx hb dX8_read_18 rfl (lv_at hl 2 rfl) ?_
      refine lv_icmp_ge (tgt := 46) hx hb dX8_read_19 (by decide) (fun hc => ?_) (fun hc => ?_)
      · have hE := if_t hc hE
        exact hk σ4 v5 _ _ _ hs (lv_sub hl [0, 1, 2, 3] rfl) hE
      · have hE := if_f hc hE
        refine lv_aload_n hx hb dX8_read_22 rfl (lv_at hl 0 rfl) ?_
        refine lv_aload_n hx hb dX8_read_23 rfl (lv_at hl 1 rfl) ?_
        refine lv_iload_n hx hb dX8_read_24 rfl (lv_at hl 3 rfl) ?_
        obtain ⟨σ6, r7, hE1, hE⟩ := cl_e hE
        refine x_civ (As := [.ref (g.2.1 p1), .int v5]) (rest := []) C hl.1 hK hs hA ⟨Nat.le_refl 0, Nat.le_refl 0⟩ (ctX8_step l g _ _ _ _ _ hE1) (cw_X8_42 C ⟨Nat.le_of_ble_eq_true rfl, Nat.le_of_ble_eq_true rfl⟩) (hs.recv hK 17 (by decide) rfl rfl) rfl rfl (Nat.le_of_ble_eq_true rfl) dX8_read_25 (fun H locs hs => ?_)
        refine lv_istore (lv' := [(4, .int r7), (0, .ref (g.2.1 17)), (1, .ref (g.2.1 p1)), (2, .int p2), (3, .int v5)]) hx hb dX8_read_28 hl (by decide) rfl (fun ls hl => ?_)
        refine lv_iload hx hb dX8_read_30 (lv_at hl 0 rfl) ?_
        refine lv_bipush (v := (-9)) hx hb dX8_read_32 (by decide) ?_
        refine lv_icmp_eq (tgt := 40) hx hb dX8_read_34 (by decide) (fun hc => ?_) (fun hc => ?_)
        · have hE := if_t hc hE
          refine lv_iinc (v := v5 + 1) (lv' := [(3, .int (v5 + 1)), (4, .int r7), (0, .ref (g.2.1 17)), (1, .ref (g.2.1 p1)), (2, .int p2)]) hx hb dX8_read_40 hl (k := 4) rfl rfl (by decide) rfl (fun ls hl => ?_)
          refine lv_goto (tgt := 17) hx hb dX8_read_43 (by decide) ?_
          exact ih _ _ _ hE hk _ _ _ hs (lv_sub hl [2, 3, 4, 0] rfl)
        · have hE := if_f hc hE
          refine lv_iload hx hb dX8_read_37 (lv_at hl 0 rfl) ?_
          exact hQ hs hE dX8_read_39
  refine hL17 _ _ _ _ hE (fun σ8 v9 H locs ls hs hl hE => ?_) H locs ls hs (lv_sub hl [1, 2, 3, 0] rfl)
  refine lv_aload_n hx hb dX8_read_46 rfl (lv_at hl 0 rfl) ?_
  refine gf_X8_39_17 C hK hs dX8_read_47 ?_
  refine lv_iconst (v := 1) hx hb dX8_read_50 (by decide) ?_
  refine jn1 hE (fun k10 hE hk10 => ?_)
  have hJk10 : ∀ (σ11 : St) (H : Heap) (locs : List Loc) (ls : Array Slot), HW 52 entC g A H0 H locs σ11 → lv_has ls 5 [(0, .ref (g.2.1 17)), (2, .int p2)] → k10 σ11 = some (σ', r) → W p l e (rmD 6) s m args below meth c H locs 0 0 Q (F0 m 72 ls []) := by
    intro σ11 H locs ls hs hl hE
    have hE := hk10 _ hE
    refine lv_aload_n hx hb dX8_read_72 rfl (lv_at hl 0 rfl) ?_
    refine gf_X8_39_17 C hK hs dX8_read_73 ?_
    refine lv_if_ne (tgt := 95) hx hb dX8_read_76 (by decide) (fun hc => ?_) (fun hc => ?_)
    · have hE := if_f hc hE
      refine lv_iload_n hx hb dX8_read_95 rfl (lv_at hl 1 rfl) ?_
      exact hQ hs hE dX8_read_96
    · have hE := if_t hc hE
      refine lv_aload_n hx hb dX8_read_79 rfl (lv_at hl 0 rfl) ?_
      refine gf_X8_36_17 C hK hs dX8_read_80 ?_
      refine lv_iconst (v := 2) hx hb dX8_read_83 (by decide) ?_
      refine lv_icmp_lt (tgt := 95) hx hb dX8_read_84 (by decide) (fun hc => ?_) (fun hc => ?_)
      · have hE := if_t hc hE
        refine lv_iload_n hx hb dX8_read_95 rfl (lv_at hl 1 rfl) ?_
        exact hQ hs hE dX8_read_96
      · have hE := if_f hc hE
        refine lv_aload_n hx hb dX8_read_87 rfl (lv_at hl 0 rfl) ?_
        refine gf_X8_32_17 C hK hs dX8_read_88 ?_
        refine lv_iconst (v := 1) hx hb dX8_read_91 (by decide) ?_
        refine lv_icmp_ge (tgt := 97) hx hb dX8_read_92 (by decide) (fun hc => ?_) (fun hc => ?_)
        · have hE := if_t hc hE
          refine lv_bipush (v := (-9)) hx hb dX8_read_97 (by decide) ?_
          exact hQ hs hE dX8_read_99
        · have hE := if_f hc hE
          refine lv_iload_n hx hb dX8_read_95 rfl (lv_at hl 1 rfl) ?_
          exact hQ hs hE dX8_read_96
  refine lv_icmp_ne (tgt := 72) hx hb dX8_read_51 (by decide) (fun hc => ?_) (fun hc => ?_)
  · have hE := if_f hc hE
    exact hJk10 σ8 _ _ _ hs (lv_sub hl [0, 2] rfl) hE
  · have hE := if_t hc hE
    refine lv_aload_n hx hb dX8_read_54 rfl (lv_at hl 0 rfl) ?_
    refine lv_aload_n hx hb dX8_read_55 rfl (lv_at hl 1 rfl) ?_
    obtain ⟨σ12, r13, hE1, hE⟩ := cl_e hE
    refine x_civ (As := [.ref (g.2.1 p1)]) (rest := []) C hl.1 hK hs hA ⟨Nat.le_refl 0, Nat.le_refl 0⟩ (ctX8_isToldAlready l g _ _ _ _ hE1) (cw_X8_46 C ⟨Nat.le_of_ble_eq_true rfl, Nat.le_of_ble_eq_true rfl⟩) (hs.recv hK 17 (by decide) rfl rfl) rfl rfl (Nat.le_of_ble_eq_true rfl) dX8_read_56 (fun H locs hs => ?_)
    refine lv_if_eq (tgt := 72) hx hb dX8_read_59 (by decide) (fun hc => ?_) (fun hc => ?_)
    · have hE := if_t hc hE
      exact hJk10 σ12 _ _ _ hs (lv_sub hl [0, 2] rfl) hE
    · have hE := if_f hc hE
      refine lv_aload_n hx hb dX8_read_62 rfl (lv_at hl 0 rfl) ?_
      refine gf_X8_11_17 C hK hs dX8_read_63 ?_
      refine lv_aload_n hx hb dX8_read_66 rfl (lv_at hl 0 rfl) ?_
      refine gf_X8_32_17 C hK hs dX8_read_67 ?_
      obtain ⟨hi, x14, ex14, hE⟩ := rd_w hE
      refine y_ald layC C hK hs hi ex14 dX8_read_70 ?_
      exact hQ hs hE dX8_read_71
theorem dX9_purseAs_0 : decode cX9_purseAs 0 = .ok (.iload_n 2, 1) := by decide +kernel
theorem dX9_purseAs_1 : decode cX9_purseAs 1 = .ok (.aload_n 0, 1) := by decide +kernel
theorem dX9_purseAs_2 : decode cX9_purseAs 2 = .ok (.getfield 10, 3) := by decide +kernel
theorem dX9_purseAs_5 : decode cX9_purseAs 5 = .ok (.getfield 33, 3) := by decide +kernel
theorem dX9_purseAs_8 : decode cX9_purseAs 8 = .ok (.iload_n 1, 1) := by decide +kernel
theorem dX9_purseAs_9 : decode cX9_purseAs 9 = .ok (.iaload, 1) := by decide +kernel
theorem dX9_purseAs_10 : decode cX9_purseAs 10 = .ok (.aload_n 0, 1) := by decide +kernel
theorem dX9_purseAs_11 : decode cX9_purseAs 11 = .ok (.getfield 16, 3) := by decide +kernel
theorem dX9_purseAs_14 : decode cX9_purseAs 14 = .ok (.iload_n 1, 1) := by decide +kernel
theorem dX9_purseAs_15 : decode cX9_purseAs 15 = .ok (.iaload, 1) := by decide +kernel
theorem dX9_purseAs_16 : decode cX9_purseAs 16 = .ok (.invokestatic 58, 3) := by decide +kernel
theorem dX9_purseAs_19 : decode cX9_purseAs 19 = .ok (.ireturn, 1) := by decide +kernel
def fX9_purseAs (σ : St) (p1 : Int32) (p2 : Int32) : Option (St × Int32) := rd LC σ 32 p1 (fun x1 => rd LC σ 33 p1 (fun x2 => cl (fX2_purseBehind σ p2 x1 x2) (fun σ3 r4 => some (σ3, r4))))
set_option maxHeartbeats 4000000 in
set_option maxRecDepth 100000 in
theorem ctX9_purseAs (l : Launch) (g : GG) (σ : St) (p1 : Int32) (p2 : Int32) (σ' : St) (r : Int32) (hE : fX9_purseAs σ p1 p2 = some (σ', r)) : MI 52 entC l g yX9_purseAs (Cond.code yX9_purseAs cX9_purseAs 3 (some .int) :: gtbl) (rmD 2) [.ref (g.2.1 25), .int p1, .int p2] σ σ' r := by
  refine mi_i (own := RX9) (lv := [(0, .ref (g.2.1 25)), (1, .int p1), (2, .int p2)]) (by decide) rfl (Nat.le_of_ble_eq_true rfl) rfl (fun p e s m below meth c ls args Q A H0 H locs C hK hA hQ hs hl => ?_)
  have hx := C.1
  have hb := C.2.1
  unfold fX9_purseAs at hE
  refine lv_iload_n hx hb dX9_purseAs_0 rfl (lv_at hl 2 rfl) ?_
  refine lv_aload_n hx hb dX9_purseAs_1 rfl (lv_at hl 0 rfl) ?_
  refine gf_X9_10_25 C hK hs dX9_purseAs_2 ?_
  refine gf_X9_33_26 C hK hs dX9_purseAs_5 ?_
  refine lv_iload_n hx hb dX9_purseAs_8 rfl (lv_at hl 1 rfl) ?_
  obtain ⟨hi, x1, ex1, hE⟩ := rd_w hE
  refine y_ald layC C hK hs hi ex1 dX9_purseAs_9 ?_
  refine lv_aload_n hx hb dX9_purseAs_10 rfl (lv_at hl 0 rfl) ?_
  refine gf_X9_16_25 C hK hs dX9_purseAs_11 ?_
  refine lv_iload_n hx hb dX9_purseAs_14 rfl (lv_at hl 1 rfl) ?_
  obtain ⟨hi, x2, ex2, hE⟩ := rd_w hE
  refine y_ald layC C hK hs hi ex2 dX9_purseAs_15 ?_
  obtain ⟨σ3, r4, hE1, hE⟩ := cl_e hE
  refine x_cis (As := [.int p2, .int x1, .int x2]) (rest := []) C hl.1 hK hs hA ⟨Nat.le_refl 0, Nat.le_refl 0⟩ (ctX2_purseBehind l g _ _ _ _ _ _ hE1) (cw_X9_58 C ⟨Nat.le_of_ble_eq_true rfl, Nat.le_of_ble_eq_true rfl⟩) rfl rfl (Nat.le_of_ble_eq_true rfl) dX9_purseAs_16 (fun H locs hs => ?_)
  exact hQ hs hE dX9_purseAs_19
