theorem dX4_duelOf_0 : decode cX4_duelOf 0 = .ok (.iconst 0, 1) := by decide +kernel
theorem dX4_duelOf_1 : decode cX4_duelOf 1 = .ok (.istore_n 3, 1) := by decide +kernel
theorem dX4_duelOf_2 : decode cX4_duelOf 2 = .ok (.iconst 0, 1) := by decide +kernel
theorem dX4_duelOf_3 : decode cX4_duelOf 3 = .ok (.istore 4, 2) := by decide +kernel
theorem dX4_duelOf_5 : decode cX4_duelOf 5 = .ok (.iload 4, 2) := by decide +kernel
theorem dX4_duelOf_7 : decode cX4_duelOf 7 = .ok (.aload_n 1, 1) := by decide +kernel
theorem dX4_duelOf_8 : decode cX4_duelOf 8 = .ok (.getfield 26, 3) := by decide +kernel
theorem dX4_duelOf_11 : decode cX4_duelOf 11 = .ok (.getfield 64, 3) := by decide +kernel
theorem dX4_duelOf_14 : decode cX4_duelOf 14 = .ok (.if_icmp .ge 68, 3) := by decide +kernel
theorem dX4_duelOf_17 : decode cX4_duelOf 17 = .ok (.aload_n 0, 1) := by decide +kernel
theorem dX4_duelOf_18 : decode cX4_duelOf 18 = .ok (.getfield 23, 3) := by decide +kernel
theorem dX4_duelOf_21 : decode cX4_duelOf 21 = .ok (.iload 4, 2) := by decide +kernel
theorem dX4_duelOf_23 : decode cX4_duelOf 23 = .ok (.iconst 0, 1) := by decide +kernel
theorem dX4_duelOf_24 : decode cX4_duelOf 24 = .ok (.iastore, 1) := by decide +kernel
theorem dX4_duelOf_25 : decode cX4_duelOf 25 = .ok (.iload_n 2, 1) := by decide +kernel
theorem dX4_duelOf_26 : decode cX4_duelOf 26 = .ok (.ineg, 1) := by decide +kernel
theorem dX4_duelOf_27 : decode cX4_duelOf 27 = .ok (.istore 5, 2) := by decide +kernel
theorem dX4_duelOf_29 : decode cX4_duelOf 29 = .ok (.iload 5, 2) := by decide +kernel
theorem dX4_duelOf_31 : decode cX4_duelOf 31 = .ok (.iload_n 2, 1) := by decide +kernel
theorem dX4_duelOf_32 : decode cX4_duelOf 32 = .ok (.if_icmp .gt 30, 3) := by decide +kernel
theorem dX4_duelOf_35 : decode cX4_duelOf 35 = .ok (.aload_n 0, 1) := by decide +kernel
theorem dX4_duelOf_36 : decode cX4_duelOf 36 = .ok (.getfield 20, 3) := by decide +kernel
theorem dX4_duelOf_39 : decode cX4_duelOf 39 = .ok (.iload 4, 2) := by decide +kernel
theorem dX4_duelOf_41 : decode cX4_duelOf 41 = .ok (.iload 5, 2) := by decide +kernel
theorem dX4_duelOf_43 : decode cX4_duelOf 43 = .ok (.invokestatic 67, 3) := by decide +kernel
theorem dX4_duelOf_46 : decode cX4_duelOf 46 = .ok (.aload_n 0, 1) := by decide +kernel
theorem dX4_duelOf_47 : decode cX4_duelOf 47 = .ok (.aload_n 1, 1) := by decide +kernel
theorem dX4_duelOf_48 : decode cX4_duelOf 48 = .ok (.iload 4, 2) := by decide +kernel
theorem dX4_duelOf_50 : decode cX4_duelOf 50 = .ok (.iload 5, 2) := by decide +kernel
theorem dX4_duelOf_52 : decode cX4_duelOf 52 = .ok (.invokevirtual 70, 3) := by decide +kernel
theorem dX4_duelOf_55 : decode cX4_duelOf 55 = .ok (.iastore, 1) := by decide +kernel
theorem dX4_duelOf_56 : decode cX4_duelOf 56 = .ok (.iinc 5 1, 3) := by decide +kernel
theorem dX4_duelOf_59 : decode cX4_duelOf 59 = .ok (.goto (-30), 3) := by decide +kernel
theorem dX4_duelOf_62 : decode cX4_duelOf 62 = .ok (.iload_n 3, 1) := by decide +kernel
theorem dX4_duelOf_63 : decode cX4_duelOf 63 = .ok (.aload_n 0, 1) := by decide +kernel
theorem dX4_duelOf_64 : decode cX4_duelOf 64 = .ok (.getfield 20, 3) := by decide +kernel
theorem dX4_duelOf_67 : decode cX4_duelOf 67 = .ok (.iload 4, 2) := by decide +kernel
theorem dX4_duelOf_69 : decode cX4_duelOf 69 = .ok (.iconst 0, 1) := by decide +kernel
theorem dX4_duelOf_70 : decode cX4_duelOf 70 = .ok (.invokestatic 67, 3) := by decide +kernel
theorem dX4_duelOf_73 : decode cX4_duelOf 73 = .ok (.iaload, 1) := by decide +kernel
theorem dX4_duelOf_74 : decode cX4_duelOf 74 = .ok (.iadd, 1) := by decide +kernel
theorem dX4_duelOf_75 : decode cX4_duelOf 75 = .ok (.istore_n 3, 1) := by decide +kernel
theorem dX4_duelOf_76 : decode cX4_duelOf 76 = .ok (.iinc 4 1, 3) := by decide +kernel
theorem dX4_duelOf_79 : decode cX4_duelOf 79 = .ok (.goto (-74), 3) := by decide +kernel
theorem dX4_duelOf_82 : decode cX4_duelOf 82 = .ok (.aload_n 0, 1) := by decide +kernel
theorem dX4_duelOf_83 : decode cX4_duelOf 83 = .ok (.aload_n 1, 1) := by decide +kernel
theorem dX4_duelOf_84 : decode cX4_duelOf 84 = .ok (.iload_n 2, 1) := by decide +kernel
theorem dX4_duelOf_85 : decode cX4_duelOf 85 = .ok (.iconst 1, 1) := by decide +kernel
theorem dX4_duelOf_86 : decode cX4_duelOf 86 = .ok (.iload_n 3, 1) := by decide +kernel
theorem dX4_duelOf_87 : decode cX4_duelOf 87 = .ok (.invokestatic 74, 3) := by decide +kernel
theorem dX4_duelOf_90 : decode cX4_duelOf 90 = .ok (.ireturn, 1) := by decide +kernel
def fX4_duelOf_L29 (p2 : Int32) (v2 : Int32) (v3 : Int32) : Nat → St → Int32 → (St → Int32 → Option (St × Int32)) → Option (St × Int32)
  | 0, _, _, _ => none
  | n + 1, σ5, v6, k => (if p2 < v6 then k σ5 v6 else cl (fX4_slot σ5 v3 v6) (fun σ7 r8 => cl (fX4_gainWith σ7 v3 v6) (fun σ9 r10 => wr LC σ9 44 r8 r10 (fun σ11 => fX4_duelOf_L29 p2 v2 v3 n σ11 (v6 + 1) k))))
def fX4_duelOf_L5 (p2 : Int32) : Nat → St → Int32 → Int32 → (St → Int32 → Int32 → Option (St × Int32)) → Option (St × Int32)
  | 0, _, _, _, _ => none
  | n + 1, σ1, v2, v3, k => (if (σ1.1 26 7) ≤ v3 then k σ1 v2 v3 else wr LC σ1 45 v3 0 (fun σ4 => fX4_duelOf_L29 p2 v2 v3 10000 σ4 (-p2) (fun σ12 v13 => cl (fX4_slot σ12 v3 0) (fun σ14 r15 => rd LC σ14 44 r15 (fun x16 => fX4_duelOf_L5 p2 n σ14 (v2 + x16) (v3 + 1) k)))))
def fX4_duelOf (σ : St) (p2 : Int32) : Option (St × Int32) := fX4_duelOf_L5 p2 10000 σ 0 0 (fun σ17 v18 v19 => cl (fX4_play_4 σ17 p2 1 v18) (fun σ20 r21 => some (σ20, r21)))
set_option maxHeartbeats 4000000 in
set_option maxRecDepth 100000 in
theorem ctX4_duelOf (l : Launch) (g : GG) (σ : St) (p2 : Int32) (σ' : St) (r : Int32) (hE : fX4_duelOf σ p2 = some (σ', r)) : MI 52 entC l g yX4_duelOf (Cond.code yX4_duelOf cX4_duelOf 6 (some .int) :: gtbl) (rmD 6) [.ref (g.2.1 41), .ref (g.2.1 25), .int p2] σ σ' r := by
  refine mi_i (own := RX4) (lv := [(0, .ref (g.2.1 41)), (1, .ref (g.2.1 25)), (2, .int p2)]) (by decide) rfl (Nat.le_of_ble_eq_true rfl) rfl (fun p e s m below meth c ls args Q A H0 H locs C hK hA hQ hs hl => ?_)
  have hx := C.1
  have hb := C.2.1
  unfold fX4_duelOf at hE
  refine lv_iconst (v := 0) hx hb dX4_duelOf_0 (by decide) ?_
  refine lv_istore_n (lv' := [(3, .int 0), (0, .ref (g.2.1 41)), (1, .ref (g.2.1 25)), (2, .int p2)]) hx hb dX4_duelOf_1 rfl hl (by decide) rfl (fun ls hl => ?_)
  refine lv_iconst (v := 0) hx hb dX4_duelOf_2 (by decide) ?_
  refine lv_istore (lv' := [(4, .int 0), (3, .int 0), (0, .ref (g.2.1 41)), (1, .ref (g.2.1 25)), (2, .int p2)]) hx hb dX4_duelOf_3 hl (by decide) rfl (fun ls hl => ?_)
  have hL5 : ∀ (n : Nat) (σ1 : St) (v2 : Int32) (v3 : Int32) (k : St → Int32 → Int32 → Option (St × Int32)), fX4_duelOf_L5 p2 n σ1 v2 v3 k = some (σ', r) → (∀ (σ1 : St) (v2 : Int32) (v3 : Int32) (H : Heap) (locs : List Loc) (ls : Array Slot), HW 52 entC g A H0 H locs σ1 → lv_has ls 6 [(0, .ref (g.2.1 41)), (1, .ref (g.2.1 25)), (2, .int p2), (3, .int v2), (4, .int v3)] → k σ1 v2 v3 = some (σ', r) → W p l e (rmD 6) s m args below meth c H locs 0 0 Q (F0 m 82 ls [])) → ∀ (H : Heap) (locs : List Loc) (ls : Array Slot), HW 52 entC g A H0 H locs σ1 → lv_has ls 6 [(0, .ref (g.2.1 41)), (1, .ref (g.2.1 25)), (2, .int p2), (3, .int v2), (4, .int v3)] → W p l e (rmD 6) s m args below meth c H locs 0 0 Q (F0 m 5 ls []) := by
    intro n
    induction n with
    | zero =>
      intro σ1 v2 v3 k hE
      rw [fX4_duelOf_L5] at hE
      exact no_e hE
    | succ n ih =>
      intro σ1 v2 v3 k hE hk H locs ls hs hl
      rw [fX4_duelOf_L5] at hE
      refine lv_iload hx hb dX4_duelOf_5 (lv_at hl 4 rfl) ?_
      refine lv_aload_n hx hb dX4_duelOf_7 rfl (lv_at hl 1 rfl) ?_
      refine gf_X4_26_25 C hK hs dX4_duelOf_8 ?_
      refine gf_X4_64_26 C hK hs dX4_duelOf_11 ?_
      refine lv_icmp_ge (tgt := 82) hx hb dX4_duelOf_14 (by decide) (fun hc => ?_) (fun hc => ?_)
      · have hE := if_t hc hE
        exact hk σ1 v2 v3 _ _ _ hs (lv_sub hl [0, 1, 2, 3, 4] rfl) hE
      · have hE := if_f hc hE
        refine lv_aload_n hx hb dX4_duelOf_17 rfl (lv_at hl 0 rfl) ?_
        refine gf_X4_23_41 C hK hs dX4_duelOf_18 ?_
        refine lv_iload hx hb dX4_duelOf_21 (lv_at hl 4 rfl) ?_
        refine lv_iconst (v := 0) hx hb dX4_duelOf_23 (by decide) ?_
        obtain ⟨hi, σ4, eσ4, hE⟩ := wr_w hE
        refine y_ast layC C hK hs hi eσ4 dX4_duelOf_24 (fun H locs hs => ?_)
        refine lv_iload_n hx hb dX4_duelOf_25 rfl (lv_at hl 2 rfl) ?_
        refine lv_ineg hx hb dX4_duelOf_26 ?_
        refine lv_istore (lv' := [(5, .int (-p2)), (0, .ref (g.2.1 41)), (1, .ref (g.2.1 25)), (2, .int p2), (3, .int v2), (4, .int v3)]) hx hb dX4_duelOf_27 hl (by decide) rfl (fun ls hl => ?_)
        have hL29 : ∀ (n : Nat) (σ5 : St) (v6 : Int32) (k : St → Int32 → Option (St × Int32)), fX4_duelOf_L29 p2 v2 v3 n σ5 v6 k = some (σ', r) → (∀ (σ5 : St) (v6 : Int32) (H : Heap) (locs : List Loc) (ls : Array Slot), HW 52 entC g A H0 H locs σ5 → lv_has ls 6 [(0, .ref (g.2.1 41)), (1, .ref (g.2.1 25)), (2, .int p2), (3, .int v2), (4, .int v3), (5, .int v6)] → k σ5 v6 = some (σ', r) → W p l e (rmD 6) s m args below meth c H locs 0 0 Q (F0 m 62 ls [])) → ∀ (H : Heap) (locs : List Loc) (ls : Array Slot), HW 52 entC g A H0 H locs σ5 → lv_has ls 6 [(0, .ref (g.2.1 41)), (1, .ref (g.2.1 25)), (2, .int p2), (3, .int v2), (4, .int v3), (5, .int v6)] → W p l e (rmD 6) s m args below meth c H locs 0 0 Q (F0 m 29 ls []) := by
          intro n
          induction n with
          | zero =>
            intro σ5 v6 k hE
            rw [fX4_duelOf_L29] at hE
            exact no_e hE
          | succ n ih =>
            intro σ5 v6 k hE hk H locs ls hs hl
            rw [fX4_duelOf_L29] at hE
            refine lv_iload hx hb dX4_duelOf_29 (lv_at hl 5 rfl) ?_
            refine lv_iload_n hx hb dX4_duelOf_31 rfl (lv_at hl 2 rfl) ?_
            refine lv_icmp_gt (tgt := 62) hx hb dX4_duelOf_32 (by decide) (fun hc => ?_) (fun hc => ?_)
            · have hE := if_t hc hE
              exact hk σ5 v6 _ _ _ hs (lv_sub hl [0, 1, 2, 3, 4, 5] rfl) hE
            · have hE := if_f hc hE
              refine lv_aload_n hx hb dX4_duelOf_35 rfl (lv_at hl 0 rfl) ?_
              refine gf_X4_20_41 C hK hs dX4_duelOf_36 ?_
              refine lv_iload hx hb dX4_duelOf_39 (lv_at hl 4 rfl) ?_
              refine lv_iload hx hb dX4_duelOf_41 (lv_at hl 5 rfl) ?_
              obtain ⟨σ7, r8, hE1, hE⟩ := cl_e hE
              refine x_cis (As := [.int v3, .int v6]) (rest := [.ref (g.2.1 44)]) C hl.1 hK hs hA ⟨Nat.le_refl 0, Nat.le_refl 0⟩ (ctX4_slot l g _ _ _ _ _ hE1) (cw_X4_67 C ⟨Nat.le_of_ble_eq_true rfl, Nat.le_of_ble_eq_true rfl⟩) rfl rfl (Nat.le_of_ble_eq_true rfl) dX4_duelOf_43 (fun H locs hs => ?_)
              refine lv_aload_n hx hb dX4_duelOf_46 rfl (lv_at hl 0 rfl) ?_
              refine lv_aload_n hx hb dX4_duelOf_47 rfl (lv_at hl 1 rfl) ?_
              refine lv_iload hx hb dX4_duelOf_48 (lv_at hl 4 rfl) ?_
              refine lv_iload hx hb dX4_duelOf_50 (lv_at hl 5 rfl) ?_
              obtain ⟨σ9, r10, hE1, hE⟩ := cl_e hE
              refine x_civ (As := [.ref (g.2.1 25), .int v3, .int v6]) (rest := [.int r8, .ref (g.2.1 44)]) C hl.1 hK hs hA ⟨Nat.le_refl 0, Nat.le_refl 0⟩ (ctX4_gainWith l g _ _ _ _ _ hE1) (cw_X4_70 C ⟨Nat.le_of_ble_eq_true rfl, Nat.le_of_ble_eq_true rfl⟩) (hs.recv hK 41 (by decide) rfl rfl) rfl rfl (Nat.le_of_ble_eq_true rfl) dX4_duelOf_52 (fun H locs hs => ?_)
              obtain ⟨hi, σ11, eσ11, hE⟩ := wr_w hE
              refine y_ast layC C hK hs hi eσ11 dX4_duelOf_55 (fun H locs hs => ?_)
              refine lv_iinc (v := v6 + 1) (lv' := [(5, .int (v6 + 1)), (0, .ref (g.2.1 41)), (1, .ref (g.2.1 25)), (2, .int p2), (3, .int v2), (4, .int v3)]) hx hb dX4_duelOf_56 hl (k := 5) rfl rfl (by decide) rfl (fun ls hl => ?_)
              refine lv_goto (tgt := 29) hx hb dX4_duelOf_59 (by decide) ?_
              exact ih _ _ _ hE hk _ _ _ hs (lv_sub hl [1, 2, 3, 4, 5, 0] rfl)
        refine hL29 _ _ _ _ hE (fun σ12 v13 H locs ls hs hl hE => ?_) H locs ls hs (lv_sub hl [1, 2, 3, 4, 5, 0] rfl)
        refine lv_iload_n hx hb dX4_duelOf_62 rfl (lv_at hl 3 rfl) ?_
        refine lv_aload_n hx hb dX4_duelOf_63 rfl (lv_at hl 0 rfl) ?_
        refine gf_X4_20_41 C hK hs dX4_duelOf_64 ?_
        refine lv_iload hx hb dX4_duelOf_67 (lv_at hl 4 rfl) ?_
        refine lv_iconst (v := 0) hx hb dX4_duelOf_69 (by decide) ?_
        obtain ⟨σ14, r15, hE1, hE⟩ := cl_e hE
        refine x_cis (As := [.int v3, .int 0]) (rest := [.ref (g.2.1 44), .int v2]) C hl.1 hK hs hA ⟨Nat.le_refl 0, Nat.le_refl 0⟩ (ctX4_slot l g _ _ _ _ _ hE1) (cw_X4_67 C ⟨Nat.le_of_ble_eq_true rfl, Nat.le_of_ble_eq_true rfl⟩) rfl rfl (Nat.le_of_ble_eq_true rfl) dX4_duelOf_70 (fun H locs hs => ?_)
        obtain ⟨hi, x16, ex16, hE⟩ := rd_w hE
        refine y_ald layC C hK hs hi ex16 dX4_duelOf_73 ?_
        refine lv_iadd hx hb dX4_duelOf_74 ?_
        refine lv_istore_n (lv' := [(3, .int (v2 + x16)), (0, .ref (g.2.1 41)), (1, .ref (g.2.1 25)), (2, .int p2), (4, .int v3), (5, .int v13)]) hx hb dX4_duelOf_75 rfl hl (by decide) rfl (fun ls hl => ?_)
        refine lv_iinc (v := v3 + 1) (lv' := [(4, .int (v3 + 1)), (3, .int (v2 + x16)), (0, .ref (g.2.1 41)), (1, .ref (g.2.1 25)), (2, .int p2), (5, .int v13)]) hx hb dX4_duelOf_76 hl (k := 4) rfl rfl (by decide) rfl (fun ls hl => ?_)
        refine lv_goto (tgt := 5) hx hb dX4_duelOf_79 (by decide) ?_
        exact ih _ _ _ _ hE hk _ _ _ hs (lv_sub hl [2, 3, 4, 1, 0] rfl)
  refine hL5 _ _ _ _ _ hE (fun σ17 v18 v19 H locs ls hs hl hE => ?_) H locs ls hs (lv_sub hl [2, 3, 4, 1, 0] rfl)
  refine lv_aload_n hx hb dX4_duelOf_82 rfl (lv_at hl 0 rfl) ?_
  refine lv_aload_n hx hb dX4_duelOf_83 rfl (lv_at hl 1 rfl) ?_
  refine lv_iload_n hx hb dX4_duelOf_84 rfl (lv_at hl 2 rfl) ?_
  refine lv_iconst (v := 1) hx hb dX4_duelOf_85 (by decide) ?_
  refine lv_iload_n hx hb dX4_duelOf_86 rfl (lv_at hl 3 rfl) ?_
  obtain ⟨σ20, r21, hE1, hE⟩ := cl_e hE
  refine x_cis (As := [.ref (g.2.1 41), .ref (g.2.1 25), .int p2, .int 1, .int v18]) (rest := []) C hl.1 hK hs hA ⟨Nat.le_refl 0, Nat.le_refl 0⟩ (ctX4_play_4 l g _ _ _ _ _ _ hE1) (cw_X4_74 C ⟨Nat.le_of_ble_eq_true rfl, Nat.le_of_ble_eq_true rfl⟩) rfl rfl (Nat.le_of_ble_eq_true rfl) dX4_duelOf_87 (fun H locs hs => ?_)
  exact hQ hs hE dX4_duelOf_90
theorem dX5_named_0 : decode cX5_named 0 = .ok (.iload_n 0, 1) := by decide +kernel
theorem dX5_named_1 : decode cX5_named 1 = .ok (.bipush 8, 2) := by decide +kernel
theorem dX5_named_3 : decode cX5_named 3 = .ok (.idiv, 1) := by decide +kernel
theorem dX5_named_4 : decode cX5_named 4 = .ok (.bipush 10, 2) := by decide +kernel
theorem dX5_named_6 : decode cX5_named 6 = .ok (.imul, 1) := by decide +kernel
theorem dX5_named_7 : decode cX5_named 7 = .ok (.iload_n 0, 1) := by decide +kernel
theorem dX5_named_8 : decode cX5_named 8 = .ok (.bipush 8, 2) := by decide +kernel
theorem dX5_named_10 : decode cX5_named 10 = .ok (.irem, 1) := by decide +kernel
theorem dX5_named_11 : decode cX5_named 11 = .ok (.iadd, 1) := by decide +kernel
theorem dX5_named_12 : decode cX5_named 12 = .ok (.ireturn, 1) := by decide +kernel
def fX5_named (σ : St) (p0 : Int32) : Option (St × Int32) := some (σ, ((p0 / 8) * 10) + (p0 - p0 / 8 * 8))
set_option maxHeartbeats 4000000 in
set_option maxRecDepth 100000 in
theorem ctX5_named (l : Launch) (g : GG) (σ : St) (p0 : Int32) (σ' : St) (r : Int32) (hE : fX5_named σ p0 = some (σ', r)) : MI 52 entC l g yX5_named (Cond.code yX5_named cX5_named 1 (some .int) :: gtbl) (rmD 1) [.int p0] σ σ' r := by
  refine mi_i (own := RX5) (lv := [(0, .int p0)]) (by decide) rfl (Nat.le_of_ble_eq_true rfl) rfl (fun p e s m below meth c ls args Q A H0 H locs C hK hA hQ hs hl => ?_)
  have hx := C.1
  have hb := C.2.1
  unfold fX5_named at hE
  refine lv_iload_n hx hb dX5_named_0 rfl (lv_at hl 0 rfl) ?_
  refine lv_bipush (v := 8) hx hb dX5_named_1 (by decide) ?_
  refine lv_idiv hx hb dX5_named_3 (by decide) ?_
  refine lv_bipush (v := 10) hx hb dX5_named_4 (by decide) ?_
  refine lv_imul hx hb dX5_named_6 ?_
  refine lv_iload_n hx hb dX5_named_7 rfl (lv_at hl 0 rfl) ?_
  refine lv_bipush (v := 8) hx hb dX5_named_8 (by decide) ?_
  refine lv_irem hx hb dX5_named_10 (by decide) ?_
  refine lv_iadd hx hb dX5_named_11 ?_
  exact hQ hs hE dX5_named_12
theorem dX5_first_0 : decode cX5_first 0 = .ok (.iconst (-1), 1) := by decide +kernel
theorem dX5_first_1 : decode cX5_first 1 = .ok (.istore_n 1, 1) := by decide +kernel
theorem dX5_first_2 : decode cX5_first 2 = .ok (.iconst 0, 1) := by decide +kernel
theorem dX5_first_3 : decode cX5_first 3 = .ok (.istore_n 2, 1) := by decide +kernel
theorem dX5_first_4 : decode cX5_first 4 = .ok (.iload_n 2, 1) := by decide +kernel
theorem dX5_first_5 : decode cX5_first 5 = .ok (.aload_n 0, 1) := by decide +kernel
theorem dX5_first_6 : decode cX5_first 6 = .ok (.getfield 9, 3) := by decide +kernel
theorem dX5_first_9 : decode cX5_first 9 = .ok (.arraylength, 1) := by decide +kernel
theorem dX5_first_10 : decode cX5_first 10 = .ok (.if_icmp .ge 36, 3) := by decide +kernel
theorem dX5_first_13 : decode cX5_first 13 = .ok (.aload_n 0, 1) := by decide +kernel
theorem dX5_first_14 : decode cX5_first 14 = .ok (.getfield 9, 3) := by decide +kernel
theorem dX5_first_17 : decode cX5_first 17 = .ok (.iload_n 2, 1) := by decide +kernel
theorem dX5_first_18 : decode cX5_first 18 = .ok (.iaload, 1) := by decide +kernel
theorem dX5_first_19 : decode cX5_first 19 = .ok (.istore_n 3, 1) := by decide +kernel
theorem dX5_first_20 : decode cX5_first 20 = .ok (.iload_n 3, 1) := by decide +kernel
theorem dX5_first_21 : decode cX5_first 21 = .ok (.ifCond .eq 19, 3) := by decide +kernel
theorem dX5_first_24 : decode cX5_first 24 = .ok (.iload_n 1, 1) := by decide +kernel
theorem dX5_first_25 : decode cX5_first 25 = .ok (.ifCond .lt 13, 3) := by decide +kernel
theorem dX5_first_28 : decode cX5_first 28 = .ok (.iload_n 3, 1) := by decide +kernel
theorem dX5_first_29 : decode cX5_first 29 = .ok (.aload_n 0, 1) := by decide +kernel
theorem dX5_first_30 : decode cX5_first 30 = .ok (.getfield 9, 3) := by decide +kernel
theorem dX5_first_33 : decode cX5_first 33 = .ok (.iload_n 1, 1) := by decide +kernel
theorem dX5_first_34 : decode cX5_first 34 = .ok (.iaload, 1) := by decide +kernel
theorem dX5_first_35 : decode cX5_first 35 = .ok (.if_icmp .ge 5, 3) := by decide +kernel
theorem dX5_first_38 : decode cX5_first 38 = .ok (.iload_n 2, 1) := by decide +kernel
theorem dX5_first_39 : decode cX5_first 39 = .ok (.istore_n 1, 1) := by decide +kernel
theorem dX5_first_40 : decode cX5_first 40 = .ok (.iinc 2 1, 3) := by decide +kernel
theorem dX5_first_43 : decode cX5_first 43 = .ok (.goto (-39), 3) := by decide +kernel
theorem dX5_first_46 : decode cX5_first 46 = .ok (.iload_n 1, 1) := by decide +kernel
theorem dX5_first_47 : decode cX5_first 47 = .ok (.ireturn, 1) := by decide +kernel
def fX5_first_L4 : Nat → St → Int32 → Int32 → (St → Int32 → Int32 → Option (St × Int32)) → Option (St × Int32)
  | 0, _, _, _, _ => none
  | n + 1, σ1, v2, v3, k => (if (nI (LC 34)) ≤ v3 then k σ1 v2 v3 else rd LC σ1 34 v3 (fun x4 => jn (fun (z6 : Int32) => fX5_first_L4 n σ1 z6 (v3 + 1) k) (fun k5 => (if x4 = 0 then k5 v2 else jn (k5 v3) (fun k7 => (if v2 < 0 then k7 else rd LC σ1 34 v2 (fun x8 => (if x8 ≤ x4 then k5 v2 else k7))))))))
def fX5_first (σ : St) : Option (St × Int32) := fX5_first_L4 10000 σ (-1) 0 (fun σ9 v10 v11 => some (σ9, v10))
set_option maxHeartbeats 4000000 in
set_option maxRecDepth 100000 in
theorem ctX5_first (l : Launch) (g : GG) (σ : St) (σ' : St) (r : Int32) (hE : fX5_first σ  = some (σ', r)) : MI 52 entC l g yX5_first (Cond.code yX5_first cX5_first 4 (some .int) :: gtbl) (rmD 1) [.ref (g.2.1 25)] σ σ' r := by
  refine mi_i (own := RX5) (lv := [(0, .ref (g.2.1 25))]) (by decide) rfl (Nat.le_of_ble_eq_true rfl) rfl (fun p e s m below meth c ls args Q A H0 H locs C hK hA hQ hs hl => ?_)
  have hx := C.1
  have hb := C.2.1
  unfold fX5_first at hE
  refine lv_iconst (v := (-1)) hx hb dX5_first_0 (by decide) ?_
  refine lv_istore_n (lv' := [(1, .int (-1)), (0, .ref (g.2.1 25))]) hx hb dX5_first_1 rfl hl (by decide) rfl (fun ls hl => ?_)
  refine lv_iconst (v := 0) hx hb dX5_first_2 (by decide) ?_
  refine lv_istore_n (lv' := [(2, .int 0), (1, .int (-1)), (0, .ref (g.2.1 25))]) hx hb dX5_first_3 rfl hl (by decide) rfl (fun ls hl => ?_)
  have hL4 : ∀ (n : Nat) (σ1 : St) (v2 : Int32) (v3 : Int32) (k : St → Int32 → Int32 → Option (St × Int32)), fX5_first_L4 n σ1 v2 v3 k = some (σ', r) → (∀ (σ1 : St) (v2 : Int32) (v3 : Int32) (H : Heap) (locs : List Loc) (ls : Array Slot), HW 52 entC g A H0 H locs σ1 → lv_has ls 4 [(0, .ref (g.2.1 25)), (1, .int v2), (2, .int v3)] → k σ1 v2 v3 = some (σ', r) → W p l e (rmD 1) s m args below meth c H locs 0 0 Q (F0 m 46 ls [])) → ∀ (H : Heap) (locs : List Loc) (ls : Array Slot), HW 52 entC g A H0 H locs σ1 → lv_has ls 4 [(0, .ref (g.2.1 25)), (1, .int v2), (2, .int v3)] → W p l e (rmD 1) s m args below meth c H locs 0 0 Q (F0 m 4 ls []) := by
    intro n
    induction n with
    | zero =>
      intro σ1 v2 v3 k hE
      rw [fX5_first_L4] at hE
      exact no_e hE
    | succ n ih =>
      intro σ1 v2 v3 k hE hk H locs ls hs hl
      rw [fX5_first_L4] at hE
      refine lv_iload_n hx hb dX5_first_4 rfl (lv_at hl 2 rfl) ?_
      refine lv_aload_n hx hb dX5_first_5 rfl (lv_at hl 0 rfl) ?_
      refine gf_X5_9_25 C hK hs dX5_first_6 ?_
      refine x_len layC C hK hs (k := 34) (by decide) dX5_first_9 ?_
      refine lv_icmp_ge (tgt := 46) hx hb dX5_first_10 (by decide) (fun hc => ?_) (fun hc => ?_)
      · have hE := if_t hc hE
        exact hk σ1 v2 v3 _ _ _ hs (lv_sub hl [0, 1, 2] rfl) hE
      · have hE := if_f hc hE
        refine lv_aload_n hx hb dX5_first_13 rfl (lv_at hl 0 rfl) ?_
        refine gf_X5_9_25 C hK hs dX5_first_14 ?_
        refine lv_iload_n hx hb dX5_first_17 rfl (lv_at hl 2 rfl) ?_
        obtain ⟨hi, x4, ex4, hE⟩ := rd_w hE
        refine y_ald layC C hK hs hi ex4 dX5_first_18 ?_
        refine lv_istore_n (lv' := [(3, .int x4), (0, .ref (g.2.1 25)), (1, .int v2), (2, .int v3)]) hx hb dX5_first_19 rfl hl (by decide) rfl (fun ls hl => ?_)
        refine lv_iload_n hx hb dX5_first_20 rfl (lv_at hl 0 rfl) ?_
        refine jn1 hE (fun k5 hE hk5 => ?_)
        have hJk5 : ∀ (z6 : Int32) (H : Heap) (locs : List Loc) (ls : Array Slot), HW 52 entC g A H0 H locs σ1 → lv_has ls 4 [(0, .ref (g.2.1 25)), (1, .int z6), (2, .int v3)] → k5 z6 = some (σ', r) → W p l e (rmD 1) s m args below meth c H locs 0 0 Q (F0 m 40 ls []) := by
          intro z6 H locs ls hs hl hE
          have hE := hk5 _ hE
          refine lv_iinc (v := v3 + 1) (lv' := [(2, .int (v3 + 1)), (0, .ref (g.2.1 25)), (1, .int z6)]) hx hb dX5_first_40 hl (k := 2) rfl rfl (by decide) rfl (fun ls hl => ?_)
          refine lv_goto (tgt := 4) hx hb dX5_first_43 (by decide) ?_
          exact ih _ _ _ _ hE hk _ _ _ hs (lv_sub hl [1, 2, 0] rfl)
        refine lv_if_eq (tgt := 40) hx hb dX5_first_21 (by decide) (fun hc => ?_) (fun hc => ?_)
        · have hE := if_t hc hE
          exact hJk5 v2 _ _ _ hs (lv_sub hl [1, 2, 3] rfl) hE
        · have hE := if_f hc hE
          refine lv_iload_n hx hb dX5_first_24 rfl (lv_at hl 2 rfl) ?_
          refine jn0 hE (fun k7 hE hk7 => ?_)
          have hJk7 : ∀  (H : Heap) (locs : List Loc) (ls : Array Slot), HW 52 entC g A H0 H locs σ1 → lv_has ls 4 [(0, .ref (g.2.1 25)), (2, .int v3)] → k7 = some (σ', r) → W p l e (rmD 1) s m args below meth c H locs 0 0 Q (F0 m 38 ls []) := by
            intro H locs ls hs hl hE
            have hE := hk7 hE
            refine lv_iload_n hx hb dX5_first_38 rfl (lv_at hl 1 rfl) ?_
            refine lv_istore_n (lv' := [(1, .int v3), (0, .ref (g.2.1 25)), (2, .int v3)]) hx hb dX5_first_39 rfl hl (by decide) rfl (fun ls hl => ?_)
            exact hJk5 v3 _ _ _ hs (lv_sub hl [1, 0, 2] rfl) hE
          refine lv_if_lt (tgt := 38) hx hb dX5_first_25 (by decide) (fun hc => ?_) (fun hc => ?_)
          · have hE := if_t hc hE
            exact hJk7  _ _ _ hs (lv_sub hl [1, 3] rfl) hE
          · have hE := if_f hc hE
            refine lv_iload_n hx hb dX5_first_28 rfl (lv_at hl 0 rfl) ?_
            refine lv_aload_n hx hb dX5_first_29 rfl (lv_at hl 1 rfl) ?_
            refine gf_X5_9_25 C hK hs dX5_first_30 ?_
            refine lv_iload_n hx hb dX5_first_33 rfl (lv_at hl 2 rfl) ?_
            obtain ⟨hi, x8, ex8, hE⟩ := rd_w hE
            refine y_ald layC C hK hs hi ex8 dX5_first_34 ?_
            refine lv_icmp_ge (tgt := 40) hx hb dX5_first_35 (by decide) (fun hc => ?_) (fun hc => ?_)
            · have hE := if_t hc hE
              exact hJk5 v2 _ _ _ hs (lv_sub hl [1, 2, 3] rfl) hE
            · have hE := if_f hc hE
              exact hJk7  _ _ _ hs (lv_sub hl [1, 3] rfl) hE
  refine hL4 _ _ _ _ _ hE (fun σ9 v10 v11 H locs ls hs hl hE => ?_) H locs ls hs (lv_sub hl [2, 1, 0] rfl)
  refine lv_iload_n hx hb dX5_first_46 rfl (lv_at hl 1 rfl) ?_
  exact hQ hs hE dX5_first_47
theorem dX5_lastBy_0 : decode cX5_lastBy 0 = .ok (.iconst (-1), 1) := by decide +kernel
theorem dX5_lastBy_1 : decode cX5_lastBy 1 = .ok (.istore_n 2, 1) := by decide +kernel
theorem dX5_lastBy_2 : decode cX5_lastBy 2 = .ok (.iconst 0, 1) := by decide +kernel
theorem dX5_lastBy_3 : decode cX5_lastBy 3 = .ok (.istore_n 3, 1) := by decide +kernel
theorem dX5_lastBy_4 : decode cX5_lastBy 4 = .ok (.iload_n 3, 1) := by decide +kernel
theorem dX5_lastBy_5 : decode cX5_lastBy 5 = .ok (.aload_n 0, 1) := by decide +kernel
theorem dX5_lastBy_6 : decode cX5_lastBy 6 = .ok (.getfield 9, 3) := by decide +kernel
theorem dX5_lastBy_9 : decode cX5_lastBy 9 = .ok (.arraylength, 1) := by decide +kernel
theorem dX5_lastBy_10 : decode cX5_lastBy 10 = .ok (.if_icmp .ge 45, 3) := by decide +kernel
theorem dX5_lastBy_13 : decode cX5_lastBy 13 = .ok (.aload_n 0, 1) := by decide +kernel
theorem dX5_lastBy_14 : decode cX5_lastBy 14 = .ok (.getfield 9, 3) := by decide +kernel
theorem dX5_lastBy_17 : decode cX5_lastBy 17 = .ok (.iload_n 3, 1) := by decide +kernel
theorem dX5_lastBy_18 : decode cX5_lastBy 18 = .ok (.iaload, 1) := by decide +kernel
theorem dX5_lastBy_19 : decode cX5_lastBy 19 = .ok (.istore 4, 2) := by decide +kernel
theorem dX5_lastBy_21 : decode cX5_lastBy 21 = .ok (.iload 4, 2) := by decide +kernel
theorem dX5_lastBy_23 : decode cX5_lastBy 23 = .ok (.ifCond .eq 26, 3) := by decide +kernel
theorem dX5_lastBy_26 : decode cX5_lastBy 26 = .ok (.iload 4, 2) := by decide +kernel
theorem dX5_lastBy_28 : decode cX5_lastBy 28 = .ok (.iload_n 1, 1) := by decide +kernel
theorem dX5_lastBy_29 : decode cX5_lastBy 29 = .ok (.if_icmp .gt 20, 3) := by decide +kernel
theorem dX5_lastBy_32 : decode cX5_lastBy 32 = .ok (.iload_n 2, 1) := by decide +kernel
theorem dX5_lastBy_33 : decode cX5_lastBy 33 = .ok (.ifCond .lt 14, 3) := by decide +kernel
theorem dX5_lastBy_36 : decode cX5_lastBy 36 = .ok (.iload 4, 2) := by decide +kernel
theorem dX5_lastBy_38 : decode cX5_lastBy 38 = .ok (.aload_n 0, 1) := by decide +kernel
theorem dX5_lastBy_39 : decode cX5_lastBy 39 = .ok (.getfield 9, 3) := by decide +kernel
theorem dX5_lastBy_42 : decode cX5_lastBy 42 = .ok (.iload_n 2, 1) := by decide +kernel
theorem dX5_lastBy_43 : decode cX5_lastBy 43 = .ok (.iaload, 1) := by decide +kernel
theorem dX5_lastBy_44 : decode cX5_lastBy 44 = .ok (.if_icmp .lt 5, 3) := by decide +kernel
theorem dX5_lastBy_47 : decode cX5_lastBy 47 = .ok (.iload_n 3, 1) := by decide +kernel
theorem dX5_lastBy_48 : decode cX5_lastBy 48 = .ok (.istore_n 2, 1) := by decide +kernel
theorem dX5_lastBy_49 : decode cX5_lastBy 49 = .ok (.iinc 3 1, 3) := by decide +kernel
theorem dX5_lastBy_52 : decode cX5_lastBy 52 = .ok (.goto (-48), 3) := by decide +kernel
theorem dX5_lastBy_55 : decode cX5_lastBy 55 = .ok (.iload_n 2, 1) := by decide +kernel
theorem dX5_lastBy_56 : decode cX5_lastBy 56 = .ok (.ireturn, 1) := by decide +kernel
def fX5_lastBy_L4 (p1 : Int32) : Nat → St → Int32 → Int32 → (St → Int32 → Int32 → Option (St × Int32)) → Option (St × Int32)
  | 0, _, _, _, _ => none
  | n + 1, σ1, v2, v3, k => (if (nI (LC 34)) ≤ v3 then k σ1 v2 v3 else rd LC σ1 34 v3 (fun x4 => jn (fun (z6 : Int32) => fX5_lastBy_L4 p1 n σ1 z6 (v3 + 1) k) (fun k5 => (if x4 = 0 then k5 v2 else (if p1 < x4 then k5 v2 else jn (k5 v3) (fun k7 => (if v2 < 0 then k7 else rd LC σ1 34 v2 (fun x8 => (if x4 < x8 then k5 v2 else k7)))))))))
def fX5_lastBy (σ : St) (p1 : Int32) : Option (St × Int32) := fX5_lastBy_L4 p1 10000 σ (-1) 0 (fun σ9 v10 v11 => some (σ9, v10))
set_option maxHeartbeats 4000000 in
set_option maxRecDepth 100000 in
theorem ctX5_lastBy (l : Launch) (g : GG) (σ : St) (p1 : Int32) (σ' : St) (r : Int32) (hE : fX5_lastBy σ p1 = some (σ', r)) : MI 52 entC l g yX5_lastBy (Cond.code yX5_lastBy cX5_lastBy 5 (some .int) :: gtbl) (rmD 1) [.ref (g.2.1 25), .int p1] σ σ' r := by
  refine mi_i (own := RX5) (lv := [(0, .ref (g.2.1 25)), (1, .int p1)]) (by decide) rfl (Nat.le_of_ble_eq_true rfl) rfl (fun p e s m below meth c ls args Q A H0 H locs C hK hA hQ hs hl => ?_)
  have hx := C.1
  have hb := C.2.1
  unfold fX5_lastBy at hE
  refine lv_iconst (v := (-1)) hx hb dX5_lastBy_0 (by decide) ?_
  refine lv_istore_n (lv' := [(2, .int (-1)), (0, .ref (g.2.1 25)), (1, .int p1)]) hx hb dX5_lastBy_1 rfl hl (by decide) rfl (fun ls hl => ?_)
  refine lv_iconst (v := 0) hx hb dX5_lastBy_2 (by decide) ?_
  refine lv_istore_n (lv' := [(3, .int 0), (2, .int (-1)), (0, .ref (g.2.1 25)), (1, .int p1)]) hx hb dX5_lastBy_3 rfl hl (by decide) rfl (fun ls hl => ?_)
  have hL4 : ∀ (n : Nat) (σ1 : St) (v2 : Int32) (v3 : Int32) (k : St → Int32 → Int32 → Option (St × Int32)), fX5_lastBy_L4 p1 n σ1 v2 v3 k = some (σ', r) → (∀ (σ1 : St) (v2 : Int32) (v3 : Int32) (H : Heap) (locs : List Loc) (ls : Array Slot), HW 52 entC g A H0 H locs σ1 → lv_has ls 5 [(0, .ref (g.2.1 25)), (1, .int p1), (2, .int v2), (3, .int v3)] → k σ1 v2 v3 = some (σ', r) → W p l e (rmD 1) s m args below meth c H locs 0 0 Q (F0 m 55 ls [])) → ∀ (H : Heap) (locs : List Loc) (ls : Array Slot), HW 52 entC g A H0 H locs σ1 → lv_has ls 5 [(0, .ref (g.2.1 25)), (1, .int p1), (2, .int v2), (3, .int v3)] → W p l e (rmD 1) s m args below meth c H locs 0 0 Q (F0 m 4 ls []) := by
    intro n
    induction n with
    | zero =>
      intro σ1 v2 v3 k hE
      rw [fX5_lastBy_L4] at hE
      exact no_e hE
    | succ n ih =>
      intro σ1 v2 v3 k hE hk H locs ls hs hl
      rw [fX5_lastBy_L4] at hE
      refine lv_iload_n hx hb dX5_lastBy_4 rfl (lv_at hl 3 rfl) ?_
      refine lv_aload_n hx hb dX5_lastBy_5 rfl (lv_at hl 0 rfl) ?_
      refine gf_X5_9_25 C hK hs dX5_lastBy_6 ?_
      refine x_len layC C hK hs (k := 34) (by decide) dX5_lastBy_9 ?_
      refine lv_icmp_ge (tgt := 55) hx hb dX5_lastBy_10 (by decide) (fun hc => ?_) (fun hc => ?_)
      · have hE := if_t hc hE
        exact hk σ1 v2 v3 _ _ _ hs (lv_sub hl [0, 1, 2, 3] rfl) hE
      · have hE := if_f hc hE
        refine lv_aload_n hx hb dX5_lastBy_13 rfl (lv_at hl 0 rfl) ?_
        refine gf_X5_9_25 C hK hs dX5_lastBy_14 ?_
        refine lv_iload_n hx hb dX5_lastBy_17 rfl (lv_at hl 3 rfl) ?_
        obtain ⟨hi, x4, ex4, hE⟩ := rd_w hE
        refine y_ald layC C hK hs hi ex4 dX5_lastBy_18 ?_
        refine lv_istore (lv' := [(4, .int x4), (0, .ref (g.2.1 25)), (1, .int p1), (2, .int v2), (3, .int v3)]) hx hb dX5_lastBy_19 hl (by decide) rfl (fun ls hl => ?_)
        refine lv_iload hx hb dX5_lastBy_21 (lv_at hl 0 rfl) ?_
        refine jn1 hE (fun k5 hE hk5 => ?_)
        have hJk5 : ∀ (z6 : Int32) (H : Heap) (locs : List Loc) (ls : Array Slot), HW 52 entC g A H0 H locs σ1 → lv_has ls 5 [(0, .ref (g.2.1 25)), (1, .int p1), (2, .int z6), (3, .int v3)] → k5 z6 = some (σ', r) → W p l e (rmD 1) s m args below meth c H locs 0 0 Q (F0 m 49 ls []) := by
          intro z6 H locs ls hs hl hE
          have hE := hk5 _ hE
          refine lv_iinc (v := v3 + 1) (lv' := [(3, .int (v3 + 1)), (0, .ref (g.2.1 25)), (1, .int p1), (2, .int z6)]) hx hb dX5_lastBy_49 hl (k := 3) rfl rfl (by decide) rfl (fun ls hl => ?_)
          refine lv_goto (tgt := 4) hx hb dX5_lastBy_52 (by decide) ?_
          exact ih _ _ _ _ hE hk _ _ _ hs (lv_sub hl [1, 2, 3, 0] rfl)
        refine lv_if_eq (tgt := 49) hx hb dX5_lastBy_23 (by decide) (fun hc => ?_) (fun hc => ?_)
        · have hE := if_t hc hE
          exact hJk5 v2 _ _ _ hs (lv_sub hl [1, 2, 3, 4] rfl) hE
        · have hE := if_f hc hE
          refine lv_iload hx hb dX5_lastBy_26 (lv_at hl 0 rfl) ?_
          refine lv_iload_n hx hb dX5_lastBy_28 rfl (lv_at hl 2 rfl) ?_
          refine lv_icmp_gt (tgt := 49) hx hb dX5_lastBy_29 (by decide) (fun hc => ?_) (fun hc => ?_)
          · have hE := if_t hc hE
            exact hJk5 v2 _ _ _ hs (lv_sub hl [1, 2, 3, 4] rfl) hE
          · have hE := if_f hc hE
            refine lv_iload_n hx hb dX5_lastBy_32 rfl (lv_at hl 3 rfl) ?_
            refine jn0 hE (fun k7 hE hk7 => ?_)
            have hJk7 : ∀  (H : Heap) (locs : List Loc) (ls : Array Slot), HW 52 entC g A H0 H locs σ1 → lv_has ls 5 [(0, .ref (g.2.1 25)), (1, .int p1), (3, .int v3)] → k7 = some (σ', r) → W p l e (rmD 1) s m args below meth c H locs 0 0 Q (F0 m 47 ls []) := by
              intro H locs ls hs hl hE
              have hE := hk7 hE
              refine lv_iload_n hx hb dX5_lastBy_47 rfl (lv_at hl 2 rfl) ?_
              refine lv_istore_n (lv' := [(2, .int v3), (0, .ref (g.2.1 25)), (1, .int p1), (3, .int v3)]) hx hb dX5_lastBy_48 rfl hl (by decide) rfl (fun ls hl => ?_)
              exact hJk5 v3 _ _ _ hs (lv_sub hl [1, 2, 0, 3] rfl) hE
            refine lv_if_lt (tgt := 47) hx hb dX5_lastBy_33 (by decide) (fun hc => ?_) (fun hc => ?_)
            · have hE := if_t hc hE
              exact hJk7  _ _ _ hs (lv_sub hl [1, 2, 4] rfl) hE
            · have hE := if_f hc hE
              refine lv_iload hx hb dX5_lastBy_36 (lv_at hl 0 rfl) ?_
              refine lv_aload_n hx hb dX5_lastBy_38 rfl (lv_at hl 1 rfl) ?_
              refine gf_X5_9_25 C hK hs dX5_lastBy_39 ?_
              refine lv_iload_n hx hb dX5_lastBy_42 rfl (lv_at hl 3 rfl) ?_
              obtain ⟨hi, x8, ex8, hE⟩ := rd_w hE
              refine y_ald layC C hK hs hi ex8 dX5_lastBy_43 ?_
              refine lv_icmp_lt (tgt := 49) hx hb dX5_lastBy_44 (by decide) (fun hc => ?_) (fun hc => ?_)
              · have hE := if_t hc hE
                exact hJk5 v2 _ _ _ hs (lv_sub hl [1, 2, 3, 4] rfl) hE
              · have hE := if_f hc hE
                exact hJk7  _ _ _ hs (lv_sub hl [1, 2, 4] rfl) hE
  refine hL4 _ _ _ _ _ hE (fun σ9 v10 v11 H locs ls hs hl hE => ?_) H locs ls hs (lv_sub hl [2, 3, 1, 0] rfl)
  refine lv_iload_n hx hb dX5_lastBy_55 rfl (lv_at hl 2 rfl) ?_
  exact hQ hs hE dX5_lastBy_56
theorem dX5_manyBy_0 : decode cX5_manyBy 0 = .ok (.iconst 0, 1) := by decide +kernel
theorem dX5_manyBy_1 : decode cX5_manyBy 1 = .ok (.istore_n 2, 1) := by decide +kernel
theorem dX5_manyBy_2 : decode cX5_manyBy 2 = .ok (.iconst 0, 1) := by decide +kernel
theorem dX5_manyBy_3 : decode cX5_manyBy 3 = .ok (.istore_n 3, 1) := by decide +kernel
theorem dX5_manyBy_4 : decode cX5_manyBy 4 = .ok (.iload_n 3, 1) := by decide +kernel
theorem dX5_manyBy_5 : decode cX5_manyBy 5 = .ok (.aload_n 0, 1) := by decide +kernel
theorem dX5_manyBy_6 : decode cX5_manyBy 6 = .ok (.getfield 9, 3) := by decide +kernel
theorem dX5_manyBy_9 : decode cX5_manyBy 9 = .ok (.arraylength, 1) := by decide +kernel
theorem dX5_manyBy_10 : decode cX5_manyBy 10 = .ok (.if_icmp .ge 31, 3) := by decide +kernel
theorem dX5_manyBy_13 : decode cX5_manyBy 13 = .ok (.aload_n 0, 1) := by decide +kernel
theorem dX5_manyBy_14 : decode cX5_manyBy 14 = .ok (.getfield 9, 3) := by decide +kernel
theorem dX5_manyBy_17 : decode cX5_manyBy 17 = .ok (.iload_n 3, 1) := by decide +kernel
theorem dX5_manyBy_18 : decode cX5_manyBy 18 = .ok (.iaload, 1) := by decide +kernel
theorem dX5_manyBy_19 : decode cX5_manyBy 19 = .ok (.ifCond .eq 16, 3) := by decide +kernel
theorem dX5_manyBy_22 : decode cX5_manyBy 22 = .ok (.aload_n 0, 1) := by decide +kernel
theorem dX5_manyBy_23 : decode cX5_manyBy 23 = .ok (.getfield 9, 3) := by decide +kernel
theorem dX5_manyBy_26 : decode cX5_manyBy 26 = .ok (.iload_n 3, 1) := by decide +kernel
theorem dX5_manyBy_27 : decode cX5_manyBy 27 = .ok (.iaload, 1) := by decide +kernel
theorem dX5_manyBy_28 : decode cX5_manyBy 28 = .ok (.iload_n 1, 1) := by decide +kernel
theorem dX5_manyBy_29 : decode cX5_manyBy 29 = .ok (.if_icmp .gt 6, 3) := by decide +kernel
theorem dX5_manyBy_32 : decode cX5_manyBy 32 = .ok (.iinc 2 1, 3) := by decide +kernel
theorem dX5_manyBy_35 : decode cX5_manyBy 35 = .ok (.iinc 3 1, 3) := by decide +kernel
theorem dX5_manyBy_38 : decode cX5_manyBy 38 = .ok (.goto (-34), 3) := by decide +kernel
theorem dX5_manyBy_41 : decode cX5_manyBy 41 = .ok (.iload_n 2, 1) := by decide +kernel
theorem dX5_manyBy_42 : decode cX5_manyBy 42 = .ok (.ireturn, 1) := by decide +kernel
def fX5_manyBy_L4 (p1 : Int32) : Nat → St → Int32 → Int32 → (St → Int32 → Int32 → Option (St × Int32)) → Option (St × Int32)
  | 0, _, _, _, _ => none
  | n + 1, σ1, v2, v3, k => (if (nI (LC 34)) ≤ v3 then k σ1 v2 v3 else rd LC σ1 34 v3 (fun x4 => jn (fun (z6 : Int32) => fX5_manyBy_L4 p1 n σ1 z6 (v3 + 1) k) (fun k5 => (if x4 = 0 then k5 v2 else rd LC σ1 34 v3 (fun x7 => (if p1 < x7 then k5 v2 else k5 (v2 + 1)))))))
def fX5_manyBy (σ : St) (p1 : Int32) : Option (St × Int32) := fX5_manyBy_L4 p1 10000 σ 0 0 (fun σ8 v9 v10 => some (σ8, v9))
set_option maxHeartbeats 4000000 in
set_option maxRecDepth 100000 in
theorem ctX5_manyBy (l : Launch) (g : GG) (σ : St) (p1 : Int32) (σ' : St) (r : Int32) (hE : fX5_manyBy σ p1 = some (σ', r)) : MI 52 entC l g yX5_manyBy (Cond.code yX5_manyBy cX5_manyBy 4 (some .int) :: gtbl) (rmD 1) [.ref (g.2.1 25), .int p1] σ σ' r := by
  refine mi_i (own := RX5) (lv := [(0, .ref (g.2.1 25)), (1, .int p1)]) (by decide) rfl (Nat.le_of_ble_eq_true rfl) rfl (fun p e s m below meth c ls args Q A H0 H locs C hK hA hQ hs hl => ?_)
  have hx := C.1
  have hb := C.2.1
  unfold fX5_manyBy at hE
  refine lv_iconst (v := 0) hx hb dX5_manyBy_0 (by decide) ?_
  refine lv_istore_n (lv' := [(2, .int 0), (0, .ref (g.2.1 25)), (1, .int p1)]) hx hb dX5_manyBy_1 rfl hl (by decide) rfl (fun ls hl => ?_)
  refine lv_iconst (v := 0) hx hb dX5_manyBy_2 (by decide) ?_
  refine lv_istore_n (lv' := [(3, .int 0), (2, .int 0), (0, .ref (g.2.1 25)), (1, .int p1)]) hx hb dX5_manyBy_3 rfl hl (by decide) rfl (fun ls hl => ?_)
  have hL4 : ∀ (n : Nat) (σ1 : St) (v2 : Int32) (v3 : Int32) (k : St → Int32 → Int32 → Option (St × Int32)), fX5_manyBy_L4 p1 n σ1 v2 v3 k = some (σ', r) → (∀ (σ1 : St) (v2 : Int32) (v3 : Int32) (H : Heap) (locs : List Loc) (ls : Array Slot), HW 52 entC g A H0 H locs σ1 → lv_has ls 4 [(0, .ref (g.2.1 25)), (1, .int p1), (2, .int v2), (3, .int v3)] → k σ1 v2 v3 = some (σ', r) → W p l e (rmD 1) s m args below meth c H locs 0 0 Q (F0 m 41 ls [])) → ∀ (H : Heap) (locs : List Loc) (ls : Array Slot), HW 52 entC g A H0 H locs σ1 → lv_has ls 4 [(0, .ref (g.2.1 25)), (1, .int p1), (2, .int v2), (3, .int v3)] → W p l e (rmD 1) s m args below meth c H locs 0 0 Q (F0 m 4 ls []) := by
    intro n
    induction n with
    | zero =>
      intro σ1 v2 v3 k hE
      rw [fX5_manyBy_L4] at hE
      exact no_e hE
    | succ n ih =>
      intro σ1 v2 v3 k hE hk H locs ls hs hl
      rw [fX5_manyBy_L4] at hE
      refine lv_iload_n hx hb dX5_manyBy_4 rfl (lv_at hl 3 rfl) ?_
      refine lv_aload_n hx hb dX5_manyBy_5 rfl (lv_at hl 0 rfl) ?_
      refine gf_X5_9_25 C hK hs dX5_manyBy_6 ?_
      refine x_len layC C hK hs (k := 34) (by decide) dX5_manyBy_9 ?_
      refine lv_icmp_ge (tgt := 41) hx hb dX5_manyBy_10 (by decide) (fun hc => ?_) (fun hc => ?_)
      · have hE := if_t hc hE
        exact hk σ1 v2 v3 _ _ _ hs (lv_sub hl [0, 1, 2, 3] rfl) hE
      · have hE := if_f hc hE
        refine lv_aload_n hx hb dX5_manyBy_13 rfl (lv_at hl 0 rfl) ?_
        refine gf_X5_9_25 C hK hs dX5_manyBy_14 ?_
        refine lv_iload_n hx hb dX5_manyBy_17 rfl (lv_at hl 3 rfl) ?_
        obtain ⟨hi, x4, ex4, hE⟩ := rd_w hE
        refine y_ald layC C hK hs hi ex4 dX5_manyBy_18 ?_
        refine jn1 hE (fun k5 hE hk5 => ?_)
        have hJk5 : ∀ (z6 : Int32) (H : Heap) (locs : List Loc) (ls : Array Slot), HW 52 entC g A H0 H locs σ1 → lv_has ls 4 [(0, .ref (g.2.1 25)), (1, .int p1), (2, .int z6), (3, .int v3)] → k5 z6 = some (σ', r) → W p l e (rmD 1) s m args below meth c H locs 0 0 Q (F0 m 35 ls []) := by
          intro z6 H locs ls hs hl hE
          have hE := hk5 _ hE
          refine lv_iinc (v := v3 + 1) (lv' := [(3, .int (v3 + 1)), (0, .ref (g.2.1 25)), (1, .int p1), (2, .int z6)]) hx hb dX5_manyBy_35 hl (k := 3) rfl rfl (by decide) rfl (fun ls hl => ?_)
          refine lv_goto (tgt := 4) hx hb dX5_manyBy_38 (by decide) ?_
          exact ih _ _ _ _ hE hk _ _ _ hs (lv_sub hl [1, 2, 3, 0] rfl)
        refine lv_if_eq (tgt := 35) hx hb dX5_manyBy_19 (by decide) (fun hc => ?_) (fun hc => ?_)
        · have hE := if_t hc hE
          exact hJk5 v2 _ _ _ hs (lv_sub hl [0, 1, 2, 3] rfl) hE
        · have hE := if_f hc hE
          refine lv_aload_n hx hb dX5_manyBy_22 rfl (lv_at hl 0 rfl) ?_
          refine gf_X5_9_25 C hK hs dX5_manyBy_23 ?_
          refine lv_iload_n hx hb dX5_manyBy_26 rfl (lv_at hl 3 rfl) ?_
          obtain ⟨hi, x7, ex7, hE⟩ := rd_w hE
          refine y_ald layC C hK hs hi ex7 dX5_manyBy_27 ?_
          refine lv_iload_n hx hb dX5_manyBy_28 rfl (lv_at hl 1 rfl) ?_
          refine lv_icmp_gt (tgt := 35) hx hb dX5_manyBy_29 (by decide) (fun hc => ?_) (fun hc => ?_)
          · have hE := if_t hc hE
            exact hJk5 v2 _ _ _ hs (lv_sub hl [0, 1, 2, 3] rfl) hE
          · have hE := if_f hc hE
            refine lv_iinc (v := v2 + 1) (lv' := [(2, .int (v2 + 1)), (0, .ref (g.2.1 25)), (1, .int p1), (3, .int v3)]) hx hb dX5_manyBy_32 hl (k := 2) rfl rfl (by decide) rfl (fun ls hl => ?_)
            exact hJk5 (v2 + 1) _ _ _ hs (lv_sub hl [1, 2, 0, 3] rfl) hE
  refine hL4 _ _ _ _ _ hE (fun σ8 v9 v10 H locs ls hs hl hE => ?_) H locs ls hs (lv_sub hl [2, 3, 1, 0] rfl)
  refine lv_iload_n hx hb dX5_manyBy_41 rfl (lv_at hl 2 rfl) ?_
  exact hQ hs hE dX5_manyBy_42
theorem dX5_purseIn_0 : decode cX5_purseIn 0 = .ok (.aload_n 0, 1) := by decide +kernel
theorem dX5_purseIn_1 : decode cX5_purseIn 1 = .ok (.getfield 15, 3) := by decide +kernel
theorem dX5_purseIn_4 : decode cX5_purseIn 4 = .ok (.iload_n 1, 1) := by decide +kernel
theorem dX5_purseIn_5 : decode cX5_purseIn 5 = .ok (.iaload, 1) := by decide +kernel
theorem dX5_purseIn_6 : decode cX5_purseIn 6 = .ok (.istore_n 3, 1) := by decide +kernel
theorem dX5_purseIn_7 : decode cX5_purseIn 7 = .ok (.iconst 0, 1) := by decide +kernel
theorem dX5_purseIn_8 : decode cX5_purseIn 8 = .ok (.istore 4, 2) := by decide +kernel
theorem dX5_purseIn_10 : decode cX5_purseIn 10 = .ok (.iload 4, 2) := by decide +kernel
theorem dX5_purseIn_12 : decode cX5_purseIn 12 = .ok (.iload_n 2, 1) := by decide +kernel
theorem dX5_purseIn_13 : decode cX5_purseIn 13 = .ok (.if_icmp .ge 19, 3) := by decide +kernel
theorem dX5_purseIn_16 : decode cX5_purseIn 16 = .ok (.aload_n 0, 1) := by decide +kernel
theorem dX5_purseIn_17 : decode cX5_purseIn 17 = .ok (.getfield 18, 3) := by decide +kernel
theorem dX5_purseIn_20 : decode cX5_purseIn 20 = .ok (.iload_n 1, 1) := by decide +kernel
theorem dX5_purseIn_21 : decode cX5_purseIn 21 = .ok (.iload_n 3, 1) := by decide +kernel
theorem dX5_purseIn_22 : decode cX5_purseIn 22 = .ok (.invokevirtual 22, 3) := by decide +kernel
theorem dX5_purseIn_25 : decode cX5_purseIn 25 = .ok (.istore_n 3, 1) := by decide +kernel
theorem dX5_purseIn_26 : decode cX5_purseIn 26 = .ok (.iinc 4 1, 3) := by decide +kernel
theorem dX5_purseIn_29 : decode cX5_purseIn 29 = .ok (.goto (-19), 3) := by decide +kernel
theorem dX5_purseIn_32 : decode cX5_purseIn 32 = .ok (.iload_n 3, 1) := by decide +kernel
theorem dX5_purseIn_33 : decode cX5_purseIn 33 = .ok (.ireturn, 1) := by decide +kernel
def fX5_purseIn_L10 (p1 : Int32) (p2 : Int32) : Nat → St → Int32 → Int32 → (St → Int32 → Int32 → Option (St × Int32)) → Option (St × Int32)
  | 0, _, _, _, _ => none
  | n + 1, σ2, v3, v4, k => (if p2 ≤ v4 then k σ2 v3 v4 else cl (fX6_purseBehind σ2 p1 v3) (fun σ5 r6 => fX5_purseIn_L10 p1 p2 n σ5 r6 (v4 + 1) k))
def fX5_purseIn (σ : St) (p1 : Int32) (p2 : Int32) : Option (St × Int32) := rd LC σ 33 p1 (fun x1 => fX5_purseIn_L10 p1 p2 10000 σ x1 0 (fun σ7 v8 v9 => some (σ7, v8)))
set_option maxHeartbeats 4000000 in
set_option maxRecDepth 100000 in
theorem ctX5_purseIn (l : Launch) (g : GG) (σ : St) (p1 : Int32) (p2 : Int32) (σ' : St) (r : Int32) (hE : fX5_purseIn σ p1 p2 = some (σ', r)) : MI 52 entC l g yX5_purseIn (Cond.code yX5_purseIn cX5_purseIn 5 (some .int) :: gtbl) (rmD 3) [.ref (g.2.1 25), .int p1, .int p2] σ σ' r := by
  refine mi_i (own := RX5) (lv := [(0, .ref (g.2.1 25)), (1, .int p1), (2, .int p2)]) (by decide) rfl (Nat.le_of_ble_eq_true rfl) rfl (fun p e s m below meth c ls args Q A H0 H locs C hK hA hQ hs hl => ?_)
  have hx := C.1
  have hb := C.2.1
  unfold fX5_purseIn at hE
  refine lv_aload_n hx hb dX5_purseIn_0 rfl (lv_at hl 0 rfl) ?_
  refine gf_X5_15_25 C hK hs dX5_purseIn_1 ?_
  refine lv_iload_n hx hb dX5_purseIn_4 rfl (lv_at hl 1 rfl) ?_
  obtain ⟨hi, x1, ex1, hE⟩ := rd_w hE
  refine y_ald layC C hK hs hi ex1 dX5_purseIn_5 ?_
  refine lv_istore_n (lv' := [(3, .int x1), (0, .ref (g.2.1 25)), (1, .int p1), (2, .int p2)]) hx hb dX5_purseIn_6 rfl hl (by decide) rfl (fun ls hl => ?_)
  refine lv_iconst (v := 0) hx hb dX5_purseIn_7 (by decide) ?_
  refine lv_istore (lv' := [(4, .int 0), (3, .int x1), (0, .ref (g.2.1 25)), (1, .int p1), (2, .int p2)]) hx hb dX5_purseIn_8 hl (by decide) rfl (fun ls hl => ?_)
  have hL10 : ∀ (n : Nat) (σ2 : St) (v3 : Int32) (v4 : Int32) (k : St → Int32 → Int32 → Option (St × Int32)), fX5_purseIn_L10 p1 p2 n σ2 v3 v4 k = some (σ', r) → (∀ (σ2 : St) (v3 : Int32) (v4 : Int32) (H : Heap) (locs : List Loc) (ls : Array Slot), HW 52 entC g A H0 H locs σ2 → lv_has ls 5 [(0, .ref (g.2.1 25)), (1, .int p1), (2, .int p2), (3, .int v3), (4, .int v4)] → k σ2 v3 v4 = some (σ', r) → W p l e (rmD 3) s m args below meth c H locs 0 0 Q (F0 m 32 ls [])) → ∀ (H : Heap) (locs : List Loc) (ls : Array Slot), HW 52 entC g A H0 H locs σ2 → lv_has ls 5 [(0, .ref (g.2.1 25)), (1, .int p1), (2, .int p2), (3, .int v3), (4, .int v4)] → W p l e (rmD 3) s m args below meth c H locs 0 0 Q (F0 m 10 ls []) := by
    intro n
    induction n with
    | zero =>
      intro σ2 v3 v4 k hE
      rw [fX5_purseIn_L10] at hE
      exact no_e hE
    | succ n ih =>
      intro σ2 v3 v4 k hE hk H locs ls hs hl
      rw [fX5_purseIn_L10] at hE
      refine lv_iload hx hb dX5_purseIn_10 (lv_at hl 4 rfl) ?_
      refine lv_iload_n hx hb dX5_purseIn_12 rfl (lv_at hl 2 rfl) ?_
      refine lv_icmp_ge (tgt := 32) hx hb dX5_purseIn_13 (by decide) (fun hc => ?_) (fun hc => ?_)
      · have hE := if_t hc hE
        exact hk σ2 v3 v4 _ _ _ hs (lv_sub hl [0, 1, 2, 3, 4] rfl) hE
      · have hE := if_f hc hE
        refine lv_aload_n hx hb dX5_purseIn_16 rfl (lv_at hl 0 rfl) ?_
        refine gf_X5_18_25 C hK hs dX5_purseIn_17 ?_
        refine lv_iload_n hx hb dX5_purseIn_20 rfl (lv_at hl 1 rfl) ?_
        refine lv_iload_n hx hb dX5_purseIn_21 rfl (lv_at hl 3 rfl) ?_
        obtain ⟨σ5, r6, hE1, hE⟩ := cl_e hE
        refine x_civ (As := [.int p1, .int v3]) (rest := []) C hl.1 hK hs hA ⟨Nat.le_refl 0, Nat.le_refl 0⟩ (ctX6_purseBehind l g _ _ _ _ _ hE1) (cw_X5_22 C ⟨Nat.le_of_ble_eq_true rfl, Nat.le_of_ble_eq_true rfl⟩) (hs.recv hK 26 (by decide) rfl rfl) rfl rfl (Nat.le_of_ble_eq_true rfl) dX5_purseIn_22 (fun H locs hs => ?_)
        refine lv_istore_n (lv' := [(3, .int r6), (0, .ref (g.2.1 25)), (1, .int p1), (2, .int p2), (4, .int v4)]) hx hb dX5_purseIn_25 rfl hl (by decide) rfl (fun ls hl => ?_)
        refine lv_iinc (v := v4 + 1) (lv' := [(4, .int (v4 + 1)), (3, .int r6), (0, .ref (g.2.1 25)), (1, .int p1), (2, .int p2)]) hx hb dX5_purseIn_26 hl (k := 4) rfl rfl (by decide) rfl (fun ls hl => ?_)
        refine lv_goto (tgt := 10) hx hb dX5_purseIn_29 (by decide) ?_
        exact ih _ _ _ _ hE hk _ _ _ hs (lv_sub hl [2, 3, 4, 1, 0] rfl)
  refine hL10 _ _ _ _ _ hE (fun σ7 v8 v9 H locs ls hs hl hE => ?_) H locs ls hs (lv_sub hl [2, 3, 4, 1, 0] rfl)
  refine lv_iload_n hx hb dX5_purseIn_32 rfl (lv_at hl 3 rfl) ?_
  exact hQ hs hE dX5_purseIn_33
theorem dX5_allPursesIn_0 : decode cX5_allPursesIn 0 = .ok (.iconst 0, 1) := by decide +kernel
theorem dX5_allPursesIn_1 : decode cX5_allPursesIn 1 = .ok (.istore_n 2, 1) := by decide +kernel
theorem dX5_allPursesIn_2 : decode cX5_allPursesIn 2 = .ok (.iconst 0, 1) := by decide +kernel
theorem dX5_allPursesIn_3 : decode cX5_allPursesIn 3 = .ok (.istore_n 3, 1) := by decide +kernel
theorem dX5_allPursesIn_4 : decode cX5_allPursesIn 4 = .ok (.iload_n 3, 1) := by decide +kernel
theorem dX5_allPursesIn_5 : decode cX5_allPursesIn 5 = .ok (.aload_n 0, 1) := by decide +kernel
theorem dX5_allPursesIn_6 : decode cX5_allPursesIn 6 = .ok (.getfield 18, 3) := by decide +kernel
theorem dX5_allPursesIn_9 : decode cX5_allPursesIn 9 = .ok (.getfield 26, 3) := by decide +kernel
theorem dX5_allPursesIn_12 : decode cX5_allPursesIn 12 = .ok (.if_icmp .ge 18, 3) := by decide +kernel
theorem dX5_allPursesIn_15 : decode cX5_allPursesIn 15 = .ok (.iload_n 2, 1) := by decide +kernel
theorem dX5_allPursesIn_16 : decode cX5_allPursesIn 16 = .ok (.aload_n 0, 1) := by decide +kernel
theorem dX5_allPursesIn_17 : decode cX5_allPursesIn 17 = .ok (.iload_n 3, 1) := by decide +kernel
theorem dX5_allPursesIn_18 : decode cX5_allPursesIn 18 = .ok (.iload_n 1, 1) := by decide +kernel
theorem dX5_allPursesIn_19 : decode cX5_allPursesIn 19 = .ok (.invokestatic 30, 3) := by decide +kernel
theorem dX5_allPursesIn_22 : decode cX5_allPursesIn 22 = .ok (.iadd, 1) := by decide +kernel
theorem dX5_allPursesIn_23 : decode cX5_allPursesIn 23 = .ok (.istore_n 2, 1) := by decide +kernel
theorem dX5_allPursesIn_24 : decode cX5_allPursesIn 24 = .ok (.iinc 3 1, 3) := by decide +kernel
theorem dX5_allPursesIn_27 : decode cX5_allPursesIn 27 = .ok (.goto (-23), 3) := by decide +kernel
theorem dX5_allPursesIn_30 : decode cX5_allPursesIn 30 = .ok (.iload_n 2, 1) := by decide +kernel
theorem dX5_allPursesIn_31 : decode cX5_allPursesIn 31 = .ok (.ireturn, 1) := by decide +kernel
def fX5_allPursesIn_L4 (p1 : Int32) : Nat → St → Int32 → Int32 → (St → Int32 → Int32 → Option (St × Int32)) → Option (St × Int32)
  | 0, _, _, _, _ => none
  | n + 1, σ1, v2, v3, k => (if (σ1.1 26 7) ≤ v3 then k σ1 v2 v3 else cl (fX5_purseIn σ1 v3 p1) (fun σ4 r5 => fX5_allPursesIn_L4 p1 n σ4 (v2 + r5) (v3 + 1) k))
def fX5_allPursesIn (σ : St) (p1 : Int32) : Option (St × Int32) := fX5_allPursesIn_L4 p1 10000 σ 0 0 (fun σ6 v7 v8 => some (σ6, v7))
set_option maxHeartbeats 4000000 in
set_option maxRecDepth 100000 in
theorem ctX5_allPursesIn (l : Launch) (g : GG) (σ : St) (p1 : Int32) (σ' : St) (r : Int32) (hE : fX5_allPursesIn σ p1 = some (σ', r)) : MI 52 entC l g yX5_allPursesIn (Cond.code yX5_allPursesIn cX5_allPursesIn 4 (some .int) :: gtbl) (rmD 4) [.ref (g.2.1 25), .int p1] σ σ' r := by
  refine mi_i (own := RX5) (lv := [(0, .ref (g.2.1 25)), (1, .int p1)]) (by decide) rfl (Nat.le_of_ble_eq_true rfl) rfl (fun p e s m below meth c ls args Q A H0 H locs C hK hA hQ hs hl => ?_)
  have hx := C.1
  have hb := C.2.1
  unfold fX5_allPursesIn at hE
  refine lv_iconst (v := 0) hx hb dX5_allPursesIn_0 (by decide) ?_
  refine lv_istore_n (lv' := [(2, .int 0), (0, .ref (g.2.1 25)), (1, .int p1)]) hx hb dX5_allPursesIn_1 rfl hl (by decide) rfl (fun ls hl => ?_)
  refine lv_iconst (v := 0) hx hb dX5_allPursesIn_2 (by decide) ?_
  refine lv_istore_n (lv' := [(3, .int 0), (2, .int 0), (0, .ref (g.2.1 25)), (1, .int p1)]) hx hb dX5_allPursesIn_3 rfl hl (by decide) rfl (fun ls hl => ?_)
  have hL4 : ∀ (n : Nat) (σ1 : St) (v2 : Int32) (v3 : Int32) (k : St → Int32 → Int32 → Option (St × Int32)), fX5_allPursesIn_L4 p1 n σ1 v2 v3 k = some (σ', r) → (∀ (σ1 : St) (v2 : Int32) (v3 : Int32) (H : Heap) (locs : List Loc) (ls : Array Slot), HW 52 entC g A H0 H locs σ1 → lv_has ls 4 [(0, .ref (g.2.1 25)), (1, .int p1), (2, .int v2), (3, .int v3)] → k σ1 v2 v3 = some (σ', r) → W p l e (rmD 4) s m args below meth c H locs 0 0 Q (F0 m 30 ls [])) → ∀ (H : Heap) (locs : List Loc) (ls : Array Slot), HW 52 entC g A H0 H locs σ1 → lv_has ls 4 [(0, .ref (g.2.1 25)), (1, .int p1), (2, .int v2), (3, .int v3)] → W p l e (rmD 4) s m args below meth c H locs 0 0 Q (F0 m 4 ls []) := by
    intro n
    induction n with
    | zero =>
      intro σ1 v2 v3 k hE
      rw [fX5_allPursesIn_L4] at hE
      exact no_e hE
    | succ n ih =>
      intro σ1 v2 v3 k hE hk H locs ls hs hl
      rw [fX5_allPursesIn_L4] at hE
      refine lv_iload_n hx hb dX5_allPursesIn_4 rfl (lv_at hl 3 rfl) ?_
      refine lv_aload_n hx hb dX5_allPursesIn_5 rfl (lv_at hl 0 rfl) ?_
      refine gf_X5_18_25 C hK hs dX5_allPursesIn_6 ?_
      refine gf_X5_26_26 C hK hs dX5_allPursesIn_9 ?_
      refine lv_icmp_ge (tgt := 30) hx hb dX5_allPursesIn_12 (by decide) (fun hc => ?_) (fun hc => ?_)
      · have hE := if_t hc hE
        exact hk σ1 v2 v3 _ _ _ hs (lv_sub hl [0, 1, 2, 3] rfl) hE
      · have hE := if_f hc hE
        refine lv_iload_n hx hb dX5_allPursesIn_15 rfl (lv_at hl 2 rfl) ?_
        refine lv_aload_n hx hb dX5_allPursesIn_16 rfl (lv_at hl 0 rfl) ?_
        refine lv_iload_n hx hb dX5_allPursesIn_17 rfl (lv_at hl 3 rfl) ?_
        refine lv_iload_n hx hb dX5_allPursesIn_18 rfl (lv_at hl 1 rfl) ?_
        obtain ⟨σ4, r5, hE1, hE⟩ := cl_e hE
        refine x_cis (As := [.ref (g.2.1 25), .int v3, .int p1]) (rest := [.int v2]) C hl.1 hK hs hA ⟨Nat.le_refl 0, Nat.le_refl 0⟩ (ctX5_purseIn l g _ _ _ _ _ hE1) (cw_X5_30 C ⟨Nat.le_of_ble_eq_true rfl, Nat.le_of_ble_eq_true rfl⟩) rfl rfl (Nat.le_of_ble_eq_true rfl) dX5_allPursesIn_19 (fun H locs hs => ?_)
        refine lv_iadd hx hb dX5_allPursesIn_22 ?_
        refine lv_istore_n (lv' := [(2, .int (v2 + r5)), (0, .ref (g.2.1 25)), (1, .int p1), (3, .int v3)]) hx hb dX5_allPursesIn_23 rfl hl (by decide) rfl (fun ls hl => ?_)
        refine lv_iinc (v := v3 + 1) (lv' := [(3, .int (v3 + 1)), (2, .int (v2 + r5)), (0, .ref (g.2.1 25)), (1, .int p1)]) hx hb dX5_allPursesIn_24 hl (k := 3) rfl rfl (by decide) rfl (fun ls hl => ?_)
        refine lv_goto (tgt := 4) hx hb dX5_allPursesIn_27 (by decide) ?_
        exact ih _ _ _ _ hE hk _ _ _ hs (lv_sub hl [2, 3, 1, 0] rfl)
  refine hL4 _ _ _ _ _ hE (fun σ6 v7 v8 H locs ls hs hl hE => ?_) H locs ls hs (lv_sub hl [2, 3, 1, 0] rfl)
  refine lv_iload_n hx hb dX5_allPursesIn_30 rfl (lv_at hl 2 rfl) ?_
  exact hQ hs hE dX5_allPursesIn_31
theorem dX9_endOf_0 : decode cX9_endOf 0 = .ok (.aload_n 0, 1) := by decide +kernel
theorem dX9_endOf_1 : decode cX9_endOf 1 = .ok (.getfield 20, 3) := by decide +kernel
theorem dX9_endOf_4 : decode cX9_endOf 4 = .ok (.iload_n 1, 1) := by decide +kernel
theorem dX9_endOf_5 : decode cX9_endOf 5 = .ok (.iload_n 2, 1) := by decide +kernel
theorem dX9_endOf_6 : decode cX9_endOf 6 = .ok (.invokestatic 42, 3) := by decide +kernel
theorem dX9_endOf_9 : decode cX9_endOf 9 = .ok (.iaload, 1) := by decide +kernel
theorem dX9_endOf_10 : decode cX9_endOf 10 = .ok (.ireturn, 1) := by decide +kernel
def fX9_endOf (σ : St) (p1 : Int32) (p2 : Int32) : Option (St × Int32) := cl (fX9_slot σ p1 p2) (fun σ1 r2 => rd LC σ1 34 r2 (fun x3 => some (σ1, x3)))
set_option maxHeartbeats 4000000 in
set_option maxRecDepth 100000 in
theorem ctX9_endOf (l : Launch) (g : GG) (σ : St) (p1 : Int32) (p2 : Int32) (σ' : St) (r : Int32) (hE : fX9_endOf σ p1 p2 = some (σ', r)) : MI 52 entC l g yX9_endOf (Cond.code yX9_endOf cX9_endOf 3 (some .int) :: gtbl) (rmD 2) [.ref (g.2.1 25), .int p1, .int p2] σ σ' r := by
  refine mi_i (own := RX9) (lv := [(0, .ref (g.2.1 25)), (1, .int p1), (2, .int p2)]) (by decide) rfl (Nat.le_of_ble_eq_true rfl) rfl (fun p e s m below meth c ls args Q A H0 H locs C hK hA hQ hs hl => ?_)
  have hx := C.1
  have hb := C.2.1
  unfold fX9_endOf at hE
  refine lv_aload_n hx hb dX9_endOf_0 rfl (lv_at hl 0 rfl) ?_
  refine gf_X9_20_25 C hK hs dX9_endOf_1 ?_
  refine lv_iload_n hx hb dX9_endOf_4 rfl (lv_at hl 1 rfl) ?_
  refine lv_iload_n hx hb dX9_endOf_5 rfl (lv_at hl 2 rfl) ?_
  obtain ⟨σ1, r2, hE1, hE⟩ := cl_e hE
  refine x_cis (As := [.int p1, .int p2]) (rest := [.ref (g.2.1 34)]) C hl.1 hK hs hA ⟨Nat.le_refl 0, Nat.le_refl 0⟩ (ctX9_slot l g _ _ _ _ _ hE1) (cw_X9_42 C ⟨Nat.le_of_ble_eq_true rfl, Nat.le_of_ble_eq_true rfl⟩) rfl rfl (Nat.le_of_ble_eq_true rfl) dX9_endOf_6 (fun H locs hs => ?_)
  obtain ⟨hi, x3, ex3, hE⟩ := rd_w hE
  refine y_ald layC C hK hs hi ex3 dX9_endOf_9 ?_
  exact hQ hs hE dX9_endOf_10
theorem dX5_costOf_0 : decode cX5_costOf 0 = .ok (.iconst 0, 1) := by decide +kernel
theorem dX5_costOf_1 : decode cX5_costOf 1 = .ok (.istore 4, 2) := by decide +kernel
theorem dX5_costOf_3 : decode cX5_costOf 3 = .ok (.iconst 0, 1) := by decide +kernel
theorem dX5_costOf_4 : decode cX5_costOf 4 = .ok (.istore 5, 2) := by decide +kernel
theorem dX5_costOf_6 : decode cX5_costOf 6 = .ok (.iload 5, 2) := by decide +kernel
theorem dX5_costOf_8 : decode cX5_costOf 8 = .ok (.aload_n 0, 1) := by decide +kernel
theorem dX5_costOf_9 : decode cX5_costOf 9 = .ok (.getfield 18, 3) := by decide +kernel
theorem dX5_costOf_12 : decode cX5_costOf 12 = .ok (.getfield 36, 3) := by decide +kernel
theorem dX5_costOf_15 : decode cX5_costOf 15 = .ok (.if_icmp .ge 56, 3) := by decide +kernel
theorem dX5_costOf_18 : decode cX5_costOf 18 = .ok (.iload_n 2, 1) := by decide +kernel
theorem dX5_costOf_19 : decode cX5_costOf 19 = .ok (.iload 5, 2) := by decide +kernel
theorem dX5_costOf_21 : decode cX5_costOf 21 = .ok (.ishr, 1) := by decide +kernel
theorem dX5_costOf_22 : decode cX5_costOf 22 = .ok (.iconst 1, 1) := by decide +kernel
theorem dX5_costOf_23 : decode cX5_costOf 23 = .ok (.iand, 1) := by decide +kernel
theorem dX5_costOf_24 : decode cX5_costOf 24 = .ok (.ifCond .eq 7, 3) := by decide +kernel
theorem dX5_costOf_27 : decode cX5_costOf 27 = .ok (.iconst 1, 1) := by decide +kernel
theorem dX5_costOf_28 : decode cX5_costOf 28 = .ok (.goto 4, 3) := by decide +kernel
theorem dX5_costOf_31 : decode cX5_costOf 31 = .ok (.iconst 0, 1) := by decide +kernel
theorem dX5_costOf_32 : decode cX5_costOf 32 = .ok (.istore 6, 2) := by decide +kernel
theorem dX5_costOf_34 : decode cX5_costOf 34 = .ok (.iload 6, 2) := by decide +kernel
theorem dX5_costOf_36 : decode cX5_costOf 36 = .ok (.ifCond .eq 29, 3) := by decide +kernel
theorem dX5_costOf_39 : decode cX5_costOf 39 = .ok (.aload_n 0, 1) := by decide +kernel
theorem dX5_costOf_40 : decode cX5_costOf 40 = .ok (.iload_n 1, 1) := by decide +kernel
theorem dX5_costOf_41 : decode cX5_costOf 41 = .ok (.iload 5, 2) := by decide +kernel
theorem dX5_costOf_43 : decode cX5_costOf 43 = .ok (.invokevirtual 39, 3) := by decide +kernel
theorem dX5_costOf_46 : decode cX5_costOf 46 = .ok (.iload_n 3, 1) := by decide +kernel
theorem dX5_costOf_47 : decode cX5_costOf 47 = .ok (.if_icmp .gt 18, 3) := by decide +kernel
theorem dX5_costOf_50 : decode cX5_costOf 50 = .ok (.iload 4, 2) := by decide +kernel
theorem dX5_costOf_52 : decode cX5_costOf 52 = .ok (.aload_n 0, 1) := by decide +kernel
theorem dX5_costOf_53 : decode cX5_costOf 53 = .ok (.getfield 18, 3) := by decide +kernel
theorem dX5_costOf_56 : decode cX5_costOf 56 = .ok (.iload_n 1, 1) := by decide +kernel
theorem dX5_costOf_57 : decode cX5_costOf 57 = .ok (.iload 5, 2) := by decide +kernel
theorem dX5_costOf_59 : decode cX5_costOf 59 = .ok (.invokevirtual 42, 3) := by decide +kernel
theorem dX5_costOf_62 : decode cX5_costOf 62 = .ok (.iadd, 1) := by decide +kernel
theorem dX5_costOf_63 : decode cX5_costOf 63 = .ok (.istore 4, 2) := by decide +kernel
theorem dX5_costOf_65 : decode cX5_costOf 65 = .ok (.iinc 5 1, 3) := by decide +kernel
theorem dX5_costOf_68 : decode cX5_costOf 68 = .ok (.goto (-62), 3) := by decide +kernel
theorem dX5_costOf_71 : decode cX5_costOf 71 = .ok (.iload 4, 2) := by decide +kernel
theorem dX5_costOf_73 : decode cX5_costOf 73 = .ok (.ireturn, 1) := by decide +kernel
def fX5_costOf_L6 (p1 : Int32) (p2 : Int32) (p3 : Int32) : Nat → St → Int32 → Int32 → (St → Int32 → Int32 → Option (St × Int32)) → Option (St × Int32)
  | 0, _, _, _, _ => none
  | n + 1, σ1, v2, v3, k => (if (σ1.1 26 6) ≤ v3 then k σ1 v2 v3 else pv (if ((p2 >>> (v3 &&& 31)) &&& 1) = 0 then 0 else 1) (fun (y5 : Int32) => jn (fun (σ7 : St) (z8 : Int32) => fX5_costOf_L6 p1 p2 p3 n σ7 z8 (v3 + 1) k) (fun k6 => (if y5 = 0 then k6 σ1 v2 else cl (fX9_endOf σ1 p1 v3) (fun σ9 r10 => (if p3 < r10 then k6 σ9 v2 else cl (fX6_pays σ9 p1 v3) (fun σ11 r12 => k6 σ11 (v2 + r12))))))))
def fX5_costOf (σ : St) (p1 : Int32) (p2 : Int32) (p3 : Int32) : Option (St × Int32) := fX5_costOf_L6 p1 p2 p3 10000 σ 0 0 (fun σ13 v14 v15 => some (σ13, v14))
set_option maxHeartbeats 4000000 in
set_option maxRecDepth 100000 in
theorem ctX5_costOf (l : Launch) (g : GG) (σ : St) (p1 : Int32) (p2 : Int32) (p3 : Int32) (σ' : St) (r : Int32) (hE : fX5_costOf σ p1 p2 p3 = some (σ', r)) : MI 52 entC l g yX5_costOf (Cond.code yX5_costOf cX5_costOf 7 (some .int) :: gtbl) (rmD 3) [.ref (g.2.1 25), .int p1, .int p2, .int p3] σ σ' r := by
  refine mi_i (own := RX5) (lv := [(0, .ref (g.2.1 25)), (1, .int p1), (2, .int p2), (3, .int p3)]) (by decide) rfl (Nat.le_of_ble_eq_true rfl) rfl (fun p e s m below meth c ls args Q A H0 H locs C hK hA hQ hs hl => ?_)
  have hx := C.1
  have hb := C.2.1
  unfold fX5_costOf at hE
  refine lv_iconst (v := 0) hx hb dX5_costOf_0 (by decide) ?_
  refine lv_istore (lv' := [(4, .int 0), (0, .ref (g.2.1 25)), (1, .int p1), (2, .int p2), (3, .int p3)]) hx hb dX5_costOf_1 hl (by decide) rfl (fun ls hl => ?_)
  refine lv_iconst (v := 0) hx hb dX5_costOf_3 (by decide) ?_
  refine lv_istore (lv' := [(5, .int 0), (4, .int 0), (0, .ref (g.2.1 25)), (1, .int p1), (2, .int p2), (3, .int p3)]) hx hb dX5_costOf_4 hl (by decide) rfl (fun ls hl => ?_)
  have hL6 : ∀ (n : Nat) (σ1 : St) (v2 : Int32) (v3 : Int32) (k : St → Int32 → Int32 → Option (St × Int32)), fX5_costOf_L6 p1 p2 p3 n σ1 v2 v3 k = some (σ', r) → (∀ (σ1 : St) (v2 : Int32) (v3 : Int32) (H : Heap) (locs : List Loc) (ls : Array Slot), HW 52 entC g A H0 H locs σ1 → lv_has ls 7 [(0, .ref (g.2.1 25)), (1, .int p1), (2, .int p2), (3, .int p3), (4, .int v2), (5, .int v3)] → k σ1 v2 v3 = some (σ', r) → W p l e (rmD 3) s m args below meth c H locs 0 0 Q (F0 m 71 ls [])) → ∀ (H : Heap) (locs : List Loc) (ls : Array Slot), HW 52 entC g A H0 H locs σ1 → lv_has ls 7 [(0, .ref (g.2.1 25)), (1, .int p1), (2, .int p2), (3, .int p3), (4, .int v2), (5, .int v3)] → W p l e (rmD 3) s m args below meth c H locs 0 0 Q (F0 m 6 ls []) := by
    intro n
    induction n with
    | zero =>
      intro σ1 v2 v3 k hE
      rw [fX5_costOf_L6] at hE
      exact no_e hE
    | succ n ih =>
      intro σ1 v2 v3 k hE hk H locs ls hs hl
      rw [fX5_costOf_L6] at hE
      refine lv_iload hx hb dX5_costOf_6 (lv_at hl 5 rfl) ?_
      refine lv_aload_n hx hb dX5_costOf_8 rfl (lv_at hl 0 rfl) ?_
      refine gf_X5_18_25 C hK hs dX5_costOf_9 ?_
      refine gf_X5_36_26 C hK hs dX5_costOf_12 ?_
      refine lv_icmp_ge (tgt := 71) hx hb dX5_costOf_15 (by decide) (fun hc => ?_) (fun hc => ?_)
      · have hE := if_t hc hE
        exact hk σ1 v2 v3 _ _ _ hs (lv_sub hl [0, 1, 2, 3, 4, 5] rfl) hE
      · have hE := if_f hc hE
        refine lv_iload_n hx hb dX5_costOf_18 rfl (lv_at hl 2 rfl) ?_
        refine lv_iload hx hb dX5_costOf_19 (lv_at hl 5 rfl) ?_
        refine lv_ishr hx hb dX5_costOf_21 ?_
        refine lv_iconst (v := 1) hx hb dX5_costOf_22 (by decide) ?_
        refine lv_iand hx hb dX5_costOf_23 ?_
        refine pvw hE (fun k4 hE hk4 => ?_)
        have hJk4 : ∀ (y5 : Int32) (H : Heap) (locs : List Loc) (ls : Array Slot), HW 52 entC g A H0 H locs σ1 → lv_has ls 7 [(0, .ref (g.2.1 25)), (1, .int p1), (2, .int p2), (3, .int p3), (4, .int v2), (5, .int v3)] → k4 y5 = some (σ', r) → W p l e (rmD 3) s m args below meth c H locs 0 0 Q (F0 m 32 ls [.int y5]) := by
          intro y5 H locs ls hs hl hE
          have hE := hk4 _ hE
          refine lv_istore (lv' := [(6, .int y5), (0, .ref (g.2.1 25)), (1, .int p1), (2, .int p2), (3, .int p3), (4, .int v2), (5, .int v3)]) hx hb dX5_costOf_32 hl (by decide) rfl (fun ls hl => ?_)
          refine lv_iload hx hb dX5_costOf_34 (lv_at hl 0 rfl) ?_
          refine jn2 hE (fun k6 hE hk6 => ?_)
          have hJk6 : ∀ (σ7 : St) (z8 : Int32) (H : Heap) (locs : List Loc) (ls : Array Slot), HW 52 entC g A H0 H locs σ7 → lv_has ls 7 [(0, .ref (g.2.1 25)), (1, .int p1), (2, .int p2), (3, .int p3), (4, .int z8), (5, .int v3)] → k6 σ7 z8 = some (σ', r) → W p l e (rmD 3) s m args below meth c H locs 0 0 Q (F0 m 65 ls []) := by
            intro σ7 z8 H locs ls hs hl hE
            have hE := hk6 _ _ hE
            refine lv_iinc (v := v3 + 1) (lv' := [(5, .int (v3 + 1)), (0, .ref (g.2.1 25)), (1, .int p1), (2, .int p2), (3, .int p3), (4, .int z8)]) hx hb dX5_costOf_65 hl (k := 5) rfl rfl (by decide) rfl (fun ls hl => ?_)
            refine lv_goto (tgt := 6) hx hb dX5_costOf_68 (by decide) ?_
            exact ih _ _ _ _ hE hk _ _ _ hs (lv_sub hl [1, 2, 3, 4, 5, 0] rfl)
          refine lv_if_eq (tgt := 65) hx hb dX5_costOf_36 (by decide) (fun hc => ?_) (fun hc => ?_)
          · have hE := if_t hc hE
            exact hJk6 σ1 v2 _ _ _ hs (lv_sub hl [1, 2, 3, 4, 5, 6] rfl) hE
          · have hE := if_f hc hE
            refine lv_aload_n hx hb dX5_costOf_39 rfl (lv_at hl 1 rfl) ?_
            refine lv_iload_n hx hb dX5_costOf_40 rfl (lv_at hl 2 rfl) ?_
            refine lv_iload hx hb dX5_costOf_41 (lv_at hl 6 rfl) ?_
            obtain ⟨σ9, r10, hE1, hE⟩ := cl_e hE
            refine x_civ (As := [.int p1, .int v3]) (rest := []) C hl.1 hK hs hA ⟨Nat.le_refl 0, Nat.le_refl 0⟩ (ctX9_endOf l g _ _ _ _ _ hE1) (cw_X5_39 C ⟨Nat.le_of_ble_eq_true rfl, Nat.le_of_ble_eq_true rfl⟩) (hs.recv hK 25 (by decide) rfl rfl) rfl rfl (Nat.le_of_ble_eq_true rfl) dX5_costOf_43 (fun H locs hs => ?_)
            refine lv_iload_n hx hb dX5_costOf_46 rfl (lv_at hl 4 rfl) ?_
            refine lv_icmp_gt (tgt := 65) hx hb dX5_costOf_47 (by decide) (fun hc => ?_) (fun hc => ?_)
            · have hE := if_t hc hE
              exact hJk6 σ9 v2 _ _ _ hs (lv_sub hl [1, 2, 3, 4, 5, 6] rfl) hE
            · have hE := if_f hc hE
              refine lv_iload hx hb dX5_costOf_50 (lv_at hl 5 rfl) ?_
              refine lv_aload_n hx hb dX5_costOf_52 rfl (lv_at hl 1 rfl) ?_
              refine gf_X5_18_25 C hK hs dX5_costOf_53 ?_
              refine lv_iload_n hx hb dX5_costOf_56 rfl (lv_at hl 2 rfl) ?_
              refine lv_iload hx hb dX5_costOf_57 (lv_at hl 6 rfl) ?_
              obtain ⟨σ11, r12, hE1, hE⟩ := cl_e hE
              refine x_civ (As := [.int p1, .int v3]) (rest := [.int v2]) C hl.1 hK hs hA ⟨Nat.le_refl 0, Nat.le_refl 0⟩ (ctX6_pays l g _ _ _ _ _ hE1) (cw_X5_42 C ⟨Nat.le_of_ble_eq_true rfl, Nat.le_of_ble_eq_true rfl⟩) (hs.recv hK 26 (by decide) rfl rfl) rfl rfl (Nat.le_of_ble_eq_true rfl) dX5_costOf_59 (fun H locs hs => ?_)
              refine lv_iadd hx hb dX5_costOf_62 ?_
              refine lv_istore (lv' := [(4, .int (v2 + r12)), (6, .int y5), (0, .ref (g.2.1 25)), (1, .int p1), (2, .int p2), (3, .int p3), (5, .int v3)]) hx hb dX5_costOf_63 hl (by decide) rfl (fun ls hl => ?_)
              exact hJk6 σ11 (v2 + r12) _ _ _ hs (lv_sub hl [2, 3, 4, 5, 0, 6] rfl) hE
        refine lv_if_eq (tgt := 31) hx hb dX5_costOf_24 (by decide) (fun hc => ?_) (fun hc => ?_)
        · have hE := pv_t hc hE
          refine lv_iconst (v := 0) hx hb dX5_costOf_31 (by decide) ?_
          exact hJk4 0 _ _ _ hs (lv_sub hl [0, 1, 2, 3, 4, 5] rfl) hE
        · have hE := pv_f hc hE
          refine lv_iconst (v := 1) hx hb dX5_costOf_27 (by decide) ?_
          refine lv_goto (tgt := 32) hx hb dX5_costOf_28 (by decide) ?_
          exact hJk4 1 _ _ _ hs (lv_sub hl [0, 1, 2, 3, 4, 5] rfl) hE
  refine hL6 _ _ _ _ _ hE (fun σ13 v14 v15 H locs ls hs hl hE => ?_) H locs ls hs (lv_sub hl [2, 3, 4, 5, 1, 0] rfl)
  refine lv_iload hx hb dX5_costOf_71 (lv_at hl 4 rfl) ?_
  exact hQ hs hE dX5_costOf_73
theorem dX6_compareRuns_0 : decode cX6_compareRuns 0 = .ok (.iload_n 2, 1) := by decide +kernel
theorem dX6_compareRuns_1 : decode cX6_compareRuns 1 = .ok (.iload 5, 2) := by decide +kernel
theorem dX6_compareRuns_3 : decode cX6_compareRuns 3 = .ok (.invokestatic 76, 3) := by decide +kernel
theorem dX6_compareRuns_6 : decode cX6_compareRuns 6 = .ok (.istore 6, 2) := by decide +kernel
theorem dX6_compareRuns_8 : decode cX6_compareRuns 8 = .ok (.iconst 0, 1) := by decide +kernel
theorem dX6_compareRuns_9 : decode cX6_compareRuns 9 = .ok (.istore 7, 2) := by decide +kernel
theorem dX6_compareRuns_11 : decode cX6_compareRuns 11 = .ok (.iload 7, 2) := by decide +kernel
theorem dX6_compareRuns_13 : decode cX6_compareRuns 13 = .ok (.iload 6, 2) := by decide +kernel
theorem dX6_compareRuns_15 : decode cX6_compareRuns 15 = .ok (.if_icmp .ge 47, 3) := by decide +kernel
theorem dX6_compareRuns_18 : decode cX6_compareRuns 18 = .ok (.aload_n 0, 1) := by decide +kernel
theorem dX6_compareRuns_19 : decode cX6_compareRuns 19 = .ok (.iload_n 1, 1) := by decide +kernel
theorem dX6_compareRuns_20 : decode cX6_compareRuns 20 = .ok (.iload 7, 2) := by decide +kernel
theorem dX6_compareRuns_22 : decode cX6_compareRuns 22 = .ok (.iadd, 1) := by decide +kernel
theorem dX6_compareRuns_23 : decode cX6_compareRuns 23 = .ok (.iaload, 1) := by decide +kernel
theorem dX6_compareRuns_24 : decode cX6_compareRuns 24 = .ok (.aload_n 3, 1) := by decide +kernel
theorem dX6_compareRuns_25 : decode cX6_compareRuns 25 = .ok (.iload 4, 2) := by decide +kernel
theorem dX6_compareRuns_27 : decode cX6_compareRuns 27 = .ok (.iload 7, 2) := by decide +kernel
theorem dX6_compareRuns_29 : decode cX6_compareRuns 29 = .ok (.iadd, 1) := by decide +kernel
theorem dX6_compareRuns_30 : decode cX6_compareRuns 30 = .ok (.iaload, 1) := by decide +kernel
theorem dX6_compareRuns_31 : decode cX6_compareRuns 31 = .ok (.if_icmp .eq 25, 3) := by decide +kernel
theorem dX6_compareRuns_34 : decode cX6_compareRuns 34 = .ok (.aload_n 0, 1) := by decide +kernel
theorem dX6_compareRuns_35 : decode cX6_compareRuns 35 = .ok (.iload_n 1, 1) := by decide +kernel
theorem dX6_compareRuns_36 : decode cX6_compareRuns 36 = .ok (.iload 7, 2) := by decide +kernel
theorem dX6_compareRuns_38 : decode cX6_compareRuns 38 = .ok (.iadd, 1) := by decide +kernel
theorem dX6_compareRuns_39 : decode cX6_compareRuns 39 = .ok (.iaload, 1) := by decide +kernel
theorem dX6_compareRuns_40 : decode cX6_compareRuns 40 = .ok (.aload_n 3, 1) := by decide +kernel
theorem dX6_compareRuns_41 : decode cX6_compareRuns 41 = .ok (.iload 4, 2) := by decide +kernel
theorem dX6_compareRuns_43 : decode cX6_compareRuns 43 = .ok (.iload 7, 2) := by decide +kernel
theorem dX6_compareRuns_45 : decode cX6_compareRuns 45 = .ok (.iadd, 1) := by decide +kernel
theorem dX6_compareRuns_46 : decode cX6_compareRuns 46 = .ok (.iaload, 1) := by decide +kernel
theorem dX6_compareRuns_47 : decode cX6_compareRuns 47 = .ok (.if_icmp .ge 7, 3) := by decide +kernel
theorem dX6_compareRuns_50 : decode cX6_compareRuns 50 = .ok (.iconst (-1), 1) := by decide +kernel
theorem dX6_compareRuns_51 : decode cX6_compareRuns 51 = .ok (.goto 4, 3) := by decide +kernel
theorem dX6_compareRuns_54 : decode cX6_compareRuns 54 = .ok (.iconst 1, 1) := by decide +kernel
theorem dX6_compareRuns_55 : decode cX6_compareRuns 55 = .ok (.ireturn, 1) := by decide +kernel
theorem dX6_compareRuns_56 : decode cX6_compareRuns 56 = .ok (.iinc 7 1, 3) := by decide +kernel
theorem dX6_compareRuns_59 : decode cX6_compareRuns 59 = .ok (.goto (-48), 3) := by decide +kernel
theorem dX6_compareRuns_62 : decode cX6_compareRuns 62 = .ok (.iload_n 2, 1) := by decide +kernel
theorem dX6_compareRuns_63 : decode cX6_compareRuns 63 = .ok (.iload 5, 2) := by decide +kernel
theorem dX6_compareRuns_65 : decode cX6_compareRuns 65 = .ok (.isub, 1) := by decide +kernel
theorem dX6_compareRuns_66 : decode cX6_compareRuns 66 = .ok (.ireturn, 1) := by decide +kernel
def fX6_compareRuns_L11 (p0 : Nat) (p1 : Int32) (p2 : Int32) (p3 : Nat) (p4 : Int32) (p5 : Int32) (w1 : Int32) : Nat → St → Int32 → (St → Int32 → Option (St × Int32)) → Option (St × Int32)
  | 0, _, _, _ => none
  | n + 1, σ2, v3, k => (if w1 ≤ v3 then k σ2 v3 else rd LC σ2 p0 (p1 + v3) (fun x4 => rd LC σ2 p3 (p4 + v3) (fun x5 => (if x4 = x5 then fX6_compareRuns_L11 p0 p1 p2 p3 p4 p5 w1 n σ2 (v3 + 1) k else rd LC σ2 p0 (p1 + v3) (fun x6 => rd LC σ2 p3 (p4 + v3) (fun x7 => (if x7 ≤ x6 then some (σ2, 1) else some (σ2, (-1)))))))))
def fX6_compareRuns (σ : St) (p0 : Nat) (p1 : Int32) (p2 : Int32) (p3 : Nat) (p4 : Int32) (p5 : Int32) : Option (St × Int32) := pv ((if p5 < p2 then p5 else p2)) (fun (w1 : Int32) => fX6_compareRuns_L11 p0 p1 p2 p3 p4 p5 w1 10000 σ 0 (fun σ8 v9 => some (σ8, p2 - p5)))
set_option maxHeartbeats 4000000 in
set_option maxRecDepth 100000 in
theorem ctX6_compareRuns (l : Launch) (g : GG) (σ : St) (p0 : Nat) (p1 : Int32) (p2 : Int32) (p3 : Nat) (p4 : Int32) (p5 : Int32) (σ' : St) (r : Int32) (hE : fX6_compareRuns σ p0 p1 p2 p3 p4 p5 = some (σ', r)) : MI 52 entC l g yX6_compareRuns (Cond.code yX6_compareRuns cX6_compareRuns 8 (some .int) :: gtbl) (rmD 1) [.ref (g.2.1 p0), .int p1, .int p2, .ref (g.2.1 p3), .int p4, .int p5] σ σ' r := by
  refine mi_i (own := RX6) (lv := [(0, .ref (g.2.1 p0)), (1, .int p1), (2, .int p2), (3, .ref (g.2.1 p3)), (4, .int p4), (5, .int p5)]) (by decide) rfl (Nat.le_of_ble_eq_true rfl) rfl (fun p e s m below meth c ls args Q A H0 H locs C hK hA hQ hs hl => ?_)
  have hx := C.1
  have hb := C.2.1
  unfold fX6_compareRuns at hE
  refine lv_iload_n hx hb dX6_compareRuns_0 rfl (lv_at hl 2 rfl) ?_
  refine lv_iload hx hb dX6_compareRuns_1 (lv_at hl 5 rfl) ?_
  refine va_mmin hx hb (C.2.2.1.trans hl.1.symm) C.2.2.2.1 (C.2.2.2.2 _ mw_447) (C.2.2.2.2 _ mw_448) (C.2.2.2.2 _ mw_48) (C.2.2.2.2 _ mw_449) (Nat.le_of_ble_eq_true rfl) (Nat.le_of_ble_eq_true rfl) (Nat.le_refl 0) (Nat.le_refl 0) dX6_compareRuns_3 ?_
  refine lv_istore (lv' := [(6, .int (if p5 < p2 then p5 else p2)), (0, .ref (g.2.1 p0)), (1, .int p1), (2, .int p2), (3, .ref (g.2.1 p3)), (4, .int p4), (5, .int p5)]) hx hb dX6_compareRuns_6 hl (by decide) rfl (fun ls hl => ?_)
  refine lv_iconst (v := 0) hx hb dX6_compareRuns_8 (by decide) ?_
  refine lv_istore (lv' := [(7, .int 0), (6, .int (if p5 < p2 then p5 else p2)), (0, .ref (g.2.1 p0)), (1, .int p1), (2, .int p2), (3, .ref (g.2.1 p3)), (4, .int p4), (5, .int p5)]) hx hb dX6_compareRuns_9 hl (by decide) rfl (fun ls hl => ?_)
  obtain ⟨w1, ew1, hE⟩ := pv_w hE
  have hl : lv_has ls 8 [(7, .int 0), (6, .int w1), (0, .ref (g.2.1 p0)), (1, .int p1), (2, .int p2), (3, .ref (g.2.1 p3)), (4, .int p4), (5, .int p5)] := by rw [ew1]; exact hl
  have hL11 : ∀ (n : Nat) (σ2 : St) (v3 : Int32) (k : St → Int32 → Option (St × Int32)), fX6_compareRuns_L11 p0 p1 p2 p3 p4 p5 w1 n σ2 v3 k = some (σ', r) → (∀ (σ2 : St) (v3 : Int32) (H : Heap) (locs : List Loc) (ls : Array Slot), HW 52 entC g A H0 H locs σ2 → lv_has ls 8 [(0, .ref (g.2.1 p0)), (1, .int p1), (2, .int p2), (3, .ref (g.2.1 p3)), (4, .int p4), (5, .int p5), (6, .int w1), (7, .int v3)] → k σ2 v3 = some (σ', r) → W p l e (rmD 1) s m args below meth c H locs 0 0 Q (F0 m 62 ls [])) → ∀ (H : Heap) (locs : List Loc) (ls : Array Slot), HW 52 entC g A H0 H locs σ2 → lv_has ls 8 [(0, .ref (g.2.1 p0)), (1, .int p1), (2, .int p2), (3, .ref (g.2.1 p3)), (4, .int p4), (5, .int p5), (6, .int w1), (7, .int v3)] → W p l e (rmD 1) s m args below meth c H locs 0 0 Q (F0 m 11 ls []) := by
    intro n
    induction n with
    | zero =>
      intro σ2 v3 k hE
      rw [fX6_compareRuns_L11] at hE
      exact no_e hE
    | succ n ih =>
      intro σ2 v3 k hE hk H locs ls hs hl
      rw [fX6_compareRuns_L11] at hE
      refine lv_iload hx hb dX6_compareRuns_11 (lv_at hl 7 rfl) ?_
      refine lv_iload hx hb dX6_compareRuns_13 (lv_at hl 6 rfl) ?_
      refine lv_icmp_ge (tgt := 62) hx hb dX6_compareRuns_15 (by decide) (fun hc => ?_) (fun hc => ?_)
      · have hE := if_t hc hE
        exact hk σ2 v3 _ _ _ hs (lv_sub hl [0, 1, 2, 3, 4, 5, 6, 7] rfl) hE
      · have hE := if_f hc hE
        refine lv_aload_n hx hb dX6_compareRuns_18 rfl (lv_at hl 0 rfl) ?_
        refine lv_iload_n hx hb dX6_compareRuns_19 rfl (lv_at hl 1 rfl) ?_
        refine lv_iload hx hb dX6_compareRuns_20 (lv_at hl 7 rfl) ?_
        refine lv_iadd hx hb dX6_compareRuns_22 ?_
        obtain ⟨hi, x4, ex4, hE⟩ := rd_w hE
        refine y_ald layC C hK hs hi ex4 dX6_compareRuns_23 ?_
        refine lv_aload_n hx hb dX6_compareRuns_24 rfl (lv_at hl 3 rfl) ?_
        refine lv_iload hx hb dX6_compareRuns_25 (lv_at hl 4 rfl) ?_
        refine lv_iload hx hb dX6_compareRuns_27 (lv_at hl 7 rfl) ?_
        refine lv_iadd hx hb dX6_compareRuns_29 ?_
        obtain ⟨hi, x5, ex5, hE⟩ := rd_w hE
        refine y_ald layC C hK hs hi ex5 dX6_compareRuns_30 ?_
        refine lv_icmp_eq (tgt := 56) hx hb dX6_compareRuns_31 (by decide) (fun hc => ?_) (fun hc => ?_)
        · have hE := if_t hc hE
          refine lv_iinc (v := v3 + 1) (lv' := [(7, .int (v3 + 1)), (0, .ref (g.2.1 p0)), (1, .int p1), (2, .int p2), (3, .ref (g.2.1 p3)), (4, .int p4), (5, .int p5), (6, .int w1)]) hx hb dX6_compareRuns_56 hl (k := 7) rfl rfl (by decide) rfl (fun ls hl => ?_)
          refine lv_goto (tgt := 11) hx hb dX6_compareRuns_59 (by decide) ?_
          exact ih _ _ _ hE hk _ _ _ hs (lv_sub hl [1, 2, 3, 4, 5, 6, 7, 0] rfl)
        · have hE := if_f hc hE
          refine lv_aload_n hx hb dX6_compareRuns_34 rfl (lv_at hl 0 rfl) ?_
          refine lv_iload_n hx hb dX6_compareRuns_35 rfl (lv_at hl 1 rfl) ?_
          refine lv_iload hx hb dX6_compareRuns_36 (lv_at hl 7 rfl) ?_
          refine lv_iadd hx hb dX6_compareRuns_38 ?_
          obtain ⟨hi, x6, ex6, hE⟩ := rd_w hE
          refine y_ald layC C hK hs hi ex6 dX6_compareRuns_39 ?_
          refine lv_aload_n hx hb dX6_compareRuns_40 rfl (lv_at hl 3 rfl) ?_
          refine lv_iload hx hb dX6_compareRuns_41 (lv_at hl 4 rfl) ?_
          refine lv_iload hx hb dX6_compareRuns_43 (lv_at hl 7 rfl) ?_
          refine lv_iadd hx hb dX6_compareRuns_45 ?_
          obtain ⟨hi, x7, ex7, hE⟩ := rd_w hE
          refine y_ald layC C hK hs hi ex7 dX6_compareRuns_46 ?_
          refine lv_icmp_ge (tgt := 54) hx hb dX6_compareRuns_47 (by decide) (fun hc => ?_) (fun hc => ?_)
          · have hE := if_t hc hE
            refine lv_iconst (v := 1) hx hb dX6_compareRuns_54 (by decide) ?_
            exact hQ hs hE dX6_compareRuns_55
          · have hE := if_f hc hE
            refine lv_iconst (v := (-1)) hx hb dX6_compareRuns_50 (by decide) ?_
            refine lv_goto (tgt := 55) hx hb dX6_compareRuns_51 (by decide) ?_
            exact hQ hs hE dX6_compareRuns_55
  refine hL11 _ _ _ _ hE (fun σ8 v9 H locs ls hs hl hE => ?_) H locs ls hs (lv_sub hl [2, 3, 4, 5, 6, 7, 1, 0] rfl)
  refine lv_iload_n hx hb dX6_compareRuns_62 rfl (lv_at hl 2 rfl) ?_
  refine lv_iload hx hb dX6_compareRuns_63 (lv_at hl 5 rfl) ?_
  refine lv_isub hx hb dX6_compareRuns_65 ?_
  exact hQ hs hE dX6_compareRuns_66
theorem dX8_compareNames_0 : decode cX8_compareNames 0 = .ok (.aload_n 1, 1) := by decide +kernel
theorem dX8_compareNames_1 : decode cX8_compareNames 1 = .ok (.aload_n 0, 1) := by decide +kernel
theorem dX8_compareNames_2 : decode cX8_compareNames 2 = .ok (.getfield 11, 3) := by decide +kernel
theorem dX8_compareNames_5 : decode cX8_compareNames 5 = .ok (.iload_n 2, 1) := by decide +kernel
theorem dX8_compareNames_6 : decode cX8_compareNames 6 = .ok (.iaload, 1) := by decide +kernel
theorem dX8_compareNames_7 : decode cX8_compareNames 7 = .ok (.aload_n 0, 1) := by decide +kernel
theorem dX8_compareNames_8 : decode cX8_compareNames 8 = .ok (.getfield 17, 3) := by decide +kernel
theorem dX8_compareNames_11 : decode cX8_compareNames 11 = .ok (.iload_n 2, 1) := by decide +kernel
theorem dX8_compareNames_12 : decode cX8_compareNames 12 = .ok (.iaload, 1) := by decide +kernel
theorem dX8_compareNames_13 : decode cX8_compareNames 13 = .ok (.aload_n 1, 1) := by decide +kernel
theorem dX8_compareNames_14 : decode cX8_compareNames 14 = .ok (.aload_n 0, 1) := by decide +kernel
theorem dX8_compareNames_15 : decode cX8_compareNames 15 = .ok (.getfield 11, 3) := by decide +kernel
theorem dX8_compareNames_18 : decode cX8_compareNames 18 = .ok (.iload_n 3, 1) := by decide +kernel
theorem dX8_compareNames_19 : decode cX8_compareNames 19 = .ok (.iaload, 1) := by decide +kernel
theorem dX8_compareNames_20 : decode cX8_compareNames 20 = .ok (.aload_n 0, 1) := by decide +kernel
theorem dX8_compareNames_21 : decode cX8_compareNames 21 = .ok (.getfield 17, 3) := by decide +kernel
theorem dX8_compareNames_24 : decode cX8_compareNames 24 = .ok (.iload_n 3, 1) := by decide +kernel
theorem dX8_compareNames_25 : decode cX8_compareNames 25 = .ok (.iaload, 1) := by decide +kernel
theorem dX8_compareNames_26 : decode cX8_compareNames 26 = .ok (.invokestatic 88, 3) := by decide +kernel
theorem dX8_compareNames_29 : decode cX8_compareNames 29 = .ok (.ireturn, 1) := by decide +kernel
def fX8_compareNames (σ : St) (p1 : Nat) (p2 : Int32) (p3 : Int32) : Option (St × Int32) := rd LC σ 18 p2 (fun x1 => rd LC σ 19 p2 (fun x2 => rd LC σ 18 p3 (fun x3 => rd LC σ 19 p3 (fun x4 => cl (fX6_compareRuns σ p1 x1 x2 p1 x3 x4) (fun σ5 r6 => some (σ5, r6))))))
set_option maxHeartbeats 4000000 in
set_option maxRecDepth 100000 in
theorem ctX8_compareNames (l : Launch) (g : GG) (σ : St) (p1 : Nat) (p2 : Int32) (p3 : Int32) (σ' : St) (r : Int32) (hE : fX8_compareNames σ p1 p2 p3 = some (σ', r)) : MI 52 entC l g yX8_compareNames (Cond.code yX8_compareNames cX8_compareNames 4 (some .int) :: gtbl) (rmD 2) [.ref (g.2.1 17), .ref (g.2.1 p1), .int p2, .int p3] σ σ' r := by
  refine mi_i (own := RX8) (lv := [(0, .ref (g.2.1 17)), (1, .ref (g.2.1 p1)), (2, .int p2), (3, .int p3)]) (by decide) rfl (Nat.le_of_ble_eq_true rfl) rfl (fun p e s m below meth c ls args Q A H0 H locs C hK hA hQ hs hl => ?_)
  have hx := C.1
  have hb := C.2.1
  unfold fX8_compareNames at hE
  refine lv_aload_n hx hb dX8_compareNames_0 rfl (lv_at hl 1 rfl) ?_
  refine lv_aload_n hx hb dX8_compareNames_1 rfl (lv_at hl 0 rfl) ?_
  refine gf_X8_11_17 C hK hs dX8_compareNames_2 ?_
  refine lv_iload_n hx hb dX8_compareNames_5 rfl (lv_at hl 2 rfl) ?_
  obtain ⟨hi, x1, ex1, hE⟩ := rd_w hE
  refine y_ald layC C hK hs hi ex1 dX8_compareNames_6 ?_
  refine lv_aload_n hx hb dX8_compareNames_7 rfl (lv_at hl 0 rfl) ?_
  refine gf_X8_17_17 C hK hs dX8_compareNames_8 ?_
  refine lv_iload_n hx hb dX8_compareNames_11 rfl (lv_at hl 2 rfl) ?_
  obtain ⟨hi, x2, ex2, hE⟩ := rd_w hE
  refine y_ald layC C hK hs hi ex2 dX8_compareNames_12 ?_
  refine lv_aload_n hx hb dX8_compareNames_13 rfl (lv_at hl 1 rfl) ?_
  refine lv_aload_n hx hb dX8_compareNames_14 rfl (lv_at hl 0 rfl) ?_
  refine gf_X8_11_17 C hK hs dX8_compareNames_15 ?_
  refine lv_iload_n hx hb dX8_compareNames_18 rfl (lv_at hl 3 rfl) ?_
  obtain ⟨hi, x3, ex3, hE⟩ := rd_w hE
  refine y_ald layC C hK hs hi ex3 dX8_compareNames_19 ?_
  refine lv_aload_n hx hb dX8_compareNames_20 rfl (lv_at hl 0 rfl) ?_
  refine gf_X8_17_17 C hK hs dX8_compareNames_21 ?_
  refine lv_iload_n hx hb dX8_compareNames_24 rfl (lv_at hl 3 rfl) ?_
  obtain ⟨hi, x4, ex4, hE⟩ := rd_w hE
  refine y_ald layC C hK hs hi ex4 dX8_compareNames_25 ?_
  obtain ⟨σ5, r6, hE1, hE⟩ := cl_e hE
  refine x_cis (As := [.ref (g.2.1 p1), .int x1, .int x2, .ref (g.2.1 p1), .int x3, .int x4]) (rest := []) C hl.1 hK hs hA ⟨Nat.le_refl 0, Nat.le_refl 0⟩ (ctX6_compareRuns l g _ _ _ _ _ _ _ _ _ hE1) (cw_X8_88 C ⟨Nat.le_of_ble_eq_true rfl, Nat.le_of_ble_eq_true rfl⟩) rfl rfl (Nat.le_of_ble_eq_true rfl) dX8_compareNames_26 (fun H locs hs => ?_)
  exact hQ hs hE dX8_compareNames_29
theorem dX6_takeColour_0 : decode cX6_takeColour 0 = .ok (.iconst 0, 1) := by decide +kernel
theorem dX6_takeColour_1 : decode cX6_takeColour 1 = .ok (.istore 4, 2) := by decide +kernel
theorem dX6_takeColour_3 : decode cX6_takeColour 3 = .ok (.iconst 0, 1) := by decide +kernel
theorem dX6_takeColour_4 : decode cX6_takeColour 4 = .ok (.istore 5, 2) := by decide +kernel
theorem dX6_takeColour_6 : decode cX6_takeColour 6 = .ok (.iload 5, 2) := by decide +kernel
theorem dX6_takeColour_8 : decode cX6_takeColour 8 = .ok (.aload_n 0, 1) := by decide +kernel
theorem dX6_takeColour_9 : decode cX6_takeColour 9 = .ok (.getfield 34, 3) := by decide +kernel
theorem dX6_takeColour_12 : decode cX6_takeColour 12 = .ok (.if_icmp .ge 23, 3) := by decide +kernel
theorem dX6_takeColour_15 : decode cX6_takeColour 15 = .ok (.aload_n 1, 1) := by decide +kernel
theorem dX6_takeColour_16 : decode cX6_takeColour 16 = .ok (.aload_n 2, 1) := by decide +kernel
theorem dX6_takeColour_17 : decode cX6_takeColour 17 = .ok (.iload 5, 2) := by decide +kernel
theorem dX6_takeColour_19 : decode cX6_takeColour 19 = .ok (.iload_n 3, 1) := by decide +kernel
theorem dX6_takeColour_20 : decode cX6_takeColour 20 = .ok (.invokevirtual 45, 3) := by decide +kernel
theorem dX6_takeColour_23 : decode cX6_takeColour 23 = .ok (.ifCond .ge 6, 3) := by decide +kernel
theorem dX6_takeColour_26 : decode cX6_takeColour 26 = .ok (.iinc 4 1, 3) := by decide +kernel
theorem dX6_takeColour_29 : decode cX6_takeColour 29 = .ok (.iinc 5 1, 3) := by decide +kernel
theorem dX6_takeColour_32 : decode cX6_takeColour 32 = .ok (.goto (-26), 3) := by decide +kernel
theorem dX6_takeColour_35 : decode cX6_takeColour 35 = .ok (.aload_n 0, 1) := by decide +kernel
theorem dX6_takeColour_36 : decode cX6_takeColour 36 = .ok (.getfield 13, 3) := by decide +kernel
theorem dX6_takeColour_39 : decode cX6_takeColour 39 = .ok (.iload 4, 2) := by decide +kernel
theorem dX6_takeColour_41 : decode cX6_takeColour 41 = .ok (.aload_n 1, 1) := by decide +kernel
theorem dX6_takeColour_42 : decode cX6_takeColour 42 = .ok (.getfield 49, 3) := by decide +kernel
theorem dX6_takeColour_45 : decode cX6_takeColour 45 = .ok (.iload_n 3, 1) := by decide +kernel
theorem dX6_takeColour_46 : decode cX6_takeColour 46 = .ok (.iaload, 1) := by decide +kernel
theorem dX6_takeColour_47 : decode cX6_takeColour 47 = .ok (.iastore, 1) := by decide +kernel
theorem dX6_takeColour_48 : decode cX6_takeColour 48 = .ok (.aload_n 0, 1) := by decide +kernel
theorem dX6_takeColour_49 : decode cX6_takeColour 49 = .ok (.getfield 16, 3) := by decide +kernel
theorem dX6_takeColour_52 : decode cX6_takeColour 52 = .ok (.iload 4, 2) := by decide +kernel
theorem dX6_takeColour_54 : decode cX6_takeColour 54 = .ok (.aload_n 1, 1) := by decide +kernel
theorem dX6_takeColour_55 : decode cX6_takeColour 55 = .ok (.getfield 50, 3) := by decide +kernel
theorem dX6_takeColour_58 : decode cX6_takeColour 58 = .ok (.iload_n 3, 1) := by decide +kernel
theorem dX6_takeColour_59 : decode cX6_takeColour 59 = .ok (.iaload, 1) := by decide +kernel
theorem dX6_takeColour_60 : decode cX6_takeColour 60 = .ok (.iastore, 1) := by decide +kernel
theorem dX6_takeColour_61 : decode cX6_takeColour 61 = .ok (.aload_n 0, 1) := by decide +kernel
theorem dX6_takeColour_62 : decode cX6_takeColour 62 = .ok (.getfield 19, 3) := by decide +kernel
theorem dX6_takeColour_65 : decode cX6_takeColour 65 = .ok (.iload 4, 2) := by decide +kernel
theorem dX6_takeColour_67 : decode cX6_takeColour 67 = .ok (.aload_n 1, 1) := by decide +kernel
theorem dX6_takeColour_68 : decode cX6_takeColour 68 = .ok (.getfield 51, 3) := by decide +kernel
theorem dX6_takeColour_71 : decode cX6_takeColour 71 = .ok (.iload_n 3, 1) := by decide +kernel
theorem dX6_takeColour_72 : decode cX6_takeColour 72 = .ok (.iaload, 1) := by decide +kernel
theorem dX6_takeColour_73 : decode cX6_takeColour 73 = .ok (.iastore, 1) := by decide +kernel
theorem dX6_takeColour_74 : decode cX6_takeColour 74 = .ok (.iconst 0, 1) := by decide +kernel
theorem dX6_takeColour_75 : decode cX6_takeColour 75 = .ok (.istore 5, 2) := by decide +kernel
theorem dX6_takeColour_77 : decode cX6_takeColour 77 = .ok (.iload 5, 2) := by decide +kernel
theorem dX6_takeColour_79 : decode cX6_takeColour 79 = .ok (.aload_n 0, 1) := by decide +kernel
theorem dX6_takeColour_80 : decode cX6_takeColour 80 = .ok (.getfield 13, 3) := by decide +kernel
theorem dX6_takeColour_83 : decode cX6_takeColour 83 = .ok (.iload 4, 2) := by decide +kernel
theorem dX6_takeColour_85 : decode cX6_takeColour 85 = .ok (.iaload, 1) := by decide +kernel
theorem dX6_takeColour_86 : decode cX6_takeColour 86 = .ok (.if_icmp .ge 36, 3) := by decide +kernel
theorem dX6_takeColour_89 : decode cX6_takeColour 89 = .ok (.aload_n 0, 1) := by decide +kernel
theorem dX6_takeColour_90 : decode cX6_takeColour 90 = .ok (.getfield 9, 3) := by decide +kernel
theorem dX6_takeColour_93 : decode cX6_takeColour 93 = .ok (.iload 4, 2) := by decide +kernel
theorem dX6_takeColour_95 : decode cX6_takeColour 95 = .ok (.bipush 7, 2) := by decide +kernel
theorem dX6_takeColour_97 : decode cX6_takeColour 97 = .ok (.imul, 1) := by decide +kernel
theorem dX6_takeColour_98 : decode cX6_takeColour 98 = .ok (.iload 5, 2) := by decide +kernel
theorem dX6_takeColour_100 : decode cX6_takeColour 100 = .ok (.iadd, 1) := by decide +kernel
theorem dX6_takeColour_101 : decode cX6_takeColour 101 = .ok (.aload_n 2, 1) := by decide +kernel
theorem dX6_takeColour_102 : decode cX6_takeColour 102 = .ok (.aload_n 1, 1) := by decide +kernel
theorem dX6_takeColour_103 : decode cX6_takeColour 103 = .ok (.getfield 52, 3) := by decide +kernel
theorem dX6_takeColour_106 : decode cX6_takeColour 106 = .ok (.iload_n 3, 1) := by decide +kernel
theorem dX6_takeColour_107 : decode cX6_takeColour 107 = .ok (.iaload, 1) := by decide +kernel
theorem dX6_takeColour_108 : decode cX6_takeColour 108 = .ok (.iload 5, 2) := by decide +kernel
theorem dX6_takeColour_110 : decode cX6_takeColour 110 = .ok (.iadd, 1) := by decide +kernel
theorem dX6_takeColour_111 : decode cX6_takeColour 111 = .ok (.iaload, 1) := by decide +kernel
theorem dX6_takeColour_112 : decode cX6_takeColour 112 = .ok (.bipush 97, 2) := by decide +kernel
theorem dX6_takeColour_114 : decode cX6_takeColour 114 = .ok (.isub, 1) := by decide +kernel
theorem dX6_takeColour_115 : decode cX6_takeColour 115 = .ok (.iastore, 1) := by decide +kernel
theorem dX6_takeColour_116 : decode cX6_takeColour 116 = .ok (.iinc 5 1, 3) := by decide +kernel
theorem dX6_takeColour_119 : decode cX6_takeColour 119 = .ok (.goto (-42), 3) := by decide +kernel
theorem dX6_takeColour_122 : decode cX6_takeColour 122 = .ok (.return_, 1) := by decide +kernel
def fX6_takeColour_L6 (p2 : Nat) (p3 : Int32) : Nat → St → Int32 → Int32 → (St → Int32 → Int32 → Option (St × Unit)) → Option (St × Unit)
  | 0, _, _, _, _ => none
  | n + 1, σ1, v2, v3, k => (if (σ1.1 26 6) ≤ v3 then k σ1 v2 v3 else cl (fX8_compareNames σ1 p2 v3 p3) (fun σ4 r5 => pv (if 0 ≤ r5 then v2 else (v2 + 1)) (fun (z7 : Int32) => fX6_takeColour_L6 p2 p3 n σ4 z7 (v3 + 1) k)))
def fX6_takeColour_L77 (p2 : Nat) (p3 : Int32) (v9 : Int32) : Nat → St → Int32 → (St → Int32 → Option (St × Unit)) → Option (St × Unit)
  | 0, _, _, _ => none
  | n + 1, σ17, v18, k => rd LC σ17 28 v9 (fun x19 => (if x19 ≤ v18 then k σ17 v18 else rd LC σ17 18 p3 (fun x20 => rd LC σ17 p2 (x20 + v18) (fun x21 => wr LC σ17 27 ((v9 * 7) + v18) (x21 - 97) (fun σ22 => fX6_takeColour_L77 p2 p3 v9 n σ22 (v18 + 1) k)))))
def fX6_takeColour (σ : St) (p2 : Nat) (p3 : Int32) : Option (St × Unit) := fX6_takeColour_L6 p2 p3 10000 σ 0 0 (fun σ8 v9 v10 => rd LC σ8 19 p3 (fun x11 => wr LC σ8 28 v9 x11 (fun σ12 => rd LC σ12 20 p3 (fun x13 => wr LC σ12 29 v9 x13 (fun σ14 => rd LC σ14 21 p3 (fun x15 => wr LC σ14 30 v9 x15 (fun σ16 => fX6_takeColour_L77 p2 p3 v9 10000 σ16 0 (fun σ23 v24 => some (σ23, ())))))))))
set_option maxHeartbeats 4000000 in
set_option maxRecDepth 100000 in
theorem ctX6_takeColour (l : Launch) (g : GG) (σ : St) (p2 : Nat) (p3 : Int32) (σ' : St) (r : Unit) (hE : fX6_takeColour σ p2 p3 = some (σ', r)) : MV 52 entC l g yX6_takeColour (Cond.code yX6_takeColour cX6_takeColour 6 none :: gtbl) (rmD 3) [.ref (g.2.1 26), .ref (g.2.1 17), .ref (g.2.1 p2), .int p3] σ σ' := by
  refine mi_v (own := RX6) (lv := [(0, .ref (g.2.1 26)), (1, .ref (g.2.1 17)), (2, .ref (g.2.1 p2)), (3, .int p3)]) (by decide) rfl (Nat.le_of_ble_eq_true rfl) rfl (fun p e s m below meth c ls args Q A H0 H locs C hK hA hQ hs hl => ?_)
  have hx := C.1
  have hb := C.2.1
  unfold fX6_takeColour at hE
  refine lv_iconst (v := 0) hx hb dX6_takeColour_0 (by decide) ?_
  refine lv_istore (lv' := [(4, .int 0), (0, .ref (g.2.1 26)), (1, .ref (g.2.1 17)), (2, .ref (g.2.1 p2)), (3, .int p3)]) hx hb dX6_takeColour_1 hl (by decide) rfl (fun ls hl => ?_)
  refine lv_iconst (v := 0) hx hb dX6_takeColour_3 (by decide) ?_
  refine lv_istore (lv' := [(5, .int 0), (4, .int 0), (0, .ref (g.2.1 26)), (1, .ref (g.2.1 17)), (2, .ref (g.2.1 p2)), (3, .int p3)]) hx hb dX6_takeColour_4 hl (by decide) rfl (fun ls hl => ?_)
  have hL6 : ∀ (n : Nat) (σ1 : St) (v2 : Int32) (v3 : Int32) (k : St → Int32 → Int32 → Option (St × Unit)), fX6_takeColour_L6 p2 p3 n σ1 v2 v3 k = some (σ', r) → (∀ (σ1 : St) (v2 : Int32) (v3 : Int32) (H : Heap) (locs : List Loc) (ls : Array Slot), HW 52 entC g A H0 H locs σ1 → lv_has ls 6 [(0, .ref (g.2.1 26)), (1, .ref (g.2.1 17)), (2, .ref (g.2.1 p2)), (3, .int p3), (4, .int v2), (5, .int v3)] → k σ1 v2 v3 = some (σ', r) → W p l e (rmD 3) s m args below meth c H locs 0 0 Q (F0 m 35 ls [])) → ∀ (H : Heap) (locs : List Loc) (ls : Array Slot), HW 52 entC g A H0 H locs σ1 → lv_has ls 6 [(0, .ref (g.2.1 26)), (1, .ref (g.2.1 17)), (2, .ref (g.2.1 p2)), (3, .int p3), (4, .int v2), (5, .int v3)] → W p l e (rmD 3) s m args below meth c H locs 0 0 Q (F0 m 6 ls []) := by
    intro n
    induction n with
    | zero =>
      intro σ1 v2 v3 k hE
      rw [fX6_takeColour_L6] at hE
      exact no_e hE
    | succ n ih =>
      intro σ1 v2 v3 k hE hk H locs ls hs hl
      rw [fX6_takeColour_L6] at hE
      refine lv_iload hx hb dX6_takeColour_6 (lv_at hl 5 rfl) ?_
      refine lv_aload_n hx hb dX6_takeColour_8 rfl (lv_at hl 0 rfl) ?_
      refine gf_X6_34_26 C hK hs dX6_takeColour_9 ?_
      refine lv_icmp_ge (tgt := 35) hx hb dX6_takeColour_12 (by decide) (fun hc => ?_) (fun hc => ?_)
      · have hE := if_t hc hE
        exact hk σ1 v2 v3 _ _ _ hs (lv_sub hl [0, 1, 2, 3, 4, 5] rfl) hE
      · have hE := if_f hc hE
        refine lv_aload_n hx hb dX6_takeColour_15 rfl (lv_at hl 1 rfl) ?_
        refine lv_aload_n hx hb dX6_takeColour_16 rfl (lv_at hl 2 rfl) ?_
        refine lv_iload hx hb dX6_takeColour_17 (lv_at hl 5 rfl) ?_
        refine lv_iload_n hx hb dX6_takeColour_19 rfl (lv_at hl 3 rfl) ?_
        obtain ⟨σ4, r5, hE1, hE⟩ := cl_e hE
        refine x_civ (As := [.ref (g.2.1 p2), .int v3, .int p3]) (rest := []) C hl.1 hK hs hA ⟨Nat.le_refl 0, Nat.le_refl 0⟩ (ctX8_compareNames l g _ _ _ _ _ _ hE1) (cw_X6_45 C ⟨Nat.le_of_ble_eq_true rfl, Nat.le_of_ble_eq_true rfl⟩) (hs.recv hK 17 (by decide) rfl rfl) rfl rfl (Nat.le_of_ble_eq_true rfl) dX6_takeColour_20 (fun H locs hs => ?_)
        refine pvw hE (fun k6 hE hk6 => ?_)
        have hJk6 : ∀ (z7 : Int32) (H : Heap) (locs : List Loc) (ls : Array Slot), HW 52 entC g A H0 H locs σ4 → lv_has ls 6 [(0, .ref (g.2.1 26)), (1, .ref (g.2.1 17)), (2, .ref (g.2.1 p2)), (3, .int p3), (4, .int z7), (5, .int v3)] → k6 z7 = some (σ', r) → W p l e (rmD 3) s m args below meth c H locs 0 0 Q (F0 m 29 ls []) := by
          intro z7 H locs ls hs hl hE
          have hE := hk6 _ hE
          refine lv_iinc (v := v3 + 1) (lv' := [(5, .int (v3 + 1)), (0, .ref (g.2.1 26)), (1, .ref (g.2.1 17)), (2, .ref (g.2.1 p2)), (3, .int p3), (4, .int z7)]) hx hb dX6_takeColour_29 hl (k := 5) rfl rfl (by decide) rfl (fun ls hl => ?_)
          refine lv_goto (tgt := 6) hx hb dX6_takeColour_32 (by decide) ?_
          exact ih _ _ _ _ hE hk _ _ _ hs (lv_sub hl [1, 2, 3, 4, 5, 0] rfl)
        refine lv_if_ge (tgt := 29) hx hb dX6_takeColour_23 (by decide) (fun hc => ?_) (fun hc => ?_)
        · have hE := pv_t hc hE
          exact hJk6 v2 _ _ _ hs (lv_sub hl [0, 1, 2, 3, 4, 5] rfl) hE
        · have hE := pv_f hc hE
          refine lv_iinc (v := v2 + 1) (lv' := [(4, .int (v2 + 1)), (0, .ref (g.2.1 26)), (1, .ref (g.2.1 17)), (2, .ref (g.2.1 p2)), (3, .int p3), (5, .int v3)]) hx hb dX6_takeColour_26 hl (k := 4) rfl rfl (by decide) rfl (fun ls hl => ?_)
          exact hJk6 (v2 + 1) _ _ _ hs (lv_sub hl [1, 2, 3, 4, 0, 5] rfl) hE
  refine hL6 _ _ _ _ _ hE (fun σ8 v9 v10 H locs ls hs hl hE => ?_) H locs ls hs (lv_sub hl [2, 3, 4, 5, 1, 0] rfl)
  refine lv_aload_n hx hb dX6_takeColour_35 rfl (lv_at hl 0 rfl) ?_
  refine gf_X6_13_26 C hK hs dX6_takeColour_36 ?_
  refine lv_iload hx hb dX6_takeColour_39 (lv_at hl 4 rfl) ?_
  refine lv_aload_n hx hb dX6_takeColour_41 rfl (lv_at hl 1 rfl) ?_
  refine gf_X6_49_17 C hK hs dX6_takeColour_42 ?_
  refine lv_iload_n hx hb dX6_takeColour_45 rfl (lv_at hl 3 rfl) ?_
  obtain ⟨hi, x11, ex11, hE⟩ := rd_w hE
  refine y_ald layC C hK hs hi ex11 dX6_takeColour_46 ?_
  obtain ⟨hi, σ12, eσ12, hE⟩ := wr_w hE
  refine y_ast layC C hK hs hi eσ12 dX6_takeColour_47 (fun H locs hs => ?_)
  refine lv_aload_n hx hb dX6_takeColour_48 rfl (lv_at hl 0 rfl) ?_
  refine gf_X6_16_26 C hK hs dX6_takeColour_49 ?_
  refine lv_iload hx hb dX6_takeColour_52 (lv_at hl 4 rfl) ?_
  refine lv_aload_n hx hb dX6_takeColour_54 rfl (lv_at hl 1 rfl) ?_
  refine gf_X6_50_17 C hK hs dX6_takeColour_55 ?_
  refine lv_iload_n hx hb dX6_takeColour_58 rfl (lv_at hl 3 rfl) ?_
  obtain ⟨hi, x13, ex13, hE⟩ := rd_w hE
  refine y_ald layC C hK hs hi ex13 dX6_takeColour_59 ?_
  obtain ⟨hi, σ14, eσ14, hE⟩ := wr_w hE
  refine y_ast layC C hK hs hi eσ14 dX6_takeColour_60 (fun H locs hs => ?_)
  refine lv_aload_n hx hb dX6_takeColour_61 rfl (lv_at hl 0 rfl) ?_
  refine gf_X6_19_26 C hK hs dX6_takeColour_62 ?_
  refine lv_iload hx hb dX6_takeColour_65 (lv_at hl 4 rfl) ?_
  refine lv_aload_n hx hb dX6_takeColour_67 rfl (lv_at hl 1 rfl) ?_
  refine gf_X6_51_17 C hK hs dX6_takeColour_68 ?_
  refine lv_iload_n hx hb dX6_takeColour_71 rfl (lv_at hl 3 rfl) ?_
  obtain ⟨hi, x15, ex15, hE⟩ := rd_w hE
  refine y_ald layC C hK hs hi ex15 dX6_takeColour_72 ?_
  obtain ⟨hi, σ16, eσ16, hE⟩ := wr_w hE
  refine y_ast layC C hK hs hi eσ16 dX6_takeColour_73 (fun H locs hs => ?_)
  refine lv_iconst (v := 0) hx hb dX6_takeColour_74 (by decide) ?_
  refine lv_istore (lv' := [(5, .int 0), (0, .ref (g.2.1 26)), (1, .ref (g.2.1 17)), (2, .ref (g.2.1 p2)), (3, .int p3), (4, .int v9)]) hx hb dX6_takeColour_75 hl (by decide) rfl (fun ls hl => ?_)
  have hL77 : ∀ (n : Nat) (σ17 : St) (v18 : Int32) (k : St → Int32 → Option (St × Unit)), fX6_takeColour_L77 p2 p3 v9 n σ17 v18 k = some (σ', r) → (∀ (σ17 : St) (v18 : Int32) (H : Heap) (locs : List Loc) (ls : Array Slot), HW 52 entC g A H0 H locs σ17 → lv_has ls 6 [(0, .ref (g.2.1 26)), (1, .ref (g.2.1 17)), (2, .ref (g.2.1 p2)), (3, .int p3), (4, .int v9), (5, .int v18)] → k σ17 v18 = some (σ', r) → W p l e (rmD 3) s m args below meth c H locs 0 0 Q (F0 m 122 ls [])) → ∀ (H : Heap) (locs : List Loc) (ls : Array Slot), HW 52 entC g A H0 H locs σ17 → lv_has ls 6 [(0, .ref (g.2.1 26)), (1, .ref (g.2.1 17)), (2, .ref (g.2.1 p2)), (3, .int p3), (4, .int v9), (5, .int v18)] → W p l e (rmD 3) s m args below meth c H locs 0 0 Q (F0 m 77 ls []) := by
    intro n
    induction n with
    | zero =>
      intro σ17 v18 k hE
      rw [fX6_takeColour_L77] at hE
      exact no_e hE
    | succ n ih =>
      intro σ17 v18 k hE hk H locs ls hs hl
      rw [fX6_takeColour_L77] at hE
      refine lv_iload hx hb dX6_takeColour_77 (lv_at hl 5 rfl) ?_
      refine lv_aload_n hx hb dX6_takeColour_79 rfl (lv_at hl 0 rfl) ?_
      refine gf_X6_13_26 C hK hs dX6_takeColour_80 ?_
      refine lv_iload hx hb dX6_takeColour_83 (lv_at hl 4 rfl) ?_
      obtain ⟨hi, x19, ex19, hE⟩ := rd_w hE
      refine y_ald layC C hK hs hi ex19 dX6_takeColour_85 ?_
      refine lv_icmp_ge (tgt := 122) hx hb dX6_takeColour_86 (by decide) (fun hc => ?_) (fun hc => ?_)
      · have hE := if_t hc hE
        exact hk σ17 v18 _ _ _ hs (lv_sub hl [0, 1, 2, 3, 4, 5] rfl) hE
      · have hE := if_f hc hE
        refine lv_aload_n hx hb dX6_takeColour_89 rfl (lv_at hl 0 rfl) ?_
        refine gf_X6_9_26 C hK hs dX6_takeColour_90 ?_
        refine lv_iload hx hb dX6_takeColour_93 (lv_at hl 4 rfl) ?_
        refine lv_bipush (v := 7) hx hb dX6_takeColour_95 (by decide) ?_
        refine lv_imul hx hb dX6_takeColour_97 ?_
        refine lv_iload hx hb dX6_takeColour_98 (lv_at hl 5 rfl) ?_
        refine lv_iadd hx hb dX6_takeColour_100 ?_
        refine lv_aload_n hx hb dX6_takeColour_101 rfl (lv_at hl 2 rfl) ?_
        refine lv_aload_n hx hb dX6_takeColour_102 rfl (lv_at hl 1 rfl) ?_
        refine gf_X6_52_17 C hK hs dX6_takeColour_103 ?_
        refine lv_iload_n hx hb dX6_takeColour_106 rfl (lv_at hl 3 rfl) ?_
        obtain ⟨hi, x20, ex20, hE⟩ := rd_w hE
        refine y_ald layC C hK hs hi ex20 dX6_takeColour_107 ?_
        refine lv_iload hx hb dX6_takeColour_108 (lv_at hl 5 rfl) ?_
        refine lv_iadd hx hb dX6_takeColour_110 ?_
        obtain ⟨hi, x21, ex21, hE⟩ := rd_w hE
        refine y_ald layC C hK hs hi ex21 dX6_takeColour_111 ?_
        refine lv_bipush (v := 97) hx hb dX6_takeColour_112 (by decide) ?_
        refine lv_isub hx hb dX6_takeColour_114 ?_
        obtain ⟨hi, σ22, eσ22, hE⟩ := wr_w hE
        refine y_ast layC C hK hs hi eσ22 dX6_takeColour_115 (fun H locs hs => ?_)
        refine lv_iinc (v := v18 + 1) (lv' := [(5, .int (v18 + 1)), (0, .ref (g.2.1 26)), (1, .ref (g.2.1 17)), (2, .ref (g.2.1 p2)), (3, .int p3), (4, .int v9)]) hx hb dX6_takeColour_116 hl (k := 5) rfl rfl (by decide) rfl (fun ls hl => ?_)
        refine lv_goto (tgt := 77) hx hb dX6_takeColour_119 (by decide) ?_
        exact ih _ _ _ hE hk _ _ _ hs (lv_sub hl [1, 2, 3, 4, 5, 0] rfl)
  refine hL77 _ _ _ _ hE (fun σ23 v24 H locs ls hs hl hE => ?_) H locs ls hs (lv_sub hl [1, 2, 3, 4, 5, 0] rfl)
  exact hQ hs hE dX6_takeColour_122
theorem dX6_take_0 : decode cX6_take 0 = .ok (.aload_n 0, 1) := by decide +kernel
theorem dX6_take_1 : decode cX6_take 1 = .ok (.aload_n 1, 1) := by decide +kernel
theorem dX6_take_2 : decode cX6_take 2 = .ok (.getfield 28, 3) := by decide +kernel
theorem dX6_take_5 : decode cX6_take 5 = .ok (.putfield 34, 3) := by decide +kernel
theorem dX6_take_8 : decode cX6_take 8 = .ok (.aload_n 0, 1) := by decide +kernel
theorem dX6_take_9 : decode cX6_take 9 = .ok (.aload_n 1, 1) := by decide +kernel
theorem dX6_take_10 : decode cX6_take 10 = .ok (.getfield 35, 3) := by decide +kernel
theorem dX6_take_13 : decode cX6_take 13 = .ok (.putfield 38, 3) := by decide +kernel
theorem dX6_take_16 : decode cX6_take 16 = .ok (.iconst 0, 1) := by decide +kernel
theorem dX6_take_17 : decode cX6_take 17 = .ok (.istore_n 3, 1) := by decide +kernel
theorem dX6_take_18 : decode cX6_take 18 = .ok (.iload_n 3, 1) := by decide +kernel
theorem dX6_take_19 : decode cX6_take 19 = .ok (.aload_n 0, 1) := by decide +kernel
theorem dX6_take_20 : decode cX6_take 20 = .ok (.getfield 34, 3) := by decide +kernel
theorem dX6_take_23 : decode cX6_take 23 = .ok (.if_icmp .ge 16, 3) := by decide +kernel
theorem dX6_take_26 : decode cX6_take 26 = .ok (.aload_n 0, 1) := by decide +kernel
theorem dX6_take_27 : decode cX6_take 27 = .ok (.aload_n 1, 1) := by decide +kernel
theorem dX6_take_28 : decode cX6_take 28 = .ok (.aload_n 2, 1) := by decide +kernel
theorem dX6_take_29 : decode cX6_take 29 = .ok (.iload_n 3, 1) := by decide +kernel
theorem dX6_take_30 : decode cX6_take 30 = .ok (.invokevirtual 39, 3) := by decide +kernel
theorem dX6_take_33 : decode cX6_take 33 = .ok (.iinc 3 1, 3) := by decide +kernel
theorem dX6_take_36 : decode cX6_take 36 = .ok (.goto (-18), 3) := by decide +kernel
theorem dX6_take_39 : decode cX6_take 39 = .ok (.iconst 0, 1) := by decide +kernel
theorem dX6_take_40 : decode cX6_take 40 = .ok (.istore_n 3, 1) := by decide +kernel
theorem dX6_take_41 : decode cX6_take 41 = .ok (.iload_n 3, 1) := by decide +kernel
theorem dX6_take_42 : decode cX6_take 42 = .ok (.aload_n 0, 1) := by decide +kernel
theorem dX6_take_43 : decode cX6_take 43 = .ok (.getfield 38, 3) := by decide +kernel
theorem dX6_take_46 : decode cX6_take 46 = .ok (.if_icmp .ge 33, 3) := by decide +kernel
theorem dX6_take_49 : decode cX6_take 49 = .ok (.aload_n 0, 1) := by decide +kernel
theorem dX6_take_50 : decode cX6_take 50 = .ok (.getfield 22, 3) := by decide +kernel
theorem dX6_take_53 : decode cX6_take 53 = .ok (.iload_n 3, 1) := by decide +kernel
theorem dX6_take_54 : decode cX6_take 54 = .ok (.aload_n 1, 1) := by decide +kernel
theorem dX6_take_55 : decode cX6_take 55 = .ok (.getfield 43, 3) := by decide +kernel
theorem dX6_take_58 : decode cX6_take 58 = .ok (.iload_n 3, 1) := by decide +kernel
theorem dX6_take_59 : decode cX6_take 59 = .ok (.iaload, 1) := by decide +kernel
theorem dX6_take_60 : decode cX6_take 60 = .ok (.iastore, 1) := by decide +kernel
theorem dX6_take_61 : decode cX6_take 61 = .ok (.aload_n 0, 1) := by decide +kernel
theorem dX6_take_62 : decode cX6_take 62 = .ok (.getfield 25, 3) := by decide +kernel
theorem dX6_take_65 : decode cX6_take 65 = .ok (.iload_n 3, 1) := by decide +kernel
theorem dX6_take_66 : decode cX6_take 66 = .ok (.aload_n 1, 1) := by decide +kernel
theorem dX6_take_67 : decode cX6_take 67 = .ok (.getfield 44, 3) := by decide +kernel
theorem dX6_take_70 : decode cX6_take 70 = .ok (.iload_n 3, 1) := by decide +kernel
theorem dX6_take_71 : decode cX6_take 71 = .ok (.iaload, 1) := by decide +kernel
theorem dX6_take_72 : decode cX6_take 72 = .ok (.iastore, 1) := by decide +kernel
theorem dX6_take_73 : decode cX6_take 73 = .ok (.iinc 3 1, 3) := by decide +kernel
theorem dX6_take_76 : decode cX6_take 76 = .ok (.goto (-35), 3) := by decide +kernel
theorem dX6_take_79 : decode cX6_take 79 = .ok (.return_, 1) := by decide +kernel
def fX6_take_L18 (p2 : Nat) : Nat → St → Int32 → (St → Int32 → Option (St × Unit)) → Option (St × Unit)
  | 0, _, _, _ => none
  | n + 1, σ3, v4, k => (if (σ3.1 26 6) ≤ v4 then k σ3 v4 else cl (fX6_takeColour σ3 p2 v4) (fun σ5 r6 => fX6_take_L18 p2 n σ5 (v4 + 1) k))
def fX6_take_L41 : Nat → St → Int32 → (St → Int32 → Option (St × Unit)) → Option (St × Unit)
  | 0, _, _, _ => none
  | n + 1, σ9, v10, k => (if (σ9.1 26 7) ≤ v10 then k σ9 v10 else rd LC σ9 22 v10 (fun x11 => wr LC σ9 31 v10 x11 (fun σ12 => rd LC σ12 23 v10 (fun x13 => wr LC σ12 32 v10 x13 (fun σ14 => fX6_take_L41 n σ14 (v10 + 1) k)))))
def fX6_take (σ : St) (p2 : Nat) : Option (St × Unit) := pt (su σ 26 6 (σ.1 17 6)) (fun σ1 => pt (su σ1 26 7 (σ1.1 17 7)) (fun σ2 => fX6_take_L18 p2 10000 σ2 0 (fun σ7 v8 => fX6_take_L41 10000 σ7 0 (fun σ15 v16 => some (σ15, ())))))
set_option maxHeartbeats 4000000 in
set_option maxRecDepth 100000 in
theorem ctX6_take (l : Launch) (g : GG) (σ : St) (p2 : Nat) (σ' : St) (r : Unit) (hE : fX6_take σ p2 = some (σ', r)) : MV 52 entC l g yX6_take (Cond.code yX6_take cX6_take 4 none :: gtbl) (rmD 4) [.ref (g.2.1 26), .ref (g.2.1 17), .ref (g.2.1 p2)] σ σ' := by
  refine mi_v (own := RX6) (lv := [(0, .ref (g.2.1 26)), (1, .ref (g.2.1 17)), (2, .ref (g.2.1 p2))]) (by decide) rfl (Nat.le_of_ble_eq_true rfl) rfl (fun p e s m below meth c ls args Q A H0 H locs C hK hA hQ hs hl => ?_)
  have hx := C.1
  have hb := C.2.1
  unfold fX6_take at hE
  refine lv_aload_n hx hb dX6_take_0 rfl (lv_at hl 0 rfl) ?_
  refine lv_aload_n hx hb dX6_take_1 rfl (lv_at hl 1 rfl) ?_
  refine gf_X6_28_17 C hK hs dX6_take_2 ?_
  obtain ⟨σ1, eσ1, hE⟩ := pt_w hE
  refine pf_X6_34_26 C hK hs eσ1 dX6_take_5 (fun H locs hs => ?_)
  refine lv_aload_n hx hb dX6_take_8 rfl (lv_at hl 0 rfl) ?_
  refine lv_aload_n hx hb dX6_take_9 rfl (lv_at hl 1 rfl) ?_
  refine gf_X6_35_17 C hK hs dX6_take_10 ?_
  obtain ⟨σ2, eσ2, hE⟩ := pt_w hE
  refine pf_X6_38_26 C hK hs eσ2 dX6_take_13 (fun H locs hs => ?_)
  refine lv_iconst (v := 0) hx hb dX6_take_16 (by decide) ?_
  refine lv_istore_n (lv' := [(3, .int 0), (0, .ref (g.2.1 26)), (1, .ref (g.2.1 17)), (2, .ref (g.2.1 p2))]) hx hb dX6_take_17 rfl hl (by decide) rfl (fun ls hl => ?_)
  have hL18 : ∀ (n : Nat) (σ3 : St) (v4 : Int32) (k : St → Int32 → Option (St × Unit)), fX6_take_L18 p2 n σ3 v4 k = some (σ', r) → (∀ (σ3 : St) (v4 : Int32) (H : Heap) (locs : List Loc) (ls : Array Slot), HW 52 entC g A H0 H locs σ3 → lv_has ls 4 [(0, .ref (g.2.1 26)), (1, .ref (g.2.1 17)), (2, .ref (g.2.1 p2)), (3, .int v4)] → k σ3 v4 = some (σ', r) → W p l e (rmD 4) s m args below meth c H locs 0 0 Q (F0 m 39 ls [])) → ∀ (H : Heap) (locs : List Loc) (ls : Array Slot), HW 52 entC g A H0 H locs σ3 → lv_has ls 4 [(0, .ref (g.2.1 26)), (1, .ref (g.2.1 17)), (2, .ref (g.2.1 p2)), (3, .int v4)] → W p l e (rmD 4) s m args below meth c H locs 0 0 Q (F0 m 18 ls []) := by
    intro n
    induction n with
    | zero =>
      intro σ3 v4 k hE
      rw [fX6_take_L18] at hE
      exact no_e hE
    | succ n ih =>
      intro σ3 v4 k hE hk H locs ls hs hl
      rw [fX6_take_L18] at hE
      refine lv_iload_n hx hb dX6_take_18 rfl (lv_at hl 3 rfl) ?_
      refine lv_aload_n hx hb dX6_take_19 rfl (lv_at hl 0 rfl) ?_
      refine gf_X6_34_26 C hK hs dX6_take_20 ?_
      refine lv_icmp_ge (tgt := 39) hx hb dX6_take_23 (by decide) (fun hc => ?_) (fun hc => ?_)
      · have hE := if_t hc hE
        exact hk σ3 v4 _ _ _ hs (lv_sub hl [0, 1, 2, 3] rfl) hE
      · have hE := if_f hc hE
        refine lv_aload_n hx hb dX6_take_26 rfl (lv_at hl 0 rfl) ?_
        refine lv_aload_n hx hb dX6_take_27 rfl (lv_at hl 1 rfl) ?_
        refine lv_aload_n hx hb dX6_take_28 rfl (lv_at hl 2 rfl) ?_
        refine lv_iload_n hx hb dX6_take_29 rfl (lv_at hl 3 rfl) ?_
        obtain ⟨σ5, r6, hE1, hE⟩ := cl_e hE
        refine x_cvv (As := [.ref (g.2.1 17), .ref (g.2.1 p2), .int v4]) (rest := []) C hl.1 hK hs hA ⟨Nat.le_refl 0, Nat.le_refl 0⟩ (ctX6_takeColour l g _ _ _ _ _ hE1) (cw_X6_39 C ⟨Nat.le_of_ble_eq_true rfl, Nat.le_of_ble_eq_true rfl⟩) (hs.recv hK 26 (by decide) rfl rfl) rfl rfl (Nat.le_of_ble_eq_true rfl) dX6_take_30 (fun H locs hs => ?_)
        refine lv_iinc (v := v4 + 1) (lv' := [(3, .int (v4 + 1)), (0, .ref (g.2.1 26)), (1, .ref (g.2.1 17)), (2, .ref (g.2.1 p2))]) hx hb dX6_take_33 hl (k := 3) rfl rfl (by decide) rfl (fun ls hl => ?_)
        refine lv_goto (tgt := 18) hx hb dX6_take_36 (by decide) ?_
        exact ih _ _ _ hE hk _ _ _ hs (lv_sub hl [1, 2, 3, 0] rfl)
  refine hL18 _ _ _ _ hE (fun σ7 v8 H locs ls hs hl hE => ?_) H locs ls hs (lv_sub hl [1, 2, 3, 0] rfl)
  refine lv_iconst (v := 0) hx hb dX6_take_39 (by decide) ?_
  refine lv_istore_n (lv' := [(3, .int 0), (0, .ref (g.2.1 26)), (1, .ref (g.2.1 17)), (2, .ref (g.2.1 p2))]) hx hb dX6_take_40 rfl hl (by decide) rfl (fun ls hl => ?_)
  have hL41 : ∀ (n : Nat) (σ9 : St) (v10 : Int32) (k : St → Int32 → Option (St × Unit)), fX6_take_L41 n σ9 v10 k = some (σ', r) → (∀ (σ9 : St) (v10 : Int32) (H : Heap) (locs : List Loc) (ls : Array Slot), HW 52 entC g A H0 H locs σ9 → lv_has ls 4 [(0, .ref (g.2.1 26)), (1, .ref (g.2.1 17)), (3, .int v10)] → k σ9 v10 = some (σ', r) → W p l e (rmD 4) s m args below meth c H locs 0 0 Q (F0 m 79 ls [])) → ∀ (H : Heap) (locs : List Loc) (ls : Array Slot), HW 52 entC g A H0 H locs σ9 → lv_has ls 4 [(0, .ref (g.2.1 26)), (1, .ref (g.2.1 17)), (3, .int v10)] → W p l e (rmD 4) s m args below meth c H locs 0 0 Q (F0 m 41 ls []) := by
    intro n
    induction n with
    | zero =>
      intro σ9 v10 k hE
      rw [fX6_take_L41] at hE
      exact no_e hE
    | succ n ih =>
      intro σ9 v10 k hE hk H locs ls hs hl
      rw [fX6_take_L41] at hE
      refine lv_iload_n hx hb dX6_take_41 rfl (lv_at hl 2 rfl) ?_
      refine lv_aload_n hx hb dX6_take_42 rfl (lv_at hl 0 rfl) ?_
      refine gf_X6_38_26 C hK hs dX6_take_43 ?_
      refine lv_icmp_ge (tgt := 79) hx hb dX6_take_46 (by decide) (fun hc => ?_) (fun hc => ?_)
      · have hE := if_t hc hE
        exact hk σ9 v10 _ _ _ hs (lv_sub hl [0, 1, 2] rfl) hE
      · have hE := if_f hc hE
        refine lv_aload_n hx hb dX6_take_49 rfl (lv_at hl 0 rfl) ?_
        refine gf_X6_22_26 C hK hs dX6_take_50 ?_
        refine lv_iload_n hx hb dX6_take_53 rfl (lv_at hl 2 rfl) ?_
        refine lv_aload_n hx hb dX6_take_54 rfl (lv_at hl 1 rfl) ?_
        refine gf_X6_43_17 C hK hs dX6_take_55 ?_
        refine lv_iload_n hx hb dX6_take_58 rfl (lv_at hl 2 rfl) ?_
        obtain ⟨hi, x11, ex11, hE⟩ := rd_w hE
        refine y_ald layC C hK hs hi ex11 dX6_take_59 ?_
        obtain ⟨hi, σ12, eσ12, hE⟩ := wr_w hE
        refine y_ast layC C hK hs hi eσ12 dX6_take_60 (fun H locs hs => ?_)
        refine lv_aload_n hx hb dX6_take_61 rfl (lv_at hl 0 rfl) ?_
        refine gf_X6_25_26 C hK hs dX6_take_62 ?_
        refine lv_iload_n hx hb dX6_take_65 rfl (lv_at hl 2 rfl) ?_
        refine lv_aload_n hx hb dX6_take_66 rfl (lv_at hl 1 rfl) ?_
        refine gf_X6_44_17 C hK hs dX6_take_67 ?_
        refine lv_iload_n hx hb dX6_take_70 rfl (lv_at hl 2 rfl) ?_
        obtain ⟨hi, x13, ex13, hE⟩ := rd_w hE
        refine y_ald layC C hK hs hi ex13 dX6_take_71 ?_
        obtain ⟨hi, σ14, eσ14, hE⟩ := wr_w hE
        refine y_ast layC C hK hs hi eσ14 dX6_take_72 (fun H locs hs => ?_)
        refine lv_iinc (v := v10 + 1) (lv' := [(3, .int (v10 + 1)), (0, .ref (g.2.1 26)), (1, .ref (g.2.1 17))]) hx hb dX6_take_73 hl (k := 2) rfl rfl (by decide) rfl (fun ls hl => ?_)
        refine lv_goto (tgt := 41) hx hb dX6_take_76 (by decide) ?_
        exact ih _ _ _ hE hk _ _ _ hs (lv_sub hl [1, 2, 0] rfl)
  refine hL41 _ _ _ _ hE (fun σ15 v16 H locs ls hs hl hE => ?_) H locs ls hs (lv_sub hl [1, 2, 0] rfl)
  exact hQ hs hE dX6_take_79
