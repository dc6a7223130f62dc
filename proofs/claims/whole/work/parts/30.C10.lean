theorem dX10_shop_0 : decode cX10_shop 0 = .ok (.aload_n 0, 1) := by decide +kernel
theorem dX10_shop_1 : decode cX10_shop 1 = .ok (.getfield 46, 3) := by decide +kernel
theorem dX10_shop_4 : decode cX10_shop 4 = .ok (.iload_n 1, 1) := by decide +kernel
theorem dX10_shop_5 : decode cX10_shop 5 = .ok (.invokevirtual 153, 3) := by decide +kernel
theorem dX10_shop_8 : decode cX10_shop 8 = .ok (.ifCond .eq 12, 3) := by decide +kernel
theorem dX10_shop_11 : decode cX10_shop 11 = .ok (.iload_n 2, 1) := by decide +kernel
theorem dX10_shop_12 : decode cX10_shop 12 = .ok (.ifCond .lt 8, 3) := by decide +kernel
theorem dX10_shop_15 : decode cX10_shop 15 = .ok (.iload_n 2, 1) := by decide +kernel
theorem dX10_shop_16 : decode cX10_shop 16 = .ok (.iconst 4, 1) := by decide +kernel
theorem dX10_shop_17 : decode cX10_shop 17 = .ok (.if_icmp .lt 5, 3) := by decide +kernel
theorem dX10_shop_20 : decode cX10_shop 20 = .ok (.iconst (-1), 1) := by decide +kernel
theorem dX10_shop_21 : decode cX10_shop 21 = .ok (.ireturn, 1) := by decide +kernel
theorem dX10_shop_22 : decode cX10_shop 22 = .ok (.aload_n 0, 1) := by decide +kernel
theorem dX10_shop_23 : decode cX10_shop 23 = .ok (.getfield 50, 3) := by decide +kernel
theorem dX10_shop_26 : decode cX10_shop 26 = .ok (.aload_n 0, 1) := by decide +kernel
theorem dX10_shop_27 : decode cX10_shop 27 = .ok (.getfield 39, 3) := by decide +kernel
theorem dX10_shop_30 : decode cX10_shop 30 = .ok (.iload_n 1, 1) := by decide +kernel
theorem dX10_shop_31 : decode cX10_shop 31 = .ok (.iload_n 2, 1) := by decide +kernel
theorem dX10_shop_32 : decode cX10_shop 32 = .ok (.aload_n 0, 1) := by decide +kernel
theorem dX10_shop_33 : decode cX10_shop 33 = .ok (.getfield 39, 3) := by decide +kernel
theorem dX10_shop_36 : decode cX10_shop 36 = .ok (.getfield 187, 3) := by decide +kernel
theorem dX10_shop_39 : decode cX10_shop 39 = .ok (.iload_n 1, 1) := by decide +kernel
theorem dX10_shop_40 : decode cX10_shop 40 = .ok (.iaload, 1) := by decide +kernel
theorem dX10_shop_41 : decode cX10_shop 41 = .ok (.invokevirtual 260, 3) := by decide +kernel
theorem dX10_shop_44 : decode cX10_shop 44 = .ok (.istore_n 3, 1) := by decide +kernel
theorem dX10_shop_45 : decode cX10_shop 45 = .ok (.aload_n 0, 1) := by decide +kernel
theorem dX10_shop_46 : decode cX10_shop 46 = .ok (.aload_n 0, 1) := by decide +kernel
theorem dX10_shop_47 : decode cX10_shop 47 = .ok (.getfield 39, 3) := by decide +kernel
theorem dX10_shop_50 : decode cX10_shop 50 = .ok (.getfield 187, 3) := by decide +kernel
theorem dX10_shop_53 : decode cX10_shop 53 = .ok (.iload_n 1, 1) := by decide +kernel
theorem dX10_shop_54 : decode cX10_shop 54 = .ok (.iaload, 1) := by decide +kernel
theorem dX10_shop_55 : decode cX10_shop 55 = .ok (.aload_n 0, 1) := by decide +kernel
theorem dX10_shop_56 : decode cX10_shop 56 = .ok (.getfield 39, 3) := by decide +kernel
theorem dX10_shop_59 : decode cX10_shop 59 = .ok (.iload_n 1, 1) := by decide +kernel
theorem dX10_shop_60 : decode cX10_shop 60 = .ok (.iload_n 3, 1) := by decide +kernel
theorem dX10_shop_61 : decode cX10_shop 61 = .ok (.invokestatic 263, 3) := by decide +kernel
theorem dX10_shop_64 : decode cX10_shop 64 = .ok (.isub, 1) := by decide +kernel
theorem dX10_shop_65 : decode cX10_shop 65 = .ok (.putfield 95, 3) := by decide +kernel
theorem dX10_shop_68 : decode cX10_shop 68 = .ok (.iload_n 3, 1) := by decide +kernel
theorem dX10_shop_69 : decode cX10_shop 69 = .ok (.ireturn, 1) := by decide +kernel
def fX10_shop (σ : St) (p1 : Int32) (p2 : Int32) : Option (St × Int32) := cl (fX6_isHouse σ p1) (fun σ1 r2 => (if r2 = 0 then some (σ1, (-1)) else (if p2 < 0 then some (σ1, (-1)) else (if p2 < 4 then rd LC σ1 33 p1 (fun x3 => cl (fX4_basket σ1 p1 p2 x3) (fun σ4 r5 => rd LC σ4 33 p1 (fun x6 => cl (fX4_costOf σ4 p1 r5) (fun σ7 r8 => pt (su σ7 0 11 (x6 - r8)) (fun σ9 => some (σ9, r5)))))) else some (σ1, (-1))))))
set_option maxHeartbeats 4000000 in
set_option maxRecDepth 100000 in
theorem ctX10_shop (l : Launch) (g : GG) (σ : St) (p1 : Int32) (p2 : Int32) (σ' : St) (r : Int32) (hE : fX10_shop σ p1 p2 = some (σ', r)) : MI 52 entC l g yX10_shop (Cond.code yX10_shop cX10_shop 4 (some .int) :: gtbl) (rmD 5) [.ref (g.2.1 0), .int p1, .int p2] σ σ' r := by
  refine mi_i (own := RX10) (lv := [(0, .ref (g.2.1 0)), (1, .int p1), (2, .int p2)]) (by decide) rfl (Nat.le_of_ble_eq_true rfl) rfl (fun p e s m below meth c ls args Q A H0 H locs C hK hA hQ hs hl => ?_)
  have hx := C.1
  have hb := C.2.1
  unfold fX10_shop at hE
  refine lv_aload_n hx hb dX10_shop_0 rfl (lv_at hl 0 rfl) ?_
  refine gf_X10_46_0 C hK hs dX10_shop_1 ?_
  refine lv_iload_n hx hb dX10_shop_4 rfl (lv_at hl 1 rfl) ?_
  obtain ⟨σ1, r2, hE1, hE⟩ := cl_e hE
  refine x_civ (As := [.int p1]) (rest := []) C hl.1 hK hs hA ⟨Nat.le_refl 0, Nat.le_refl 0⟩ (ctX6_isHouse l g _ _ _ _ hE1) (cw_X10_153 C ⟨Nat.le_of_ble_eq_true rfl, Nat.le_of_ble_eq_true rfl⟩) (hs.recv hK 26 (by decide) rfl rfl) rfl rfl (Nat.le_of_ble_eq_true rfl) dX10_shop_5 (fun H locs hs => ?_)
  refine lv_if_eq (tgt := 20) hx hb dX10_shop_8 (by decide) (fun hc => ?_) (fun hc => ?_)
  · have hE := if_t hc hE
    refine lv_iconst (v := (-1)) hx hb dX10_shop_20 (by decide) ?_
    exact hQ hs hE dX10_shop_21
  · have hE := if_f hc hE
    refine lv_iload_n hx hb dX10_shop_11 rfl (lv_at hl 2 rfl) ?_
    refine lv_if_lt (tgt := 20) hx hb dX10_shop_12 (by decide) (fun hc => ?_) (fun hc => ?_)
    · have hE := if_t hc hE
      refine lv_iconst (v := (-1)) hx hb dX10_shop_20 (by decide) ?_
      exact hQ hs hE dX10_shop_21
    · have hE := if_f hc hE
      refine lv_iload_n hx hb dX10_shop_15 rfl (lv_at hl 2 rfl) ?_
      refine lv_iconst (v := 4) hx hb dX10_shop_16 (by decide) ?_
      refine lv_icmp_lt (tgt := 22) hx hb dX10_shop_17 (by decide) (fun hc => ?_) (fun hc => ?_)
      · have hE := if_t hc hE
        refine lv_aload_n hx hb dX10_shop_22 rfl (lv_at hl 0 rfl) ?_
        refine gf_X10_50_0 C hK hs dX10_shop_23 ?_
        refine lv_aload_n hx hb dX10_shop_26 rfl (lv_at hl 0 rfl) ?_
        refine gf_X10_39_0 C hK hs dX10_shop_27 ?_
        refine lv_iload_n hx hb dX10_shop_30 rfl (lv_at hl 1 rfl) ?_
        refine lv_iload_n hx hb dX10_shop_31 rfl (lv_at hl 2 rfl) ?_
        refine lv_aload_n hx hb dX10_shop_32 rfl (lv_at hl 0 rfl) ?_
        refine gf_X10_39_0 C hK hs dX10_shop_33 ?_
        refine gf_X10_187_25 C hK hs dX10_shop_36 ?_
        refine lv_iload_n hx hb dX10_shop_39 rfl (lv_at hl 1 rfl) ?_
        obtain ⟨hi, x3, ex3, hE⟩ := rd_w hE
        refine y_ald layC C hK hs hi ex3 dX10_shop_40 ?_
        obtain ⟨σ4, r5, hE1, hE⟩ := cl_e hE
        refine x_civ (As := [.ref (g.2.1 25), .int p1, .int p2, .int x3]) (rest := []) C hl.1 hK hs hA ⟨Nat.le_refl 0, Nat.le_refl 0⟩ (ctX4_basket l g _ _ _ _ _ _ hE1) (cw_X10_260 C ⟨Nat.le_of_ble_eq_true rfl, Nat.le_of_ble_eq_true rfl⟩) (hs.recv hK 41 (by decide) rfl rfl) rfl rfl (Nat.le_of_ble_eq_true rfl) dX10_shop_41 (fun H locs hs => ?_)
        refine lv_istore_n (lv' := [(3, .int r5), (0, .ref (g.2.1 0)), (1, .int p1), (2, .int p2)]) hx hb dX10_shop_44 rfl hl (by decide) rfl (fun ls hl => ?_)
        refine lv_aload_n hx hb dX10_shop_45 rfl (lv_at hl 1 rfl) ?_
        refine lv_aload_n hx hb dX10_shop_46 rfl (lv_at hl 1 rfl) ?_
        refine gf_X10_39_0 C hK hs dX10_shop_47 ?_
        refine gf_X10_187_25 C hK hs dX10_shop_50 ?_
        refine lv_iload_n hx hb dX10_shop_53 rfl (lv_at hl 2 rfl) ?_
        obtain ⟨hi, x6, ex6, hE⟩ := rd_w hE
        refine y_ald layC C hK hs hi ex6 dX10_shop_54 ?_
        refine lv_aload_n hx hb dX10_shop_55 rfl (lv_at hl 1 rfl) ?_
        refine gf_X10_39_0 C hK hs dX10_shop_56 ?_
        refine lv_iload_n hx hb dX10_shop_59 rfl (lv_at hl 2 rfl) ?_
        refine lv_iload_n hx hb dX10_shop_60 rfl (lv_at hl 0 rfl) ?_
        obtain ⟨σ7, r8, hE1, hE⟩ := cl_e hE
        refine x_cis (As := [.ref (g.2.1 25), .int p1, .int r5]) (rest := [.int x6, .ref (g.2.1 0)]) C hl.1 hK hs hA ⟨Nat.le_refl 0, Nat.le_refl 0⟩ (ctX4_costOf l g _ _ _ _ _ hE1) (cw_X10_263 C ⟨Nat.le_of_ble_eq_true rfl, Nat.le_of_ble_eq_true rfl⟩) rfl rfl (Nat.le_of_ble_eq_true rfl) dX10_shop_61 (fun H locs hs => ?_)
        refine lv_isub hx hb dX10_shop_64 ?_
        obtain ⟨σ9, eσ9, hE⟩ := pt_w hE
        refine pf_X10_95_0 C hK hs eσ9 dX10_shop_65 (fun H locs hs => ?_)
        refine lv_iload_n hx hb dX10_shop_68 rfl (lv_at hl 0 rfl) ?_
        exact hQ hs hE dX10_shop_69
      · have hE := if_f hc hE
        refine lv_iconst (v := (-1)) hx hb dX10_shop_20 (by decide) ?_
        exact hQ hs hE dX10_shop_21
theorem dX10_best_0 : decode cX10_best 0 = .ok (.aload_n 0, 1) := by decide +kernel
theorem dX10_best_1 : decode cX10_best 1 = .ok (.getfield 46, 3) := by decide +kernel
theorem dX10_best_4 : decode cX10_best 4 = .ok (.iload_n 1, 1) := by decide +kernel
theorem dX10_best_5 : decode cX10_best 5 = .ok (.invokevirtual 153, 3) := by decide +kernel
theorem dX10_best_8 : decode cX10_best 8 = .ok (.ifCond .ne 5, 3) := by decide +kernel
theorem dX10_best_11 : decode cX10_best 11 = .ok (.iconst (-1), 1) := by decide +kernel
theorem dX10_best_12 : decode cX10_best 12 = .ok (.ireturn, 1) := by decide +kernel
theorem dX10_best_13 : decode cX10_best 13 = .ok (.iconst 0, 1) := by decide +kernel
theorem dX10_best_14 : decode cX10_best 14 = .ok (.istore_n 2, 1) := by decide +kernel
theorem dX10_best_15 : decode cX10_best 15 = .ok (.iconst (-1), 1) := by decide +kernel
theorem dX10_best_16 : decode cX10_best 16 = .ok (.istore_n 3, 1) := by decide +kernel
theorem dX10_best_17 : decode cX10_best 17 = .ok (.iconst 0, 1) := by decide +kernel
theorem dX10_best_18 : decode cX10_best 18 = .ok (.istore 4, 2) := by decide +kernel
theorem dX10_best_20 : decode cX10_best 20 = .ok (.iload 4, 2) := by decide +kernel
theorem dX10_best_22 : decode cX10_best 22 = .ok (.iconst 4, 1) := by decide +kernel
theorem dX10_best_23 : decode cX10_best 23 = .ok (.if_icmp .ge 49, 3) := by decide +kernel
theorem dX10_best_26 : decode cX10_best 26 = .ok (.aload_n 0, 1) := by decide +kernel
theorem dX10_best_27 : decode cX10_best 27 = .ok (.getfield 50, 3) := by decide +kernel
theorem dX10_best_30 : decode cX10_best 30 = .ok (.aload_n 0, 1) := by decide +kernel
theorem dX10_best_31 : decode cX10_best 31 = .ok (.getfield 39, 3) := by decide +kernel
theorem dX10_best_34 : decode cX10_best 34 = .ok (.iload_n 1, 1) := by decide +kernel
theorem dX10_best_35 : decode cX10_best 35 = .ok (.iload 4, 2) := by decide +kernel
theorem dX10_best_37 : decode cX10_best 37 = .ok (.aload_n 0, 1) := by decide +kernel
theorem dX10_best_38 : decode cX10_best 38 = .ok (.getfield 39, 3) := by decide +kernel
theorem dX10_best_41 : decode cX10_best 41 = .ok (.getfield 187, 3) := by decide +kernel
theorem dX10_best_44 : decode cX10_best 44 = .ok (.iload_n 1, 1) := by decide +kernel
theorem dX10_best_45 : decode cX10_best 45 = .ok (.iaload, 1) := by decide +kernel
theorem dX10_best_46 : decode cX10_best 46 = .ok (.invokevirtual 260, 3) := by decide +kernel
theorem dX10_best_49 : decode cX10_best 49 = .ok (.invokestatic 265, 3) := by decide +kernel
theorem dX10_best_52 : decode cX10_best 52 = .ok (.istore 5, 2) := by decide +kernel
theorem dX10_best_54 : decode cX10_best 54 = .ok (.iload 5, 2) := by decide +kernel
theorem dX10_best_56 : decode cX10_best 56 = .ok (.iload_n 3, 1) := by decide +kernel
theorem dX10_best_57 : decode cX10_best 57 = .ok (.if_icmp .le 9, 3) := by decide +kernel
theorem dX10_best_60 : decode cX10_best 60 = .ok (.iload 5, 2) := by decide +kernel
theorem dX10_best_62 : decode cX10_best 62 = .ok (.istore_n 3, 1) := by decide +kernel
theorem dX10_best_63 : decode cX10_best 63 = .ok (.iload 4, 2) := by decide +kernel
theorem dX10_best_65 : decode cX10_best 65 = .ok (.istore_n 2, 1) := by decide +kernel
theorem dX10_best_66 : decode cX10_best 66 = .ok (.iinc 4 1, 3) := by decide +kernel
theorem dX10_best_69 : decode cX10_best 69 = .ok (.goto (-49), 3) := by decide +kernel
theorem dX10_best_72 : decode cX10_best 72 = .ok (.aload_n 0, 1) := by decide +kernel
theorem dX10_best_73 : decode cX10_best 73 = .ok (.iload_n 3, 1) := by decide +kernel
theorem dX10_best_74 : decode cX10_best 74 = .ok (.putfield 95, 3) := by decide +kernel
theorem dX10_best_77 : decode cX10_best 77 = .ok (.iload_n 2, 1) := by decide +kernel
theorem dX10_best_78 : decode cX10_best 78 = .ok (.ireturn, 1) := by decide +kernel
def fX10_best_L20 (p1 : Int32) : Nat → St → Int32 → Int32 → Int32 → (St → Int32 → Int32 → Int32 → Option (St × Int32)) → Option (St × Int32)
  | 0, _, _, _, _, _ => none
  | n + 1, σ3, v4, v5, v6, k => (if 4 ≤ v6 then k σ3 v4 v5 v6 else rd LC σ3 33 p1 (fun x7 => cl (fX4_basket σ3 p1 v6 x7) (fun σ8 r9 => cl (fJ6_bitCount_0f7a4 σ8 r9) (fun σ10 r11 => jn (fun (z13 : Int32) (z14 : Int32) => fX10_best_L20 p1 n σ10 z13 z14 (v6 + 1) k) (fun k12 => (if r11 ≤ v5 then k12 v4 v5 else k12 v6 r11))))))
def fX10_best (σ : St) (p1 : Int32) : Option (St × Int32) := cl (fX6_isHouse σ p1) (fun σ1 r2 => (if r2 = 0 then some (σ1, (-1)) else fX10_best_L20 p1 10000 σ1 0 (-1) 0 (fun σ15 v16 v17 v18 => pt (su σ15 0 11 v17) (fun σ19 => some (σ19, v16)))))
set_option maxHeartbeats 4000000 in
set_option maxRecDepth 100000 in
theorem ctX10_best (l : Launch) (g : GG) (σ : St) (p1 : Int32) (σ' : St) (r : Int32) (hE : fX10_best σ p1 = some (σ', r)) : MI 52 entC l g yX10_best (Cond.code yX10_best cX10_best 6 (some .int) :: gtbl) (rmD 5) [.ref (g.2.1 0), .int p1] σ σ' r := by
  refine mi_i (own := RX10) (lv := [(0, .ref (g.2.1 0)), (1, .int p1)]) (by decide) rfl (Nat.le_of_ble_eq_true rfl) rfl (fun p e s m below meth c ls args Q A H0 H locs C hK hA hQ hs hl => ?_)
  have hx := C.1
  have hb := C.2.1
  unfold fX10_best at hE
  refine lv_aload_n hx hb dX10_best_0 rfl (lv_at hl 0 rfl) ?_
  refine gf_X10_46_0 C hK hs dX10_best_1 ?_
  refine lv_iload_n hx hb dX10_best_4 rfl (lv_at hl 1 rfl) ?_
  obtain ⟨σ1, r2, hE1, hE⟩ := cl_e hE
  refine x_civ (As := [.int p1]) (rest := []) C hl.1 hK hs hA ⟨Nat.le_refl 0, Nat.le_refl 0⟩ (ctX6_isHouse l g _ _ _ _ hE1) (cw_X10_153 C ⟨Nat.le_of_ble_eq_true rfl, Nat.le_of_ble_eq_true rfl⟩) (hs.recv hK 26 (by decide) rfl rfl) rfl rfl (Nat.le_of_ble_eq_true rfl) dX10_best_5 (fun H locs hs => ?_)
  refine lv_if_ne (tgt := 13) hx hb dX10_best_8 (by decide) (fun hc => ?_) (fun hc => ?_)
  · have hE := if_f hc hE
    refine lv_iconst (v := 0) hx hb dX10_best_13 (by decide) ?_
    refine lv_istore_n (lv' := [(2, .int 0), (0, .ref (g.2.1 0)), (1, .int p1)]) hx hb dX10_best_14 rfl hl (by decide) rfl (fun ls hl => ?_)
    refine lv_iconst (v := (-1)) hx hb dX10_best_15 (by decide) ?_
    refine lv_istore_n (lv' := [(3, .int (-1)), (2, .int 0), (0, .ref (g.2.1 0)), (1, .int p1)]) hx hb dX10_best_16 rfl hl (by decide) rfl (fun ls hl => ?_)
    refine lv_iconst (v := 0) hx hb dX10_best_17 (by decide) ?_
    refine lv_istore (lv' := [(4, .int 0), (3, .int (-1)), (2, .int 0), (0, .ref (g.2.1 0)), (1, .int p1)]) hx hb dX10_best_18 hl (by decide) rfl (fun ls hl => ?_)
    have hL20 : ∀ (n : Nat) (σ3 : St) (v4 : Int32) (v5 : Int32) (v6 : Int32) (k : St → Int32 → Int32 → Int32 → Option (St × Int32)), fX10_best_L20 p1 n σ3 v4 v5 v6 k = some (σ', r) → (∀ (σ3 : St) (v4 : Int32) (v5 : Int32) (v6 : Int32) (H : Heap) (locs : List Loc) (ls : Array Slot), HW 52 entC g A H0 H locs σ3 → lv_has ls 6 [(0, .ref (g.2.1 0)), (1, .int p1), (2, .int v4), (3, .int v5), (4, .int v6)] → k σ3 v4 v5 v6 = some (σ', r) → W p l e (rmD 5) s m args below meth c H locs 0 0 Q (F0 m 72 ls [])) → ∀ (H : Heap) (locs : List Loc) (ls : Array Slot), HW 52 entC g A H0 H locs σ3 → lv_has ls 6 [(0, .ref (g.2.1 0)), (1, .int p1), (2, .int v4), (3, .int v5), (4, .int v6)] → W p l e (rmD 5) s m args below meth c H locs 0 0 Q (F0 m 20 ls []) := by
      intro n
      induction n with
      | zero =>
        intro σ3 v4 v5 v6 k hE
        rw [fX10_best_L20] at hE
        exact no_e hE
      | succ n ih =>
        intro σ3 v4 v5 v6 k hE hk H locs ls hs hl
        rw [fX10_best_L20] at hE
        refine lv_iload hx hb dX10_best_20 (lv_at hl 4 rfl) ?_
        refine lv_iconst (v := 4) hx hb dX10_best_22 (by decide) ?_
        refine lv_icmp_ge (tgt := 72) hx hb dX10_best_23 (by decide) (fun hc => ?_) (fun hc => ?_)
        · have hE := if_t hc hE
          exact hk σ3 v4 v5 v6 _ _ _ hs (lv_sub hl [0, 1, 2, 3, 4] rfl) hE
        · have hE := if_f hc hE
          refine lv_aload_n hx hb dX10_best_26 rfl (lv_at hl 0 rfl) ?_
          refine gf_X10_50_0 C hK hs dX10_best_27 ?_
          refine lv_aload_n hx hb dX10_best_30 rfl (lv_at hl 0 rfl) ?_
          refine gf_X10_39_0 C hK hs dX10_best_31 ?_
          refine lv_iload_n hx hb dX10_best_34 rfl (lv_at hl 1 rfl) ?_
          refine lv_iload hx hb dX10_best_35 (lv_at hl 4 rfl) ?_
          refine lv_aload_n hx hb dX10_best_37 rfl (lv_at hl 0 rfl) ?_
          refine gf_X10_39_0 C hK hs dX10_best_38 ?_
          refine gf_X10_187_25 C hK hs dX10_best_41 ?_
          refine lv_iload_n hx hb dX10_best_44 rfl (lv_at hl 1 rfl) ?_
          obtain ⟨hi, x7, ex7, hE⟩ := rd_w hE
          refine y_ald layC C hK hs hi ex7 dX10_best_45 ?_
          obtain ⟨σ8, r9, hE1, hE⟩ := cl_e hE
          refine x_civ (As := [.ref (g.2.1 25), .int p1, .int v6, .int x7]) (rest := []) C hl.1 hK hs hA ⟨Nat.le_refl 0, Nat.le_refl 0⟩ (ctX4_basket l g _ _ _ _ _ _ hE1) (cw_X10_260 C ⟨Nat.le_of_ble_eq_true rfl, Nat.le_of_ble_eq_true rfl⟩) (hs.recv hK 41 (by decide) rfl rfl) rfl rfl (Nat.le_of_ble_eq_true rfl) dX10_best_46 (fun H locs hs => ?_)
          obtain ⟨σ10, r11, hE1, hE⟩ := cl_e hE
          refine x_cis (As := [.int r9]) (rest := []) C hl.1 hK hs hA ⟨Nat.le_refl 0, Nat.le_refl 0⟩ (ctJ6_bitCount_0f7a4 l g _ _ _ _ hE1) (cw_X10_265 C ⟨Nat.le_of_ble_eq_true rfl, Nat.le_of_ble_eq_true rfl⟩) rfl rfl (Nat.le_of_ble_eq_true rfl) dX10_best_49 (fun H locs hs => ?_)
          refine lv_istore (lv' := [(5, .int r11), (0, .ref (g.2.1 0)), (1, .int p1), (2, .int v4), (3, .int v5), (4, .int v6)]) hx hb dX10_best_52 hl (by decide) rfl (fun ls hl => ?_)
          refine lv_iload hx hb dX10_best_54 (lv_at hl 0 rfl) ?_
          refine lv_iload_n hx hb dX10_best_56 rfl (lv_at hl 4 rfl) ?_
          refine jn2 hE (fun k12 hE hk12 => ?_)
          have hJk12 : ∀ (z13 : Int32) (z14 : Int32) (H : Heap) (locs : List Loc) (ls : Array Slot), HW 52 entC g A H0 H locs σ10 → lv_has ls 6 [(0, .ref (g.2.1 0)), (1, .int p1), (2, .int z13), (3, .int z14), (4, .int v6)] → k12 z13 z14 = some (σ', r) → W p l e (rmD 5) s m args below meth c H locs 0 0 Q (F0 m 66 ls []) := by
            intro z13 z14 H locs ls hs hl hE
            have hE := hk12 _ _ hE
            refine lv_iinc (v := v6 + 1) (lv' := [(4, .int (v6 + 1)), (0, .ref (g.2.1 0)), (1, .int p1), (2, .int z13), (3, .int z14)]) hx hb dX10_best_66 hl (k := 4) rfl rfl (by decide) rfl (fun ls hl => ?_)
            refine lv_goto (tgt := 20) hx hb dX10_best_69 (by decide) ?_
            exact ih _ _ _ _ _ hE hk _ _ _ hs (lv_sub hl [1, 2, 3, 4, 0] rfl)
          refine lv_icmp_le (tgt := 66) hx hb dX10_best_57 (by decide) (fun hc => ?_) (fun hc => ?_)
          · have hE := if_t hc hE
            exact hJk12 v4 v5 _ _ _ hs (lv_sub hl [1, 2, 3, 4, 5] rfl) hE
          · have hE := if_f hc hE
            refine lv_iload hx hb dX10_best_60 (lv_at hl 0 rfl) ?_
            refine lv_istore_n (lv' := [(3, .int r11), (5, .int r11), (0, .ref (g.2.1 0)), (1, .int p1), (2, .int v4), (4, .int v6)]) hx hb dX10_best_62 rfl hl (by decide) rfl (fun ls hl => ?_)
            refine lv_iload hx hb dX10_best_63 (lv_at hl 5 rfl) ?_
            refine lv_istore_n (lv' := [(2, .int v6), (3, .int r11), (5, .int r11), (0, .ref (g.2.1 0)), (1, .int p1), (4, .int v6)]) hx hb dX10_best_65 rfl hl (by decide) rfl (fun ls hl => ?_)
            exact hJk12 v6 r11 _ _ _ hs (lv_sub hl [3, 4, 0, 1, 5] rfl) hE
    refine hL20 _ _ _ _ _ _ hE (fun σ15 v16 v17 v18 H locs ls hs hl hE => ?_) H locs ls hs (lv_sub hl [3, 4, 2, 1, 0] rfl)
    refine lv_aload_n hx hb dX10_best_72 rfl (lv_at hl 0 rfl) ?_
    refine lv_iload_n hx hb dX10_best_73 rfl (lv_at hl 3 rfl) ?_
    obtain ⟨σ19, eσ19, hE⟩ := pt_w hE
    refine pf_X10_95_0 C hK hs eσ19 dX10_best_74 (fun H locs hs => ?_)
    refine lv_iload_n hx hb dX10_best_77 rfl (lv_at hl 2 rfl) ?_
    exact hQ hs hE dX10_best_78
  · have hE := if_t hc hE
    refine lv_iconst (v := (-1)) hx hb dX10_best_11 (by decide) ?_
    exact hQ hs hE dX10_best_12
theorem dX10_refuseCells_0 : decode cX10_refuseCells 0 = .ok (.aload_n 0, 1) := by decide +kernel
theorem dX10_refuseCells_1 : decode cX10_refuseCells 1 = .ok (.getfield 14, 3) := by decide +kernel
theorem dX10_refuseCells_4 : decode cX10_refuseCells 4 = .ok (.iload_n 1, 1) := by decide +kernel
theorem dX10_refuseCells_5 : decode cX10_refuseCells 5 = .ok (.invokevirtual 84, 3) := by decide +kernel
theorem dX10_refuseCells_8 : decode cX10_refuseCells 8 = .ok (.ifCond .eq 9, 3) := by decide +kernel
theorem dX10_refuseCells_11 : decode cX10_refuseCells 11 = .ok (.aload_n 0, 1) := by decide +kernel
theorem dX10_refuseCells_12 : decode cX10_refuseCells 12 = .ok (.iconst 1, 1) := by decide +kernel
theorem dX10_refuseCells_13 : decode cX10_refuseCells 13 = .ok (.invokevirtual 76, 3) := by decide +kernel
theorem dX10_refuseCells_16 : decode cX10_refuseCells 16 = .ok (.ireturn, 1) := by decide +kernel
theorem dX10_refuseCells_17 : decode cX10_refuseCells 17 = .ok (.aload_n 0, 1) := by decide +kernel
theorem dX10_refuseCells_18 : decode cX10_refuseCells 18 = .ok (.getfield 14, 3) := by decide +kernel
theorem dX10_refuseCells_21 : decode cX10_refuseCells 21 = .ok (.iload_n 1, 1) := by decide +kernel
theorem dX10_refuseCells_22 : decode cX10_refuseCells 22 = .ok (.invokevirtual 114, 3) := by decide +kernel
theorem dX10_refuseCells_25 : decode cX10_refuseCells 25 = .ok (.istore 4, 2) := by decide +kernel
theorem dX10_refuseCells_27 : decode cX10_refuseCells 27 = .ok (.iload 4, 2) := by decide +kernel
theorem dX10_refuseCells_29 : decode cX10_refuseCells 29 = .ok (.iconst 1, 1) := by decide +kernel
theorem dX10_refuseCells_30 : decode cX10_refuseCells 30 = .ok (.if_icmp .lt 9, 3) := by decide +kernel
theorem dX10_refuseCells_33 : decode cX10_refuseCells 33 = .ok (.iload 4, 2) := by decide +kernel
theorem dX10_refuseCells_35 : decode cX10_refuseCells 35 = .ok (.iload_n 2, 1) := by decide +kernel
theorem dX10_refuseCells_36 : decode cX10_refuseCells 36 = .ok (.if_icmp .le 9, 3) := by decide +kernel
theorem dX10_refuseCells_39 : decode cX10_refuseCells 39 = .ok (.aload_n 0, 1) := by decide +kernel
theorem dX10_refuseCells_40 : decode cX10_refuseCells 40 = .ok (.iconst 5, 1) := by decide +kernel
theorem dX10_refuseCells_41 : decode cX10_refuseCells 41 = .ok (.invokevirtual 76, 3) := by decide +kernel
theorem dX10_refuseCells_44 : decode cX10_refuseCells 44 = .ok (.ireturn, 1) := by decide +kernel
theorem dX10_refuseCells_45 : decode cX10_refuseCells 45 = .ok (.iconst 0, 1) := by decide +kernel
theorem dX10_refuseCells_46 : decode cX10_refuseCells 46 = .ok (.istore 5, 2) := by decide +kernel
theorem dX10_refuseCells_48 : decode cX10_refuseCells 48 = .ok (.iload 5, 2) := by decide +kernel
theorem dX10_refuseCells_50 : decode cX10_refuseCells 50 = .ok (.iload 4, 2) := by decide +kernel
theorem dX10_refuseCells_52 : decode cX10_refuseCells 52 = .ok (.if_icmp .ge 38, 3) := by decide +kernel
theorem dX10_refuseCells_55 : decode cX10_refuseCells 55 = .ok (.aload_n 0, 1) := by decide +kernel
theorem dX10_refuseCells_56 : decode cX10_refuseCells 56 = .ok (.getfield 14, 3) := by decide +kernel
theorem dX10_refuseCells_59 : decode cX10_refuseCells 59 = .ok (.iload_n 1, 1) := by decide +kernel
theorem dX10_refuseCells_60 : decode cX10_refuseCells 60 = .ok (.iload 5, 2) := by decide +kernel
theorem dX10_refuseCells_62 : decode cX10_refuseCells 62 = .ok (.invokevirtual 91, 3) := by decide +kernel
theorem dX10_refuseCells_65 : decode cX10_refuseCells 65 = .ok (.istore 6, 2) := by decide +kernel
theorem dX10_refuseCells_67 : decode cX10_refuseCells 67 = .ok (.iload 6, 2) := by decide +kernel
theorem dX10_refuseCells_69 : decode cX10_refuseCells 69 = .ok (.ifCond .lt 9, 3) := by decide +kernel
theorem dX10_refuseCells_72 : decode cX10_refuseCells 72 = .ok (.iload 6, 2) := by decide +kernel
theorem dX10_refuseCells_74 : decode cX10_refuseCells 74 = .ok (.iload_n 3, 1) := by decide +kernel
theorem dX10_refuseCells_75 : decode cX10_refuseCells 75 = .ok (.if_icmp .le 9, 3) := by decide +kernel
theorem dX10_refuseCells_78 : decode cX10_refuseCells 78 = .ok (.aload_n 0, 1) := by decide +kernel
theorem dX10_refuseCells_79 : decode cX10_refuseCells 79 = .ok (.iconst 3, 1) := by decide +kernel
theorem dX10_refuseCells_80 : decode cX10_refuseCells 80 = .ok (.invokevirtual 76, 3) := by decide +kernel
theorem dX10_refuseCells_83 : decode cX10_refuseCells 83 = .ok (.ireturn, 1) := by decide +kernel
theorem dX10_refuseCells_84 : decode cX10_refuseCells 84 = .ok (.iinc 5 1, 3) := by decide +kernel
theorem dX10_refuseCells_87 : decode cX10_refuseCells 87 = .ok (.goto (-39), 3) := by decide +kernel
theorem dX10_refuseCells_90 : decode cX10_refuseCells 90 = .ok (.iconst 0, 1) := by decide +kernel
theorem dX10_refuseCells_91 : decode cX10_refuseCells 91 = .ok (.ireturn, 1) := by decide +kernel
def fX10_refuseCells_L48 (p1 : Int32) (p3 : Int32) (r4 : Int32) : Nat → St → Int32 → (St → Int32 → Option (St × Int32)) → Option (St × Int32)
  | 0, _, _, _ => none
  | n + 1, σ8, v9, k => (if r4 ≤ v9 then k σ8 v9 else cl (fX7_get_1 σ8 p1 v9) (fun σ10 r11 => jn (cl (fX10_refuse σ10 3) (fun σ13 r14 => some (σ13, r14))) (fun k12 => (if r11 < 0 then k12 else (if r11 ≤ p3 then fX10_refuseCells_L48 p1 p3 r4 n σ10 (v9 + 1) k else k12)))))
def fX10_refuseCells (σ : St) (p1 : Int32) (p2 : Int32) (p3 : Int32) : Option (St × Int32) := cl (fX7_isMissing_1 σ p1) (fun σ1 r2 => (if r2 = 0 then cl (fX7_sizeOf_1 σ1 p1) (fun σ3 r4 => jn (cl (fX10_refuse σ3 5) (fun σ6 r7 => some (σ6, r7))) (fun k5 => (if r4 < 1 then k5 else (if r4 ≤ p2 then fX10_refuseCells_L48 p1 p3 r4 10000 σ3 0 (fun σ15 v16 => some (σ15, 0)) else k5)))) else cl (fX10_refuse σ1 1) (fun σ17 r18 => some (σ17, r18))))
set_option maxHeartbeats 4000000 in
set_option maxRecDepth 100000 in
theorem ctX10_refuseCells (l : Launch) (g : GG) (σ : St) (p1 : Int32) (p2 : Int32) (p3 : Int32) (σ' : St) (r : Int32) (hE : fX10_refuseCells σ p1 p2 p3 = some (σ', r)) : MI 52 entC l g yX10_refuseCells (Cond.code yX10_refuseCells cX10_refuseCells 7 (some .int) :: gtbl) (rmD 2) [.ref (g.2.1 0), .int p1, .int p2, .int p3] σ σ' r := by
  refine mi_i (own := RX10) (lv := [(0, .ref (g.2.1 0)), (1, .int p1), (2, .int p2), (3, .int p3)]) (by decide) rfl (Nat.le_of_ble_eq_true rfl) rfl (fun p e s m below meth c ls args Q A H0 H locs C hK hA hQ hs hl => ?_)
  have hx := C.1
  have hb := C.2.1
  unfold fX10_refuseCells at hE
  refine lv_aload_n hx hb dX10_refuseCells_0 rfl (lv_at hl 0 rfl) ?_
  refine gf_X10_14_0 C hK hs dX10_refuseCells_1 ?_
  refine lv_iload_n hx hb dX10_refuseCells_4 rfl (lv_at hl 1 rfl) ?_
  obtain ⟨σ1, r2, hE1, hE⟩ := cl_e hE
  refine x_civ (As := [.int p1]) (rest := []) C hl.1 hK hs hA ⟨Nat.le_refl 0, Nat.le_refl 0⟩ (ctX7_isMissing_1 l g _ _ _ _ hE1) (cw_X10_84 C ⟨Nat.le_of_ble_eq_true rfl, Nat.le_of_ble_eq_true rfl⟩) (hs.recv hK 1 (by decide) rfl rfl) rfl rfl (Nat.le_of_ble_eq_true rfl) dX10_refuseCells_5 (fun H locs hs => ?_)
  refine lv_if_eq (tgt := 17) hx hb dX10_refuseCells_8 (by decide) (fun hc => ?_) (fun hc => ?_)
  · have hE := if_t hc hE
    refine lv_aload_n hx hb dX10_refuseCells_17 rfl (lv_at hl 0 rfl) ?_
    refine gf_X10_14_0 C hK hs dX10_refuseCells_18 ?_
    refine lv_iload_n hx hb dX10_refuseCells_21 rfl (lv_at hl 1 rfl) ?_
    obtain ⟨σ3, r4, hE1, hE⟩ := cl_e hE
    refine x_civ (As := [.int p1]) (rest := []) C hl.1 hK hs hA ⟨Nat.le_refl 0, Nat.le_refl 0⟩ (ctX7_sizeOf_1 l g _ _ _ _ hE1) (cw_X10_114 C ⟨Nat.le_of_ble_eq_true rfl, Nat.le_of_ble_eq_true rfl⟩) (hs.recv hK 1 (by decide) rfl rfl) rfl rfl (Nat.le_of_ble_eq_true rfl) dX10_refuseCells_22 (fun H locs hs => ?_)
    refine lv_istore (lv' := [(4, .int r4), (0, .ref (g.2.1 0)), (1, .int p1), (2, .int p2), (3, .int p3)]) hx hb dX10_refuseCells_25 hl (by decide) rfl (fun ls hl => ?_)
    refine lv_iload hx hb dX10_refuseCells_27 (lv_at hl 0 rfl) ?_
    refine lv_iconst (v := 1) hx hb dX10_refuseCells_29 (by decide) ?_
    refine jn0 hE (fun k5 hE hk5 => ?_)
    have hJk5 : ∀  (H : Heap) (locs : List Loc) (ls : Array Slot), HW 52 entC g A H0 H locs σ3 → lv_has ls 7 [(0, .ref (g.2.1 0))] → k5 = some (σ', r) → W p l e (rmD 2) s m args below meth c H locs 0 0 Q (F0 m 39 ls []) := by
      intro H locs ls hs hl hE
      have hE := hk5 hE
      refine lv_aload_n hx hb dX10_refuseCells_39 rfl (lv_at hl 0 rfl) ?_
      refine lv_iconst (v := 5) hx hb dX10_refuseCells_40 (by decide) ?_
      obtain ⟨σ6, r7, hE1, hE⟩ := cl_e hE
      refine x_civ (As := [.int 5]) (rest := []) C hl.1 hK hs hA ⟨Nat.le_refl 0, Nat.le_refl 0⟩ (ctX10_refuse l g _ _ _ _ hE1) (cw_X10_76 C ⟨Nat.le_of_ble_eq_true rfl, Nat.le_of_ble_eq_true rfl⟩) (hs.recv hK 0 (by decide) rfl rfl) rfl rfl (Nat.le_of_ble_eq_true rfl) dX10_refuseCells_41 (fun H locs hs => ?_)
      exact hQ hs hE dX10_refuseCells_44
    refine lv_icmp_lt (tgt := 39) hx hb dX10_refuseCells_30 (by decide) (fun hc => ?_) (fun hc => ?_)
    · have hE := if_t hc hE
      exact hJk5  _ _ _ hs (lv_sub hl [1] rfl) hE
    · have hE := if_f hc hE
      refine lv_iload hx hb dX10_refuseCells_33 (lv_at hl 0 rfl) ?_
      refine lv_iload_n hx hb dX10_refuseCells_35 rfl (lv_at hl 3 rfl) ?_
      refine lv_icmp_le (tgt := 45) hx hb dX10_refuseCells_36 (by decide) (fun hc => ?_) (fun hc => ?_)
      · have hE := if_t hc hE
        refine lv_iconst (v := 0) hx hb dX10_refuseCells_45 (by decide) ?_
        refine lv_istore (lv' := [(5, .int 0), (4, .int r4), (0, .ref (g.2.1 0)), (1, .int p1), (2, .int p2), (3, .int p3)]) hx hb dX10_refuseCells_46 hl (by decide) rfl (fun ls hl => ?_)
        have hL48 : ∀ (n : Nat) (σ8 : St) (v9 : Int32) (k : St → Int32 → Option (St × Int32)), fX10_refuseCells_L48 p1 p3 r4 n σ8 v9 k = some (σ', r) → (∀ (σ8 : St) (v9 : Int32) (H : Heap) (locs : List Loc) (ls : Array Slot), HW 52 entC g A H0 H locs σ8 → lv_has ls 7 [(0, .ref (g.2.1 0)), (1, .int p1), (3, .int p3), (4, .int r4), (5, .int v9)] → k σ8 v9 = some (σ', r) → W p l e (rmD 2) s m args below meth c H locs 0 0 Q (F0 m 90 ls [])) → ∀ (H : Heap) (locs : List Loc) (ls : Array Slot), HW 52 entC g A H0 H locs σ8 → lv_has ls 7 [(0, .ref (g.2.1 0)), (1, .int p1), (3, .int p3), (4, .int r4), (5, .int v9)] → W p l e (rmD 2) s m args below meth c H locs 0 0 Q (F0 m 48 ls []) := by
          intro n
          induction n with
          | zero =>
            intro σ8 v9 k hE
            rw [fX10_refuseCells_L48] at hE
            exact no_e hE
          | succ n ih =>
            intro σ8 v9 k hE hk H locs ls hs hl
            rw [fX10_refuseCells_L48] at hE
            refine lv_iload hx hb dX10_refuseCells_48 (lv_at hl 4 rfl) ?_
            refine lv_iload hx hb dX10_refuseCells_50 (lv_at hl 3 rfl) ?_
            refine lv_icmp_ge (tgt := 90) hx hb dX10_refuseCells_52 (by decide) (fun hc => ?_) (fun hc => ?_)
            · have hE := if_t hc hE
              exact hk σ8 v9 _ _ _ hs (lv_sub hl [0, 1, 2, 3, 4] rfl) hE
            · have hE := if_f hc hE
              refine lv_aload_n hx hb dX10_refuseCells_55 rfl (lv_at hl 0 rfl) ?_
              refine gf_X10_14_0 C hK hs dX10_refuseCells_56 ?_
              refine lv_iload_n hx hb dX10_refuseCells_59 rfl (lv_at hl 1 rfl) ?_
              refine lv_iload hx hb dX10_refuseCells_60 (lv_at hl 4 rfl) ?_
              obtain ⟨σ10, r11, hE1, hE⟩ := cl_e hE
              refine x_civ (As := [.int p1, .int v9]) (rest := []) C hl.1 hK hs hA ⟨Nat.le_refl 0, Nat.le_refl 0⟩ (ctX7_get_1 l g _ _ _ _ _ hE1) (cw_X10_91 C ⟨Nat.le_of_ble_eq_true rfl, Nat.le_of_ble_eq_true rfl⟩) (hs.recv hK 1 (by decide) rfl rfl) rfl rfl (Nat.le_of_ble_eq_true rfl) dX10_refuseCells_62 (fun H locs hs => ?_)
              refine lv_istore (lv' := [(6, .int r11), (0, .ref (g.2.1 0)), (1, .int p1), (3, .int p3), (4, .int r4), (5, .int v9)]) hx hb dX10_refuseCells_65 hl (by decide) rfl (fun ls hl => ?_)
              refine lv_iload hx hb dX10_refuseCells_67 (lv_at hl 0 rfl) ?_
              refine jn0 hE (fun k12 hE hk12 => ?_)
              have hJk12 : ∀  (H : Heap) (locs : List Loc) (ls : Array Slot), HW 52 entC g A H0 H locs σ10 → lv_has ls 7 [(0, .ref (g.2.1 0))] → k12 = some (σ', r) → W p l e (rmD 2) s m args below meth c H locs 0 0 Q (F0 m 78 ls []) := by
                intro H locs ls hs hl hE
                have hE := hk12 hE
                refine lv_aload_n hx hb dX10_refuseCells_78 rfl (lv_at hl 0 rfl) ?_
                refine lv_iconst (v := 3) hx hb dX10_refuseCells_79 (by decide) ?_
                obtain ⟨σ13, r14, hE1, hE⟩ := cl_e hE
                refine x_civ (As := [.int 3]) (rest := []) C hl.1 hK hs hA ⟨Nat.le_refl 0, Nat.le_refl 0⟩ (ctX10_refuse l g _ _ _ _ hE1) (cw_X10_76 C ⟨Nat.le_of_ble_eq_true rfl, Nat.le_of_ble_eq_true rfl⟩) (hs.recv hK 0 (by decide) rfl rfl) rfl rfl (Nat.le_of_ble_eq_true rfl) dX10_refuseCells_80 (fun H locs hs => ?_)
                exact hQ hs hE dX10_refuseCells_83
              refine lv_if_lt (tgt := 78) hx hb dX10_refuseCells_69 (by decide) (fun hc => ?_) (fun hc => ?_)
              · have hE := if_t hc hE
                exact hJk12  _ _ _ hs (lv_sub hl [1] rfl) hE
              · have hE := if_f hc hE
                refine lv_iload hx hb dX10_refuseCells_72 (lv_at hl 0 rfl) ?_
                refine lv_iload_n hx hb dX10_refuseCells_74 rfl (lv_at hl 3 rfl) ?_
                refine lv_icmp_le (tgt := 84) hx hb dX10_refuseCells_75 (by decide) (fun hc => ?_) (fun hc => ?_)
                · have hE := if_t hc hE
                  refine lv_iinc (v := v9 + 1) (lv' := [(5, .int (v9 + 1)), (6, .int r11), (0, .ref (g.2.1 0)), (1, .int p1), (3, .int p3), (4, .int r4)]) hx hb dX10_refuseCells_84 hl (k := 5) rfl rfl (by decide) rfl (fun ls hl => ?_)
                  refine lv_goto (tgt := 48) hx hb dX10_refuseCells_87 (by decide) ?_
                  exact ih _ _ _ hE hk _ _ _ hs (lv_sub hl [2, 3, 4, 5, 0] rfl)
                · have hE := if_f hc hE
                  exact hJk12  _ _ _ hs (lv_sub hl [1] rfl) hE
        refine hL48 _ _ _ _ hE (fun σ15 v16 H locs ls hs hl hE => ?_) H locs ls hs (lv_sub hl [2, 3, 5, 1, 0] rfl)
        refine lv_iconst (v := 0) hx hb dX10_refuseCells_90 (by decide) ?_
        exact hQ hs hE dX10_refuseCells_91
      · have hE := if_f hc hE
        exact hJk5  _ _ _ hs (lv_sub hl [1] rfl) hE
  · have hE := if_f hc hE
    refine lv_aload_n hx hb dX10_refuseCells_11 rfl (lv_at hl 0 rfl) ?_
    refine lv_iconst (v := 1) hx hb dX10_refuseCells_12 (by decide) ?_
    obtain ⟨σ17, r18, hE1, hE⟩ := cl_e hE
    refine x_civ (As := [.int 1]) (rest := []) C hl.1 hK hs hA ⟨Nat.le_refl 0, Nat.le_refl 0⟩ (ctX10_refuse l g _ _ _ _ hE1) (cw_X10_76 C ⟨Nat.le_of_ble_eq_true rfl, Nat.le_of_ble_eq_true rfl⟩) (hs.recv hK 0 (by decide) rfl rfl) rfl rfl (Nat.le_of_ble_eq_true rfl) dX10_refuseCells_13 (fun H locs hs => ?_)
    exact hQ hs hE dX10_refuseCells_16
theorem dX10_word_0 : decode cX10_word 0 = .ok (.aload_n 0, 1) := by decide +kernel
theorem dX10_word_1 : decode cX10_word 1 = .ok (.getfield 14, 3) := by decide +kernel
theorem dX10_word_4 : decode cX10_word 4 = .ok (.iload_n 1, 1) := by decide +kernel
theorem dX10_word_5 : decode cX10_word 5 = .ok (.invokevirtual 72, 3) := by decide +kernel
theorem dX10_word_8 : decode cX10_word 8 = .ok (.ifCond .ne 5, 3) := by decide +kernel
theorem dX10_word_11 : decode cX10_word 11 = .ok (.iconst (-1), 1) := by decide +kernel
theorem dX10_word_12 : decode cX10_word 12 = .ok (.ireturn, 1) := by decide +kernel
theorem dX10_word_13 : decode cX10_word 13 = .ok (.aload_n 0, 1) := by decide +kernel
theorem dX10_word_14 : decode cX10_word 14 = .ok (.iload_n 1, 1) := by decide +kernel
theorem dX10_word_15 : decode cX10_word 15 = .ok (.bipush 7, 2) := by decide +kernel
theorem dX10_word_17 : decode cX10_word 17 = .ok (.bipush 25, 2) := by decide +kernel
theorem dX10_word_19 : decode cX10_word 19 = .ok (.invokevirtual 270, 3) := by decide +kernel
theorem dX10_word_22 : decode cX10_word 22 = .ok (.istore_n 2, 1) := by decide +kernel
theorem dX10_word_23 : decode cX10_word 23 = .ok (.iload_n 2, 1) := by decide +kernel
theorem dX10_word_24 : decode cX10_word 24 = .ok (.ifCond .eq 5, 3) := by decide +kernel
theorem dX10_word_27 : decode cX10_word 27 = .ok (.iload_n 2, 1) := by decide +kernel
theorem dX10_word_28 : decode cX10_word 28 = .ok (.ireturn, 1) := by decide +kernel
theorem dX10_word_29 : decode cX10_word 29 = .ok (.bipush (-9), 2) := by decide +kernel
theorem dX10_word_31 : decode cX10_word 31 = .ok (.istore_n 3, 1) := by decide +kernel
theorem dX10_word_32 : decode cX10_word 32 = .ok (.iconst 0, 1) := by decide +kernel
theorem dX10_word_33 : decode cX10_word 33 = .ok (.istore 4, 2) := by decide +kernel
theorem dX10_word_35 : decode cX10_word 35 = .ok (.iconst 0, 1) := by decide +kernel
theorem dX10_word_36 : decode cX10_word 36 = .ok (.istore 5, 2) := by decide +kernel
theorem dX10_word_38 : decode cX10_word 38 = .ok (.iload 5, 2) := by decide +kernel
theorem dX10_word_40 : decode cX10_word 40 = .ok (.aload_n 0, 1) := by decide +kernel
theorem dX10_word_41 : decode cX10_word 41 = .ok (.getfield 46, 3) := by decide +kernel
theorem dX10_word_44 : decode cX10_word 44 = .ok (.getfield 253, 3) := by decide +kernel
theorem dX10_word_47 : decode cX10_word 47 = .ok (.if_icmp .ge 48, 3) := by decide +kernel
theorem dX10_word_50 : decode cX10_word 50 = .ok (.aload_n 0, 1) := by decide +kernel
theorem dX10_word_51 : decode cX10_word 51 = .ok (.getfield 46, 3) := by decide +kernel
theorem dX10_word_54 : decode cX10_word 54 = .ok (.iload 5, 2) := by decide +kernel
theorem dX10_word_56 : decode cX10_word 56 = .ok (.aload_n 0, 1) := by decide +kernel
theorem dX10_word_57 : decode cX10_word 57 = .ok (.getfield 14, 3) := by decide +kernel
theorem dX10_word_60 : decode cX10_word 60 = .ok (.iload_n 1, 1) := by decide +kernel
theorem dX10_word_61 : decode cX10_word 61 = .ok (.invokevirtual 121, 3) := by decide +kernel
theorem dX10_word_64 : decode cX10_word 64 = .ok (.aload_n 0, 1) := by decide +kernel
theorem dX10_word_65 : decode cX10_word 65 = .ok (.getfield 14, 3) := by decide +kernel
theorem dX10_word_68 : decode cX10_word 68 = .ok (.iload_n 1, 1) := by decide +kernel
theorem dX10_word_69 : decode cX10_word 69 = .ok (.invokevirtual 114, 3) := by decide +kernel
theorem dX10_word_72 : decode cX10_word 72 = .ok (.invokevirtual 274, 3) := by decide +kernel
theorem dX10_word_75 : decode cX10_word 75 = .ok (.istore 6, 2) := by decide +kernel
theorem dX10_word_77 : decode cX10_word 77 = .ok (.iload 6, 2) := by decide +kernel
theorem dX10_word_79 : decode cX10_word 79 = .ok (.ifCond .gt 10, 3) := by decide +kernel
theorem dX10_word_82 : decode cX10_word 82 = .ok (.iload 5, 2) := by decide +kernel
theorem dX10_word_84 : decode cX10_word 84 = .ok (.istore_n 3, 1) := by decide +kernel
theorem dX10_word_85 : decode cX10_word 85 = .ok (.iload 6, 2) := by decide +kernel
theorem dX10_word_87 : decode cX10_word 87 = .ok (.istore 4, 2) := by decide +kernel
theorem dX10_word_89 : decode cX10_word 89 = .ok (.iinc 5 1, 3) := by decide +kernel
theorem dX10_word_92 : decode cX10_word 92 = .ok (.goto (-54), 3) := by decide +kernel
theorem dX10_word_95 : decode cX10_word 95 = .ok (.iload_n 3, 1) := by decide +kernel
theorem dX10_word_96 : decode cX10_word 96 = .ok (.bipush (-9), 2) := by decide +kernel
theorem dX10_word_98 : decode cX10_word 98 = .ok (.if_icmp .eq 17, 3) := by decide +kernel
theorem dX10_word_101 : decode cX10_word 101 = .ok (.aload_n 0, 1) := by decide +kernel
theorem dX10_word_102 : decode cX10_word 102 = .ok (.iload 4, 2) := by decide +kernel
theorem dX10_word_104 : decode cX10_word 104 = .ok (.ifCond .ne 7, 3) := by decide +kernel
theorem dX10_word_107 : decode cX10_word 107 = .ok (.iconst 1, 1) := by decide +kernel
theorem dX10_word_108 : decode cX10_word 108 = .ok (.goto 4, 3) := by decide +kernel
theorem dX10_word_111 : decode cX10_word 111 = .ok (.iconst 0, 1) := by decide +kernel
theorem dX10_word_112 : decode cX10_word 112 = .ok (.putfield 95, 3) := by decide +kernel
theorem dX10_word_115 : decode cX10_word 115 = .ok (.iload_n 3, 1) := by decide +kernel
theorem dX10_word_116 : decode cX10_word 116 = .ok (.ireturn, 1) := by decide +kernel
def fX10_word_L38 (p1 : Int32) : Nat → St → Int32 → Int32 → Int32 → (St → Int32 → Int32 → Int32 → Option (St × Int32)) → Option (St × Int32)
  | 0, _, _, _, _, _ => none
  | n + 1, σ5, v6, v7, v8, k => (if (σ5.1 26 6) ≤ v8 then k σ5 v6 v7 v8 else cl (fX7_cellsOf_1 σ5 p1) (fun σ9 r10 => cl (fX7_sizeOf_1 σ9 p1) (fun σ11 r12 => cl (fX6_compareName σ11 v8 r10 r12) (fun σ13 r14 => jn (fun (z16 : Int32) (z17 : Int32) => fX10_word_L38 p1 n σ13 z16 z17 (v8 + 1) k) (fun k15 => (if 0 < r14 then k15 v6 v7 else k15 v8 r14))))))
def fX10_word (σ : St) (p1 : Int32) : Option (St × Int32) := cl (fX7_isOne_1 σ p1) (fun σ1 r2 => (if r2 = 0 then some (σ1, (-1)) else cl (fX10_refuseCells σ1 p1 7 25) (fun σ3 r4 => (if r4 = 0 then fX10_word_L38 p1 10000 σ3 (-9) 0 0 (fun σ18 v19 v20 v21 => (if v19 = (-9) then some (σ18, v19) else pv (if v20 = 0 then 1 else 0) (fun (y23 : Int32) => pt (su σ18 0 11 y23) (fun σ24 => some (σ24, v19))))) else some (σ3, r4)))))
set_option maxHeartbeats 4000000 in
set_option maxRecDepth 100000 in
theorem ctX10_word (l : Launch) (g : GG) (σ : St) (p1 : Int32) (σ' : St) (r : Int32) (hE : fX10_word σ p1 = some (σ', r)) : MI 52 entC l g yX10_word (Cond.code yX10_word cX10_word 7 (some .int) :: gtbl) (rmD 3) [.ref (g.2.1 0), .int p1] σ σ' r := by
  refine mi_i (own := RX10) (lv := [(0, .ref (g.2.1 0)), (1, .int p1)]) (by decide) rfl (Nat.le_of_ble_eq_true rfl) rfl (fun p e s m below meth c ls args Q A H0 H locs C hK hA hQ hs hl => ?_)
  have hx := C.1
  have hb := C.2.1
  unfold fX10_word at hE
  refine lv_aload_n hx hb dX10_word_0 rfl (lv_at hl 0 rfl) ?_
  refine gf_X10_14_0 C hK hs dX10_word_1 ?_
  refine lv_iload_n hx hb dX10_word_4 rfl (lv_at hl 1 rfl) ?_
  obtain ⟨σ1, r2, hE1, hE⟩ := cl_e hE
  refine x_civ (As := [.int p1]) (rest := []) C hl.1 hK hs hA ⟨Nat.le_refl 0, Nat.le_refl 0⟩ (ctX7_isOne_1 l g _ _ _ _ hE1) (cw_X10_72 C ⟨Nat.le_of_ble_eq_true rfl, Nat.le_of_ble_eq_true rfl⟩) (hs.recv hK 1 (by decide) rfl rfl) rfl rfl (Nat.le_of_ble_eq_true rfl) dX10_word_5 (fun H locs hs => ?_)
  refine lv_if_ne (tgt := 13) hx hb dX10_word_8 (by decide) (fun hc => ?_) (fun hc => ?_)
  · have hE := if_f hc hE
    refine lv_aload_n hx hb dX10_word_13 rfl (lv_at hl 0 rfl) ?_
    refine lv_iload_n hx hb dX10_word_14 rfl (lv_at hl 1 rfl) ?_
    refine lv_bipush (v := 7) hx hb dX10_word_15 (by decide) ?_
    refine lv_bipush (v := 25) hx hb dX10_word_17 (by decide) ?_
    obtain ⟨σ3, r4, hE1, hE⟩ := cl_e hE
    refine x_civ (As := [.int p1, .int 7, .int 25]) (rest := []) C hl.1 hK hs hA ⟨Nat.le_refl 0, Nat.le_refl 0⟩ (ctX10_refuseCells l g _ _ _ _ _ _ hE1) (cw_X10_270 C ⟨Nat.le_of_ble_eq_true rfl, Nat.le_of_ble_eq_true rfl⟩) (hs.recv hK 0 (by decide) rfl rfl) rfl rfl (Nat.le_of_ble_eq_true rfl) dX10_word_19 (fun H locs hs => ?_)
    refine lv_istore_n (lv' := [(2, .int r4), (0, .ref (g.2.1 0)), (1, .int p1)]) hx hb dX10_word_22 rfl hl (by decide) rfl (fun ls hl => ?_)
    refine lv_iload_n hx hb dX10_word_23 rfl (lv_at hl 0 rfl) ?_
    refine lv_if_eq (tgt := 29) hx hb dX10_word_24 (by decide) (fun hc => ?_) (fun hc => ?_)
    · have hE := if_t hc hE
      refine lv_bipush (v := (-9)) hx hb dX10_word_29 (by decide) ?_
      refine lv_istore_n (lv' := [(3, .int (-9)), (2, .int r4), (0, .ref (g.2.1 0)), (1, .int p1)]) hx hb dX10_word_31 rfl hl (by decide) rfl (fun ls hl => ?_)
      refine lv_iconst (v := 0) hx hb dX10_word_32 (by decide) ?_
      refine lv_istore (lv' := [(4, .int 0), (3, .int (-9)), (2, .int r4), (0, .ref (g.2.1 0)), (1, .int p1)]) hx hb dX10_word_33 hl (by decide) rfl (fun ls hl => ?_)
      refine lv_iconst (v := 0) hx hb dX10_word_35 (by decide) ?_
      refine lv_istore (lv' := [(5, .int 0), (4, .int 0), (3, .int (-9)), (2, .int r4), (0, .ref (g.2.1 0)), (1, .int p1)]) hx hb dX10_word_36 hl (by decide) rfl (fun ls hl => ?_)
      have hL38 : ∀ (n : Nat) (σ5 : St) (v6 : Int32) (v7 : Int32) (v8 : Int32) (k : St → Int32 → Int32 → Int32 → Option (St × Int32)), fX10_word_L38 p1 n σ5 v6 v7 v8 k = some (σ', r) → (∀ (σ5 : St) (v6 : Int32) (v7 : Int32) (v8 : Int32) (H : Heap) (locs : List Loc) (ls : Array Slot), HW 52 entC g A H0 H locs σ5 → lv_has ls 7 [(0, .ref (g.2.1 0)), (1, .int p1), (3, .int v6), (4, .int v7), (5, .int v8)] → k σ5 v6 v7 v8 = some (σ', r) → W p l e (rmD 3) s m args below meth c H locs 0 0 Q (F0 m 95 ls [])) → ∀ (H : Heap) (locs : List Loc) (ls : Array Slot), HW 52 entC g A H0 H locs σ5 → lv_has ls 7 [(0, .ref (g.2.1 0)), (1, .int p1), (3, .int v6), (4, .int v7), (5, .int v8)] → W p l e (rmD 3) s m args below meth c H locs 0 0 Q (F0 m 38 ls []) := by
        intro n
        induction n with
        | zero =>
          intro σ5 v6 v7 v8 k hE
          rw [fX10_word_L38] at hE
          exact no_e hE
        | succ n ih =>
          intro σ5 v6 v7 v8 k hE hk H locs ls hs hl
          rw [fX10_word_L38] at hE
          refine lv_iload hx hb dX10_word_38 (lv_at hl 4 rfl) ?_
          refine lv_aload_n hx hb dX10_word_40 rfl (lv_at hl 0 rfl) ?_
          refine gf_X10_46_0 C hK hs dX10_word_41 ?_
          refine gf_X10_253_26 C hK hs dX10_word_44 ?_
          refine lv_icmp_ge (tgt := 95) hx hb dX10_word_47 (by decide) (fun hc => ?_) (fun hc => ?_)
          · have hE := if_t hc hE
            exact hk σ5 v6 v7 v8 _ _ _ hs (lv_sub hl [0, 1, 2, 3, 4] rfl) hE
          · have hE := if_f hc hE
            refine lv_aload_n hx hb dX10_word_50 rfl (lv_at hl 0 rfl) ?_
            refine gf_X10_46_0 C hK hs dX10_word_51 ?_
            refine lv_iload hx hb dX10_word_54 (lv_at hl 4 rfl) ?_
            refine lv_aload_n hx hb dX10_word_56 rfl (lv_at hl 0 rfl) ?_
            refine gf_X10_14_0 C hK hs dX10_word_57 ?_
            refine lv_iload_n hx hb dX10_word_60 rfl (lv_at hl 1 rfl) ?_
            obtain ⟨σ9, r10, hE1, hE⟩ := cl_e hE
            refine x_crv (As := [.int p1]) (rest := [.int v8, .ref (g.2.1 26)]) C hl.1 hK hs hA ⟨Nat.le_refl 0, Nat.le_refl 0⟩ (ctX7_cellsOf_1 l g _ _ _ _ hE1) (cw_X10_121 C ⟨Nat.le_of_ble_eq_true rfl, Nat.le_of_ble_eq_true rfl⟩) (hs.recv hK 1 (by decide) rfl rfl) rfl rfl (Nat.le_of_ble_eq_true rfl) dX10_word_61 (fun H locs hs => ?_)
            refine lv_aload_n hx hb dX10_word_64 rfl (lv_at hl 0 rfl) ?_
            refine gf_X10_14_0 C hK hs dX10_word_65 ?_
            refine lv_iload_n hx hb dX10_word_68 rfl (lv_at hl 1 rfl) ?_
            obtain ⟨σ11, r12, hE1, hE⟩ := cl_e hE
            refine x_civ (As := [.int p1]) (rest := [.ref (g.2.1 r10), .int v8, .ref (g.2.1 26)]) C hl.1 hK hs hA ⟨Nat.le_refl 0, Nat.le_refl 0⟩ (ctX7_sizeOf_1 l g _ _ _ _ hE1) (cw_X10_114 C ⟨Nat.le_of_ble_eq_true rfl, Nat.le_of_ble_eq_true rfl⟩) (hs.recv hK 1 (by decide) rfl rfl) rfl rfl (Nat.le_of_ble_eq_true rfl) dX10_word_69 (fun H locs hs => ?_)
            obtain ⟨σ13, r14, hE1, hE⟩ := cl_e hE
            refine x_civ (As := [.int v8, .ref (g.2.1 r10), .int r12]) (rest := []) C hl.1 hK hs hA ⟨Nat.le_refl 0, Nat.le_refl 0⟩ (ctX6_compareName l g _ _ _ _ _ _ hE1) (cw_X10_274 C ⟨Nat.le_of_ble_eq_true rfl, Nat.le_of_ble_eq_true rfl⟩) (hs.recv hK 26 (by decide) rfl rfl) rfl rfl (Nat.le_of_ble_eq_true rfl) dX10_word_72 (fun H locs hs => ?_)
            refine lv_istore (lv' := [(6, .int r14), (0, .ref (g.2.1 0)), (1, .int p1), (3, .int v6), (4, .int v7), (5, .int v8)]) hx hb dX10_word_75 hl (by decide) rfl (fun ls hl => ?_)
            refine lv_iload hx hb dX10_word_77 (lv_at hl 0 rfl) ?_
            refine jn2 hE (fun k15 hE hk15 => ?_)
            have hJk15 : ∀ (z16 : Int32) (z17 : Int32) (H : Heap) (locs : List Loc) (ls : Array Slot), HW 52 entC g A H0 H locs σ13 → lv_has ls 7 [(0, .ref (g.2.1 0)), (1, .int p1), (3, .int z16), (4, .int z17), (5, .int v8)] → k15 z16 z17 = some (σ', r) → W p l e (rmD 3) s m args below meth c H locs 0 0 Q (F0 m 89 ls []) := by
              intro z16 z17 H locs ls hs hl hE
              have hE := hk15 _ _ hE
              refine lv_iinc (v := v8 + 1) (lv' := [(5, .int (v8 + 1)), (0, .ref (g.2.1 0)), (1, .int p1), (3, .int z16), (4, .int z17)]) hx hb dX10_word_89 hl (k := 4) rfl rfl (by decide) rfl (fun ls hl => ?_)
              refine lv_goto (tgt := 38) hx hb dX10_word_92 (by decide) ?_
              exact ih _ _ _ _ _ hE hk _ _ _ hs (lv_sub hl [1, 2, 3, 4, 0] rfl)
            refine lv_if_gt (tgt := 89) hx hb dX10_word_79 (by decide) (fun hc => ?_) (fun hc => ?_)
            · have hE := if_t hc hE
              exact hJk15 v6 v7 _ _ _ hs (lv_sub hl [1, 2, 3, 4, 5] rfl) hE
            · have hE := if_f hc hE
              refine lv_iload hx hb dX10_word_82 (lv_at hl 5 rfl) ?_
              refine lv_istore_n (lv' := [(3, .int v8), (6, .int r14), (0, .ref (g.2.1 0)), (1, .int p1), (4, .int v7), (5, .int v8)]) hx hb dX10_word_84 rfl hl (by decide) rfl (fun ls hl => ?_)
              refine lv_iload hx hb dX10_word_85 (lv_at hl 1 rfl) ?_
              refine lv_istore (lv' := [(4, .int r14), (3, .int v8), (6, .int r14), (0, .ref (g.2.1 0)), (1, .int p1), (5, .int v8)]) hx hb dX10_word_87 hl (by decide) rfl (fun ls hl => ?_)
              exact hJk15 v8 r14 _ _ _ hs (lv_sub hl [3, 4, 1, 0, 5] rfl) hE
      refine hL38 _ _ _ _ _ _ hE (fun σ18 v19 v20 v21 H locs ls hs hl hE => ?_) H locs ls hs (lv_sub hl [4, 5, 2, 1, 0] rfl)
      refine lv_iload_n hx hb dX10_word_95 rfl (lv_at hl 2 rfl) ?_
      refine lv_bipush (v := (-9)) hx hb dX10_word_96 (by decide) ?_
      refine lv_icmp_eq (tgt := 115) hx hb dX10_word_98 (by decide) (fun hc => ?_) (fun hc => ?_)
      · have hE := if_t hc hE
        refine lv_iload_n hx hb dX10_word_115 rfl (lv_at hl 2 rfl) ?_
        exact hQ hs hE dX10_word_116
      · have hE := if_f hc hE
        refine lv_aload_n hx hb dX10_word_101 rfl (lv_at hl 0 rfl) ?_
        refine lv_iload hx hb dX10_word_102 (lv_at hl 3 rfl) ?_
        refine pvw hE (fun k22 hE hk22 => ?_)
        have hJk22 : ∀ (y23 : Int32) (H : Heap) (locs : List Loc) (ls : Array Slot), HW 52 entC g A H0 H locs σ18 → lv_has ls 7 [(3, .int v19)] → k22 y23 = some (σ', r) → W p l e (rmD 3) s m args below meth c H locs 0 0 Q (F0 m 112 ls [.int y23, .ref (g.2.1 0)]) := by
          intro y23 H locs ls hs hl hE
          have hE := hk22 _ hE
          obtain ⟨σ24, eσ24, hE⟩ := pt_w hE
          refine pf_X10_95_0 C hK hs eσ24 dX10_word_112 (fun H locs hs => ?_)
          refine lv_iload_n hx hb dX10_word_115 rfl (lv_at hl 0 rfl) ?_
          exact hQ hs hE dX10_word_116
        refine lv_if_ne (tgt := 111) hx hb dX10_word_104 (by decide) (fun hc => ?_) (fun hc => ?_)
        · have hE := pv_f hc hE
          refine lv_iconst (v := 0) hx hb dX10_word_111 (by decide) ?_
          exact hJk22 0 _ _ _ hs (lv_sub hl [2] rfl) hE
        · have hE := pv_t hc hE
          refine lv_iconst (v := 1) hx hb dX10_word_107 (by decide) ?_
          refine lv_goto (tgt := 112) hx hb dX10_word_108 (by decide) ?_
          exact hJk22 1 _ _ _ hs (lv_sub hl [2] rfl) hE
    · have hE := if_f hc hE
      refine lv_iload_n hx hb dX10_word_27 rfl (lv_at hl 0 rfl) ?_
      exact hQ hs hE dX10_word_28
  · have hE := if_t hc hE
    refine lv_iconst (v := (-1)) hx hb dX10_word_11 (by decide) ?_
    exact hQ hs hE dX10_word_12
theorem dX10_kinds_0 : decode cX10_kinds 0 = .ok (.aload_n 0, 1) := by decide +kernel
theorem dX10_kinds_1 : decode cX10_kinds 1 = .ok (.getfield 46, 3) := by decide +kernel
theorem dX10_kinds_4 : decode cX10_kinds 4 = .ok (.iload_n 1, 1) := by decide +kernel
theorem dX10_kinds_5 : decode cX10_kinds 5 = .ok (.invokevirtual 153, 3) := by decide +kernel
theorem dX10_kinds_8 : decode cX10_kinds 8 = .ok (.ifCond .eq 14, 3) := by decide +kernel
theorem dX10_kinds_11 : decode cX10_kinds 11 = .ok (.aload_n 0, 1) := by decide +kernel
theorem dX10_kinds_12 : decode cX10_kinds 12 = .ok (.getfield 14, 3) := by decide +kernel
theorem dX10_kinds_15 : decode cX10_kinds 15 = .ok (.iload_n 2, 1) := by decide +kernel
theorem dX10_kinds_16 : decode cX10_kinds 16 = .ok (.invokevirtual 72, 3) := by decide +kernel
theorem dX10_kinds_19 : decode cX10_kinds 19 = .ok (.ifCond .ne 5, 3) := by decide +kernel
theorem dX10_kinds_22 : decode cX10_kinds 22 = .ok (.iconst (-1), 1) := by decide +kernel
theorem dX10_kinds_23 : decode cX10_kinds 23 = .ok (.ireturn, 1) := by decide +kernel
theorem dX10_kinds_24 : decode cX10_kinds 24 = .ok (.aload_n 0, 1) := by decide +kernel
theorem dX10_kinds_25 : decode cX10_kinds 25 = .ok (.iload_n 2, 1) := by decide +kernel
theorem dX10_kinds_26 : decode cX10_kinds 26 = .ok (.bipush 20, 2) := by decide +kernel
theorem dX10_kinds_28 : decode cX10_kinds 28 = .ok (.bipush 99, 2) := by decide +kernel
theorem dX10_kinds_30 : decode cX10_kinds 30 = .ok (.invokevirtual 270, 3) := by decide +kernel
theorem dX10_kinds_33 : decode cX10_kinds 33 = .ok (.istore_n 3, 1) := by decide +kernel
theorem dX10_kinds_34 : decode cX10_kinds 34 = .ok (.iload_n 3, 1) := by decide +kernel
theorem dX10_kinds_35 : decode cX10_kinds 35 = .ok (.ifCond .eq 5, 3) := by decide +kernel
theorem dX10_kinds_38 : decode cX10_kinds 38 = .ok (.iload_n 3, 1) := by decide +kernel
theorem dX10_kinds_39 : decode cX10_kinds 39 = .ok (.ireturn, 1) := by decide +kernel
theorem dX10_kinds_40 : decode cX10_kinds 40 = .ok (.aload_n 0, 1) := by decide +kernel
theorem dX10_kinds_41 : decode cX10_kinds 41 = .ok (.getfield 39, 3) := by decide +kernel
theorem dX10_kinds_44 : decode cX10_kinds 44 = .ok (.iload_n 1, 1) := by decide +kernel
theorem dX10_kinds_45 : decode cX10_kinds 45 = .ok (.aload_n 0, 1) := by decide +kernel
theorem dX10_kinds_46 : decode cX10_kinds 46 = .ok (.getfield 14, 3) := by decide +kernel
theorem dX10_kinds_49 : decode cX10_kinds 49 = .ok (.iload_n 2, 1) := by decide +kernel
theorem dX10_kinds_50 : decode cX10_kinds 50 = .ok (.invokevirtual 121, 3) := by decide +kernel
theorem dX10_kinds_53 : decode cX10_kinds 53 = .ok (.aload_n 0, 1) := by decide +kernel
theorem dX10_kinds_54 : decode cX10_kinds 54 = .ok (.getfield 14, 3) := by decide +kernel
theorem dX10_kinds_57 : decode cX10_kinds 57 = .ok (.iload_n 2, 1) := by decide +kernel
theorem dX10_kinds_58 : decode cX10_kinds 58 = .ok (.invokevirtual 114, 3) := by decide +kernel
theorem dX10_kinds_61 : decode cX10_kinds 61 = .ok (.invokestatic 278, 3) := by decide +kernel
theorem dX10_kinds_64 : decode cX10_kinds 64 = .ok (.ireturn, 1) := by decide +kernel
def fX10_kinds (σ : St) (p1 : Int32) (p2 : Int32) : Option (St × Int32) := cl (fX6_isHouse σ p1) (fun σ1 r2 => (if r2 = 0 then some (σ1, (-1)) else cl (fX7_isOne_1 σ1 p2) (fun σ3 r4 => (if r4 = 0 then some (σ3, (-1)) else cl (fX10_refuseCells σ3 p2 20 99) (fun σ5 r6 => (if r6 = 0 then cl (fX7_cellsOf_1 σ5 p2) (fun σ7 r8 => cl (fX7_sizeOf_1 σ7 p2) (fun σ9 r10 => cl (fX1_kindsBy σ9 p1 r8 r10) (fun σ11 r12 => some (σ11, r12)))) else some (σ5, r6)))))))
set_option maxHeartbeats 4000000 in
set_option maxRecDepth 100000 in
theorem ctX10_kinds (l : Launch) (g : GG) (σ : St) (p1 : Int32) (p2 : Int32) (σ' : St) (r : Int32) (hE : fX10_kinds σ p1 p2 = some (σ', r)) : MI 52 entC l g yX10_kinds (Cond.code yX10_kinds cX10_kinds 4 (some .int) :: gtbl) (rmD 4) [.ref (g.2.1 0), .int p1, .int p2] σ σ' r := by
  refine mi_i (own := RX10) (lv := [(0, .ref (g.2.1 0)), (1, .int p1), (2, .int p2)]) (by decide) rfl (Nat.le_of_ble_eq_true rfl) rfl (fun p e s m below meth c ls args Q A H0 H locs C hK hA hQ hs hl => ?_)
  have hx := C.1
  have hb := C.2.1
  unfold fX10_kinds at hE
  refine lv_aload_n hx hb dX10_kinds_0 rfl (lv_at hl 0 rfl) ?_
  refine gf_X10_46_0 C hK hs dX10_kinds_1 ?_
  refine lv_iload_n hx hb dX10_kinds_4 rfl (lv_at hl 1 rfl) ?_
  obtain ⟨σ1, r2, hE1, hE⟩ := cl_e hE
  refine x_civ (As := [.int p1]) (rest := []) C hl.1 hK hs hA ⟨Nat.le_refl 0, Nat.le_refl 0⟩ (ctX6_isHouse l g _ _ _ _ hE1) (cw_X10_153 C ⟨Nat.le_of_ble_eq_true rfl, Nat.le_of_ble_eq_true rfl⟩) (hs.recv hK 26 (by decide) rfl rfl) rfl rfl (Nat.le_of_ble_eq_true rfl) dX10_kinds_5 (fun H locs hs => ?_)
  refine lv_if_eq (tgt := 22) hx hb dX10_kinds_8 (by decide) (fun hc => ?_) (fun hc => ?_)
  · have hE := if_t hc hE
    refine lv_iconst (v := (-1)) hx hb dX10_kinds_22 (by decide) ?_
    exact hQ hs hE dX10_kinds_23
  · have hE := if_f hc hE
    refine lv_aload_n hx hb dX10_kinds_11 rfl (lv_at hl 0 rfl) ?_
    refine gf_X10_14_0 C hK hs dX10_kinds_12 ?_
    refine lv_iload_n hx hb dX10_kinds_15 rfl (lv_at hl 2 rfl) ?_
    obtain ⟨σ3, r4, hE1, hE⟩ := cl_e hE
    refine x_civ (As := [.int p2]) (rest := []) C hl.1 hK hs hA ⟨Nat.le_refl 0, Nat.le_refl 0⟩ (ctX7_isOne_1 l g _ _ _ _ hE1) (cw_X10_72 C ⟨Nat.le_of_ble_eq_true rfl, Nat.le_of_ble_eq_true rfl⟩) (hs.recv hK 1 (by decide) rfl rfl) rfl rfl (Nat.le_of_ble_eq_true rfl) dX10_kinds_16 (fun H locs hs => ?_)
    refine lv_if_ne (tgt := 24) hx hb dX10_kinds_19 (by decide) (fun hc => ?_) (fun hc => ?_)
    · have hE := if_f hc hE
      refine lv_aload_n hx hb dX10_kinds_24 rfl (lv_at hl 0 rfl) ?_
      refine lv_iload_n hx hb dX10_kinds_25 rfl (lv_at hl 2 rfl) ?_
      refine lv_bipush (v := 20) hx hb dX10_kinds_26 (by decide) ?_
      refine lv_bipush (v := 99) hx hb dX10_kinds_28 (by decide) ?_
      obtain ⟨σ5, r6, hE1, hE⟩ := cl_e hE
      refine x_civ (As := [.int p2, .int 20, .int 99]) (rest := []) C hl.1 hK hs hA ⟨Nat.le_refl 0, Nat.le_refl 0⟩ (ctX10_refuseCells l g _ _ _ _ _ _ hE1) (cw_X10_270 C ⟨Nat.le_of_ble_eq_true rfl, Nat.le_of_ble_eq_true rfl⟩) (hs.recv hK 0 (by decide) rfl rfl) rfl rfl (Nat.le_of_ble_eq_true rfl) dX10_kinds_30 (fun H locs hs => ?_)
      refine lv_istore_n (lv' := [(3, .int r6), (0, .ref (g.2.1 0)), (1, .int p1), (2, .int p2)]) hx hb dX10_kinds_33 rfl hl (by decide) rfl (fun ls hl => ?_)
      refine lv_iload_n hx hb dX10_kinds_34 rfl (lv_at hl 0 rfl) ?_
      refine lv_if_eq (tgt := 40) hx hb dX10_kinds_35 (by decide) (fun hc => ?_) (fun hc => ?_)
      · have hE := if_t hc hE
        refine lv_aload_n hx hb dX10_kinds_40 rfl (lv_at hl 1 rfl) ?_
        refine gf_X10_39_0 C hK hs dX10_kinds_41 ?_
        refine lv_iload_n hx hb dX10_kinds_44 rfl (lv_at hl 2 rfl) ?_
        refine lv_aload_n hx hb dX10_kinds_45 rfl (lv_at hl 1 rfl) ?_
        refine gf_X10_14_0 C hK hs dX10_kinds_46 ?_
        refine lv_iload_n hx hb dX10_kinds_49 rfl (lv_at hl 3 rfl) ?_
        obtain ⟨σ7, r8, hE1, hE⟩ := cl_e hE
        refine x_crv (As := [.int p2]) (rest := [.int p1, .ref (g.2.1 25)]) C hl.1 hK hs hA ⟨Nat.le_refl 0, Nat.le_refl 0⟩ (ctX7_cellsOf_1 l g _ _ _ _ hE1) (cw_X10_121 C ⟨Nat.le_of_ble_eq_true rfl, Nat.le_of_ble_eq_true rfl⟩) (hs.recv hK 1 (by decide) rfl rfl) rfl rfl (Nat.le_of_ble_eq_true rfl) dX10_kinds_50 (fun H locs hs => ?_)
        refine lv_aload_n hx hb dX10_kinds_53 rfl (lv_at hl 1 rfl) ?_
        refine gf_X10_14_0 C hK hs dX10_kinds_54 ?_
        refine lv_iload_n hx hb dX10_kinds_57 rfl (lv_at hl 3 rfl) ?_
        obtain ⟨σ9, r10, hE1, hE⟩ := cl_e hE
        refine x_civ (As := [.int p2]) (rest := [.ref (g.2.1 r8), .int p1, .ref (g.2.1 25)]) C hl.1 hK hs hA ⟨Nat.le_refl 0, Nat.le_refl 0⟩ (ctX7_sizeOf_1 l g _ _ _ _ hE1) (cw_X10_114 C ⟨Nat.le_of_ble_eq_true rfl, Nat.le_of_ble_eq_true rfl⟩) (hs.recv hK 1 (by decide) rfl rfl) rfl rfl (Nat.le_of_ble_eq_true rfl) dX10_kinds_58 (fun H locs hs => ?_)
        obtain ⟨σ11, r12, hE1, hE⟩ := cl_e hE
        refine x_cis (As := [.ref (g.2.1 25), .int p1, .ref (g.2.1 r8), .int r10]) (rest := []) C hl.1 hK hs hA ⟨Nat.le_refl 0, Nat.le_refl 0⟩ (ctX1_kindsBy l g _ _ _ _ _ _ hE1) (cw_X10_278 C ⟨Nat.le_of_ble_eq_true rfl, Nat.le_of_ble_eq_true rfl⟩) rfl rfl (Nat.le_of_ble_eq_true rfl) dX10_kinds_61 (fun H locs hs => ?_)
        exact hQ hs hE dX10_kinds_64
      · have hE := if_f hc hE
        refine lv_iload_n hx hb dX10_kinds_38 rfl (lv_at hl 0 rfl) ?_
        exact hQ hs hE dX10_kinds_39
    · have hE := if_t hc hE
      refine lv_iconst (v := (-1)) hx hb dX10_kinds_22 (by decide) ?_
      exact hQ hs hE dX10_kinds_23
theorem dX10_monthly_0 : decode cX10_monthly 0 = .ok (.aload_n 0, 1) := by decide +kernel
theorem dX10_monthly_1 : decode cX10_monthly 1 = .ok (.getfield 46, 3) := by decide +kernel
theorem dX10_monthly_4 : decode cX10_monthly 4 = .ok (.iload_n 1, 1) := by decide +kernel
theorem dX10_monthly_5 : decode cX10_monthly 5 = .ok (.invokevirtual 153, 3) := by decide +kernel
theorem dX10_monthly_8 : decode cX10_monthly 8 = .ok (.ifCond .eq 14, 3) := by decide +kernel
theorem dX10_monthly_11 : decode cX10_monthly 11 = .ok (.aload_n 0, 1) := by decide +kernel
theorem dX10_monthly_12 : decode cX10_monthly 12 = .ok (.getfield 14, 3) := by decide +kernel
theorem dX10_monthly_15 : decode cX10_monthly 15 = .ok (.iload_n 2, 1) := by decide +kernel
theorem dX10_monthly_16 : decode cX10_monthly 16 = .ok (.invokevirtual 72, 3) := by decide +kernel
theorem dX10_monthly_19 : decode cX10_monthly 19 = .ok (.ifCond .ne 5, 3) := by decide +kernel
theorem dX10_monthly_22 : decode cX10_monthly 22 = .ok (.iconst (-1), 1) := by decide +kernel
theorem dX10_monthly_23 : decode cX10_monthly 23 = .ok (.ireturn, 1) := by decide +kernel
theorem dX10_monthly_24 : decode cX10_monthly 24 = .ok (.aload_n 0, 1) := by decide +kernel
theorem dX10_monthly_25 : decode cX10_monthly 25 = .ok (.iload_n 2, 1) := by decide +kernel
theorem dX10_monthly_26 : decode cX10_monthly 26 = .ok (.bipush 20, 2) := by decide +kernel
theorem dX10_monthly_28 : decode cX10_monthly 28 = .ok (.bipush 99, 2) := by decide +kernel
theorem dX10_monthly_30 : decode cX10_monthly 30 = .ok (.invokevirtual 270, 3) := by decide +kernel
theorem dX10_monthly_33 : decode cX10_monthly 33 = .ok (.istore_n 3, 1) := by decide +kernel
theorem dX10_monthly_34 : decode cX10_monthly 34 = .ok (.iload_n 3, 1) := by decide +kernel
theorem dX10_monthly_35 : decode cX10_monthly 35 = .ok (.ifCond .eq 5, 3) := by decide +kernel
theorem dX10_monthly_38 : decode cX10_monthly 38 = .ok (.iload_n 3, 1) := by decide +kernel
theorem dX10_monthly_39 : decode cX10_monthly 39 = .ok (.ireturn, 1) := by decide +kernel
theorem dX10_monthly_40 : decode cX10_monthly 40 = .ok (.aload_n 0, 1) := by decide +kernel
theorem dX10_monthly_41 : decode cX10_monthly 41 = .ok (.getfield 39, 3) := by decide +kernel
theorem dX10_monthly_44 : decode cX10_monthly 44 = .ok (.iload_n 1, 1) := by decide +kernel
theorem dX10_monthly_45 : decode cX10_monthly 45 = .ok (.aload_n 0, 1) := by decide +kernel
theorem dX10_monthly_46 : decode cX10_monthly 46 = .ok (.getfield 14, 3) := by decide +kernel
theorem dX10_monthly_49 : decode cX10_monthly 49 = .ok (.iload_n 2, 1) := by decide +kernel
theorem dX10_monthly_50 : decode cX10_monthly 50 = .ok (.invokevirtual 121, 3) := by decide +kernel
theorem dX10_monthly_53 : decode cX10_monthly 53 = .ok (.aload_n 0, 1) := by decide +kernel
theorem dX10_monthly_54 : decode cX10_monthly 54 = .ok (.getfield 14, 3) := by decide +kernel
theorem dX10_monthly_57 : decode cX10_monthly 57 = .ok (.iload_n 2, 1) := by decide +kernel
theorem dX10_monthly_58 : decode cX10_monthly 58 = .ok (.invokevirtual 114, 3) := by decide +kernel
theorem dX10_monthly_61 : decode cX10_monthly 61 = .ok (.invokestatic 282, 3) := by decide +kernel
theorem dX10_monthly_64 : decode cX10_monthly 64 = .ok (.ireturn, 1) := by decide +kernel
def fX10_monthly (σ : St) (p1 : Int32) (p2 : Int32) : Option (St × Int32) := cl (fX6_isHouse σ p1) (fun σ1 r2 => (if r2 = 0 then some (σ1, (-1)) else cl (fX7_isOne_1 σ1 p2) (fun σ3 r4 => (if r4 = 0 then some (σ3, (-1)) else cl (fX10_refuseCells σ3 p2 20 99) (fun σ5 r6 => (if r6 = 0 then cl (fX7_cellsOf_1 σ5 p2) (fun σ7 r8 => cl (fX7_sizeOf_1 σ7 p2) (fun σ9 r10 => cl (fX1_incomesBy σ9 p1 r8 r10) (fun σ11 r12 => some (σ11, r12)))) else some (σ5, r6)))))))
set_option maxHeartbeats 4000000 in
set_option maxRecDepth 100000 in
theorem ctX10_monthly (l : Launch) (g : GG) (σ : St) (p1 : Int32) (p2 : Int32) (σ' : St) (r : Int32) (hE : fX10_monthly σ p1 p2 = some (σ', r)) : MI 52 entC l g yX10_monthly (Cond.code yX10_monthly cX10_monthly 4 (some .int) :: gtbl) (rmD 4) [.ref (g.2.1 0), .int p1, .int p2] σ σ' r := by
  refine mi_i (own := RX10) (lv := [(0, .ref (g.2.1 0)), (1, .int p1), (2, .int p2)]) (by decide) rfl (Nat.le_of_ble_eq_true rfl) rfl (fun p e s m below meth c ls args Q A H0 H locs C hK hA hQ hs hl => ?_)
  have hx := C.1
  have hb := C.2.1
  unfold fX10_monthly at hE
  refine lv_aload_n hx hb dX10_monthly_0 rfl (lv_at hl 0 rfl) ?_
  refine gf_X10_46_0 C hK hs dX10_monthly_1 ?_
  refine lv_iload_n hx hb dX10_monthly_4 rfl (lv_at hl 1 rfl) ?_
  obtain ⟨σ1, r2, hE1, hE⟩ := cl_e hE
  refine x_civ (As := [.int p1]) (rest := []) C hl.1 hK hs hA ⟨Nat.le_refl 0, Nat.le_refl 0⟩ (ctX6_isHouse l g _ _ _ _ hE1) (cw_X10_153 C ⟨Nat.le_of_ble_eq_true rfl, Nat.le_of_ble_eq_true rfl⟩) (hs.recv hK 26 (by decide) rfl rfl) rfl rfl (Nat.le_of_ble_eq_true rfl) dX10_monthly_5 (fun H locs hs => ?_)
  refine lv_if_eq (tgt := 22) hx hb dX10_monthly_8 (by decide) (fun hc => ?_) (fun hc => ?_)
  · have hE := if_t hc hE
    refine lv_iconst (v := (-1)) hx hb dX10_monthly_22 (by decide) ?_
    exact hQ hs hE dX10_monthly_23
  · have hE := if_f hc hE
    refine lv_aload_n hx hb dX10_monthly_11 rfl (lv_at hl 0 rfl) ?_
    refine gf_X10_14_0 C hK hs dX10_monthly_12 ?_
    refine lv_iload_n hx hb dX10_monthly_15 rfl (lv_at hl 2 rfl) ?_
    obtain ⟨σ3, r4, hE1, hE⟩ := cl_e hE
    refine x_civ (As := [.int p2]) (rest := []) C hl.1 hK hs hA ⟨Nat.le_refl 0, Nat.le_refl 0⟩ (ctX7_isOne_1 l g _ _ _ _ hE1) (cw_X10_72 C ⟨Nat.le_of_ble_eq_true rfl, Nat.le_of_ble_eq_true rfl⟩) (hs.recv hK 1 (by decide) rfl rfl) rfl rfl (Nat.le_of_ble_eq_true rfl) dX10_monthly_16 (fun H locs hs => ?_)
    refine lv_if_ne (tgt := 24) hx hb dX10_monthly_19 (by decide) (fun hc => ?_) (fun hc => ?_)
    · have hE := if_f hc hE
      refine lv_aload_n hx hb dX10_monthly_24 rfl (lv_at hl 0 rfl) ?_
      refine lv_iload_n hx hb dX10_monthly_25 rfl (lv_at hl 2 rfl) ?_
      refine lv_bipush (v := 20) hx hb dX10_monthly_26 (by decide) ?_
      refine lv_bipush (v := 99) hx hb dX10_monthly_28 (by decide) ?_
      obtain ⟨σ5, r6, hE1, hE⟩ := cl_e hE
      refine x_civ (As := [.int p2, .int 20, .int 99]) (rest := []) C hl.1 hK hs hA ⟨Nat.le_refl 0, Nat.le_refl 0⟩ (ctX10_refuseCells l g _ _ _ _ _ _ hE1) (cw_X10_270 C ⟨Nat.le_of_ble_eq_true rfl, Nat.le_of_ble_eq_true rfl⟩) (hs.recv hK 0 (by decide) rfl rfl) rfl rfl (Nat.le_of_ble_eq_true rfl) dX10_monthly_30 (fun H locs hs => ?_)
      refine lv_istore_n (lv' := [(3, .int r6), (0, .ref (g.2.1 0)), (1, .int p1), (2, .int p2)]) hx hb dX10_monthly_33 rfl hl (by decide) rfl (fun ls hl => ?_)
      refine lv_iload_n hx hb dX10_monthly_34 rfl (lv_at hl 0 rfl) ?_
      refine lv_if_eq (tgt := 40) hx hb dX10_monthly_35 (by decide) (fun hc => ?_) (fun hc => ?_)
      · have hE := if_t hc hE
        refine lv_aload_n hx hb dX10_monthly_40 rfl (lv_at hl 1 rfl) ?_
        refine gf_X10_39_0 C hK hs dX10_monthly_41 ?_
        refine lv_iload_n hx hb dX10_monthly_44 rfl (lv_at hl 2 rfl) ?_
        refine lv_aload_n hx hb dX10_monthly_45 rfl (lv_at hl 1 rfl) ?_
        refine gf_X10_14_0 C hK hs dX10_monthly_46 ?_
        refine lv_iload_n hx hb dX10_monthly_49 rfl (lv_at hl 3 rfl) ?_
        obtain ⟨σ7, r8, hE1, hE⟩ := cl_e hE
        refine x_crv (As := [.int p2]) (rest := [.int p1, .ref (g.2.1 25)]) C hl.1 hK hs hA ⟨Nat.le_refl 0, Nat.le_refl 0⟩ (ctX7_cellsOf_1 l g _ _ _ _ hE1) (cw_X10_121 C ⟨Nat.le_of_ble_eq_true rfl, Nat.le_of_ble_eq_true rfl⟩) (hs.recv hK 1 (by decide) rfl rfl) rfl rfl (Nat.le_of_ble_eq_true rfl) dX10_monthly_50 (fun H locs hs => ?_)
        refine lv_aload_n hx hb dX10_monthly_53 rfl (lv_at hl 1 rfl) ?_
        refine gf_X10_14_0 C hK hs dX10_monthly_54 ?_
        refine lv_iload_n hx hb dX10_monthly_57 rfl (lv_at hl 3 rfl) ?_
        obtain ⟨σ9, r10, hE1, hE⟩ := cl_e hE
        refine x_civ (As := [.int p2]) (rest := [.ref (g.2.1 r8), .int p1, .ref (g.2.1 25)]) C hl.1 hK hs hA ⟨Nat.le_refl 0, Nat.le_refl 0⟩ (ctX7_sizeOf_1 l g _ _ _ _ hE1) (cw_X10_114 C ⟨Nat.le_of_ble_eq_true rfl, Nat.le_of_ble_eq_true rfl⟩) (hs.recv hK 1 (by decide) rfl rfl) rfl rfl (Nat.le_of_ble_eq_true rfl) dX10_monthly_58 (fun H locs hs => ?_)
        obtain ⟨σ11, r12, hE1, hE⟩ := cl_e hE
        refine x_cis (As := [.ref (g.2.1 25), .int p1, .ref (g.2.1 r8), .int r10]) (rest := []) C hl.1 hK hs hA ⟨Nat.le_refl 0, Nat.le_refl 0⟩ (ctX1_incomesBy l g _ _ _ _ _ _ hE1) (cw_X10_282 C ⟨Nat.le_of_ble_eq_true rfl, Nat.le_of_ble_eq_true rfl⟩) rfl rfl (Nat.le_of_ble_eq_true rfl) dX10_monthly_61 (fun H locs hs => ?_)
        exact hQ hs hE dX10_monthly_64
      · have hE := if_f hc hE
        refine lv_iload_n hx hb dX10_monthly_38 rfl (lv_at hl 0 rfl) ?_
        exact hQ hs hE dX10_monthly_39
    · have hE := if_t hc hE
      refine lv_iconst (v := (-1)) hx hb dX10_monthly_22 (by decide) ?_
      exact hQ hs hE dX10_monthly_23
theorem dX10_test_0 : decode cX10_test 0 = .ok (.aload_n 0, 1) := by decide +kernel
theorem dX10_test_1 : decode cX10_test 1 = .ok (.getfield 46, 3) := by decide +kernel
theorem dX10_test_4 : decode cX10_test 4 = .ok (.iload_n 1, 1) := by decide +kernel
theorem dX10_test_5 : decode cX10_test 5 = .ok (.invokevirtual 153, 3) := by decide +kernel
theorem dX10_test_8 : decode cX10_test 8 = .ok (.ifCond .eq 14, 3) := by decide +kernel
theorem dX10_test_11 : decode cX10_test 11 = .ok (.aload_n 0, 1) := by decide +kernel
theorem dX10_test_12 : decode cX10_test 12 = .ok (.getfield 14, 3) := by decide +kernel
theorem dX10_test_15 : decode cX10_test 15 = .ok (.iload_n 2, 1) := by decide +kernel
theorem dX10_test_16 : decode cX10_test 16 = .ok (.invokevirtual 72, 3) := by decide +kernel
theorem dX10_test_19 : decode cX10_test 19 = .ok (.ifCond .ne 5, 3) := by decide +kernel
theorem dX10_test_22 : decode cX10_test 22 = .ok (.iconst (-1), 1) := by decide +kernel
theorem dX10_test_23 : decode cX10_test 23 = .ok (.ireturn, 1) := by decide +kernel
theorem dX10_test_24 : decode cX10_test 24 = .ok (.aload_n 0, 1) := by decide +kernel
theorem dX10_test_25 : decode cX10_test 25 = .ok (.iload_n 2, 1) := by decide +kernel
theorem dX10_test_26 : decode cX10_test 26 = .ok (.bipush 20, 2) := by decide +kernel
theorem dX10_test_28 : decode cX10_test 28 = .ok (.bipush 99, 2) := by decide +kernel
theorem dX10_test_30 : decode cX10_test 30 = .ok (.invokevirtual 270, 3) := by decide +kernel
theorem dX10_test_33 : decode cX10_test 33 = .ok (.istore_n 3, 1) := by decide +kernel
theorem dX10_test_34 : decode cX10_test 34 = .ok (.iload_n 3, 1) := by decide +kernel
theorem dX10_test_35 : decode cX10_test 35 = .ok (.ifCond .eq 5, 3) := by decide +kernel
theorem dX10_test_38 : decode cX10_test 38 = .ok (.iload_n 3, 1) := by decide +kernel
theorem dX10_test_39 : decode cX10_test 39 = .ok (.ireturn, 1) := by decide +kernel
theorem dX10_test_40 : decode cX10_test 40 = .ok (.aload_n 0, 1) := by decide +kernel
theorem dX10_test_41 : decode cX10_test 41 = .ok (.getfield 39, 3) := by decide +kernel
theorem dX10_test_44 : decode cX10_test 44 = .ok (.iload_n 1, 1) := by decide +kernel
theorem dX10_test_45 : decode cX10_test 45 = .ok (.aload_n 0, 1) := by decide +kernel
theorem dX10_test_46 : decode cX10_test 46 = .ok (.getfield 14, 3) := by decide +kernel
theorem dX10_test_49 : decode cX10_test 49 = .ok (.iload_n 2, 1) := by decide +kernel
theorem dX10_test_50 : decode cX10_test 50 = .ok (.invokevirtual 121, 3) := by decide +kernel
theorem dX10_test_53 : decode cX10_test 53 = .ok (.aload_n 0, 1) := by decide +kernel
theorem dX10_test_54 : decode cX10_test 54 = .ok (.getfield 14, 3) := by decide +kernel
theorem dX10_test_57 : decode cX10_test 57 = .ok (.iload_n 2, 1) := by decide +kernel
theorem dX10_test_58 : decode cX10_test 58 = .ok (.invokevirtual 114, 3) := by decide +kernel
theorem dX10_test_61 : decode cX10_test 61 = .ok (.invokestatic 278, 3) := by decide +kernel
theorem dX10_test_64 : decode cX10_test 64 = .ok (.istore 4, 2) := by decide +kernel
theorem dX10_test_66 : decode cX10_test 66 = .ok (.iload 4, 2) := by decide +kernel
theorem dX10_test_68 : decode cX10_test 68 = .ok (.ifCond .ne 6, 3) := by decide +kernel
theorem dX10_test_71 : decode cX10_test 71 = .ok (.bipush (-9), 2) := by decide +kernel
theorem dX10_test_73 : decode cX10_test 73 = .ok (.ireturn, 1) := by decide +kernel
theorem dX10_test_74 : decode cX10_test 74 = .ok (.aload_n 0, 1) := by decide +kernel
theorem dX10_test_75 : decode cX10_test 75 = .ok (.getfield 57, 3) := by decide +kernel
theorem dX10_test_78 : decode cX10_test 78 = .ok (.aload_n 0, 1) := by decide +kernel
theorem dX10_test_79 : decode cX10_test 79 = .ok (.getfield 39, 3) := by decide +kernel
theorem dX10_test_82 : decode cX10_test 82 = .ok (.iload_n 1, 1) := by decide +kernel
theorem dX10_test_83 : decode cX10_test 83 = .ok (.invokevirtual 285, 3) := by decide +kernel
theorem dX10_test_86 : decode cX10_test 86 = .ok (.iconst 0, 1) := by decide +kernel
theorem dX10_test_87 : decode cX10_test 87 = .ok (.istore 5, 2) := by decide +kernel
theorem dX10_test_89 : decode cX10_test 89 = .ok (.bipush 7, 2) := by decide +kernel
theorem dX10_test_91 : decode cX10_test 91 = .ok (.istore 6, 2) := by decide +kernel
theorem dX10_test_93 : decode cX10_test 93 = .ok (.iconst 1, 1) := by decide +kernel
theorem dX10_test_94 : decode cX10_test 94 = .ok (.istore 7, 2) := by decide +kernel
theorem dX10_test_96 : decode cX10_test 96 = .ok (.iload 7, 2) := by decide +kernel
theorem dX10_test_98 : decode cX10_test 98 = .ok (.bipush 20, 2) := by decide +kernel
theorem dX10_test_100 : decode cX10_test 100 = .ok (.if_icmp .gt 47, 3) := by decide +kernel
theorem dX10_test_103 : decode cX10_test 103 = .ok (.aload_n 0, 1) := by decide +kernel
theorem dX10_test_104 : decode cX10_test 104 = .ok (.getfield 57, 3) := by decide +kernel
theorem dX10_test_107 : decode cX10_test 107 = .ok (.aload_n 0, 1) := by decide +kernel
theorem dX10_test_108 : decode cX10_test 108 = .ok (.getfield 39, 3) := by decide +kernel
theorem dX10_test_111 : decode cX10_test 111 = .ok (.iload_n 1, 1) := by decide +kernel
theorem dX10_test_112 : decode cX10_test 112 = .ok (.invokevirtual 289, 3) := by decide +kernel
theorem dX10_test_115 : decode cX10_test 115 = .ok (.aload_n 0, 1) := by decide +kernel
theorem dX10_test_116 : decode cX10_test 116 = .ok (.getfield 57, 3) := by decide +kernel
theorem dX10_test_119 : decode cX10_test 119 = .ok (.iload 4, 2) := by decide +kernel
theorem dX10_test_121 : decode cX10_test 121 = .ok (.invokevirtual 292, 3) := by decide +kernel
theorem dX10_test_124 : decode cX10_test 124 = .ok (.istore 8, 2) := by decide +kernel
theorem dX10_test_126 : decode cX10_test 126 = .ok (.iload 8, 2) := by decide +kernel
theorem dX10_test_128 : decode cX10_test 128 = .ok (.iload 6, 2) := by decide +kernel
theorem dX10_test_130 : decode cX10_test 130 = .ok (.if_icmp .ge 11, 3) := by decide +kernel
theorem dX10_test_133 : decode cX10_test 133 = .ok (.iload 8, 2) := by decide +kernel
theorem dX10_test_135 : decode cX10_test 135 = .ok (.istore 6, 2) := by decide +kernel
theorem dX10_test_137 : decode cX10_test 137 = .ok (.iload 7, 2) := by decide +kernel
theorem dX10_test_139 : decode cX10_test 139 = .ok (.istore 5, 2) := by decide +kernel
theorem dX10_test_141 : decode cX10_test 141 = .ok (.iinc 7 1, 3) := by decide +kernel
theorem dX10_test_144 : decode cX10_test 144 = .ok (.goto (-48), 3) := by decide +kernel
theorem dX10_test_147 : decode cX10_test 147 = .ok (.aload_n 0, 1) := by decide +kernel
theorem dX10_test_148 : decode cX10_test 148 = .ok (.iload 6, 2) := by decide +kernel
theorem dX10_test_150 : decode cX10_test 150 = .ok (.putfield 95, 3) := by decide +kernel
theorem dX10_test_153 : decode cX10_test 153 = .ok (.iload 5, 2) := by decide +kernel
theorem dX10_test_155 : decode cX10_test 155 = .ok (.ireturn, 1) := by decide +kernel
def fX10_test_L96 (p1 : Int32) (r12 : Int32) : Nat → St → Int32 → Int32 → Int32 → (St → Int32 → Int32 → Int32 → Option (St × Int32)) → Option (St × Int32)
  | 0, _, _, _, _, _ => none
  | n + 1, σ15, v16, v17, v18, k => (if 20 < v18 then k σ15 v16 v17 v18 else cl (fX1_passMonth σ15 p1) (fun σ19 r20 => cl (fX1_greatestPart σ19 r12) (fun σ21 r22 => jn (fun (z24 : Int32) (z25 : Int32) => fX10_test_L96 p1 r12 n σ21 z24 z25 (v18 + 1) k) (fun k23 => (if v17 ≤ r22 then k23 v16 v17 else k23 v18 r22)))))
def fX10_test (σ : St) (p1 : Int32) (p2 : Int32) : Option (St × Int32) := cl (fX6_isHouse σ p1) (fun σ1 r2 => (if r2 = 0 then some (σ1, (-1)) else cl (fX7_isOne_1 σ1 p2) (fun σ3 r4 => (if r4 = 0 then some (σ3, (-1)) else cl (fX10_refuseCells σ3 p2 20 99) (fun σ5 r6 => (if r6 = 0 then cl (fX7_cellsOf_1 σ5 p2) (fun σ7 r8 => cl (fX7_sizeOf_1 σ7 p2) (fun σ9 r10 => cl (fX1_kindsBy σ9 p1 r8 r10) (fun σ11 r12 => (if r12 = 0 then some (σ11, (-9)) else cl (fX1_start σ11 p1) (fun σ13 r14 => fX10_test_L96 p1 r12 10000 σ13 0 7 1 (fun σ26 v27 v28 v29 => pt (su σ26 0 11 v28) (fun σ30 => some (σ30, v27)))))))) else some (σ5, r6)))))))
set_option maxHeartbeats 4000000 in
set_option maxRecDepth 100000 in
theorem ctX10_test (l : Launch) (g : GG) (σ : St) (p1 : Int32) (p2 : Int32) (σ' : St) (r : Int32) (hE : fX10_test σ p1 p2 = some (σ', r)) : MI 52 entC l g yX10_test (Cond.code yX10_test cX10_test 9 (some .int) :: gtbl) (rmD 4) [.ref (g.2.1 0), .int p1, .int p2] σ σ' r := by
  refine mi_i (own := RX10) (lv := [(0, .ref (g.2.1 0)), (1, .int p1), (2, .int p2)]) (by decide) rfl (Nat.le_of_ble_eq_true rfl) rfl (fun p e s m below meth c ls args Q A H0 H locs C hK hA hQ hs hl => ?_)
  have hx := C.1
  have hb := C.2.1
  unfold fX10_test at hE
  refine lv_aload_n hx hb dX10_test_0 rfl (lv_at hl 0 rfl) ?_
  refine gf_X10_46_0 C hK hs dX10_test_1 ?_
  refine lv_iload_n hx hb dX10_test_4 rfl (lv_at hl 1 rfl) ?_
  obtain ⟨σ1, r2, hE1, hE⟩ := cl_e hE
  refine x_civ (As := [.int p1]) (rest := []) C hl.1 hK hs hA ⟨Nat.le_refl 0, Nat.le_refl 0⟩ (ctX6_isHouse l g _ _ _ _ hE1) (cw_X10_153 C ⟨Nat.le_of_ble_eq_true rfl, Nat.le_of_ble_eq_true rfl⟩) (hs.recv hK 26 (by decide) rfl rfl) rfl rfl (Nat.le_of_ble_eq_true rfl) dX10_test_5 (fun H locs hs => ?_)
  refine lv_if_eq (tgt := 22) hx hb dX10_test_8 (by decide) (fun hc => ?_) (fun hc => ?_)
  · have hE := if_t hc hE
    refine lv_iconst (v := (-1)) hx hb dX10_test_22 (by decide) ?_
    exact hQ hs hE dX10_test_23
  · have hE := if_f hc hE
    refine lv_aload_n hx hb dX10_test_11 rfl (lv_at hl 0 rfl) ?_
    refine gf_X10_14_0 C hK hs dX10_test_12 ?_
    refine lv_iload_n hx hb dX10_test_15 rfl (lv_at hl 2 rfl) ?_
    obtain ⟨σ3, r4, hE1, hE⟩ := cl_e hE
    refine x_civ (As := [.int p2]) (rest := []) C hl.1 hK hs hA ⟨Nat.le_refl 0, Nat.le_refl 0⟩ (ctX7_isOne_1 l g _ _ _ _ hE1) (cw_X10_72 C ⟨Nat.le_of_ble_eq_true rfl, Nat.le_of_ble_eq_true rfl⟩) (hs.recv hK 1 (by decide) rfl rfl) rfl rfl (Nat.le_of_ble_eq_true rfl) dX10_test_16 (fun H locs hs => ?_)
    refine lv_if_ne (tgt := 24) hx hb dX10_test_19 (by decide) (fun hc => ?_) (fun hc => ?_)
    · have hE := if_f hc hE
      refine lv_aload_n hx hb dX10_test_24 rfl (lv_at hl 0 rfl) ?_
      refine lv_iload_n hx hb dX10_test_25 rfl (lv_at hl 2 rfl) ?_
      refine lv_bipush (v := 20) hx hb dX10_test_26 (by decide) ?_
      refine lv_bipush (v := 99) hx hb dX10_test_28 (by decide) ?_
      obtain ⟨σ5, r6, hE1, hE⟩ := cl_e hE
      refine x_civ (As := [.int p2, .int 20, .int 99]) (rest := []) C hl.1 hK hs hA ⟨Nat.le_refl 0, Nat.le_refl 0⟩ (ctX10_refuseCells l g _ _ _ _ _ _ hE1) (cw_X10_270 C ⟨Nat.le_of_ble_eq_true rfl, Nat.le_of_ble_eq_true rfl⟩) (hs.recv hK 0 (by decide) rfl rfl) rfl rfl (Nat.le_of_ble_eq_true rfl) dX10_test_30 (fun H locs hs => ?_)
      refine lv_istore_n (lv' := [(3, .int r6), (0, .ref (g.2.1 0)), (1, .int p1), (2, .int p2)]) hx hb dX10_test_33 rfl hl (by decide) rfl (fun ls hl => ?_)
      refine lv_iload_n hx hb dX10_test_34 rfl (lv_at hl 0 rfl) ?_
      refine lv_if_eq (tgt := 40) hx hb dX10_test_35 (by decide) (fun hc => ?_) (fun hc => ?_)
      · have hE := if_t hc hE
        refine lv_aload_n hx hb dX10_test_40 rfl (lv_at hl 1 rfl) ?_
        refine gf_X10_39_0 C hK hs dX10_test_41 ?_
        refine lv_iload_n hx hb dX10_test_44 rfl (lv_at hl 2 rfl) ?_
        refine lv_aload_n hx hb dX10_test_45 rfl (lv_at hl 1 rfl) ?_
        refine gf_X10_14_0 C hK hs dX10_test_46 ?_
        refine lv_iload_n hx hb dX10_test_49 rfl (lv_at hl 3 rfl) ?_
        obtain ⟨σ7, r8, hE1, hE⟩ := cl_e hE
        refine x_crv (As := [.int p2]) (rest := [.int p1, .ref (g.2.1 25)]) C hl.1 hK hs hA ⟨Nat.le_refl 0, Nat.le_refl 0⟩ (ctX7_cellsOf_1 l g _ _ _ _ hE1) (cw_X10_121 C ⟨Nat.le_of_ble_eq_true rfl, Nat.le_of_ble_eq_true rfl⟩) (hs.recv hK 1 (by decide) rfl rfl) rfl rfl (Nat.le_of_ble_eq_true rfl) dX10_test_50 (fun H locs hs => ?_)
        refine lv_aload_n hx hb dX10_test_53 rfl (lv_at hl 1 rfl) ?_
        refine gf_X10_14_0 C hK hs dX10_test_54 ?_
        refine lv_iload_n hx hb dX10_test_57 rfl (lv_at hl 3 rfl) ?_
        obtain ⟨σ9, r10, hE1, hE⟩ := cl_e hE
        refine x_civ (As := [.int p2]) (rest := [.ref (g.2.1 r8), .int p1, .ref (g.2.1 25)]) C hl.1 hK hs hA ⟨Nat.le_refl 0, Nat.le_refl 0⟩ (ctX7_sizeOf_1 l g _ _ _ _ hE1) (cw_X10_114 C ⟨Nat.le_of_ble_eq_true rfl, Nat.le_of_ble_eq_true rfl⟩) (hs.recv hK 1 (by decide) rfl rfl) rfl rfl (Nat.le_of_ble_eq_true rfl) dX10_test_58 (fun H locs hs => ?_)
        obtain ⟨σ11, r12, hE1, hE⟩ := cl_e hE
        refine x_cis (As := [.ref (g.2.1 25), .int p1, .ref (g.2.1 r8), .int r10]) (rest := []) C hl.1 hK hs hA ⟨Nat.le_refl 0, Nat.le_refl 0⟩ (ctX1_kindsBy l g _ _ _ _ _ _ hE1) (cw_X10_278 C ⟨Nat.le_of_ble_eq_true rfl, Nat.le_of_ble_eq_true rfl⟩) rfl rfl (Nat.le_of_ble_eq_true rfl) dX10_test_61 (fun H locs hs => ?_)
        refine lv_istore (lv' := [(4, .int r12), (3, .int r6), (0, .ref (g.2.1 0)), (1, .int p1), (2, .int p2)]) hx hb dX10_test_64 hl (by decide) rfl (fun ls hl => ?_)
        refine lv_iload hx hb dX10_test_66 (lv_at hl 0 rfl) ?_
        refine lv_if_ne (tgt := 74) hx hb dX10_test_68 (by decide) (fun hc => ?_) (fun hc => ?_)
        · have hE := if_f hc hE
          refine lv_aload_n hx hb dX10_test_74 rfl (lv_at hl 2 rfl) ?_
          refine gf_X10_57_0 C hK hs dX10_test_75 ?_
          refine lv_aload_n hx hb dX10_test_78 rfl (lv_at hl 2 rfl) ?_
          refine gf_X10_39_0 C hK hs dX10_test_79 ?_
          refine lv_iload_n hx hb dX10_test_82 rfl (lv_at hl 3 rfl) ?_
          obtain ⟨σ13, r14, hE1, hE⟩ := cl_e hE
          refine x_cvv (As := [.ref (g.2.1 25), .int p1]) (rest := []) C hl.1 hK hs hA ⟨Nat.le_refl 0, Nat.le_refl 0⟩ (ctX1_start l g _ _ _ _ hE1) (cw_X10_285 C ⟨Nat.le_of_ble_eq_true rfl, Nat.le_of_ble_eq_true rfl⟩) (hs.recv hK 46 (by decide) rfl rfl) rfl rfl (Nat.le_of_ble_eq_true rfl) dX10_test_83 (fun H locs hs => ?_)
          refine lv_iconst (v := 0) hx hb dX10_test_86 (by decide) ?_
          refine lv_istore (lv' := [(5, .int 0), (4, .int r12), (3, .int r6), (0, .ref (g.2.1 0)), (1, .int p1), (2, .int p2)]) hx hb dX10_test_87 hl (by decide) rfl (fun ls hl => ?_)
          refine lv_bipush (v := 7) hx hb dX10_test_89 (by decide) ?_
          refine lv_istore (lv' := [(6, .int 7), (5, .int 0), (4, .int r12), (3, .int r6), (0, .ref (g.2.1 0)), (1, .int p1), (2, .int p2)]) hx hb dX10_test_91 hl (by decide) rfl (fun ls hl => ?_)
          refine lv_iconst (v := 1) hx hb dX10_test_93 (by decide) ?_
          refine lv_istore (lv' := [(7, .int 1), (6, .int 7), (5, .int 0), (4, .int r12), (3, .int r6), (0, .ref (g.2.1 0)), (1, .int p1), (2, .int p2)]) hx hb dX10_test_94 hl (by decide) rfl (fun ls hl => ?_)
          have hL96 : ∀ (n : Nat) (σ15 : St) (v16 : Int32) (v17 : Int32) (v18 : Int32) (k : St → Int32 → Int32 → Int32 → Option (St × Int32)), fX10_test_L96 p1 r12 n σ15 v16 v17 v18 k = some (σ', r) → (∀ (σ15 : St) (v16 : Int32) (v17 : Int32) (v18 : Int32) (H : Heap) (locs : List Loc) (ls : Array Slot), HW 52 entC g A H0 H locs σ15 → lv_has ls 9 [(0, .ref (g.2.1 0)), (1, .int p1), (4, .int r12), (5, .int v16), (6, .int v17), (7, .int v18)] → k σ15 v16 v17 v18 = some (σ', r) → W p l e (rmD 4) s m args below meth c H locs 0 0 Q (F0 m 147 ls [])) → ∀ (H : Heap) (locs : List Loc) (ls : Array Slot), HW 52 entC g A H0 H locs σ15 → lv_has ls 9 [(0, .ref (g.2.1 0)), (1, .int p1), (4, .int r12), (5, .int v16), (6, .int v17), (7, .int v18)] → W p l e (rmD 4) s m args below meth c H locs 0 0 Q (F0 m 96 ls []) := by
            intro n
            induction n with
            | zero =>
              intro σ15 v16 v17 v18 k hE
              rw [fX10_test_L96] at hE
              exact no_e hE
            | succ n ih =>
              intro σ15 v16 v17 v18 k hE hk H locs ls hs hl
              rw [fX10_test_L96] at hE
              refine lv_iload hx hb dX10_test_96 (lv_at hl 5 rfl) ?_
              refine lv_bipush (v := 20) hx hb dX10_test_98 (by decide) ?_
              refine lv_icmp_gt (tgt := 147) hx hb dX10_test_100 (by decide) (fun hc => ?_) (fun hc => ?_)
              · have hE := if_t hc hE
                exact hk σ15 v16 v17 v18 _ _ _ hs (lv_sub hl [0, 1, 2, 3, 4, 5] rfl) hE
              · have hE := if_f hc hE
                refine lv_aload_n hx hb dX10_test_103 rfl (lv_at hl 0 rfl) ?_
                refine gf_X10_57_0 C hK hs dX10_test_104 ?_
                refine lv_aload_n hx hb dX10_test_107 rfl (lv_at hl 0 rfl) ?_
                refine gf_X10_39_0 C hK hs dX10_test_108 ?_
                refine lv_iload_n hx hb dX10_test_111 rfl (lv_at hl 1 rfl) ?_
                obtain ⟨σ19, r20, hE1, hE⟩ := cl_e hE
                refine x_cvv (As := [.ref (g.2.1 25), .int p1]) (rest := []) C hl.1 hK hs hA ⟨Nat.le_refl 0, Nat.le_refl 0⟩ (ctX1_passMonth l g _ _ _ _ hE1) (cw_X10_289 C ⟨Nat.le_of_ble_eq_true rfl, Nat.le_of_ble_eq_true rfl⟩) (hs.recv hK 46 (by decide) rfl rfl) rfl rfl (Nat.le_of_ble_eq_true rfl) dX10_test_112 (fun H locs hs => ?_)
                refine lv_aload_n hx hb dX10_test_115 rfl (lv_at hl 0 rfl) ?_
                refine gf_X10_57_0 C hK hs dX10_test_116 ?_
                refine lv_iload hx hb dX10_test_119 (lv_at hl 2 rfl) ?_
                obtain ⟨σ21, r22, hE1, hE⟩ := cl_e hE
                refine x_civ (As := [.int r12]) (rest := []) C hl.1 hK hs hA ⟨Nat.le_refl 0, Nat.le_refl 0⟩ (ctX1_greatestPart l g _ _ _ _ hE1) (cw_X10_292 C ⟨Nat.le_of_ble_eq_true rfl, Nat.le_of_ble_eq_true rfl⟩) (hs.recv hK 46 (by decide) rfl rfl) rfl rfl (Nat.le_of_ble_eq_true rfl) dX10_test_121 (fun H locs hs => ?_)
                refine lv_istore (lv' := [(8, .int r22), (0, .ref (g.2.1 0)), (1, .int p1), (4, .int r12), (5, .int v16), (6, .int v17), (7, .int v18)]) hx hb dX10_test_124 hl (by decide) rfl (fun ls hl => ?_)
                refine lv_iload hx hb dX10_test_126 (lv_at hl 0 rfl) ?_
                refine lv_iload hx hb dX10_test_128 (lv_at hl 5 rfl) ?_
                refine jn2 hE (fun k23 hE hk23 => ?_)
                have hJk23 : ∀ (z24 : Int32) (z25 : Int32) (H : Heap) (locs : List Loc) (ls : Array Slot), HW 52 entC g A H0 H locs σ21 → lv_has ls 9 [(0, .ref (g.2.1 0)), (1, .int p1), (4, .int r12), (5, .int z24), (6, .int z25), (7, .int v18)] → k23 z24 z25 = some (σ', r) → W p l e (rmD 4) s m args below meth c H locs 0 0 Q (F0 m 141 ls []) := by
                  intro z24 z25 H locs ls hs hl hE
                  have hE := hk23 _ _ hE
                  refine lv_iinc (v := v18 + 1) (lv' := [(7, .int (v18 + 1)), (0, .ref (g.2.1 0)), (1, .int p1), (4, .int r12), (5, .int z24), (6, .int z25)]) hx hb dX10_test_141 hl (k := 5) rfl rfl (by decide) rfl (fun ls hl => ?_)
                  refine lv_goto (tgt := 96) hx hb dX10_test_144 (by decide) ?_
                  exact ih _ _ _ _ _ hE hk _ _ _ hs (lv_sub hl [1, 2, 3, 4, 5, 0] rfl)
                refine lv_icmp_ge (tgt := 141) hx hb dX10_test_130 (by decide) (fun hc => ?_) (fun hc => ?_)
                · have hE := if_t hc hE
                  exact hJk23 v16 v17 _ _ _ hs (lv_sub hl [1, 2, 3, 4, 5, 6] rfl) hE
                · have hE := if_f hc hE
                  refine lv_iload hx hb dX10_test_133 (lv_at hl 0 rfl) ?_
                  refine lv_istore (lv' := [(6, .int r22), (8, .int r22), (0, .ref (g.2.1 0)), (1, .int p1), (4, .int r12), (5, .int v16), (7, .int v18)]) hx hb dX10_test_135 hl (by decide) rfl (fun ls hl => ?_)
                  refine lv_iload hx hb dX10_test_137 (lv_at hl 6 rfl) ?_
                  refine lv_istore (lv' := [(5, .int v18), (6, .int r22), (8, .int r22), (0, .ref (g.2.1 0)), (1, .int p1), (4, .int r12), (7, .int v18)]) hx hb dX10_test_139 hl (by decide) rfl (fun ls hl => ?_)
                  exact hJk23 v18 r22 _ _ _ hs (lv_sub hl [3, 4, 5, 0, 1, 6] rfl) hE
          refine hL96 _ _ _ _ _ _ hE (fun σ26 v27 v28 v29 H locs ls hs hl hE => ?_) H locs ls hs (lv_sub hl [5, 6, 3, 2, 1, 0] rfl)
          refine lv_aload_n hx hb dX10_test_147 rfl (lv_at hl 0 rfl) ?_
          refine lv_iload hx hb dX10_test_148 (lv_at hl 4 rfl) ?_
          obtain ⟨σ30, eσ30, hE⟩ := pt_w hE
          refine pf_X10_95_0 C hK hs eσ30 dX10_test_150 (fun H locs hs => ?_)
          refine lv_iload hx hb dX10_test_153 (lv_at hl 3 rfl) ?_
          exact hQ hs hE dX10_test_155
        · have hE := if_t hc hE
          refine lv_bipush (v := (-9)) hx hb dX10_test_71 (by decide) ?_
          exact hQ hs hE dX10_test_73
      · have hE := if_f hc hE
        refine lv_iload_n hx hb dX10_test_38 rfl (lv_at hl 0 rfl) ?_
        exact hQ hs hE dX10_test_39
    · have hE := if_t hc hE
      refine lv_iconst (v := (-1)) hx hb dX10_test_22 (by decide) ?_
      exact hQ hs hE dX10_test_23
theorem dX10_duel_0 : decode cX10_duel 0 = .ok (.iload_n 1, 1) := by decide +kernel
theorem dX10_duel_1 : decode cX10_duel 1 = .ok (.ifCond .lt 8, 3) := by decide +kernel
theorem dX10_duel_4 : decode cX10_duel 4 = .ok (.iload_n 1, 1) := by decide +kernel
theorem dX10_duel_5 : decode cX10_duel 5 = .ok (.iconst 3, 1) := by decide +kernel
theorem dX10_duel_6 : decode cX10_duel 6 = .ok (.if_icmp .le 5, 3) := by decide +kernel
theorem dX10_duel_9 : decode cX10_duel 9 = .ok (.iconst (-1), 1) := by decide +kernel
theorem dX10_duel_10 : decode cX10_duel 10 = .ok (.ireturn, 1) := by decide +kernel
theorem dX10_duel_11 : decode cX10_duel 11 = .ok (.aload_n 0, 1) := by decide +kernel
theorem dX10_duel_12 : decode cX10_duel 12 = .ok (.getfield 46, 3) := by decide +kernel
theorem dX10_duel_15 : decode cX10_duel 15 = .ok (.getfield 138, 3) := by decide +kernel
theorem dX10_duel_18 : decode cX10_duel 18 = .ok (.ifCond .ne 6, 3) := by decide +kernel
theorem dX10_duel_21 : decode cX10_duel 21 = .ok (.bipush (-4), 2) := by decide +kernel
theorem dX10_duel_23 : decode cX10_duel 23 = .ok (.ireturn, 1) := by decide +kernel
theorem dX10_duel_24 : decode cX10_duel 24 = .ok (.aload_n 0, 1) := by decide +kernel
theorem dX10_duel_25 : decode cX10_duel 25 = .ok (.getfield 50, 3) := by decide +kernel
theorem dX10_duel_28 : decode cX10_duel 28 = .ok (.aload_n 0, 1) := by decide +kernel
theorem dX10_duel_29 : decode cX10_duel 29 = .ok (.getfield 39, 3) := by decide +kernel
theorem dX10_duel_32 : decode cX10_duel 32 = .ok (.iload_n 1, 1) := by decide +kernel
theorem dX10_duel_33 : decode cX10_duel 33 = .ok (.invokevirtual 295, 3) := by decide +kernel
theorem dX10_duel_36 : decode cX10_duel 36 = .ok (.ireturn, 1) := by decide +kernel
def fX10_duel (σ : St) (p1 : Int32) : Option (St × Int32) := (if p1 < 0 then some (σ, (-1)) else (if p1 ≤ 3 then (if (σ.1 26 7) = 0 then some (σ, (-4)) else cl (fX4_duelOf σ p1) (fun σ1 r2 => some (σ1, r2))) else some (σ, (-1))))
set_option maxHeartbeats 4000000 in
set_option maxRecDepth 100000 in
theorem ctX10_duel (l : Launch) (g : GG) (σ : St) (p1 : Int32) (σ' : St) (r : Int32) (hE : fX10_duel σ p1 = some (σ', r)) : MI 52 entC l g yX10_duel (Cond.code yX10_duel cX10_duel 2 (some .int) :: gtbl) (rmD 7) [.ref (g.2.1 0), .int p1] σ σ' r := by
  refine mi_i (own := RX10) (lv := [(0, .ref (g.2.1 0)), (1, .int p1)]) (by decide) rfl (Nat.le_of_ble_eq_true rfl) rfl (fun p e s m below meth c ls args Q A H0 H locs C hK hA hQ hs hl => ?_)
  have hx := C.1
  have hb := C.2.1
  unfold fX10_duel at hE
  refine lv_iload_n hx hb dX10_duel_0 rfl (lv_at hl 1 rfl) ?_
  refine lv_if_lt (tgt := 9) hx hb dX10_duel_1 (by decide) (fun hc => ?_) (fun hc => ?_)
  · have hE := if_t hc hE
    refine lv_iconst (v := (-1)) hx hb dX10_duel_9 (by decide) ?_
    exact hQ hs hE dX10_duel_10
  · have hE := if_f hc hE
    refine lv_iload_n hx hb dX10_duel_4 rfl (lv_at hl 1 rfl) ?_
    refine lv_iconst (v := 3) hx hb dX10_duel_5 (by decide) ?_
    refine lv_icmp_le (tgt := 11) hx hb dX10_duel_6 (by decide) (fun hc => ?_) (fun hc => ?_)
    · have hE := if_t hc hE
      refine lv_aload_n hx hb dX10_duel_11 rfl (lv_at hl 0 rfl) ?_
      refine gf_X10_46_0 C hK hs dX10_duel_12 ?_
      refine gf_X10_138_26 C hK hs dX10_duel_15 ?_
      refine lv_if_ne (tgt := 24) hx hb dX10_duel_18 (by decide) (fun hc => ?_) (fun hc => ?_)
      · have hE := if_f hc hE
        refine lv_aload_n hx hb dX10_duel_24 rfl (lv_at hl 0 rfl) ?_
        refine gf_X10_50_0 C hK hs dX10_duel_25 ?_
        refine lv_aload_n hx hb dX10_duel_28 rfl (lv_at hl 0 rfl) ?_
        refine gf_X10_39_0 C hK hs dX10_duel_29 ?_
        refine lv_iload_n hx hb dX10_duel_32 rfl (lv_at hl 1 rfl) ?_
        obtain ⟨σ1, r2, hE1, hE⟩ := cl_e hE
        refine x_civ (As := [.ref (g.2.1 25), .int p1]) (rest := []) C hl.1 hK hs hA ⟨Nat.le_refl 0, Nat.le_refl 0⟩ (ctX4_duelOf l g _ _ _ _ hE1) (cw_X10_295 C ⟨Nat.le_of_ble_eq_true rfl, Nat.le_of_ble_eq_true rfl⟩) (hs.recv hK 41 (by decide) rfl rfl) rfl rfl (Nat.le_of_ble_eq_true rfl) dX10_duel_33 (fun H locs hs => ?_)
        exact hQ hs hE dX10_duel_36
      · have hE := if_t hc hE
        refine lv_bipush (v := (-4)) hx hb dX10_duel_21 (by decide) ?_
        exact hQ hs hE dX10_duel_23
    · have hE := if_f hc hE
      refine lv_iconst (v := (-1)) hx hb dX10_duel_9 (by decide) ?_
      exact hQ hs hE dX10_duel_10
theorem dX10_isChance_0 : decode cX10_isChance 0 = .ok (.iload_n 0, 1) := by decide +kernel
theorem dX10_isChance_1 : decode cX10_isChance 1 = .ok (.ifCond .lt 23, 3) := by decide +kernel
theorem dX10_isChance_4 : decode cX10_isChance 4 = .ok (.iload_n 0, 1) := by decide +kernel
theorem dX10_isChance_5 : decode cX10_isChance 5 = .ok (.bipush 20, 2) := by decide +kernel
theorem dX10_isChance_7 : decode cX10_isChance 7 = .ok (.if_icmp .gt 17, 3) := by decide +kernel
theorem dX10_isChance_10 : decode cX10_isChance 10 = .ok (.iload_n 1, 1) := by decide +kernel
theorem dX10_isChance_11 : decode cX10_isChance 11 = .ok (.ifCond .lt 13, 3) := by decide +kernel
theorem dX10_isChance_14 : decode cX10_isChance 14 = .ok (.iload_n 1, 1) := by decide +kernel
theorem dX10_isChance_15 : decode cX10_isChance 15 = .ok (.bipush 12, 2) := by decide +kernel
theorem dX10_isChance_17 : decode cX10_isChance 17 = .ok (.if_icmp .gt 7, 3) := by decide +kernel
theorem dX10_isChance_20 : decode cX10_isChance 20 = .ok (.iconst 1, 1) := by decide +kernel
theorem dX10_isChance_21 : decode cX10_isChance 21 = .ok (.goto 4, 3) := by decide +kernel
theorem dX10_isChance_24 : decode cX10_isChance 24 = .ok (.iconst 0, 1) := by decide +kernel
theorem dX10_isChance_25 : decode cX10_isChance 25 = .ok (.ireturn, 1) := by decide +kernel
def fX10_isChance (σ : St) (p0 : Int32) (p1 : Int32) : Option (St × Int32) := (if p0 < 0 then some (σ, 0) else (if 20 < p0 then some (σ, 0) else (if p1 < 0 then some (σ, 0) else (if 12 < p1 then some (σ, 0) else some (σ, 1)))))
set_option maxHeartbeats 4000000 in
set_option maxRecDepth 100000 in
theorem ctX10_isChance (l : Launch) (g : GG) (σ : St) (p0 : Int32) (p1 : Int32) (σ' : St) (r : Int32) (hE : fX10_isChance σ p0 p1 = some (σ', r)) : MI 52 entC l g yX10_isChance (Cond.code yX10_isChance cX10_isChance 2 (some .boolean) :: gtbl) (rmD 1) [.int p0, .int p1] σ σ' r := by
  refine mi_z (own := RX10) (lv := [(0, .int p0), (1, .int p1)]) (by decide) rfl (Nat.le_of_ble_eq_true rfl) rfl (fun p e s m below meth c ls args Q A H0 H locs C hK hA hQ hs hl => ?_)
  have hx := C.1
  have hb := C.2.1
  unfold fX10_isChance at hE
  refine lv_iload_n hx hb dX10_isChance_0 rfl (lv_at hl 0 rfl) ?_
  refine lv_if_lt (tgt := 24) hx hb dX10_isChance_1 (by decide) (fun hc => ?_) (fun hc => ?_)
  · have hE := if_t hc hE
    refine lv_iconst (v := 0) hx hb dX10_isChance_24 (by decide) ?_
    exact hQ hs rfl hE dX10_isChance_25
  · have hE := if_f hc hE
    refine lv_iload_n hx hb dX10_isChance_4 rfl (lv_at hl 0 rfl) ?_
    refine lv_bipush (v := 20) hx hb dX10_isChance_5 (by decide) ?_
    refine lv_icmp_gt (tgt := 24) hx hb dX10_isChance_7 (by decide) (fun hc => ?_) (fun hc => ?_)
    · have hE := if_t hc hE
      refine lv_iconst (v := 0) hx hb dX10_isChance_24 (by decide) ?_
      exact hQ hs rfl hE dX10_isChance_25
    · have hE := if_f hc hE
      refine lv_iload_n hx hb dX10_isChance_10 rfl (lv_at hl 1 rfl) ?_
      refine lv_if_lt (tgt := 24) hx hb dX10_isChance_11 (by decide) (fun hc => ?_) (fun hc => ?_)
      · have hE := if_t hc hE
        refine lv_iconst (v := 0) hx hb dX10_isChance_24 (by decide) ?_
        exact hQ hs rfl hE dX10_isChance_25
      · have hE := if_f hc hE
        refine lv_iload_n hx hb dX10_isChance_14 rfl (lv_at hl 1 rfl) ?_
        refine lv_bipush (v := 12) hx hb dX10_isChance_15 (by decide) ?_
        refine lv_icmp_gt (tgt := 24) hx hb dX10_isChance_17 (by decide) (fun hc => ?_) (fun hc => ?_)
        · have hE := if_t hc hE
          refine lv_iconst (v := 0) hx hb dX10_isChance_24 (by decide) ?_
          exact hQ hs rfl hE dX10_isChance_25
        · have hE := if_f hc hE
          refine lv_iconst (v := 1) hx hb dX10_isChance_20 (by decide) ?_
          refine lv_goto (tgt := 25) hx hb dX10_isChance_21 (by decide) ?_
          exact hQ hs rfl hE dX10_isChance_25
theorem dX10_odds_0 : decode cX10_odds 0 = .ok (.iload_n 1, 1) := by decide +kernel
theorem dX10_odds_1 : decode cX10_odds 1 = .ok (.ifCond .lt 18, 3) := by decide +kernel
theorem dX10_odds_4 : decode cX10_odds 4 = .ok (.iload_n 1, 1) := by decide +kernel
theorem dX10_odds_5 : decode cX10_odds 5 = .ok (.sipush 600, 3) := by decide +kernel
theorem dX10_odds_8 : decode cX10_odds 8 = .ok (.if_icmp .gt 11, 3) := by decide +kernel
theorem dX10_odds_11 : decode cX10_odds 11 = .ok (.iload_n 2, 1) := by decide +kernel
theorem dX10_odds_12 : decode cX10_odds 12 = .ok (.iload_n 3, 1) := by decide +kernel
theorem dX10_odds_13 : decode cX10_odds 13 = .ok (.invokestatic 298, 3) := by decide +kernel
theorem dX10_odds_16 : decode cX10_odds 16 = .ok (.ifCond .ne 5, 3) := by decide +kernel
theorem dX10_odds_19 : decode cX10_odds 19 = .ok (.iconst (-1), 1) := by decide +kernel
theorem dX10_odds_20 : decode cX10_odds 20 = .ok (.ireturn, 1) := by decide +kernel
theorem dX10_odds_21 : decode cX10_odds 21 = .ok (.aload_n 0, 1) := by decide +kernel
theorem dX10_odds_22 : decode cX10_odds 22 = .ok (.getfield 46, 3) := by decide +kernel
theorem dX10_odds_25 : decode cX10_odds 25 = .ok (.getfield 138, 3) := by decide +kernel
theorem dX10_odds_28 : decode cX10_odds 28 = .ok (.ifCond .ne 6, 3) := by decide +kernel
theorem dX10_odds_31 : decode cX10_odds 31 = .ok (.bipush (-4), 2) := by decide +kernel
theorem dX10_odds_33 : decode cX10_odds 33 = .ok (.ireturn, 1) := by decide +kernel
theorem dX10_odds_34 : decode cX10_odds 34 = .ok (.aload_n 0, 1) := by decide +kernel
theorem dX10_odds_35 : decode cX10_odds 35 = .ok (.getfield 64, 3) := by decide +kernel
theorem dX10_odds_38 : decode cX10_odds 38 = .ok (.aload_n 0, 1) := by decide +kernel
theorem dX10_odds_39 : decode cX10_odds 39 = .ok (.getfield 39, 3) := by decide +kernel
theorem dX10_odds_42 : decode cX10_odds 42 = .ok (.iload_n 1, 1) := by decide +kernel
theorem dX10_odds_43 : decode cX10_odds 43 = .ok (.iload_n 2, 1) := by decide +kernel
theorem dX10_odds_44 : decode cX10_odds 44 = .ok (.iload_n 3, 1) := by decide +kernel
theorem dX10_odds_45 : decode cX10_odds 45 = .ok (.invokevirtual 301, 3) := by decide +kernel
theorem dX10_odds_48 : decode cX10_odds 48 = .ok (.iconst 1, 1) := by decide +kernel
theorem dX10_odds_49 : decode cX10_odds 49 = .ok (.ireturn, 1) := by decide +kernel
def fX10_odds (σ : St) (p1 : Int32) (p2 : Int32) (p3 : Int32) : Option (St × Int32) := (if p1 < 0 then some (σ, (-1)) else (if 600 < p1 then some (σ, (-1)) else cl (fX10_isChance σ p2 p3) (fun σ1 r2 => (if r2 = 0 then some (σ1, (-1)) else (if (σ1.1 26 7) = 0 then some (σ1, (-4)) else cl (fX0_tellOdds σ1 p1 p2 p3) (fun σ3 r4 => some (σ3, 1)))))))
set_option maxHeartbeats 4000000 in
set_option maxRecDepth 100000 in
theorem ctX10_odds (l : Launch) (g : GG) (σ : St) (p1 : Int32) (p2 : Int32) (p3 : Int32) (σ' : St) (r : Int32) (hE : fX10_odds σ p1 p2 p3 = some (σ', r)) : MI 52 entC l g yX10_odds (Cond.code yX10_odds cX10_odds 4 (some .int) :: gtbl) (rmD 5) [.ref (g.2.1 0), .int p1, .int p2, .int p3] σ σ' r := by
  refine mi_i (own := RX10) (lv := [(0, .ref (g.2.1 0)), (1, .int p1), (2, .int p2), (3, .int p3)]) (by decide) rfl (Nat.le_of_ble_eq_true rfl) rfl (fun p e s m below meth c ls args Q A H0 H locs C hK hA hQ hs hl => ?_)
  have hx := C.1
  have hb := C.2.1
  unfold fX10_odds at hE
  refine lv_iload_n hx hb dX10_odds_0 rfl (lv_at hl 1 rfl) ?_
  refine lv_if_lt (tgt := 19) hx hb dX10_odds_1 (by decide) (fun hc => ?_) (fun hc => ?_)
  · have hE := if_t hc hE
    refine lv_iconst (v := (-1)) hx hb dX10_odds_19 (by decide) ?_
    exact hQ hs hE dX10_odds_20
  · have hE := if_f hc hE
    refine lv_iload_n hx hb dX10_odds_4 rfl (lv_at hl 1 rfl) ?_
    refine lv_sipush (v := 600) hx hb dX10_odds_5 (by decide) ?_
    refine lv_icmp_gt (tgt := 19) hx hb dX10_odds_8 (by decide) (fun hc => ?_) (fun hc => ?_)
    · have hE := if_t hc hE
      refine lv_iconst (v := (-1)) hx hb dX10_odds_19 (by decide) ?_
      exact hQ hs hE dX10_odds_20
    · have hE := if_f hc hE
      refine lv_iload_n hx hb dX10_odds_11 rfl (lv_at hl 2 rfl) ?_
      refine lv_iload_n hx hb dX10_odds_12 rfl (lv_at hl 3 rfl) ?_
      obtain ⟨σ1, r2, hE1, hE⟩ := cl_e hE
      refine x_cis (As := [.int p2, .int p3]) (rest := []) C hl.1 hK hs hA ⟨Nat.le_refl 0, Nat.le_refl 0⟩ (ctX10_isChance l g _ _ _ _ _ hE1) (cw_X10_298 C ⟨Nat.le_of_ble_eq_true rfl, Nat.le_of_ble_eq_true rfl⟩) rfl rfl (Nat.le_of_ble_eq_true rfl) dX10_odds_13 (fun H locs hs => ?_)
      refine lv_if_ne (tgt := 21) hx hb dX10_odds_16 (by decide) (fun hc => ?_) (fun hc => ?_)
      · have hE := if_f hc hE
        refine lv_aload_n hx hb dX10_odds_21 rfl (lv_at hl 0 rfl) ?_
        refine gf_X10_46_0 C hK hs dX10_odds_22 ?_
        refine gf_X10_138_26 C hK hs dX10_odds_25 ?_
        refine lv_if_ne (tgt := 34) hx hb dX10_odds_28 (by decide) (fun hc => ?_) (fun hc => ?_)
        · have hE := if_f hc hE
          refine lv_aload_n hx hb dX10_odds_34 rfl (lv_at hl 0 rfl) ?_
          refine gf_X10_64_0 C hK hs dX10_odds_35 ?_
          refine lv_aload_n hx hb dX10_odds_38 rfl (lv_at hl 0 rfl) ?_
          refine gf_X10_39_0 C hK hs dX10_odds_39 ?_
          refine lv_iload_n hx hb dX10_odds_42 rfl (lv_at hl 1 rfl) ?_
          refine lv_iload_n hx hb dX10_odds_43 rfl (lv_at hl 2 rfl) ?_
          refine lv_iload_n hx hb dX10_odds_44 rfl (lv_at hl 3 rfl) ?_
          obtain ⟨σ3, r4, hE1, hE⟩ := cl_e hE
          refine x_cvv (As := [.ref (g.2.1 25), .int p1, .int p2, .int p3]) (rest := []) C hl.1 hK hs hA ⟨Nat.le_refl 0, Nat.le_refl 0⟩ (ctX0_tellOdds l g _ _ _ _ _ _ hE1) (cw_X10_301 C ⟨Nat.le_of_ble_eq_true rfl, Nat.le_of_ble_eq_true rfl⟩) (hs.recv hK 48 (by decide) rfl rfl) rfl rfl (Nat.le_of_ble_eq_true rfl) dX10_odds_45 (fun H locs hs => ?_)
          refine lv_iconst (v := 1) hx hb dX10_odds_48 (by decide) ?_
          exact hQ hs hE dX10_odds_49
        · have hE := if_t hc hE
          refine lv_bipush (v := (-4)) hx hb dX10_odds_31 (by decide) ?_
          exact hQ hs hE dX10_odds_33
      · have hE := if_t hc hE
        refine lv_iconst (v := (-1)) hx hb dX10_odds_19 (by decide) ?_
        exact hQ hs hE dX10_odds_20
