theorem dX10_town_0 : decode cX10_town 0 = .ok (.aload_n 0, 1) := by decide +kernel
theorem dX10_town_1 : decode cX10_town 1 = .ok (.getfield 18, 3) := by decide +kernel
theorem dX10_town_4 : decode cX10_town 4 = .ok (.iload_n 1, 1) := by decide +kernel
theorem dX10_town_5 : decode cX10_town 5 = .ok (.invokevirtual 72, 3) := by decide +kernel
theorem dX10_town_8 : decode cX10_town 8 = .ok (.ifCond .ne 5, 3) := by decide +kernel
theorem dX10_town_11 : decode cX10_town 11 = .ok (.iconst (-1), 1) := by decide +kernel
theorem dX10_town_12 : decode cX10_town 12 = .ok (.ireturn, 1) := by decide +kernel
theorem dX10_town_13 : decode cX10_town 13 = .ok (.aload_n 0, 1) := by decide +kernel
theorem dX10_town_14 : decode cX10_town 14 = .ok (.getfield 18, 3) := by decide +kernel
theorem dX10_town_17 : decode cX10_town 17 = .ok (.iload_n 1, 1) := by decide +kernel
theorem dX10_town_18 : decode cX10_town 18 = .ok (.invokevirtual 84, 3) := by decide +kernel
theorem dX10_town_21 : decode cX10_town 21 = .ok (.ifCond .eq 9, 3) := by decide +kernel
theorem dX10_town_24 : decode cX10_town 24 = .ok (.aload_n 0, 1) := by decide +kernel
theorem dX10_town_25 : decode cX10_town 25 = .ok (.iconst 1, 1) := by decide +kernel
theorem dX10_town_26 : decode cX10_town 26 = .ok (.invokevirtual 76, 3) := by decide +kernel
theorem dX10_town_29 : decode cX10_town 29 = .ok (.ireturn, 1) := by decide +kernel
theorem dX10_town_30 : decode cX10_town 30 = .ok (.aload_n 0, 1) := by decide +kernel
theorem dX10_town_31 : decode cX10_town 31 = .ok (.getfield 24, 3) := by decide +kernel
theorem dX10_town_34 : decode cX10_town 34 = .ok (.aload_n 0, 1) := by decide +kernel
theorem dX10_town_35 : decode cX10_town 35 = .ok (.getfield 18, 3) := by decide +kernel
theorem dX10_town_38 : decode cX10_town 38 = .ok (.iload_n 1, 1) := by decide +kernel
theorem dX10_town_39 : decode cX10_town 39 = .ok (.invokevirtual 121, 3) := by decide +kernel
theorem dX10_town_42 : decode cX10_town 42 = .ok (.aload_n 0, 1) := by decide +kernel
theorem dX10_town_43 : decode cX10_town 43 = .ok (.getfield 18, 3) := by decide +kernel
theorem dX10_town_46 : decode cX10_town 46 = .ok (.iload_n 1, 1) := by decide +kernel
theorem dX10_town_47 : decode cX10_town 47 = .ok (.invokevirtual 114, 3) := by decide +kernel
theorem dX10_town_50 : decode cX10_town 50 = .ok (.invokevirtual 125, 3) := by decide +kernel
theorem dX10_town_53 : decode cX10_town 53 = .ok (.bipush (-9), 2) := by decide +kernel
theorem dX10_town_55 : decode cX10_town 55 = .ok (.if_icmp .eq 6, 3) := by decide +kernel
theorem dX10_town_58 : decode cX10_town 58 = .ok (.bipush (-4), 2) := by decide +kernel
theorem dX10_town_60 : decode cX10_town 60 = .ok (.ireturn, 1) := by decide +kernel
theorem dX10_town_61 : decode cX10_town 61 = .ok (.aload_n 0, 1) := by decide +kernel
theorem dX10_town_62 : decode cX10_town 62 = .ok (.getfield 46, 3) := by decide +kernel
theorem dX10_town_65 : decode cX10_town 65 = .ok (.aload_n 0, 1) := by decide +kernel
theorem dX10_town_66 : decode cX10_town 66 = .ok (.getfield 24, 3) := by decide +kernel
theorem dX10_town_69 : decode cX10_town 69 = .ok (.aload_n 0, 1) := by decide +kernel
theorem dX10_town_70 : decode cX10_town 70 = .ok (.getfield 18, 3) := by decide +kernel
theorem dX10_town_73 : decode cX10_town 73 = .ok (.iload_n 1, 1) := by decide +kernel
theorem dX10_town_74 : decode cX10_town 74 = .ok (.invokevirtual 121, 3) := by decide +kernel
theorem dX10_town_77 : decode cX10_town 77 = .ok (.invokevirtual 129, 3) := by decide +kernel
theorem dX10_town_80 : decode cX10_town 80 = .ok (.aload_n 0, 1) := by decide +kernel
theorem dX10_town_81 : decode cX10_town 81 = .ok (.getfield 31, 3) := by decide +kernel
theorem dX10_town_84 : decode cX10_town 84 = .ok (.invokevirtual 135, 3) := by decide +kernel
theorem dX10_town_87 : decode cX10_town 87 = .ok (.aload_n 0, 1) := by decide +kernel
theorem dX10_town_88 : decode cX10_town 88 = .ok (.getfield 46, 3) := by decide +kernel
theorem dX10_town_91 : decode cX10_town 91 = .ok (.getfield 138, 3) := by decide +kernel
theorem dX10_town_94 : decode cX10_town 94 = .ok (.ireturn, 1) := by decide +kernel
def fX10_town (σ : St) (p1 : Int32) : Option (St × Int32) := cl (fX7_isOne_10 σ p1) (fun σ1 r2 => (if r2 = 0 then some (σ1, (-1)) else cl (fX7_isMissing_10 σ1 p1) (fun σ3 r4 => (if r4 = 0 then cl (fX7_cellsOf_10 σ3 p1) (fun σ5 r6 => cl (fX7_sizeOf_10 σ5 p1) (fun σ7 r8 => cl (fX8_read σ7 r6 r8) (fun σ9 r10 => (if r10 = (-9) then cl (fX7_cellsOf_10 σ9 p1) (fun σ11 r12 => cl (fX6_take σ11 r12) (fun σ13 r14 => cl (fX3_begin σ13) (fun σ15 r16 => some (σ15, σ15.1 26 7)))) else some (σ9, (-4)))))) else cl (fX10_refuse σ3 1) (fun σ17 r18 => some (σ17, r18))))))
set_option maxHeartbeats 4000000 in
set_option maxRecDepth 100000 in
theorem ctX10_town (l : Launch) (g : GG) (σ : St) (p1 : Int32) (σ' : St) (r : Int32) (hE : fX10_town σ p1 = some (σ', r)) : MI 52 entC l g yX10_town (Cond.code yX10_town cX10_town 2 (some .int) :: gtbl) (rmD 7) [.ref (g.2.1 0), .int p1] σ σ' r := by
  refine mi_i (own := RX10) (lv := [(0, .ref (g.2.1 0)), (1, .int p1)]) (by decide) rfl (Nat.le_of_ble_eq_true rfl) rfl (fun p e s m below meth c ls args Q A H0 H locs C hK hA hQ hs hl => ?_)
  have hx := C.1
  have hb := C.2.1
  unfold fX10_town at hE
  refine lv_aload_n hx hb dX10_town_0 rfl (lv_at hl 0 rfl) ?_
  refine gf_X10_18_0 C hK hs dX10_town_1 ?_
  refine lv_iload_n hx hb dX10_town_4 rfl (lv_at hl 1 rfl) ?_
  obtain ⟨σ1, r2, hE1, hE⟩ := cl_e hE
  refine x_civ (As := [.int p1]) (rest := []) C hl.1 hK hs hA ⟨Nat.le_refl 0, Nat.le_refl 0⟩ (ctX7_isOne_10 l g _ _ _ _ hE1) (cw_X10_72 C ⟨Nat.le_of_ble_eq_true rfl, Nat.le_of_ble_eq_true rfl⟩) (hs.recv hK 10 (by decide) rfl rfl) rfl rfl (Nat.le_of_ble_eq_true rfl) dX10_town_5 (fun H locs hs => ?_)
  refine lv_if_ne (tgt := 13) hx hb dX10_town_8 (by decide) (fun hc => ?_) (fun hc => ?_)
  · have hE := if_f hc hE
    refine lv_aload_n hx hb dX10_town_13 rfl (lv_at hl 0 rfl) ?_
    refine gf_X10_18_0 C hK hs dX10_town_14 ?_
    refine lv_iload_n hx hb dX10_town_17 rfl (lv_at hl 1 rfl) ?_
    obtain ⟨σ3, r4, hE1, hE⟩ := cl_e hE
    refine x_civ (As := [.int p1]) (rest := []) C hl.1 hK hs hA ⟨Nat.le_refl 0, Nat.le_refl 0⟩ (ctX7_isMissing_10 l g _ _ _ _ hE1) (cw_X10_84 C ⟨Nat.le_of_ble_eq_true rfl, Nat.le_of_ble_eq_true rfl⟩) (hs.recv hK 10 (by decide) rfl rfl) rfl rfl (Nat.le_of_ble_eq_true rfl) dX10_town_18 (fun H locs hs => ?_)
    refine lv_if_eq (tgt := 30) hx hb dX10_town_21 (by decide) (fun hc => ?_) (fun hc => ?_)
    · have hE := if_t hc hE
      refine lv_aload_n hx hb dX10_town_30 rfl (lv_at hl 0 rfl) ?_
      refine gf_X10_24_0 C hK hs dX10_town_31 ?_
      refine lv_aload_n hx hb dX10_town_34 rfl (lv_at hl 0 rfl) ?_
      refine gf_X10_18_0 C hK hs dX10_town_35 ?_
      refine lv_iload_n hx hb dX10_town_38 rfl (lv_at hl 1 rfl) ?_
      obtain ⟨σ5, r6, hE1, hE⟩ := cl_e hE
      refine x_crv (As := [.int p1]) (rest := [.ref (g.2.1 17)]) C hl.1 hK hs hA ⟨Nat.le_refl 0, Nat.le_refl 0⟩ (ctX7_cellsOf_10 l g _ _ _ _ hE1) (cw_X10_121 C ⟨Nat.le_of_ble_eq_true rfl, Nat.le_of_ble_eq_true rfl⟩) (hs.recv hK 10 (by decide) rfl rfl) rfl rfl (Nat.le_of_ble_eq_true rfl) dX10_town_39 (fun H locs hs => ?_)
      refine lv_aload_n hx hb dX10_town_42 rfl (lv_at hl 0 rfl) ?_
      refine gf_X10_18_0 C hK hs dX10_town_43 ?_
      refine lv_iload_n hx hb dX10_town_46 rfl (lv_at hl 1 rfl) ?_
      obtain ⟨σ7, r8, hE1, hE⟩ := cl_e hE
      refine x_civ (As := [.int p1]) (rest := [.ref (g.2.1 r6), .ref (g.2.1 17)]) C hl.1 hK hs hA ⟨Nat.le_refl 0, Nat.le_refl 0⟩ (ctX7_sizeOf_10 l g _ _ _ _ hE1) (cw_X10_114 C ⟨Nat.le_of_ble_eq_true rfl, Nat.le_of_ble_eq_true rfl⟩) (hs.recv hK 10 (by decide) rfl rfl) rfl rfl (Nat.le_of_ble_eq_true rfl) dX10_town_47 (fun H locs hs => ?_)
      obtain ⟨σ9, r10, hE1, hE⟩ := cl_e hE
      refine x_civ (As := [.ref (g.2.1 r6), .int r8]) (rest := []) C hl.1 hK hs hA ⟨Nat.le_refl 0, Nat.le_refl 0⟩ (ctX8_read l g _ _ _ _ _ hE1) (cw_X10_125 C ⟨Nat.le_of_ble_eq_true rfl, Nat.le_of_ble_eq_true rfl⟩) (hs.recv hK 17 (by decide) rfl rfl) rfl rfl (Nat.le_of_ble_eq_true rfl) dX10_town_50 (fun H locs hs => ?_)
      refine lv_bipush (v := (-9)) hx hb dX10_town_53 (by decide) ?_
      refine lv_icmp_eq (tgt := 61) hx hb dX10_town_55 (by decide) (fun hc => ?_) (fun hc => ?_)
      · have hE := if_t hc hE
        refine lv_aload_n hx hb dX10_town_61 rfl (lv_at hl 0 rfl) ?_
        refine gf_X10_46_0 C hK hs dX10_town_62 ?_
        refine lv_aload_n hx hb dX10_town_65 rfl (lv_at hl 0 rfl) ?_
        refine gf_X10_24_0 C hK hs dX10_town_66 ?_
        refine lv_aload_n hx hb dX10_town_69 rfl (lv_at hl 0 rfl) ?_
        refine gf_X10_18_0 C hK hs dX10_town_70 ?_
        refine lv_iload_n hx hb dX10_town_73 rfl (lv_at hl 1 rfl) ?_
        obtain ⟨σ11, r12, hE1, hE⟩ := cl_e hE
        refine x_crv (As := [.int p1]) (rest := [.ref (g.2.1 17), .ref (g.2.1 26)]) C hl.1 hK hs hA ⟨Nat.le_refl 0, Nat.le_refl 0⟩ (ctX7_cellsOf_10 l g _ _ _ _ hE1) (cw_X10_121 C ⟨Nat.le_of_ble_eq_true rfl, Nat.le_of_ble_eq_true rfl⟩) (hs.recv hK 10 (by decide) rfl rfl) rfl rfl (Nat.le_of_ble_eq_true rfl) dX10_town_74 (fun H locs hs => ?_)
        obtain ⟨σ13, r14, hE1, hE⟩ := cl_e hE
        refine x_cvv (As := [.ref (g.2.1 17), .ref (g.2.1 r12)]) (rest := []) C hl.1 hK hs hA ⟨Nat.le_refl 0, Nat.le_refl 0⟩ (ctX6_take l g _ _ _ _ hE1) (cw_X10_129 C ⟨Nat.le_of_ble_eq_true rfl, Nat.le_of_ble_eq_true rfl⟩) (hs.recv hK 26 (by decide) rfl rfl) rfl rfl (Nat.le_of_ble_eq_true rfl) dX10_town_77 (fun H locs hs => ?_)
        refine lv_aload_n hx hb dX10_town_80 rfl (lv_at hl 0 rfl) ?_
        refine gf_X10_31_0 C hK hs dX10_town_81 ?_
        obtain ⟨σ15, r16, hE1, hE⟩ := cl_e hE
        refine x_cvv (As := []) (rest := []) C hl.1 hK hs hA ⟨Nat.le_refl 0, Nat.le_refl 0⟩ (ctX3_begin l g _  _ _ hE1) (cw_X10_135 C ⟨Nat.le_of_ble_eq_true rfl, Nat.le_of_ble_eq_true rfl⟩) (hs.recv hK 24 (by decide) rfl rfl) rfl rfl (Nat.le_of_ble_eq_true rfl) dX10_town_84 (fun H locs hs => ?_)
        refine lv_aload_n hx hb dX10_town_87 rfl (lv_at hl 0 rfl) ?_
        refine gf_X10_46_0 C hK hs dX10_town_88 ?_
        refine gf_X10_138_26 C hK hs dX10_town_91 ?_
        exact hQ hs hE dX10_town_94
      · have hE := if_f hc hE
        refine lv_bipush (v := (-4)) hx hb dX10_town_58 (by decide) ?_
        exact hQ hs hE dX10_town_60
    · have hE := if_f hc hE
      refine lv_aload_n hx hb dX10_town_24 rfl (lv_at hl 0 rfl) ?_
      refine lv_iconst (v := 1) hx hb dX10_town_25 (by decide) ?_
      obtain ⟨σ17, r18, hE1, hE⟩ := cl_e hE
      refine x_civ (As := [.int 1]) (rest := []) C hl.1 hK hs hA ⟨Nat.le_refl 0, Nat.le_refl 0⟩ (ctX10_refuse l g _ _ _ _ hE1) (cw_X10_76 C ⟨Nat.le_of_ble_eq_true rfl, Nat.le_of_ble_eq_true rfl⟩) (hs.recv hK 0 (by decide) rfl rfl) rfl rfl (Nat.le_of_ble_eq_true rfl) dX10_town_26 (fun H locs hs => ?_)
      exact hQ hs hE dX10_town_29
  · have hE := if_t hc hE
    refine lv_iconst (v := (-1)) hx hb dX10_town_11 (by decide) ?_
    exact hQ hs hE dX10_town_12
theorem dX10_ofColour_0 : decode cX10_ofColour 0 = .ok (.iload_n 2, 1) := by decide +kernel
theorem dX10_ofColour_1 : decode cX10_ofColour 1 = .ok (.tableswitch 56 0 2 #[27, 37, 47], 27) := by decide +kernel
theorem dX10_ofColour_28 : decode cX10_ofColour 28 = .ok (.aload_n 0, 1) := by decide +kernel
theorem dX10_ofColour_29 : decode cX10_ofColour 29 = .ok (.getfield 46, 3) := by decide +kernel
theorem dX10_ofColour_32 : decode cX10_ofColour 32 = .ok (.getfield 176, 3) := by decide +kernel
theorem dX10_ofColour_35 : decode cX10_ofColour 35 = .ok (.iload_n 1, 1) := by decide +kernel
theorem dX10_ofColour_36 : decode cX10_ofColour 36 = .ok (.iaload, 1) := by decide +kernel
theorem dX10_ofColour_37 : decode cX10_ofColour 37 = .ok (.ireturn, 1) := by decide +kernel
theorem dX10_ofColour_38 : decode cX10_ofColour 38 = .ok (.aload_n 0, 1) := by decide +kernel
theorem dX10_ofColour_39 : decode cX10_ofColour 39 = .ok (.getfield 46, 3) := by decide +kernel
theorem dX10_ofColour_42 : decode cX10_ofColour 42 = .ok (.getfield 338, 3) := by decide +kernel
theorem dX10_ofColour_45 : decode cX10_ofColour 45 = .ok (.iload_n 1, 1) := by decide +kernel
theorem dX10_ofColour_46 : decode cX10_ofColour 46 = .ok (.iaload, 1) := by decide +kernel
theorem dX10_ofColour_47 : decode cX10_ofColour 47 = .ok (.ireturn, 1) := by decide +kernel
theorem dX10_ofColour_48 : decode cX10_ofColour 48 = .ok (.aload_n 0, 1) := by decide +kernel
theorem dX10_ofColour_49 : decode cX10_ofColour 49 = .ok (.getfield 39, 3) := by decide +kernel
theorem dX10_ofColour_52 : decode cX10_ofColour 52 = .ok (.iload_n 1, 1) := by decide +kernel
theorem dX10_ofColour_53 : decode cX10_ofColour 53 = .ok (.invokevirtual 341, 3) := by decide +kernel
theorem dX10_ofColour_56 : decode cX10_ofColour 56 = .ok (.ireturn, 1) := by decide +kernel
theorem dX10_ofColour_57 : decode cX10_ofColour 57 = .ok (.aload_n 0, 1) := by decide +kernel
theorem dX10_ofColour_58 : decode cX10_ofColour 58 = .ok (.getfield 46, 3) := by decide +kernel
theorem dX10_ofColour_61 : decode cX10_ofColour 61 = .ok (.getfield 147, 3) := by decide +kernel
theorem dX10_ofColour_64 : decode cX10_ofColour 64 = .ok (.iload_n 1, 1) := by decide +kernel
theorem dX10_ofColour_65 : decode cX10_ofColour 65 = .ok (.iaload, 1) := by decide +kernel
theorem dX10_ofColour_66 : decode cX10_ofColour 66 = .ok (.ireturn, 1) := by decide +kernel
def fX10_ofColour (σ : St) (p1 : Int32) (p2 : Int32) : Option (St × Int32) := (if p2 = 0 then rd LC σ 29 p1 (fun x2 => some (σ, x2)) else (if p2 = 1 then rd LC σ 30 p1 (fun x3 => some (σ, x3)) else (if p2 = 2 then cl (fX9_holders σ p1) (fun σ4 r5 => some (σ4, r5)) else rd LC σ 28 p1 (fun x1 => some (σ, x1)))))
set_option maxHeartbeats 4000000 in
set_option maxRecDepth 100000 in
theorem ctX10_ofColour (l : Launch) (g : GG) (σ : St) (p1 : Int32) (p2 : Int32) (σ' : St) (r : Int32) (hE : fX10_ofColour σ p1 p2 = some (σ', r)) : MI 52 entC l g yX10_ofColour (Cond.code yX10_ofColour cX10_ofColour 3 (some .int) :: gtbl) (rmD 4) [.ref (g.2.1 0), .int p1, .int p2] σ σ' r := by
  refine mi_i (own := RX10) (lv := [(0, .ref (g.2.1 0)), (1, .int p1), (2, .int p2)]) (by decide) rfl (Nat.le_of_ble_eq_true rfl) rfl (fun p e s m below meth c ls args Q A H0 H locs C hK hA hQ hs hl => ?_)
  have hx := C.1
  have hb := C.2.1
  unfold fX10_ofColour at hE
  refine lv_iload_n hx hb dX10_ofColour_0 rfl (lv_at hl 2 rfl) ?_
  by_cases hn0 : p2 = 0
  · have hE := if_t hn0 hE
    refine lv_tableIn (off := 27) (tgt := 28) hx hb dX10_ofColour_1 (by rw [hn0]; decide) (by rw [hn0]; decide) (by rw [hn0]; decide) (by decide) ?_
    refine lv_aload_n hx hb dX10_ofColour_28 rfl (lv_at hl 0 rfl) ?_
    refine gf_X10_46_0 C hK hs dX10_ofColour_29 ?_
    refine gf_X10_176_26 C hK hs dX10_ofColour_32 ?_
    refine lv_iload_n hx hb dX10_ofColour_35 rfl (lv_at hl 1 rfl) ?_
    obtain ⟨hi, x2, ex2, hE⟩ := rd_w hE
    refine y_ald layC C hK hs hi ex2 dX10_ofColour_36 ?_
    exact hQ hs hE dX10_ofColour_37
  have hE := if_f hn0 hE
  by_cases hn1 : p2 = 1
  · have hE := if_t hn1 hE
    refine lv_tableIn (off := 37) (tgt := 38) hx hb dX10_ofColour_1 (by rw [hn1]; decide) (by rw [hn1]; decide) (by rw [hn1]; decide) (by decide) ?_
    refine lv_aload_n hx hb dX10_ofColour_38 rfl (lv_at hl 0 rfl) ?_
    refine gf_X10_46_0 C hK hs dX10_ofColour_39 ?_
    refine gf_X10_338_26 C hK hs dX10_ofColour_42 ?_
    refine lv_iload_n hx hb dX10_ofColour_45 rfl (lv_at hl 1 rfl) ?_
    obtain ⟨hi, x3, ex3, hE⟩ := rd_w hE
    refine y_ald layC C hK hs hi ex3 dX10_ofColour_46 ?_
    exact hQ hs hE dX10_ofColour_47
  have hE := if_f hn1 hE
  by_cases hn2 : p2 = 2
  · have hE := if_t hn2 hE
    refine lv_tableIn (off := 47) (tgt := 48) hx hb dX10_ofColour_1 (by rw [hn2]; decide) (by rw [hn2]; decide) (by rw [hn2]; decide) (by decide) ?_
    refine lv_aload_n hx hb dX10_ofColour_48 rfl (lv_at hl 0 rfl) ?_
    refine gf_X10_39_0 C hK hs dX10_ofColour_49 ?_
    refine lv_iload_n hx hb dX10_ofColour_52 rfl (lv_at hl 1 rfl) ?_
    obtain ⟨σ4, r5, hE1, hE⟩ := cl_e hE
    refine x_civ (As := [.int p1]) (rest := []) C hl.1 hK hs hA ⟨Nat.le_refl 0, Nat.le_refl 0⟩ (ctX9_holders l g _ _ _ _ hE1) (cw_X10_341 C ⟨Nat.le_of_ble_eq_true rfl, Nat.le_of_ble_eq_true rfl⟩) (hs.recv hK 25 (by decide) rfl rfl) rfl rfl (Nat.le_of_ble_eq_true rfl) dX10_ofColour_53 (fun H locs hs => ?_)
    exact hQ hs hE dX10_ofColour_56
  have hE := if_f hn2 hE
  have hDf : W p l e (rmD 4) s m args below meth c H locs 0 0 Q (F0 m 57 ls []) := by
    refine lv_aload_n hx hb dX10_ofColour_57 rfl (lv_at hl 0 rfl) ?_
    refine gf_X10_46_0 C hK hs dX10_ofColour_58 ?_
    refine gf_X10_147_26 C hK hs dX10_ofColour_61 ?_
    refine lv_iload_n hx hb dX10_ofColour_64 rfl (lv_at hl 1 rfl) ?_
    obtain ⟨hi, x1, ex1, hE⟩ := rd_w hE
    refine y_ald layC C hK hs hi ex1 dX10_ofColour_65 ?_
    exact hQ hs hE dX10_ofColour_66
  exact lv_tableOut (tgt := 57) hx hb dX10_ofColour_1 (by have q0 := sw_n 0 hn0 (by decide); have q1 := sw_n 1 hn1 (by decide); have q2 := sw_n 2 hn2 (by decide); omega) (by decide) hDf
theorem dX10_colour_0 : decode cX10_colour 0 = .ok (.aload_n 0, 1) := by decide +kernel
theorem dX10_colour_1 : decode cX10_colour 1 = .ok (.getfield 46, 3) := by decide +kernel
theorem dX10_colour_4 : decode cX10_colour 4 = .ok (.iload_n 1, 1) := by decide +kernel
theorem dX10_colour_5 : decode cX10_colour 5 = .ok (.invokevirtual 141, 3) := by decide +kernel
theorem dX10_colour_8 : decode cX10_colour 8 = .ok (.ifCond .eq 12, 3) := by decide +kernel
theorem dX10_colour_11 : decode cX10_colour 11 = .ok (.iload_n 2, 1) := by decide +kernel
theorem dX10_colour_12 : decode cX10_colour 12 = .ok (.ifCond .lt 8, 3) := by decide +kernel
theorem dX10_colour_15 : decode cX10_colour 15 = .ok (.iload_n 2, 1) := by decide +kernel
theorem dX10_colour_16 : decode cX10_colour 16 = .ok (.iconst 3, 1) := by decide +kernel
theorem dX10_colour_17 : decode cX10_colour 17 = .ok (.if_icmp .le 5, 3) := by decide +kernel
theorem dX10_colour_20 : decode cX10_colour 20 = .ok (.iconst (-1), 1) := by decide +kernel
theorem dX10_colour_21 : decode cX10_colour 21 = .ok (.ireturn, 1) := by decide +kernel
theorem dX10_colour_22 : decode cX10_colour 22 = .ok (.aload_n 0, 1) := by decide +kernel
theorem dX10_colour_23 : decode cX10_colour 23 = .ok (.aload_n 0, 1) := by decide +kernel
theorem dX10_colour_24 : decode cX10_colour 24 = .ok (.iload_n 1, 1) := by decide +kernel
theorem dX10_colour_25 : decode cX10_colour 25 = .ok (.iload_n 2, 1) := by decide +kernel
theorem dX10_colour_26 : decode cX10_colour 26 = .ok (.invokevirtual 144, 3) := by decide +kernel
theorem dX10_colour_29 : decode cX10_colour 29 = .ok (.putfield 95, 3) := by decide +kernel
theorem dX10_colour_32 : decode cX10_colour 32 = .ok (.iconst 1, 1) := by decide +kernel
theorem dX10_colour_33 : decode cX10_colour 33 = .ok (.ireturn, 1) := by decide +kernel
def fX10_colour (σ : St) (p1 : Int32) (p2 : Int32) : Option (St × Int32) := cl (fX6_isColour σ p1) (fun σ1 r2 => (if r2 = 0 then some (σ1, (-1)) else (if p2 < 0 then some (σ1, (-1)) else (if p2 ≤ 3 then cl (fX10_ofColour σ1 p1 p2) (fun σ3 r4 => pt (su σ3 0 11 r4) (fun σ5 => some (σ5, 1))) else some (σ1, (-1))))))
set_option maxHeartbeats 4000000 in
set_option maxRecDepth 100000 in
theorem ctX10_colour (l : Launch) (g : GG) (σ : St) (p1 : Int32) (p2 : Int32) (σ' : St) (r : Int32) (hE : fX10_colour σ p1 p2 = some (σ', r)) : MI 52 entC l g yX10_colour (Cond.code yX10_colour cX10_colour 3 (some .int) :: gtbl) (rmD 5) [.ref (g.2.1 0), .int p1, .int p2] σ σ' r := by
  refine mi_i (own := RX10) (lv := [(0, .ref (g.2.1 0)), (1, .int p1), (2, .int p2)]) (by decide) rfl (Nat.le_of_ble_eq_true rfl) rfl (fun p e s m below meth c ls args Q A H0 H locs C hK hA hQ hs hl => ?_)
  have hx := C.1
  have hb := C.2.1
  unfold fX10_colour at hE
  refine lv_aload_n hx hb dX10_colour_0 rfl (lv_at hl 0 rfl) ?_
  refine gf_X10_46_0 C hK hs dX10_colour_1 ?_
  refine lv_iload_n hx hb dX10_colour_4 rfl (lv_at hl 1 rfl) ?_
  obtain ⟨σ1, r2, hE1, hE⟩ := cl_e hE
  refine x_civ (As := [.int p1]) (rest := []) C hl.1 hK hs hA ⟨Nat.le_refl 0, Nat.le_refl 0⟩ (ctX6_isColour l g _ _ _ _ hE1) (cw_X10_141 C ⟨Nat.le_of_ble_eq_true rfl, Nat.le_of_ble_eq_true rfl⟩) (hs.recv hK 26 (by decide) rfl rfl) rfl rfl (Nat.le_of_ble_eq_true rfl) dX10_colour_5 (fun H locs hs => ?_)
  refine lv_if_eq (tgt := 20) hx hb dX10_colour_8 (by decide) (fun hc => ?_) (fun hc => ?_)
  · have hE := if_t hc hE
    refine lv_iconst (v := (-1)) hx hb dX10_colour_20 (by decide) ?_
    exact hQ hs hE dX10_colour_21
  · have hE := if_f hc hE
    refine lv_iload_n hx hb dX10_colour_11 rfl (lv_at hl 2 rfl) ?_
    refine lv_if_lt (tgt := 20) hx hb dX10_colour_12 (by decide) (fun hc => ?_) (fun hc => ?_)
    · have hE := if_t hc hE
      refine lv_iconst (v := (-1)) hx hb dX10_colour_20 (by decide) ?_
      exact hQ hs hE dX10_colour_21
    · have hE := if_f hc hE
      refine lv_iload_n hx hb dX10_colour_15 rfl (lv_at hl 2 rfl) ?_
      refine lv_iconst (v := 3) hx hb dX10_colour_16 (by decide) ?_
      refine lv_icmp_le (tgt := 22) hx hb dX10_colour_17 (by decide) (fun hc => ?_) (fun hc => ?_)
      · have hE := if_t hc hE
        refine lv_aload_n hx hb dX10_colour_22 rfl (lv_at hl 0 rfl) ?_
        refine lv_aload_n hx hb dX10_colour_23 rfl (lv_at hl 0 rfl) ?_
        refine lv_iload_n hx hb dX10_colour_24 rfl (lv_at hl 1 rfl) ?_
        refine lv_iload_n hx hb dX10_colour_25 rfl (lv_at hl 2 rfl) ?_
        obtain ⟨σ3, r4, hE1, hE⟩ := cl_e hE
        refine x_civ (As := [.int p1, .int p2]) (rest := [.ref (g.2.1 0)]) C hl.1 hK hs hA ⟨Nat.le_refl 0, Nat.le_refl 0⟩ (ctX10_ofColour l g _ _ _ _ _ hE1) (cw_X10_144 C ⟨Nat.le_of_ble_eq_true rfl, Nat.le_of_ble_eq_true rfl⟩) (hs.recv hK 0 (by decide) rfl rfl) rfl rfl (Nat.le_of_ble_eq_true rfl) dX10_colour_26 (fun H locs hs => ?_)
        obtain ⟨σ5, eσ5, hE⟩ := pt_w hE
        refine pf_X10_95_0 C hK hs eσ5 dX10_colour_29 (fun H locs hs => ?_)
        refine lv_iconst (v := 1) hx hb dX10_colour_32 (by decide) ?_
        exact hQ hs hE dX10_colour_33
      · have hE := if_f hc hE
        refine lv_iconst (v := (-1)) hx hb dX10_colour_20 (by decide) ?_
        exact hQ hs hE dX10_colour_21
theorem dX10_letter_0 : decode cX10_letter 0 = .ok (.aload_n 0, 1) := by decide +kernel
theorem dX10_letter_1 : decode cX10_letter 1 = .ok (.getfield 46, 3) := by decide +kernel
theorem dX10_letter_4 : decode cX10_letter 4 = .ok (.iload_n 1, 1) := by decide +kernel
theorem dX10_letter_5 : decode cX10_letter 5 = .ok (.invokevirtual 141, 3) := by decide +kernel
theorem dX10_letter_8 : decode cX10_letter 8 = .ok (.ifCond .eq 7, 3) := by decide +kernel
theorem dX10_letter_11 : decode cX10_letter 11 = .ok (.iload_n 2, 1) := by decide +kernel
theorem dX10_letter_12 : decode cX10_letter 12 = .ok (.ifCond .ge 5, 3) := by decide +kernel
theorem dX10_letter_15 : decode cX10_letter 15 = .ok (.iconst (-1), 1) := by decide +kernel
theorem dX10_letter_16 : decode cX10_letter 16 = .ok (.ireturn, 1) := by decide +kernel
theorem dX10_letter_17 : decode cX10_letter 17 = .ok (.iload_n 2, 1) := by decide +kernel
theorem dX10_letter_18 : decode cX10_letter 18 = .ok (.aload_n 0, 1) := by decide +kernel
theorem dX10_letter_19 : decode cX10_letter 19 = .ok (.getfield 46, 3) := by decide +kernel
theorem dX10_letter_22 : decode cX10_letter 22 = .ok (.getfield 147, 3) := by decide +kernel
theorem dX10_letter_25 : decode cX10_letter 25 = .ok (.iload_n 1, 1) := by decide +kernel
theorem dX10_letter_26 : decode cX10_letter 26 = .ok (.iaload, 1) := by decide +kernel
theorem dX10_letter_27 : decode cX10_letter 27 = .ok (.if_icmp .ge 23, 3) := by decide +kernel
theorem dX10_letter_30 : decode cX10_letter 30 = .ok (.bipush 97, 2) := by decide +kernel
theorem dX10_letter_32 : decode cX10_letter 32 = .ok (.aload_n 0, 1) := by decide +kernel
theorem dX10_letter_33 : decode cX10_letter 33 = .ok (.getfield 46, 3) := by decide +kernel
theorem dX10_letter_36 : decode cX10_letter 36 = .ok (.getfield 150, 3) := by decide +kernel
theorem dX10_letter_39 : decode cX10_letter 39 = .ok (.iload_n 1, 1) := by decide +kernel
theorem dX10_letter_40 : decode cX10_letter 40 = .ok (.bipush 7, 2) := by decide +kernel
theorem dX10_letter_42 : decode cX10_letter 42 = .ok (.imul, 1) := by decide +kernel
theorem dX10_letter_43 : decode cX10_letter 43 = .ok (.iload_n 2, 1) := by decide +kernel
theorem dX10_letter_44 : decode cX10_letter 44 = .ok (.iadd, 1) := by decide +kernel
theorem dX10_letter_45 : decode cX10_letter 45 = .ok (.iaload, 1) := by decide +kernel
theorem dX10_letter_46 : decode cX10_letter 46 = .ok (.iadd, 1) := by decide +kernel
theorem dX10_letter_47 : decode cX10_letter 47 = .ok (.goto 5, 3) := by decide +kernel
theorem dX10_letter_50 : decode cX10_letter 50 = .ok (.bipush (-9), 2) := by decide +kernel
theorem dX10_letter_52 : decode cX10_letter 52 = .ok (.ireturn, 1) := by decide +kernel
def fX10_letter (σ : St) (p1 : Int32) (p2 : Int32) : Option (St × Int32) := cl (fX6_isColour σ p1) (fun σ1 r2 => (if r2 = 0 then some (σ1, (-1)) else (if 0 ≤ p2 then rd LC σ1 28 p1 (fun x3 => (if x3 ≤ p2 then some (σ1, (-9)) else rd LC σ1 27 ((p1 * 7) + p2) (fun x4 => some (σ1, 97 + x4)))) else some (σ1, (-1)))))
set_option maxHeartbeats 4000000 in
set_option maxRecDepth 100000 in
theorem ctX10_letter (l : Launch) (g : GG) (σ : St) (p1 : Int32) (p2 : Int32) (σ' : St) (r : Int32) (hE : fX10_letter σ p1 p2 = some (σ', r)) : MI 52 entC l g yX10_letter (Cond.code yX10_letter cX10_letter 3 (some .int) :: gtbl) (rmD 2) [.ref (g.2.1 0), .int p1, .int p2] σ σ' r := by
  refine mi_i (own := RX10) (lv := [(0, .ref (g.2.1 0)), (1, .int p1), (2, .int p2)]) (by decide) rfl (Nat.le_of_ble_eq_true rfl) rfl (fun p e s m below meth c ls args Q A H0 H locs C hK hA hQ hs hl => ?_)
  have hx := C.1
  have hb := C.2.1
  unfold fX10_letter at hE
  refine lv_aload_n hx hb dX10_letter_0 rfl (lv_at hl 0 rfl) ?_
  refine gf_X10_46_0 C hK hs dX10_letter_1 ?_
  refine lv_iload_n hx hb dX10_letter_4 rfl (lv_at hl 1 rfl) ?_
  obtain ⟨σ1, r2, hE1, hE⟩ := cl_e hE
  refine x_civ (As := [.int p1]) (rest := []) C hl.1 hK hs hA ⟨Nat.le_refl 0, Nat.le_refl 0⟩ (ctX6_isColour l g _ _ _ _ hE1) (cw_X10_141 C ⟨Nat.le_of_ble_eq_true rfl, Nat.le_of_ble_eq_true rfl⟩) (hs.recv hK 26 (by decide) rfl rfl) rfl rfl (Nat.le_of_ble_eq_true rfl) dX10_letter_5 (fun H locs hs => ?_)
  refine lv_if_eq (tgt := 15) hx hb dX10_letter_8 (by decide) (fun hc => ?_) (fun hc => ?_)
  · have hE := if_t hc hE
    refine lv_iconst (v := (-1)) hx hb dX10_letter_15 (by decide) ?_
    exact hQ hs hE dX10_letter_16
  · have hE := if_f hc hE
    refine lv_iload_n hx hb dX10_letter_11 rfl (lv_at hl 2 rfl) ?_
    refine lv_if_ge (tgt := 17) hx hb dX10_letter_12 (by decide) (fun hc => ?_) (fun hc => ?_)
    · have hE := if_t hc hE
      refine lv_iload_n hx hb dX10_letter_17 rfl (lv_at hl 2 rfl) ?_
      refine lv_aload_n hx hb dX10_letter_18 rfl (lv_at hl 0 rfl) ?_
      refine gf_X10_46_0 C hK hs dX10_letter_19 ?_
      refine gf_X10_147_26 C hK hs dX10_letter_22 ?_
      refine lv_iload_n hx hb dX10_letter_25 rfl (lv_at hl 1 rfl) ?_
      obtain ⟨hi, x3, ex3, hE⟩ := rd_w hE
      refine y_ald layC C hK hs hi ex3 dX10_letter_26 ?_
      refine lv_icmp_ge (tgt := 50) hx hb dX10_letter_27 (by decide) (fun hc => ?_) (fun hc => ?_)
      · have hE := if_t hc hE
        refine lv_bipush (v := (-9)) hx hb dX10_letter_50 (by decide) ?_
        exact hQ hs hE dX10_letter_52
      · have hE := if_f hc hE
        refine lv_bipush (v := 97) hx hb dX10_letter_30 (by decide) ?_
        refine lv_aload_n hx hb dX10_letter_32 rfl (lv_at hl 0 rfl) ?_
        refine gf_X10_46_0 C hK hs dX10_letter_33 ?_
        refine gf_X10_150_26 C hK hs dX10_letter_36 ?_
        refine lv_iload_n hx hb dX10_letter_39 rfl (lv_at hl 1 rfl) ?_
        refine lv_bipush (v := 7) hx hb dX10_letter_40 (by decide) ?_
        refine lv_imul hx hb dX10_letter_42 ?_
        refine lv_iload_n hx hb dX10_letter_43 rfl (lv_at hl 2 rfl) ?_
        refine lv_iadd hx hb dX10_letter_44 ?_
        obtain ⟨hi, x4, ex4, hE⟩ := rd_w hE
        refine y_ald layC C hK hs hi ex4 dX10_letter_45 ?_
        refine lv_iadd hx hb dX10_letter_46 ?_
        refine lv_goto (tgt := 52) hx hb dX10_letter_47 (by decide) ?_
        exact hQ hs hE dX10_letter_52
    · have hE := if_f hc hE
      refine lv_iconst (v := (-1)) hx hb dX10_letter_15 (by decide) ?_
      exact hQ hs hE dX10_letter_16
theorem dX10_ofHouse_0 : decode cX10_ofHouse 0 = .ok (.iload_n 2, 1) := by decide +kernel
theorem dX10_ofHouse_1 : decode cX10_ofHouse 1 = .ok (.tableswitch 57 0 2 #[27, 37, 47], 27) := by decide +kernel
theorem dX10_ofHouse_28 : decode cX10_ofHouse 28 = .ok (.aload_n 0, 1) := by decide +kernel
theorem dX10_ofHouse_29 : decode cX10_ofHouse 29 = .ok (.getfield 46, 3) := by decide +kernel
theorem dX10_ofHouse_32 : decode cX10_ofHouse 32 = .ok (.getfield 170, 3) := by decide +kernel
theorem dX10_ofHouse_35 : decode cX10_ofHouse 35 = .ok (.iload_n 1, 1) := by decide +kernel
theorem dX10_ofHouse_36 : decode cX10_ofHouse 36 = .ok (.iaload, 1) := by decide +kernel
theorem dX10_ofHouse_37 : decode cX10_ofHouse 37 = .ok (.ireturn, 1) := by decide +kernel
theorem dX10_ofHouse_38 : decode cX10_ofHouse 38 = .ok (.aload_n 0, 1) := by decide +kernel
theorem dX10_ofHouse_39 : decode cX10_ofHouse 39 = .ok (.getfield 46, 3) := by decide +kernel
theorem dX10_ofHouse_42 : decode cX10_ofHouse 42 = .ok (.getfield 344, 3) := by decide +kernel
theorem dX10_ofHouse_45 : decode cX10_ofHouse 45 = .ok (.iload_n 1, 1) := by decide +kernel
theorem dX10_ofHouse_46 : decode cX10_ofHouse 46 = .ok (.iaload, 1) := by decide +kernel
theorem dX10_ofHouse_47 : decode cX10_ofHouse 47 = .ok (.ireturn, 1) := by decide +kernel
theorem dX10_ofHouse_48 : decode cX10_ofHouse 48 = .ok (.aload_n 0, 1) := by decide +kernel
theorem dX10_ofHouse_49 : decode cX10_ofHouse 49 = .ok (.getfield 39, 3) := by decide +kernel
theorem dX10_ofHouse_52 : decode cX10_ofHouse 52 = .ok (.getfield 187, 3) := by decide +kernel
theorem dX10_ofHouse_55 : decode cX10_ofHouse 55 = .ok (.iload_n 1, 1) := by decide +kernel
theorem dX10_ofHouse_56 : decode cX10_ofHouse 56 = .ok (.iaload, 1) := by decide +kernel
theorem dX10_ofHouse_57 : decode cX10_ofHouse 57 = .ok (.ireturn, 1) := by decide +kernel
theorem dX10_ofHouse_58 : decode cX10_ofHouse 58 = .ok (.aload_n 0, 1) := by decide +kernel
theorem dX10_ofHouse_59 : decode cX10_ofHouse 59 = .ok (.getfield 39, 3) := by decide +kernel
theorem dX10_ofHouse_62 : decode cX10_ofHouse 62 = .ok (.iload_n 1, 1) := by decide +kernel
theorem dX10_ofHouse_63 : decode cX10_ofHouse 63 = .ok (.invokevirtual 347, 3) := by decide +kernel
theorem dX10_ofHouse_66 : decode cX10_ofHouse 66 = .ok (.ireturn, 1) := by decide +kernel
def fX10_ofHouse (σ : St) (p1 : Int32) (p2 : Int32) : Option (St × Int32) := (if p2 = 0 then rd LC σ 31 p1 (fun x3 => some (σ, x3)) else (if p2 = 1 then rd LC σ 32 p1 (fun x4 => some (σ, x4)) else (if p2 = 2 then rd LC σ 33 p1 (fun x5 => some (σ, x5)) else cl (fX9_coloursOf σ p1) (fun σ1 r2 => some (σ1, r2)))))
set_option maxHeartbeats 4000000 in
set_option maxRecDepth 100000 in
theorem ctX10_ofHouse (l : Launch) (g : GG) (σ : St) (p1 : Int32) (p2 : Int32) (σ' : St) (r : Int32) (hE : fX10_ofHouse σ p1 p2 = some (σ', r)) : MI 52 entC l g yX10_ofHouse (Cond.code yX10_ofHouse cX10_ofHouse 3 (some .int) :: gtbl) (rmD 4) [.ref (g.2.1 0), .int p1, .int p2] σ σ' r := by
  refine mi_i (own := RX10) (lv := [(0, .ref (g.2.1 0)), (1, .int p1), (2, .int p2)]) (by decide) rfl (Nat.le_of_ble_eq_true rfl) rfl (fun p e s m below meth c ls args Q A H0 H locs C hK hA hQ hs hl => ?_)
  have hx := C.1
  have hb := C.2.1
  unfold fX10_ofHouse at hE
  refine lv_iload_n hx hb dX10_ofHouse_0 rfl (lv_at hl 2 rfl) ?_
  by_cases hn0 : p2 = 0
  · have hE := if_t hn0 hE
    refine lv_tableIn (off := 27) (tgt := 28) hx hb dX10_ofHouse_1 (by rw [hn0]; decide) (by rw [hn0]; decide) (by rw [hn0]; decide) (by decide) ?_
    refine lv_aload_n hx hb dX10_ofHouse_28 rfl (lv_at hl 0 rfl) ?_
    refine gf_X10_46_0 C hK hs dX10_ofHouse_29 ?_
    refine gf_X10_170_26 C hK hs dX10_ofHouse_32 ?_
    refine lv_iload_n hx hb dX10_ofHouse_35 rfl (lv_at hl 1 rfl) ?_
    obtain ⟨hi, x3, ex3, hE⟩ := rd_w hE
    refine y_ald layC C hK hs hi ex3 dX10_ofHouse_36 ?_
    exact hQ hs hE dX10_ofHouse_37
  have hE := if_f hn0 hE
  by_cases hn1 : p2 = 1
  · have hE := if_t hn1 hE
    refine lv_tableIn (off := 37) (tgt := 38) hx hb dX10_ofHouse_1 (by rw [hn1]; decide) (by rw [hn1]; decide) (by rw [hn1]; decide) (by decide) ?_
    refine lv_aload_n hx hb dX10_ofHouse_38 rfl (lv_at hl 0 rfl) ?_
    refine gf_X10_46_0 C hK hs dX10_ofHouse_39 ?_
    refine gf_X10_344_26 C hK hs dX10_ofHouse_42 ?_
    refine lv_iload_n hx hb dX10_ofHouse_45 rfl (lv_at hl 1 rfl) ?_
    obtain ⟨hi, x4, ex4, hE⟩ := rd_w hE
    refine y_ald layC C hK hs hi ex4 dX10_ofHouse_46 ?_
    exact hQ hs hE dX10_ofHouse_47
  have hE := if_f hn1 hE
  by_cases hn2 : p2 = 2
  · have hE := if_t hn2 hE
    refine lv_tableIn (off := 47) (tgt := 48) hx hb dX10_ofHouse_1 (by rw [hn2]; decide) (by rw [hn2]; decide) (by rw [hn2]; decide) (by decide) ?_
    refine lv_aload_n hx hb dX10_ofHouse_48 rfl (lv_at hl 0 rfl) ?_
    refine gf_X10_39_0 C hK hs dX10_ofHouse_49 ?_
    refine gf_X10_187_25 C hK hs dX10_ofHouse_52 ?_
    refine lv_iload_n hx hb dX10_ofHouse_55 rfl (lv_at hl 1 rfl) ?_
    obtain ⟨hi, x5, ex5, hE⟩ := rd_w hE
    refine y_ald layC C hK hs hi ex5 dX10_ofHouse_56 ?_
    exact hQ hs hE dX10_ofHouse_57
  have hE := if_f hn2 hE
  have hDf : W p l e (rmD 4) s m args below meth c H locs 0 0 Q (F0 m 58 ls []) := by
    refine lv_aload_n hx hb dX10_ofHouse_58 rfl (lv_at hl 0 rfl) ?_
    refine gf_X10_39_0 C hK hs dX10_ofHouse_59 ?_
    refine lv_iload_n hx hb dX10_ofHouse_62 rfl (lv_at hl 1 rfl) ?_
    obtain ⟨σ1, r2, hE1, hE⟩ := cl_e hE
    refine x_civ (As := [.int p1]) (rest := []) C hl.1 hK hs hA ⟨Nat.le_refl 0, Nat.le_refl 0⟩ (ctX9_coloursOf l g _ _ _ _ hE1) (cw_X10_347 C ⟨Nat.le_of_ble_eq_true rfl, Nat.le_of_ble_eq_true rfl⟩) (hs.recv hK 25 (by decide) rfl rfl) rfl rfl (Nat.le_of_ble_eq_true rfl) dX10_ofHouse_63 (fun H locs hs => ?_)
    exact hQ hs hE dX10_ofHouse_66
  exact lv_tableOut (tgt := 58) hx hb dX10_ofHouse_1 (by have q0 := sw_n 0 hn0 (by decide); have q1 := sw_n 1 hn1 (by decide); have q2 := sw_n 2 hn2 (by decide); omega) (by decide) hDf
theorem dX10_house_0 : decode cX10_house 0 = .ok (.aload_n 0, 1) := by decide +kernel
theorem dX10_house_1 : decode cX10_house 1 = .ok (.getfield 46, 3) := by decide +kernel
theorem dX10_house_4 : decode cX10_house 4 = .ok (.iload_n 1, 1) := by decide +kernel
theorem dX10_house_5 : decode cX10_house 5 = .ok (.invokevirtual 153, 3) := by decide +kernel
theorem dX10_house_8 : decode cX10_house 8 = .ok (.ifCond .eq 12, 3) := by decide +kernel
theorem dX10_house_11 : decode cX10_house 11 = .ok (.iload_n 2, 1) := by decide +kernel
theorem dX10_house_12 : decode cX10_house 12 = .ok (.ifCond .lt 8, 3) := by decide +kernel
theorem dX10_house_15 : decode cX10_house 15 = .ok (.iload_n 2, 1) := by decide +kernel
theorem dX10_house_16 : decode cX10_house 16 = .ok (.iconst 3, 1) := by decide +kernel
theorem dX10_house_17 : decode cX10_house 17 = .ok (.if_icmp .le 5, 3) := by decide +kernel
theorem dX10_house_20 : decode cX10_house 20 = .ok (.iconst (-1), 1) := by decide +kernel
theorem dX10_house_21 : decode cX10_house 21 = .ok (.ireturn, 1) := by decide +kernel
theorem dX10_house_22 : decode cX10_house 22 = .ok (.aload_n 0, 1) := by decide +kernel
theorem dX10_house_23 : decode cX10_house 23 = .ok (.aload_n 0, 1) := by decide +kernel
theorem dX10_house_24 : decode cX10_house 24 = .ok (.iload_n 1, 1) := by decide +kernel
theorem dX10_house_25 : decode cX10_house 25 = .ok (.iload_n 2, 1) := by decide +kernel
theorem dX10_house_26 : decode cX10_house 26 = .ok (.invokevirtual 156, 3) := by decide +kernel
theorem dX10_house_29 : decode cX10_house 29 = .ok (.putfield 95, 3) := by decide +kernel
theorem dX10_house_32 : decode cX10_house 32 = .ok (.iconst 1, 1) := by decide +kernel
theorem dX10_house_33 : decode cX10_house 33 = .ok (.ireturn, 1) := by decide +kernel
def fX10_house (σ : St) (p1 : Int32) (p2 : Int32) : Option (St × Int32) := cl (fX6_isHouse σ p1) (fun σ1 r2 => (if r2 = 0 then some (σ1, (-1)) else (if p2 < 0 then some (σ1, (-1)) else (if p2 ≤ 3 then cl (fX10_ofHouse σ1 p1 p2) (fun σ3 r4 => pt (su σ3 0 11 r4) (fun σ5 => some (σ5, 1))) else some (σ1, (-1))))))
set_option maxHeartbeats 4000000 in
set_option maxRecDepth 100000 in
theorem ctX10_house (l : Launch) (g : GG) (σ : St) (p1 : Int32) (p2 : Int32) (σ' : St) (r : Int32) (hE : fX10_house σ p1 p2 = some (σ', r)) : MI 52 entC l g yX10_house (Cond.code yX10_house cX10_house 3 (some .int) :: gtbl) (rmD 5) [.ref (g.2.1 0), .int p1, .int p2] σ σ' r := by
  refine mi_i (own := RX10) (lv := [(0, .ref (g.2.1 0)), (1, .int p1), (2, .int p2)]) (by decide) rfl (Nat.le_of_ble_eq_true rfl) rfl (fun p e s m below meth c ls args Q A H0 H locs C hK hA hQ hs hl => ?_)
  have hx := C.1
  have hb := C.2.1
  unfold fX10_house at hE
  refine lv_aload_n hx hb dX10_house_0 rfl (lv_at hl 0 rfl) ?_
  refine gf_X10_46_0 C hK hs dX10_house_1 ?_
  refine lv_iload_n hx hb dX10_house_4 rfl (lv_at hl 1 rfl) ?_
  obtain ⟨σ1, r2, hE1, hE⟩ := cl_e hE
  refine x_civ (As := [.int p1]) (rest := []) C hl.1 hK hs hA ⟨Nat.le_refl 0, Nat.le_refl 0⟩ (ctX6_isHouse l g _ _ _ _ hE1) (cw_X10_153 C ⟨Nat.le_of_ble_eq_true rfl, Nat.le_of_ble_eq_true rfl⟩) (hs.recv hK 26 (by decide) rfl rfl) rfl rfl (Nat.le_of_ble_eq_true rfl) dX10_house_5 (fun H locs hs => ?_)
  refine lv_if_eq (tgt := 20) hx hb dX10_house_8 (by decide) (fun hc => ?_) (fun hc => ?_)
  · have hE := if_t hc hE
    refine lv_iconst (v := (-1)) hx hb dX10_house_20 (by decide) ?_
    exact hQ hs hE dX10_house_21
  · have hE := if_f hc hE
    refine lv_iload_n hx hb dX10_house_11 rfl (lv_at hl 2 rfl) ?_
    refine lv_if_lt (tgt := 20) hx hb dX10_house_12 (by decide) (fun hc => ?_) (fun hc => ?_)
    · have hE := if_t hc hE
      refine lv_iconst (v := (-1)) hx hb dX10_house_20 (by decide) ?_
      exact hQ hs hE dX10_house_21
    · have hE := if_f hc hE
      refine lv_iload_n hx hb dX10_house_15 rfl (lv_at hl 2 rfl) ?_
      refine lv_iconst (v := 3) hx hb dX10_house_16 (by decide) ?_
      refine lv_icmp_le (tgt := 22) hx hb dX10_house_17 (by decide) (fun hc => ?_) (fun hc => ?_)
      · have hE := if_t hc hE
        refine lv_aload_n hx hb dX10_house_22 rfl (lv_at hl 0 rfl) ?_
        refine lv_aload_n hx hb dX10_house_23 rfl (lv_at hl 0 rfl) ?_
        refine lv_iload_n hx hb dX10_house_24 rfl (lv_at hl 1 rfl) ?_
        refine lv_iload_n hx hb dX10_house_25 rfl (lv_at hl 2 rfl) ?_
        obtain ⟨σ3, r4, hE1, hE⟩ := cl_e hE
        refine x_civ (As := [.int p1, .int p2]) (rest := [.ref (g.2.1 0)]) C hl.1 hK hs hA ⟨Nat.le_refl 0, Nat.le_refl 0⟩ (ctX10_ofHouse l g _ _ _ _ _ hE1) (cw_X10_156 C ⟨Nat.le_of_ble_eq_true rfl, Nat.le_of_ble_eq_true rfl⟩) (hs.recv hK 0 (by decide) rfl rfl) rfl rfl (Nat.le_of_ble_eq_true rfl) dX10_house_26 (fun H locs hs => ?_)
        obtain ⟨σ5, eσ5, hE⟩ := pt_w hE
        refine pf_X10_95_0 C hK hs eσ5 dX10_house_29 (fun H locs hs => ?_)
        refine lv_iconst (v := 1) hx hb dX10_house_32 (by decide) ?_
        exact hQ hs hE dX10_house_33
      · have hE := if_f hc hE
        refine lv_iconst (v := (-1)) hx hb dX10_house_20 (by decide) ?_
        exact hQ hs hE dX10_house_21
theorem dX10_thing_0 : decode cX10_thing 0 = .ok (.aload_n 0, 1) := by decide +kernel
theorem dX10_thing_1 : decode cX10_thing 1 = .ok (.getfield 46, 3) := by decide +kernel
theorem dX10_thing_4 : decode cX10_thing 4 = .ok (.iload_n 1, 1) := by decide +kernel
theorem dX10_thing_5 : decode cX10_thing 5 = .ok (.invokevirtual 153, 3) := by decide +kernel
theorem dX10_thing_8 : decode cX10_thing 8 = .ok (.ifCond .eq 14, 3) := by decide +kernel
theorem dX10_thing_11 : decode cX10_thing 11 = .ok (.aload_n 0, 1) := by decide +kernel
theorem dX10_thing_12 : decode cX10_thing 12 = .ok (.getfield 46, 3) := by decide +kernel
theorem dX10_thing_15 : decode cX10_thing 15 = .ok (.iload_n 2, 1) := by decide +kernel
theorem dX10_thing_16 : decode cX10_thing 16 = .ok (.invokevirtual 141, 3) := by decide +kernel
theorem dX10_thing_19 : decode cX10_thing 19 = .ok (.ifCond .ne 5, 3) := by decide +kernel
theorem dX10_thing_22 : decode cX10_thing 22 = .ok (.iconst (-1), 1) := by decide +kernel
theorem dX10_thing_23 : decode cX10_thing 23 = .ok (.ireturn, 1) := by decide +kernel
theorem dX10_thing_24 : decode cX10_thing 24 = .ok (.aload_n 0, 1) := by decide +kernel
theorem dX10_thing_25 : decode cX10_thing 25 = .ok (.getfield 39, 3) := by decide +kernel
theorem dX10_thing_28 : decode cX10_thing 28 = .ok (.iload_n 1, 1) := by decide +kernel
theorem dX10_thing_29 : decode cX10_thing 29 = .ok (.iload_n 2, 1) := by decide +kernel
theorem dX10_thing_30 : decode cX10_thing 30 = .ok (.invokevirtual 159, 3) := by decide +kernel
theorem dX10_thing_33 : decode cX10_thing 33 = .ok (.ifCond .ne 6, 3) := by decide +kernel
theorem dX10_thing_36 : decode cX10_thing 36 = .ok (.bipush (-9), 2) := by decide +kernel
theorem dX10_thing_38 : decode cX10_thing 38 = .ok (.ireturn, 1) := by decide +kernel
theorem dX10_thing_39 : decode cX10_thing 39 = .ok (.aload_n 0, 1) := by decide +kernel
theorem dX10_thing_40 : decode cX10_thing 40 = .ok (.aload_n 0, 1) := by decide +kernel
theorem dX10_thing_41 : decode cX10_thing 41 = .ok (.getfield 46, 3) := by decide +kernel
theorem dX10_thing_44 : decode cX10_thing 44 = .ok (.iload_n 1, 1) := by decide +kernel
theorem dX10_thing_45 : decode cX10_thing 45 = .ok (.iload_n 2, 1) := by decide +kernel
theorem dX10_thing_46 : decode cX10_thing 46 = .ok (.invokevirtual 162, 3) := by decide +kernel
theorem dX10_thing_49 : decode cX10_thing 49 = .ok (.putfield 95, 3) := by decide +kernel
theorem dX10_thing_52 : decode cX10_thing 52 = .ok (.aload_n 0, 1) := by decide +kernel
theorem dX10_thing_53 : decode cX10_thing 53 = .ok (.getfield 39, 3) := by decide +kernel
theorem dX10_thing_56 : decode cX10_thing 56 = .ok (.iload_n 1, 1) := by decide +kernel
theorem dX10_thing_57 : decode cX10_thing 57 = .ok (.iload_n 2, 1) := by decide +kernel
theorem dX10_thing_58 : decode cX10_thing 58 = .ok (.invokevirtual 165, 3) := by decide +kernel
theorem dX10_thing_61 : decode cX10_thing 61 = .ok (.ireturn, 1) := by decide +kernel
def fX10_thing (σ : St) (p1 : Int32) (p2 : Int32) : Option (St × Int32) := cl (fX6_isHouse σ p1) (fun σ1 r2 => (if r2 = 0 then some (σ1, (-1)) else cl (fX6_isColour σ1 p2) (fun σ3 r4 => (if r4 = 0 then some (σ3, (-1)) else cl (fX9_has σ3 p1 p2) (fun σ5 r6 => (if r6 = 0 then some (σ5, (-9)) else cl (fX6_pays σ5 p1 p2) (fun σ7 r8 => pt (su σ7 0 11 r8) (fun σ9 => cl (fX9_endOf σ9 p1 p2) (fun σ10 r11 => some (σ10, r11))))))))))
set_option maxHeartbeats 4000000 in
set_option maxRecDepth 100000 in
theorem ctX10_thing (l : Launch) (g : GG) (σ : St) (p1 : Int32) (p2 : Int32) (σ' : St) (r : Int32) (hE : fX10_thing σ p1 p2 = some (σ', r)) : MI 52 entC l g yX10_thing (Cond.code yX10_thing cX10_thing 3 (some .int) :: gtbl) (rmD 3) [.ref (g.2.1 0), .int p1, .int p2] σ σ' r := by
  refine mi_i (own := RX10) (lv := [(0, .ref (g.2.1 0)), (1, .int p1), (2, .int p2)]) (by decide) rfl (Nat.le_of_ble_eq_true rfl) rfl (fun p e s m below meth c ls args Q A H0 H locs C hK hA hQ hs hl => ?_)
  have hx := C.1
  have hb := C.2.1
  unfold fX10_thing at hE
  refine lv_aload_n hx hb dX10_thing_0 rfl (lv_at hl 0 rfl) ?_
  refine gf_X10_46_0 C hK hs dX10_thing_1 ?_
  refine lv_iload_n hx hb dX10_thing_4 rfl (lv_at hl 1 rfl) ?_
  obtain ⟨σ1, r2, hE1, hE⟩ := cl_e hE
  refine x_civ (As := [.int p1]) (rest := []) C hl.1 hK hs hA ⟨Nat.le_refl 0, Nat.le_refl 0⟩ (ctX6_isHouse l g _ _ _ _ hE1) (cw_X10_153 C ⟨Nat.le_of_ble_eq_true rfl, Nat.le_of_ble_eq_true rfl⟩) (hs.recv hK 26 (by decide) rfl rfl) rfl rfl (Nat.le_of_ble_eq_true rfl) dX10_thing_5 (fun H locs hs => ?_)
  refine lv_if_eq (tgt := 22) hx hb dX10_thing_8 (by decide) (fun hc => ?_) (fun hc => ?_)
  · have hE := if_t hc hE
    refine lv_iconst (v := (-1)) hx hb dX10_thing_22 (by decide) ?_
    exact hQ hs hE dX10_thing_23
  · have hE := if_f hc hE
    refine lv_aload_n hx hb dX10_thing_11 rfl (lv_at hl 0 rfl) ?_
    refine gf_X10_46_0 C hK hs dX10_thing_12 ?_
    refine lv_iload_n hx hb dX10_thing_15 rfl (lv_at hl 2 rfl) ?_
    obtain ⟨σ3, r4, hE1, hE⟩ := cl_e hE
    refine x_civ (As := [.int p2]) (rest := []) C hl.1 hK hs hA ⟨Nat.le_refl 0, Nat.le_refl 0⟩ (ctX6_isColour l g _ _ _ _ hE1) (cw_X10_141 C ⟨Nat.le_of_ble_eq_true rfl, Nat.le_of_ble_eq_true rfl⟩) (hs.recv hK 26 (by decide) rfl rfl) rfl rfl (Nat.le_of_ble_eq_true rfl) dX10_thing_16 (fun H locs hs => ?_)
    refine lv_if_ne (tgt := 24) hx hb dX10_thing_19 (by decide) (fun hc => ?_) (fun hc => ?_)
    · have hE := if_f hc hE
      refine lv_aload_n hx hb dX10_thing_24 rfl (lv_at hl 0 rfl) ?_
      refine gf_X10_39_0 C hK hs dX10_thing_25 ?_
      refine lv_iload_n hx hb dX10_thing_28 rfl (lv_at hl 1 rfl) ?_
      refine lv_iload_n hx hb dX10_thing_29 rfl (lv_at hl 2 rfl) ?_
      obtain ⟨σ5, r6, hE1, hE⟩ := cl_e hE
      refine x_civ (As := [.int p1, .int p2]) (rest := []) C hl.1 hK hs hA ⟨Nat.le_refl 0, Nat.le_refl 0⟩ (ctX9_has l g _ _ _ _ _ hE1) (cw_X10_159 C ⟨Nat.le_of_ble_eq_true rfl, Nat.le_of_ble_eq_true rfl⟩) (hs.recv hK 25 (by decide) rfl rfl) rfl rfl (Nat.le_of_ble_eq_true rfl) dX10_thing_30 (fun H locs hs => ?_)
      refine lv_if_ne (tgt := 39) hx hb dX10_thing_33 (by decide) (fun hc => ?_) (fun hc => ?_)
      · have hE := if_f hc hE
        refine lv_aload_n hx hb dX10_thing_39 rfl (lv_at hl 0 rfl) ?_
        refine lv_aload_n hx hb dX10_thing_40 rfl (lv_at hl 0 rfl) ?_
        refine gf_X10_46_0 C hK hs dX10_thing_41 ?_
        refine lv_iload_n hx hb dX10_thing_44 rfl (lv_at hl 1 rfl) ?_
        refine lv_iload_n hx hb dX10_thing_45 rfl (lv_at hl 2 rfl) ?_
        obtain ⟨σ7, r8, hE1, hE⟩ := cl_e hE
        refine x_civ (As := [.int p1, .int p2]) (rest := [.ref (g.2.1 0)]) C hl.1 hK hs hA ⟨Nat.le_refl 0, Nat.le_refl 0⟩ (ctX6_pays l g _ _ _ _ _ hE1) (cw_X10_162 C ⟨Nat.le_of_ble_eq_true rfl, Nat.le_of_ble_eq_true rfl⟩) (hs.recv hK 26 (by decide) rfl rfl) rfl rfl (Nat.le_of_ble_eq_true rfl) dX10_thing_46 (fun H locs hs => ?_)
        obtain ⟨σ9, eσ9, hE⟩ := pt_w hE
        refine pf_X10_95_0 C hK hs eσ9 dX10_thing_49 (fun H locs hs => ?_)
        refine lv_aload_n hx hb dX10_thing_52 rfl (lv_at hl 0 rfl) ?_
        refine gf_X10_39_0 C hK hs dX10_thing_53 ?_
        refine lv_iload_n hx hb dX10_thing_56 rfl (lv_at hl 1 rfl) ?_
        refine lv_iload_n hx hb dX10_thing_57 rfl (lv_at hl 2 rfl) ?_
        obtain ⟨σ10, r11, hE1, hE⟩ := cl_e hE
        refine x_civ (As := [.int p1, .int p2]) (rest := []) C hl.1 hK hs hA ⟨Nat.le_refl 0, Nat.le_refl 0⟩ (ctX9_endOf l g _ _ _ _ _ hE1) (cw_X10_165 C ⟨Nat.le_of_ble_eq_true rfl, Nat.le_of_ble_eq_true rfl⟩) (hs.recv hK 25 (by decide) rfl rfl) rfl rfl (Nat.le_of_ble_eq_true rfl) dX10_thing_58 (fun H locs hs => ?_)
        exact hQ hs hE dX10_thing_61
      · have hE := if_t hc hE
        refine lv_bipush (v := (-9)) hx hb dX10_thing_36 (by decide) ?_
        exact hQ hs hE dX10_thing_38
    · have hE := if_t hc hE
      refine lv_iconst (v := (-1)) hx hb dX10_thing_22 (by decide) ?_
      exact hQ hs hE dX10_thing_23
theorem dX10_mark_0 : decode cX10_mark 0 = .ok (.aload_n 0, 1) := by decide +kernel
theorem dX10_mark_1 : decode cX10_mark 1 = .ok (.getfield 46, 3) := by decide +kernel
theorem dX10_mark_4 : decode cX10_mark 4 = .ok (.iload_n 1, 1) := by decide +kernel
theorem dX10_mark_5 : decode cX10_mark 5 = .ok (.invokevirtual 153, 3) := by decide +kernel
theorem dX10_mark_8 : decode cX10_mark 8 = .ok (.ifCond .eq 13, 3) := by decide +kernel
theorem dX10_mark_11 : decode cX10_mark 11 = .ok (.iload_n 2, 1) := by decide +kernel
theorem dX10_mark_12 : decode cX10_mark 12 = .ok (.ifCond .le 9, 3) := by decide +kernel
theorem dX10_mark_15 : decode cX10_mark 15 = .ok (.iload_n 2, 1) := by decide +kernel
theorem dX10_mark_16 : decode cX10_mark 16 = .ok (.bipush 6, 2) := by decide +kernel
theorem dX10_mark_18 : decode cX10_mark 18 = .ok (.if_icmp .lt 5, 3) := by decide +kernel
theorem dX10_mark_21 : decode cX10_mark 21 = .ok (.iconst (-1), 1) := by decide +kernel
theorem dX10_mark_22 : decode cX10_mark 22 = .ok (.ireturn, 1) := by decide +kernel
theorem dX10_mark_23 : decode cX10_mark 23 = .ok (.aload_n 0, 1) := by decide +kernel
theorem dX10_mark_24 : decode cX10_mark 24 = .ok (.getfield 46, 3) := by decide +kernel
theorem dX10_mark_27 : decode cX10_mark 27 = .ok (.getfield 170, 3) := by decide +kernel
theorem dX10_mark_30 : decode cX10_mark 30 = .ok (.iload_n 1, 1) := by decide +kernel
theorem dX10_mark_31 : decode cX10_mark 31 = .ok (.iaload, 1) := by decide +kernel
theorem dX10_mark_32 : decode cX10_mark 32 = .ok (.istore_n 3, 1) := by decide +kernel
theorem dX10_mark_33 : decode cX10_mark 33 = .ok (.iload_n 3, 1) := by decide +kernel
theorem dX10_mark_34 : decode cX10_mark 34 = .ok (.iload_n 2, 1) := by decide +kernel
theorem dX10_mark_35 : decode cX10_mark 35 = .ok (.invokestatic 173, 3) := by decide +kernel
theorem dX10_mark_38 : decode cX10_mark 38 = .ok (.ifCond .ne 9, 3) := by decide +kernel
theorem dX10_mark_41 : decode cX10_mark 41 = .ok (.aload_n 0, 1) := by decide +kernel
theorem dX10_mark_42 : decode cX10_mark 42 = .ok (.iconst 3, 1) := by decide +kernel
theorem dX10_mark_43 : decode cX10_mark 43 = .ok (.invokevirtual 76, 3) := by decide +kernel
theorem dX10_mark_46 : decode cX10_mark 46 = .ok (.ireturn, 1) := by decide +kernel
theorem dX10_mark_47 : decode cX10_mark 47 = .ok (.aload_n 0, 1) := by decide +kernel
theorem dX10_mark_48 : decode cX10_mark 48 = .ok (.getfield 46, 3) := by decide +kernel
theorem dX10_mark_51 : decode cX10_mark 51 = .ok (.getfield 176, 3) := by decide +kernel
theorem dX10_mark_54 : decode cX10_mark 54 = .ok (.aload_n 0, 1) := by decide +kernel
theorem dX10_mark_55 : decode cX10_mark 55 = .ok (.getfield 46, 3) := by decide +kernel
theorem dX10_mark_58 : decode cX10_mark 58 = .ok (.invokevirtual 179, 3) := by decide +kernel
theorem dX10_mark_61 : decode cX10_mark 61 = .ok (.iaload, 1) := by decide +kernel
theorem dX10_mark_62 : decode cX10_mark 62 = .ok (.istore 4, 2) := by decide +kernel
theorem dX10_mark_64 : decode cX10_mark 64 = .ok (.iload_n 2, 1) := by decide +kernel
theorem dX10_mark_65 : decode cX10_mark 65 = .ok (.tableswitch 99 1 4 #[31, 71, 85, 51], 31) := by decide +kernel
theorem dX10_mark_96 : decode cX10_mark 96 = .ok (.aload_n 0, 1) := by decide +kernel
theorem dX10_mark_97 : decode cX10_mark 97 = .ok (.getfield 39, 3) := by decide +kernel
theorem dX10_mark_100 : decode cX10_mark 100 = .ok (.iload_n 1, 1) := by decide +kernel
theorem dX10_mark_101 : decode cX10_mark 101 = .ok (.iload_n 3, 1) := by decide +kernel
theorem dX10_mark_102 : decode cX10_mark 102 = .ok (.invokevirtual 183, 3) := by decide +kernel
theorem dX10_mark_105 : decode cX10_mark 105 = .ok (.aload_n 0, 1) := by decide +kernel
theorem dX10_mark_106 : decode cX10_mark 106 = .ok (.getfield 39, 3) := by decide +kernel
theorem dX10_mark_109 : decode cX10_mark 109 = .ok (.iload_n 1, 1) := by decide +kernel
theorem dX10_mark_110 : decode cX10_mark 110 = .ok (.iconst 0, 1) := by decide +kernel
theorem dX10_mark_111 : decode cX10_mark 111 = .ok (.invokevirtual 183, 3) := by decide +kernel
theorem dX10_mark_114 : decode cX10_mark 114 = .ok (.isub, 1) := by decide +kernel
theorem dX10_mark_115 : decode cX10_mark 115 = .ok (.ireturn, 1) := by decide +kernel
theorem dX10_mark_116 : decode cX10_mark 116 = .ok (.aload_n 0, 1) := by decide +kernel
theorem dX10_mark_117 : decode cX10_mark 117 = .ok (.getfield 39, 3) := by decide +kernel
theorem dX10_mark_120 : decode cX10_mark 120 = .ok (.iload_n 1, 1) := by decide +kernel
theorem dX10_mark_121 : decode cX10_mark 121 = .ok (.iload_n 3, 1) := by decide +kernel
theorem dX10_mark_122 : decode cX10_mark 122 = .ok (.invokevirtual 183, 3) := by decide +kernel
theorem dX10_mark_125 : decode cX10_mark 125 = .ok (.aload_n 0, 1) := by decide +kernel
theorem dX10_mark_126 : decode cX10_mark 126 = .ok (.getfield 39, 3) := by decide +kernel
theorem dX10_mark_129 : decode cX10_mark 129 = .ok (.iload_n 1, 1) := by decide +kernel
theorem dX10_mark_130 : decode cX10_mark 130 = .ok (.iconst 1, 1) := by decide +kernel
theorem dX10_mark_131 : decode cX10_mark 131 = .ok (.invokevirtual 183, 3) := by decide +kernel
theorem dX10_mark_134 : decode cX10_mark 134 = .ok (.isub, 1) := by decide +kernel
theorem dX10_mark_135 : decode cX10_mark 135 = .ok (.ireturn, 1) := by decide +kernel
theorem dX10_mark_136 : decode cX10_mark 136 = .ok (.iload_n 3, 1) := by decide +kernel
theorem dX10_mark_137 : decode cX10_mark 137 = .ok (.iload 4, 2) := by decide +kernel
theorem dX10_mark_139 : decode cX10_mark 139 = .ok (.invokestatic 186, 3) := by decide +kernel
theorem dX10_mark_142 : decode cX10_mark 142 = .ok (.iconst 0, 1) := by decide +kernel
theorem dX10_mark_143 : decode cX10_mark 143 = .ok (.iload 4, 2) := by decide +kernel
theorem dX10_mark_145 : decode cX10_mark 145 = .ok (.invokestatic 186, 3) := by decide +kernel
theorem dX10_mark_148 : decode cX10_mark 148 = .ok (.isub, 1) := by decide +kernel
theorem dX10_mark_149 : decode cX10_mark 149 = .ok (.ireturn, 1) := by decide +kernel
theorem dX10_mark_150 : decode cX10_mark 150 = .ok (.iconst 0, 1) := by decide +kernel
theorem dX10_mark_151 : decode cX10_mark 151 = .ok (.iload 4, 2) := by decide +kernel
theorem dX10_mark_153 : decode cX10_mark 153 = .ok (.invokestatic 186, 3) := by decide +kernel
theorem dX10_mark_156 : decode cX10_mark 156 = .ok (.iload_n 3, 1) := by decide +kernel
theorem dX10_mark_157 : decode cX10_mark 157 = .ok (.iload 4, 2) := by decide +kernel
theorem dX10_mark_159 : decode cX10_mark 159 = .ok (.invokestatic 186, 3) := by decide +kernel
theorem dX10_mark_162 : decode cX10_mark 162 = .ok (.isub, 1) := by decide +kernel
theorem dX10_mark_163 : decode cX10_mark 163 = .ok (.ireturn, 1) := by decide +kernel
theorem dX10_mark_164 : decode cX10_mark 164 = .ok (.iconst 2, 1) := by decide +kernel
theorem dX10_mark_165 : decode cX10_mark 165 = .ok (.iload 4, 2) := by decide +kernel
theorem dX10_mark_167 : decode cX10_mark 167 = .ok (.invokestatic 186, 3) := by decide +kernel
theorem dX10_mark_170 : decode cX10_mark 170 = .ok (.iload_n 3, 1) := by decide +kernel
theorem dX10_mark_171 : decode cX10_mark 171 = .ok (.iload 4, 2) := by decide +kernel
theorem dX10_mark_173 : decode cX10_mark 173 = .ok (.invokestatic 186, 3) := by decide +kernel
theorem dX10_mark_176 : decode cX10_mark 176 = .ok (.isub, 1) := by decide +kernel
theorem dX10_mark_177 : decode cX10_mark 177 = .ok (.ireturn, 1) := by decide +kernel
def fX10_mark (σ : St) (p1 : Int32) (p2 : Int32) : Option (St × Int32) := cl (fX6_isHouse σ p1) (fun σ1 r2 => (if r2 = 0 then some (σ1, (-1)) else (if p2 ≤ 0 then some (σ1, (-1)) else (if p2 < 6 then rd LC σ1 31 p1 (fun x3 => cl (fX2_isOf σ1 x3 p2) (fun σ4 r5 => (if r5 = 0 then cl (fX10_refuse σ4 3) (fun σ29 r30 => some (σ29, r30)) else cl (fX6_dearest σ4) (fun σ6 r7 => rd LC σ6 29 r7 (fun x8 => (if p2 = 1 then cl (fX9_purseAs σ6 p1 x3) (fun σ13 r14 => cl (fX9_purseAs σ13 p1 0) (fun σ15 r16 => some (σ15, r14 - r16))) else (if p2 = 2 then cl (fX2_pays σ6 x3 x8) (fun σ17 r18 => cl (fX2_pays σ17 0 x8) (fun σ19 r20 => some (σ19, r18 - r20))) else (if p2 = 3 then cl (fX2_pays σ6 0 x8) (fun σ21 r22 => cl (fX2_pays σ21 x3 x8) (fun σ23 r24 => some (σ23, r22 - r24))) else (if p2 = 4 then cl (fX9_purseAs σ6 p1 x3) (fun σ25 r26 => cl (fX9_purseAs σ25 p1 1) (fun σ27 r28 => some (σ27, r26 - r28))) else cl (fX2_pays σ6 2 x8) (fun σ9 r10 => cl (fX2_pays σ9 x3 x8) (fun σ11 r12 => some (σ11, r10 - r12)))))))))))) else some (σ1, (-1))))))
set_option maxHeartbeats 4000000 in
set_option maxRecDepth 100000 in
theorem ctX10_mark (l : Launch) (g : GG) (σ : St) (p1 : Int32) (p2 : Int32) (σ' : St) (r : Int32) (hE : fX10_mark σ p1 p2 = some (σ', r)) : MI 52 entC l g yX10_mark (Cond.code yX10_mark cX10_mark 5 (some .int) :: gtbl) (rmD 3) [.ref (g.2.1 0), .int p1, .int p2] σ σ' r := by
  refine mi_i (own := RX10) (lv := [(0, .ref (g.2.1 0)), (1, .int p1), (2, .int p2)]) (by decide) rfl (Nat.le_of_ble_eq_true rfl) rfl (fun p e s m below meth c ls args Q A H0 H locs C hK hA hQ hs hl => ?_)
  have hx := C.1
  have hb := C.2.1
  unfold fX10_mark at hE
  refine lv_aload_n hx hb dX10_mark_0 rfl (lv_at hl 0 rfl) ?_
  refine gf_X10_46_0 C hK hs dX10_mark_1 ?_
  refine lv_iload_n hx hb dX10_mark_4 rfl (lv_at hl 1 rfl) ?_
  obtain ⟨σ1, r2, hE1, hE⟩ := cl_e hE
  refine x_civ (As := [.int p1]) (rest := []) C hl.1 hK hs hA ⟨Nat.le_refl 0, Nat.le_refl 0⟩ (ctX6_isHouse l g _ _ _ _ hE1) (cw_X10_153 C ⟨Nat.le_of_ble_eq_true rfl, Nat.le_of_ble_eq_true rfl⟩) (hs.recv hK 26 (by decide) rfl rfl) rfl rfl (Nat.le_of_ble_eq_true rfl) dX10_mark_5 (fun H locs hs => ?_)
  refine lv_if_eq (tgt := 21) hx hb dX10_mark_8 (by decide) (fun hc => ?_) (fun hc => ?_)
  · have hE := if_t hc hE
    refine lv_iconst (v := (-1)) hx hb dX10_mark_21 (by decide) ?_
    exact hQ hs hE dX10_mark_22
  · have hE := if_f hc hE
    refine lv_iload_n hx hb dX10_mark_11 rfl (lv_at hl 2 rfl) ?_
    refine lv_if_le (tgt := 21) hx hb dX10_mark_12 (by decide) (fun hc => ?_) (fun hc => ?_)
    · have hE := if_t hc hE
      refine lv_iconst (v := (-1)) hx hb dX10_mark_21 (by decide) ?_
      exact hQ hs hE dX10_mark_22
    · have hE := if_f hc hE
      refine lv_iload_n hx hb dX10_mark_15 rfl (lv_at hl 2 rfl) ?_
      refine lv_bipush (v := 6) hx hb dX10_mark_16 (by decide) ?_
      refine lv_icmp_lt (tgt := 23) hx hb dX10_mark_18 (by decide) (fun hc => ?_) (fun hc => ?_)
      · have hE := if_t hc hE
        refine lv_aload_n hx hb dX10_mark_23 rfl (lv_at hl 0 rfl) ?_
        refine gf_X10_46_0 C hK hs dX10_mark_24 ?_
        refine gf_X10_170_26 C hK hs dX10_mark_27 ?_
        refine lv_iload_n hx hb dX10_mark_30 rfl (lv_at hl 1 rfl) ?_
        obtain ⟨hi, x3, ex3, hE⟩ := rd_w hE
        refine y_ald layC C hK hs hi ex3 dX10_mark_31 ?_
        refine lv_istore_n (lv' := [(3, .int x3), (0, .ref (g.2.1 0)), (1, .int p1), (2, .int p2)]) hx hb dX10_mark_32 rfl hl (by decide) rfl (fun ls hl => ?_)
        refine lv_iload_n hx hb dX10_mark_33 rfl (lv_at hl 0 rfl) ?_
        refine lv_iload_n hx hb dX10_mark_34 rfl (lv_at hl 3 rfl) ?_
        obtain ⟨σ4, r5, hE1, hE⟩ := cl_e hE
        refine x_cis (As := [.int x3, .int p2]) (rest := []) C hl.1 hK hs hA ⟨Nat.le_refl 0, Nat.le_refl 0⟩ (ctX2_isOf l g _ _ _ _ _ hE1) (cw_X10_173 C ⟨Nat.le_of_ble_eq_true rfl, Nat.le_of_ble_eq_true rfl⟩) rfl rfl (Nat.le_of_ble_eq_true rfl) dX10_mark_35 (fun H locs hs => ?_)
        refine lv_if_ne (tgt := 47) hx hb dX10_mark_38 (by decide) (fun hc => ?_) (fun hc => ?_)
        · have hE := if_f hc hE
          refine lv_aload_n hx hb dX10_mark_47 rfl (lv_at hl 1 rfl) ?_
          refine gf_X10_46_0 C hK hs dX10_mark_48 ?_
          refine gf_X10_176_26 C hK hs dX10_mark_51 ?_
          refine lv_aload_n hx hb dX10_mark_54 rfl (lv_at hl 1 rfl) ?_
          refine gf_X10_46_0 C hK hs dX10_mark_55 ?_
          obtain ⟨σ6, r7, hE1, hE⟩ := cl_e hE
          refine x_civ (As := []) (rest := [.ref (g.2.1 29)]) C hl.1 hK hs hA ⟨Nat.le_refl 0, Nat.le_refl 0⟩ (ctX6_dearest l g _  _ _ hE1) (cw_X10_179 C ⟨Nat.le_of_ble_eq_true rfl, Nat.le_of_ble_eq_true rfl⟩) (hs.recv hK 26 (by decide) rfl rfl) rfl rfl (Nat.le_of_ble_eq_true rfl) dX10_mark_58 (fun H locs hs => ?_)
          obtain ⟨hi, x8, ex8, hE⟩ := rd_w hE
          refine y_ald layC C hK hs hi ex8 dX10_mark_61 ?_
          refine lv_istore (lv' := [(4, .int x8), (3, .int x3), (0, .ref (g.2.1 0)), (1, .int p1), (2, .int p2)]) hx hb dX10_mark_62 hl (by decide) rfl (fun ls hl => ?_)
          refine lv_iload_n hx hb dX10_mark_64 rfl (lv_at hl 4 rfl) ?_
          by_cases hn1 : p2 = 1
          · have hE := if_t hn1 hE
            refine lv_tableIn (off := 31) (tgt := 96) hx hb dX10_mark_65 (by rw [hn1]; decide) (by rw [hn1]; decide) (by rw [hn1]; decide) (by decide) ?_
            refine lv_aload_n hx hb dX10_mark_96 rfl (lv_at hl 2 rfl) ?_
            refine gf_X10_39_0 C hK hs dX10_mark_97 ?_
            refine lv_iload_n hx hb dX10_mark_100 rfl (lv_at hl 3 rfl) ?_
            refine lv_iload_n hx hb dX10_mark_101 rfl (lv_at hl 1 rfl) ?_
            obtain ⟨σ13, r14, hE1, hE⟩ := cl_e hE
            refine x_civ (As := [.int p1, .int x3]) (rest := []) C hl.1 hK hs hA ⟨Nat.le_refl 0, Nat.le_refl 0⟩ (ctX9_purseAs l g _ _ _ _ _ hE1) (cw_X10_183 C ⟨Nat.le_of_ble_eq_true rfl, Nat.le_of_ble_eq_true rfl⟩) (hs.recv hK 25 (by decide) rfl rfl) rfl rfl (Nat.le_of_ble_eq_true rfl) dX10_mark_102 (fun H locs hs => ?_)
            refine lv_aload_n hx hb dX10_mark_105 rfl (lv_at hl 2 rfl) ?_
            refine gf_X10_39_0 C hK hs dX10_mark_106 ?_
            refine lv_iload_n hx hb dX10_mark_109 rfl (lv_at hl 3 rfl) ?_
            refine lv_iconst (v := 0) hx hb dX10_mark_110 (by decide) ?_
            obtain ⟨σ15, r16, hE1, hE⟩ := cl_e hE
            refine x_civ (As := [.int p1, .int 0]) (rest := [.int r14]) C hl.1 hK hs hA ⟨Nat.le_refl 0, Nat.le_refl 0⟩ (ctX9_purseAs l g _ _ _ _ _ hE1) (cw_X10_183 C ⟨Nat.le_of_ble_eq_true rfl, Nat.le_of_ble_eq_true rfl⟩) (hs.recv hK 25 (by decide) rfl rfl) rfl rfl (Nat.le_of_ble_eq_true rfl) dX10_mark_111 (fun H locs hs => ?_)
            refine lv_isub hx hb dX10_mark_114 ?_
            exact hQ hs hE dX10_mark_115
          have hE := if_f hn1 hE
          by_cases hn2 : p2 = 2
          · have hE := if_t hn2 hE
            refine lv_tableIn (off := 71) (tgt := 136) hx hb dX10_mark_65 (by rw [hn2]; decide) (by rw [hn2]; decide) (by rw [hn2]; decide) (by decide) ?_
            refine lv_iload_n hx hb dX10_mark_136 rfl (lv_at hl 1 rfl) ?_
            refine lv_iload hx hb dX10_mark_137 (lv_at hl 0 rfl) ?_
            obtain ⟨σ17, r18, hE1, hE⟩ := cl_e hE
            refine x_cis (As := [.int x3, .int x8]) (rest := []) C hl.1 hK hs hA ⟨Nat.le_refl 0, Nat.le_refl 0⟩ (ctX2_pays l g _ _ _ _ _ hE1) (cw_X10_186 C ⟨Nat.le_of_ble_eq_true rfl, Nat.le_of_ble_eq_true rfl⟩) rfl rfl (Nat.le_of_ble_eq_true rfl) dX10_mark_139 (fun H locs hs => ?_)
            refine lv_iconst (v := 0) hx hb dX10_mark_142 (by decide) ?_
            refine lv_iload hx hb dX10_mark_143 (lv_at hl 0 rfl) ?_
            obtain ⟨σ19, r20, hE1, hE⟩ := cl_e hE
            refine x_cis (As := [.int 0, .int x8]) (rest := [.int r18]) C hl.1 hK hs hA ⟨Nat.le_refl 0, Nat.le_refl 0⟩ (ctX2_pays l g _ _ _ _ _ hE1) (cw_X10_186 C ⟨Nat.le_of_ble_eq_true rfl, Nat.le_of_ble_eq_true rfl⟩) rfl rfl (Nat.le_of_ble_eq_true rfl) dX10_mark_145 (fun H locs hs => ?_)
            refine lv_isub hx hb dX10_mark_148 ?_
            exact hQ hs hE dX10_mark_149
          have hE := if_f hn2 hE
          by_cases hn3 : p2 = 3
          · have hE := if_t hn3 hE
            refine lv_tableIn (off := 85) (tgt := 150) hx hb dX10_mark_65 (by rw [hn3]; decide) (by rw [hn3]; decide) (by rw [hn3]; decide) (by decide) ?_
            refine lv_iconst (v := 0) hx hb dX10_mark_150 (by decide) ?_
            refine lv_iload hx hb dX10_mark_151 (lv_at hl 0 rfl) ?_
            obtain ⟨σ21, r22, hE1, hE⟩ := cl_e hE
            refine x_cis (As := [.int 0, .int x8]) (rest := []) C hl.1 hK hs hA ⟨Nat.le_refl 0, Nat.le_refl 0⟩ (ctX2_pays l g _ _ _ _ _ hE1) (cw_X10_186 C ⟨Nat.le_of_ble_eq_true rfl, Nat.le_of_ble_eq_true rfl⟩) rfl rfl (Nat.le_of_ble_eq_true rfl) dX10_mark_153 (fun H locs hs => ?_)
            refine lv_iload_n hx hb dX10_mark_156 rfl (lv_at hl 1 rfl) ?_
            refine lv_iload hx hb dX10_mark_157 (lv_at hl 0 rfl) ?_
            obtain ⟨σ23, r24, hE1, hE⟩ := cl_e hE
            refine x_cis (As := [.int x3, .int x8]) (rest := [.int r22]) C hl.1 hK hs hA ⟨Nat.le_refl 0, Nat.le_refl 0⟩ (ctX2_pays l g _ _ _ _ _ hE1) (cw_X10_186 C ⟨Nat.le_of_ble_eq_true rfl, Nat.le_of_ble_eq_true rfl⟩) rfl rfl (Nat.le_of_ble_eq_true rfl) dX10_mark_159 (fun H locs hs => ?_)
            refine lv_isub hx hb dX10_mark_162 ?_
            exact hQ hs hE dX10_mark_163
          have hE := if_f hn3 hE
          by_cases hn4 : p2 = 4
          · have hE := if_t hn4 hE
            refine lv_tableIn (off := 51) (tgt := 116) hx hb dX10_mark_65 (by rw [hn4]; decide) (by rw [hn4]; decide) (by rw [hn4]; decide) (by decide) ?_
            refine lv_aload_n hx hb dX10_mark_116 rfl (lv_at hl 2 rfl) ?_
            refine gf_X10_39_0 C hK hs dX10_mark_117 ?_
            refine lv_iload_n hx hb dX10_mark_120 rfl (lv_at hl 3 rfl) ?_
            refine lv_iload_n hx hb dX10_mark_121 rfl (lv_at hl 1 rfl) ?_
            obtain ⟨σ25, r26, hE1, hE⟩ := cl_e hE
            refine x_civ (As := [.int p1, .int x3]) (rest := []) C hl.1 hK hs hA ⟨Nat.le_refl 0, Nat.le_refl 0⟩ (ctX9_purseAs l g _ _ _ _ _ hE1) (cw_X10_183 C ⟨Nat.le_of_ble_eq_true rfl, Nat.le_of_ble_eq_true rfl⟩) (hs.recv hK 25 (by decide) rfl rfl) rfl rfl (Nat.le_of_ble_eq_true rfl) dX10_mark_122 (fun H locs hs => ?_)
            refine lv_aload_n hx hb dX10_mark_125 rfl (lv_at hl 2 rfl) ?_
            refine gf_X10_39_0 C hK hs dX10_mark_126 ?_
            refine lv_iload_n hx hb dX10_mark_129 rfl (lv_at hl 3 rfl) ?_
            refine lv_iconst (v := 1) hx hb dX10_mark_130 (by decide) ?_
            obtain ⟨σ27, r28, hE1, hE⟩ := cl_e hE
            refine x_civ (As := [.int p1, .int 1]) (rest := [.int r26]) C hl.1 hK hs hA ⟨Nat.le_refl 0, Nat.le_refl 0⟩ (ctX9_purseAs l g _ _ _ _ _ hE1) (cw_X10_183 C ⟨Nat.le_of_ble_eq_true rfl, Nat.le_of_ble_eq_true rfl⟩) (hs.recv hK 25 (by decide) rfl rfl) rfl rfl (Nat.le_of_ble_eq_true rfl) dX10_mark_131 (fun H locs hs => ?_)
            refine lv_isub hx hb dX10_mark_134 ?_
            exact hQ hs hE dX10_mark_135
          have hE := if_f hn4 hE
          have hDf : W p l e (rmD 3) s m args below meth c H locs 0 0 Q (F0 m 164 ls []) := by
            refine lv_iconst (v := 2) hx hb dX10_mark_164 (by decide) ?_
            refine lv_iload hx hb dX10_mark_165 (lv_at hl 0 rfl) ?_
            obtain ⟨σ9, r10, hE1, hE⟩ := cl_e hE
            refine x_cis (As := [.int 2, .int x8]) (rest := []) C hl.1 hK hs hA ⟨Nat.le_refl 0, Nat.le_refl 0⟩ (ctX2_pays l g _ _ _ _ _ hE1) (cw_X10_186 C ⟨Nat.le_of_ble_eq_true rfl, Nat.le_of_ble_eq_true rfl⟩) rfl rfl (Nat.le_of_ble_eq_true rfl) dX10_mark_167 (fun H locs hs => ?_)
            refine lv_iload_n hx hb dX10_mark_170 rfl (lv_at hl 1 rfl) ?_
            refine lv_iload hx hb dX10_mark_171 (lv_at hl 0 rfl) ?_
            obtain ⟨σ11, r12, hE1, hE⟩ := cl_e hE
            refine x_cis (As := [.int x3, .int x8]) (rest := [.int r10]) C hl.1 hK hs hA ⟨Nat.le_refl 0, Nat.le_refl 0⟩ (ctX2_pays l g _ _ _ _ _ hE1) (cw_X10_186 C ⟨Nat.le_of_ble_eq_true rfl, Nat.le_of_ble_eq_true rfl⟩) rfl rfl (Nat.le_of_ble_eq_true rfl) dX10_mark_173 (fun H locs hs => ?_)
            refine lv_isub hx hb dX10_mark_176 ?_
            exact hQ hs hE dX10_mark_177
          exact lv_tableOut (tgt := 164) hx hb dX10_mark_65 (by have q0 := sw_n 1 hn1 (by decide); have q1 := sw_n 2 hn2 (by decide); have q2 := sw_n 3 hn3 (by decide); have q3 := sw_n 4 hn4 (by decide); omega) (by decide) hDf
        · have hE := if_t hc hE
          refine lv_aload_n hx hb dX10_mark_41 rfl (lv_at hl 1 rfl) ?_
          refine lv_iconst (v := 3) hx hb dX10_mark_42 (by decide) ?_
          obtain ⟨σ29, r30, hE1, hE⟩ := cl_e hE
          refine x_civ (As := [.int 3]) (rest := []) C hl.1 hK hs hA ⟨Nat.le_refl 0, Nat.le_refl 0⟩ (ctX10_refuse l g _ _ _ _ hE1) (cw_X10_76 C ⟨Nat.le_of_ble_eq_true rfl, Nat.le_of_ble_eq_true rfl⟩) (hs.recv hK 0 (by decide) rfl rfl) rfl rfl (Nat.le_of_ble_eq_true rfl) dX10_mark_43 (fun H locs hs => ?_)
          exact hQ hs hE dX10_mark_46
      · have hE := if_f hc hE
        refine lv_iconst (v := (-1)) hx hb dX10_mark_21 (by decide) ?_
        exact hQ hs hE dX10_mark_22
theorem dX10_buy_0 : decode cX10_buy 0 = .ok (.aload_n 0, 1) := by decide +kernel
theorem dX10_buy_1 : decode cX10_buy 1 = .ok (.getfield 46, 3) := by decide +kernel
theorem dX10_buy_4 : decode cX10_buy 4 = .ok (.iload_n 1, 1) := by decide +kernel
theorem dX10_buy_5 : decode cX10_buy 5 = .ok (.invokevirtual 153, 3) := by decide +kernel
theorem dX10_buy_8 : decode cX10_buy 8 = .ok (.ifCond .eq 14, 3) := by decide +kernel
theorem dX10_buy_11 : decode cX10_buy 11 = .ok (.aload_n 0, 1) := by decide +kernel
theorem dX10_buy_12 : decode cX10_buy 12 = .ok (.getfield 46, 3) := by decide +kernel
theorem dX10_buy_15 : decode cX10_buy 15 = .ok (.iload_n 2, 1) := by decide +kernel
theorem dX10_buy_16 : decode cX10_buy 16 = .ok (.invokevirtual 141, 3) := by decide +kernel
theorem dX10_buy_19 : decode cX10_buy 19 = .ok (.ifCond .ne 5, 3) := by decide +kernel
theorem dX10_buy_22 : decode cX10_buy 22 = .ok (.iconst (-1), 1) := by decide +kernel
theorem dX10_buy_23 : decode cX10_buy 23 = .ok (.ireturn, 1) := by decide +kernel
theorem dX10_buy_24 : decode cX10_buy 24 = .ok (.aload_n 0, 1) := by decide +kernel
theorem dX10_buy_25 : decode cX10_buy 25 = .ok (.getfield 39, 3) := by decide +kernel
theorem dX10_buy_28 : decode cX10_buy 28 = .ok (.iload_n 1, 1) := by decide +kernel
theorem dX10_buy_29 : decode cX10_buy 29 = .ok (.iload_n 2, 1) := by decide +kernel
theorem dX10_buy_30 : decode cX10_buy 30 = .ok (.invokevirtual 159, 3) := by decide +kernel
theorem dX10_buy_33 : decode cX10_buy 33 = .ok (.ifCond .eq 6, 3) := by decide +kernel
theorem dX10_buy_36 : decode cX10_buy 36 = .ok (.bipush (-4), 2) := by decide +kernel
theorem dX10_buy_38 : decode cX10_buy 38 = .ok (.ireturn, 1) := by decide +kernel
theorem dX10_buy_39 : decode cX10_buy 39 = .ok (.aload_n 0, 1) := by decide +kernel
theorem dX10_buy_40 : decode cX10_buy 40 = .ok (.getfield 46, 3) := by decide +kernel
theorem dX10_buy_43 : decode cX10_buy 43 = .ok (.iload_n 1, 1) := by decide +kernel
theorem dX10_buy_44 : decode cX10_buy 44 = .ok (.iload_n 2, 1) := by decide +kernel
theorem dX10_buy_45 : decode cX10_buy 45 = .ok (.invokevirtual 162, 3) := by decide +kernel
theorem dX10_buy_48 : decode cX10_buy 48 = .ok (.aload_n 0, 1) := by decide +kernel
theorem dX10_buy_49 : decode cX10_buy 49 = .ok (.getfield 39, 3) := by decide +kernel
theorem dX10_buy_52 : decode cX10_buy 52 = .ok (.getfield 187, 3) := by decide +kernel
theorem dX10_buy_55 : decode cX10_buy 55 = .ok (.iload_n 1, 1) := by decide +kernel
theorem dX10_buy_56 : decode cX10_buy 56 = .ok (.iaload, 1) := by decide +kernel
theorem dX10_buy_57 : decode cX10_buy 57 = .ok (.if_icmp .le 6, 3) := by decide +kernel
theorem dX10_buy_60 : decode cX10_buy 60 = .ok (.bipush (-6), 2) := by decide +kernel
theorem dX10_buy_62 : decode cX10_buy 62 = .ok (.ireturn, 1) := by decide +kernel
theorem dX10_buy_63 : decode cX10_buy 63 = .ok (.aload_n 0, 1) := by decide +kernel
theorem dX10_buy_64 : decode cX10_buy 64 = .ok (.getfield 31, 3) := by decide +kernel
theorem dX10_buy_67 : decode cX10_buy 67 = .ok (.iconst 1, 1) := by decide +kernel
theorem dX10_buy_68 : decode cX10_buy 68 = .ok (.invokevirtual 190, 3) := by decide +kernel
theorem dX10_buy_71 : decode cX10_buy 71 = .ok (.ifCond .ne 6, 3) := by decide +kernel
theorem dX10_buy_74 : decode cX10_buy 74 = .ok (.bipush (-2), 2) := by decide +kernel
theorem dX10_buy_76 : decode cX10_buy 76 = .ok (.ireturn, 1) := by decide +kernel
theorem dX10_buy_77 : decode cX10_buy 77 = .ok (.aload_n 0, 1) := by decide +kernel
theorem dX10_buy_78 : decode cX10_buy 78 = .ok (.getfield 31, 3) := by decide +kernel
theorem dX10_buy_81 : decode cX10_buy 81 = .ok (.iconst 2, 1) := by decide +kernel
theorem dX10_buy_82 : decode cX10_buy 82 = .ok (.iload_n 1, 1) := by decide +kernel
theorem dX10_buy_83 : decode cX10_buy 83 = .ok (.iload_n 2, 1) := by decide +kernel
theorem dX10_buy_84 : decode cX10_buy 84 = .ok (.iconst 0, 1) := by decide +kernel
theorem dX10_buy_85 : decode cX10_buy 85 = .ok (.iconst 0, 1) := by decide +kernel
theorem dX10_buy_86 : decode cX10_buy 86 = .ok (.invokestatic 193, 3) := by decide +kernel
theorem dX10_buy_89 : decode cX10_buy 89 = .ok (.invokevirtual 197, 3) := by decide +kernel
theorem dX10_buy_92 : decode cX10_buy 92 = .ok (.aload_n 0, 1) := by decide +kernel
theorem dX10_buy_93 : decode cX10_buy 93 = .ok (.getfield 39, 3) := by decide +kernel
theorem dX10_buy_96 : decode cX10_buy 96 = .ok (.getfield 187, 3) := by decide +kernel
theorem dX10_buy_99 : decode cX10_buy 99 = .ok (.iload_n 1, 1) := by decide +kernel
theorem dX10_buy_100 : decode cX10_buy 100 = .ok (.iaload, 1) := by decide +kernel
theorem dX10_buy_101 : decode cX10_buy 101 = .ok (.ireturn, 1) := by decide +kernel
def fX10_buy (σ : St) (p1 : Int32) (p2 : Int32) : Option (St × Int32) := cl (fX6_isHouse σ p1) (fun σ1 r2 => (if r2 = 0 then some (σ1, (-1)) else cl (fX6_isColour σ1 p2) (fun σ3 r4 => (if r4 = 0 then some (σ3, (-1)) else cl (fX9_has σ3 p1 p2) (fun σ5 r6 => (if r6 = 0 then cl (fX6_pays σ5 p1 p2) (fun σ7 r8 => rd LC σ7 33 p1 (fun x9 => (if r8 ≤ x9 then cl (fX3_hasRoomFor σ7 1) (fun σ10 r11 => (if r11 = 0 then some (σ10, (-2)) else cl (fX3_pack σ10 2 p1 p2 0 0) (fun σ12 r13 => cl (fX3_add σ12 r13) (fun σ14 r15 => rd LC σ14 33 p1 (fun x16 => some (σ14, x16)))))) else some (σ7, (-6))))) else some (σ5, (-4))))))))
set_option maxHeartbeats 4000000 in
set_option maxRecDepth 100000 in
theorem ctX10_buy (l : Launch) (g : GG) (σ : St) (p1 : Int32) (p2 : Int32) (σ' : St) (r : Int32) (hE : fX10_buy σ p1 p2 = some (σ', r)) : MI 52 entC l g yX10_buy (Cond.code yX10_buy cX10_buy 3 (some .int) :: gtbl) (rmD 6) [.ref (g.2.1 0), .int p1, .int p2] σ σ' r := by
  refine mi_i (own := RX10) (lv := [(0, .ref (g.2.1 0)), (1, .int p1), (2, .int p2)]) (by decide) rfl (Nat.le_of_ble_eq_true rfl) rfl (fun p e s m below meth c ls args Q A H0 H locs C hK hA hQ hs hl => ?_)
  have hx := C.1
  have hb := C.2.1
  unfold fX10_buy at hE
  refine lv_aload_n hx hb dX10_buy_0 rfl (lv_at hl 0 rfl) ?_
  refine gf_X10_46_0 C hK hs dX10_buy_1 ?_
  refine lv_iload_n hx hb dX10_buy_4 rfl (lv_at hl 1 rfl) ?_
  obtain ⟨σ1, r2, hE1, hE⟩ := cl_e hE
  refine x_civ (As := [.int p1]) (rest := []) C hl.1 hK hs hA ⟨Nat.le_refl 0, Nat.le_refl 0⟩ (ctX6_isHouse l g _ _ _ _ hE1) (cw_X10_153 C ⟨Nat.le_of_ble_eq_true rfl, Nat.le_of_ble_eq_true rfl⟩) (hs.recv hK 26 (by decide) rfl rfl) rfl rfl (Nat.le_of_ble_eq_true rfl) dX10_buy_5 (fun H locs hs => ?_)
  refine lv_if_eq (tgt := 22) hx hb dX10_buy_8 (by decide) (fun hc => ?_) (fun hc => ?_)
  · have hE := if_t hc hE
    refine lv_iconst (v := (-1)) hx hb dX10_buy_22 (by decide) ?_
    exact hQ hs hE dX10_buy_23
  · have hE := if_f hc hE
    refine lv_aload_n hx hb dX10_buy_11 rfl (lv_at hl 0 rfl) ?_
    refine gf_X10_46_0 C hK hs dX10_buy_12 ?_
    refine lv_iload_n hx hb dX10_buy_15 rfl (lv_at hl 2 rfl) ?_
    obtain ⟨σ3, r4, hE1, hE⟩ := cl_e hE
    refine x_civ (As := [.int p2]) (rest := []) C hl.1 hK hs hA ⟨Nat.le_refl 0, Nat.le_refl 0⟩ (ctX6_isColour l g _ _ _ _ hE1) (cw_X10_141 C ⟨Nat.le_of_ble_eq_true rfl, Nat.le_of_ble_eq_true rfl⟩) (hs.recv hK 26 (by decide) rfl rfl) rfl rfl (Nat.le_of_ble_eq_true rfl) dX10_buy_16 (fun H locs hs => ?_)
    refine lv_if_ne (tgt := 24) hx hb dX10_buy_19 (by decide) (fun hc => ?_) (fun hc => ?_)
    · have hE := if_f hc hE
      refine lv_aload_n hx hb dX10_buy_24 rfl (lv_at hl 0 rfl) ?_
      refine gf_X10_39_0 C hK hs dX10_buy_25 ?_
      refine lv_iload_n hx hb dX10_buy_28 rfl (lv_at hl 1 rfl) ?_
      refine lv_iload_n hx hb dX10_buy_29 rfl (lv_at hl 2 rfl) ?_
      obtain ⟨σ5, r6, hE1, hE⟩ := cl_e hE
      refine x_civ (As := [.int p1, .int p2]) (rest := []) C hl.1 hK hs hA ⟨Nat.le_refl 0, Nat.le_refl 0⟩ (ctX9_has l g _ _ _ _ _ hE1) (cw_X10_159 C ⟨Nat.le_of_ble_eq_true rfl, Nat.le_of_ble_eq_true rfl⟩) (hs.recv hK 25 (by decide) rfl rfl) rfl rfl (Nat.le_of_ble_eq_true rfl) dX10_buy_30 (fun H locs hs => ?_)
      refine lv_if_eq (tgt := 39) hx hb dX10_buy_33 (by decide) (fun hc => ?_) (fun hc => ?_)
      · have hE := if_t hc hE
        refine lv_aload_n hx hb dX10_buy_39 rfl (lv_at hl 0 rfl) ?_
        refine gf_X10_46_0 C hK hs dX10_buy_40 ?_
        refine lv_iload_n hx hb dX10_buy_43 rfl (lv_at hl 1 rfl) ?_
        refine lv_iload_n hx hb dX10_buy_44 rfl (lv_at hl 2 rfl) ?_
        obtain ⟨σ7, r8, hE1, hE⟩ := cl_e hE
        refine x_civ (As := [.int p1, .int p2]) (rest := []) C hl.1 hK hs hA ⟨Nat.le_refl 0, Nat.le_refl 0⟩ (ctX6_pays l g _ _ _ _ _ hE1) (cw_X10_162 C ⟨Nat.le_of_ble_eq_true rfl, Nat.le_of_ble_eq_true rfl⟩) (hs.recv hK 26 (by decide) rfl rfl) rfl rfl (Nat.le_of_ble_eq_true rfl) dX10_buy_45 (fun H locs hs => ?_)
        refine lv_aload_n hx hb dX10_buy_48 rfl (lv_at hl 0 rfl) ?_
        refine gf_X10_39_0 C hK hs dX10_buy_49 ?_
        refine gf_X10_187_25 C hK hs dX10_buy_52 ?_
        refine lv_iload_n hx hb dX10_buy_55 rfl (lv_at hl 1 rfl) ?_
        obtain ⟨hi, x9, ex9, hE⟩ := rd_w hE
        refine y_ald layC C hK hs hi ex9 dX10_buy_56 ?_
        refine lv_icmp_le (tgt := 63) hx hb dX10_buy_57 (by decide) (fun hc => ?_) (fun hc => ?_)
        · have hE := if_t hc hE
          refine lv_aload_n hx hb dX10_buy_63 rfl (lv_at hl 0 rfl) ?_
          refine gf_X10_31_0 C hK hs dX10_buy_64 ?_
          refine lv_iconst (v := 1) hx hb dX10_buy_67 (by decide) ?_
          obtain ⟨σ10, r11, hE1, hE⟩ := cl_e hE
          refine x_civ (As := [.int 1]) (rest := []) C hl.1 hK hs hA ⟨Nat.le_refl 0, Nat.le_refl 0⟩ (ctX3_hasRoomFor l g _ _ _ _ hE1) (cw_X10_190 C ⟨Nat.le_of_ble_eq_true rfl, Nat.le_of_ble_eq_true rfl⟩) (hs.recv hK 24 (by decide) rfl rfl) rfl rfl (Nat.le_of_ble_eq_true rfl) dX10_buy_68 (fun H locs hs => ?_)
          refine lv_if_ne (tgt := 77) hx hb dX10_buy_71 (by decide) (fun hc => ?_) (fun hc => ?_)
          · have hE := if_f hc hE
            refine lv_aload_n hx hb dX10_buy_77 rfl (lv_at hl 0 rfl) ?_
            refine gf_X10_31_0 C hK hs dX10_buy_78 ?_
            refine lv_iconst (v := 2) hx hb dX10_buy_81 (by decide) ?_
            refine lv_iload_n hx hb dX10_buy_82 rfl (lv_at hl 1 rfl) ?_
            refine lv_iload_n hx hb dX10_buy_83 rfl (lv_at hl 2 rfl) ?_
            refine lv_iconst (v := 0) hx hb dX10_buy_84 (by decide) ?_
            refine lv_iconst (v := 0) hx hb dX10_buy_85 (by decide) ?_
            obtain ⟨σ12, r13, hE1, hE⟩ := cl_e hE
            refine x_cis (As := [.int 2, .int p1, .int p2, .int 0, .int 0]) (rest := [.ref (g.2.1 24)]) C hl.1 hK hs hA ⟨Nat.le_refl 0, Nat.le_refl 0⟩ (ctX3_pack l g _ _ _ _ _ _ _ _ hE1) (cw_X10_193 C ⟨Nat.le_of_ble_eq_true rfl, Nat.le_of_ble_eq_true rfl⟩) rfl rfl (Nat.le_of_ble_eq_true rfl) dX10_buy_86 (fun H locs hs => ?_)
            obtain ⟨σ14, r15, hE1, hE⟩ := cl_e hE
            refine x_cvv (As := [.int r13]) (rest := []) C hl.1 hK hs hA ⟨Nat.le_refl 0, Nat.le_refl 0⟩ (ctX3_add l g _ _ _ _ hE1) (cw_X10_197 C ⟨Nat.le_of_ble_eq_true rfl, Nat.le_of_ble_eq_true rfl⟩) (hs.recv hK 24 (by decide) rfl rfl) rfl rfl (Nat.le_of_ble_eq_true rfl) dX10_buy_89 (fun H locs hs => ?_)
            refine lv_aload_n hx hb dX10_buy_92 rfl (lv_at hl 0 rfl) ?_
            refine gf_X10_39_0 C hK hs dX10_buy_93 ?_
            refine gf_X10_187_25 C hK hs dX10_buy_96 ?_
            refine lv_iload_n hx hb dX10_buy_99 rfl (lv_at hl 1 rfl) ?_
            obtain ⟨hi, x16, ex16, hE⟩ := rd_w hE
            refine y_ald layC C hK hs hi ex16 dX10_buy_100 ?_
            exact hQ hs hE dX10_buy_101
          · have hE := if_t hc hE
            refine lv_bipush (v := (-2)) hx hb dX10_buy_74 (by decide) ?_
            exact hQ hs hE dX10_buy_76
        · have hE := if_f hc hE
          refine lv_bipush (v := (-6)) hx hb dX10_buy_60 (by decide) ?_
          exact hQ hs hE dX10_buy_62
      · have hE := if_f hc hE
        refine lv_bipush (v := (-4)) hx hb dX10_buy_36 (by decide) ?_
        exact hQ hs hE dX10_buy_38
    · have hE := if_t hc hE
      refine lv_iconst (v := (-1)) hx hb dX10_buy_22 (by decide) ?_
      exact hQ hs hE dX10_buy_23
theorem dX10_month_0 : decode cX10_month 0 = .ok (.aload_n 0, 1) := by decide +kernel
theorem dX10_month_1 : decode cX10_month 1 = .ok (.getfield 46, 3) := by decide +kernel
theorem dX10_month_4 : decode cX10_month 4 = .ok (.getfield 138, 3) := by decide +kernel
theorem dX10_month_7 : decode cX10_month 7 = .ok (.ifCond .eq 15, 3) := by decide +kernel
theorem dX10_month_10 : decode cX10_month 10 = .ok (.aload_n 0, 1) := by decide +kernel
theorem dX10_month_11 : decode cX10_month 11 = .ok (.getfield 39, 3) := by decide +kernel
theorem dX10_month_14 : decode cX10_month 14 = .ok (.getfield 200, 3) := by decide +kernel
theorem dX10_month_17 : decode cX10_month 17 = .ok (.bipush 99, 2) := by decide +kernel
theorem dX10_month_19 : decode cX10_month 19 = .ok (.if_icmp .lt 6, 3) := by decide +kernel
theorem dX10_month_22 : decode cX10_month 22 = .ok (.bipush (-4), 2) := by decide +kernel
theorem dX10_month_24 : decode cX10_month 24 = .ok (.ireturn, 1) := by decide +kernel
theorem dX10_month_25 : decode cX10_month 25 = .ok (.aload_n 0, 1) := by decide +kernel
theorem dX10_month_26 : decode cX10_month 26 = .ok (.getfield 31, 3) := by decide +kernel
theorem dX10_month_29 : decode cX10_month 29 = .ok (.iconst 1, 1) := by decide +kernel
theorem dX10_month_30 : decode cX10_month 30 = .ok (.invokevirtual 190, 3) := by decide +kernel
theorem dX10_month_33 : decode cX10_month 33 = .ok (.ifCond .ne 6, 3) := by decide +kernel
theorem dX10_month_36 : decode cX10_month 36 = .ok (.bipush (-2), 2) := by decide +kernel
theorem dX10_month_38 : decode cX10_month 38 = .ok (.ireturn, 1) := by decide +kernel
theorem dX10_month_39 : decode cX10_month 39 = .ok (.aload_n 0, 1) := by decide +kernel
theorem dX10_month_40 : decode cX10_month 40 = .ok (.getfield 39, 3) := by decide +kernel
theorem dX10_month_43 : decode cX10_month 43 = .ok (.invokevirtual 203, 3) := by decide +kernel
theorem dX10_month_46 : decode cX10_month 46 = .ok (.istore_n 1, 1) := by decide +kernel
theorem dX10_month_47 : decode cX10_month 47 = .ok (.aload_n 0, 1) := by decide +kernel
theorem dX10_month_48 : decode cX10_month 48 = .ok (.getfield 31, 3) := by decide +kernel
theorem dX10_month_51 : decode cX10_month 51 = .ok (.iconst 1, 1) := by decide +kernel
theorem dX10_month_52 : decode cX10_month 52 = .ok (.iconst 0, 1) := by decide +kernel
theorem dX10_month_53 : decode cX10_month 53 = .ok (.iconst 0, 1) := by decide +kernel
theorem dX10_month_54 : decode cX10_month 54 = .ok (.iconst 0, 1) := by decide +kernel
theorem dX10_month_55 : decode cX10_month 55 = .ok (.iconst 0, 1) := by decide +kernel
theorem dX10_month_56 : decode cX10_month 56 = .ok (.invokestatic 193, 3) := by decide +kernel
theorem dX10_month_59 : decode cX10_month 59 = .ok (.invokevirtual 197, 3) := by decide +kernel
theorem dX10_month_62 : decode cX10_month 62 = .ok (.iload_n 1, 1) := by decide +kernel
theorem dX10_month_63 : decode cX10_month 63 = .ok (.aload_n 0, 1) := by decide +kernel
theorem dX10_month_64 : decode cX10_month 64 = .ok (.getfield 39, 3) := by decide +kernel
theorem dX10_month_67 : decode cX10_month 67 = .ok (.invokevirtual 203, 3) := by decide +kernel
theorem dX10_month_70 : decode cX10_month 70 = .ok (.isub, 1) := by decide +kernel
theorem dX10_month_71 : decode cX10_month 71 = .ok (.ireturn, 1) := by decide +kernel
def fX10_month (σ : St) : Option (St × Int32) := (if (σ.1 26 7) = 0 then some (σ, (-4)) else (if (σ.1 25 3) < 99 then cl (fX3_hasRoomFor σ 1) (fun σ1 r2 => (if r2 = 0 then some (σ1, (-2)) else cl (fX9_things σ1) (fun σ3 r4 => cl (fX3_pack σ3 1 0 0 0 0) (fun σ5 r6 => cl (fX3_add σ5 r6) (fun σ7 r8 => cl (fX9_things σ7) (fun σ9 r10 => some (σ9, r4 - r10))))))) else some (σ, (-4))))
set_option maxHeartbeats 4000000 in
set_option maxRecDepth 100000 in
theorem ctX10_month (l : Launch) (g : GG) (σ : St) (σ' : St) (r : Int32) (hE : fX10_month σ  = some (σ', r)) : MI 52 entC l g yX10_month (Cond.code yX10_month cX10_month 2 (some .int) :: gtbl) (rmD 6) [.ref (g.2.1 0)] σ σ' r := by
  refine mi_i (own := RX10) (lv := [(0, .ref (g.2.1 0))]) (by decide) rfl (Nat.le_of_ble_eq_true rfl) rfl (fun p e s m below meth c ls args Q A H0 H locs C hK hA hQ hs hl => ?_)
  have hx := C.1
  have hb := C.2.1
  unfold fX10_month at hE
  refine lv_aload_n hx hb dX10_month_0 rfl (lv_at hl 0 rfl) ?_
  refine gf_X10_46_0 C hK hs dX10_month_1 ?_
  refine gf_X10_138_26 C hK hs dX10_month_4 ?_
  refine lv_if_eq (tgt := 22) hx hb dX10_month_7 (by decide) (fun hc => ?_) (fun hc => ?_)
  · have hE := if_t hc hE
    refine lv_bipush (v := (-4)) hx hb dX10_month_22 (by decide) ?_
    exact hQ hs hE dX10_month_24
  · have hE := if_f hc hE
    refine lv_aload_n hx hb dX10_month_10 rfl (lv_at hl 0 rfl) ?_
    refine gf_X10_39_0 C hK hs dX10_month_11 ?_
    refine gf_X10_200_25 C hK hs dX10_month_14 ?_
    refine lv_bipush (v := 99) hx hb dX10_month_17 (by decide) ?_
    refine lv_icmp_lt (tgt := 25) hx hb dX10_month_19 (by decide) (fun hc => ?_) (fun hc => ?_)
    · have hE := if_t hc hE
      refine lv_aload_n hx hb dX10_month_25 rfl (lv_at hl 0 rfl) ?_
      refine gf_X10_31_0 C hK hs dX10_month_26 ?_
      refine lv_iconst (v := 1) hx hb dX10_month_29 (by decide) ?_
      obtain ⟨σ1, r2, hE1, hE⟩ := cl_e hE
      refine x_civ (As := [.int 1]) (rest := []) C hl.1 hK hs hA ⟨Nat.le_refl 0, Nat.le_refl 0⟩ (ctX3_hasRoomFor l g _ _ _ _ hE1) (cw_X10_190 C ⟨Nat.le_of_ble_eq_true rfl, Nat.le_of_ble_eq_true rfl⟩) (hs.recv hK 24 (by decide) rfl rfl) rfl rfl (Nat.le_of_ble_eq_true rfl) dX10_month_30 (fun H locs hs => ?_)
      refine lv_if_ne (tgt := 39) hx hb dX10_month_33 (by decide) (fun hc => ?_) (fun hc => ?_)
      · have hE := if_f hc hE
        refine lv_aload_n hx hb dX10_month_39 rfl (lv_at hl 0 rfl) ?_
        refine gf_X10_39_0 C hK hs dX10_month_40 ?_
        obtain ⟨σ3, r4, hE1, hE⟩ := cl_e hE
        refine x_civ (As := []) (rest := []) C hl.1 hK hs hA ⟨Nat.le_refl 0, Nat.le_refl 0⟩ (ctX9_things l g _  _ _ hE1) (cw_X10_203 C ⟨Nat.le_of_ble_eq_true rfl, Nat.le_of_ble_eq_true rfl⟩) (hs.recv hK 25 (by decide) rfl rfl) rfl rfl (Nat.le_of_ble_eq_true rfl) dX10_month_43 (fun H locs hs => ?_)
        refine lv_istore_n (lv' := [(1, .int r4), (0, .ref (g.2.1 0))]) hx hb dX10_month_46 rfl hl (by decide) rfl (fun ls hl => ?_)
        refine lv_aload_n hx hb dX10_month_47 rfl (lv_at hl 1 rfl) ?_
        refine gf_X10_31_0 C hK hs dX10_month_48 ?_
        refine lv_iconst (v := 1) hx hb dX10_month_51 (by decide) ?_
        refine lv_iconst (v := 0) hx hb dX10_month_52 (by decide) ?_
        refine lv_iconst (v := 0) hx hb dX10_month_53 (by decide) ?_
        refine lv_iconst (v := 0) hx hb dX10_month_54 (by decide) ?_
        refine lv_iconst (v := 0) hx hb dX10_month_55 (by decide) ?_
        obtain ⟨σ5, r6, hE1, hE⟩ := cl_e hE
        refine x_cis (As := [.int 1, .int 0, .int 0, .int 0, .int 0]) (rest := [.ref (g.2.1 24)]) C hl.1 hK hs hA ⟨Nat.le_refl 0, Nat.le_refl 0⟩ (ctX3_pack l g _ _ _ _ _ _ _ _ hE1) (cw_X10_193 C ⟨Nat.le_of_ble_eq_true rfl, Nat.le_of_ble_eq_true rfl⟩) rfl rfl (Nat.le_of_ble_eq_true rfl) dX10_month_56 (fun H locs hs => ?_)
        obtain ⟨σ7, r8, hE1, hE⟩ := cl_e hE
        refine x_cvv (As := [.int r6]) (rest := []) C hl.1 hK hs hA ⟨Nat.le_refl 0, Nat.le_refl 0⟩ (ctX3_add l g _ _ _ _ hE1) (cw_X10_197 C ⟨Nat.le_of_ble_eq_true rfl, Nat.le_of_ble_eq_true rfl⟩) (hs.recv hK 24 (by decide) rfl rfl) rfl rfl (Nat.le_of_ble_eq_true rfl) dX10_month_59 (fun H locs hs => ?_)
        refine lv_iload_n hx hb dX10_month_62 rfl (lv_at hl 0 rfl) ?_
        refine lv_aload_n hx hb dX10_month_63 rfl (lv_at hl 1 rfl) ?_
        refine gf_X10_39_0 C hK hs dX10_month_64 ?_
        obtain ⟨σ9, r10, hE1, hE⟩ := cl_e hE
        refine x_civ (As := []) (rest := [.int r4]) C hl.1 hK hs hA ⟨Nat.le_refl 0, Nat.le_refl 0⟩ (ctX9_things l g _  _ _ hE1) (cw_X10_203 C ⟨Nat.le_of_ble_eq_true rfl, Nat.le_of_ble_eq_true rfl⟩) (hs.recv hK 25 (by decide) rfl rfl) rfl rfl (Nat.le_of_ble_eq_true rfl) dX10_month_67 (fun H locs hs => ?_)
        refine lv_isub hx hb dX10_month_70 ?_
        exact hQ hs hE dX10_month_71
      · have hE := if_t hc hE
        refine lv_bipush (v := (-2)) hx hb dX10_month_36 (by decide) ?_
        exact hQ hs hE dX10_month_38
    · have hE := if_f hc hE
      refine lv_bipush (v := (-4)) hx hb dX10_month_22 (by decide) ?_
      exact hQ hs hE dX10_month_24
