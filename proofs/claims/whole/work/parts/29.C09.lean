theorem dX10_trade_0 : decode cX10_trade 0 = .ok (.aload_n 0, 1) := by decide +kernel
theorem dX10_trade_1 : decode cX10_trade 1 = .ok (.getfield 46, 3) := by decide +kernel
theorem dX10_trade_4 : decode cX10_trade 4 = .ok (.iload_n 1, 1) := by decide +kernel
theorem dX10_trade_5 : decode cX10_trade 5 = .ok (.invokevirtual 153, 3) := by decide +kernel
theorem dX10_trade_8 : decode cX10_trade 8 = .ok (.ifCond .eq 37, 3) := by decide +kernel
theorem dX10_trade_11 : decode cX10_trade 11 = .ok (.aload_n 0, 1) := by decide +kernel
theorem dX10_trade_12 : decode cX10_trade 12 = .ok (.getfield 46, 3) := by decide +kernel
theorem dX10_trade_15 : decode cX10_trade 15 = .ok (.iload_n 2, 1) := by decide +kernel
theorem dX10_trade_16 : decode cX10_trade 16 = .ok (.invokevirtual 141, 3) := by decide +kernel
theorem dX10_trade_19 : decode cX10_trade 19 = .ok (.ifCond .eq 26, 3) := by decide +kernel
theorem dX10_trade_22 : decode cX10_trade 22 = .ok (.aload_n 0, 1) := by decide +kernel
theorem dX10_trade_23 : decode cX10_trade 23 = .ok (.getfield 46, 3) := by decide +kernel
theorem dX10_trade_26 : decode cX10_trade 26 = .ok (.iload_n 3, 1) := by decide +kernel
theorem dX10_trade_27 : decode cX10_trade 27 = .ok (.invokevirtual 153, 3) := by decide +kernel
theorem dX10_trade_30 : decode cX10_trade 30 = .ok (.ifCond .eq 15, 3) := by decide +kernel
theorem dX10_trade_33 : decode cX10_trade 33 = .ok (.aload_n 0, 1) := by decide +kernel
theorem dX10_trade_34 : decode cX10_trade 34 = .ok (.getfield 46, 3) := by decide +kernel
theorem dX10_trade_37 : decode cX10_trade 37 = .ok (.iload 4, 2) := by decide +kernel
theorem dX10_trade_39 : decode cX10_trade 39 = .ok (.invokevirtual 141, 3) := by decide +kernel
theorem dX10_trade_42 : decode cX10_trade 42 = .ok (.ifCond .ne 5, 3) := by decide +kernel
theorem dX10_trade_45 : decode cX10_trade 45 = .ok (.iconst (-1), 1) := by decide +kernel
theorem dX10_trade_46 : decode cX10_trade 46 = .ok (.ireturn, 1) := by decide +kernel
theorem dX10_trade_47 : decode cX10_trade 47 = .ok (.iload_n 1, 1) := by decide +kernel
theorem dX10_trade_48 : decode cX10_trade 48 = .ok (.iload_n 3, 1) := by decide +kernel
theorem dX10_trade_49 : decode cX10_trade 49 = .ok (.if_icmp .eq 9, 3) := by decide +kernel
theorem dX10_trade_52 : decode cX10_trade 52 = .ok (.iload_n 2, 1) := by decide +kernel
theorem dX10_trade_53 : decode cX10_trade 53 = .ok (.iload 4, 2) := by decide +kernel
theorem dX10_trade_55 : decode cX10_trade 55 = .ok (.if_icmp .ne 5, 3) := by decide +kernel
theorem dX10_trade_58 : decode cX10_trade 58 = .ok (.iconst (-1), 1) := by decide +kernel
theorem dX10_trade_59 : decode cX10_trade 59 = .ok (.ireturn, 1) := by decide +kernel
theorem dX10_trade_60 : decode cX10_trade 60 = .ok (.aload_n 0, 1) := by decide +kernel
theorem dX10_trade_61 : decode cX10_trade 61 = .ok (.getfield 39, 3) := by decide +kernel
theorem dX10_trade_64 : decode cX10_trade 64 = .ok (.iload_n 1, 1) := by decide +kernel
theorem dX10_trade_65 : decode cX10_trade 65 = .ok (.iload_n 2, 1) := by decide +kernel
theorem dX10_trade_66 : decode cX10_trade 66 = .ok (.invokevirtual 159, 3) := by decide +kernel
theorem dX10_trade_69 : decode cX10_trade 69 = .ok (.ifCond .eq 41, 3) := by decide +kernel
theorem dX10_trade_72 : decode cX10_trade 72 = .ok (.aload_n 0, 1) := by decide +kernel
theorem dX10_trade_73 : decode cX10_trade 73 = .ok (.getfield 39, 3) := by decide +kernel
theorem dX10_trade_76 : decode cX10_trade 76 = .ok (.iload_n 3, 1) := by decide +kernel
theorem dX10_trade_77 : decode cX10_trade 77 = .ok (.iload 4, 2) := by decide +kernel
theorem dX10_trade_79 : decode cX10_trade 79 = .ok (.invokevirtual 159, 3) := by decide +kernel
theorem dX10_trade_82 : decode cX10_trade 82 = .ok (.ifCond .eq 28, 3) := by decide +kernel
theorem dX10_trade_85 : decode cX10_trade 85 = .ok (.aload_n 0, 1) := by decide +kernel
theorem dX10_trade_86 : decode cX10_trade 86 = .ok (.getfield 39, 3) := by decide +kernel
theorem dX10_trade_89 : decode cX10_trade 89 = .ok (.iload_n 1, 1) := by decide +kernel
theorem dX10_trade_90 : decode cX10_trade 90 = .ok (.iload 4, 2) := by decide +kernel
theorem dX10_trade_92 : decode cX10_trade 92 = .ok (.invokevirtual 159, 3) := by decide +kernel
theorem dX10_trade_95 : decode cX10_trade 95 = .ok (.ifCond .ne 15, 3) := by decide +kernel
theorem dX10_trade_98 : decode cX10_trade 98 = .ok (.aload_n 0, 1) := by decide +kernel
theorem dX10_trade_99 : decode cX10_trade 99 = .ok (.getfield 39, 3) := by decide +kernel
theorem dX10_trade_102 : decode cX10_trade 102 = .ok (.iload_n 3, 1) := by decide +kernel
theorem dX10_trade_103 : decode cX10_trade 103 = .ok (.iload_n 2, 1) := by decide +kernel
theorem dX10_trade_104 : decode cX10_trade 104 = .ok (.invokevirtual 159, 3) := by decide +kernel
theorem dX10_trade_107 : decode cX10_trade 107 = .ok (.ifCond .eq 6, 3) := by decide +kernel
theorem dX10_trade_110 : decode cX10_trade 110 = .ok (.bipush (-4), 2) := by decide +kernel
theorem dX10_trade_112 : decode cX10_trade 112 = .ok (.ireturn, 1) := by decide +kernel
theorem dX10_trade_113 : decode cX10_trade 113 = .ok (.aload_n 0, 1) := by decide +kernel
theorem dX10_trade_114 : decode cX10_trade 114 = .ok (.getfield 31, 3) := by decide +kernel
theorem dX10_trade_117 : decode cX10_trade 117 = .ok (.iconst 1, 1) := by decide +kernel
theorem dX10_trade_118 : decode cX10_trade 118 = .ok (.invokevirtual 190, 3) := by decide +kernel
theorem dX10_trade_121 : decode cX10_trade 121 = .ok (.ifCond .ne 6, 3) := by decide +kernel
theorem dX10_trade_124 : decode cX10_trade 124 = .ok (.bipush (-2), 2) := by decide +kernel
theorem dX10_trade_126 : decode cX10_trade 126 = .ok (.ireturn, 1) := by decide +kernel
theorem dX10_trade_127 : decode cX10_trade 127 = .ok (.aload_n 0, 1) := by decide +kernel
theorem dX10_trade_128 : decode cX10_trade 128 = .ok (.getfield 31, 3) := by decide +kernel
theorem dX10_trade_131 : decode cX10_trade 131 = .ok (.iconst 3, 1) := by decide +kernel
theorem dX10_trade_132 : decode cX10_trade 132 = .ok (.iload_n 1, 1) := by decide +kernel
theorem dX10_trade_133 : decode cX10_trade 133 = .ok (.iload_n 2, 1) := by decide +kernel
theorem dX10_trade_134 : decode cX10_trade 134 = .ok (.iload_n 3, 1) := by decide +kernel
theorem dX10_trade_135 : decode cX10_trade 135 = .ok (.iload 4, 2) := by decide +kernel
theorem dX10_trade_137 : decode cX10_trade 137 = .ok (.invokestatic 193, 3) := by decide +kernel
theorem dX10_trade_140 : decode cX10_trade 140 = .ok (.invokevirtual 197, 3) := by decide +kernel
theorem dX10_trade_143 : decode cX10_trade 143 = .ok (.aload_n 0, 1) := by decide +kernel
theorem dX10_trade_144 : decode cX10_trade 144 = .ok (.getfield 39, 3) := by decide +kernel
theorem dX10_trade_147 : decode cX10_trade 147 = .ok (.iload_n 1, 1) := by decide +kernel
theorem dX10_trade_148 : decode cX10_trade 148 = .ok (.iload 4, 2) := by decide +kernel
theorem dX10_trade_150 : decode cX10_trade 150 = .ok (.invokevirtual 165, 3) := by decide +kernel
theorem dX10_trade_153 : decode cX10_trade 153 = .ok (.ireturn, 1) := by decide +kernel
def fX10_trade (σ : St) (p1 : Int32) (p2 : Int32) (p3 : Int32) (p4 : Int32) : Option (St × Int32) := cl (fX6_isHouse σ p1) (fun σ1 r2 => (if r2 = 0 then some (σ1, (-1)) else cl (fX6_isColour σ1 p2) (fun σ3 r4 => (if r4 = 0 then some (σ3, (-1)) else cl (fX6_isHouse σ3 p3) (fun σ5 r6 => (if r6 = 0 then some (σ5, (-1)) else cl (fX6_isColour σ5 p4) (fun σ7 r8 => (if r8 = 0 then some (σ7, (-1)) else (if p1 = p3 then some (σ7, (-1)) else (if p2 = p4 then some (σ7, (-1)) else cl (fX9_has σ7 p1 p2) (fun σ9 r10 => (if r10 = 0 then some (σ9, (-4)) else cl (fX9_has σ9 p3 p4) (fun σ11 r12 => (if r12 = 0 then some (σ11, (-4)) else cl (fX9_has σ11 p1 p4) (fun σ13 r14 => (if r14 = 0 then cl (fX9_has σ13 p3 p2) (fun σ15 r16 => (if r16 = 0 then cl (fX3_hasRoomFor σ15 1) (fun σ17 r18 => (if r18 = 0 then some (σ17, (-2)) else cl (fX3_pack σ17 3 p1 p2 p3 p4) (fun σ19 r20 => cl (fX3_add σ19 r20) (fun σ21 r22 => cl (fX9_endOf σ21 p1 p4) (fun σ23 r24 => some (σ23, r24)))))) else some (σ15, (-4)))) else some (σ13, (-4))))))))))))))))))
set_option maxHeartbeats 4000000 in
set_option maxRecDepth 100000 in
theorem ctX10_trade (l : Launch) (g : GG) (σ : St) (p1 : Int32) (p2 : Int32) (p3 : Int32) (p4 : Int32) (σ' : St) (r : Int32) (hE : fX10_trade σ p1 p2 p3 p4 = some (σ', r)) : MI 52 entC l g yX10_trade (Cond.code yX10_trade cX10_trade 5 (some .int) :: gtbl) (rmD 6) [.ref (g.2.1 0), .int p1, .int p2, .int p3, .int p4] σ σ' r := by
  refine mi_i (own := RX10) (lv := [(0, .ref (g.2.1 0)), (1, .int p1), (2, .int p2), (3, .int p3), (4, .int p4)]) (by decide) rfl (Nat.le_of_ble_eq_true rfl) rfl (fun p e s m below meth c ls args Q A H0 H locs C hK hA hQ hs hl => ?_)
  have hx := C.1
  have hb := C.2.1
  unfold fX10_trade at hE
  refine lv_aload_n hx hb dX10_trade_0 rfl (lv_at hl 0 rfl) ?_
  refine gf_X10_46_0 C hK hs dX10_trade_1 ?_
  refine lv_iload_n hx hb dX10_trade_4 rfl (lv_at hl 1 rfl) ?_
  obtain ⟨σ1, r2, hE1, hE⟩ := cl_e hE
  refine x_civ (As := [.int p1]) (rest := []) C hl.1 hK hs hA ⟨Nat.le_refl 0, Nat.le_refl 0⟩ (ctX6_isHouse l g _ _ _ _ hE1) (cw_X10_153 C ⟨Nat.le_of_ble_eq_true rfl, Nat.le_of_ble_eq_true rfl⟩) (hs.recv hK 26 (by decide) rfl rfl) rfl rfl (Nat.le_of_ble_eq_true rfl) dX10_trade_5 (fun H locs hs => ?_)
  refine lv_if_eq (tgt := 45) hx hb dX10_trade_8 (by decide) (fun hc => ?_) (fun hc => ?_)
  · have hE := if_t hc hE
    refine lv_iconst (v := (-1)) hx hb dX10_trade_45 (by decide) ?_
    exact hQ hs hE dX10_trade_46
  · have hE := if_f hc hE
    refine lv_aload_n hx hb dX10_trade_11 rfl (lv_at hl 0 rfl) ?_
    refine gf_X10_46_0 C hK hs dX10_trade_12 ?_
    refine lv_iload_n hx hb dX10_trade_15 rfl (lv_at hl 2 rfl) ?_
    obtain ⟨σ3, r4, hE1, hE⟩ := cl_e hE
    refine x_civ (As := [.int p2]) (rest := []) C hl.1 hK hs hA ⟨Nat.le_refl 0, Nat.le_refl 0⟩ (ctX6_isColour l g _ _ _ _ hE1) (cw_X10_141 C ⟨Nat.le_of_ble_eq_true rfl, Nat.le_of_ble_eq_true rfl⟩) (hs.recv hK 26 (by decide) rfl rfl) rfl rfl (Nat.le_of_ble_eq_true rfl) dX10_trade_16 (fun H locs hs => ?_)
    refine lv_if_eq (tgt := 45) hx hb dX10_trade_19 (by decide) (fun hc => ?_) (fun hc => ?_)
    · have hE := if_t hc hE
      refine lv_iconst (v := (-1)) hx hb dX10_trade_45 (by decide) ?_
      exact hQ hs hE dX10_trade_46
    · have hE := if_f hc hE
      refine lv_aload_n hx hb dX10_trade_22 rfl (lv_at hl 0 rfl) ?_
      refine gf_X10_46_0 C hK hs dX10_trade_23 ?_
      refine lv_iload_n hx hb dX10_trade_26 rfl (lv_at hl 3 rfl) ?_
      obtain ⟨σ5, r6, hE1, hE⟩ := cl_e hE
      refine x_civ (As := [.int p3]) (rest := []) C hl.1 hK hs hA ⟨Nat.le_refl 0, Nat.le_refl 0⟩ (ctX6_isHouse l g _ _ _ _ hE1) (cw_X10_153 C ⟨Nat.le_of_ble_eq_true rfl, Nat.le_of_ble_eq_true rfl⟩) (hs.recv hK 26 (by decide) rfl rfl) rfl rfl (Nat.le_of_ble_eq_true rfl) dX10_trade_27 (fun H locs hs => ?_)
      refine lv_if_eq (tgt := 45) hx hb dX10_trade_30 (by decide) (fun hc => ?_) (fun hc => ?_)
      · have hE := if_t hc hE
        refine lv_iconst (v := (-1)) hx hb dX10_trade_45 (by decide) ?_
        exact hQ hs hE dX10_trade_46
      · have hE := if_f hc hE
        refine lv_aload_n hx hb dX10_trade_33 rfl (lv_at hl 0 rfl) ?_
        refine gf_X10_46_0 C hK hs dX10_trade_34 ?_
        refine lv_iload hx hb dX10_trade_37 (lv_at hl 4 rfl) ?_
        obtain ⟨σ7, r8, hE1, hE⟩ := cl_e hE
        refine x_civ (As := [.int p4]) (rest := []) C hl.1 hK hs hA ⟨Nat.le_refl 0, Nat.le_refl 0⟩ (ctX6_isColour l g _ _ _ _ hE1) (cw_X10_141 C ⟨Nat.le_of_ble_eq_true rfl, Nat.le_of_ble_eq_true rfl⟩) (hs.recv hK 26 (by decide) rfl rfl) rfl rfl (Nat.le_of_ble_eq_true rfl) dX10_trade_39 (fun H locs hs => ?_)
        refine lv_if_ne (tgt := 47) hx hb dX10_trade_42 (by decide) (fun hc => ?_) (fun hc => ?_)
        · have hE := if_f hc hE
          refine lv_iload_n hx hb dX10_trade_47 rfl (lv_at hl 1 rfl) ?_
          refine lv_iload_n hx hb dX10_trade_48 rfl (lv_at hl 3 rfl) ?_
          refine lv_icmp_eq (tgt := 58) hx hb dX10_trade_49 (by decide) (fun hc => ?_) (fun hc => ?_)
          · have hE := if_t hc hE
            refine lv_iconst (v := (-1)) hx hb dX10_trade_58 (by decide) ?_
            exact hQ hs hE dX10_trade_59
          · have hE := if_f hc hE
            refine lv_iload_n hx hb dX10_trade_52 rfl (lv_at hl 2 rfl) ?_
            refine lv_iload hx hb dX10_trade_53 (lv_at hl 4 rfl) ?_
            refine lv_icmp_ne (tgt := 60) hx hb dX10_trade_55 (by decide) (fun hc => ?_) (fun hc => ?_)
            · have hE := if_f hc hE
              refine lv_aload_n hx hb dX10_trade_60 rfl (lv_at hl 0 rfl) ?_
              refine gf_X10_39_0 C hK hs dX10_trade_61 ?_
              refine lv_iload_n hx hb dX10_trade_64 rfl (lv_at hl 1 rfl) ?_
              refine lv_iload_n hx hb dX10_trade_65 rfl (lv_at hl 2 rfl) ?_
              obtain ⟨σ9, r10, hE1, hE⟩ := cl_e hE
              refine x_civ (As := [.int p1, .int p2]) (rest := []) C hl.1 hK hs hA ⟨Nat.le_refl 0, Nat.le_refl 0⟩ (ctX9_has l g _ _ _ _ _ hE1) (cw_X10_159 C ⟨Nat.le_of_ble_eq_true rfl, Nat.le_of_ble_eq_true rfl⟩) (hs.recv hK 25 (by decide) rfl rfl) rfl rfl (Nat.le_of_ble_eq_true rfl) dX10_trade_66 (fun H locs hs => ?_)
              refine lv_if_eq (tgt := 110) hx hb dX10_trade_69 (by decide) (fun hc => ?_) (fun hc => ?_)
              · have hE := if_t hc hE
                refine lv_bipush (v := (-4)) hx hb dX10_trade_110 (by decide) ?_
                exact hQ hs hE dX10_trade_112
              · have hE := if_f hc hE
                refine lv_aload_n hx hb dX10_trade_72 rfl (lv_at hl 0 rfl) ?_
                refine gf_X10_39_0 C hK hs dX10_trade_73 ?_
                refine lv_iload_n hx hb dX10_trade_76 rfl (lv_at hl 3 rfl) ?_
                refine lv_iload hx hb dX10_trade_77 (lv_at hl 4 rfl) ?_
                obtain ⟨σ11, r12, hE1, hE⟩ := cl_e hE
                refine x_civ (As := [.int p3, .int p4]) (rest := []) C hl.1 hK hs hA ⟨Nat.le_refl 0, Nat.le_refl 0⟩ (ctX9_has l g _ _ _ _ _ hE1) (cw_X10_159 C ⟨Nat.le_of_ble_eq_true rfl, Nat.le_of_ble_eq_true rfl⟩) (hs.recv hK 25 (by decide) rfl rfl) rfl rfl (Nat.le_of_ble_eq_true rfl) dX10_trade_79 (fun H locs hs => ?_)
                refine lv_if_eq (tgt := 110) hx hb dX10_trade_82 (by decide) (fun hc => ?_) (fun hc => ?_)
                · have hE := if_t hc hE
                  refine lv_bipush (v := (-4)) hx hb dX10_trade_110 (by decide) ?_
                  exact hQ hs hE dX10_trade_112
                · have hE := if_f hc hE
                  refine lv_aload_n hx hb dX10_trade_85 rfl (lv_at hl 0 rfl) ?_
                  refine gf_X10_39_0 C hK hs dX10_trade_86 ?_
                  refine lv_iload_n hx hb dX10_trade_89 rfl (lv_at hl 1 rfl) ?_
                  refine lv_iload hx hb dX10_trade_90 (lv_at hl 4 rfl) ?_
                  obtain ⟨σ13, r14, hE1, hE⟩ := cl_e hE
                  refine x_civ (As := [.int p1, .int p4]) (rest := []) C hl.1 hK hs hA ⟨Nat.le_refl 0, Nat.le_refl 0⟩ (ctX9_has l g _ _ _ _ _ hE1) (cw_X10_159 C ⟨Nat.le_of_ble_eq_true rfl, Nat.le_of_ble_eq_true rfl⟩) (hs.recv hK 25 (by decide) rfl rfl) rfl rfl (Nat.le_of_ble_eq_true rfl) dX10_trade_92 (fun H locs hs => ?_)
                  refine lv_if_ne (tgt := 110) hx hb dX10_trade_95 (by decide) (fun hc => ?_) (fun hc => ?_)
                  · have hE := if_f hc hE
                    refine lv_bipush (v := (-4)) hx hb dX10_trade_110 (by decide) ?_
                    exact hQ hs hE dX10_trade_112
                  · have hE := if_t hc hE
                    refine lv_aload_n hx hb dX10_trade_98 rfl (lv_at hl 0 rfl) ?_
                    refine gf_X10_39_0 C hK hs dX10_trade_99 ?_
                    refine lv_iload_n hx hb dX10_trade_102 rfl (lv_at hl 3 rfl) ?_
                    refine lv_iload_n hx hb dX10_trade_103 rfl (lv_at hl 2 rfl) ?_
                    obtain ⟨σ15, r16, hE1, hE⟩ := cl_e hE
                    refine x_civ (As := [.int p3, .int p2]) (rest := []) C hl.1 hK hs hA ⟨Nat.le_refl 0, Nat.le_refl 0⟩ (ctX9_has l g _ _ _ _ _ hE1) (cw_X10_159 C ⟨Nat.le_of_ble_eq_true rfl, Nat.le_of_ble_eq_true rfl⟩) (hs.recv hK 25 (by decide) rfl rfl) rfl rfl (Nat.le_of_ble_eq_true rfl) dX10_trade_104 (fun H locs hs => ?_)
                    refine lv_if_eq (tgt := 113) hx hb dX10_trade_107 (by decide) (fun hc => ?_) (fun hc => ?_)
                    · have hE := if_t hc hE
                      refine lv_aload_n hx hb dX10_trade_113 rfl (lv_at hl 0 rfl) ?_
                      refine gf_X10_31_0 C hK hs dX10_trade_114 ?_
                      refine lv_iconst (v := 1) hx hb dX10_trade_117 (by decide) ?_
                      obtain ⟨σ17, r18, hE1, hE⟩ := cl_e hE
                      refine x_civ (As := [.int 1]) (rest := []) C hl.1 hK hs hA ⟨Nat.le_refl 0, Nat.le_refl 0⟩ (ctX3_hasRoomFor l g _ _ _ _ hE1) (cw_X10_190 C ⟨Nat.le_of_ble_eq_true rfl, Nat.le_of_ble_eq_true rfl⟩) (hs.recv hK 24 (by decide) rfl rfl) rfl rfl (Nat.le_of_ble_eq_true rfl) dX10_trade_118 (fun H locs hs => ?_)
                      refine lv_if_ne (tgt := 127) hx hb dX10_trade_121 (by decide) (fun hc => ?_) (fun hc => ?_)
                      · have hE := if_f hc hE
                        refine lv_aload_n hx hb dX10_trade_127 rfl (lv_at hl 0 rfl) ?_
                        refine gf_X10_31_0 C hK hs dX10_trade_128 ?_
                        refine lv_iconst (v := 3) hx hb dX10_trade_131 (by decide) ?_
                        refine lv_iload_n hx hb dX10_trade_132 rfl (lv_at hl 1 rfl) ?_
                        refine lv_iload_n hx hb dX10_trade_133 rfl (lv_at hl 2 rfl) ?_
                        refine lv_iload_n hx hb dX10_trade_134 rfl (lv_at hl 3 rfl) ?_
                        refine lv_iload hx hb dX10_trade_135 (lv_at hl 4 rfl) ?_
                        obtain ⟨σ19, r20, hE1, hE⟩ := cl_e hE
                        refine x_cis (As := [.int 3, .int p1, .int p2, .int p3, .int p4]) (rest := [.ref (g.2.1 24)]) C hl.1 hK hs hA ⟨Nat.le_refl 0, Nat.le_refl 0⟩ (ctX3_pack l g _ _ _ _ _ _ _ _ hE1) (cw_X10_193 C ⟨Nat.le_of_ble_eq_true rfl, Nat.le_of_ble_eq_true rfl⟩) rfl rfl (Nat.le_of_ble_eq_true rfl) dX10_trade_137 (fun H locs hs => ?_)
                        obtain ⟨σ21, r22, hE1, hE⟩ := cl_e hE
                        refine x_cvv (As := [.int r20]) (rest := []) C hl.1 hK hs hA ⟨Nat.le_refl 0, Nat.le_refl 0⟩ (ctX3_add l g _ _ _ _ hE1) (cw_X10_197 C ⟨Nat.le_of_ble_eq_true rfl, Nat.le_of_ble_eq_true rfl⟩) (hs.recv hK 24 (by decide) rfl rfl) rfl rfl (Nat.le_of_ble_eq_true rfl) dX10_trade_140 (fun H locs hs => ?_)
                        refine lv_aload_n hx hb dX10_trade_143 rfl (lv_at hl 0 rfl) ?_
                        refine gf_X10_39_0 C hK hs dX10_trade_144 ?_
                        refine lv_iload_n hx hb dX10_trade_147 rfl (lv_at hl 1 rfl) ?_
                        refine lv_iload hx hb dX10_trade_148 (lv_at hl 4 rfl) ?_
                        obtain ⟨σ23, r24, hE1, hE⟩ := cl_e hE
                        refine x_civ (As := [.int p1, .int p4]) (rest := []) C hl.1 hK hs hA ⟨Nat.le_refl 0, Nat.le_refl 0⟩ (ctX9_endOf l g _ _ _ _ _ hE1) (cw_X10_165 C ⟨Nat.le_of_ble_eq_true rfl, Nat.le_of_ble_eq_true rfl⟩) (hs.recv hK 25 (by decide) rfl rfl) rfl rfl (Nat.le_of_ble_eq_true rfl) dX10_trade_150 (fun H locs hs => ?_)
                        exact hQ hs hE dX10_trade_153
                      · have hE := if_t hc hE
                        refine lv_bipush (v := (-2)) hx hb dX10_trade_124 (by decide) ?_
                        exact hQ hs hE dX10_trade_126
                    · have hE := if_f hc hE
                      refine lv_bipush (v := (-4)) hx hb dX10_trade_110 (by decide) ?_
                      exact hQ hs hE dX10_trade_112
            · have hE := if_t hc hE
              refine lv_iconst (v := (-1)) hx hb dX10_trade_58 (by decide) ?_
              exact hQ hs hE dX10_trade_59
        · have hE := if_t hc hE
          refine lv_iconst (v := (-1)) hx hb dX10_trade_45 (by decide) ?_
          exact hQ hs hE dX10_trade_46
theorem dX10_lend_0 : decode cX10_lend 0 = .ok (.aload_n 0, 1) := by decide +kernel
theorem dX10_lend_1 : decode cX10_lend 1 = .ok (.getfield 46, 3) := by decide +kernel
theorem dX10_lend_4 : decode cX10_lend 4 = .ok (.iload_n 1, 1) := by decide +kernel
theorem dX10_lend_5 : decode cX10_lend 5 = .ok (.invokevirtual 153, 3) := by decide +kernel
theorem dX10_lend_8 : decode cX10_lend 8 = .ok (.ifCond .eq 30, 3) := by decide +kernel
theorem dX10_lend_11 : decode cX10_lend 11 = .ok (.aload_n 0, 1) := by decide +kernel
theorem dX10_lend_12 : decode cX10_lend 12 = .ok (.getfield 46, 3) := by decide +kernel
theorem dX10_lend_15 : decode cX10_lend 15 = .ok (.iload_n 2, 1) := by decide +kernel
theorem dX10_lend_16 : decode cX10_lend 16 = .ok (.invokevirtual 153, 3) := by decide +kernel
theorem dX10_lend_19 : decode cX10_lend 19 = .ok (.ifCond .eq 19, 3) := by decide +kernel
theorem dX10_lend_22 : decode cX10_lend 22 = .ok (.iload_n 1, 1) := by decide +kernel
theorem dX10_lend_23 : decode cX10_lend 23 = .ok (.iload_n 2, 1) := by decide +kernel
theorem dX10_lend_24 : decode cX10_lend 24 = .ok (.if_icmp .eq 14, 3) := by decide +kernel
theorem dX10_lend_27 : decode cX10_lend 27 = .ok (.iload_n 3, 1) := by decide +kernel
theorem dX10_lend_28 : decode cX10_lend 28 = .ok (.iconst 1, 1) := by decide +kernel
theorem dX10_lend_29 : decode cX10_lend 29 = .ok (.if_icmp .lt 9, 3) := by decide +kernel
theorem dX10_lend_32 : decode cX10_lend 32 = .ok (.iload_n 3, 1) := by decide +kernel
theorem dX10_lend_33 : decode cX10_lend 33 = .ok (.bipush 9, 2) := by decide +kernel
theorem dX10_lend_35 : decode cX10_lend 35 = .ok (.if_icmp .le 5, 3) := by decide +kernel
theorem dX10_lend_38 : decode cX10_lend 38 = .ok (.iconst (-1), 1) := by decide +kernel
theorem dX10_lend_39 : decode cX10_lend 39 = .ok (.ireturn, 1) := by decide +kernel
theorem dX10_lend_40 : decode cX10_lend 40 = .ok (.aload_n 0, 1) := by decide +kernel
theorem dX10_lend_41 : decode cX10_lend 41 = .ok (.getfield 39, 3) := by decide +kernel
theorem dX10_lend_44 : decode cX10_lend 44 = .ok (.getfield 187, 3) := by decide +kernel
theorem dX10_lend_47 : decode cX10_lend 47 = .ok (.iload_n 2, 1) := by decide +kernel
theorem dX10_lend_48 : decode cX10_lend 48 = .ok (.iaload, 1) := by decide +kernel
theorem dX10_lend_49 : decode cX10_lend 49 = .ok (.iload_n 3, 1) := by decide +kernel
theorem dX10_lend_50 : decode cX10_lend 50 = .ok (.iadd, 1) := by decide +kernel
theorem dX10_lend_51 : decode cX10_lend 51 = .ok (.bipush 99, 2) := by decide +kernel
theorem dX10_lend_53 : decode cX10_lend 53 = .ok (.if_icmp .le 6, 3) := by decide +kernel
theorem dX10_lend_56 : decode cX10_lend 56 = .ok (.bipush (-4), 2) := by decide +kernel
theorem dX10_lend_58 : decode cX10_lend 58 = .ok (.ireturn, 1) := by decide +kernel
theorem dX10_lend_59 : decode cX10_lend 59 = .ok (.aload_n 0, 1) := by decide +kernel
theorem dX10_lend_60 : decode cX10_lend 60 = .ok (.getfield 39, 3) := by decide +kernel
theorem dX10_lend_63 : decode cX10_lend 63 = .ok (.getfield 187, 3) := by decide +kernel
theorem dX10_lend_66 : decode cX10_lend 66 = .ok (.iload_n 1, 1) := by decide +kernel
theorem dX10_lend_67 : decode cX10_lend 67 = .ok (.iaload, 1) := by decide +kernel
theorem dX10_lend_68 : decode cX10_lend 68 = .ok (.iload_n 3, 1) := by decide +kernel
theorem dX10_lend_69 : decode cX10_lend 69 = .ok (.if_icmp .ge 6, 3) := by decide +kernel
theorem dX10_lend_72 : decode cX10_lend 72 = .ok (.bipush (-6), 2) := by decide +kernel
theorem dX10_lend_74 : decode cX10_lend 74 = .ok (.ireturn, 1) := by decide +kernel
theorem dX10_lend_75 : decode cX10_lend 75 = .ok (.aload_n 0, 1) := by decide +kernel
theorem dX10_lend_76 : decode cX10_lend 76 = .ok (.getfield 31, 3) := by decide +kernel
theorem dX10_lend_79 : decode cX10_lend 79 = .ok (.iconst 1, 1) := by decide +kernel
theorem dX10_lend_80 : decode cX10_lend 80 = .ok (.invokevirtual 190, 3) := by decide +kernel
theorem dX10_lend_83 : decode cX10_lend 83 = .ok (.ifCond .ne 6, 3) := by decide +kernel
theorem dX10_lend_86 : decode cX10_lend 86 = .ok (.bipush (-2), 2) := by decide +kernel
theorem dX10_lend_88 : decode cX10_lend 88 = .ok (.ireturn, 1) := by decide +kernel
theorem dX10_lend_89 : decode cX10_lend 89 = .ok (.aload_n 0, 1) := by decide +kernel
theorem dX10_lend_90 : decode cX10_lend 90 = .ok (.getfield 31, 3) := by decide +kernel
theorem dX10_lend_93 : decode cX10_lend 93 = .ok (.iconst 4, 1) := by decide +kernel
theorem dX10_lend_94 : decode cX10_lend 94 = .ok (.iload_n 1, 1) := by decide +kernel
theorem dX10_lend_95 : decode cX10_lend 95 = .ok (.iconst 0, 1) := by decide +kernel
theorem dX10_lend_96 : decode cX10_lend 96 = .ok (.iload_n 2, 1) := by decide +kernel
theorem dX10_lend_97 : decode cX10_lend 97 = .ok (.iload_n 3, 1) := by decide +kernel
theorem dX10_lend_98 : decode cX10_lend 98 = .ok (.invokestatic 193, 3) := by decide +kernel
theorem dX10_lend_101 : decode cX10_lend 101 = .ok (.invokevirtual 197, 3) := by decide +kernel
theorem dX10_lend_104 : decode cX10_lend 104 = .ok (.aload_n 0, 1) := by decide +kernel
theorem dX10_lend_105 : decode cX10_lend 105 = .ok (.getfield 39, 3) := by decide +kernel
theorem dX10_lend_108 : decode cX10_lend 108 = .ok (.getfield 187, 3) := by decide +kernel
theorem dX10_lend_111 : decode cX10_lend 111 = .ok (.iload_n 1, 1) := by decide +kernel
theorem dX10_lend_112 : decode cX10_lend 112 = .ok (.iaload, 1) := by decide +kernel
theorem dX10_lend_113 : decode cX10_lend 113 = .ok (.ireturn, 1) := by decide +kernel
def fX10_lend (σ : St) (p1 : Int32) (p2 : Int32) (p3 : Int32) : Option (St × Int32) := cl (fX6_isHouse σ p1) (fun σ1 r2 => (if r2 = 0 then some (σ1, (-1)) else cl (fX6_isHouse σ1 p2) (fun σ3 r4 => (if r4 = 0 then some (σ3, (-1)) else (if p1 = p2 then some (σ3, (-1)) else (if p3 < 1 then some (σ3, (-1)) else (if p3 ≤ 9 then rd LC σ3 33 p2 (fun x5 => (if (x5 + p3) ≤ 99 then rd LC σ3 33 p1 (fun x6 => (if p3 ≤ x6 then cl (fX3_hasRoomFor σ3 1) (fun σ7 r8 => (if r8 = 0 then some (σ7, (-2)) else cl (fX3_pack σ7 4 p1 0 p2 p3) (fun σ9 r10 => cl (fX3_add σ9 r10) (fun σ11 r12 => rd LC σ11 33 p1 (fun x13 => some (σ11, x13)))))) else some (σ3, (-6)))) else some (σ3, (-4)))) else some (σ3, (-1)))))))))
set_option maxHeartbeats 4000000 in
set_option maxRecDepth 100000 in
theorem ctX10_lend (l : Launch) (g : GG) (σ : St) (p1 : Int32) (p2 : Int32) (p3 : Int32) (σ' : St) (r : Int32) (hE : fX10_lend σ p1 p2 p3 = some (σ', r)) : MI 52 entC l g yX10_lend (Cond.code yX10_lend cX10_lend 4 (some .int) :: gtbl) (rmD 6) [.ref (g.2.1 0), .int p1, .int p2, .int p3] σ σ' r := by
  refine mi_i (own := RX10) (lv := [(0, .ref (g.2.1 0)), (1, .int p1), (2, .int p2), (3, .int p3)]) (by decide) rfl (Nat.le_of_ble_eq_true rfl) rfl (fun p e s m below meth c ls args Q A H0 H locs C hK hA hQ hs hl => ?_)
  have hx := C.1
  have hb := C.2.1
  unfold fX10_lend at hE
  refine lv_aload_n hx hb dX10_lend_0 rfl (lv_at hl 0 rfl) ?_
  refine gf_X10_46_0 C hK hs dX10_lend_1 ?_
  refine lv_iload_n hx hb dX10_lend_4 rfl (lv_at hl 1 rfl) ?_
  obtain ⟨σ1, r2, hE1, hE⟩ := cl_e hE
  refine x_civ (As := [.int p1]) (rest := []) C hl.1 hK hs hA ⟨Nat.le_refl 0, Nat.le_refl 0⟩ (ctX6_isHouse l g _ _ _ _ hE1) (cw_X10_153 C ⟨Nat.le_of_ble_eq_true rfl, Nat.le_of_ble_eq_true rfl⟩) (hs.recv hK 26 (by decide) rfl rfl) rfl rfl (Nat.le_of_ble_eq_true rfl) dX10_lend_5 (fun H locs hs => ?_)
  refine lv_if_eq (tgt := 38) hx hb dX10_lend_8 (by decide) (fun hc => ?_) (fun hc => ?_)
  · have hE := if_t hc hE
    refine lv_iconst (v := (-1)) hx hb dX10_lend_38 (by decide) ?_
    exact hQ hs hE dX10_lend_39
  · have hE := if_f hc hE
    refine lv_aload_n hx hb dX10_lend_11 rfl (lv_at hl 0 rfl) ?_
    refine gf_X10_46_0 C hK hs dX10_lend_12 ?_
    refine lv_iload_n hx hb dX10_lend_15 rfl (lv_at hl 2 rfl) ?_
    obtain ⟨σ3, r4, hE1, hE⟩ := cl_e hE
    refine x_civ (As := [.int p2]) (rest := []) C hl.1 hK hs hA ⟨Nat.le_refl 0, Nat.le_refl 0⟩ (ctX6_isHouse l g _ _ _ _ hE1) (cw_X10_153 C ⟨Nat.le_of_ble_eq_true rfl, Nat.le_of_ble_eq_true rfl⟩) (hs.recv hK 26 (by decide) rfl rfl) rfl rfl (Nat.le_of_ble_eq_true rfl) dX10_lend_16 (fun H locs hs => ?_)
    refine lv_if_eq (tgt := 38) hx hb dX10_lend_19 (by decide) (fun hc => ?_) (fun hc => ?_)
    · have hE := if_t hc hE
      refine lv_iconst (v := (-1)) hx hb dX10_lend_38 (by decide) ?_
      exact hQ hs hE dX10_lend_39
    · have hE := if_f hc hE
      refine lv_iload_n hx hb dX10_lend_22 rfl (lv_at hl 1 rfl) ?_
      refine lv_iload_n hx hb dX10_lend_23 rfl (lv_at hl 2 rfl) ?_
      refine lv_icmp_eq (tgt := 38) hx hb dX10_lend_24 (by decide) (fun hc => ?_) (fun hc => ?_)
      · have hE := if_t hc hE
        refine lv_iconst (v := (-1)) hx hb dX10_lend_38 (by decide) ?_
        exact hQ hs hE dX10_lend_39
      · have hE := if_f hc hE
        refine lv_iload_n hx hb dX10_lend_27 rfl (lv_at hl 3 rfl) ?_
        refine lv_iconst (v := 1) hx hb dX10_lend_28 (by decide) ?_
        refine lv_icmp_lt (tgt := 38) hx hb dX10_lend_29 (by decide) (fun hc => ?_) (fun hc => ?_)
        · have hE := if_t hc hE
          refine lv_iconst (v := (-1)) hx hb dX10_lend_38 (by decide) ?_
          exact hQ hs hE dX10_lend_39
        · have hE := if_f hc hE
          refine lv_iload_n hx hb dX10_lend_32 rfl (lv_at hl 3 rfl) ?_
          refine lv_bipush (v := 9) hx hb dX10_lend_33 (by decide) ?_
          refine lv_icmp_le (tgt := 40) hx hb dX10_lend_35 (by decide) (fun hc => ?_) (fun hc => ?_)
          · have hE := if_t hc hE
            refine lv_aload_n hx hb dX10_lend_40 rfl (lv_at hl 0 rfl) ?_
            refine gf_X10_39_0 C hK hs dX10_lend_41 ?_
            refine gf_X10_187_25 C hK hs dX10_lend_44 ?_
            refine lv_iload_n hx hb dX10_lend_47 rfl (lv_at hl 2 rfl) ?_
            obtain ⟨hi, x5, ex5, hE⟩ := rd_w hE
            refine y_ald layC C hK hs hi ex5 dX10_lend_48 ?_
            refine lv_iload_n hx hb dX10_lend_49 rfl (lv_at hl 3 rfl) ?_
            refine lv_iadd hx hb dX10_lend_50 ?_
            refine lv_bipush (v := 99) hx hb dX10_lend_51 (by decide) ?_
            refine lv_icmp_le (tgt := 59) hx hb dX10_lend_53 (by decide) (fun hc => ?_) (fun hc => ?_)
            · have hE := if_t hc hE
              refine lv_aload_n hx hb dX10_lend_59 rfl (lv_at hl 0 rfl) ?_
              refine gf_X10_39_0 C hK hs dX10_lend_60 ?_
              refine gf_X10_187_25 C hK hs dX10_lend_63 ?_
              refine lv_iload_n hx hb dX10_lend_66 rfl (lv_at hl 1 rfl) ?_
              obtain ⟨hi, x6, ex6, hE⟩ := rd_w hE
              refine y_ald layC C hK hs hi ex6 dX10_lend_67 ?_
              refine lv_iload_n hx hb dX10_lend_68 rfl (lv_at hl 3 rfl) ?_
              refine lv_icmp_ge (tgt := 75) hx hb dX10_lend_69 (by decide) (fun hc => ?_) (fun hc => ?_)
              · have hE := if_t hc hE
                refine lv_aload_n hx hb dX10_lend_75 rfl (lv_at hl 0 rfl) ?_
                refine gf_X10_31_0 C hK hs dX10_lend_76 ?_
                refine lv_iconst (v := 1) hx hb dX10_lend_79 (by decide) ?_
                obtain ⟨σ7, r8, hE1, hE⟩ := cl_e hE
                refine x_civ (As := [.int 1]) (rest := []) C hl.1 hK hs hA ⟨Nat.le_refl 0, Nat.le_refl 0⟩ (ctX3_hasRoomFor l g _ _ _ _ hE1) (cw_X10_190 C ⟨Nat.le_of_ble_eq_true rfl, Nat.le_of_ble_eq_true rfl⟩) (hs.recv hK 24 (by decide) rfl rfl) rfl rfl (Nat.le_of_ble_eq_true rfl) dX10_lend_80 (fun H locs hs => ?_)
                refine lv_if_ne (tgt := 89) hx hb dX10_lend_83 (by decide) (fun hc => ?_) (fun hc => ?_)
                · have hE := if_f hc hE
                  refine lv_aload_n hx hb dX10_lend_89 rfl (lv_at hl 0 rfl) ?_
                  refine gf_X10_31_0 C hK hs dX10_lend_90 ?_
                  refine lv_iconst (v := 4) hx hb dX10_lend_93 (by decide) ?_
                  refine lv_iload_n hx hb dX10_lend_94 rfl (lv_at hl 1 rfl) ?_
                  refine lv_iconst (v := 0) hx hb dX10_lend_95 (by decide) ?_
                  refine lv_iload_n hx hb dX10_lend_96 rfl (lv_at hl 2 rfl) ?_
                  refine lv_iload_n hx hb dX10_lend_97 rfl (lv_at hl 3 rfl) ?_
                  obtain ⟨σ9, r10, hE1, hE⟩ := cl_e hE
                  refine x_cis (As := [.int 4, .int p1, .int 0, .int p2, .int p3]) (rest := [.ref (g.2.1 24)]) C hl.1 hK hs hA ⟨Nat.le_refl 0, Nat.le_refl 0⟩ (ctX3_pack l g _ _ _ _ _ _ _ _ hE1) (cw_X10_193 C ⟨Nat.le_of_ble_eq_true rfl, Nat.le_of_ble_eq_true rfl⟩) rfl rfl (Nat.le_of_ble_eq_true rfl) dX10_lend_98 (fun H locs hs => ?_)
                  obtain ⟨σ11, r12, hE1, hE⟩ := cl_e hE
                  refine x_cvv (As := [.int r10]) (rest := []) C hl.1 hK hs hA ⟨Nat.le_refl 0, Nat.le_refl 0⟩ (ctX3_add l g _ _ _ _ hE1) (cw_X10_197 C ⟨Nat.le_of_ble_eq_true rfl, Nat.le_of_ble_eq_true rfl⟩) (hs.recv hK 24 (by decide) rfl rfl) rfl rfl (Nat.le_of_ble_eq_true rfl) dX10_lend_101 (fun H locs hs => ?_)
                  refine lv_aload_n hx hb dX10_lend_104 rfl (lv_at hl 0 rfl) ?_
                  refine gf_X10_39_0 C hK hs dX10_lend_105 ?_
                  refine gf_X10_187_25 C hK hs dX10_lend_108 ?_
                  refine lv_iload_n hx hb dX10_lend_111 rfl (lv_at hl 1 rfl) ?_
                  obtain ⟨hi, x13, ex13, hE⟩ := rd_w hE
                  refine y_ald layC C hK hs hi ex13 dX10_lend_112 ?_
                  exact hQ hs hE dX10_lend_113
                · have hE := if_t hc hE
                  refine lv_bipush (v := (-2)) hx hb dX10_lend_86 (by decide) ?_
                  exact hQ hs hE dX10_lend_88
              · have hE := if_f hc hE
                refine lv_bipush (v := (-6)) hx hb dX10_lend_72 (by decide) ?_
                exact hQ hs hE dX10_lend_74
            · have hE := if_f hc hE
              refine lv_bipush (v := (-4)) hx hb dX10_lend_56 (by decide) ?_
              exact hQ hs hE dX10_lend_58
          · have hE := if_f hc hE
            refine lv_iconst (v := (-1)) hx hb dX10_lend_38 (by decide) ?_
            exact hQ hs hE dX10_lend_39
theorem dX10_undo_0 : decode cX10_undo 0 = .ok (.iload_n 1, 1) := by decide +kernel
theorem dX10_undo_1 : decode cX10_undo 1 = .ok (.ifCond .lt 14, 3) := by decide +kernel
theorem dX10_undo_4 : decode cX10_undo 4 = .ok (.iload_n 1, 1) := by decide +kernel
theorem dX10_undo_5 : decode cX10_undo 5 = .ok (.aload_n 0, 1) := by decide +kernel
theorem dX10_undo_6 : decode cX10_undo 6 = .ok (.getfield 31, 3) := by decide +kernel
theorem dX10_undo_9 : decode cX10_undo 9 = .ok (.getfield 206, 3) := by decide +kernel
theorem dX10_undo_12 : decode cX10_undo 12 = .ok (.if_icmp .le 5, 3) := by decide +kernel
theorem dX10_undo_15 : decode cX10_undo 15 = .ok (.iconst (-1), 1) := by decide +kernel
theorem dX10_undo_16 : decode cX10_undo 16 = .ok (.ireturn, 1) := by decide +kernel
theorem dX10_undo_17 : decode cX10_undo 17 = .ok (.aload_n 0, 1) := by decide +kernel
theorem dX10_undo_18 : decode cX10_undo 18 = .ok (.getfield 31, 3) := by decide +kernel
theorem dX10_undo_21 : decode cX10_undo 21 = .ok (.getfield 206, 3) := by decide +kernel
theorem dX10_undo_24 : decode cX10_undo 24 = .ok (.iload_n 1, 1) := by decide +kernel
theorem dX10_undo_25 : decode cX10_undo 25 = .ok (.isub, 1) := by decide +kernel
theorem dX10_undo_26 : decode cX10_undo 26 = .ok (.istore_n 2, 1) := by decide +kernel
theorem dX10_undo_27 : decode cX10_undo 27 = .ok (.aload_n 0, 1) := by decide +kernel
theorem dX10_undo_28 : decode cX10_undo 28 = .ok (.getfield 31, 3) := by decide +kernel
theorem dX10_undo_31 : decode cX10_undo 31 = .ok (.iload_n 1, 1) := by decide +kernel
theorem dX10_undo_32 : decode cX10_undo 32 = .ok (.invokevirtual 209, 3) := by decide +kernel
theorem dX10_undo_35 : decode cX10_undo 35 = .ok (.iload_n 2, 1) := by decide +kernel
theorem dX10_undo_36 : decode cX10_undo 36 = .ok (.ireturn, 1) := by decide +kernel
def fX10_undo (σ : St) (p1 : Int32) : Option (St × Int32) := (if p1 < 0 then some (σ, (-1)) else (if p1 ≤ (σ.1 24 4) then cl (fX3_cutTo σ p1) (fun σ1 r2 => some (σ1, (σ.1 24 4) - p1)) else some (σ, (-1))))
set_option maxHeartbeats 4000000 in
set_option maxRecDepth 100000 in
theorem ctX10_undo (l : Launch) (g : GG) (σ : St) (p1 : Int32) (σ' : St) (r : Int32) (hE : fX10_undo σ p1 = some (σ', r)) : MI 52 entC l g yX10_undo (Cond.code yX10_undo cX10_undo 3 (some .int) :: gtbl) (rmD 6) [.ref (g.2.1 0), .int p1] σ σ' r := by
  refine mi_i (own := RX10) (lv := [(0, .ref (g.2.1 0)), (1, .int p1)]) (by decide) rfl (Nat.le_of_ble_eq_true rfl) rfl (fun p e s m below meth c ls args Q A H0 H locs C hK hA hQ hs hl => ?_)
  have hx := C.1
  have hb := C.2.1
  unfold fX10_undo at hE
  refine lv_iload_n hx hb dX10_undo_0 rfl (lv_at hl 1 rfl) ?_
  refine lv_if_lt (tgt := 15) hx hb dX10_undo_1 (by decide) (fun hc => ?_) (fun hc => ?_)
  · have hE := if_t hc hE
    refine lv_iconst (v := (-1)) hx hb dX10_undo_15 (by decide) ?_
    exact hQ hs hE dX10_undo_16
  · have hE := if_f hc hE
    refine lv_iload_n hx hb dX10_undo_4 rfl (lv_at hl 1 rfl) ?_
    refine lv_aload_n hx hb dX10_undo_5 rfl (lv_at hl 0 rfl) ?_
    refine gf_X10_31_0 C hK hs dX10_undo_6 ?_
    refine gf_X10_206_24 C hK hs dX10_undo_9 ?_
    refine lv_icmp_le (tgt := 17) hx hb dX10_undo_12 (by decide) (fun hc => ?_) (fun hc => ?_)
    · have hE := if_t hc hE
      refine lv_aload_n hx hb dX10_undo_17 rfl (lv_at hl 0 rfl) ?_
      refine gf_X10_31_0 C hK hs dX10_undo_18 ?_
      refine gf_X10_206_24 C hK hs dX10_undo_21 ?_
      refine lv_iload_n hx hb dX10_undo_24 rfl (lv_at hl 1 rfl) ?_
      refine lv_isub hx hb dX10_undo_25 ?_
      refine lv_istore_n (lv' := [(2, .int ((σ.1 24 4) - p1)), (0, .ref (g.2.1 0)), (1, .int p1)]) hx hb dX10_undo_26 rfl hl (by decide) rfl (fun ls hl => ?_)
      refine lv_aload_n hx hb dX10_undo_27 rfl (lv_at hl 1 rfl) ?_
      refine gf_X10_31_0 C hK hs dX10_undo_28 ?_
      refine lv_iload_n hx hb dX10_undo_31 rfl (lv_at hl 2 rfl) ?_
      obtain ⟨σ1, r2, hE1, hE⟩ := cl_e hE
      refine x_cvv (As := [.int p1]) (rest := []) C hl.1 hK hs hA ⟨Nat.le_refl 0, Nat.le_refl 0⟩ (ctX3_cutTo l g _ _ _ _ hE1) (cw_X10_209 C ⟨Nat.le_of_ble_eq_true rfl, Nat.le_of_ble_eq_true rfl⟩) (hs.recv hK 24 (by decide) rfl rfl) rfl rfl (Nat.le_of_ble_eq_true rfl) dX10_undo_32 (fun H locs hs => ?_)
      refine lv_iload_n hx hb dX10_undo_35 rfl (lv_at hl 0 rfl) ?_
      exact hQ hs hE dX10_undo_36
    · have hE := if_f hc hE
      refine lv_iconst (v := (-1)) hx hb dX10_undo_15 (by decide) ?_
      exact hQ hs hE dX10_undo_16
theorem dX10_keep_0 : decode cX10_keep 0 = .ok (.aload_n 0, 1) := by decide +kernel
theorem dX10_keep_1 : decode cX10_keep 1 = .ok (.getfield 31, 3) := by decide +kernel
theorem dX10_keep_4 : decode cX10_keep 4 = .ok (.iload_n 1, 1) := by decide +kernel
theorem dX10_keep_5 : decode cX10_keep 5 = .ok (.invokevirtual 212, 3) := by decide +kernel
theorem dX10_keep_8 : decode cX10_keep 8 = .ok (.ifCond .ne 5, 3) := by decide +kernel
theorem dX10_keep_11 : decode cX10_keep 11 = .ok (.iconst (-1), 1) := by decide +kernel
theorem dX10_keep_12 : decode cX10_keep 12 = .ok (.ireturn, 1) := by decide +kernel
theorem dX10_keep_13 : decode cX10_keep 13 = .ok (.aload_n 0, 1) := by decide +kernel
theorem dX10_keep_14 : decode cX10_keep 14 = .ok (.getfield 46, 3) := by decide +kernel
theorem dX10_keep_17 : decode cX10_keep 17 = .ok (.getfield 138, 3) := by decide +kernel
theorem dX10_keep_20 : decode cX10_keep 20 = .ok (.ifCond .ne 6, 3) := by decide +kernel
theorem dX10_keep_23 : decode cX10_keep 23 = .ok (.bipush (-4), 2) := by decide +kernel
theorem dX10_keep_25 : decode cX10_keep 25 = .ok (.ireturn, 1) := by decide +kernel
theorem dX10_keep_26 : decode cX10_keep 26 = .ok (.aload_n 0, 1) := by decide +kernel
theorem dX10_keep_27 : decode cX10_keep 27 = .ok (.getfield 31, 3) := by decide +kernel
theorem dX10_keep_30 : decode cX10_keep 30 = .ok (.iload_n 1, 1) := by decide +kernel
theorem dX10_keep_31 : decode cX10_keep 31 = .ok (.invokevirtual 215, 3) := by decide +kernel
theorem dX10_keep_34 : decode cX10_keep 34 = .ok (.aload_n 0, 1) := by decide +kernel
theorem dX10_keep_35 : decode cX10_keep 35 = .ok (.getfield 31, 3) := by decide +kernel
theorem dX10_keep_38 : decode cX10_keep 38 = .ok (.getfield 206, 3) := by decide +kernel
theorem dX10_keep_41 : decode cX10_keep 41 = .ok (.ireturn, 1) := by decide +kernel
def fX10_keep (σ : St) (p1 : Int32) : Option (St × Int32) := cl (fX3_isShelf σ p1) (fun σ1 r2 => (if r2 = 0 then some (σ1, (-1)) else (if (σ1.1 26 7) = 0 then some (σ1, (-4)) else cl (fX3_shelve σ1 p1) (fun σ3 r4 => some (σ3, σ3.1 24 4)))))
set_option maxHeartbeats 4000000 in
set_option maxRecDepth 100000 in
theorem ctX10_keep (l : Launch) (g : GG) (σ : St) (p1 : Int32) (σ' : St) (r : Int32) (hE : fX10_keep σ p1 = some (σ', r)) : MI 52 entC l g yX10_keep (Cond.code yX10_keep cX10_keep 2 (some .int) :: gtbl) (rmD 2) [.ref (g.2.1 0), .int p1] σ σ' r := by
  refine mi_i (own := RX10) (lv := [(0, .ref (g.2.1 0)), (1, .int p1)]) (by decide) rfl (Nat.le_of_ble_eq_true rfl) rfl (fun p e s m below meth c ls args Q A H0 H locs C hK hA hQ hs hl => ?_)
  have hx := C.1
  have hb := C.2.1
  unfold fX10_keep at hE
  refine lv_aload_n hx hb dX10_keep_0 rfl (lv_at hl 0 rfl) ?_
  refine gf_X10_31_0 C hK hs dX10_keep_1 ?_
  refine lv_iload_n hx hb dX10_keep_4 rfl (lv_at hl 1 rfl) ?_
  obtain ⟨σ1, r2, hE1, hE⟩ := cl_e hE
  refine x_civ (As := [.int p1]) (rest := []) C hl.1 hK hs hA ⟨Nat.le_refl 0, Nat.le_refl 0⟩ (ctX3_isShelf l g _ _ _ _ hE1) (cw_X10_212 C ⟨Nat.le_of_ble_eq_true rfl, Nat.le_of_ble_eq_true rfl⟩) (hs.recv hK 24 (by decide) rfl rfl) rfl rfl (Nat.le_of_ble_eq_true rfl) dX10_keep_5 (fun H locs hs => ?_)
  refine lv_if_ne (tgt := 13) hx hb dX10_keep_8 (by decide) (fun hc => ?_) (fun hc => ?_)
  · have hE := if_f hc hE
    refine lv_aload_n hx hb dX10_keep_13 rfl (lv_at hl 0 rfl) ?_
    refine gf_X10_46_0 C hK hs dX10_keep_14 ?_
    refine gf_X10_138_26 C hK hs dX10_keep_17 ?_
    refine lv_if_ne (tgt := 26) hx hb dX10_keep_20 (by decide) (fun hc => ?_) (fun hc => ?_)
    · have hE := if_f hc hE
      refine lv_aload_n hx hb dX10_keep_26 rfl (lv_at hl 0 rfl) ?_
      refine gf_X10_31_0 C hK hs dX10_keep_27 ?_
      refine lv_iload_n hx hb dX10_keep_30 rfl (lv_at hl 1 rfl) ?_
      obtain ⟨σ3, r4, hE1, hE⟩ := cl_e hE
      refine x_cvv (As := [.int p1]) (rest := []) C hl.1 hK hs hA ⟨Nat.le_refl 0, Nat.le_refl 0⟩ (ctX3_shelve l g _ _ _ _ hE1) (cw_X10_215 C ⟨Nat.le_of_ble_eq_true rfl, Nat.le_of_ble_eq_true rfl⟩) (hs.recv hK 24 (by decide) rfl rfl) rfl rfl (Nat.le_of_ble_eq_true rfl) dX10_keep_31 (fun H locs hs => ?_)
      refine lv_aload_n hx hb dX10_keep_34 rfl (lv_at hl 0 rfl) ?_
      refine gf_X10_31_0 C hK hs dX10_keep_35 ?_
      refine gf_X10_206_24 C hK hs dX10_keep_38 ?_
      exact hQ hs hE dX10_keep_41
    · have hE := if_t hc hE
      refine lv_bipush (v := (-4)) hx hb dX10_keep_23 (by decide) ?_
      exact hQ hs hE dX10_keep_25
  · have hE := if_t hc hE
    refine lv_iconst (v := (-1)) hx hb dX10_keep_11 (by decide) ?_
    exact hQ hs hE dX10_keep_12
theorem dX10_on_0 : decode cX10_on 0 = .ok (.aload_n 0, 1) := by decide +kernel
theorem dX10_on_1 : decode cX10_on 1 = .ok (.getfield 31, 3) := by decide +kernel
theorem dX10_on_4 : decode cX10_on 4 = .ok (.iload_n 1, 1) := by decide +kernel
theorem dX10_on_5 : decode cX10_on 5 = .ok (.invokevirtual 212, 3) := by decide +kernel
theorem dX10_on_8 : decode cX10_on 8 = .ok (.ifCond .ne 5, 3) := by decide +kernel
theorem dX10_on_11 : decode cX10_on 11 = .ok (.iconst (-1), 1) := by decide +kernel
theorem dX10_on_12 : decode cX10_on 12 = .ok (.ireturn, 1) := by decide +kernel
theorem dX10_on_13 : decode cX10_on 13 = .ok (.aload_n 0, 1) := by decide +kernel
theorem dX10_on_14 : decode cX10_on 14 = .ok (.getfield 31, 3) := by decide +kernel
theorem dX10_on_17 : decode cX10_on 17 = .ok (.iload_n 1, 1) := by decide +kernel
theorem dX10_on_18 : decode cX10_on 18 = .ok (.invokevirtual 218, 3) := by decide +kernel
theorem dX10_on_21 : decode cX10_on 21 = .ok (.ifCond .ge 9, 3) := by decide +kernel
theorem dX10_on_24 : decode cX10_on 24 = .ok (.aload_n 0, 1) := by decide +kernel
theorem dX10_on_25 : decode cX10_on 25 = .ok (.iconst 1, 1) := by decide +kernel
theorem dX10_on_26 : decode cX10_on 26 = .ok (.invokevirtual 76, 3) := by decide +kernel
theorem dX10_on_29 : decode cX10_on 29 = .ok (.ireturn, 1) := by decide +kernel
theorem dX10_on_30 : decode cX10_on 30 = .ok (.aload_n 0, 1) := by decide +kernel
theorem dX10_on_31 : decode cX10_on 31 = .ok (.getfield 31, 3) := by decide +kernel
theorem dX10_on_34 : decode cX10_on 34 = .ok (.iload_n 1, 1) := by decide +kernel
theorem dX10_on_35 : decode cX10_on 35 = .ok (.invokevirtual 221, 3) := by decide +kernel
theorem dX10_on_38 : decode cX10_on 38 = .ok (.aload_n 0, 1) := by decide +kernel
theorem dX10_on_39 : decode cX10_on 39 = .ok (.getfield 31, 3) := by decide +kernel
theorem dX10_on_42 : decode cX10_on 42 = .ok (.getfield 206, 3) := by decide +kernel
theorem dX10_on_45 : decode cX10_on 45 = .ok (.ireturn, 1) := by decide +kernel
def fX10_on (σ : St) (p1 : Int32) : Option (St × Int32) := cl (fX3_isShelf σ p1) (fun σ1 r2 => (if r2 = 0 then some (σ1, (-1)) else cl (fX3_shelved σ1 p1) (fun σ3 r4 => (if 0 ≤ r4 then cl (fX3_takeBack σ3 p1) (fun σ5 r6 => some (σ5, σ5.1 24 4)) else cl (fX10_refuse σ3 1) (fun σ7 r8 => some (σ7, r8))))))
set_option maxHeartbeats 4000000 in
set_option maxRecDepth 100000 in
theorem ctX10_on (l : Launch) (g : GG) (σ : St) (p1 : Int32) (σ' : St) (r : Int32) (hE : fX10_on σ p1 = some (σ', r)) : MI 52 entC l g yX10_on (Cond.code yX10_on cX10_on 2 (some .int) :: gtbl) (rmD 7) [.ref (g.2.1 0), .int p1] σ σ' r := by
  refine mi_i (own := RX10) (lv := [(0, .ref (g.2.1 0)), (1, .int p1)]) (by decide) rfl (Nat.le_of_ble_eq_true rfl) rfl (fun p e s m below meth c ls args Q A H0 H locs C hK hA hQ hs hl => ?_)
  have hx := C.1
  have hb := C.2.1
  unfold fX10_on at hE
  refine lv_aload_n hx hb dX10_on_0 rfl (lv_at hl 0 rfl) ?_
  refine gf_X10_31_0 C hK hs dX10_on_1 ?_
  refine lv_iload_n hx hb dX10_on_4 rfl (lv_at hl 1 rfl) ?_
  obtain ⟨σ1, r2, hE1, hE⟩ := cl_e hE
  refine x_civ (As := [.int p1]) (rest := []) C hl.1 hK hs hA ⟨Nat.le_refl 0, Nat.le_refl 0⟩ (ctX3_isShelf l g _ _ _ _ hE1) (cw_X10_212 C ⟨Nat.le_of_ble_eq_true rfl, Nat.le_of_ble_eq_true rfl⟩) (hs.recv hK 24 (by decide) rfl rfl) rfl rfl (Nat.le_of_ble_eq_true rfl) dX10_on_5 (fun H locs hs => ?_)
  refine lv_if_ne (tgt := 13) hx hb dX10_on_8 (by decide) (fun hc => ?_) (fun hc => ?_)
  · have hE := if_f hc hE
    refine lv_aload_n hx hb dX10_on_13 rfl (lv_at hl 0 rfl) ?_
    refine gf_X10_31_0 C hK hs dX10_on_14 ?_
    refine lv_iload_n hx hb dX10_on_17 rfl (lv_at hl 1 rfl) ?_
    obtain ⟨σ3, r4, hE1, hE⟩ := cl_e hE
    refine x_civ (As := [.int p1]) (rest := []) C hl.1 hK hs hA ⟨Nat.le_refl 0, Nat.le_refl 0⟩ (ctX3_shelved l g _ _ _ _ hE1) (cw_X10_218 C ⟨Nat.le_of_ble_eq_true rfl, Nat.le_of_ble_eq_true rfl⟩) (hs.recv hK 24 (by decide) rfl rfl) rfl rfl (Nat.le_of_ble_eq_true rfl) dX10_on_18 (fun H locs hs => ?_)
    refine lv_if_ge (tgt := 30) hx hb dX10_on_21 (by decide) (fun hc => ?_) (fun hc => ?_)
    · have hE := if_t hc hE
      refine lv_aload_n hx hb dX10_on_30 rfl (lv_at hl 0 rfl) ?_
      refine gf_X10_31_0 C hK hs dX10_on_31 ?_
      refine lv_iload_n hx hb dX10_on_34 rfl (lv_at hl 1 rfl) ?_
      obtain ⟨σ5, r6, hE1, hE⟩ := cl_e hE
      refine x_cvv (As := [.int p1]) (rest := []) C hl.1 hK hs hA ⟨Nat.le_refl 0, Nat.le_refl 0⟩ (ctX3_takeBack l g _ _ _ _ hE1) (cw_X10_221 C ⟨Nat.le_of_ble_eq_true rfl, Nat.le_of_ble_eq_true rfl⟩) (hs.recv hK 24 (by decide) rfl rfl) rfl rfl (Nat.le_of_ble_eq_true rfl) dX10_on_35 (fun H locs hs => ?_)
      refine lv_aload_n hx hb dX10_on_38 rfl (lv_at hl 0 rfl) ?_
      refine gf_X10_31_0 C hK hs dX10_on_39 ?_
      refine gf_X10_206_24 C hK hs dX10_on_42 ?_
      exact hQ hs hE dX10_on_45
    · have hE := if_f hc hE
      refine lv_aload_n hx hb dX10_on_24 rfl (lv_at hl 0 rfl) ?_
      refine lv_iconst (v := 1) hx hb dX10_on_25 (by decide) ?_
      obtain ⟨σ7, r8, hE1, hE⟩ := cl_e hE
      refine x_civ (As := [.int 1]) (rest := []) C hl.1 hK hs hA ⟨Nat.le_refl 0, Nat.le_refl 0⟩ (ctX10_refuse l g _ _ _ _ hE1) (cw_X10_76 C ⟨Nat.le_of_ble_eq_true rfl, Nat.le_of_ble_eq_true rfl⟩) (hs.recv hK 0 (by decide) rfl rfl) rfl rfl (Nat.le_of_ble_eq_true rfl) dX10_on_26 (fun H locs hs => ?_)
      exact hQ hs hE dX10_on_29
  · have hE := if_t hc hE
    refine lv_iconst (v := (-1)) hx hb dX10_on_11 (by decide) ?_
    exact hQ hs hE dX10_on_12
theorem dX10_next_0 : decode cX10_next 0 = .ok (.aload_n 0, 1) := by decide +kernel
theorem dX10_next_1 : decode cX10_next 1 = .ok (.getfield 39, 3) := by decide +kernel
theorem dX10_next_4 : decode cX10_next 4 = .ok (.invokestatic 224, 3) := by decide +kernel
theorem dX10_next_7 : decode cX10_next 7 = .ok (.istore_n 1, 1) := by decide +kernel
theorem dX10_next_8 : decode cX10_next 8 = .ok (.iload_n 1, 1) := by decide +kernel
theorem dX10_next_9 : decode cX10_next 9 = .ok (.ifCond .ge 6, 3) := by decide +kernel
theorem dX10_next_12 : decode cX10_next 12 = .ok (.bipush (-9), 2) := by decide +kernel
theorem dX10_next_14 : decode cX10_next 14 = .ok (.ireturn, 1) := by decide +kernel
theorem dX10_next_15 : decode cX10_next 15 = .ok (.aload_n 0, 1) := by decide +kernel
theorem dX10_next_16 : decode cX10_next 16 = .ok (.aload_n 0, 1) := by decide +kernel
theorem dX10_next_17 : decode cX10_next 17 = .ok (.getfield 39, 3) := by decide +kernel
theorem dX10_next_20 : decode cX10_next 20 = .ok (.getfield 230, 3) := by decide +kernel
theorem dX10_next_23 : decode cX10_next 23 = .ok (.iload_n 1, 1) := by decide +kernel
theorem dX10_next_24 : decode cX10_next 24 = .ok (.iaload, 1) := by decide +kernel
theorem dX10_next_25 : decode cX10_next 25 = .ok (.putfield 95, 3) := by decide +kernel
theorem dX10_next_28 : decode cX10_next 28 = .ok (.iload_n 1, 1) := by decide +kernel
theorem dX10_next_29 : decode cX10_next 29 = .ok (.invokestatic 233, 3) := by decide +kernel
theorem dX10_next_32 : decode cX10_next 32 = .ok (.ireturn, 1) := by decide +kernel
def fX10_next (σ : St) : Option (St × Int32) := cl (fX5_first σ) (fun σ1 r2 => (if 0 ≤ r2 then rd LC σ1 34 r2 (fun x3 => pt (su σ1 0 11 x3) (fun σ4 => cl (fX5_named σ4 r2) (fun σ5 r6 => some (σ5, r6)))) else some (σ1, (-9))))
set_option maxHeartbeats 4000000 in
set_option maxRecDepth 100000 in
theorem ctX10_next (l : Launch) (g : GG) (σ : St) (σ' : St) (r : Int32) (hE : fX10_next σ  = some (σ', r)) : MI 52 entC l g yX10_next (Cond.code yX10_next cX10_next 2 (some .int) :: gtbl) (rmD 2) [.ref (g.2.1 0)] σ σ' r := by
  refine mi_i (own := RX10) (lv := [(0, .ref (g.2.1 0))]) (by decide) rfl (Nat.le_of_ble_eq_true rfl) rfl (fun p e s m below meth c ls args Q A H0 H locs C hK hA hQ hs hl => ?_)
  have hx := C.1
  have hb := C.2.1
  unfold fX10_next at hE
  refine lv_aload_n hx hb dX10_next_0 rfl (lv_at hl 0 rfl) ?_
  refine gf_X10_39_0 C hK hs dX10_next_1 ?_
  obtain ⟨σ1, r2, hE1, hE⟩ := cl_e hE
  refine x_cis (As := [.ref (g.2.1 25)]) (rest := []) C hl.1 hK hs hA ⟨Nat.le_refl 0, Nat.le_refl 0⟩ (ctX5_first l g _  _ _ hE1) (cw_X10_224 C ⟨Nat.le_of_ble_eq_true rfl, Nat.le_of_ble_eq_true rfl⟩) rfl rfl (Nat.le_of_ble_eq_true rfl) dX10_next_4 (fun H locs hs => ?_)
  refine lv_istore_n (lv' := [(1, .int r2), (0, .ref (g.2.1 0))]) hx hb dX10_next_7 rfl hl (by decide) rfl (fun ls hl => ?_)
  refine lv_iload_n hx hb dX10_next_8 rfl (lv_at hl 0 rfl) ?_
  refine lv_if_ge (tgt := 15) hx hb dX10_next_9 (by decide) (fun hc => ?_) (fun hc => ?_)
  · have hE := if_t hc hE
    refine lv_aload_n hx hb dX10_next_15 rfl (lv_at hl 1 rfl) ?_
    refine lv_aload_n hx hb dX10_next_16 rfl (lv_at hl 1 rfl) ?_
    refine gf_X10_39_0 C hK hs dX10_next_17 ?_
    refine gf_X10_230_25 C hK hs dX10_next_20 ?_
    refine lv_iload_n hx hb dX10_next_23 rfl (lv_at hl 0 rfl) ?_
    obtain ⟨hi, x3, ex3, hE⟩ := rd_w hE
    refine y_ald layC C hK hs hi ex3 dX10_next_24 ?_
    obtain ⟨σ4, eσ4, hE⟩ := pt_w hE
    refine pf_X10_95_0 C hK hs eσ4 dX10_next_25 (fun H locs hs => ?_)
    refine lv_iload_n hx hb dX10_next_28 rfl (lv_at hl 0 rfl) ?_
    obtain ⟨σ5, r6, hE1, hE⟩ := cl_e hE
    refine x_cis (As := [.int r2]) (rest := []) C hl.1 hK hs hA ⟨Nat.le_refl 0, Nat.le_refl 0⟩ (ctX5_named l g _ _ _ _ hE1) (cw_X10_233 C ⟨Nat.le_of_ble_eq_true rfl, Nat.le_of_ble_eq_true rfl⟩) rfl rfl (Nat.le_of_ble_eq_true rfl) dX10_next_29 (fun H locs hs => ?_)
    exact hQ hs hE dX10_next_32
  · have hE := if_f hc hE
    refine lv_bipush (v := (-9)) hx hb dX10_next_12 (by decide) ?_
    exact hQ hs hE dX10_next_14
theorem dX10_fades_0 : decode cX10_fades 0 = .ok (.iload_n 1, 1) := by decide +kernel
theorem dX10_fades_1 : decode cX10_fades 1 = .ok (.ifCond .lt 9, 3) := by decide +kernel
theorem dX10_fades_4 : decode cX10_fades 4 = .ok (.iload_n 1, 1) := by decide +kernel
theorem dX10_fades_5 : decode cX10_fades 5 = .ok (.bipush 60, 2) := by decide +kernel
theorem dX10_fades_7 : decode cX10_fades 7 = .ok (.if_icmp .le 5, 3) := by decide +kernel
theorem dX10_fades_10 : decode cX10_fades 10 = .ok (.iconst (-1), 1) := by decide +kernel
theorem dX10_fades_11 : decode cX10_fades 11 = .ok (.ireturn, 1) := by decide +kernel
theorem dX10_fades_12 : decode cX10_fades 12 = .ok (.aload_n 0, 1) := by decide +kernel
theorem dX10_fades_13 : decode cX10_fades 13 = .ok (.getfield 39, 3) := by decide +kernel
theorem dX10_fades_16 : decode cX10_fades 16 = .ok (.aload_n 0, 1) := by decide +kernel
theorem dX10_fades_17 : decode cX10_fades 17 = .ok (.getfield 39, 3) := by decide +kernel
theorem dX10_fades_20 : decode cX10_fades 20 = .ok (.getfield 200, 3) := by decide +kernel
theorem dX10_fades_23 : decode cX10_fades 23 = .ok (.iload_n 1, 1) := by decide +kernel
theorem dX10_fades_24 : decode cX10_fades 24 = .ok (.iadd, 1) := by decide +kernel
theorem dX10_fades_25 : decode cX10_fades 25 = .ok (.invokestatic 236, 3) := by decide +kernel
theorem dX10_fades_28 : decode cX10_fades 28 = .ok (.istore_n 2, 1) := by decide +kernel
theorem dX10_fades_29 : decode cX10_fades 29 = .ok (.aload_n 0, 1) := by decide +kernel
theorem dX10_fades_30 : decode cX10_fades 30 = .ok (.iload_n 2, 1) := by decide +kernel
theorem dX10_fades_31 : decode cX10_fades 31 = .ok (.ifCond .ge 8, 3) := by decide +kernel
theorem dX10_fades_34 : decode cX10_fades 34 = .ok (.bipush (-9), 2) := by decide +kernel
theorem dX10_fades_36 : decode cX10_fades 36 = .ok (.goto 7, 3) := by decide +kernel
theorem dX10_fades_39 : decode cX10_fades 39 = .ok (.iload_n 2, 1) := by decide +kernel
theorem dX10_fades_40 : decode cX10_fades 40 = .ok (.invokestatic 233, 3) := by decide +kernel
theorem dX10_fades_43 : decode cX10_fades 43 = .ok (.putfield 95, 3) := by decide +kernel
theorem dX10_fades_46 : decode cX10_fades 46 = .ok (.aload_n 0, 1) := by decide +kernel
theorem dX10_fades_47 : decode cX10_fades 47 = .ok (.getfield 39, 3) := by decide +kernel
theorem dX10_fades_50 : decode cX10_fades 50 = .ok (.aload_n 0, 1) := by decide +kernel
theorem dX10_fades_51 : decode cX10_fades 51 = .ok (.getfield 39, 3) := by decide +kernel
theorem dX10_fades_54 : decode cX10_fades 54 = .ok (.getfield 200, 3) := by decide +kernel
theorem dX10_fades_57 : decode cX10_fades 57 = .ok (.iload_n 1, 1) := by decide +kernel
theorem dX10_fades_58 : decode cX10_fades 58 = .ok (.iadd, 1) := by decide +kernel
theorem dX10_fades_59 : decode cX10_fades 59 = .ok (.invokestatic 240, 3) := by decide +kernel
theorem dX10_fades_62 : decode cX10_fades 62 = .ok (.ireturn, 1) := by decide +kernel
def fX10_fades (σ : St) (p1 : Int32) : Option (St × Int32) := (if p1 < 0 then some (σ, (-1)) else (if p1 ≤ 60 then cl (fX5_lastBy σ ((σ.1 25 3) + p1)) (fun σ1 r2 => jn (fun (σ4 : St) (y5 : Int32) => pt (su σ4 0 11 y5) (fun σ6 => cl (fX5_manyBy σ6 ((σ6.1 25 3) + p1)) (fun σ7 r8 => some (σ7, r8)))) (fun k3 => (if 0 ≤ r2 then cl (fX5_named σ1 r2) (fun σ9 r10 => k3 σ9 r10) else k3 σ1 (-9)))) else some (σ, (-1))))
set_option maxHeartbeats 4000000 in
set_option maxRecDepth 100000 in
theorem ctX10_fades (l : Launch) (g : GG) (σ : St) (p1 : Int32) (σ' : St) (r : Int32) (hE : fX10_fades σ p1 = some (σ', r)) : MI 52 entC l g yX10_fades (Cond.code yX10_fades cX10_fades 3 (some .int) :: gtbl) (rmD 2) [.ref (g.2.1 0), .int p1] σ σ' r := by
  refine mi_i (own := RX10) (lv := [(0, .ref (g.2.1 0)), (1, .int p1)]) (by decide) rfl (Nat.le_of_ble_eq_true rfl) rfl (fun p e s m below meth c ls args Q A H0 H locs C hK hA hQ hs hl => ?_)
  have hx := C.1
  have hb := C.2.1
  unfold fX10_fades at hE
  refine lv_iload_n hx hb dX10_fades_0 rfl (lv_at hl 1 rfl) ?_
  refine lv_if_lt (tgt := 10) hx hb dX10_fades_1 (by decide) (fun hc => ?_) (fun hc => ?_)
  · have hE := if_t hc hE
    refine lv_iconst (v := (-1)) hx hb dX10_fades_10 (by decide) ?_
    exact hQ hs hE dX10_fades_11
  · have hE := if_f hc hE
    refine lv_iload_n hx hb dX10_fades_4 rfl (lv_at hl 1 rfl) ?_
    refine lv_bipush (v := 60) hx hb dX10_fades_5 (by decide) ?_
    refine lv_icmp_le (tgt := 12) hx hb dX10_fades_7 (by decide) (fun hc => ?_) (fun hc => ?_)
    · have hE := if_t hc hE
      refine lv_aload_n hx hb dX10_fades_12 rfl (lv_at hl 0 rfl) ?_
      refine gf_X10_39_0 C hK hs dX10_fades_13 ?_
      refine lv_aload_n hx hb dX10_fades_16 rfl (lv_at hl 0 rfl) ?_
      refine gf_X10_39_0 C hK hs dX10_fades_17 ?_
      refine gf_X10_200_25 C hK hs dX10_fades_20 ?_
      refine lv_iload_n hx hb dX10_fades_23 rfl (lv_at hl 1 rfl) ?_
      refine lv_iadd hx hb dX10_fades_24 ?_
      obtain ⟨σ1, r2, hE1, hE⟩ := cl_e hE
      refine x_cis (As := [.ref (g.2.1 25), .int ((σ.1 25 3) + p1)]) (rest := []) C hl.1 hK hs hA ⟨Nat.le_refl 0, Nat.le_refl 0⟩ (ctX5_lastBy l g _ _ _ _ hE1) (cw_X10_236 C ⟨Nat.le_of_ble_eq_true rfl, Nat.le_of_ble_eq_true rfl⟩) rfl rfl (Nat.le_of_ble_eq_true rfl) dX10_fades_25 (fun H locs hs => ?_)
      refine lv_istore_n (lv' := [(2, .int r2), (0, .ref (g.2.1 0)), (1, .int p1)]) hx hb dX10_fades_28 rfl hl (by decide) rfl (fun ls hl => ?_)
      refine lv_aload_n hx hb dX10_fades_29 rfl (lv_at hl 1 rfl) ?_
      refine lv_iload_n hx hb dX10_fades_30 rfl (lv_at hl 0 rfl) ?_
      refine jn2 hE (fun k3 hE hk3 => ?_)
      have hJk3 : ∀ (σ4 : St) (y5 : Int32) (H : Heap) (locs : List Loc) (ls : Array Slot), HW 52 entC g A H0 H locs σ4 → lv_has ls 3 [(0, .ref (g.2.1 0)), (1, .int p1)] → k3 σ4 y5 = some (σ', r) → W p l e (rmD 2) s m args below meth c H locs 0 0 Q (F0 m 43 ls [.int y5, .ref (g.2.1 0)]) := by
        intro σ4 y5 H locs ls hs hl hE
        have hE := hk3 _ _ hE
        obtain ⟨σ6, eσ6, hE⟩ := pt_w hE
        refine pf_X10_95_0 C hK hs eσ6 dX10_fades_43 (fun H locs hs => ?_)
        refine lv_aload_n hx hb dX10_fades_46 rfl (lv_at hl 0 rfl) ?_
        refine gf_X10_39_0 C hK hs dX10_fades_47 ?_
        refine lv_aload_n hx hb dX10_fades_50 rfl (lv_at hl 0 rfl) ?_
        refine gf_X10_39_0 C hK hs dX10_fades_51 ?_
        refine gf_X10_200_25 C hK hs dX10_fades_54 ?_
        refine lv_iload_n hx hb dX10_fades_57 rfl (lv_at hl 1 rfl) ?_
        refine lv_iadd hx hb dX10_fades_58 ?_
        obtain ⟨σ7, r8, hE1, hE⟩ := cl_e hE
        refine x_cis (As := [.ref (g.2.1 25), .int ((σ6.1 25 3) + p1)]) (rest := []) C hl.1 hK hs hA ⟨Nat.le_refl 0, Nat.le_refl 0⟩ (ctX5_manyBy l g _ _ _ _ hE1) (cw_X10_240 C ⟨Nat.le_of_ble_eq_true rfl, Nat.le_of_ble_eq_true rfl⟩) rfl rfl (Nat.le_of_ble_eq_true rfl) dX10_fades_59 (fun H locs hs => ?_)
        exact hQ hs hE dX10_fades_62
      refine lv_if_ge (tgt := 39) hx hb dX10_fades_31 (by decide) (fun hc => ?_) (fun hc => ?_)
      · have hE := if_t hc hE
        refine lv_iload_n hx hb dX10_fades_39 rfl (lv_at hl 0 rfl) ?_
        obtain ⟨σ9, r10, hE1, hE⟩ := cl_e hE
        refine x_cis (As := [.int r2]) (rest := [.ref (g.2.1 0)]) C hl.1 hK hs hA ⟨Nat.le_refl 0, Nat.le_refl 0⟩ (ctX5_named l g _ _ _ _ hE1) (cw_X10_233 C ⟨Nat.le_of_ble_eq_true rfl, Nat.le_of_ble_eq_true rfl⟩) rfl rfl (Nat.le_of_ble_eq_true rfl) dX10_fades_40 (fun H locs hs => ?_)
        exact hJk3 σ9 r10 _ _ _ hs (lv_sub hl [1, 2] rfl) hE
      · have hE := if_f hc hE
        refine lv_bipush (v := (-9)) hx hb dX10_fades_34 (by decide) ?_
        refine lv_goto (tgt := 43) hx hb dX10_fades_36 (by decide) ?_
        exact hJk3 σ1 (-9) _ _ _ hs (lv_sub hl [1, 2] rfl) hE
    · have hE := if_f hc hE
      refine lv_iconst (v := (-1)) hx hb dX10_fades_10 (by decide) ?_
      exact hQ hs hE dX10_fades_11
theorem dX10_later_0 : decode cX10_later 0 = .ok (.aload_n 0, 1) := by decide +kernel
theorem dX10_later_1 : decode cX10_later 1 = .ok (.getfield 46, 3) := by decide +kernel
theorem dX10_later_4 : decode cX10_later 4 = .ok (.iload_n 1, 1) := by decide +kernel
theorem dX10_later_5 : decode cX10_later 5 = .ok (.invokevirtual 153, 3) := by decide +kernel
theorem dX10_later_8 : decode cX10_later 8 = .ok (.ifCond .eq 13, 3) := by decide +kernel
theorem dX10_later_11 : decode cX10_later 11 = .ok (.iload_n 2, 1) := by decide +kernel
theorem dX10_later_12 : decode cX10_later 12 = .ok (.ifCond .lt 9, 3) := by decide +kernel
theorem dX10_later_15 : decode cX10_later 15 = .ok (.iload_n 2, 1) := by decide +kernel
theorem dX10_later_16 : decode cX10_later 16 = .ok (.bipush 60, 2) := by decide +kernel
theorem dX10_later_18 : decode cX10_later 18 = .ok (.if_icmp .le 5, 3) := by decide +kernel
theorem dX10_later_21 : decode cX10_later 21 = .ok (.iconst (-1), 1) := by decide +kernel
theorem dX10_later_22 : decode cX10_later 22 = .ok (.ireturn, 1) := by decide +kernel
theorem dX10_later_23 : decode cX10_later 23 = .ok (.aload_n 0, 1) := by decide +kernel
theorem dX10_later_24 : decode cX10_later 24 = .ok (.aload_n 0, 1) := by decide +kernel
theorem dX10_later_25 : decode cX10_later 25 = .ok (.getfield 39, 3) := by decide +kernel
theorem dX10_later_28 : decode cX10_later 28 = .ok (.iload_n 2, 1) := by decide +kernel
theorem dX10_later_29 : decode cX10_later 29 = .ok (.invokestatic 243, 3) := by decide +kernel
theorem dX10_later_32 : decode cX10_later 32 = .ok (.putfield 95, 3) := by decide +kernel
theorem dX10_later_35 : decode cX10_later 35 = .ok (.aload_n 0, 1) := by decide +kernel
theorem dX10_later_36 : decode cX10_later 36 = .ok (.getfield 39, 3) := by decide +kernel
theorem dX10_later_39 : decode cX10_later 39 = .ok (.iload_n 1, 1) := by decide +kernel
theorem dX10_later_40 : decode cX10_later 40 = .ok (.iload_n 2, 1) := by decide +kernel
theorem dX10_later_41 : decode cX10_later 41 = .ok (.invokestatic 246, 3) := by decide +kernel
theorem dX10_later_44 : decode cX10_later 44 = .ok (.ireturn, 1) := by decide +kernel
def fX10_later (σ : St) (p1 : Int32) (p2 : Int32) : Option (St × Int32) := cl (fX6_isHouse σ p1) (fun σ1 r2 => (if r2 = 0 then some (σ1, (-1)) else (if p2 < 0 then some (σ1, (-1)) else (if p2 ≤ 60 then cl (fX5_allPursesIn σ1 p2) (fun σ3 r4 => pt (su σ3 0 11 r4) (fun σ5 => cl (fX5_purseIn σ5 p1 p2) (fun σ6 r7 => some (σ6, r7)))) else some (σ1, (-1))))))
set_option maxHeartbeats 4000000 in
set_option maxRecDepth 100000 in
theorem ctX10_later (l : Launch) (g : GG) (σ : St) (p1 : Int32) (p2 : Int32) (σ' : St) (r : Int32) (hE : fX10_later σ p1 p2 = some (σ', r)) : MI 52 entC l g yX10_later (Cond.code yX10_later cX10_later 3 (some .int) :: gtbl) (rmD 5) [.ref (g.2.1 0), .int p1, .int p2] σ σ' r := by
  refine mi_i (own := RX10) (lv := [(0, .ref (g.2.1 0)), (1, .int p1), (2, .int p2)]) (by decide) rfl (Nat.le_of_ble_eq_true rfl) rfl (fun p e s m below meth c ls args Q A H0 H locs C hK hA hQ hs hl => ?_)
  have hx := C.1
  have hb := C.2.1
  unfold fX10_later at hE
  refine lv_aload_n hx hb dX10_later_0 rfl (lv_at hl 0 rfl) ?_
  refine gf_X10_46_0 C hK hs dX10_later_1 ?_
  refine lv_iload_n hx hb dX10_later_4 rfl (lv_at hl 1 rfl) ?_
  obtain ⟨σ1, r2, hE1, hE⟩ := cl_e hE
  refine x_civ (As := [.int p1]) (rest := []) C hl.1 hK hs hA ⟨Nat.le_refl 0, Nat.le_refl 0⟩ (ctX6_isHouse l g _ _ _ _ hE1) (cw_X10_153 C ⟨Nat.le_of_ble_eq_true rfl, Nat.le_of_ble_eq_true rfl⟩) (hs.recv hK 26 (by decide) rfl rfl) rfl rfl (Nat.le_of_ble_eq_true rfl) dX10_later_5 (fun H locs hs => ?_)
  refine lv_if_eq (tgt := 21) hx hb dX10_later_8 (by decide) (fun hc => ?_) (fun hc => ?_)
  · have hE := if_t hc hE
    refine lv_iconst (v := (-1)) hx hb dX10_later_21 (by decide) ?_
    exact hQ hs hE dX10_later_22
  · have hE := if_f hc hE
    refine lv_iload_n hx hb dX10_later_11 rfl (lv_at hl 2 rfl) ?_
    refine lv_if_lt (tgt := 21) hx hb dX10_later_12 (by decide) (fun hc => ?_) (fun hc => ?_)
    · have hE := if_t hc hE
      refine lv_iconst (v := (-1)) hx hb dX10_later_21 (by decide) ?_
      exact hQ hs hE dX10_later_22
    · have hE := if_f hc hE
      refine lv_iload_n hx hb dX10_later_15 rfl (lv_at hl 2 rfl) ?_
      refine lv_bipush (v := 60) hx hb dX10_later_16 (by decide) ?_
      refine lv_icmp_le (tgt := 23) hx hb dX10_later_18 (by decide) (fun hc => ?_) (fun hc => ?_)
      · have hE := if_t hc hE
        refine lv_aload_n hx hb dX10_later_23 rfl (lv_at hl 0 rfl) ?_
        refine lv_aload_n hx hb dX10_later_24 rfl (lv_at hl 0 rfl) ?_
        refine gf_X10_39_0 C hK hs dX10_later_25 ?_
        refine lv_iload_n hx hb dX10_later_28 rfl (lv_at hl 2 rfl) ?_
        obtain ⟨σ3, r4, hE1, hE⟩ := cl_e hE
        refine x_cis (As := [.ref (g.2.1 25), .int p2]) (rest := [.ref (g.2.1 0)]) C hl.1 hK hs hA ⟨Nat.le_refl 0, Nat.le_refl 0⟩ (ctX5_allPursesIn l g _ _ _ _ hE1) (cw_X10_243 C ⟨Nat.le_of_ble_eq_true rfl, Nat.le_of_ble_eq_true rfl⟩) rfl rfl (Nat.le_of_ble_eq_true rfl) dX10_later_29 (fun H locs hs => ?_)
        obtain ⟨σ5, eσ5, hE⟩ := pt_w hE
        refine pf_X10_95_0 C hK hs eσ5 dX10_later_32 (fun H locs hs => ?_)
        refine lv_aload_n hx hb dX10_later_35 rfl (lv_at hl 0 rfl) ?_
        refine gf_X10_39_0 C hK hs dX10_later_36 ?_
        refine lv_iload_n hx hb dX10_later_39 rfl (lv_at hl 1 rfl) ?_
        refine lv_iload_n hx hb dX10_later_40 rfl (lv_at hl 2 rfl) ?_
        obtain ⟨σ6, r7, hE1, hE⟩ := cl_e hE
        refine x_cis (As := [.ref (g.2.1 25), .int p1, .int p2]) (rest := []) C hl.1 hK hs hA ⟨Nat.le_refl 0, Nat.le_refl 0⟩ (ctX5_purseIn l g _ _ _ _ _ hE1) (cw_X10_246 C ⟨Nat.le_of_ble_eq_true rfl, Nat.le_of_ble_eq_true rfl⟩) rfl rfl (Nat.le_of_ble_eq_true rfl) dX10_later_41 (fun H locs hs => ?_)
        exact hQ hs hE dX10_later_44
      · have hE := if_f hc hE
        refine lv_iconst (v := (-1)) hx hb dX10_later_21 (by decide) ?_
        exact hQ hs hE dX10_later_22
theorem dX10_soon_0 : decode cX10_soon 0 = .ok (.aload_n 0, 1) := by decide +kernel
theorem dX10_soon_1 : decode cX10_soon 1 = .ok (.getfield 46, 3) := by decide +kernel
theorem dX10_soon_4 : decode cX10_soon 4 = .ok (.iload_n 1, 1) := by decide +kernel
theorem dX10_soon_5 : decode cX10_soon 5 = .ok (.invokevirtual 153, 3) := by decide +kernel
theorem dX10_soon_8 : decode cX10_soon 8 = .ok (.ifCond .eq 14, 3) := by decide +kernel
theorem dX10_soon_11 : decode cX10_soon 11 = .ok (.aload_n 0, 1) := by decide +kernel
theorem dX10_soon_12 : decode cX10_soon 12 = .ok (.getfield 46, 3) := by decide +kernel
theorem dX10_soon_15 : decode cX10_soon 15 = .ok (.iload_n 2, 1) := by decide +kernel
theorem dX10_soon_16 : decode cX10_soon 16 = .ok (.invokevirtual 141, 3) := by decide +kernel
theorem dX10_soon_19 : decode cX10_soon 19 = .ok (.ifCond .ne 5, 3) := by decide +kernel
theorem dX10_soon_22 : decode cX10_soon 22 = .ok (.iconst (-1), 1) := by decide +kernel
theorem dX10_soon_23 : decode cX10_soon 23 = .ok (.ireturn, 1) := by decide +kernel
theorem dX10_soon_24 : decode cX10_soon 24 = .ok (.aload_n 0, 1) := by decide +kernel
theorem dX10_soon_25 : decode cX10_soon 25 = .ok (.getfield 46, 3) := by decide +kernel
theorem dX10_soon_28 : decode cX10_soon 28 = .ok (.iload_n 1, 1) := by decide +kernel
theorem dX10_soon_29 : decode cX10_soon 29 = .ok (.iload_n 2, 1) := by decide +kernel
theorem dX10_soon_30 : decode cX10_soon 30 = .ok (.invokevirtual 162, 3) := by decide +kernel
theorem dX10_soon_33 : decode cX10_soon 33 = .ok (.istore_n 3, 1) := by decide +kernel
theorem dX10_soon_34 : decode cX10_soon 34 = .ok (.aload_n 0, 1) := by decide +kernel
theorem dX10_soon_35 : decode cX10_soon 35 = .ok (.getfield 39, 3) := by decide +kernel
theorem dX10_soon_38 : decode cX10_soon 38 = .ok (.getfield 187, 3) := by decide +kernel
theorem dX10_soon_41 : decode cX10_soon 41 = .ok (.iload_n 1, 1) := by decide +kernel
theorem dX10_soon_42 : decode cX10_soon 42 = .ok (.iaload, 1) := by decide +kernel
theorem dX10_soon_43 : decode cX10_soon 43 = .ok (.istore 4, 2) := by decide +kernel
theorem dX10_soon_45 : decode cX10_soon 45 = .ok (.iconst 0, 1) := by decide +kernel
theorem dX10_soon_46 : decode cX10_soon 46 = .ok (.istore 5, 2) := by decide +kernel
theorem dX10_soon_48 : decode cX10_soon 48 = .ok (.iload 5, 2) := by decide +kernel
theorem dX10_soon_50 : decode cX10_soon 50 = .ok (.bipush 60, 2) := by decide +kernel
theorem dX10_soon_52 : decode cX10_soon 52 = .ok (.if_icmp .gt 36, 3) := by decide +kernel
theorem dX10_soon_55 : decode cX10_soon 55 = .ok (.iload 4, 2) := by decide +kernel
theorem dX10_soon_57 : decode cX10_soon 57 = .ok (.iload_n 3, 1) := by decide +kernel
theorem dX10_soon_58 : decode cX10_soon 58 = .ok (.if_icmp .lt 12, 3) := by decide +kernel
theorem dX10_soon_61 : decode cX10_soon 61 = .ok (.aload_n 0, 1) := by decide +kernel
theorem dX10_soon_62 : decode cX10_soon 62 = .ok (.iload 4, 2) := by decide +kernel
theorem dX10_soon_64 : decode cX10_soon 64 = .ok (.putfield 95, 3) := by decide +kernel
theorem dX10_soon_67 : decode cX10_soon 67 = .ok (.iload 5, 2) := by decide +kernel
theorem dX10_soon_69 : decode cX10_soon 69 = .ok (.ireturn, 1) := by decide +kernel
theorem dX10_soon_70 : decode cX10_soon 70 = .ok (.aload_n 0, 1) := by decide +kernel
theorem dX10_soon_71 : decode cX10_soon 71 = .ok (.getfield 46, 3) := by decide +kernel
theorem dX10_soon_74 : decode cX10_soon 74 = .ok (.iload_n 1, 1) := by decide +kernel
theorem dX10_soon_75 : decode cX10_soon 75 = .ok (.iload 4, 2) := by decide +kernel
theorem dX10_soon_77 : decode cX10_soon 77 = .ok (.invokevirtual 250, 3) := by decide +kernel
theorem dX10_soon_80 : decode cX10_soon 80 = .ok (.istore 4, 2) := by decide +kernel
theorem dX10_soon_82 : decode cX10_soon 82 = .ok (.iinc 5 1, 3) := by decide +kernel
theorem dX10_soon_85 : decode cX10_soon 85 = .ok (.goto (-37), 3) := by decide +kernel
theorem dX10_soon_88 : decode cX10_soon 88 = .ok (.bipush (-9), 2) := by decide +kernel
theorem dX10_soon_90 : decode cX10_soon 90 = .ok (.ireturn, 1) := by decide +kernel
def fX10_soon_L48 (p1 : Int32) (r6 : Int32) : Nat → St → Int32 → Int32 → (St → Int32 → Int32 → Option (St × Int32)) → Option (St × Int32)
  | 0, _, _, _, _ => none
  | n + 1, σ8, v9, v10, k => (if 60 < v10 then k σ8 v9 v10 else (if v9 < r6 then cl (fX6_purseBehind σ8 p1 v9) (fun σ11 r12 => fX10_soon_L48 p1 r6 n σ11 r12 (v10 + 1) k) else pt (su σ8 0 11 v9) (fun σ13 => some (σ13, v10))))
def fX10_soon (σ : St) (p1 : Int32) (p2 : Int32) : Option (St × Int32) := cl (fX6_isHouse σ p1) (fun σ1 r2 => (if r2 = 0 then some (σ1, (-1)) else cl (fX6_isColour σ1 p2) (fun σ3 r4 => (if r4 = 0 then some (σ3, (-1)) else cl (fX6_pays σ3 p1 p2) (fun σ5 r6 => rd LC σ5 33 p1 (fun x7 => fX10_soon_L48 p1 r6 10000 σ5 x7 0 (fun σ14 v15 v16 => some (σ14, (-9)))))))))
set_option maxHeartbeats 4000000 in
set_option maxRecDepth 100000 in
theorem ctX10_soon (l : Launch) (g : GG) (σ : St) (p1 : Int32) (p2 : Int32) (σ' : St) (r : Int32) (hE : fX10_soon σ p1 p2 = some (σ', r)) : MI 52 entC l g yX10_soon (Cond.code yX10_soon cX10_soon 6 (some .int) :: gtbl) (rmD 3) [.ref (g.2.1 0), .int p1, .int p2] σ σ' r := by
  refine mi_i (own := RX10) (lv := [(0, .ref (g.2.1 0)), (1, .int p1), (2, .int p2)]) (by decide) rfl (Nat.le_of_ble_eq_true rfl) rfl (fun p e s m below meth c ls args Q A H0 H locs C hK hA hQ hs hl => ?_)
  have hx := C.1
  have hb := C.2.1
  unfold fX10_soon at hE
  refine lv_aload_n hx hb dX10_soon_0 rfl (lv_at hl 0 rfl) ?_
  refine gf_X10_46_0 C hK hs dX10_soon_1 ?_
  refine lv_iload_n hx hb dX10_soon_4 rfl (lv_at hl 1 rfl) ?_
  obtain ⟨σ1, r2, hE1, hE⟩ := cl_e hE
  refine x_civ (As := [.int p1]) (rest := []) C hl.1 hK hs hA ⟨Nat.le_refl 0, Nat.le_refl 0⟩ (ctX6_isHouse l g _ _ _ _ hE1) (cw_X10_153 C ⟨Nat.le_of_ble_eq_true rfl, Nat.le_of_ble_eq_true rfl⟩) (hs.recv hK 26 (by decide) rfl rfl) rfl rfl (Nat.le_of_ble_eq_true rfl) dX10_soon_5 (fun H locs hs => ?_)
  refine lv_if_eq (tgt := 22) hx hb dX10_soon_8 (by decide) (fun hc => ?_) (fun hc => ?_)
  · have hE := if_t hc hE
    refine lv_iconst (v := (-1)) hx hb dX10_soon_22 (by decide) ?_
    exact hQ hs hE dX10_soon_23
  · have hE := if_f hc hE
    refine lv_aload_n hx hb dX10_soon_11 rfl (lv_at hl 0 rfl) ?_
    refine gf_X10_46_0 C hK hs dX10_soon_12 ?_
    refine lv_iload_n hx hb dX10_soon_15 rfl (lv_at hl 2 rfl) ?_
    obtain ⟨σ3, r4, hE1, hE⟩ := cl_e hE
    refine x_civ (As := [.int p2]) (rest := []) C hl.1 hK hs hA ⟨Nat.le_refl 0, Nat.le_refl 0⟩ (ctX6_isColour l g _ _ _ _ hE1) (cw_X10_141 C ⟨Nat.le_of_ble_eq_true rfl, Nat.le_of_ble_eq_true rfl⟩) (hs.recv hK 26 (by decide) rfl rfl) rfl rfl (Nat.le_of_ble_eq_true rfl) dX10_soon_16 (fun H locs hs => ?_)
    refine lv_if_ne (tgt := 24) hx hb dX10_soon_19 (by decide) (fun hc => ?_) (fun hc => ?_)
    · have hE := if_f hc hE
      refine lv_aload_n hx hb dX10_soon_24 rfl (lv_at hl 0 rfl) ?_
      refine gf_X10_46_0 C hK hs dX10_soon_25 ?_
      refine lv_iload_n hx hb dX10_soon_28 rfl (lv_at hl 1 rfl) ?_
      refine lv_iload_n hx hb dX10_soon_29 rfl (lv_at hl 2 rfl) ?_
      obtain ⟨σ5, r6, hE1, hE⟩ := cl_e hE
      refine x_civ (As := [.int p1, .int p2]) (rest := []) C hl.1 hK hs hA ⟨Nat.le_refl 0, Nat.le_refl 0⟩ (ctX6_pays l g _ _ _ _ _ hE1) (cw_X10_162 C ⟨Nat.le_of_ble_eq_true rfl, Nat.le_of_ble_eq_true rfl⟩) (hs.recv hK 26 (by decide) rfl rfl) rfl rfl (Nat.le_of_ble_eq_true rfl) dX10_soon_30 (fun H locs hs => ?_)
      refine lv_istore_n (lv' := [(3, .int r6), (0, .ref (g.2.1 0)), (1, .int p1), (2, .int p2)]) hx hb dX10_soon_33 rfl hl (by decide) rfl (fun ls hl => ?_)
      refine lv_aload_n hx hb dX10_soon_34 rfl (lv_at hl 1 rfl) ?_
      refine gf_X10_39_0 C hK hs dX10_soon_35 ?_
      refine gf_X10_187_25 C hK hs dX10_soon_38 ?_
      refine lv_iload_n hx hb dX10_soon_41 rfl (lv_at hl 2 rfl) ?_
      obtain ⟨hi, x7, ex7, hE⟩ := rd_w hE
      refine y_ald layC C hK hs hi ex7 dX10_soon_42 ?_
      refine lv_istore (lv' := [(4, .int x7), (3, .int r6), (0, .ref (g.2.1 0)), (1, .int p1), (2, .int p2)]) hx hb dX10_soon_43 hl (by decide) rfl (fun ls hl => ?_)
      refine lv_iconst (v := 0) hx hb dX10_soon_45 (by decide) ?_
      refine lv_istore (lv' := [(5, .int 0), (4, .int x7), (3, .int r6), (0, .ref (g.2.1 0)), (1, .int p1), (2, .int p2)]) hx hb dX10_soon_46 hl (by decide) rfl (fun ls hl => ?_)
      have hL48 : ∀ (n : Nat) (σ8 : St) (v9 : Int32) (v10 : Int32) (k : St → Int32 → Int32 → Option (St × Int32)), fX10_soon_L48 p1 r6 n σ8 v9 v10 k = some (σ', r) → (∀ (σ8 : St) (v9 : Int32) (v10 : Int32) (H : Heap) (locs : List Loc) (ls : Array Slot), HW 52 entC g A H0 H locs σ8 → lv_has ls 6 [(0, .ref (g.2.1 0)), (1, .int p1), (3, .int r6), (4, .int v9), (5, .int v10)] → k σ8 v9 v10 = some (σ', r) → W p l e (rmD 3) s m args below meth c H locs 0 0 Q (F0 m 88 ls [])) → ∀ (H : Heap) (locs : List Loc) (ls : Array Slot), HW 52 entC g A H0 H locs σ8 → lv_has ls 6 [(0, .ref (g.2.1 0)), (1, .int p1), (3, .int r6), (4, .int v9), (5, .int v10)] → W p l e (rmD 3) s m args below meth c H locs 0 0 Q (F0 m 48 ls []) := by
        intro n
        induction n with
        | zero =>
          intro σ8 v9 v10 k hE
          rw [fX10_soon_L48] at hE
          exact no_e hE
        | succ n ih =>
          intro σ8 v9 v10 k hE hk H locs ls hs hl
          rw [fX10_soon_L48] at hE
          refine lv_iload hx hb dX10_soon_48 (lv_at hl 4 rfl) ?_
          refine lv_bipush (v := 60) hx hb dX10_soon_50 (by decide) ?_
          refine lv_icmp_gt (tgt := 88) hx hb dX10_soon_52 (by decide) (fun hc => ?_) (fun hc => ?_)
          · have hE := if_t hc hE
            exact hk σ8 v9 v10 _ _ _ hs (lv_sub hl [0, 1, 2, 3, 4] rfl) hE
          · have hE := if_f hc hE
            refine lv_iload hx hb dX10_soon_55 (lv_at hl 3 rfl) ?_
            refine lv_iload_n hx hb dX10_soon_57 rfl (lv_at hl 2 rfl) ?_
            refine lv_icmp_lt (tgt := 70) hx hb dX10_soon_58 (by decide) (fun hc => ?_) (fun hc => ?_)
            · have hE := if_t hc hE
              refine lv_aload_n hx hb dX10_soon_70 rfl (lv_at hl 0 rfl) ?_
              refine gf_X10_46_0 C hK hs dX10_soon_71 ?_
              refine lv_iload_n hx hb dX10_soon_74 rfl (lv_at hl 1 rfl) ?_
              refine lv_iload hx hb dX10_soon_75 (lv_at hl 3 rfl) ?_
              obtain ⟨σ11, r12, hE1, hE⟩ := cl_e hE
              refine x_civ (As := [.int p1, .int v9]) (rest := []) C hl.1 hK hs hA ⟨Nat.le_refl 0, Nat.le_refl 0⟩ (ctX6_purseBehind l g _ _ _ _ _ hE1) (cw_X10_250 C ⟨Nat.le_of_ble_eq_true rfl, Nat.le_of_ble_eq_true rfl⟩) (hs.recv hK 26 (by decide) rfl rfl) rfl rfl (Nat.le_of_ble_eq_true rfl) dX10_soon_77 (fun H locs hs => ?_)
              refine lv_istore (lv' := [(4, .int r12), (0, .ref (g.2.1 0)), (1, .int p1), (3, .int r6), (5, .int v10)]) hx hb dX10_soon_80 hl (by decide) rfl (fun ls hl => ?_)
              refine lv_iinc (v := v10 + 1) (lv' := [(5, .int (v10 + 1)), (4, .int r12), (0, .ref (g.2.1 0)), (1, .int p1), (3, .int r6)]) hx hb dX10_soon_82 hl (k := 4) rfl rfl (by decide) rfl (fun ls hl => ?_)
              refine lv_goto (tgt := 48) hx hb dX10_soon_85 (by decide) ?_
              exact ih _ _ _ _ hE hk _ _ _ hs (lv_sub hl [2, 3, 4, 1, 0] rfl)
            · have hE := if_f hc hE
              refine lv_aload_n hx hb dX10_soon_61 rfl (lv_at hl 0 rfl) ?_
              refine lv_iload hx hb dX10_soon_62 (lv_at hl 3 rfl) ?_
              obtain ⟨σ13, eσ13, hE⟩ := pt_w hE
              refine pf_X10_95_0 C hK hs eσ13 dX10_soon_64 (fun H locs hs => ?_)
              refine lv_iload hx hb dX10_soon_67 (lv_at hl 4 rfl) ?_
              exact hQ hs hE dX10_soon_69
      refine hL48 _ _ _ _ _ hE (fun σ14 v15 v16 H locs ls hs hl hE => ?_) H locs ls hs (lv_sub hl [3, 4, 2, 1, 0] rfl)
      refine lv_bipush (v := (-9)) hx hb dX10_soon_88 (by decide) ?_
      exact hQ hs hE dX10_soon_90
    · have hE := if_t hc hE
      refine lv_iconst (v := (-1)) hx hb dX10_soon_22 (by decide) ?_
      exact hQ hs hE dX10_soon_23
theorem dX10_feast_0 : decode cX10_feast 0 = .ok (.aload_n 0, 1) := by decide +kernel
theorem dX10_feast_1 : decode cX10_feast 1 = .ok (.getfield 46, 3) := by decide +kernel
theorem dX10_feast_4 : decode cX10_feast 4 = .ok (.iload_n 1, 1) := by decide +kernel
theorem dX10_feast_5 : decode cX10_feast 5 = .ok (.invokevirtual 153, 3) := by decide +kernel
theorem dX10_feast_8 : decode cX10_feast 8 = .ok (.ifCond .eq 20, 3) := by decide +kernel
theorem dX10_feast_11 : decode cX10_feast 11 = .ok (.iload_n 2, 1) := by decide +kernel
theorem dX10_feast_12 : decode cX10_feast 12 = .ok (.ifCond .lt 16, 3) := by decide +kernel
theorem dX10_feast_15 : decode cX10_feast 15 = .ok (.iload_n 2, 1) := by decide +kernel
theorem dX10_feast_16 : decode cX10_feast 16 = .ok (.iconst 1, 1) := by decide +kernel
theorem dX10_feast_17 : decode cX10_feast 17 = .ok (.aload_n 0, 1) := by decide +kernel
theorem dX10_feast_18 : decode cX10_feast 18 = .ok (.getfield 46, 3) := by decide +kernel
theorem dX10_feast_21 : decode cX10_feast 21 = .ok (.getfield 253, 3) := by decide +kernel
theorem dX10_feast_24 : decode cX10_feast 24 = .ok (.ishl, 1) := by decide +kernel
theorem dX10_feast_25 : decode cX10_feast 25 = .ok (.if_icmp .lt 5, 3) := by decide +kernel
theorem dX10_feast_28 : decode cX10_feast 28 = .ok (.iconst (-1), 1) := by decide +kernel
theorem dX10_feast_29 : decode cX10_feast 29 = .ok (.ireturn, 1) := by decide +kernel
theorem dX10_feast_30 : decode cX10_feast 30 = .ok (.aload_n 0, 1) := by decide +kernel
theorem dX10_feast_31 : decode cX10_feast 31 = .ok (.getfield 39, 3) := by decide +kernel
theorem dX10_feast_34 : decode cX10_feast 34 = .ok (.getfield 187, 3) := by decide +kernel
theorem dX10_feast_37 : decode cX10_feast 37 = .ok (.iload_n 1, 1) := by decide +kernel
theorem dX10_feast_38 : decode cX10_feast 38 = .ok (.iaload, 1) := by decide +kernel
theorem dX10_feast_39 : decode cX10_feast 39 = .ok (.istore_n 3, 1) := by decide +kernel
theorem dX10_feast_40 : decode cX10_feast 40 = .ok (.iconst 0, 1) := by decide +kernel
theorem dX10_feast_41 : decode cX10_feast 41 = .ok (.istore 4, 2) := by decide +kernel
theorem dX10_feast_43 : decode cX10_feast 43 = .ok (.iload 4, 2) := by decide +kernel
theorem dX10_feast_45 : decode cX10_feast 45 = .ok (.bipush 60, 2) := by decide +kernel
theorem dX10_feast_47 : decode cX10_feast 47 = .ok (.if_icmp .gt 55, 3) := by decide +kernel
theorem dX10_feast_50 : decode cX10_feast 50 = .ok (.aload_n 0, 1) := by decide +kernel
theorem dX10_feast_51 : decode cX10_feast 51 = .ok (.getfield 39, 3) := by decide +kernel
theorem dX10_feast_54 : decode cX10_feast 54 = .ok (.iload_n 1, 1) := by decide +kernel
theorem dX10_feast_55 : decode cX10_feast 55 = .ok (.iload_n 2, 1) := by decide +kernel
theorem dX10_feast_56 : decode cX10_feast 56 = .ok (.aload_n 0, 1) := by decide +kernel
theorem dX10_feast_57 : decode cX10_feast 57 = .ok (.getfield 39, 3) := by decide +kernel
theorem dX10_feast_60 : decode cX10_feast 60 = .ok (.getfield 200, 3) := by decide +kernel
theorem dX10_feast_63 : decode cX10_feast 63 = .ok (.iload 4, 2) := by decide +kernel
theorem dX10_feast_65 : decode cX10_feast 65 = .ok (.iadd, 1) := by decide +kernel
theorem dX10_feast_66 : decode cX10_feast 66 = .ok (.invokestatic 256, 3) := by decide +kernel
theorem dX10_feast_69 : decode cX10_feast 69 = .ok (.istore 5, 2) := by decide +kernel
theorem dX10_feast_71 : decode cX10_feast 71 = .ok (.iload_n 3, 1) := by decide +kernel
theorem dX10_feast_72 : decode cX10_feast 72 = .ok (.iload 5, 2) := by decide +kernel
theorem dX10_feast_74 : decode cX10_feast 74 = .ok (.if_icmp .lt 12, 3) := by decide +kernel
theorem dX10_feast_77 : decode cX10_feast 77 = .ok (.aload_n 0, 1) := by decide +kernel
theorem dX10_feast_78 : decode cX10_feast 78 = .ok (.iload 5, 2) := by decide +kernel
theorem dX10_feast_80 : decode cX10_feast 80 = .ok (.putfield 95, 3) := by decide +kernel
theorem dX10_feast_83 : decode cX10_feast 83 = .ok (.iload 4, 2) := by decide +kernel
theorem dX10_feast_85 : decode cX10_feast 85 = .ok (.ireturn, 1) := by decide +kernel
theorem dX10_feast_86 : decode cX10_feast 86 = .ok (.aload_n 0, 1) := by decide +kernel
theorem dX10_feast_87 : decode cX10_feast 87 = .ok (.getfield 46, 3) := by decide +kernel
theorem dX10_feast_90 : decode cX10_feast 90 = .ok (.iload_n 1, 1) := by decide +kernel
theorem dX10_feast_91 : decode cX10_feast 91 = .ok (.iload_n 3, 1) := by decide +kernel
theorem dX10_feast_92 : decode cX10_feast 92 = .ok (.invokevirtual 250, 3) := by decide +kernel
theorem dX10_feast_95 : decode cX10_feast 95 = .ok (.istore_n 3, 1) := by decide +kernel
theorem dX10_feast_96 : decode cX10_feast 96 = .ok (.iinc 4 1, 3) := by decide +kernel
theorem dX10_feast_99 : decode cX10_feast 99 = .ok (.goto (-56), 3) := by decide +kernel
theorem dX10_feast_102 : decode cX10_feast 102 = .ok (.bipush (-9), 2) := by decide +kernel
theorem dX10_feast_104 : decode cX10_feast 104 = .ok (.ireturn, 1) := by decide +kernel
def fX10_feast_L43 (p1 : Int32) (p2 : Int32) : Nat → St → Int32 → Int32 → (St → Int32 → Int32 → Option (St × Int32)) → Option (St × Int32)
  | 0, _, _, _, _ => none
  | n + 1, σ4, v5, v6, k => (if 60 < v6 then k σ4 v5 v6 else cl (fX5_costOf σ4 p1 p2 ((σ4.1 25 3) + v6)) (fun σ7 r8 => (if v5 < r8 then cl (fX6_purseBehind σ7 p1 v5) (fun σ9 r10 => fX10_feast_L43 p1 p2 n σ9 r10 (v6 + 1) k) else pt (su σ7 0 11 r8) (fun σ11 => some (σ11, v6)))))
def fX10_feast (σ : St) (p1 : Int32) (p2 : Int32) : Option (St × Int32) := cl (fX6_isHouse σ p1) (fun σ1 r2 => (if r2 = 0 then some (σ1, (-1)) else (if p2 < 0 then some (σ1, (-1)) else (if p2 < (1 <<< ((σ1.1 26 6) &&& 31)) then rd LC σ1 33 p1 (fun x3 => fX10_feast_L43 p1 p2 10000 σ1 x3 0 (fun σ12 v13 v14 => some (σ12, (-9)))) else some (σ1, (-1))))))
set_option maxHeartbeats 4000000 in
set_option maxRecDepth 100000 in
theorem ctX10_feast (l : Launch) (g : GG) (σ : St) (p1 : Int32) (p2 : Int32) (σ' : St) (r : Int32) (hE : fX10_feast σ p1 p2 = some (σ', r)) : MI 52 entC l g yX10_feast (Cond.code yX10_feast cX10_feast 6 (some .int) :: gtbl) (rmD 4) [.ref (g.2.1 0), .int p1, .int p2] σ σ' r := by
  refine mi_i (own := RX10) (lv := [(0, .ref (g.2.1 0)), (1, .int p1), (2, .int p2)]) (by decide) rfl (Nat.le_of_ble_eq_true rfl) rfl (fun p e s m below meth c ls args Q A H0 H locs C hK hA hQ hs hl => ?_)
  have hx := C.1
  have hb := C.2.1
  unfold fX10_feast at hE
  refine lv_aload_n hx hb dX10_feast_0 rfl (lv_at hl 0 rfl) ?_
  refine gf_X10_46_0 C hK hs dX10_feast_1 ?_
  refine lv_iload_n hx hb dX10_feast_4 rfl (lv_at hl 1 rfl) ?_
  obtain ⟨σ1, r2, hE1, hE⟩ := cl_e hE
  refine x_civ (As := [.int p1]) (rest := []) C hl.1 hK hs hA ⟨Nat.le_refl 0, Nat.le_refl 0⟩ (ctX6_isHouse l g _ _ _ _ hE1) (cw_X10_153 C ⟨Nat.le_of_ble_eq_true rfl, Nat.le_of_ble_eq_true rfl⟩) (hs.recv hK 26 (by decide) rfl rfl) rfl rfl (Nat.le_of_ble_eq_true rfl) dX10_feast_5 (fun H locs hs => ?_)
  refine lv_if_eq (tgt := 28) hx hb dX10_feast_8 (by decide) (fun hc => ?_) (fun hc => ?_)
  · have hE := if_t hc hE
    refine lv_iconst (v := (-1)) hx hb dX10_feast_28 (by decide) ?_
    exact hQ hs hE dX10_feast_29
  · have hE := if_f hc hE
    refine lv_iload_n hx hb dX10_feast_11 rfl (lv_at hl 2 rfl) ?_
    refine lv_if_lt (tgt := 28) hx hb dX10_feast_12 (by decide) (fun hc => ?_) (fun hc => ?_)
    · have hE := if_t hc hE
      refine lv_iconst (v := (-1)) hx hb dX10_feast_28 (by decide) ?_
      exact hQ hs hE dX10_feast_29
    · have hE := if_f hc hE
      refine lv_iload_n hx hb dX10_feast_15 rfl (lv_at hl 2 rfl) ?_
      refine lv_iconst (v := 1) hx hb dX10_feast_16 (by decide) ?_
      refine lv_aload_n hx hb dX10_feast_17 rfl (lv_at hl 0 rfl) ?_
      refine gf_X10_46_0 C hK hs dX10_feast_18 ?_
      refine gf_X10_253_26 C hK hs dX10_feast_21 ?_
      refine lv_ishl hx hb dX10_feast_24 ?_
      refine lv_icmp_lt (tgt := 30) hx hb dX10_feast_25 (by decide) (fun hc => ?_) (fun hc => ?_)
      · have hE := if_t hc hE
        refine lv_aload_n hx hb dX10_feast_30 rfl (lv_at hl 0 rfl) ?_
        refine gf_X10_39_0 C hK hs dX10_feast_31 ?_
        refine gf_X10_187_25 C hK hs dX10_feast_34 ?_
        refine lv_iload_n hx hb dX10_feast_37 rfl (lv_at hl 1 rfl) ?_
        obtain ⟨hi, x3, ex3, hE⟩ := rd_w hE
        refine y_ald layC C hK hs hi ex3 dX10_feast_38 ?_
        refine lv_istore_n (lv' := [(3, .int x3), (0, .ref (g.2.1 0)), (1, .int p1), (2, .int p2)]) hx hb dX10_feast_39 rfl hl (by decide) rfl (fun ls hl => ?_)
        refine lv_iconst (v := 0) hx hb dX10_feast_40 (by decide) ?_
        refine lv_istore (lv' := [(4, .int 0), (3, .int x3), (0, .ref (g.2.1 0)), (1, .int p1), (2, .int p2)]) hx hb dX10_feast_41 hl (by decide) rfl (fun ls hl => ?_)
        have hL43 : ∀ (n : Nat) (σ4 : St) (v5 : Int32) (v6 : Int32) (k : St → Int32 → Int32 → Option (St × Int32)), fX10_feast_L43 p1 p2 n σ4 v5 v6 k = some (σ', r) → (∀ (σ4 : St) (v5 : Int32) (v6 : Int32) (H : Heap) (locs : List Loc) (ls : Array Slot), HW 52 entC g A H0 H locs σ4 → lv_has ls 6 [(0, .ref (g.2.1 0)), (1, .int p1), (2, .int p2), (3, .int v5), (4, .int v6)] → k σ4 v5 v6 = some (σ', r) → W p l e (rmD 4) s m args below meth c H locs 0 0 Q (F0 m 102 ls [])) → ∀ (H : Heap) (locs : List Loc) (ls : Array Slot), HW 52 entC g A H0 H locs σ4 → lv_has ls 6 [(0, .ref (g.2.1 0)), (1, .int p1), (2, .int p2), (3, .int v5), (4, .int v6)] → W p l e (rmD 4) s m args below meth c H locs 0 0 Q (F0 m 43 ls []) := by
          intro n
          induction n with
          | zero =>
            intro σ4 v5 v6 k hE
            rw [fX10_feast_L43] at hE
            exact no_e hE
          | succ n ih =>
            intro σ4 v5 v6 k hE hk H locs ls hs hl
            rw [fX10_feast_L43] at hE
            refine lv_iload hx hb dX10_feast_43 (lv_at hl 4 rfl) ?_
            refine lv_bipush (v := 60) hx hb dX10_feast_45 (by decide) ?_
            refine lv_icmp_gt (tgt := 102) hx hb dX10_feast_47 (by decide) (fun hc => ?_) (fun hc => ?_)
            · have hE := if_t hc hE
              exact hk σ4 v5 v6 _ _ _ hs (lv_sub hl [0, 1, 2, 3, 4] rfl) hE
            · have hE := if_f hc hE
              refine lv_aload_n hx hb dX10_feast_50 rfl (lv_at hl 0 rfl) ?_
              refine gf_X10_39_0 C hK hs dX10_feast_51 ?_
              refine lv_iload_n hx hb dX10_feast_54 rfl (lv_at hl 1 rfl) ?_
              refine lv_iload_n hx hb dX10_feast_55 rfl (lv_at hl 2 rfl) ?_
              refine lv_aload_n hx hb dX10_feast_56 rfl (lv_at hl 0 rfl) ?_
              refine gf_X10_39_0 C hK hs dX10_feast_57 ?_
              refine gf_X10_200_25 C hK hs dX10_feast_60 ?_
              refine lv_iload hx hb dX10_feast_63 (lv_at hl 4 rfl) ?_
              refine lv_iadd hx hb dX10_feast_65 ?_
              obtain ⟨σ7, r8, hE1, hE⟩ := cl_e hE
              refine x_cis (As := [.ref (g.2.1 25), .int p1, .int p2, .int ((σ4.1 25 3) + v6)]) (rest := []) C hl.1 hK hs hA ⟨Nat.le_refl 0, Nat.le_refl 0⟩ (ctX5_costOf l g _ _ _ _ _ _ hE1) (cw_X10_256 C ⟨Nat.le_of_ble_eq_true rfl, Nat.le_of_ble_eq_true rfl⟩) rfl rfl (Nat.le_of_ble_eq_true rfl) dX10_feast_66 (fun H locs hs => ?_)
              refine lv_istore (lv' := [(5, .int r8), (0, .ref (g.2.1 0)), (1, .int p1), (2, .int p2), (3, .int v5), (4, .int v6)]) hx hb dX10_feast_69 hl (by decide) rfl (fun ls hl => ?_)
              refine lv_iload_n hx hb dX10_feast_71 rfl (lv_at hl 4 rfl) ?_
              refine lv_iload hx hb dX10_feast_72 (lv_at hl 0 rfl) ?_
              refine lv_icmp_lt (tgt := 86) hx hb dX10_feast_74 (by decide) (fun hc => ?_) (fun hc => ?_)
              · have hE := if_t hc hE
                refine lv_aload_n hx hb dX10_feast_86 rfl (lv_at hl 1 rfl) ?_
                refine gf_X10_46_0 C hK hs dX10_feast_87 ?_
                refine lv_iload_n hx hb dX10_feast_90 rfl (lv_at hl 2 rfl) ?_
                refine lv_iload_n hx hb dX10_feast_91 rfl (lv_at hl 4 rfl) ?_
                obtain ⟨σ9, r10, hE1, hE⟩ := cl_e hE
                refine x_civ (As := [.int p1, .int v5]) (rest := []) C hl.1 hK hs hA ⟨Nat.le_refl 0, Nat.le_refl 0⟩ (ctX6_purseBehind l g _ _ _ _ _ hE1) (cw_X10_250 C ⟨Nat.le_of_ble_eq_true rfl, Nat.le_of_ble_eq_true rfl⟩) (hs.recv hK 26 (by decide) rfl rfl) rfl rfl (Nat.le_of_ble_eq_true rfl) dX10_feast_92 (fun H locs hs => ?_)
                refine lv_istore_n (lv' := [(3, .int r10), (5, .int r8), (0, .ref (g.2.1 0)), (1, .int p1), (2, .int p2), (4, .int v6)]) hx hb dX10_feast_95 rfl hl (by decide) rfl (fun ls hl => ?_)
                refine lv_iinc (v := v6 + 1) (lv' := [(4, .int (v6 + 1)), (3, .int r10), (5, .int r8), (0, .ref (g.2.1 0)), (1, .int p1), (2, .int p2)]) hx hb dX10_feast_96 hl (k := 5) rfl rfl (by decide) rfl (fun ls hl => ?_)
                refine lv_goto (tgt := 43) hx hb dX10_feast_99 (by decide) ?_
                exact ih _ _ _ _ hE hk _ _ _ hs (lv_sub hl [3, 4, 5, 1, 0] rfl)
              · have hE := if_f hc hE
                refine lv_aload_n hx hb dX10_feast_77 rfl (lv_at hl 1 rfl) ?_
                refine lv_iload hx hb dX10_feast_78 (lv_at hl 0 rfl) ?_
                obtain ⟨σ11, eσ11, hE⟩ := pt_w hE
                refine pf_X10_95_0 C hK hs eσ11 dX10_feast_80 (fun H locs hs => ?_)
                refine lv_iload hx hb dX10_feast_83 (lv_at hl 5 rfl) ?_
                exact hQ hs hE dX10_feast_85
        refine hL43 _ _ _ _ _ hE (fun σ12 v13 v14 H locs ls hs hl hE => ?_) H locs ls hs (lv_sub hl [2, 3, 4, 1, 0] rfl)
        refine lv_bipush (v := (-9)) hx hb dX10_feast_102 (by decide) ?_
        exact hQ hs hE dX10_feast_104
      · have hE := if_f hc hE
        refine lv_iconst (v := (-1)) hx hb dX10_feast_28 (by decide) ?_
        exact hQ hs hE dX10_feast_29
