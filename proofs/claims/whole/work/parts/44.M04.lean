theorem dX11_mark_0 : decode cX11_mark 0 = .ok (.aload_n 0, 1) := by decide +kernel
theorem dX11_mark_1 : decode cX11_mark 1 = .ok (.iload_n 1, 1) := by decide +kernel
theorem dX11_mark_2 : decode cX11_mark 2 = .ok (.invokevirtual 201, 3) := by decide +kernel
theorem dX11_mark_5 : decode cX11_mark 5 = .ok (.ifCond .eq 15, 3) := by decide +kernel
theorem dX11_mark_8 : decode cX11_mark 8 = .ok (.iload_n 2, 1) := by decide +kernel
theorem dX11_mark_9 : decode cX11_mark 9 = .ok (.i2l, 1) := by decide +kernel
theorem dX11_mark_10 : decode cX11_mark 10 = .ok (.lconst 1, 1) := by decide +kernel
theorem dX11_mark_11 : decode cX11_mark 11 = .ok (.ldc2_w 94, 3) := by decide +kernel
theorem dX11_mark_14 : decode cX11_mark 14 = .ok (.invokestatic 96, 3) := by decide +kernel
theorem dX11_mark_17 : decode cX11_mark 17 = .ok (.ifCond .ne 5, 3) := by decide +kernel
theorem dX11_mark_20 : decode cX11_mark 20 = .ok (.iconst (-1), 1) := by decide +kernel
theorem dX11_mark_21 : decode cX11_mark 21 = .ok (.ireturn, 1) := by decide +kernel
theorem dX11_mark_22 : decode cX11_mark 22 = .ok (.aload_n 0, 1) := by decide +kernel
theorem dX11_mark_23 : decode cX11_mark 23 = .ok (.getfield 22, 3) := by decide +kernel
theorem dX11_mark_26 : decode cX11_mark 26 = .ok (.iload_n 1, 1) := by decide +kernel
theorem dX11_mark_27 : decode cX11_mark 27 = .ok (.iaload, 1) := by decide +kernel
theorem dX11_mark_28 : decode cX11_mark 28 = .ok (.iload_n 2, 1) := by decide +kernel
theorem dX11_mark_29 : decode cX11_mark 29 = .ok (.invokestatic 213, 3) := by decide +kernel
theorem dX11_mark_32 : decode cX11_mark 32 = .ok (.ifCond .ne 9, 3) := by decide +kernel
theorem dX11_mark_35 : decode cX11_mark 35 = .ok (.aload_n 0, 1) := by decide +kernel
theorem dX11_mark_36 : decode cX11_mark 36 = .ok (.iconst 3, 1) := by decide +kernel
theorem dX11_mark_37 : decode cX11_mark 37 = .ok (.invokevirtual 106, 3) := by decide +kernel
theorem dX11_mark_40 : decode cX11_mark 40 = .ok (.ireturn, 1) := by decide +kernel
theorem dX11_mark_41 : decode cX11_mark 41 = .ok (.aload_n 0, 1) := by decide +kernel
theorem dX11_mark_42 : decode cX11_mark 42 = .ok (.getfield 22, 3) := by decide +kernel
theorem dX11_mark_45 : decode cX11_mark 45 = .ok (.iload_n 1, 1) := by decide +kernel
theorem dX11_mark_46 : decode cX11_mark 46 = .ok (.iaload, 1) := by decide +kernel
theorem dX11_mark_47 : decode cX11_mark 47 = .ok (.aload_n 0, 1) := by decide +kernel
theorem dX11_mark_48 : decode cX11_mark 48 = .ok (.getfield 37, 3) := by decide +kernel
theorem dX11_mark_51 : decode cX11_mark 51 = .ok (.iconst 1, 1) := by decide +kernel
theorem dX11_mark_52 : decode cX11_mark 52 = .ok (.iload_n 1, 1) := by decide +kernel
theorem dX11_mark_53 : decode cX11_mark 53 = .ok (.iadd, 1) := by decide +kernel
theorem dX11_mark_54 : decode cX11_mark 54 = .ok (.iaload, 1) := by decide +kernel
theorem dX11_mark_55 : decode cX11_mark 55 = .ok (.aload_n 0, 1) := by decide +kernel
theorem dX11_mark_56 : decode cX11_mark 56 = .ok (.getfield 25, 3) := by decide +kernel
theorem dX11_mark_59 : decode cX11_mark 59 = .ok (.iload_n 1, 1) := by decide +kernel
theorem dX11_mark_60 : decode cX11_mark 60 = .ok (.iaload, 1) := by decide +kernel
theorem dX11_mark_61 : decode cX11_mark 61 = .ok (.invokestatic 216, 3) := by decide +kernel
theorem dX11_mark_64 : decode cX11_mark 64 = .ok (.istore_n 3, 1) := by decide +kernel
theorem dX11_mark_65 : decode cX11_mark 65 = .ok (.aload_n 0, 1) := by decide +kernel
theorem dX11_mark_66 : decode cX11_mark 66 = .ok (.invokevirtual 220, 3) := by decide +kernel
theorem dX11_mark_69 : decode cX11_mark 69 = .ok (.istore 4, 2) := by decide +kernel
theorem dX11_mark_71 : decode cX11_mark 71 = .ok (.iload_n 2, 1) := by decide +kernel
theorem dX11_mark_72 : decode cX11_mark 72 = .ok (.tableswitch 87 1 4 #[32, 41, 56, 66], 32) := by decide +kernel
theorem dX11_mark_104 : decode cX11_mark 104 = .ok (.iload_n 3, 1) := by decide +kernel
theorem dX11_mark_105 : decode cX11_mark 105 = .ok (.aload_n 0, 1) := by decide +kernel
theorem dX11_mark_106 : decode cX11_mark 106 = .ok (.getfield 25, 3) := by decide +kernel
theorem dX11_mark_109 : decode cX11_mark 109 = .ok (.iload_n 1, 1) := by decide +kernel
theorem dX11_mark_110 : decode cX11_mark 110 = .ok (.iaload, 1) := by decide +kernel
theorem dX11_mark_111 : decode cX11_mark 111 = .ok (.isub, 1) := by decide +kernel
theorem dX11_mark_112 : decode cX11_mark 112 = .ok (.ireturn, 1) := by decide +kernel
theorem dX11_mark_113 : decode cX11_mark 113 = .ok (.aload_n 0, 1) := by decide +kernel
theorem dX11_mark_114 : decode cX11_mark 114 = .ok (.getfield 22, 3) := by decide +kernel
theorem dX11_mark_117 : decode cX11_mark 117 = .ok (.iload_n 1, 1) := by decide +kernel
theorem dX11_mark_118 : decode cX11_mark 118 = .ok (.iaload, 1) := by decide +kernel
theorem dX11_mark_119 : decode cX11_mark 119 = .ok (.iload 4, 2) := by decide +kernel
theorem dX11_mark_121 : decode cX11_mark 121 = .ok (.invokestatic 181, 3) := by decide +kernel
theorem dX11_mark_124 : decode cX11_mark 124 = .ok (.iload 4, 2) := by decide +kernel
theorem dX11_mark_126 : decode cX11_mark 126 = .ok (.isub, 1) := by decide +kernel
theorem dX11_mark_127 : decode cX11_mark 127 = .ok (.ireturn, 1) := by decide +kernel
theorem dX11_mark_128 : decode cX11_mark 128 = .ok (.iload 4, 2) := by decide +kernel
theorem dX11_mark_130 : decode cX11_mark 130 = .ok (.iconst 3, 1) := by decide +kernel
theorem dX11_mark_131 : decode cX11_mark 131 = .ok (.iload 4, 2) := by decide +kernel
theorem dX11_mark_133 : decode cX11_mark 133 = .ok (.invokestatic 181, 3) := by decide +kernel
theorem dX11_mark_136 : decode cX11_mark 136 = .ok (.isub, 1) := by decide +kernel
theorem dX11_mark_137 : decode cX11_mark 137 = .ok (.ireturn, 1) := by decide +kernel
theorem dX11_mark_138 : decode cX11_mark 138 = .ok (.iload_n 3, 1) := by decide +kernel
theorem dX11_mark_139 : decode cX11_mark 139 = .ok (.iconst 1, 1) := by decide +kernel
theorem dX11_mark_140 : decode cX11_mark 140 = .ok (.aload_n 0, 1) := by decide +kernel
theorem dX11_mark_141 : decode cX11_mark 141 = .ok (.getfield 37, 3) := by decide +kernel
theorem dX11_mark_144 : decode cX11_mark 144 = .ok (.iconst 1, 1) := by decide +kernel
theorem dX11_mark_145 : decode cX11_mark 145 = .ok (.iload_n 1, 1) := by decide +kernel
theorem dX11_mark_146 : decode cX11_mark 146 = .ok (.iadd, 1) := by decide +kernel
theorem dX11_mark_147 : decode cX11_mark 147 = .ok (.iaload, 1) := by decide +kernel
theorem dX11_mark_148 : decode cX11_mark 148 = .ok (.aload_n 0, 1) := by decide +kernel
theorem dX11_mark_149 : decode cX11_mark 149 = .ok (.getfield 25, 3) := by decide +kernel
theorem dX11_mark_152 : decode cX11_mark 152 = .ok (.iload_n 1, 1) := by decide +kernel
theorem dX11_mark_153 : decode cX11_mark 153 = .ok (.iaload, 1) := by decide +kernel
theorem dX11_mark_154 : decode cX11_mark 154 = .ok (.invokestatic 216, 3) := by decide +kernel
theorem dX11_mark_157 : decode cX11_mark 157 = .ok (.isub, 1) := by decide +kernel
theorem dX11_mark_158 : decode cX11_mark 158 = .ok (.ireturn, 1) := by decide +kernel
theorem dX11_mark_159 : decode cX11_mark 159 = .ok (.iconst 2, 1) := by decide +kernel
theorem dX11_mark_160 : decode cX11_mark 160 = .ok (.iload 4, 2) := by decide +kernel
theorem dX11_mark_162 : decode cX11_mark 162 = .ok (.invokestatic 181, 3) := by decide +kernel
theorem dX11_mark_165 : decode cX11_mark 165 = .ok (.iconst 5, 1) := by decide +kernel
theorem dX11_mark_166 : decode cX11_mark 166 = .ok (.iload 4, 2) := by decide +kernel
theorem dX11_mark_168 : decode cX11_mark 168 = .ok (.invokestatic 181, 3) := by decide +kernel
theorem dX11_mark_171 : decode cX11_mark 171 = .ok (.isub, 1) := by decide +kernel
theorem dX11_mark_172 : decode cX11_mark 172 = .ok (.ireturn, 1) := by decide +kernel
def fX11_mark (σ : St) (p1 : Int32) (p2 : Int32) : Option (St × Int32) := cl (fX11_isHouse σ p1) (fun σ1 r2 => (if r2 = 0 then some (σ1, (-1)) else cl (fX11_in σ1 (p2.toInt64) 1 5) (fun σ3 r4 => (if r4 = 0 then some (σ3, (-1)) else rd LM σ3 5 p1 (fun x5 => cl (fX11_isOf σ3 x5 p2) (fun σ6 r7 => (if r7 = 0 then cl (fX11_found σ6 3) (fun σ29 r30 => some (σ29, r30)) else rd LM σ6 5 p1 (fun x8 => rd LM σ6 10 (1 + p1) (fun x9 => rd LM σ6 6 p1 (fun x10 => cl (fX11_nextPurse σ6 x8 x9 x10) (fun σ11 r12 => cl (fX11_dearest σ11) (fun σ13 r14 => (if p2 = 1 then rd LM σ13 6 p1 (fun x19 => some (σ13, r12 - x19)) else (if p2 = 2 then rd LM σ13 5 p1 (fun x20 => cl (fX11_paysBy σ13 x20 r14) (fun σ21 r22 => some (σ21, r22 - r14))) else (if p2 = 3 then cl (fX11_paysBy σ13 3 r14) (fun σ23 r24 => some (σ23, r14 - r24)) else (if p2 = 4 then rd LM σ13 10 (1 + p1) (fun x25 => rd LM σ13 6 p1 (fun x26 => cl (fX11_nextPurse σ13 1 x25 x26) (fun σ27 r28 => some (σ27, r12 - r28)))) else cl (fX11_paysBy σ13 2 r14) (fun σ15 r16 => cl (fX11_paysBy σ15 5 r14) (fun σ17 r18 => some (σ17, r16 - r18)))))))))))))))))))
set_option maxHeartbeats 4000000 in
set_option maxRecDepth 100000 in
theorem ctX11_mark (l : Launch) (g : GG) (σ : St) (p1 : Int32) (p2 : Int32) (σ' : St) (r : Int32) (hE : fX11_mark σ p1 p2 = some (σ', r)) : MI 25 entM l g yX11_mark (Cond.code yX11_mark cX11_mark 5 (some .int) :: gtbl) (rmD 3) [.ref (g.2.1 0), .int p1, .int p2] σ σ' r := by
  refine mi_i (own := RX11) (lv := [(0, .ref (g.2.1 0)), (1, .int p1), (2, .int p2)]) (by decide) rfl (Nat.le_of_ble_eq_true rfl) rfl (fun p e s m below meth c ls args Q A H0 H locs C hK hA hQ hs hl => ?_)
  have hx := C.1
  have hb := C.2.1
  unfold fX11_mark at hE
  refine lv_aload_n hx hb dX11_mark_0 rfl (lv_at hl 0 rfl) ?_
  refine lv_iload_n hx hb dX11_mark_1 rfl (lv_at hl 1 rfl) ?_
  obtain ⟨σ1, r2, hE1, hE⟩ := cl_e hE
  refine x_civ (As := [.int p1]) (rest := []) C hl.1 hK hs hA ⟨Nat.le_refl 0, Nat.le_refl 0⟩ (ctX11_isHouse l g _ _ _ _ hE1) (cw_X11_201 C ⟨Nat.le_of_ble_eq_true rfl, Nat.le_of_ble_eq_true rfl⟩) (hs.recv hK 0 (by decide) rfl rfl) rfl rfl (Nat.le_of_ble_eq_true rfl) dX11_mark_2 (fun H locs hs => ?_)
  refine lv_if_eq (tgt := 20) hx hb dX11_mark_5 (by decide) (fun hc => ?_) (fun hc => ?_)
  · have hE := if_t hc hE
    refine lv_iconst (v := (-1)) hx hb dX11_mark_20 (by decide) ?_
    exact hQ hs hE dX11_mark_21
  · have hE := if_f hc hE
    refine lv_iload_n hx hb dX11_mark_8 rfl (lv_at hl 2 rfl) ?_
    refine lv_i2l (v := p2.toInt64) hx hb dX11_mark_9 rfl ?_
    refine lv_lconst (v := 1) hx hb dX11_mark_10 (by decide) ?_
    refine lv_ldc2 (v := 5) hx hb C.2.2.2.1 (C.2.2.2.2 _ mw_1066) dX11_mark_11 ?_
    obtain ⟨σ3, r4, hE1, hE⟩ := cl_e hE
    refine x_cis (As := [.long (p2.toInt64), .long 1, .long 5]) (rest := []) C hl.1 hK hs hA ⟨Nat.le_refl 0, Nat.le_refl 0⟩ (ctX11_in l g _ _ _ _ _ _ hE1) (cw_X11_96 C ⟨Nat.le_of_ble_eq_true rfl, Nat.le_of_ble_eq_true rfl⟩) rfl rfl (Nat.le_of_ble_eq_true rfl) dX11_mark_14 (fun H locs hs => ?_)
    refine lv_if_ne (tgt := 22) hx hb dX11_mark_17 (by decide) (fun hc => ?_) (fun hc => ?_)
    · have hE := if_f hc hE
      refine lv_aload_n hx hb dX11_mark_22 rfl (lv_at hl 0 rfl) ?_
      refine gf_X11_22_0 C hK hs dX11_mark_23 ?_
      refine lv_iload_n hx hb dX11_mark_26 rfl (lv_at hl 1 rfl) ?_
      obtain ⟨hi, x5, ex5, hE⟩ := rd_w hE
      refine y_ald layM C hK hs hi ex5 dX11_mark_27 ?_
      refine lv_iload_n hx hb dX11_mark_28 rfl (lv_at hl 2 rfl) ?_
      obtain ⟨σ6, r7, hE1, hE⟩ := cl_e hE
      refine x_cis (As := [.int x5, .int p2]) (rest := []) C hl.1 hK hs hA ⟨Nat.le_refl 0, Nat.le_refl 0⟩ (ctX11_isOf l g _ _ _ _ _ hE1) (cw_X11_213 C ⟨Nat.le_of_ble_eq_true rfl, Nat.le_of_ble_eq_true rfl⟩) rfl rfl (Nat.le_of_ble_eq_true rfl) dX11_mark_29 (fun H locs hs => ?_)
      refine lv_if_ne (tgt := 41) hx hb dX11_mark_32 (by decide) (fun hc => ?_) (fun hc => ?_)
      · have hE := if_f hc hE
        refine lv_aload_n hx hb dX11_mark_41 rfl (lv_at hl 0 rfl) ?_
        refine gf_X11_22_0 C hK hs dX11_mark_42 ?_
        refine lv_iload_n hx hb dX11_mark_45 rfl (lv_at hl 1 rfl) ?_
        obtain ⟨hi, x8, ex8, hE⟩ := rd_w hE
        refine y_ald layM C hK hs hi ex8 dX11_mark_46 ?_
        refine lv_aload_n hx hb dX11_mark_47 rfl (lv_at hl 0 rfl) ?_
        refine gf_X11_37_0 C hK hs dX11_mark_48 ?_
        refine lv_iconst (v := 1) hx hb dX11_mark_51 (by decide) ?_
        refine lv_iload_n hx hb dX11_mark_52 rfl (lv_at hl 1 rfl) ?_
        refine lv_iadd hx hb dX11_mark_53 ?_
        obtain ⟨hi, x9, ex9, hE⟩ := rd_w hE
        refine y_ald layM C hK hs hi ex9 dX11_mark_54 ?_
        refine lv_aload_n hx hb dX11_mark_55 rfl (lv_at hl 0 rfl) ?_
        refine gf_X11_25_0 C hK hs dX11_mark_56 ?_
        refine lv_iload_n hx hb dX11_mark_59 rfl (lv_at hl 1 rfl) ?_
        obtain ⟨hi, x10, ex10, hE⟩ := rd_w hE
        refine y_ald layM C hK hs hi ex10 dX11_mark_60 ?_
        obtain ⟨σ11, r12, hE1, hE⟩ := cl_e hE
        refine x_cis (As := [.int x8, .int x9, .int x10]) (rest := []) C hl.1 hK hs hA ⟨Nat.le_refl 0, Nat.le_refl 0⟩ (ctX11_nextPurse l g _ _ _ _ _ _ hE1) (cw_X11_216 C ⟨Nat.le_of_ble_eq_true rfl, Nat.le_of_ble_eq_true rfl⟩) rfl rfl (Nat.le_of_ble_eq_true rfl) dX11_mark_61 (fun H locs hs => ?_)
        refine lv_istore_n (lv' := [(3, .int r12), (0, .ref (g.2.1 0)), (1, .int p1), (2, .int p2)]) hx hb dX11_mark_64 rfl hl (by decide) rfl (fun ls hl => ?_)
        refine lv_aload_n hx hb dX11_mark_65 rfl (lv_at hl 1 rfl) ?_
        obtain ⟨σ13, r14, hE1, hE⟩ := cl_e hE
        refine x_civ (As := []) (rest := []) C hl.1 hK hs hA ⟨Nat.le_refl 0, Nat.le_refl 0⟩ (ctX11_dearest l g _  _ _ hE1) (cw_X11_220 C ⟨Nat.le_of_ble_eq_true rfl, Nat.le_of_ble_eq_true rfl⟩) (hs.recv hK 0 (by decide) rfl rfl) rfl rfl (Nat.le_of_ble_eq_true rfl) dX11_mark_66 (fun H locs hs => ?_)
        refine lv_istore (lv' := [(4, .int r14), (3, .int r12), (0, .ref (g.2.1 0)), (1, .int p1), (2, .int p2)]) hx hb dX11_mark_69 hl (by decide) rfl (fun ls hl => ?_)
        refine lv_iload_n hx hb dX11_mark_71 rfl (lv_at hl 4 rfl) ?_
        by_cases hn1 : p2 = 1
        · have hE := if_t hn1 hE
          refine lv_tableIn (off := 32) (tgt := 104) hx hb dX11_mark_72 (by rw [hn1]; decide) (by rw [hn1]; decide) (by rw [hn1]; decide) (by decide) ?_
          refine lv_iload_n hx hb dX11_mark_104 rfl (lv_at hl 1 rfl) ?_
          refine lv_aload_n hx hb dX11_mark_105 rfl (lv_at hl 2 rfl) ?_
          refine gf_X11_25_0 C hK hs dX11_mark_106 ?_
          refine lv_iload_n hx hb dX11_mark_109 rfl (lv_at hl 3 rfl) ?_
          obtain ⟨hi, x19, ex19, hE⟩ := rd_w hE
          refine y_ald layM C hK hs hi ex19 dX11_mark_110 ?_
          refine lv_isub hx hb dX11_mark_111 ?_
          exact hQ hs hE dX11_mark_112
        have hE := if_f hn1 hE
        by_cases hn2 : p2 = 2
        · have hE := if_t hn2 hE
          refine lv_tableIn (off := 41) (tgt := 113) hx hb dX11_mark_72 (by rw [hn2]; decide) (by rw [hn2]; decide) (by rw [hn2]; decide) (by decide) ?_
          refine lv_aload_n hx hb dX11_mark_113 rfl (lv_at hl 2 rfl) ?_
          refine gf_X11_22_0 C hK hs dX11_mark_114 ?_
          refine lv_iload_n hx hb dX11_mark_117 rfl (lv_at hl 3 rfl) ?_
          obtain ⟨hi, x20, ex20, hE⟩ := rd_w hE
          refine y_ald layM C hK hs hi ex20 dX11_mark_118 ?_
          refine lv_iload hx hb dX11_mark_119 (lv_at hl 0 rfl) ?_
          obtain ⟨σ21, r22, hE1, hE⟩ := cl_e hE
          refine x_cis (As := [.int x20, .int r14]) (rest := []) C hl.1 hK hs hA ⟨Nat.le_refl 0, Nat.le_refl 0⟩ (ctX11_paysBy l g _ _ _ _ _ hE1) (cw_X11_181 C ⟨Nat.le_of_ble_eq_true rfl, Nat.le_of_ble_eq_true rfl⟩) rfl rfl (Nat.le_of_ble_eq_true rfl) dX11_mark_121 (fun H locs hs => ?_)
          refine lv_iload hx hb dX11_mark_124 (lv_at hl 0 rfl) ?_
          refine lv_isub hx hb dX11_mark_126 ?_
          exact hQ hs hE dX11_mark_127
        have hE := if_f hn2 hE
        by_cases hn3 : p2 = 3
        · have hE := if_t hn3 hE
          refine lv_tableIn (off := 56) (tgt := 128) hx hb dX11_mark_72 (by rw [hn3]; decide) (by rw [hn3]; decide) (by rw [hn3]; decide) (by decide) ?_
          refine lv_iload hx hb dX11_mark_128 (lv_at hl 0 rfl) ?_
          refine lv_iconst (v := 3) hx hb dX11_mark_130 (by decide) ?_
          refine lv_iload hx hb dX11_mark_131 (lv_at hl 0 rfl) ?_
          obtain ⟨σ23, r24, hE1, hE⟩ := cl_e hE
          refine x_cis (As := [.int 3, .int r14]) (rest := [.int r14]) C hl.1 hK hs hA ⟨Nat.le_refl 0, Nat.le_refl 0⟩ (ctX11_paysBy l g _ _ _ _ _ hE1) (cw_X11_181 C ⟨Nat.le_of_ble_eq_true rfl, Nat.le_of_ble_eq_true rfl⟩) rfl rfl (Nat.le_of_ble_eq_true rfl) dX11_mark_133 (fun H locs hs => ?_)
          refine lv_isub hx hb dX11_mark_136 ?_
          exact hQ hs hE dX11_mark_137
        have hE := if_f hn3 hE
        by_cases hn4 : p2 = 4
        · have hE := if_t hn4 hE
          refine lv_tableIn (off := 66) (tgt := 138) hx hb dX11_mark_72 (by rw [hn4]; decide) (by rw [hn4]; decide) (by rw [hn4]; decide) (by decide) ?_
          refine lv_iload_n hx hb dX11_mark_138 rfl (lv_at hl 1 rfl) ?_
          refine lv_iconst (v := 1) hx hb dX11_mark_139 (by decide) ?_
          refine lv_aload_n hx hb dX11_mark_140 rfl (lv_at hl 2 rfl) ?_
          refine gf_X11_37_0 C hK hs dX11_mark_141 ?_
          refine lv_iconst (v := 1) hx hb dX11_mark_144 (by decide) ?_
          refine lv_iload_n hx hb dX11_mark_145 rfl (lv_at hl 3 rfl) ?_
          refine lv_iadd hx hb dX11_mark_146 ?_
          obtain ⟨hi, x25, ex25, hE⟩ := rd_w hE
          refine y_ald layM C hK hs hi ex25 dX11_mark_147 ?_
          refine lv_aload_n hx hb dX11_mark_148 rfl (lv_at hl 2 rfl) ?_
          refine gf_X11_25_0 C hK hs dX11_mark_149 ?_
          refine lv_iload_n hx hb dX11_mark_152 rfl (lv_at hl 3 rfl) ?_
          obtain ⟨hi, x26, ex26, hE⟩ := rd_w hE
          refine y_ald layM C hK hs hi ex26 dX11_mark_153 ?_
          obtain ⟨σ27, r28, hE1, hE⟩ := cl_e hE
          refine x_cis (As := [.int 1, .int x25, .int x26]) (rest := [.int r12]) C hl.1 hK hs hA ⟨Nat.le_refl 0, Nat.le_refl 0⟩ (ctX11_nextPurse l g _ _ _ _ _ _ hE1) (cw_X11_216 C ⟨Nat.le_of_ble_eq_true rfl, Nat.le_of_ble_eq_true rfl⟩) rfl rfl (Nat.le_of_ble_eq_true rfl) dX11_mark_154 (fun H locs hs => ?_)
          refine lv_isub hx hb dX11_mark_157 ?_
          exact hQ hs hE dX11_mark_158
        have hE := if_f hn4 hE
        have hDf : W p l e (rmD 3) s m args below meth c H locs 0 0 Q (F0 m 159 ls []) := by
          refine lv_iconst (v := 2) hx hb dX11_mark_159 (by decide) ?_
          refine lv_iload hx hb dX11_mark_160 (lv_at hl 0 rfl) ?_
          obtain ⟨σ15, r16, hE1, hE⟩ := cl_e hE
          refine x_cis (As := [.int 2, .int r14]) (rest := []) C hl.1 hK hs hA ⟨Nat.le_refl 0, Nat.le_refl 0⟩ (ctX11_paysBy l g _ _ _ _ _ hE1) (cw_X11_181 C ⟨Nat.le_of_ble_eq_true rfl, Nat.le_of_ble_eq_true rfl⟩) rfl rfl (Nat.le_of_ble_eq_true rfl) dX11_mark_162 (fun H locs hs => ?_)
          refine lv_iconst (v := 5) hx hb dX11_mark_165 (by decide) ?_
          refine lv_iload hx hb dX11_mark_166 (lv_at hl 0 rfl) ?_
          obtain ⟨σ17, r18, hE1, hE⟩ := cl_e hE
          refine x_cis (As := [.int 5, .int r14]) (rest := [.int r16]) C hl.1 hK hs hA ⟨Nat.le_refl 0, Nat.le_refl 0⟩ (ctX11_paysBy l g _ _ _ _ _ hE1) (cw_X11_181 C ⟨Nat.le_of_ble_eq_true rfl, Nat.le_of_ble_eq_true rfl⟩) rfl rfl (Nat.le_of_ble_eq_true rfl) dX11_mark_168 (fun H locs hs => ?_)
          refine lv_isub hx hb dX11_mark_171 ?_
          exact hQ hs hE dX11_mark_172
        exact lv_tableOut (tgt := 159) hx hb dX11_mark_72 (by have q0 := sw_n 1 hn1 (by decide); have q1 := sw_n 2 hn2 (by decide); have q2 := sw_n 3 hn3 (by decide); have q3 := sw_n 4 hn4 (by decide); omega) (by decide) hDf
      · have hE := if_t hc hE
        refine lv_aload_n hx hb dX11_mark_35 rfl (lv_at hl 0 rfl) ?_
        refine lv_iconst (v := 3) hx hb dX11_mark_36 (by decide) ?_
        obtain ⟨σ29, r30, hE1, hE⟩ := cl_e hE
        refine x_civ (As := [.int 3]) (rest := []) C hl.1 hK hs hA ⟨Nat.le_refl 0, Nat.le_refl 0⟩ (ctX11_found l g _ _ _ _ hE1) (cw_X11_106 C ⟨Nat.le_of_ble_eq_true rfl, Nat.le_of_ble_eq_true rfl⟩) (hs.recv hK 0 (by decide) rfl rfl) rfl rfl (Nat.le_of_ble_eq_true rfl) dX11_mark_37 (fun H locs hs => ?_)
        exact hQ hs hE dX11_mark_40
    · have hE := if_t hc hE
      refine lv_iconst (v := (-1)) hx hb dX11_mark_20 (by decide) ?_
      exact hQ hs hE dX11_mark_21
theorem dX11_notes_0 : decode cX11_notes 0 = .ok (.aload_n 0, 1) := by decide +kernel
theorem dX11_notes_1 : decode cX11_notes 1 = .ok (.getfield 37, 3) := by decide +kernel
theorem dX11_notes_4 : decode cX11_notes 4 = .ok (.iconst 0, 1) := by decide +kernel
theorem dX11_notes_5 : decode cX11_notes 5 = .ok (.aload_n 0, 1) := by decide +kernel
theorem dX11_notes_6 : decode cX11_notes 6 = .ok (.getfield 43, 3) := by decide +kernel
theorem dX11_notes_9 : decode cX11_notes 9 = .ok (.bipush 55, 2) := by decide +kernel
theorem dX11_notes_11 : decode cX11_notes 11 = .ok (.aload_n 0, 1) := by decide +kernel
theorem dX11_notes_12 : decode cX11_notes 12 = .ok (.getfield 174, 3) := by decide +kernel
theorem dX11_notes_15 : decode cX11_notes 15 = .ok (.imul, 1) := by decide +kernel
theorem dX11_notes_16 : decode cX11_notes 16 = .ok (.bipush 55, 2) := by decide +kernel
theorem dX11_notes_18 : decode cX11_notes 18 = .ok (.invokestatic 170, 3) := by decide +kernel
theorem dX11_notes_21 : decode cX11_notes 21 = .ok (.aload_n 0, 1) := by decide +kernel
theorem dX11_notes_22 : decode cX11_notes 22 = .ok (.dup, 1) := by decide +kernel
theorem dX11_notes_23 : decode cX11_notes 23 = .ok (.getfield 174, 3) := by decide +kernel
theorem dX11_notes_26 : decode cX11_notes 26 = .ok (.iconst 1, 1) := by decide +kernel
theorem dX11_notes_27 : decode cX11_notes 27 = .ok (.iadd, 1) := by decide +kernel
theorem dX11_notes_28 : decode cX11_notes 28 = .ok (.putfield 174, 3) := by decide +kernel
theorem dX11_notes_31 : decode cX11_notes 31 = .ok (.return_, 1) := by decide +kernel
def fX11_notes (σ : St) : Option (St × Unit) := cl (fX11_copies σ 10 0 12 (55 * (σ.1 0 14)) 55) (fun σ1 r2 => pt (su σ1 0 14 ((σ1.1 0 14) + 1)) (fun σ3 => some (σ3, ())))
set_option maxHeartbeats 4000000 in
set_option maxRecDepth 100000 in
theorem ctX11_notes (l : Launch) (g : GG) (σ : St) (σ' : St) (r : Unit) (hE : fX11_notes σ  = some (σ', r)) : MV 25 entM l g yX11_notes (Cond.code yX11_notes cX11_notes 1 none :: gtbl) (rmD 2) [.ref (g.2.1 0)] σ σ' := by
  refine mi_v (own := RX11) (lv := [(0, .ref (g.2.1 0))]) (by decide) rfl (Nat.le_of_ble_eq_true rfl) rfl (fun p e s m below meth c ls args Q A H0 H locs C hK hA hQ hs hl => ?_)
  have hx := C.1
  have hb := C.2.1
  unfold fX11_notes at hE
  refine lv_aload_n hx hb dX11_notes_0 rfl (lv_at hl 0 rfl) ?_
  refine gf_X11_37_0 C hK hs dX11_notes_1 ?_
  refine lv_iconst (v := 0) hx hb dX11_notes_4 (by decide) ?_
  refine lv_aload_n hx hb dX11_notes_5 rfl (lv_at hl 0 rfl) ?_
  refine gf_X11_43_0 C hK hs dX11_notes_6 ?_
  refine lv_bipush (v := 55) hx hb dX11_notes_9 (by decide) ?_
  refine lv_aload_n hx hb dX11_notes_11 rfl (lv_at hl 0 rfl) ?_
  refine gf_X11_174_0 C hK hs dX11_notes_12 ?_
  refine lv_imul hx hb dX11_notes_15 ?_
  refine lv_bipush (v := 55) hx hb dX11_notes_16 (by decide) ?_
  obtain ⟨σ1, r2, hE1, hE⟩ := cl_e hE
  refine x_cvs (As := [.ref (g.2.1 10), .int 0, .ref (g.2.1 12), .int (55 * (σ.1 0 14)), .int 55]) (rest := []) C hl.1 hK hs hA ⟨Nat.le_refl 0, Nat.le_refl 0⟩ (ctX11_copies l g _ _ _ _ _ _ _ _ hE1) (cw_X11_170 C ⟨Nat.le_of_ble_eq_true rfl, Nat.le_of_ble_eq_true rfl⟩) rfl rfl (Nat.le_of_ble_eq_true rfl) dX11_notes_18 (fun H locs hs => ?_)
  refine lv_aload_n hx hb dX11_notes_21 rfl (lv_at hl 0 rfl) ?_
  refine lv_dup hx hb dX11_notes_22 rfl ?_
  refine gf_X11_174_0 C hK hs dX11_notes_23 ?_
  refine lv_iconst (v := 1) hx hb dX11_notes_26 (by decide) ?_
  refine lv_iadd hx hb dX11_notes_27 ?_
  obtain ⟨σ3, eσ3, hE⟩ := pt_w hE
  refine pf_X11_174_0 C hK hs eσ3 dX11_notes_28 (fun H locs hs => ?_)
  exact hQ hs hE dX11_notes_31
theorem dX11_buys_0 : decode cX11_buys 0 = .ok (.aload_n 0, 1) := by decide +kernel
theorem dX11_buys_1 : decode cX11_buys 1 = .ok (.getfield 37, 3) := by decide +kernel
theorem dX11_buys_4 : decode cX11_buys 4 = .ok (.iconst 1, 1) := by decide +kernel
theorem dX11_buys_5 : decode cX11_buys 5 = .ok (.iload_n 1, 1) := by decide +kernel
theorem dX11_buys_6 : decode cX11_buys 6 = .ok (.iadd, 1) := by decide +kernel
theorem dX11_buys_7 : decode cX11_buys 7 = .ok (.dup2, 1) := by decide +kernel
theorem dX11_buys_8 : decode cX11_buys 8 = .ok (.iaload, 1) := by decide +kernel
theorem dX11_buys_9 : decode cX11_buys 9 = .ok (.aload_n 0, 1) := by decide +kernel
theorem dX11_buys_10 : decode cX11_buys 10 = .ok (.iload_n 1, 1) := by decide +kernel
theorem dX11_buys_11 : decode cX11_buys 11 = .ok (.iload_n 2, 1) := by decide +kernel
theorem dX11_buys_12 : decode cX11_buys 12 = .ok (.invokevirtual 207, 3) := by decide +kernel
theorem dX11_buys_15 : decode cX11_buys 15 = .ok (.isub, 1) := by decide +kernel
theorem dX11_buys_16 : decode cX11_buys 16 = .ok (.iastore, 1) := by decide +kernel
theorem dX11_buys_17 : decode cX11_buys 17 = .ok (.aload_n 0, 1) := by decide +kernel
theorem dX11_buys_18 : decode cX11_buys 18 = .ok (.getfield 37, 3) := by decide +kernel
theorem dX11_buys_21 : decode cX11_buys 21 = .ok (.bipush 7, 2) := by decide +kernel
theorem dX11_buys_23 : decode cX11_buys 23 = .ok (.bipush 8, 2) := by decide +kernel
theorem dX11_buys_25 : decode cX11_buys 25 = .ok (.iload_n 1, 1) := by decide +kernel
theorem dX11_buys_26 : decode cX11_buys 26 = .ok (.imul, 1) := by decide +kernel
theorem dX11_buys_27 : decode cX11_buys 27 = .ok (.iadd, 1) := by decide +kernel
theorem dX11_buys_28 : decode cX11_buys 28 = .ok (.iload_n 2, 1) := by decide +kernel
theorem dX11_buys_29 : decode cX11_buys 29 = .ok (.iadd, 1) := by decide +kernel
theorem dX11_buys_30 : decode cX11_buys 30 = .ok (.aload_n 0, 1) := by decide +kernel
theorem dX11_buys_31 : decode cX11_buys 31 = .ok (.getfield 37, 3) := by decide +kernel
theorem dX11_buys_34 : decode cX11_buys 34 = .ok (.iconst 0, 1) := by decide +kernel
theorem dX11_buys_35 : decode cX11_buys 35 = .ok (.iaload, 1) := by decide +kernel
theorem dX11_buys_36 : decode cX11_buys 36 = .ok (.aload_n 0, 1) := by decide +kernel
theorem dX11_buys_37 : decode cX11_buys 37 = .ok (.iload_n 1, 1) := by decide +kernel
theorem dX11_buys_38 : decode cX11_buys 38 = .ok (.iload_n 2, 1) := by decide +kernel
theorem dX11_buys_39 : decode cX11_buys 39 = .ok (.invokevirtual 224, 3) := by decide +kernel
theorem dX11_buys_42 : decode cX11_buys 42 = .ok (.iadd, 1) := by decide +kernel
theorem dX11_buys_43 : decode cX11_buys 43 = .ok (.iastore, 1) := by decide +kernel
theorem dX11_buys_44 : decode cX11_buys 44 = .ok (.return_, 1) := by decide +kernel
def fX11_buys (σ : St) (p1 : Int32) (p2 : Int32) : Option (St × Unit) := rd LM σ 10 (1 + p1) (fun x1 => cl (fX11_pays σ p1 p2) (fun σ2 r3 => wr LM σ2 10 (1 + p1) (x1 - r3) (fun σ4 => rd LM σ4 10 0 (fun x5 => cl (fX11_monthsOf σ4 p1 p2) (fun σ6 r7 => wr LM σ6 10 ((7 + (8 * p1)) + p2) (x5 + r7) (fun σ8 => some (σ8, ())))))))
set_option maxHeartbeats 4000000 in
set_option maxRecDepth 100000 in
theorem ctX11_buys (l : Launch) (g : GG) (σ : St) (p1 : Int32) (p2 : Int32) (σ' : St) (r : Unit) (hE : fX11_buys σ p1 p2 = some (σ', r)) : MV 25 entM l g yX11_buys (Cond.code yX11_buys cX11_buys 3 none :: gtbl) (rmD 4) [.ref (g.2.1 0), .int p1, .int p2] σ σ' := by
  refine mi_v (own := RX11) (lv := [(0, .ref (g.2.1 0)), (1, .int p1), (2, .int p2)]) (by decide) rfl (Nat.le_of_ble_eq_true rfl) rfl (fun p e s m below meth c ls args Q A H0 H locs C hK hA hQ hs hl => ?_)
  have hx := C.1
  have hb := C.2.1
  unfold fX11_buys at hE
  refine lv_aload_n hx hb dX11_buys_0 rfl (lv_at hl 0 rfl) ?_
  refine gf_X11_37_0 C hK hs dX11_buys_1 ?_
  refine lv_iconst (v := 1) hx hb dX11_buys_4 (by decide) ?_
  refine lv_iload_n hx hb dX11_buys_5 rfl (lv_at hl 1 rfl) ?_
  refine lv_iadd hx hb dX11_buys_6 ?_
  refine lv_dup2_11 hx hb dX11_buys_7 rfl rfl ?_
  obtain ⟨hi, x1, ex1, hE⟩ := rd_w hE
  refine y_ald layM C hK hs hi ex1 dX11_buys_8 ?_
  refine lv_aload_n hx hb dX11_buys_9 rfl (lv_at hl 0 rfl) ?_
  refine lv_iload_n hx hb dX11_buys_10 rfl (lv_at hl 1 rfl) ?_
  refine lv_iload_n hx hb dX11_buys_11 rfl (lv_at hl 2 rfl) ?_
  obtain ⟨σ2, r3, hE1, hE⟩ := cl_e hE
  refine x_civ (As := [.int p1, .int p2]) (rest := [.int x1, .int (1 + p1), .ref (g.2.1 10)]) C hl.1 hK hs hA ⟨Nat.le_refl 0, Nat.le_refl 0⟩ (ctX11_pays l g _ _ _ _ _ hE1) (cw_X11_207 C ⟨Nat.le_of_ble_eq_true rfl, Nat.le_of_ble_eq_true rfl⟩) (hs.recv hK 0 (by decide) rfl rfl) rfl rfl (Nat.le_of_ble_eq_true rfl) dX11_buys_12 (fun H locs hs => ?_)
  refine lv_isub hx hb dX11_buys_15 ?_
  obtain ⟨hi, σ4, eσ4, hE⟩ := wr_w hE
  refine y_ast layM C hK hs hi eσ4 dX11_buys_16 (fun H locs hs => ?_)
  refine lv_aload_n hx hb dX11_buys_17 rfl (lv_at hl 0 rfl) ?_
  refine gf_X11_37_0 C hK hs dX11_buys_18 ?_
  refine lv_bipush (v := 7) hx hb dX11_buys_21 (by decide) ?_
  refine lv_bipush (v := 8) hx hb dX11_buys_23 (by decide) ?_
  refine lv_iload_n hx hb dX11_buys_25 rfl (lv_at hl 1 rfl) ?_
  refine lv_imul hx hb dX11_buys_26 ?_
  refine lv_iadd hx hb dX11_buys_27 ?_
  refine lv_iload_n hx hb dX11_buys_28 rfl (lv_at hl 2 rfl) ?_
  refine lv_iadd hx hb dX11_buys_29 ?_
  refine lv_aload_n hx hb dX11_buys_30 rfl (lv_at hl 0 rfl) ?_
  refine gf_X11_37_0 C hK hs dX11_buys_31 ?_
  refine lv_iconst (v := 0) hx hb dX11_buys_34 (by decide) ?_
  obtain ⟨hi, x5, ex5, hE⟩ := rd_w hE
  refine y_ald layM C hK hs hi ex5 dX11_buys_35 ?_
  refine lv_aload_n hx hb dX11_buys_36 rfl (lv_at hl 0 rfl) ?_
  refine lv_iload_n hx hb dX11_buys_37 rfl (lv_at hl 1 rfl) ?_
  refine lv_iload_n hx hb dX11_buys_38 rfl (lv_at hl 2 rfl) ?_
  obtain ⟨σ6, r7, hE1, hE⟩ := cl_e hE
  refine x_civ (As := [.int p1, .int p2]) (rest := [.int x5, .int ((7 + (8 * p1)) + p2), .ref (g.2.1 10)]) C hl.1 hK hs hA ⟨Nat.le_refl 0, Nat.le_refl 0⟩ (ctX11_monthsOf l g _ _ _ _ _ hE1) (cw_X11_224 C ⟨Nat.le_of_ble_eq_true rfl, Nat.le_of_ble_eq_true rfl⟩) (hs.recv hK 0 (by decide) rfl rfl) rfl rfl (Nat.le_of_ble_eq_true rfl) dX11_buys_39 (fun H locs hs => ?_)
  refine lv_iadd hx hb dX11_buys_42 ?_
  obtain ⟨hi, σ8, eσ8, hE⟩ := wr_w hE
  refine y_ast layM C hK hs hi eσ8 dX11_buys_43 (fun H locs hs => ?_)
  exact hQ hs hE dX11_buys_44
theorem dX11_passes_0 : decode cX11_passes 0 = .ok (.iconst 0, 1) := by decide +kernel
theorem dX11_passes_1 : decode cX11_passes 1 = .ok (.istore_n 3, 1) := by decide +kernel
theorem dX11_passes_2 : decode cX11_passes 2 = .ok (.aload_n 1, 1) := by decide +kernel
theorem dX11_passes_3 : decode cX11_passes 3 = .ok (.iconst 0, 1) := by decide +kernel
theorem dX11_passes_4 : decode cX11_passes 4 = .ok (.dup2, 1) := by decide +kernel
theorem dX11_passes_5 : decode cX11_passes 5 = .ok (.iaload, 1) := by decide +kernel
theorem dX11_passes_6 : decode cX11_passes 6 = .ok (.iconst 1, 1) := by decide +kernel
theorem dX11_passes_7 : decode cX11_passes 7 = .ok (.iadd, 1) := by decide +kernel
theorem dX11_passes_8 : decode cX11_passes 8 = .ok (.iastore, 1) := by decide +kernel
theorem dX11_passes_9 : decode cX11_passes 9 = .ok (.iconst 0, 1) := by decide +kernel
theorem dX11_passes_10 : decode cX11_passes 10 = .ok (.istore 4, 2) := by decide +kernel
theorem dX11_passes_12 : decode cX11_passes 12 = .ok (.iload 4, 2) := by decide +kernel
theorem dX11_passes_14 : decode cX11_passes 14 = .ok (.aload_n 0, 1) := by decide +kernel
theorem dX11_passes_15 : decode cX11_passes 15 = .ok (.getfield 160, 3) := by decide +kernel
theorem dX11_passes_18 : decode cX11_passes 18 = .ok (.if_icmp .ge 107, 3) := by decide +kernel
theorem dX11_passes_21 : decode cX11_passes 21 = .ok (.iconst 0, 1) := by decide +kernel
theorem dX11_passes_22 : decode cX11_passes 22 = .ok (.istore 5, 2) := by decide +kernel
theorem dX11_passes_24 : decode cX11_passes 24 = .ok (.iload 5, 2) := by decide +kernel
theorem dX11_passes_26 : decode cX11_passes 26 = .ok (.aload_n 0, 1) := by decide +kernel
theorem dX11_passes_27 : decode cX11_passes 27 = .ok (.getfield 163, 3) := by decide +kernel
theorem dX11_passes_30 : decode cX11_passes 30 = .ok (.if_icmp .ge 47, 3) := by decide +kernel
theorem dX11_passes_33 : decode cX11_passes 33 = .ok (.bipush 7, 2) := by decide +kernel
theorem dX11_passes_35 : decode cX11_passes 35 = .ok (.bipush 8, 2) := by decide +kernel
theorem dX11_passes_37 : decode cX11_passes 37 = .ok (.iload 4, 2) := by decide +kernel
theorem dX11_passes_39 : decode cX11_passes 39 = .ok (.imul, 1) := by decide +kernel
theorem dX11_passes_40 : decode cX11_passes 40 = .ok (.iadd, 1) := by decide +kernel
theorem dX11_passes_41 : decode cX11_passes 41 = .ok (.iload 5, 2) := by decide +kernel
theorem dX11_passes_43 : decode cX11_passes 43 = .ok (.iadd, 1) := by decide +kernel
theorem dX11_passes_44 : decode cX11_passes 44 = .ok (.istore 6, 2) := by decide +kernel
theorem dX11_passes_46 : decode cX11_passes 46 = .ok (.aload_n 1, 1) := by decide +kernel
theorem dX11_passes_47 : decode cX11_passes 47 = .ok (.iload 6, 2) := by decide +kernel
theorem dX11_passes_49 : decode cX11_passes 49 = .ok (.iaload, 1) := by decide +kernel
theorem dX11_passes_50 : decode cX11_passes 50 = .ok (.ifCond .le 21, 3) := by decide +kernel
theorem dX11_passes_53 : decode cX11_passes 53 = .ok (.aload_n 1, 1) := by decide +kernel
theorem dX11_passes_54 : decode cX11_passes 54 = .ok (.iload 6, 2) := by decide +kernel
theorem dX11_passes_56 : decode cX11_passes 56 = .ok (.iaload, 1) := by decide +kernel
theorem dX11_passes_57 : decode cX11_passes 57 = .ok (.aload_n 1, 1) := by decide +kernel
theorem dX11_passes_58 : decode cX11_passes 58 = .ok (.iconst 0, 1) := by decide +kernel
theorem dX11_passes_59 : decode cX11_passes 59 = .ok (.iaload, 1) := by decide +kernel
theorem dX11_passes_60 : decode cX11_passes 60 = .ok (.if_icmp .gt 11, 3) := by decide +kernel
theorem dX11_passes_63 : decode cX11_passes 63 = .ok (.aload_n 1, 1) := by decide +kernel
theorem dX11_passes_64 : decode cX11_passes 64 = .ok (.iload 6, 2) := by decide +kernel
theorem dX11_passes_66 : decode cX11_passes 66 = .ok (.iconst 0, 1) := by decide +kernel
theorem dX11_passes_67 : decode cX11_passes 67 = .ok (.iastore, 1) := by decide +kernel
theorem dX11_passes_68 : decode cX11_passes 68 = .ok (.iinc 3 1, 3) := by decide +kernel
theorem dX11_passes_71 : decode cX11_passes 71 = .ok (.iinc 5 1, 3) := by decide +kernel
theorem dX11_passes_74 : decode cX11_passes 74 = .ok (.goto (-50), 3) := by decide +kernel
theorem dX11_passes_77 : decode cX11_passes 77 = .ok (.aload_n 1, 1) := by decide +kernel
theorem dX11_passes_78 : decode cX11_passes 78 = .ok (.iconst 1, 1) := by decide +kernel
theorem dX11_passes_79 : decode cX11_passes 79 = .ok (.iload 4, 2) := by decide +kernel
theorem dX11_passes_81 : decode cX11_passes 81 = .ok (.iadd, 1) := by decide +kernel
theorem dX11_passes_82 : decode cX11_passes 82 = .ok (.aload_n 0, 1) := by decide +kernel
theorem dX11_passes_83 : decode cX11_passes 83 = .ok (.getfield 22, 3) := by decide +kernel
theorem dX11_passes_86 : decode cX11_passes 86 = .ok (.iload 4, 2) := by decide +kernel
theorem dX11_passes_88 : decode cX11_passes 88 = .ok (.iaload, 1) := by decide +kernel
theorem dX11_passes_89 : decode cX11_passes 89 = .ok (.aload_n 1, 1) := by decide +kernel
theorem dX11_passes_90 : decode cX11_passes 90 = .ok (.iconst 1, 1) := by decide +kernel
theorem dX11_passes_91 : decode cX11_passes 91 = .ok (.iload 4, 2) := by decide +kernel
theorem dX11_passes_93 : decode cX11_passes 93 = .ok (.iadd, 1) := by decide +kernel
theorem dX11_passes_94 : decode cX11_passes 94 = .ok (.iaload, 1) := by decide +kernel
theorem dX11_passes_95 : decode cX11_passes 95 = .ok (.iload_n 2, 1) := by decide +kernel
theorem dX11_passes_96 : decode cX11_passes 96 = .ok (.iload 4, 2) := by decide +kernel
theorem dX11_passes_98 : decode cX11_passes 98 = .ok (.invokestatic 227, 3) := by decide +kernel
theorem dX11_passes_101 : decode cX11_passes 101 = .ok (.ifCond .eq 7, 3) := by decide +kernel
theorem dX11_passes_104 : decode cX11_passes 104 = .ok (.iconst 0, 1) := by decide +kernel
theorem dX11_passes_105 : decode cX11_passes 105 = .ok (.goto 10, 3) := by decide +kernel
theorem dX11_passes_108 : decode cX11_passes 108 = .ok (.aload_n 0, 1) := by decide +kernel
theorem dX11_passes_109 : decode cX11_passes 109 = .ok (.getfield 25, 3) := by decide +kernel
theorem dX11_passes_112 : decode cX11_passes 112 = .ok (.iload 4, 2) := by decide +kernel
theorem dX11_passes_114 : decode cX11_passes 114 = .ok (.iaload, 1) := by decide +kernel
theorem dX11_passes_115 : decode cX11_passes 115 = .ok (.invokestatic 216, 3) := by decide +kernel
theorem dX11_passes_118 : decode cX11_passes 118 = .ok (.iastore, 1) := by decide +kernel
theorem dX11_passes_119 : decode cX11_passes 119 = .ok (.iinc 4 1, 3) := by decide +kernel
theorem dX11_passes_122 : decode cX11_passes 122 = .ok (.goto (-110), 3) := by decide +kernel
theorem dX11_passes_125 : decode cX11_passes 125 = .ok (.iload_n 3, 1) := by decide +kernel
theorem dX11_passes_126 : decode cX11_passes 126 = .ok (.ireturn, 1) := by decide +kernel
def fX11_passes_L24 (p1 : Nat) (p2 : Int32) (v5 : Int32) : Nat → St → Int32 → Int32 → (St → Int32 → Int32 → Option (St × Int32)) → Option (St × Int32)
  | 0, _, _, _, _ => none
  | n + 1, σ6, v7, v8, k => (if (σ6.1 0 7) ≤ v8 then k σ6 v7 v8 else rd LM σ6 p1 ((7 + (8 * v5)) + v8) (fun x9 => jn (fun (σ11 : St) (z12 : Int32) => fX11_passes_L24 p1 p2 v5 n σ11 z12 (v8 + 1) k) (fun k10 => (if x9 ≤ 0 then k10 σ6 v7 else rd LM σ6 p1 ((7 + (8 * v5)) + v8) (fun x13 => rd LM σ6 p1 0 (fun x14 => (if x14 < x13 then k10 σ6 v7 else wr LM σ6 p1 ((7 + (8 * v5)) + v8) 0 (fun σ15 => k10 σ15 (v7 + 1)))))))))
def fX11_passes_L12 (p1 : Nat) (p2 : Int32) : Nat → St → Int32 → Int32 → (St → Int32 → Int32 → Option (St × Int32)) → Option (St × Int32)
  | 0, _, _, _, _ => none
  | n + 1, σ3, v4, v5, k => (if (σ3.1 0 4) ≤ v5 then k σ3 v4 v5 else fX11_passes_L24 p1 p2 v5 10000 σ3 v4 0 (fun σ16 v17 v18 => rd LM σ16 5 v5 (fun x19 => rd LM σ16 p1 (1 + v5) (fun x20 => cl (fX11_has σ16 p2 v5) (fun σ21 r22 => jn (fun (y24 : Int32) => cl (fX11_nextPurse σ21 x19 x20 y24) (fun σ25 r26 => wr LM σ25 p1 (1 + v5) r26 (fun σ27 => fX11_passes_L12 p1 p2 n σ27 v17 (v5 + 1) k))) (fun k23 => (if r22 = 0 then rd LM σ21 6 v5 (fun x28 => k23 x28) else k23 0)))))))
def fX11_passes (σ : St) (p1 : Nat) (p2 : Int32) : Option (St × Int32) := rd LM σ p1 0 (fun x1 => wr LM σ p1 0 (x1 + 1) (fun σ2 => fX11_passes_L12 p1 p2 10000 σ2 0 0 (fun σ29 v30 v31 => some (σ29, v30))))
set_option maxHeartbeats 4000000 in
set_option maxRecDepth 100000 in
theorem ctX11_passes (l : Launch) (g : GG) (σ : St) (p1 : Nat) (p2 : Int32) (σ' : St) (r : Int32) (hE : fX11_passes σ p1 p2 = some (σ', r)) : MI 25 entM l g yX11_passes (Cond.code yX11_passes cX11_passes 7 (some .int) :: gtbl) (rmD 3) [.ref (g.2.1 0), .ref (g.2.1 p1), .int p2] σ σ' r := by
  refine mi_i (own := RX11) (lv := [(0, .ref (g.2.1 0)), (1, .ref (g.2.1 p1)), (2, .int p2)]) (by decide) rfl (Nat.le_of_ble_eq_true rfl) rfl (fun p e s m below meth c ls args Q A H0 H locs C hK hA hQ hs hl => ?_)
  have hx := C.1
  have hb := C.2.1
  unfold fX11_passes at hE
  refine lv_iconst (v := 0) hx hb dX11_passes_0 (by decide) ?_
  refine lv_istore_n (lv' := [(3, .int 0), (0, .ref (g.2.1 0)), (1, .ref (g.2.1 p1)), (2, .int p2)]) hx hb dX11_passes_1 rfl hl (by decide) rfl (fun ls hl => ?_)
  refine lv_aload_n hx hb dX11_passes_2 rfl (lv_at hl 2 rfl) ?_
  refine lv_iconst (v := 0) hx hb dX11_passes_3 (by decide) ?_
  refine lv_dup2_11 hx hb dX11_passes_4 rfl rfl ?_
  obtain ⟨hi, x1, ex1, hE⟩ := rd_w hE
  refine y_ald layM C hK hs hi ex1 dX11_passes_5 ?_
  refine lv_iconst (v := 1) hx hb dX11_passes_6 (by decide) ?_
  refine lv_iadd hx hb dX11_passes_7 ?_
  obtain ⟨hi, σ2, eσ2, hE⟩ := wr_w hE
  refine y_ast layM C hK hs hi eσ2 dX11_passes_8 (fun H locs hs => ?_)
  refine lv_iconst (v := 0) hx hb dX11_passes_9 (by decide) ?_
  refine lv_istore (lv' := [(4, .int 0), (3, .int 0), (0, .ref (g.2.1 0)), (1, .ref (g.2.1 p1)), (2, .int p2)]) hx hb dX11_passes_10 hl (by decide) rfl (fun ls hl => ?_)
  have hL12 : ∀ (n : Nat) (σ3 : St) (v4 : Int32) (v5 : Int32) (k : St → Int32 → Int32 → Option (St × Int32)), fX11_passes_L12 p1 p2 n σ3 v4 v5 k = some (σ', r) → (∀ (σ3 : St) (v4 : Int32) (v5 : Int32) (H : Heap) (locs : List Loc) (ls : Array Slot), HW 25 entM g A H0 H locs σ3 → lv_has ls 7 [(0, .ref (g.2.1 0)), (1, .ref (g.2.1 p1)), (2, .int p2), (3, .int v4), (4, .int v5)] → k σ3 v4 v5 = some (σ', r) → W p l e (rmD 3) s m args below meth c H locs 0 0 Q (F0 m 125 ls [])) → ∀ (H : Heap) (locs : List Loc) (ls : Array Slot), HW 25 entM g A H0 H locs σ3 → lv_has ls 7 [(0, .ref (g.2.1 0)), (1, .ref (g.2.1 p1)), (2, .int p2), (3, .int v4), (4, .int v5)] → W p l e (rmD 3) s m args below meth c H locs 0 0 Q (F0 m 12 ls []) := by
    intro n
    induction n with
    | zero =>
      intro σ3 v4 v5 k hE
      rw [fX11_passes_L12] at hE
      exact no_e hE
    | succ n ih =>
      intro σ3 v4 v5 k hE hk H locs ls hs hl
      rw [fX11_passes_L12] at hE
      refine lv_iload hx hb dX11_passes_12 (lv_at hl 4 rfl) ?_
      refine lv_aload_n hx hb dX11_passes_14 rfl (lv_at hl 0 rfl) ?_
      refine gf_X11_160_0 C hK hs dX11_passes_15 ?_
      refine lv_icmp_ge (tgt := 125) hx hb dX11_passes_18 (by decide) (fun hc => ?_) (fun hc => ?_)
      · have hE := if_t hc hE
        exact hk σ3 v4 v5 _ _ _ hs (lv_sub hl [0, 1, 2, 3, 4] rfl) hE
      · have hE := if_f hc hE
        refine lv_iconst (v := 0) hx hb dX11_passes_21 (by decide) ?_
        refine lv_istore (lv' := [(5, .int 0), (0, .ref (g.2.1 0)), (1, .ref (g.2.1 p1)), (2, .int p2), (3, .int v4), (4, .int v5)]) hx hb dX11_passes_22 hl (by decide) rfl (fun ls hl => ?_)
        have hL24 : ∀ (n : Nat) (σ6 : St) (v7 : Int32) (v8 : Int32) (k : St → Int32 → Int32 → Option (St × Int32)), fX11_passes_L24 p1 p2 v5 n σ6 v7 v8 k = some (σ', r) → (∀ (σ6 : St) (v7 : Int32) (v8 : Int32) (H : Heap) (locs : List Loc) (ls : Array Slot), HW 25 entM g A H0 H locs σ6 → lv_has ls 7 [(0, .ref (g.2.1 0)), (1, .ref (g.2.1 p1)), (2, .int p2), (3, .int v7), (4, .int v5), (5, .int v8)] → k σ6 v7 v8 = some (σ', r) → W p l e (rmD 3) s m args below meth c H locs 0 0 Q (F0 m 77 ls [])) → ∀ (H : Heap) (locs : List Loc) (ls : Array Slot), HW 25 entM g A H0 H locs σ6 → lv_has ls 7 [(0, .ref (g.2.1 0)), (1, .ref (g.2.1 p1)), (2, .int p2), (3, .int v7), (4, .int v5), (5, .int v8)] → W p l e (rmD 3) s m args below meth c H locs 0 0 Q (F0 m 24 ls []) := by
          intro n
          induction n with
          | zero =>
            intro σ6 v7 v8 k hE
            rw [fX11_passes_L24] at hE
            exact no_e hE
          | succ n ih =>
            intro σ6 v7 v8 k hE hk H locs ls hs hl
            rw [fX11_passes_L24] at hE
            refine lv_iload hx hb dX11_passes_24 (lv_at hl 5 rfl) ?_
            refine lv_aload_n hx hb dX11_passes_26 rfl (lv_at hl 0 rfl) ?_
            refine gf_X11_163_0 C hK hs dX11_passes_27 ?_
            refine lv_icmp_ge (tgt := 77) hx hb dX11_passes_30 (by decide) (fun hc => ?_) (fun hc => ?_)
            · have hE := if_t hc hE
              exact hk σ6 v7 v8 _ _ _ hs (lv_sub hl [0, 1, 2, 3, 4, 5] rfl) hE
            · have hE := if_f hc hE
              refine lv_bipush (v := 7) hx hb dX11_passes_33 (by decide) ?_
              refine lv_bipush (v := 8) hx hb dX11_passes_35 (by decide) ?_
              refine lv_iload hx hb dX11_passes_37 (lv_at hl 4 rfl) ?_
              refine lv_imul hx hb dX11_passes_39 ?_
              refine lv_iadd hx hb dX11_passes_40 ?_
              refine lv_iload hx hb dX11_passes_41 (lv_at hl 5 rfl) ?_
              refine lv_iadd hx hb dX11_passes_43 ?_
              refine lv_istore (lv' := [(6, .int ((7 + (8 * v5)) + v8)), (0, .ref (g.2.1 0)), (1, .ref (g.2.1 p1)), (2, .int p2), (3, .int v7), (4, .int v5), (5, .int v8)]) hx hb dX11_passes_44 hl (by decide) rfl (fun ls hl => ?_)
              refine lv_aload_n hx hb dX11_passes_46 rfl (lv_at hl 2 rfl) ?_
              refine lv_iload hx hb dX11_passes_47 (lv_at hl 0 rfl) ?_
              obtain ⟨hi, x9, ex9, hE⟩ := rd_w hE
              refine y_ald layM C hK hs hi ex9 dX11_passes_49 ?_
              refine jn2 hE (fun k10 hE hk10 => ?_)
              have hJk10 : ∀ (σ11 : St) (z12 : Int32) (H : Heap) (locs : List Loc) (ls : Array Slot), HW 25 entM g A H0 H locs σ11 → lv_has ls 7 [(0, .ref (g.2.1 0)), (1, .ref (g.2.1 p1)), (2, .int p2), (3, .int z12), (4, .int v5), (5, .int v8)] → k10 σ11 z12 = some (σ', r) → W p l e (rmD 3) s m args below meth c H locs 0 0 Q (F0 m 71 ls []) := by
                intro σ11 z12 H locs ls hs hl hE
                have hE := hk10 _ _ hE
                refine lv_iinc (v := v8 + 1) (lv' := [(5, .int (v8 + 1)), (0, .ref (g.2.1 0)), (1, .ref (g.2.1 p1)), (2, .int p2), (3, .int z12), (4, .int v5)]) hx hb dX11_passes_71 hl (k := 5) rfl rfl (by decide) rfl (fun ls hl => ?_)
                refine lv_goto (tgt := 24) hx hb dX11_passes_74 (by decide) ?_
                exact ih _ _ _ _ hE hk _ _ _ hs (lv_sub hl [1, 2, 3, 4, 5, 0] rfl)
              refine lv_if_le (tgt := 71) hx hb dX11_passes_50 (by decide) (fun hc => ?_) (fun hc => ?_)
              · have hE := if_t hc hE
                exact hJk10 σ6 v7 _ _ _ hs (lv_sub hl [1, 2, 3, 4, 5, 6] rfl) hE
              · have hE := if_f hc hE
                refine lv_aload_n hx hb dX11_passes_53 rfl (lv_at hl 2 rfl) ?_
                refine lv_iload hx hb dX11_passes_54 (lv_at hl 0 rfl) ?_
                obtain ⟨hi, x13, ex13, hE⟩ := rd_w hE
                refine y_ald layM C hK hs hi ex13 dX11_passes_56 ?_
                refine lv_aload_n hx hb dX11_passes_57 rfl (lv_at hl 2 rfl) ?_
                refine lv_iconst (v := 0) hx hb dX11_passes_58 (by decide) ?_
                obtain ⟨hi, x14, ex14, hE⟩ := rd_w hE
                refine y_ald layM C hK hs hi ex14 dX11_passes_59 ?_
                refine lv_icmp_gt (tgt := 71) hx hb dX11_passes_60 (by decide) (fun hc => ?_) (fun hc => ?_)
                · have hE := if_t hc hE
                  exact hJk10 σ6 v7 _ _ _ hs (lv_sub hl [1, 2, 3, 4, 5, 6] rfl) hE
                · have hE := if_f hc hE
                  refine lv_aload_n hx hb dX11_passes_63 rfl (lv_at hl 2 rfl) ?_
                  refine lv_iload hx hb dX11_passes_64 (lv_at hl 0 rfl) ?_
                  refine lv_iconst (v := 0) hx hb dX11_passes_66 (by decide) ?_
                  obtain ⟨hi, σ15, eσ15, hE⟩ := wr_w hE
                  refine y_ast layM C hK hs hi eσ15 dX11_passes_67 (fun H locs hs => ?_)
                  refine lv_iinc (v := v7 + 1) (lv' := [(3, .int (v7 + 1)), (6, .int ((7 + (8 * v5)) + v8)), (0, .ref (g.2.1 0)), (1, .ref (g.2.1 p1)), (2, .int p2), (4, .int v5), (5, .int v8)]) hx hb dX11_passes_68 hl (k := 4) rfl rfl (by decide) rfl (fun ls hl => ?_)
                  exact hJk10 σ15 (v7 + 1) _ _ _ hs (lv_sub hl [2, 3, 4, 0, 5, 6] rfl) hE
        refine hL24 _ _ _ _ _ hE (fun σ16 v17 v18 H locs ls hs hl hE => ?_) H locs ls hs (lv_sub hl [1, 2, 3, 4, 5, 0] rfl)
        refine lv_aload_n hx hb dX11_passes_77 rfl (lv_at hl 1 rfl) ?_
        refine lv_iconst (v := 1) hx hb dX11_passes_78 (by decide) ?_
        refine lv_iload hx hb dX11_passes_79 (lv_at hl 4 rfl) ?_
        refine lv_iadd hx hb dX11_passes_81 ?_
        refine lv_aload_n hx hb dX11_passes_82 rfl (lv_at hl 0 rfl) ?_
        refine gf_X11_22_0 C hK hs dX11_passes_83 ?_
        refine lv_iload hx hb dX11_passes_86 (lv_at hl 4 rfl) ?_
        obtain ⟨hi, x19, ex19, hE⟩ := rd_w hE
        refine y_ald layM C hK hs hi ex19 dX11_passes_88 ?_
        refine lv_aload_n hx hb dX11_passes_89 rfl (lv_at hl 1 rfl) ?_
        refine lv_iconst (v := 1) hx hb dX11_passes_90 (by decide) ?_
        refine lv_iload hx hb dX11_passes_91 (lv_at hl 4 rfl) ?_
        refine lv_iadd hx hb dX11_passes_93 ?_
        obtain ⟨hi, x20, ex20, hE⟩ := rd_w hE
        refine y_ald layM C hK hs hi ex20 dX11_passes_94 ?_
        refine lv_iload_n hx hb dX11_passes_95 rfl (lv_at hl 2 rfl) ?_
        refine lv_iload hx hb dX11_passes_96 (lv_at hl 4 rfl) ?_
        obtain ⟨σ21, r22, hE1, hE⟩ := cl_e hE
        refine x_cis (As := [.int p2, .int v5]) (rest := [.int x20, .int x19, .int (1 + v5), .ref (g.2.1 p1)]) C hl.1 hK hs hA ⟨Nat.le_refl 0, Nat.le_refl 0⟩ (ctX11_has l g _ _ _ _ _ hE1) (cw_X11_227 C ⟨Nat.le_of_ble_eq_true rfl, Nat.le_of_ble_eq_true rfl⟩) rfl rfl (Nat.le_of_ble_eq_true rfl) dX11_passes_98 (fun H locs hs => ?_)
        refine jn1 hE (fun k23 hE hk23 => ?_)
        have hJk23 : ∀ (y24 : Int32) (H : Heap) (locs : List Loc) (ls : Array Slot), HW 25 entM g A H0 H locs σ21 → lv_has ls 7 [(0, .ref (g.2.1 0)), (1, .ref (g.2.1 p1)), (2, .int p2), (3, .int v17), (4, .int v5)] → k23 y24 = some (σ', r) → W p l e (rmD 3) s m args below meth c H locs 0 0 Q (F0 m 115 ls [.int y24, .int x20, .int x19, .int (1 + v5), .ref (g.2.1 p1)]) := by
          intro y24 H locs ls hs hl hE
          have hE := hk23 _ hE
          obtain ⟨σ25, r26, hE1, hE⟩ := cl_e hE
          refine x_cis (As := [.int x19, .int x20, .int y24]) (rest := [.int (1 + v5), .ref (g.2.1 p1)]) C hl.1 hK hs hA ⟨Nat.le_refl 0, Nat.le_refl 0⟩ (ctX11_nextPurse l g _ _ _ _ _ _ hE1) (cw_X11_216 C ⟨Nat.le_of_ble_eq_true rfl, Nat.le_of_ble_eq_true rfl⟩) rfl rfl (Nat.le_of_ble_eq_true rfl) dX11_passes_115 (fun H locs hs => ?_)
          obtain ⟨hi, σ27, eσ27, hE⟩ := wr_w hE
          refine y_ast layM C hK hs hi eσ27 dX11_passes_118 (fun H locs hs => ?_)
          refine lv_iinc (v := v5 + 1) (lv' := [(4, .int (v5 + 1)), (0, .ref (g.2.1 0)), (1, .ref (g.2.1 p1)), (2, .int p2), (3, .int v17)]) hx hb dX11_passes_119 hl (k := 4) rfl rfl (by decide) rfl (fun ls hl => ?_)
          refine lv_goto (tgt := 12) hx hb dX11_passes_122 (by decide) ?_
          exact ih _ _ _ _ hE hk _ _ _ hs (lv_sub hl [1, 2, 3, 4, 0] rfl)
        refine lv_if_eq (tgt := 108) hx hb dX11_passes_101 (by decide) (fun hc => ?_) (fun hc => ?_)
        · have hE := if_t hc hE
          refine lv_aload_n hx hb dX11_passes_108 rfl (lv_at hl 0 rfl) ?_
          refine gf_X11_25_0 C hK hs dX11_passes_109 ?_
          refine lv_iload hx hb dX11_passes_112 (lv_at hl 4 rfl) ?_
          obtain ⟨hi, x28, ex28, hE⟩ := rd_w hE
          refine y_ald layM C hK hs hi ex28 dX11_passes_114 ?_
          exact hJk23 x28 _ _ _ hs (lv_sub hl [0, 1, 2, 3, 4] rfl) hE
        · have hE := if_f hc hE
          refine lv_iconst (v := 0) hx hb dX11_passes_104 (by decide) ?_
          refine lv_goto (tgt := 115) hx hb dX11_passes_105 (by decide) ?_
          exact hJk23 0 _ _ _ hs (lv_sub hl [0, 1, 2, 3, 4] rfl) hE
  refine hL12 _ _ _ _ _ hE (fun σ29 v30 v31 H locs ls hs hl hE => ?_) H locs ls hs (lv_sub hl [2, 3, 4, 1, 0] rfl)
  refine lv_iload_n hx hb dX11_passes_125 rfl (lv_at hl 3 rfl) ?_
  exact hQ hs hE dX11_passes_126
theorem dX11_buy_0 : decode cX11_buy 0 = .ok (.aload_n 0, 1) := by decide +kernel
theorem dX11_buy_1 : decode cX11_buy 1 = .ok (.iload_n 1, 1) := by decide +kernel
theorem dX11_buy_2 : decode cX11_buy 2 = .ok (.invokevirtual 201, 3) := by decide +kernel
theorem dX11_buy_5 : decode cX11_buy 5 = .ok (.ifCond .eq 11, 3) := by decide +kernel
theorem dX11_buy_8 : decode cX11_buy 8 = .ok (.aload_n 0, 1) := by decide +kernel
theorem dX11_buy_9 : decode cX11_buy 9 = .ok (.iload_n 2, 1) := by decide +kernel
theorem dX11_buy_10 : decode cX11_buy 10 = .ok (.invokevirtual 191, 3) := by decide +kernel
theorem dX11_buy_13 : decode cX11_buy 13 = .ok (.ifCond .ne 5, 3) := by decide +kernel
theorem dX11_buy_16 : decode cX11_buy 16 = .ok (.iconst (-1), 1) := by decide +kernel
theorem dX11_buy_17 : decode cX11_buy 17 = .ok (.ireturn, 1) := by decide +kernel
theorem dX11_buy_18 : decode cX11_buy 18 = .ok (.aload_n 0, 1) := by decide +kernel
theorem dX11_buy_19 : decode cX11_buy 19 = .ok (.getfield 37, 3) := by decide +kernel
theorem dX11_buy_22 : decode cX11_buy 22 = .ok (.iload_n 1, 1) := by decide +kernel
theorem dX11_buy_23 : decode cX11_buy 23 = .ok (.iload_n 2, 1) := by decide +kernel
theorem dX11_buy_24 : decode cX11_buy 24 = .ok (.invokestatic 184, 3) := by decide +kernel
theorem dX11_buy_27 : decode cX11_buy 27 = .ok (.ifCond .eq 6, 3) := by decide +kernel
theorem dX11_buy_30 : decode cX11_buy 30 = .ok (.bipush (-4), 2) := by decide +kernel
theorem dX11_buy_32 : decode cX11_buy 32 = .ok (.ireturn, 1) := by decide +kernel
theorem dX11_buy_33 : decode cX11_buy 33 = .ok (.aload_n 0, 1) := by decide +kernel
theorem dX11_buy_34 : decode cX11_buy 34 = .ok (.getfield 37, 3) := by decide +kernel
theorem dX11_buy_37 : decode cX11_buy 37 = .ok (.iconst 1, 1) := by decide +kernel
theorem dX11_buy_38 : decode cX11_buy 38 = .ok (.iload_n 1, 1) := by decide +kernel
theorem dX11_buy_39 : decode cX11_buy 39 = .ok (.iadd, 1) := by decide +kernel
theorem dX11_buy_40 : decode cX11_buy 40 = .ok (.iaload, 1) := by decide +kernel
theorem dX11_buy_41 : decode cX11_buy 41 = .ok (.aload_n 0, 1) := by decide +kernel
theorem dX11_buy_42 : decode cX11_buy 42 = .ok (.iload_n 1, 1) := by decide +kernel
theorem dX11_buy_43 : decode cX11_buy 43 = .ok (.iload_n 2, 1) := by decide +kernel
theorem dX11_buy_44 : decode cX11_buy 44 = .ok (.invokevirtual 207, 3) := by decide +kernel
theorem dX11_buy_47 : decode cX11_buy 47 = .ok (.if_icmp .ge 6, 3) := by decide +kernel
theorem dX11_buy_50 : decode cX11_buy 50 = .ok (.bipush (-6), 2) := by decide +kernel
theorem dX11_buy_52 : decode cX11_buy 52 = .ok (.ireturn, 1) := by decide +kernel
theorem dX11_buy_53 : decode cX11_buy 53 = .ok (.aload_n 0, 1) := by decide +kernel
theorem dX11_buy_54 : decode cX11_buy 54 = .ok (.getfield 174, 3) := by decide +kernel
theorem dX11_buy_57 : decode cX11_buy 57 = .ok (.bipush 40, 2) := by decide +kernel
theorem dX11_buy_59 : decode cX11_buy 59 = .ok (.if_icmp .ne 6, 3) := by decide +kernel
theorem dX11_buy_62 : decode cX11_buy 62 = .ok (.bipush (-2), 2) := by decide +kernel
theorem dX11_buy_64 : decode cX11_buy 64 = .ok (.ireturn, 1) := by decide +kernel
theorem dX11_buy_65 : decode cX11_buy 65 = .ok (.aload_n 0, 1) := by decide +kernel
theorem dX11_buy_66 : decode cX11_buy 66 = .ok (.invokevirtual 230, 3) := by decide +kernel
theorem dX11_buy_69 : decode cX11_buy 69 = .ok (.aload_n 0, 1) := by decide +kernel
theorem dX11_buy_70 : decode cX11_buy 70 = .ok (.iload_n 1, 1) := by decide +kernel
theorem dX11_buy_71 : decode cX11_buy 71 = .ok (.iload_n 2, 1) := by decide +kernel
theorem dX11_buy_72 : decode cX11_buy 72 = .ok (.invokevirtual 233, 3) := by decide +kernel
theorem dX11_buy_75 : decode cX11_buy 75 = .ok (.aload_n 0, 1) := by decide +kernel
theorem dX11_buy_76 : decode cX11_buy 76 = .ok (.getfield 37, 3) := by decide +kernel
theorem dX11_buy_79 : decode cX11_buy 79 = .ok (.iconst 1, 1) := by decide +kernel
theorem dX11_buy_80 : decode cX11_buy 80 = .ok (.iload_n 1, 1) := by decide +kernel
theorem dX11_buy_81 : decode cX11_buy 81 = .ok (.iadd, 1) := by decide +kernel
theorem dX11_buy_82 : decode cX11_buy 82 = .ok (.iaload, 1) := by decide +kernel
theorem dX11_buy_83 : decode cX11_buy 83 = .ok (.ireturn, 1) := by decide +kernel
def fX11_buy (σ : St) (p1 : Int32) (p2 : Int32) : Option (St × Int32) := cl (fX11_isHouse σ p1) (fun σ1 r2 => (if r2 = 0 then some (σ1, (-1)) else cl (fX11_isColour σ1 p2) (fun σ3 r4 => (if r4 = 0 then some (σ3, (-1)) else cl (fX11_owns σ3 10 p1 p2) (fun σ5 r6 => (if r6 = 0 then rd LM σ5 10 (1 + p1) (fun x7 => cl (fX11_pays σ5 p1 p2) (fun σ8 r9 => (if r9 ≤ x7 then (if (σ8.1 0 14) = 40 then some (σ8, (-2)) else cl (fX11_notes σ8) (fun σ10 r11 => cl (fX11_buys σ10 p1 p2) (fun σ12 r13 => rd LM σ12 10 (1 + p1) (fun x14 => some (σ12, x14))))) else some (σ8, (-6))))) else some (σ5, (-4))))))))
set_option maxHeartbeats 4000000 in
set_option maxRecDepth 100000 in
theorem ctX11_buy (l : Launch) (g : GG) (σ : St) (p1 : Int32) (p2 : Int32) (σ' : St) (r : Int32) (hE : fX11_buy σ p1 p2 = some (σ', r)) : MI 25 entM l g yX11_buy (Cond.code yX11_buy cX11_buy 3 (some .int) :: gtbl) (rmD 5) [.ref (g.2.1 0), .int p1, .int p2] σ σ' r := by
  refine mi_i (own := RX11) (lv := [(0, .ref (g.2.1 0)), (1, .int p1), (2, .int p2)]) (by decide) rfl (Nat.le_of_ble_eq_true rfl) rfl (fun p e s m below meth c ls args Q A H0 H locs C hK hA hQ hs hl => ?_)
  have hx := C.1
  have hb := C.2.1
  unfold fX11_buy at hE
  refine lv_aload_n hx hb dX11_buy_0 rfl (lv_at hl 0 rfl) ?_
  refine lv_iload_n hx hb dX11_buy_1 rfl (lv_at hl 1 rfl) ?_
  obtain ⟨σ1, r2, hE1, hE⟩ := cl_e hE
  refine x_civ (As := [.int p1]) (rest := []) C hl.1 hK hs hA ⟨Nat.le_refl 0, Nat.le_refl 0⟩ (ctX11_isHouse l g _ _ _ _ hE1) (cw_X11_201 C ⟨Nat.le_of_ble_eq_true rfl, Nat.le_of_ble_eq_true rfl⟩) (hs.recv hK 0 (by decide) rfl rfl) rfl rfl (Nat.le_of_ble_eq_true rfl) dX11_buy_2 (fun H locs hs => ?_)
  refine lv_if_eq (tgt := 16) hx hb dX11_buy_5 (by decide) (fun hc => ?_) (fun hc => ?_)
  · have hE := if_t hc hE
    refine lv_iconst (v := (-1)) hx hb dX11_buy_16 (by decide) ?_
    exact hQ hs hE dX11_buy_17
  · have hE := if_f hc hE
    refine lv_aload_n hx hb dX11_buy_8 rfl (lv_at hl 0 rfl) ?_
    refine lv_iload_n hx hb dX11_buy_9 rfl (lv_at hl 2 rfl) ?_
    obtain ⟨σ3, r4, hE1, hE⟩ := cl_e hE
    refine x_civ (As := [.int p2]) (rest := []) C hl.1 hK hs hA ⟨Nat.le_refl 0, Nat.le_refl 0⟩ (ctX11_isColour l g _ _ _ _ hE1) (cw_X11_191 C ⟨Nat.le_of_ble_eq_true rfl, Nat.le_of_ble_eq_true rfl⟩) (hs.recv hK 0 (by decide) rfl rfl) rfl rfl (Nat.le_of_ble_eq_true rfl) dX11_buy_10 (fun H locs hs => ?_)
    refine lv_if_ne (tgt := 18) hx hb dX11_buy_13 (by decide) (fun hc => ?_) (fun hc => ?_)
    · have hE := if_f hc hE
      refine lv_aload_n hx hb dX11_buy_18 rfl (lv_at hl 0 rfl) ?_
      refine gf_X11_37_0 C hK hs dX11_buy_19 ?_
      refine lv_iload_n hx hb dX11_buy_22 rfl (lv_at hl 1 rfl) ?_
      refine lv_iload_n hx hb dX11_buy_23 rfl (lv_at hl 2 rfl) ?_
      obtain ⟨σ5, r6, hE1, hE⟩ := cl_e hE
      refine x_cis (As := [.ref (g.2.1 10), .int p1, .int p2]) (rest := []) C hl.1 hK hs hA ⟨Nat.le_refl 0, Nat.le_refl 0⟩ (ctX11_owns l g _ _ _ _ _ _ hE1) (cw_X11_184 C ⟨Nat.le_of_ble_eq_true rfl, Nat.le_of_ble_eq_true rfl⟩) rfl rfl (Nat.le_of_ble_eq_true rfl) dX11_buy_24 (fun H locs hs => ?_)
      refine lv_if_eq (tgt := 33) hx hb dX11_buy_27 (by decide) (fun hc => ?_) (fun hc => ?_)
      · have hE := if_t hc hE
        refine lv_aload_n hx hb dX11_buy_33 rfl (lv_at hl 0 rfl) ?_
        refine gf_X11_37_0 C hK hs dX11_buy_34 ?_
        refine lv_iconst (v := 1) hx hb dX11_buy_37 (by decide) ?_
        refine lv_iload_n hx hb dX11_buy_38 rfl (lv_at hl 1 rfl) ?_
        refine lv_iadd hx hb dX11_buy_39 ?_
        obtain ⟨hi, x7, ex7, hE⟩ := rd_w hE
        refine y_ald layM C hK hs hi ex7 dX11_buy_40 ?_
        refine lv_aload_n hx hb dX11_buy_41 rfl (lv_at hl 0 rfl) ?_
        refine lv_iload_n hx hb dX11_buy_42 rfl (lv_at hl 1 rfl) ?_
        refine lv_iload_n hx hb dX11_buy_43 rfl (lv_at hl 2 rfl) ?_
        obtain ⟨σ8, r9, hE1, hE⟩ := cl_e hE
        refine x_civ (As := [.int p1, .int p2]) (rest := [.int x7]) C hl.1 hK hs hA ⟨Nat.le_refl 0, Nat.le_refl 0⟩ (ctX11_pays l g _ _ _ _ _ hE1) (cw_X11_207 C ⟨Nat.le_of_ble_eq_true rfl, Nat.le_of_ble_eq_true rfl⟩) (hs.recv hK 0 (by decide) rfl rfl) rfl rfl (Nat.le_of_ble_eq_true rfl) dX11_buy_44 (fun H locs hs => ?_)
        refine lv_icmp_ge (tgt := 53) hx hb dX11_buy_47 (by decide) (fun hc => ?_) (fun hc => ?_)
        · have hE := if_t hc hE
          refine lv_aload_n hx hb dX11_buy_53 rfl (lv_at hl 0 rfl) ?_
          refine gf_X11_174_0 C hK hs dX11_buy_54 ?_
          refine lv_bipush (v := 40) hx hb dX11_buy_57 (by decide) ?_
          refine lv_icmp_ne (tgt := 65) hx hb dX11_buy_59 (by decide) (fun hc => ?_) (fun hc => ?_)
          · have hE := if_f hc hE
            refine lv_aload_n hx hb dX11_buy_65 rfl (lv_at hl 0 rfl) ?_
            obtain ⟨σ10, r11, hE1, hE⟩ := cl_e hE
            refine x_cvv (As := []) (rest := []) C hl.1 hK hs hA ⟨Nat.le_refl 0, Nat.le_refl 0⟩ (ctX11_notes l g _  _ _ hE1) (cw_X11_230 C ⟨Nat.le_of_ble_eq_true rfl, Nat.le_of_ble_eq_true rfl⟩) (hs.recv hK 0 (by decide) rfl rfl) rfl rfl (Nat.le_of_ble_eq_true rfl) dX11_buy_66 (fun H locs hs => ?_)
            refine lv_aload_n hx hb dX11_buy_69 rfl (lv_at hl 0 rfl) ?_
            refine lv_iload_n hx hb dX11_buy_70 rfl (lv_at hl 1 rfl) ?_
            refine lv_iload_n hx hb dX11_buy_71 rfl (lv_at hl 2 rfl) ?_
            obtain ⟨σ12, r13, hE1, hE⟩ := cl_e hE
            refine x_cvv (As := [.int p1, .int p2]) (rest := []) C hl.1 hK hs hA ⟨Nat.le_refl 0, Nat.le_refl 0⟩ (ctX11_buys l g _ _ _ _ _ hE1) (cw_X11_233 C ⟨Nat.le_of_ble_eq_true rfl, Nat.le_of_ble_eq_true rfl⟩) (hs.recv hK 0 (by decide) rfl rfl) rfl rfl (Nat.le_of_ble_eq_true rfl) dX11_buy_72 (fun H locs hs => ?_)
            refine lv_aload_n hx hb dX11_buy_75 rfl (lv_at hl 0 rfl) ?_
            refine gf_X11_37_0 C hK hs dX11_buy_76 ?_
            refine lv_iconst (v := 1) hx hb dX11_buy_79 (by decide) ?_
            refine lv_iload_n hx hb dX11_buy_80 rfl (lv_at hl 1 rfl) ?_
            refine lv_iadd hx hb dX11_buy_81 ?_
            obtain ⟨hi, x14, ex14, hE⟩ := rd_w hE
            refine y_ald layM C hK hs hi ex14 dX11_buy_82 ?_
            exact hQ hs hE dX11_buy_83
          · have hE := if_t hc hE
            refine lv_bipush (v := (-2)) hx hb dX11_buy_62 (by decide) ?_
            exact hQ hs hE dX11_buy_64
        · have hE := if_f hc hE
          refine lv_bipush (v := (-6)) hx hb dX11_buy_50 (by decide) ?_
          exact hQ hs hE dX11_buy_52
      · have hE := if_f hc hE
        refine lv_bipush (v := (-4)) hx hb dX11_buy_30 (by decide) ?_
        exact hQ hs hE dX11_buy_32
    · have hE := if_t hc hE
      refine lv_iconst (v := (-1)) hx hb dX11_buy_16 (by decide) ?_
      exact hQ hs hE dX11_buy_17
theorem dX11_month_0 : decode cX11_month 0 = .ok (.aload_n 0, 1) := by decide +kernel
theorem dX11_month_1 : decode cX11_month 1 = .ok (.getfield 160, 3) := by decide +kernel
theorem dX11_month_4 : decode cX11_month 4 = .ok (.ifCond .eq 14, 3) := by decide +kernel
theorem dX11_month_7 : decode cX11_month 7 = .ok (.aload_n 0, 1) := by decide +kernel
theorem dX11_month_8 : decode cX11_month 8 = .ok (.getfield 37, 3) := by decide +kernel
theorem dX11_month_11 : decode cX11_month 11 = .ok (.iconst 0, 1) := by decide +kernel
theorem dX11_month_12 : decode cX11_month 12 = .ok (.iaload, 1) := by decide +kernel
theorem dX11_month_13 : decode cX11_month 13 = .ok (.bipush 99, 2) := by decide +kernel
theorem dX11_month_15 : decode cX11_month 15 = .ok (.if_icmp .ne 6, 3) := by decide +kernel
theorem dX11_month_18 : decode cX11_month 18 = .ok (.bipush (-4), 2) := by decide +kernel
theorem dX11_month_20 : decode cX11_month 20 = .ok (.ireturn, 1) := by decide +kernel
theorem dX11_month_21 : decode cX11_month 21 = .ok (.aload_n 0, 1) := by decide +kernel
theorem dX11_month_22 : decode cX11_month 22 = .ok (.getfield 174, 3) := by decide +kernel
theorem dX11_month_25 : decode cX11_month 25 = .ok (.bipush 40, 2) := by decide +kernel
theorem dX11_month_27 : decode cX11_month 27 = .ok (.if_icmp .ne 6, 3) := by decide +kernel
theorem dX11_month_30 : decode cX11_month 30 = .ok (.bipush (-2), 2) := by decide +kernel
theorem dX11_month_32 : decode cX11_month 32 = .ok (.ireturn, 1) := by decide +kernel
theorem dX11_month_33 : decode cX11_month 33 = .ok (.aload_n 0, 1) := by decide +kernel
theorem dX11_month_34 : decode cX11_month 34 = .ok (.invokevirtual 230, 3) := by decide +kernel
theorem dX11_month_37 : decode cX11_month 37 = .ok (.aload_n 0, 1) := by decide +kernel
theorem dX11_month_38 : decode cX11_month 38 = .ok (.aload_n 0, 1) := by decide +kernel
theorem dX11_month_39 : decode cX11_month 39 = .ok (.getfield 37, 3) := by decide +kernel
theorem dX11_month_42 : decode cX11_month 42 = .ok (.iconst 0, 1) := by decide +kernel
theorem dX11_month_43 : decode cX11_month 43 = .ok (.invokevirtual 237, 3) := by decide +kernel
theorem dX11_month_46 : decode cX11_month 46 = .ok (.ireturn, 1) := by decide +kernel
def fX11_month (σ : St) : Option (St × Int32) := (if (σ.1 0 4) = 0 then some (σ, (-4)) else rd LM σ 10 0 (fun x1 => (if x1 = 99 then some (σ, (-4)) else (if (σ.1 0 14) = 40 then some (σ, (-2)) else cl (fX11_notes σ) (fun σ2 r3 => cl (fX11_passes σ2 10 0) (fun σ4 r5 => some (σ4, r5)))))))
set_option maxHeartbeats 4000000 in
set_option maxRecDepth 100000 in
theorem ctX11_month (l : Launch) (g : GG) (σ : St) (σ' : St) (r : Int32) (hE : fX11_month σ  = some (σ', r)) : MI 25 entM l g yX11_month (Cond.code yX11_month cX11_month 1 (some .int) :: gtbl) (rmD 4) [.ref (g.2.1 0)] σ σ' r := by
  refine mi_i (own := RX11) (lv := [(0, .ref (g.2.1 0))]) (by decide) rfl (Nat.le_of_ble_eq_true rfl) rfl (fun p e s m below meth c ls args Q A H0 H locs C hK hA hQ hs hl => ?_)
  have hx := C.1
  have hb := C.2.1
  unfold fX11_month at hE
  refine lv_aload_n hx hb dX11_month_0 rfl (lv_at hl 0 rfl) ?_
  refine gf_X11_160_0 C hK hs dX11_month_1 ?_
  refine lv_if_eq (tgt := 18) hx hb dX11_month_4 (by decide) (fun hc => ?_) (fun hc => ?_)
  · have hE := if_t hc hE
    refine lv_bipush (v := (-4)) hx hb dX11_month_18 (by decide) ?_
    exact hQ hs hE dX11_month_20
  · have hE := if_f hc hE
    refine lv_aload_n hx hb dX11_month_7 rfl (lv_at hl 0 rfl) ?_
    refine gf_X11_37_0 C hK hs dX11_month_8 ?_
    refine lv_iconst (v := 0) hx hb dX11_month_11 (by decide) ?_
    obtain ⟨hi, x1, ex1, hE⟩ := rd_w hE
    refine y_ald layM C hK hs hi ex1 dX11_month_12 ?_
    refine lv_bipush (v := 99) hx hb dX11_month_13 (by decide) ?_
    refine lv_icmp_ne (tgt := 21) hx hb dX11_month_15 (by decide) (fun hc => ?_) (fun hc => ?_)
    · have hE := if_f hc hE
      refine lv_aload_n hx hb dX11_month_21 rfl (lv_at hl 0 rfl) ?_
      refine gf_X11_174_0 C hK hs dX11_month_22 ?_
      refine lv_bipush (v := 40) hx hb dX11_month_25 (by decide) ?_
      refine lv_icmp_ne (tgt := 33) hx hb dX11_month_27 (by decide) (fun hc => ?_) (fun hc => ?_)
      · have hE := if_f hc hE
        refine lv_aload_n hx hb dX11_month_33 rfl (lv_at hl 0 rfl) ?_
        obtain ⟨σ2, r3, hE1, hE⟩ := cl_e hE
        refine x_cvv (As := []) (rest := []) C hl.1 hK hs hA ⟨Nat.le_refl 0, Nat.le_refl 0⟩ (ctX11_notes l g _  _ _ hE1) (cw_X11_230 C ⟨Nat.le_of_ble_eq_true rfl, Nat.le_of_ble_eq_true rfl⟩) (hs.recv hK 0 (by decide) rfl rfl) rfl rfl (Nat.le_of_ble_eq_true rfl) dX11_month_34 (fun H locs hs => ?_)
        refine lv_aload_n hx hb dX11_month_37 rfl (lv_at hl 0 rfl) ?_
        refine lv_aload_n hx hb dX11_month_38 rfl (lv_at hl 0 rfl) ?_
        refine gf_X11_37_0 C hK hs dX11_month_39 ?_
        refine lv_iconst (v := 0) hx hb dX11_month_42 (by decide) ?_
        obtain ⟨σ4, r5, hE1, hE⟩ := cl_e hE
        refine x_civ (As := [.ref (g.2.1 10), .int 0]) (rest := []) C hl.1 hK hs hA ⟨Nat.le_refl 0, Nat.le_refl 0⟩ (ctX11_passes l g _ _ _ _ _ hE1) (cw_X11_237 C ⟨Nat.le_of_ble_eq_true rfl, Nat.le_of_ble_eq_true rfl⟩) (hs.recv hK 0 (by decide) rfl rfl) rfl rfl (Nat.le_of_ble_eq_true rfl) dX11_month_43 (fun H locs hs => ?_)
        exact hQ hs hE dX11_month_46
      · have hE := if_t hc hE
        refine lv_bipush (v := (-2)) hx hb dX11_month_30 (by decide) ?_
        exact hQ hs hE dX11_month_32
    · have hE := if_t hc hE
      refine lv_bipush (v := (-4)) hx hb dX11_month_18 (by decide) ?_
      exact hQ hs hE dX11_month_20
