theorem dX10_mid_0 : decode cX10_mid 0 = .ok (.iload_n 1, 1) := by decide +kernel
theorem dX10_mid_1 : decode cX10_mid 1 = .ok (.iload_n 2, 1) := by decide +kernel
theorem dX10_mid_2 : decode cX10_mid 2 = .ok (.invokestatic 298, 3) := by decide +kernel
theorem dX10_mid_5 : decode cX10_mid 5 = .ok (.ifCond .ne 5, 3) := by decide +kernel
theorem dX10_mid_8 : decode cX10_mid 8 = .ok (.iconst (-1), 1) := by decide +kernel
theorem dX10_mid_9 : decode cX10_mid 9 = .ok (.ireturn, 1) := by decide +kernel
theorem dX10_mid_10 : decode cX10_mid 10 = .ok (.aload_n 0, 1) := by decide +kernel
theorem dX10_mid_11 : decode cX10_mid 11 = .ok (.getfield 46, 3) := by decide +kernel
theorem dX10_mid_14 : decode cX10_mid 14 = .ok (.getfield 138, 3) := by decide +kernel
theorem dX10_mid_17 : decode cX10_mid 17 = .ok (.ifCond .ne 6, 3) := by decide +kernel
theorem dX10_mid_20 : decode cX10_mid 20 = .ok (.bipush (-4), 2) := by decide +kernel
theorem dX10_mid_22 : decode cX10_mid 22 = .ok (.ireturn, 1) := by decide +kernel
theorem dX10_mid_23 : decode cX10_mid 23 = .ok (.aload_n 0, 1) := by decide +kernel
theorem dX10_mid_24 : decode cX10_mid 24 = .ok (.getfield 64, 3) := by decide +kernel
theorem dX10_mid_27 : decode cX10_mid 27 = .ok (.aload_n 0, 1) := by decide +kernel
theorem dX10_mid_28 : decode cX10_mid 28 = .ok (.getfield 39, 3) := by decide +kernel
theorem dX10_mid_31 : decode cX10_mid 31 = .ok (.iload_n 1, 1) := by decide +kernel
theorem dX10_mid_32 : decode cX10_mid 32 = .ok (.iload_n 2, 1) := by decide +kernel
theorem dX10_mid_33 : decode cX10_mid 33 = .ok (.invokevirtual 305, 3) := by decide +kernel
theorem dX10_mid_36 : decode cX10_mid 36 = .ok (.iconst 1, 1) := by decide +kernel
theorem dX10_mid_37 : decode cX10_mid 37 = .ok (.ireturn, 1) := by decide +kernel
def fX10_mid (σ : St) (p1 : Int32) (p2 : Int32) : Option (St × Int32) := cl (fX10_isChance σ p1 p2) (fun σ1 r2 => (if r2 = 0 then some (σ1, (-1)) else (if (σ1.1 26 7) = 0 then some (σ1, (-4)) else cl (fX0_tellMean σ1 p1 p2) (fun σ3 r4 => some (σ3, 1)))))
set_option maxHeartbeats 4000000 in
set_option maxRecDepth 100000 in
theorem ctX10_mid (l : Launch) (g : GG) (σ : St) (p1 : Int32) (p2 : Int32) (σ' : St) (r : Int32) (hE : fX10_mid σ p1 p2 = some (σ', r)) : MI 52 entC l g yX10_mid (Cond.code yX10_mid cX10_mid 3 (some .int) :: gtbl) (rmD 5) [.ref (g.2.1 0), .int p1, .int p2] σ σ' r := by
  refine mi_i (own := RX10) (lv := [(0, .ref (g.2.1 0)), (1, .int p1), (2, .int p2)]) (by decide) rfl (Nat.le_of_ble_eq_true rfl) rfl (fun p e s m below meth c ls args Q A H0 H locs C hK hA hQ hs hl => ?_)
  have hx := C.1
  have hb := C.2.1
  unfold fX10_mid at hE
  refine lv_iload_n hx hb dX10_mid_0 rfl (lv_at hl 1 rfl) ?_
  refine lv_iload_n hx hb dX10_mid_1 rfl (lv_at hl 2 rfl) ?_
  obtain ⟨σ1, r2, hE1, hE⟩ := cl_e hE
  refine x_cis (As := [.int p1, .int p2]) (rest := []) C hl.1 hK hs hA ⟨Nat.le_refl 0, Nat.le_refl 0⟩ (ctX10_isChance l g _ _ _ _ _ hE1) (cw_X10_298 C ⟨Nat.le_of_ble_eq_true rfl, Nat.le_of_ble_eq_true rfl⟩) rfl rfl (Nat.le_of_ble_eq_true rfl) dX10_mid_2 (fun H locs hs => ?_)
  refine lv_if_ne (tgt := 10) hx hb dX10_mid_5 (by decide) (fun hc => ?_) (fun hc => ?_)
  · have hE := if_f hc hE
    refine lv_aload_n hx hb dX10_mid_10 rfl (lv_at hl 0 rfl) ?_
    refine gf_X10_46_0 C hK hs dX10_mid_11 ?_
    refine gf_X10_138_26 C hK hs dX10_mid_14 ?_
    refine lv_if_ne (tgt := 23) hx hb dX10_mid_17 (by decide) (fun hc => ?_) (fun hc => ?_)
    · have hE := if_f hc hE
      refine lv_aload_n hx hb dX10_mid_23 rfl (lv_at hl 0 rfl) ?_
      refine gf_X10_64_0 C hK hs dX10_mid_24 ?_
      refine lv_aload_n hx hb dX10_mid_27 rfl (lv_at hl 0 rfl) ?_
      refine gf_X10_39_0 C hK hs dX10_mid_28 ?_
      refine lv_iload_n hx hb dX10_mid_31 rfl (lv_at hl 1 rfl) ?_
      refine lv_iload_n hx hb dX10_mid_32 rfl (lv_at hl 2 rfl) ?_
      obtain ⟨σ3, r4, hE1, hE⟩ := cl_e hE
      refine x_cvv (As := [.ref (g.2.1 25), .int p1, .int p2]) (rest := []) C hl.1 hK hs hA ⟨Nat.le_refl 0, Nat.le_refl 0⟩ (ctX0_tellMean l g _ _ _ _ _ hE1) (cw_X10_305 C ⟨Nat.le_of_ble_eq_true rfl, Nat.le_of_ble_eq_true rfl⟩) (hs.recv hK 48 (by decide) rfl rfl) rfl rfl (Nat.le_of_ble_eq_true rfl) dX10_mid_33 (fun H locs hs => ?_)
      refine lv_iconst (v := 1) hx hb dX10_mid_36 (by decide) ?_
      exact hQ hs hE dX10_mid_37
    · have hE := if_t hc hE
      refine lv_bipush (v := (-4)) hx hb dX10_mid_20 (by decide) ?_
      exact hQ hs hE dX10_mid_22
  · have hE := if_t hc hE
    refine lv_iconst (v := (-1)) hx hb dX10_mid_8 (by decide) ?_
    exact hQ hs hE dX10_mid_9
theorem dX10_deedBy_0 : decode cX10_deedBy 0 = .ok (.aload_n 0, 1) := by decide +kernel
theorem dX10_deedBy_1 : decode cX10_deedBy 1 = .ok (.getfield 46, 3) := by decide +kernel
theorem dX10_deedBy_4 : decode cX10_deedBy 4 = .ok (.getfield 138, 3) := by decide +kernel
theorem dX10_deedBy_7 : decode cX10_deedBy 7 = .ok (.ifCond .le 13, 3) := by decide +kernel
theorem dX10_deedBy_10 : decode cX10_deedBy 10 = .ok (.aload_n 0, 1) := by decide +kernel
theorem dX10_deedBy_11 : decode cX10_deedBy 11 = .ok (.getfield 46, 3) := by decide +kernel
theorem dX10_deedBy_14 : decode cX10_deedBy 14 = .ok (.getfield 253, 3) := by decide +kernel
theorem dX10_deedBy_17 : decode cX10_deedBy 17 = .ok (.ifCond .gt 12, 3) := by decide +kernel
theorem dX10_deedBy_20 : decode cX10_deedBy 20 = .ok (.iconst 0, 1) := by decide +kernel
theorem dX10_deedBy_21 : decode cX10_deedBy 21 = .ok (.iconst 0, 1) := by decide +kernel
theorem dX10_deedBy_22 : decode cX10_deedBy 22 = .ok (.iconst 0, 1) := by decide +kernel
theorem dX10_deedBy_23 : decode cX10_deedBy 23 = .ok (.iconst 0, 1) := by decide +kernel
theorem dX10_deedBy_24 : decode cX10_deedBy 24 = .ok (.iconst 0, 1) := by decide +kernel
theorem dX10_deedBy_25 : decode cX10_deedBy 25 = .ok (.invokestatic 193, 3) := by decide +kernel
theorem dX10_deedBy_28 : decode cX10_deedBy 28 = .ok (.ireturn, 1) := by decide +kernel
theorem dX10_deedBy_29 : decode cX10_deedBy 29 = .ok (.iload_n 1, 1) := by decide +kernel
theorem dX10_deedBy_30 : decode cX10_deedBy 30 = .ok (.bipush 8, 2) := by decide +kernel
theorem dX10_deedBy_32 : decode cX10_deedBy 32 = .ok (.idiv, 1) := by decide +kernel
theorem dX10_deedBy_33 : decode cX10_deedBy 33 = .ok (.aload_n 0, 1) := by decide +kernel
theorem dX10_deedBy_34 : decode cX10_deedBy 34 = .ok (.getfield 46, 3) := by decide +kernel
theorem dX10_deedBy_37 : decode cX10_deedBy 37 = .ok (.getfield 138, 3) := by decide +kernel
theorem dX10_deedBy_40 : decode cX10_deedBy 40 = .ok (.irem, 1) := by decide +kernel
theorem dX10_deedBy_41 : decode cX10_deedBy 41 = .ok (.istore_n 2, 1) := by decide +kernel
theorem dX10_deedBy_42 : decode cX10_deedBy 42 = .ok (.iload_n 1, 1) := by decide +kernel
theorem dX10_deedBy_43 : decode cX10_deedBy 43 = .ok (.bipush 8, 2) := by decide +kernel
theorem dX10_deedBy_45 : decode cX10_deedBy 45 = .ok (.irem, 1) := by decide +kernel
theorem dX10_deedBy_46 : decode cX10_deedBy 46 = .ok (.istore_n 3, 1) := by decide +kernel
theorem dX10_deedBy_47 : decode cX10_deedBy 47 = .ok (.iload_n 3, 1) := by decide +kernel
theorem dX10_deedBy_48 : decode cX10_deedBy 48 = .ok (.iconst 1, 1) := by decide +kernel
theorem dX10_deedBy_49 : decode cX10_deedBy 49 = .ok (.if_icmp .gt 28, 3) := by decide +kernel
theorem dX10_deedBy_52 : decode cX10_deedBy 52 = .ok (.aload_n 0, 1) := by decide +kernel
theorem dX10_deedBy_53 : decode cX10_deedBy 53 = .ok (.getfield 39, 3) := by decide +kernel
theorem dX10_deedBy_56 : decode cX10_deedBy 56 = .ok (.getfield 200, 3) := by decide +kernel
theorem dX10_deedBy_59 : decode cX10_deedBy 59 = .ok (.bipush 99, 2) := by decide +kernel
theorem dX10_deedBy_61 : decode cX10_deedBy 61 = .ok (.if_icmp .ge 7, 3) := by decide +kernel
theorem dX10_deedBy_64 : decode cX10_deedBy 64 = .ok (.iconst 1, 1) := by decide +kernel
theorem dX10_deedBy_65 : decode cX10_deedBy 65 = .ok (.goto 4, 3) := by decide +kernel
theorem dX10_deedBy_68 : decode cX10_deedBy 68 = .ok (.iconst 0, 1) := by decide +kernel
theorem dX10_deedBy_69 : decode cX10_deedBy 69 = .ok (.iconst 0, 1) := by decide +kernel
theorem dX10_deedBy_70 : decode cX10_deedBy 70 = .ok (.iconst 0, 1) := by decide +kernel
theorem dX10_deedBy_71 : decode cX10_deedBy 71 = .ok (.iconst 0, 1) := by decide +kernel
theorem dX10_deedBy_72 : decode cX10_deedBy 72 = .ok (.iconst 0, 1) := by decide +kernel
theorem dX10_deedBy_73 : decode cX10_deedBy 73 = .ok (.invokestatic 193, 3) := by decide +kernel
theorem dX10_deedBy_76 : decode cX10_deedBy 76 = .ok (.ireturn, 1) := by decide +kernel
theorem dX10_deedBy_77 : decode cX10_deedBy 77 = .ok (.iload_n 3, 1) := by decide +kernel
theorem dX10_deedBy_78 : decode cX10_deedBy 78 = .ok (.iconst 2, 1) := by decide +kernel
theorem dX10_deedBy_79 : decode cX10_deedBy 79 = .ok (.if_icmp .ne 70, 3) := by decide +kernel
theorem dX10_deedBy_82 : decode cX10_deedBy 82 = .ok (.iload_n 2, 1) := by decide +kernel
theorem dX10_deedBy_83 : decode cX10_deedBy 83 = .ok (.iconst 1, 1) := by decide +kernel
theorem dX10_deedBy_84 : decode cX10_deedBy 84 = .ok (.iadd, 1) := by decide +kernel
theorem dX10_deedBy_85 : decode cX10_deedBy 85 = .ok (.aload_n 0, 1) := by decide +kernel
theorem dX10_deedBy_86 : decode cX10_deedBy 86 = .ok (.getfield 46, 3) := by decide +kernel
theorem dX10_deedBy_89 : decode cX10_deedBy 89 = .ok (.getfield 138, 3) := by decide +kernel
theorem dX10_deedBy_92 : decode cX10_deedBy 92 = .ok (.irem, 1) := by decide +kernel
theorem dX10_deedBy_93 : decode cX10_deedBy 93 = .ok (.istore 4, 2) := by decide +kernel
theorem dX10_deedBy_95 : decode cX10_deedBy 95 = .ok (.aload_n 0, 1) := by decide +kernel
theorem dX10_deedBy_96 : decode cX10_deedBy 96 = .ok (.getfield 39, 3) := by decide +kernel
theorem dX10_deedBy_99 : decode cX10_deedBy 99 = .ok (.getfield 187, 3) := by decide +kernel
theorem dX10_deedBy_102 : decode cX10_deedBy 102 = .ok (.iload_n 2, 1) := by decide +kernel
theorem dX10_deedBy_103 : decode cX10_deedBy 103 = .ok (.iaload, 1) := by decide +kernel
theorem dX10_deedBy_104 : decode cX10_deedBy 104 = .ok (.iconst 1, 1) := by decide +kernel
theorem dX10_deedBy_105 : decode cX10_deedBy 105 = .ok (.if_icmp .lt 22, 3) := by decide +kernel
theorem dX10_deedBy_108 : decode cX10_deedBy 108 = .ok (.aload_n 0, 1) := by decide +kernel
theorem dX10_deedBy_109 : decode cX10_deedBy 109 = .ok (.getfield 39, 3) := by decide +kernel
theorem dX10_deedBy_112 : decode cX10_deedBy 112 = .ok (.getfield 187, 3) := by decide +kernel
theorem dX10_deedBy_115 : decode cX10_deedBy 115 = .ok (.iload 4, 2) := by decide +kernel
theorem dX10_deedBy_117 : decode cX10_deedBy 117 = .ok (.iaload, 1) := by decide +kernel
theorem dX10_deedBy_118 : decode cX10_deedBy 118 = .ok (.bipush 99, 2) := by decide +kernel
theorem dX10_deedBy_120 : decode cX10_deedBy 120 = .ok (.if_icmp .ge 7, 3) := by decide +kernel
theorem dX10_deedBy_123 : decode cX10_deedBy 123 = .ok (.iconst 1, 1) := by decide +kernel
theorem dX10_deedBy_124 : decode cX10_deedBy 124 = .ok (.goto 4, 3) := by decide +kernel
theorem dX10_deedBy_127 : decode cX10_deedBy 127 = .ok (.iconst 0, 1) := by decide +kernel
theorem dX10_deedBy_128 : decode cX10_deedBy 128 = .ok (.istore 5, 2) := by decide +kernel
theorem dX10_deedBy_130 : decode cX10_deedBy 130 = .ok (.iload 5, 2) := by decide +kernel
theorem dX10_deedBy_132 : decode cX10_deedBy 132 = .ok (.ifCond .eq 7, 3) := by decide +kernel
theorem dX10_deedBy_135 : decode cX10_deedBy 135 = .ok (.iconst 4, 1) := by decide +kernel
theorem dX10_deedBy_136 : decode cX10_deedBy 136 = .ok (.goto 4, 3) := by decide +kernel
theorem dX10_deedBy_139 : decode cX10_deedBy 139 = .ok (.iconst 0, 1) := by decide +kernel
theorem dX10_deedBy_140 : decode cX10_deedBy 140 = .ok (.iload_n 2, 1) := by decide +kernel
theorem dX10_deedBy_141 : decode cX10_deedBy 141 = .ok (.iconst 0, 1) := by decide +kernel
theorem dX10_deedBy_142 : decode cX10_deedBy 142 = .ok (.iload 4, 2) := by decide +kernel
theorem dX10_deedBy_144 : decode cX10_deedBy 144 = .ok (.iconst 1, 1) := by decide +kernel
theorem dX10_deedBy_145 : decode cX10_deedBy 145 = .ok (.invokestatic 193, 3) := by decide +kernel
theorem dX10_deedBy_148 : decode cX10_deedBy 148 = .ok (.ireturn, 1) := by decide +kernel
theorem dX10_deedBy_149 : decode cX10_deedBy 149 = .ok (.iload_n 1, 1) := by decide +kernel
theorem dX10_deedBy_150 : decode cX10_deedBy 150 = .ok (.bipush 64, 2) := by decide +kernel
theorem dX10_deedBy_152 : decode cX10_deedBy 152 = .ok (.idiv, 1) := by decide +kernel
theorem dX10_deedBy_153 : decode cX10_deedBy 153 = .ok (.aload_n 0, 1) := by decide +kernel
theorem dX10_deedBy_154 : decode cX10_deedBy 154 = .ok (.getfield 46, 3) := by decide +kernel
theorem dX10_deedBy_157 : decode cX10_deedBy 157 = .ok (.getfield 253, 3) := by decide +kernel
theorem dX10_deedBy_160 : decode cX10_deedBy 160 = .ok (.irem, 1) := by decide +kernel
theorem dX10_deedBy_161 : decode cX10_deedBy 161 = .ok (.istore 4, 2) := by decide +kernel
theorem dX10_deedBy_163 : decode cX10_deedBy 163 = .ok (.aload_n 0, 1) := by decide +kernel
theorem dX10_deedBy_164 : decode cX10_deedBy 164 = .ok (.getfield 39, 3) := by decide +kernel
theorem dX10_deedBy_167 : decode cX10_deedBy 167 = .ok (.iload_n 2, 1) := by decide +kernel
theorem dX10_deedBy_168 : decode cX10_deedBy 168 = .ok (.iload 4, 2) := by decide +kernel
theorem dX10_deedBy_170 : decode cX10_deedBy 170 = .ok (.invokevirtual 159, 3) := by decide +kernel
theorem dX10_deedBy_173 : decode cX10_deedBy 173 = .ok (.ifCond .ne 29, 3) := by decide +kernel
theorem dX10_deedBy_176 : decode cX10_deedBy 176 = .ok (.aload_n 0, 1) := by decide +kernel
theorem dX10_deedBy_177 : decode cX10_deedBy 177 = .ok (.getfield 46, 3) := by decide +kernel
theorem dX10_deedBy_180 : decode cX10_deedBy 180 = .ok (.iload_n 2, 1) := by decide +kernel
theorem dX10_deedBy_181 : decode cX10_deedBy 181 = .ok (.iload 4, 2) := by decide +kernel
theorem dX10_deedBy_183 : decode cX10_deedBy 183 = .ok (.invokevirtual 162, 3) := by decide +kernel
theorem dX10_deedBy_186 : decode cX10_deedBy 186 = .ok (.aload_n 0, 1) := by decide +kernel
theorem dX10_deedBy_187 : decode cX10_deedBy 187 = .ok (.getfield 39, 3) := by decide +kernel
theorem dX10_deedBy_190 : decode cX10_deedBy 190 = .ok (.getfield 187, 3) := by decide +kernel
theorem dX10_deedBy_193 : decode cX10_deedBy 193 = .ok (.iload_n 2, 1) := by decide +kernel
theorem dX10_deedBy_194 : decode cX10_deedBy 194 = .ok (.iaload, 1) := by decide +kernel
theorem dX10_deedBy_195 : decode cX10_deedBy 195 = .ok (.if_icmp .gt 7, 3) := by decide +kernel
theorem dX10_deedBy_198 : decode cX10_deedBy 198 = .ok (.iconst 1, 1) := by decide +kernel
theorem dX10_deedBy_199 : decode cX10_deedBy 199 = .ok (.goto 4, 3) := by decide +kernel
theorem dX10_deedBy_202 : decode cX10_deedBy 202 = .ok (.iconst 0, 1) := by decide +kernel
theorem dX10_deedBy_203 : decode cX10_deedBy 203 = .ok (.istore 5, 2) := by decide +kernel
theorem dX10_deedBy_205 : decode cX10_deedBy 205 = .ok (.iload 5, 2) := by decide +kernel
theorem dX10_deedBy_207 : decode cX10_deedBy 207 = .ok (.ifCond .eq 7, 3) := by decide +kernel
theorem dX10_deedBy_210 : decode cX10_deedBy 210 = .ok (.iconst 2, 1) := by decide +kernel
theorem dX10_deedBy_211 : decode cX10_deedBy 211 = .ok (.goto 4, 3) := by decide +kernel
theorem dX10_deedBy_214 : decode cX10_deedBy 214 = .ok (.iconst 0, 1) := by decide +kernel
theorem dX10_deedBy_215 : decode cX10_deedBy 215 = .ok (.iload_n 2, 1) := by decide +kernel
theorem dX10_deedBy_216 : decode cX10_deedBy 216 = .ok (.iload 4, 2) := by decide +kernel
theorem dX10_deedBy_218 : decode cX10_deedBy 218 = .ok (.iconst 0, 1) := by decide +kernel
theorem dX10_deedBy_219 : decode cX10_deedBy 219 = .ok (.iconst 0, 1) := by decide +kernel
theorem dX10_deedBy_220 : decode cX10_deedBy 220 = .ok (.invokestatic 193, 3) := by decide +kernel
theorem dX10_deedBy_223 : decode cX10_deedBy 223 = .ok (.ireturn, 1) := by decide +kernel
def fX10_deedBy (σ : St) (p1 : Int32) : Option (St × Int32) := jn (cl (fX3_pack σ 0 0 0 0 0) (fun σ2 r3 => some (σ2, r3))) (fun k1 => (if (σ.1 26 7) ≤ 0 then k1 else (if 0 < (σ.1 26 6) then gd (decide (¬ (σ.1 26 7) = 0)) ((if 1 < (p1 - p1 / 8 * 8) then (if (p1 - p1 / 8 * 8) = 2 then gd (decide (¬ (σ.1 26 7) = 0)) (rd LC σ 33 ((p1 / 8) - (p1 / 8) / (σ.1 26 7) * (σ.1 26 7)) (fun x18 => jn (fun (y20 : Int32) => pv (if y20 = 0 then 0 else 4) (fun (y22 : Int32) => cl (fX3_pack σ y22 ((p1 / 8) - (p1 / 8) / (σ.1 26 7) * (σ.1 26 7)) 0 ((((p1 / 8) - (p1 / 8) / (σ.1 26 7) * (σ.1 26 7)) + 1) - (((p1 / 8) - (p1 / 8) / (σ.1 26 7) * (σ.1 26 7)) + 1) / (σ.1 26 7) * (σ.1 26 7)) 1) (fun σ23 r24 => some (σ23, r24)))) (fun k19 => jn (k19 0) (fun k25 => (if x18 < 1 then k25 else rd LC σ 33 ((((p1 / 8) - (p1 / 8) / (σ.1 26 7) * (σ.1 26 7)) + 1) - (((p1 / 8) - (p1 / 8) / (σ.1 26 7) * (σ.1 26 7)) + 1) / (σ.1 26 7) * (σ.1 26 7)) (fun x26 => (if 99 ≤ x26 then k25 else k19 1))))))) else gd (decide (¬ (σ.1 26 6) = 0)) (cl (fX9_has σ ((p1 / 8) - (p1 / 8) / (σ.1 26 7) * (σ.1 26 7)) ((p1 / 64) - (p1 / 64) / (σ.1 26 6) * (σ.1 26 6))) (fun σ4 r5 => jn (fun (σ7 : St) (y8 : Int32) => pv (if y8 = 0 then 0 else 2) (fun (y10 : Int32) => cl (fX3_pack σ7 y10 ((p1 / 8) - (p1 / 8) / (σ.1 26 7) * (σ.1 26 7)) ((p1 / 64) - (p1 / 64) / (σ.1 26 6) * (σ.1 26 6)) 0 0) (fun σ11 r12 => some (σ11, r12)))) (fun k6 => jn (fun (σ14 : St) => k6 σ14 0) (fun k13 => (if r5 = 0 then cl (fX6_pays σ4 ((p1 / 8) - (p1 / 8) / (σ.1 26 7) * (σ.1 26 7)) ((p1 / 64) - (p1 / 64) / (σ.1 26 6) * (σ.1 26 6))) (fun σ15 r16 => rd LC σ15 33 ((p1 / 8) - (p1 / 8) / (σ.1 26 7) * (σ.1 26 7)) (fun x17 => (if x17 < r16 then k13 σ15 else k6 σ15 1))) else k13 σ4)))))) else pv (if 99 ≤ (σ.1 25 3) then 0 else 1) (fun (y28 : Int32) => cl (fX3_pack σ y28 0 0 0 0) (fun σ29 r30 => some (σ29, r30))))) else k1)))
set_option maxHeartbeats 4000000 in
set_option maxRecDepth 100000 in
theorem ctX10_deedBy (l : Launch) (g : GG) (σ : St) (p1 : Int32) (σ' : St) (r : Int32) (hE : fX10_deedBy σ p1 = some (σ', r)) : MI 52 entC l g yX10_deedBy (Cond.code yX10_deedBy cX10_deedBy 6 (some .int) :: gtbl) (rmD 3) [.ref (g.2.1 0), .int p1] σ σ' r := by
  refine mi_i (own := RX10) (lv := [(0, .ref (g.2.1 0)), (1, .int p1)]) (by decide) rfl (Nat.le_of_ble_eq_true rfl) rfl (fun p e s m below meth c ls args Q A H0 H locs C hK hA hQ hs hl => ?_)
  have hx := C.1
  have hb := C.2.1
  unfold fX10_deedBy at hE
  refine lv_aload_n hx hb dX10_deedBy_0 rfl (lv_at hl 0 rfl) ?_
  refine gf_X10_46_0 C hK hs dX10_deedBy_1 ?_
  refine gf_X10_138_26 C hK hs dX10_deedBy_4 ?_
  refine jn0 hE (fun k1 hE hk1 => ?_)
  have hJk1 : ∀  (H : Heap) (locs : List Loc) (ls : Array Slot), HW 52 entC g A H0 H locs σ → lv_has ls 6 [] → k1 = some (σ', r) → W p l e (rmD 3) s m args below meth c H locs 0 0 Q (F0 m 20 ls []) := by
    intro H locs ls hs hl hE
    have hE := hk1 hE
    refine lv_iconst (v := 0) hx hb dX10_deedBy_20 (by decide) ?_
    refine lv_iconst (v := 0) hx hb dX10_deedBy_21 (by decide) ?_
    refine lv_iconst (v := 0) hx hb dX10_deedBy_22 (by decide) ?_
    refine lv_iconst (v := 0) hx hb dX10_deedBy_23 (by decide) ?_
    refine lv_iconst (v := 0) hx hb dX10_deedBy_24 (by decide) ?_
    obtain ⟨σ2, r3, hE1, hE⟩ := cl_e hE
    refine x_cis (As := [.int 0, .int 0, .int 0, .int 0, .int 0]) (rest := []) C hl.1 hK hs hA ⟨Nat.le_refl 0, Nat.le_refl 0⟩ (ctX3_pack l g _ _ _ _ _ _ _ _ hE1) (cw_X10_193 C ⟨Nat.le_of_ble_eq_true rfl, Nat.le_of_ble_eq_true rfl⟩) rfl rfl (Nat.le_of_ble_eq_true rfl) dX10_deedBy_25 (fun H locs hs => ?_)
    exact hQ hs hE dX10_deedBy_28
  refine lv_if_le (tgt := 20) hx hb dX10_deedBy_7 (by decide) (fun hc => ?_) (fun hc => ?_)
  · have hE := if_t hc hE
    exact hJk1  _ _ _ hs (lv_sub hl [] rfl) hE
  · have hE := if_f hc hE
    refine lv_aload_n hx hb dX10_deedBy_10 rfl (lv_at hl 0 rfl) ?_
    refine gf_X10_46_0 C hK hs dX10_deedBy_11 ?_
    refine gf_X10_253_26 C hK hs dX10_deedBy_14 ?_
    refine lv_if_gt (tgt := 29) hx hb dX10_deedBy_17 (by decide) (fun hc => ?_) (fun hc => ?_)
    · have hE := if_t hc hE
      refine lv_iload_n hx hb dX10_deedBy_29 rfl (lv_at hl 1 rfl) ?_
      refine lv_bipush (v := 8) hx hb dX10_deedBy_30 (by decide) ?_
      refine lv_idiv hx hb dX10_deedBy_32 (by decide) ?_
      refine lv_aload_n hx hb dX10_deedBy_33 rfl (lv_at hl 0 rfl) ?_
      refine gf_X10_46_0 C hK hs dX10_deedBy_34 ?_
      refine gf_X10_138_26 C hK hs dX10_deedBy_37 ?_
      obtain ⟨hc, hE⟩ := gd_e hE
      refine lv_irem hx hb dX10_deedBy_40 (of_decide_eq_true hc) ?_
      refine lv_istore_n (lv' := [(2, .int ((p1 / 8) - (p1 / 8) / (σ.1 26 7) * (σ.1 26 7))), (0, .ref (g.2.1 0)), (1, .int p1)]) hx hb dX10_deedBy_41 rfl hl (by decide) rfl (fun ls hl => ?_)
      refine lv_iload_n hx hb dX10_deedBy_42 rfl (lv_at hl 2 rfl) ?_
      refine lv_bipush (v := 8) hx hb dX10_deedBy_43 (by decide) ?_
      refine lv_irem hx hb dX10_deedBy_45 (by decide) ?_
      refine lv_istore_n (lv' := [(3, .int (p1 - p1 / 8 * 8)), (2, .int ((p1 / 8) - (p1 / 8) / (σ.1 26 7) * (σ.1 26 7))), (0, .ref (g.2.1 0)), (1, .int p1)]) hx hb dX10_deedBy_46 rfl hl (by decide) rfl (fun ls hl => ?_)
      refine lv_iload_n hx hb dX10_deedBy_47 rfl (lv_at hl 0 rfl) ?_
      refine lv_iconst (v := 1) hx hb dX10_deedBy_48 (by decide) ?_
      refine lv_icmp_gt (tgt := 77) hx hb dX10_deedBy_49 (by decide) (fun hc => ?_) (fun hc => ?_)
      · have hE := if_t hc hE
        refine lv_iload_n hx hb dX10_deedBy_77 rfl (lv_at hl 0 rfl) ?_
        refine lv_iconst (v := 2) hx hb dX10_deedBy_78 (by decide) ?_
        refine lv_icmp_ne (tgt := 149) hx hb dX10_deedBy_79 (by decide) (fun hc => ?_) (fun hc => ?_)
        · have hE := if_f hc hE
          refine lv_iload_n hx hb dX10_deedBy_149 rfl (lv_at hl 3 rfl) ?_
          refine lv_bipush (v := 64) hx hb dX10_deedBy_150 (by decide) ?_
          refine lv_idiv hx hb dX10_deedBy_152 (by decide) ?_
          refine lv_aload_n hx hb dX10_deedBy_153 rfl (lv_at hl 2 rfl) ?_
          refine gf_X10_46_0 C hK hs dX10_deedBy_154 ?_
          refine gf_X10_253_26 C hK hs dX10_deedBy_157 ?_
          obtain ⟨hc, hE⟩ := gd_e hE
          refine lv_irem hx hb dX10_deedBy_160 (of_decide_eq_true hc) ?_
          refine lv_istore (lv' := [(4, .int ((p1 / 64) - (p1 / 64) / (σ.1 26 6) * (σ.1 26 6))), (3, .int (p1 - p1 / 8 * 8)), (2, .int ((p1 / 8) - (p1 / 8) / (σ.1 26 7) * (σ.1 26 7))), (0, .ref (g.2.1 0)), (1, .int p1)]) hx hb dX10_deedBy_161 hl (by decide) rfl (fun ls hl => ?_)
          refine lv_aload_n hx hb dX10_deedBy_163 rfl (lv_at hl 3 rfl) ?_
          refine gf_X10_39_0 C hK hs dX10_deedBy_164 ?_
          refine lv_iload_n hx hb dX10_deedBy_167 rfl (lv_at hl 2 rfl) ?_
          refine lv_iload hx hb dX10_deedBy_168 (lv_at hl 0 rfl) ?_
          obtain ⟨σ4, r5, hE1, hE⟩ := cl_e hE
          refine x_civ (As := [.int ((p1 / 8) - (p1 / 8) / (σ.1 26 7) * (σ.1 26 7)), .int ((p1 / 64) - (p1 / 64) / (σ.1 26 6) * (σ.1 26 6))]) (rest := []) C hl.1 hK hs hA ⟨Nat.le_refl 0, Nat.le_refl 0⟩ (ctX9_has l g _ _ _ _ _ hE1) (cw_X10_159 C ⟨Nat.le_of_ble_eq_true rfl, Nat.le_of_ble_eq_true rfl⟩) (hs.recv hK 25 (by decide) rfl rfl) rfl rfl (Nat.le_of_ble_eq_true rfl) dX10_deedBy_170 (fun H locs hs => ?_)
          refine jn2 hE (fun k6 hE hk6 => ?_)
          have hJk6 : ∀ (σ7 : St) (y8 : Int32) (H : Heap) (locs : List Loc) (ls : Array Slot), HW 52 entC g A H0 H locs σ7 → lv_has ls 6 [(2, .int ((p1 / 8) - (p1 / 8) / (σ.1 26 7) * (σ.1 26 7))), (4, .int ((p1 / 64) - (p1 / 64) / (σ.1 26 6) * (σ.1 26 6)))] → k6 σ7 y8 = some (σ', r) → W p l e (rmD 3) s m args below meth c H locs 0 0 Q (F0 m 203 ls [.int y8]) := by
            intro σ7 y8 H locs ls hs hl hE
            have hE := hk6 _ _ hE
            refine lv_istore (lv' := [(5, .int y8), (2, .int ((p1 / 8) - (p1 / 8) / (σ.1 26 7) * (σ.1 26 7))), (4, .int ((p1 / 64) - (p1 / 64) / (σ.1 26 6) * (σ.1 26 6)))]) hx hb dX10_deedBy_203 hl (by decide) rfl (fun ls hl => ?_)
            refine lv_iload hx hb dX10_deedBy_205 (lv_at hl 0 rfl) ?_
            refine pvw hE (fun k9 hE hk9 => ?_)
            have hJk9 : ∀ (y10 : Int32) (H : Heap) (locs : List Loc) (ls : Array Slot), HW 52 entC g A H0 H locs σ7 → lv_has ls 6 [(2, .int ((p1 / 8) - (p1 / 8) / (σ.1 26 7) * (σ.1 26 7))), (4, .int ((p1 / 64) - (p1 / 64) / (σ.1 26 6) * (σ.1 26 6)))] → k9 y10 = some (σ', r) → W p l e (rmD 3) s m args below meth c H locs 0 0 Q (F0 m 215 ls [.int y10]) := by
              intro y10 H locs ls hs hl hE
              have hE := hk9 _ hE
              refine lv_iload_n hx hb dX10_deedBy_215 rfl (lv_at hl 0 rfl) ?_
              refine lv_iload hx hb dX10_deedBy_216 (lv_at hl 1 rfl) ?_
              refine lv_iconst (v := 0) hx hb dX10_deedBy_218 (by decide) ?_
              refine lv_iconst (v := 0) hx hb dX10_deedBy_219 (by decide) ?_
              obtain ⟨σ11, r12, hE1, hE⟩ := cl_e hE
              refine x_cis (As := [.int y10, .int ((p1 / 8) - (p1 / 8) / (σ.1 26 7) * (σ.1 26 7)), .int ((p1 / 64) - (p1 / 64) / (σ.1 26 6) * (σ.1 26 6)), .int 0, .int 0]) (rest := []) C hl.1 hK hs hA ⟨Nat.le_refl 0, Nat.le_refl 0⟩ (ctX3_pack l g _ _ _ _ _ _ _ _ hE1) (cw_X10_193 C ⟨Nat.le_of_ble_eq_true rfl, Nat.le_of_ble_eq_true rfl⟩) rfl rfl (Nat.le_of_ble_eq_true rfl) dX10_deedBy_220 (fun H locs hs => ?_)
              exact hQ hs hE dX10_deedBy_223
            refine lv_if_eq (tgt := 214) hx hb dX10_deedBy_207 (by decide) (fun hc => ?_) (fun hc => ?_)
            · have hE := pv_t hc hE
              refine lv_iconst (v := 0) hx hb dX10_deedBy_214 (by decide) ?_
              exact hJk9 0 _ _ _ hs (lv_sub hl [1, 2] rfl) hE
            · have hE := pv_f hc hE
              refine lv_iconst (v := 2) hx hb dX10_deedBy_210 (by decide) ?_
              refine lv_goto (tgt := 215) hx hb dX10_deedBy_211 (by decide) ?_
              exact hJk9 2 _ _ _ hs (lv_sub hl [1, 2] rfl) hE
          refine jn1 hE (fun k13 hE hk13 => ?_)
          have hJk13 : ∀ (σ14 : St) (H : Heap) (locs : List Loc) (ls : Array Slot), HW 52 entC g A H0 H locs σ14 → lv_has ls 6 [(2, .int ((p1 / 8) - (p1 / 8) / (σ.1 26 7) * (σ.1 26 7))), (4, .int ((p1 / 64) - (p1 / 64) / (σ.1 26 6) * (σ.1 26 6)))] → k13 σ14 = some (σ', r) → W p l e (rmD 3) s m args below meth c H locs 0 0 Q (F0 m 202 ls []) := by
            intro σ14 H locs ls hs hl hE
            have hE := hk13 _ hE
            refine lv_iconst (v := 0) hx hb dX10_deedBy_202 (by decide) ?_
            exact hJk6 σ14 0 _ _ _ hs (lv_sub hl [0, 1] rfl) hE
          refine lv_if_ne (tgt := 202) hx hb dX10_deedBy_173 (by decide) (fun hc => ?_) (fun hc => ?_)
          · have hE := if_f hc hE
            exact hJk13 σ4 _ _ _ hs (lv_sub hl [2, 0] rfl) hE
          · have hE := if_t hc hE
            refine lv_aload_n hx hb dX10_deedBy_176 rfl (lv_at hl 3 rfl) ?_
            refine gf_X10_46_0 C hK hs dX10_deedBy_177 ?_
            refine lv_iload_n hx hb dX10_deedBy_180 rfl (lv_at hl 2 rfl) ?_
            refine lv_iload hx hb dX10_deedBy_181 (lv_at hl 0 rfl) ?_
            obtain ⟨σ15, r16, hE1, hE⟩ := cl_e hE
            refine x_civ (As := [.int ((p1 / 8) - (p1 / 8) / (σ.1 26 7) * (σ.1 26 7)), .int ((p1 / 64) - (p1 / 64) / (σ.1 26 6) * (σ.1 26 6))]) (rest := []) C hl.1 hK hs hA ⟨Nat.le_refl 0, Nat.le_refl 0⟩ (ctX6_pays l g _ _ _ _ _ hE1) (cw_X10_162 C ⟨Nat.le_of_ble_eq_true rfl, Nat.le_of_ble_eq_true rfl⟩) (hs.recv hK 26 (by decide) rfl rfl) rfl rfl (Nat.le_of_ble_eq_true rfl) dX10_deedBy_183 (fun H locs hs => ?_)
            refine lv_aload_n hx hb dX10_deedBy_186 rfl (lv_at hl 3 rfl) ?_
            refine gf_X10_39_0 C hK hs dX10_deedBy_187 ?_
            refine gf_X10_187_25 C hK hs dX10_deedBy_190 ?_
            refine lv_iload_n hx hb dX10_deedBy_193 rfl (lv_at hl 2 rfl) ?_
            obtain ⟨hi, x17, ex17, hE⟩ := rd_w hE
            refine y_ald layC C hK hs hi ex17 dX10_deedBy_194 ?_
            refine lv_icmp_gt (tgt := 202) hx hb dX10_deedBy_195 (by decide) (fun hc => ?_) (fun hc => ?_)
            · have hE := if_t hc hE
              exact hJk13 σ15 _ _ _ hs (lv_sub hl [2, 0] rfl) hE
            · have hE := if_f hc hE
              refine lv_iconst (v := 1) hx hb dX10_deedBy_198 (by decide) ?_
              refine lv_goto (tgt := 203) hx hb dX10_deedBy_199 (by decide) ?_
              exact hJk6 σ15 1 _ _ _ hs (lv_sub hl [2, 0] rfl) hE
        · have hE := if_t hc hE
          refine lv_iload_n hx hb dX10_deedBy_82 rfl (lv_at hl 1 rfl) ?_
          refine lv_iconst (v := 1) hx hb dX10_deedBy_83 (by decide) ?_
          refine lv_iadd hx hb dX10_deedBy_84 ?_
          refine lv_aload_n hx hb dX10_deedBy_85 rfl (lv_at hl 2 rfl) ?_
          refine gf_X10_46_0 C hK hs dX10_deedBy_86 ?_
          refine gf_X10_138_26 C hK hs dX10_deedBy_89 ?_
          obtain ⟨hc, hE⟩ := gd_e hE
          refine lv_irem hx hb dX10_deedBy_92 (of_decide_eq_true hc) ?_
          refine lv_istore (lv' := [(4, .int ((((p1 / 8) - (p1 / 8) / (σ.1 26 7) * (σ.1 26 7)) + 1) - (((p1 / 8) - (p1 / 8) / (σ.1 26 7) * (σ.1 26 7)) + 1) / (σ.1 26 7) * (σ.1 26 7))), (3, .int (p1 - p1 / 8 * 8)), (2, .int ((p1 / 8) - (p1 / 8) / (σ.1 26 7) * (σ.1 26 7))), (0, .ref (g.2.1 0)), (1, .int p1)]) hx hb dX10_deedBy_93 hl (by decide) rfl (fun ls hl => ?_)
          refine lv_aload_n hx hb dX10_deedBy_95 rfl (lv_at hl 3 rfl) ?_
          refine gf_X10_39_0 C hK hs dX10_deedBy_96 ?_
          refine gf_X10_187_25 C hK hs dX10_deedBy_99 ?_
          refine lv_iload_n hx hb dX10_deedBy_102 rfl (lv_at hl 2 rfl) ?_
          obtain ⟨hi, x18, ex18, hE⟩ := rd_w hE
          refine y_ald layC C hK hs hi ex18 dX10_deedBy_103 ?_
          refine lv_iconst (v := 1) hx hb dX10_deedBy_104 (by decide) ?_
          refine jn1 hE (fun k19 hE hk19 => ?_)
          have hJk19 : ∀ (y20 : Int32) (H : Heap) (locs : List Loc) (ls : Array Slot), HW 52 entC g A H0 H locs σ → lv_has ls 6 [(2, .int ((p1 / 8) - (p1 / 8) / (σ.1 26 7) * (σ.1 26 7))), (4, .int ((((p1 / 8) - (p1 / 8) / (σ.1 26 7) * (σ.1 26 7)) + 1) - (((p1 / 8) - (p1 / 8) / (σ.1 26 7) * (σ.1 26 7)) + 1) / (σ.1 26 7) * (σ.1 26 7)))] → k19 y20 = some (σ', r) → W p l e (rmD 3) s m args below meth c H locs 0 0 Q (F0 m 128 ls [.int y20]) := by
            intro y20 H locs ls hs hl hE
            have hE := hk19 _ hE
            refine lv_istore (lv' := [(5, .int y20), (2, .int ((p1 / 8) - (p1 / 8) / (σ.1 26 7) * (σ.1 26 7))), (4, .int ((((p1 / 8) - (p1 / 8) / (σ.1 26 7) * (σ.1 26 7)) + 1) - (((p1 / 8) - (p1 / 8) / (σ.1 26 7) * (σ.1 26 7)) + 1) / (σ.1 26 7) * (σ.1 26 7)))]) hx hb dX10_deedBy_128 hl (by decide) rfl (fun ls hl => ?_)
            refine lv_iload hx hb dX10_deedBy_130 (lv_at hl 0 rfl) ?_
            refine pvw hE (fun k21 hE hk21 => ?_)
            have hJk21 : ∀ (y22 : Int32) (H : Heap) (locs : List Loc) (ls : Array Slot), HW 52 entC g A H0 H locs σ → lv_has ls 6 [(2, .int ((p1 / 8) - (p1 / 8) / (σ.1 26 7) * (σ.1 26 7))), (4, .int ((((p1 / 8) - (p1 / 8) / (σ.1 26 7) * (σ.1 26 7)) + 1) - (((p1 / 8) - (p1 / 8) / (σ.1 26 7) * (σ.1 26 7)) + 1) / (σ.1 26 7) * (σ.1 26 7)))] → k21 y22 = some (σ', r) → W p l e (rmD 3) s m args below meth c H locs 0 0 Q (F0 m 140 ls [.int y22]) := by
              intro y22 H locs ls hs hl hE
              have hE := hk21 _ hE
              refine lv_iload_n hx hb dX10_deedBy_140 rfl (lv_at hl 0 rfl) ?_
              refine lv_iconst (v := 0) hx hb dX10_deedBy_141 (by decide) ?_
              refine lv_iload hx hb dX10_deedBy_142 (lv_at hl 1 rfl) ?_
              refine lv_iconst (v := 1) hx hb dX10_deedBy_144 (by decide) ?_
              obtain ⟨σ23, r24, hE1, hE⟩ := cl_e hE
              refine x_cis (As := [.int y22, .int ((p1 / 8) - (p1 / 8) / (σ.1 26 7) * (σ.1 26 7)), .int 0, .int ((((p1 / 8) - (p1 / 8) / (σ.1 26 7) * (σ.1 26 7)) + 1) - (((p1 / 8) - (p1 / 8) / (σ.1 26 7) * (σ.1 26 7)) + 1) / (σ.1 26 7) * (σ.1 26 7)), .int 1]) (rest := []) C hl.1 hK hs hA ⟨Nat.le_refl 0, Nat.le_refl 0⟩ (ctX3_pack l g _ _ _ _ _ _ _ _ hE1) (cw_X10_193 C ⟨Nat.le_of_ble_eq_true rfl, Nat.le_of_ble_eq_true rfl⟩) rfl rfl (Nat.le_of_ble_eq_true rfl) dX10_deedBy_145 (fun H locs hs => ?_)
              exact hQ hs hE dX10_deedBy_148
            refine lv_if_eq (tgt := 139) hx hb dX10_deedBy_132 (by decide) (fun hc => ?_) (fun hc => ?_)
            · have hE := pv_t hc hE
              refine lv_iconst (v := 0) hx hb dX10_deedBy_139 (by decide) ?_
              exact hJk21 0 _ _ _ hs (lv_sub hl [1, 2] rfl) hE
            · have hE := pv_f hc hE
              refine lv_iconst (v := 4) hx hb dX10_deedBy_135 (by decide) ?_
              refine lv_goto (tgt := 140) hx hb dX10_deedBy_136 (by decide) ?_
              exact hJk21 4 _ _ _ hs (lv_sub hl [1, 2] rfl) hE
          refine jn0 hE (fun k25 hE hk25 => ?_)
          have hJk25 : ∀  (H : Heap) (locs : List Loc) (ls : Array Slot), HW 52 entC g A H0 H locs σ → lv_has ls 6 [(2, .int ((p1 / 8) - (p1 / 8) / (σ.1 26 7) * (σ.1 26 7))), (4, .int ((((p1 / 8) - (p1 / 8) / (σ.1 26 7) * (σ.1 26 7)) + 1) - (((p1 / 8) - (p1 / 8) / (σ.1 26 7) * (σ.1 26 7)) + 1) / (σ.1 26 7) * (σ.1 26 7)))] → k25 = some (σ', r) → W p l e (rmD 3) s m args below meth c H locs 0 0 Q (F0 m 127 ls []) := by
            intro H locs ls hs hl hE
            have hE := hk25 hE
            refine lv_iconst (v := 0) hx hb dX10_deedBy_127 (by decide) ?_
            exact hJk19 0 _ _ _ hs (lv_sub hl [0, 1] rfl) hE
          refine lv_icmp_lt (tgt := 127) hx hb dX10_deedBy_105 (by decide) (fun hc => ?_) (fun hc => ?_)
          · have hE := if_t hc hE
            exact hJk25  _ _ _ hs (lv_sub hl [2, 0] rfl) hE
          · have hE := if_f hc hE
            refine lv_aload_n hx hb dX10_deedBy_108 rfl (lv_at hl 3 rfl) ?_
            refine gf_X10_39_0 C hK hs dX10_deedBy_109 ?_
            refine gf_X10_187_25 C hK hs dX10_deedBy_112 ?_
            refine lv_iload hx hb dX10_deedBy_115 (lv_at hl 0 rfl) ?_
            obtain ⟨hi, x26, ex26, hE⟩ := rd_w hE
            refine y_ald layC C hK hs hi ex26 dX10_deedBy_117 ?_
            refine lv_bipush (v := 99) hx hb dX10_deedBy_118 (by decide) ?_
            refine lv_icmp_ge (tgt := 127) hx hb dX10_deedBy_120 (by decide) (fun hc => ?_) (fun hc => ?_)
            · have hE := if_t hc hE
              exact hJk25  _ _ _ hs (lv_sub hl [2, 0] rfl) hE
            · have hE := if_f hc hE
              refine lv_iconst (v := 1) hx hb dX10_deedBy_123 (by decide) ?_
              refine lv_goto (tgt := 128) hx hb dX10_deedBy_124 (by decide) ?_
              exact hJk19 1 _ _ _ hs (lv_sub hl [2, 0] rfl) hE
      · have hE := if_f hc hE
        refine lv_aload_n hx hb dX10_deedBy_52 rfl (lv_at hl 2 rfl) ?_
        refine gf_X10_39_0 C hK hs dX10_deedBy_53 ?_
        refine gf_X10_200_25 C hK hs dX10_deedBy_56 ?_
        refine lv_bipush (v := 99) hx hb dX10_deedBy_59 (by decide) ?_
        refine pvw hE (fun k27 hE hk27 => ?_)
        have hJk27 : ∀ (y28 : Int32) (H : Heap) (locs : List Loc) (ls : Array Slot), HW 52 entC g A H0 H locs σ → lv_has ls 6 [] → k27 y28 = some (σ', r) → W p l e (rmD 3) s m args below meth c H locs 0 0 Q (F0 m 69 ls [.int y28]) := by
          intro y28 H locs ls hs hl hE
          have hE := hk27 _ hE
          refine lv_iconst (v := 0) hx hb dX10_deedBy_69 (by decide) ?_
          refine lv_iconst (v := 0) hx hb dX10_deedBy_70 (by decide) ?_
          refine lv_iconst (v := 0) hx hb dX10_deedBy_71 (by decide) ?_
          refine lv_iconst (v := 0) hx hb dX10_deedBy_72 (by decide) ?_
          obtain ⟨σ29, r30, hE1, hE⟩ := cl_e hE
          refine x_cis (As := [.int y28, .int 0, .int 0, .int 0, .int 0]) (rest := []) C hl.1 hK hs hA ⟨Nat.le_refl 0, Nat.le_refl 0⟩ (ctX3_pack l g _ _ _ _ _ _ _ _ hE1) (cw_X10_193 C ⟨Nat.le_of_ble_eq_true rfl, Nat.le_of_ble_eq_true rfl⟩) rfl rfl (Nat.le_of_ble_eq_true rfl) dX10_deedBy_73 (fun H locs hs => ?_)
          exact hQ hs hE dX10_deedBy_76
        refine lv_icmp_ge (tgt := 68) hx hb dX10_deedBy_61 (by decide) (fun hc => ?_) (fun hc => ?_)
        · have hE := pv_t hc hE
          refine lv_iconst (v := 0) hx hb dX10_deedBy_68 (by decide) ?_
          exact hJk27 0 _ _ _ hs (lv_sub hl [] rfl) hE
        · have hE := pv_f hc hE
          refine lv_iconst (v := 1) hx hb dX10_deedBy_64 (by decide) ?_
          refine lv_goto (tgt := 69) hx hb dX10_deedBy_65 (by decide) ?_
          exact hJk27 1 _ _ _ hs (lv_sub hl [] rfl) hE
    · have hE := if_f hc hE
      exact hJk1  _ _ _ hs (lv_sub hl [] rfl) hE
theorem dX10_lots_0 : decode cX10_lots 0 = .ok (.iload_n 1, 1) := by decide +kernel
theorem dX10_lots_1 : decode cX10_lots 1 = .ok (.iconst 1, 1) := by decide +kernel
theorem dX10_lots_2 : decode cX10_lots 2 = .ok (.if_icmp .lt 21, 3) := by decide +kernel
theorem dX10_lots_5 : decode cX10_lots 5 = .ok (.iload_n 1, 1) := by decide +kernel
theorem dX10_lots_6 : decode cX10_lots 6 = .ok (.bipush 20, 2) := by decide +kernel
theorem dX10_lots_8 : decode cX10_lots 8 = .ok (.if_icmp .gt 15, 3) := by decide +kernel
theorem dX10_lots_11 : decode cX10_lots 11 = .ok (.iload_n 2, 1) := by decide +kernel
theorem dX10_lots_12 : decode cX10_lots 12 = .ok (.iconst 1, 1) := by decide +kernel
theorem dX10_lots_13 : decode cX10_lots 13 = .ok (.if_icmp .lt 10, 3) := by decide +kernel
theorem dX10_lots_16 : decode cX10_lots 16 = .ok (.iload_n 2, 1) := by decide +kernel
theorem dX10_lots_17 : decode cX10_lots 17 = .ok (.ldc_w 309, 3) := by decide +kernel
theorem dX10_lots_20 : decode cX10_lots 20 = .ok (.if_icmp .lt 5, 3) := by decide +kernel
theorem dX10_lots_23 : decode cX10_lots 23 = .ok (.iconst (-1), 1) := by decide +kernel
theorem dX10_lots_24 : decode cX10_lots 24 = .ok (.ireturn, 1) := by decide +kernel
theorem dX10_lots_25 : decode cX10_lots 25 = .ok (.aload_n 0, 1) := by decide +kernel
theorem dX10_lots_26 : decode cX10_lots 26 = .ok (.getfield 46, 3) := by decide +kernel
theorem dX10_lots_29 : decode cX10_lots 29 = .ok (.getfield 138, 3) := by decide +kernel
theorem dX10_lots_32 : decode cX10_lots 32 = .ok (.ifCond .ne 6, 3) := by decide +kernel
theorem dX10_lots_35 : decode cX10_lots 35 = .ok (.bipush (-4), 2) := by decide +kernel
theorem dX10_lots_37 : decode cX10_lots 37 = .ok (.ireturn, 1) := by decide +kernel
theorem dX10_lots_38 : decode cX10_lots 38 = .ok (.aload_n 0, 1) := by decide +kernel
theorem dX10_lots_39 : decode cX10_lots 39 = .ok (.getfield 31, 3) := by decide +kernel
theorem dX10_lots_42 : decode cX10_lots 42 = .ok (.iload_n 1, 1) := by decide +kernel
theorem dX10_lots_43 : decode cX10_lots 43 = .ok (.invokevirtual 190, 3) := by decide +kernel
theorem dX10_lots_46 : decode cX10_lots 46 = .ok (.ifCond .ne 6, 3) := by decide +kernel
theorem dX10_lots_49 : decode cX10_lots 49 = .ok (.bipush (-2), 2) := by decide +kernel
theorem dX10_lots_51 : decode cX10_lots 51 = .ok (.ireturn, 1) := by decide +kernel
theorem dX10_lots_52 : decode cX10_lots 52 = .ok (.iload_n 2, 1) := by decide +kernel
theorem dX10_lots_53 : decode cX10_lots 53 = .ok (.i2l, 1) := by decide +kernel
theorem dX10_lots_54 : decode cX10_lots 54 = .ok (.lstore_n 3, 1) := by decide +kernel
theorem dX10_lots_55 : decode cX10_lots 55 = .ok (.iconst 0, 1) := by decide +kernel
theorem dX10_lots_56 : decode cX10_lots 56 = .ok (.istore 5, 2) := by decide +kernel
theorem dX10_lots_58 : decode cX10_lots 58 = .ok (.iload 5, 2) := by decide +kernel
theorem dX10_lots_60 : decode cX10_lots 60 = .ok (.iload_n 1, 1) := by decide +kernel
theorem dX10_lots_61 : decode cX10_lots 61 = .ok (.if_icmp .ge 32, 3) := by decide +kernel
theorem dX10_lots_64 : decode cX10_lots 64 = .ok (.lload_n 3, 1) := by decide +kernel
theorem dX10_lots_65 : decode cX10_lots 65 = .ok (.ldc2_w 310, 3) := by decide +kernel
theorem dX10_lots_68 : decode cX10_lots 68 = .ok (.lmul, 1) := by decide +kernel
theorem dX10_lots_69 : decode cX10_lots 69 = .ok (.ldc2_w 312, 3) := by decide +kernel
theorem dX10_lots_72 : decode cX10_lots 72 = .ok (.lrem, 1) := by decide +kernel
theorem dX10_lots_73 : decode cX10_lots 73 = .ok (.lstore_n 3, 1) := by decide +kernel
theorem dX10_lots_74 : decode cX10_lots 74 = .ok (.aload_n 0, 1) := by decide +kernel
theorem dX10_lots_75 : decode cX10_lots 75 = .ok (.getfield 31, 3) := by decide +kernel
theorem dX10_lots_78 : decode cX10_lots 78 = .ok (.aload_n 0, 1) := by decide +kernel
theorem dX10_lots_79 : decode cX10_lots 79 = .ok (.lload_n 3, 1) := by decide +kernel
theorem dX10_lots_80 : decode cX10_lots 80 = .ok (.l2i, 1) := by decide +kernel
theorem dX10_lots_81 : decode cX10_lots 81 = .ok (.invokevirtual 314, 3) := by decide +kernel
theorem dX10_lots_84 : decode cX10_lots 84 = .ok (.invokevirtual 197, 3) := by decide +kernel
theorem dX10_lots_87 : decode cX10_lots 87 = .ok (.iinc 5 1, 3) := by decide +kernel
theorem dX10_lots_90 : decode cX10_lots 90 = .ok (.goto (-32), 3) := by decide +kernel
theorem dX10_lots_93 : decode cX10_lots 93 = .ok (.aload_n 0, 1) := by decide +kernel
theorem dX10_lots_94 : decode cX10_lots 94 = .ok (.getfield 39, 3) := by decide +kernel
theorem dX10_lots_97 : decode cX10_lots 97 = .ok (.invokevirtual 203, 3) := by decide +kernel
theorem dX10_lots_100 : decode cX10_lots 100 = .ok (.ireturn, 1) := by decide +kernel
def fX10_lots_L58 (p1 : Int32) : Nat → St → Int64 → Int32 → (St → Int64 → Int32 → Option (St × Int32)) → Option (St × Int32)
  | 0, _, _, _, _ => none
  | n + 1, σ3, v4, v5, k => (if p1 ≤ v5 then k σ3 v4 v5 else cl (fX10_deedBy σ3 (((v4 * 48271) - (v4 * 48271) / 2147483647 * 2147483647).toInt32)) (fun σ6 r7 => cl (fX3_add σ6 r7) (fun σ8 r9 => fX10_lots_L58 p1 n σ8 ((v4 * 48271) - (v4 * 48271) / 2147483647 * 2147483647) (v5 + 1) k)))
def fX10_lots (σ : St) (p1 : Int32) (p2 : Int32) : Option (St × Int32) := (if p1 < 1 then some (σ, (-1)) else (if 20 < p1 then some (σ, (-1)) else (if p2 < 1 then some (σ, (-1)) else (if p2 < 2147483647 then (if (σ.1 26 7) = 0 then some (σ, (-4)) else cl (fX3_hasRoomFor σ p1) (fun σ1 r2 => (if r2 = 0 then some (σ1, (-2)) else fX10_lots_L58 p1 10000 σ1 (p2.toInt64) 0 (fun σ10 v11 v12 => cl (fX9_things σ10) (fun σ13 r14 => some (σ13, r14)))))) else some (σ, (-1))))))
set_option maxHeartbeats 4000000 in
set_option maxRecDepth 100000 in
theorem ctX10_lots (l : Launch) (g : GG) (σ : St) (p1 : Int32) (p2 : Int32) (σ' : St) (r : Int32) (hE : fX10_lots σ p1 p2 = some (σ', r)) : MI 52 entC l g yX10_lots (Cond.code yX10_lots cX10_lots 6 (some .int) :: gtbl) (rmD 6) [.ref (g.2.1 0), .int p1, .int p2] σ σ' r := by
  refine mi_i (own := RX10) (lv := [(0, .ref (g.2.1 0)), (1, .int p1), (2, .int p2)]) (by decide) rfl (Nat.le_of_ble_eq_true rfl) rfl (fun p e s m below meth c ls args Q A H0 H locs C hK hA hQ hs hl => ?_)
  have hx := C.1
  have hb := C.2.1
  unfold fX10_lots at hE
  refine lv_iload_n hx hb dX10_lots_0 rfl (lv_at hl 1 rfl) ?_
  refine lv_iconst (v := 1) hx hb dX10_lots_1 (by decide) ?_
  refine lv_icmp_lt (tgt := 23) hx hb dX10_lots_2 (by decide) (fun hc => ?_) (fun hc => ?_)
  · have hE := if_t hc hE
    refine lv_iconst (v := (-1)) hx hb dX10_lots_23 (by decide) ?_
    exact hQ hs hE dX10_lots_24
  · have hE := if_f hc hE
    refine lv_iload_n hx hb dX10_lots_5 rfl (lv_at hl 1 rfl) ?_
    refine lv_bipush (v := 20) hx hb dX10_lots_6 (by decide) ?_
    refine lv_icmp_gt (tgt := 23) hx hb dX10_lots_8 (by decide) (fun hc => ?_) (fun hc => ?_)
    · have hE := if_t hc hE
      refine lv_iconst (v := (-1)) hx hb dX10_lots_23 (by decide) ?_
      exact hQ hs hE dX10_lots_24
    · have hE := if_f hc hE
      refine lv_iload_n hx hb dX10_lots_11 rfl (lv_at hl 2 rfl) ?_
      refine lv_iconst (v := 1) hx hb dX10_lots_12 (by decide) ?_
      refine lv_icmp_lt (tgt := 23) hx hb dX10_lots_13 (by decide) (fun hc => ?_) (fun hc => ?_)
      · have hE := if_t hc hE
        refine lv_iconst (v := (-1)) hx hb dX10_lots_23 (by decide) ?_
        exact hQ hs hE dX10_lots_24
      · have hE := if_f hc hE
        refine lv_iload_n hx hb dX10_lots_16 rfl (lv_at hl 2 rfl) ?_
        refine lv_ldcw (v := 2147483647) hx hb C.2.2.2.1 (C.2.2.2.2 _ mw_883) dX10_lots_17 ?_
        refine lv_icmp_lt (tgt := 25) hx hb dX10_lots_20 (by decide) (fun hc => ?_) (fun hc => ?_)
        · have hE := if_t hc hE
          refine lv_aload_n hx hb dX10_lots_25 rfl (lv_at hl 0 rfl) ?_
          refine gf_X10_46_0 C hK hs dX10_lots_26 ?_
          refine gf_X10_138_26 C hK hs dX10_lots_29 ?_
          refine lv_if_ne (tgt := 38) hx hb dX10_lots_32 (by decide) (fun hc => ?_) (fun hc => ?_)
          · have hE := if_f hc hE
            refine lv_aload_n hx hb dX10_lots_38 rfl (lv_at hl 0 rfl) ?_
            refine gf_X10_31_0 C hK hs dX10_lots_39 ?_
            refine lv_iload_n hx hb dX10_lots_42 rfl (lv_at hl 1 rfl) ?_
            obtain ⟨σ1, r2, hE1, hE⟩ := cl_e hE
            refine x_civ (As := [.int p1]) (rest := []) C hl.1 hK hs hA ⟨Nat.le_refl 0, Nat.le_refl 0⟩ (ctX3_hasRoomFor l g _ _ _ _ hE1) (cw_X10_190 C ⟨Nat.le_of_ble_eq_true rfl, Nat.le_of_ble_eq_true rfl⟩) (hs.recv hK 24 (by decide) rfl rfl) rfl rfl (Nat.le_of_ble_eq_true rfl) dX10_lots_43 (fun H locs hs => ?_)
            refine lv_if_ne (tgt := 52) hx hb dX10_lots_46 (by decide) (fun hc => ?_) (fun hc => ?_)
            · have hE := if_f hc hE
              refine lv_iload_n hx hb dX10_lots_52 rfl (lv_at hl 2 rfl) ?_
              refine lv_i2l (v := p2.toInt64) hx hb dX10_lots_53 rfl ?_
              refine lv_lstore_n (lv' := [(3, .long (p2.toInt64)), (0, .ref (g.2.1 0)), (1, .int p1), (2, .int p2)]) hx hb dX10_lots_54 rfl hl (by decide) rfl (fun ls hl => ?_)
              refine lv_iconst (v := 0) hx hb dX10_lots_55 (by decide) ?_
              refine lv_istore (lv' := [(5, .int 0), (3, .long (p2.toInt64)), (0, .ref (g.2.1 0)), (1, .int p1), (2, .int p2)]) hx hb dX10_lots_56 hl (by decide) rfl (fun ls hl => ?_)
              have hL58 : ∀ (n : Nat) (σ3 : St) (v4 : Int64) (v5 : Int32) (k : St → Int64 → Int32 → Option (St × Int32)), fX10_lots_L58 p1 n σ3 v4 v5 k = some (σ', r) → (∀ (σ3 : St) (v4 : Int64) (v5 : Int32) (H : Heap) (locs : List Loc) (ls : Array Slot), HW 52 entC g A H0 H locs σ3 → lv_has ls 6 [(0, .ref (g.2.1 0)), (1, .int p1), (3, .long v4), (5, .int v5)] → k σ3 v4 v5 = some (σ', r) → W p l e (rmD 6) s m args below meth c H locs 0 0 Q (F0 m 93 ls [])) → ∀ (H : Heap) (locs : List Loc) (ls : Array Slot), HW 52 entC g A H0 H locs σ3 → lv_has ls 6 [(0, .ref (g.2.1 0)), (1, .int p1), (3, .long v4), (5, .int v5)] → W p l e (rmD 6) s m args below meth c H locs 0 0 Q (F0 m 58 ls []) := by
                intro n
                induction n with
                | zero =>
                  intro σ3 v4 v5 k hE
                  rw [fX10_lots_L58] at hE
                  exact no_e hE
                | succ n ih =>
                  intro σ3 v4 v5 k hE hk H locs ls hs hl
                  rw [fX10_lots_L58] at hE
                  refine lv_iload hx hb dX10_lots_58 (lv_at hl 3 rfl) ?_
                  refine lv_iload_n hx hb dX10_lots_60 rfl (lv_at hl 1 rfl) ?_
                  refine lv_icmp_ge (tgt := 93) hx hb dX10_lots_61 (by decide) (fun hc => ?_) (fun hc => ?_)
                  · have hE := if_t hc hE
                    exact hk σ3 v4 v5 _ _ _ hs (lv_sub hl [0, 1, 2, 3] rfl) hE
                  · have hE := if_f hc hE
                    refine lv_lload_n hx hb dX10_lots_64 rfl (lv_at hl 2 rfl) ?_
                    refine lv_ldc2 (v := 48271) hx hb C.2.2.2.1 (C.2.2.2.2 _ mw_884) dX10_lots_65 ?_
                    refine lv_lmul hx hb dX10_lots_68 ?_
                    refine lv_ldc2 (v := 2147483647) hx hb C.2.2.2.1 (C.2.2.2.2 _ mw_885) dX10_lots_69 ?_
                    refine lv_lrem hx hb dX10_lots_72 (by decide) ?_
                    refine lv_lstore_n (lv' := [(3, .long ((v4 * 48271) - (v4 * 48271) / 2147483647 * 2147483647)), (0, .ref (g.2.1 0)), (1, .int p1), (5, .int v5)]) hx hb dX10_lots_73 rfl hl (by decide) rfl (fun ls hl => ?_)
                    refine lv_aload_n hx hb dX10_lots_74 rfl (lv_at hl 1 rfl) ?_
                    refine gf_X10_31_0 C hK hs dX10_lots_75 ?_
                    refine lv_aload_n hx hb dX10_lots_78 rfl (lv_at hl 1 rfl) ?_
                    refine lv_lload_n hx hb dX10_lots_79 rfl (lv_at hl 0 rfl) ?_
                    refine lv_l2i (v := ((v4 * 48271) - (v4 * 48271) / 2147483647 * 2147483647).toInt32) hx hb dX10_lots_80 rfl ?_
                    obtain ⟨σ6, r7, hE1, hE⟩ := cl_e hE
                    refine x_civ (As := [.int (((v4 * 48271) - (v4 * 48271) / 2147483647 * 2147483647).toInt32)]) (rest := [.ref (g.2.1 24)]) C hl.1 hK hs hA ⟨Nat.le_refl 0, Nat.le_refl 0⟩ (ctX10_deedBy l g _ _ _ _ hE1) (cw_X10_314 C ⟨Nat.le_of_ble_eq_true rfl, Nat.le_of_ble_eq_true rfl⟩) (hs.recv hK 0 (by decide) rfl rfl) rfl rfl (Nat.le_of_ble_eq_true rfl) dX10_lots_81 (fun H locs hs => ?_)
                    obtain ⟨σ8, r9, hE1, hE⟩ := cl_e hE
                    refine x_cvv (As := [.int r7]) (rest := []) C hl.1 hK hs hA ⟨Nat.le_refl 0, Nat.le_refl 0⟩ (ctX3_add l g _ _ _ _ hE1) (cw_X10_197 C ⟨Nat.le_of_ble_eq_true rfl, Nat.le_of_ble_eq_true rfl⟩) (hs.recv hK 24 (by decide) rfl rfl) rfl rfl (Nat.le_of_ble_eq_true rfl) dX10_lots_84 (fun H locs hs => ?_)
                    refine lv_iinc (v := v5 + 1) (lv' := [(5, .int (v5 + 1)), (3, .long ((v4 * 48271) - (v4 * 48271) / 2147483647 * 2147483647)), (0, .ref (g.2.1 0)), (1, .int p1)]) hx hb dX10_lots_87 hl (k := 3) rfl rfl (by decide) rfl (fun ls hl => ?_)
                    refine lv_goto (tgt := 58) hx hb dX10_lots_90 (by decide) ?_
                    exact ih _ _ _ _ hE hk _ _ _ hs (lv_sub hl [2, 3, 1, 0] rfl)
              refine hL58 _ _ _ _ _ hE (fun σ10 v11 v12 H locs ls hs hl hE => ?_) H locs ls hs (lv_sub hl [2, 3, 1, 0] rfl)
              refine lv_aload_n hx hb dX10_lots_93 rfl (lv_at hl 0 rfl) ?_
              refine gf_X10_39_0 C hK hs dX10_lots_94 ?_
              obtain ⟨σ13, r14, hE1, hE⟩ := cl_e hE
              refine x_civ (As := []) (rest := []) C hl.1 hK hs hA ⟨Nat.le_refl 0, Nat.le_refl 0⟩ (ctX9_things l g _  _ _ hE1) (cw_X10_203 C ⟨Nat.le_of_ble_eq_true rfl, Nat.le_of_ble_eq_true rfl⟩) (hs.recv hK 25 (by decide) rfl rfl) rfl rfl (Nat.le_of_ble_eq_true rfl) dX10_lots_97 (fun H locs hs => ?_)
              exact hQ hs hE dX10_lots_100
            · have hE := if_t hc hE
              refine lv_bipush (v := (-2)) hx hb dX10_lots_49 (by decide) ?_
              exact hQ hs hE dX10_lots_51
          · have hE := if_t hc hE
            refine lv_bipush (v := (-4)) hx hb dX10_lots_35 (by decide) ?_
            exact hQ hs hE dX10_lots_37
        · have hE := if_f hc hE
          refine lv_iconst (v := (-1)) hx hb dX10_lots_23 (by decide) ?_
          exact hQ hs hE dX10_lots_24
theorem dX10_asked_0 : decode cX10_asked 0 = .ok (.aload_n 0, 1) := by decide +kernel
theorem dX10_asked_1 : decode cX10_asked 1 = .ok (.getfield 95, 3) := by decide +kernel
theorem dX10_asked_4 : decode cX10_asked 4 = .ok (.ireturn, 1) := by decide +kernel
def fX10_asked (σ : St) : Option (St × Int32) := some (σ, σ.1 0 11)
set_option maxHeartbeats 4000000 in
set_option maxRecDepth 100000 in
theorem ctX10_asked (l : Launch) (g : GG) (σ : St) (σ' : St) (r : Int32) (hE : fX10_asked σ  = some (σ', r)) : MI 52 entC l g yX10_asked (Cond.code yX10_asked cX10_asked 1 (some .int) :: gtbl) (rmD 1) [.ref (g.2.1 0)] σ σ' r := by
  refine mi_i (own := RX10) (lv := [(0, .ref (g.2.1 0))]) (by decide) rfl (Nat.le_of_ble_eq_true rfl) rfl (fun p e s m below meth c ls args Q A H0 H locs C hK hA hQ hs hl => ?_)
  have hx := C.1
  have hb := C.2.1
  unfold fX10_asked at hE
  refine lv_aload_n hx hb dX10_asked_0 rfl (lv_at hl 0 rfl) ?_
  refine gf_X10_95_0 C hK hs dX10_asked_1 ?_
  exact hQ hs hE dX10_asked_4
theorem dX10_upper_0 : decode cX10_upper 0 = .ok (.aload_n 0, 1) := by decide +kernel
theorem dX10_upper_1 : decode cX10_upper 1 = .ok (.getfield 64, 3) := by decide +kernel
theorem dX10_upper_4 : decode cX10_upper 4 = .ok (.getfield 317, 3) := by decide +kernel
theorem dX10_upper_7 : decode cX10_upper 7 = .ok (.lreturn, 1) := by decide +kernel
def fX10_upper (σ : St) : Option (St × Int64) := some (σ, σ.2 48 2)
set_option maxHeartbeats 4000000 in
set_option maxRecDepth 100000 in
theorem ctX10_upper (l : Launch) (g : GG) (σ : St) (σ' : St) (r : Int64) (hE : fX10_upper σ  = some (σ', r)) : ML 52 entC l g yX10_upper (Cond.code yX10_upper cX10_upper 1 (some .long) :: gtbl) (rmD 1) [.ref (g.2.1 0)] σ σ' r := by
  refine mi_l (own := RX10) (lv := [(0, .ref (g.2.1 0))]) (by decide) rfl (Nat.le_of_ble_eq_true rfl) rfl (fun p e s m below meth c ls args Q A H0 H locs C hK hA hQ hs hl => ?_)
  have hx := C.1
  have hb := C.2.1
  unfold fX10_upper at hE
  refine lv_aload_n hx hb dX10_upper_0 rfl (lv_at hl 0 rfl) ?_
  refine gf_X10_64_0 C hK hs dX10_upper_1 ?_
  refine gf_X10_317_48 C hK hs dX10_upper_4 ?_
  exact hQ hs hE dX10_upper_7
theorem dX10_lower_0 : decode cX10_lower 0 = .ok (.aload_n 0, 1) := by decide +kernel
theorem dX10_lower_1 : decode cX10_lower 1 = .ok (.getfield 64, 3) := by decide +kernel
theorem dX10_lower_4 : decode cX10_lower 4 = .ok (.getfield 321, 3) := by decide +kernel
theorem dX10_lower_7 : decode cX10_lower 7 = .ok (.lreturn, 1) := by decide +kernel
def fX10_lower (σ : St) : Option (St × Int64) := some (σ, σ.2 48 3)
set_option maxHeartbeats 4000000 in
set_option maxRecDepth 100000 in
theorem ctX10_lower (l : Launch) (g : GG) (σ : St) (σ' : St) (r : Int64) (hE : fX10_lower σ  = some (σ', r)) : ML 52 entC l g yX10_lower (Cond.code yX10_lower cX10_lower 1 (some .long) :: gtbl) (rmD 1) [.ref (g.2.1 0)] σ σ' r := by
  refine mi_l (own := RX10) (lv := [(0, .ref (g.2.1 0))]) (by decide) rfl (Nat.le_of_ble_eq_true rfl) rfl (fun p e s m below meth c ls args Q A H0 H locs C hK hA hQ hs hl => ?_)
  have hx := C.1
  have hb := C.2.1
  unfold fX10_lower at hE
  refine lv_aload_n hx hb dX10_lower_0 rfl (lv_at hl 0 rfl) ?_
  refine gf_X10_64_0 C hK hs dX10_lower_1 ?_
  refine gf_X10_321_48 C hK hs dX10_lower_4 ?_
  exact hQ hs hE dX10_lower_7
theorem dX10_tally_0 : decode cX10_tally 0 = .ok (.iload_n 1, 1) := by decide +kernel
theorem dX10_tally_1 : decode cX10_tally 1 = .ok (.tableswitch 136 0 9 #[55, 63, 71, 79, 87, 95, 103, 111, 119, 127], 55) := by decide +kernel
theorem dX10_tally_56 : decode cX10_tally 56 = .ok (.aload_n 0, 1) := by decide +kernel
theorem dX10_tally_57 : decode cX10_tally 57 = .ok (.getfield 46, 3) := by decide +kernel
theorem dX10_tally_60 : decode cX10_tally 60 = .ok (.getfield 138, 3) := by decide +kernel
theorem dX10_tally_63 : decode cX10_tally 63 = .ok (.ireturn, 1) := by decide +kernel
theorem dX10_tally_64 : decode cX10_tally 64 = .ok (.aload_n 0, 1) := by decide +kernel
theorem dX10_tally_65 : decode cX10_tally 65 = .ok (.getfield 46, 3) := by decide +kernel
theorem dX10_tally_68 : decode cX10_tally 68 = .ok (.getfield 253, 3) := by decide +kernel
theorem dX10_tally_71 : decode cX10_tally 71 = .ok (.ireturn, 1) := by decide +kernel
theorem dX10_tally_72 : decode cX10_tally 72 = .ok (.aload_n 0, 1) := by decide +kernel
theorem dX10_tally_73 : decode cX10_tally 73 = .ok (.getfield 39, 3) := by decide +kernel
theorem dX10_tally_76 : decode cX10_tally 76 = .ok (.getfield 200, 3) := by decide +kernel
theorem dX10_tally_79 : decode cX10_tally 79 = .ok (.ireturn, 1) := by decide +kernel
theorem dX10_tally_80 : decode cX10_tally 80 = .ok (.aload_n 0, 1) := by decide +kernel
theorem dX10_tally_81 : decode cX10_tally 81 = .ok (.getfield 31, 3) := by decide +kernel
theorem dX10_tally_84 : decode cX10_tally 84 = .ok (.getfield 206, 3) := by decide +kernel
theorem dX10_tally_87 : decode cX10_tally 87 = .ok (.ireturn, 1) := by decide +kernel
theorem dX10_tally_88 : decode cX10_tally 88 = .ok (.aload_n 0, 1) := by decide +kernel
theorem dX10_tally_89 : decode cX10_tally 89 = .ok (.getfield 39, 3) := by decide +kernel
theorem dX10_tally_92 : decode cX10_tally 92 = .ok (.invokevirtual 203, 3) := by decide +kernel
theorem dX10_tally_95 : decode cX10_tally 95 = .ok (.ireturn, 1) := by decide +kernel
theorem dX10_tally_96 : decode cX10_tally 96 = .ok (.aload_n 0, 1) := by decide +kernel
theorem dX10_tally_97 : decode cX10_tally 97 = .ok (.getfield 39, 3) := by decide +kernel
theorem dX10_tally_100 : decode cX10_tally 100 = .ok (.invokevirtual 350, 3) := by decide +kernel
theorem dX10_tally_103 : decode cX10_tally 103 = .ok (.ireturn, 1) := by decide +kernel
theorem dX10_tally_104 : decode cX10_tally 104 = .ok (.aload_n 0, 1) := by decide +kernel
theorem dX10_tally_105 : decode cX10_tally 105 = .ok (.getfield 14, 3) := by decide +kernel
theorem dX10_tally_108 : decode cX10_tally 108 = .ok (.invokevirtual 353, 3) := by decide +kernel
theorem dX10_tally_111 : decode cX10_tally 111 = .ok (.ireturn, 1) := by decide +kernel
theorem dX10_tally_112 : decode cX10_tally 112 = .ok (.aload_n 0, 1) := by decide +kernel
theorem dX10_tally_113 : decode cX10_tally 113 = .ok (.getfield 18, 3) := by decide +kernel
theorem dX10_tally_116 : decode cX10_tally 116 = .ok (.invokevirtual 353, 3) := by decide +kernel
theorem dX10_tally_119 : decode cX10_tally 119 = .ok (.ireturn, 1) := by decide +kernel
theorem dX10_tally_120 : decode cX10_tally 120 = .ok (.aload_n 0, 1) := by decide +kernel
theorem dX10_tally_121 : decode cX10_tally 121 = .ok (.getfield 31, 3) := by decide +kernel
theorem dX10_tally_124 : decode cX10_tally 124 = .ok (.invokevirtual 356, 3) := by decide +kernel
theorem dX10_tally_127 : decode cX10_tally 127 = .ok (.ireturn, 1) := by decide +kernel
theorem dX10_tally_128 : decode cX10_tally 128 = .ok (.aload_n 0, 1) := by decide +kernel
theorem dX10_tally_129 : decode cX10_tally 129 = .ok (.getfield 46, 3) := by decide +kernel
theorem dX10_tally_132 : decode cX10_tally 132 = .ok (.iconst 1, 1) := by decide +kernel
theorem dX10_tally_133 : decode cX10_tally 133 = .ok (.invokevirtual 359, 3) := by decide +kernel
theorem dX10_tally_136 : decode cX10_tally 136 = .ok (.ireturn, 1) := by decide +kernel
theorem dX10_tally_137 : decode cX10_tally 137 = .ok (.aload_n 0, 1) := by decide +kernel
theorem dX10_tally_138 : decode cX10_tally 138 = .ok (.getfield 46, 3) := by decide +kernel
theorem dX10_tally_141 : decode cX10_tally 141 = .ok (.iconst 2, 1) := by decide +kernel
theorem dX10_tally_142 : decode cX10_tally 142 = .ok (.invokevirtual 359, 3) := by decide +kernel
theorem dX10_tally_145 : decode cX10_tally 145 = .ok (.ireturn, 1) := by decide +kernel
def fX10_tally (σ : St) (p1 : Int32) : Option (St × Int32) := (if p1 = 0 then some (σ, σ.1 26 7) else (if p1 = 1 then some (σ, σ.1 26 6) else (if p1 = 2 then some (σ, σ.1 25 3) else (if p1 = 3 then some (σ, σ.1 24 4) else (if p1 = 4 then cl (fX9_things σ) (fun σ3 r4 => some (σ3, r4)) else (if p1 = 5 then cl (fX9_allPurses σ) (fun σ5 r6 => some (σ5, r6)) else (if p1 = 6 then cl (fX7_present_1 σ) (fun σ7 r8 => some (σ7, r8)) else (if p1 = 7 then cl (fX7_present_10 σ) (fun σ9 r10 => some (σ9, r10)) else (if p1 = 8 then cl (fX3_manyShelved σ) (fun σ11 r12 => some (σ11, r12)) else (if p1 = 9 then cl (fX6_manyOf σ 1) (fun σ13 r14 => some (σ13, r14)) else cl (fX6_manyOf σ 2) (fun σ1 r2 => some (σ1, r2))))))))))))
set_option maxHeartbeats 4000000 in
set_option maxRecDepth 100000 in
theorem ctX10_tally (l : Launch) (g : GG) (σ : St) (p1 : Int32) (σ' : St) (r : Int32) (hE : fX10_tally σ p1 = some (σ', r)) : MI 52 entC l g yX10_tally (Cond.code yX10_tally cX10_tally 2 (some .int) :: gtbl) (rmD 3) [.ref (g.2.1 0), .int p1] σ σ' r := by
  refine mi_i (own := RX10) (lv := [(0, .ref (g.2.1 0)), (1, .int p1)]) (by decide) rfl (Nat.le_of_ble_eq_true rfl) rfl (fun p e s m below meth c ls args Q A H0 H locs C hK hA hQ hs hl => ?_)
  have hx := C.1
  have hb := C.2.1
  unfold fX10_tally at hE
  refine lv_iload_n hx hb dX10_tally_0 rfl (lv_at hl 1 rfl) ?_
  by_cases hn0 : p1 = 0
  · have hE := if_t hn0 hE
    refine lv_tableIn (off := 55) (tgt := 56) hx hb dX10_tally_1 (by rw [hn0]; decide) (by rw [hn0]; decide) (by rw [hn0]; decide) (by decide) ?_
    refine lv_aload_n hx hb dX10_tally_56 rfl (lv_at hl 0 rfl) ?_
    refine gf_X10_46_0 C hK hs dX10_tally_57 ?_
    refine gf_X10_138_26 C hK hs dX10_tally_60 ?_
    exact hQ hs hE dX10_tally_63
  have hE := if_f hn0 hE
  by_cases hn1 : p1 = 1
  · have hE := if_t hn1 hE
    refine lv_tableIn (off := 63) (tgt := 64) hx hb dX10_tally_1 (by rw [hn1]; decide) (by rw [hn1]; decide) (by rw [hn1]; decide) (by decide) ?_
    refine lv_aload_n hx hb dX10_tally_64 rfl (lv_at hl 0 rfl) ?_
    refine gf_X10_46_0 C hK hs dX10_tally_65 ?_
    refine gf_X10_253_26 C hK hs dX10_tally_68 ?_
    exact hQ hs hE dX10_tally_71
  have hE := if_f hn1 hE
  by_cases hn2 : p1 = 2
  · have hE := if_t hn2 hE
    refine lv_tableIn (off := 71) (tgt := 72) hx hb dX10_tally_1 (by rw [hn2]; decide) (by rw [hn2]; decide) (by rw [hn2]; decide) (by decide) ?_
    refine lv_aload_n hx hb dX10_tally_72 rfl (lv_at hl 0 rfl) ?_
    refine gf_X10_39_0 C hK hs dX10_tally_73 ?_
    refine gf_X10_200_25 C hK hs dX10_tally_76 ?_
    exact hQ hs hE dX10_tally_79
  have hE := if_f hn2 hE
  by_cases hn3 : p1 = 3
  · have hE := if_t hn3 hE
    refine lv_tableIn (off := 79) (tgt := 80) hx hb dX10_tally_1 (by rw [hn3]; decide) (by rw [hn3]; decide) (by rw [hn3]; decide) (by decide) ?_
    refine lv_aload_n hx hb dX10_tally_80 rfl (lv_at hl 0 rfl) ?_
    refine gf_X10_31_0 C hK hs dX10_tally_81 ?_
    refine gf_X10_206_24 C hK hs dX10_tally_84 ?_
    exact hQ hs hE dX10_tally_87
  have hE := if_f hn3 hE
  by_cases hn4 : p1 = 4
  · have hE := if_t hn4 hE
    refine lv_tableIn (off := 87) (tgt := 88) hx hb dX10_tally_1 (by rw [hn4]; decide) (by rw [hn4]; decide) (by rw [hn4]; decide) (by decide) ?_
    refine lv_aload_n hx hb dX10_tally_88 rfl (lv_at hl 0 rfl) ?_
    refine gf_X10_39_0 C hK hs dX10_tally_89 ?_
    obtain ⟨σ3, r4, hE1, hE⟩ := cl_e hE
    refine x_civ (As := []) (rest := []) C hl.1 hK hs hA ⟨Nat.le_refl 0, Nat.le_refl 0⟩ (ctX9_things l g _  _ _ hE1) (cw_X10_203 C ⟨Nat.le_of_ble_eq_true rfl, Nat.le_of_ble_eq_true rfl⟩) (hs.recv hK 25 (by decide) rfl rfl) rfl rfl (Nat.le_of_ble_eq_true rfl) dX10_tally_92 (fun H locs hs => ?_)
    exact hQ hs hE dX10_tally_95
  have hE := if_f hn4 hE
  by_cases hn5 : p1 = 5
  · have hE := if_t hn5 hE
    refine lv_tableIn (off := 95) (tgt := 96) hx hb dX10_tally_1 (by rw [hn5]; decide) (by rw [hn5]; decide) (by rw [hn5]; decide) (by decide) ?_
    refine lv_aload_n hx hb dX10_tally_96 rfl (lv_at hl 0 rfl) ?_
    refine gf_X10_39_0 C hK hs dX10_tally_97 ?_
    obtain ⟨σ5, r6, hE1, hE⟩ := cl_e hE
    refine x_civ (As := []) (rest := []) C hl.1 hK hs hA ⟨Nat.le_refl 0, Nat.le_refl 0⟩ (ctX9_allPurses l g _  _ _ hE1) (cw_X10_350 C ⟨Nat.le_of_ble_eq_true rfl, Nat.le_of_ble_eq_true rfl⟩) (hs.recv hK 25 (by decide) rfl rfl) rfl rfl (Nat.le_of_ble_eq_true rfl) dX10_tally_100 (fun H locs hs => ?_)
    exact hQ hs hE dX10_tally_103
  have hE := if_f hn5 hE
  by_cases hn6 : p1 = 6
  · have hE := if_t hn6 hE
    refine lv_tableIn (off := 103) (tgt := 104) hx hb dX10_tally_1 (by rw [hn6]; decide) (by rw [hn6]; decide) (by rw [hn6]; decide) (by decide) ?_
    refine lv_aload_n hx hb dX10_tally_104 rfl (lv_at hl 0 rfl) ?_
    refine gf_X10_14_0 C hK hs dX10_tally_105 ?_
    obtain ⟨σ7, r8, hE1, hE⟩ := cl_e hE
    refine x_civ (As := []) (rest := []) C hl.1 hK hs hA ⟨Nat.le_refl 0, Nat.le_refl 0⟩ (ctX7_present_1 l g _  _ _ hE1) (cw_X10_353 C ⟨Nat.le_of_ble_eq_true rfl, Nat.le_of_ble_eq_true rfl⟩) (hs.recv hK 1 (by decide) rfl rfl) rfl rfl (Nat.le_of_ble_eq_true rfl) dX10_tally_108 (fun H locs hs => ?_)
    exact hQ hs hE dX10_tally_111
  have hE := if_f hn6 hE
  by_cases hn7 : p1 = 7
  · have hE := if_t hn7 hE
    refine lv_tableIn (off := 111) (tgt := 112) hx hb dX10_tally_1 (by rw [hn7]; decide) (by rw [hn7]; decide) (by rw [hn7]; decide) (by decide) ?_
    refine lv_aload_n hx hb dX10_tally_112 rfl (lv_at hl 0 rfl) ?_
    refine gf_X10_18_0 C hK hs dX10_tally_113 ?_
    obtain ⟨σ9, r10, hE1, hE⟩ := cl_e hE
    refine x_civ (As := []) (rest := []) C hl.1 hK hs hA ⟨Nat.le_refl 0, Nat.le_refl 0⟩ (ctX7_present_10 l g _  _ _ hE1) (cw_X10_353 C ⟨Nat.le_of_ble_eq_true rfl, Nat.le_of_ble_eq_true rfl⟩) (hs.recv hK 10 (by decide) rfl rfl) rfl rfl (Nat.le_of_ble_eq_true rfl) dX10_tally_116 (fun H locs hs => ?_)
    exact hQ hs hE dX10_tally_119
  have hE := if_f hn7 hE
  by_cases hn8 : p1 = 8
  · have hE := if_t hn8 hE
    refine lv_tableIn (off := 119) (tgt := 120) hx hb dX10_tally_1 (by rw [hn8]; decide) (by rw [hn8]; decide) (by rw [hn8]; decide) (by decide) ?_
    refine lv_aload_n hx hb dX10_tally_120 rfl (lv_at hl 0 rfl) ?_
    refine gf_X10_31_0 C hK hs dX10_tally_121 ?_
    obtain ⟨σ11, r12, hE1, hE⟩ := cl_e hE
    refine x_civ (As := []) (rest := []) C hl.1 hK hs hA ⟨Nat.le_refl 0, Nat.le_refl 0⟩ (ctX3_manyShelved l g _  _ _ hE1) (cw_X10_356 C ⟨Nat.le_of_ble_eq_true rfl, Nat.le_of_ble_eq_true rfl⟩) (hs.recv hK 24 (by decide) rfl rfl) rfl rfl (Nat.le_of_ble_eq_true rfl) dX10_tally_124 (fun H locs hs => ?_)
    exact hQ hs hE dX10_tally_127
  have hE := if_f hn8 hE
  by_cases hn9 : p1 = 9
  · have hE := if_t hn9 hE
    refine lv_tableIn (off := 127) (tgt := 128) hx hb dX10_tally_1 (by rw [hn9]; decide) (by rw [hn9]; decide) (by rw [hn9]; decide) (by decide) ?_
    refine lv_aload_n hx hb dX10_tally_128 rfl (lv_at hl 0 rfl) ?_
    refine gf_X10_46_0 C hK hs dX10_tally_129 ?_
    refine lv_iconst (v := 1) hx hb dX10_tally_132 (by decide) ?_
    obtain ⟨σ13, r14, hE1, hE⟩ := cl_e hE
    refine x_civ (As := [.int 1]) (rest := []) C hl.1 hK hs hA ⟨Nat.le_refl 0, Nat.le_refl 0⟩ (ctX6_manyOf l g _ _ _ _ hE1) (cw_X10_359 C ⟨Nat.le_of_ble_eq_true rfl, Nat.le_of_ble_eq_true rfl⟩) (hs.recv hK 26 (by decide) rfl rfl) rfl rfl (Nat.le_of_ble_eq_true rfl) dX10_tally_133 (fun H locs hs => ?_)
    exact hQ hs hE dX10_tally_136
  have hE := if_f hn9 hE
  have hDf : W p l e (rmD 3) s m args below meth c H locs 0 0 Q (F0 m 137 ls []) := by
    refine lv_aload_n hx hb dX10_tally_137 rfl (lv_at hl 0 rfl) ?_
    refine gf_X10_46_0 C hK hs dX10_tally_138 ?_
    refine lv_iconst (v := 2) hx hb dX10_tally_141 (by decide) ?_
    obtain ⟨σ1, r2, hE1, hE⟩ := cl_e hE
    refine x_civ (As := [.int 2]) (rest := []) C hl.1 hK hs hA ⟨Nat.le_refl 0, Nat.le_refl 0⟩ (ctX6_manyOf l g _ _ _ _ hE1) (cw_X10_359 C ⟨Nat.le_of_ble_eq_true rfl, Nat.le_of_ble_eq_true rfl⟩) (hs.recv hK 26 (by decide) rfl rfl) rfl rfl (Nat.le_of_ble_eq_true rfl) dX10_tally_142 (fun H locs hs => ?_)
    exact hQ hs hE dX10_tally_145
  exact lv_tableOut (tgt := 137) hx hb dX10_tally_1 (by have q0 := sw_n 0 hn0 (by decide); have q1 := sw_n 1 hn1 (by decide); have q2 := sw_n 2 hn2 (by decide); have q3 := sw_n 3 hn3 (by decide); have q4 := sw_n 4 hn4 (by decide); have q5 := sw_n 5 hn5 (by decide); have q6 := sw_n 6 hn6 (by decide); have q7 := sw_n 7 hn7 (by decide); have q8 := sw_n 8 hn8 (by decide); have q9 := sw_n 9 hn9 (by decide); omega) (by decide) hDf
theorem dX10_count_0 : decode cX10_count 0 = .ok (.iload_n 1, 1) := by decide +kernel
theorem dX10_count_1 : decode cX10_count 1 = .ok (.ifCond .lt 9, 3) := by decide +kernel
theorem dX10_count_4 : decode cX10_count 4 = .ok (.iload_n 1, 1) := by decide +kernel
theorem dX10_count_5 : decode cX10_count 5 = .ok (.bipush 11, 2) := by decide +kernel
theorem dX10_count_7 : decode cX10_count 7 = .ok (.if_icmp .lt 5, 3) := by decide +kernel
theorem dX10_count_10 : decode cX10_count 10 = .ok (.iconst (-1), 1) := by decide +kernel
theorem dX10_count_11 : decode cX10_count 11 = .ok (.ireturn, 1) := by decide +kernel
theorem dX10_count_12 : decode cX10_count 12 = .ok (.aload_n 0, 1) := by decide +kernel
theorem dX10_count_13 : decode cX10_count 13 = .ok (.iload_n 1, 1) := by decide +kernel
theorem dX10_count_14 : decode cX10_count 14 = .ok (.invokevirtual 324, 3) := by decide +kernel
theorem dX10_count_17 : decode cX10_count 17 = .ok (.ireturn, 1) := by decide +kernel
def fX10_count (σ : St) (p1 : Int32) : Option (St × Int32) := (if p1 < 0 then some (σ, (-1)) else (if p1 < 11 then cl (fX10_tally σ p1) (fun σ1 r2 => some (σ1, r2)) else some (σ, (-1))))
set_option maxHeartbeats 4000000 in
set_option maxRecDepth 100000 in
theorem ctX10_count (l : Launch) (g : GG) (σ : St) (p1 : Int32) (σ' : St) (r : Int32) (hE : fX10_count σ p1 = some (σ', r)) : MI 52 entC l g yX10_count (Cond.code yX10_count cX10_count 2 (some .int) :: gtbl) (rmD 4) [.ref (g.2.1 0), .int p1] σ σ' r := by
  refine mi_i (own := RX10) (lv := [(0, .ref (g.2.1 0)), (1, .int p1)]) (by decide) rfl (Nat.le_of_ble_eq_true rfl) rfl (fun p e s m below meth c ls args Q A H0 H locs C hK hA hQ hs hl => ?_)
  have hx := C.1
  have hb := C.2.1
  unfold fX10_count at hE
  refine lv_iload_n hx hb dX10_count_0 rfl (lv_at hl 1 rfl) ?_
  refine lv_if_lt (tgt := 10) hx hb dX10_count_1 (by decide) (fun hc => ?_) (fun hc => ?_)
  · have hE := if_t hc hE
    refine lv_iconst (v := (-1)) hx hb dX10_count_10 (by decide) ?_
    exact hQ hs hE dX10_count_11
  · have hE := if_f hc hE
    refine lv_iload_n hx hb dX10_count_4 rfl (lv_at hl 1 rfl) ?_
    refine lv_bipush (v := 11) hx hb dX10_count_5 (by decide) ?_
    refine lv_icmp_lt (tgt := 12) hx hb dX10_count_7 (by decide) (fun hc => ?_) (fun hc => ?_)
    · have hE := if_t hc hE
      refine lv_aload_n hx hb dX10_count_12 rfl (lv_at hl 0 rfl) ?_
      refine lv_iload_n hx hb dX10_count_13 rfl (lv_at hl 1 rfl) ?_
      obtain ⟨σ1, r2, hE1, hE⟩ := cl_e hE
      refine x_civ (As := [.int p1]) (rest := []) C hl.1 hK hs hA ⟨Nat.le_refl 0, Nat.le_refl 0⟩ (ctX10_tally l g _ _ _ _ hE1) (cw_X10_324 C ⟨Nat.le_of_ble_eq_true rfl, Nat.le_of_ble_eq_true rfl⟩) (hs.recv hK 0 (by decide) rfl rfl) rfl rfl (Nat.le_of_ble_eq_true rfl) dX10_count_14 (fun H locs hs => ?_)
      exact hQ hs hE dX10_count_17
    · have hE := if_f hc hE
      refine lv_iconst (v := (-1)) hx hb dX10_count_10 (by decide) ?_
      exact hQ hs hE dX10_count_11
theorem dX10_finding_0 : decode cX10_finding 0 = .ok (.aload_n 0, 1) := by decide +kernel
theorem dX10_finding_1 : decode cX10_finding 1 = .ok (.getfield 327, 3) := by decide +kernel
theorem dX10_finding_4 : decode cX10_finding 4 = .ok (.ireturn, 1) := by decide +kernel
def fX10_finding (σ : St) : Option (St × Int32) := some (σ, σ.1 0 10)
set_option maxHeartbeats 4000000 in
set_option maxRecDepth 100000 in
theorem ctX10_finding (l : Launch) (g : GG) (σ : St) (σ' : St) (r : Int32) (hE : fX10_finding σ  = some (σ', r)) : MI 52 entC l g yX10_finding (Cond.code yX10_finding cX10_finding 1 (some .int) :: gtbl) (rmD 1) [.ref (g.2.1 0)] σ σ' r := by
  refine mi_i (own := RX10) (lv := [(0, .ref (g.2.1 0))]) (by decide) rfl (Nat.le_of_ble_eq_true rfl) rfl (fun p e s m below meth c ls args Q A H0 H locs C hK hA hQ hs hl => ?_)
  have hx := C.1
  have hb := C.2.1
  unfold fX10_finding at hE
  refine lv_aload_n hx hb dX10_finding_0 rfl (lv_at hl 0 rfl) ?_
  refine gf_X10_327_0 C hK hs dX10_finding_1 ?_
  exact hQ hs hE dX10_finding_4
theorem dX10_findings_0 : decode cX10_findings 0 = .ok (.iload_n 1, 1) := by decide +kernel
theorem dX10_findings_1 : decode cX10_findings 1 = .ok (.iconst 1, 1) := by decide +kernel
theorem dX10_findings_2 : decode cX10_findings 2 = .ok (.if_icmp .lt 8, 3) := by decide +kernel
theorem dX10_findings_5 : decode cX10_findings 5 = .ok (.iload_n 1, 1) := by decide +kernel
theorem dX10_findings_6 : decode cX10_findings 6 = .ok (.iconst 5, 1) := by decide +kernel
theorem dX10_findings_7 : decode cX10_findings 7 = .ok (.if_icmp .le 5, 3) := by decide +kernel
theorem dX10_findings_10 : decode cX10_findings 10 = .ok (.iconst (-1), 1) := by decide +kernel
theorem dX10_findings_11 : decode cX10_findings 11 = .ok (.ireturn, 1) := by decide +kernel
theorem dX10_findings_12 : decode cX10_findings 12 = .ok (.aload_n 0, 1) := by decide +kernel
theorem dX10_findings_13 : decode cX10_findings 13 = .ok (.getfield 68, 3) := by decide +kernel
theorem dX10_findings_16 : decode cX10_findings 16 = .ok (.iload_n 1, 1) := by decide +kernel
theorem dX10_findings_17 : decode cX10_findings 17 = .ok (.iaload, 1) := by decide +kernel
theorem dX10_findings_18 : decode cX10_findings 18 = .ok (.ireturn, 1) := by decide +kernel
def fX10_findings (σ : St) (p1 : Int32) : Option (St × Int32) := (if p1 < 1 then some (σ, (-1)) else (if p1 ≤ 5 then rd LC σ 51 p1 (fun x1 => some (σ, x1)) else some (σ, (-1))))
set_option maxHeartbeats 4000000 in
set_option maxRecDepth 100000 in
theorem ctX10_findings (l : Launch) (g : GG) (σ : St) (p1 : Int32) (σ' : St) (r : Int32) (hE : fX10_findings σ p1 = some (σ', r)) : MI 52 entC l g yX10_findings (Cond.code yX10_findings cX10_findings 2 (some .int) :: gtbl) (rmD 1) [.ref (g.2.1 0), .int p1] σ σ' r := by
  refine mi_i (own := RX10) (lv := [(0, .ref (g.2.1 0)), (1, .int p1)]) (by decide) rfl (Nat.le_of_ble_eq_true rfl) rfl (fun p e s m below meth c ls args Q A H0 H locs C hK hA hQ hs hl => ?_)
  have hx := C.1
  have hb := C.2.1
  unfold fX10_findings at hE
  refine lv_iload_n hx hb dX10_findings_0 rfl (lv_at hl 1 rfl) ?_
  refine lv_iconst (v := 1) hx hb dX10_findings_1 (by decide) ?_
  refine lv_icmp_lt (tgt := 10) hx hb dX10_findings_2 (by decide) (fun hc => ?_) (fun hc => ?_)
  · have hE := if_t hc hE
    refine lv_iconst (v := (-1)) hx hb dX10_findings_10 (by decide) ?_
    exact hQ hs hE dX10_findings_11
  · have hE := if_f hc hE
    refine lv_iload_n hx hb dX10_findings_5 rfl (lv_at hl 1 rfl) ?_
    refine lv_iconst (v := 5) hx hb dX10_findings_6 (by decide) ?_
    refine lv_icmp_le (tgt := 12) hx hb dX10_findings_7 (by decide) (fun hc => ?_) (fun hc => ?_)
    · have hE := if_t hc hE
      refine lv_aload_n hx hb dX10_findings_12 rfl (lv_at hl 0 rfl) ?_
      refine gf_X10_68_0 C hK hs dX10_findings_13 ?_
      refine lv_iload_n hx hb dX10_findings_16 rfl (lv_at hl 1 rfl) ?_
      obtain ⟨hi, x1, ex1, hE⟩ := rd_w hE
      refine y_ald layC C hK hs hi ex1 dX10_findings_17 ?_
      exact hQ hs hE dX10_findings_18
    · have hE := if_f hc hE
      refine lv_iconst (v := (-1)) hx hb dX10_findings_10 (by decide) ?_
      exact hQ hs hE dX10_findings_11
theorem dX10_digest_0 : decode cX10_digest 0 = .ok (.ldc2_w 330, 3) := by decide +kernel
theorem dX10_digest_3 : decode cX10_digest 3 = .ok (.lstore_n 1, 1) := by decide +kernel
theorem dX10_digest_4 : decode cX10_digest 4 = .ok (.iconst 0, 1) := by decide +kernel
theorem dX10_digest_5 : decode cX10_digest 5 = .ok (.istore_n 3, 1) := by decide +kernel
theorem dX10_digest_6 : decode cX10_digest 6 = .ok (.iload_n 3, 1) := by decide +kernel
theorem dX10_digest_7 : decode cX10_digest 7 = .ok (.bipush 11, 2) := by decide +kernel
theorem dX10_digest_9 : decode cX10_digest 9 = .ok (.if_icmp .ge 22, 3) := by decide +kernel
theorem dX10_digest_12 : decode cX10_digest 12 = .ok (.ldc2_w 332, 3) := by decide +kernel
theorem dX10_digest_15 : decode cX10_digest 15 = .ok (.lload_n 1, 1) := by decide +kernel
theorem dX10_digest_16 : decode cX10_digest 16 = .ok (.lmul, 1) := by decide +kernel
theorem dX10_digest_17 : decode cX10_digest 17 = .ok (.aload_n 0, 1) := by decide +kernel
theorem dX10_digest_18 : decode cX10_digest 18 = .ok (.iload_n 3, 1) := by decide +kernel
theorem dX10_digest_19 : decode cX10_digest 19 = .ok (.invokevirtual 324, 3) := by decide +kernel
theorem dX10_digest_22 : decode cX10_digest 22 = .ok (.i2l, 1) := by decide +kernel
theorem dX10_digest_23 : decode cX10_digest 23 = .ok (.ladd, 1) := by decide +kernel
theorem dX10_digest_24 : decode cX10_digest 24 = .ok (.lstore_n 1, 1) := by decide +kernel
theorem dX10_digest_25 : decode cX10_digest 25 = .ok (.iinc 3 1, 3) := by decide +kernel
theorem dX10_digest_28 : decode cX10_digest 28 = .ok (.goto (-22), 3) := by decide +kernel
theorem dX10_digest_31 : decode cX10_digest 31 = .ok (.iconst 0, 1) := by decide +kernel
theorem dX10_digest_32 : decode cX10_digest 32 = .ok (.istore_n 3, 1) := by decide +kernel
theorem dX10_digest_33 : decode cX10_digest 33 = .ok (.iload_n 3, 1) := by decide +kernel
theorem dX10_digest_34 : decode cX10_digest 34 = .ok (.aload_n 0, 1) := by decide +kernel
theorem dX10_digest_35 : decode cX10_digest 35 = .ok (.getfield 46, 3) := by decide +kernel
theorem dX10_digest_38 : decode cX10_digest 38 = .ok (.getfield 253, 3) := by decide +kernel
theorem dX10_digest_41 : decode cX10_digest 41 = .ok (.if_icmp .ge 39, 3) := by decide +kernel
theorem dX10_digest_44 : decode cX10_digest 44 = .ok (.iconst 0, 1) := by decide +kernel
theorem dX10_digest_45 : decode cX10_digest 45 = .ok (.istore 4, 2) := by decide +kernel
theorem dX10_digest_47 : decode cX10_digest 47 = .ok (.iload 4, 2) := by decide +kernel
theorem dX10_digest_49 : decode cX10_digest 49 = .ok (.iconst 3, 1) := by decide +kernel
theorem dX10_digest_50 : decode cX10_digest 50 = .ok (.if_icmp .gt 24, 3) := by decide +kernel
theorem dX10_digest_53 : decode cX10_digest 53 = .ok (.ldc2_w 332, 3) := by decide +kernel
theorem dX10_digest_56 : decode cX10_digest 56 = .ok (.lload_n 1, 1) := by decide +kernel
theorem dX10_digest_57 : decode cX10_digest 57 = .ok (.lmul, 1) := by decide +kernel
theorem dX10_digest_58 : decode cX10_digest 58 = .ok (.aload_n 0, 1) := by decide +kernel
theorem dX10_digest_59 : decode cX10_digest 59 = .ok (.iload_n 3, 1) := by decide +kernel
theorem dX10_digest_60 : decode cX10_digest 60 = .ok (.iload 4, 2) := by decide +kernel
theorem dX10_digest_62 : decode cX10_digest 62 = .ok (.invokevirtual 144, 3) := by decide +kernel
theorem dX10_digest_65 : decode cX10_digest 65 = .ok (.i2l, 1) := by decide +kernel
theorem dX10_digest_66 : decode cX10_digest 66 = .ok (.ladd, 1) := by decide +kernel
theorem dX10_digest_67 : decode cX10_digest 67 = .ok (.lstore_n 1, 1) := by decide +kernel
theorem dX10_digest_68 : decode cX10_digest 68 = .ok (.iinc 4 1, 3) := by decide +kernel
theorem dX10_digest_71 : decode cX10_digest 71 = .ok (.goto (-24), 3) := by decide +kernel
theorem dX10_digest_74 : decode cX10_digest 74 = .ok (.iinc 3 1, 3) := by decide +kernel
theorem dX10_digest_77 : decode cX10_digest 77 = .ok (.goto (-44), 3) := by decide +kernel
theorem dX10_digest_80 : decode cX10_digest 80 = .ok (.iconst 0, 1) := by decide +kernel
theorem dX10_digest_81 : decode cX10_digest 81 = .ok (.istore_n 3, 1) := by decide +kernel
theorem dX10_digest_82 : decode cX10_digest 82 = .ok (.iload_n 3, 1) := by decide +kernel
theorem dX10_digest_83 : decode cX10_digest 83 = .ok (.aload_n 0, 1) := by decide +kernel
theorem dX10_digest_84 : decode cX10_digest 84 = .ok (.getfield 46, 3) := by decide +kernel
theorem dX10_digest_87 : decode cX10_digest 87 = .ok (.getfield 138, 3) := by decide +kernel
theorem dX10_digest_90 : decode cX10_digest 90 = .ok (.if_icmp .ge 78, 3) := by decide +kernel
theorem dX10_digest_93 : decode cX10_digest 93 = .ok (.iconst 0, 1) := by decide +kernel
theorem dX10_digest_94 : decode cX10_digest 94 = .ok (.istore 4, 2) := by decide +kernel
theorem dX10_digest_96 : decode cX10_digest 96 = .ok (.iload 4, 2) := by decide +kernel
theorem dX10_digest_98 : decode cX10_digest 98 = .ok (.iconst 3, 1) := by decide +kernel
theorem dX10_digest_99 : decode cX10_digest 99 = .ok (.if_icmp .gt 24, 3) := by decide +kernel
theorem dX10_digest_102 : decode cX10_digest 102 = .ok (.ldc2_w 332, 3) := by decide +kernel
theorem dX10_digest_105 : decode cX10_digest 105 = .ok (.lload_n 1, 1) := by decide +kernel
theorem dX10_digest_106 : decode cX10_digest 106 = .ok (.lmul, 1) := by decide +kernel
theorem dX10_digest_107 : decode cX10_digest 107 = .ok (.aload_n 0, 1) := by decide +kernel
theorem dX10_digest_108 : decode cX10_digest 108 = .ok (.iload_n 3, 1) := by decide +kernel
theorem dX10_digest_109 : decode cX10_digest 109 = .ok (.iload 4, 2) := by decide +kernel
theorem dX10_digest_111 : decode cX10_digest 111 = .ok (.invokevirtual 156, 3) := by decide +kernel
theorem dX10_digest_114 : decode cX10_digest 114 = .ok (.i2l, 1) := by decide +kernel
theorem dX10_digest_115 : decode cX10_digest 115 = .ok (.ladd, 1) := by decide +kernel
theorem dX10_digest_116 : decode cX10_digest 116 = .ok (.lstore_n 1, 1) := by decide +kernel
theorem dX10_digest_117 : decode cX10_digest 117 = .ok (.iinc 4 1, 3) := by decide +kernel
theorem dX10_digest_120 : decode cX10_digest 120 = .ok (.goto (-24), 3) := by decide +kernel
theorem dX10_digest_123 : decode cX10_digest 123 = .ok (.iconst 0, 1) := by decide +kernel
theorem dX10_digest_124 : decode cX10_digest 124 = .ok (.istore 4, 2) := by decide +kernel
theorem dX10_digest_126 : decode cX10_digest 126 = .ok (.iload 4, 2) := by decide +kernel
theorem dX10_digest_128 : decode cX10_digest 128 = .ok (.aload_n 0, 1) := by decide +kernel
theorem dX10_digest_129 : decode cX10_digest 129 = .ok (.getfield 46, 3) := by decide +kernel
theorem dX10_digest_132 : decode cX10_digest 132 = .ok (.getfield 253, 3) := by decide +kernel
theorem dX10_digest_135 : decode cX10_digest 135 = .ok (.if_icmp .ge 27, 3) := by decide +kernel
theorem dX10_digest_138 : decode cX10_digest 138 = .ok (.ldc2_w 332, 3) := by decide +kernel
theorem dX10_digest_141 : decode cX10_digest 141 = .ok (.lload_n 1, 1) := by decide +kernel
theorem dX10_digest_142 : decode cX10_digest 142 = .ok (.lmul, 1) := by decide +kernel
theorem dX10_digest_143 : decode cX10_digest 143 = .ok (.aload_n 0, 1) := by decide +kernel
theorem dX10_digest_144 : decode cX10_digest 144 = .ok (.getfield 39, 3) := by decide +kernel
theorem dX10_digest_147 : decode cX10_digest 147 = .ok (.iload_n 3, 1) := by decide +kernel
theorem dX10_digest_148 : decode cX10_digest 148 = .ok (.iload 4, 2) := by decide +kernel
theorem dX10_digest_150 : decode cX10_digest 150 = .ok (.invokevirtual 165, 3) := by decide +kernel
theorem dX10_digest_153 : decode cX10_digest 153 = .ok (.i2l, 1) := by decide +kernel
theorem dX10_digest_154 : decode cX10_digest 154 = .ok (.ladd, 1) := by decide +kernel
theorem dX10_digest_155 : decode cX10_digest 155 = .ok (.lstore_n 1, 1) := by decide +kernel
theorem dX10_digest_156 : decode cX10_digest 156 = .ok (.iinc 4 1, 3) := by decide +kernel
theorem dX10_digest_159 : decode cX10_digest 159 = .ok (.goto (-33), 3) := by decide +kernel
theorem dX10_digest_162 : decode cX10_digest 162 = .ok (.iinc 3 1, 3) := by decide +kernel
theorem dX10_digest_165 : decode cX10_digest 165 = .ok (.goto (-83), 3) := by decide +kernel
theorem dX10_digest_168 : decode cX10_digest 168 = .ok (.iconst 0, 1) := by decide +kernel
theorem dX10_digest_169 : decode cX10_digest 169 = .ok (.istore_n 3, 1) := by decide +kernel
theorem dX10_digest_170 : decode cX10_digest 170 = .ok (.iload_n 3, 1) := by decide +kernel
theorem dX10_digest_171 : decode cX10_digest 171 = .ok (.iconst 3, 1) := by decide +kernel
theorem dX10_digest_172 : decode cX10_digest 172 = .ok (.if_icmp .ge 25, 3) := by decide +kernel
theorem dX10_digest_175 : decode cX10_digest 175 = .ok (.ldc2_w 332, 3) := by decide +kernel
theorem dX10_digest_178 : decode cX10_digest 178 = .ok (.lload_n 1, 1) := by decide +kernel
theorem dX10_digest_179 : decode cX10_digest 179 = .ok (.lmul, 1) := by decide +kernel
theorem dX10_digest_180 : decode cX10_digest 180 = .ok (.aload_n 0, 1) := by decide +kernel
theorem dX10_digest_181 : decode cX10_digest 181 = .ok (.getfield 31, 3) := by decide +kernel
theorem dX10_digest_184 : decode cX10_digest 184 = .ok (.iload_n 3, 1) := by decide +kernel
theorem dX10_digest_185 : decode cX10_digest 185 = .ok (.invokevirtual 218, 3) := by decide +kernel
theorem dX10_digest_188 : decode cX10_digest 188 = .ok (.i2l, 1) := by decide +kernel
theorem dX10_digest_189 : decode cX10_digest 189 = .ok (.ladd, 1) := by decide +kernel
theorem dX10_digest_190 : decode cX10_digest 190 = .ok (.lstore_n 1, 1) := by decide +kernel
theorem dX10_digest_191 : decode cX10_digest 191 = .ok (.iinc 3 1, 3) := by decide +kernel
theorem dX10_digest_194 : decode cX10_digest 194 = .ok (.goto (-24), 3) := by decide +kernel
theorem dX10_digest_197 : decode cX10_digest 197 = .ok (.aload_n 0, 1) := by decide +kernel
theorem dX10_digest_198 : decode cX10_digest 198 = .ok (.getfield 18, 3) := by decide +kernel
theorem dX10_digest_201 : decode cX10_digest 201 = .ok (.aload_n 0, 1) := by decide +kernel
theorem dX10_digest_202 : decode cX10_digest 202 = .ok (.getfield 14, 3) := by decide +kernel
theorem dX10_digest_205 : decode cX10_digest 205 = .ok (.lload_n 1, 1) := by decide +kernel
theorem dX10_digest_206 : decode cX10_digest 206 = .ok (.invokevirtual 334, 3) := by decide +kernel
theorem dX10_digest_209 : decode cX10_digest 209 = .ok (.invokevirtual 334, 3) := by decide +kernel
theorem dX10_digest_212 : decode cX10_digest 212 = .ok (.lreturn, 1) := by decide +kernel
def fX10_digest_L6 : Nat → St → Int64 → Int32 → (St → Int64 → Int32 → Option (St × Int64)) → Option (St × Int64)
  | 0, _, _, _, _ => none
  | n + 1, σ1, v2, v3, k => (if 11 ≤ v3 then k σ1 v2 v3 else cl (fX10_tally σ1 v3) (fun σ4 r5 => fX10_digest_L6 n σ4 ((31 * v2) + (r5.toInt64)) (v3 + 1) k))
def fX10_digest_L47 (v11 : Int32) : Nat → St → Int64 → Int32 → (St → Int64 → Int32 → Option (St × Int64)) → Option (St × Int64)
  | 0, _, _, _, _ => none
  | n + 1, σ12, v13, v14, k => (if 3 < v14 then k σ12 v13 v14 else cl (fX10_ofColour σ12 v11 v14) (fun σ15 r16 => fX10_digest_L47 v11 n σ15 ((31 * v13) + (r16.toInt64)) (v14 + 1) k))
def fX10_digest_L96 (v25 : Int32) : Nat → St → Int64 → Int32 → (St → Int64 → Int32 → Option (St × Int64)) → Option (St × Int64)
  | 0, _, _, _, _ => none
  | n + 1, σ26, v27, v28, k => (if 3 < v28 then k σ26 v27 v28 else cl (fX10_ofHouse σ26 v25 v28) (fun σ29 r30 => fX10_digest_L96 v25 n σ29 ((31 * v27) + (r30.toInt64)) (v28 + 1) k))
def fX10_digest_L170 : Nat → St → Int64 → Int32 → (St → Int64 → Int32 → Option (St × Int64)) → Option (St × Int64)
  | 0, _, _, _, _ => none
  | n + 1, σ45, v46, v47, k => (if 3 ≤ v47 then k σ45 v46 v47 else cl (fX3_shelved σ45 v47) (fun σ48 r49 => fX10_digest_L170 n σ48 ((31 * v46) + (r49.toInt64)) (v47 + 1) k))
def fX10_digest_L126 (v25 : Int32) : Nat → St → Int64 → Int32 → (St → Int64 → Int32 → Option (St × Int64)) → Option (St × Int64)
  | 0, _, _, _, _ => none
  | n + 1, σ34, v35, v36, k => (if (σ34.1 26 6) ≤ v36 then k σ34 v35 v36 else cl (fX9_endOf σ34 v25 v36) (fun σ37 r38 => fX10_digest_L126 v25 n σ37 ((31 * v35) + (r38.toInt64)) (v36 + 1) k))
def fX10_digest_L33 : Nat → St → Int64 → Int32 → (St → Int64 → Int32 → Option (St × Int64)) → Option (St × Int64)
  | 0, _, _, _, _ => none
  | n + 1, σ9, v10, v11, k => (if (σ9.1 26 6) ≤ v11 then k σ9 v10 v11 else fX10_digest_L47 v11 10000 σ9 v10 0 (fun σ17 v18 v19 => fX10_digest_L33 n σ17 v18 (v11 + 1) k))
def fX10_digest_L82 : Nat → St → Int64 → Int32 → (St → Int64 → Int32 → Option (St × Int64)) → Option (St × Int64)
  | 0, _, _, _, _ => none
  | n + 1, σ23, v24, v25, k => (if (σ23.1 26 7) ≤ v25 then k σ23 v24 v25 else fX10_digest_L96 v25 10000 σ23 v24 0 (fun σ31 v32 v33 => fX10_digest_L126 v25 10000 σ31 v32 0 (fun σ39 v40 v41 => fX10_digest_L82 n σ39 v40 (v25 + 1) k)))
def fX10_digest (σ : St) : Option (St × Int64) := fX10_digest_L6 10000 σ 17 0 (fun σ6 v7 v8 => fX10_digest_L33 10000 σ6 v7 0 (fun σ20 v21 v22 => fX10_digest_L82 10000 σ20 v21 0 (fun σ42 v43 v44 => fX10_digest_L170 10000 σ42 v43 0 (fun σ50 v51 v52 => cl (fX7_mixInto_1 σ50 v51) (fun σ53 r54 => cl (fX7_mixInto_10 σ53 r54) (fun σ55 r56 => some (σ55, r56)))))))
set_option maxHeartbeats 4000000 in
set_option maxRecDepth 100000 in
theorem ctX10_digest (l : Launch) (g : GG) (σ : St) (σ' : St) (r : Int64) (hE : fX10_digest σ  = some (σ', r)) : ML 52 entC l g yX10_digest (Cond.code yX10_digest cX10_digest 5 (some .long) :: gtbl) (rmD 5) [.ref (g.2.1 0)] σ σ' r := by
  refine mi_l (own := RX10) (lv := [(0, .ref (g.2.1 0))]) (by decide) rfl (Nat.le_of_ble_eq_true rfl) rfl (fun p e s m below meth c ls args Q A H0 H locs C hK hA hQ hs hl => ?_)
  have hx := C.1
  have hb := C.2.1
  unfold fX10_digest at hE
  refine lv_ldc2 (v := 17) hx hb C.2.2.2.1 (C.2.2.2.2 _ mw_939) dX10_digest_0 ?_
  refine lv_lstore_n (lv' := [(1, .long 17), (0, .ref (g.2.1 0))]) hx hb dX10_digest_3 rfl hl (by decide) rfl (fun ls hl => ?_)
  refine lv_iconst (v := 0) hx hb dX10_digest_4 (by decide) ?_
  refine lv_istore_n (lv' := [(3, .int 0), (1, .long 17), (0, .ref (g.2.1 0))]) hx hb dX10_digest_5 rfl hl (by decide) rfl (fun ls hl => ?_)
  have hL6 : ∀ (n : Nat) (σ1 : St) (v2 : Int64) (v3 : Int32) (k : St → Int64 → Int32 → Option (St × Int64)), fX10_digest_L6 n σ1 v2 v3 k = some (σ', r) → (∀ (σ1 : St) (v2 : Int64) (v3 : Int32) (H : Heap) (locs : List Loc) (ls : Array Slot), HW 52 entC g A H0 H locs σ1 → lv_has ls 5 [(0, .ref (g.2.1 0)), (1, .long v2), (3, .int v3)] → k σ1 v2 v3 = some (σ', r) → W p l e (rmD 5) s m args below meth c H locs 0 0 Q (F0 m 31 ls [])) → ∀ (H : Heap) (locs : List Loc) (ls : Array Slot), HW 52 entC g A H0 H locs σ1 → lv_has ls 5 [(0, .ref (g.2.1 0)), (1, .long v2), (3, .int v3)] → W p l e (rmD 5) s m args below meth c H locs 0 0 Q (F0 m 6 ls []) := by
    intro n
    induction n with
    | zero =>
      intro σ1 v2 v3 k hE
      rw [fX10_digest_L6] at hE
      exact no_e hE
    | succ n ih =>
      intro σ1 v2 v3 k hE hk H locs ls hs hl
      rw [fX10_digest_L6] at hE
      refine lv_iload_n hx hb dX10_digest_6 rfl (lv_at hl 2 rfl) ?_
      refine lv_bipush (v := 11) hx hb dX10_digest_7 (by decide) ?_
      refine lv_icmp_ge (tgt := 31) hx hb dX10_digest_9 (by decide) (fun hc => ?_) (fun hc => ?_)
      · have hE := if_t hc hE
        exact hk σ1 v2 v3 _ _ _ hs (lv_sub hl [0, 1, 2] rfl) hE
      · have hE := if_f hc hE
        refine lv_ldc2 (v := 31) hx hb C.2.2.2.1 (C.2.2.2.2 _ mw_940) dX10_digest_12 ?_
        refine lv_lload_n hx hb dX10_digest_15 rfl (lv_at hl 1 rfl) ?_
        refine lv_lmul hx hb dX10_digest_16 ?_
        refine lv_aload_n hx hb dX10_digest_17 rfl (lv_at hl 0 rfl) ?_
        refine lv_iload_n hx hb dX10_digest_18 rfl (lv_at hl 2 rfl) ?_
        obtain ⟨σ4, r5, hE1, hE⟩ := cl_e hE
        refine x_civ (As := [.int v3]) (rest := [.long (31 * v2)]) C hl.1 hK hs hA ⟨Nat.le_refl 0, Nat.le_refl 0⟩ (ctX10_tally l g _ _ _ _ hE1) (cw_X10_324 C ⟨Nat.le_of_ble_eq_true rfl, Nat.le_of_ble_eq_true rfl⟩) (hs.recv hK 0 (by decide) rfl rfl) rfl rfl (Nat.le_of_ble_eq_true rfl) dX10_digest_19 (fun H locs hs => ?_)
        refine lv_i2l (v := r5.toInt64) hx hb dX10_digest_22 rfl ?_
        refine lv_ladd hx hb dX10_digest_23 ?_
        refine lv_lstore_n (lv' := [(1, .long ((31 * v2) + (r5.toInt64))), (0, .ref (g.2.1 0)), (3, .int v3)]) hx hb dX10_digest_24 rfl hl (by decide) rfl (fun ls hl => ?_)
        refine lv_iinc (v := v3 + 1) (lv' := [(3, .int (v3 + 1)), (1, .long ((31 * v2) + (r5.toInt64))), (0, .ref (g.2.1 0))]) hx hb dX10_digest_25 hl (k := 2) rfl rfl (by decide) rfl (fun ls hl => ?_)
        refine lv_goto (tgt := 6) hx hb dX10_digest_28 (by decide) ?_
        exact ih _ _ _ _ hE hk _ _ _ hs (lv_sub hl [2, 1, 0] rfl)
  refine hL6 _ _ _ _ _ hE (fun σ6 v7 v8 H locs ls hs hl hE => ?_) H locs ls hs (lv_sub hl [2, 1, 0] rfl)
  refine lv_iconst (v := 0) hx hb dX10_digest_31 (by decide) ?_
  refine lv_istore_n (lv' := [(3, .int 0), (0, .ref (g.2.1 0)), (1, .long v7)]) hx hb dX10_digest_32 rfl hl (by decide) rfl (fun ls hl => ?_)
  have hL33 : ∀ (n : Nat) (σ9 : St) (v10 : Int64) (v11 : Int32) (k : St → Int64 → Int32 → Option (St × Int64)), fX10_digest_L33 n σ9 v10 v11 k = some (σ', r) → (∀ (σ9 : St) (v10 : Int64) (v11 : Int32) (H : Heap) (locs : List Loc) (ls : Array Slot), HW 52 entC g A H0 H locs σ9 → lv_has ls 5 [(0, .ref (g.2.1 0)), (1, .long v10), (3, .int v11)] → k σ9 v10 v11 = some (σ', r) → W p l e (rmD 5) s m args below meth c H locs 0 0 Q (F0 m 80 ls [])) → ∀ (H : Heap) (locs : List Loc) (ls : Array Slot), HW 52 entC g A H0 H locs σ9 → lv_has ls 5 [(0, .ref (g.2.1 0)), (1, .long v10), (3, .int v11)] → W p l e (rmD 5) s m args below meth c H locs 0 0 Q (F0 m 33 ls []) := by
    intro n
    induction n with
    | zero =>
      intro σ9 v10 v11 k hE
      rw [fX10_digest_L33] at hE
      exact no_e hE
    | succ n ih =>
      intro σ9 v10 v11 k hE hk H locs ls hs hl
      rw [fX10_digest_L33] at hE
      refine lv_iload_n hx hb dX10_digest_33 rfl (lv_at hl 2 rfl) ?_
      refine lv_aload_n hx hb dX10_digest_34 rfl (lv_at hl 0 rfl) ?_
      refine gf_X10_46_0 C hK hs dX10_digest_35 ?_
      refine gf_X10_253_26 C hK hs dX10_digest_38 ?_
      refine lv_icmp_ge (tgt := 80) hx hb dX10_digest_41 (by decide) (fun hc => ?_) (fun hc => ?_)
      · have hE := if_t hc hE
        exact hk σ9 v10 v11 _ _ _ hs (lv_sub hl [0, 1, 2] rfl) hE
      · have hE := if_f hc hE
        refine lv_iconst (v := 0) hx hb dX10_digest_44 (by decide) ?_
        refine lv_istore (lv' := [(4, .int 0), (0, .ref (g.2.1 0)), (1, .long v10), (3, .int v11)]) hx hb dX10_digest_45 hl (by decide) rfl (fun ls hl => ?_)
        have hL47 : ∀ (n : Nat) (σ12 : St) (v13 : Int64) (v14 : Int32) (k : St → Int64 → Int32 → Option (St × Int64)), fX10_digest_L47 v11 n σ12 v13 v14 k = some (σ', r) → (∀ (σ12 : St) (v13 : Int64) (v14 : Int32) (H : Heap) (locs : List Loc) (ls : Array Slot), HW 52 entC g A H0 H locs σ12 → lv_has ls 5 [(0, .ref (g.2.1 0)), (1, .long v13), (3, .int v11), (4, .int v14)] → k σ12 v13 v14 = some (σ', r) → W p l e (rmD 5) s m args below meth c H locs 0 0 Q (F0 m 74 ls [])) → ∀ (H : Heap) (locs : List Loc) (ls : Array Slot), HW 52 entC g A H0 H locs σ12 → lv_has ls 5 [(0, .ref (g.2.1 0)), (1, .long v13), (3, .int v11), (4, .int v14)] → W p l e (rmD 5) s m args below meth c H locs 0 0 Q (F0 m 47 ls []) := by
          intro n
          induction n with
          | zero =>
            intro σ12 v13 v14 k hE
            rw [fX10_digest_L47] at hE
            exact no_e hE
          | succ n ih =>
            intro σ12 v13 v14 k hE hk H locs ls hs hl
            rw [fX10_digest_L47] at hE
            refine lv_iload hx hb dX10_digest_47 (lv_at hl 3 rfl) ?_
            refine lv_iconst (v := 3) hx hb dX10_digest_49 (by decide) ?_
            refine lv_icmp_gt (tgt := 74) hx hb dX10_digest_50 (by decide) (fun hc => ?_) (fun hc => ?_)
            · have hE := if_t hc hE
              exact hk σ12 v13 v14 _ _ _ hs (lv_sub hl [0, 1, 2, 3] rfl) hE
            · have hE := if_f hc hE
              refine lv_ldc2 (v := 31) hx hb C.2.2.2.1 (C.2.2.2.2 _ mw_940) dX10_digest_53 ?_
              refine lv_lload_n hx hb dX10_digest_56 rfl (lv_at hl 1 rfl) ?_
              refine lv_lmul hx hb dX10_digest_57 ?_
              refine lv_aload_n hx hb dX10_digest_58 rfl (lv_at hl 0 rfl) ?_
              refine lv_iload_n hx hb dX10_digest_59 rfl (lv_at hl 2 rfl) ?_
              refine lv_iload hx hb dX10_digest_60 (lv_at hl 3 rfl) ?_
              obtain ⟨σ15, r16, hE1, hE⟩ := cl_e hE
              refine x_civ (As := [.int v11, .int v14]) (rest := [.long (31 * v13)]) C hl.1 hK hs hA ⟨Nat.le_refl 0, Nat.le_refl 0⟩ (ctX10_ofColour l g _ _ _ _ _ hE1) (cw_X10_144 C ⟨Nat.le_of_ble_eq_true rfl, Nat.le_of_ble_eq_true rfl⟩) (hs.recv hK 0 (by decide) rfl rfl) rfl rfl (Nat.le_of_ble_eq_true rfl) dX10_digest_62 (fun H locs hs => ?_)
              refine lv_i2l (v := r16.toInt64) hx hb dX10_digest_65 rfl ?_
              refine lv_ladd hx hb dX10_digest_66 ?_
              refine lv_lstore_n (lv' := [(1, .long ((31 * v13) + (r16.toInt64))), (0, .ref (g.2.1 0)), (3, .int v11), (4, .int v14)]) hx hb dX10_digest_67 rfl hl (by decide) rfl (fun ls hl => ?_)
              refine lv_iinc (v := v14 + 1) (lv' := [(4, .int (v14 + 1)), (1, .long ((31 * v13) + (r16.toInt64))), (0, .ref (g.2.1 0)), (3, .int v11)]) hx hb dX10_digest_68 hl (k := 3) rfl rfl (by decide) rfl (fun ls hl => ?_)
              refine lv_goto (tgt := 47) hx hb dX10_digest_71 (by decide) ?_
              exact ih _ _ _ _ hE hk _ _ _ hs (lv_sub hl [2, 1, 3, 0] rfl)
        refine hL47 _ _ _ _ _ hE (fun σ17 v18 v19 H locs ls hs hl hE => ?_) H locs ls hs (lv_sub hl [1, 2, 3, 0] rfl)
        refine lv_iinc (v := v11 + 1) (lv' := [(3, .int (v11 + 1)), (0, .ref (g.2.1 0)), (1, .long v18), (4, .int v19)]) hx hb dX10_digest_74 hl (k := 2) rfl rfl (by decide) rfl (fun ls hl => ?_)
        refine lv_goto (tgt := 33) hx hb dX10_digest_77 (by decide) ?_
        exact ih _ _ _ _ hE hk _ _ _ hs (lv_sub hl [1, 2, 0] rfl)
  refine hL33 _ _ _ _ _ hE (fun σ20 v21 v22 H locs ls hs hl hE => ?_) H locs ls hs (lv_sub hl [1, 2, 0] rfl)
  refine lv_iconst (v := 0) hx hb dX10_digest_80 (by decide) ?_
  refine lv_istore_n (lv' := [(3, .int 0), (0, .ref (g.2.1 0)), (1, .long v21)]) hx hb dX10_digest_81 rfl hl (by decide) rfl (fun ls hl => ?_)
  have hL82 : ∀ (n : Nat) (σ23 : St) (v24 : Int64) (v25 : Int32) (k : St → Int64 → Int32 → Option (St × Int64)), fX10_digest_L82 n σ23 v24 v25 k = some (σ', r) → (∀ (σ23 : St) (v24 : Int64) (v25 : Int32) (H : Heap) (locs : List Loc) (ls : Array Slot), HW 52 entC g A H0 H locs σ23 → lv_has ls 5 [(0, .ref (g.2.1 0)), (1, .long v24), (3, .int v25)] → k σ23 v24 v25 = some (σ', r) → W p l e (rmD 5) s m args below meth c H locs 0 0 Q (F0 m 168 ls [])) → ∀ (H : Heap) (locs : List Loc) (ls : Array Slot), HW 52 entC g A H0 H locs σ23 → lv_has ls 5 [(0, .ref (g.2.1 0)), (1, .long v24), (3, .int v25)] → W p l e (rmD 5) s m args below meth c H locs 0 0 Q (F0 m 82 ls []) := by
    intro n
    induction n with
    | zero =>
      intro σ23 v24 v25 k hE
      rw [fX10_digest_L82] at hE
      exact no_e hE
    | succ n ih =>
      intro σ23 v24 v25 k hE hk H locs ls hs hl
      rw [fX10_digest_L82] at hE
      refine lv_iload_n hx hb dX10_digest_82 rfl (lv_at hl 2 rfl) ?_
      refine lv_aload_n hx hb dX10_digest_83 rfl (lv_at hl 0 rfl) ?_
      refine gf_X10_46_0 C hK hs dX10_digest_84 ?_
      refine gf_X10_138_26 C hK hs dX10_digest_87 ?_
      refine lv_icmp_ge (tgt := 168) hx hb dX10_digest_90 (by decide) (fun hc => ?_) (fun hc => ?_)
      · have hE := if_t hc hE
        exact hk σ23 v24 v25 _ _ _ hs (lv_sub hl [0, 1, 2] rfl) hE
      · have hE := if_f hc hE
        refine lv_iconst (v := 0) hx hb dX10_digest_93 (by decide) ?_
        refine lv_istore (lv' := [(4, .int 0), (0, .ref (g.2.1 0)), (1, .long v24), (3, .int v25)]) hx hb dX10_digest_94 hl (by decide) rfl (fun ls hl => ?_)
        have hL96 : ∀ (n : Nat) (σ26 : St) (v27 : Int64) (v28 : Int32) (k : St → Int64 → Int32 → Option (St × Int64)), fX10_digest_L96 v25 n σ26 v27 v28 k = some (σ', r) → (∀ (σ26 : St) (v27 : Int64) (v28 : Int32) (H : Heap) (locs : List Loc) (ls : Array Slot), HW 52 entC g A H0 H locs σ26 → lv_has ls 5 [(0, .ref (g.2.1 0)), (1, .long v27), (3, .int v25), (4, .int v28)] → k σ26 v27 v28 = some (σ', r) → W p l e (rmD 5) s m args below meth c H locs 0 0 Q (F0 m 123 ls [])) → ∀ (H : Heap) (locs : List Loc) (ls : Array Slot), HW 52 entC g A H0 H locs σ26 → lv_has ls 5 [(0, .ref (g.2.1 0)), (1, .long v27), (3, .int v25), (4, .int v28)] → W p l e (rmD 5) s m args below meth c H locs 0 0 Q (F0 m 96 ls []) := by
          intro n
          induction n with
          | zero =>
            intro σ26 v27 v28 k hE
            rw [fX10_digest_L96] at hE
            exact no_e hE
          | succ n ih =>
            intro σ26 v27 v28 k hE hk H locs ls hs hl
            rw [fX10_digest_L96] at hE
            refine lv_iload hx hb dX10_digest_96 (lv_at hl 3 rfl) ?_
            refine lv_iconst (v := 3) hx hb dX10_digest_98 (by decide) ?_
            refine lv_icmp_gt (tgt := 123) hx hb dX10_digest_99 (by decide) (fun hc => ?_) (fun hc => ?_)
            · have hE := if_t hc hE
              exact hk σ26 v27 v28 _ _ _ hs (lv_sub hl [0, 1, 2, 3] rfl) hE
            · have hE := if_f hc hE
              refine lv_ldc2 (v := 31) hx hb C.2.2.2.1 (C.2.2.2.2 _ mw_940) dX10_digest_102 ?_
              refine lv_lload_n hx hb dX10_digest_105 rfl (lv_at hl 1 rfl) ?_
              refine lv_lmul hx hb dX10_digest_106 ?_
              refine lv_aload_n hx hb dX10_digest_107 rfl (lv_at hl 0 rfl) ?_
              refine lv_iload_n hx hb dX10_digest_108 rfl (lv_at hl 2 rfl) ?_
              refine lv_iload hx hb dX10_digest_109 (lv_at hl 3 rfl) ?_
              obtain ⟨σ29, r30, hE1, hE⟩ := cl_e hE
              refine x_civ (As := [.int v25, .int v28]) (rest := [.long (31 * v27)]) C hl.1 hK hs hA ⟨Nat.le_refl 0, Nat.le_refl 0⟩ (ctX10_ofHouse l g _ _ _ _ _ hE1) (cw_X10_156 C ⟨Nat.le_of_ble_eq_true rfl, Nat.le_of_ble_eq_true rfl⟩) (hs.recv hK 0 (by decide) rfl rfl) rfl rfl (Nat.le_of_ble_eq_true rfl) dX10_digest_111 (fun H locs hs => ?_)
              refine lv_i2l (v := r30.toInt64) hx hb dX10_digest_114 rfl ?_
              refine lv_ladd hx hb dX10_digest_115 ?_
              refine lv_lstore_n (lv' := [(1, .long ((31 * v27) + (r30.toInt64))), (0, .ref (g.2.1 0)), (3, .int v25), (4, .int v28)]) hx hb dX10_digest_116 rfl hl (by decide) rfl (fun ls hl => ?_)
              refine lv_iinc (v := v28 + 1) (lv' := [(4, .int (v28 + 1)), (1, .long ((31 * v27) + (r30.toInt64))), (0, .ref (g.2.1 0)), (3, .int v25)]) hx hb dX10_digest_117 hl (k := 3) rfl rfl (by decide) rfl (fun ls hl => ?_)
              refine lv_goto (tgt := 96) hx hb dX10_digest_120 (by decide) ?_
              exact ih _ _ _ _ hE hk _ _ _ hs (lv_sub hl [2, 1, 3, 0] rfl)
        refine hL96 _ _ _ _ _ hE (fun σ31 v32 v33 H locs ls hs hl hE => ?_) H locs ls hs (lv_sub hl [1, 2, 3, 0] rfl)
        refine lv_iconst (v := 0) hx hb dX10_digest_123 (by decide) ?_
        refine lv_istore (lv' := [(4, .int 0), (0, .ref (g.2.1 0)), (1, .long v32), (3, .int v25)]) hx hb dX10_digest_124 hl (by decide) rfl (fun ls hl => ?_)
        have hL126 : ∀ (n : Nat) (σ34 : St) (v35 : Int64) (v36 : Int32) (k : St → Int64 → Int32 → Option (St × Int64)), fX10_digest_L126 v25 n σ34 v35 v36 k = some (σ', r) → (∀ (σ34 : St) (v35 : Int64) (v36 : Int32) (H : Heap) (locs : List Loc) (ls : Array Slot), HW 52 entC g A H0 H locs σ34 → lv_has ls 5 [(0, .ref (g.2.1 0)), (1, .long v35), (3, .int v25), (4, .int v36)] → k σ34 v35 v36 = some (σ', r) → W p l e (rmD 5) s m args below meth c H locs 0 0 Q (F0 m 162 ls [])) → ∀ (H : Heap) (locs : List Loc) (ls : Array Slot), HW 52 entC g A H0 H locs σ34 → lv_has ls 5 [(0, .ref (g.2.1 0)), (1, .long v35), (3, .int v25), (4, .int v36)] → W p l e (rmD 5) s m args below meth c H locs 0 0 Q (F0 m 126 ls []) := by
          intro n
          induction n with
          | zero =>
            intro σ34 v35 v36 k hE
            rw [fX10_digest_L126] at hE
            exact no_e hE
          | succ n ih =>
            intro σ34 v35 v36 k hE hk H locs ls hs hl
            rw [fX10_digest_L126] at hE
            refine lv_iload hx hb dX10_digest_126 (lv_at hl 3 rfl) ?_
            refine lv_aload_n hx hb dX10_digest_128 rfl (lv_at hl 0 rfl) ?_
            refine gf_X10_46_0 C hK hs dX10_digest_129 ?_
            refine gf_X10_253_26 C hK hs dX10_digest_132 ?_
            refine lv_icmp_ge (tgt := 162) hx hb dX10_digest_135 (by decide) (fun hc => ?_) (fun hc => ?_)
            · have hE := if_t hc hE
              exact hk σ34 v35 v36 _ _ _ hs (lv_sub hl [0, 1, 2, 3] rfl) hE
            · have hE := if_f hc hE
              refine lv_ldc2 (v := 31) hx hb C.2.2.2.1 (C.2.2.2.2 _ mw_940) dX10_digest_138 ?_
              refine lv_lload_n hx hb dX10_digest_141 rfl (lv_at hl 1 rfl) ?_
              refine lv_lmul hx hb dX10_digest_142 ?_
              refine lv_aload_n hx hb dX10_digest_143 rfl (lv_at hl 0 rfl) ?_
              refine gf_X10_39_0 C hK hs dX10_digest_144 ?_
              refine lv_iload_n hx hb dX10_digest_147 rfl (lv_at hl 2 rfl) ?_
              refine lv_iload hx hb dX10_digest_148 (lv_at hl 3 rfl) ?_
              obtain ⟨σ37, r38, hE1, hE⟩ := cl_e hE
              refine x_civ (As := [.int v25, .int v36]) (rest := [.long (31 * v35)]) C hl.1 hK hs hA ⟨Nat.le_refl 0, Nat.le_refl 0⟩ (ctX9_endOf l g _ _ _ _ _ hE1) (cw_X10_165 C ⟨Nat.le_of_ble_eq_true rfl, Nat.le_of_ble_eq_true rfl⟩) (hs.recv hK 25 (by decide) rfl rfl) rfl rfl (Nat.le_of_ble_eq_true rfl) dX10_digest_150 (fun H locs hs => ?_)
              refine lv_i2l (v := r38.toInt64) hx hb dX10_digest_153 rfl ?_
              refine lv_ladd hx hb dX10_digest_154 ?_
              refine lv_lstore_n (lv' := [(1, .long ((31 * v35) + (r38.toInt64))), (0, .ref (g.2.1 0)), (3, .int v25), (4, .int v36)]) hx hb dX10_digest_155 rfl hl (by decide) rfl (fun ls hl => ?_)
              refine lv_iinc (v := v36 + 1) (lv' := [(4, .int (v36 + 1)), (1, .long ((31 * v35) + (r38.toInt64))), (0, .ref (g.2.1 0)), (3, .int v25)]) hx hb dX10_digest_156 hl (k := 3) rfl rfl (by decide) rfl (fun ls hl => ?_)
              refine lv_goto (tgt := 126) hx hb dX10_digest_159 (by decide) ?_
              exact ih _ _ _ _ hE hk _ _ _ hs (lv_sub hl [2, 1, 3, 0] rfl)
        refine hL126 _ _ _ _ _ hE (fun σ39 v40 v41 H locs ls hs hl hE => ?_) H locs ls hs (lv_sub hl [1, 2, 3, 0] rfl)
        refine lv_iinc (v := v25 + 1) (lv' := [(3, .int (v25 + 1)), (0, .ref (g.2.1 0)), (1, .long v40), (4, .int v41)]) hx hb dX10_digest_162 hl (k := 2) rfl rfl (by decide) rfl (fun ls hl => ?_)
        refine lv_goto (tgt := 82) hx hb dX10_digest_165 (by decide) ?_
        exact ih _ _ _ _ hE hk _ _ _ hs (lv_sub hl [1, 2, 0] rfl)
  refine hL82 _ _ _ _ _ hE (fun σ42 v43 v44 H locs ls hs hl hE => ?_) H locs ls hs (lv_sub hl [1, 2, 0] rfl)
  refine lv_iconst (v := 0) hx hb dX10_digest_168 (by decide) ?_
  refine lv_istore_n (lv' := [(3, .int 0), (0, .ref (g.2.1 0)), (1, .long v43)]) hx hb dX10_digest_169 rfl hl (by decide) rfl (fun ls hl => ?_)
  have hL170 : ∀ (n : Nat) (σ45 : St) (v46 : Int64) (v47 : Int32) (k : St → Int64 → Int32 → Option (St × Int64)), fX10_digest_L170 n σ45 v46 v47 k = some (σ', r) → (∀ (σ45 : St) (v46 : Int64) (v47 : Int32) (H : Heap) (locs : List Loc) (ls : Array Slot), HW 52 entC g A H0 H locs σ45 → lv_has ls 5 [(0, .ref (g.2.1 0)), (1, .long v46), (3, .int v47)] → k σ45 v46 v47 = some (σ', r) → W p l e (rmD 5) s m args below meth c H locs 0 0 Q (F0 m 197 ls [])) → ∀ (H : Heap) (locs : List Loc) (ls : Array Slot), HW 52 entC g A H0 H locs σ45 → lv_has ls 5 [(0, .ref (g.2.1 0)), (1, .long v46), (3, .int v47)] → W p l e (rmD 5) s m args below meth c H locs 0 0 Q (F0 m 170 ls []) := by
    intro n
    induction n with
    | zero =>
      intro σ45 v46 v47 k hE
      rw [fX10_digest_L170] at hE
      exact no_e hE
    | succ n ih =>
      intro σ45 v46 v47 k hE hk H locs ls hs hl
      rw [fX10_digest_L170] at hE
      refine lv_iload_n hx hb dX10_digest_170 rfl (lv_at hl 2 rfl) ?_
      refine lv_iconst (v := 3) hx hb dX10_digest_171 (by decide) ?_
      refine lv_icmp_ge (tgt := 197) hx hb dX10_digest_172 (by decide) (fun hc => ?_) (fun hc => ?_)
      · have hE := if_t hc hE
        exact hk σ45 v46 v47 _ _ _ hs (lv_sub hl [0, 1, 2] rfl) hE
      · have hE := if_f hc hE
        refine lv_ldc2 (v := 31) hx hb C.2.2.2.1 (C.2.2.2.2 _ mw_940) dX10_digest_175 ?_
        refine lv_lload_n hx hb dX10_digest_178 rfl (lv_at hl 1 rfl) ?_
        refine lv_lmul hx hb dX10_digest_179 ?_
        refine lv_aload_n hx hb dX10_digest_180 rfl (lv_at hl 0 rfl) ?_
        refine gf_X10_31_0 C hK hs dX10_digest_181 ?_
        refine lv_iload_n hx hb dX10_digest_184 rfl (lv_at hl 2 rfl) ?_
        obtain ⟨σ48, r49, hE1, hE⟩ := cl_e hE
        refine x_civ (As := [.int v47]) (rest := [.long (31 * v46)]) C hl.1 hK hs hA ⟨Nat.le_refl 0, Nat.le_refl 0⟩ (ctX3_shelved l g _ _ _ _ hE1) (cw_X10_218 C ⟨Nat.le_of_ble_eq_true rfl, Nat.le_of_ble_eq_true rfl⟩) (hs.recv hK 24 (by decide) rfl rfl) rfl rfl (Nat.le_of_ble_eq_true rfl) dX10_digest_185 (fun H locs hs => ?_)
        refine lv_i2l (v := r49.toInt64) hx hb dX10_digest_188 rfl ?_
        refine lv_ladd hx hb dX10_digest_189 ?_
        refine lv_lstore_n (lv' := [(1, .long ((31 * v46) + (r49.toInt64))), (0, .ref (g.2.1 0)), (3, .int v47)]) hx hb dX10_digest_190 rfl hl (by decide) rfl (fun ls hl => ?_)
        refine lv_iinc (v := v47 + 1) (lv' := [(3, .int (v47 + 1)), (1, .long ((31 * v46) + (r49.toInt64))), (0, .ref (g.2.1 0))]) hx hb dX10_digest_191 hl (k := 2) rfl rfl (by decide) rfl (fun ls hl => ?_)
        refine lv_goto (tgt := 170) hx hb dX10_digest_194 (by decide) ?_
        exact ih _ _ _ _ hE hk _ _ _ hs (lv_sub hl [2, 1, 0] rfl)
  refine hL170 _ _ _ _ _ hE (fun σ50 v51 v52 H locs ls hs hl hE => ?_) H locs ls hs (lv_sub hl [1, 2, 0] rfl)
  refine lv_aload_n hx hb dX10_digest_197 rfl (lv_at hl 0 rfl) ?_
  refine gf_X10_18_0 C hK hs dX10_digest_198 ?_
  refine lv_aload_n hx hb dX10_digest_201 rfl (lv_at hl 0 rfl) ?_
  refine gf_X10_14_0 C hK hs dX10_digest_202 ?_
  refine lv_lload_n hx hb dX10_digest_205 rfl (lv_at hl 1 rfl) ?_
  obtain ⟨σ53, r54, hE1, hE⟩ := cl_e hE
  refine x_clv (As := [.long v51]) (rest := [.ref (g.2.1 10)]) C hl.1 hK hs hA ⟨Nat.le_refl 0, Nat.le_refl 0⟩ (ctX7_mixInto_1 l g _ _ _ _ hE1) (cw_X10_334 C ⟨Nat.le_of_ble_eq_true rfl, Nat.le_of_ble_eq_true rfl⟩) (hs.recv hK 1 (by decide) rfl rfl) rfl rfl (Nat.le_of_ble_eq_true rfl) dX10_digest_206 (fun H locs hs => ?_)
  obtain ⟨σ55, r56, hE1, hE⟩ := cl_e hE
  refine x_clv (As := [.long r54]) (rest := []) C hl.1 hK hs hA ⟨Nat.le_refl 0, Nat.le_refl 0⟩ (ctX7_mixInto_10 l g _ _ _ _ hE1) (cw_X10_334 C ⟨Nat.le_of_ble_eq_true rfl, Nat.le_of_ble_eq_true rfl⟩) (hs.recv hK 10 (by decide) rfl rfl) rfl rfl (Nat.le_of_ble_eq_true rfl) dX10_digest_209 (fun H locs hs => ?_)
  exact hQ hs hE dX10_digest_212
