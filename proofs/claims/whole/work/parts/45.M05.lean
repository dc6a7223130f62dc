theorem dX11_trade_0 : decode cX11_trade 0 = .ok (.aload_n 0, 1) := by decide +kernel
theorem dX11_trade_1 : decode cX11_trade 1 = .ok (.iload_n 1, 1) := by decide +kernel
theorem dX11_trade_2 : decode cX11_trade 2 = .ok (.invokevirtual 201, 3) := by decide +kernel
theorem dX11_trade_5 : decode cX11_trade 5 = .ok (.ifCond .eq 39, 3) := by decide +kernel
theorem dX11_trade_8 : decode cX11_trade 8 = .ok (.aload_n 0, 1) := by decide +kernel
theorem dX11_trade_9 : decode cX11_trade 9 = .ok (.iload_n 2, 1) := by decide +kernel
theorem dX11_trade_10 : decode cX11_trade 10 = .ok (.invokevirtual 191, 3) := by decide +kernel
theorem dX11_trade_13 : decode cX11_trade 13 = .ok (.ifCond .eq 31, 3) := by decide +kernel
theorem dX11_trade_16 : decode cX11_trade 16 = .ok (.aload_n 0, 1) := by decide +kernel
theorem dX11_trade_17 : decode cX11_trade 17 = .ok (.iload_n 3, 1) := by decide +kernel
theorem dX11_trade_18 : decode cX11_trade 18 = .ok (.invokevirtual 201, 3) := by decide +kernel
theorem dX11_trade_21 : decode cX11_trade 21 = .ok (.ifCond .eq 23, 3) := by decide +kernel
theorem dX11_trade_24 : decode cX11_trade 24 = .ok (.aload_n 0, 1) := by decide +kernel
theorem dX11_trade_25 : decode cX11_trade 25 = .ok (.iload 4, 2) := by decide +kernel
theorem dX11_trade_27 : decode cX11_trade 27 = .ok (.invokevirtual 191, 3) := by decide +kernel
theorem dX11_trade_30 : decode cX11_trade 30 = .ok (.ifCond .eq 14, 3) := by decide +kernel
theorem dX11_trade_33 : decode cX11_trade 33 = .ok (.iload_n 1, 1) := by decide +kernel
theorem dX11_trade_34 : decode cX11_trade 34 = .ok (.iload_n 3, 1) := by decide +kernel
theorem dX11_trade_35 : decode cX11_trade 35 = .ok (.if_icmp .eq 9, 3) := by decide +kernel
theorem dX11_trade_38 : decode cX11_trade 38 = .ok (.iload_n 2, 1) := by decide +kernel
theorem dX11_trade_39 : decode cX11_trade 39 = .ok (.iload 4, 2) := by decide +kernel
theorem dX11_trade_41 : decode cX11_trade 41 = .ok (.if_icmp .ne 5, 3) := by decide +kernel
theorem dX11_trade_44 : decode cX11_trade 44 = .ok (.iconst (-1), 1) := by decide +kernel
theorem dX11_trade_45 : decode cX11_trade 45 = .ok (.ireturn, 1) := by decide +kernel
theorem dX11_trade_46 : decode cX11_trade 46 = .ok (.aload_n 0, 1) := by decide +kernel
theorem dX11_trade_47 : decode cX11_trade 47 = .ok (.getfield 37, 3) := by decide +kernel
theorem dX11_trade_50 : decode cX11_trade 50 = .ok (.iload_n 1, 1) := by decide +kernel
theorem dX11_trade_51 : decode cX11_trade 51 = .ok (.iload_n 2, 1) := by decide +kernel
theorem dX11_trade_52 : decode cX11_trade 52 = .ok (.invokestatic 184, 3) := by decide +kernel
theorem dX11_trade_55 : decode cX11_trade 55 = .ok (.ifCond .eq 41, 3) := by decide +kernel
theorem dX11_trade_58 : decode cX11_trade 58 = .ok (.aload_n 0, 1) := by decide +kernel
theorem dX11_trade_59 : decode cX11_trade 59 = .ok (.getfield 37, 3) := by decide +kernel
theorem dX11_trade_62 : decode cX11_trade 62 = .ok (.iload_n 3, 1) := by decide +kernel
theorem dX11_trade_63 : decode cX11_trade 63 = .ok (.iload 4, 2) := by decide +kernel
theorem dX11_trade_65 : decode cX11_trade 65 = .ok (.invokestatic 184, 3) := by decide +kernel
theorem dX11_trade_68 : decode cX11_trade 68 = .ok (.ifCond .eq 28, 3) := by decide +kernel
theorem dX11_trade_71 : decode cX11_trade 71 = .ok (.aload_n 0, 1) := by decide +kernel
theorem dX11_trade_72 : decode cX11_trade 72 = .ok (.getfield 37, 3) := by decide +kernel
theorem dX11_trade_75 : decode cX11_trade 75 = .ok (.iload_n 1, 1) := by decide +kernel
theorem dX11_trade_76 : decode cX11_trade 76 = .ok (.iload 4, 2) := by decide +kernel
theorem dX11_trade_78 : decode cX11_trade 78 = .ok (.invokestatic 184, 3) := by decide +kernel
theorem dX11_trade_81 : decode cX11_trade 81 = .ok (.ifCond .ne 15, 3) := by decide +kernel
theorem dX11_trade_84 : decode cX11_trade 84 = .ok (.aload_n 0, 1) := by decide +kernel
theorem dX11_trade_85 : decode cX11_trade 85 = .ok (.getfield 37, 3) := by decide +kernel
theorem dX11_trade_88 : decode cX11_trade 88 = .ok (.iload_n 3, 1) := by decide +kernel
theorem dX11_trade_89 : decode cX11_trade 89 = .ok (.iload_n 2, 1) := by decide +kernel
theorem dX11_trade_90 : decode cX11_trade 90 = .ok (.invokestatic 184, 3) := by decide +kernel
theorem dX11_trade_93 : decode cX11_trade 93 = .ok (.ifCond .eq 6, 3) := by decide +kernel
theorem dX11_trade_96 : decode cX11_trade 96 = .ok (.bipush (-4), 2) := by decide +kernel
theorem dX11_trade_98 : decode cX11_trade 98 = .ok (.ireturn, 1) := by decide +kernel
theorem dX11_trade_99 : decode cX11_trade 99 = .ok (.aload_n 0, 1) := by decide +kernel
theorem dX11_trade_100 : decode cX11_trade 100 = .ok (.getfield 174, 3) := by decide +kernel
theorem dX11_trade_103 : decode cX11_trade 103 = .ok (.bipush 40, 2) := by decide +kernel
theorem dX11_trade_105 : decode cX11_trade 105 = .ok (.if_icmp .ne 6, 3) := by decide +kernel
theorem dX11_trade_108 : decode cX11_trade 108 = .ok (.bipush (-2), 2) := by decide +kernel
theorem dX11_trade_110 : decode cX11_trade 110 = .ok (.ireturn, 1) := by decide +kernel
theorem dX11_trade_111 : decode cX11_trade 111 = .ok (.aload_n 0, 1) := by decide +kernel
theorem dX11_trade_112 : decode cX11_trade 112 = .ok (.invokevirtual 230, 3) := by decide +kernel
theorem dX11_trade_115 : decode cX11_trade 115 = .ok (.aload_n 0, 1) := by decide +kernel
theorem dX11_trade_116 : decode cX11_trade 116 = .ok (.getfield 37, 3) := by decide +kernel
theorem dX11_trade_119 : decode cX11_trade 119 = .ok (.bipush 7, 2) := by decide +kernel
theorem dX11_trade_121 : decode cX11_trade 121 = .ok (.bipush 8, 2) := by decide +kernel
theorem dX11_trade_123 : decode cX11_trade 123 = .ok (.iload_n 3, 1) := by decide +kernel
theorem dX11_trade_124 : decode cX11_trade 124 = .ok (.imul, 1) := by decide +kernel
theorem dX11_trade_125 : decode cX11_trade 125 = .ok (.iadd, 1) := by decide +kernel
theorem dX11_trade_126 : decode cX11_trade 126 = .ok (.iload_n 2, 1) := by decide +kernel
theorem dX11_trade_127 : decode cX11_trade 127 = .ok (.iadd, 1) := by decide +kernel
theorem dX11_trade_128 : decode cX11_trade 128 = .ok (.aload_n 0, 1) := by decide +kernel
theorem dX11_trade_129 : decode cX11_trade 129 = .ok (.getfield 37, 3) := by decide +kernel
theorem dX11_trade_132 : decode cX11_trade 132 = .ok (.bipush 7, 2) := by decide +kernel
theorem dX11_trade_134 : decode cX11_trade 134 = .ok (.bipush 8, 2) := by decide +kernel
theorem dX11_trade_136 : decode cX11_trade 136 = .ok (.iload_n 1, 1) := by decide +kernel
theorem dX11_trade_137 : decode cX11_trade 137 = .ok (.imul, 1) := by decide +kernel
theorem dX11_trade_138 : decode cX11_trade 138 = .ok (.iadd, 1) := by decide +kernel
theorem dX11_trade_139 : decode cX11_trade 139 = .ok (.iload_n 2, 1) := by decide +kernel
theorem dX11_trade_140 : decode cX11_trade 140 = .ok (.iadd, 1) := by decide +kernel
theorem dX11_trade_141 : decode cX11_trade 141 = .ok (.iaload, 1) := by decide +kernel
theorem dX11_trade_142 : decode cX11_trade 142 = .ok (.iastore, 1) := by decide +kernel
theorem dX11_trade_143 : decode cX11_trade 143 = .ok (.aload_n 0, 1) := by decide +kernel
theorem dX11_trade_144 : decode cX11_trade 144 = .ok (.getfield 37, 3) := by decide +kernel
theorem dX11_trade_147 : decode cX11_trade 147 = .ok (.bipush 7, 2) := by decide +kernel
theorem dX11_trade_149 : decode cX11_trade 149 = .ok (.bipush 8, 2) := by decide +kernel
theorem dX11_trade_151 : decode cX11_trade 151 = .ok (.iload_n 1, 1) := by decide +kernel
theorem dX11_trade_152 : decode cX11_trade 152 = .ok (.imul, 1) := by decide +kernel
theorem dX11_trade_153 : decode cX11_trade 153 = .ok (.iadd, 1) := by decide +kernel
theorem dX11_trade_154 : decode cX11_trade 154 = .ok (.iload 4, 2) := by decide +kernel
theorem dX11_trade_156 : decode cX11_trade 156 = .ok (.iadd, 1) := by decide +kernel
theorem dX11_trade_157 : decode cX11_trade 157 = .ok (.aload_n 0, 1) := by decide +kernel
theorem dX11_trade_158 : decode cX11_trade 158 = .ok (.getfield 37, 3) := by decide +kernel
theorem dX11_trade_161 : decode cX11_trade 161 = .ok (.bipush 7, 2) := by decide +kernel
theorem dX11_trade_163 : decode cX11_trade 163 = .ok (.bipush 8, 2) := by decide +kernel
theorem dX11_trade_165 : decode cX11_trade 165 = .ok (.iload_n 3, 1) := by decide +kernel
theorem dX11_trade_166 : decode cX11_trade 166 = .ok (.imul, 1) := by decide +kernel
theorem dX11_trade_167 : decode cX11_trade 167 = .ok (.iadd, 1) := by decide +kernel
theorem dX11_trade_168 : decode cX11_trade 168 = .ok (.iload 4, 2) := by decide +kernel
theorem dX11_trade_170 : decode cX11_trade 170 = .ok (.iadd, 1) := by decide +kernel
theorem dX11_trade_171 : decode cX11_trade 171 = .ok (.iaload, 1) := by decide +kernel
theorem dX11_trade_172 : decode cX11_trade 172 = .ok (.iastore, 1) := by decide +kernel
theorem dX11_trade_173 : decode cX11_trade 173 = .ok (.aload_n 0, 1) := by decide +kernel
theorem dX11_trade_174 : decode cX11_trade 174 = .ok (.getfield 37, 3) := by decide +kernel
theorem dX11_trade_177 : decode cX11_trade 177 = .ok (.bipush 7, 2) := by decide +kernel
theorem dX11_trade_179 : decode cX11_trade 179 = .ok (.bipush 8, 2) := by decide +kernel
theorem dX11_trade_181 : decode cX11_trade 181 = .ok (.iload_n 1, 1) := by decide +kernel
theorem dX11_trade_182 : decode cX11_trade 182 = .ok (.imul, 1) := by decide +kernel
theorem dX11_trade_183 : decode cX11_trade 183 = .ok (.iadd, 1) := by decide +kernel
theorem dX11_trade_184 : decode cX11_trade 184 = .ok (.iload_n 2, 1) := by decide +kernel
theorem dX11_trade_185 : decode cX11_trade 185 = .ok (.iadd, 1) := by decide +kernel
theorem dX11_trade_186 : decode cX11_trade 186 = .ok (.iconst 0, 1) := by decide +kernel
theorem dX11_trade_187 : decode cX11_trade 187 = .ok (.iastore, 1) := by decide +kernel
theorem dX11_trade_188 : decode cX11_trade 188 = .ok (.aload_n 0, 1) := by decide +kernel
theorem dX11_trade_189 : decode cX11_trade 189 = .ok (.getfield 37, 3) := by decide +kernel
theorem dX11_trade_192 : decode cX11_trade 192 = .ok (.bipush 7, 2) := by decide +kernel
theorem dX11_trade_194 : decode cX11_trade 194 = .ok (.bipush 8, 2) := by decide +kernel
theorem dX11_trade_196 : decode cX11_trade 196 = .ok (.iload_n 3, 1) := by decide +kernel
theorem dX11_trade_197 : decode cX11_trade 197 = .ok (.imul, 1) := by decide +kernel
theorem dX11_trade_198 : decode cX11_trade 198 = .ok (.iadd, 1) := by decide +kernel
theorem dX11_trade_199 : decode cX11_trade 199 = .ok (.iload 4, 2) := by decide +kernel
theorem dX11_trade_201 : decode cX11_trade 201 = .ok (.iadd, 1) := by decide +kernel
theorem dX11_trade_202 : decode cX11_trade 202 = .ok (.iconst 0, 1) := by decide +kernel
theorem dX11_trade_203 : decode cX11_trade 203 = .ok (.iastore, 1) := by decide +kernel
theorem dX11_trade_204 : decode cX11_trade 204 = .ok (.aload_n 0, 1) := by decide +kernel
theorem dX11_trade_205 : decode cX11_trade 205 = .ok (.getfield 37, 3) := by decide +kernel
theorem dX11_trade_208 : decode cX11_trade 208 = .ok (.bipush 7, 2) := by decide +kernel
theorem dX11_trade_210 : decode cX11_trade 210 = .ok (.bipush 8, 2) := by decide +kernel
theorem dX11_trade_212 : decode cX11_trade 212 = .ok (.iload_n 1, 1) := by decide +kernel
theorem dX11_trade_213 : decode cX11_trade 213 = .ok (.imul, 1) := by decide +kernel
theorem dX11_trade_214 : decode cX11_trade 214 = .ok (.iadd, 1) := by decide +kernel
theorem dX11_trade_215 : decode cX11_trade 215 = .ok (.iload 4, 2) := by decide +kernel
theorem dX11_trade_217 : decode cX11_trade 217 = .ok (.iadd, 1) := by decide +kernel
theorem dX11_trade_218 : decode cX11_trade 218 = .ok (.iaload, 1) := by decide +kernel
theorem dX11_trade_219 : decode cX11_trade 219 = .ok (.ireturn, 1) := by decide +kernel
def fX11_trade (σ : St) (p1 : Int32) (p2 : Int32) (p3 : Int32) (p4 : Int32) : Option (St × Int32) := cl (fX11_isHouse σ p1) (fun σ1 r2 => (if r2 = 0 then some (σ1, (-1)) else cl (fX11_isColour σ1 p2) (fun σ3 r4 => (if r4 = 0 then some (σ3, (-1)) else cl (fX11_isHouse σ3 p3) (fun σ5 r6 => (if r6 = 0 then some (σ5, (-1)) else cl (fX11_isColour σ5 p4) (fun σ7 r8 => (if r8 = 0 then some (σ7, (-1)) else (if p1 = p3 then some (σ7, (-1)) else (if p2 = p4 then some (σ7, (-1)) else cl (fX11_owns σ7 10 p1 p2) (fun σ9 r10 => (if r10 = 0 then some (σ9, (-4)) else cl (fX11_owns σ9 10 p3 p4) (fun σ11 r12 => (if r12 = 0 then some (σ11, (-4)) else cl (fX11_owns σ11 10 p1 p4) (fun σ13 r14 => (if r14 = 0 then cl (fX11_owns σ13 10 p3 p2) (fun σ15 r16 => (if r16 = 0 then (if (σ15.1 0 14) = 40 then some (σ15, (-2)) else cl (fX11_notes σ15) (fun σ17 r18 => rd LM σ17 10 ((7 + (8 * p1)) + p2) (fun x19 => wr LM σ17 10 ((7 + (8 * p3)) + p2) x19 (fun σ20 => rd LM σ20 10 ((7 + (8 * p3)) + p4) (fun x21 => wr LM σ20 10 ((7 + (8 * p1)) + p4) x21 (fun σ22 => wr LM σ22 10 ((7 + (8 * p1)) + p2) 0 (fun σ23 => wr LM σ23 10 ((7 + (8 * p3)) + p4) 0 (fun σ24 => rd LM σ24 10 ((7 + (8 * p1)) + p4) (fun x25 => some (σ24, x25)))))))))) else some (σ15, (-4)))) else some (σ13, (-4))))))))))))))))))
set_option maxHeartbeats 4000000 in
set_option maxRecDepth 100000 in
theorem ctX11_trade (l : Launch) (g : GG) (σ : St) (p1 : Int32) (p2 : Int32) (p3 : Int32) (p4 : Int32) (σ' : St) (r : Int32) (hE : fX11_trade σ p1 p2 p3 p4 = some (σ', r)) : MI 25 entM l g yX11_trade (Cond.code yX11_trade cX11_trade 5 (some .int) :: gtbl) (rmD 3) [.ref (g.2.1 0), .int p1, .int p2, .int p3, .int p4] σ σ' r := by
  refine mi_i (own := RX11) (lv := [(0, .ref (g.2.1 0)), (1, .int p1), (2, .int p2), (3, .int p3), (4, .int p4)]) (by decide) rfl (Nat.le_of_ble_eq_true rfl) rfl (fun p e s m below meth c ls args Q A H0 H locs C hK hA hQ hs hl => ?_)
  have hx := C.1
  have hb := C.2.1
  unfold fX11_trade at hE
  refine lv_aload_n hx hb dX11_trade_0 rfl (lv_at hl 0 rfl) ?_
  refine lv_iload_n hx hb dX11_trade_1 rfl (lv_at hl 1 rfl) ?_
  obtain ⟨σ1, r2, hE1, hE⟩ := cl_e hE
  refine x_civ (As := [.int p1]) (rest := []) C hl.1 hK hs hA ⟨Nat.le_refl 0, Nat.le_refl 0⟩ (ctX11_isHouse l g _ _ _ _ hE1) (cw_X11_201 C ⟨Nat.le_of_ble_eq_true rfl, Nat.le_of_ble_eq_true rfl⟩) (hs.recv hK 0 (by decide) rfl rfl) rfl rfl (Nat.le_of_ble_eq_true rfl) dX11_trade_2 (fun H locs hs => ?_)
  refine lv_if_eq (tgt := 44) hx hb dX11_trade_5 (by decide) (fun hc => ?_) (fun hc => ?_)
  · have hE := if_t hc hE
    refine lv_iconst (v := (-1)) hx hb dX11_trade_44 (by decide) ?_
    exact hQ hs hE dX11_trade_45
  · have hE := if_f hc hE
    refine lv_aload_n hx hb dX11_trade_8 rfl (lv_at hl 0 rfl) ?_
    refine lv_iload_n hx hb dX11_trade_9 rfl (lv_at hl 2 rfl) ?_
    obtain ⟨σ3, r4, hE1, hE⟩ := cl_e hE
    refine x_civ (As := [.int p2]) (rest := []) C hl.1 hK hs hA ⟨Nat.le_refl 0, Nat.le_refl 0⟩ (ctX11_isColour l g _ _ _ _ hE1) (cw_X11_191 C ⟨Nat.le_of_ble_eq_true rfl, Nat.le_of_ble_eq_true rfl⟩) (hs.recv hK 0 (by decide) rfl rfl) rfl rfl (Nat.le_of_ble_eq_true rfl) dX11_trade_10 (fun H locs hs => ?_)
    refine lv_if_eq (tgt := 44) hx hb dX11_trade_13 (by decide) (fun hc => ?_) (fun hc => ?_)
    · have hE := if_t hc hE
      refine lv_iconst (v := (-1)) hx hb dX11_trade_44 (by decide) ?_
      exact hQ hs hE dX11_trade_45
    · have hE := if_f hc hE
      refine lv_aload_n hx hb dX11_trade_16 rfl (lv_at hl 0 rfl) ?_
      refine lv_iload_n hx hb dX11_trade_17 rfl (lv_at hl 3 rfl) ?_
      obtain ⟨σ5, r6, hE1, hE⟩ := cl_e hE
      refine x_civ (As := [.int p3]) (rest := []) C hl.1 hK hs hA ⟨Nat.le_refl 0, Nat.le_refl 0⟩ (ctX11_isHouse l g _ _ _ _ hE1) (cw_X11_201 C ⟨Nat.le_of_ble_eq_true rfl, Nat.le_of_ble_eq_true rfl⟩) (hs.recv hK 0 (by decide) rfl rfl) rfl rfl (Nat.le_of_ble_eq_true rfl) dX11_trade_18 (fun H locs hs => ?_)
      refine lv_if_eq (tgt := 44) hx hb dX11_trade_21 (by decide) (fun hc => ?_) (fun hc => ?_)
      · have hE := if_t hc hE
        refine lv_iconst (v := (-1)) hx hb dX11_trade_44 (by decide) ?_
        exact hQ hs hE dX11_trade_45
      · have hE := if_f hc hE
        refine lv_aload_n hx hb dX11_trade_24 rfl (lv_at hl 0 rfl) ?_
        refine lv_iload hx hb dX11_trade_25 (lv_at hl 4 rfl) ?_
        obtain ⟨σ7, r8, hE1, hE⟩ := cl_e hE
        refine x_civ (As := [.int p4]) (rest := []) C hl.1 hK hs hA ⟨Nat.le_refl 0, Nat.le_refl 0⟩ (ctX11_isColour l g _ _ _ _ hE1) (cw_X11_191 C ⟨Nat.le_of_ble_eq_true rfl, Nat.le_of_ble_eq_true rfl⟩) (hs.recv hK 0 (by decide) rfl rfl) rfl rfl (Nat.le_of_ble_eq_true rfl) dX11_trade_27 (fun H locs hs => ?_)
        refine lv_if_eq (tgt := 44) hx hb dX11_trade_30 (by decide) (fun hc => ?_) (fun hc => ?_)
        · have hE := if_t hc hE
          refine lv_iconst (v := (-1)) hx hb dX11_trade_44 (by decide) ?_
          exact hQ hs hE dX11_trade_45
        · have hE := if_f hc hE
          refine lv_iload_n hx hb dX11_trade_33 rfl (lv_at hl 1 rfl) ?_
          refine lv_iload_n hx hb dX11_trade_34 rfl (lv_at hl 3 rfl) ?_
          refine lv_icmp_eq (tgt := 44) hx hb dX11_trade_35 (by decide) (fun hc => ?_) (fun hc => ?_)
          · have hE := if_t hc hE
            refine lv_iconst (v := (-1)) hx hb dX11_trade_44 (by decide) ?_
            exact hQ hs hE dX11_trade_45
          · have hE := if_f hc hE
            refine lv_iload_n hx hb dX11_trade_38 rfl (lv_at hl 2 rfl) ?_
            refine lv_iload hx hb dX11_trade_39 (lv_at hl 4 rfl) ?_
            refine lv_icmp_ne (tgt := 46) hx hb dX11_trade_41 (by decide) (fun hc => ?_) (fun hc => ?_)
            · have hE := if_f hc hE
              refine lv_aload_n hx hb dX11_trade_46 rfl (lv_at hl 0 rfl) ?_
              refine gf_X11_37_0 C hK hs dX11_trade_47 ?_
              refine lv_iload_n hx hb dX11_trade_50 rfl (lv_at hl 1 rfl) ?_
              refine lv_iload_n hx hb dX11_trade_51 rfl (lv_at hl 2 rfl) ?_
              obtain ⟨σ9, r10, hE1, hE⟩ := cl_e hE
              refine x_cis (As := [.ref (g.2.1 10), .int p1, .int p2]) (rest := []) C hl.1 hK hs hA ⟨Nat.le_refl 0, Nat.le_refl 0⟩ (ctX11_owns l g _ _ _ _ _ _ hE1) (cw_X11_184 C ⟨Nat.le_of_ble_eq_true rfl, Nat.le_of_ble_eq_true rfl⟩) rfl rfl (Nat.le_of_ble_eq_true rfl) dX11_trade_52 (fun H locs hs => ?_)
              refine lv_if_eq (tgt := 96) hx hb dX11_trade_55 (by decide) (fun hc => ?_) (fun hc => ?_)
              · have hE := if_t hc hE
                refine lv_bipush (v := (-4)) hx hb dX11_trade_96 (by decide) ?_
                exact hQ hs hE dX11_trade_98
              · have hE := if_f hc hE
                refine lv_aload_n hx hb dX11_trade_58 rfl (lv_at hl 0 rfl) ?_
                refine gf_X11_37_0 C hK hs dX11_trade_59 ?_
                refine lv_iload_n hx hb dX11_trade_62 rfl (lv_at hl 3 rfl) ?_
                refine lv_iload hx hb dX11_trade_63 (lv_at hl 4 rfl) ?_
                obtain ⟨σ11, r12, hE1, hE⟩ := cl_e hE
                refine x_cis (As := [.ref (g.2.1 10), .int p3, .int p4]) (rest := []) C hl.1 hK hs hA ⟨Nat.le_refl 0, Nat.le_refl 0⟩ (ctX11_owns l g _ _ _ _ _ _ hE1) (cw_X11_184 C ⟨Nat.le_of_ble_eq_true rfl, Nat.le_of_ble_eq_true rfl⟩) rfl rfl (Nat.le_of_ble_eq_true rfl) dX11_trade_65 (fun H locs hs => ?_)
                refine lv_if_eq (tgt := 96) hx hb dX11_trade_68 (by decide) (fun hc => ?_) (fun hc => ?_)
                · have hE := if_t hc hE
                  refine lv_bipush (v := (-4)) hx hb dX11_trade_96 (by decide) ?_
                  exact hQ hs hE dX11_trade_98
                · have hE := if_f hc hE
                  refine lv_aload_n hx hb dX11_trade_71 rfl (lv_at hl 0 rfl) ?_
                  refine gf_X11_37_0 C hK hs dX11_trade_72 ?_
                  refine lv_iload_n hx hb dX11_trade_75 rfl (lv_at hl 1 rfl) ?_
                  refine lv_iload hx hb dX11_trade_76 (lv_at hl 4 rfl) ?_
                  obtain ⟨σ13, r14, hE1, hE⟩ := cl_e hE
                  refine x_cis (As := [.ref (g.2.1 10), .int p1, .int p4]) (rest := []) C hl.1 hK hs hA ⟨Nat.le_refl 0, Nat.le_refl 0⟩ (ctX11_owns l g _ _ _ _ _ _ hE1) (cw_X11_184 C ⟨Nat.le_of_ble_eq_true rfl, Nat.le_of_ble_eq_true rfl⟩) rfl rfl (Nat.le_of_ble_eq_true rfl) dX11_trade_78 (fun H locs hs => ?_)
                  refine lv_if_ne (tgt := 96) hx hb dX11_trade_81 (by decide) (fun hc => ?_) (fun hc => ?_)
                  · have hE := if_f hc hE
                    refine lv_bipush (v := (-4)) hx hb dX11_trade_96 (by decide) ?_
                    exact hQ hs hE dX11_trade_98
                  · have hE := if_t hc hE
                    refine lv_aload_n hx hb dX11_trade_84 rfl (lv_at hl 0 rfl) ?_
                    refine gf_X11_37_0 C hK hs dX11_trade_85 ?_
                    refine lv_iload_n hx hb dX11_trade_88 rfl (lv_at hl 3 rfl) ?_
                    refine lv_iload_n hx hb dX11_trade_89 rfl (lv_at hl 2 rfl) ?_
                    obtain ⟨σ15, r16, hE1, hE⟩ := cl_e hE
                    refine x_cis (As := [.ref (g.2.1 10), .int p3, .int p2]) (rest := []) C hl.1 hK hs hA ⟨Nat.le_refl 0, Nat.le_refl 0⟩ (ctX11_owns l g _ _ _ _ _ _ hE1) (cw_X11_184 C ⟨Nat.le_of_ble_eq_true rfl, Nat.le_of_ble_eq_true rfl⟩) rfl rfl (Nat.le_of_ble_eq_true rfl) dX11_trade_90 (fun H locs hs => ?_)
                    refine lv_if_eq (tgt := 99) hx hb dX11_trade_93 (by decide) (fun hc => ?_) (fun hc => ?_)
                    · have hE := if_t hc hE
                      refine lv_aload_n hx hb dX11_trade_99 rfl (lv_at hl 0 rfl) ?_
                      refine gf_X11_174_0 C hK hs dX11_trade_100 ?_
                      refine lv_bipush (v := 40) hx hb dX11_trade_103 (by decide) ?_
                      refine lv_icmp_ne (tgt := 111) hx hb dX11_trade_105 (by decide) (fun hc => ?_) (fun hc => ?_)
                      · have hE := if_f hc hE
                        refine lv_aload_n hx hb dX11_trade_111 rfl (lv_at hl 0 rfl) ?_
                        obtain ⟨σ17, r18, hE1, hE⟩ := cl_e hE
                        refine x_cvv (As := []) (rest := []) C hl.1 hK hs hA ⟨Nat.le_refl 0, Nat.le_refl 0⟩ (ctX11_notes l g _  _ _ hE1) (cw_X11_230 C ⟨Nat.le_of_ble_eq_true rfl, Nat.le_of_ble_eq_true rfl⟩) (hs.recv hK 0 (by decide) rfl rfl) rfl rfl (Nat.le_of_ble_eq_true rfl) dX11_trade_112 (fun H locs hs => ?_)
                        refine lv_aload_n hx hb dX11_trade_115 rfl (lv_at hl 0 rfl) ?_
                        refine gf_X11_37_0 C hK hs dX11_trade_116 ?_
                        refine lv_bipush (v := 7) hx hb dX11_trade_119 (by decide) ?_
                        refine lv_bipush (v := 8) hx hb dX11_trade_121 (by decide) ?_
                        refine lv_iload_n hx hb dX11_trade_123 rfl (lv_at hl 3 rfl) ?_
                        refine lv_imul hx hb dX11_trade_124 ?_
                        refine lv_iadd hx hb dX11_trade_125 ?_
                        refine lv_iload_n hx hb dX11_trade_126 rfl (lv_at hl 2 rfl) ?_
                        refine lv_iadd hx hb dX11_trade_127 ?_
                        refine lv_aload_n hx hb dX11_trade_128 rfl (lv_at hl 0 rfl) ?_
                        refine gf_X11_37_0 C hK hs dX11_trade_129 ?_
                        refine lv_bipush (v := 7) hx hb dX11_trade_132 (by decide) ?_
                        refine lv_bipush (v := 8) hx hb dX11_trade_134 (by decide) ?_
                        refine lv_iload_n hx hb dX11_trade_136 rfl (lv_at hl 1 rfl) ?_
                        refine lv_imul hx hb dX11_trade_137 ?_
                        refine lv_iadd hx hb dX11_trade_138 ?_
                        refine lv_iload_n hx hb dX11_trade_139 rfl (lv_at hl 2 rfl) ?_
                        refine lv_iadd hx hb dX11_trade_140 ?_
                        obtain ⟨hi, x19, ex19, hE⟩ := rd_w hE
                        refine y_ald layM C hK hs hi ex19 dX11_trade_141 ?_
                        obtain ⟨hi, σ20, eσ20, hE⟩ := wr_w hE
                        refine y_ast layM C hK hs hi eσ20 dX11_trade_142 (fun H locs hs => ?_)
                        refine lv_aload_n hx hb dX11_trade_143 rfl (lv_at hl 0 rfl) ?_
                        refine gf_X11_37_0 C hK hs dX11_trade_144 ?_
                        refine lv_bipush (v := 7) hx hb dX11_trade_147 (by decide) ?_
                        refine lv_bipush (v := 8) hx hb dX11_trade_149 (by decide) ?_
                        refine lv_iload_n hx hb dX11_trade_151 rfl (lv_at hl 1 rfl) ?_
                        refine lv_imul hx hb dX11_trade_152 ?_
                        refine lv_iadd hx hb dX11_trade_153 ?_
                        refine lv_iload hx hb dX11_trade_154 (lv_at hl 4 rfl) ?_
                        refine lv_iadd hx hb dX11_trade_156 ?_
                        refine lv_aload_n hx hb dX11_trade_157 rfl (lv_at hl 0 rfl) ?_
                        refine gf_X11_37_0 C hK hs dX11_trade_158 ?_
                        refine lv_bipush (v := 7) hx hb dX11_trade_161 (by decide) ?_
                        refine lv_bipush (v := 8) hx hb dX11_trade_163 (by decide) ?_
                        refine lv_iload_n hx hb dX11_trade_165 rfl (lv_at hl 3 rfl) ?_
                        refine lv_imul hx hb dX11_trade_166 ?_
                        refine lv_iadd hx hb dX11_trade_167 ?_
                        refine lv_iload hx hb dX11_trade_168 (lv_at hl 4 rfl) ?_
                        refine lv_iadd hx hb dX11_trade_170 ?_
                        obtain ⟨hi, x21, ex21, hE⟩ := rd_w hE
                        refine y_ald layM C hK hs hi ex21 dX11_trade_171 ?_
                        obtain ⟨hi, σ22, eσ22, hE⟩ := wr_w hE
                        refine y_ast layM C hK hs hi eσ22 dX11_trade_172 (fun H locs hs => ?_)
                        refine lv_aload_n hx hb dX11_trade_173 rfl (lv_at hl 0 rfl) ?_
                        refine gf_X11_37_0 C hK hs dX11_trade_174 ?_
                        refine lv_bipush (v := 7) hx hb dX11_trade_177 (by decide) ?_
                        refine lv_bipush (v := 8) hx hb dX11_trade_179 (by decide) ?_
                        refine lv_iload_n hx hb dX11_trade_181 rfl (lv_at hl 1 rfl) ?_
                        refine lv_imul hx hb dX11_trade_182 ?_
                        refine lv_iadd hx hb dX11_trade_183 ?_
                        refine lv_iload_n hx hb dX11_trade_184 rfl (lv_at hl 2 rfl) ?_
                        refine lv_iadd hx hb dX11_trade_185 ?_
                        refine lv_iconst (v := 0) hx hb dX11_trade_186 (by decide) ?_
                        obtain ⟨hi, σ23, eσ23, hE⟩ := wr_w hE
                        refine y_ast layM C hK hs hi eσ23 dX11_trade_187 (fun H locs hs => ?_)
                        refine lv_aload_n hx hb dX11_trade_188 rfl (lv_at hl 0 rfl) ?_
                        refine gf_X11_37_0 C hK hs dX11_trade_189 ?_
                        refine lv_bipush (v := 7) hx hb dX11_trade_192 (by decide) ?_
                        refine lv_bipush (v := 8) hx hb dX11_trade_194 (by decide) ?_
                        refine lv_iload_n hx hb dX11_trade_196 rfl (lv_at hl 3 rfl) ?_
                        refine lv_imul hx hb dX11_trade_197 ?_
                        refine lv_iadd hx hb dX11_trade_198 ?_
                        refine lv_iload hx hb dX11_trade_199 (lv_at hl 4 rfl) ?_
                        refine lv_iadd hx hb dX11_trade_201 ?_
                        refine lv_iconst (v := 0) hx hb dX11_trade_202 (by decide) ?_
                        obtain ⟨hi, σ24, eσ24, hE⟩ := wr_w hE
                        refine y_ast layM C hK hs hi eσ24 dX11_trade_203 (fun H locs hs => ?_)
                        refine lv_aload_n hx hb dX11_trade_204 rfl (lv_at hl 0 rfl) ?_
                        refine gf_X11_37_0 C hK hs dX11_trade_205 ?_
                        refine lv_bipush (v := 7) hx hb dX11_trade_208 (by decide) ?_
                        refine lv_bipush (v := 8) hx hb dX11_trade_210 (by decide) ?_
                        refine lv_iload_n hx hb dX11_trade_212 rfl (lv_at hl 1 rfl) ?_
                        refine lv_imul hx hb dX11_trade_213 ?_
                        refine lv_iadd hx hb dX11_trade_214 ?_
                        refine lv_iload hx hb dX11_trade_215 (lv_at hl 4 rfl) ?_
                        refine lv_iadd hx hb dX11_trade_217 ?_
                        obtain ⟨hi, x25, ex25, hE⟩ := rd_w hE
                        refine y_ald layM C hK hs hi ex25 dX11_trade_218 ?_
                        exact hQ hs hE dX11_trade_219
                      · have hE := if_t hc hE
                        refine lv_bipush (v := (-2)) hx hb dX11_trade_108 (by decide) ?_
                        exact hQ hs hE dX11_trade_110
                    · have hE := if_f hc hE
                      refine lv_bipush (v := (-4)) hx hb dX11_trade_96 (by decide) ?_
                      exact hQ hs hE dX11_trade_98
            · have hE := if_t hc hE
              refine lv_iconst (v := (-1)) hx hb dX11_trade_44 (by decide) ?_
              exact hQ hs hE dX11_trade_45
theorem dX11_lend_0 : decode cX11_lend 0 = .ok (.aload_n 0, 1) := by decide +kernel
theorem dX11_lend_1 : decode cX11_lend 1 = .ok (.iload_n 1, 1) := by decide +kernel
theorem dX11_lend_2 : decode cX11_lend 2 = .ok (.invokevirtual 201, 3) := by decide +kernel
theorem dX11_lend_5 : decode cX11_lend 5 = .ok (.ifCond .eq 28, 3) := by decide +kernel
theorem dX11_lend_8 : decode cX11_lend 8 = .ok (.aload_n 0, 1) := by decide +kernel
theorem dX11_lend_9 : decode cX11_lend 9 = .ok (.iload_n 2, 1) := by decide +kernel
theorem dX11_lend_10 : decode cX11_lend 10 = .ok (.invokevirtual 201, 3) := by decide +kernel
theorem dX11_lend_13 : decode cX11_lend 13 = .ok (.ifCond .eq 20, 3) := by decide +kernel
theorem dX11_lend_16 : decode cX11_lend 16 = .ok (.iload_n 1, 1) := by decide +kernel
theorem dX11_lend_17 : decode cX11_lend 17 = .ok (.iload_n 2, 1) := by decide +kernel
theorem dX11_lend_18 : decode cX11_lend 18 = .ok (.if_icmp .eq 15, 3) := by decide +kernel
theorem dX11_lend_21 : decode cX11_lend 21 = .ok (.iload_n 3, 1) := by decide +kernel
theorem dX11_lend_22 : decode cX11_lend 22 = .ok (.i2l, 1) := by decide +kernel
theorem dX11_lend_23 : decode cX11_lend 23 = .ok (.lconst 1, 1) := by decide +kernel
theorem dX11_lend_24 : decode cX11_lend 24 = .ok (.ldc2_w 122, 3) := by decide +kernel
theorem dX11_lend_27 : decode cX11_lend 27 = .ok (.invokestatic 96, 3) := by decide +kernel
theorem dX11_lend_30 : decode cX11_lend 30 = .ok (.ifCond .ne 5, 3) := by decide +kernel
theorem dX11_lend_33 : decode cX11_lend 33 = .ok (.iconst (-1), 1) := by decide +kernel
theorem dX11_lend_34 : decode cX11_lend 34 = .ok (.ireturn, 1) := by decide +kernel
theorem dX11_lend_35 : decode cX11_lend 35 = .ok (.aload_n 0, 1) := by decide +kernel
theorem dX11_lend_36 : decode cX11_lend 36 = .ok (.getfield 37, 3) := by decide +kernel
theorem dX11_lend_39 : decode cX11_lend 39 = .ok (.iconst 1, 1) := by decide +kernel
theorem dX11_lend_40 : decode cX11_lend 40 = .ok (.iload_n 2, 1) := by decide +kernel
theorem dX11_lend_41 : decode cX11_lend 41 = .ok (.iadd, 1) := by decide +kernel
theorem dX11_lend_42 : decode cX11_lend 42 = .ok (.iaload, 1) := by decide +kernel
theorem dX11_lend_43 : decode cX11_lend 43 = .ok (.iload_n 3, 1) := by decide +kernel
theorem dX11_lend_44 : decode cX11_lend 44 = .ok (.iadd, 1) := by decide +kernel
theorem dX11_lend_45 : decode cX11_lend 45 = .ok (.bipush 99, 2) := by decide +kernel
theorem dX11_lend_47 : decode cX11_lend 47 = .ok (.if_icmp .le 6, 3) := by decide +kernel
theorem dX11_lend_50 : decode cX11_lend 50 = .ok (.bipush (-4), 2) := by decide +kernel
theorem dX11_lend_52 : decode cX11_lend 52 = .ok (.ireturn, 1) := by decide +kernel
theorem dX11_lend_53 : decode cX11_lend 53 = .ok (.aload_n 0, 1) := by decide +kernel
theorem dX11_lend_54 : decode cX11_lend 54 = .ok (.getfield 37, 3) := by decide +kernel
theorem dX11_lend_57 : decode cX11_lend 57 = .ok (.iconst 1, 1) := by decide +kernel
theorem dX11_lend_58 : decode cX11_lend 58 = .ok (.iload_n 1, 1) := by decide +kernel
theorem dX11_lend_59 : decode cX11_lend 59 = .ok (.iadd, 1) := by decide +kernel
theorem dX11_lend_60 : decode cX11_lend 60 = .ok (.iaload, 1) := by decide +kernel
theorem dX11_lend_61 : decode cX11_lend 61 = .ok (.iload_n 3, 1) := by decide +kernel
theorem dX11_lend_62 : decode cX11_lend 62 = .ok (.if_icmp .ge 6, 3) := by decide +kernel
theorem dX11_lend_65 : decode cX11_lend 65 = .ok (.bipush (-6), 2) := by decide +kernel
theorem dX11_lend_67 : decode cX11_lend 67 = .ok (.ireturn, 1) := by decide +kernel
theorem dX11_lend_68 : decode cX11_lend 68 = .ok (.aload_n 0, 1) := by decide +kernel
theorem dX11_lend_69 : decode cX11_lend 69 = .ok (.getfield 174, 3) := by decide +kernel
theorem dX11_lend_72 : decode cX11_lend 72 = .ok (.bipush 40, 2) := by decide +kernel
theorem dX11_lend_74 : decode cX11_lend 74 = .ok (.if_icmp .ne 6, 3) := by decide +kernel
theorem dX11_lend_77 : decode cX11_lend 77 = .ok (.bipush (-2), 2) := by decide +kernel
theorem dX11_lend_79 : decode cX11_lend 79 = .ok (.ireturn, 1) := by decide +kernel
theorem dX11_lend_80 : decode cX11_lend 80 = .ok (.aload_n 0, 1) := by decide +kernel
theorem dX11_lend_81 : decode cX11_lend 81 = .ok (.invokevirtual 230, 3) := by decide +kernel
theorem dX11_lend_84 : decode cX11_lend 84 = .ok (.aload_n 0, 1) := by decide +kernel
theorem dX11_lend_85 : decode cX11_lend 85 = .ok (.getfield 37, 3) := by decide +kernel
theorem dX11_lend_88 : decode cX11_lend 88 = .ok (.iconst 1, 1) := by decide +kernel
theorem dX11_lend_89 : decode cX11_lend 89 = .ok (.iload_n 1, 1) := by decide +kernel
theorem dX11_lend_90 : decode cX11_lend 90 = .ok (.iadd, 1) := by decide +kernel
theorem dX11_lend_91 : decode cX11_lend 91 = .ok (.dup2, 1) := by decide +kernel
theorem dX11_lend_92 : decode cX11_lend 92 = .ok (.iaload, 1) := by decide +kernel
theorem dX11_lend_93 : decode cX11_lend 93 = .ok (.iload_n 3, 1) := by decide +kernel
theorem dX11_lend_94 : decode cX11_lend 94 = .ok (.isub, 1) := by decide +kernel
theorem dX11_lend_95 : decode cX11_lend 95 = .ok (.iastore, 1) := by decide +kernel
theorem dX11_lend_96 : decode cX11_lend 96 = .ok (.aload_n 0, 1) := by decide +kernel
theorem dX11_lend_97 : decode cX11_lend 97 = .ok (.getfield 37, 3) := by decide +kernel
theorem dX11_lend_100 : decode cX11_lend 100 = .ok (.iconst 1, 1) := by decide +kernel
theorem dX11_lend_101 : decode cX11_lend 101 = .ok (.iload_n 2, 1) := by decide +kernel
theorem dX11_lend_102 : decode cX11_lend 102 = .ok (.iadd, 1) := by decide +kernel
theorem dX11_lend_103 : decode cX11_lend 103 = .ok (.dup2, 1) := by decide +kernel
theorem dX11_lend_104 : decode cX11_lend 104 = .ok (.iaload, 1) := by decide +kernel
theorem dX11_lend_105 : decode cX11_lend 105 = .ok (.iload_n 3, 1) := by decide +kernel
theorem dX11_lend_106 : decode cX11_lend 106 = .ok (.iadd, 1) := by decide +kernel
theorem dX11_lend_107 : decode cX11_lend 107 = .ok (.iastore, 1) := by decide +kernel
theorem dX11_lend_108 : decode cX11_lend 108 = .ok (.aload_n 0, 1) := by decide +kernel
theorem dX11_lend_109 : decode cX11_lend 109 = .ok (.getfield 37, 3) := by decide +kernel
theorem dX11_lend_112 : decode cX11_lend 112 = .ok (.iconst 1, 1) := by decide +kernel
theorem dX11_lend_113 : decode cX11_lend 113 = .ok (.iload_n 1, 1) := by decide +kernel
theorem dX11_lend_114 : decode cX11_lend 114 = .ok (.iadd, 1) := by decide +kernel
theorem dX11_lend_115 : decode cX11_lend 115 = .ok (.iaload, 1) := by decide +kernel
theorem dX11_lend_116 : decode cX11_lend 116 = .ok (.ireturn, 1) := by decide +kernel
def fX11_lend (σ : St) (p1 : Int32) (p2 : Int32) (p3 : Int32) : Option (St × Int32) := cl (fX11_isHouse σ p1) (fun σ1 r2 => (if r2 = 0 then some (σ1, (-1)) else cl (fX11_isHouse σ1 p2) (fun σ3 r4 => (if r4 = 0 then some (σ3, (-1)) else (if p1 = p2 then some (σ3, (-1)) else cl (fX11_in σ3 (p3.toInt64) 1 9) (fun σ5 r6 => (if r6 = 0 then some (σ5, (-1)) else rd LM σ5 10 (1 + p2) (fun x7 => (if (x7 + p3) ≤ 99 then rd LM σ5 10 (1 + p1) (fun x8 => (if p3 ≤ x8 then (if (σ5.1 0 14) = 40 then some (σ5, (-2)) else cl (fX11_notes σ5) (fun σ9 r10 => rd LM σ9 10 (1 + p1) (fun x11 => wr LM σ9 10 (1 + p1) (x11 - p3) (fun σ12 => rd LM σ12 10 (1 + p2) (fun x13 => wr LM σ12 10 (1 + p2) (x13 + p3) (fun σ14 => rd LM σ14 10 (1 + p1) (fun x15 => some (σ14, x15)))))))) else some (σ5, (-6)))) else some (σ5, (-4)))))))))))
set_option maxHeartbeats 4000000 in
set_option maxRecDepth 100000 in
theorem ctX11_lend (l : Launch) (g : GG) (σ : St) (p1 : Int32) (p2 : Int32) (p3 : Int32) (σ' : St) (r : Int32) (hE : fX11_lend σ p1 p2 p3 = some (σ', r)) : MI 25 entM l g yX11_lend (Cond.code yX11_lend cX11_lend 4 (some .int) :: gtbl) (rmD 3) [.ref (g.2.1 0), .int p1, .int p2, .int p3] σ σ' r := by
  refine mi_i (own := RX11) (lv := [(0, .ref (g.2.1 0)), (1, .int p1), (2, .int p2), (3, .int p3)]) (by decide) rfl (Nat.le_of_ble_eq_true rfl) rfl (fun p e s m below meth c ls args Q A H0 H locs C hK hA hQ hs hl => ?_)
  have hx := C.1
  have hb := C.2.1
  unfold fX11_lend at hE
  refine lv_aload_n hx hb dX11_lend_0 rfl (lv_at hl 0 rfl) ?_
  refine lv_iload_n hx hb dX11_lend_1 rfl (lv_at hl 1 rfl) ?_
  obtain ⟨σ1, r2, hE1, hE⟩ := cl_e hE
  refine x_civ (As := [.int p1]) (rest := []) C hl.1 hK hs hA ⟨Nat.le_refl 0, Nat.le_refl 0⟩ (ctX11_isHouse l g _ _ _ _ hE1) (cw_X11_201 C ⟨Nat.le_of_ble_eq_true rfl, Nat.le_of_ble_eq_true rfl⟩) (hs.recv hK 0 (by decide) rfl rfl) rfl rfl (Nat.le_of_ble_eq_true rfl) dX11_lend_2 (fun H locs hs => ?_)
  refine lv_if_eq (tgt := 33) hx hb dX11_lend_5 (by decide) (fun hc => ?_) (fun hc => ?_)
  · have hE := if_t hc hE
    refine lv_iconst (v := (-1)) hx hb dX11_lend_33 (by decide) ?_
    exact hQ hs hE dX11_lend_34
  · have hE := if_f hc hE
    refine lv_aload_n hx hb dX11_lend_8 rfl (lv_at hl 0 rfl) ?_
    refine lv_iload_n hx hb dX11_lend_9 rfl (lv_at hl 2 rfl) ?_
    obtain ⟨σ3, r4, hE1, hE⟩ := cl_e hE
    refine x_civ (As := [.int p2]) (rest := []) C hl.1 hK hs hA ⟨Nat.le_refl 0, Nat.le_refl 0⟩ (ctX11_isHouse l g _ _ _ _ hE1) (cw_X11_201 C ⟨Nat.le_of_ble_eq_true rfl, Nat.le_of_ble_eq_true rfl⟩) (hs.recv hK 0 (by decide) rfl rfl) rfl rfl (Nat.le_of_ble_eq_true rfl) dX11_lend_10 (fun H locs hs => ?_)
    refine lv_if_eq (tgt := 33) hx hb dX11_lend_13 (by decide) (fun hc => ?_) (fun hc => ?_)
    · have hE := if_t hc hE
      refine lv_iconst (v := (-1)) hx hb dX11_lend_33 (by decide) ?_
      exact hQ hs hE dX11_lend_34
    · have hE := if_f hc hE
      refine lv_iload_n hx hb dX11_lend_16 rfl (lv_at hl 1 rfl) ?_
      refine lv_iload_n hx hb dX11_lend_17 rfl (lv_at hl 2 rfl) ?_
      refine lv_icmp_eq (tgt := 33) hx hb dX11_lend_18 (by decide) (fun hc => ?_) (fun hc => ?_)
      · have hE := if_t hc hE
        refine lv_iconst (v := (-1)) hx hb dX11_lend_33 (by decide) ?_
        exact hQ hs hE dX11_lend_34
      · have hE := if_f hc hE
        refine lv_iload_n hx hb dX11_lend_21 rfl (lv_at hl 3 rfl) ?_
        refine lv_i2l (v := p3.toInt64) hx hb dX11_lend_22 rfl ?_
        refine lv_lconst (v := 1) hx hb dX11_lend_23 (by decide) ?_
        refine lv_ldc2 (v := 9) hx hb C.2.2.2.1 (C.2.2.2.2 _ mw_1140) dX11_lend_24 ?_
        obtain ⟨σ5, r6, hE1, hE⟩ := cl_e hE
        refine x_cis (As := [.long (p3.toInt64), .long 1, .long 9]) (rest := []) C hl.1 hK hs hA ⟨Nat.le_refl 0, Nat.le_refl 0⟩ (ctX11_in l g _ _ _ _ _ _ hE1) (cw_X11_96 C ⟨Nat.le_of_ble_eq_true rfl, Nat.le_of_ble_eq_true rfl⟩) rfl rfl (Nat.le_of_ble_eq_true rfl) dX11_lend_27 (fun H locs hs => ?_)
        refine lv_if_ne (tgt := 35) hx hb dX11_lend_30 (by decide) (fun hc => ?_) (fun hc => ?_)
        · have hE := if_f hc hE
          refine lv_aload_n hx hb dX11_lend_35 rfl (lv_at hl 0 rfl) ?_
          refine gf_X11_37_0 C hK hs dX11_lend_36 ?_
          refine lv_iconst (v := 1) hx hb dX11_lend_39 (by decide) ?_
          refine lv_iload_n hx hb dX11_lend_40 rfl (lv_at hl 2 rfl) ?_
          refine lv_iadd hx hb dX11_lend_41 ?_
          obtain ⟨hi, x7, ex7, hE⟩ := rd_w hE
          refine y_ald layM C hK hs hi ex7 dX11_lend_42 ?_
          refine lv_iload_n hx hb dX11_lend_43 rfl (lv_at hl 3 rfl) ?_
          refine lv_iadd hx hb dX11_lend_44 ?_
          refine lv_bipush (v := 99) hx hb dX11_lend_45 (by decide) ?_
          refine lv_icmp_le (tgt := 53) hx hb dX11_lend_47 (by decide) (fun hc => ?_) (fun hc => ?_)
          · have hE := if_t hc hE
            refine lv_aload_n hx hb dX11_lend_53 rfl (lv_at hl 0 rfl) ?_
            refine gf_X11_37_0 C hK hs dX11_lend_54 ?_
            refine lv_iconst (v := 1) hx hb dX11_lend_57 (by decide) ?_
            refine lv_iload_n hx hb dX11_lend_58 rfl (lv_at hl 1 rfl) ?_
            refine lv_iadd hx hb dX11_lend_59 ?_
            obtain ⟨hi, x8, ex8, hE⟩ := rd_w hE
            refine y_ald layM C hK hs hi ex8 dX11_lend_60 ?_
            refine lv_iload_n hx hb dX11_lend_61 rfl (lv_at hl 3 rfl) ?_
            refine lv_icmp_ge (tgt := 68) hx hb dX11_lend_62 (by decide) (fun hc => ?_) (fun hc => ?_)
            · have hE := if_t hc hE
              refine lv_aload_n hx hb dX11_lend_68 rfl (lv_at hl 0 rfl) ?_
              refine gf_X11_174_0 C hK hs dX11_lend_69 ?_
              refine lv_bipush (v := 40) hx hb dX11_lend_72 (by decide) ?_
              refine lv_icmp_ne (tgt := 80) hx hb dX11_lend_74 (by decide) (fun hc => ?_) (fun hc => ?_)
              · have hE := if_f hc hE
                refine lv_aload_n hx hb dX11_lend_80 rfl (lv_at hl 0 rfl) ?_
                obtain ⟨σ9, r10, hE1, hE⟩ := cl_e hE
                refine x_cvv (As := []) (rest := []) C hl.1 hK hs hA ⟨Nat.le_refl 0, Nat.le_refl 0⟩ (ctX11_notes l g _  _ _ hE1) (cw_X11_230 C ⟨Nat.le_of_ble_eq_true rfl, Nat.le_of_ble_eq_true rfl⟩) (hs.recv hK 0 (by decide) rfl rfl) rfl rfl (Nat.le_of_ble_eq_true rfl) dX11_lend_81 (fun H locs hs => ?_)
                refine lv_aload_n hx hb dX11_lend_84 rfl (lv_at hl 0 rfl) ?_
                refine gf_X11_37_0 C hK hs dX11_lend_85 ?_
                refine lv_iconst (v := 1) hx hb dX11_lend_88 (by decide) ?_
                refine lv_iload_n hx hb dX11_lend_89 rfl (lv_at hl 1 rfl) ?_
                refine lv_iadd hx hb dX11_lend_90 ?_
                refine lv_dup2_11 hx hb dX11_lend_91 rfl rfl ?_
                obtain ⟨hi, x11, ex11, hE⟩ := rd_w hE
                refine y_ald layM C hK hs hi ex11 dX11_lend_92 ?_
                refine lv_iload_n hx hb dX11_lend_93 rfl (lv_at hl 3 rfl) ?_
                refine lv_isub hx hb dX11_lend_94 ?_
                obtain ⟨hi, σ12, eσ12, hE⟩ := wr_w hE
                refine y_ast layM C hK hs hi eσ12 dX11_lend_95 (fun H locs hs => ?_)
                refine lv_aload_n hx hb dX11_lend_96 rfl (lv_at hl 0 rfl) ?_
                refine gf_X11_37_0 C hK hs dX11_lend_97 ?_
                refine lv_iconst (v := 1) hx hb dX11_lend_100 (by decide) ?_
                refine lv_iload_n hx hb dX11_lend_101 rfl (lv_at hl 2 rfl) ?_
                refine lv_iadd hx hb dX11_lend_102 ?_
                refine lv_dup2_11 hx hb dX11_lend_103 rfl rfl ?_
                obtain ⟨hi, x13, ex13, hE⟩ := rd_w hE
                refine y_ald layM C hK hs hi ex13 dX11_lend_104 ?_
                refine lv_iload_n hx hb dX11_lend_105 rfl (lv_at hl 3 rfl) ?_
                refine lv_iadd hx hb dX11_lend_106 ?_
                obtain ⟨hi, σ14, eσ14, hE⟩ := wr_w hE
                refine y_ast layM C hK hs hi eσ14 dX11_lend_107 (fun H locs hs => ?_)
                refine lv_aload_n hx hb dX11_lend_108 rfl (lv_at hl 0 rfl) ?_
                refine gf_X11_37_0 C hK hs dX11_lend_109 ?_
                refine lv_iconst (v := 1) hx hb dX11_lend_112 (by decide) ?_
                refine lv_iload_n hx hb dX11_lend_113 rfl (lv_at hl 1 rfl) ?_
                refine lv_iadd hx hb dX11_lend_114 ?_
                obtain ⟨hi, x15, ex15, hE⟩ := rd_w hE
                refine y_ald layM C hK hs hi ex15 dX11_lend_115 ?_
                exact hQ hs hE dX11_lend_116
              · have hE := if_t hc hE
                refine lv_bipush (v := (-2)) hx hb dX11_lend_77 (by decide) ?_
                exact hQ hs hE dX11_lend_79
            · have hE := if_f hc hE
              refine lv_bipush (v := (-6)) hx hb dX11_lend_65 (by decide) ?_
              exact hQ hs hE dX11_lend_67
          · have hE := if_f hc hE
            refine lv_bipush (v := (-4)) hx hb dX11_lend_50 (by decide) ?_
            exact hQ hs hE dX11_lend_52
        · have hE := if_t hc hE
          refine lv_iconst (v := (-1)) hx hb dX11_lend_33 (by decide) ?_
          exact hQ hs hE dX11_lend_34
theorem dX11_undo_0 : decode cX11_undo 0 = .ok (.iload_n 1, 1) := by decide +kernel
theorem dX11_undo_1 : decode cX11_undo 1 = .ok (.i2l, 1) := by decide +kernel
theorem dX11_undo_2 : decode cX11_undo 2 = .ok (.lconst 0, 1) := by decide +kernel
theorem dX11_undo_3 : decode cX11_undo 3 = .ok (.aload_n 0, 1) := by decide +kernel
theorem dX11_undo_4 : decode cX11_undo 4 = .ok (.getfield 174, 3) := by decide +kernel
theorem dX11_undo_7 : decode cX11_undo 7 = .ok (.i2l, 1) := by decide +kernel
theorem dX11_undo_8 : decode cX11_undo 8 = .ok (.invokestatic 96, 3) := by decide +kernel
theorem dX11_undo_11 : decode cX11_undo 11 = .ok (.ifCond .ne 5, 3) := by decide +kernel
theorem dX11_undo_14 : decode cX11_undo 14 = .ok (.iconst (-1), 1) := by decide +kernel
theorem dX11_undo_15 : decode cX11_undo 15 = .ok (.ireturn, 1) := by decide +kernel
theorem dX11_undo_16 : decode cX11_undo 16 = .ok (.aload_n 0, 1) := by decide +kernel
theorem dX11_undo_17 : decode cX11_undo 17 = .ok (.getfield 174, 3) := by decide +kernel
theorem dX11_undo_20 : decode cX11_undo 20 = .ok (.iload_n 1, 1) := by decide +kernel
theorem dX11_undo_21 : decode cX11_undo 21 = .ok (.isub, 1) := by decide +kernel
theorem dX11_undo_22 : decode cX11_undo 22 = .ok (.istore_n 2, 1) := by decide +kernel
theorem dX11_undo_23 : decode cX11_undo 23 = .ok (.iload_n 2, 1) := by decide +kernel
theorem dX11_undo_24 : decode cX11_undo 24 = .ok (.ifCond .le 21, 3) := by decide +kernel
theorem dX11_undo_27 : decode cX11_undo 27 = .ok (.aload_n 0, 1) := by decide +kernel
theorem dX11_undo_28 : decode cX11_undo 28 = .ok (.getfield 43, 3) := by decide +kernel
theorem dX11_undo_31 : decode cX11_undo 31 = .ok (.bipush 55, 2) := by decide +kernel
theorem dX11_undo_33 : decode cX11_undo 33 = .ok (.iload_n 1, 1) := by decide +kernel
theorem dX11_undo_34 : decode cX11_undo 34 = .ok (.imul, 1) := by decide +kernel
theorem dX11_undo_35 : decode cX11_undo 35 = .ok (.aload_n 0, 1) := by decide +kernel
theorem dX11_undo_36 : decode cX11_undo 36 = .ok (.getfield 37, 3) := by decide +kernel
theorem dX11_undo_39 : decode cX11_undo 39 = .ok (.iconst 0, 1) := by decide +kernel
theorem dX11_undo_40 : decode cX11_undo 40 = .ok (.bipush 55, 2) := by decide +kernel
theorem dX11_undo_42 : decode cX11_undo 42 = .ok (.invokestatic 170, 3) := by decide +kernel
theorem dX11_undo_45 : decode cX11_undo 45 = .ok (.aload_n 0, 1) := by decide +kernel
theorem dX11_undo_46 : decode cX11_undo 46 = .ok (.iload_n 1, 1) := by decide +kernel
theorem dX11_undo_47 : decode cX11_undo 47 = .ok (.putfield 174, 3) := by decide +kernel
theorem dX11_undo_50 : decode cX11_undo 50 = .ok (.iload_n 2, 1) := by decide +kernel
theorem dX11_undo_51 : decode cX11_undo 51 = .ok (.ireturn, 1) := by decide +kernel
def fX11_undo (σ : St) (p1 : Int32) : Option (St × Int32) := cl (fX11_in σ (p1.toInt64) 0 ((σ.1 0 14).toInt64)) (fun σ1 r2 => (if r2 = 0 then some (σ1, (-1)) else jn (fun (σ4 : St) => pt (su σ4 0 14 p1) (fun σ5 => some (σ5, (σ1.1 0 14) - p1))) (fun k3 => (if ((σ1.1 0 14) - p1) ≤ 0 then k3 σ1 else cl (fX11_copies σ1 12 (55 * p1) 10 0 55) (fun σ6 r7 => k3 σ6)))))
set_option maxHeartbeats 4000000 in
set_option maxRecDepth 100000 in
theorem ctX11_undo (l : Launch) (g : GG) (σ : St) (p1 : Int32) (σ' : St) (r : Int32) (hE : fX11_undo σ p1 = some (σ', r)) : MI 25 entM l g yX11_undo (Cond.code yX11_undo cX11_undo 3 (some .int) :: gtbl) (rmD 2) [.ref (g.2.1 0), .int p1] σ σ' r := by
  refine mi_i (own := RX11) (lv := [(0, .ref (g.2.1 0)), (1, .int p1)]) (by decide) rfl (Nat.le_of_ble_eq_true rfl) rfl (fun p e s m below meth c ls args Q A H0 H locs C hK hA hQ hs hl => ?_)
  have hx := C.1
  have hb := C.2.1
  unfold fX11_undo at hE
  refine lv_iload_n hx hb dX11_undo_0 rfl (lv_at hl 1 rfl) ?_
  refine lv_i2l (v := p1.toInt64) hx hb dX11_undo_1 rfl ?_
  refine lv_lconst (v := 0) hx hb dX11_undo_2 (by decide) ?_
  refine lv_aload_n hx hb dX11_undo_3 rfl (lv_at hl 0 rfl) ?_
  refine gf_X11_174_0 C hK hs dX11_undo_4 ?_
  refine lv_i2l (v := (σ.1 0 14).toInt64) hx hb dX11_undo_7 rfl ?_
  obtain ⟨σ1, r2, hE1, hE⟩ := cl_e hE
  refine x_cis (As := [.long (p1.toInt64), .long 0, .long ((σ.1 0 14).toInt64)]) (rest := []) C hl.1 hK hs hA ⟨Nat.le_refl 0, Nat.le_refl 0⟩ (ctX11_in l g _ _ _ _ _ _ hE1) (cw_X11_96 C ⟨Nat.le_of_ble_eq_true rfl, Nat.le_of_ble_eq_true rfl⟩) rfl rfl (Nat.le_of_ble_eq_true rfl) dX11_undo_8 (fun H locs hs => ?_)
  refine lv_if_ne (tgt := 16) hx hb dX11_undo_11 (by decide) (fun hc => ?_) (fun hc => ?_)
  · have hE := if_f hc hE
    refine lv_aload_n hx hb dX11_undo_16 rfl (lv_at hl 0 rfl) ?_
    refine gf_X11_174_0 C hK hs dX11_undo_17 ?_
    refine lv_iload_n hx hb dX11_undo_20 rfl (lv_at hl 1 rfl) ?_
    refine lv_isub hx hb dX11_undo_21 ?_
    refine lv_istore_n (lv' := [(2, .int ((σ1.1 0 14) - p1)), (0, .ref (g.2.1 0)), (1, .int p1)]) hx hb dX11_undo_22 rfl hl (by decide) rfl (fun ls hl => ?_)
    refine lv_iload_n hx hb dX11_undo_23 rfl (lv_at hl 0 rfl) ?_
    refine jn1 hE (fun k3 hE hk3 => ?_)
    have hJk3 : ∀ (σ4 : St) (H : Heap) (locs : List Loc) (ls : Array Slot), HW 25 entM g A H0 H locs σ4 → lv_has ls 3 [(0, .ref (g.2.1 0)), (1, .int p1), (2, .int ((σ1.1 0 14) - p1))] → k3 σ4 = some (σ', r) → W p l e (rmD 2) s m args below meth c H locs 0 0 Q (F0 m 45 ls []) := by
      intro σ4 H locs ls hs hl hE
      have hE := hk3 _ hE
      refine lv_aload_n hx hb dX11_undo_45 rfl (lv_at hl 0 rfl) ?_
      refine lv_iload_n hx hb dX11_undo_46 rfl (lv_at hl 1 rfl) ?_
      obtain ⟨σ5, eσ5, hE⟩ := pt_w hE
      refine pf_X11_174_0 C hK hs eσ5 dX11_undo_47 (fun H locs hs => ?_)
      refine lv_iload_n hx hb dX11_undo_50 rfl (lv_at hl 2 rfl) ?_
      exact hQ hs hE dX11_undo_51
    refine lv_if_le (tgt := 45) hx hb dX11_undo_24 (by decide) (fun hc => ?_) (fun hc => ?_)
    · have hE := if_t hc hE
      exact hJk3 σ1 _ _ _ hs (lv_sub hl [1, 2, 0] rfl) hE
    · have hE := if_f hc hE
      refine lv_aload_n hx hb dX11_undo_27 rfl (lv_at hl 1 rfl) ?_
      refine gf_X11_43_0 C hK hs dX11_undo_28 ?_
      refine lv_bipush (v := 55) hx hb dX11_undo_31 (by decide) ?_
      refine lv_iload_n hx hb dX11_undo_33 rfl (lv_at hl 2 rfl) ?_
      refine lv_imul hx hb dX11_undo_34 ?_
      refine lv_aload_n hx hb dX11_undo_35 rfl (lv_at hl 1 rfl) ?_
      refine gf_X11_37_0 C hK hs dX11_undo_36 ?_
      refine lv_iconst (v := 0) hx hb dX11_undo_39 (by decide) ?_
      refine lv_bipush (v := 55) hx hb dX11_undo_40 (by decide) ?_
      obtain ⟨σ6, r7, hE1, hE⟩ := cl_e hE
      refine x_cvs (As := [.ref (g.2.1 12), .int (55 * p1), .ref (g.2.1 10), .int 0, .int 55]) (rest := []) C hl.1 hK hs hA ⟨Nat.le_refl 0, Nat.le_refl 0⟩ (ctX11_copies l g _ _ _ _ _ _ _ _ hE1) (cw_X11_170 C ⟨Nat.le_of_ble_eq_true rfl, Nat.le_of_ble_eq_true rfl⟩) rfl rfl (Nat.le_of_ble_eq_true rfl) dX11_undo_42 (fun H locs hs => ?_)
      exact hJk3 σ6 _ _ _ hs (lv_sub hl [1, 2, 0] rfl) hE
  · have hE := if_t hc hE
    refine lv_iconst (v := (-1)) hx hb dX11_undo_14 (by decide) ?_
    exact hQ hs hE dX11_undo_15
theorem dX11_isPlace_0 : decode cX11_isPlace 0 = .ok (.iload_n 0, 1) := by decide +kernel
theorem dX11_isPlace_1 : decode cX11_isPlace 1 = .ok (.i2l, 1) := by decide +kernel
theorem dX11_isPlace_2 : decode cX11_isPlace 2 = .ok (.lconst 0, 1) := by decide +kernel
theorem dX11_isPlace_3 : decode cX11_isPlace 3 = .ok (.ldc2_w 240, 3) := by decide +kernel
theorem dX11_isPlace_6 : decode cX11_isPlace 6 = .ok (.invokestatic 96, 3) := by decide +kernel
theorem dX11_isPlace_9 : decode cX11_isPlace 9 = .ok (.ireturn, 1) := by decide +kernel
def fX11_isPlace (σ : St) (p0 : Int32) : Option (St × Int32) := cl (fX11_in σ (p0.toInt64) 0 2) (fun σ1 r2 => gd (isB r2) (some (σ1, r2)))
set_option maxHeartbeats 4000000 in
set_option maxRecDepth 100000 in
theorem ctX11_isPlace (l : Launch) (g : GG) (σ : St) (p0 : Int32) (σ' : St) (r : Int32) (hE : fX11_isPlace σ p0 = some (σ', r)) : MI 25 entM l g yX11_isPlace (Cond.code yX11_isPlace cX11_isPlace 1 (some .boolean) :: gtbl) (rmD 2) [.int p0] σ σ' r := by
  refine mi_z (own := RX11) (lv := [(0, .int p0)]) (by decide) rfl (Nat.le_of_ble_eq_true rfl) rfl (fun p e s m below meth c ls args Q A H0 H locs C hK hA hQ hs hl => ?_)
  have hx := C.1
  have hb := C.2.1
  unfold fX11_isPlace at hE
  refine lv_iload_n hx hb dX11_isPlace_0 rfl (lv_at hl 0 rfl) ?_
  refine lv_i2l (v := p0.toInt64) hx hb dX11_isPlace_1 rfl ?_
  refine lv_lconst (v := 0) hx hb dX11_isPlace_2 (by decide) ?_
  refine lv_ldc2 (v := 2) hx hb C.2.2.2.1 (C.2.2.2.2 _ mw_1279) dX11_isPlace_3 ?_
  obtain ⟨σ1, r2, hE1, hE⟩ := cl_e hE
  refine x_cis (As := [.long (p0.toInt64), .long 0, .long 2]) (rest := []) C hl.1 hK hs hA ⟨Nat.le_refl 0, Nat.le_refl 0⟩ (ctX11_in l g _ _ _ _ _ _ hE1) (cw_X11_96 C ⟨Nat.le_of_ble_eq_true rfl, Nat.le_of_ble_eq_true rfl⟩) rfl rfl (Nat.le_of_ble_eq_true rfl) dX11_isPlace_6 (fun H locs hs => ?_)
  obtain ⟨hc, hE⟩ := gd_e hE
  exact hQ hs hc hE dX11_isPlace_9
theorem dX11_keep_0 : decode cX11_keep 0 = .ok (.iload_n 1, 1) := by decide +kernel
theorem dX11_keep_1 : decode cX11_keep 1 = .ok (.invokestatic 242, 3) := by decide +kernel
theorem dX11_keep_4 : decode cX11_keep 4 = .ok (.ifCond .ne 5, 3) := by decide +kernel
theorem dX11_keep_7 : decode cX11_keep 7 = .ok (.iconst (-1), 1) := by decide +kernel
theorem dX11_keep_8 : decode cX11_keep 8 = .ok (.ireturn, 1) := by decide +kernel
theorem dX11_keep_9 : decode cX11_keep 9 = .ok (.aload_n 0, 1) := by decide +kernel
theorem dX11_keep_10 : decode cX11_keep 10 = .ok (.getfield 160, 3) := by decide +kernel
theorem dX11_keep_13 : decode cX11_keep 13 = .ok (.ifCond .ne 6, 3) := by decide +kernel
theorem dX11_keep_16 : decode cX11_keep 16 = .ok (.bipush (-4), 2) := by decide +kernel
theorem dX11_keep_18 : decode cX11_keep 18 = .ok (.ireturn, 1) := by decide +kernel
theorem dX11_keep_19 : decode cX11_keep 19 = .ok (.aload_n 0, 1) := by decide +kernel
theorem dX11_keep_20 : decode cX11_keep 20 = .ok (.getfield 37, 3) := by decide +kernel
theorem dX11_keep_23 : decode cX11_keep 23 = .ok (.iconst 0, 1) := by decide +kernel
theorem dX11_keep_24 : decode cX11_keep 24 = .ok (.aload_n 0, 1) := by decide +kernel
theorem dX11_keep_25 : decode cX11_keep 25 = .ok (.getfield 46, 3) := by decide +kernel
theorem dX11_keep_28 : decode cX11_keep 28 = .ok (.sipush 2256, 3) := by decide +kernel
theorem dX11_keep_31 : decode cX11_keep 31 = .ok (.iload_n 1, 1) := by decide +kernel
theorem dX11_keep_32 : decode cX11_keep 32 = .ok (.imul, 1) := by decide +kernel
theorem dX11_keep_33 : decode cX11_keep 33 = .ok (.bipush 55, 2) := by decide +kernel
theorem dX11_keep_35 : decode cX11_keep 35 = .ok (.invokestatic 170, 3) := by decide +kernel
theorem dX11_keep_38 : decode cX11_keep 38 = .ok (.aload_n 0, 1) := by decide +kernel
theorem dX11_keep_39 : decode cX11_keep 39 = .ok (.getfield 46, 3) := by decide +kernel
theorem dX11_keep_42 : decode cX11_keep 42 = .ok (.sipush 2256, 3) := by decide +kernel
theorem dX11_keep_45 : decode cX11_keep 45 = .ok (.iload_n 1, 1) := by decide +kernel
theorem dX11_keep_46 : decode cX11_keep 46 = .ok (.imul, 1) := by decide +kernel
theorem dX11_keep_47 : decode cX11_keep 47 = .ok (.bipush 55, 2) := by decide +kernel
theorem dX11_keep_49 : decode cX11_keep 49 = .ok (.iadd, 1) := by decide +kernel
theorem dX11_keep_50 : decode cX11_keep 50 = .ok (.aload_n 0, 1) := by decide +kernel
theorem dX11_keep_51 : decode cX11_keep 51 = .ok (.getfield 174, 3) := by decide +kernel
theorem dX11_keep_54 : decode cX11_keep 54 = .ok (.iastore, 1) := by decide +kernel
theorem dX11_keep_55 : decode cX11_keep 55 = .ok (.aload_n 0, 1) := by decide +kernel
theorem dX11_keep_56 : decode cX11_keep 56 = .ok (.getfield 43, 3) := by decide +kernel
theorem dX11_keep_59 : decode cX11_keep 59 = .ok (.iconst 0, 1) := by decide +kernel
theorem dX11_keep_60 : decode cX11_keep 60 = .ok (.aload_n 0, 1) := by decide +kernel
theorem dX11_keep_61 : decode cX11_keep 61 = .ok (.getfield 46, 3) := by decide +kernel
theorem dX11_keep_64 : decode cX11_keep 64 = .ok (.sipush 2256, 3) := by decide +kernel
theorem dX11_keep_67 : decode cX11_keep 67 = .ok (.iload_n 1, 1) := by decide +kernel
theorem dX11_keep_68 : decode cX11_keep 68 = .ok (.imul, 1) := by decide +kernel
theorem dX11_keep_69 : decode cX11_keep 69 = .ok (.bipush 55, 2) := by decide +kernel
theorem dX11_keep_71 : decode cX11_keep 71 = .ok (.iadd, 1) := by decide +kernel
theorem dX11_keep_72 : decode cX11_keep 72 = .ok (.iconst 1, 1) := by decide +kernel
theorem dX11_keep_73 : decode cX11_keep 73 = .ok (.iadd, 1) := by decide +kernel
theorem dX11_keep_74 : decode cX11_keep 74 = .ok (.sipush 2200, 3) := by decide +kernel
theorem dX11_keep_77 : decode cX11_keep 77 = .ok (.invokestatic 170, 3) := by decide +kernel
theorem dX11_keep_80 : decode cX11_keep 80 = .ok (.aload_n 0, 1) := by decide +kernel
theorem dX11_keep_81 : decode cX11_keep 81 = .ok (.getfield 49, 3) := by decide +kernel
theorem dX11_keep_84 : decode cX11_keep 84 = .ok (.iload_n 1, 1) := by decide +kernel
theorem dX11_keep_85 : decode cX11_keep 85 = .ok (.iconst 1, 1) := by decide +kernel
theorem dX11_keep_86 : decode cX11_keep 86 = .ok (.bastore, 1) := by decide +kernel
theorem dX11_keep_87 : decode cX11_keep 87 = .ok (.aload_n 0, 1) := by decide +kernel
theorem dX11_keep_88 : decode cX11_keep 88 = .ok (.getfield 174, 3) := by decide +kernel
theorem dX11_keep_91 : decode cX11_keep 91 = .ok (.ireturn, 1) := by decide +kernel
def fX11_keep (σ : St) (p1 : Int32) : Option (St × Int32) := cl (fX11_isPlace σ p1) (fun σ1 r2 => (if r2 = 0 then some (σ1, (-1)) else (if (σ1.1 0 4) = 0 then some (σ1, (-4)) else cl (fX11_copies σ1 10 0 13 (2256 * p1) 55) (fun σ3 r4 => wr LM σ3 13 ((2256 * p1) + 55) (σ3.1 0 14) (fun σ5 => cl (fX11_copies σ5 12 0 13 (((2256 * p1) + 55) + 1) 2200) (fun σ6 r7 => gd (inb p1 3) (pt (su σ6 14 (Int32.toNatClampNeg p1) 1) (fun σ8 => some (σ8, σ8.1 0 14)))))))))
set_option maxHeartbeats 4000000 in
set_option maxRecDepth 100000 in
theorem ctX11_keep (l : Launch) (g : GG) (σ : St) (p1 : Int32) (σ' : St) (r : Int32) (hE : fX11_keep σ p1 = some (σ', r)) : MI 25 entM l g yX11_keep (Cond.code yX11_keep cX11_keep 2 (some .int) :: gtbl) (rmD 3) [.ref (g.2.1 0), .int p1] σ σ' r := by
  refine mi_i (own := RX11) (lv := [(0, .ref (g.2.1 0)), (1, .int p1)]) (by decide) rfl (Nat.le_of_ble_eq_true rfl) rfl (fun p e s m below meth c ls args Q A H0 H locs C hK hA hQ hs hl => ?_)
  have hx := C.1
  have hb := C.2.1
  unfold fX11_keep at hE
  refine lv_iload_n hx hb dX11_keep_0 rfl (lv_at hl 1 rfl) ?_
  obtain ⟨σ1, r2, hE1, hE⟩ := cl_e hE
  refine x_cis (As := [.int p1]) (rest := []) C hl.1 hK hs hA ⟨Nat.le_refl 0, Nat.le_refl 0⟩ (ctX11_isPlace l g _ _ _ _ hE1) (cw_X11_242 C ⟨Nat.le_of_ble_eq_true rfl, Nat.le_of_ble_eq_true rfl⟩) rfl rfl (Nat.le_of_ble_eq_true rfl) dX11_keep_1 (fun H locs hs => ?_)
  refine lv_if_ne (tgt := 9) hx hb dX11_keep_4 (by decide) (fun hc => ?_) (fun hc => ?_)
  · have hE := if_f hc hE
    refine lv_aload_n hx hb dX11_keep_9 rfl (lv_at hl 0 rfl) ?_
    refine gf_X11_160_0 C hK hs dX11_keep_10 ?_
    refine lv_if_ne (tgt := 19) hx hb dX11_keep_13 (by decide) (fun hc => ?_) (fun hc => ?_)
    · have hE := if_f hc hE
      refine lv_aload_n hx hb dX11_keep_19 rfl (lv_at hl 0 rfl) ?_
      refine gf_X11_37_0 C hK hs dX11_keep_20 ?_
      refine lv_iconst (v := 0) hx hb dX11_keep_23 (by decide) ?_
      refine lv_aload_n hx hb dX11_keep_24 rfl (lv_at hl 0 rfl) ?_
      refine gf_X11_46_0 C hK hs dX11_keep_25 ?_
      refine lv_sipush (v := 2256) hx hb dX11_keep_28 (by decide) ?_
      refine lv_iload_n hx hb dX11_keep_31 rfl (lv_at hl 1 rfl) ?_
      refine lv_imul hx hb dX11_keep_32 ?_
      refine lv_bipush (v := 55) hx hb dX11_keep_33 (by decide) ?_
      obtain ⟨σ3, r4, hE1, hE⟩ := cl_e hE
      refine x_cvs (As := [.ref (g.2.1 10), .int 0, .ref (g.2.1 13), .int (2256 * p1), .int 55]) (rest := []) C hl.1 hK hs hA ⟨Nat.le_refl 0, Nat.le_refl 0⟩ (ctX11_copies l g _ _ _ _ _ _ _ _ hE1) (cw_X11_170 C ⟨Nat.le_of_ble_eq_true rfl, Nat.le_of_ble_eq_true rfl⟩) rfl rfl (Nat.le_of_ble_eq_true rfl) dX11_keep_35 (fun H locs hs => ?_)
      refine lv_aload_n hx hb dX11_keep_38 rfl (lv_at hl 0 rfl) ?_
      refine gf_X11_46_0 C hK hs dX11_keep_39 ?_
      refine lv_sipush (v := 2256) hx hb dX11_keep_42 (by decide) ?_
      refine lv_iload_n hx hb dX11_keep_45 rfl (lv_at hl 1 rfl) ?_
      refine lv_imul hx hb dX11_keep_46 ?_
      refine lv_bipush (v := 55) hx hb dX11_keep_47 (by decide) ?_
      refine lv_iadd hx hb dX11_keep_49 ?_
      refine lv_aload_n hx hb dX11_keep_50 rfl (lv_at hl 0 rfl) ?_
      refine gf_X11_174_0 C hK hs dX11_keep_51 ?_
      obtain ⟨hi, σ5, eσ5, hE⟩ := wr_w hE
      refine y_ast layM C hK hs hi eσ5 dX11_keep_54 (fun H locs hs => ?_)
      refine lv_aload_n hx hb dX11_keep_55 rfl (lv_at hl 0 rfl) ?_
      refine gf_X11_43_0 C hK hs dX11_keep_56 ?_
      refine lv_iconst (v := 0) hx hb dX11_keep_59 (by decide) ?_
      refine lv_aload_n hx hb dX11_keep_60 rfl (lv_at hl 0 rfl) ?_
      refine gf_X11_46_0 C hK hs dX11_keep_61 ?_
      refine lv_sipush (v := 2256) hx hb dX11_keep_64 (by decide) ?_
      refine lv_iload_n hx hb dX11_keep_67 rfl (lv_at hl 1 rfl) ?_
      refine lv_imul hx hb dX11_keep_68 ?_
      refine lv_bipush (v := 55) hx hb dX11_keep_69 (by decide) ?_
      refine lv_iadd hx hb dX11_keep_71 ?_
      refine lv_iconst (v := 1) hx hb dX11_keep_72 (by decide) ?_
      refine lv_iadd hx hb dX11_keep_73 ?_
      refine lv_sipush (v := 2200) hx hb dX11_keep_74 (by decide) ?_
      obtain ⟨σ6, r7, hE1, hE⟩ := cl_e hE
      refine x_cvs (As := [.ref (g.2.1 12), .int 0, .ref (g.2.1 13), .int (((2256 * p1) + 55) + 1), .int 2200]) (rest := []) C hl.1 hK hs hA ⟨Nat.le_refl 0, Nat.le_refl 0⟩ (ctX11_copies l g _ _ _ _ _ _ _ _ hE1) (cw_X11_170 C ⟨Nat.le_of_ble_eq_true rfl, Nat.le_of_ble_eq_true rfl⟩) rfl rfl (Nat.le_of_ble_eq_true rfl) dX11_keep_77 (fun H locs hs => ?_)
      refine lv_aload_n hx hb dX11_keep_80 rfl (lv_at hl 0 rfl) ?_
      refine gf_X11_49_0 C hK hs dX11_keep_81 ?_
      refine lv_iload_n hx hb dX11_keep_84 rfl (lv_at hl 1 rfl) ?_
      refine lv_iconst (v := 1) hx hb dX11_keep_85 (by decide) ?_
      obtain ⟨hi, hE⟩ := gd_e hE
      obtain ⟨σ8, eσ8, hE⟩ := pt_w hE
      refine y_zst layM C hK hs 14 3 (by decide) (fun _ => rfl) hi rfl eσ8 dX11_keep_86 (fun H locs hs => ?_)
      refine lv_aload_n hx hb dX11_keep_87 rfl (lv_at hl 0 rfl) ?_
      refine gf_X11_174_0 C hK hs dX11_keep_88 ?_
      exact hQ hs hE dX11_keep_91
    · have hE := if_t hc hE
      refine lv_bipush (v := (-4)) hx hb dX11_keep_16 (by decide) ?_
      exact hQ hs hE dX11_keep_18
  · have hE := if_t hc hE
    refine lv_iconst (v := (-1)) hx hb dX11_keep_7 (by decide) ?_
    exact hQ hs hE dX11_keep_8
theorem dX11_on_0 : decode cX11_on 0 = .ok (.iload_n 1, 1) := by decide +kernel
theorem dX11_on_1 : decode cX11_on 1 = .ok (.invokestatic 242, 3) := by decide +kernel
theorem dX11_on_4 : decode cX11_on 4 = .ok (.ifCond .ne 5, 3) := by decide +kernel
theorem dX11_on_7 : decode cX11_on 7 = .ok (.iconst (-1), 1) := by decide +kernel
theorem dX11_on_8 : decode cX11_on 8 = .ok (.ireturn, 1) := by decide +kernel
theorem dX11_on_9 : decode cX11_on 9 = .ok (.aload_n 0, 1) := by decide +kernel
theorem dX11_on_10 : decode cX11_on 10 = .ok (.getfield 49, 3) := by decide +kernel
theorem dX11_on_13 : decode cX11_on 13 = .ok (.iload_n 1, 1) := by decide +kernel
theorem dX11_on_14 : decode cX11_on 14 = .ok (.baload, 1) := by decide +kernel
theorem dX11_on_15 : decode cX11_on 15 = .ok (.ifCond .ne 9, 3) := by decide +kernel
theorem dX11_on_18 : decode cX11_on 18 = .ok (.aload_n 0, 1) := by decide +kernel
theorem dX11_on_19 : decode cX11_on 19 = .ok (.iconst 1, 1) := by decide +kernel
theorem dX11_on_20 : decode cX11_on 20 = .ok (.invokevirtual 106, 3) := by decide +kernel
theorem dX11_on_23 : decode cX11_on 23 = .ok (.ireturn, 1) := by decide +kernel
theorem dX11_on_24 : decode cX11_on 24 = .ok (.aload_n 0, 1) := by decide +kernel
theorem dX11_on_25 : decode cX11_on 25 = .ok (.getfield 46, 3) := by decide +kernel
theorem dX11_on_28 : decode cX11_on 28 = .ok (.sipush 2256, 3) := by decide +kernel
theorem dX11_on_31 : decode cX11_on 31 = .ok (.iload_n 1, 1) := by decide +kernel
theorem dX11_on_32 : decode cX11_on 32 = .ok (.imul, 1) := by decide +kernel
theorem dX11_on_33 : decode cX11_on 33 = .ok (.aload_n 0, 1) := by decide +kernel
theorem dX11_on_34 : decode cX11_on 34 = .ok (.getfield 37, 3) := by decide +kernel
theorem dX11_on_37 : decode cX11_on 37 = .ok (.iconst 0, 1) := by decide +kernel
theorem dX11_on_38 : decode cX11_on 38 = .ok (.bipush 55, 2) := by decide +kernel
theorem dX11_on_40 : decode cX11_on 40 = .ok (.invokestatic 170, 3) := by decide +kernel
theorem dX11_on_43 : decode cX11_on 43 = .ok (.aload_n 0, 1) := by decide +kernel
theorem dX11_on_44 : decode cX11_on 44 = .ok (.aload_n 0, 1) := by decide +kernel
theorem dX11_on_45 : decode cX11_on 45 = .ok (.getfield 46, 3) := by decide +kernel
theorem dX11_on_48 : decode cX11_on 48 = .ok (.sipush 2256, 3) := by decide +kernel
theorem dX11_on_51 : decode cX11_on 51 = .ok (.iload_n 1, 1) := by decide +kernel
theorem dX11_on_52 : decode cX11_on 52 = .ok (.imul, 1) := by decide +kernel
theorem dX11_on_53 : decode cX11_on 53 = .ok (.bipush 55, 2) := by decide +kernel
theorem dX11_on_55 : decode cX11_on 55 = .ok (.iadd, 1) := by decide +kernel
theorem dX11_on_56 : decode cX11_on 56 = .ok (.iaload, 1) := by decide +kernel
theorem dX11_on_57 : decode cX11_on 57 = .ok (.putfield 174, 3) := by decide +kernel
theorem dX11_on_60 : decode cX11_on 60 = .ok (.aload_n 0, 1) := by decide +kernel
theorem dX11_on_61 : decode cX11_on 61 = .ok (.getfield 46, 3) := by decide +kernel
theorem dX11_on_64 : decode cX11_on 64 = .ok (.sipush 2256, 3) := by decide +kernel
theorem dX11_on_67 : decode cX11_on 67 = .ok (.iload_n 1, 1) := by decide +kernel
theorem dX11_on_68 : decode cX11_on 68 = .ok (.imul, 1) := by decide +kernel
theorem dX11_on_69 : decode cX11_on 69 = .ok (.bipush 55, 2) := by decide +kernel
theorem dX11_on_71 : decode cX11_on 71 = .ok (.iadd, 1) := by decide +kernel
theorem dX11_on_72 : decode cX11_on 72 = .ok (.iconst 1, 1) := by decide +kernel
theorem dX11_on_73 : decode cX11_on 73 = .ok (.iadd, 1) := by decide +kernel
theorem dX11_on_74 : decode cX11_on 74 = .ok (.aload_n 0, 1) := by decide +kernel
theorem dX11_on_75 : decode cX11_on 75 = .ok (.getfield 43, 3) := by decide +kernel
theorem dX11_on_78 : decode cX11_on 78 = .ok (.iconst 0, 1) := by decide +kernel
theorem dX11_on_79 : decode cX11_on 79 = .ok (.sipush 2200, 3) := by decide +kernel
theorem dX11_on_82 : decode cX11_on 82 = .ok (.invokestatic 170, 3) := by decide +kernel
theorem dX11_on_85 : decode cX11_on 85 = .ok (.aload_n 0, 1) := by decide +kernel
theorem dX11_on_86 : decode cX11_on 86 = .ok (.getfield 174, 3) := by decide +kernel
theorem dX11_on_89 : decode cX11_on 89 = .ok (.ireturn, 1) := by decide +kernel
def fX11_on (σ : St) (p1 : Int32) : Option (St × Int32) := cl (fX11_isPlace σ p1) (fun σ1 r2 => (if r2 = 0 then some (σ1, (-1)) else gd (inb p1 3) ((if (σ1.1 14 p1.toNatClampNeg) = 0 then cl (fX11_found σ1 1) (fun σ9 r10 => some (σ9, r10)) else cl (fX11_copies σ1 13 (2256 * p1) 10 0 55) (fun σ3 r4 => rd LM σ3 13 ((2256 * p1) + 55) (fun x5 => pt (su σ3 0 14 x5) (fun σ6 => cl (fX11_copies σ6 13 (((2256 * p1) + 55) + 1) 12 0 2200) (fun σ7 r8 => some (σ7, σ7.1 0 14)))))))))
set_option maxHeartbeats 4000000 in
set_option maxRecDepth 100000 in
theorem ctX11_on (l : Launch) (g : GG) (σ : St) (p1 : Int32) (σ' : St) (r : Int32) (hE : fX11_on σ p1 = some (σ', r)) : MI 25 entM l g yX11_on (Cond.code yX11_on cX11_on 2 (some .int) :: gtbl) (rmD 3) [.ref (g.2.1 0), .int p1] σ σ' r := by
  refine mi_i (own := RX11) (lv := [(0, .ref (g.2.1 0)), (1, .int p1)]) (by decide) rfl (Nat.le_of_ble_eq_true rfl) rfl (fun p e s m below meth c ls args Q A H0 H locs C hK hA hQ hs hl => ?_)
  have hx := C.1
  have hb := C.2.1
  unfold fX11_on at hE
  refine lv_iload_n hx hb dX11_on_0 rfl (lv_at hl 1 rfl) ?_
  obtain ⟨σ1, r2, hE1, hE⟩ := cl_e hE
  refine x_cis (As := [.int p1]) (rest := []) C hl.1 hK hs hA ⟨Nat.le_refl 0, Nat.le_refl 0⟩ (ctX11_isPlace l g _ _ _ _ hE1) (cw_X11_242 C ⟨Nat.le_of_ble_eq_true rfl, Nat.le_of_ble_eq_true rfl⟩) rfl rfl (Nat.le_of_ble_eq_true rfl) dX11_on_1 (fun H locs hs => ?_)
  refine lv_if_ne (tgt := 9) hx hb dX11_on_4 (by decide) (fun hc => ?_) (fun hc => ?_)
  · have hE := if_f hc hE
    refine lv_aload_n hx hb dX11_on_9 rfl (lv_at hl 0 rfl) ?_
    refine gf_X11_49_0 C hK hs dX11_on_10 ?_
    refine lv_iload_n hx hb dX11_on_13 rfl (lv_at hl 1 rfl) ?_
    obtain ⟨hi, hE⟩ := gd_e hE
    refine y_zld C hK hs 14 3 (by decide) rfl hi dX11_on_14 ?_
    refine lv_if_ne (tgt := 24) hx hb dX11_on_15 (by decide) (fun hc => ?_) (fun hc => ?_)
    · have hE := if_f hc hE
      refine lv_aload_n hx hb dX11_on_24 rfl (lv_at hl 0 rfl) ?_
      refine gf_X11_46_0 C hK hs dX11_on_25 ?_
      refine lv_sipush (v := 2256) hx hb dX11_on_28 (by decide) ?_
      refine lv_iload_n hx hb dX11_on_31 rfl (lv_at hl 1 rfl) ?_
      refine lv_imul hx hb dX11_on_32 ?_
      refine lv_aload_n hx hb dX11_on_33 rfl (lv_at hl 0 rfl) ?_
      refine gf_X11_37_0 C hK hs dX11_on_34 ?_
      refine lv_iconst (v := 0) hx hb dX11_on_37 (by decide) ?_
      refine lv_bipush (v := 55) hx hb dX11_on_38 (by decide) ?_
      obtain ⟨σ3, r4, hE1, hE⟩ := cl_e hE
      refine x_cvs (As := [.ref (g.2.1 13), .int (2256 * p1), .ref (g.2.1 10), .int 0, .int 55]) (rest := []) C hl.1 hK hs hA ⟨Nat.le_refl 0, Nat.le_refl 0⟩ (ctX11_copies l g _ _ _ _ _ _ _ _ hE1) (cw_X11_170 C ⟨Nat.le_of_ble_eq_true rfl, Nat.le_of_ble_eq_true rfl⟩) rfl rfl (Nat.le_of_ble_eq_true rfl) dX11_on_40 (fun H locs hs => ?_)
      refine lv_aload_n hx hb dX11_on_43 rfl (lv_at hl 0 rfl) ?_
      refine lv_aload_n hx hb dX11_on_44 rfl (lv_at hl 0 rfl) ?_
      refine gf_X11_46_0 C hK hs dX11_on_45 ?_
      refine lv_sipush (v := 2256) hx hb dX11_on_48 (by decide) ?_
      refine lv_iload_n hx hb dX11_on_51 rfl (lv_at hl 1 rfl) ?_
      refine lv_imul hx hb dX11_on_52 ?_
      refine lv_bipush (v := 55) hx hb dX11_on_53 (by decide) ?_
      refine lv_iadd hx hb dX11_on_55 ?_
      obtain ⟨hi, x5, ex5, hE⟩ := rd_w hE
      refine y_ald layM C hK hs hi ex5 dX11_on_56 ?_
      obtain ⟨σ6, eσ6, hE⟩ := pt_w hE
      refine pf_X11_174_0 C hK hs eσ6 dX11_on_57 (fun H locs hs => ?_)
      refine lv_aload_n hx hb dX11_on_60 rfl (lv_at hl 0 rfl) ?_
      refine gf_X11_46_0 C hK hs dX11_on_61 ?_
      refine lv_sipush (v := 2256) hx hb dX11_on_64 (by decide) ?_
      refine lv_iload_n hx hb dX11_on_67 rfl (lv_at hl 1 rfl) ?_
      refine lv_imul hx hb dX11_on_68 ?_
      refine lv_bipush (v := 55) hx hb dX11_on_69 (by decide) ?_
      refine lv_iadd hx hb dX11_on_71 ?_
      refine lv_iconst (v := 1) hx hb dX11_on_72 (by decide) ?_
      refine lv_iadd hx hb dX11_on_73 ?_
      refine lv_aload_n hx hb dX11_on_74 rfl (lv_at hl 0 rfl) ?_
      refine gf_X11_43_0 C hK hs dX11_on_75 ?_
      refine lv_iconst (v := 0) hx hb dX11_on_78 (by decide) ?_
      refine lv_sipush (v := 2200) hx hb dX11_on_79 (by decide) ?_
      obtain ⟨σ7, r8, hE1, hE⟩ := cl_e hE
      refine x_cvs (As := [.ref (g.2.1 13), .int (((2256 * p1) + 55) + 1), .ref (g.2.1 12), .int 0, .int 2200]) (rest := []) C hl.1 hK hs hA ⟨Nat.le_refl 0, Nat.le_refl 0⟩ (ctX11_copies l g _ _ _ _ _ _ _ _ hE1) (cw_X11_170 C ⟨Nat.le_of_ble_eq_true rfl, Nat.le_of_ble_eq_true rfl⟩) rfl rfl (Nat.le_of_ble_eq_true rfl) dX11_on_82 (fun H locs hs => ?_)
      refine lv_aload_n hx hb dX11_on_85 rfl (lv_at hl 0 rfl) ?_
      refine gf_X11_174_0 C hK hs dX11_on_86 ?_
      exact hQ hs hE dX11_on_89
    · have hE := if_t hc hE
      refine lv_aload_n hx hb dX11_on_18 rfl (lv_at hl 0 rfl) ?_
      refine lv_iconst (v := 1) hx hb dX11_on_19 (by decide) ?_
      obtain ⟨σ9, r10, hE1, hE⟩ := cl_e hE
      refine x_civ (As := [.int 1]) (rest := []) C hl.1 hK hs hA ⟨Nat.le_refl 0, Nat.le_refl 0⟩ (ctX11_found l g _ _ _ _ hE1) (cw_X11_106 C ⟨Nat.le_of_ble_eq_true rfl, Nat.le_of_ble_eq_true rfl⟩) (hs.recv hK 0 (by decide) rfl rfl) rfl rfl (Nat.le_of_ble_eq_true rfl) dX11_on_20 (fun H locs hs => ?_)
      exact hQ hs hE dX11_on_23
  · have hE := if_t hc hE
    refine lv_iconst (v := (-1)) hx hb dX11_on_7 (by decide) ?_
    exact hQ hs hE dX11_on_8
theorem dX11_laysAside_0 : decode cX11_laysAside 0 = .ok (.aload_n 0, 1) := by decide +kernel
theorem dX11_laysAside_1 : decode cX11_laysAside 1 = .ok (.getfield 37, 3) := by decide +kernel
theorem dX11_laysAside_4 : decode cX11_laysAside 4 = .ok (.iconst 0, 1) := by decide +kernel
theorem dX11_laysAside_5 : decode cX11_laysAside 5 = .ok (.aload_n 0, 1) := by decide +kernel
theorem dX11_laysAside_6 : decode cX11_laysAside 6 = .ok (.getfield 40, 3) := by decide +kernel
theorem dX11_laysAside_9 : decode cX11_laysAside 9 = .ok (.iconst 0, 1) := by decide +kernel
theorem dX11_laysAside_10 : decode cX11_laysAside 10 = .ok (.bipush 55, 2) := by decide +kernel
theorem dX11_laysAside_12 : decode cX11_laysAside 12 = .ok (.invokestatic 170, 3) := by decide +kernel
theorem dX11_laysAside_15 : decode cX11_laysAside 15 = .ok (.return_, 1) := by decide +kernel
def fX11_laysAside (σ : St) : Option (St × Unit) := cl (fX11_copies σ 10 0 11 0 55) (fun σ1 r2 => some (σ1, ()))
set_option maxHeartbeats 4000000 in
set_option maxRecDepth 100000 in
theorem ctX11_laysAside (l : Launch) (g : GG) (σ : St) (σ' : St) (r : Unit) (hE : fX11_laysAside σ  = some (σ', r)) : MV 25 entM l g yX11_laysAside (Cond.code yX11_laysAside cX11_laysAside 1 none :: gtbl) (rmD 2) [.ref (g.2.1 0)] σ σ' := by
  refine mi_v (own := RX11) (lv := [(0, .ref (g.2.1 0))]) (by decide) rfl (Nat.le_of_ble_eq_true rfl) rfl (fun p e s m below meth c ls args Q A H0 H locs C hK hA hQ hs hl => ?_)
  have hx := C.1
  have hb := C.2.1
  unfold fX11_laysAside at hE
  refine lv_aload_n hx hb dX11_laysAside_0 rfl (lv_at hl 0 rfl) ?_
  refine gf_X11_37_0 C hK hs dX11_laysAside_1 ?_
  refine lv_iconst (v := 0) hx hb dX11_laysAside_4 (by decide) ?_
  refine lv_aload_n hx hb dX11_laysAside_5 rfl (lv_at hl 0 rfl) ?_
  refine gf_X11_40_0 C hK hs dX11_laysAside_6 ?_
  refine lv_iconst (v := 0) hx hb dX11_laysAside_9 (by decide) ?_
  refine lv_bipush (v := 55) hx hb dX11_laysAside_10 (by decide) ?_
  obtain ⟨σ1, r2, hE1, hE⟩ := cl_e hE
  refine x_cvs (As := [.ref (g.2.1 10), .int 0, .ref (g.2.1 11), .int 0, .int 55]) (rest := []) C hl.1 hK hs hA ⟨Nat.le_refl 0, Nat.le_refl 0⟩ (ctX11_copies l g _ _ _ _ _ _ _ _ hE1) (cw_X11_170 C ⟨Nat.le_of_ble_eq_true rfl, Nat.le_of_ble_eq_true rfl⟩) rfl rfl (Nat.le_of_ble_eq_true rfl) dX11_laysAside_12 (fun H locs hs => ?_)
  exact hQ hs hE dX11_laysAside_15
theorem dX11_goesOn_0 : decode cX11_goesOn 0 = .ok (.iconst 0, 1) := by decide +kernel
theorem dX11_goesOn_1 : decode cX11_goesOn 1 = .ok (.istore_n 3, 1) := by decide +kernel
theorem dX11_goesOn_2 : decode cX11_goesOn 2 = .ok (.iconst 0, 1) := by decide +kernel
theorem dX11_goesOn_3 : decode cX11_goesOn 3 = .ok (.istore 4, 2) := by decide +kernel
theorem dX11_goesOn_5 : decode cX11_goesOn 5 = .ok (.iload 4, 2) := by decide +kernel
theorem dX11_goesOn_7 : decode cX11_goesOn 7 = .ok (.iload_n 1, 1) := by decide +kernel
theorem dX11_goesOn_8 : decode cX11_goesOn 8 = .ok (.if_icmp .ge 21, 3) := by decide +kernel
theorem dX11_goesOn_11 : decode cX11_goesOn 11 = .ok (.iload_n 3, 1) := by decide +kernel
theorem dX11_goesOn_12 : decode cX11_goesOn 12 = .ok (.aload_n 0, 1) := by decide +kernel
theorem dX11_goesOn_13 : decode cX11_goesOn 13 = .ok (.aload_n 0, 1) := by decide +kernel
theorem dX11_goesOn_14 : decode cX11_goesOn 14 = .ok (.getfield 40, 3) := by decide +kernel
theorem dX11_goesOn_17 : decode cX11_goesOn 17 = .ok (.iload_n 2, 1) := by decide +kernel
theorem dX11_goesOn_18 : decode cX11_goesOn 18 = .ok (.invokevirtual 237, 3) := by decide +kernel
theorem dX11_goesOn_21 : decode cX11_goesOn 21 = .ok (.iadd, 1) := by decide +kernel
theorem dX11_goesOn_22 : decode cX11_goesOn 22 = .ok (.istore_n 3, 1) := by decide +kernel
theorem dX11_goesOn_23 : decode cX11_goesOn 23 = .ok (.iinc 4 1, 3) := by decide +kernel
theorem dX11_goesOn_26 : decode cX11_goesOn 26 = .ok (.goto (-21), 3) := by decide +kernel
theorem dX11_goesOn_29 : decode cX11_goesOn 29 = .ok (.iload_n 3, 1) := by decide +kernel
theorem dX11_goesOn_30 : decode cX11_goesOn 30 = .ok (.ireturn, 1) := by decide +kernel
def fX11_goesOn_L5 (p1 : Int32) (p2 : Int32) : Nat → St → Int32 → Int32 → (St → Int32 → Int32 → Option (St × Int32)) → Option (St × Int32)
  | 0, _, _, _, _ => none
  | n + 1, σ1, v2, v3, k => (if p1 ≤ v3 then k σ1 v2 v3 else cl (fX11_passes σ1 11 p2) (fun σ4 r5 => fX11_goesOn_L5 p1 p2 n σ4 (v2 + r5) (v3 + 1) k))
def fX11_goesOn (σ : St) (p1 : Int32) (p2 : Int32) : Option (St × Int32) := fX11_goesOn_L5 p1 p2 10000 σ 0 0 (fun σ6 v7 v8 => some (σ6, v7))
set_option maxHeartbeats 4000000 in
set_option maxRecDepth 100000 in
theorem ctX11_goesOn (l : Launch) (g : GG) (σ : St) (p1 : Int32) (p2 : Int32) (σ' : St) (r : Int32) (hE : fX11_goesOn σ p1 p2 = some (σ', r)) : MI 25 entM l g yX11_goesOn (Cond.code yX11_goesOn cX11_goesOn 5 (some .int) :: gtbl) (rmD 4) [.ref (g.2.1 0), .int p1, .int p2] σ σ' r := by
  refine mi_i (own := RX11) (lv := [(0, .ref (g.2.1 0)), (1, .int p1), (2, .int p2)]) (by decide) rfl (Nat.le_of_ble_eq_true rfl) rfl (fun p e s m below meth c ls args Q A H0 H locs C hK hA hQ hs hl => ?_)
  have hx := C.1
  have hb := C.2.1
  unfold fX11_goesOn at hE
  refine lv_iconst (v := 0) hx hb dX11_goesOn_0 (by decide) ?_
  refine lv_istore_n (lv' := [(3, .int 0), (0, .ref (g.2.1 0)), (1, .int p1), (2, .int p2)]) hx hb dX11_goesOn_1 rfl hl (by decide) rfl (fun ls hl => ?_)
  refine lv_iconst (v := 0) hx hb dX11_goesOn_2 (by decide) ?_
  refine lv_istore (lv' := [(4, .int 0), (3, .int 0), (0, .ref (g.2.1 0)), (1, .int p1), (2, .int p2)]) hx hb dX11_goesOn_3 hl (by decide) rfl (fun ls hl => ?_)
  have hL5 : ∀ (n : Nat) (σ1 : St) (v2 : Int32) (v3 : Int32) (k : St → Int32 → Int32 → Option (St × Int32)), fX11_goesOn_L5 p1 p2 n σ1 v2 v3 k = some (σ', r) → (∀ (σ1 : St) (v2 : Int32) (v3 : Int32) (H : Heap) (locs : List Loc) (ls : Array Slot), HW 25 entM g A H0 H locs σ1 → lv_has ls 5 [(0, .ref (g.2.1 0)), (1, .int p1), (2, .int p2), (3, .int v2), (4, .int v3)] → k σ1 v2 v3 = some (σ', r) → W p l e (rmD 4) s m args below meth c H locs 0 0 Q (F0 m 29 ls [])) → ∀ (H : Heap) (locs : List Loc) (ls : Array Slot), HW 25 entM g A H0 H locs σ1 → lv_has ls 5 [(0, .ref (g.2.1 0)), (1, .int p1), (2, .int p2), (3, .int v2), (4, .int v3)] → W p l e (rmD 4) s m args below meth c H locs 0 0 Q (F0 m 5 ls []) := by
    intro n
    induction n with
    | zero =>
      intro σ1 v2 v3 k hE
      rw [fX11_goesOn_L5] at hE
      exact no_e hE
    | succ n ih =>
      intro σ1 v2 v3 k hE hk H locs ls hs hl
      rw [fX11_goesOn_L5] at hE
      refine lv_iload hx hb dX11_goesOn_5 (lv_at hl 4 rfl) ?_
      refine lv_iload_n hx hb dX11_goesOn_7 rfl (lv_at hl 1 rfl) ?_
      refine lv_icmp_ge (tgt := 29) hx hb dX11_goesOn_8 (by decide) (fun hc => ?_) (fun hc => ?_)
      · have hE := if_t hc hE
        exact hk σ1 v2 v3 _ _ _ hs (lv_sub hl [0, 1, 2, 3, 4] rfl) hE
      · have hE := if_f hc hE
        refine lv_iload_n hx hb dX11_goesOn_11 rfl (lv_at hl 3 rfl) ?_
        refine lv_aload_n hx hb dX11_goesOn_12 rfl (lv_at hl 0 rfl) ?_
        refine lv_aload_n hx hb dX11_goesOn_13 rfl (lv_at hl 0 rfl) ?_
        refine gf_X11_40_0 C hK hs dX11_goesOn_14 ?_
        refine lv_iload_n hx hb dX11_goesOn_17 rfl (lv_at hl 2 rfl) ?_
        obtain ⟨σ4, r5, hE1, hE⟩ := cl_e hE
        refine x_civ (As := [.ref (g.2.1 11), .int p2]) (rest := [.int v2]) C hl.1 hK hs hA ⟨Nat.le_refl 0, Nat.le_refl 0⟩ (ctX11_passes l g _ _ _ _ _ hE1) (cw_X11_237 C ⟨Nat.le_of_ble_eq_true rfl, Nat.le_of_ble_eq_true rfl⟩) (hs.recv hK 0 (by decide) rfl rfl) rfl rfl (Nat.le_of_ble_eq_true rfl) dX11_goesOn_18 (fun H locs hs => ?_)
        refine lv_iadd hx hb dX11_goesOn_21 ?_
        refine lv_istore_n (lv' := [(3, .int (v2 + r5)), (0, .ref (g.2.1 0)), (1, .int p1), (2, .int p2), (4, .int v3)]) hx hb dX11_goesOn_22 rfl hl (by decide) rfl (fun ls hl => ?_)
        refine lv_iinc (v := v3 + 1) (lv' := [(4, .int (v3 + 1)), (3, .int (v2 + r5)), (0, .ref (g.2.1 0)), (1, .int p1), (2, .int p2)]) hx hb dX11_goesOn_23 hl (k := 4) rfl rfl (by decide) rfl (fun ls hl => ?_)
        refine lv_goto (tgt := 5) hx hb dX11_goesOn_26 (by decide) ?_
        exact ih _ _ _ _ hE hk _ _ _ hs (lv_sub hl [2, 3, 4, 1, 0] rfl)
  refine hL5 _ _ _ _ _ hE (fun σ6 v7 v8 H locs ls hs hl hE => ?_) H locs ls hs (lv_sub hl [2, 3, 4, 1, 0] rfl)
  refine lv_iload_n hx hb dX11_goesOn_29 rfl (lv_at hl 3 rfl) ?_
  exact hQ hs hE dX11_goesOn_30
