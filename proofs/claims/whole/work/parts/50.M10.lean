theorem dX11_count_0 : decode cX11_count 0 = .ok (.iload_n 1, 1) := by decide +kernel
theorem dX11_count_1 : decode cX11_count 1 = .ok (.tableswitch 173 0 10 #[59, 64, 69, 76, 81, 86, 95, 105, 114, 159, 166], 59) := by decide +kernel
theorem dX11_count_60 : decode cX11_count 60 = .ok (.aload_n 0, 1) := by decide +kernel
theorem dX11_count_61 : decode cX11_count 61 = .ok (.getfield 160, 3) := by decide +kernel
theorem dX11_count_64 : decode cX11_count 64 = .ok (.ireturn, 1) := by decide +kernel
theorem dX11_count_65 : decode cX11_count 65 = .ok (.aload_n 0, 1) := by decide +kernel
theorem dX11_count_66 : decode cX11_count 66 = .ok (.getfield 163, 3) := by decide +kernel
theorem dX11_count_69 : decode cX11_count 69 = .ok (.ireturn, 1) := by decide +kernel
theorem dX11_count_70 : decode cX11_count 70 = .ok (.aload_n 0, 1) := by decide +kernel
theorem dX11_count_71 : decode cX11_count 71 = .ok (.getfield 37, 3) := by decide +kernel
theorem dX11_count_74 : decode cX11_count 74 = .ok (.iconst 0, 1) := by decide +kernel
theorem dX11_count_75 : decode cX11_count 75 = .ok (.iaload, 1) := by decide +kernel
theorem dX11_count_76 : decode cX11_count 76 = .ok (.ireturn, 1) := by decide +kernel
theorem dX11_count_77 : decode cX11_count 77 = .ok (.aload_n 0, 1) := by decide +kernel
theorem dX11_count_78 : decode cX11_count 78 = .ok (.getfield 174, 3) := by decide +kernel
theorem dX11_count_81 : decode cX11_count 81 = .ok (.ireturn, 1) := by decide +kernel
theorem dX11_count_82 : decode cX11_count 82 = .ok (.aload_n 0, 1) := by decide +kernel
theorem dX11_count_83 : decode cX11_count 83 = .ok (.invokevirtual 318, 3) := by decide +kernel
theorem dX11_count_86 : decode cX11_count 86 = .ok (.ireturn, 1) := by decide +kernel
theorem dX11_count_87 : decode cX11_count 87 = .ok (.aload_n 0, 1) := by decide +kernel
theorem dX11_count_88 : decode cX11_count 88 = .ok (.aload_n 0, 1) := by decide +kernel
theorem dX11_count_89 : decode cX11_count 89 = .ok (.getfield 37, 3) := by decide +kernel
theorem dX11_count_92 : decode cX11_count 92 = .ok (.invokevirtual 253, 3) := by decide +kernel
theorem dX11_count_95 : decode cX11_count 95 = .ok (.ireturn, 1) := by decide +kernel
theorem dX11_count_96 : decode cX11_count 96 = .ok (.aload_n 0, 1) := by decide +kernel
theorem dX11_count_97 : decode cX11_count 97 = .ok (.getfield 7, 3) := by decide +kernel
theorem dX11_count_100 : decode cX11_count 100 = .ok (.bipush 6, 2) := by decide +kernel
theorem dX11_count_102 : decode cX11_count 102 = .ok (.invokestatic 321, 3) := by decide +kernel
theorem dX11_count_105 : decode cX11_count 105 = .ok (.ireturn, 1) := by decide +kernel
theorem dX11_count_106 : decode cX11_count 106 = .ok (.aload_n 0, 1) := by decide +kernel
theorem dX11_count_107 : decode cX11_count 107 = .ok (.getfield 16, 3) := by decide +kernel
theorem dX11_count_110 : decode cX11_count 110 = .ok (.iconst 4, 1) := by decide +kernel
theorem dX11_count_111 : decode cX11_count 111 = .ok (.invokestatic 321, 3) := by decide +kernel
theorem dX11_count_114 : decode cX11_count 114 = .ok (.ireturn, 1) := by decide +kernel
theorem dX11_count_115 : decode cX11_count 115 = .ok (.aload_n 0, 1) := by decide +kernel
theorem dX11_count_116 : decode cX11_count 116 = .ok (.getfield 49, 3) := by decide +kernel
theorem dX11_count_119 : decode cX11_count 119 = .ok (.iconst 0, 1) := by decide +kernel
theorem dX11_count_120 : decode cX11_count 120 = .ok (.baload, 1) := by decide +kernel
theorem dX11_count_121 : decode cX11_count 121 = .ok (.ifCond .eq 7, 3) := by decide +kernel
theorem dX11_count_124 : decode cX11_count 124 = .ok (.iconst 1, 1) := by decide +kernel
theorem dX11_count_125 : decode cX11_count 125 = .ok (.goto 4, 3) := by decide +kernel
theorem dX11_count_128 : decode cX11_count 128 = .ok (.iconst 0, 1) := by decide +kernel
theorem dX11_count_129 : decode cX11_count 129 = .ok (.aload_n 0, 1) := by decide +kernel
theorem dX11_count_130 : decode cX11_count 130 = .ok (.getfield 49, 3) := by decide +kernel
theorem dX11_count_133 : decode cX11_count 133 = .ok (.iconst 1, 1) := by decide +kernel
theorem dX11_count_134 : decode cX11_count 134 = .ok (.baload, 1) := by decide +kernel
theorem dX11_count_135 : decode cX11_count 135 = .ok (.ifCond .eq 7, 3) := by decide +kernel
theorem dX11_count_138 : decode cX11_count 138 = .ok (.iconst 1, 1) := by decide +kernel
theorem dX11_count_139 : decode cX11_count 139 = .ok (.goto 4, 3) := by decide +kernel
theorem dX11_count_142 : decode cX11_count 142 = .ok (.iconst 0, 1) := by decide +kernel
theorem dX11_count_143 : decode cX11_count 143 = .ok (.iadd, 1) := by decide +kernel
theorem dX11_count_144 : decode cX11_count 144 = .ok (.aload_n 0, 1) := by decide +kernel
theorem dX11_count_145 : decode cX11_count 145 = .ok (.getfield 49, 3) := by decide +kernel
theorem dX11_count_148 : decode cX11_count 148 = .ok (.iconst 2, 1) := by decide +kernel
theorem dX11_count_149 : decode cX11_count 149 = .ok (.baload, 1) := by decide +kernel
theorem dX11_count_150 : decode cX11_count 150 = .ok (.ifCond .eq 7, 3) := by decide +kernel
theorem dX11_count_153 : decode cX11_count 153 = .ok (.iconst 1, 1) := by decide +kernel
theorem dX11_count_154 : decode cX11_count 154 = .ok (.goto 4, 3) := by decide +kernel
theorem dX11_count_157 : decode cX11_count 157 = .ok (.iconst 0, 1) := by decide +kernel
theorem dX11_count_158 : decode cX11_count 158 = .ok (.iadd, 1) := by decide +kernel
theorem dX11_count_159 : decode cX11_count 159 = .ok (.ireturn, 1) := by decide +kernel
theorem dX11_count_160 : decode cX11_count 160 = .ok (.aload_n 0, 1) := by decide +kernel
theorem dX11_count_161 : decode cX11_count 161 = .ok (.iconst 1, 1) := by decide +kernel
theorem dX11_count_162 : decode cX11_count 162 = .ok (.iconst 4, 1) := by decide +kernel
theorem dX11_count_163 : decode cX11_count 163 = .ok (.invokevirtual 324, 3) := by decide +kernel
theorem dX11_count_166 : decode cX11_count 166 = .ok (.ireturn, 1) := by decide +kernel
theorem dX11_count_167 : decode cX11_count 167 = .ok (.aload_n 0, 1) := by decide +kernel
theorem dX11_count_168 : decode cX11_count 168 = .ok (.iconst 2, 1) := by decide +kernel
theorem dX11_count_169 : decode cX11_count 169 = .ok (.iconst 5, 1) := by decide +kernel
theorem dX11_count_170 : decode cX11_count 170 = .ok (.invokevirtual 324, 3) := by decide +kernel
theorem dX11_count_173 : decode cX11_count 173 = .ok (.ireturn, 1) := by decide +kernel
theorem dX11_count_174 : decode cX11_count 174 = .ok (.iconst (-1), 1) := by decide +kernel
theorem dX11_count_175 : decode cX11_count 175 = .ok (.ireturn, 1) := by decide +kernel
def fX11_count (σ : St) (p1 : Int32) : Option (St × Int32) := (if p1 = 0 then some (σ, σ.1 0 4) else (if p1 = 1 then some (σ, σ.1 0 7) else (if p1 = 2 then rd LM σ 10 0 (fun x1 => some (σ, x1)) else (if p1 = 3 then some (σ, σ.1 0 14) else (if p1 = 4 then cl (fX11_things σ) (fun σ2 r3 => some (σ2, r3)) else (if p1 = 5 then cl (fX11_sum σ 10) (fun σ4 r5 => some (σ4, r5)) else (if p1 = 6 then cl (fX11_there σ 1 6) (fun σ6 r7 => some (σ6, r7)) else (if p1 = 7 then cl (fX11_there σ 3 4) (fun σ8 r9 => some (σ8, r9)) else (if p1 = 8 then gd (inb 0 3) (pv (if (σ.1 14 (Int32.toNatClampNeg 0)) = 0 then 0 else 1) (fun (y11 : Int32) => gd (inb 1 3) (pv (if (σ.1 14 (Int32.toNatClampNeg 1)) = 0 then 0 else 1) (fun (y13 : Int32) => gd (inb 2 3) (pv (if (σ.1 14 (Int32.toNatClampNeg 2)) = 0 then 0 else 1) (fun (y15 : Int32) => some (σ, (y11 + y13) + y15))))))) else (if p1 = 9 then cl (fX11_of σ 1 4) (fun σ16 r17 => some (σ16, r17)) else (if p1 = 10 then cl (fX11_of σ 2 5) (fun σ18 r19 => some (σ18, r19)) else some (σ, (-1)))))))))))))
set_option maxHeartbeats 4000000 in
set_option maxRecDepth 100000 in
theorem ctX11_count (l : Launch) (g : GG) (σ : St) (p1 : Int32) (σ' : St) (r : Int32) (hE : fX11_count σ p1 = some (σ', r)) : MI 25 entM l g yX11_count (Cond.code yX11_count cX11_count 2 (some .int) :: gtbl) (rmD 2) [.ref (g.2.1 0), .int p1] σ σ' r := by
  refine mi_i (own := RX11) (lv := [(0, .ref (g.2.1 0)), (1, .int p1)]) (by decide) rfl (Nat.le_of_ble_eq_true rfl) rfl (fun p e s m below meth c ls args Q A H0 H locs C hK hA hQ hs hl => ?_)
  have hx := C.1
  have hb := C.2.1
  unfold fX11_count at hE
  refine lv_iload_n hx hb dX11_count_0 rfl (lv_at hl 1 rfl) ?_
  by_cases hn0 : p1 = 0
  · have hE := if_t hn0 hE
    refine lv_tableIn (off := 59) (tgt := 60) hx hb dX11_count_1 (by rw [hn0]; decide) (by rw [hn0]; decide) (by rw [hn0]; decide) (by decide) ?_
    refine lv_aload_n hx hb dX11_count_60 rfl (lv_at hl 0 rfl) ?_
    refine gf_X11_160_0 C hK hs dX11_count_61 ?_
    exact hQ hs hE dX11_count_64
  have hE := if_f hn0 hE
  by_cases hn1 : p1 = 1
  · have hE := if_t hn1 hE
    refine lv_tableIn (off := 64) (tgt := 65) hx hb dX11_count_1 (by rw [hn1]; decide) (by rw [hn1]; decide) (by rw [hn1]; decide) (by decide) ?_
    refine lv_aload_n hx hb dX11_count_65 rfl (lv_at hl 0 rfl) ?_
    refine gf_X11_163_0 C hK hs dX11_count_66 ?_
    exact hQ hs hE dX11_count_69
  have hE := if_f hn1 hE
  by_cases hn2 : p1 = 2
  · have hE := if_t hn2 hE
    refine lv_tableIn (off := 69) (tgt := 70) hx hb dX11_count_1 (by rw [hn2]; decide) (by rw [hn2]; decide) (by rw [hn2]; decide) (by decide) ?_
    refine lv_aload_n hx hb dX11_count_70 rfl (lv_at hl 0 rfl) ?_
    refine gf_X11_37_0 C hK hs dX11_count_71 ?_
    refine lv_iconst (v := 0) hx hb dX11_count_74 (by decide) ?_
    obtain ⟨hi, x1, ex1, hE⟩ := rd_w hE
    refine y_ald layM C hK hs hi ex1 dX11_count_75 ?_
    exact hQ hs hE dX11_count_76
  have hE := if_f hn2 hE
  by_cases hn3 : p1 = 3
  · have hE := if_t hn3 hE
    refine lv_tableIn (off := 76) (tgt := 77) hx hb dX11_count_1 (by rw [hn3]; decide) (by rw [hn3]; decide) (by rw [hn3]; decide) (by decide) ?_
    refine lv_aload_n hx hb dX11_count_77 rfl (lv_at hl 0 rfl) ?_
    refine gf_X11_174_0 C hK hs dX11_count_78 ?_
    exact hQ hs hE dX11_count_81
  have hE := if_f hn3 hE
  by_cases hn4 : p1 = 4
  · have hE := if_t hn4 hE
    refine lv_tableIn (off := 81) (tgt := 82) hx hb dX11_count_1 (by rw [hn4]; decide) (by rw [hn4]; decide) (by rw [hn4]; decide) (by decide) ?_
    refine lv_aload_n hx hb dX11_count_82 rfl (lv_at hl 0 rfl) ?_
    obtain ⟨σ2, r3, hE1, hE⟩ := cl_e hE
    refine x_civ (As := []) (rest := []) C hl.1 hK hs hA ⟨Nat.le_refl 0, Nat.le_refl 0⟩ (ctX11_things l g _  _ _ hE1) (cw_X11_318 C ⟨Nat.le_of_ble_eq_true rfl, Nat.le_of_ble_eq_true rfl⟩) (hs.recv hK 0 (by decide) rfl rfl) rfl rfl (Nat.le_of_ble_eq_true rfl) dX11_count_83 (fun H locs hs => ?_)
    exact hQ hs hE dX11_count_86
  have hE := if_f hn4 hE
  by_cases hn5 : p1 = 5
  · have hE := if_t hn5 hE
    refine lv_tableIn (off := 86) (tgt := 87) hx hb dX11_count_1 (by rw [hn5]; decide) (by rw [hn5]; decide) (by rw [hn5]; decide) (by decide) ?_
    refine lv_aload_n hx hb dX11_count_87 rfl (lv_at hl 0 rfl) ?_
    refine lv_aload_n hx hb dX11_count_88 rfl (lv_at hl 0 rfl) ?_
    refine gf_X11_37_0 C hK hs dX11_count_89 ?_
    obtain ⟨σ4, r5, hE1, hE⟩ := cl_e hE
    refine x_civ (As := [.ref (g.2.1 10)]) (rest := []) C hl.1 hK hs hA ⟨Nat.le_refl 0, Nat.le_refl 0⟩ (ctX11_sum l g _ _ _ _ hE1) (cw_X11_253 C ⟨Nat.le_of_ble_eq_true rfl, Nat.le_of_ble_eq_true rfl⟩) (hs.recv hK 0 (by decide) rfl rfl) rfl rfl (Nat.le_of_ble_eq_true rfl) dX11_count_92 (fun H locs hs => ?_)
    exact hQ hs hE dX11_count_95
  have hE := if_f hn5 hE
  by_cases hn6 : p1 = 6
  · have hE := if_t hn6 hE
    refine lv_tableIn (off := 95) (tgt := 96) hx hb dX11_count_1 (by rw [hn6]; decide) (by rw [hn6]; decide) (by rw [hn6]; decide) (by decide) ?_
    refine lv_aload_n hx hb dX11_count_96 rfl (lv_at hl 0 rfl) ?_
    refine gf_X11_7_0 C hK hs dX11_count_97 ?_
    refine lv_bipush (v := 6) hx hb dX11_count_100 (by decide) ?_
    obtain ⟨σ6, r7, hE1, hE⟩ := cl_e hE
    refine x_cis (As := [.ref (g.2.1 1), .int 6]) (rest := []) C hl.1 hK hs hA ⟨Nat.le_refl 0, Nat.le_refl 0⟩ (ctX11_there l g _ _ _ _ _ hE1) (cw_X11_321 C ⟨Nat.le_of_ble_eq_true rfl, Nat.le_of_ble_eq_true rfl⟩) rfl rfl (Nat.le_of_ble_eq_true rfl) dX11_count_102 (fun H locs hs => ?_)
    exact hQ hs hE dX11_count_105
  have hE := if_f hn6 hE
  by_cases hn7 : p1 = 7
  · have hE := if_t hn7 hE
    refine lv_tableIn (off := 105) (tgt := 106) hx hb dX11_count_1 (by rw [hn7]; decide) (by rw [hn7]; decide) (by rw [hn7]; decide) (by decide) ?_
    refine lv_aload_n hx hb dX11_count_106 rfl (lv_at hl 0 rfl) ?_
    refine gf_X11_16_0 C hK hs dX11_count_107 ?_
    refine lv_iconst (v := 4) hx hb dX11_count_110 (by decide) ?_
    obtain ⟨σ8, r9, hE1, hE⟩ := cl_e hE
    refine x_cis (As := [.ref (g.2.1 3), .int 4]) (rest := []) C hl.1 hK hs hA ⟨Nat.le_refl 0, Nat.le_refl 0⟩ (ctX11_there l g _ _ _ _ _ hE1) (cw_X11_321 C ⟨Nat.le_of_ble_eq_true rfl, Nat.le_of_ble_eq_true rfl⟩) rfl rfl (Nat.le_of_ble_eq_true rfl) dX11_count_111 (fun H locs hs => ?_)
    exact hQ hs hE dX11_count_114
  have hE := if_f hn7 hE
  by_cases hn8 : p1 = 8
  · have hE := if_t hn8 hE
    refine lv_tableIn (off := 114) (tgt := 115) hx hb dX11_count_1 (by rw [hn8]; decide) (by rw [hn8]; decide) (by rw [hn8]; decide) (by decide) ?_
    refine lv_aload_n hx hb dX11_count_115 rfl (lv_at hl 0 rfl) ?_
    refine gf_X11_49_0 C hK hs dX11_count_116 ?_
    refine lv_iconst (v := 0) hx hb dX11_count_119 (by decide) ?_
    obtain ⟨hi, hE⟩ := gd_e hE
    refine y_zld C hK hs 14 3 (by decide) rfl hi dX11_count_120 ?_
    refine pvw hE (fun k10 hE hk10 => ?_)
    have hJk10 : ∀ (y11 : Int32) (H : Heap) (locs : List Loc) (ls : Array Slot), HW 25 entM g A H0 H locs σ → lv_has ls 2 [(0, .ref (g.2.1 0))] → k10 y11 = some (σ', r) → W p l e (rmD 2) s m args below meth c H locs 0 0 Q (F0 m 129 ls [.int y11]) := by
      intro y11 H locs ls hs hl hE
      have hE := hk10 _ hE
      refine lv_aload_n hx hb dX11_count_129 rfl (lv_at hl 0 rfl) ?_
      refine gf_X11_49_0 C hK hs dX11_count_130 ?_
      refine lv_iconst (v := 1) hx hb dX11_count_133 (by decide) ?_
      obtain ⟨hi, hE⟩ := gd_e hE
      refine y_zld C hK hs 14 3 (by decide) rfl hi dX11_count_134 ?_
      refine pvw hE (fun k12 hE hk12 => ?_)
      have hJk12 : ∀ (y13 : Int32) (H : Heap) (locs : List Loc) (ls : Array Slot), HW 25 entM g A H0 H locs σ → lv_has ls 2 [(0, .ref (g.2.1 0))] → k12 y13 = some (σ', r) → W p l e (rmD 2) s m args below meth c H locs 0 0 Q (F0 m 143 ls [.int y13, .int y11]) := by
        intro y13 H locs ls hs hl hE
        have hE := hk12 _ hE
        refine lv_iadd hx hb dX11_count_143 ?_
        refine lv_aload_n hx hb dX11_count_144 rfl (lv_at hl 0 rfl) ?_
        refine gf_X11_49_0 C hK hs dX11_count_145 ?_
        refine lv_iconst (v := 2) hx hb dX11_count_148 (by decide) ?_
        obtain ⟨hi, hE⟩ := gd_e hE
        refine y_zld C hK hs 14 3 (by decide) rfl hi dX11_count_149 ?_
        refine pvw hE (fun k14 hE hk14 => ?_)
        have hJk14 : ∀ (y15 : Int32) (H : Heap) (locs : List Loc) (ls : Array Slot), HW 25 entM g A H0 H locs σ → lv_has ls 2 [] → k14 y15 = some (σ', r) → W p l e (rmD 2) s m args below meth c H locs 0 0 Q (F0 m 158 ls [.int y15, .int (y11 + y13)]) := by
          intro y15 H locs ls hs hl hE
          have hE := hk14 _ hE
          refine lv_iadd hx hb dX11_count_158 ?_
          exact hQ hs hE dX11_count_159
        refine lv_if_eq (tgt := 157) hx hb dX11_count_150 (by decide) (fun hc => ?_) (fun hc => ?_)
        · have hE := pv_t hc hE
          refine lv_iconst (v := 0) hx hb dX11_count_157 (by decide) ?_
          exact hJk14 0 _ _ _ hs (lv_sub hl [] rfl) hE
        · have hE := pv_f hc hE
          refine lv_iconst (v := 1) hx hb dX11_count_153 (by decide) ?_
          refine lv_goto (tgt := 158) hx hb dX11_count_154 (by decide) ?_
          exact hJk14 1 _ _ _ hs (lv_sub hl [] rfl) hE
      refine lv_if_eq (tgt := 142) hx hb dX11_count_135 (by decide) (fun hc => ?_) (fun hc => ?_)
      · have hE := pv_t hc hE
        refine lv_iconst (v := 0) hx hb dX11_count_142 (by decide) ?_
        exact hJk12 0 _ _ _ hs (lv_sub hl [0] rfl) hE
      · have hE := pv_f hc hE
        refine lv_iconst (v := 1) hx hb dX11_count_138 (by decide) ?_
        refine lv_goto (tgt := 143) hx hb dX11_count_139 (by decide) ?_
        exact hJk12 1 _ _ _ hs (lv_sub hl [0] rfl) hE
    refine lv_if_eq (tgt := 128) hx hb dX11_count_121 (by decide) (fun hc => ?_) (fun hc => ?_)
    · have hE := pv_t hc hE
      refine lv_iconst (v := 0) hx hb dX11_count_128 (by decide) ?_
      exact hJk10 0 _ _ _ hs (lv_sub hl [0] rfl) hE
    · have hE := pv_f hc hE
      refine lv_iconst (v := 1) hx hb dX11_count_124 (by decide) ?_
      refine lv_goto (tgt := 129) hx hb dX11_count_125 (by decide) ?_
      exact hJk10 1 _ _ _ hs (lv_sub hl [0] rfl) hE
  have hE := if_f hn8 hE
  by_cases hn9 : p1 = 9
  · have hE := if_t hn9 hE
    refine lv_tableIn (off := 159) (tgt := 160) hx hb dX11_count_1 (by rw [hn9]; decide) (by rw [hn9]; decide) (by rw [hn9]; decide) (by decide) ?_
    refine lv_aload_n hx hb dX11_count_160 rfl (lv_at hl 0 rfl) ?_
    refine lv_iconst (v := 1) hx hb dX11_count_161 (by decide) ?_
    refine lv_iconst (v := 4) hx hb dX11_count_162 (by decide) ?_
    obtain ⟨σ16, r17, hE1, hE⟩ := cl_e hE
    refine x_civ (As := [.int 1, .int 4]) (rest := []) C hl.1 hK hs hA ⟨Nat.le_refl 0, Nat.le_refl 0⟩ (ctX11_of l g _ _ _ _ _ hE1) (cw_X11_324 C ⟨Nat.le_of_ble_eq_true rfl, Nat.le_of_ble_eq_true rfl⟩) (hs.recv hK 0 (by decide) rfl rfl) rfl rfl (Nat.le_of_ble_eq_true rfl) dX11_count_163 (fun H locs hs => ?_)
    exact hQ hs hE dX11_count_166
  have hE := if_f hn9 hE
  by_cases hn10 : p1 = 10
  · have hE := if_t hn10 hE
    refine lv_tableIn (off := 166) (tgt := 167) hx hb dX11_count_1 (by rw [hn10]; decide) (by rw [hn10]; decide) (by rw [hn10]; decide) (by decide) ?_
    refine lv_aload_n hx hb dX11_count_167 rfl (lv_at hl 0 rfl) ?_
    refine lv_iconst (v := 2) hx hb dX11_count_168 (by decide) ?_
    refine lv_iconst (v := 5) hx hb dX11_count_169 (by decide) ?_
    obtain ⟨σ18, r19, hE1, hE⟩ := cl_e hE
    refine x_civ (As := [.int 2, .int 5]) (rest := []) C hl.1 hK hs hA ⟨Nat.le_refl 0, Nat.le_refl 0⟩ (ctX11_of l g _ _ _ _ _ hE1) (cw_X11_324 C ⟨Nat.le_of_ble_eq_true rfl, Nat.le_of_ble_eq_true rfl⟩) (hs.recv hK 0 (by decide) rfl rfl) rfl rfl (Nat.le_of_ble_eq_true rfl) dX11_count_170 (fun H locs hs => ?_)
    exact hQ hs hE dX11_count_173
  have hE := if_f hn10 hE
  have hDf : W p l e (rmD 2) s m args below meth c H locs 0 0 Q (F0 m 174 ls []) := by
    refine lv_iconst (v := (-1)) hx hb dX11_count_174 (by decide) ?_
    exact hQ hs hE dX11_count_175
  exact lv_tableOut (tgt := 174) hx hb dX11_count_1 (by have q0 := sw_n 0 hn0 (by decide); have q1 := sw_n 1 hn1 (by decide); have q2 := sw_n 2 hn2 (by decide); have q3 := sw_n 3 hn3 (by decide); have q4 := sw_n 4 hn4 (by decide); have q5 := sw_n 5 hn5 (by decide); have q6 := sw_n 6 hn6 (by decide); have q7 := sw_n 7 hn7 (by decide); have q8 := sw_n 8 hn8 (by decide); have q9 := sw_n 9 hn9 (by decide); have q10 := sw_n 10 hn10 (by decide); omega) (by decide) hDf
theorem dX11_finding_0 : decode cX11_finding 0 = .ok (.aload_n 0, 1) := by decide +kernel
theorem dX11_finding_1 : decode cX11_finding 1 = .ok (.getfield 87, 3) := by decide +kernel
theorem dX11_finding_4 : decode cX11_finding 4 = .ok (.ireturn, 1) := by decide +kernel
def fX11_finding (σ : St) : Option (St × Int32) := some (σ, σ.1 0 20)
set_option maxHeartbeats 4000000 in
set_option maxRecDepth 100000 in
theorem ctX11_finding (l : Launch) (g : GG) (σ : St) (σ' : St) (r : Int32) (hE : fX11_finding σ  = some (σ', r)) : MI 25 entM l g yX11_finding (Cond.code yX11_finding cX11_finding 1 (some .int) :: gtbl) (rmD 1) [.ref (g.2.1 0)] σ σ' r := by
  refine mi_i (own := RX11) (lv := [(0, .ref (g.2.1 0))]) (by decide) rfl (Nat.le_of_ble_eq_true rfl) rfl (fun p e s m below meth c ls args Q A H0 H locs C hK hA hQ hs hl => ?_)
  have hx := C.1
  have hb := C.2.1
  unfold fX11_finding at hE
  refine lv_aload_n hx hb dX11_finding_0 rfl (lv_at hl 0 rfl) ?_
  refine gf_X11_87_0 C hK hs dX11_finding_1 ?_
  exact hQ hs hE dX11_finding_4
theorem dX11_findings_0 : decode cX11_findings 0 = .ok (.iload_n 1, 1) := by decide +kernel
theorem dX11_findings_1 : decode cX11_findings 1 = .ok (.i2l, 1) := by decide +kernel
theorem dX11_findings_2 : decode cX11_findings 2 = .ok (.lconst 1, 1) := by decide +kernel
theorem dX11_findings_3 : decode cX11_findings 3 = .ok (.ldc2_w 94, 3) := by decide +kernel
theorem dX11_findings_6 : decode cX11_findings 6 = .ok (.invokestatic 96, 3) := by decide +kernel
theorem dX11_findings_9 : decode cX11_findings 9 = .ok (.ifCond .eq 12, 3) := by decide +kernel
theorem dX11_findings_12 : decode cX11_findings 12 = .ok (.aload_n 0, 1) := by decide +kernel
theorem dX11_findings_13 : decode cX11_findings 13 = .ok (.getfield 57, 3) := by decide +kernel
theorem dX11_findings_16 : decode cX11_findings 16 = .ok (.iload_n 1, 1) := by decide +kernel
theorem dX11_findings_17 : decode cX11_findings 17 = .ok (.iaload, 1) := by decide +kernel
theorem dX11_findings_18 : decode cX11_findings 18 = .ok (.goto 4, 3) := by decide +kernel
theorem dX11_findings_21 : decode cX11_findings 21 = .ok (.iconst (-1), 1) := by decide +kernel
theorem dX11_findings_22 : decode cX11_findings 22 = .ok (.ireturn, 1) := by decide +kernel
def fX11_findings (σ : St) (p1 : Int32) : Option (St × Int32) := cl (fX11_in σ (p1.toInt64) 1 5) (fun σ1 r2 => (if r2 = 0 then some (σ1, (-1)) else rd LM σ1 15 p1 (fun x3 => some (σ1, x3))))
set_option maxHeartbeats 4000000 in
set_option maxRecDepth 100000 in
theorem ctX11_findings (l : Launch) (g : GG) (σ : St) (p1 : Int32) (σ' : St) (r : Int32) (hE : fX11_findings σ p1 = some (σ', r)) : MI 25 entM l g yX11_findings (Cond.code yX11_findings cX11_findings 2 (some .int) :: gtbl) (rmD 2) [.ref (g.2.1 0), .int p1] σ σ' r := by
  refine mi_i (own := RX11) (lv := [(0, .ref (g.2.1 0)), (1, .int p1)]) (by decide) rfl (Nat.le_of_ble_eq_true rfl) rfl (fun p e s m below meth c ls args Q A H0 H locs C hK hA hQ hs hl => ?_)
  have hx := C.1
  have hb := C.2.1
  unfold fX11_findings at hE
  refine lv_iload_n hx hb dX11_findings_0 rfl (lv_at hl 1 rfl) ?_
  refine lv_i2l (v := p1.toInt64) hx hb dX11_findings_1 rfl ?_
  refine lv_lconst (v := 1) hx hb dX11_findings_2 (by decide) ?_
  refine lv_ldc2 (v := 5) hx hb C.2.2.2.1 (C.2.2.2.2 _ mw_1066) dX11_findings_3 ?_
  obtain ⟨σ1, r2, hE1, hE⟩ := cl_e hE
  refine x_cis (As := [.long (p1.toInt64), .long 1, .long 5]) (rest := []) C hl.1 hK hs hA ⟨Nat.le_refl 0, Nat.le_refl 0⟩ (ctX11_in l g _ _ _ _ _ _ hE1) (cw_X11_96 C ⟨Nat.le_of_ble_eq_true rfl, Nat.le_of_ble_eq_true rfl⟩) rfl rfl (Nat.le_of_ble_eq_true rfl) dX11_findings_6 (fun H locs hs => ?_)
  refine lv_if_eq (tgt := 21) hx hb dX11_findings_9 (by decide) (fun hc => ?_) (fun hc => ?_)
  · have hE := if_t hc hE
    refine lv_iconst (v := (-1)) hx hb dX11_findings_21 (by decide) ?_
    exact hQ hs hE dX11_findings_22
  · have hE := if_f hc hE
    refine lv_aload_n hx hb dX11_findings_12 rfl (lv_at hl 0 rfl) ?_
    refine gf_X11_57_0 C hK hs dX11_findings_13 ?_
    refine lv_iload_n hx hb dX11_findings_16 rfl (lv_at hl 1 rfl) ?_
    obtain ⟨hi, x3, ex3, hE⟩ := rd_w hE
    refine y_ald layM C hK hs hi ex3 dX11_findings_17 ?_
    refine lv_goto (tgt := 22) hx hb dX11_findings_18 (by decide) ?_
    exact hQ hs hE dX11_findings_22
theorem dX11_digest_0 : decode cX11_digest 0 = .ok (.ldc2_w 327, 3) := by decide +kernel
theorem dX11_digest_3 : decode cX11_digest 3 = .ok (.lstore_n 1, 1) := by decide +kernel
theorem dX11_digest_4 : decode cX11_digest 4 = .ok (.iconst 0, 1) := by decide +kernel
theorem dX11_digest_5 : decode cX11_digest 5 = .ok (.istore_n 3, 1) := by decide +kernel
theorem dX11_digest_6 : decode cX11_digest 6 = .ok (.iload_n 3, 1) := by decide +kernel
theorem dX11_digest_7 : decode cX11_digest 7 = .ok (.bipush 11, 2) := by decide +kernel
theorem dX11_digest_9 : decode cX11_digest 9 = .ok (.if_icmp .ge 22, 3) := by decide +kernel
theorem dX11_digest_12 : decode cX11_digest 12 = .ok (.ldc2_w 329, 3) := by decide +kernel
theorem dX11_digest_15 : decode cX11_digest 15 = .ok (.lload_n 1, 1) := by decide +kernel
theorem dX11_digest_16 : decode cX11_digest 16 = .ok (.lmul, 1) := by decide +kernel
theorem dX11_digest_17 : decode cX11_digest 17 = .ok (.aload_n 0, 1) := by decide +kernel
theorem dX11_digest_18 : decode cX11_digest 18 = .ok (.iload_n 3, 1) := by decide +kernel
theorem dX11_digest_19 : decode cX11_digest 19 = .ok (.invokevirtual 331, 3) := by decide +kernel
theorem dX11_digest_22 : decode cX11_digest 22 = .ok (.i2l, 1) := by decide +kernel
theorem dX11_digest_23 : decode cX11_digest 23 = .ok (.ladd, 1) := by decide +kernel
theorem dX11_digest_24 : decode cX11_digest 24 = .ok (.lstore_n 1, 1) := by decide +kernel
theorem dX11_digest_25 : decode cX11_digest 25 = .ok (.iinc 3 1, 3) := by decide +kernel
theorem dX11_digest_28 : decode cX11_digest 28 = .ok (.goto (-22), 3) := by decide +kernel
theorem dX11_digest_31 : decode cX11_digest 31 = .ok (.iconst 0, 1) := by decide +kernel
theorem dX11_digest_32 : decode cX11_digest 32 = .ok (.istore_n 3, 1) := by decide +kernel
theorem dX11_digest_33 : decode cX11_digest 33 = .ok (.iload_n 3, 1) := by decide +kernel
theorem dX11_digest_34 : decode cX11_digest 34 = .ok (.aload_n 0, 1) := by decide +kernel
theorem dX11_digest_35 : decode cX11_digest 35 = .ok (.getfield 163, 3) := by decide +kernel
theorem dX11_digest_38 : decode cX11_digest 38 = .ok (.if_icmp .ge 39, 3) := by decide +kernel
theorem dX11_digest_41 : decode cX11_digest 41 = .ok (.iconst 0, 1) := by decide +kernel
theorem dX11_digest_42 : decode cX11_digest 42 = .ok (.istore 4, 2) := by decide +kernel
theorem dX11_digest_44 : decode cX11_digest 44 = .ok (.iload 4, 2) := by decide +kernel
theorem dX11_digest_46 : decode cX11_digest 46 = .ok (.iconst 4, 1) := by decide +kernel
theorem dX11_digest_47 : decode cX11_digest 47 = .ok (.if_icmp .ge 24, 3) := by decide +kernel
theorem dX11_digest_50 : decode cX11_digest 50 = .ok (.ldc2_w 329, 3) := by decide +kernel
theorem dX11_digest_53 : decode cX11_digest 53 = .ok (.lload_n 1, 1) := by decide +kernel
theorem dX11_digest_54 : decode cX11_digest 54 = .ok (.lmul, 1) := by decide +kernel
theorem dX11_digest_55 : decode cX11_digest 55 = .ok (.aload_n 0, 1) := by decide +kernel
theorem dX11_digest_56 : decode cX11_digest 56 = .ok (.iload_n 3, 1) := by decide +kernel
theorem dX11_digest_57 : decode cX11_digest 57 = .ok (.iload 4, 2) := by decide +kernel
theorem dX11_digest_59 : decode cX11_digest 59 = .ok (.invokevirtual 194, 3) := by decide +kernel
theorem dX11_digest_62 : decode cX11_digest 62 = .ok (.i2l, 1) := by decide +kernel
theorem dX11_digest_63 : decode cX11_digest 63 = .ok (.ladd, 1) := by decide +kernel
theorem dX11_digest_64 : decode cX11_digest 64 = .ok (.lstore_n 1, 1) := by decide +kernel
theorem dX11_digest_65 : decode cX11_digest 65 = .ok (.iinc 4 1, 3) := by decide +kernel
theorem dX11_digest_68 : decode cX11_digest 68 = .ok (.goto (-24), 3) := by decide +kernel
theorem dX11_digest_71 : decode cX11_digest 71 = .ok (.iinc 3 1, 3) := by decide +kernel
theorem dX11_digest_74 : decode cX11_digest 74 = .ok (.goto (-41), 3) := by decide +kernel
theorem dX11_digest_77 : decode cX11_digest 77 = .ok (.iconst 0, 1) := by decide +kernel
theorem dX11_digest_78 : decode cX11_digest 78 = .ok (.istore_n 3, 1) := by decide +kernel
theorem dX11_digest_79 : decode cX11_digest 79 = .ok (.iload_n 3, 1) := by decide +kernel
theorem dX11_digest_80 : decode cX11_digest 80 = .ok (.aload_n 0, 1) := by decide +kernel
theorem dX11_digest_81 : decode cX11_digest 81 = .ok (.getfield 160, 3) := by decide +kernel
theorem dX11_digest_84 : decode cX11_digest 84 = .ok (.if_icmp .ge 80, 3) := by decide +kernel
theorem dX11_digest_87 : decode cX11_digest 87 = .ok (.iconst 0, 1) := by decide +kernel
theorem dX11_digest_88 : decode cX11_digest 88 = .ok (.istore 4, 2) := by decide +kernel
theorem dX11_digest_90 : decode cX11_digest 90 = .ok (.iload 4, 2) := by decide +kernel
theorem dX11_digest_92 : decode cX11_digest 92 = .ok (.iconst 4, 1) := by decide +kernel
theorem dX11_digest_93 : decode cX11_digest 93 = .ok (.if_icmp .ge 24, 3) := by decide +kernel
theorem dX11_digest_96 : decode cX11_digest 96 = .ok (.ldc2_w 329, 3) := by decide +kernel
theorem dX11_digest_99 : decode cX11_digest 99 = .ok (.lload_n 1, 1) := by decide +kernel
theorem dX11_digest_100 : decode cX11_digest 100 = .ok (.lmul, 1) := by decide +kernel
theorem dX11_digest_101 : decode cX11_digest 101 = .ok (.aload_n 0, 1) := by decide +kernel
theorem dX11_digest_102 : decode cX11_digest 102 = .ok (.iload_n 3, 1) := by decide +kernel
theorem dX11_digest_103 : decode cX11_digest 103 = .ok (.iload 4, 2) := by decide +kernel
theorem dX11_digest_105 : decode cX11_digest 105 = .ok (.invokevirtual 204, 3) := by decide +kernel
theorem dX11_digest_108 : decode cX11_digest 108 = .ok (.i2l, 1) := by decide +kernel
theorem dX11_digest_109 : decode cX11_digest 109 = .ok (.ladd, 1) := by decide +kernel
theorem dX11_digest_110 : decode cX11_digest 110 = .ok (.lstore_n 1, 1) := by decide +kernel
theorem dX11_digest_111 : decode cX11_digest 111 = .ok (.iinc 4 1, 3) := by decide +kernel
theorem dX11_digest_114 : decode cX11_digest 114 = .ok (.goto (-24), 3) := by decide +kernel
theorem dX11_digest_117 : decode cX11_digest 117 = .ok (.iconst 0, 1) := by decide +kernel
theorem dX11_digest_118 : decode cX11_digest 118 = .ok (.istore 4, 2) := by decide +kernel
theorem dX11_digest_120 : decode cX11_digest 120 = .ok (.iload 4, 2) := by decide +kernel
theorem dX11_digest_122 : decode cX11_digest 122 = .ok (.aload_n 0, 1) := by decide +kernel
theorem dX11_digest_123 : decode cX11_digest 123 = .ok (.getfield 163, 3) := by decide +kernel
theorem dX11_digest_126 : decode cX11_digest 126 = .ok (.if_icmp .ge 32, 3) := by decide +kernel
theorem dX11_digest_129 : decode cX11_digest 129 = .ok (.ldc2_w 329, 3) := by decide +kernel
theorem dX11_digest_132 : decode cX11_digest 132 = .ok (.lload_n 1, 1) := by decide +kernel
theorem dX11_digest_133 : decode cX11_digest 133 = .ok (.lmul, 1) := by decide +kernel
theorem dX11_digest_134 : decode cX11_digest 134 = .ok (.aload_n 0, 1) := by decide +kernel
theorem dX11_digest_135 : decode cX11_digest 135 = .ok (.getfield 37, 3) := by decide +kernel
theorem dX11_digest_138 : decode cX11_digest 138 = .ok (.bipush 7, 2) := by decide +kernel
theorem dX11_digest_140 : decode cX11_digest 140 = .ok (.bipush 8, 2) := by decide +kernel
theorem dX11_digest_142 : decode cX11_digest 142 = .ok (.iload_n 3, 1) := by decide +kernel
theorem dX11_digest_143 : decode cX11_digest 143 = .ok (.imul, 1) := by decide +kernel
theorem dX11_digest_144 : decode cX11_digest 144 = .ok (.iadd, 1) := by decide +kernel
theorem dX11_digest_145 : decode cX11_digest 145 = .ok (.iload 4, 2) := by decide +kernel
theorem dX11_digest_147 : decode cX11_digest 147 = .ok (.iadd, 1) := by decide +kernel
theorem dX11_digest_148 : decode cX11_digest 148 = .ok (.iaload, 1) := by decide +kernel
theorem dX11_digest_149 : decode cX11_digest 149 = .ok (.i2l, 1) := by decide +kernel
theorem dX11_digest_150 : decode cX11_digest 150 = .ok (.ladd, 1) := by decide +kernel
theorem dX11_digest_151 : decode cX11_digest 151 = .ok (.lstore_n 1, 1) := by decide +kernel
theorem dX11_digest_152 : decode cX11_digest 152 = .ok (.iinc 4 1, 3) := by decide +kernel
theorem dX11_digest_155 : decode cX11_digest 155 = .ok (.goto (-35), 3) := by decide +kernel
theorem dX11_digest_158 : decode cX11_digest 158 = .ok (.iinc 3 1, 3) := by decide +kernel
theorem dX11_digest_161 : decode cX11_digest 161 = .ok (.goto (-82), 3) := by decide +kernel
theorem dX11_digest_164 : decode cX11_digest 164 = .ok (.iconst 0, 1) := by decide +kernel
theorem dX11_digest_165 : decode cX11_digest 165 = .ok (.istore_n 3, 1) := by decide +kernel
theorem dX11_digest_166 : decode cX11_digest 166 = .ok (.iload_n 3, 1) := by decide +kernel
theorem dX11_digest_167 : decode cX11_digest 167 = .ok (.iconst 3, 1) := by decide +kernel
theorem dX11_digest_168 : decode cX11_digest 168 = .ok (.if_icmp .ge 43, 3) := by decide +kernel
theorem dX11_digest_171 : decode cX11_digest 171 = .ok (.ldc2_w 329, 3) := by decide +kernel
theorem dX11_digest_174 : decode cX11_digest 174 = .ok (.lload_n 1, 1) := by decide +kernel
theorem dX11_digest_175 : decode cX11_digest 175 = .ok (.lmul, 1) := by decide +kernel
theorem dX11_digest_176 : decode cX11_digest 176 = .ok (.aload_n 0, 1) := by decide +kernel
theorem dX11_digest_177 : decode cX11_digest 177 = .ok (.getfield 49, 3) := by decide +kernel
theorem dX11_digest_180 : decode cX11_digest 180 = .ok (.iload_n 3, 1) := by decide +kernel
theorem dX11_digest_181 : decode cX11_digest 181 = .ok (.baload, 1) := by decide +kernel
theorem dX11_digest_182 : decode cX11_digest 182 = .ok (.ifCond .eq 19, 3) := by decide +kernel
theorem dX11_digest_185 : decode cX11_digest 185 = .ok (.aload_n 0, 1) := by decide +kernel
theorem dX11_digest_186 : decode cX11_digest 186 = .ok (.getfield 46, 3) := by decide +kernel
theorem dX11_digest_189 : decode cX11_digest 189 = .ok (.sipush 2256, 3) := by decide +kernel
theorem dX11_digest_192 : decode cX11_digest 192 = .ok (.iload_n 3, 1) := by decide +kernel
theorem dX11_digest_193 : decode cX11_digest 193 = .ok (.imul, 1) := by decide +kernel
theorem dX11_digest_194 : decode cX11_digest 194 = .ok (.bipush 55, 2) := by decide +kernel
theorem dX11_digest_196 : decode cX11_digest 196 = .ok (.iadd, 1) := by decide +kernel
theorem dX11_digest_197 : decode cX11_digest 197 = .ok (.iaload, 1) := by decide +kernel
theorem dX11_digest_198 : decode cX11_digest 198 = .ok (.goto 4, 3) := by decide +kernel
theorem dX11_digest_201 : decode cX11_digest 201 = .ok (.iconst (-1), 1) := by decide +kernel
theorem dX11_digest_202 : decode cX11_digest 202 = .ok (.i2l, 1) := by decide +kernel
theorem dX11_digest_203 : decode cX11_digest 203 = .ok (.ladd, 1) := by decide +kernel
theorem dX11_digest_204 : decode cX11_digest 204 = .ok (.lstore_n 1, 1) := by decide +kernel
theorem dX11_digest_205 : decode cX11_digest 205 = .ok (.iinc 3 1, 3) := by decide +kernel
theorem dX11_digest_208 : decode cX11_digest 208 = .ok (.goto (-42), 3) := by decide +kernel
theorem dX11_digest_211 : decode cX11_digest 211 = .ok (.iconst 0, 1) := by decide +kernel
theorem dX11_digest_212 : decode cX11_digest 212 = .ok (.istore_n 3, 1) := by decide +kernel
theorem dX11_digest_213 : decode cX11_digest 213 = .ok (.iload_n 3, 1) := by decide +kernel
theorem dX11_digest_214 : decode cX11_digest 214 = .ok (.bipush 6, 2) := by decide +kernel
theorem dX11_digest_216 : decode cX11_digest 216 = .ok (.if_icmp .ge 63, 3) := by decide +kernel
theorem dX11_digest_219 : decode cX11_digest 219 = .ok (.ldc2_w 329, 3) := by decide +kernel
theorem dX11_digest_222 : decode cX11_digest 222 = .ok (.lload_n 1, 1) := by decide +kernel
theorem dX11_digest_223 : decode cX11_digest 223 = .ok (.lmul, 1) := by decide +kernel
theorem dX11_digest_224 : decode cX11_digest 224 = .ok (.aload_n 0, 1) := by decide +kernel
theorem dX11_digest_225 : decode cX11_digest 225 = .ok (.getfield 7, 3) := by decide +kernel
theorem dX11_digest_228 : decode cX11_digest 228 = .ok (.iload_n 3, 1) := by decide +kernel
theorem dX11_digest_229 : decode cX11_digest 229 = .ok (.iaload, 1) := by decide +kernel
theorem dX11_digest_230 : decode cX11_digest 230 = .ok (.i2l, 1) := by decide +kernel
theorem dX11_digest_231 : decode cX11_digest 231 = .ok (.ladd, 1) := by decide +kernel
theorem dX11_digest_232 : decode cX11_digest 232 = .ok (.lstore_n 1, 1) := by decide +kernel
theorem dX11_digest_233 : decode cX11_digest 233 = .ok (.iconst 0, 1) := by decide +kernel
theorem dX11_digest_234 : decode cX11_digest 234 = .ok (.istore 4, 2) := by decide +kernel
theorem dX11_digest_236 : decode cX11_digest 236 = .ok (.iload 4, 2) := by decide +kernel
theorem dX11_digest_238 : decode cX11_digest 238 = .ok (.aload_n 0, 1) := by decide +kernel
theorem dX11_digest_239 : decode cX11_digest 239 = .ok (.getfield 7, 3) := by decide +kernel
theorem dX11_digest_242 : decode cX11_digest 242 = .ok (.iload_n 3, 1) := by decide +kernel
theorem dX11_digest_243 : decode cX11_digest 243 = .ok (.iaload, 1) := by decide +kernel
theorem dX11_digest_244 : decode cX11_digest 244 = .ok (.if_icmp .ge 29, 3) := by decide +kernel
theorem dX11_digest_247 : decode cX11_digest 247 = .ok (.ldc2_w 329, 3) := by decide +kernel
theorem dX11_digest_250 : decode cX11_digest 250 = .ok (.lload_n 1, 1) := by decide +kernel
theorem dX11_digest_251 : decode cX11_digest 251 = .ok (.lmul, 1) := by decide +kernel
theorem dX11_digest_252 : decode cX11_digest 252 = .ok (.aload_n 0, 1) := by decide +kernel
theorem dX11_digest_253 : decode cX11_digest 253 = .ok (.getfield 13, 3) := by decide +kernel
theorem dX11_digest_256 : decode cX11_digest 256 = .ok (.bipush 40, 2) := by decide +kernel
theorem dX11_digest_258 : decode cX11_digest 258 = .ok (.iload_n 3, 1) := by decide +kernel
theorem dX11_digest_259 : decode cX11_digest 259 = .ok (.imul, 1) := by decide +kernel
theorem dX11_digest_260 : decode cX11_digest 260 = .ok (.iload 4, 2) := by decide +kernel
theorem dX11_digest_262 : decode cX11_digest 262 = .ok (.iadd, 1) := by decide +kernel
theorem dX11_digest_263 : decode cX11_digest 263 = .ok (.iaload, 1) := by decide +kernel
theorem dX11_digest_264 : decode cX11_digest 264 = .ok (.i2l, 1) := by decide +kernel
theorem dX11_digest_265 : decode cX11_digest 265 = .ok (.ladd, 1) := by decide +kernel
theorem dX11_digest_266 : decode cX11_digest 266 = .ok (.lstore_n 1, 1) := by decide +kernel
theorem dX11_digest_267 : decode cX11_digest 267 = .ok (.iinc 4 1, 3) := by decide +kernel
theorem dX11_digest_270 : decode cX11_digest 270 = .ok (.goto (-34), 3) := by decide +kernel
theorem dX11_digest_273 : decode cX11_digest 273 = .ok (.iinc 3 1, 3) := by decide +kernel
theorem dX11_digest_276 : decode cX11_digest 276 = .ok (.goto (-63), 3) := by decide +kernel
theorem dX11_digest_279 : decode cX11_digest 279 = .ok (.iconst 0, 1) := by decide +kernel
theorem dX11_digest_280 : decode cX11_digest 280 = .ok (.istore_n 3, 1) := by decide +kernel
theorem dX11_digest_281 : decode cX11_digest 281 = .ok (.iload_n 3, 1) := by decide +kernel
theorem dX11_digest_282 : decode cX11_digest 282 = .ok (.iconst 4, 1) := by decide +kernel
theorem dX11_digest_283 : decode cX11_digest 283 = .ok (.if_icmp .ge 63, 3) := by decide +kernel
theorem dX11_digest_286 : decode cX11_digest 286 = .ok (.ldc2_w 329, 3) := by decide +kernel
theorem dX11_digest_289 : decode cX11_digest 289 = .ok (.lload_n 1, 1) := by decide +kernel
theorem dX11_digest_290 : decode cX11_digest 290 = .ok (.lmul, 1) := by decide +kernel
theorem dX11_digest_291 : decode cX11_digest 291 = .ok (.aload_n 0, 1) := by decide +kernel
theorem dX11_digest_292 : decode cX11_digest 292 = .ok (.getfield 16, 3) := by decide +kernel
theorem dX11_digest_295 : decode cX11_digest 295 = .ok (.iload_n 3, 1) := by decide +kernel
theorem dX11_digest_296 : decode cX11_digest 296 = .ok (.iaload, 1) := by decide +kernel
theorem dX11_digest_297 : decode cX11_digest 297 = .ok (.i2l, 1) := by decide +kernel
theorem dX11_digest_298 : decode cX11_digest 298 = .ok (.ladd, 1) := by decide +kernel
theorem dX11_digest_299 : decode cX11_digest 299 = .ok (.lstore_n 1, 1) := by decide +kernel
theorem dX11_digest_300 : decode cX11_digest 300 = .ok (.iconst 0, 1) := by decide +kernel
theorem dX11_digest_301 : decode cX11_digest 301 = .ok (.istore 4, 2) := by decide +kernel
theorem dX11_digest_303 : decode cX11_digest 303 = .ok (.iload 4, 2) := by decide +kernel
theorem dX11_digest_305 : decode cX11_digest 305 = .ok (.aload_n 0, 1) := by decide +kernel
theorem dX11_digest_306 : decode cX11_digest 306 = .ok (.getfield 16, 3) := by decide +kernel
theorem dX11_digest_309 : decode cX11_digest 309 = .ok (.iload_n 3, 1) := by decide +kernel
theorem dX11_digest_310 : decode cX11_digest 310 = .ok (.iaload, 1) := by decide +kernel
theorem dX11_digest_311 : decode cX11_digest 311 = .ok (.if_icmp .ge 29, 3) := by decide +kernel
theorem dX11_digest_314 : decode cX11_digest 314 = .ok (.ldc2_w 329, 3) := by decide +kernel
theorem dX11_digest_317 : decode cX11_digest 317 = .ok (.lload_n 1, 1) := by decide +kernel
theorem dX11_digest_318 : decode cX11_digest 318 = .ok (.lmul, 1) := by decide +kernel
theorem dX11_digest_319 : decode cX11_digest 319 = .ok (.aload_n 0, 1) := by decide +kernel
theorem dX11_digest_320 : decode cX11_digest 320 = .ok (.getfield 19, 3) := by decide +kernel
theorem dX11_digest_323 : decode cX11_digest 323 = .ok (.bipush 90, 2) := by decide +kernel
theorem dX11_digest_325 : decode cX11_digest 325 = .ok (.iload_n 3, 1) := by decide +kernel
theorem dX11_digest_326 : decode cX11_digest 326 = .ok (.imul, 1) := by decide +kernel
theorem dX11_digest_327 : decode cX11_digest 327 = .ok (.iload 4, 2) := by decide +kernel
theorem dX11_digest_329 : decode cX11_digest 329 = .ok (.iadd, 1) := by decide +kernel
theorem dX11_digest_330 : decode cX11_digest 330 = .ok (.iaload, 1) := by decide +kernel
theorem dX11_digest_331 : decode cX11_digest 331 = .ok (.i2l, 1) := by decide +kernel
theorem dX11_digest_332 : decode cX11_digest 332 = .ok (.ladd, 1) := by decide +kernel
theorem dX11_digest_333 : decode cX11_digest 333 = .ok (.lstore_n 1, 1) := by decide +kernel
theorem dX11_digest_334 : decode cX11_digest 334 = .ok (.iinc 4 1, 3) := by decide +kernel
theorem dX11_digest_337 : decode cX11_digest 337 = .ok (.goto (-34), 3) := by decide +kernel
theorem dX11_digest_340 : decode cX11_digest 340 = .ok (.iinc 3 1, 3) := by decide +kernel
theorem dX11_digest_343 : decode cX11_digest 343 = .ok (.goto (-62), 3) := by decide +kernel
theorem dX11_digest_346 : decode cX11_digest 346 = .ok (.lload_n 1, 1) := by decide +kernel
theorem dX11_digest_347 : decode cX11_digest 347 = .ok (.lreturn, 1) := by decide +kernel
def fX11_digest_L6 : Nat → St → Int64 → Int32 → (St → Int64 → Int32 → Option (St × Int64)) → Option (St × Int64)
  | 0, _, _, _, _ => none
  | n + 1, σ1, v2, v3, k => (if 11 ≤ v3 then k σ1 v2 v3 else cl (fX11_count σ1 v3) (fun σ4 r5 => fX11_digest_L6 n σ4 ((31 * v2) + (r5.toInt64)) (v3 + 1) k))
def fX11_digest_L44 (v11 : Int32) : Nat → St → Int64 → Int32 → (St → Int64 → Int32 → Option (St × Int64)) → Option (St × Int64)
  | 0, _, _, _, _ => none
  | n + 1, σ12, v13, v14, k => (if 4 ≤ v14 then k σ12 v13 v14 else cl (fX11_colourTold σ12 v11 v14) (fun σ15 r16 => fX11_digest_L44 v11 n σ15 ((31 * v13) + (r16.toInt64)) (v14 + 1) k))
def fX11_digest_L90 (v25 : Int32) : Nat → St → Int64 → Int32 → (St → Int64 → Int32 → Option (St × Int64)) → Option (St × Int64)
  | 0, _, _, _, _ => none
  | n + 1, σ26, v27, v28, k => (if 4 ≤ v28 then k σ26 v27 v28 else cl (fX11_houseTold σ26 v25 v28) (fun σ29 r30 => fX11_digest_L90 v25 n σ29 ((31 * v27) + (r30.toInt64)) (v28 + 1) k))
def fX11_digest_L120 (v25 : Int32) : Nat → St → Int64 → Int32 → (St → Int64 → Int32 → Option (St × Int64)) → Option (St × Int64)
  | 0, _, _, _, _ => none
  | n + 1, σ34, v35, v36, k => (if (σ34.1 0 7) ≤ v36 then k σ34 v35 v36 else rd LM σ34 10 ((7 + (8 * v25)) + v36) (fun x37 => fX11_digest_L120 v25 n σ34 ((31 * v35) + (x37.toInt64)) (v36 + 1) k))
def fX11_digest_L236 (v55 : Int32) : Nat → St → Int64 → Int32 → (St → Int64 → Int32 → Option (St × Int64)) → Option (St × Int64)
  | 0, _, _, _, _ => none
  | n + 1, σ57, v58, v59, k => rd LM σ57 1 v55 (fun x60 => (if x60 ≤ v59 then k σ57 v58 v59 else rd LM σ57 2 ((40 * v55) + v59) (fun x61 => fX11_digest_L236 v55 n σ57 ((31 * v58) + (x61.toInt64)) (v59 + 1) k)))
def fX11_digest_L303 (v70 : Int32) : Nat → St → Int64 → Int32 → (St → Int64 → Int32 → Option (St × Int64)) → Option (St × Int64)
  | 0, _, _, _, _ => none
  | n + 1, σ72, v73, v74, k => rd LM σ72 3 v70 (fun x75 => (if x75 ≤ v74 then k σ72 v73 v74 else rd LM σ72 4 ((90 * v70) + v74) (fun x76 => fX11_digest_L303 v70 n σ72 ((31 * v73) + (x76.toInt64)) (v74 + 1) k)))
def fX11_digest_L33 : Nat → St → Int64 → Int32 → (St → Int64 → Int32 → Option (St × Int64)) → Option (St × Int64)
  | 0, _, _, _, _ => none
  | n + 1, σ9, v10, v11, k => (if (σ9.1 0 7) ≤ v11 then k σ9 v10 v11 else fX11_digest_L44 v11 10000 σ9 v10 0 (fun σ17 v18 v19 => fX11_digest_L33 n σ17 v18 (v11 + 1) k))
def fX11_digest_L166 : Nat → St → Int64 → Int32 → (St → Int64 → Int32 → Option (St × Int64)) → Option (St × Int64)
  | 0, _, _, _, _ => none
  | n + 1, σ44, v45, v46, k => (if 3 ≤ v46 then k σ44 v45 v46 else gd (inb v46 3) (jn (fun (y48 : Int32) => fX11_digest_L166 n σ44 ((31 * v45) + (y48.toInt64)) (v46 + 1) k) (fun k47 => (if (σ44.1 14 v46.toNatClampNeg) = 0 then k47 (-1) else rd LM σ44 13 ((2256 * v46) + 55) (fun x49 => k47 x49)))))
def fX11_digest_L213 : Nat → St → Int64 → Int32 → (St → Int64 → Int32 → Option (St × Int64)) → Option (St × Int64)
  | 0, _, _, _, _ => none
  | n + 1, σ53, v54, v55, k => (if 6 ≤ v55 then k σ53 v54 v55 else rd LM σ53 1 v55 (fun x56 => fX11_digest_L236 v55 10000 σ53 ((31 * v54) + (x56.toInt64)) 0 (fun σ62 v63 v64 => fX11_digest_L213 n σ62 v63 (v55 + 1) k)))
def fX11_digest_L281 : Nat → St → Int64 → Int32 → (St → Int64 → Int32 → Option (St × Int64)) → Option (St × Int64)
  | 0, _, _, _, _ => none
  | n + 1, σ68, v69, v70, k => (if 4 ≤ v70 then k σ68 v69 v70 else rd LM σ68 3 v70 (fun x71 => fX11_digest_L303 v70 10000 σ68 ((31 * v69) + (x71.toInt64)) 0 (fun σ77 v78 v79 => fX11_digest_L281 n σ77 v78 (v70 + 1) k)))
def fX11_digest_L79 : Nat → St → Int64 → Int32 → (St → Int64 → Int32 → Option (St × Int64)) → Option (St × Int64)
  | 0, _, _, _, _ => none
  | n + 1, σ23, v24, v25, k => (if (σ23.1 0 4) ≤ v25 then k σ23 v24 v25 else fX11_digest_L90 v25 10000 σ23 v24 0 (fun σ31 v32 v33 => fX11_digest_L120 v25 10000 σ31 v32 0 (fun σ38 v39 v40 => fX11_digest_L79 n σ38 v39 (v25 + 1) k)))
def fX11_digest (σ : St) : Option (St × Int64) := fX11_digest_L6 10000 σ 17 0 (fun σ6 v7 v8 => fX11_digest_L33 10000 σ6 v7 0 (fun σ20 v21 v22 => fX11_digest_L79 10000 σ20 v21 0 (fun σ41 v42 v43 => fX11_digest_L166 10000 σ41 v42 0 (fun σ50 v51 v52 => fX11_digest_L213 10000 σ50 v51 0 (fun σ65 v66 v67 => fX11_digest_L281 10000 σ65 v66 0 (fun σ80 v81 v82 => some (σ80, v81)))))))
set_option maxHeartbeats 4000000 in
set_option maxRecDepth 100000 in
theorem ctX11_digest (l : Launch) (g : GG) (σ : St) (σ' : St) (r : Int64) (hE : fX11_digest σ  = some (σ', r)) : ML 25 entM l g yX11_digest (Cond.code yX11_digest cX11_digest 5 (some .long) :: gtbl) (rmD 4) [.ref (g.2.1 0)] σ σ' r := by
  refine mi_l (own := RX11) (lv := [(0, .ref (g.2.1 0))]) (by decide) rfl (Nat.le_of_ble_eq_true rfl) rfl (fun p e s m below meth c ls args Q A H0 H locs C hK hA hQ hs hl => ?_)
  have hx := C.1
  have hb := C.2.1
  unfold fX11_digest at hE
  refine lv_ldc2 (v := 17) hx hb C.2.2.2.1 (C.2.2.2.2 _ mw_1451) dX11_digest_0 ?_
  refine lv_lstore_n (lv' := [(1, .long 17), (0, .ref (g.2.1 0))]) hx hb dX11_digest_3 rfl hl (by decide) rfl (fun ls hl => ?_)
  refine lv_iconst (v := 0) hx hb dX11_digest_4 (by decide) ?_
  refine lv_istore_n (lv' := [(3, .int 0), (1, .long 17), (0, .ref (g.2.1 0))]) hx hb dX11_digest_5 rfl hl (by decide) rfl (fun ls hl => ?_)
  have hL6 : ∀ (n : Nat) (σ1 : St) (v2 : Int64) (v3 : Int32) (k : St → Int64 → Int32 → Option (St × Int64)), fX11_digest_L6 n σ1 v2 v3 k = some (σ', r) → (∀ (σ1 : St) (v2 : Int64) (v3 : Int32) (H : Heap) (locs : List Loc) (ls : Array Slot), HW 25 entM g A H0 H locs σ1 → lv_has ls 5 [(0, .ref (g.2.1 0)), (1, .long v2), (3, .int v3)] → k σ1 v2 v3 = some (σ', r) → W p l e (rmD 4) s m args below meth c H locs 0 0 Q (F0 m 31 ls [])) → ∀ (H : Heap) (locs : List Loc) (ls : Array Slot), HW 25 entM g A H0 H locs σ1 → lv_has ls 5 [(0, .ref (g.2.1 0)), (1, .long v2), (3, .int v3)] → W p l e (rmD 4) s m args below meth c H locs 0 0 Q (F0 m 6 ls []) := by
    intro n
    induction n with
    | zero =>
      intro σ1 v2 v3 k hE
      rw [fX11_digest_L6] at hE
      exact no_e hE
    | succ n ih =>
      intro σ1 v2 v3 k hE hk H locs ls hs hl
      rw [fX11_digest_L6] at hE
      refine lv_iload_n hx hb dX11_digest_6 rfl (lv_at hl 2 rfl) ?_
      refine lv_bipush (v := 11) hx hb dX11_digest_7 (by decide) ?_
      refine lv_icmp_ge (tgt := 31) hx hb dX11_digest_9 (by decide) (fun hc => ?_) (fun hc => ?_)
      · have hE := if_t hc hE
        exact hk σ1 v2 v3 _ _ _ hs (lv_sub hl [0, 1, 2] rfl) hE
      · have hE := if_f hc hE
        refine lv_ldc2 (v := 31) hx hb C.2.2.2.1 (C.2.2.2.2 _ mw_1452) dX11_digest_12 ?_
        refine lv_lload_n hx hb dX11_digest_15 rfl (lv_at hl 1 rfl) ?_
        refine lv_lmul hx hb dX11_digest_16 ?_
        refine lv_aload_n hx hb dX11_digest_17 rfl (lv_at hl 0 rfl) ?_
        refine lv_iload_n hx hb dX11_digest_18 rfl (lv_at hl 2 rfl) ?_
        obtain ⟨σ4, r5, hE1, hE⟩ := cl_e hE
        refine x_civ (As := [.int v3]) (rest := [.long (31 * v2)]) C hl.1 hK hs hA ⟨Nat.le_refl 0, Nat.le_refl 0⟩ (ctX11_count l g _ _ _ _ hE1) (cw_X11_331 C ⟨Nat.le_of_ble_eq_true rfl, Nat.le_of_ble_eq_true rfl⟩) (hs.recv hK 0 (by decide) rfl rfl) rfl rfl (Nat.le_of_ble_eq_true rfl) dX11_digest_19 (fun H locs hs => ?_)
        refine lv_i2l (v := r5.toInt64) hx hb dX11_digest_22 rfl ?_
        refine lv_ladd hx hb dX11_digest_23 ?_
        refine lv_lstore_n (lv' := [(1, .long ((31 * v2) + (r5.toInt64))), (0, .ref (g.2.1 0)), (3, .int v3)]) hx hb dX11_digest_24 rfl hl (by decide) rfl (fun ls hl => ?_)
        refine lv_iinc (v := v3 + 1) (lv' := [(3, .int (v3 + 1)), (1, .long ((31 * v2) + (r5.toInt64))), (0, .ref (g.2.1 0))]) hx hb dX11_digest_25 hl (k := 2) rfl rfl (by decide) rfl (fun ls hl => ?_)
        refine lv_goto (tgt := 6) hx hb dX11_digest_28 (by decide) ?_
        exact ih _ _ _ _ hE hk _ _ _ hs (lv_sub hl [2, 1, 0] rfl)
  refine hL6 _ _ _ _ _ hE (fun σ6 v7 v8 H locs ls hs hl hE => ?_) H locs ls hs (lv_sub hl [2, 1, 0] rfl)
  refine lv_iconst (v := 0) hx hb dX11_digest_31 (by decide) ?_
  refine lv_istore_n (lv' := [(3, .int 0), (0, .ref (g.2.1 0)), (1, .long v7)]) hx hb dX11_digest_32 rfl hl (by decide) rfl (fun ls hl => ?_)
  have hL33 : ∀ (n : Nat) (σ9 : St) (v10 : Int64) (v11 : Int32) (k : St → Int64 → Int32 → Option (St × Int64)), fX11_digest_L33 n σ9 v10 v11 k = some (σ', r) → (∀ (σ9 : St) (v10 : Int64) (v11 : Int32) (H : Heap) (locs : List Loc) (ls : Array Slot), HW 25 entM g A H0 H locs σ9 → lv_has ls 5 [(0, .ref (g.2.1 0)), (1, .long v10), (3, .int v11)] → k σ9 v10 v11 = some (σ', r) → W p l e (rmD 4) s m args below meth c H locs 0 0 Q (F0 m 77 ls [])) → ∀ (H : Heap) (locs : List Loc) (ls : Array Slot), HW 25 entM g A H0 H locs σ9 → lv_has ls 5 [(0, .ref (g.2.1 0)), (1, .long v10), (3, .int v11)] → W p l e (rmD 4) s m args below meth c H locs 0 0 Q (F0 m 33 ls []) := by
    intro n
    induction n with
    | zero =>
      intro σ9 v10 v11 k hE
      rw [fX11_digest_L33] at hE
      exact no_e hE
    | succ n ih =>
      intro σ9 v10 v11 k hE hk H locs ls hs hl
      rw [fX11_digest_L33] at hE
      refine lv_iload_n hx hb dX11_digest_33 rfl (lv_at hl 2 rfl) ?_
      refine lv_aload_n hx hb dX11_digest_34 rfl (lv_at hl 0 rfl) ?_
      refine gf_X11_163_0 C hK hs dX11_digest_35 ?_
      refine lv_icmp_ge (tgt := 77) hx hb dX11_digest_38 (by decide) (fun hc => ?_) (fun hc => ?_)
      · have hE := if_t hc hE
        exact hk σ9 v10 v11 _ _ _ hs (lv_sub hl [0, 1, 2] rfl) hE
      · have hE := if_f hc hE
        refine lv_iconst (v := 0) hx hb dX11_digest_41 (by decide) ?_
        refine lv_istore (lv' := [(4, .int 0), (0, .ref (g.2.1 0)), (1, .long v10), (3, .int v11)]) hx hb dX11_digest_42 hl (by decide) rfl (fun ls hl => ?_)
        have hL44 : ∀ (n : Nat) (σ12 : St) (v13 : Int64) (v14 : Int32) (k : St → Int64 → Int32 → Option (St × Int64)), fX11_digest_L44 v11 n σ12 v13 v14 k = some (σ', r) → (∀ (σ12 : St) (v13 : Int64) (v14 : Int32) (H : Heap) (locs : List Loc) (ls : Array Slot), HW 25 entM g A H0 H locs σ12 → lv_has ls 5 [(0, .ref (g.2.1 0)), (1, .long v13), (3, .int v11), (4, .int v14)] → k σ12 v13 v14 = some (σ', r) → W p l e (rmD 4) s m args below meth c H locs 0 0 Q (F0 m 71 ls [])) → ∀ (H : Heap) (locs : List Loc) (ls : Array Slot), HW 25 entM g A H0 H locs σ12 → lv_has ls 5 [(0, .ref (g.2.1 0)), (1, .long v13), (3, .int v11), (4, .int v14)] → W p l e (rmD 4) s m args below meth c H locs 0 0 Q (F0 m 44 ls []) := by
          intro n
          induction n with
          | zero =>
            intro σ12 v13 v14 k hE
            rw [fX11_digest_L44] at hE
            exact no_e hE
          | succ n ih =>
            intro σ12 v13 v14 k hE hk H locs ls hs hl
            rw [fX11_digest_L44] at hE
            refine lv_iload hx hb dX11_digest_44 (lv_at hl 3 rfl) ?_
            refine lv_iconst (v := 4) hx hb dX11_digest_46 (by decide) ?_
            refine lv_icmp_ge (tgt := 71) hx hb dX11_digest_47 (by decide) (fun hc => ?_) (fun hc => ?_)
            · have hE := if_t hc hE
              exact hk σ12 v13 v14 _ _ _ hs (lv_sub hl [0, 1, 2, 3] rfl) hE
            · have hE := if_f hc hE
              refine lv_ldc2 (v := 31) hx hb C.2.2.2.1 (C.2.2.2.2 _ mw_1452) dX11_digest_50 ?_
              refine lv_lload_n hx hb dX11_digest_53 rfl (lv_at hl 1 rfl) ?_
              refine lv_lmul hx hb dX11_digest_54 ?_
              refine lv_aload_n hx hb dX11_digest_55 rfl (lv_at hl 0 rfl) ?_
              refine lv_iload_n hx hb dX11_digest_56 rfl (lv_at hl 2 rfl) ?_
              refine lv_iload hx hb dX11_digest_57 (lv_at hl 3 rfl) ?_
              obtain ⟨σ15, r16, hE1, hE⟩ := cl_e hE
              refine x_civ (As := [.int v11, .int v14]) (rest := [.long (31 * v13)]) C hl.1 hK hs hA ⟨Nat.le_refl 0, Nat.le_refl 0⟩ (ctX11_colourTold l g _ _ _ _ _ hE1) (cw_X11_194 C ⟨Nat.le_of_ble_eq_true rfl, Nat.le_of_ble_eq_true rfl⟩) (hs.recv hK 0 (by decide) rfl rfl) rfl rfl (Nat.le_of_ble_eq_true rfl) dX11_digest_59 (fun H locs hs => ?_)
              refine lv_i2l (v := r16.toInt64) hx hb dX11_digest_62 rfl ?_
              refine lv_ladd hx hb dX11_digest_63 ?_
              refine lv_lstore_n (lv' := [(1, .long ((31 * v13) + (r16.toInt64))), (0, .ref (g.2.1 0)), (3, .int v11), (4, .int v14)]) hx hb dX11_digest_64 rfl hl (by decide) rfl (fun ls hl => ?_)
              refine lv_iinc (v := v14 + 1) (lv' := [(4, .int (v14 + 1)), (1, .long ((31 * v13) + (r16.toInt64))), (0, .ref (g.2.1 0)), (3, .int v11)]) hx hb dX11_digest_65 hl (k := 3) rfl rfl (by decide) rfl (fun ls hl => ?_)
              refine lv_goto (tgt := 44) hx hb dX11_digest_68 (by decide) ?_
              exact ih _ _ _ _ hE hk _ _ _ hs (lv_sub hl [2, 1, 3, 0] rfl)
        refine hL44 _ _ _ _ _ hE (fun σ17 v18 v19 H locs ls hs hl hE => ?_) H locs ls hs (lv_sub hl [1, 2, 3, 0] rfl)
        refine lv_iinc (v := v11 + 1) (lv' := [(3, .int (v11 + 1)), (0, .ref (g.2.1 0)), (1, .long v18), (4, .int v19)]) hx hb dX11_digest_71 hl (k := 2) rfl rfl (by decide) rfl (fun ls hl => ?_)
        refine lv_goto (tgt := 33) hx hb dX11_digest_74 (by decide) ?_
        exact ih _ _ _ _ hE hk _ _ _ hs (lv_sub hl [1, 2, 0] rfl)
  refine hL33 _ _ _ _ _ hE (fun σ20 v21 v22 H locs ls hs hl hE => ?_) H locs ls hs (lv_sub hl [1, 2, 0] rfl)
  refine lv_iconst (v := 0) hx hb dX11_digest_77 (by decide) ?_
  refine lv_istore_n (lv' := [(3, .int 0), (0, .ref (g.2.1 0)), (1, .long v21)]) hx hb dX11_digest_78 rfl hl (by decide) rfl (fun ls hl => ?_)
  have hL79 : ∀ (n : Nat) (σ23 : St) (v24 : Int64) (v25 : Int32) (k : St → Int64 → Int32 → Option (St × Int64)), fX11_digest_L79 n σ23 v24 v25 k = some (σ', r) → (∀ (σ23 : St) (v24 : Int64) (v25 : Int32) (H : Heap) (locs : List Loc) (ls : Array Slot), HW 25 entM g A H0 H locs σ23 → lv_has ls 5 [(0, .ref (g.2.1 0)), (1, .long v24), (3, .int v25)] → k σ23 v24 v25 = some (σ', r) → W p l e (rmD 4) s m args below meth c H locs 0 0 Q (F0 m 164 ls [])) → ∀ (H : Heap) (locs : List Loc) (ls : Array Slot), HW 25 entM g A H0 H locs σ23 → lv_has ls 5 [(0, .ref (g.2.1 0)), (1, .long v24), (3, .int v25)] → W p l e (rmD 4) s m args below meth c H locs 0 0 Q (F0 m 79 ls []) := by
    intro n
    induction n with
    | zero =>
      intro σ23 v24 v25 k hE
      rw [fX11_digest_L79] at hE
      exact no_e hE
    | succ n ih =>
      intro σ23 v24 v25 k hE hk H locs ls hs hl
      rw [fX11_digest_L79] at hE
      refine lv_iload_n hx hb dX11_digest_79 rfl (lv_at hl 2 rfl) ?_
      refine lv_aload_n hx hb dX11_digest_80 rfl (lv_at hl 0 rfl) ?_
      refine gf_X11_160_0 C hK hs dX11_digest_81 ?_
      refine lv_icmp_ge (tgt := 164) hx hb dX11_digest_84 (by decide) (fun hc => ?_) (fun hc => ?_)
      · have hE := if_t hc hE
        exact hk σ23 v24 v25 _ _ _ hs (lv_sub hl [0, 1, 2] rfl) hE
      · have hE := if_f hc hE
        refine lv_iconst (v := 0) hx hb dX11_digest_87 (by decide) ?_
        refine lv_istore (lv' := [(4, .int 0), (0, .ref (g.2.1 0)), (1, .long v24), (3, .int v25)]) hx hb dX11_digest_88 hl (by decide) rfl (fun ls hl => ?_)
        have hL90 : ∀ (n : Nat) (σ26 : St) (v27 : Int64) (v28 : Int32) (k : St → Int64 → Int32 → Option (St × Int64)), fX11_digest_L90 v25 n σ26 v27 v28 k = some (σ', r) → (∀ (σ26 : St) (v27 : Int64) (v28 : Int32) (H : Heap) (locs : List Loc) (ls : Array Slot), HW 25 entM g A H0 H locs σ26 → lv_has ls 5 [(0, .ref (g.2.1 0)), (1, .long v27), (3, .int v25), (4, .int v28)] → k σ26 v27 v28 = some (σ', r) → W p l e (rmD 4) s m args below meth c H locs 0 0 Q (F0 m 117 ls [])) → ∀ (H : Heap) (locs : List Loc) (ls : Array Slot), HW 25 entM g A H0 H locs σ26 → lv_has ls 5 [(0, .ref (g.2.1 0)), (1, .long v27), (3, .int v25), (4, .int v28)] → W p l e (rmD 4) s m args below meth c H locs 0 0 Q (F0 m 90 ls []) := by
          intro n
          induction n with
          | zero =>
            intro σ26 v27 v28 k hE
            rw [fX11_digest_L90] at hE
            exact no_e hE
          | succ n ih =>
            intro σ26 v27 v28 k hE hk H locs ls hs hl
            rw [fX11_digest_L90] at hE
            refine lv_iload hx hb dX11_digest_90 (lv_at hl 3 rfl) ?_
            refine lv_iconst (v := 4) hx hb dX11_digest_92 (by decide) ?_
            refine lv_icmp_ge (tgt := 117) hx hb dX11_digest_93 (by decide) (fun hc => ?_) (fun hc => ?_)
            · have hE := if_t hc hE
              exact hk σ26 v27 v28 _ _ _ hs (lv_sub hl [0, 1, 2, 3] rfl) hE
            · have hE := if_f hc hE
              refine lv_ldc2 (v := 31) hx hb C.2.2.2.1 (C.2.2.2.2 _ mw_1452) dX11_digest_96 ?_
              refine lv_lload_n hx hb dX11_digest_99 rfl (lv_at hl 1 rfl) ?_
              refine lv_lmul hx hb dX11_digest_100 ?_
              refine lv_aload_n hx hb dX11_digest_101 rfl (lv_at hl 0 rfl) ?_
              refine lv_iload_n hx hb dX11_digest_102 rfl (lv_at hl 2 rfl) ?_
              refine lv_iload hx hb dX11_digest_103 (lv_at hl 3 rfl) ?_
              obtain ⟨σ29, r30, hE1, hE⟩ := cl_e hE
              refine x_civ (As := [.int v25, .int v28]) (rest := [.long (31 * v27)]) C hl.1 hK hs hA ⟨Nat.le_refl 0, Nat.le_refl 0⟩ (ctX11_houseTold l g _ _ _ _ _ hE1) (cw_X11_204 C ⟨Nat.le_of_ble_eq_true rfl, Nat.le_of_ble_eq_true rfl⟩) (hs.recv hK 0 (by decide) rfl rfl) rfl rfl (Nat.le_of_ble_eq_true rfl) dX11_digest_105 (fun H locs hs => ?_)
              refine lv_i2l (v := r30.toInt64) hx hb dX11_digest_108 rfl ?_
              refine lv_ladd hx hb dX11_digest_109 ?_
              refine lv_lstore_n (lv' := [(1, .long ((31 * v27) + (r30.toInt64))), (0, .ref (g.2.1 0)), (3, .int v25), (4, .int v28)]) hx hb dX11_digest_110 rfl hl (by decide) rfl (fun ls hl => ?_)
              refine lv_iinc (v := v28 + 1) (lv' := [(4, .int (v28 + 1)), (1, .long ((31 * v27) + (r30.toInt64))), (0, .ref (g.2.1 0)), (3, .int v25)]) hx hb dX11_digest_111 hl (k := 3) rfl rfl (by decide) rfl (fun ls hl => ?_)
              refine lv_goto (tgt := 90) hx hb dX11_digest_114 (by decide) ?_
              exact ih _ _ _ _ hE hk _ _ _ hs (lv_sub hl [2, 1, 3, 0] rfl)
        refine hL90 _ _ _ _ _ hE (fun σ31 v32 v33 H locs ls hs hl hE => ?_) H locs ls hs (lv_sub hl [1, 2, 3, 0] rfl)
        refine lv_iconst (v := 0) hx hb dX11_digest_117 (by decide) ?_
        refine lv_istore (lv' := [(4, .int 0), (0, .ref (g.2.1 0)), (1, .long v32), (3, .int v25)]) hx hb dX11_digest_118 hl (by decide) rfl (fun ls hl => ?_)
        have hL120 : ∀ (n : Nat) (σ34 : St) (v35 : Int64) (v36 : Int32) (k : St → Int64 → Int32 → Option (St × Int64)), fX11_digest_L120 v25 n σ34 v35 v36 k = some (σ', r) → (∀ (σ34 : St) (v35 : Int64) (v36 : Int32) (H : Heap) (locs : List Loc) (ls : Array Slot), HW 25 entM g A H0 H locs σ34 → lv_has ls 5 [(0, .ref (g.2.1 0)), (1, .long v35), (3, .int v25), (4, .int v36)] → k σ34 v35 v36 = some (σ', r) → W p l e (rmD 4) s m args below meth c H locs 0 0 Q (F0 m 158 ls [])) → ∀ (H : Heap) (locs : List Loc) (ls : Array Slot), HW 25 entM g A H0 H locs σ34 → lv_has ls 5 [(0, .ref (g.2.1 0)), (1, .long v35), (3, .int v25), (4, .int v36)] → W p l e (rmD 4) s m args below meth c H locs 0 0 Q (F0 m 120 ls []) := by
          intro n
          induction n with
          | zero =>
            intro σ34 v35 v36 k hE
            rw [fX11_digest_L120] at hE
            exact no_e hE
          | succ n ih =>
            intro σ34 v35 v36 k hE hk H locs ls hs hl
            rw [fX11_digest_L120] at hE
            refine lv_iload hx hb dX11_digest_120 (lv_at hl 3 rfl) ?_
            refine lv_aload_n hx hb dX11_digest_122 rfl (lv_at hl 0 rfl) ?_
            refine gf_X11_163_0 C hK hs dX11_digest_123 ?_
            refine lv_icmp_ge (tgt := 158) hx hb dX11_digest_126 (by decide) (fun hc => ?_) (fun hc => ?_)
            · have hE := if_t hc hE
              exact hk σ34 v35 v36 _ _ _ hs (lv_sub hl [0, 1, 2, 3] rfl) hE
            · have hE := if_f hc hE
              refine lv_ldc2 (v := 31) hx hb C.2.2.2.1 (C.2.2.2.2 _ mw_1452) dX11_digest_129 ?_
              refine lv_lload_n hx hb dX11_digest_132 rfl (lv_at hl 1 rfl) ?_
              refine lv_lmul hx hb dX11_digest_133 ?_
              refine lv_aload_n hx hb dX11_digest_134 rfl (lv_at hl 0 rfl) ?_
              refine gf_X11_37_0 C hK hs dX11_digest_135 ?_
              refine lv_bipush (v := 7) hx hb dX11_digest_138 (by decide) ?_
              refine lv_bipush (v := 8) hx hb dX11_digest_140 (by decide) ?_
              refine lv_iload_n hx hb dX11_digest_142 rfl (lv_at hl 2 rfl) ?_
              refine lv_imul hx hb dX11_digest_143 ?_
              refine lv_iadd hx hb dX11_digest_144 ?_
              refine lv_iload hx hb dX11_digest_145 (lv_at hl 3 rfl) ?_
              refine lv_iadd hx hb dX11_digest_147 ?_
              obtain ⟨hi, x37, ex37, hE⟩ := rd_w hE
              refine y_ald layM C hK hs hi ex37 dX11_digest_148 ?_
              refine lv_i2l (v := x37.toInt64) hx hb dX11_digest_149 rfl ?_
              refine lv_ladd hx hb dX11_digest_150 ?_
              refine lv_lstore_n (lv' := [(1, .long ((31 * v35) + (x37.toInt64))), (0, .ref (g.2.1 0)), (3, .int v25), (4, .int v36)]) hx hb dX11_digest_151 rfl hl (by decide) rfl (fun ls hl => ?_)
              refine lv_iinc (v := v36 + 1) (lv' := [(4, .int (v36 + 1)), (1, .long ((31 * v35) + (x37.toInt64))), (0, .ref (g.2.1 0)), (3, .int v25)]) hx hb dX11_digest_152 hl (k := 3) rfl rfl (by decide) rfl (fun ls hl => ?_)
              refine lv_goto (tgt := 120) hx hb dX11_digest_155 (by decide) ?_
              exact ih _ _ _ _ hE hk _ _ _ hs (lv_sub hl [2, 1, 3, 0] rfl)
        refine hL120 _ _ _ _ _ hE (fun σ38 v39 v40 H locs ls hs hl hE => ?_) H locs ls hs (lv_sub hl [1, 2, 3, 0] rfl)
        refine lv_iinc (v := v25 + 1) (lv' := [(3, .int (v25 + 1)), (0, .ref (g.2.1 0)), (1, .long v39), (4, .int v40)]) hx hb dX11_digest_158 hl (k := 2) rfl rfl (by decide) rfl (fun ls hl => ?_)
        refine lv_goto (tgt := 79) hx hb dX11_digest_161 (by decide) ?_
        exact ih _ _ _ _ hE hk _ _ _ hs (lv_sub hl [1, 2, 0] rfl)
  refine hL79 _ _ _ _ _ hE (fun σ41 v42 v43 H locs ls hs hl hE => ?_) H locs ls hs (lv_sub hl [1, 2, 0] rfl)
  refine lv_iconst (v := 0) hx hb dX11_digest_164 (by decide) ?_
  refine lv_istore_n (lv' := [(3, .int 0), (0, .ref (g.2.1 0)), (1, .long v42)]) hx hb dX11_digest_165 rfl hl (by decide) rfl (fun ls hl => ?_)
  have hL166 : ∀ (n : Nat) (σ44 : St) (v45 : Int64) (v46 : Int32) (k : St → Int64 → Int32 → Option (St × Int64)), fX11_digest_L166 n σ44 v45 v46 k = some (σ', r) → (∀ (σ44 : St) (v45 : Int64) (v46 : Int32) (H : Heap) (locs : List Loc) (ls : Array Slot), HW 25 entM g A H0 H locs σ44 → lv_has ls 5 [(0, .ref (g.2.1 0)), (1, .long v45), (3, .int v46)] → k σ44 v45 v46 = some (σ', r) → W p l e (rmD 4) s m args below meth c H locs 0 0 Q (F0 m 211 ls [])) → ∀ (H : Heap) (locs : List Loc) (ls : Array Slot), HW 25 entM g A H0 H locs σ44 → lv_has ls 5 [(0, .ref (g.2.1 0)), (1, .long v45), (3, .int v46)] → W p l e (rmD 4) s m args below meth c H locs 0 0 Q (F0 m 166 ls []) := by
    intro n
    induction n with
    | zero =>
      intro σ44 v45 v46 k hE
      rw [fX11_digest_L166] at hE
      exact no_e hE
    | succ n ih =>
      intro σ44 v45 v46 k hE hk H locs ls hs hl
      rw [fX11_digest_L166] at hE
      refine lv_iload_n hx hb dX11_digest_166 rfl (lv_at hl 2 rfl) ?_
      refine lv_iconst (v := 3) hx hb dX11_digest_167 (by decide) ?_
      refine lv_icmp_ge (tgt := 211) hx hb dX11_digest_168 (by decide) (fun hc => ?_) (fun hc => ?_)
      · have hE := if_t hc hE
        exact hk σ44 v45 v46 _ _ _ hs (lv_sub hl [0, 1, 2] rfl) hE
      · have hE := if_f hc hE
        refine lv_ldc2 (v := 31) hx hb C.2.2.2.1 (C.2.2.2.2 _ mw_1452) dX11_digest_171 ?_
        refine lv_lload_n hx hb dX11_digest_174 rfl (lv_at hl 1 rfl) ?_
        refine lv_lmul hx hb dX11_digest_175 ?_
        refine lv_aload_n hx hb dX11_digest_176 rfl (lv_at hl 0 rfl) ?_
        refine gf_X11_49_0 C hK hs dX11_digest_177 ?_
        refine lv_iload_n hx hb dX11_digest_180 rfl (lv_at hl 2 rfl) ?_
        obtain ⟨hi, hE⟩ := gd_e hE
        refine y_zld C hK hs 14 3 (by decide) rfl hi dX11_digest_181 ?_
        refine jn1 hE (fun k47 hE hk47 => ?_)
        have hJk47 : ∀ (y48 : Int32) (H : Heap) (locs : List Loc) (ls : Array Slot), HW 25 entM g A H0 H locs σ44 → lv_has ls 5 [(0, .ref (g.2.1 0)), (3, .int v46)] → k47 y48 = some (σ', r) → W p l e (rmD 4) s m args below meth c H locs 0 0 Q (F0 m 202 ls [.int y48, .long (31 * v45)]) := by
          intro y48 H locs ls hs hl hE
          have hE := hk47 _ hE
          refine lv_i2l (v := y48.toInt64) hx hb dX11_digest_202 rfl ?_
          refine lv_ladd hx hb dX11_digest_203 ?_
          refine lv_lstore_n (lv' := [(1, .long ((31 * v45) + (y48.toInt64))), (0, .ref (g.2.1 0)), (3, .int v46)]) hx hb dX11_digest_204 rfl hl (by decide) rfl (fun ls hl => ?_)
          refine lv_iinc (v := v46 + 1) (lv' := [(3, .int (v46 + 1)), (1, .long ((31 * v45) + (y48.toInt64))), (0, .ref (g.2.1 0))]) hx hb dX11_digest_205 hl (k := 2) rfl rfl (by decide) rfl (fun ls hl => ?_)
          refine lv_goto (tgt := 166) hx hb dX11_digest_208 (by decide) ?_
          exact ih _ _ _ _ hE hk _ _ _ hs (lv_sub hl [2, 1, 0] rfl)
        refine lv_if_eq (tgt := 201) hx hb dX11_digest_182 (by decide) (fun hc => ?_) (fun hc => ?_)
        · have hE := if_t hc hE
          refine lv_iconst (v := (-1)) hx hb dX11_digest_201 (by decide) ?_
          exact hJk47 (-1) _ _ _ hs (lv_sub hl [0, 2] rfl) hE
        · have hE := if_f hc hE
          refine lv_aload_n hx hb dX11_digest_185 rfl (lv_at hl 0 rfl) ?_
          refine gf_X11_46_0 C hK hs dX11_digest_186 ?_
          refine lv_sipush (v := 2256) hx hb dX11_digest_189 (by decide) ?_
          refine lv_iload_n hx hb dX11_digest_192 rfl (lv_at hl 2 rfl) ?_
          refine lv_imul hx hb dX11_digest_193 ?_
          refine lv_bipush (v := 55) hx hb dX11_digest_194 (by decide) ?_
          refine lv_iadd hx hb dX11_digest_196 ?_
          obtain ⟨hi, x49, ex49, hE⟩ := rd_w hE
          refine y_ald layM C hK hs hi ex49 dX11_digest_197 ?_
          refine lv_goto (tgt := 202) hx hb dX11_digest_198 (by decide) ?_
          exact hJk47 x49 _ _ _ hs (lv_sub hl [0, 2] rfl) hE
  refine hL166 _ _ _ _ _ hE (fun σ50 v51 v52 H locs ls hs hl hE => ?_) H locs ls hs (lv_sub hl [1, 2, 0] rfl)
  refine lv_iconst (v := 0) hx hb dX11_digest_211 (by decide) ?_
  refine lv_istore_n (lv' := [(3, .int 0), (0, .ref (g.2.1 0)), (1, .long v51)]) hx hb dX11_digest_212 rfl hl (by decide) rfl (fun ls hl => ?_)
  have hL213 : ∀ (n : Nat) (σ53 : St) (v54 : Int64) (v55 : Int32) (k : St → Int64 → Int32 → Option (St × Int64)), fX11_digest_L213 n σ53 v54 v55 k = some (σ', r) → (∀ (σ53 : St) (v54 : Int64) (v55 : Int32) (H : Heap) (locs : List Loc) (ls : Array Slot), HW 25 entM g A H0 H locs σ53 → lv_has ls 5 [(0, .ref (g.2.1 0)), (1, .long v54), (3, .int v55)] → k σ53 v54 v55 = some (σ', r) → W p l e (rmD 4) s m args below meth c H locs 0 0 Q (F0 m 279 ls [])) → ∀ (H : Heap) (locs : List Loc) (ls : Array Slot), HW 25 entM g A H0 H locs σ53 → lv_has ls 5 [(0, .ref (g.2.1 0)), (1, .long v54), (3, .int v55)] → W p l e (rmD 4) s m args below meth c H locs 0 0 Q (F0 m 213 ls []) := by
    intro n
    induction n with
    | zero =>
      intro σ53 v54 v55 k hE
      rw [fX11_digest_L213] at hE
      exact no_e hE
    | succ n ih =>
      intro σ53 v54 v55 k hE hk H locs ls hs hl
      rw [fX11_digest_L213] at hE
      refine lv_iload_n hx hb dX11_digest_213 rfl (lv_at hl 2 rfl) ?_
      refine lv_bipush (v := 6) hx hb dX11_digest_214 (by decide) ?_
      refine lv_icmp_ge (tgt := 279) hx hb dX11_digest_216 (by decide) (fun hc => ?_) (fun hc => ?_)
      · have hE := if_t hc hE
        exact hk σ53 v54 v55 _ _ _ hs (lv_sub hl [0, 1, 2] rfl) hE
      · have hE := if_f hc hE
        refine lv_ldc2 (v := 31) hx hb C.2.2.2.1 (C.2.2.2.2 _ mw_1452) dX11_digest_219 ?_
        refine lv_lload_n hx hb dX11_digest_222 rfl (lv_at hl 1 rfl) ?_
        refine lv_lmul hx hb dX11_digest_223 ?_
        refine lv_aload_n hx hb dX11_digest_224 rfl (lv_at hl 0 rfl) ?_
        refine gf_X11_7_0 C hK hs dX11_digest_225 ?_
        refine lv_iload_n hx hb dX11_digest_228 rfl (lv_at hl 2 rfl) ?_
        obtain ⟨hi, x56, ex56, hE⟩ := rd_w hE
        refine y_ald layM C hK hs hi ex56 dX11_digest_229 ?_
        refine lv_i2l (v := x56.toInt64) hx hb dX11_digest_230 rfl ?_
        refine lv_ladd hx hb dX11_digest_231 ?_
        refine lv_lstore_n (lv' := [(1, .long ((31 * v54) + (x56.toInt64))), (0, .ref (g.2.1 0)), (3, .int v55)]) hx hb dX11_digest_232 rfl hl (by decide) rfl (fun ls hl => ?_)
        refine lv_iconst (v := 0) hx hb dX11_digest_233 (by decide) ?_
        refine lv_istore (lv' := [(4, .int 0), (1, .long ((31 * v54) + (x56.toInt64))), (0, .ref (g.2.1 0)), (3, .int v55)]) hx hb dX11_digest_234 hl (by decide) rfl (fun ls hl => ?_)
        have hL236 : ∀ (n : Nat) (σ57 : St) (v58 : Int64) (v59 : Int32) (k : St → Int64 → Int32 → Option (St × Int64)), fX11_digest_L236 v55 n σ57 v58 v59 k = some (σ', r) → (∀ (σ57 : St) (v58 : Int64) (v59 : Int32) (H : Heap) (locs : List Loc) (ls : Array Slot), HW 25 entM g A H0 H locs σ57 → lv_has ls 5 [(0, .ref (g.2.1 0)), (1, .long v58), (3, .int v55), (4, .int v59)] → k σ57 v58 v59 = some (σ', r) → W p l e (rmD 4) s m args below meth c H locs 0 0 Q (F0 m 273 ls [])) → ∀ (H : Heap) (locs : List Loc) (ls : Array Slot), HW 25 entM g A H0 H locs σ57 → lv_has ls 5 [(0, .ref (g.2.1 0)), (1, .long v58), (3, .int v55), (4, .int v59)] → W p l e (rmD 4) s m args below meth c H locs 0 0 Q (F0 m 236 ls []) := by
          intro n
          induction n with
          | zero =>
            intro σ57 v58 v59 k hE
            rw [fX11_digest_L236] at hE
            exact no_e hE
          | succ n ih =>
            intro σ57 v58 v59 k hE hk H locs ls hs hl
            rw [fX11_digest_L236] at hE
            refine lv_iload hx hb dX11_digest_236 (lv_at hl 3 rfl) ?_
            refine lv_aload_n hx hb dX11_digest_238 rfl (lv_at hl 0 rfl) ?_
            refine gf_X11_7_0 C hK hs dX11_digest_239 ?_
            refine lv_iload_n hx hb dX11_digest_242 rfl (lv_at hl 2 rfl) ?_
            obtain ⟨hi, x60, ex60, hE⟩ := rd_w hE
            refine y_ald layM C hK hs hi ex60 dX11_digest_243 ?_
            refine lv_icmp_ge (tgt := 273) hx hb dX11_digest_244 (by decide) (fun hc => ?_) (fun hc => ?_)
            · have hE := if_t hc hE
              exact hk σ57 v58 v59 _ _ _ hs (lv_sub hl [0, 1, 2, 3] rfl) hE
            · have hE := if_f hc hE
              refine lv_ldc2 (v := 31) hx hb C.2.2.2.1 (C.2.2.2.2 _ mw_1452) dX11_digest_247 ?_
              refine lv_lload_n hx hb dX11_digest_250 rfl (lv_at hl 1 rfl) ?_
              refine lv_lmul hx hb dX11_digest_251 ?_
              refine lv_aload_n hx hb dX11_digest_252 rfl (lv_at hl 0 rfl) ?_
              refine gf_X11_13_0 C hK hs dX11_digest_253 ?_
              refine lv_bipush (v := 40) hx hb dX11_digest_256 (by decide) ?_
              refine lv_iload_n hx hb dX11_digest_258 rfl (lv_at hl 2 rfl) ?_
              refine lv_imul hx hb dX11_digest_259 ?_
              refine lv_iload hx hb dX11_digest_260 (lv_at hl 3 rfl) ?_
              refine lv_iadd hx hb dX11_digest_262 ?_
              obtain ⟨hi, x61, ex61, hE⟩ := rd_w hE
              refine y_ald layM C hK hs hi ex61 dX11_digest_263 ?_
              refine lv_i2l (v := x61.toInt64) hx hb dX11_digest_264 rfl ?_
              refine lv_ladd hx hb dX11_digest_265 ?_
              refine lv_lstore_n (lv' := [(1, .long ((31 * v58) + (x61.toInt64))), (0, .ref (g.2.1 0)), (3, .int v55), (4, .int v59)]) hx hb dX11_digest_266 rfl hl (by decide) rfl (fun ls hl => ?_)
              refine lv_iinc (v := v59 + 1) (lv' := [(4, .int (v59 + 1)), (1, .long ((31 * v58) + (x61.toInt64))), (0, .ref (g.2.1 0)), (3, .int v55)]) hx hb dX11_digest_267 hl (k := 3) rfl rfl (by decide) rfl (fun ls hl => ?_)
              refine lv_goto (tgt := 236) hx hb dX11_digest_270 (by decide) ?_
              exact ih _ _ _ _ hE hk _ _ _ hs (lv_sub hl [2, 1, 3, 0] rfl)
        refine hL236 _ _ _ _ _ hE (fun σ62 v63 v64 H locs ls hs hl hE => ?_) H locs ls hs (lv_sub hl [2, 1, 3, 0] rfl)
        refine lv_iinc (v := v55 + 1) (lv' := [(3, .int (v55 + 1)), (0, .ref (g.2.1 0)), (1, .long v63), (4, .int v64)]) hx hb dX11_digest_273 hl (k := 2) rfl rfl (by decide) rfl (fun ls hl => ?_)
        refine lv_goto (tgt := 213) hx hb dX11_digest_276 (by decide) ?_
        exact ih _ _ _ _ hE hk _ _ _ hs (lv_sub hl [1, 2, 0] rfl)
  refine hL213 _ _ _ _ _ hE (fun σ65 v66 v67 H locs ls hs hl hE => ?_) H locs ls hs (lv_sub hl [1, 2, 0] rfl)
  refine lv_iconst (v := 0) hx hb dX11_digest_279 (by decide) ?_
  refine lv_istore_n (lv' := [(3, .int 0), (0, .ref (g.2.1 0)), (1, .long v66)]) hx hb dX11_digest_280 rfl hl (by decide) rfl (fun ls hl => ?_)
  have hL281 : ∀ (n : Nat) (σ68 : St) (v69 : Int64) (v70 : Int32) (k : St → Int64 → Int32 → Option (St × Int64)), fX11_digest_L281 n σ68 v69 v70 k = some (σ', r) → (∀ (σ68 : St) (v69 : Int64) (v70 : Int32) (H : Heap) (locs : List Loc) (ls : Array Slot), HW 25 entM g A H0 H locs σ68 → lv_has ls 5 [(0, .ref (g.2.1 0)), (1, .long v69), (3, .int v70)] → k σ68 v69 v70 = some (σ', r) → W p l e (rmD 4) s m args below meth c H locs 0 0 Q (F0 m 346 ls [])) → ∀ (H : Heap) (locs : List Loc) (ls : Array Slot), HW 25 entM g A H0 H locs σ68 → lv_has ls 5 [(0, .ref (g.2.1 0)), (1, .long v69), (3, .int v70)] → W p l e (rmD 4) s m args below meth c H locs 0 0 Q (F0 m 281 ls []) := by
    intro n
    induction n with
    | zero =>
      intro σ68 v69 v70 k hE
      rw [fX11_digest_L281] at hE
      exact no_e hE
    | succ n ih =>
      intro σ68 v69 v70 k hE hk H locs ls hs hl
      rw [fX11_digest_L281] at hE
      refine lv_iload_n hx hb dX11_digest_281 rfl (lv_at hl 2 rfl) ?_
      refine lv_iconst (v := 4) hx hb dX11_digest_282 (by decide) ?_
      refine lv_icmp_ge (tgt := 346) hx hb dX11_digest_283 (by decide) (fun hc => ?_) (fun hc => ?_)
      · have hE := if_t hc hE
        exact hk σ68 v69 v70 _ _ _ hs (lv_sub hl [0, 1, 2] rfl) hE
      · have hE := if_f hc hE
        refine lv_ldc2 (v := 31) hx hb C.2.2.2.1 (C.2.2.2.2 _ mw_1452) dX11_digest_286 ?_
        refine lv_lload_n hx hb dX11_digest_289 rfl (lv_at hl 1 rfl) ?_
        refine lv_lmul hx hb dX11_digest_290 ?_
        refine lv_aload_n hx hb dX11_digest_291 rfl (lv_at hl 0 rfl) ?_
        refine gf_X11_16_0 C hK hs dX11_digest_292 ?_
        refine lv_iload_n hx hb dX11_digest_295 rfl (lv_at hl 2 rfl) ?_
        obtain ⟨hi, x71, ex71, hE⟩ := rd_w hE
        refine y_ald layM C hK hs hi ex71 dX11_digest_296 ?_
        refine lv_i2l (v := x71.toInt64) hx hb dX11_digest_297 rfl ?_
        refine lv_ladd hx hb dX11_digest_298 ?_
        refine lv_lstore_n (lv' := [(1, .long ((31 * v69) + (x71.toInt64))), (0, .ref (g.2.1 0)), (3, .int v70)]) hx hb dX11_digest_299 rfl hl (by decide) rfl (fun ls hl => ?_)
        refine lv_iconst (v := 0) hx hb dX11_digest_300 (by decide) ?_
        refine lv_istore (lv' := [(4, .int 0), (1, .long ((31 * v69) + (x71.toInt64))), (0, .ref (g.2.1 0)), (3, .int v70)]) hx hb dX11_digest_301 hl (by decide) rfl (fun ls hl => ?_)
        have hL303 : ∀ (n : Nat) (σ72 : St) (v73 : Int64) (v74 : Int32) (k : St → Int64 → Int32 → Option (St × Int64)), fX11_digest_L303 v70 n σ72 v73 v74 k = some (σ', r) → (∀ (σ72 : St) (v73 : Int64) (v74 : Int32) (H : Heap) (locs : List Loc) (ls : Array Slot), HW 25 entM g A H0 H locs σ72 → lv_has ls 5 [(0, .ref (g.2.1 0)), (1, .long v73), (3, .int v70), (4, .int v74)] → k σ72 v73 v74 = some (σ', r) → W p l e (rmD 4) s m args below meth c H locs 0 0 Q (F0 m 340 ls [])) → ∀ (H : Heap) (locs : List Loc) (ls : Array Slot), HW 25 entM g A H0 H locs σ72 → lv_has ls 5 [(0, .ref (g.2.1 0)), (1, .long v73), (3, .int v70), (4, .int v74)] → W p l e (rmD 4) s m args below meth c H locs 0 0 Q (F0 m 303 ls []) := by
          intro n
          induction n with
          | zero =>
            intro σ72 v73 v74 k hE
            rw [fX11_digest_L303] at hE
            exact no_e hE
          | succ n ih =>
            intro σ72 v73 v74 k hE hk H locs ls hs hl
            rw [fX11_digest_L303] at hE
            refine lv_iload hx hb dX11_digest_303 (lv_at hl 3 rfl) ?_
            refine lv_aload_n hx hb dX11_digest_305 rfl (lv_at hl 0 rfl) ?_
            refine gf_X11_16_0 C hK hs dX11_digest_306 ?_
            refine lv_iload_n hx hb dX11_digest_309 rfl (lv_at hl 2 rfl) ?_
            obtain ⟨hi, x75, ex75, hE⟩ := rd_w hE
            refine y_ald layM C hK hs hi ex75 dX11_digest_310 ?_
            refine lv_icmp_ge (tgt := 340) hx hb dX11_digest_311 (by decide) (fun hc => ?_) (fun hc => ?_)
            · have hE := if_t hc hE
              exact hk σ72 v73 v74 _ _ _ hs (lv_sub hl [0, 1, 2, 3] rfl) hE
            · have hE := if_f hc hE
              refine lv_ldc2 (v := 31) hx hb C.2.2.2.1 (C.2.2.2.2 _ mw_1452) dX11_digest_314 ?_
              refine lv_lload_n hx hb dX11_digest_317 rfl (lv_at hl 1 rfl) ?_
              refine lv_lmul hx hb dX11_digest_318 ?_
              refine lv_aload_n hx hb dX11_digest_319 rfl (lv_at hl 0 rfl) ?_
              refine gf_X11_19_0 C hK hs dX11_digest_320 ?_
              refine lv_bipush (v := 90) hx hb dX11_digest_323 (by decide) ?_
              refine lv_iload_n hx hb dX11_digest_325 rfl (lv_at hl 2 rfl) ?_
              refine lv_imul hx hb dX11_digest_326 ?_
              refine lv_iload hx hb dX11_digest_327 (lv_at hl 3 rfl) ?_
              refine lv_iadd hx hb dX11_digest_329 ?_
              obtain ⟨hi, x76, ex76, hE⟩ := rd_w hE
              refine y_ald layM C hK hs hi ex76 dX11_digest_330 ?_
              refine lv_i2l (v := x76.toInt64) hx hb dX11_digest_331 rfl ?_
              refine lv_ladd hx hb dX11_digest_332 ?_
              refine lv_lstore_n (lv' := [(1, .long ((31 * v73) + (x76.toInt64))), (0, .ref (g.2.1 0)), (3, .int v70), (4, .int v74)]) hx hb dX11_digest_333 rfl hl (by decide) rfl (fun ls hl => ?_)
              refine lv_iinc (v := v74 + 1) (lv' := [(4, .int (v74 + 1)), (1, .long ((31 * v73) + (x76.toInt64))), (0, .ref (g.2.1 0)), (3, .int v70)]) hx hb dX11_digest_334 hl (k := 3) rfl rfl (by decide) rfl (fun ls hl => ?_)
              refine lv_goto (tgt := 303) hx hb dX11_digest_337 (by decide) ?_
              exact ih _ _ _ _ hE hk _ _ _ hs (lv_sub hl [2, 1, 3, 0] rfl)
        refine hL303 _ _ _ _ _ hE (fun σ77 v78 v79 H locs ls hs hl hE => ?_) H locs ls hs (lv_sub hl [2, 1, 3, 0] rfl)
        refine lv_iinc (v := v70 + 1) (lv' := [(3, .int (v70 + 1)), (0, .ref (g.2.1 0)), (1, .long v78), (4, .int v79)]) hx hb dX11_digest_340 hl (k := 2) rfl rfl (by decide) rfl (fun ls hl => ?_)
        refine lv_goto (tgt := 281) hx hb dX11_digest_343 (by decide) ?_
        exact ih _ _ _ _ hE hk _ _ _ hs (lv_sub hl [1, 2, 0] rfl)
  refine hL281 _ _ _ _ _ hE (fun σ80 v81 v82 H locs ls hs hl hE => ?_) H locs ls hs (lv_sub hl [1, 2, 0] rfl)
  refine lv_lload_n hx hb dX11_digest_346 rfl (lv_at hl 1 rfl) ?_
  exact hQ hs hE dX11_digest_347
