theorem dX11_readsColour_0 : decode cX11_readsColour 0 = .ok (.aload_n 0, 1) := by decide +kernel
theorem dX11_readsColour_1 : decode cX11_readsColour 1 = .ok (.getfield 116, 3) := by decide +kernel
theorem dX11_readsColour_4 : decode cX11_readsColour 4 = .ok (.istore_n 2, 1) := by decide +kernel
theorem dX11_readsColour_5 : decode cX11_readsColour 5 = .ok (.aload_n 0, 1) := by decide +kernel
theorem dX11_readsColour_6 : decode cX11_readsColour 6 = .ok (.getfield 141, 3) := by decide +kernel
theorem dX11_readsColour_9 : decode cX11_readsColour 9 = .ok (.bipush 8, 2) := by decide +kernel
theorem dX11_readsColour_11 : decode cX11_readsColour 11 = .ok (.if_icmp .ne 5, 3) := by decide +kernel
theorem dX11_readsColour_14 : decode cX11_readsColour 14 = .ok (.iconst 0, 1) := by decide +kernel
theorem dX11_readsColour_15 : decode cX11_readsColour 15 = .ok (.ireturn, 1) := by decide +kernel
theorem dX11_readsColour_16 : decode cX11_readsColour 16 = .ok (.iconst 0, 1) := by decide +kernel
theorem dX11_readsColour_17 : decode cX11_readsColour 17 = .ok (.istore_n 3, 1) := by decide +kernel
theorem dX11_readsColour_18 : decode cX11_readsColour 18 = .ok (.iload_n 3, 1) := by decide +kernel
theorem dX11_readsColour_19 : decode cX11_readsColour 19 = .ok (.bipush 7, 2) := by decide +kernel
theorem dX11_readsColour_21 : decode cX11_readsColour 21 = .ok (.if_icmp .ge 24, 3) := by decide +kernel
theorem dX11_readsColour_24 : decode cX11_readsColour 24 = .ok (.aload_n 0, 1) := by decide +kernel
theorem dX11_readsColour_25 : decode cX11_readsColour 25 = .ok (.getfield 66, 3) := by decide +kernel
theorem dX11_readsColour_28 : decode cX11_readsColour 28 = .ok (.bipush 7, 2) := by decide +kernel
theorem dX11_readsColour_30 : decode cX11_readsColour 30 = .ok (.aload_n 0, 1) := by decide +kernel
theorem dX11_readsColour_31 : decode cX11_readsColour 31 = .ok (.getfield 141, 3) := by decide +kernel
theorem dX11_readsColour_34 : decode cX11_readsColour 34 = .ok (.imul, 1) := by decide +kernel
theorem dX11_readsColour_35 : decode cX11_readsColour 35 = .ok (.iload_n 3, 1) := by decide +kernel
theorem dX11_readsColour_36 : decode cX11_readsColour 36 = .ok (.iadd, 1) := by decide +kernel
theorem dX11_readsColour_37 : decode cX11_readsColour 37 = .ok (.iconst 0, 1) := by decide +kernel
theorem dX11_readsColour_38 : decode cX11_readsColour 38 = .ok (.iastore, 1) := by decide +kernel
theorem dX11_readsColour_39 : decode cX11_readsColour 39 = .ok (.iinc 3 1, 3) := by decide +kernel
theorem dX11_readsColour_42 : decode cX11_readsColour 42 = .ok (.goto (-24), 3) := by decide +kernel
theorem dX11_readsColour_45 : decode cX11_readsColour 45 = .ok (.aload_n 0, 1) := by decide +kernel
theorem dX11_readsColour_46 : decode cX11_readsColour 46 = .ok (.aload_n 0, 1) := by decide +kernel
theorem dX11_readsColour_47 : decode cX11_readsColour 47 = .ok (.iload_n 1, 1) := by decide +kernel
theorem dX11_readsColour_48 : decode cX11_readsColour 48 = .ok (.invokevirtual 119, 3) := by decide +kernel
theorem dX11_readsColour_51 : decode cX11_readsColour 51 = .ok (.invokevirtual 144, 3) := by decide +kernel
theorem dX11_readsColour_54 : decode cX11_readsColour 54 = .ok (.ifCond .eq 53, 3) := by decide +kernel
theorem dX11_readsColour_57 : decode cX11_readsColour 57 = .ok (.aload_n 0, 1) := by decide +kernel
theorem dX11_readsColour_58 : decode cX11_readsColour 58 = .ok (.getfield 116, 3) := by decide +kernel
theorem dX11_readsColour_61 : decode cX11_readsColour 61 = .ok (.iload_n 2, 1) := by decide +kernel
theorem dX11_readsColour_62 : decode cX11_readsColour 62 = .ok (.isub, 1) := by decide +kernel
theorem dX11_readsColour_63 : decode cX11_readsColour 63 = .ok (.bipush 7, 2) := by decide +kernel
theorem dX11_readsColour_65 : decode cX11_readsColour 65 = .ok (.if_icmp .ne 5, 3) := by decide +kernel
theorem dX11_readsColour_68 : decode cX11_readsColour 68 = .ok (.iconst 0, 1) := by decide +kernel
theorem dX11_readsColour_69 : decode cX11_readsColour 69 = .ok (.ireturn, 1) := by decide +kernel
theorem dX11_readsColour_70 : decode cX11_readsColour 70 = .ok (.aload_n 0, 1) := by decide +kernel
theorem dX11_readsColour_71 : decode cX11_readsColour 71 = .ok (.getfield 66, 3) := by decide +kernel
theorem dX11_readsColour_74 : decode cX11_readsColour 74 = .ok (.bipush 7, 2) := by decide +kernel
theorem dX11_readsColour_76 : decode cX11_readsColour 76 = .ok (.aload_n 0, 1) := by decide +kernel
theorem dX11_readsColour_77 : decode cX11_readsColour 77 = .ok (.getfield 141, 3) := by decide +kernel
theorem dX11_readsColour_80 : decode cX11_readsColour 80 = .ok (.imul, 1) := by decide +kernel
theorem dX11_readsColour_81 : decode cX11_readsColour 81 = .ok (.aload_n 0, 1) := by decide +kernel
theorem dX11_readsColour_82 : decode cX11_readsColour 82 = .ok (.getfield 116, 3) := by decide +kernel
theorem dX11_readsColour_85 : decode cX11_readsColour 85 = .ok (.iadd, 1) := by decide +kernel
theorem dX11_readsColour_86 : decode cX11_readsColour 86 = .ok (.iload_n 2, 1) := by decide +kernel
theorem dX11_readsColour_87 : decode cX11_readsColour 87 = .ok (.isub, 1) := by decide +kernel
theorem dX11_readsColour_88 : decode cX11_readsColour 88 = .ok (.aload_n 0, 1) := by decide +kernel
theorem dX11_readsColour_89 : decode cX11_readsColour 89 = .ok (.iload_n 1, 1) := by decide +kernel
theorem dX11_readsColour_90 : decode cX11_readsColour 90 = .ok (.invokevirtual 119, 3) := by decide +kernel
theorem dX11_readsColour_93 : decode cX11_readsColour 93 = .ok (.iastore, 1) := by decide +kernel
theorem dX11_readsColour_94 : decode cX11_readsColour 94 = .ok (.aload_n 0, 1) := by decide +kernel
theorem dX11_readsColour_95 : decode cX11_readsColour 95 = .ok (.dup, 1) := by decide +kernel
theorem dX11_readsColour_96 : decode cX11_readsColour 96 = .ok (.getfield 116, 3) := by decide +kernel
theorem dX11_readsColour_99 : decode cX11_readsColour 99 = .ok (.iconst 1, 1) := by decide +kernel
theorem dX11_readsColour_100 : decode cX11_readsColour 100 = .ok (.iadd, 1) := by decide +kernel
theorem dX11_readsColour_101 : decode cX11_readsColour 101 = .ok (.putfield 116, 3) := by decide +kernel
theorem dX11_readsColour_104 : decode cX11_readsColour 104 = .ok (.goto (-59), 3) := by decide +kernel
theorem dX11_readsColour_107 : decode cX11_readsColour 107 = .ok (.aload_n 0, 1) := by decide +kernel
theorem dX11_readsColour_108 : decode cX11_readsColour 108 = .ok (.invokevirtual 147, 3) := by decide +kernel
theorem dX11_readsColour_111 : decode cX11_readsColour 111 = .ok (.ifCond .eq 10, 3) := by decide +kernel
theorem dX11_readsColour_114 : decode cX11_readsColour 114 = .ok (.aload_n 0, 1) := by decide +kernel
theorem dX11_readsColour_115 : decode cX11_readsColour 115 = .ok (.iload_n 2, 1) := by decide +kernel
theorem dX11_readsColour_116 : decode cX11_readsColour 116 = .ok (.putfield 116, 3) := by decide +kernel
theorem dX11_readsColour_119 : decode cX11_readsColour 119 = .ok (.iconst 0, 1) := by decide +kernel
theorem dX11_readsColour_120 : decode cX11_readsColour 120 = .ok (.ireturn, 1) := by decide +kernel
theorem dX11_readsColour_121 : decode cX11_readsColour 121 = .ok (.aload_n 0, 1) := by decide +kernel
theorem dX11_readsColour_122 : decode cX11_readsColour 122 = .ok (.iload_n 1, 1) := by decide +kernel
theorem dX11_readsColour_123 : decode cX11_readsColour 123 = .ok (.iconst 1, 1) := by decide +kernel
theorem dX11_readsColour_124 : decode cX11_readsColour 124 = .ok (.invokevirtual 134, 3) := by decide +kernel
theorem dX11_readsColour_127 : decode cX11_readsColour 127 = .ok (.ifCond .eq 12, 3) := by decide +kernel
theorem dX11_readsColour_130 : decode cX11_readsColour 130 = .ok (.aload_n 0, 1) := by decide +kernel
theorem dX11_readsColour_131 : decode cX11_readsColour 131 = .ok (.iload_n 1, 1) := by decide +kernel
theorem dX11_readsColour_132 : decode cX11_readsColour 132 = .ok (.iconst 1, 1) := by decide +kernel
theorem dX11_readsColour_133 : decode cX11_readsColour 133 = .ok (.invokevirtual 134, 3) := by decide +kernel
theorem dX11_readsColour_136 : decode cX11_readsColour 136 = .ok (.ifCond .ne 5, 3) := by decide +kernel
theorem dX11_readsColour_139 : decode cX11_readsColour 139 = .ok (.iconst 0, 1) := by decide +kernel
theorem dX11_readsColour_140 : decode cX11_readsColour 140 = .ok (.ireturn, 1) := by decide +kernel
theorem dX11_readsColour_141 : decode cX11_readsColour 141 = .ok (.aload_n 0, 1) := by decide +kernel
theorem dX11_readsColour_142 : decode cX11_readsColour 142 = .ok (.getfield 69, 3) := by decide +kernel
theorem dX11_readsColour_145 : decode cX11_readsColour 145 = .ok (.aload_n 0, 1) := by decide +kernel
theorem dX11_readsColour_146 : decode cX11_readsColour 146 = .ok (.getfield 141, 3) := by decide +kernel
theorem dX11_readsColour_149 : decode cX11_readsColour 149 = .ok (.aload_n 0, 1) := by decide +kernel
theorem dX11_readsColour_150 : decode cX11_readsColour 150 = .ok (.getfield 19, 3) := by decide +kernel
theorem dX11_readsColour_153 : decode cX11_readsColour 153 = .ok (.bipush 90, 2) := by decide +kernel
theorem dX11_readsColour_155 : decode cX11_readsColour 155 = .ok (.iload_n 1, 1) := by decide +kernel
theorem dX11_readsColour_156 : decode cX11_readsColour 156 = .ok (.imul, 1) := by decide +kernel
theorem dX11_readsColour_157 : decode cX11_readsColour 157 = .ok (.aload_n 0, 1) := by decide +kernel
theorem dX11_readsColour_158 : decode cX11_readsColour 158 = .ok (.getfield 116, 3) := by decide +kernel
theorem dX11_readsColour_161 : decode cX11_readsColour 161 = .ok (.iadd, 1) := by decide +kernel
theorem dX11_readsColour_162 : decode cX11_readsColour 162 = .ok (.iconst 2, 1) := by decide +kernel
theorem dX11_readsColour_163 : decode cX11_readsColour 163 = .ok (.isub, 1) := by decide +kernel
theorem dX11_readsColour_164 : decode cX11_readsColour 164 = .ok (.iaload, 1) := by decide +kernel
theorem dX11_readsColour_165 : decode cX11_readsColour 165 = .ok (.bipush 48, 2) := by decide +kernel
theorem dX11_readsColour_167 : decode cX11_readsColour 167 = .ok (.isub, 1) := by decide +kernel
theorem dX11_readsColour_168 : decode cX11_readsColour 168 = .ok (.iastore, 1) := by decide +kernel
theorem dX11_readsColour_169 : decode cX11_readsColour 169 = .ok (.aload_n 0, 1) := by decide +kernel
theorem dX11_readsColour_170 : decode cX11_readsColour 170 = .ok (.getfield 72, 3) := by decide +kernel
theorem dX11_readsColour_173 : decode cX11_readsColour 173 = .ok (.aload_n 0, 1) := by decide +kernel
theorem dX11_readsColour_174 : decode cX11_readsColour 174 = .ok (.getfield 141, 3) := by decide +kernel
theorem dX11_readsColour_177 : decode cX11_readsColour 177 = .ok (.aload_n 0, 1) := by decide +kernel
theorem dX11_readsColour_178 : decode cX11_readsColour 178 = .ok (.getfield 19, 3) := by decide +kernel
theorem dX11_readsColour_181 : decode cX11_readsColour 181 = .ok (.bipush 90, 2) := by decide +kernel
theorem dX11_readsColour_183 : decode cX11_readsColour 183 = .ok (.iload_n 1, 1) := by decide +kernel
theorem dX11_readsColour_184 : decode cX11_readsColour 184 = .ok (.imul, 1) := by decide +kernel
theorem dX11_readsColour_185 : decode cX11_readsColour 185 = .ok (.aload_n 0, 1) := by decide +kernel
theorem dX11_readsColour_186 : decode cX11_readsColour 186 = .ok (.getfield 116, 3) := by decide +kernel
theorem dX11_readsColour_189 : decode cX11_readsColour 189 = .ok (.iadd, 1) := by decide +kernel
theorem dX11_readsColour_190 : decode cX11_readsColour 190 = .ok (.iconst 1, 1) := by decide +kernel
theorem dX11_readsColour_191 : decode cX11_readsColour 191 = .ok (.isub, 1) := by decide +kernel
theorem dX11_readsColour_192 : decode cX11_readsColour 192 = .ok (.iaload, 1) := by decide +kernel
theorem dX11_readsColour_193 : decode cX11_readsColour 193 = .ok (.bipush 48, 2) := by decide +kernel
theorem dX11_readsColour_195 : decode cX11_readsColour 195 = .ok (.isub, 1) := by decide +kernel
theorem dX11_readsColour_196 : decode cX11_readsColour 196 = .ok (.iastore, 1) := by decide +kernel
theorem dX11_readsColour_197 : decode cX11_readsColour 197 = .ok (.aload_n 0, 1) := by decide +kernel
theorem dX11_readsColour_198 : decode cX11_readsColour 198 = .ok (.dup, 1) := by decide +kernel
theorem dX11_readsColour_199 : decode cX11_readsColour 199 = .ok (.getfield 141, 3) := by decide +kernel
theorem dX11_readsColour_202 : decode cX11_readsColour 202 = .ok (.iconst 1, 1) := by decide +kernel
theorem dX11_readsColour_203 : decode cX11_readsColour 203 = .ok (.iadd, 1) := by decide +kernel
theorem dX11_readsColour_204 : decode cX11_readsColour 204 = .ok (.putfield 141, 3) := by decide +kernel
theorem dX11_readsColour_207 : decode cX11_readsColour 207 = .ok (.aload_n 0, 1) := by decide +kernel
theorem dX11_readsColour_208 : decode cX11_readsColour 208 = .ok (.iload_n 1, 1) := by decide +kernel
theorem dX11_readsColour_209 : decode cX11_readsColour 209 = .ok (.invokevirtual 138, 3) := by decide +kernel
theorem dX11_readsColour_212 : decode cX11_readsColour 212 = .ok (.ireturn, 1) := by decide +kernel
def fX11_readsColour_L18 (p1 : Int32) (w1 : Int32) : Nat → St → Int32 → (St → Int32 → Option (St × Int32)) → Option (St × Int32)
  | 0, _, _, _ => none
  | n + 1, σ2, v3, k => (if 7 ≤ v3 then k σ2 v3 else wr LM σ2 18 ((7 * (σ2.1 0 26)) + v3) 0 (fun σ4 => fX11_readsColour_L18 p1 w1 n σ4 (v3 + 1) k))
def fX11_readsColour_L45 (p1 : Int32) (w1 : Int32) : Nat → St → (St → Option (St × Int32)) → Option (St × Int32)
  | 0, _, _ => none
  | n + 1, σ7, k => cl (fX11_here σ7 p1) (fun σ8 r9 => cl (fX11_isLetter σ8 r9) (fun σ10 r11 => (if r11 = 0 then k σ10 else (if ((σ10.1 0 22) - w1) = 7 then some (σ10, 0) else cl (fX11_here σ10 p1) (fun σ12 r13 => wr LM σ12 18 (((7 * (σ10.1 0 26)) + (σ10.1 0 22)) - w1) r13 (fun σ14 => pt (su σ14 0 22 ((σ14.1 0 22) + 1)) (fun σ15 => fX11_readsColour_L45 p1 w1 n σ15 k)))))))
def fX11_readsColour (σ : St) (p1 : Int32) : Option (St × Int32) := (if (σ.1 0 26) = 8 then some (σ, 0) else pv (σ.1 0 22) (fun (w1 : Int32) => fX11_readsColour_L18 p1 w1 10000 σ 0 (fun σ5 v6 => fX11_readsColour_L45 p1 w1 10000 σ5 (fun σ16 => cl (fX11_isToldAlready σ16) (fun σ17 r18 => (if r18 = 0 then cl (fX11_figure σ17 p1 1) (fun σ19 r20 => (if r20 = 0 then some (σ19, 0) else cl (fX11_figure σ19 p1 1) (fun σ21 r22 => (if r22 = 0 then some (σ21, 0) else rd LM σ21 4 (((90 * p1) + (σ21.1 0 22)) - 2) (fun x23 => wr LM σ21 19 (σ21.1 0 26) (x23 - 48) (fun σ24 => rd LM σ24 4 (((90 * p1) + (σ24.1 0 22)) - 1) (fun x25 => wr LM σ24 20 (σ24.1 0 26) (x25 - 48) (fun σ26 => pt (su σ26 0 26 ((σ26.1 0 26) + 1)) (fun σ27 => cl (fX11_ends σ27 p1) (fun σ28 r29 => gd (isB r29) (some (σ28, r29)))))))))))) else pt (su σ17 0 22 w1) (fun σ30 => some (σ30, 0))))))))
set_option maxHeartbeats 4000000 in
set_option maxRecDepth 100000 in
theorem ctX11_readsColour (l : Launch) (g : GG) (σ : St) (p1 : Int32) (σ' : St) (r : Int32) (hE : fX11_readsColour σ p1 = some (σ', r)) : MI 25 entM l g yX11_readsColour (Cond.code yX11_readsColour cX11_readsColour 4 (some .boolean) :: gtbl) (rmD 3) [.ref (g.2.1 0), .int p1] σ σ' r := by
  refine mi_z (own := RX11) (lv := [(0, .ref (g.2.1 0)), (1, .int p1)]) (by decide) rfl (Nat.le_of_ble_eq_true rfl) rfl (fun p e s m below meth c ls args Q A H0 H locs C hK hA hQ hs hl => ?_)
  have hx := C.1
  have hb := C.2.1
  unfold fX11_readsColour at hE
  refine lv_aload_n hx hb dX11_readsColour_0 rfl (lv_at hl 0 rfl) ?_
  refine gf_X11_116_0 C hK hs dX11_readsColour_1 ?_
  refine lv_istore_n (lv' := [(2, .int (σ.1 0 22)), (0, .ref (g.2.1 0)), (1, .int p1)]) hx hb dX11_readsColour_4 rfl hl (by decide) rfl (fun ls hl => ?_)
  refine lv_aload_n hx hb dX11_readsColour_5 rfl (lv_at hl 1 rfl) ?_
  refine gf_X11_141_0 C hK hs dX11_readsColour_6 ?_
  refine lv_bipush (v := 8) hx hb dX11_readsColour_9 (by decide) ?_
  refine lv_icmp_ne (tgt := 16) hx hb dX11_readsColour_11 (by decide) (fun hc => ?_) (fun hc => ?_)
  · have hE := if_f hc hE
    refine lv_iconst (v := 0) hx hb dX11_readsColour_16 (by decide) ?_
    refine lv_istore_n (lv' := [(3, .int 0), (2, .int (σ.1 0 22)), (0, .ref (g.2.1 0)), (1, .int p1)]) hx hb dX11_readsColour_17 rfl hl (by decide) rfl (fun ls hl => ?_)
    obtain ⟨w1, ew1, hE⟩ := pv_w hE
    have hl : lv_has ls 4 [(3, .int 0), (2, .int w1), (0, .ref (g.2.1 0)), (1, .int p1)] := by rw [ew1]; exact hl
    have hL18 : ∀ (n : Nat) (σ2 : St) (v3 : Int32) (k : St → Int32 → Option (St × Int32)), fX11_readsColour_L18 p1 w1 n σ2 v3 k = some (σ', r) → (∀ (σ2 : St) (v3 : Int32) (H : Heap) (locs : List Loc) (ls : Array Slot), HW 25 entM g A H0 H locs σ2 → lv_has ls 4 [(0, .ref (g.2.1 0)), (1, .int p1), (2, .int w1), (3, .int v3)] → k σ2 v3 = some (σ', r) → W p l e (rmD 3) s m args below meth c H locs 0 0 Q (F0 m 45 ls [])) → ∀ (H : Heap) (locs : List Loc) (ls : Array Slot), HW 25 entM g A H0 H locs σ2 → lv_has ls 4 [(0, .ref (g.2.1 0)), (1, .int p1), (2, .int w1), (3, .int v3)] → W p l e (rmD 3) s m args below meth c H locs 0 0 Q (F0 m 18 ls []) := by
      intro n
      induction n with
      | zero =>
        intro σ2 v3 k hE
        rw [fX11_readsColour_L18] at hE
        exact no_e hE
      | succ n ih =>
        intro σ2 v3 k hE hk H locs ls hs hl
        rw [fX11_readsColour_L18] at hE
        refine lv_iload_n hx hb dX11_readsColour_18 rfl (lv_at hl 3 rfl) ?_
        refine lv_bipush (v := 7) hx hb dX11_readsColour_19 (by decide) ?_
        refine lv_icmp_ge (tgt := 45) hx hb dX11_readsColour_21 (by decide) (fun hc => ?_) (fun hc => ?_)
        · have hE := if_t hc hE
          exact hk σ2 v3 _ _ _ hs (lv_sub hl [0, 1, 2, 3] rfl) hE
        · have hE := if_f hc hE
          refine lv_aload_n hx hb dX11_readsColour_24 rfl (lv_at hl 0 rfl) ?_
          refine gf_X11_66_0 C hK hs dX11_readsColour_25 ?_
          refine lv_bipush (v := 7) hx hb dX11_readsColour_28 (by decide) ?_
          refine lv_aload_n hx hb dX11_readsColour_30 rfl (lv_at hl 0 rfl) ?_
          refine gf_X11_141_0 C hK hs dX11_readsColour_31 ?_
          refine lv_imul hx hb dX11_readsColour_34 ?_
          refine lv_iload_n hx hb dX11_readsColour_35 rfl (lv_at hl 3 rfl) ?_
          refine lv_iadd hx hb dX11_readsColour_36 ?_
          refine lv_iconst (v := 0) hx hb dX11_readsColour_37 (by decide) ?_
          obtain ⟨hi, σ4, eσ4, hE⟩ := wr_w hE
          refine y_ast layM C hK hs hi eσ4 dX11_readsColour_38 (fun H locs hs => ?_)
          refine lv_iinc (v := v3 + 1) (lv' := [(3, .int (v3 + 1)), (0, .ref (g.2.1 0)), (1, .int p1), (2, .int w1)]) hx hb dX11_readsColour_39 hl (k := 3) rfl rfl (by decide) rfl (fun ls hl => ?_)
          refine lv_goto (tgt := 18) hx hb dX11_readsColour_42 (by decide) ?_
          exact ih _ _ _ hE hk _ _ _ hs (lv_sub hl [1, 2, 3, 0] rfl)
    refine hL18 _ _ _ _ hE (fun σ5 v6 H locs ls hs hl hE => ?_) H locs ls hs (lv_sub hl [2, 3, 1, 0] rfl)
    have hL45 : ∀ (n : Nat) (σ7 : St)  (k : St → Option (St × Int32)), fX11_readsColour_L45 p1 w1 n σ7  k = some (σ', r) → (∀ (σ7 : St)  (H : Heap) (locs : List Loc) (ls : Array Slot), HW 25 entM g A H0 H locs σ7 → lv_has ls 4 [(0, .ref (g.2.1 0)), (1, .int p1), (2, .int w1)] → k σ7  = some (σ', r) → W p l e (rmD 3) s m args below meth c H locs 0 0 Q (F0 m 107 ls [])) → ∀ (H : Heap) (locs : List Loc) (ls : Array Slot), HW 25 entM g A H0 H locs σ7 → lv_has ls 4 [(0, .ref (g.2.1 0)), (1, .int p1), (2, .int w1)] → W p l e (rmD 3) s m args below meth c H locs 0 0 Q (F0 m 45 ls []) := by
      intro n
      induction n with
      | zero =>
        intro σ7  k hE
        rw [fX11_readsColour_L45] at hE
        exact no_e hE
      | succ n ih =>
        intro σ7  k hE hk H locs ls hs hl
        rw [fX11_readsColour_L45] at hE
        refine lv_aload_n hx hb dX11_readsColour_45 rfl (lv_at hl 0 rfl) ?_
        refine lv_aload_n hx hb dX11_readsColour_46 rfl (lv_at hl 0 rfl) ?_
        refine lv_iload_n hx hb dX11_readsColour_47 rfl (lv_at hl 1 rfl) ?_
        obtain ⟨σ8, r9, hE1, hE⟩ := cl_e hE
        refine x_civ (As := [.int p1]) (rest := [.ref (g.2.1 0)]) C hl.1 hK hs hA ⟨Nat.le_refl 0, Nat.le_refl 0⟩ (ctX11_here l g _ _ _ _ hE1) (cw_X11_119 C ⟨Nat.le_of_ble_eq_true rfl, Nat.le_of_ble_eq_true rfl⟩) (hs.recv hK 0 (by decide) rfl rfl) rfl rfl (Nat.le_of_ble_eq_true rfl) dX11_readsColour_48 (fun H locs hs => ?_)
        obtain ⟨σ10, r11, hE1, hE⟩ := cl_e hE
        refine x_civ (As := [.int r9]) (rest := []) C hl.1 hK hs hA ⟨Nat.le_refl 0, Nat.le_refl 0⟩ (ctX11_isLetter l g _ _ _ _ hE1) (cw_X11_144 C ⟨Nat.le_of_ble_eq_true rfl, Nat.le_of_ble_eq_true rfl⟩) (hs.recv hK 0 (by decide) rfl rfl) rfl rfl (Nat.le_of_ble_eq_true rfl) dX11_readsColour_51 (fun H locs hs => ?_)
        refine lv_if_eq (tgt := 107) hx hb dX11_readsColour_54 (by decide) (fun hc => ?_) (fun hc => ?_)
        · have hE := if_t hc hE
          exact hk σ10  _ _ _ hs (lv_sub hl [0, 1, 2] rfl) hE
        · have hE := if_f hc hE
          refine lv_aload_n hx hb dX11_readsColour_57 rfl (lv_at hl 0 rfl) ?_
          refine gf_X11_116_0 C hK hs dX11_readsColour_58 ?_
          refine lv_iload_n hx hb dX11_readsColour_61 rfl (lv_at hl 2 rfl) ?_
          refine lv_isub hx hb dX11_readsColour_62 ?_
          refine lv_bipush (v := 7) hx hb dX11_readsColour_63 (by decide) ?_
          refine lv_icmp_ne (tgt := 70) hx hb dX11_readsColour_65 (by decide) (fun hc => ?_) (fun hc => ?_)
          · have hE := if_f hc hE
            refine lv_aload_n hx hb dX11_readsColour_70 rfl (lv_at hl 0 rfl) ?_
            refine gf_X11_66_0 C hK hs dX11_readsColour_71 ?_
            refine lv_bipush (v := 7) hx hb dX11_readsColour_74 (by decide) ?_
            refine lv_aload_n hx hb dX11_readsColour_76 rfl (lv_at hl 0 rfl) ?_
            refine gf_X11_141_0 C hK hs dX11_readsColour_77 ?_
            refine lv_imul hx hb dX11_readsColour_80 ?_
            refine lv_aload_n hx hb dX11_readsColour_81 rfl (lv_at hl 0 rfl) ?_
            refine gf_X11_116_0 C hK hs dX11_readsColour_82 ?_
            refine lv_iadd hx hb dX11_readsColour_85 ?_
            refine lv_iload_n hx hb dX11_readsColour_86 rfl (lv_at hl 2 rfl) ?_
            refine lv_isub hx hb dX11_readsColour_87 ?_
            refine lv_aload_n hx hb dX11_readsColour_88 rfl (lv_at hl 0 rfl) ?_
            refine lv_iload_n hx hb dX11_readsColour_89 rfl (lv_at hl 1 rfl) ?_
            obtain ⟨σ12, r13, hE1, hE⟩ := cl_e hE
            refine x_civ (As := [.int p1]) (rest := [.int (((7 * (σ10.1 0 26)) + (σ10.1 0 22)) - w1), .ref (g.2.1 18)]) C hl.1 hK hs hA ⟨Nat.le_refl 0, Nat.le_refl 0⟩ (ctX11_here l g _ _ _ _ hE1) (cw_X11_119 C ⟨Nat.le_of_ble_eq_true rfl, Nat.le_of_ble_eq_true rfl⟩) (hs.recv hK 0 (by decide) rfl rfl) rfl rfl (Nat.le_of_ble_eq_true rfl) dX11_readsColour_90 (fun H locs hs => ?_)
            obtain ⟨hi, σ14, eσ14, hE⟩ := wr_w hE
            refine y_ast layM C hK hs hi eσ14 dX11_readsColour_93 (fun H locs hs => ?_)
            refine lv_aload_n hx hb dX11_readsColour_94 rfl (lv_at hl 0 rfl) ?_
            refine lv_dup hx hb dX11_readsColour_95 rfl ?_
            refine gf_X11_116_0 C hK hs dX11_readsColour_96 ?_
            refine lv_iconst (v := 1) hx hb dX11_readsColour_99 (by decide) ?_
            refine lv_iadd hx hb dX11_readsColour_100 ?_
            obtain ⟨σ15, eσ15, hE⟩ := pt_w hE
            refine pf_X11_116_0 C hK hs eσ15 dX11_readsColour_101 (fun H locs hs => ?_)
            refine lv_goto (tgt := 45) hx hb dX11_readsColour_104 (by decide) ?_
            exact ih _  _ hE hk _ _ _ hs (lv_sub hl [0, 1, 2] rfl)
          · have hE := if_t hc hE
            refine lv_iconst (v := 0) hx hb dX11_readsColour_68 (by decide) ?_
            exact hQ hs rfl hE dX11_readsColour_69
    refine hL45 _ _  _ hE (fun σ16  H locs ls hs hl hE => ?_) H locs ls hs (lv_sub hl [0, 1, 2] rfl)
    refine lv_aload_n hx hb dX11_readsColour_107 rfl (lv_at hl 0 rfl) ?_
    obtain ⟨σ17, r18, hE1, hE⟩ := cl_e hE
    refine x_civ (As := []) (rest := []) C hl.1 hK hs hA ⟨Nat.le_refl 0, Nat.le_refl 0⟩ (ctX11_isToldAlready l g _  _ _ hE1) (cw_X11_147 C ⟨Nat.le_of_ble_eq_true rfl, Nat.le_of_ble_eq_true rfl⟩) (hs.recv hK 0 (by decide) rfl rfl) rfl rfl (Nat.le_of_ble_eq_true rfl) dX11_readsColour_108 (fun H locs hs => ?_)
    refine lv_if_eq (tgt := 121) hx hb dX11_readsColour_111 (by decide) (fun hc => ?_) (fun hc => ?_)
    · have hE := if_t hc hE
      refine lv_aload_n hx hb dX11_readsColour_121 rfl (lv_at hl 0 rfl) ?_
      refine lv_iload_n hx hb dX11_readsColour_122 rfl (lv_at hl 1 rfl) ?_
      refine lv_iconst (v := 1) hx hb dX11_readsColour_123 (by decide) ?_
      obtain ⟨σ19, r20, hE1, hE⟩ := cl_e hE
      refine x_civ (As := [.int p1, .int 1]) (rest := []) C hl.1 hK hs hA ⟨Nat.le_refl 0, Nat.le_refl 0⟩ (ctX11_figure l g _ _ _ _ _ hE1) (cw_X11_134 C ⟨Nat.le_of_ble_eq_true rfl, Nat.le_of_ble_eq_true rfl⟩) (hs.recv hK 0 (by decide) rfl rfl) rfl rfl (Nat.le_of_ble_eq_true rfl) dX11_readsColour_124 (fun H locs hs => ?_)
      refine lv_if_eq (tgt := 139) hx hb dX11_readsColour_127 (by decide) (fun hc => ?_) (fun hc => ?_)
      · have hE := if_t hc hE
        refine lv_iconst (v := 0) hx hb dX11_readsColour_139 (by decide) ?_
        exact hQ hs rfl hE dX11_readsColour_140
      · have hE := if_f hc hE
        refine lv_aload_n hx hb dX11_readsColour_130 rfl (lv_at hl 0 rfl) ?_
        refine lv_iload_n hx hb dX11_readsColour_131 rfl (lv_at hl 1 rfl) ?_
        refine lv_iconst (v := 1) hx hb dX11_readsColour_132 (by decide) ?_
        obtain ⟨σ21, r22, hE1, hE⟩ := cl_e hE
        refine x_civ (As := [.int p1, .int 1]) (rest := []) C hl.1 hK hs hA ⟨Nat.le_refl 0, Nat.le_refl 0⟩ (ctX11_figure l g _ _ _ _ _ hE1) (cw_X11_134 C ⟨Nat.le_of_ble_eq_true rfl, Nat.le_of_ble_eq_true rfl⟩) (hs.recv hK 0 (by decide) rfl rfl) rfl rfl (Nat.le_of_ble_eq_true rfl) dX11_readsColour_133 (fun H locs hs => ?_)
        refine lv_if_ne (tgt := 141) hx hb dX11_readsColour_136 (by decide) (fun hc => ?_) (fun hc => ?_)
        · have hE := if_f hc hE
          refine lv_aload_n hx hb dX11_readsColour_141 rfl (lv_at hl 0 rfl) ?_
          refine gf_X11_69_0 C hK hs dX11_readsColour_142 ?_
          refine lv_aload_n hx hb dX11_readsColour_145 rfl (lv_at hl 0 rfl) ?_
          refine gf_X11_141_0 C hK hs dX11_readsColour_146 ?_
          refine lv_aload_n hx hb dX11_readsColour_149 rfl (lv_at hl 0 rfl) ?_
          refine gf_X11_19_0 C hK hs dX11_readsColour_150 ?_
          refine lv_bipush (v := 90) hx hb dX11_readsColour_153 (by decide) ?_
          refine lv_iload_n hx hb dX11_readsColour_155 rfl (lv_at hl 1 rfl) ?_
          refine lv_imul hx hb dX11_readsColour_156 ?_
          refine lv_aload_n hx hb dX11_readsColour_157 rfl (lv_at hl 0 rfl) ?_
          refine gf_X11_116_0 C hK hs dX11_readsColour_158 ?_
          refine lv_iadd hx hb dX11_readsColour_161 ?_
          refine lv_iconst (v := 2) hx hb dX11_readsColour_162 (by decide) ?_
          refine lv_isub hx hb dX11_readsColour_163 ?_
          obtain ⟨hi, x23, ex23, hE⟩ := rd_w hE
          refine y_ald layM C hK hs hi ex23 dX11_readsColour_164 ?_
          refine lv_bipush (v := 48) hx hb dX11_readsColour_165 (by decide) ?_
          refine lv_isub hx hb dX11_readsColour_167 ?_
          obtain ⟨hi, σ24, eσ24, hE⟩ := wr_w hE
          refine y_ast layM C hK hs hi eσ24 dX11_readsColour_168 (fun H locs hs => ?_)
          refine lv_aload_n hx hb dX11_readsColour_169 rfl (lv_at hl 0 rfl) ?_
          refine gf_X11_72_0 C hK hs dX11_readsColour_170 ?_
          refine lv_aload_n hx hb dX11_readsColour_173 rfl (lv_at hl 0 rfl) ?_
          refine gf_X11_141_0 C hK hs dX11_readsColour_174 ?_
          refine lv_aload_n hx hb dX11_readsColour_177 rfl (lv_at hl 0 rfl) ?_
          refine gf_X11_19_0 C hK hs dX11_readsColour_178 ?_
          refine lv_bipush (v := 90) hx hb dX11_readsColour_181 (by decide) ?_
          refine lv_iload_n hx hb dX11_readsColour_183 rfl (lv_at hl 1 rfl) ?_
          refine lv_imul hx hb dX11_readsColour_184 ?_
          refine lv_aload_n hx hb dX11_readsColour_185 rfl (lv_at hl 0 rfl) ?_
          refine gf_X11_116_0 C hK hs dX11_readsColour_186 ?_
          refine lv_iadd hx hb dX11_readsColour_189 ?_
          refine lv_iconst (v := 1) hx hb dX11_readsColour_190 (by decide) ?_
          refine lv_isub hx hb dX11_readsColour_191 ?_
          obtain ⟨hi, x25, ex25, hE⟩ := rd_w hE
          refine y_ald layM C hK hs hi ex25 dX11_readsColour_192 ?_
          refine lv_bipush (v := 48) hx hb dX11_readsColour_193 (by decide) ?_
          refine lv_isub hx hb dX11_readsColour_195 ?_
          obtain ⟨hi, σ26, eσ26, hE⟩ := wr_w hE
          refine y_ast layM C hK hs hi eσ26 dX11_readsColour_196 (fun H locs hs => ?_)
          refine lv_aload_n hx hb dX11_readsColour_197 rfl (lv_at hl 0 rfl) ?_
          refine lv_dup hx hb dX11_readsColour_198 rfl ?_
          refine gf_X11_141_0 C hK hs dX11_readsColour_199 ?_
          refine lv_iconst (v := 1) hx hb dX11_readsColour_202 (by decide) ?_
          refine lv_iadd hx hb dX11_readsColour_203 ?_
          obtain ⟨σ27, eσ27, hE⟩ := pt_w hE
          refine pf_X11_141_0 C hK hs eσ27 dX11_readsColour_204 (fun H locs hs => ?_)
          refine lv_aload_n hx hb dX11_readsColour_207 rfl (lv_at hl 0 rfl) ?_
          refine lv_iload_n hx hb dX11_readsColour_208 rfl (lv_at hl 1 rfl) ?_
          obtain ⟨σ28, r29, hE1, hE⟩ := cl_e hE
          refine x_civ (As := [.int p1]) (rest := []) C hl.1 hK hs hA ⟨Nat.le_refl 0, Nat.le_refl 0⟩ (ctX11_ends l g _ _ _ _ hE1) (cw_X11_138 C ⟨Nat.le_of_ble_eq_true rfl, Nat.le_of_ble_eq_true rfl⟩) (hs.recv hK 0 (by decide) rfl rfl) rfl rfl (Nat.le_of_ble_eq_true rfl) dX11_readsColour_209 (fun H locs hs => ?_)
          obtain ⟨hc, hE⟩ := gd_e hE
          exact hQ hs hc hE dX11_readsColour_212
        · have hE := if_t hc hE
          refine lv_iconst (v := 0) hx hb dX11_readsColour_139 (by decide) ?_
          exact hQ hs rfl hE dX11_readsColour_140
    · have hE := if_f hc hE
      refine lv_aload_n hx hb dX11_readsColour_114 rfl (lv_at hl 0 rfl) ?_
      refine lv_iload_n hx hb dX11_readsColour_115 rfl (lv_at hl 2 rfl) ?_
      obtain ⟨σ30, eσ30, hE⟩ := pt_w hE
      refine pf_X11_116_0 C hK hs eσ30 dX11_readsColour_116 (fun H locs hs => ?_)
      refine lv_iconst (v := 0) hx hb dX11_readsColour_119 (by decide) ?_
      exact hQ hs rfl hE dX11_readsColour_120
  · have hE := if_t hc hE
    refine lv_iconst (v := 0) hx hb dX11_readsColour_14 (by decide) ?_
    exact hQ hs rfl hE dX11_readsColour_15
theorem dX11_reads_0 : decode cX11_reads 0 = .ok (.aload_n 0, 1) := by decide +kernel
theorem dX11_reads_1 : decode cX11_reads 1 = .ok (.iconst 0, 1) := by decide +kernel
theorem dX11_reads_2 : decode cX11_reads 2 = .ok (.putfield 116, 3) := by decide +kernel
theorem dX11_reads_5 : decode cX11_reads 5 = .ok (.aload_n 0, 1) := by decide +kernel
theorem dX11_reads_6 : decode cX11_reads 6 = .ok (.iconst 0, 1) := by decide +kernel
theorem dX11_reads_7 : decode cX11_reads 7 = .ok (.putfield 131, 3) := by decide +kernel
theorem dX11_reads_10 : decode cX11_reads 10 = .ok (.aload_n 0, 1) := by decide +kernel
theorem dX11_reads_11 : decode cX11_reads 11 = .ok (.iconst 0, 1) := by decide +kernel
theorem dX11_reads_12 : decode cX11_reads 12 = .ok (.putfield 141, 3) := by decide +kernel
theorem dX11_reads_15 : decode cX11_reads 15 = .ok (.aload_n 0, 1) := by decide +kernel
theorem dX11_reads_16 : decode cX11_reads 16 = .ok (.getfield 116, 3) := by decide +kernel
theorem dX11_reads_19 : decode cX11_reads 19 = .ok (.aload_n 0, 1) := by decide +kernel
theorem dX11_reads_20 : decode cX11_reads 20 = .ok (.getfield 16, 3) := by decide +kernel
theorem dX11_reads_23 : decode cX11_reads 23 = .ok (.iload_n 1, 1) := by decide +kernel
theorem dX11_reads_24 : decode cX11_reads 24 = .ok (.iaload, 1) := by decide +kernel
theorem dX11_reads_25 : decode cX11_reads 25 = .ok (.if_icmp .ge 62, 3) := by decide +kernel
theorem dX11_reads_28 : decode cX11_reads 28 = .ok (.aload_n 0, 1) := by decide +kernel
theorem dX11_reads_29 : decode cX11_reads 29 = .ok (.iload_n 1, 1) := by decide +kernel
theorem dX11_reads_30 : decode cX11_reads 30 = .ok (.invokevirtual 119, 3) := by decide +kernel
theorem dX11_reads_33 : decode cX11_reads 33 = .ok (.bipush 32, 2) := by decide +kernel
theorem dX11_reads_35 : decode cX11_reads 35 = .ok (.if_icmp .ne 16, 3) := by decide +kernel
theorem dX11_reads_38 : decode cX11_reads 38 = .ok (.aload_n 0, 1) := by decide +kernel
theorem dX11_reads_39 : decode cX11_reads 39 = .ok (.dup, 1) := by decide +kernel
theorem dX11_reads_40 : decode cX11_reads 40 = .ok (.getfield 116, 3) := by decide +kernel
theorem dX11_reads_43 : decode cX11_reads 43 = .ok (.iconst 1, 1) := by decide +kernel
theorem dX11_reads_44 : decode cX11_reads 44 = .ok (.iadd, 1) := by decide +kernel
theorem dX11_reads_45 : decode cX11_reads 45 = .ok (.putfield 116, 3) := by decide +kernel
theorem dX11_reads_48 : decode cX11_reads 48 = .ok (.goto (-33), 3) := by decide +kernel
theorem dX11_reads_51 : decode cX11_reads 51 = .ok (.aload_n 0, 1) := by decide +kernel
theorem dX11_reads_52 : decode cX11_reads 52 = .ok (.aload_n 0, 1) := by decide +kernel
theorem dX11_reads_53 : decode cX11_reads 53 = .ok (.iload_n 1, 1) := by decide +kernel
theorem dX11_reads_54 : decode cX11_reads 54 = .ok (.invokevirtual 119, 3) := by decide +kernel
theorem dX11_reads_57 : decode cX11_reads 57 = .ok (.invokevirtual 144, 3) := by decide +kernel
theorem dX11_reads_60 : decode cX11_reads 60 = .ok (.ifCond .eq 14, 3) := by decide +kernel
theorem dX11_reads_63 : decode cX11_reads 63 = .ok (.aload_n 0, 1) := by decide +kernel
theorem dX11_reads_64 : decode cX11_reads 64 = .ok (.iload_n 1, 1) := by decide +kernel
theorem dX11_reads_65 : decode cX11_reads 65 = .ok (.invokevirtual 151, 3) := by decide +kernel
theorem dX11_reads_68 : decode cX11_reads 68 = .ok (.ifCond .eq 14, 3) := by decide +kernel
theorem dX11_reads_71 : decode cX11_reads 71 = .ok (.goto (-56), 3) := by decide +kernel
theorem dX11_reads_74 : decode cX11_reads 74 = .ok (.aload_n 0, 1) := by decide +kernel
theorem dX11_reads_75 : decode cX11_reads 75 = .ok (.iload_n 1, 1) := by decide +kernel
theorem dX11_reads_76 : decode cX11_reads 76 = .ok (.invokevirtual 154, 3) := by decide +kernel
theorem dX11_reads_79 : decode cX11_reads 79 = .ok (.ifCond .ne (-64), 3) := by decide +kernel
theorem dX11_reads_82 : decode cX11_reads 82 = .ok (.aload_n 0, 1) := by decide +kernel
theorem dX11_reads_83 : decode cX11_reads 83 = .ok (.getfield 116, 3) := by decide +kernel
theorem dX11_reads_86 : decode cX11_reads 86 = .ok (.ireturn, 1) := by decide +kernel
theorem dX11_reads_87 : decode cX11_reads 87 = .ok (.aload_n 0, 1) := by decide +kernel
theorem dX11_reads_88 : decode cX11_reads 88 = .ok (.getfield 131, 3) := by decide +kernel
theorem dX11_reads_91 : decode cX11_reads 91 = .ok (.iconst 2, 1) := by decide +kernel
theorem dX11_reads_92 : decode cX11_reads 92 = .ok (.if_icmp .lt 10, 3) := by decide +kernel
theorem dX11_reads_95 : decode cX11_reads 95 = .ok (.aload_n 0, 1) := by decide +kernel
theorem dX11_reads_96 : decode cX11_reads 96 = .ok (.getfield 141, 3) := by decide +kernel
theorem dX11_reads_99 : decode cX11_reads 99 = .ok (.ifCond .ne 12, 3) := by decide +kernel
theorem dX11_reads_102 : decode cX11_reads 102 = .ok (.aload_n 0, 1) := by decide +kernel
theorem dX11_reads_103 : decode cX11_reads 103 = .ok (.getfield 16, 3) := by decide +kernel
theorem dX11_reads_106 : decode cX11_reads 106 = .ok (.iload_n 1, 1) := by decide +kernel
theorem dX11_reads_107 : decode cX11_reads 107 = .ok (.iaload, 1) := by decide +kernel
theorem dX11_reads_108 : decode cX11_reads 108 = .ok (.goto 5, 3) := by decide +kernel
theorem dX11_reads_111 : decode cX11_reads 111 = .ok (.bipush (-9), 2) := by decide +kernel
theorem dX11_reads_113 : decode cX11_reads 113 = .ok (.ireturn, 1) := by decide +kernel
def fX11_reads_L15 (p1 : Int32) : Nat → St → (St → Option (St × Int32)) → Option (St × Int32)
  | 0, _, _ => none
  | n + 1, σ4, k => rd LM σ4 3 p1 (fun x5 => (if x5 ≤ (σ4.1 0 22) then jn (rd LM σ4 3 p1 (fun x7 => some (σ4, x7))) (fun k6 => (if (σ4.1 0 23) < 2 then k6 else (if (σ4.1 0 26) = 0 then k6 else some (σ4, (-9))))) else cl (fX11_here σ4 p1) (fun σ8 r9 => (if r9 = 32 then pt (su σ8 0 22 ((σ8.1 0 22) + 1)) (fun σ18 => fX11_reads_L15 p1 n σ18 k) else cl (fX11_here σ8 p1) (fun σ10 r11 => cl (fX11_isLetter σ10 r11) (fun σ12 r13 => (if r13 = 0 then cl (fX11_readsHouse σ12 p1) (fun σ14 r15 => (if r15 = 0 then k σ14 else fX11_reads_L15 p1 n σ14 k)) else cl (fX11_readsColour σ12 p1) (fun σ16 r17 => (if r17 = 0 then k σ16 else fX11_reads_L15 p1 n σ16 k)))))))))
def fX11_reads (σ : St) (p1 : Int32) : Option (St × Int32) := pt (su σ 0 22 0) (fun σ1 => pt (su σ1 0 23 0) (fun σ2 => pt (su σ2 0 26 0) (fun σ3 => fX11_reads_L15 p1 10000 σ3 (fun σ19 => some (σ19, σ19.1 0 22)))))
set_option maxHeartbeats 4000000 in
set_option maxRecDepth 100000 in
theorem ctX11_reads (l : Launch) (g : GG) (σ : St) (p1 : Int32) (σ' : St) (r : Int32) (hE : fX11_reads σ p1 = some (σ', r)) : MI 25 entM l g yX11_reads (Cond.code yX11_reads cX11_reads 2 (some .int) :: gtbl) (rmD 4) [.ref (g.2.1 0), .int p1] σ σ' r := by
  refine mi_i (own := RX11) (lv := [(0, .ref (g.2.1 0)), (1, .int p1)]) (by decide) rfl (Nat.le_of_ble_eq_true rfl) rfl (fun p e s m below meth c ls args Q A H0 H locs C hK hA hQ hs hl => ?_)
  have hx := C.1
  have hb := C.2.1
  unfold fX11_reads at hE
  refine lv_aload_n hx hb dX11_reads_0 rfl (lv_at hl 0 rfl) ?_
  refine lv_iconst (v := 0) hx hb dX11_reads_1 (by decide) ?_
  obtain ⟨σ1, eσ1, hE⟩ := pt_w hE
  refine pf_X11_116_0 C hK hs eσ1 dX11_reads_2 (fun H locs hs => ?_)
  refine lv_aload_n hx hb dX11_reads_5 rfl (lv_at hl 0 rfl) ?_
  refine lv_iconst (v := 0) hx hb dX11_reads_6 (by decide) ?_
  obtain ⟨σ2, eσ2, hE⟩ := pt_w hE
  refine pf_X11_131_0 C hK hs eσ2 dX11_reads_7 (fun H locs hs => ?_)
  refine lv_aload_n hx hb dX11_reads_10 rfl (lv_at hl 0 rfl) ?_
  refine lv_iconst (v := 0) hx hb dX11_reads_11 (by decide) ?_
  obtain ⟨σ3, eσ3, hE⟩ := pt_w hE
  refine pf_X11_141_0 C hK hs eσ3 dX11_reads_12 (fun H locs hs => ?_)
  have hL15 : ∀ (n : Nat) (σ4 : St)  (k : St → Option (St × Int32)), fX11_reads_L15 p1 n σ4  k = some (σ', r) → (∀ (σ4 : St)  (H : Heap) (locs : List Loc) (ls : Array Slot), HW 25 entM g A H0 H locs σ4 → lv_has ls 2 [(0, .ref (g.2.1 0)), (1, .int p1)] → k σ4  = some (σ', r) → W p l e (rmD 4) s m args below meth c H locs 0 0 Q (F0 m 82 ls [])) → ∀ (H : Heap) (locs : List Loc) (ls : Array Slot), HW 25 entM g A H0 H locs σ4 → lv_has ls 2 [(0, .ref (g.2.1 0)), (1, .int p1)] → W p l e (rmD 4) s m args below meth c H locs 0 0 Q (F0 m 15 ls []) := by
    intro n
    induction n with
    | zero =>
      intro σ4  k hE
      rw [fX11_reads_L15] at hE
      exact no_e hE
    | succ n ih =>
      intro σ4  k hE hk H locs ls hs hl
      rw [fX11_reads_L15] at hE
      refine lv_aload_n hx hb dX11_reads_15 rfl (lv_at hl 0 rfl) ?_
      refine gf_X11_116_0 C hK hs dX11_reads_16 ?_
      refine lv_aload_n hx hb dX11_reads_19 rfl (lv_at hl 0 rfl) ?_
      refine gf_X11_16_0 C hK hs dX11_reads_20 ?_
      refine lv_iload_n hx hb dX11_reads_23 rfl (lv_at hl 1 rfl) ?_
      obtain ⟨hi, x5, ex5, hE⟩ := rd_w hE
      refine y_ald layM C hK hs hi ex5 dX11_reads_24 ?_
      refine lv_icmp_ge (tgt := 87) hx hb dX11_reads_25 (by decide) (fun hc => ?_) (fun hc => ?_)
      · have hE := if_t hc hE
        refine lv_aload_n hx hb dX11_reads_87 rfl (lv_at hl 0 rfl) ?_
        refine gf_X11_131_0 C hK hs dX11_reads_88 ?_
        refine lv_iconst (v := 2) hx hb dX11_reads_91 (by decide) ?_
        refine jn0 hE (fun k6 hE hk6 => ?_)
        have hJk6 : ∀  (H : Heap) (locs : List Loc) (ls : Array Slot), HW 25 entM g A H0 H locs σ4 → lv_has ls 2 [(0, .ref (g.2.1 0)), (1, .int p1)] → k6 = some (σ', r) → W p l e (rmD 4) s m args below meth c H locs 0 0 Q (F0 m 102 ls []) := by
          intro H locs ls hs hl hE
          have hE := hk6 hE
          refine lv_aload_n hx hb dX11_reads_102 rfl (lv_at hl 0 rfl) ?_
          refine gf_X11_16_0 C hK hs dX11_reads_103 ?_
          refine lv_iload_n hx hb dX11_reads_106 rfl (lv_at hl 1 rfl) ?_
          obtain ⟨hi, x7, ex7, hE⟩ := rd_w hE
          refine y_ald layM C hK hs hi ex7 dX11_reads_107 ?_
          refine lv_goto (tgt := 113) hx hb dX11_reads_108 (by decide) ?_
          exact hQ hs hE dX11_reads_113
        refine lv_icmp_lt (tgt := 102) hx hb dX11_reads_92 (by decide) (fun hc => ?_) (fun hc => ?_)
        · have hE := if_t hc hE
          exact hJk6  _ _ _ hs (lv_sub hl [0, 1] rfl) hE
        · have hE := if_f hc hE
          refine lv_aload_n hx hb dX11_reads_95 rfl (lv_at hl 0 rfl) ?_
          refine gf_X11_141_0 C hK hs dX11_reads_96 ?_
          refine lv_if_ne (tgt := 111) hx hb dX11_reads_99 (by decide) (fun hc => ?_) (fun hc => ?_)
          · have hE := if_f hc hE
            refine lv_bipush (v := (-9)) hx hb dX11_reads_111 (by decide) ?_
            exact hQ hs hE dX11_reads_113
          · have hE := if_t hc hE
            exact hJk6  _ _ _ hs (lv_sub hl [0, 1] rfl) hE
      · have hE := if_f hc hE
        refine lv_aload_n hx hb dX11_reads_28 rfl (lv_at hl 0 rfl) ?_
        refine lv_iload_n hx hb dX11_reads_29 rfl (lv_at hl 1 rfl) ?_
        obtain ⟨σ8, r9, hE1, hE⟩ := cl_e hE
        refine x_civ (As := [.int p1]) (rest := []) C hl.1 hK hs hA ⟨Nat.le_refl 0, Nat.le_refl 0⟩ (ctX11_here l g _ _ _ _ hE1) (cw_X11_119 C ⟨Nat.le_of_ble_eq_true rfl, Nat.le_of_ble_eq_true rfl⟩) (hs.recv hK 0 (by decide) rfl rfl) rfl rfl (Nat.le_of_ble_eq_true rfl) dX11_reads_30 (fun H locs hs => ?_)
        refine lv_bipush (v := 32) hx hb dX11_reads_33 (by decide) ?_
        refine lv_icmp_ne (tgt := 51) hx hb dX11_reads_35 (by decide) (fun hc => ?_) (fun hc => ?_)
        · have hE := if_f hc hE
          refine lv_aload_n hx hb dX11_reads_51 rfl (lv_at hl 0 rfl) ?_
          refine lv_aload_n hx hb dX11_reads_52 rfl (lv_at hl 0 rfl) ?_
          refine lv_iload_n hx hb dX11_reads_53 rfl (lv_at hl 1 rfl) ?_
          obtain ⟨σ10, r11, hE1, hE⟩ := cl_e hE
          refine x_civ (As := [.int p1]) (rest := [.ref (g.2.1 0)]) C hl.1 hK hs hA ⟨Nat.le_refl 0, Nat.le_refl 0⟩ (ctX11_here l g _ _ _ _ hE1) (cw_X11_119 C ⟨Nat.le_of_ble_eq_true rfl, Nat.le_of_ble_eq_true rfl⟩) (hs.recv hK 0 (by decide) rfl rfl) rfl rfl (Nat.le_of_ble_eq_true rfl) dX11_reads_54 (fun H locs hs => ?_)
          obtain ⟨σ12, r13, hE1, hE⟩ := cl_e hE
          refine x_civ (As := [.int r11]) (rest := []) C hl.1 hK hs hA ⟨Nat.le_refl 0, Nat.le_refl 0⟩ (ctX11_isLetter l g _ _ _ _ hE1) (cw_X11_144 C ⟨Nat.le_of_ble_eq_true rfl, Nat.le_of_ble_eq_true rfl⟩) (hs.recv hK 0 (by decide) rfl rfl) rfl rfl (Nat.le_of_ble_eq_true rfl) dX11_reads_57 (fun H locs hs => ?_)
          refine lv_if_eq (tgt := 74) hx hb dX11_reads_60 (by decide) (fun hc => ?_) (fun hc => ?_)
          · have hE := if_t hc hE
            refine lv_aload_n hx hb dX11_reads_74 rfl (lv_at hl 0 rfl) ?_
            refine lv_iload_n hx hb dX11_reads_75 rfl (lv_at hl 1 rfl) ?_
            obtain ⟨σ14, r15, hE1, hE⟩ := cl_e hE
            refine x_civ (As := [.int p1]) (rest := []) C hl.1 hK hs hA ⟨Nat.le_refl 0, Nat.le_refl 0⟩ (ctX11_readsHouse l g _ _ _ _ hE1) (cw_X11_154 C ⟨Nat.le_of_ble_eq_true rfl, Nat.le_of_ble_eq_true rfl⟩) (hs.recv hK 0 (by decide) rfl rfl) rfl rfl (Nat.le_of_ble_eq_true rfl) dX11_reads_76 (fun H locs hs => ?_)
            refine lv_if_ne (tgt := 15) hx hb dX11_reads_79 (by decide) (fun hc => ?_) (fun hc => ?_)
            · have hE := if_f hc hE
              exact ih _  _ hE hk _ _ _ hs (lv_sub hl [0, 1] rfl)
            · have hE := if_t hc hE
              exact hk σ14  _ _ _ hs (lv_sub hl [0, 1] rfl) hE
          · have hE := if_f hc hE
            refine lv_aload_n hx hb dX11_reads_63 rfl (lv_at hl 0 rfl) ?_
            refine lv_iload_n hx hb dX11_reads_64 rfl (lv_at hl 1 rfl) ?_
            obtain ⟨σ16, r17, hE1, hE⟩ := cl_e hE
            refine x_civ (As := [.int p1]) (rest := []) C hl.1 hK hs hA ⟨Nat.le_refl 0, Nat.le_refl 0⟩ (ctX11_readsColour l g _ _ _ _ hE1) (cw_X11_151 C ⟨Nat.le_of_ble_eq_true rfl, Nat.le_of_ble_eq_true rfl⟩) (hs.recv hK 0 (by decide) rfl rfl) rfl rfl (Nat.le_of_ble_eq_true rfl) dX11_reads_65 (fun H locs hs => ?_)
            refine lv_if_eq (tgt := 82) hx hb dX11_reads_68 (by decide) (fun hc => ?_) (fun hc => ?_)
            · have hE := if_t hc hE
              exact hk σ16  _ _ _ hs (lv_sub hl [0, 1] rfl) hE
            · have hE := if_f hc hE
              refine lv_goto (tgt := 15) hx hb dX11_reads_71 (by decide) ?_
              exact ih _  _ hE hk _ _ _ hs (lv_sub hl [0, 1] rfl)
        · have hE := if_t hc hE
          refine lv_aload_n hx hb dX11_reads_38 rfl (lv_at hl 0 rfl) ?_
          refine lv_dup hx hb dX11_reads_39 rfl ?_
          refine gf_X11_116_0 C hK hs dX11_reads_40 ?_
          refine lv_iconst (v := 1) hx hb dX11_reads_43 (by decide) ?_
          refine lv_iadd hx hb dX11_reads_44 ?_
          obtain ⟨σ18, eσ18, hE⟩ := pt_w hE
          refine pf_X11_116_0 C hK hs eσ18 dX11_reads_45 (fun H locs hs => ?_)
          refine lv_goto (tgt := 15) hx hb dX11_reads_48 (by decide) ?_
          exact ih _  _ hE hk _ _ _ hs (lv_sub hl [0, 1] rfl)
  refine hL15 _ _  _ hE (fun σ19  H locs ls hs hl hE => ?_) H locs ls hs (lv_sub hl [0, 1] rfl)
  refine lv_aload_n hx hb dX11_reads_82 rfl (lv_at hl 0 rfl) ?_
  refine gf_X11_116_0 C hK hs dX11_reads_83 ?_
  exact hQ hs hE dX11_reads_86
theorem dX11_fault_0 : decode cX11_fault 0 = .ok (.iload_n 1, 1) := by decide +kernel
theorem dX11_fault_1 : decode cX11_fault 1 = .ok (.invokestatic 113, 3) := by decide +kernel
theorem dX11_fault_4 : decode cX11_fault 4 = .ok (.ifCond .ne 5, 3) := by decide +kernel
theorem dX11_fault_7 : decode cX11_fault 7 = .ok (.iconst (-1), 1) := by decide +kernel
theorem dX11_fault_8 : decode cX11_fault 8 = .ok (.ireturn, 1) := by decide +kernel
theorem dX11_fault_9 : decode cX11_fault 9 = .ok (.aload_n 0, 1) := by decide +kernel
theorem dX11_fault_10 : decode cX11_fault 10 = .ok (.getfield 16, 3) := by decide +kernel
theorem dX11_fault_13 : decode cX11_fault 13 = .ok (.iload_n 1, 1) := by decide +kernel
theorem dX11_fault_14 : decode cX11_fault 14 = .ok (.iaload, 1) := by decide +kernel
theorem dX11_fault_15 : decode cX11_fault 15 = .ok (.ifCond .ge 11, 3) := by decide +kernel
theorem dX11_fault_18 : decode cX11_fault 18 = .ok (.aload_n 0, 1) := by decide +kernel
theorem dX11_fault_19 : decode cX11_fault 19 = .ok (.iconst 1, 1) := by decide +kernel
theorem dX11_fault_20 : decode cX11_fault 20 = .ok (.invokevirtual 106, 3) := by decide +kernel
theorem dX11_fault_23 : decode cX11_fault 23 = .ok (.goto 8, 3) := by decide +kernel
theorem dX11_fault_26 : decode cX11_fault 26 = .ok (.aload_n 0, 1) := by decide +kernel
theorem dX11_fault_27 : decode cX11_fault 27 = .ok (.iload_n 1, 1) := by decide +kernel
theorem dX11_fault_28 : decode cX11_fault 28 = .ok (.invokevirtual 157, 3) := by decide +kernel
theorem dX11_fault_31 : decode cX11_fault 31 = .ok (.ireturn, 1) := by decide +kernel
def fX11_fault (σ : St) (p1 : Int32) : Option (St × Int32) := cl (fX11_isText σ p1) (fun σ1 r2 => (if r2 = 0 then some (σ1, (-1)) else rd LM σ1 3 p1 (fun x3 => (if 0 ≤ x3 then cl (fX11_reads σ1 p1) (fun σ4 r5 => some (σ4, r5)) else cl (fX11_found σ1 1) (fun σ6 r7 => some (σ6, r7))))))
set_option maxHeartbeats 4000000 in
set_option maxRecDepth 100000 in
theorem ctX11_fault (l : Launch) (g : GG) (σ : St) (p1 : Int32) (σ' : St) (r : Int32) (hE : fX11_fault σ p1 = some (σ', r)) : MI 25 entM l g yX11_fault (Cond.code yX11_fault cX11_fault 2 (some .int) :: gtbl) (rmD 5) [.ref (g.2.1 0), .int p1] σ σ' r := by
  refine mi_i (own := RX11) (lv := [(0, .ref (g.2.1 0)), (1, .int p1)]) (by decide) rfl (Nat.le_of_ble_eq_true rfl) rfl (fun p e s m below meth c ls args Q A H0 H locs C hK hA hQ hs hl => ?_)
  have hx := C.1
  have hb := C.2.1
  unfold fX11_fault at hE
  refine lv_iload_n hx hb dX11_fault_0 rfl (lv_at hl 1 rfl) ?_
  obtain ⟨σ1, r2, hE1, hE⟩ := cl_e hE
  refine x_cis (As := [.int p1]) (rest := []) C hl.1 hK hs hA ⟨Nat.le_refl 0, Nat.le_refl 0⟩ (ctX11_isText l g _ _ _ _ hE1) (cw_X11_113 C ⟨Nat.le_of_ble_eq_true rfl, Nat.le_of_ble_eq_true rfl⟩) rfl rfl (Nat.le_of_ble_eq_true rfl) dX11_fault_1 (fun H locs hs => ?_)
  refine lv_if_ne (tgt := 9) hx hb dX11_fault_4 (by decide) (fun hc => ?_) (fun hc => ?_)
  · have hE := if_f hc hE
    refine lv_aload_n hx hb dX11_fault_9 rfl (lv_at hl 0 rfl) ?_
    refine gf_X11_16_0 C hK hs dX11_fault_10 ?_
    refine lv_iload_n hx hb dX11_fault_13 rfl (lv_at hl 1 rfl) ?_
    obtain ⟨hi, x3, ex3, hE⟩ := rd_w hE
    refine y_ald layM C hK hs hi ex3 dX11_fault_14 ?_
    refine lv_if_ge (tgt := 26) hx hb dX11_fault_15 (by decide) (fun hc => ?_) (fun hc => ?_)
    · have hE := if_t hc hE
      refine lv_aload_n hx hb dX11_fault_26 rfl (lv_at hl 0 rfl) ?_
      refine lv_iload_n hx hb dX11_fault_27 rfl (lv_at hl 1 rfl) ?_
      obtain ⟨σ4, r5, hE1, hE⟩ := cl_e hE
      refine x_civ (As := [.int p1]) (rest := []) C hl.1 hK hs hA ⟨Nat.le_refl 0, Nat.le_refl 0⟩ (ctX11_reads l g _ _ _ _ hE1) (cw_X11_157 C ⟨Nat.le_of_ble_eq_true rfl, Nat.le_of_ble_eq_true rfl⟩) (hs.recv hK 0 (by decide) rfl rfl) rfl rfl (Nat.le_of_ble_eq_true rfl) dX11_fault_28 (fun H locs hs => ?_)
      exact hQ hs hE dX11_fault_31
    · have hE := if_f hc hE
      refine lv_aload_n hx hb dX11_fault_18 rfl (lv_at hl 0 rfl) ?_
      refine lv_iconst (v := 1) hx hb dX11_fault_19 (by decide) ?_
      obtain ⟨σ6, r7, hE1, hE⟩ := cl_e hE
      refine x_civ (As := [.int 1]) (rest := []) C hl.1 hK hs hA ⟨Nat.le_refl 0, Nat.le_refl 0⟩ (ctX11_found l g _ _ _ _ hE1) (cw_X11_106 C ⟨Nat.le_of_ble_eq_true rfl, Nat.le_of_ble_eq_true rfl⟩) (hs.recv hK 0 (by decide) rfl rfl) rfl rfl (Nat.le_of_ble_eq_true rfl) dX11_fault_20 (fun H locs hs => ?_)
      refine lv_goto (tgt := 31) hx hb dX11_fault_23 (by decide) ?_
      exact hQ hs hE dX11_fault_31
  · have hE := if_t hc hE
    refine lv_iconst (v := (-1)) hx hb dX11_fault_7 (by decide) ?_
    exact hQ hs hE dX11_fault_8
theorem dX11_isAhead_0 : decode cX11_isAhead 0 = .ok (.iconst 0, 1) := by decide +kernel
theorem dX11_isAhead_1 : decode cX11_isAhead 1 = .ok (.istore 4, 2) := by decide +kernel
theorem dX11_isAhead_3 : decode cX11_isAhead 3 = .ok (.iload 4, 2) := by decide +kernel
theorem dX11_isAhead_5 : decode cX11_isAhead 5 = .ok (.bipush 6, 2) := by decide +kernel
theorem dX11_isAhead_7 : decode cX11_isAhead 7 = .ok (.if_icmp .ge 24, 3) := by decide +kernel
theorem dX11_isAhead_10 : decode cX11_isAhead 10 = .ok (.aload_n 0, 1) := by decide +kernel
theorem dX11_isAhead_11 : decode cX11_isAhead 11 = .ok (.iload_n 1, 1) := by decide +kernel
theorem dX11_isAhead_12 : decode cX11_isAhead 12 = .ok (.iload 4, 2) := by decide +kernel
theorem dX11_isAhead_14 : decode cX11_isAhead 14 = .ok (.iadd, 1) := by decide +kernel
theorem dX11_isAhead_15 : decode cX11_isAhead 15 = .ok (.iaload, 1) := by decide +kernel
theorem dX11_isAhead_16 : decode cX11_isAhead 16 = .ok (.aload_n 2, 1) := by decide +kernel
theorem dX11_isAhead_17 : decode cX11_isAhead 17 = .ok (.iload_n 3, 1) := by decide +kernel
theorem dX11_isAhead_18 : decode cX11_isAhead 18 = .ok (.iload 4, 2) := by decide +kernel
theorem dX11_isAhead_20 : decode cX11_isAhead 20 = .ok (.iadd, 1) := by decide +kernel
theorem dX11_isAhead_21 : decode cX11_isAhead 21 = .ok (.iaload, 1) := by decide +kernel
theorem dX11_isAhead_22 : decode cX11_isAhead 22 = .ok (.if_icmp .ne 9, 3) := by decide +kernel
theorem dX11_isAhead_25 : decode cX11_isAhead 25 = .ok (.iinc 4 1, 3) := by decide +kernel
theorem dX11_isAhead_28 : decode cX11_isAhead 28 = .ok (.goto (-25), 3) := by decide +kernel
theorem dX11_isAhead_31 : decode cX11_isAhead 31 = .ok (.aload_n 0, 1) := by decide +kernel
theorem dX11_isAhead_32 : decode cX11_isAhead 32 = .ok (.iload_n 1, 1) := by decide +kernel
theorem dX11_isAhead_33 : decode cX11_isAhead 33 = .ok (.iload 4, 2) := by decide +kernel
theorem dX11_isAhead_35 : decode cX11_isAhead 35 = .ok (.iadd, 1) := by decide +kernel
theorem dX11_isAhead_36 : decode cX11_isAhead 36 = .ok (.iaload, 1) := by decide +kernel
theorem dX11_isAhead_37 : decode cX11_isAhead 37 = .ok (.aload_n 2, 1) := by decide +kernel
theorem dX11_isAhead_38 : decode cX11_isAhead 38 = .ok (.iload_n 3, 1) := by decide +kernel
theorem dX11_isAhead_39 : decode cX11_isAhead 39 = .ok (.iload 4, 2) := by decide +kernel
theorem dX11_isAhead_41 : decode cX11_isAhead 41 = .ok (.iadd, 1) := by decide +kernel
theorem dX11_isAhead_42 : decode cX11_isAhead 42 = .ok (.iaload, 1) := by decide +kernel
theorem dX11_isAhead_43 : decode cX11_isAhead 43 = .ok (.if_icmp .ge 7, 3) := by decide +kernel
theorem dX11_isAhead_46 : decode cX11_isAhead 46 = .ok (.iconst 1, 1) := by decide +kernel
theorem dX11_isAhead_47 : decode cX11_isAhead 47 = .ok (.goto 4, 3) := by decide +kernel
theorem dX11_isAhead_50 : decode cX11_isAhead 50 = .ok (.iconst 0, 1) := by decide +kernel
theorem dX11_isAhead_51 : decode cX11_isAhead 51 = .ok (.ireturn, 1) := by decide +kernel
def fX11_isAhead_L3 (p0 : Nat) (p1 : Int32) (p2 : Nat) (p3 : Int32) : Nat → St → Int32 → (St → Int32 → Option (St × Int32)) → Option (St × Int32)
  | 0, _, _, _ => none
  | n + 1, σ1, v2, k => (if 6 ≤ v2 then k σ1 v2 else rd LM σ1 p0 (p1 + v2) (fun x3 => rd LM σ1 p2 (p3 + v2) (fun x4 => (if x3 = x4 then fX11_isAhead_L3 p0 p1 p2 p3 n σ1 (v2 + 1) k else k σ1 v2))))
def fX11_isAhead (σ : St) (p0 : Nat) (p1 : Int32) (p2 : Nat) (p3 : Int32) : Option (St × Int32) := fX11_isAhead_L3 p0 p1 p2 p3 10000 σ 0 (fun σ5 v6 => rd LM σ5 p0 (p1 + v6) (fun x7 => rd LM σ5 p2 (p3 + v6) (fun x8 => (if x8 ≤ x7 then some (σ5, 0) else some (σ5, 1)))))
set_option maxHeartbeats 4000000 in
set_option maxRecDepth 100000 in
theorem ctX11_isAhead (l : Launch) (g : GG) (σ : St) (p0 : Nat) (p1 : Int32) (p2 : Nat) (p3 : Int32) (σ' : St) (r : Int32) (hE : fX11_isAhead σ p0 p1 p2 p3 = some (σ', r)) : MI 25 entM l g yX11_isAhead (Cond.code yX11_isAhead cX11_isAhead 5 (some .boolean) :: gtbl) (rmD 1) [.ref (g.2.1 p0), .int p1, .ref (g.2.1 p2), .int p3] σ σ' r := by
  refine mi_z (own := RX11) (lv := [(0, .ref (g.2.1 p0)), (1, .int p1), (2, .ref (g.2.1 p2)), (3, .int p3)]) (by decide) rfl (Nat.le_of_ble_eq_true rfl) rfl (fun p e s m below meth c ls args Q A H0 H locs C hK hA hQ hs hl => ?_)
  have hx := C.1
  have hb := C.2.1
  unfold fX11_isAhead at hE
  refine lv_iconst (v := 0) hx hb dX11_isAhead_0 (by decide) ?_
  refine lv_istore (lv' := [(4, .int 0), (0, .ref (g.2.1 p0)), (1, .int p1), (2, .ref (g.2.1 p2)), (3, .int p3)]) hx hb dX11_isAhead_1 hl (by decide) rfl (fun ls hl => ?_)
  have hL3 : ∀ (n : Nat) (σ1 : St) (v2 : Int32) (k : St → Int32 → Option (St × Int32)), fX11_isAhead_L3 p0 p1 p2 p3 n σ1 v2 k = some (σ', r) → (∀ (σ1 : St) (v2 : Int32) (H : Heap) (locs : List Loc) (ls : Array Slot), HW 25 entM g A H0 H locs σ1 → lv_has ls 5 [(0, .ref (g.2.1 p0)), (1, .int p1), (2, .ref (g.2.1 p2)), (3, .int p3), (4, .int v2)] → k σ1 v2 = some (σ', r) → W p l e (rmD 1) s m args below meth c H locs 0 0 Q (F0 m 31 ls [])) → ∀ (H : Heap) (locs : List Loc) (ls : Array Slot), HW 25 entM g A H0 H locs σ1 → lv_has ls 5 [(0, .ref (g.2.1 p0)), (1, .int p1), (2, .ref (g.2.1 p2)), (3, .int p3), (4, .int v2)] → W p l e (rmD 1) s m args below meth c H locs 0 0 Q (F0 m 3 ls []) := by
    intro n
    induction n with
    | zero =>
      intro σ1 v2 k hE
      rw [fX11_isAhead_L3] at hE
      exact no_e hE
    | succ n ih =>
      intro σ1 v2 k hE hk H locs ls hs hl
      rw [fX11_isAhead_L3] at hE
      refine lv_iload hx hb dX11_isAhead_3 (lv_at hl 4 rfl) ?_
      refine lv_bipush (v := 6) hx hb dX11_isAhead_5 (by decide) ?_
      refine lv_icmp_ge (tgt := 31) hx hb dX11_isAhead_7 (by decide) (fun hc => ?_) (fun hc => ?_)
      · have hE := if_t hc hE
        exact hk σ1 v2 _ _ _ hs (lv_sub hl [0, 1, 2, 3, 4] rfl) hE
      · have hE := if_f hc hE
        refine lv_aload_n hx hb dX11_isAhead_10 rfl (lv_at hl 0 rfl) ?_
        refine lv_iload_n hx hb dX11_isAhead_11 rfl (lv_at hl 1 rfl) ?_
        refine lv_iload hx hb dX11_isAhead_12 (lv_at hl 4 rfl) ?_
        refine lv_iadd hx hb dX11_isAhead_14 ?_
        obtain ⟨hi, x3, ex3, hE⟩ := rd_w hE
        refine y_ald layM C hK hs hi ex3 dX11_isAhead_15 ?_
        refine lv_aload_n hx hb dX11_isAhead_16 rfl (lv_at hl 2 rfl) ?_
        refine lv_iload_n hx hb dX11_isAhead_17 rfl (lv_at hl 3 rfl) ?_
        refine lv_iload hx hb dX11_isAhead_18 (lv_at hl 4 rfl) ?_
        refine lv_iadd hx hb dX11_isAhead_20 ?_
        obtain ⟨hi, x4, ex4, hE⟩ := rd_w hE
        refine y_ald layM C hK hs hi ex4 dX11_isAhead_21 ?_
        refine lv_icmp_ne (tgt := 31) hx hb dX11_isAhead_22 (by decide) (fun hc => ?_) (fun hc => ?_)
        · have hE := if_f hc hE
          exact hk σ1 v2 _ _ _ hs (lv_sub hl [0, 1, 2, 3, 4] rfl) hE
        · have hE := if_t hc hE
          refine lv_iinc (v := v2 + 1) (lv' := [(4, .int (v2 + 1)), (0, .ref (g.2.1 p0)), (1, .int p1), (2, .ref (g.2.1 p2)), (3, .int p3)]) hx hb dX11_isAhead_25 hl (k := 4) rfl rfl (by decide) rfl (fun ls hl => ?_)
          refine lv_goto (tgt := 3) hx hb dX11_isAhead_28 (by decide) ?_
          exact ih _ _ _ hE hk _ _ _ hs (lv_sub hl [1, 2, 3, 4, 0] rfl)
  refine hL3 _ _ _ _ hE (fun σ5 v6 H locs ls hs hl hE => ?_) H locs ls hs (lv_sub hl [1, 2, 3, 4, 0] rfl)
  refine lv_aload_n hx hb dX11_isAhead_31 rfl (lv_at hl 0 rfl) ?_
  refine lv_iload_n hx hb dX11_isAhead_32 rfl (lv_at hl 1 rfl) ?_
  refine lv_iload hx hb dX11_isAhead_33 (lv_at hl 4 rfl) ?_
  refine lv_iadd hx hb dX11_isAhead_35 ?_
  obtain ⟨hi, x7, ex7, hE⟩ := rd_w hE
  refine y_ald layM C hK hs hi ex7 dX11_isAhead_36 ?_
  refine lv_aload_n hx hb dX11_isAhead_37 rfl (lv_at hl 2 rfl) ?_
  refine lv_iload_n hx hb dX11_isAhead_38 rfl (lv_at hl 3 rfl) ?_
  refine lv_iload hx hb dX11_isAhead_39 (lv_at hl 4 rfl) ?_
  refine lv_iadd hx hb dX11_isAhead_41 ?_
  obtain ⟨hi, x8, ex8, hE⟩ := rd_w hE
  refine y_ald layM C hK hs hi ex8 dX11_isAhead_42 ?_
  refine lv_icmp_ge (tgt := 50) hx hb dX11_isAhead_43 (by decide) (fun hc => ?_) (fun hc => ?_)
  · have hE := if_t hc hE
    refine lv_iconst (v := 0) hx hb dX11_isAhead_50 (by decide) ?_
    exact hQ hs rfl hE dX11_isAhead_51
  · have hE := if_f hc hE
    refine lv_iconst (v := 1) hx hb dX11_isAhead_46 (by decide) ?_
    refine lv_goto (tgt := 51) hx hb dX11_isAhead_47 (by decide) ?_
    exact hQ hs rfl hE dX11_isAhead_51
theorem dX11_town_0 : decode cX11_town 0 = .ok (.iload_n 1, 1) := by decide +kernel
theorem dX11_town_1 : decode cX11_town 1 = .ok (.invokestatic 113, 3) := by decide +kernel
theorem dX11_town_4 : decode cX11_town 4 = .ok (.ifCond .ne 5, 3) := by decide +kernel
theorem dX11_town_7 : decode cX11_town 7 = .ok (.iconst (-1), 1) := by decide +kernel
theorem dX11_town_8 : decode cX11_town 8 = .ok (.ireturn, 1) := by decide +kernel
theorem dX11_town_9 : decode cX11_town 9 = .ok (.aload_n 0, 1) := by decide +kernel
theorem dX11_town_10 : decode cX11_town 10 = .ok (.getfield 16, 3) := by decide +kernel
theorem dX11_town_13 : decode cX11_town 13 = .ok (.iload_n 1, 1) := by decide +kernel
theorem dX11_town_14 : decode cX11_town 14 = .ok (.iaload, 1) := by decide +kernel
theorem dX11_town_15 : decode cX11_town 15 = .ok (.ifCond .ge 9, 3) := by decide +kernel
theorem dX11_town_18 : decode cX11_town 18 = .ok (.aload_n 0, 1) := by decide +kernel
theorem dX11_town_19 : decode cX11_town 19 = .ok (.iconst 1, 1) := by decide +kernel
theorem dX11_town_20 : decode cX11_town 20 = .ok (.invokevirtual 106, 3) := by decide +kernel
theorem dX11_town_23 : decode cX11_town 23 = .ok (.ireturn, 1) := by decide +kernel
theorem dX11_town_24 : decode cX11_town 24 = .ok (.aload_n 0, 1) := by decide +kernel
theorem dX11_town_25 : decode cX11_town 25 = .ok (.iload_n 1, 1) := by decide +kernel
theorem dX11_town_26 : decode cX11_town 26 = .ok (.invokevirtual 157, 3) := by decide +kernel
theorem dX11_town_29 : decode cX11_town 29 = .ok (.bipush (-9), 2) := by decide +kernel
theorem dX11_town_31 : decode cX11_town 31 = .ok (.if_icmp .eq 6, 3) := by decide +kernel
theorem dX11_town_34 : decode cX11_town 34 = .ok (.bipush (-4), 2) := by decide +kernel
theorem dX11_town_36 : decode cX11_town 36 = .ok (.ireturn, 1) := by decide +kernel
theorem dX11_town_37 : decode cX11_town 37 = .ok (.aload_n 0, 1) := by decide +kernel
theorem dX11_town_38 : decode cX11_town 38 = .ok (.aload_n 0, 1) := by decide +kernel
theorem dX11_town_39 : decode cX11_town 39 = .ok (.getfield 131, 3) := by decide +kernel
theorem dX11_town_42 : decode cX11_town 42 = .ok (.putfield 160, 3) := by decide +kernel
theorem dX11_town_45 : decode cX11_town 45 = .ok (.aload_n 0, 1) := by decide +kernel
theorem dX11_town_46 : decode cX11_town 46 = .ok (.aload_n 0, 1) := by decide +kernel
theorem dX11_town_47 : decode cX11_town 47 = .ok (.getfield 141, 3) := by decide +kernel
theorem dX11_town_50 : decode cX11_town 50 = .ok (.putfield 163, 3) := by decide +kernel
theorem dX11_town_53 : decode cX11_town 53 = .ok (.iconst 0, 1) := by decide +kernel
theorem dX11_town_54 : decode cX11_town 54 = .ok (.istore_n 2, 1) := by decide +kernel
theorem dX11_town_55 : decode cX11_town 55 = .ok (.iload_n 2, 1) := by decide +kernel
theorem dX11_town_56 : decode cX11_town 56 = .ok (.bipush 55, 2) := by decide +kernel
theorem dX11_town_58 : decode cX11_town 58 = .ok (.if_icmp .ge 16, 3) := by decide +kernel
theorem dX11_town_61 : decode cX11_town 61 = .ok (.aload_n 0, 1) := by decide +kernel
theorem dX11_town_62 : decode cX11_town 62 = .ok (.getfield 37, 3) := by decide +kernel
theorem dX11_town_65 : decode cX11_town 65 = .ok (.iload_n 2, 1) := by decide +kernel
theorem dX11_town_66 : decode cX11_town 66 = .ok (.iconst 0, 1) := by decide +kernel
theorem dX11_town_67 : decode cX11_town 67 = .ok (.iastore, 1) := by decide +kernel
theorem dX11_town_68 : decode cX11_town 68 = .ok (.iinc 2 1, 3) := by decide +kernel
theorem dX11_town_71 : decode cX11_town 71 = .ok (.goto (-16), 3) := by decide +kernel
theorem dX11_town_74 : decode cX11_town 74 = .ok (.iconst 0, 1) := by decide +kernel
theorem dX11_town_75 : decode cX11_town 75 = .ok (.istore_n 2, 1) := by decide +kernel
theorem dX11_town_76 : decode cX11_town 76 = .ok (.iload_n 2, 1) := by decide +kernel
theorem dX11_town_77 : decode cX11_town 77 = .ok (.aload_n 0, 1) := by decide +kernel
theorem dX11_town_78 : decode cX11_town 78 = .ok (.getfield 160, 3) := by decide +kernel
theorem dX11_town_81 : decode cX11_town 81 = .ok (.if_icmp .ge 47, 3) := by decide +kernel
theorem dX11_town_84 : decode cX11_town 84 = .ok (.aload_n 0, 1) := by decide +kernel
theorem dX11_town_85 : decode cX11_town 85 = .ok (.getfield 22, 3) := by decide +kernel
theorem dX11_town_88 : decode cX11_town 88 = .ok (.iload_n 2, 1) := by decide +kernel
theorem dX11_town_89 : decode cX11_town 89 = .ok (.aload_n 0, 1) := by decide +kernel
theorem dX11_town_90 : decode cX11_town 90 = .ok (.getfield 60, 3) := by decide +kernel
theorem dX11_town_93 : decode cX11_town 93 = .ok (.iload_n 2, 1) := by decide +kernel
theorem dX11_town_94 : decode cX11_town 94 = .ok (.iaload, 1) := by decide +kernel
theorem dX11_town_95 : decode cX11_town 95 = .ok (.iastore, 1) := by decide +kernel
theorem dX11_town_96 : decode cX11_town 96 = .ok (.aload_n 0, 1) := by decide +kernel
theorem dX11_town_97 : decode cX11_town 97 = .ok (.getfield 25, 3) := by decide +kernel
theorem dX11_town_100 : decode cX11_town 100 = .ok (.iload_n 2, 1) := by decide +kernel
theorem dX11_town_101 : decode cX11_town 101 = .ok (.aload_n 0, 1) := by decide +kernel
theorem dX11_town_102 : decode cX11_town 102 = .ok (.getfield 63, 3) := by decide +kernel
theorem dX11_town_105 : decode cX11_town 105 = .ok (.iload_n 2, 1) := by decide +kernel
theorem dX11_town_106 : decode cX11_town 106 = .ok (.iaload, 1) := by decide +kernel
theorem dX11_town_107 : decode cX11_town 107 = .ok (.iastore, 1) := by decide +kernel
theorem dX11_town_108 : decode cX11_town 108 = .ok (.aload_n 0, 1) := by decide +kernel
theorem dX11_town_109 : decode cX11_town 109 = .ok (.getfield 37, 3) := by decide +kernel
theorem dX11_town_112 : decode cX11_town 112 = .ok (.iconst 1, 1) := by decide +kernel
theorem dX11_town_113 : decode cX11_town 113 = .ok (.iload_n 2, 1) := by decide +kernel
theorem dX11_town_114 : decode cX11_town 114 = .ok (.iadd, 1) := by decide +kernel
theorem dX11_town_115 : decode cX11_town 115 = .ok (.aload_n 0, 1) := by decide +kernel
theorem dX11_town_116 : decode cX11_town 116 = .ok (.getfield 25, 3) := by decide +kernel
theorem dX11_town_119 : decode cX11_town 119 = .ok (.iload_n 2, 1) := by decide +kernel
theorem dX11_town_120 : decode cX11_town 120 = .ok (.iaload, 1) := by decide +kernel
theorem dX11_town_121 : decode cX11_town 121 = .ok (.iastore, 1) := by decide +kernel
theorem dX11_town_122 : decode cX11_town 122 = .ok (.iinc 2 1, 3) := by decide +kernel
theorem dX11_town_125 : decode cX11_town 125 = .ok (.goto (-49), 3) := by decide +kernel
theorem dX11_town_128 : decode cX11_town 128 = .ok (.iconst 0, 1) := by decide +kernel
theorem dX11_town_129 : decode cX11_town 129 = .ok (.istore_n 2, 1) := by decide +kernel
theorem dX11_town_130 : decode cX11_town 130 = .ok (.iload_n 2, 1) := by decide +kernel
theorem dX11_town_131 : decode cX11_town 131 = .ok (.aload_n 0, 1) := by decide +kernel
theorem dX11_town_132 : decode cX11_town 132 = .ok (.getfield 163, 3) := by decide +kernel
theorem dX11_town_135 : decode cX11_town 135 = .ok (.if_icmp .ge 105, 3) := by decide +kernel
theorem dX11_town_138 : decode cX11_town 138 = .ok (.iconst 0, 1) := by decide +kernel
theorem dX11_town_139 : decode cX11_town 139 = .ok (.istore_n 3, 1) := by decide +kernel
theorem dX11_town_140 : decode cX11_town 140 = .ok (.iconst 0, 1) := by decide +kernel
theorem dX11_town_141 : decode cX11_town 141 = .ok (.istore 4, 2) := by decide +kernel
theorem dX11_town_143 : decode cX11_town 143 = .ok (.iload 4, 2) := by decide +kernel
theorem dX11_town_145 : decode cX11_town 145 = .ok (.aload_n 0, 1) := by decide +kernel
theorem dX11_town_146 : decode cX11_town 146 = .ok (.getfield 163, 3) := by decide +kernel
theorem dX11_town_149 : decode cX11_town 149 = .ok (.if_icmp .ge 40, 3) := by decide +kernel
theorem dX11_town_152 : decode cX11_town 152 = .ok (.iload_n 3, 1) := by decide +kernel
theorem dX11_town_153 : decode cX11_town 153 = .ok (.aload_n 0, 1) := by decide +kernel
theorem dX11_town_154 : decode cX11_town 154 = .ok (.getfield 66, 3) := by decide +kernel
theorem dX11_town_157 : decode cX11_town 157 = .ok (.bipush 7, 2) := by decide +kernel
theorem dX11_town_159 : decode cX11_town 159 = .ok (.iload 4, 2) := by decide +kernel
theorem dX11_town_161 : decode cX11_town 161 = .ok (.imul, 1) := by decide +kernel
theorem dX11_town_162 : decode cX11_town 162 = .ok (.aload_n 0, 1) := by decide +kernel
theorem dX11_town_163 : decode cX11_town 163 = .ok (.getfield 66, 3) := by decide +kernel
theorem dX11_town_166 : decode cX11_town 166 = .ok (.bipush 7, 2) := by decide +kernel
theorem dX11_town_168 : decode cX11_town 168 = .ok (.iload_n 2, 1) := by decide +kernel
theorem dX11_town_169 : decode cX11_town 169 = .ok (.imul, 1) := by decide +kernel
theorem dX11_town_170 : decode cX11_town 170 = .ok (.invokestatic 166, 3) := by decide +kernel
theorem dX11_town_173 : decode cX11_town 173 = .ok (.ifCond .eq 7, 3) := by decide +kernel
theorem dX11_town_176 : decode cX11_town 176 = .ok (.iconst 1, 1) := by decide +kernel
theorem dX11_town_177 : decode cX11_town 177 = .ok (.goto 4, 3) := by decide +kernel
theorem dX11_town_180 : decode cX11_town 180 = .ok (.iconst 0, 1) := by decide +kernel
theorem dX11_town_181 : decode cX11_town 181 = .ok (.iadd, 1) := by decide +kernel
theorem dX11_town_182 : decode cX11_town 182 = .ok (.istore_n 3, 1) := by decide +kernel
theorem dX11_town_183 : decode cX11_town 183 = .ok (.iinc 4 1, 3) := by decide +kernel
theorem dX11_town_186 : decode cX11_town 186 = .ok (.goto (-43), 3) := by decide +kernel
theorem dX11_town_189 : decode cX11_town 189 = .ok (.aload_n 0, 1) := by decide +kernel
theorem dX11_town_190 : decode cX11_town 190 = .ok (.getfield 66, 3) := by decide +kernel
theorem dX11_town_193 : decode cX11_town 193 = .ok (.bipush 7, 2) := by decide +kernel
theorem dX11_town_195 : decode cX11_town 195 = .ok (.iload_n 2, 1) := by decide +kernel
theorem dX11_town_196 : decode cX11_town 196 = .ok (.imul, 1) := by decide +kernel
theorem dX11_town_197 : decode cX11_town 197 = .ok (.aload_n 0, 1) := by decide +kernel
theorem dX11_town_198 : decode cX11_town 198 = .ok (.getfield 28, 3) := by decide +kernel
theorem dX11_town_201 : decode cX11_town 201 = .ok (.bipush 7, 2) := by decide +kernel
theorem dX11_town_203 : decode cX11_town 203 = .ok (.iload_n 3, 1) := by decide +kernel
theorem dX11_town_204 : decode cX11_town 204 = .ok (.imul, 1) := by decide +kernel
theorem dX11_town_205 : decode cX11_town 205 = .ok (.bipush 7, 2) := by decide +kernel
theorem dX11_town_207 : decode cX11_town 207 = .ok (.invokestatic 170, 3) := by decide +kernel
theorem dX11_town_210 : decode cX11_town 210 = .ok (.aload_n 0, 1) := by decide +kernel
theorem dX11_town_211 : decode cX11_town 211 = .ok (.getfield 31, 3) := by decide +kernel
theorem dX11_town_214 : decode cX11_town 214 = .ok (.iload_n 3, 1) := by decide +kernel
theorem dX11_town_215 : decode cX11_town 215 = .ok (.aload_n 0, 1) := by decide +kernel
theorem dX11_town_216 : decode cX11_town 216 = .ok (.getfield 69, 3) := by decide +kernel
theorem dX11_town_219 : decode cX11_town 219 = .ok (.iload_n 2, 1) := by decide +kernel
theorem dX11_town_220 : decode cX11_town 220 = .ok (.iaload, 1) := by decide +kernel
theorem dX11_town_221 : decode cX11_town 221 = .ok (.iastore, 1) := by decide +kernel
theorem dX11_town_222 : decode cX11_town 222 = .ok (.aload_n 0, 1) := by decide +kernel
theorem dX11_town_223 : decode cX11_town 223 = .ok (.getfield 34, 3) := by decide +kernel
theorem dX11_town_226 : decode cX11_town 226 = .ok (.iload_n 3, 1) := by decide +kernel
theorem dX11_town_227 : decode cX11_town 227 = .ok (.aload_n 0, 1) := by decide +kernel
theorem dX11_town_228 : decode cX11_town 228 = .ok (.getfield 72, 3) := by decide +kernel
theorem dX11_town_231 : decode cX11_town 231 = .ok (.iload_n 2, 1) := by decide +kernel
theorem dX11_town_232 : decode cX11_town 232 = .ok (.iaload, 1) := by decide +kernel
theorem dX11_town_233 : decode cX11_town 233 = .ok (.iastore, 1) := by decide +kernel
theorem dX11_town_234 : decode cX11_town 234 = .ok (.iinc 2 1, 3) := by decide +kernel
theorem dX11_town_237 : decode cX11_town 237 = .ok (.goto (-107), 3) := by decide +kernel
theorem dX11_town_240 : decode cX11_town 240 = .ok (.aload_n 0, 1) := by decide +kernel
theorem dX11_town_241 : decode cX11_town 241 = .ok (.iconst 0, 1) := by decide +kernel
theorem dX11_town_242 : decode cX11_town 242 = .ok (.putfield 174, 3) := by decide +kernel
theorem dX11_town_245 : decode cX11_town 245 = .ok (.iconst 0, 1) := by decide +kernel
theorem dX11_town_246 : decode cX11_town 246 = .ok (.istore_n 2, 1) := by decide +kernel
theorem dX11_town_247 : decode cX11_town 247 = .ok (.iload_n 2, 1) := by decide +kernel
theorem dX11_town_248 : decode cX11_town 248 = .ok (.iconst 3, 1) := by decide +kernel
theorem dX11_town_249 : decode cX11_town 249 = .ok (.if_icmp .ge 16, 3) := by decide +kernel
theorem dX11_town_252 : decode cX11_town 252 = .ok (.aload_n 0, 1) := by decide +kernel
theorem dX11_town_253 : decode cX11_town 253 = .ok (.getfield 49, 3) := by decide +kernel
theorem dX11_town_256 : decode cX11_town 256 = .ok (.iload_n 2, 1) := by decide +kernel
theorem dX11_town_257 : decode cX11_town 257 = .ok (.iconst 0, 1) := by decide +kernel
theorem dX11_town_258 : decode cX11_town 258 = .ok (.bastore, 1) := by decide +kernel
theorem dX11_town_259 : decode cX11_town 259 = .ok (.iinc 2 1, 3) := by decide +kernel
theorem dX11_town_262 : decode cX11_town 262 = .ok (.goto (-15), 3) := by decide +kernel
theorem dX11_town_265 : decode cX11_town 265 = .ok (.aload_n 0, 1) := by decide +kernel
theorem dX11_town_266 : decode cX11_town 266 = .ok (.getfield 160, 3) := by decide +kernel
theorem dX11_town_269 : decode cX11_town 269 = .ok (.ireturn, 1) := by decide +kernel
def fX11_town_L55 : Nat → St → Int32 → (St → Int32 → Option (St × Int32)) → Option (St × Int32)
  | 0, _, _, _ => none
  | n + 1, σ8, v9, k => (if 55 ≤ v9 then k σ8 v9 else wr LM σ8 10 v9 0 (fun σ10 => fX11_town_L55 n σ10 (v9 + 1) k))
def fX11_town_L247 : Nat → St → Int32 → (St → Int32 → Option (St × Int32)) → Option (St × Int32)
  | 0, _, _, _ => none
  | n + 1, σ44, v45, k => (if 3 ≤ v45 then k σ44 v45 else gd (inb v45 3) (pt (su σ44 14 (Int32.toNatClampNeg v45) 0) (fun σ46 => fX11_town_L247 n σ46 (v45 + 1) k)))
def fX11_town_L143 (v24 : Int32) : Nat → St → Int32 → Int32 → (St → Int32 → Int32 → Option (St × Int32)) → Option (St × Int32)
  | 0, _, _, _, _ => none
  | n + 1, σ25, v26, v27, k => (if (σ25.1 0 7) ≤ v27 then k σ25 v26 v27 else cl (fX11_isAhead σ25 18 (7 * v27) 18 (7 * v24)) (fun σ28 r29 => pv (if r29 = 0 then 0 else 1) (fun (y31 : Int32) => fX11_town_L143 v24 n σ28 (v26 + y31) (v27 + 1) k)))
def fX11_town_L76 : Nat → St → Int32 → (St → Int32 → Option (St × Int32)) → Option (St × Int32)
  | 0, _, _, _ => none
  | n + 1, σ13, v14, k => (if (σ13.1 0 4) ≤ v14 then k σ13 v14 else rd LM σ13 16 v14 (fun x15 => wr LM σ13 5 v14 x15 (fun σ16 => rd LM σ16 17 v14 (fun x17 => wr LM σ16 6 v14 x17 (fun σ18 => rd LM σ18 6 v14 (fun x19 => wr LM σ18 10 (1 + v14) x19 (fun σ20 => fX11_town_L76 n σ20 (v14 + 1) k)))))))
def fX11_town_L130 : Nat → St → Int32 → (St → Int32 → Option (St × Int32)) → Option (St × Int32)
  | 0, _, _, _ => none
  | n + 1, σ23, v24, k => (if (σ23.1 0 7) ≤ v24 then k σ23 v24 else fX11_town_L143 v24 10000 σ23 0 0 (fun σ32 v33 v34 => cl (fX11_copies σ32 18 (7 * v24) 7 (7 * v33) 7) (fun σ35 r36 => rd LM σ35 19 v24 (fun x37 => wr LM σ35 8 v33 x37 (fun σ38 => rd LM σ38 20 v24 (fun x39 => wr LM σ38 9 v33 x39 (fun σ40 => fX11_town_L130 n σ40 (v24 + 1) k)))))))
def fX11_town (σ : St) (p1 : Int32) : Option (St × Int32) := cl (fX11_isText σ p1) (fun σ1 r2 => (if r2 = 0 then some (σ1, (-1)) else rd LM σ1 3 p1 (fun x3 => (if 0 ≤ x3 then cl (fX11_reads σ1 p1) (fun σ4 r5 => (if r5 = (-9) then pt (su σ4 0 4 (σ4.1 0 23)) (fun σ6 => pt (su σ6 0 7 (σ6.1 0 26)) (fun σ7 => fX11_town_L55 10000 σ7 0 (fun σ11 v12 => fX11_town_L76 10000 σ11 0 (fun σ21 v22 => fX11_town_L130 10000 σ21 0 (fun σ41 v42 => pt (su σ41 0 14 0) (fun σ43 => fX11_town_L247 10000 σ43 0 (fun σ47 v48 => some (σ47, σ47.1 0 4)))))))) else some (σ4, (-4)))) else cl (fX11_found σ1 1) (fun σ49 r50 => some (σ49, r50))))))
set_option maxHeartbeats 4000000 in
set_option maxRecDepth 100000 in
theorem ctX11_town (l : Launch) (g : GG) (σ : St) (p1 : Int32) (σ' : St) (r : Int32) (hE : fX11_town σ p1 = some (σ', r)) : MI 25 entM l g yX11_town (Cond.code yX11_town cX11_town 5 (some .int) :: gtbl) (rmD 5) [.ref (g.2.1 0), .int p1] σ σ' r := by
  refine mi_i (own := RX11) (lv := [(0, .ref (g.2.1 0)), (1, .int p1)]) (by decide) rfl (Nat.le_of_ble_eq_true rfl) rfl (fun p e s m below meth c ls args Q A H0 H locs C hK hA hQ hs hl => ?_)
  have hx := C.1
  have hb := C.2.1
  unfold fX11_town at hE
  refine lv_iload_n hx hb dX11_town_0 rfl (lv_at hl 1 rfl) ?_
  obtain ⟨σ1, r2, hE1, hE⟩ := cl_e hE
  refine x_cis (As := [.int p1]) (rest := []) C hl.1 hK hs hA ⟨Nat.le_refl 0, Nat.le_refl 0⟩ (ctX11_isText l g _ _ _ _ hE1) (cw_X11_113 C ⟨Nat.le_of_ble_eq_true rfl, Nat.le_of_ble_eq_true rfl⟩) rfl rfl (Nat.le_of_ble_eq_true rfl) dX11_town_1 (fun H locs hs => ?_)
  refine lv_if_ne (tgt := 9) hx hb dX11_town_4 (by decide) (fun hc => ?_) (fun hc => ?_)
  · have hE := if_f hc hE
    refine lv_aload_n hx hb dX11_town_9 rfl (lv_at hl 0 rfl) ?_
    refine gf_X11_16_0 C hK hs dX11_town_10 ?_
    refine lv_iload_n hx hb dX11_town_13 rfl (lv_at hl 1 rfl) ?_
    obtain ⟨hi, x3, ex3, hE⟩ := rd_w hE
    refine y_ald layM C hK hs hi ex3 dX11_town_14 ?_
    refine lv_if_ge (tgt := 24) hx hb dX11_town_15 (by decide) (fun hc => ?_) (fun hc => ?_)
    · have hE := if_t hc hE
      refine lv_aload_n hx hb dX11_town_24 rfl (lv_at hl 0 rfl) ?_
      refine lv_iload_n hx hb dX11_town_25 rfl (lv_at hl 1 rfl) ?_
      obtain ⟨σ4, r5, hE1, hE⟩ := cl_e hE
      refine x_civ (As := [.int p1]) (rest := []) C hl.1 hK hs hA ⟨Nat.le_refl 0, Nat.le_refl 0⟩ (ctX11_reads l g _ _ _ _ hE1) (cw_X11_157 C ⟨Nat.le_of_ble_eq_true rfl, Nat.le_of_ble_eq_true rfl⟩) (hs.recv hK 0 (by decide) rfl rfl) rfl rfl (Nat.le_of_ble_eq_true rfl) dX11_town_26 (fun H locs hs => ?_)
      refine lv_bipush (v := (-9)) hx hb dX11_town_29 (by decide) ?_
      refine lv_icmp_eq (tgt := 37) hx hb dX11_town_31 (by decide) (fun hc => ?_) (fun hc => ?_)
      · have hE := if_t hc hE
        refine lv_aload_n hx hb dX11_town_37 rfl (lv_at hl 0 rfl) ?_
        refine lv_aload_n hx hb dX11_town_38 rfl (lv_at hl 0 rfl) ?_
        refine gf_X11_131_0 C hK hs dX11_town_39 ?_
        obtain ⟨σ6, eσ6, hE⟩ := pt_w hE
        refine pf_X11_160_0 C hK hs eσ6 dX11_town_42 (fun H locs hs => ?_)
        refine lv_aload_n hx hb dX11_town_45 rfl (lv_at hl 0 rfl) ?_
        refine lv_aload_n hx hb dX11_town_46 rfl (lv_at hl 0 rfl) ?_
        refine gf_X11_141_0 C hK hs dX11_town_47 ?_
        obtain ⟨σ7, eσ7, hE⟩ := pt_w hE
        refine pf_X11_163_0 C hK hs eσ7 dX11_town_50 (fun H locs hs => ?_)
        refine lv_iconst (v := 0) hx hb dX11_town_53 (by decide) ?_
        refine lv_istore_n (lv' := [(2, .int 0), (0, .ref (g.2.1 0)), (1, .int p1)]) hx hb dX11_town_54 rfl hl (by decide) rfl (fun ls hl => ?_)
        have hL55 : ∀ (n : Nat) (σ8 : St) (v9 : Int32) (k : St → Int32 → Option (St × Int32)), fX11_town_L55 n σ8 v9 k = some (σ', r) → (∀ (σ8 : St) (v9 : Int32) (H : Heap) (locs : List Loc) (ls : Array Slot), HW 25 entM g A H0 H locs σ8 → lv_has ls 5 [(0, .ref (g.2.1 0)), (2, .int v9)] → k σ8 v9 = some (σ', r) → W p l e (rmD 5) s m args below meth c H locs 0 0 Q (F0 m 74 ls [])) → ∀ (H : Heap) (locs : List Loc) (ls : Array Slot), HW 25 entM g A H0 H locs σ8 → lv_has ls 5 [(0, .ref (g.2.1 0)), (2, .int v9)] → W p l e (rmD 5) s m args below meth c H locs 0 0 Q (F0 m 55 ls []) := by
          intro n
          induction n with
          | zero =>
            intro σ8 v9 k hE
            rw [fX11_town_L55] at hE
            exact no_e hE
          | succ n ih =>
            intro σ8 v9 k hE hk H locs ls hs hl
            rw [fX11_town_L55] at hE
            refine lv_iload_n hx hb dX11_town_55 rfl (lv_at hl 1 rfl) ?_
            refine lv_bipush (v := 55) hx hb dX11_town_56 (by decide) ?_
            refine lv_icmp_ge (tgt := 74) hx hb dX11_town_58 (by decide) (fun hc => ?_) (fun hc => ?_)
            · have hE := if_t hc hE
              exact hk σ8 v9 _ _ _ hs (lv_sub hl [0, 1] rfl) hE
            · have hE := if_f hc hE
              refine lv_aload_n hx hb dX11_town_61 rfl (lv_at hl 0 rfl) ?_
              refine gf_X11_37_0 C hK hs dX11_town_62 ?_
              refine lv_iload_n hx hb dX11_town_65 rfl (lv_at hl 1 rfl) ?_
              refine lv_iconst (v := 0) hx hb dX11_town_66 (by decide) ?_
              obtain ⟨hi, σ10, eσ10, hE⟩ := wr_w hE
              refine y_ast layM C hK hs hi eσ10 dX11_town_67 (fun H locs hs => ?_)
              refine lv_iinc (v := v9 + 1) (lv' := [(2, .int (v9 + 1)), (0, .ref (g.2.1 0))]) hx hb dX11_town_68 hl (k := 1) rfl rfl (by decide) rfl (fun ls hl => ?_)
              refine lv_goto (tgt := 55) hx hb dX11_town_71 (by decide) ?_
              exact ih _ _ _ hE hk _ _ _ hs (lv_sub hl [1, 0] rfl)
        refine hL55 _ _ _ _ hE (fun σ11 v12 H locs ls hs hl hE => ?_) H locs ls hs (lv_sub hl [1, 0] rfl)
        refine lv_iconst (v := 0) hx hb dX11_town_74 (by decide) ?_
        refine lv_istore_n (lv' := [(2, .int 0), (0, .ref (g.2.1 0))]) hx hb dX11_town_75 rfl hl (by decide) rfl (fun ls hl => ?_)
        have hL76 : ∀ (n : Nat) (σ13 : St) (v14 : Int32) (k : St → Int32 → Option (St × Int32)), fX11_town_L76 n σ13 v14 k = some (σ', r) → (∀ (σ13 : St) (v14 : Int32) (H : Heap) (locs : List Loc) (ls : Array Slot), HW 25 entM g A H0 H locs σ13 → lv_has ls 5 [(0, .ref (g.2.1 0)), (2, .int v14)] → k σ13 v14 = some (σ', r) → W p l e (rmD 5) s m args below meth c H locs 0 0 Q (F0 m 128 ls [])) → ∀ (H : Heap) (locs : List Loc) (ls : Array Slot), HW 25 entM g A H0 H locs σ13 → lv_has ls 5 [(0, .ref (g.2.1 0)), (2, .int v14)] → W p l e (rmD 5) s m args below meth c H locs 0 0 Q (F0 m 76 ls []) := by
          intro n
          induction n with
          | zero =>
            intro σ13 v14 k hE
            rw [fX11_town_L76] at hE
            exact no_e hE
          | succ n ih =>
            intro σ13 v14 k hE hk H locs ls hs hl
            rw [fX11_town_L76] at hE
            refine lv_iload_n hx hb dX11_town_76 rfl (lv_at hl 1 rfl) ?_
            refine lv_aload_n hx hb dX11_town_77 rfl (lv_at hl 0 rfl) ?_
            refine gf_X11_160_0 C hK hs dX11_town_78 ?_
            refine lv_icmp_ge (tgt := 128) hx hb dX11_town_81 (by decide) (fun hc => ?_) (fun hc => ?_)
            · have hE := if_t hc hE
              exact hk σ13 v14 _ _ _ hs (lv_sub hl [0, 1] rfl) hE
            · have hE := if_f hc hE
              refine lv_aload_n hx hb dX11_town_84 rfl (lv_at hl 0 rfl) ?_
              refine gf_X11_22_0 C hK hs dX11_town_85 ?_
              refine lv_iload_n hx hb dX11_town_88 rfl (lv_at hl 1 rfl) ?_
              refine lv_aload_n hx hb dX11_town_89 rfl (lv_at hl 0 rfl) ?_
              refine gf_X11_60_0 C hK hs dX11_town_90 ?_
              refine lv_iload_n hx hb dX11_town_93 rfl (lv_at hl 1 rfl) ?_
              obtain ⟨hi, x15, ex15, hE⟩ := rd_w hE
              refine y_ald layM C hK hs hi ex15 dX11_town_94 ?_
              obtain ⟨hi, σ16, eσ16, hE⟩ := wr_w hE
              refine y_ast layM C hK hs hi eσ16 dX11_town_95 (fun H locs hs => ?_)
              refine lv_aload_n hx hb dX11_town_96 rfl (lv_at hl 0 rfl) ?_
              refine gf_X11_25_0 C hK hs dX11_town_97 ?_
              refine lv_iload_n hx hb dX11_town_100 rfl (lv_at hl 1 rfl) ?_
              refine lv_aload_n hx hb dX11_town_101 rfl (lv_at hl 0 rfl) ?_
              refine gf_X11_63_0 C hK hs dX11_town_102 ?_
              refine lv_iload_n hx hb dX11_town_105 rfl (lv_at hl 1 rfl) ?_
              obtain ⟨hi, x17, ex17, hE⟩ := rd_w hE
              refine y_ald layM C hK hs hi ex17 dX11_town_106 ?_
              obtain ⟨hi, σ18, eσ18, hE⟩ := wr_w hE
              refine y_ast layM C hK hs hi eσ18 dX11_town_107 (fun H locs hs => ?_)
              refine lv_aload_n hx hb dX11_town_108 rfl (lv_at hl 0 rfl) ?_
              refine gf_X11_37_0 C hK hs dX11_town_109 ?_
              refine lv_iconst (v := 1) hx hb dX11_town_112 (by decide) ?_
              refine lv_iload_n hx hb dX11_town_113 rfl (lv_at hl 1 rfl) ?_
              refine lv_iadd hx hb dX11_town_114 ?_
              refine lv_aload_n hx hb dX11_town_115 rfl (lv_at hl 0 rfl) ?_
              refine gf_X11_25_0 C hK hs dX11_town_116 ?_
              refine lv_iload_n hx hb dX11_town_119 rfl (lv_at hl 1 rfl) ?_
              obtain ⟨hi, x19, ex19, hE⟩ := rd_w hE
              refine y_ald layM C hK hs hi ex19 dX11_town_120 ?_
              obtain ⟨hi, σ20, eσ20, hE⟩ := wr_w hE
              refine y_ast layM C hK hs hi eσ20 dX11_town_121 (fun H locs hs => ?_)
              refine lv_iinc (v := v14 + 1) (lv' := [(2, .int (v14 + 1)), (0, .ref (g.2.1 0))]) hx hb dX11_town_122 hl (k := 1) rfl rfl (by decide) rfl (fun ls hl => ?_)
              refine lv_goto (tgt := 76) hx hb dX11_town_125 (by decide) ?_
              exact ih _ _ _ hE hk _ _ _ hs (lv_sub hl [1, 0] rfl)
        refine hL76 _ _ _ _ hE (fun σ21 v22 H locs ls hs hl hE => ?_) H locs ls hs (lv_sub hl [1, 0] rfl)
        refine lv_iconst (v := 0) hx hb dX11_town_128 (by decide) ?_
        refine lv_istore_n (lv' := [(2, .int 0), (0, .ref (g.2.1 0))]) hx hb dX11_town_129 rfl hl (by decide) rfl (fun ls hl => ?_)
        have hL130 : ∀ (n : Nat) (σ23 : St) (v24 : Int32) (k : St → Int32 → Option (St × Int32)), fX11_town_L130 n σ23 v24 k = some (σ', r) → (∀ (σ23 : St) (v24 : Int32) (H : Heap) (locs : List Loc) (ls : Array Slot), HW 25 entM g A H0 H locs σ23 → lv_has ls 5 [(0, .ref (g.2.1 0)), (2, .int v24)] → k σ23 v24 = some (σ', r) → W p l e (rmD 5) s m args below meth c H locs 0 0 Q (F0 m 240 ls [])) → ∀ (H : Heap) (locs : List Loc) (ls : Array Slot), HW 25 entM g A H0 H locs σ23 → lv_has ls 5 [(0, .ref (g.2.1 0)), (2, .int v24)] → W p l e (rmD 5) s m args below meth c H locs 0 0 Q (F0 m 130 ls []) := by
          intro n
          induction n with
          | zero =>
            intro σ23 v24 k hE
            rw [fX11_town_L130] at hE
            exact no_e hE
          | succ n ih =>
            intro σ23 v24 k hE hk H locs ls hs hl
            rw [fX11_town_L130] at hE
            refine lv_iload_n hx hb dX11_town_130 rfl (lv_at hl 1 rfl) ?_
            refine lv_aload_n hx hb dX11_town_131 rfl (lv_at hl 0 rfl) ?_
            refine gf_X11_163_0 C hK hs dX11_town_132 ?_
            refine lv_icmp_ge (tgt := 240) hx hb dX11_town_135 (by decide) (fun hc => ?_) (fun hc => ?_)
            · have hE := if_t hc hE
              exact hk σ23 v24 _ _ _ hs (lv_sub hl [0, 1] rfl) hE
            · have hE := if_f hc hE
              refine lv_iconst (v := 0) hx hb dX11_town_138 (by decide) ?_
              refine lv_istore_n (lv' := [(3, .int 0), (0, .ref (g.2.1 0)), (2, .int v24)]) hx hb dX11_town_139 rfl hl (by decide) rfl (fun ls hl => ?_)
              refine lv_iconst (v := 0) hx hb dX11_town_140 (by decide) ?_
              refine lv_istore (lv' := [(4, .int 0), (3, .int 0), (0, .ref (g.2.1 0)), (2, .int v24)]) hx hb dX11_town_141 hl (by decide) rfl (fun ls hl => ?_)
              have hL143 : ∀ (n : Nat) (σ25 : St) (v26 : Int32) (v27 : Int32) (k : St → Int32 → Int32 → Option (St × Int32)), fX11_town_L143 v24 n σ25 v26 v27 k = some (σ', r) → (∀ (σ25 : St) (v26 : Int32) (v27 : Int32) (H : Heap) (locs : List Loc) (ls : Array Slot), HW 25 entM g A H0 H locs σ25 → lv_has ls 5 [(0, .ref (g.2.1 0)), (2, .int v24), (3, .int v26), (4, .int v27)] → k σ25 v26 v27 = some (σ', r) → W p l e (rmD 5) s m args below meth c H locs 0 0 Q (F0 m 189 ls [])) → ∀ (H : Heap) (locs : List Loc) (ls : Array Slot), HW 25 entM g A H0 H locs σ25 → lv_has ls 5 [(0, .ref (g.2.1 0)), (2, .int v24), (3, .int v26), (4, .int v27)] → W p l e (rmD 5) s m args below meth c H locs 0 0 Q (F0 m 143 ls []) := by
                intro n
                induction n with
                | zero =>
                  intro σ25 v26 v27 k hE
                  rw [fX11_town_L143] at hE
                  exact no_e hE
                | succ n ih =>
                  intro σ25 v26 v27 k hE hk H locs ls hs hl
                  rw [fX11_town_L143] at hE
                  refine lv_iload hx hb dX11_town_143 (lv_at hl 3 rfl) ?_
                  refine lv_aload_n hx hb dX11_town_145 rfl (lv_at hl 0 rfl) ?_
                  refine gf_X11_163_0 C hK hs dX11_town_146 ?_
                  refine lv_icmp_ge (tgt := 189) hx hb dX11_town_149 (by decide) (fun hc => ?_) (fun hc => ?_)
                  · have hE := if_t hc hE
                    exact hk σ25 v26 v27 _ _ _ hs (lv_sub hl [0, 1, 2, 3] rfl) hE
                  · have hE := if_f hc hE
                    refine lv_iload_n hx hb dX11_town_152 rfl (lv_at hl 2 rfl) ?_
                    refine lv_aload_n hx hb dX11_town_153 rfl (lv_at hl 0 rfl) ?_
                    refine gf_X11_66_0 C hK hs dX11_town_154 ?_
                    refine lv_bipush (v := 7) hx hb dX11_town_157 (by decide) ?_
                    refine lv_iload hx hb dX11_town_159 (lv_at hl 3 rfl) ?_
                    refine lv_imul hx hb dX11_town_161 ?_
                    refine lv_aload_n hx hb dX11_town_162 rfl (lv_at hl 0 rfl) ?_
                    refine gf_X11_66_0 C hK hs dX11_town_163 ?_
                    refine lv_bipush (v := 7) hx hb dX11_town_166 (by decide) ?_
                    refine lv_iload_n hx hb dX11_town_168 rfl (lv_at hl 1 rfl) ?_
                    refine lv_imul hx hb dX11_town_169 ?_
                    obtain ⟨σ28, r29, hE1, hE⟩ := cl_e hE
                    refine x_cis (As := [.ref (g.2.1 18), .int (7 * v27), .ref (g.2.1 18), .int (7 * v24)]) (rest := [.int v26]) C hl.1 hK hs hA ⟨Nat.le_refl 0, Nat.le_refl 0⟩ (ctX11_isAhead l g _ _ _ _ _ _ _ hE1) (cw_X11_166 C ⟨Nat.le_of_ble_eq_true rfl, Nat.le_of_ble_eq_true rfl⟩) rfl rfl (Nat.le_of_ble_eq_true rfl) dX11_town_170 (fun H locs hs => ?_)
                    refine pvw hE (fun k30 hE hk30 => ?_)
                    have hJk30 : ∀ (y31 : Int32) (H : Heap) (locs : List Loc) (ls : Array Slot), HW 25 entM g A H0 H locs σ28 → lv_has ls 5 [(0, .ref (g.2.1 0)), (2, .int v24), (4, .int v27)] → k30 y31 = some (σ', r) → W p l e (rmD 5) s m args below meth c H locs 0 0 Q (F0 m 181 ls [.int y31, .int v26]) := by
                      intro y31 H locs ls hs hl hE
                      have hE := hk30 _ hE
                      refine lv_iadd hx hb dX11_town_181 ?_
                      refine lv_istore_n (lv' := [(3, .int (v26 + y31)), (0, .ref (g.2.1 0)), (2, .int v24), (4, .int v27)]) hx hb dX11_town_182 rfl hl (by decide) rfl (fun ls hl => ?_)
                      refine lv_iinc (v := v27 + 1) (lv' := [(4, .int (v27 + 1)), (3, .int (v26 + y31)), (0, .ref (g.2.1 0)), (2, .int v24)]) hx hb dX11_town_183 hl (k := 3) rfl rfl (by decide) rfl (fun ls hl => ?_)
                      refine lv_goto (tgt := 143) hx hb dX11_town_186 (by decide) ?_
                      exact ih _ _ _ _ hE hk _ _ _ hs (lv_sub hl [2, 3, 1, 0] rfl)
                    refine lv_if_eq (tgt := 180) hx hb dX11_town_173 (by decide) (fun hc => ?_) (fun hc => ?_)
                    · have hE := pv_t hc hE
                      refine lv_iconst (v := 0) hx hb dX11_town_180 (by decide) ?_
                      exact hJk30 0 _ _ _ hs (lv_sub hl [0, 1, 3] rfl) hE
                    · have hE := pv_f hc hE
                      refine lv_iconst (v := 1) hx hb dX11_town_176 (by decide) ?_
                      refine lv_goto (tgt := 181) hx hb dX11_town_177 (by decide) ?_
                      exact hJk30 1 _ _ _ hs (lv_sub hl [0, 1, 3] rfl) hE
              refine hL143 _ _ _ _ _ hE (fun σ32 v33 v34 H locs ls hs hl hE => ?_) H locs ls hs (lv_sub hl [2, 3, 1, 0] rfl)
              refine lv_aload_n hx hb dX11_town_189 rfl (lv_at hl 0 rfl) ?_
              refine gf_X11_66_0 C hK hs dX11_town_190 ?_
              refine lv_bipush (v := 7) hx hb dX11_town_193 (by decide) ?_
              refine lv_iload_n hx hb dX11_town_195 rfl (lv_at hl 1 rfl) ?_
              refine lv_imul hx hb dX11_town_196 ?_
              refine lv_aload_n hx hb dX11_town_197 rfl (lv_at hl 0 rfl) ?_
              refine gf_X11_28_0 C hK hs dX11_town_198 ?_
              refine lv_bipush (v := 7) hx hb dX11_town_201 (by decide) ?_
              refine lv_iload_n hx hb dX11_town_203 rfl (lv_at hl 2 rfl) ?_
              refine lv_imul hx hb dX11_town_204 ?_
              refine lv_bipush (v := 7) hx hb dX11_town_205 (by decide) ?_
              obtain ⟨σ35, r36, hE1, hE⟩ := cl_e hE
              refine x_cvs (As := [.ref (g.2.1 18), .int (7 * v24), .ref (g.2.1 7), .int (7 * v33), .int 7]) (rest := []) C hl.1 hK hs hA ⟨Nat.le_refl 0, Nat.le_refl 0⟩ (ctX11_copies l g _ _ _ _ _ _ _ _ hE1) (cw_X11_170 C ⟨Nat.le_of_ble_eq_true rfl, Nat.le_of_ble_eq_true rfl⟩) rfl rfl (Nat.le_of_ble_eq_true rfl) dX11_town_207 (fun H locs hs => ?_)
              refine lv_aload_n hx hb dX11_town_210 rfl (lv_at hl 0 rfl) ?_
              refine gf_X11_31_0 C hK hs dX11_town_211 ?_
              refine lv_iload_n hx hb dX11_town_214 rfl (lv_at hl 2 rfl) ?_
              refine lv_aload_n hx hb dX11_town_215 rfl (lv_at hl 0 rfl) ?_
              refine gf_X11_69_0 C hK hs dX11_town_216 ?_
              refine lv_iload_n hx hb dX11_town_219 rfl (lv_at hl 1 rfl) ?_
              obtain ⟨hi, x37, ex37, hE⟩ := rd_w hE
              refine y_ald layM C hK hs hi ex37 dX11_town_220 ?_
              obtain ⟨hi, σ38, eσ38, hE⟩ := wr_w hE
              refine y_ast layM C hK hs hi eσ38 dX11_town_221 (fun H locs hs => ?_)
              refine lv_aload_n hx hb dX11_town_222 rfl (lv_at hl 0 rfl) ?_
              refine gf_X11_34_0 C hK hs dX11_town_223 ?_
              refine lv_iload_n hx hb dX11_town_226 rfl (lv_at hl 2 rfl) ?_
              refine lv_aload_n hx hb dX11_town_227 rfl (lv_at hl 0 rfl) ?_
              refine gf_X11_72_0 C hK hs dX11_town_228 ?_
              refine lv_iload_n hx hb dX11_town_231 rfl (lv_at hl 1 rfl) ?_
              obtain ⟨hi, x39, ex39, hE⟩ := rd_w hE
              refine y_ald layM C hK hs hi ex39 dX11_town_232 ?_
              obtain ⟨hi, σ40, eσ40, hE⟩ := wr_w hE
              refine y_ast layM C hK hs hi eσ40 dX11_town_233 (fun H locs hs => ?_)
              refine lv_iinc (v := v24 + 1) (lv' := [(2, .int (v24 + 1)), (0, .ref (g.2.1 0)), (3, .int v33), (4, .int v34)]) hx hb dX11_town_234 hl (k := 1) rfl rfl (by decide) rfl (fun ls hl => ?_)
              refine lv_goto (tgt := 130) hx hb dX11_town_237 (by decide) ?_
              exact ih _ _ _ hE hk _ _ _ hs (lv_sub hl [1, 0] rfl)
        refine hL130 _ _ _ _ hE (fun σ41 v42 H locs ls hs hl hE => ?_) H locs ls hs (lv_sub hl [1, 0] rfl)
        refine lv_aload_n hx hb dX11_town_240 rfl (lv_at hl 0 rfl) ?_
        refine lv_iconst (v := 0) hx hb dX11_town_241 (by decide) ?_
        obtain ⟨σ43, eσ43, hE⟩ := pt_w hE
        refine pf_X11_174_0 C hK hs eσ43 dX11_town_242 (fun H locs hs => ?_)
        refine lv_iconst (v := 0) hx hb dX11_town_245 (by decide) ?_
        refine lv_istore_n (lv' := [(2, .int 0), (0, .ref (g.2.1 0))]) hx hb dX11_town_246 rfl hl (by decide) rfl (fun ls hl => ?_)
        have hL247 : ∀ (n : Nat) (σ44 : St) (v45 : Int32) (k : St → Int32 → Option (St × Int32)), fX11_town_L247 n σ44 v45 k = some (σ', r) → (∀ (σ44 : St) (v45 : Int32) (H : Heap) (locs : List Loc) (ls : Array Slot), HW 25 entM g A H0 H locs σ44 → lv_has ls 5 [(0, .ref (g.2.1 0)), (2, .int v45)] → k σ44 v45 = some (σ', r) → W p l e (rmD 5) s m args below meth c H locs 0 0 Q (F0 m 265 ls [])) → ∀ (H : Heap) (locs : List Loc) (ls : Array Slot), HW 25 entM g A H0 H locs σ44 → lv_has ls 5 [(0, .ref (g.2.1 0)), (2, .int v45)] → W p l e (rmD 5) s m args below meth c H locs 0 0 Q (F0 m 247 ls []) := by
          intro n
          induction n with
          | zero =>
            intro σ44 v45 k hE
            rw [fX11_town_L247] at hE
            exact no_e hE
          | succ n ih =>
            intro σ44 v45 k hE hk H locs ls hs hl
            rw [fX11_town_L247] at hE
            refine lv_iload_n hx hb dX11_town_247 rfl (lv_at hl 1 rfl) ?_
            refine lv_iconst (v := 3) hx hb dX11_town_248 (by decide) ?_
            refine lv_icmp_ge (tgt := 265) hx hb dX11_town_249 (by decide) (fun hc => ?_) (fun hc => ?_)
            · have hE := if_t hc hE
              exact hk σ44 v45 _ _ _ hs (lv_sub hl [0, 1] rfl) hE
            · have hE := if_f hc hE
              refine lv_aload_n hx hb dX11_town_252 rfl (lv_at hl 0 rfl) ?_
              refine gf_X11_49_0 C hK hs dX11_town_253 ?_
              refine lv_iload_n hx hb dX11_town_256 rfl (lv_at hl 1 rfl) ?_
              refine lv_iconst (v := 0) hx hb dX11_town_257 (by decide) ?_
              obtain ⟨hi, hE⟩ := gd_e hE
              obtain ⟨σ46, eσ46, hE⟩ := pt_w hE
              refine y_zst layM C hK hs 14 3 (by decide) (fun _ => rfl) hi rfl eσ46 dX11_town_258 (fun H locs hs => ?_)
              refine lv_iinc (v := v45 + 1) (lv' := [(2, .int (v45 + 1)), (0, .ref (g.2.1 0))]) hx hb dX11_town_259 hl (k := 1) rfl rfl (by decide) rfl (fun ls hl => ?_)
              refine lv_goto (tgt := 247) hx hb dX11_town_262 (by decide) ?_
              exact ih _ _ _ hE hk _ _ _ hs (lv_sub hl [1, 0] rfl)
        refine hL247 _ _ _ _ hE (fun σ47 v48 H locs ls hs hl hE => ?_) H locs ls hs (lv_sub hl [1, 0] rfl)
        refine lv_aload_n hx hb dX11_town_265 rfl (lv_at hl 0 rfl) ?_
        refine gf_X11_160_0 C hK hs dX11_town_266 ?_
        exact hQ hs hE dX11_town_269
      · have hE := if_f hc hE
        refine lv_bipush (v := (-4)) hx hb dX11_town_34 (by decide) ?_
        exact hQ hs hE dX11_town_36
    · have hE := if_f hc hE
      refine lv_aload_n hx hb dX11_town_18 rfl (lv_at hl 0 rfl) ?_
      refine lv_iconst (v := 1) hx hb dX11_town_19 (by decide) ?_
      obtain ⟨σ49, r50, hE1, hE⟩ := cl_e hE
      refine x_civ (As := [.int 1]) (rest := []) C hl.1 hK hs hA ⟨Nat.le_refl 0, Nat.le_refl 0⟩ (ctX11_found l g _ _ _ _ hE1) (cw_X11_106 C ⟨Nat.le_of_ble_eq_true rfl, Nat.le_of_ble_eq_true rfl⟩) (hs.recv hK 0 (by decide) rfl rfl) rfl rfl (Nat.le_of_ble_eq_true rfl) dX11_town_20 (fun H locs hs => ?_)
      exact hQ hs hE dX11_town_23
  · have hE := if_t hc hE
    refine lv_iconst (v := (-1)) hx hb dX11_town_7 (by decide) ?_
    exact hQ hs hE dX11_town_8
theorem dX11_isHouse_0 : decode cX11_isHouse 0 = .ok (.iload_n 1, 1) := by decide +kernel
theorem dX11_isHouse_1 : decode cX11_isHouse 1 = .ok (.i2l, 1) := by decide +kernel
theorem dX11_isHouse_2 : decode cX11_isHouse 2 = .ok (.lconst 0, 1) := by decide +kernel
theorem dX11_isHouse_3 : decode cX11_isHouse 3 = .ok (.aload_n 0, 1) := by decide +kernel
theorem dX11_isHouse_4 : decode cX11_isHouse 4 = .ok (.getfield 160, 3) := by decide +kernel
theorem dX11_isHouse_7 : decode cX11_isHouse 7 = .ok (.iconst 1, 1) := by decide +kernel
theorem dX11_isHouse_8 : decode cX11_isHouse 8 = .ok (.isub, 1) := by decide +kernel
theorem dX11_isHouse_9 : decode cX11_isHouse 9 = .ok (.i2l, 1) := by decide +kernel
theorem dX11_isHouse_10 : decode cX11_isHouse 10 = .ok (.invokestatic 96, 3) := by decide +kernel
theorem dX11_isHouse_13 : decode cX11_isHouse 13 = .ok (.ireturn, 1) := by decide +kernel
def fX11_isHouse (σ : St) (p1 : Int32) : Option (St × Int32) := cl (fX11_in σ (p1.toInt64) 0 (((σ.1 0 4) - 1).toInt64)) (fun σ1 r2 => gd (isB r2) (some (σ1, r2)))
set_option maxHeartbeats 4000000 in
set_option maxRecDepth 100000 in
theorem ctX11_isHouse (l : Launch) (g : GG) (σ : St) (p1 : Int32) (σ' : St) (r : Int32) (hE : fX11_isHouse σ p1 = some (σ', r)) : MI 25 entM l g yX11_isHouse (Cond.code yX11_isHouse cX11_isHouse 2 (some .boolean) :: gtbl) (rmD 2) [.ref (g.2.1 0), .int p1] σ σ' r := by
  refine mi_z (own := RX11) (lv := [(0, .ref (g.2.1 0)), (1, .int p1)]) (by decide) rfl (Nat.le_of_ble_eq_true rfl) rfl (fun p e s m below meth c ls args Q A H0 H locs C hK hA hQ hs hl => ?_)
  have hx := C.1
  have hb := C.2.1
  unfold fX11_isHouse at hE
  refine lv_iload_n hx hb dX11_isHouse_0 rfl (lv_at hl 1 rfl) ?_
  refine lv_i2l (v := p1.toInt64) hx hb dX11_isHouse_1 rfl ?_
  refine lv_lconst (v := 0) hx hb dX11_isHouse_2 (by decide) ?_
  refine lv_aload_n hx hb dX11_isHouse_3 rfl (lv_at hl 0 rfl) ?_
  refine gf_X11_160_0 C hK hs dX11_isHouse_4 ?_
  refine lv_iconst (v := 1) hx hb dX11_isHouse_7 (by decide) ?_
  refine lv_isub hx hb dX11_isHouse_8 ?_
  refine lv_i2l (v := ((σ.1 0 4) - 1).toInt64) hx hb dX11_isHouse_9 rfl ?_
  obtain ⟨σ1, r2, hE1, hE⟩ := cl_e hE
  refine x_cis (As := [.long (p1.toInt64), .long 0, .long (((σ.1 0 4) - 1).toInt64)]) (rest := []) C hl.1 hK hs hA ⟨Nat.le_refl 0, Nat.le_refl 0⟩ (ctX11_in l g _ _ _ _ _ _ hE1) (cw_X11_96 C ⟨Nat.le_of_ble_eq_true rfl, Nat.le_of_ble_eq_true rfl⟩) rfl rfl (Nat.le_of_ble_eq_true rfl) dX11_isHouse_10 (fun H locs hs => ?_)
  obtain ⟨hc, hE⟩ := gd_e hE
  exact hQ hs hc hE dX11_isHouse_13
theorem dX11_isColour_0 : decode cX11_isColour 0 = .ok (.iload_n 1, 1) := by decide +kernel
theorem dX11_isColour_1 : decode cX11_isColour 1 = .ok (.i2l, 1) := by decide +kernel
theorem dX11_isColour_2 : decode cX11_isColour 2 = .ok (.lconst 0, 1) := by decide +kernel
theorem dX11_isColour_3 : decode cX11_isColour 3 = .ok (.aload_n 0, 1) := by decide +kernel
theorem dX11_isColour_4 : decode cX11_isColour 4 = .ok (.getfield 163, 3) := by decide +kernel
theorem dX11_isColour_7 : decode cX11_isColour 7 = .ok (.iconst 1, 1) := by decide +kernel
theorem dX11_isColour_8 : decode cX11_isColour 8 = .ok (.isub, 1) := by decide +kernel
theorem dX11_isColour_9 : decode cX11_isColour 9 = .ok (.i2l, 1) := by decide +kernel
theorem dX11_isColour_10 : decode cX11_isColour 10 = .ok (.invokestatic 96, 3) := by decide +kernel
theorem dX11_isColour_13 : decode cX11_isColour 13 = .ok (.ireturn, 1) := by decide +kernel
def fX11_isColour (σ : St) (p1 : Int32) : Option (St × Int32) := cl (fX11_in σ (p1.toInt64) 0 (((σ.1 0 7) - 1).toInt64)) (fun σ1 r2 => gd (isB r2) (some (σ1, r2)))
set_option maxHeartbeats 4000000 in
set_option maxRecDepth 100000 in
theorem ctX11_isColour (l : Launch) (g : GG) (σ : St) (p1 : Int32) (σ' : St) (r : Int32) (hE : fX11_isColour σ p1 = some (σ', r)) : MI 25 entM l g yX11_isColour (Cond.code yX11_isColour cX11_isColour 2 (some .boolean) :: gtbl) (rmD 2) [.ref (g.2.1 0), .int p1] σ σ' r := by
  refine mi_z (own := RX11) (lv := [(0, .ref (g.2.1 0)), (1, .int p1)]) (by decide) rfl (Nat.le_of_ble_eq_true rfl) rfl (fun p e s m below meth c ls args Q A H0 H locs C hK hA hQ hs hl => ?_)
  have hx := C.1
  have hb := C.2.1
  unfold fX11_isColour at hE
  refine lv_iload_n hx hb dX11_isColour_0 rfl (lv_at hl 1 rfl) ?_
  refine lv_i2l (v := p1.toInt64) hx hb dX11_isColour_1 rfl ?_
  refine lv_lconst (v := 0) hx hb dX11_isColour_2 (by decide) ?_
  refine lv_aload_n hx hb dX11_isColour_3 rfl (lv_at hl 0 rfl) ?_
  refine gf_X11_163_0 C hK hs dX11_isColour_4 ?_
  refine lv_iconst (v := 1) hx hb dX11_isColour_7 (by decide) ?_
  refine lv_isub hx hb dX11_isColour_8 ?_
  refine lv_i2l (v := ((σ.1 0 7) - 1).toInt64) hx hb dX11_isColour_9 rfl ?_
  obtain ⟨σ1, r2, hE1, hE⟩ := cl_e hE
  refine x_cis (As := [.long (p1.toInt64), .long 0, .long (((σ.1 0 7) - 1).toInt64)]) (rest := []) C hl.1 hK hs hA ⟨Nat.le_refl 0, Nat.le_refl 0⟩ (ctX11_in l g _ _ _ _ _ _ hE1) (cw_X11_96 C ⟨Nat.le_of_ble_eq_true rfl, Nat.le_of_ble_eq_true rfl⟩) rfl rfl (Nat.le_of_ble_eq_true rfl) dX11_isColour_10 (fun H locs hs => ?_)
  obtain ⟨hc, hE⟩ := gd_e hE
  exact hQ hs hc hE dX11_isColour_13
