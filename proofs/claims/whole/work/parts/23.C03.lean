theorem dX4_play_0 : decode cX4_play 0 = .ok (.iload_n 2, 1) := by decide +kernel
theorem dX4_play_1 : decode cX4_play 1 = .ok (.ifCond .le 8, 3) := by decide +kernel
theorem dX4_play_4 : decode cX4_play 4 = .ok (.iload_n 2, 1) := by decide +kernel
theorem dX4_play_5 : decode cX4_play 5 = .ok (.iconst 3, 1) := by decide +kernel
theorem dX4_play_6 : decode cX4_play 6 = .ok (.if_icmp .le 6, 3) := by decide +kernel
theorem dX4_play_9 : decode cX4_play 9 = .ok (.iload 4, 2) := by decide +kernel
theorem dX4_play_11 : decode cX4_play 11 = .ok (.ireturn, 1) := by decide +kernel
theorem dX4_play_12 : decode cX4_play 12 = .ok (.iload_n 3, 1) := by decide +kernel
theorem dX4_play_13 : decode cX4_play 13 = .ok (.ifCond .eq 7, 3) := by decide +kernel
theorem dX4_play_16 : decode cX4_play 16 = .ok (.iconst 1, 1) := by decide +kernel
theorem dX4_play_17 : decode cX4_play 17 = .ok (.goto 4, 3) := by decide +kernel
theorem dX4_play_20 : decode cX4_play 20 = .ok (.iconst (-1), 1) := by decide +kernel
theorem dX4_play_21 : decode cX4_play 21 = .ok (.istore 5, 2) := by decide +kernel
theorem dX4_play_23 : decode cX4_play 23 = .ok (.aload_n 0, 1) := by decide +kernel
theorem dX4_play_24 : decode cX4_play 24 = .ok (.aload_n 1, 1) := by decide +kernel
theorem dX4_play_25 : decode cX4_play 25 = .ok (.iload_n 2, 1) := by decide +kernel
theorem dX4_play_26 : decode cX4_play 26 = .ok (.iconst 1, 1) := by decide +kernel
theorem dX4_play_27 : decode cX4_play 27 = .ok (.isub, 1) := by decide +kernel
theorem dX4_play_28 : decode cX4_play 28 = .ok (.iload_n 3, 1) := by decide +kernel
theorem dX4_play_29 : decode cX4_play 29 = .ok (.ifCond .ne 7, 3) := by decide +kernel
theorem dX4_play_32 : decode cX4_play 32 = .ok (.iconst 1, 1) := by decide +kernel
theorem dX4_play_33 : decode cX4_play 33 = .ok (.goto 4, 3) := by decide +kernel
theorem dX4_play_36 : decode cX4_play 36 = .ok (.iconst 0, 1) := by decide +kernel
theorem dX4_play_37 : decode cX4_play 37 = .ok (.iload 4, 2) := by decide +kernel
theorem dX4_play_39 : decode cX4_play 39 = .ok (.invokestatic 74, 3) := by decide +kernel
theorem dX4_play_42 : decode cX4_play 42 = .ok (.istore 6, 2) := by decide +kernel
theorem dX4_play_44 : decode cX4_play 44 = .ok (.iconst 0, 1) := by decide +kernel
theorem dX4_play_45 : decode cX4_play 45 = .ok (.istore 7, 2) := by decide +kernel
theorem dX4_play_47 : decode cX4_play 47 = .ok (.iload 7, 2) := by decide +kernel
theorem dX4_play_49 : decode cX4_play 49 = .ok (.aload_n 1, 1) := by decide +kernel
theorem dX4_play_50 : decode cX4_play 50 = .ok (.getfield 26, 3) := by decide +kernel
theorem dX4_play_53 : decode cX4_play 53 = .ok (.getfield 64, 3) := by decide +kernel
theorem dX4_play_56 : decode cX4_play 56 = .ok (.if_icmp .ge 138, 3) := by decide +kernel
theorem dX4_play_59 : decode cX4_play 59 = .ok (.aload_n 0, 1) := by decide +kernel
theorem dX4_play_60 : decode cX4_play 60 = .ok (.getfield 23, 3) := by decide +kernel
theorem dX4_play_63 : decode cX4_play 63 = .ok (.iload 7, 2) := by decide +kernel
theorem dX4_play_65 : decode cX4_play 65 = .ok (.iaload, 1) := by decide +kernel
theorem dX4_play_66 : decode cX4_play 66 = .ok (.istore 8, 2) := by decide +kernel
theorem dX4_play_68 : decode cX4_play 68 = .ok (.aload_n 1, 1) := by decide +kernel
theorem dX4_play_69 : decode cX4_play 69 = .ok (.getfield 78, 3) := by decide +kernel
theorem dX4_play_72 : decode cX4_play 72 = .ok (.iload 7, 2) := by decide +kernel
theorem dX4_play_74 : decode cX4_play 74 = .ok (.iaload, 1) := by decide +kernel
theorem dX4_play_75 : decode cX4_play 75 = .ok (.iload 8, 2) := by decide +kernel
theorem dX4_play_77 : decode cX4_play 77 = .ok (.iadd, 1) := by decide +kernel
theorem dX4_play_78 : decode cX4_play 78 = .ok (.iload 5, 2) := by decide +kernel
theorem dX4_play_80 : decode cX4_play 80 = .ok (.iadd, 1) := by decide +kernel
theorem dX4_play_81 : decode cX4_play 81 = .ok (.invokestatic 81, 3) := by decide +kernel
theorem dX4_play_84 : decode cX4_play 84 = .ok (.ifCond .ne 6, 3) := by decide +kernel
theorem dX4_play_87 : decode cX4_play 87 = .ok (.goto 101, 3) := by decide +kernel
theorem dX4_play_90 : decode cX4_play 90 = .ok (.iload 4, 2) := by decide +kernel
theorem dX4_play_92 : decode cX4_play 92 = .ok (.aload_n 0, 1) := by decide +kernel
theorem dX4_play_93 : decode cX4_play 93 = .ok (.getfield 20, 3) := by decide +kernel
theorem dX4_play_96 : decode cX4_play 96 = .ok (.iload 7, 2) := by decide +kernel
theorem dX4_play_98 : decode cX4_play 98 = .ok (.iload 8, 2) := by decide +kernel
theorem dX4_play_100 : decode cX4_play 100 = .ok (.invokestatic 67, 3) := by decide +kernel
theorem dX4_play_103 : decode cX4_play 103 = .ok (.iaload, 1) := by decide +kernel
theorem dX4_play_104 : decode cX4_play 104 = .ok (.isub, 1) := by decide +kernel
theorem dX4_play_105 : decode cX4_play 105 = .ok (.aload_n 0, 1) := by decide +kernel
theorem dX4_play_106 : decode cX4_play 106 = .ok (.getfield 20, 3) := by decide +kernel
theorem dX4_play_109 : decode cX4_play 109 = .ok (.iload 7, 2) := by decide +kernel
theorem dX4_play_111 : decode cX4_play 111 = .ok (.iload 8, 2) := by decide +kernel
theorem dX4_play_113 : decode cX4_play 113 = .ok (.iload 5, 2) := by decide +kernel
theorem dX4_play_115 : decode cX4_play 115 = .ok (.iadd, 1) := by decide +kernel
theorem dX4_play_116 : decode cX4_play 116 = .ok (.invokestatic 67, 3) := by decide +kernel
theorem dX4_play_119 : decode cX4_play 119 = .ok (.iaload, 1) := by decide +kernel
theorem dX4_play_120 : decode cX4_play 120 = .ok (.iadd, 1) := by decide +kernel
theorem dX4_play_121 : decode cX4_play 121 = .ok (.istore 9, 2) := by decide +kernel
theorem dX4_play_123 : decode cX4_play 123 = .ok (.aload_n 0, 1) := by decide +kernel
theorem dX4_play_124 : decode cX4_play 124 = .ok (.getfield 23, 3) := by decide +kernel
theorem dX4_play_127 : decode cX4_play 127 = .ok (.iload 7, 2) := by decide +kernel
theorem dX4_play_129 : decode cX4_play 129 = .ok (.iload 8, 2) := by decide +kernel
theorem dX4_play_131 : decode cX4_play 131 = .ok (.iload 5, 2) := by decide +kernel
theorem dX4_play_133 : decode cX4_play 133 = .ok (.iadd, 1) := by decide +kernel
theorem dX4_play_134 : decode cX4_play 134 = .ok (.iastore, 1) := by decide +kernel
theorem dX4_play_135 : decode cX4_play 135 = .ok (.aload_n 0, 1) := by decide +kernel
theorem dX4_play_136 : decode cX4_play 136 = .ok (.aload_n 1, 1) := by decide +kernel
theorem dX4_play_137 : decode cX4_play 137 = .ok (.iload_n 2, 1) := by decide +kernel
theorem dX4_play_138 : decode cX4_play 138 = .ok (.iconst 1, 1) := by decide +kernel
theorem dX4_play_139 : decode cX4_play 139 = .ok (.isub, 1) := by decide +kernel
theorem dX4_play_140 : decode cX4_play 140 = .ok (.iload_n 3, 1) := by decide +kernel
theorem dX4_play_141 : decode cX4_play 141 = .ok (.ifCond .ne 7, 3) := by decide +kernel
theorem dX4_play_144 : decode cX4_play 144 = .ok (.iconst 1, 1) := by decide +kernel
theorem dX4_play_145 : decode cX4_play 145 = .ok (.goto 4, 3) := by decide +kernel
theorem dX4_play_148 : decode cX4_play 148 = .ok (.iconst 0, 1) := by decide +kernel
theorem dX4_play_149 : decode cX4_play 149 = .ok (.iload 9, 2) := by decide +kernel
theorem dX4_play_151 : decode cX4_play 151 = .ok (.invokestatic 74, 3) := by decide +kernel
theorem dX4_play_154 : decode cX4_play 154 = .ok (.istore 10, 2) := by decide +kernel
theorem dX4_play_156 : decode cX4_play 156 = .ok (.aload_n 0, 1) := by decide +kernel
theorem dX4_play_157 : decode cX4_play 157 = .ok (.getfield 23, 3) := by decide +kernel
theorem dX4_play_160 : decode cX4_play 160 = .ok (.iload 7, 2) := by decide +kernel
theorem dX4_play_162 : decode cX4_play 162 = .ok (.iload 8, 2) := by decide +kernel
theorem dX4_play_164 : decode cX4_play 164 = .ok (.iastore, 1) := by decide +kernel
theorem dX4_play_165 : decode cX4_play 165 = .ok (.iload_n 3, 1) := by decide +kernel
theorem dX4_play_166 : decode cX4_play 166 = .ok (.ifCond .eq 13, 3) := by decide +kernel
theorem dX4_play_169 : decode cX4_play 169 = .ok (.iload 6, 2) := by decide +kernel
theorem dX4_play_171 : decode cX4_play 171 = .ok (.iload 10, 2) := by decide +kernel
theorem dX4_play_173 : decode cX4_play 173 = .ok (.invokestatic 59, 3) := by decide +kernel
theorem dX4_play_176 : decode cX4_play 176 = .ok (.goto 10, 3) := by decide +kernel
theorem dX4_play_179 : decode cX4_play 179 = .ok (.iload 6, 2) := by decide +kernel
theorem dX4_play_181 : decode cX4_play 181 = .ok (.iload 10, 2) := by decide +kernel
theorem dX4_play_183 : decode cX4_play 183 = .ok (.invokestatic 97, 3) := by decide +kernel
theorem dX4_play_186 : decode cX4_play 186 = .ok (.istore 6, 2) := by decide +kernel
theorem dX4_play_188 : decode cX4_play 188 = .ok (.iinc 7 1, 3) := by decide +kernel
theorem dX4_play_191 : decode cX4_play 191 = .ok (.goto (-144), 3) := by decide +kernel
theorem dX4_play_194 : decode cX4_play 194 = .ok (.iload 6, 2) := by decide +kernel
theorem dX4_play_196 : decode cX4_play 196 = .ok (.ireturn, 1) := by decide +kernel
def fX4_play_0 (_ : St) (_ _ _ : Int32) : Option (St × Int32) := none
theorem ctX4_play_0 (l : Launch) (g : GG) (σ : St) (p2 p3 p4 : Int32) (σ' : St) (r : Int32) (hE : fX4_play_0 σ p2 p3 p4 = some (σ', r)) : MI 52 entC l g yX4_play (Cond.code yX4_play cX4_play 11 (some .int) :: gtbl) (rmD 1) [.ref (g.2.1 41), .ref (g.2.1 25), .int p2, .int p3, .int p4] σ σ' r := no_e hE
def fX4_play_1_L47 (p2 : Int32) (p3 : Int32) (p4 : Int32) (y2 : Int32) : Nat → St → Int32 → Int32 → (St → Int32 → Int32 → Option (St × Int32)) → Option (St × Int32)
  | 0, _, _, _, _ => none
  | n + 1, σ7, v8, v9, k => (if (σ7.1 26 7) ≤ v9 then k σ7 v8 v9 else rd LC σ7 45 v9 (fun x10 => rd LC σ7 33 v9 (fun x11 => cl (fX4_isPurse σ7 ((x11 + x10) + y2)) (fun σ12 r13 => jn (fun (σ15 : St) (z16 : Int32) => fX4_play_1_L47 p2 p3 p4 y2 n σ15 z16 (v9 + 1) k) (fun k14 => (if r13 = 0 then k14 σ12 v8 else cl (fX4_slot σ12 v9 x10) (fun σ17 r18 => rd LC σ17 44 r18 (fun x19 => cl (fX4_slot σ17 v9 (x10 + y2)) (fun σ20 r21 => rd LC σ20 44 r21 (fun x22 => wr LC σ20 45 v9 (x10 + y2) (fun σ23 => pv (if p3 = 0 then 1 else 0) (fun (y25 : Int32) => cl (fX4_play_0 σ23 (p2 - 1) y25 ((p4 - x19) + x22)) (fun σ26 r27 => wr LC σ26 45 v9 x10 (fun σ28 => pv (if p3 = 0 then (if r27 < v8 then r27 else v8) else (if v8 < r27 then r27 else v8)) (fun (y30 : Int32) => k14 σ28 y30)))))))))))))))
def fX4_play_1 (σ : St) (p2 : Int32) (p3 : Int32) (p4 : Int32) : Option (St × Int32) := (if p2 ≤ 0 then some (σ, p4) else (if p2 ≤ 3 then pv (if p3 = 0 then (-1) else 1) (fun (y2 : Int32) => pv (if p3 = 0 then 1 else 0) (fun (y4 : Int32) => cl (fX4_play_0 σ (p2 - 1) y4 p4) (fun σ5 r6 => fX4_play_1_L47 p2 p3 p4 y2 10000 σ5 r6 0 (fun σ31 v32 v33 => some (σ31, v32))))) else some (σ, p4)))
set_option maxHeartbeats 4000000 in
set_option maxRecDepth 100000 in
theorem ctX4_play_1 (l : Launch) (g : GG) (σ : St) (p2 : Int32) (p3 : Int32) (p4 : Int32) (σ' : St) (r : Int32) (hE : fX4_play_1 σ p2 p3 p4 = some (σ', r)) : MI 52 entC l g yX4_play (Cond.code yX4_play cX4_play 11 (some .int) :: gtbl) (rmD 2) [.ref (g.2.1 41), .ref (g.2.1 25), .int p2, .int p3, .int p4] σ σ' r := by
  refine mi_i (own := RX4) (lv := [(0, .ref (g.2.1 41)), (1, .ref (g.2.1 25)), (2, .int p2), (3, .int p3), (4, .int p4)]) (by decide) rfl (Nat.le_of_ble_eq_true rfl) rfl (fun p e s m below meth c ls args Q A H0 H locs C hK hA hQ hs hl => ?_)
  have hx := C.1
  have hb := C.2.1
  unfold fX4_play_1 at hE
  refine lv_iload_n hx hb dX4_play_0 rfl (lv_at hl 2 rfl) ?_
  refine lv_if_le (tgt := 9) hx hb dX4_play_1 (by decide) (fun hc => ?_) (fun hc => ?_)
  · have hE := if_t hc hE
    refine lv_iload hx hb dX4_play_9 (lv_at hl 4 rfl) ?_
    exact hQ hs hE dX4_play_11
  · have hE := if_f hc hE
    refine lv_iload_n hx hb dX4_play_4 rfl (lv_at hl 2 rfl) ?_
    refine lv_iconst (v := 3) hx hb dX4_play_5 (by decide) ?_
    refine lv_icmp_le (tgt := 12) hx hb dX4_play_6 (by decide) (fun hc => ?_) (fun hc => ?_)
    · have hE := if_t hc hE
      refine lv_iload_n hx hb dX4_play_12 rfl (lv_at hl 3 rfl) ?_
      refine pvw hE (fun k1 hE hk1 => ?_)
      have hJk1 : ∀ (y2 : Int32) (H : Heap) (locs : List Loc) (ls : Array Slot), HW 52 entC g A H0 H locs σ → lv_has ls 11 [(0, .ref (g.2.1 41)), (1, .ref (g.2.1 25)), (2, .int p2), (3, .int p3), (4, .int p4)] → k1 y2 = some (σ', r) → W p l e (rmD 2) s m args below meth c H locs 0 0 Q (F0 m 21 ls [.int y2]) := by
        intro y2 H locs ls hs hl hE
        have hE := hk1 _ hE
        refine lv_istore (lv' := [(5, .int y2), (0, .ref (g.2.1 41)), (1, .ref (g.2.1 25)), (2, .int p2), (3, .int p3), (4, .int p4)]) hx hb dX4_play_21 hl (by decide) rfl (fun ls hl => ?_)
        refine lv_aload_n hx hb dX4_play_23 rfl (lv_at hl 1 rfl) ?_
        refine lv_aload_n hx hb dX4_play_24 rfl (lv_at hl 2 rfl) ?_
        refine lv_iload_n hx hb dX4_play_25 rfl (lv_at hl 3 rfl) ?_
        refine lv_iconst (v := 1) hx hb dX4_play_26 (by decide) ?_
        refine lv_isub hx hb dX4_play_27 ?_
        refine lv_iload_n hx hb dX4_play_28 rfl (lv_at hl 4 rfl) ?_
        refine pvw hE (fun k3 hE hk3 => ?_)
        have hJk3 : ∀ (y4 : Int32) (H : Heap) (locs : List Loc) (ls : Array Slot), HW 52 entC g A H0 H locs σ → lv_has ls 11 [(0, .ref (g.2.1 41)), (1, .ref (g.2.1 25)), (2, .int p2), (3, .int p3), (4, .int p4), (5, .int y2)] → k3 y4 = some (σ', r) → W p l e (rmD 2) s m args below meth c H locs 0 0 Q (F0 m 37 ls [.int y4, .int (p2 - 1), .ref (g.2.1 25), .ref (g.2.1 41)]) := by
          intro y4 H locs ls hs hl hE
          have hE := hk3 _ hE
          refine lv_iload hx hb dX4_play_37 (lv_at hl 4 rfl) ?_
          obtain ⟨σ5, r6, hE1, hE⟩ := cl_e hE
          refine x_cis (As := [.ref (g.2.1 41), .ref (g.2.1 25), .int (p2 - 1), .int y4, .int p4]) (rest := []) C hl.1 hK hs hA ⟨Nat.le_refl 0, Nat.le_refl 0⟩ (ctX4_play_0 l g _ _ _ _ _ _ hE1) (cw_X4_74 C ⟨Nat.le_of_ble_eq_true rfl, Nat.le_of_ble_eq_true rfl⟩) rfl rfl (Nat.le_of_ble_eq_true rfl) dX4_play_39 (fun H locs hs => ?_)
          refine lv_istore (lv' := [(6, .int r6), (0, .ref (g.2.1 41)), (1, .ref (g.2.1 25)), (2, .int p2), (3, .int p3), (4, .int p4), (5, .int y2)]) hx hb dX4_play_42 hl (by decide) rfl (fun ls hl => ?_)
          refine lv_iconst (v := 0) hx hb dX4_play_44 (by decide) ?_
          refine lv_istore (lv' := [(7, .int 0), (6, .int r6), (0, .ref (g.2.1 41)), (1, .ref (g.2.1 25)), (2, .int p2), (3, .int p3), (4, .int p4), (5, .int y2)]) hx hb dX4_play_45 hl (by decide) rfl (fun ls hl => ?_)
          have hL47 : ∀ (n : Nat) (σ7 : St) (v8 : Int32) (v9 : Int32) (k : St → Int32 → Int32 → Option (St × Int32)), fX4_play_1_L47 p2 p3 p4 y2 n σ7 v8 v9 k = some (σ', r) → (∀ (σ7 : St) (v8 : Int32) (v9 : Int32) (H : Heap) (locs : List Loc) (ls : Array Slot), HW 52 entC g A H0 H locs σ7 → lv_has ls 11 [(0, .ref (g.2.1 41)), (1, .ref (g.2.1 25)), (2, .int p2), (3, .int p3), (4, .int p4), (5, .int y2), (6, .int v8), (7, .int v9)] → k σ7 v8 v9 = some (σ', r) → W p l e (rmD 2) s m args below meth c H locs 0 0 Q (F0 m 194 ls [])) → ∀ (H : Heap) (locs : List Loc) (ls : Array Slot), HW 52 entC g A H0 H locs σ7 → lv_has ls 11 [(0, .ref (g.2.1 41)), (1, .ref (g.2.1 25)), (2, .int p2), (3, .int p3), (4, .int p4), (5, .int y2), (6, .int v8), (7, .int v9)] → W p l e (rmD 2) s m args below meth c H locs 0 0 Q (F0 m 47 ls []) := by
            intro n
            induction n with
            | zero =>
              intro σ7 v8 v9 k hE
              rw [fX4_play_1_L47] at hE
              exact no_e hE
            | succ n ih =>
              intro σ7 v8 v9 k hE hk H locs ls hs hl
              rw [fX4_play_1_L47] at hE
              refine lv_iload hx hb dX4_play_47 (lv_at hl 7 rfl) ?_
              refine lv_aload_n hx hb dX4_play_49 rfl (lv_at hl 1 rfl) ?_
              refine gf_X4_26_25 C hK hs dX4_play_50 ?_
              refine gf_X4_64_26 C hK hs dX4_play_53 ?_
              refine lv_icmp_ge (tgt := 194) hx hb dX4_play_56 (by decide) (fun hc => ?_) (fun hc => ?_)
              · have hE := if_t hc hE
                exact hk σ7 v8 v9 _ _ _ hs (lv_sub hl [0, 1, 2, 3, 4, 5, 6, 7] rfl) hE
              · have hE := if_f hc hE
                refine lv_aload_n hx hb dX4_play_59 rfl (lv_at hl 0 rfl) ?_
                refine gf_X4_23_41 C hK hs dX4_play_60 ?_
                refine lv_iload hx hb dX4_play_63 (lv_at hl 7 rfl) ?_
                obtain ⟨hi, x10, ex10, hE⟩ := rd_w hE
                refine y_ald layC C hK hs hi ex10 dX4_play_65 ?_
                refine lv_istore (lv' := [(8, .int x10), (0, .ref (g.2.1 41)), (1, .ref (g.2.1 25)), (2, .int p2), (3, .int p3), (4, .int p4), (5, .int y2), (6, .int v8), (7, .int v9)]) hx hb dX4_play_66 hl (by decide) rfl (fun ls hl => ?_)
                refine lv_aload_n hx hb dX4_play_68 rfl (lv_at hl 2 rfl) ?_
                refine gf_X4_78_25 C hK hs dX4_play_69 ?_
                refine lv_iload hx hb dX4_play_72 (lv_at hl 8 rfl) ?_
                obtain ⟨hi, x11, ex11, hE⟩ := rd_w hE
                refine y_ald layC C hK hs hi ex11 dX4_play_74 ?_
                refine lv_iload hx hb dX4_play_75 (lv_at hl 0 rfl) ?_
                refine lv_iadd hx hb dX4_play_77 ?_
                refine lv_iload hx hb dX4_play_78 (lv_at hl 6 rfl) ?_
                refine lv_iadd hx hb dX4_play_80 ?_
                obtain ⟨σ12, r13, hE1, hE⟩ := cl_e hE
                refine x_cis (As := [.int ((x11 + x10) + y2)]) (rest := []) C hl.1 hK hs hA ⟨Nat.le_refl 0, Nat.le_refl 0⟩ (ctX4_isPurse l g _ _ _ _ hE1) (cw_X4_81 C ⟨Nat.le_of_ble_eq_true rfl, Nat.le_of_ble_eq_true rfl⟩) rfl rfl (Nat.le_of_ble_eq_true rfl) dX4_play_81 (fun H locs hs => ?_)
                refine jn2 hE (fun k14 hE hk14 => ?_)
                have hJk14 : ∀ (σ15 : St) (z16 : Int32) (H : Heap) (locs : List Loc) (ls : Array Slot), HW 52 entC g A H0 H locs σ15 → lv_has ls 11 [(0, .ref (g.2.1 41)), (1, .ref (g.2.1 25)), (2, .int p2), (3, .int p3), (4, .int p4), (5, .int y2), (6, .int z16), (7, .int v9)] → k14 σ15 z16 = some (σ', r) → W p l e (rmD 2) s m args below meth c H locs 0 0 Q (F0 m 188 ls []) := by
                  intro σ15 z16 H locs ls hs hl hE
                  have hE := hk14 _ _ hE
                  refine lv_iinc (v := v9 + 1) (lv' := [(7, .int (v9 + 1)), (0, .ref (g.2.1 41)), (1, .ref (g.2.1 25)), (2, .int p2), (3, .int p3), (4, .int p4), (5, .int y2), (6, .int z16)]) hx hb dX4_play_188 hl (k := 7) rfl rfl (by decide) rfl (fun ls hl => ?_)
                  refine lv_goto (tgt := 47) hx hb dX4_play_191 (by decide) ?_
                  exact ih _ _ _ _ hE hk _ _ _ hs (lv_sub hl [1, 2, 3, 4, 5, 6, 7, 0] rfl)
                refine lv_if_ne (tgt := 90) hx hb dX4_play_84 (by decide) (fun hc => ?_) (fun hc => ?_)
                · have hE := if_f hc hE
                  refine lv_iload hx hb dX4_play_90 (lv_at hl 5 rfl) ?_
                  refine lv_aload_n hx hb dX4_play_92 rfl (lv_at hl 1 rfl) ?_
                  refine gf_X4_20_41 C hK hs dX4_play_93 ?_
                  refine lv_iload hx hb dX4_play_96 (lv_at hl 8 rfl) ?_
                  refine lv_iload hx hb dX4_play_98 (lv_at hl 0 rfl) ?_
                  obtain ⟨σ17, r18, hE1, hE⟩ := cl_e hE
                  refine x_cis (As := [.int v9, .int x10]) (rest := [.ref (g.2.1 44), .int p4]) C hl.1 hK hs hA ⟨Nat.le_refl 0, Nat.le_refl 0⟩ (ctX4_slot l g _ _ _ _ _ hE1) (cw_X4_67 C ⟨Nat.le_of_ble_eq_true rfl, Nat.le_of_ble_eq_true rfl⟩) rfl rfl (Nat.le_of_ble_eq_true rfl) dX4_play_100 (fun H locs hs => ?_)
                  obtain ⟨hi, x19, ex19, hE⟩ := rd_w hE
                  refine y_ald layC C hK hs hi ex19 dX4_play_103 ?_
                  refine lv_isub hx hb dX4_play_104 ?_
                  refine lv_aload_n hx hb dX4_play_105 rfl (lv_at hl 1 rfl) ?_
                  refine gf_X4_20_41 C hK hs dX4_play_106 ?_
                  refine lv_iload hx hb dX4_play_109 (lv_at hl 8 rfl) ?_
                  refine lv_iload hx hb dX4_play_111 (lv_at hl 0 rfl) ?_
                  refine lv_iload hx hb dX4_play_113 (lv_at hl 6 rfl) ?_
                  refine lv_iadd hx hb dX4_play_115 ?_
                  obtain ⟨σ20, r21, hE1, hE⟩ := cl_e hE
                  refine x_cis (As := [.int v9, .int (x10 + y2)]) (rest := [.ref (g.2.1 44), .int (p4 - x19)]) C hl.1 hK hs hA ⟨Nat.le_refl 0, Nat.le_refl 0⟩ (ctX4_slot l g _ _ _ _ _ hE1) (cw_X4_67 C ⟨Nat.le_of_ble_eq_true rfl, Nat.le_of_ble_eq_true rfl⟩) rfl rfl (Nat.le_of_ble_eq_true rfl) dX4_play_116 (fun H locs hs => ?_)
                  obtain ⟨hi, x22, ex22, hE⟩ := rd_w hE
                  refine y_ald layC C hK hs hi ex22 dX4_play_119 ?_
                  refine lv_iadd hx hb dX4_play_120 ?_
                  refine lv_istore (lv' := [(9, .int ((p4 - x19) + x22)), (8, .int x10), (0, .ref (g.2.1 41)), (1, .ref (g.2.1 25)), (2, .int p2), (3, .int p3), (4, .int p4), (5, .int y2), (6, .int v8), (7, .int v9)]) hx hb dX4_play_121 hl (by decide) rfl (fun ls hl => ?_)
                  refine lv_aload_n hx hb dX4_play_123 rfl (lv_at hl 2 rfl) ?_
                  refine gf_X4_23_41 C hK hs dX4_play_124 ?_
                  refine lv_iload hx hb dX4_play_127 (lv_at hl 9 rfl) ?_
                  refine lv_iload hx hb dX4_play_129 (lv_at hl 1 rfl) ?_
                  refine lv_iload hx hb dX4_play_131 (lv_at hl 7 rfl) ?_
                  refine lv_iadd hx hb dX4_play_133 ?_
                  obtain ⟨hi, σ23, eσ23, hE⟩ := wr_w hE
                  refine y_ast layC C hK hs hi eσ23 dX4_play_134 (fun H locs hs => ?_)
                  refine lv_aload_n hx hb dX4_play_135 rfl (lv_at hl 2 rfl) ?_
                  refine lv_aload_n hx hb dX4_play_136 rfl (lv_at hl 3 rfl) ?_
                  refine lv_iload_n hx hb dX4_play_137 rfl (lv_at hl 4 rfl) ?_
                  refine lv_iconst (v := 1) hx hb dX4_play_138 (by decide) ?_
                  refine lv_isub hx hb dX4_play_139 ?_
                  refine lv_iload_n hx hb dX4_play_140 rfl (lv_at hl 5 rfl) ?_
                  refine pvw hE (fun k24 hE hk24 => ?_)
                  have hJk24 : ∀ (y25 : Int32) (H : Heap) (locs : List Loc) (ls : Array Slot), HW 52 entC g A H0 H locs σ23 → lv_has ls 11 [(0, .ref (g.2.1 41)), (1, .ref (g.2.1 25)), (2, .int p2), (3, .int p3), (4, .int p4), (5, .int y2), (6, .int v8), (7, .int v9), (8, .int x10), (9, .int ((p4 - x19) + x22))] → k24 y25 = some (σ', r) → W p l e (rmD 2) s m args below meth c H locs 0 0 Q (F0 m 149 ls [.int y25, .int (p2 - 1), .ref (g.2.1 25), .ref (g.2.1 41)]) := by
                    intro y25 H locs ls hs hl hE
                    have hE := hk24 _ hE
                    refine lv_iload hx hb dX4_play_149 (lv_at hl 9 rfl) ?_
                    obtain ⟨σ26, r27, hE1, hE⟩ := cl_e hE
                    refine x_cis (As := [.ref (g.2.1 41), .ref (g.2.1 25), .int (p2 - 1), .int y25, .int ((p4 - x19) + x22)]) (rest := []) C hl.1 hK hs hA ⟨Nat.le_refl 0, Nat.le_refl 0⟩ (ctX4_play_0 l g _ _ _ _ _ _ hE1) (cw_X4_74 C ⟨Nat.le_of_ble_eq_true rfl, Nat.le_of_ble_eq_true rfl⟩) rfl rfl (Nat.le_of_ble_eq_true rfl) dX4_play_151 (fun H locs hs => ?_)
                    refine lv_istore (lv' := [(10, .int r27), (0, .ref (g.2.1 41)), (1, .ref (g.2.1 25)), (2, .int p2), (3, .int p3), (4, .int p4), (5, .int y2), (6, .int v8), (7, .int v9), (8, .int x10), (9, .int ((p4 - x19) + x22))]) hx hb dX4_play_154 hl (by decide) rfl (fun ls hl => ?_)
                    refine lv_aload_n hx hb dX4_play_156 rfl (lv_at hl 1 rfl) ?_
                    refine gf_X4_23_41 C hK hs dX4_play_157 ?_
                    refine lv_iload hx hb dX4_play_160 (lv_at hl 8 rfl) ?_
                    refine lv_iload hx hb dX4_play_162 (lv_at hl 9 rfl) ?_
                    obtain ⟨hi, σ28, eσ28, hE⟩ := wr_w hE
                    refine y_ast layC C hK hs hi eσ28 dX4_play_164 (fun H locs hs => ?_)
                    refine lv_iload_n hx hb dX4_play_165 rfl (lv_at hl 4 rfl) ?_
                    refine pvw hE (fun k29 hE hk29 => ?_)
                    have hJk29 : ∀ (y30 : Int32) (H : Heap) (locs : List Loc) (ls : Array Slot), HW 52 entC g A H0 H locs σ28 → lv_has ls 11 [(0, .ref (g.2.1 41)), (1, .ref (g.2.1 25)), (2, .int p2), (3, .int p3), (4, .int p4), (5, .int y2), (7, .int v9)] → k29 y30 = some (σ', r) → W p l e (rmD 2) s m args below meth c H locs 0 0 Q (F0 m 186 ls [.int y30]) := by
                      intro y30 H locs ls hs hl hE
                      have hE := hk29 _ hE
                      refine lv_istore (lv' := [(6, .int y30), (0, .ref (g.2.1 41)), (1, .ref (g.2.1 25)), (2, .int p2), (3, .int p3), (4, .int p4), (5, .int y2), (7, .int v9)]) hx hb dX4_play_186 hl (by decide) rfl (fun ls hl => ?_)
                      exact hJk14 σ28 y30 _ _ _ hs (lv_sub hl [1, 2, 3, 4, 5, 6, 0, 7] rfl) hE
                    refine lv_if_eq (tgt := 179) hx hb dX4_play_166 (by decide) (fun hc => ?_) (fun hc => ?_)
                    · have hE := pv_t hc hE
                      refine lv_iload hx hb dX4_play_179 (lv_at hl 7 rfl) ?_
                      refine lv_iload hx hb dX4_play_181 (lv_at hl 0 rfl) ?_
                      refine va_mmin hx hb (C.2.2.1.trans hl.1.symm) C.2.2.2.1 (C.2.2.2.2 _ mw_836) (C.2.2.2.2 _ mw_448) (C.2.2.2.2 _ mw_48) (C.2.2.2.2 _ mw_449) (Nat.le_of_ble_eq_true rfl) (Nat.le_of_ble_eq_true rfl) (Nat.le_refl 0) (Nat.le_refl 0) dX4_play_183 ?_
                      exact hJk29 (if r27 < v8 then r27 else v8) _ _ _ hs (lv_sub hl [1, 2, 3, 4, 5, 6, 8] rfl) hE
                    · have hE := pv_f hc hE
                      refine lv_iload hx hb dX4_play_169 (lv_at hl 7 rfl) ?_
                      refine lv_iload hx hb dX4_play_171 (lv_at hl 0 rfl) ?_
                      refine va_mmax hx hb (C.2.2.1.trans hl.1.symm) C.2.2.2.1 (C.2.2.2.2 _ mw_745) (C.2.2.2.2 _ mw_77) (C.2.2.2.2 _ mw_48) (C.2.2.2.2 _ mw_78) (Nat.le_of_ble_eq_true rfl) (Nat.le_of_ble_eq_true rfl) (Nat.le_refl 0) (Nat.le_refl 0) dX4_play_173 ?_
                      refine lv_goto (tgt := 186) hx hb dX4_play_176 (by decide) ?_
                      exact hJk29 (if v8 < r27 then r27 else v8) _ _ _ hs (lv_sub hl [1, 2, 3, 4, 5, 6, 8] rfl) hE
                  refine lv_if_ne (tgt := 148) hx hb dX4_play_141 (by decide) (fun hc => ?_) (fun hc => ?_)
                  · have hE := pv_f hc hE
                    refine lv_iconst (v := 0) hx hb dX4_play_148 (by decide) ?_
                    exact hJk24 0 _ _ _ hs (lv_sub hl [2, 3, 4, 5, 6, 7, 8, 9, 1, 0] rfl) hE
                  · have hE := pv_t hc hE
                    refine lv_iconst (v := 1) hx hb dX4_play_144 (by decide) ?_
                    refine lv_goto (tgt := 149) hx hb dX4_play_145 (by decide) ?_
                    exact hJk24 1 _ _ _ hs (lv_sub hl [2, 3, 4, 5, 6, 7, 8, 9, 1, 0] rfl) hE
                · have hE := if_t hc hE
                  refine lv_goto (tgt := 188) hx hb dX4_play_87 (by decide) ?_
                  exact hJk14 σ12 v8 _ _ _ hs (lv_sub hl [1, 2, 3, 4, 5, 6, 7, 8] rfl) hE
          refine hL47 _ _ _ _ _ hE (fun σ31 v32 v33 H locs ls hs hl hE => ?_) H locs ls hs (lv_sub hl [2, 3, 4, 5, 6, 7, 1, 0] rfl)
          refine lv_iload hx hb dX4_play_194 (lv_at hl 6 rfl) ?_
          exact hQ hs hE dX4_play_196
        refine lv_if_ne (tgt := 36) hx hb dX4_play_29 (by decide) (fun hc => ?_) (fun hc => ?_)
        · have hE := pv_f hc hE
          refine lv_iconst (v := 0) hx hb dX4_play_36 (by decide) ?_
          exact hJk3 0 _ _ _ hs (lv_sub hl [1, 2, 3, 4, 5, 0] rfl) hE
        · have hE := pv_t hc hE
          refine lv_iconst (v := 1) hx hb dX4_play_32 (by decide) ?_
          refine lv_goto (tgt := 37) hx hb dX4_play_33 (by decide) ?_
          exact hJk3 1 _ _ _ hs (lv_sub hl [1, 2, 3, 4, 5, 0] rfl) hE
      refine lv_if_eq (tgt := 20) hx hb dX4_play_13 (by decide) (fun hc => ?_) (fun hc => ?_)
      · have hE := pv_t hc hE
        refine lv_iconst (v := (-1)) hx hb dX4_play_20 (by decide) ?_
        exact hJk1 (-1) _ _ _ hs (lv_sub hl [0, 1, 2, 3, 4] rfl) hE
      · have hE := pv_f hc hE
        refine lv_iconst (v := 1) hx hb dX4_play_16 (by decide) ?_
        refine lv_goto (tgt := 21) hx hb dX4_play_17 (by decide) ?_
        exact hJk1 1 _ _ _ hs (lv_sub hl [0, 1, 2, 3, 4] rfl) hE
    · have hE := if_f hc hE
      refine lv_iload hx hb dX4_play_9 (lv_at hl 4 rfl) ?_
      exact hQ hs hE dX4_play_11
def fX4_play_2_L47 (p2 : Int32) (p3 : Int32) (p4 : Int32) (y2 : Int32) : Nat → St → Int32 → Int32 → (St → Int32 → Int32 → Option (St × Int32)) → Option (St × Int32)
  | 0, _, _, _, _ => none
  | n + 1, σ7, v8, v9, k => (if (σ7.1 26 7) ≤ v9 then k σ7 v8 v9 else rd LC σ7 45 v9 (fun x10 => rd LC σ7 33 v9 (fun x11 => cl (fX4_isPurse σ7 ((x11 + x10) + y2)) (fun σ12 r13 => jn (fun (σ15 : St) (z16 : Int32) => fX4_play_2_L47 p2 p3 p4 y2 n σ15 z16 (v9 + 1) k) (fun k14 => (if r13 = 0 then k14 σ12 v8 else cl (fX4_slot σ12 v9 x10) (fun σ17 r18 => rd LC σ17 44 r18 (fun x19 => cl (fX4_slot σ17 v9 (x10 + y2)) (fun σ20 r21 => rd LC σ20 44 r21 (fun x22 => wr LC σ20 45 v9 (x10 + y2) (fun σ23 => pv (if p3 = 0 then 1 else 0) (fun (y25 : Int32) => cl (fX4_play_1 σ23 (p2 - 1) y25 ((p4 - x19) + x22)) (fun σ26 r27 => wr LC σ26 45 v9 x10 (fun σ28 => pv (if p3 = 0 then (if r27 < v8 then r27 else v8) else (if v8 < r27 then r27 else v8)) (fun (y30 : Int32) => k14 σ28 y30)))))))))))))))
def fX4_play_2 (σ : St) (p2 : Int32) (p3 : Int32) (p4 : Int32) : Option (St × Int32) := (if p2 ≤ 0 then some (σ, p4) else (if p2 ≤ 3 then pv (if p3 = 0 then (-1) else 1) (fun (y2 : Int32) => pv (if p3 = 0 then 1 else 0) (fun (y4 : Int32) => cl (fX4_play_1 σ (p2 - 1) y4 p4) (fun σ5 r6 => fX4_play_2_L47 p2 p3 p4 y2 10000 σ5 r6 0 (fun σ31 v32 v33 => some (σ31, v32))))) else some (σ, p4)))
set_option maxHeartbeats 4000000 in
set_option maxRecDepth 100000 in
theorem ctX4_play_2 (l : Launch) (g : GG) (σ : St) (p2 : Int32) (p3 : Int32) (p4 : Int32) (σ' : St) (r : Int32) (hE : fX4_play_2 σ p2 p3 p4 = some (σ', r)) : MI 52 entC l g yX4_play (Cond.code yX4_play cX4_play 11 (some .int) :: gtbl) (rmD 3) [.ref (g.2.1 41), .ref (g.2.1 25), .int p2, .int p3, .int p4] σ σ' r := by
  refine mi_i (own := RX4) (lv := [(0, .ref (g.2.1 41)), (1, .ref (g.2.1 25)), (2, .int p2), (3, .int p3), (4, .int p4)]) (by decide) rfl (Nat.le_of_ble_eq_true rfl) rfl (fun p e s m below meth c ls args Q A H0 H locs C hK hA hQ hs hl => ?_)
  have hx := C.1
  have hb := C.2.1
  unfold fX4_play_2 at hE
  refine lv_iload_n hx hb dX4_play_0 rfl (lv_at hl 2 rfl) ?_
  refine lv_if_le (tgt := 9) hx hb dX4_play_1 (by decide) (fun hc => ?_) (fun hc => ?_)
  · have hE := if_t hc hE
    refine lv_iload hx hb dX4_play_9 (lv_at hl 4 rfl) ?_
    exact hQ hs hE dX4_play_11
  · have hE := if_f hc hE
    refine lv_iload_n hx hb dX4_play_4 rfl (lv_at hl 2 rfl) ?_
    refine lv_iconst (v := 3) hx hb dX4_play_5 (by decide) ?_
    refine lv_icmp_le (tgt := 12) hx hb dX4_play_6 (by decide) (fun hc => ?_) (fun hc => ?_)
    · have hE := if_t hc hE
      refine lv_iload_n hx hb dX4_play_12 rfl (lv_at hl 3 rfl) ?_
      refine pvw hE (fun k1 hE hk1 => ?_)
      have hJk1 : ∀ (y2 : Int32) (H : Heap) (locs : List Loc) (ls : Array Slot), HW 52 entC g A H0 H locs σ → lv_has ls 11 [(0, .ref (g.2.1 41)), (1, .ref (g.2.1 25)), (2, .int p2), (3, .int p3), (4, .int p4)] → k1 y2 = some (σ', r) → W p l e (rmD 3) s m args below meth c H locs 0 0 Q (F0 m 21 ls [.int y2]) := by
        intro y2 H locs ls hs hl hE
        have hE := hk1 _ hE
        refine lv_istore (lv' := [(5, .int y2), (0, .ref (g.2.1 41)), (1, .ref (g.2.1 25)), (2, .int p2), (3, .int p3), (4, .int p4)]) hx hb dX4_play_21 hl (by decide) rfl (fun ls hl => ?_)
        refine lv_aload_n hx hb dX4_play_23 rfl (lv_at hl 1 rfl) ?_
        refine lv_aload_n hx hb dX4_play_24 rfl (lv_at hl 2 rfl) ?_
        refine lv_iload_n hx hb dX4_play_25 rfl (lv_at hl 3 rfl) ?_
        refine lv_iconst (v := 1) hx hb dX4_play_26 (by decide) ?_
        refine lv_isub hx hb dX4_play_27 ?_
        refine lv_iload_n hx hb dX4_play_28 rfl (lv_at hl 4 rfl) ?_
        refine pvw hE (fun k3 hE hk3 => ?_)
        have hJk3 : ∀ (y4 : Int32) (H : Heap) (locs : List Loc) (ls : Array Slot), HW 52 entC g A H0 H locs σ → lv_has ls 11 [(0, .ref (g.2.1 41)), (1, .ref (g.2.1 25)), (2, .int p2), (3, .int p3), (4, .int p4), (5, .int y2)] → k3 y4 = some (σ', r) → W p l e (rmD 3) s m args below meth c H locs 0 0 Q (F0 m 37 ls [.int y4, .int (p2 - 1), .ref (g.2.1 25), .ref (g.2.1 41)]) := by
          intro y4 H locs ls hs hl hE
          have hE := hk3 _ hE
          refine lv_iload hx hb dX4_play_37 (lv_at hl 4 rfl) ?_
          obtain ⟨σ5, r6, hE1, hE⟩ := cl_e hE
          refine x_cis (As := [.ref (g.2.1 41), .ref (g.2.1 25), .int (p2 - 1), .int y4, .int p4]) (rest := []) C hl.1 hK hs hA ⟨Nat.le_refl 0, Nat.le_refl 0⟩ (ctX4_play_1 l g _ _ _ _ _ _ hE1) (cw_X4_74 C ⟨Nat.le_of_ble_eq_true rfl, Nat.le_of_ble_eq_true rfl⟩) rfl rfl (Nat.le_of_ble_eq_true rfl) dX4_play_39 (fun H locs hs => ?_)
          refine lv_istore (lv' := [(6, .int r6), (0, .ref (g.2.1 41)), (1, .ref (g.2.1 25)), (2, .int p2), (3, .int p3), (4, .int p4), (5, .int y2)]) hx hb dX4_play_42 hl (by decide) rfl (fun ls hl => ?_)
          refine lv_iconst (v := 0) hx hb dX4_play_44 (by decide) ?_
          refine lv_istore (lv' := [(7, .int 0), (6, .int r6), (0, .ref (g.2.1 41)), (1, .ref (g.2.1 25)), (2, .int p2), (3, .int p3), (4, .int p4), (5, .int y2)]) hx hb dX4_play_45 hl (by decide) rfl (fun ls hl => ?_)
          have hL47 : ∀ (n : Nat) (σ7 : St) (v8 : Int32) (v9 : Int32) (k : St → Int32 → Int32 → Option (St × Int32)), fX4_play_2_L47 p2 p3 p4 y2 n σ7 v8 v9 k = some (σ', r) → (∀ (σ7 : St) (v8 : Int32) (v9 : Int32) (H : Heap) (locs : List Loc) (ls : Array Slot), HW 52 entC g A H0 H locs σ7 → lv_has ls 11 [(0, .ref (g.2.1 41)), (1, .ref (g.2.1 25)), (2, .int p2), (3, .int p3), (4, .int p4), (5, .int y2), (6, .int v8), (7, .int v9)] → k σ7 v8 v9 = some (σ', r) → W p l e (rmD 3) s m args below meth c H locs 0 0 Q (F0 m 194 ls [])) → ∀ (H : Heap) (locs : List Loc) (ls : Array Slot), HW 52 entC g A H0 H locs σ7 → lv_has ls 11 [(0, .ref (g.2.1 41)), (1, .ref (g.2.1 25)), (2, .int p2), (3, .int p3), (4, .int p4), (5, .int y2), (6, .int v8), (7, .int v9)] → W p l e (rmD 3) s m args below meth c H locs 0 0 Q (F0 m 47 ls []) := by
            intro n
            induction n with
            | zero =>
              intro σ7 v8 v9 k hE
              rw [fX4_play_2_L47] at hE
              exact no_e hE
            | succ n ih =>
              intro σ7 v8 v9 k hE hk H locs ls hs hl
              rw [fX4_play_2_L47] at hE
              refine lv_iload hx hb dX4_play_47 (lv_at hl 7 rfl) ?_
              refine lv_aload_n hx hb dX4_play_49 rfl (lv_at hl 1 rfl) ?_
              refine gf_X4_26_25 C hK hs dX4_play_50 ?_
              refine gf_X4_64_26 C hK hs dX4_play_53 ?_
              refine lv_icmp_ge (tgt := 194) hx hb dX4_play_56 (by decide) (fun hc => ?_) (fun hc => ?_)
              · have hE := if_t hc hE
                exact hk σ7 v8 v9 _ _ _ hs (lv_sub hl [0, 1, 2, 3, 4, 5, 6, 7] rfl) hE
              · have hE := if_f hc hE
                refine lv_aload_n hx hb dX4_play_59 rfl (lv_at hl 0 rfl) ?_
                refine gf_X4_23_41 C hK hs dX4_play_60 ?_
                refine lv_iload hx hb dX4_play_63 (lv_at hl 7 rfl) ?_
                obtain ⟨hi, x10, ex10, hE⟩ := rd_w hE
                refine y_ald layC C hK hs hi ex10 dX4_play_65 ?_
                refine lv_istore (lv' := [(8, .int x10), (0, .ref (g.2.1 41)), (1, .ref (g.2.1 25)), (2, .int p2), (3, .int p3), (4, .int p4), (5, .int y2), (6, .int v8), (7, .int v9)]) hx hb dX4_play_66 hl (by decide) rfl (fun ls hl => ?_)
                refine lv_aload_n hx hb dX4_play_68 rfl (lv_at hl 2 rfl) ?_
                refine gf_X4_78_25 C hK hs dX4_play_69 ?_
                refine lv_iload hx hb dX4_play_72 (lv_at hl 8 rfl) ?_
                obtain ⟨hi, x11, ex11, hE⟩ := rd_w hE
                refine y_ald layC C hK hs hi ex11 dX4_play_74 ?_
                refine lv_iload hx hb dX4_play_75 (lv_at hl 0 rfl) ?_
                refine lv_iadd hx hb dX4_play_77 ?_
                refine lv_iload hx hb dX4_play_78 (lv_at hl 6 rfl) ?_
                refine lv_iadd hx hb dX4_play_80 ?_
                obtain ⟨σ12, r13, hE1, hE⟩ := cl_e hE
                refine x_cis (As := [.int ((x11 + x10) + y2)]) (rest := []) C hl.1 hK hs hA ⟨Nat.le_refl 0, Nat.le_refl 0⟩ (ctX4_isPurse l g _ _ _ _ hE1) (cw_X4_81 C ⟨Nat.le_of_ble_eq_true rfl, Nat.le_of_ble_eq_true rfl⟩) rfl rfl (Nat.le_of_ble_eq_true rfl) dX4_play_81 (fun H locs hs => ?_)
                refine jn2 hE (fun k14 hE hk14 => ?_)
                have hJk14 : ∀ (σ15 : St) (z16 : Int32) (H : Heap) (locs : List Loc) (ls : Array Slot), HW 52 entC g A H0 H locs σ15 → lv_has ls 11 [(0, .ref (g.2.1 41)), (1, .ref (g.2.1 25)), (2, .int p2), (3, .int p3), (4, .int p4), (5, .int y2), (6, .int z16), (7, .int v9)] → k14 σ15 z16 = some (σ', r) → W p l e (rmD 3) s m args below meth c H locs 0 0 Q (F0 m 188 ls []) := by
                  intro σ15 z16 H locs ls hs hl hE
                  have hE := hk14 _ _ hE
                  refine lv_iinc (v := v9 + 1) (lv' := [(7, .int (v9 + 1)), (0, .ref (g.2.1 41)), (1, .ref (g.2.1 25)), (2, .int p2), (3, .int p3), (4, .int p4), (5, .int y2), (6, .int z16)]) hx hb dX4_play_188 hl (k := 7) rfl rfl (by decide) rfl (fun ls hl => ?_)
                  refine lv_goto (tgt := 47) hx hb dX4_play_191 (by decide) ?_
                  exact ih _ _ _ _ hE hk _ _ _ hs (lv_sub hl [1, 2, 3, 4, 5, 6, 7, 0] rfl)
                refine lv_if_ne (tgt := 90) hx hb dX4_play_84 (by decide) (fun hc => ?_) (fun hc => ?_)
                · have hE := if_f hc hE
                  refine lv_iload hx hb dX4_play_90 (lv_at hl 5 rfl) ?_
                  refine lv_aload_n hx hb dX4_play_92 rfl (lv_at hl 1 rfl) ?_
                  refine gf_X4_20_41 C hK hs dX4_play_93 ?_
                  refine lv_iload hx hb dX4_play_96 (lv_at hl 8 rfl) ?_
                  refine lv_iload hx hb dX4_play_98 (lv_at hl 0 rfl) ?_
                  obtain ⟨σ17, r18, hE1, hE⟩ := cl_e hE
                  refine x_cis (As := [.int v9, .int x10]) (rest := [.ref (g.2.1 44), .int p4]) C hl.1 hK hs hA ⟨Nat.le_refl 0, Nat.le_refl 0⟩ (ctX4_slot l g _ _ _ _ _ hE1) (cw_X4_67 C ⟨Nat.le_of_ble_eq_true rfl, Nat.le_of_ble_eq_true rfl⟩) rfl rfl (Nat.le_of_ble_eq_true rfl) dX4_play_100 (fun H locs hs => ?_)
                  obtain ⟨hi, x19, ex19, hE⟩ := rd_w hE
                  refine y_ald layC C hK hs hi ex19 dX4_play_103 ?_
                  refine lv_isub hx hb dX4_play_104 ?_
                  refine lv_aload_n hx hb dX4_play_105 rfl (lv_at hl 1 rfl) ?_
                  refine gf_X4_20_41 C hK hs dX4_play_106 ?_
                  refine lv_iload hx hb dX4_play_109 (lv_at hl 8 rfl) ?_
                  refine lv_iload hx hb dX4_play_111 (lv_at hl 0 rfl) ?_
                  refine lv_iload hx hb dX4_play_113 (lv_at hl 6 rfl) ?_
                  refine lv_iadd hx hb dX4_play_115 ?_
                  obtain ⟨σ20, r21, hE1, hE⟩ := cl_e hE
                  refine x_cis (As := [.int v9, .int (x10 + y2)]) (rest := [.ref (g.2.1 44), .int (p4 - x19)]) C hl.1 hK hs hA ⟨Nat.le_refl 0, Nat.le_refl 0⟩ (ctX4_slot l g _ _ _ _ _ hE1) (cw_X4_67 C ⟨Nat.le_of_ble_eq_true rfl, Nat.le_of_ble_eq_true rfl⟩) rfl rfl (Nat.le_of_ble_eq_true rfl) dX4_play_116 (fun H locs hs => ?_)
                  obtain ⟨hi, x22, ex22, hE⟩ := rd_w hE
                  refine y_ald layC C hK hs hi ex22 dX4_play_119 ?_
                  refine lv_iadd hx hb dX4_play_120 ?_
                  refine lv_istore (lv' := [(9, .int ((p4 - x19) + x22)), (8, .int x10), (0, .ref (g.2.1 41)), (1, .ref (g.2.1 25)), (2, .int p2), (3, .int p3), (4, .int p4), (5, .int y2), (6, .int v8), (7, .int v9)]) hx hb dX4_play_121 hl (by decide) rfl (fun ls hl => ?_)
                  refine lv_aload_n hx hb dX4_play_123 rfl (lv_at hl 2 rfl) ?_
                  refine gf_X4_23_41 C hK hs dX4_play_124 ?_
                  refine lv_iload hx hb dX4_play_127 (lv_at hl 9 rfl) ?_
                  refine lv_iload hx hb dX4_play_129 (lv_at hl 1 rfl) ?_
                  refine lv_iload hx hb dX4_play_131 (lv_at hl 7 rfl) ?_
                  refine lv_iadd hx hb dX4_play_133 ?_
                  obtain ⟨hi, σ23, eσ23, hE⟩ := wr_w hE
                  refine y_ast layC C hK hs hi eσ23 dX4_play_134 (fun H locs hs => ?_)
                  refine lv_aload_n hx hb dX4_play_135 rfl (lv_at hl 2 rfl) ?_
                  refine lv_aload_n hx hb dX4_play_136 rfl (lv_at hl 3 rfl) ?_
                  refine lv_iload_n hx hb dX4_play_137 rfl (lv_at hl 4 rfl) ?_
                  refine lv_iconst (v := 1) hx hb dX4_play_138 (by decide) ?_
                  refine lv_isub hx hb dX4_play_139 ?_
                  refine lv_iload_n hx hb dX4_play_140 rfl (lv_at hl 5 rfl) ?_
                  refine pvw hE (fun k24 hE hk24 => ?_)
                  have hJk24 : ∀ (y25 : Int32) (H : Heap) (locs : List Loc) (ls : Array Slot), HW 52 entC g A H0 H locs σ23 → lv_has ls 11 [(0, .ref (g.2.1 41)), (1, .ref (g.2.1 25)), (2, .int p2), (3, .int p3), (4, .int p4), (5, .int y2), (6, .int v8), (7, .int v9), (8, .int x10), (9, .int ((p4 - x19) + x22))] → k24 y25 = some (σ', r) → W p l e (rmD 3) s m args below meth c H locs 0 0 Q (F0 m 149 ls [.int y25, .int (p2 - 1), .ref (g.2.1 25), .ref (g.2.1 41)]) := by
                    intro y25 H locs ls hs hl hE
                    have hE := hk24 _ hE
                    refine lv_iload hx hb dX4_play_149 (lv_at hl 9 rfl) ?_
                    obtain ⟨σ26, r27, hE1, hE⟩ := cl_e hE
                    refine x_cis (As := [.ref (g.2.1 41), .ref (g.2.1 25), .int (p2 - 1), .int y25, .int ((p4 - x19) + x22)]) (rest := []) C hl.1 hK hs hA ⟨Nat.le_refl 0, Nat.le_refl 0⟩ (ctX4_play_1 l g _ _ _ _ _ _ hE1) (cw_X4_74 C ⟨Nat.le_of_ble_eq_true rfl, Nat.le_of_ble_eq_true rfl⟩) rfl rfl (Nat.le_of_ble_eq_true rfl) dX4_play_151 (fun H locs hs => ?_)
                    refine lv_istore (lv' := [(10, .int r27), (0, .ref (g.2.1 41)), (1, .ref (g.2.1 25)), (2, .int p2), (3, .int p3), (4, .int p4), (5, .int y2), (6, .int v8), (7, .int v9), (8, .int x10), (9, .int ((p4 - x19) + x22))]) hx hb dX4_play_154 hl (by decide) rfl (fun ls hl => ?_)
                    refine lv_aload_n hx hb dX4_play_156 rfl (lv_at hl 1 rfl) ?_
                    refine gf_X4_23_41 C hK hs dX4_play_157 ?_
                    refine lv_iload hx hb dX4_play_160 (lv_at hl 8 rfl) ?_
                    refine lv_iload hx hb dX4_play_162 (lv_at hl 9 rfl) ?_
                    obtain ⟨hi, σ28, eσ28, hE⟩ := wr_w hE
                    refine y_ast layC C hK hs hi eσ28 dX4_play_164 (fun H locs hs => ?_)
                    refine lv_iload_n hx hb dX4_play_165 rfl (lv_at hl 4 rfl) ?_
                    refine pvw hE (fun k29 hE hk29 => ?_)
                    have hJk29 : ∀ (y30 : Int32) (H : Heap) (locs : List Loc) (ls : Array Slot), HW 52 entC g A H0 H locs σ28 → lv_has ls 11 [(0, .ref (g.2.1 41)), (1, .ref (g.2.1 25)), (2, .int p2), (3, .int p3), (4, .int p4), (5, .int y2), (7, .int v9)] → k29 y30 = some (σ', r) → W p l e (rmD 3) s m args below meth c H locs 0 0 Q (F0 m 186 ls [.int y30]) := by
                      intro y30 H locs ls hs hl hE
                      have hE := hk29 _ hE
                      refine lv_istore (lv' := [(6, .int y30), (0, .ref (g.2.1 41)), (1, .ref (g.2.1 25)), (2, .int p2), (3, .int p3), (4, .int p4), (5, .int y2), (7, .int v9)]) hx hb dX4_play_186 hl (by decide) rfl (fun ls hl => ?_)
                      exact hJk14 σ28 y30 _ _ _ hs (lv_sub hl [1, 2, 3, 4, 5, 6, 0, 7] rfl) hE
                    refine lv_if_eq (tgt := 179) hx hb dX4_play_166 (by decide) (fun hc => ?_) (fun hc => ?_)
                    · have hE := pv_t hc hE
                      refine lv_iload hx hb dX4_play_179 (lv_at hl 7 rfl) ?_
                      refine lv_iload hx hb dX4_play_181 (lv_at hl 0 rfl) ?_
                      refine va_mmin hx hb (C.2.2.1.trans hl.1.symm) C.2.2.2.1 (C.2.2.2.2 _ mw_836) (C.2.2.2.2 _ mw_448) (C.2.2.2.2 _ mw_48) (C.2.2.2.2 _ mw_449) (Nat.le_of_ble_eq_true rfl) (Nat.le_of_ble_eq_true rfl) (Nat.le_refl 0) (Nat.le_refl 0) dX4_play_183 ?_
                      exact hJk29 (if r27 < v8 then r27 else v8) _ _ _ hs (lv_sub hl [1, 2, 3, 4, 5, 6, 8] rfl) hE
                    · have hE := pv_f hc hE
                      refine lv_iload hx hb dX4_play_169 (lv_at hl 7 rfl) ?_
                      refine lv_iload hx hb dX4_play_171 (lv_at hl 0 rfl) ?_
                      refine va_mmax hx hb (C.2.2.1.trans hl.1.symm) C.2.2.2.1 (C.2.2.2.2 _ mw_745) (C.2.2.2.2 _ mw_77) (C.2.2.2.2 _ mw_48) (C.2.2.2.2 _ mw_78) (Nat.le_of_ble_eq_true rfl) (Nat.le_of_ble_eq_true rfl) (Nat.le_refl 0) (Nat.le_refl 0) dX4_play_173 ?_
                      refine lv_goto (tgt := 186) hx hb dX4_play_176 (by decide) ?_
                      exact hJk29 (if v8 < r27 then r27 else v8) _ _ _ hs (lv_sub hl [1, 2, 3, 4, 5, 6, 8] rfl) hE
                  refine lv_if_ne (tgt := 148) hx hb dX4_play_141 (by decide) (fun hc => ?_) (fun hc => ?_)
                  · have hE := pv_f hc hE
                    refine lv_iconst (v := 0) hx hb dX4_play_148 (by decide) ?_
                    exact hJk24 0 _ _ _ hs (lv_sub hl [2, 3, 4, 5, 6, 7, 8, 9, 1, 0] rfl) hE
                  · have hE := pv_t hc hE
                    refine lv_iconst (v := 1) hx hb dX4_play_144 (by decide) ?_
                    refine lv_goto (tgt := 149) hx hb dX4_play_145 (by decide) ?_
                    exact hJk24 1 _ _ _ hs (lv_sub hl [2, 3, 4, 5, 6, 7, 8, 9, 1, 0] rfl) hE
                · have hE := if_t hc hE
                  refine lv_goto (tgt := 188) hx hb dX4_play_87 (by decide) ?_
                  exact hJk14 σ12 v8 _ _ _ hs (lv_sub hl [1, 2, 3, 4, 5, 6, 7, 8] rfl) hE
          refine hL47 _ _ _ _ _ hE (fun σ31 v32 v33 H locs ls hs hl hE => ?_) H locs ls hs (lv_sub hl [2, 3, 4, 5, 6, 7, 1, 0] rfl)
          refine lv_iload hx hb dX4_play_194 (lv_at hl 6 rfl) ?_
          exact hQ hs hE dX4_play_196
        refine lv_if_ne (tgt := 36) hx hb dX4_play_29 (by decide) (fun hc => ?_) (fun hc => ?_)
        · have hE := pv_f hc hE
          refine lv_iconst (v := 0) hx hb dX4_play_36 (by decide) ?_
          exact hJk3 0 _ _ _ hs (lv_sub hl [1, 2, 3, 4, 5, 0] rfl) hE
        · have hE := pv_t hc hE
          refine lv_iconst (v := 1) hx hb dX4_play_32 (by decide) ?_
          refine lv_goto (tgt := 37) hx hb dX4_play_33 (by decide) ?_
          exact hJk3 1 _ _ _ hs (lv_sub hl [1, 2, 3, 4, 5, 0] rfl) hE
      refine lv_if_eq (tgt := 20) hx hb dX4_play_13 (by decide) (fun hc => ?_) (fun hc => ?_)
      · have hE := pv_t hc hE
        refine lv_iconst (v := (-1)) hx hb dX4_play_20 (by decide) ?_
        exact hJk1 (-1) _ _ _ hs (lv_sub hl [0, 1, 2, 3, 4] rfl) hE
      · have hE := pv_f hc hE
        refine lv_iconst (v := 1) hx hb dX4_play_16 (by decide) ?_
        refine lv_goto (tgt := 21) hx hb dX4_play_17 (by decide) ?_
        exact hJk1 1 _ _ _ hs (lv_sub hl [0, 1, 2, 3, 4] rfl) hE
    · have hE := if_f hc hE
      refine lv_iload hx hb dX4_play_9 (lv_at hl 4 rfl) ?_
      exact hQ hs hE dX4_play_11
def fX4_play_3_L47 (p2 : Int32) (p3 : Int32) (p4 : Int32) (y2 : Int32) : Nat → St → Int32 → Int32 → (St → Int32 → Int32 → Option (St × Int32)) → Option (St × Int32)
  | 0, _, _, _, _ => none
  | n + 1, σ7, v8, v9, k => (if (σ7.1 26 7) ≤ v9 then k σ7 v8 v9 else rd LC σ7 45 v9 (fun x10 => rd LC σ7 33 v9 (fun x11 => cl (fX4_isPurse σ7 ((x11 + x10) + y2)) (fun σ12 r13 => jn (fun (σ15 : St) (z16 : Int32) => fX4_play_3_L47 p2 p3 p4 y2 n σ15 z16 (v9 + 1) k) (fun k14 => (if r13 = 0 then k14 σ12 v8 else cl (fX4_slot σ12 v9 x10) (fun σ17 r18 => rd LC σ17 44 r18 (fun x19 => cl (fX4_slot σ17 v9 (x10 + y2)) (fun σ20 r21 => rd LC σ20 44 r21 (fun x22 => wr LC σ20 45 v9 (x10 + y2) (fun σ23 => pv (if p3 = 0 then 1 else 0) (fun (y25 : Int32) => cl (fX4_play_2 σ23 (p2 - 1) y25 ((p4 - x19) + x22)) (fun σ26 r27 => wr LC σ26 45 v9 x10 (fun σ28 => pv (if p3 = 0 then (if r27 < v8 then r27 else v8) else (if v8 < r27 then r27 else v8)) (fun (y30 : Int32) => k14 σ28 y30)))))))))))))))
def fX4_play_3 (σ : St) (p2 : Int32) (p3 : Int32) (p4 : Int32) : Option (St × Int32) := (if p2 ≤ 0 then some (σ, p4) else (if p2 ≤ 3 then pv (if p3 = 0 then (-1) else 1) (fun (y2 : Int32) => pv (if p3 = 0 then 1 else 0) (fun (y4 : Int32) => cl (fX4_play_2 σ (p2 - 1) y4 p4) (fun σ5 r6 => fX4_play_3_L47 p2 p3 p4 y2 10000 σ5 r6 0 (fun σ31 v32 v33 => some (σ31, v32))))) else some (σ, p4)))
set_option maxHeartbeats 4000000 in
set_option maxRecDepth 100000 in
theorem ctX4_play_3 (l : Launch) (g : GG) (σ : St) (p2 : Int32) (p3 : Int32) (p4 : Int32) (σ' : St) (r : Int32) (hE : fX4_play_3 σ p2 p3 p4 = some (σ', r)) : MI 52 entC l g yX4_play (Cond.code yX4_play cX4_play 11 (some .int) :: gtbl) (rmD 4) [.ref (g.2.1 41), .ref (g.2.1 25), .int p2, .int p3, .int p4] σ σ' r := by
  refine mi_i (own := RX4) (lv := [(0, .ref (g.2.1 41)), (1, .ref (g.2.1 25)), (2, .int p2), (3, .int p3), (4, .int p4)]) (by decide) rfl (Nat.le_of_ble_eq_true rfl) rfl (fun p e s m below meth c ls args Q A H0 H locs C hK hA hQ hs hl => ?_)
  have hx := C.1
  have hb := C.2.1
  unfold fX4_play_3 at hE
  refine lv_iload_n hx hb dX4_play_0 rfl (lv_at hl 2 rfl) ?_
  refine lv_if_le (tgt := 9) hx hb dX4_play_1 (by decide) (fun hc => ?_) (fun hc => ?_)
  · have hE := if_t hc hE
    refine lv_iload hx hb dX4_play_9 (lv_at hl 4 rfl) ?_
    exact hQ hs hE dX4_play_11
  · have hE := if_f hc hE
    refine lv_iload_n hx hb dX4_play_4 rfl (lv_at hl 2 rfl) ?_
    refine lv_iconst (v := 3) hx hb dX4_play_5 (by decide) ?_
    refine lv_icmp_le (tgt := 12) hx hb dX4_play_6 (by decide) (fun hc => ?_) (fun hc => ?_)
    · have hE := if_t hc hE
      refine lv_iload_n hx hb dX4_play_12 rfl (lv_at hl 3 rfl) ?_
      refine pvw hE (fun k1 hE hk1 => ?_)
      have hJk1 : ∀ (y2 : Int32) (H : Heap) (locs : List Loc) (ls : Array Slot), HW 52 entC g A H0 H locs σ → lv_has ls 11 [(0, .ref (g.2.1 41)), (1, .ref (g.2.1 25)), (2, .int p2), (3, .int p3), (4, .int p4)] → k1 y2 = some (σ', r) → W p l e (rmD 4) s m args below meth c H locs 0 0 Q (F0 m 21 ls [.int y2]) := by
        intro y2 H locs ls hs hl hE
        have hE := hk1 _ hE
        refine lv_istore (lv' := [(5, .int y2), (0, .ref (g.2.1 41)), (1, .ref (g.2.1 25)), (2, .int p2), (3, .int p3), (4, .int p4)]) hx hb dX4_play_21 hl (by decide) rfl (fun ls hl => ?_)
        refine lv_aload_n hx hb dX4_play_23 rfl (lv_at hl 1 rfl) ?_
        refine lv_aload_n hx hb dX4_play_24 rfl (lv_at hl 2 rfl) ?_
        refine lv_iload_n hx hb dX4_play_25 rfl (lv_at hl 3 rfl) ?_
        refine lv_iconst (v := 1) hx hb dX4_play_26 (by decide) ?_
        refine lv_isub hx hb dX4_play_27 ?_
        refine lv_iload_n hx hb dX4_play_28 rfl (lv_at hl 4 rfl) ?_
        refine pvw hE (fun k3 hE hk3 => ?_)
        have hJk3 : ∀ (y4 : Int32) (H : Heap) (locs : List Loc) (ls : Array Slot), HW 52 entC g A H0 H locs σ → lv_has ls 11 [(0, .ref (g.2.1 41)), (1, .ref (g.2.1 25)), (2, .int p2), (3, .int p3), (4, .int p4), (5, .int y2)] → k3 y4 = some (σ', r) → W p l e (rmD 4) s m args below meth c H locs 0 0 Q (F0 m 37 ls [.int y4, .int (p2 - 1), .ref (g.2.1 25), .ref (g.2.1 41)]) := by
          intro y4 H locs ls hs hl hE
          have hE := hk3 _ hE
          refine lv_iload hx hb dX4_play_37 (lv_at hl 4 rfl) ?_
          obtain ⟨σ5, r6, hE1, hE⟩ := cl_e hE
          refine x_cis (As := [.ref (g.2.1 41), .ref (g.2.1 25), .int (p2 - 1), .int y4, .int p4]) (rest := []) C hl.1 hK hs hA ⟨Nat.le_refl 0, Nat.le_refl 0⟩ (ctX4_play_2 l g _ _ _ _ _ _ hE1) (cw_X4_74 C ⟨Nat.le_of_ble_eq_true rfl, Nat.le_of_ble_eq_true rfl⟩) rfl rfl (Nat.le_of_ble_eq_true rfl) dX4_play_39 (fun H locs hs => ?_)
          refine lv_istore (lv' := [(6, .int r6), (0, .ref (g.2.1 41)), (1, .ref (g.2.1 25)), (2, .int p2), (3, .int p3), (4, .int p4), (5, .int y2)]) hx hb dX4_play_42 hl (by decide) rfl (fun ls hl => ?_)
          refine lv_iconst (v := 0) hx hb dX4_play_44 (by decide) ?_
          refine lv_istore (lv' := [(7, .int 0), (6, .int r6), (0, .ref (g.2.1 41)), (1, .ref (g.2.1 25)), (2, .int p2), (3, .int p3), (4, .int p4), (5, .int y2)]) hx hb dX4_play_45 hl (by decide) rfl (fun ls hl => ?_)
          have hL47 : ∀ (n : Nat) (σ7 : St) (v8 : Int32) (v9 : Int32) (k : St → Int32 → Int32 → Option (St × Int32)), fX4_play_3_L47 p2 p3 p4 y2 n σ7 v8 v9 k = some (σ', r) → (∀ (σ7 : St) (v8 : Int32) (v9 : Int32) (H : Heap) (locs : List Loc) (ls : Array Slot), HW 52 entC g A H0 H locs σ7 → lv_has ls 11 [(0, .ref (g.2.1 41)), (1, .ref (g.2.1 25)), (2, .int p2), (3, .int p3), (4, .int p4), (5, .int y2), (6, .int v8), (7, .int v9)] → k σ7 v8 v9 = some (σ', r) → W p l e (rmD 4) s m args below meth c H locs 0 0 Q (F0 m 194 ls [])) → ∀ (H : Heap) (locs : List Loc) (ls : Array Slot), HW 52 entC g A H0 H locs σ7 → lv_has ls 11 [(0, .ref (g.2.1 41)), (1, .ref (g.2.1 25)), (2, .int p2), (3, .int p3), (4, .int p4), (5, .int y2), (6, .int v8), (7, .int v9)] → W p l e (rmD 4) s m args below meth c H locs 0 0 Q (F0 m 47 ls []) := by
            intro n
            induction n with
            | zero =>
              intro σ7 v8 v9 k hE
              rw [fX4_play_3_L47] at hE
              exact no_e hE
            | succ n ih =>
              intro σ7 v8 v9 k hE hk H locs ls hs hl
              rw [fX4_play_3_L47] at hE
              refine lv_iload hx hb dX4_play_47 (lv_at hl 7 rfl) ?_
              refine lv_aload_n hx hb dX4_play_49 rfl (lv_at hl 1 rfl) ?_
              refine gf_X4_26_25 C hK hs dX4_play_50 ?_
              refine gf_X4_64_26 C hK hs dX4_play_53 ?_
              refine lv_icmp_ge (tgt := 194) hx hb dX4_play_56 (by decide) (fun hc => ?_) (fun hc => ?_)
              · have hE := if_t hc hE
                exact hk σ7 v8 v9 _ _ _ hs (lv_sub hl [0, 1, 2, 3, 4, 5, 6, 7] rfl) hE
              · have hE := if_f hc hE
                refine lv_aload_n hx hb dX4_play_59 rfl (lv_at hl 0 rfl) ?_
                refine gf_X4_23_41 C hK hs dX4_play_60 ?_
                refine lv_iload hx hb dX4_play_63 (lv_at hl 7 rfl) ?_
                obtain ⟨hi, x10, ex10, hE⟩ := rd_w hE
                refine y_ald layC C hK hs hi ex10 dX4_play_65 ?_
                refine lv_istore (lv' := [(8, .int x10), (0, .ref (g.2.1 41)), (1, .ref (g.2.1 25)), (2, .int p2), (3, .int p3), (4, .int p4), (5, .int y2), (6, .int v8), (7, .int v9)]) hx hb dX4_play_66 hl (by decide) rfl (fun ls hl => ?_)
                refine lv_aload_n hx hb dX4_play_68 rfl (lv_at hl 2 rfl) ?_
                refine gf_X4_78_25 C hK hs dX4_play_69 ?_
                refine lv_iload hx hb dX4_play_72 (lv_at hl 8 rfl) ?_
                obtain ⟨hi, x11, ex11, hE⟩ := rd_w hE
                refine y_ald layC C hK hs hi ex11 dX4_play_74 ?_
                refine lv_iload hx hb dX4_play_75 (lv_at hl 0 rfl) ?_
                refine lv_iadd hx hb dX4_play_77 ?_
                refine lv_iload hx hb dX4_play_78 (lv_at hl 6 rfl) ?_
                refine lv_iadd hx hb dX4_play_80 ?_
                obtain ⟨σ12, r13, hE1, hE⟩ := cl_e hE
                refine x_cis (As := [.int ((x11 + x10) + y2)]) (rest := []) C hl.1 hK hs hA ⟨Nat.le_refl 0, Nat.le_refl 0⟩ (ctX4_isPurse l g _ _ _ _ hE1) (cw_X4_81 C ⟨Nat.le_of_ble_eq_true rfl, Nat.le_of_ble_eq_true rfl⟩) rfl rfl (Nat.le_of_ble_eq_true rfl) dX4_play_81 (fun H locs hs => ?_)
                refine jn2 hE (fun k14 hE hk14 => ?_)
                have hJk14 : ∀ (σ15 : St) (z16 : Int32) (H : Heap) (locs : List Loc) (ls : Array Slot), HW 52 entC g A H0 H locs σ15 → lv_has ls 11 [(0, .ref (g.2.1 41)), (1, .ref (g.2.1 25)), (2, .int p2), (3, .int p3), (4, .int p4), (5, .int y2), (6, .int z16), (7, .int v9)] → k14 σ15 z16 = some (σ', r) → W p l e (rmD 4) s m args below meth c H locs 0 0 Q (F0 m 188 ls []) := by
                  intro σ15 z16 H locs ls hs hl hE
                  have hE := hk14 _ _ hE
                  refine lv_iinc (v := v9 + 1) (lv' := [(7, .int (v9 + 1)), (0, .ref (g.2.1 41)), (1, .ref (g.2.1 25)), (2, .int p2), (3, .int p3), (4, .int p4), (5, .int y2), (6, .int z16)]) hx hb dX4_play_188 hl (k := 7) rfl rfl (by decide) rfl (fun ls hl => ?_)
                  refine lv_goto (tgt := 47) hx hb dX4_play_191 (by decide) ?_
                  exact ih _ _ _ _ hE hk _ _ _ hs (lv_sub hl [1, 2, 3, 4, 5, 6, 7, 0] rfl)
                refine lv_if_ne (tgt := 90) hx hb dX4_play_84 (by decide) (fun hc => ?_) (fun hc => ?_)
                · have hE := if_f hc hE
                  refine lv_iload hx hb dX4_play_90 (lv_at hl 5 rfl) ?_
                  refine lv_aload_n hx hb dX4_play_92 rfl (lv_at hl 1 rfl) ?_
                  refine gf_X4_20_41 C hK hs dX4_play_93 ?_
                  refine lv_iload hx hb dX4_play_96 (lv_at hl 8 rfl) ?_
                  refine lv_iload hx hb dX4_play_98 (lv_at hl 0 rfl) ?_
                  obtain ⟨σ17, r18, hE1, hE⟩ := cl_e hE
                  refine x_cis (As := [.int v9, .int x10]) (rest := [.ref (g.2.1 44), .int p4]) C hl.1 hK hs hA ⟨Nat.le_refl 0, Nat.le_refl 0⟩ (ctX4_slot l g _ _ _ _ _ hE1) (cw_X4_67 C ⟨Nat.le_of_ble_eq_true rfl, Nat.le_of_ble_eq_true rfl⟩) rfl rfl (Nat.le_of_ble_eq_true rfl) dX4_play_100 (fun H locs hs => ?_)
                  obtain ⟨hi, x19, ex19, hE⟩ := rd_w hE
                  refine y_ald layC C hK hs hi ex19 dX4_play_103 ?_
                  refine lv_isub hx hb dX4_play_104 ?_
                  refine lv_aload_n hx hb dX4_play_105 rfl (lv_at hl 1 rfl) ?_
                  refine gf_X4_20_41 C hK hs dX4_play_106 ?_
                  refine lv_iload hx hb dX4_play_109 (lv_at hl 8 rfl) ?_
                  refine lv_iload hx hb dX4_play_111 (lv_at hl 0 rfl) ?_
                  refine lv_iload hx hb dX4_play_113 (lv_at hl 6 rfl) ?_
                  refine lv_iadd hx hb dX4_play_115 ?_
                  obtain ⟨σ20, r21, hE1, hE⟩ := cl_e hE
                  refine x_cis (As := [.int v9, .int (x10 + y2)]) (rest := [.ref (g.2.1 44), .int (p4 - x19)]) C hl.1 hK hs hA ⟨Nat.le_refl 0, Nat.le_refl 0⟩ (ctX4_slot l g _ _ _ _ _ hE1) (cw_X4_67 C ⟨Nat.le_of_ble_eq_true rfl, Nat.le_of_ble_eq_true rfl⟩) rfl rfl (Nat.le_of_ble_eq_true rfl) dX4_play_116 (fun H locs hs => ?_)
                  obtain ⟨hi, x22, ex22, hE⟩ := rd_w hE
                  refine y_ald layC C hK hs hi ex22 dX4_play_119 ?_
                  refine lv_iadd hx hb dX4_play_120 ?_
                  refine lv_istore (lv' := [(9, .int ((p4 - x19) + x22)), (8, .int x10), (0, .ref (g.2.1 41)), (1, .ref (g.2.1 25)), (2, .int p2), (3, .int p3), (4, .int p4), (5, .int y2), (6, .int v8), (7, .int v9)]) hx hb dX4_play_121 hl (by decide) rfl (fun ls hl => ?_)
                  refine lv_aload_n hx hb dX4_play_123 rfl (lv_at hl 2 rfl) ?_
                  refine gf_X4_23_41 C hK hs dX4_play_124 ?_
                  refine lv_iload hx hb dX4_play_127 (lv_at hl 9 rfl) ?_
                  refine lv_iload hx hb dX4_play_129 (lv_at hl 1 rfl) ?_
                  refine lv_iload hx hb dX4_play_131 (lv_at hl 7 rfl) ?_
                  refine lv_iadd hx hb dX4_play_133 ?_
                  obtain ⟨hi, σ23, eσ23, hE⟩ := wr_w hE
                  refine y_ast layC C hK hs hi eσ23 dX4_play_134 (fun H locs hs => ?_)
                  refine lv_aload_n hx hb dX4_play_135 rfl (lv_at hl 2 rfl) ?_
                  refine lv_aload_n hx hb dX4_play_136 rfl (lv_at hl 3 rfl) ?_
                  refine lv_iload_n hx hb dX4_play_137 rfl (lv_at hl 4 rfl) ?_
                  refine lv_iconst (v := 1) hx hb dX4_play_138 (by decide) ?_
                  refine lv_isub hx hb dX4_play_139 ?_
                  refine lv_iload_n hx hb dX4_play_140 rfl (lv_at hl 5 rfl) ?_
                  refine pvw hE (fun k24 hE hk24 => ?_)
                  have hJk24 : ∀ (y25 : Int32) (H : Heap) (locs : List Loc) (ls : Array Slot), HW 52 entC g A H0 H locs σ23 → lv_has ls 11 [(0, .ref (g.2.1 41)), (1, .ref (g.2.1 25)), (2, .int p2), (3, .int p3), (4, .int p4), (5, .int y2), (6, .int v8), (7, .int v9), (8, .int x10), (9, .int ((p4 - x19) + x22))] → k24 y25 = some (σ', r) → W p l e (rmD 4) s m args below meth c H locs 0 0 Q (F0 m 149 ls [.int y25, .int (p2 - 1), .ref (g.2.1 25), .ref (g.2.1 41)]) := by
                    intro y25 H locs ls hs hl hE
                    have hE := hk24 _ hE
                    refine lv_iload hx hb dX4_play_149 (lv_at hl 9 rfl) ?_
                    obtain ⟨σ26, r27, hE1, hE⟩ := cl_e hE
                    refine x_cis (As := [.ref (g.2.1 41), .ref (g.2.1 25), .int (p2 - 1), .int y25, .int ((p4 - x19) + x22)]) (rest := []) C hl.1 hK hs hA ⟨Nat.le_refl 0, Nat.le_refl 0⟩ (ctX4_play_2 l g _ _ _ _ _ _ hE1) (cw_X4_74 C ⟨Nat.le_of_ble_eq_true rfl, Nat.le_of_ble_eq_true rfl⟩) rfl rfl (Nat.le_of_ble_eq_true rfl) dX4_play_151 (fun H locs hs => ?_)
                    refine lv_istore (lv' := [(10, .int r27), (0, .ref (g.2.1 41)), (1, .ref (g.2.1 25)), (2, .int p2), (3, .int p3), (4, .int p4), (5, .int y2), (6, .int v8), (7, .int v9), (8, .int x10), (9, .int ((p4 - x19) + x22))]) hx hb dX4_play_154 hl (by decide) rfl (fun ls hl => ?_)
                    refine lv_aload_n hx hb dX4_play_156 rfl (lv_at hl 1 rfl) ?_
                    refine gf_X4_23_41 C hK hs dX4_play_157 ?_
                    refine lv_iload hx hb dX4_play_160 (lv_at hl 8 rfl) ?_
                    refine lv_iload hx hb dX4_play_162 (lv_at hl 9 rfl) ?_
                    obtain ⟨hi, σ28, eσ28, hE⟩ := wr_w hE
                    refine y_ast layC C hK hs hi eσ28 dX4_play_164 (fun H locs hs => ?_)
                    refine lv_iload_n hx hb dX4_play_165 rfl (lv_at hl 4 rfl) ?_
                    refine pvw hE (fun k29 hE hk29 => ?_)
                    have hJk29 : ∀ (y30 : Int32) (H : Heap) (locs : List Loc) (ls : Array Slot), HW 52 entC g A H0 H locs σ28 → lv_has ls 11 [(0, .ref (g.2.1 41)), (1, .ref (g.2.1 25)), (2, .int p2), (3, .int p3), (4, .int p4), (5, .int y2), (7, .int v9)] → k29 y30 = some (σ', r) → W p l e (rmD 4) s m args below meth c H locs 0 0 Q (F0 m 186 ls [.int y30]) := by
                      intro y30 H locs ls hs hl hE
                      have hE := hk29 _ hE
                      refine lv_istore (lv' := [(6, .int y30), (0, .ref (g.2.1 41)), (1, .ref (g.2.1 25)), (2, .int p2), (3, .int p3), (4, .int p4), (5, .int y2), (7, .int v9)]) hx hb dX4_play_186 hl (by decide) rfl (fun ls hl => ?_)
                      exact hJk14 σ28 y30 _ _ _ hs (lv_sub hl [1, 2, 3, 4, 5, 6, 0, 7] rfl) hE
                    refine lv_if_eq (tgt := 179) hx hb dX4_play_166 (by decide) (fun hc => ?_) (fun hc => ?_)
                    · have hE := pv_t hc hE
                      refine lv_iload hx hb dX4_play_179 (lv_at hl 7 rfl) ?_
                      refine lv_iload hx hb dX4_play_181 (lv_at hl 0 rfl) ?_
                      refine va_mmin hx hb (C.2.2.1.trans hl.1.symm) C.2.2.2.1 (C.2.2.2.2 _ mw_836) (C.2.2.2.2 _ mw_448) (C.2.2.2.2 _ mw_48) (C.2.2.2.2 _ mw_449) (Nat.le_of_ble_eq_true rfl) (Nat.le_of_ble_eq_true rfl) (Nat.le_refl 0) (Nat.le_refl 0) dX4_play_183 ?_
                      exact hJk29 (if r27 < v8 then r27 else v8) _ _ _ hs (lv_sub hl [1, 2, 3, 4, 5, 6, 8] rfl) hE
                    · have hE := pv_f hc hE
                      refine lv_iload hx hb dX4_play_169 (lv_at hl 7 rfl) ?_
                      refine lv_iload hx hb dX4_play_171 (lv_at hl 0 rfl) ?_
                      refine va_mmax hx hb (C.2.2.1.trans hl.1.symm) C.2.2.2.1 (C.2.2.2.2 _ mw_745) (C.2.2.2.2 _ mw_77) (C.2.2.2.2 _ mw_48) (C.2.2.2.2 _ mw_78) (Nat.le_of_ble_eq_true rfl) (Nat.le_of_ble_eq_true rfl) (Nat.le_refl 0) (Nat.le_refl 0) dX4_play_173 ?_
                      refine lv_goto (tgt := 186) hx hb dX4_play_176 (by decide) ?_
                      exact hJk29 (if v8 < r27 then r27 else v8) _ _ _ hs (lv_sub hl [1, 2, 3, 4, 5, 6, 8] rfl) hE
                  refine lv_if_ne (tgt := 148) hx hb dX4_play_141 (by decide) (fun hc => ?_) (fun hc => ?_)
                  · have hE := pv_f hc hE
                    refine lv_iconst (v := 0) hx hb dX4_play_148 (by decide) ?_
                    exact hJk24 0 _ _ _ hs (lv_sub hl [2, 3, 4, 5, 6, 7, 8, 9, 1, 0] rfl) hE
                  · have hE := pv_t hc hE
                    refine lv_iconst (v := 1) hx hb dX4_play_144 (by decide) ?_
                    refine lv_goto (tgt := 149) hx hb dX4_play_145 (by decide) ?_
                    exact hJk24 1 _ _ _ hs (lv_sub hl [2, 3, 4, 5, 6, 7, 8, 9, 1, 0] rfl) hE
                · have hE := if_t hc hE
                  refine lv_goto (tgt := 188) hx hb dX4_play_87 (by decide) ?_
                  exact hJk14 σ12 v8 _ _ _ hs (lv_sub hl [1, 2, 3, 4, 5, 6, 7, 8] rfl) hE
          refine hL47 _ _ _ _ _ hE (fun σ31 v32 v33 H locs ls hs hl hE => ?_) H locs ls hs (lv_sub hl [2, 3, 4, 5, 6, 7, 1, 0] rfl)
          refine lv_iload hx hb dX4_play_194 (lv_at hl 6 rfl) ?_
          exact hQ hs hE dX4_play_196
        refine lv_if_ne (tgt := 36) hx hb dX4_play_29 (by decide) (fun hc => ?_) (fun hc => ?_)
        · have hE := pv_f hc hE
          refine lv_iconst (v := 0) hx hb dX4_play_36 (by decide) ?_
          exact hJk3 0 _ _ _ hs (lv_sub hl [1, 2, 3, 4, 5, 0] rfl) hE
        · have hE := pv_t hc hE
          refine lv_iconst (v := 1) hx hb dX4_play_32 (by decide) ?_
          refine lv_goto (tgt := 37) hx hb dX4_play_33 (by decide) ?_
          exact hJk3 1 _ _ _ hs (lv_sub hl [1, 2, 3, 4, 5, 0] rfl) hE
      refine lv_if_eq (tgt := 20) hx hb dX4_play_13 (by decide) (fun hc => ?_) (fun hc => ?_)
      · have hE := pv_t hc hE
        refine lv_iconst (v := (-1)) hx hb dX4_play_20 (by decide) ?_
        exact hJk1 (-1) _ _ _ hs (lv_sub hl [0, 1, 2, 3, 4] rfl) hE
      · have hE := pv_f hc hE
        refine lv_iconst (v := 1) hx hb dX4_play_16 (by decide) ?_
        refine lv_goto (tgt := 21) hx hb dX4_play_17 (by decide) ?_
        exact hJk1 1 _ _ _ hs (lv_sub hl [0, 1, 2, 3, 4] rfl) hE
    · have hE := if_f hc hE
      refine lv_iload hx hb dX4_play_9 (lv_at hl 4 rfl) ?_
      exact hQ hs hE dX4_play_11
def fX4_play_4_L47 (p2 : Int32) (p3 : Int32) (p4 : Int32) (y2 : Int32) : Nat → St → Int32 → Int32 → (St → Int32 → Int32 → Option (St × Int32)) → Option (St × Int32)
  | 0, _, _, _, _ => none
  | n + 1, σ7, v8, v9, k => (if (σ7.1 26 7) ≤ v9 then k σ7 v8 v9 else rd LC σ7 45 v9 (fun x10 => rd LC σ7 33 v9 (fun x11 => cl (fX4_isPurse σ7 ((x11 + x10) + y2)) (fun σ12 r13 => jn (fun (σ15 : St) (z16 : Int32) => fX4_play_4_L47 p2 p3 p4 y2 n σ15 z16 (v9 + 1) k) (fun k14 => (if r13 = 0 then k14 σ12 v8 else cl (fX4_slot σ12 v9 x10) (fun σ17 r18 => rd LC σ17 44 r18 (fun x19 => cl (fX4_slot σ17 v9 (x10 + y2)) (fun σ20 r21 => rd LC σ20 44 r21 (fun x22 => wr LC σ20 45 v9 (x10 + y2) (fun σ23 => pv (if p3 = 0 then 1 else 0) (fun (y25 : Int32) => cl (fX4_play_3 σ23 (p2 - 1) y25 ((p4 - x19) + x22)) (fun σ26 r27 => wr LC σ26 45 v9 x10 (fun σ28 => pv (if p3 = 0 then (if r27 < v8 then r27 else v8) else (if v8 < r27 then r27 else v8)) (fun (y30 : Int32) => k14 σ28 y30)))))))))))))))
def fX4_play_4 (σ : St) (p2 : Int32) (p3 : Int32) (p4 : Int32) : Option (St × Int32) := (if p2 ≤ 0 then some (σ, p4) else (if p2 ≤ 3 then pv (if p3 = 0 then (-1) else 1) (fun (y2 : Int32) => pv (if p3 = 0 then 1 else 0) (fun (y4 : Int32) => cl (fX4_play_3 σ (p2 - 1) y4 p4) (fun σ5 r6 => fX4_play_4_L47 p2 p3 p4 y2 10000 σ5 r6 0 (fun σ31 v32 v33 => some (σ31, v32))))) else some (σ, p4)))
set_option maxHeartbeats 4000000 in
set_option maxRecDepth 100000 in
theorem ctX4_play_4 (l : Launch) (g : GG) (σ : St) (p2 : Int32) (p3 : Int32) (p4 : Int32) (σ' : St) (r : Int32) (hE : fX4_play_4 σ p2 p3 p4 = some (σ', r)) : MI 52 entC l g yX4_play (Cond.code yX4_play cX4_play 11 (some .int) :: gtbl) (rmD 5) [.ref (g.2.1 41), .ref (g.2.1 25), .int p2, .int p3, .int p4] σ σ' r := by
  refine mi_i (own := RX4) (lv := [(0, .ref (g.2.1 41)), (1, .ref (g.2.1 25)), (2, .int p2), (3, .int p3), (4, .int p4)]) (by decide) rfl (Nat.le_of_ble_eq_true rfl) rfl (fun p e s m below meth c ls args Q A H0 H locs C hK hA hQ hs hl => ?_)
  have hx := C.1
  have hb := C.2.1
  unfold fX4_play_4 at hE
  refine lv_iload_n hx hb dX4_play_0 rfl (lv_at hl 2 rfl) ?_
  refine lv_if_le (tgt := 9) hx hb dX4_play_1 (by decide) (fun hc => ?_) (fun hc => ?_)
  · have hE := if_t hc hE
    refine lv_iload hx hb dX4_play_9 (lv_at hl 4 rfl) ?_
    exact hQ hs hE dX4_play_11
  · have hE := if_f hc hE
    refine lv_iload_n hx hb dX4_play_4 rfl (lv_at hl 2 rfl) ?_
    refine lv_iconst (v := 3) hx hb dX4_play_5 (by decide) ?_
    refine lv_icmp_le (tgt := 12) hx hb dX4_play_6 (by decide) (fun hc => ?_) (fun hc => ?_)
    · have hE := if_t hc hE
      refine lv_iload_n hx hb dX4_play_12 rfl (lv_at hl 3 rfl) ?_
      refine pvw hE (fun k1 hE hk1 => ?_)
      have hJk1 : ∀ (y2 : Int32) (H : Heap) (locs : List Loc) (ls : Array Slot), HW 52 entC g A H0 H locs σ → lv_has ls 11 [(0, .ref (g.2.1 41)), (1, .ref (g.2.1 25)), (2, .int p2), (3, .int p3), (4, .int p4)] → k1 y2 = some (σ', r) → W p l e (rmD 5) s m args below meth c H locs 0 0 Q (F0 m 21 ls [.int y2]) := by
        intro y2 H locs ls hs hl hE
        have hE := hk1 _ hE
        refine lv_istore (lv' := [(5, .int y2), (0, .ref (g.2.1 41)), (1, .ref (g.2.1 25)), (2, .int p2), (3, .int p3), (4, .int p4)]) hx hb dX4_play_21 hl (by decide) rfl (fun ls hl => ?_)
        refine lv_aload_n hx hb dX4_play_23 rfl (lv_at hl 1 rfl) ?_
        refine lv_aload_n hx hb dX4_play_24 rfl (lv_at hl 2 rfl) ?_
        refine lv_iload_n hx hb dX4_play_25 rfl (lv_at hl 3 rfl) ?_
        refine lv_iconst (v := 1) hx hb dX4_play_26 (by decide) ?_
        refine lv_isub hx hb dX4_play_27 ?_
        refine lv_iload_n hx hb dX4_play_28 rfl (lv_at hl 4 rfl) ?_
        refine pvw hE (fun k3 hE hk3 => ?_)
        have hJk3 : ∀ (y4 : Int32) (H : Heap) (locs : List Loc) (ls : Array Slot), HW 52 entC g A H0 H locs σ → lv_has ls 11 [(0, .ref (g.2.1 41)), (1, .ref (g.2.1 25)), (2, .int p2), (3, .int p3), (4, .int p4), (5, .int y2)] → k3 y4 = some (σ', r) → W p l e (rmD 5) s m args below meth c H locs 0 0 Q (F0 m 37 ls [.int y4, .int (p2 - 1), .ref (g.2.1 25), .ref (g.2.1 41)]) := by
          intro y4 H locs ls hs hl hE
          have hE := hk3 _ hE
          refine lv_iload hx hb dX4_play_37 (lv_at hl 4 rfl) ?_
          obtain ⟨σ5, r6, hE1, hE⟩ := cl_e hE
          refine x_cis (As := [.ref (g.2.1 41), .ref (g.2.1 25), .int (p2 - 1), .int y4, .int p4]) (rest := []) C hl.1 hK hs hA ⟨Nat.le_refl 0, Nat.le_refl 0⟩ (ctX4_play_3 l g _ _ _ _ _ _ hE1) (cw_X4_74 C ⟨Nat.le_of_ble_eq_true rfl, Nat.le_of_ble_eq_true rfl⟩) rfl rfl (Nat.le_of_ble_eq_true rfl) dX4_play_39 (fun H locs hs => ?_)
          refine lv_istore (lv' := [(6, .int r6), (0, .ref (g.2.1 41)), (1, .ref (g.2.1 25)), (2, .int p2), (3, .int p3), (4, .int p4), (5, .int y2)]) hx hb dX4_play_42 hl (by decide) rfl (fun ls hl => ?_)
          refine lv_iconst (v := 0) hx hb dX4_play_44 (by decide) ?_
          refine lv_istore (lv' := [(7, .int 0), (6, .int r6), (0, .ref (g.2.1 41)), (1, .ref (g.2.1 25)), (2, .int p2), (3, .int p3), (4, .int p4), (5, .int y2)]) hx hb dX4_play_45 hl (by decide) rfl (fun ls hl => ?_)
          have hL47 : ∀ (n : Nat) (σ7 : St) (v8 : Int32) (v9 : Int32) (k : St → Int32 → Int32 → Option (St × Int32)), fX4_play_4_L47 p2 p3 p4 y2 n σ7 v8 v9 k = some (σ', r) → (∀ (σ7 : St) (v8 : Int32) (v9 : Int32) (H : Heap) (locs : List Loc) (ls : Array Slot), HW 52 entC g A H0 H locs σ7 → lv_has ls 11 [(0, .ref (g.2.1 41)), (1, .ref (g.2.1 25)), (2, .int p2), (3, .int p3), (4, .int p4), (5, .int y2), (6, .int v8), (7, .int v9)] → k σ7 v8 v9 = some (σ', r) → W p l e (rmD 5) s m args below meth c H locs 0 0 Q (F0 m 194 ls [])) → ∀ (H : Heap) (locs : List Loc) (ls : Array Slot), HW 52 entC g A H0 H locs σ7 → lv_has ls 11 [(0, .ref (g.2.1 41)), (1, .ref (g.2.1 25)), (2, .int p2), (3, .int p3), (4, .int p4), (5, .int y2), (6, .int v8), (7, .int v9)] → W p l e (rmD 5) s m args below meth c H locs 0 0 Q (F0 m 47 ls []) := by
            intro n
            induction n with
            | zero =>
              intro σ7 v8 v9 k hE
              rw [fX4_play_4_L47] at hE
              exact no_e hE
            | succ n ih =>
              intro σ7 v8 v9 k hE hk H locs ls hs hl
              rw [fX4_play_4_L47] at hE
              refine lv_iload hx hb dX4_play_47 (lv_at hl 7 rfl) ?_
              refine lv_aload_n hx hb dX4_play_49 rfl (lv_at hl 1 rfl) ?_
              refine gf_X4_26_25 C hK hs dX4_play_50 ?_
              refine gf_X4_64_26 C hK hs dX4_play_53 ?_
              refine lv_icmp_ge (tgt := 194) hx hb dX4_play_56 (by decide) (fun hc => ?_) (fun hc => ?_)
              · have hE := if_t hc hE
                exact hk σ7 v8 v9 _ _ _ hs (lv_sub hl [0, 1, 2, 3, 4, 5, 6, 7] rfl) hE
              · have hE := if_f hc hE
                refine lv_aload_n hx hb dX4_play_59 rfl (lv_at hl 0 rfl) ?_
                refine gf_X4_23_41 C hK hs dX4_play_60 ?_
                refine lv_iload hx hb dX4_play_63 (lv_at hl 7 rfl) ?_
                obtain ⟨hi, x10, ex10, hE⟩ := rd_w hE
                refine y_ald layC C hK hs hi ex10 dX4_play_65 ?_
                refine lv_istore (lv' := [(8, .int x10), (0, .ref (g.2.1 41)), (1, .ref (g.2.1 25)), (2, .int p2), (3, .int p3), (4, .int p4), (5, .int y2), (6, .int v8), (7, .int v9)]) hx hb dX4_play_66 hl (by decide) rfl (fun ls hl => ?_)
                refine lv_aload_n hx hb dX4_play_68 rfl (lv_at hl 2 rfl) ?_
                refine gf_X4_78_25 C hK hs dX4_play_69 ?_
                refine lv_iload hx hb dX4_play_72 (lv_at hl 8 rfl) ?_
                obtain ⟨hi, x11, ex11, hE⟩ := rd_w hE
                refine y_ald layC C hK hs hi ex11 dX4_play_74 ?_
                refine lv_iload hx hb dX4_play_75 (lv_at hl 0 rfl) ?_
                refine lv_iadd hx hb dX4_play_77 ?_
                refine lv_iload hx hb dX4_play_78 (lv_at hl 6 rfl) ?_
                refine lv_iadd hx hb dX4_play_80 ?_
                obtain ⟨σ12, r13, hE1, hE⟩ := cl_e hE
                refine x_cis (As := [.int ((x11 + x10) + y2)]) (rest := []) C hl.1 hK hs hA ⟨Nat.le_refl 0, Nat.le_refl 0⟩ (ctX4_isPurse l g _ _ _ _ hE1) (cw_X4_81 C ⟨Nat.le_of_ble_eq_true rfl, Nat.le_of_ble_eq_true rfl⟩) rfl rfl (Nat.le_of_ble_eq_true rfl) dX4_play_81 (fun H locs hs => ?_)
                refine jn2 hE (fun k14 hE hk14 => ?_)
                have hJk14 : ∀ (σ15 : St) (z16 : Int32) (H : Heap) (locs : List Loc) (ls : Array Slot), HW 52 entC g A H0 H locs σ15 → lv_has ls 11 [(0, .ref (g.2.1 41)), (1, .ref (g.2.1 25)), (2, .int p2), (3, .int p3), (4, .int p4), (5, .int y2), (6, .int z16), (7, .int v9)] → k14 σ15 z16 = some (σ', r) → W p l e (rmD 5) s m args below meth c H locs 0 0 Q (F0 m 188 ls []) := by
                  intro σ15 z16 H locs ls hs hl hE
                  have hE := hk14 _ _ hE
                  refine lv_iinc (v := v9 + 1) (lv' := [(7, .int (v9 + 1)), (0, .ref (g.2.1 41)), (1, .ref (g.2.1 25)), (2, .int p2), (3, .int p3), (4, .int p4), (5, .int y2), (6, .int z16)]) hx hb dX4_play_188 hl (k := 7) rfl rfl (by decide) rfl (fun ls hl => ?_)
                  refine lv_goto (tgt := 47) hx hb dX4_play_191 (by decide) ?_
                  exact ih _ _ _ _ hE hk _ _ _ hs (lv_sub hl [1, 2, 3, 4, 5, 6, 7, 0] rfl)
                refine lv_if_ne (tgt := 90) hx hb dX4_play_84 (by decide) (fun hc => ?_) (fun hc => ?_)
                · have hE := if_f hc hE
                  refine lv_iload hx hb dX4_play_90 (lv_at hl 5 rfl) ?_
                  refine lv_aload_n hx hb dX4_play_92 rfl (lv_at hl 1 rfl) ?_
                  refine gf_X4_20_41 C hK hs dX4_play_93 ?_
                  refine lv_iload hx hb dX4_play_96 (lv_at hl 8 rfl) ?_
                  refine lv_iload hx hb dX4_play_98 (lv_at hl 0 rfl) ?_
                  obtain ⟨σ17, r18, hE1, hE⟩ := cl_e hE
                  refine x_cis (As := [.int v9, .int x10]) (rest := [.ref (g.2.1 44), .int p4]) C hl.1 hK hs hA ⟨Nat.le_refl 0, Nat.le_refl 0⟩ (ctX4_slot l g _ _ _ _ _ hE1) (cw_X4_67 C ⟨Nat.le_of_ble_eq_true rfl, Nat.le_of_ble_eq_true rfl⟩) rfl rfl (Nat.le_of_ble_eq_true rfl) dX4_play_100 (fun H locs hs => ?_)
                  obtain ⟨hi, x19, ex19, hE⟩ := rd_w hE
                  refine y_ald layC C hK hs hi ex19 dX4_play_103 ?_
                  refine lv_isub hx hb dX4_play_104 ?_
                  refine lv_aload_n hx hb dX4_play_105 rfl (lv_at hl 1 rfl) ?_
                  refine gf_X4_20_41 C hK hs dX4_play_106 ?_
                  refine lv_iload hx hb dX4_play_109 (lv_at hl 8 rfl) ?_
                  refine lv_iload hx hb dX4_play_111 (lv_at hl 0 rfl) ?_
                  refine lv_iload hx hb dX4_play_113 (lv_at hl 6 rfl) ?_
                  refine lv_iadd hx hb dX4_play_115 ?_
                  obtain ⟨σ20, r21, hE1, hE⟩ := cl_e hE
                  refine x_cis (As := [.int v9, .int (x10 + y2)]) (rest := [.ref (g.2.1 44), .int (p4 - x19)]) C hl.1 hK hs hA ⟨Nat.le_refl 0, Nat.le_refl 0⟩ (ctX4_slot l g _ _ _ _ _ hE1) (cw_X4_67 C ⟨Nat.le_of_ble_eq_true rfl, Nat.le_of_ble_eq_true rfl⟩) rfl rfl (Nat.le_of_ble_eq_true rfl) dX4_play_116 (fun H locs hs => ?_)
                  obtain ⟨hi, x22, ex22, hE⟩ := rd_w hE
                  refine y_ald layC C hK hs hi ex22 dX4_play_119 ?_
                  refine lv_iadd hx hb dX4_play_120 ?_
                  refine lv_istore (lv' := [(9, .int ((p4 - x19) + x22)), (8, .int x10), (0, .ref (g.2.1 41)), (1, .ref (g.2.1 25)), (2, .int p2), (3, .int p3), (4, .int p4), (5, .int y2), (6, .int v8), (7, .int v9)]) hx hb dX4_play_121 hl (by decide) rfl (fun ls hl => ?_)
                  refine lv_aload_n hx hb dX4_play_123 rfl (lv_at hl 2 rfl) ?_
                  refine gf_X4_23_41 C hK hs dX4_play_124 ?_
                  refine lv_iload hx hb dX4_play_127 (lv_at hl 9 rfl) ?_
                  refine lv_iload hx hb dX4_play_129 (lv_at hl 1 rfl) ?_
                  refine lv_iload hx hb dX4_play_131 (lv_at hl 7 rfl) ?_
                  refine lv_iadd hx hb dX4_play_133 ?_
                  obtain ⟨hi, σ23, eσ23, hE⟩ := wr_w hE
                  refine y_ast layC C hK hs hi eσ23 dX4_play_134 (fun H locs hs => ?_)
                  refine lv_aload_n hx hb dX4_play_135 rfl (lv_at hl 2 rfl) ?_
                  refine lv_aload_n hx hb dX4_play_136 rfl (lv_at hl 3 rfl) ?_
                  refine lv_iload_n hx hb dX4_play_137 rfl (lv_at hl 4 rfl) ?_
                  refine lv_iconst (v := 1) hx hb dX4_play_138 (by decide) ?_
                  refine lv_isub hx hb dX4_play_139 ?_
                  refine lv_iload_n hx hb dX4_play_140 rfl (lv_at hl 5 rfl) ?_
                  refine pvw hE (fun k24 hE hk24 => ?_)
                  have hJk24 : ∀ (y25 : Int32) (H : Heap) (locs : List Loc) (ls : Array Slot), HW 52 entC g A H0 H locs σ23 → lv_has ls 11 [(0, .ref (g.2.1 41)), (1, .ref (g.2.1 25)), (2, .int p2), (3, .int p3), (4, .int p4), (5, .int y2), (6, .int v8), (7, .int v9), (8, .int x10), (9, .int ((p4 - x19) + x22))] → k24 y25 = some (σ', r) → W p l e (rmD 5) s m args below meth c H locs 0 0 Q (F0 m 149 ls [.int y25, .int (p2 - 1), .ref (g.2.1 25), .ref (g.2.1 41)]) := by
                    intro y25 H locs ls hs hl hE
                    have hE := hk24 _ hE
                    refine lv_iload hx hb dX4_play_149 (lv_at hl 9 rfl) ?_
                    obtain ⟨σ26, r27, hE1, hE⟩ := cl_e hE
                    refine x_cis (As := [.ref (g.2.1 41), .ref (g.2.1 25), .int (p2 - 1), .int y25, .int ((p4 - x19) + x22)]) (rest := []) C hl.1 hK hs hA ⟨Nat.le_refl 0, Nat.le_refl 0⟩ (ctX4_play_3 l g _ _ _ _ _ _ hE1) (cw_X4_74 C ⟨Nat.le_of_ble_eq_true rfl, Nat.le_of_ble_eq_true rfl⟩) rfl rfl (Nat.le_of_ble_eq_true rfl) dX4_play_151 (fun H locs hs => ?_)
                    refine lv_istore (lv' := [(10, .int r27), (0, .ref (g.2.1 41)), (1, .ref (g.2.1 25)), (2, .int p2), (3, .int p3), (4, .int p4), (5, .int y2), (6, .int v8), (7, .int v9), (8, .int x10), (9, .int ((p4 - x19) + x22))]) hx hb dX4_play_154 hl (by decide) rfl (fun ls hl => ?_)
                    refine lv_aload_n hx hb dX4_play_156 rfl (lv_at hl 1 rfl) ?_
                    refine gf_X4_23_41 C hK hs dX4_play_157 ?_
                    refine lv_iload hx hb dX4_play_160 (lv_at hl 8 rfl) ?_
                    refine lv_iload hx hb dX4_play_162 (lv_at hl 9 rfl) ?_
                    obtain ⟨hi, σ28, eσ28, hE⟩ := wr_w hE
                    refine y_ast layC C hK hs hi eσ28 dX4_play_164 (fun H locs hs => ?_)
                    refine lv_iload_n hx hb dX4_play_165 rfl (lv_at hl 4 rfl) ?_
                    refine pvw hE (fun k29 hE hk29 => ?_)
                    have hJk29 : ∀ (y30 : Int32) (H : Heap) (locs : List Loc) (ls : Array Slot), HW 52 entC g A H0 H locs σ28 → lv_has ls 11 [(0, .ref (g.2.1 41)), (1, .ref (g.2.1 25)), (2, .int p2), (3, .int p3), (4, .int p4), (5, .int y2), (7, .int v9)] → k29 y30 = some (σ', r) → W p l e (rmD 5) s m args below meth c H locs 0 0 Q (F0 m 186 ls [.int y30]) := by
                      intro y30 H locs ls hs hl hE
                      have hE := hk29 _ hE
                      refine lv_istore (lv' := [(6, .int y30), (0, .ref (g.2.1 41)), (1, .ref (g.2.1 25)), (2, .int p2), (3, .int p3), (4, .int p4), (5, .int y2), (7, .int v9)]) hx hb dX4_play_186 hl (by decide) rfl (fun ls hl => ?_)
                      exact hJk14 σ28 y30 _ _ _ hs (lv_sub hl [1, 2, 3, 4, 5, 6, 0, 7] rfl) hE
                    refine lv_if_eq (tgt := 179) hx hb dX4_play_166 (by decide) (fun hc => ?_) (fun hc => ?_)
                    · have hE := pv_t hc hE
                      refine lv_iload hx hb dX4_play_179 (lv_at hl 7 rfl) ?_
                      refine lv_iload hx hb dX4_play_181 (lv_at hl 0 rfl) ?_
                      refine va_mmin hx hb (C.2.2.1.trans hl.1.symm) C.2.2.2.1 (C.2.2.2.2 _ mw_836) (C.2.2.2.2 _ mw_448) (C.2.2.2.2 _ mw_48) (C.2.2.2.2 _ mw_449) (Nat.le_of_ble_eq_true rfl) (Nat.le_of_ble_eq_true rfl) (Nat.le_refl 0) (Nat.le_refl 0) dX4_play_183 ?_
                      exact hJk29 (if r27 < v8 then r27 else v8) _ _ _ hs (lv_sub hl [1, 2, 3, 4, 5, 6, 8] rfl) hE
                    · have hE := pv_f hc hE
                      refine lv_iload hx hb dX4_play_169 (lv_at hl 7 rfl) ?_
                      refine lv_iload hx hb dX4_play_171 (lv_at hl 0 rfl) ?_
                      refine va_mmax hx hb (C.2.2.1.trans hl.1.symm) C.2.2.2.1 (C.2.2.2.2 _ mw_745) (C.2.2.2.2 _ mw_77) (C.2.2.2.2 _ mw_48) (C.2.2.2.2 _ mw_78) (Nat.le_of_ble_eq_true rfl) (Nat.le_of_ble_eq_true rfl) (Nat.le_refl 0) (Nat.le_refl 0) dX4_play_173 ?_
                      refine lv_goto (tgt := 186) hx hb dX4_play_176 (by decide) ?_
                      exact hJk29 (if v8 < r27 then r27 else v8) _ _ _ hs (lv_sub hl [1, 2, 3, 4, 5, 6, 8] rfl) hE
                  refine lv_if_ne (tgt := 148) hx hb dX4_play_141 (by decide) (fun hc => ?_) (fun hc => ?_)
                  · have hE := pv_f hc hE
                    refine lv_iconst (v := 0) hx hb dX4_play_148 (by decide) ?_
                    exact hJk24 0 _ _ _ hs (lv_sub hl [2, 3, 4, 5, 6, 7, 8, 9, 1, 0] rfl) hE
                  · have hE := pv_t hc hE
                    refine lv_iconst (v := 1) hx hb dX4_play_144 (by decide) ?_
                    refine lv_goto (tgt := 149) hx hb dX4_play_145 (by decide) ?_
                    exact hJk24 1 _ _ _ hs (lv_sub hl [2, 3, 4, 5, 6, 7, 8, 9, 1, 0] rfl) hE
                · have hE := if_t hc hE
                  refine lv_goto (tgt := 188) hx hb dX4_play_87 (by decide) ?_
                  exact hJk14 σ12 v8 _ _ _ hs (lv_sub hl [1, 2, 3, 4, 5, 6, 7, 8] rfl) hE
          refine hL47 _ _ _ _ _ hE (fun σ31 v32 v33 H locs ls hs hl hE => ?_) H locs ls hs (lv_sub hl [2, 3, 4, 5, 6, 7, 1, 0] rfl)
          refine lv_iload hx hb dX4_play_194 (lv_at hl 6 rfl) ?_
          exact hQ hs hE dX4_play_196
        refine lv_if_ne (tgt := 36) hx hb dX4_play_29 (by decide) (fun hc => ?_) (fun hc => ?_)
        · have hE := pv_f hc hE
          refine lv_iconst (v := 0) hx hb dX4_play_36 (by decide) ?_
          exact hJk3 0 _ _ _ hs (lv_sub hl [1, 2, 3, 4, 5, 0] rfl) hE
        · have hE := pv_t hc hE
          refine lv_iconst (v := 1) hx hb dX4_play_32 (by decide) ?_
          refine lv_goto (tgt := 37) hx hb dX4_play_33 (by decide) ?_
          exact hJk3 1 _ _ _ hs (lv_sub hl [1, 2, 3, 4, 5, 0] rfl) hE
      refine lv_if_eq (tgt := 20) hx hb dX4_play_13 (by decide) (fun hc => ?_) (fun hc => ?_)
      · have hE := pv_t hc hE
        refine lv_iconst (v := (-1)) hx hb dX4_play_20 (by decide) ?_
        exact hJk1 (-1) _ _ _ hs (lv_sub hl [0, 1, 2, 3, 4] rfl) hE
      · have hE := pv_f hc hE
        refine lv_iconst (v := 1) hx hb dX4_play_16 (by decide) ?_
        refine lv_goto (tgt := 21) hx hb dX4_play_17 (by decide) ?_
        exact hJk1 1 _ _ _ hs (lv_sub hl [0, 1, 2, 3, 4] rfl) hE
    · have hE := if_f hc hE
      refine lv_iload hx hb dX4_play_9 (lv_at hl 4 rfl) ?_
      exact hQ hs hE dX4_play_11
