theorem dX11_tellsPart_0 : decode cX11_tellsPart 0 = .ok (.lload_n 1, 1) := by decide +kernel
theorem dX11_tellsPart_1 : decode cX11_tellsPart 1 = .ok (.lstore 5, 2) := by decide +kernel
theorem dX11_tellsPart_3 : decode cX11_tellsPart 3 = .ok (.lload_n 3, 1) := by decide +kernel
theorem dX11_tellsPart_4 : decode cX11_tellsPart 4 = .ok (.lstore 7, 2) := by decide +kernel
theorem dX11_tellsPart_6 : decode cX11_tellsPart 6 = .ok (.lload 7, 2) := by decide +kernel
theorem dX11_tellsPart_8 : decode cX11_tellsPart 8 = .ok (.lconst 0, 1) := by decide +kernel
theorem dX11_tellsPart_9 : decode cX11_tellsPart 9 = .ok (.lcmp, 1) := by decide +kernel
theorem dX11_tellsPart_10 : decode cX11_tellsPart 10 = .ok (.ifCond .eq 21, 3) := by decide +kernel
theorem dX11_tellsPart_13 : decode cX11_tellsPart 13 = .ok (.lload 5, 2) := by decide +kernel
theorem dX11_tellsPart_15 : decode cX11_tellsPart 15 = .ok (.lload 7, 2) := by decide +kernel
theorem dX11_tellsPart_17 : decode cX11_tellsPart 17 = .ok (.lrem, 1) := by decide +kernel
theorem dX11_tellsPart_18 : decode cX11_tellsPart 18 = .ok (.lstore 9, 2) := by decide +kernel
theorem dX11_tellsPart_20 : decode cX11_tellsPart 20 = .ok (.lload 7, 2) := by decide +kernel
theorem dX11_tellsPart_22 : decode cX11_tellsPart 22 = .ok (.lstore 5, 2) := by decide +kernel
theorem dX11_tellsPart_24 : decode cX11_tellsPart 24 = .ok (.lload 9, 2) := by decide +kernel
theorem dX11_tellsPart_26 : decode cX11_tellsPart 26 = .ok (.lstore 7, 2) := by decide +kernel
theorem dX11_tellsPart_28 : decode cX11_tellsPart 28 = .ok (.goto (-22), 3) := by decide +kernel
theorem dX11_tellsPart_31 : decode cX11_tellsPart 31 = .ok (.aload_n 0, 1) := by decide +kernel
theorem dX11_tellsPart_32 : decode cX11_tellsPart 32 = .ok (.lload_n 1, 1) := by decide +kernel
theorem dX11_tellsPart_33 : decode cX11_tellsPart 33 = .ok (.lload 5, 2) := by decide +kernel
theorem dX11_tellsPart_35 : decode cX11_tellsPart 35 = .ok (.ldiv, 1) := by decide +kernel
theorem dX11_tellsPart_36 : decode cX11_tellsPart 36 = .ok (.putfield 288, 3) := by decide +kernel
theorem dX11_tellsPart_39 : decode cX11_tellsPart 39 = .ok (.aload_n 0, 1) := by decide +kernel
theorem dX11_tellsPart_40 : decode cX11_tellsPart 40 = .ok (.lload_n 3, 1) := by decide +kernel
theorem dX11_tellsPart_41 : decode cX11_tellsPart 41 = .ok (.lload 5, 2) := by decide +kernel
theorem dX11_tellsPart_43 : decode cX11_tellsPart 43 = .ok (.ldiv, 1) := by decide +kernel
theorem dX11_tellsPart_44 : decode cX11_tellsPart 44 = .ok (.putfield 53, 3) := by decide +kernel
theorem dX11_tellsPart_47 : decode cX11_tellsPart 47 = .ok (.iconst 1, 1) := by decide +kernel
theorem dX11_tellsPart_48 : decode cX11_tellsPart 48 = .ok (.ireturn, 1) := by decide +kernel
def fX11_tellsPart_L6 (p1 : Int64) (p3 : Int64) : Nat → St → Int64 → Int64 → (St → Int64 → Int64 → Option (St × Int32)) → Option (St × Int32)
  | 0, _, _, _, _ => none
  | n + 1, σ1, v2, v3, k => (if (lg_cmp v3 0) = 0 then k σ1 v2 v3 else gd (decide (¬ v3 = 0)) (fX11_tellsPart_L6 p1 p3 n σ1 v3 (v2 - v2 / v3 * v3) k))
def fX11_tellsPart (σ : St) (p1 : Int64) (p3 : Int64) : Option (St × Int32) := fX11_tellsPart_L6 p1 p3 10000 σ p1 p3 (fun σ4 v5 v6 => gd (decide (¬ v5 = 0)) (pt (sl σ4 0 18 (p1 / v5)) (fun σ7 => gd (decide (¬ v5 = 0)) (pt (sl σ7 0 19 (p3 / v5)) (fun σ8 => some (σ8, 1))))))
set_option maxHeartbeats 4000000 in
set_option maxRecDepth 100000 in
theorem ctX11_tellsPart (l : Launch) (g : GG) (σ : St) (p1 : Int64) (p3 : Int64) (σ' : St) (r : Int32) (hE : fX11_tellsPart σ p1 p3 = some (σ', r)) : MI 25 entM l g yX11_tellsPart (Cond.code yX11_tellsPart cX11_tellsPart 11 (some .int) :: gtbl) (rmD 1) [.ref (g.2.1 0), .long p1, .long p3] σ σ' r := by
  refine mi_i (own := RX11) (lv := [(0, .ref (g.2.1 0)), (1, .long p1), (3, .long p3)]) (by decide) rfl (Nat.le_of_ble_eq_true rfl) rfl (fun p e s m below meth c ls args Q A H0 H locs C hK hA hQ hs hl => ?_)
  have hx := C.1
  have hb := C.2.1
  unfold fX11_tellsPart at hE
  refine lv_lload_n hx hb dX11_tellsPart_0 rfl (lv_at hl 1 rfl) ?_
  refine lv_lstore (lv' := [(5, .long p1), (0, .ref (g.2.1 0)), (1, .long p1), (3, .long p3)]) hx hb dX11_tellsPart_1 hl (by decide) rfl (fun ls hl => ?_)
  refine lv_lload_n hx hb dX11_tellsPart_3 rfl (lv_at hl 3 rfl) ?_
  refine lv_lstore (lv' := [(7, .long p3), (5, .long p1), (0, .ref (g.2.1 0)), (1, .long p1), (3, .long p3)]) hx hb dX11_tellsPart_4 hl (by decide) rfl (fun ls hl => ?_)
  have hL6 : ∀ (n : Nat) (σ1 : St) (v2 : Int64) (v3 : Int64) (k : St → Int64 → Int64 → Option (St × Int32)), fX11_tellsPart_L6 p1 p3 n σ1 v2 v3 k = some (σ', r) → (∀ (σ1 : St) (v2 : Int64) (v3 : Int64) (H : Heap) (locs : List Loc) (ls : Array Slot), HW 25 entM g A H0 H locs σ1 → lv_has ls 11 [(0, .ref (g.2.1 0)), (1, .long p1), (3, .long p3), (5, .long v2), (7, .long v3)] → k σ1 v2 v3 = some (σ', r) → W p l e (rmD 1) s m args below meth c H locs 0 0 Q (F0 m 31 ls [])) → ∀ (H : Heap) (locs : List Loc) (ls : Array Slot), HW 25 entM g A H0 H locs σ1 → lv_has ls 11 [(0, .ref (g.2.1 0)), (1, .long p1), (3, .long p3), (5, .long v2), (7, .long v3)] → W p l e (rmD 1) s m args below meth c H locs 0 0 Q (F0 m 6 ls []) := by
    intro n
    induction n with
    | zero =>
      intro σ1 v2 v3 k hE
      rw [fX11_tellsPart_L6] at hE
      exact no_e hE
    | succ n ih =>
      intro σ1 v2 v3 k hE hk H locs ls hs hl
      rw [fX11_tellsPart_L6] at hE
      refine lv_lload hx hb dX11_tellsPart_6 (lv_at hl 4 rfl) ?_
      refine lv_lconst (v := 0) hx hb dX11_tellsPart_8 (by decide) ?_
      refine W.lcmp hx hb dX11_tellsPart_9 ?_
      refine lv_if_eq (tgt := 31) hx hb dX11_tellsPart_10 (by decide) (fun hc => ?_) (fun hc => ?_)
      · have hE := if_t hc hE
        exact hk σ1 v2 v3 _ _ _ hs (lv_sub hl [0, 1, 2, 3, 4] rfl) hE
      · have hE := if_f hc hE
        refine lv_lload hx hb dX11_tellsPart_13 (lv_at hl 3 rfl) ?_
        refine lv_lload hx hb dX11_tellsPart_15 (lv_at hl 4 rfl) ?_
        obtain ⟨hc, hE⟩ := gd_e hE
        refine lv_lrem hx hb dX11_tellsPart_17 (of_decide_eq_true hc) ?_
        refine lv_lstore (lv' := [(9, .long (v2 - v2 / v3 * v3)), (0, .ref (g.2.1 0)), (1, .long p1), (3, .long p3), (5, .long v2), (7, .long v3)]) hx hb dX11_tellsPart_18 hl (by decide) rfl (fun ls hl => ?_)
        refine lv_lload hx hb dX11_tellsPart_20 (lv_at hl 5 rfl) ?_
        refine lv_lstore (lv' := [(5, .long v3), (9, .long (v2 - v2 / v3 * v3)), (0, .ref (g.2.1 0)), (1, .long p1), (3, .long p3), (7, .long v3)]) hx hb dX11_tellsPart_22 hl (by decide) rfl (fun ls hl => ?_)
        refine lv_lload hx hb dX11_tellsPart_24 (lv_at hl 1 rfl) ?_
        refine lv_lstore (lv' := [(7, .long (v2 - v2 / v3 * v3)), (5, .long v3), (9, .long (v2 - v2 / v3 * v3)), (0, .ref (g.2.1 0)), (1, .long p1), (3, .long p3)]) hx hb dX11_tellsPart_26 hl (by decide) rfl (fun ls hl => ?_)
        refine lv_goto (tgt := 6) hx hb dX11_tellsPart_28 (by decide) ?_
        exact ih _ _ _ _ hE hk _ _ _ hs (lv_sub hl [3, 4, 5, 1, 0] rfl)
  refine hL6 _ _ _ _ _ hE (fun σ4 v5 v6 H locs ls hs hl hE => ?_) H locs ls hs (lv_sub hl [2, 3, 4, 1, 0] rfl)
  refine lv_aload_n hx hb dX11_tellsPart_31 rfl (lv_at hl 0 rfl) ?_
  refine lv_lload_n hx hb dX11_tellsPart_32 rfl (lv_at hl 1 rfl) ?_
  refine lv_lload hx hb dX11_tellsPart_33 (lv_at hl 3 rfl) ?_
  obtain ⟨hc, hE⟩ := gd_e hE
  refine lv_ldiv hx hb dX11_tellsPart_35 (of_decide_eq_true hc) ?_
  obtain ⟨σ7, eσ7, hE⟩ := pt_w hE
  refine pf_X11_288_0 C hK hs eσ7 dX11_tellsPart_36 (fun H locs hs => ?_)
  refine lv_aload_n hx hb dX11_tellsPart_39 rfl (lv_at hl 0 rfl) ?_
  refine lv_lload_n hx hb dX11_tellsPart_40 rfl (lv_at hl 2 rfl) ?_
  refine lv_lload hx hb dX11_tellsPart_41 (lv_at hl 3 rfl) ?_
  obtain ⟨hc, hE⟩ := gd_e hE
  refine lv_ldiv hx hb dX11_tellsPart_43 (of_decide_eq_true hc) ?_
  obtain ⟨σ8, eσ8, hE⟩ := pt_w hE
  refine pf_X11_53_0 C hK hs eσ8 dX11_tellsPart_44 (fun H locs hs => ?_)
  refine lv_iconst (v := 1) hx hb dX11_tellsPart_47 (by decide) ?_
  exact hQ hs hE dX11_tellsPart_48
theorem dX11_weighs_0 : decode cX11_weighs 0 = .ok (.lconst 0, 1) := by decide +kernel
theorem dX11_weighs_1 : decode cX11_weighs 1 = .ok (.lstore 4, 2) := by decide +kernel
theorem dX11_weighs_3 : decode cX11_weighs 3 = .ok (.lconst 1, 1) := by decide +kernel
theorem dX11_weighs_4 : decode cX11_weighs 4 = .ok (.lstore 6, 2) := by decide +kernel
theorem dX11_weighs_6 : decode cX11_weighs 6 = .ok (.iconst 0, 1) := by decide +kernel
theorem dX11_weighs_7 : decode cX11_weighs 7 = .ok (.istore 8, 2) := by decide +kernel
theorem dX11_weighs_9 : decode cX11_weighs 9 = .ok (.iload 8, 2) := by decide +kernel
theorem dX11_weighs_11 : decode cX11_weighs 11 = .ok (.aload_n 0, 1) := by decide +kernel
theorem dX11_weighs_12 : decode cX11_weighs 12 = .ok (.getfield 160, 3) := by decide +kernel
theorem dX11_weighs_15 : decode cX11_weighs 15 = .ok (.if_icmp .ge 17, 3) := by decide +kernel
theorem dX11_weighs_18 : decode cX11_weighs 18 = .ok (.lload 6, 2) := by decide +kernel
theorem dX11_weighs_20 : decode cX11_weighs 20 = .ok (.ldc2_w 291, 3) := by decide +kernel
theorem dX11_weighs_23 : decode cX11_weighs 23 = .ok (.lmul, 1) := by decide +kernel
theorem dX11_weighs_24 : decode cX11_weighs 24 = .ok (.lstore 6, 2) := by decide +kernel
theorem dX11_weighs_26 : decode cX11_weighs 26 = .ok (.iinc 8 1, 3) := by decide +kernel
theorem dX11_weighs_29 : decode cX11_weighs 29 = .ok (.goto (-20), 3) := by decide +kernel
theorem dX11_weighs_32 : decode cX11_weighs 32 = .ok (.iconst 0, 1) := by decide +kernel
theorem dX11_weighs_33 : decode cX11_weighs 33 = .ok (.istore 8, 2) := by decide +kernel
theorem dX11_weighs_35 : decode cX11_weighs 35 = .ok (.iload 8, 2) := by decide +kernel
theorem dX11_weighs_37 : decode cX11_weighs 37 = .ok (.iconst 1, 1) := by decide +kernel
theorem dX11_weighs_38 : decode cX11_weighs 38 = .ok (.aload_n 0, 1) := by decide +kernel
theorem dX11_weighs_39 : decode cX11_weighs 39 = .ok (.getfield 160, 3) := by decide +kernel
theorem dX11_weighs_42 : decode cX11_weighs 42 = .ok (.ishl, 1) := by decide +kernel
theorem dX11_weighs_43 : decode cX11_weighs 43 = .ok (.if_icmp .ge 107, 3) := by decide +kernel
theorem dX11_weighs_46 : decode cX11_weighs 46 = .ok (.lconst 1, 1) := by decide +kernel
theorem dX11_weighs_47 : decode cX11_weighs 47 = .ok (.lstore 9, 2) := by decide +kernel
theorem dX11_weighs_49 : decode cX11_weighs 49 = .ok (.iconst 0, 1) := by decide +kernel
theorem dX11_weighs_50 : decode cX11_weighs 50 = .ok (.istore 11, 2) := by decide +kernel
theorem dX11_weighs_52 : decode cX11_weighs 52 = .ok (.iload 11, 2) := by decide +kernel
theorem dX11_weighs_54 : decode cX11_weighs 54 = .ok (.aload_n 0, 1) := by decide +kernel
theorem dX11_weighs_55 : decode cX11_weighs 55 = .ok (.getfield 160, 3) := by decide +kernel
theorem dX11_weighs_58 : decode cX11_weighs 58 = .ok (.if_icmp .ge 34, 3) := by decide +kernel
theorem dX11_weighs_61 : decode cX11_weighs 61 = .ok (.lload 9, 2) := by decide +kernel
theorem dX11_weighs_63 : decode cX11_weighs 63 = .ok (.iload 8, 2) := by decide +kernel
theorem dX11_weighs_65 : decode cX11_weighs 65 = .ok (.iload 11, 2) := by decide +kernel
theorem dX11_weighs_67 : decode cX11_weighs 67 = .ok (.invokestatic 227, 3) := by decide +kernel
theorem dX11_weighs_70 : decode cX11_weighs 70 = .ok (.ifCond .eq 8, 3) := by decide +kernel
theorem dX11_weighs_73 : decode cX11_weighs 73 = .ok (.iload_n 3, 1) := by decide +kernel
theorem dX11_weighs_74 : decode cX11_weighs 74 = .ok (.i2l, 1) := by decide +kernel
theorem dX11_weighs_75 : decode cX11_weighs 75 = .ok (.goto 8, 3) := by decide +kernel
theorem dX11_weighs_78 : decode cX11_weighs 78 = .ok (.bipush 12, 2) := by decide +kernel
theorem dX11_weighs_80 : decode cX11_weighs 80 = .ok (.iload_n 3, 1) := by decide +kernel
theorem dX11_weighs_81 : decode cX11_weighs 81 = .ok (.isub, 1) := by decide +kernel
theorem dX11_weighs_82 : decode cX11_weighs 82 = .ok (.i2l, 1) := by decide +kernel
theorem dX11_weighs_83 : decode cX11_weighs 83 = .ok (.lmul, 1) := by decide +kernel
theorem dX11_weighs_84 : decode cX11_weighs 84 = .ok (.lstore 9, 2) := by decide +kernel
theorem dX11_weighs_86 : decode cX11_weighs 86 = .ok (.iinc 11 1, 3) := by decide +kernel
theorem dX11_weighs_89 : decode cX11_weighs 89 = .ok (.goto (-37), 3) := by decide +kernel
theorem dX11_weighs_92 : decode cX11_weighs 92 = .ok (.aload_n 0, 1) := by decide +kernel
theorem dX11_weighs_93 : decode cX11_weighs 93 = .ok (.invokevirtual 247, 3) := by decide +kernel
theorem dX11_weighs_96 : decode cX11_weighs 96 = .ok (.aload_n 0, 1) := by decide +kernel
theorem dX11_weighs_97 : decode cX11_weighs 97 = .ok (.iload_n 2, 1) := by decide +kernel
theorem dX11_weighs_98 : decode cX11_weighs 98 = .ok (.iload 8, 2) := by decide +kernel
theorem dX11_weighs_100 : decode cX11_weighs 100 = .ok (.invokevirtual 250, 3) := by decide +kernel
theorem dX11_weighs_103 : decode cX11_weighs 103 = .ok (.pop, 1) := by decide +kernel
theorem dX11_weighs_104 : decode cX11_weighs 104 = .ok (.aload_n 0, 1) := by decide +kernel
theorem dX11_weighs_105 : decode cX11_weighs 105 = .ok (.aload_n 0, 1) := by decide +kernel
theorem dX11_weighs_106 : decode cX11_weighs 106 = .ok (.getfield 40, 3) := by decide +kernel
theorem dX11_weighs_109 : decode cX11_weighs 109 = .ok (.invokevirtual 253, 3) := by decide +kernel
theorem dX11_weighs_112 : decode cX11_weighs 112 = .ok (.istore 11, 2) := by decide +kernel
theorem dX11_weighs_114 : decode cX11_weighs 114 = .ok (.lload 4, 2) := by decide +kernel
theorem dX11_weighs_116 : decode cX11_weighs 116 = .ok (.iload_n 1, 1) := by decide +kernel
theorem dX11_weighs_117 : decode cX11_weighs 117 = .ok (.ifCond .ge 12, 3) := by decide +kernel
theorem dX11_weighs_120 : decode cX11_weighs 120 = .ok (.lload 9, 2) := by decide +kernel
theorem dX11_weighs_122 : decode cX11_weighs 122 = .ok (.iload 11, 2) := by decide +kernel
theorem dX11_weighs_124 : decode cX11_weighs 124 = .ok (.i2l, 1) := by decide +kernel
theorem dX11_weighs_125 : decode cX11_weighs 125 = .ok (.lmul, 1) := by decide +kernel
theorem dX11_weighs_126 : decode cX11_weighs 126 = .ok (.goto 15, 3) := by decide +kernel
theorem dX11_weighs_129 : decode cX11_weighs 129 = .ok (.iload 11, 2) := by decide +kernel
theorem dX11_weighs_131 : decode cX11_weighs 131 = .ok (.iload_n 1, 1) := by decide +kernel
theorem dX11_weighs_132 : decode cX11_weighs 132 = .ok (.if_icmp .lt 8, 3) := by decide +kernel
theorem dX11_weighs_135 : decode cX11_weighs 135 = .ok (.lload 9, 2) := by decide +kernel
theorem dX11_weighs_137 : decode cX11_weighs 137 = .ok (.goto 4, 3) := by decide +kernel
theorem dX11_weighs_140 : decode cX11_weighs 140 = .ok (.lconst 0, 1) := by decide +kernel
theorem dX11_weighs_141 : decode cX11_weighs 141 = .ok (.ladd, 1) := by decide +kernel
theorem dX11_weighs_142 : decode cX11_weighs 142 = .ok (.lstore 4, 2) := by decide +kernel
theorem dX11_weighs_144 : decode cX11_weighs 144 = .ok (.iinc 8 1, 3) := by decide +kernel
theorem dX11_weighs_147 : decode cX11_weighs 147 = .ok (.goto (-112), 3) := by decide +kernel
theorem dX11_weighs_150 : decode cX11_weighs 150 = .ok (.aload_n 0, 1) := by decide +kernel
theorem dX11_weighs_151 : decode cX11_weighs 151 = .ok (.lload 4, 2) := by decide +kernel
theorem dX11_weighs_153 : decode cX11_weighs 153 = .ok (.lload 6, 2) := by decide +kernel
theorem dX11_weighs_155 : decode cX11_weighs 155 = .ok (.invokevirtual 293, 3) := by decide +kernel
theorem dX11_weighs_158 : decode cX11_weighs 158 = .ok (.ireturn, 1) := by decide +kernel
def fX11_weighs_L9 (p1 : Int32) (p2 : Int32) (p3 : Int32) (w1 : Int64) : Nat → St → Int64 → Int32 → (St → Int64 → Int32 → Option (St × Int32)) → Option (St × Int32)
  | 0, _, _, _, _ => none
  | n + 1, σ2, v3, v4, k => (if (σ2.1 0 4) ≤ v4 then k σ2 v3 v4 else fX11_weighs_L9 p1 p2 p3 w1 n σ2 (v3 * 12) (v4 + 1) k)
def fX11_weighs_L52 (p1 : Int32) (p2 : Int32) (p3 : Int32) (v9 : Int64) (v6 : Int64) (v10 : Int32) : Nat → St → Int64 → Int32 → (St → Int64 → Int32 → Option (St × Int32)) → Option (St × Int32)
  | 0, _, _, _, _ => none
  | n + 1, σ11, v12, v13, k => (if (σ11.1 0 4) ≤ v13 then k σ11 v12 v13 else cl (fX11_has σ11 v10 v13) (fun σ14 r15 => pv (if r15 = 0 then ((12 - p3).toInt64) else (p3.toInt64)) (fun (y17 : Int64) => fX11_weighs_L52 p1 p2 p3 v9 v6 v10 n σ14 (v12 * y17) (v13 + 1) k)))
def fX11_weighs_L35 (p1 : Int32) (p2 : Int32) (p3 : Int32) (v6 : Int64) : Nat → St → Int64 → Int32 → (St → Int64 → Int32 → Option (St × Int32)) → Option (St × Int32)
  | 0, _, _, _, _ => none
  | n + 1, σ8, v9, v10, k => (if (1 <<< ((σ8.1 0 4) &&& 31)) ≤ v10 then k σ8 v9 v10 else fX11_weighs_L52 p1 p2 p3 v9 v6 v10 10000 σ8 1 0 (fun σ18 v19 v20 => cl (fX11_laysAside σ18) (fun σ21 r22 => cl (fX11_goesOn σ21 p2 v10) (fun σ23 r24 => cl (fX11_sum σ23 11) (fun σ25 r26 => pv (if 0 ≤ p1 then (if r26 < p1 then 0 else v19) else (v19 * (r26.toInt64))) (fun (y28 : Int64) => fX11_weighs_L35 p1 p2 p3 v6 n σ25 (v9 + y28) (v10 + 1) k))))))
def fX11_weighs (σ : St) (p1 : Int32) (p2 : Int32) (p3 : Int32) : Option (St × Int32) := pv (0) (fun (w1 : Int64) => fX11_weighs_L9 p1 p2 p3 w1 10000 σ 1 0 (fun σ5 v6 v7 => fX11_weighs_L35 p1 p2 p3 v6 10000 σ5 w1 0 (fun σ29 v30 v31 => cl (fX11_tellsPart σ29 v30 v6) (fun σ32 r33 => some (σ32, r33)))))
set_option maxHeartbeats 4000000 in
set_option maxRecDepth 100000 in
theorem ctX11_weighs (l : Launch) (g : GG) (σ : St) (p1 : Int32) (p2 : Int32) (p3 : Int32) (σ' : St) (r : Int32) (hE : fX11_weighs σ p1 p2 p3 = some (σ', r)) : MI 25 entM l g yX11_weighs (Cond.code yX11_weighs cX11_weighs 12 (some .int) :: gtbl) (rmD 5) [.ref (g.2.1 0), .int p1, .int p2, .int p3] σ σ' r := by
  refine mi_i (own := RX11) (lv := [(0, .ref (g.2.1 0)), (1, .int p1), (2, .int p2), (3, .int p3)]) (by decide) rfl (Nat.le_of_ble_eq_true rfl) rfl (fun p e s m below meth c ls args Q A H0 H locs C hK hA hQ hs hl => ?_)
  have hx := C.1
  have hb := C.2.1
  unfold fX11_weighs at hE
  refine lv_lconst (v := 0) hx hb dX11_weighs_0 (by decide) ?_
  refine lv_lstore (lv' := [(4, .long 0), (0, .ref (g.2.1 0)), (1, .int p1), (2, .int p2), (3, .int p3)]) hx hb dX11_weighs_1 hl (by decide) rfl (fun ls hl => ?_)
  refine lv_lconst (v := 1) hx hb dX11_weighs_3 (by decide) ?_
  refine lv_lstore (lv' := [(6, .long 1), (4, .long 0), (0, .ref (g.2.1 0)), (1, .int p1), (2, .int p2), (3, .int p3)]) hx hb dX11_weighs_4 hl (by decide) rfl (fun ls hl => ?_)
  refine lv_iconst (v := 0) hx hb dX11_weighs_6 (by decide) ?_
  refine lv_istore (lv' := [(8, .int 0), (6, .long 1), (4, .long 0), (0, .ref (g.2.1 0)), (1, .int p1), (2, .int p2), (3, .int p3)]) hx hb dX11_weighs_7 hl (by decide) rfl (fun ls hl => ?_)
  obtain ⟨w1, ew1, hE⟩ := pv_w hE
  have hl : lv_has ls 12 [(8, .int 0), (6, .long 1), (4, .long w1), (0, .ref (g.2.1 0)), (1, .int p1), (2, .int p2), (3, .int p3)] := by rw [ew1]; exact hl
  have hL9 : ∀ (n : Nat) (σ2 : St) (v3 : Int64) (v4 : Int32) (k : St → Int64 → Int32 → Option (St × Int32)), fX11_weighs_L9 p1 p2 p3 w1 n σ2 v3 v4 k = some (σ', r) → (∀ (σ2 : St) (v3 : Int64) (v4 : Int32) (H : Heap) (locs : List Loc) (ls : Array Slot), HW 25 entM g A H0 H locs σ2 → lv_has ls 12 [(0, .ref (g.2.1 0)), (1, .int p1), (2, .int p2), (3, .int p3), (4, .long w1), (6, .long v3), (8, .int v4)] → k σ2 v3 v4 = some (σ', r) → W p l e (rmD 5) s m args below meth c H locs 0 0 Q (F0 m 32 ls [])) → ∀ (H : Heap) (locs : List Loc) (ls : Array Slot), HW 25 entM g A H0 H locs σ2 → lv_has ls 12 [(0, .ref (g.2.1 0)), (1, .int p1), (2, .int p2), (3, .int p3), (4, .long w1), (6, .long v3), (8, .int v4)] → W p l e (rmD 5) s m args below meth c H locs 0 0 Q (F0 m 9 ls []) := by
    intro n
    induction n with
    | zero =>
      intro σ2 v3 v4 k hE
      rw [fX11_weighs_L9] at hE
      exact no_e hE
    | succ n ih =>
      intro σ2 v3 v4 k hE hk H locs ls hs hl
      rw [fX11_weighs_L9] at hE
      refine lv_iload hx hb dX11_weighs_9 (lv_at hl 6 rfl) ?_
      refine lv_aload_n hx hb dX11_weighs_11 rfl (lv_at hl 0 rfl) ?_
      refine gf_X11_160_0 C hK hs dX11_weighs_12 ?_
      refine lv_icmp_ge (tgt := 32) hx hb dX11_weighs_15 (by decide) (fun hc => ?_) (fun hc => ?_)
      · have hE := if_t hc hE
        exact hk σ2 v3 v4 _ _ _ hs (lv_sub hl [0, 1, 2, 3, 4, 5, 6] rfl) hE
      · have hE := if_f hc hE
        refine lv_lload hx hb dX11_weighs_18 (lv_at hl 5 rfl) ?_
        refine lv_ldc2 (v := 12) hx hb C.2.2.2.1 (C.2.2.2.2 _ mw_1386) dX11_weighs_20 ?_
        refine lv_lmul hx hb dX11_weighs_23 ?_
        refine lv_lstore (lv' := [(6, .long (v3 * 12)), (0, .ref (g.2.1 0)), (1, .int p1), (2, .int p2), (3, .int p3), (4, .long w1), (8, .int v4)]) hx hb dX11_weighs_24 hl (by decide) rfl (fun ls hl => ?_)
        refine lv_iinc (v := v4 + 1) (lv' := [(8, .int (v4 + 1)), (6, .long (v3 * 12)), (0, .ref (g.2.1 0)), (1, .int p1), (2, .int p2), (3, .int p3), (4, .long w1)]) hx hb dX11_weighs_26 hl (k := 6) rfl rfl (by decide) rfl (fun ls hl => ?_)
        refine lv_goto (tgt := 9) hx hb dX11_weighs_29 (by decide) ?_
        exact ih _ _ _ _ hE hk _ _ _ hs (lv_sub hl [2, 3, 4, 5, 6, 1, 0] rfl)
  refine hL9 _ _ _ _ _ hE (fun σ5 v6 v7 H locs ls hs hl hE => ?_) H locs ls hs (lv_sub hl [3, 4, 5, 6, 2, 1, 0] rfl)
  refine lv_iconst (v := 0) hx hb dX11_weighs_32 (by decide) ?_
  refine lv_istore (lv' := [(8, .int 0), (0, .ref (g.2.1 0)), (1, .int p1), (2, .int p2), (3, .int p3), (4, .long w1), (6, .long v6)]) hx hb dX11_weighs_33 hl (by decide) rfl (fun ls hl => ?_)
  have hL35 : ∀ (n : Nat) (σ8 : St) (v9 : Int64) (v10 : Int32) (k : St → Int64 → Int32 → Option (St × Int32)), fX11_weighs_L35 p1 p2 p3 v6 n σ8 v9 v10 k = some (σ', r) → (∀ (σ8 : St) (v9 : Int64) (v10 : Int32) (H : Heap) (locs : List Loc) (ls : Array Slot), HW 25 entM g A H0 H locs σ8 → lv_has ls 12 [(0, .ref (g.2.1 0)), (1, .int p1), (2, .int p2), (3, .int p3), (4, .long v9), (6, .long v6), (8, .int v10)] → k σ8 v9 v10 = some (σ', r) → W p l e (rmD 5) s m args below meth c H locs 0 0 Q (F0 m 150 ls [])) → ∀ (H : Heap) (locs : List Loc) (ls : Array Slot), HW 25 entM g A H0 H locs σ8 → lv_has ls 12 [(0, .ref (g.2.1 0)), (1, .int p1), (2, .int p2), (3, .int p3), (4, .long v9), (6, .long v6), (8, .int v10)] → W p l e (rmD 5) s m args below meth c H locs 0 0 Q (F0 m 35 ls []) := by
    intro n
    induction n with
    | zero =>
      intro σ8 v9 v10 k hE
      rw [fX11_weighs_L35] at hE
      exact no_e hE
    | succ n ih =>
      intro σ8 v9 v10 k hE hk H locs ls hs hl
      rw [fX11_weighs_L35] at hE
      refine lv_iload hx hb dX11_weighs_35 (lv_at hl 6 rfl) ?_
      refine lv_iconst (v := 1) hx hb dX11_weighs_37 (by decide) ?_
      refine lv_aload_n hx hb dX11_weighs_38 rfl (lv_at hl 0 rfl) ?_
      refine gf_X11_160_0 C hK hs dX11_weighs_39 ?_
      refine lv_ishl hx hb dX11_weighs_42 ?_
      refine lv_icmp_ge (tgt := 150) hx hb dX11_weighs_43 (by decide) (fun hc => ?_) (fun hc => ?_)
      · have hE := if_t hc hE
        exact hk σ8 v9 v10 _ _ _ hs (lv_sub hl [0, 1, 2, 3, 4, 5, 6] rfl) hE
      · have hE := if_f hc hE
        refine lv_lconst (v := 1) hx hb dX11_weighs_46 (by decide) ?_
        refine lv_lstore (lv' := [(9, .long 1), (0, .ref (g.2.1 0)), (1, .int p1), (2, .int p2), (3, .int p3), (4, .long v9), (6, .long v6), (8, .int v10)]) hx hb dX11_weighs_47 hl (by decide) rfl (fun ls hl => ?_)
        refine lv_iconst (v := 0) hx hb dX11_weighs_49 (by decide) ?_
        refine lv_istore (lv' := [(11, .int 0), (9, .long 1), (0, .ref (g.2.1 0)), (1, .int p1), (2, .int p2), (3, .int p3), (4, .long v9), (6, .long v6), (8, .int v10)]) hx hb dX11_weighs_50 hl (by decide) rfl (fun ls hl => ?_)
        have hL52 : ∀ (n : Nat) (σ11 : St) (v12 : Int64) (v13 : Int32) (k : St → Int64 → Int32 → Option (St × Int32)), fX11_weighs_L52 p1 p2 p3 v9 v6 v10 n σ11 v12 v13 k = some (σ', r) → (∀ (σ11 : St) (v12 : Int64) (v13 : Int32) (H : Heap) (locs : List Loc) (ls : Array Slot), HW 25 entM g A H0 H locs σ11 → lv_has ls 12 [(0, .ref (g.2.1 0)), (1, .int p1), (2, .int p2), (3, .int p3), (4, .long v9), (6, .long v6), (8, .int v10), (9, .long v12), (11, .int v13)] → k σ11 v12 v13 = some (σ', r) → W p l e (rmD 5) s m args below meth c H locs 0 0 Q (F0 m 92 ls [])) → ∀ (H : Heap) (locs : List Loc) (ls : Array Slot), HW 25 entM g A H0 H locs σ11 → lv_has ls 12 [(0, .ref (g.2.1 0)), (1, .int p1), (2, .int p2), (3, .int p3), (4, .long v9), (6, .long v6), (8, .int v10), (9, .long v12), (11, .int v13)] → W p l e (rmD 5) s m args below meth c H locs 0 0 Q (F0 m 52 ls []) := by
          intro n
          induction n with
          | zero =>
            intro σ11 v12 v13 k hE
            rw [fX11_weighs_L52] at hE
            exact no_e hE
          | succ n ih =>
            intro σ11 v12 v13 k hE hk H locs ls hs hl
            rw [fX11_weighs_L52] at hE
            refine lv_iload hx hb dX11_weighs_52 (lv_at hl 8 rfl) ?_
            refine lv_aload_n hx hb dX11_weighs_54 rfl (lv_at hl 0 rfl) ?_
            refine gf_X11_160_0 C hK hs dX11_weighs_55 ?_
            refine lv_icmp_ge (tgt := 92) hx hb dX11_weighs_58 (by decide) (fun hc => ?_) (fun hc => ?_)
            · have hE := if_t hc hE
              exact hk σ11 v12 v13 _ _ _ hs (lv_sub hl [0, 1, 2, 3, 4, 5, 6, 7, 8] rfl) hE
            · have hE := if_f hc hE
              refine lv_lload hx hb dX11_weighs_61 (lv_at hl 7 rfl) ?_
              refine lv_iload hx hb dX11_weighs_63 (lv_at hl 6 rfl) ?_
              refine lv_iload hx hb dX11_weighs_65 (lv_at hl 8 rfl) ?_
              obtain ⟨σ14, r15, hE1, hE⟩ := cl_e hE
              refine x_cis (As := [.int v10, .int v13]) (rest := [.long v12]) C hl.1 hK hs hA ⟨Nat.le_refl 0, Nat.le_refl 0⟩ (ctX11_has l g _ _ _ _ _ hE1) (cw_X11_227 C ⟨Nat.le_of_ble_eq_true rfl, Nat.le_of_ble_eq_true rfl⟩) rfl rfl (Nat.le_of_ble_eq_true rfl) dX11_weighs_67 (fun H locs hs => ?_)
              refine pvw hE (fun k16 hE hk16 => ?_)
              have hJk16 : ∀ (y17 : Int64) (H : Heap) (locs : List Loc) (ls : Array Slot), HW 25 entM g A H0 H locs σ14 → lv_has ls 12 [(0, .ref (g.2.1 0)), (1, .int p1), (2, .int p2), (3, .int p3), (4, .long v9), (6, .long v6), (8, .int v10), (11, .int v13)] → k16 y17 = some (σ', r) → W p l e (rmD 5) s m args below meth c H locs 0 0 Q (F0 m 83 ls [.long y17, .long v12]) := by
                intro y17 H locs ls hs hl hE
                have hE := hk16 _ hE
                refine lv_lmul hx hb dX11_weighs_83 ?_
                refine lv_lstore (lv' := [(9, .long (v12 * y17)), (0, .ref (g.2.1 0)), (1, .int p1), (2, .int p2), (3, .int p3), (4, .long v9), (6, .long v6), (8, .int v10), (11, .int v13)]) hx hb dX11_weighs_84 hl (by decide) rfl (fun ls hl => ?_)
                refine lv_iinc (v := v13 + 1) (lv' := [(11, .int (v13 + 1)), (9, .long (v12 * y17)), (0, .ref (g.2.1 0)), (1, .int p1), (2, .int p2), (3, .int p3), (4, .long v9), (6, .long v6), (8, .int v10)]) hx hb dX11_weighs_86 hl (k := 8) rfl rfl (by decide) rfl (fun ls hl => ?_)
                refine lv_goto (tgt := 52) hx hb dX11_weighs_89 (by decide) ?_
                exact ih _ _ _ _ hE hk _ _ _ hs (lv_sub hl [2, 3, 4, 5, 6, 7, 8, 1, 0] rfl)
              refine lv_if_eq (tgt := 78) hx hb dX11_weighs_70 (by decide) (fun hc => ?_) (fun hc => ?_)
              · have hE := pv_t hc hE
                refine lv_bipush (v := 12) hx hb dX11_weighs_78 (by decide) ?_
                refine lv_iload_n hx hb dX11_weighs_80 rfl (lv_at hl 3 rfl) ?_
                refine lv_isub hx hb dX11_weighs_81 ?_
                refine lv_i2l (v := (12 - p3).toInt64) hx hb dX11_weighs_82 rfl ?_
                exact hJk16 ((12 - p3).toInt64) _ _ _ hs (lv_sub hl [0, 1, 2, 3, 4, 5, 6, 8] rfl) hE
              · have hE := pv_f hc hE
                refine lv_iload_n hx hb dX11_weighs_73 rfl (lv_at hl 3 rfl) ?_
                refine lv_i2l (v := p3.toInt64) hx hb dX11_weighs_74 rfl ?_
                refine lv_goto (tgt := 83) hx hb dX11_weighs_75 (by decide) ?_
                exact hJk16 (p3.toInt64) _ _ _ hs (lv_sub hl [0, 1, 2, 3, 4, 5, 6, 8] rfl) hE
        refine hL52 _ _ _ _ _ hE (fun σ18 v19 v20 H locs ls hs hl hE => ?_) H locs ls hs (lv_sub hl [2, 3, 4, 5, 6, 7, 8, 1, 0] rfl)
        refine lv_aload_n hx hb dX11_weighs_92 rfl (lv_at hl 0 rfl) ?_
        obtain ⟨σ21, r22, hE1, hE⟩ := cl_e hE
        refine x_cvv (As := []) (rest := []) C hl.1 hK hs hA ⟨Nat.le_refl 0, Nat.le_refl 0⟩ (ctX11_laysAside l g _  _ _ hE1) (cw_X11_247 C ⟨Nat.le_of_ble_eq_true rfl, Nat.le_of_ble_eq_true rfl⟩) (hs.recv hK 0 (by decide) rfl rfl) rfl rfl (Nat.le_of_ble_eq_true rfl) dX11_weighs_93 (fun H locs hs => ?_)
        refine lv_aload_n hx hb dX11_weighs_96 rfl (lv_at hl 0 rfl) ?_
        refine lv_iload_n hx hb dX11_weighs_97 rfl (lv_at hl 2 rfl) ?_
        refine lv_iload hx hb dX11_weighs_98 (lv_at hl 6 rfl) ?_
        obtain ⟨σ23, r24, hE1, hE⟩ := cl_e hE
        refine x_civ (As := [.int p2, .int v10]) (rest := []) C hl.1 hK hs hA ⟨Nat.le_refl 0, Nat.le_refl 0⟩ (ctX11_goesOn l g _ _ _ _ _ hE1) (cw_X11_250 C ⟨Nat.le_of_ble_eq_true rfl, Nat.le_of_ble_eq_true rfl⟩) (hs.recv hK 0 (by decide) rfl rfl) rfl rfl (Nat.le_of_ble_eq_true rfl) dX11_weighs_100 (fun H locs hs => ?_)
        refine lv_pop hx hb dX11_weighs_103 rfl ?_
        refine lv_aload_n hx hb dX11_weighs_104 rfl (lv_at hl 0 rfl) ?_
        refine lv_aload_n hx hb dX11_weighs_105 rfl (lv_at hl 0 rfl) ?_
        refine gf_X11_40_0 C hK hs dX11_weighs_106 ?_
        obtain ⟨σ25, r26, hE1, hE⟩ := cl_e hE
        refine x_civ (As := [.ref (g.2.1 11)]) (rest := []) C hl.1 hK hs hA ⟨Nat.le_refl 0, Nat.le_refl 0⟩ (ctX11_sum l g _ _ _ _ hE1) (cw_X11_253 C ⟨Nat.le_of_ble_eq_true rfl, Nat.le_of_ble_eq_true rfl⟩) (hs.recv hK 0 (by decide) rfl rfl) rfl rfl (Nat.le_of_ble_eq_true rfl) dX11_weighs_109 (fun H locs hs => ?_)
        refine lv_istore (lv' := [(11, .int r26), (0, .ref (g.2.1 0)), (1, .int p1), (2, .int p2), (3, .int p3), (4, .long v9), (6, .long v6), (8, .int v10), (9, .long v19)]) hx hb dX11_weighs_112 hl (by decide) rfl (fun ls hl => ?_)
        refine lv_lload hx hb dX11_weighs_114 (lv_at hl 5 rfl) ?_
        refine lv_iload_n hx hb dX11_weighs_116 rfl (lv_at hl 2 rfl) ?_
        refine pvw hE (fun k27 hE hk27 => ?_)
        have hJk27 : ∀ (y28 : Int64) (H : Heap) (locs : List Loc) (ls : Array Slot), HW 25 entM g A H0 H locs σ25 → lv_has ls 12 [(0, .ref (g.2.1 0)), (1, .int p1), (2, .int p2), (3, .int p3), (6, .long v6), (8, .int v10)] → k27 y28 = some (σ', r) → W p l e (rmD 5) s m args below meth c H locs 0 0 Q (F0 m 141 ls [.long y28, .long v9]) := by
          intro y28 H locs ls hs hl hE
          have hE := hk27 _ hE
          refine lv_ladd hx hb dX11_weighs_141 ?_
          refine lv_lstore (lv' := [(4, .long (v9 + y28)), (0, .ref (g.2.1 0)), (1, .int p1), (2, .int p2), (3, .int p3), (6, .long v6), (8, .int v10)]) hx hb dX11_weighs_142 hl (by decide) rfl (fun ls hl => ?_)
          refine lv_iinc (v := v10 + 1) (lv' := [(8, .int (v10 + 1)), (4, .long (v9 + y28)), (0, .ref (g.2.1 0)), (1, .int p1), (2, .int p2), (3, .int p3), (6, .long v6)]) hx hb dX11_weighs_144 hl (k := 6) rfl rfl (by decide) rfl (fun ls hl => ?_)
          refine lv_goto (tgt := 35) hx hb dX11_weighs_147 (by decide) ?_
          exact ih _ _ _ _ hE hk _ _ _ hs (lv_sub hl [2, 3, 4, 5, 1, 6, 0] rfl)
        refine lv_if_ge (tgt := 129) hx hb dX11_weighs_117 (by decide) (fun hc => ?_) (fun hc => ?_)
        · have hE := pv_t hc hE
          refine lv_iload hx hb dX11_weighs_129 (lv_at hl 0 rfl) ?_
          refine lv_iload_n hx hb dX11_weighs_131 rfl (lv_at hl 2 rfl) ?_
          refine lv_icmp_lt (tgt := 140) hx hb dX11_weighs_132 (by decide) (fun hc => ?_) (fun hc => ?_)
          · have hE := pv_t hc hE
            refine lv_lconst (v := 0) hx hb dX11_weighs_140 (by decide) ?_
            exact hJk27 0 _ _ _ hs (lv_sub hl [1, 2, 3, 4, 6, 7] rfl) hE
          · have hE := pv_f hc hE
            refine lv_lload hx hb dX11_weighs_135 (lv_at hl 8 rfl) ?_
            refine lv_goto (tgt := 141) hx hb dX11_weighs_137 (by decide) ?_
            exact hJk27 v19 _ _ _ hs (lv_sub hl [1, 2, 3, 4, 6, 7] rfl) hE
        · have hE := pv_f hc hE
          refine lv_lload hx hb dX11_weighs_120 (lv_at hl 8 rfl) ?_
          refine lv_iload hx hb dX11_weighs_122 (lv_at hl 0 rfl) ?_
          refine lv_i2l (v := r26.toInt64) hx hb dX11_weighs_124 rfl ?_
          refine lv_lmul hx hb dX11_weighs_125 ?_
          refine lv_goto (tgt := 141) hx hb dX11_weighs_126 (by decide) ?_
          exact hJk27 (v19 * (r26.toInt64)) _ _ _ hs (lv_sub hl [1, 2, 3, 4, 6, 7] rfl) hE
  refine hL35 _ _ _ _ _ hE (fun σ29 v30 v31 H locs ls hs hl hE => ?_) H locs ls hs (lv_sub hl [1, 2, 3, 4, 5, 6, 0] rfl)
  refine lv_aload_n hx hb dX11_weighs_150 rfl (lv_at hl 0 rfl) ?_
  refine lv_lload hx hb dX11_weighs_151 (lv_at hl 4 rfl) ?_
  refine lv_lload hx hb dX11_weighs_153 (lv_at hl 5 rfl) ?_
  obtain ⟨σ32, r33, hE1, hE⟩ := cl_e hE
  refine x_civ (As := [.long v30, .long v6]) (rest := []) C hl.1 hK hs hA ⟨Nat.le_refl 0, Nat.le_refl 0⟩ (ctX11_tellsPart l g _ _ _ _ _ hE1) (cw_X11_293 C ⟨Nat.le_of_ble_eq_true rfl, Nat.le_of_ble_eq_true rfl⟩) (hs.recv hK 0 (by decide) rfl rfl) rfl rfl (Nat.le_of_ble_eq_true rfl) dX11_weighs_155 (fun H locs hs => ?_)
  exact hQ hs hE dX11_weighs_158
theorem dX11_odds_0 : decode cX11_odds 0 = .ok (.iload_n 1, 1) := by decide +kernel
theorem dX11_odds_1 : decode cX11_odds 1 = .ok (.i2l, 1) := by decide +kernel
theorem dX11_odds_2 : decode cX11_odds 2 = .ok (.lconst 0, 1) := by decide +kernel
theorem dX11_odds_3 : decode cX11_odds 3 = .ok (.ldc2_w 297, 3) := by decide +kernel
theorem dX11_odds_6 : decode cX11_odds 6 = .ok (.invokestatic 96, 3) := by decide +kernel
theorem dX11_odds_9 : decode cX11_odds 9 = .ok (.ifCond .eq 27, 3) := by decide +kernel
theorem dX11_odds_12 : decode cX11_odds 12 = .ok (.iload_n 2, 1) := by decide +kernel
theorem dX11_odds_13 : decode cX11_odds 13 = .ok (.i2l, 1) := by decide +kernel
theorem dX11_odds_14 : decode cX11_odds 14 = .ok (.lconst 0, 1) := by decide +kernel
theorem dX11_odds_15 : decode cX11_odds 15 = .ok (.ldc2_w 299, 3) := by decide +kernel
theorem dX11_odds_18 : decode cX11_odds 18 = .ok (.invokestatic 96, 3) := by decide +kernel
theorem dX11_odds_21 : decode cX11_odds 21 = .ok (.ifCond .eq 15, 3) := by decide +kernel
theorem dX11_odds_24 : decode cX11_odds 24 = .ok (.iload_n 3, 1) := by decide +kernel
theorem dX11_odds_25 : decode cX11_odds 25 = .ok (.i2l, 1) := by decide +kernel
theorem dX11_odds_26 : decode cX11_odds 26 = .ok (.lconst 0, 1) := by decide +kernel
theorem dX11_odds_27 : decode cX11_odds 27 = .ok (.ldc2_w 291, 3) := by decide +kernel
theorem dX11_odds_30 : decode cX11_odds 30 = .ok (.invokestatic 96, 3) := by decide +kernel
theorem dX11_odds_33 : decode cX11_odds 33 = .ok (.ifCond .ne 5, 3) := by decide +kernel
theorem dX11_odds_36 : decode cX11_odds 36 = .ok (.iconst (-1), 1) := by decide +kernel
theorem dX11_odds_37 : decode cX11_odds 37 = .ok (.ireturn, 1) := by decide +kernel
theorem dX11_odds_38 : decode cX11_odds 38 = .ok (.aload_n 0, 1) := by decide +kernel
theorem dX11_odds_39 : decode cX11_odds 39 = .ok (.getfield 160, 3) := by decide +kernel
theorem dX11_odds_42 : decode cX11_odds 42 = .ok (.ifCond .ne 8, 3) := by decide +kernel
theorem dX11_odds_45 : decode cX11_odds 45 = .ok (.bipush (-4), 2) := by decide +kernel
theorem dX11_odds_47 : decode cX11_odds 47 = .ok (.goto 10, 3) := by decide +kernel
theorem dX11_odds_50 : decode cX11_odds 50 = .ok (.aload_n 0, 1) := by decide +kernel
theorem dX11_odds_51 : decode cX11_odds 51 = .ok (.iload_n 1, 1) := by decide +kernel
theorem dX11_odds_52 : decode cX11_odds 52 = .ok (.iload_n 2, 1) := by decide +kernel
theorem dX11_odds_53 : decode cX11_odds 53 = .ok (.iload_n 3, 1) := by decide +kernel
theorem dX11_odds_54 : decode cX11_odds 54 = .ok (.invokevirtual 301, 3) := by decide +kernel
theorem dX11_odds_57 : decode cX11_odds 57 = .ok (.ireturn, 1) := by decide +kernel
def fX11_odds (σ : St) (p1 : Int32) (p2 : Int32) (p3 : Int32) : Option (St × Int32) := cl (fX11_in σ (p1.toInt64) 0 600) (fun σ1 r2 => (if r2 = 0 then some (σ1, (-1)) else cl (fX11_in σ1 (p2.toInt64) 0 20) (fun σ3 r4 => (if r4 = 0 then some (σ3, (-1)) else cl (fX11_in σ3 (p3.toInt64) 0 12) (fun σ5 r6 => (if r6 = 0 then some (σ5, (-1)) else (if (σ5.1 0 4) = 0 then some (σ5, (-4)) else cl (fX11_weighs σ5 p1 p2 p3) (fun σ7 r8 => some (σ7, r8)))))))))
set_option maxHeartbeats 4000000 in
set_option maxRecDepth 100000 in
theorem ctX11_odds (l : Launch) (g : GG) (σ : St) (p1 : Int32) (p2 : Int32) (p3 : Int32) (σ' : St) (r : Int32) (hE : fX11_odds σ p1 p2 p3 = some (σ', r)) : MI 25 entM l g yX11_odds (Cond.code yX11_odds cX11_odds 4 (some .int) :: gtbl) (rmD 6) [.ref (g.2.1 0), .int p1, .int p2, .int p3] σ σ' r := by
  refine mi_i (own := RX11) (lv := [(0, .ref (g.2.1 0)), (1, .int p1), (2, .int p2), (3, .int p3)]) (by decide) rfl (Nat.le_of_ble_eq_true rfl) rfl (fun p e s m below meth c ls args Q A H0 H locs C hK hA hQ hs hl => ?_)
  have hx := C.1
  have hb := C.2.1
  unfold fX11_odds at hE
  refine lv_iload_n hx hb dX11_odds_0 rfl (lv_at hl 1 rfl) ?_
  refine lv_i2l (v := p1.toInt64) hx hb dX11_odds_1 rfl ?_
  refine lv_lconst (v := 0) hx hb dX11_odds_2 (by decide) ?_
  refine lv_ldc2 (v := 600) hx hb C.2.2.2.1 (C.2.2.2.2 _ mw_1384) dX11_odds_3 ?_
  obtain ⟨σ1, r2, hE1, hE⟩ := cl_e hE
  refine x_cis (As := [.long (p1.toInt64), .long 0, .long 600]) (rest := []) C hl.1 hK hs hA ⟨Nat.le_refl 0, Nat.le_refl 0⟩ (ctX11_in l g _ _ _ _ _ _ hE1) (cw_X11_96 C ⟨Nat.le_of_ble_eq_true rfl, Nat.le_of_ble_eq_true rfl⟩) rfl rfl (Nat.le_of_ble_eq_true rfl) dX11_odds_6 (fun H locs hs => ?_)
  refine lv_if_eq (tgt := 36) hx hb dX11_odds_9 (by decide) (fun hc => ?_) (fun hc => ?_)
  · have hE := if_t hc hE
    refine lv_iconst (v := (-1)) hx hb dX11_odds_36 (by decide) ?_
    exact hQ hs hE dX11_odds_37
  · have hE := if_f hc hE
    refine lv_iload_n hx hb dX11_odds_12 rfl (lv_at hl 2 rfl) ?_
    refine lv_i2l (v := p2.toInt64) hx hb dX11_odds_13 rfl ?_
    refine lv_lconst (v := 0) hx hb dX11_odds_14 (by decide) ?_
    refine lv_ldc2 (v := 20) hx hb C.2.2.2.1 (C.2.2.2.2 _ mw_1385) dX11_odds_15 ?_
    obtain ⟨σ3, r4, hE1, hE⟩ := cl_e hE
    refine x_cis (As := [.long (p2.toInt64), .long 0, .long 20]) (rest := []) C hl.1 hK hs hA ⟨Nat.le_refl 0, Nat.le_refl 0⟩ (ctX11_in l g _ _ _ _ _ _ hE1) (cw_X11_96 C ⟨Nat.le_of_ble_eq_true rfl, Nat.le_of_ble_eq_true rfl⟩) rfl rfl (Nat.le_of_ble_eq_true rfl) dX11_odds_18 (fun H locs hs => ?_)
    refine lv_if_eq (tgt := 36) hx hb dX11_odds_21 (by decide) (fun hc => ?_) (fun hc => ?_)
    · have hE := if_t hc hE
      refine lv_iconst (v := (-1)) hx hb dX11_odds_36 (by decide) ?_
      exact hQ hs hE dX11_odds_37
    · have hE := if_f hc hE
      refine lv_iload_n hx hb dX11_odds_24 rfl (lv_at hl 3 rfl) ?_
      refine lv_i2l (v := p3.toInt64) hx hb dX11_odds_25 rfl ?_
      refine lv_lconst (v := 0) hx hb dX11_odds_26 (by decide) ?_
      refine lv_ldc2 (v := 12) hx hb C.2.2.2.1 (C.2.2.2.2 _ mw_1386) dX11_odds_27 ?_
      obtain ⟨σ5, r6, hE1, hE⟩ := cl_e hE
      refine x_cis (As := [.long (p3.toInt64), .long 0, .long 12]) (rest := []) C hl.1 hK hs hA ⟨Nat.le_refl 0, Nat.le_refl 0⟩ (ctX11_in l g _ _ _ _ _ _ hE1) (cw_X11_96 C ⟨Nat.le_of_ble_eq_true rfl, Nat.le_of_ble_eq_true rfl⟩) rfl rfl (Nat.le_of_ble_eq_true rfl) dX11_odds_30 (fun H locs hs => ?_)
      refine lv_if_ne (tgt := 38) hx hb dX11_odds_33 (by decide) (fun hc => ?_) (fun hc => ?_)
      · have hE := if_f hc hE
        refine lv_aload_n hx hb dX11_odds_38 rfl (lv_at hl 0 rfl) ?_
        refine gf_X11_160_0 C hK hs dX11_odds_39 ?_
        refine lv_if_ne (tgt := 50) hx hb dX11_odds_42 (by decide) (fun hc => ?_) (fun hc => ?_)
        · have hE := if_f hc hE
          refine lv_aload_n hx hb dX11_odds_50 rfl (lv_at hl 0 rfl) ?_
          refine lv_iload_n hx hb dX11_odds_51 rfl (lv_at hl 1 rfl) ?_
          refine lv_iload_n hx hb dX11_odds_52 rfl (lv_at hl 2 rfl) ?_
          refine lv_iload_n hx hb dX11_odds_53 rfl (lv_at hl 3 rfl) ?_
          obtain ⟨σ7, r8, hE1, hE⟩ := cl_e hE
          refine x_civ (As := [.int p1, .int p2, .int p3]) (rest := []) C hl.1 hK hs hA ⟨Nat.le_refl 0, Nat.le_refl 0⟩ (ctX11_weighs l g _ _ _ _ _ _ hE1) (cw_X11_301 C ⟨Nat.le_of_ble_eq_true rfl, Nat.le_of_ble_eq_true rfl⟩) (hs.recv hK 0 (by decide) rfl rfl) rfl rfl (Nat.le_of_ble_eq_true rfl) dX11_odds_54 (fun H locs hs => ?_)
          exact hQ hs hE dX11_odds_57
        · have hE := if_t hc hE
          refine lv_bipush (v := (-4)) hx hb dX11_odds_45 (by decide) ?_
          refine lv_goto (tgt := 57) hx hb dX11_odds_47 (by decide) ?_
          exact hQ hs hE dX11_odds_57
      · have hE := if_t hc hE
        refine lv_iconst (v := (-1)) hx hb dX11_odds_36 (by decide) ?_
        exact hQ hs hE dX11_odds_37
theorem dX11_mid_0 : decode cX11_mid 0 = .ok (.iload_n 1, 1) := by decide +kernel
theorem dX11_mid_1 : decode cX11_mid 1 = .ok (.i2l, 1) := by decide +kernel
theorem dX11_mid_2 : decode cX11_mid 2 = .ok (.lconst 0, 1) := by decide +kernel
theorem dX11_mid_3 : decode cX11_mid 3 = .ok (.ldc2_w 299, 3) := by decide +kernel
theorem dX11_mid_6 : decode cX11_mid 6 = .ok (.invokestatic 96, 3) := by decide +kernel
theorem dX11_mid_9 : decode cX11_mid 9 = .ok (.ifCond .eq 15, 3) := by decide +kernel
theorem dX11_mid_12 : decode cX11_mid 12 = .ok (.iload_n 2, 1) := by decide +kernel
theorem dX11_mid_13 : decode cX11_mid 13 = .ok (.i2l, 1) := by decide +kernel
theorem dX11_mid_14 : decode cX11_mid 14 = .ok (.lconst 0, 1) := by decide +kernel
theorem dX11_mid_15 : decode cX11_mid 15 = .ok (.ldc2_w 291, 3) := by decide +kernel
theorem dX11_mid_18 : decode cX11_mid 18 = .ok (.invokestatic 96, 3) := by decide +kernel
theorem dX11_mid_21 : decode cX11_mid 21 = .ok (.ifCond .ne 5, 3) := by decide +kernel
theorem dX11_mid_24 : decode cX11_mid 24 = .ok (.iconst (-1), 1) := by decide +kernel
theorem dX11_mid_25 : decode cX11_mid 25 = .ok (.ireturn, 1) := by decide +kernel
theorem dX11_mid_26 : decode cX11_mid 26 = .ok (.aload_n 0, 1) := by decide +kernel
theorem dX11_mid_27 : decode cX11_mid 27 = .ok (.getfield 160, 3) := by decide +kernel
theorem dX11_mid_30 : decode cX11_mid 30 = .ok (.ifCond .ne 8, 3) := by decide +kernel
theorem dX11_mid_33 : decode cX11_mid 33 = .ok (.bipush (-4), 2) := by decide +kernel
theorem dX11_mid_35 : decode cX11_mid 35 = .ok (.goto 11, 3) := by decide +kernel
theorem dX11_mid_38 : decode cX11_mid 38 = .ok (.aload_n 0, 1) := by decide +kernel
theorem dX11_mid_39 : decode cX11_mid 39 = .ok (.bipush (-9), 2) := by decide +kernel
theorem dX11_mid_41 : decode cX11_mid 41 = .ok (.iload_n 1, 1) := by decide +kernel
theorem dX11_mid_42 : decode cX11_mid 42 = .ok (.iload_n 2, 1) := by decide +kernel
theorem dX11_mid_43 : decode cX11_mid 43 = .ok (.invokevirtual 301, 3) := by decide +kernel
theorem dX11_mid_46 : decode cX11_mid 46 = .ok (.ireturn, 1) := by decide +kernel
def fX11_mid (σ : St) (p1 : Int32) (p2 : Int32) : Option (St × Int32) := cl (fX11_in σ (p1.toInt64) 0 20) (fun σ1 r2 => (if r2 = 0 then some (σ1, (-1)) else cl (fX11_in σ1 (p2.toInt64) 0 12) (fun σ3 r4 => (if r4 = 0 then some (σ3, (-1)) else (if (σ3.1 0 4) = 0 then some (σ3, (-4)) else cl (fX11_weighs σ3 (-9) p1 p2) (fun σ5 r6 => some (σ5, r6)))))))
set_option maxHeartbeats 4000000 in
set_option maxRecDepth 100000 in
theorem ctX11_mid (l : Launch) (g : GG) (σ : St) (p1 : Int32) (p2 : Int32) (σ' : St) (r : Int32) (hE : fX11_mid σ p1 p2 = some (σ', r)) : MI 25 entM l g yX11_mid (Cond.code yX11_mid cX11_mid 3 (some .int) :: gtbl) (rmD 6) [.ref (g.2.1 0), .int p1, .int p2] σ σ' r := by
  refine mi_i (own := RX11) (lv := [(0, .ref (g.2.1 0)), (1, .int p1), (2, .int p2)]) (by decide) rfl (Nat.le_of_ble_eq_true rfl) rfl (fun p e s m below meth c ls args Q A H0 H locs C hK hA hQ hs hl => ?_)
  have hx := C.1
  have hb := C.2.1
  unfold fX11_mid at hE
  refine lv_iload_n hx hb dX11_mid_0 rfl (lv_at hl 1 rfl) ?_
  refine lv_i2l (v := p1.toInt64) hx hb dX11_mid_1 rfl ?_
  refine lv_lconst (v := 0) hx hb dX11_mid_2 (by decide) ?_
  refine lv_ldc2 (v := 20) hx hb C.2.2.2.1 (C.2.2.2.2 _ mw_1385) dX11_mid_3 ?_
  obtain ⟨σ1, r2, hE1, hE⟩ := cl_e hE
  refine x_cis (As := [.long (p1.toInt64), .long 0, .long 20]) (rest := []) C hl.1 hK hs hA ⟨Nat.le_refl 0, Nat.le_refl 0⟩ (ctX11_in l g _ _ _ _ _ _ hE1) (cw_X11_96 C ⟨Nat.le_of_ble_eq_true rfl, Nat.le_of_ble_eq_true rfl⟩) rfl rfl (Nat.le_of_ble_eq_true rfl) dX11_mid_6 (fun H locs hs => ?_)
  refine lv_if_eq (tgt := 24) hx hb dX11_mid_9 (by decide) (fun hc => ?_) (fun hc => ?_)
  · have hE := if_t hc hE
    refine lv_iconst (v := (-1)) hx hb dX11_mid_24 (by decide) ?_
    exact hQ hs hE dX11_mid_25
  · have hE := if_f hc hE
    refine lv_iload_n hx hb dX11_mid_12 rfl (lv_at hl 2 rfl) ?_
    refine lv_i2l (v := p2.toInt64) hx hb dX11_mid_13 rfl ?_
    refine lv_lconst (v := 0) hx hb dX11_mid_14 (by decide) ?_
    refine lv_ldc2 (v := 12) hx hb C.2.2.2.1 (C.2.2.2.2 _ mw_1386) dX11_mid_15 ?_
    obtain ⟨σ3, r4, hE1, hE⟩ := cl_e hE
    refine x_cis (As := [.long (p2.toInt64), .long 0, .long 12]) (rest := []) C hl.1 hK hs hA ⟨Nat.le_refl 0, Nat.le_refl 0⟩ (ctX11_in l g _ _ _ _ _ _ hE1) (cw_X11_96 C ⟨Nat.le_of_ble_eq_true rfl, Nat.le_of_ble_eq_true rfl⟩) rfl rfl (Nat.le_of_ble_eq_true rfl) dX11_mid_18 (fun H locs hs => ?_)
    refine lv_if_ne (tgt := 26) hx hb dX11_mid_21 (by decide) (fun hc => ?_) (fun hc => ?_)
    · have hE := if_f hc hE
      refine lv_aload_n hx hb dX11_mid_26 rfl (lv_at hl 0 rfl) ?_
      refine gf_X11_160_0 C hK hs dX11_mid_27 ?_
      refine lv_if_ne (tgt := 38) hx hb dX11_mid_30 (by decide) (fun hc => ?_) (fun hc => ?_)
      · have hE := if_f hc hE
        refine lv_aload_n hx hb dX11_mid_38 rfl (lv_at hl 0 rfl) ?_
        refine lv_bipush (v := (-9)) hx hb dX11_mid_39 (by decide) ?_
        refine lv_iload_n hx hb dX11_mid_41 rfl (lv_at hl 1 rfl) ?_
        refine lv_iload_n hx hb dX11_mid_42 rfl (lv_at hl 2 rfl) ?_
        obtain ⟨σ5, r6, hE1, hE⟩ := cl_e hE
        refine x_civ (As := [.int (-9), .int p1, .int p2]) (rest := []) C hl.1 hK hs hA ⟨Nat.le_refl 0, Nat.le_refl 0⟩ (ctX11_weighs l g _ _ _ _ _ _ hE1) (cw_X11_301 C ⟨Nat.le_of_ble_eq_true rfl, Nat.le_of_ble_eq_true rfl⟩) (hs.recv hK 0 (by decide) rfl rfl) rfl rfl (Nat.le_of_ble_eq_true rfl) dX11_mid_43 (fun H locs hs => ?_)
        exact hQ hs hE dX11_mid_46
      · have hE := if_t hc hE
        refine lv_bipush (v := (-4)) hx hb dX11_mid_33 (by decide) ?_
        refine lv_goto (tgt := 46) hx hb dX11_mid_35 (by decide) ?_
        exact hQ hs hE dX11_mid_46
    · have hE := if_t hc hE
      refine lv_iconst (v := (-1)) hx hb dX11_mid_24 (by decide) ?_
      exact hQ hs hE dX11_mid_25
theorem dX11_things_0 : decode cX11_things 0 = .ok (.iconst 0, 1) := by decide +kernel
theorem dX11_things_1 : decode cX11_things 1 = .ok (.istore_n 1, 1) := by decide +kernel
theorem dX11_things_2 : decode cX11_things 2 = .ok (.bipush 7, 2) := by decide +kernel
theorem dX11_things_4 : decode cX11_things 4 = .ok (.istore_n 2, 1) := by decide +kernel
theorem dX11_things_5 : decode cX11_things 5 = .ok (.iload_n 2, 1) := by decide +kernel
theorem dX11_things_6 : decode cX11_things 6 = .ok (.bipush 55, 2) := by decide +kernel
theorem dX11_things_8 : decode cX11_things 8 = .ok (.if_icmp .ge 26, 3) := by decide +kernel
theorem dX11_things_11 : decode cX11_things 11 = .ok (.iload_n 1, 1) := by decide +kernel
theorem dX11_things_12 : decode cX11_things 12 = .ok (.aload_n 0, 1) := by decide +kernel
theorem dX11_things_13 : decode cX11_things 13 = .ok (.getfield 37, 3) := by decide +kernel
theorem dX11_things_16 : decode cX11_things 16 = .ok (.iload_n 2, 1) := by decide +kernel
theorem dX11_things_17 : decode cX11_things 17 = .ok (.iaload, 1) := by decide +kernel
theorem dX11_things_18 : decode cX11_things 18 = .ok (.ifCond .le 7, 3) := by decide +kernel
theorem dX11_things_21 : decode cX11_things 21 = .ok (.iconst 1, 1) := by decide +kernel
theorem dX11_things_22 : decode cX11_things 22 = .ok (.goto 4, 3) := by decide +kernel
theorem dX11_things_25 : decode cX11_things 25 = .ok (.iconst 0, 1) := by decide +kernel
theorem dX11_things_26 : decode cX11_things 26 = .ok (.iadd, 1) := by decide +kernel
theorem dX11_things_27 : decode cX11_things 27 = .ok (.istore_n 1, 1) := by decide +kernel
theorem dX11_things_28 : decode cX11_things 28 = .ok (.iinc 2 1, 3) := by decide +kernel
theorem dX11_things_31 : decode cX11_things 31 = .ok (.goto (-26), 3) := by decide +kernel
theorem dX11_things_34 : decode cX11_things 34 = .ok (.iload_n 1, 1) := by decide +kernel
theorem dX11_things_35 : decode cX11_things 35 = .ok (.ireturn, 1) := by decide +kernel
def fX11_things_L5 : Nat → St → Int32 → Int32 → (St → Int32 → Int32 → Option (St × Int32)) → Option (St × Int32)
  | 0, _, _, _, _ => none
  | n + 1, σ1, v2, v3, k => (if 55 ≤ v3 then k σ1 v2 v3 else rd LM σ1 10 v3 (fun x4 => pv (if x4 ≤ 0 then 0 else 1) (fun (y6 : Int32) => fX11_things_L5 n σ1 (v2 + y6) (v3 + 1) k)))
def fX11_things (σ : St) : Option (St × Int32) := fX11_things_L5 10000 σ 0 7 (fun σ7 v8 v9 => some (σ7, v8))
set_option maxHeartbeats 4000000 in
set_option maxRecDepth 100000 in
theorem ctX11_things (l : Launch) (g : GG) (σ : St) (σ' : St) (r : Int32) (hE : fX11_things σ  = some (σ', r)) : MI 25 entM l g yX11_things (Cond.code yX11_things cX11_things 3 (some .int) :: gtbl) (rmD 1) [.ref (g.2.1 0)] σ σ' r := by
  refine mi_i (own := RX11) (lv := [(0, .ref (g.2.1 0))]) (by decide) rfl (Nat.le_of_ble_eq_true rfl) rfl (fun p e s m below meth c ls args Q A H0 H locs C hK hA hQ hs hl => ?_)
  have hx := C.1
  have hb := C.2.1
  unfold fX11_things at hE
  refine lv_iconst (v := 0) hx hb dX11_things_0 (by decide) ?_
  refine lv_istore_n (lv' := [(1, .int 0), (0, .ref (g.2.1 0))]) hx hb dX11_things_1 rfl hl (by decide) rfl (fun ls hl => ?_)
  refine lv_bipush (v := 7) hx hb dX11_things_2 (by decide) ?_
  refine lv_istore_n (lv' := [(2, .int 7), (1, .int 0), (0, .ref (g.2.1 0))]) hx hb dX11_things_4 rfl hl (by decide) rfl (fun ls hl => ?_)
  have hL5 : ∀ (n : Nat) (σ1 : St) (v2 : Int32) (v3 : Int32) (k : St → Int32 → Int32 → Option (St × Int32)), fX11_things_L5 n σ1 v2 v3 k = some (σ', r) → (∀ (σ1 : St) (v2 : Int32) (v3 : Int32) (H : Heap) (locs : List Loc) (ls : Array Slot), HW 25 entM g A H0 H locs σ1 → lv_has ls 3 [(0, .ref (g.2.1 0)), (1, .int v2), (2, .int v3)] → k σ1 v2 v3 = some (σ', r) → W p l e (rmD 1) s m args below meth c H locs 0 0 Q (F0 m 34 ls [])) → ∀ (H : Heap) (locs : List Loc) (ls : Array Slot), HW 25 entM g A H0 H locs σ1 → lv_has ls 3 [(0, .ref (g.2.1 0)), (1, .int v2), (2, .int v3)] → W p l e (rmD 1) s m args below meth c H locs 0 0 Q (F0 m 5 ls []) := by
    intro n
    induction n with
    | zero =>
      intro σ1 v2 v3 k hE
      rw [fX11_things_L5] at hE
      exact no_e hE
    | succ n ih =>
      intro σ1 v2 v3 k hE hk H locs ls hs hl
      rw [fX11_things_L5] at hE
      refine lv_iload_n hx hb dX11_things_5 rfl (lv_at hl 2 rfl) ?_
      refine lv_bipush (v := 55) hx hb dX11_things_6 (by decide) ?_
      refine lv_icmp_ge (tgt := 34) hx hb dX11_things_8 (by decide) (fun hc => ?_) (fun hc => ?_)
      · have hE := if_t hc hE
        exact hk σ1 v2 v3 _ _ _ hs (lv_sub hl [0, 1, 2] rfl) hE
      · have hE := if_f hc hE
        refine lv_iload_n hx hb dX11_things_11 rfl (lv_at hl 1 rfl) ?_
        refine lv_aload_n hx hb dX11_things_12 rfl (lv_at hl 0 rfl) ?_
        refine gf_X11_37_0 C hK hs dX11_things_13 ?_
        refine lv_iload_n hx hb dX11_things_16 rfl (lv_at hl 2 rfl) ?_
        obtain ⟨hi, x4, ex4, hE⟩ := rd_w hE
        refine y_ald layM C hK hs hi ex4 dX11_things_17 ?_
        refine pvw hE (fun k5 hE hk5 => ?_)
        have hJk5 : ∀ (y6 : Int32) (H : Heap) (locs : List Loc) (ls : Array Slot), HW 25 entM g A H0 H locs σ1 → lv_has ls 3 [(0, .ref (g.2.1 0)), (2, .int v3)] → k5 y6 = some (σ', r) → W p l e (rmD 1) s m args below meth c H locs 0 0 Q (F0 m 26 ls [.int y6, .int v2]) := by
          intro y6 H locs ls hs hl hE
          have hE := hk5 _ hE
          refine lv_iadd hx hb dX11_things_26 ?_
          refine lv_istore_n (lv' := [(1, .int (v2 + y6)), (0, .ref (g.2.1 0)), (2, .int v3)]) hx hb dX11_things_27 rfl hl (by decide) rfl (fun ls hl => ?_)
          refine lv_iinc (v := v3 + 1) (lv' := [(2, .int (v3 + 1)), (1, .int (v2 + y6)), (0, .ref (g.2.1 0))]) hx hb dX11_things_28 hl (k := 2) rfl rfl (by decide) rfl (fun ls hl => ?_)
          refine lv_goto (tgt := 5) hx hb dX11_things_31 (by decide) ?_
          exact ih _ _ _ _ hE hk _ _ _ hs (lv_sub hl [2, 1, 0] rfl)
        refine lv_if_le (tgt := 25) hx hb dX11_things_18 (by decide) (fun hc => ?_) (fun hc => ?_)
        · have hE := pv_t hc hE
          refine lv_iconst (v := 0) hx hb dX11_things_25 (by decide) ?_
          exact hJk5 0 _ _ _ hs (lv_sub hl [0, 2] rfl) hE
        · have hE := pv_f hc hE
          refine lv_iconst (v := 1) hx hb dX11_things_21 (by decide) ?_
          refine lv_goto (tgt := 26) hx hb dX11_things_22 (by decide) ?_
          exact hJk5 1 _ _ _ hs (lv_sub hl [0, 2] rfl) hE
  refine hL5 _ _ _ _ _ hE (fun σ7 v8 v9 H locs ls hs hl hE => ?_) H locs ls hs (lv_sub hl [2, 1, 0] rfl)
  refine lv_iload_n hx hb dX11_things_34 rfl (lv_at hl 1 rfl) ?_
  exact hQ hs hE dX11_things_35
theorem dX11_falls_0 : decode cX11_falls 0 = .ok (.lload_n 1, 1) := by decide +kernel
theorem dX11_falls_1 : decode cX11_falls 1 = .ok (.ldc2_w 304, 3) := by decide +kernel
theorem dX11_falls_4 : decode cX11_falls 4 = .ok (.ldiv, 1) := by decide +kernel
theorem dX11_falls_5 : decode cX11_falls 5 = .ok (.aload_n 0, 1) := by decide +kernel
theorem dX11_falls_6 : decode cX11_falls 6 = .ok (.getfield 160, 3) := by decide +kernel
theorem dX11_falls_9 : decode cX11_falls 9 = .ok (.i2l, 1) := by decide +kernel
theorem dX11_falls_10 : decode cX11_falls 10 = .ok (.lrem, 1) := by decide +kernel
theorem dX11_falls_11 : decode cX11_falls 11 = .ok (.l2i, 1) := by decide +kernel
theorem dX11_falls_12 : decode cX11_falls 12 = .ok (.istore_n 3, 1) := by decide +kernel
theorem dX11_falls_13 : decode cX11_falls 13 = .ok (.lload_n 1, 1) := by decide +kernel
theorem dX11_falls_14 : decode cX11_falls 14 = .ok (.ldc2_w 304, 3) := by decide +kernel
theorem dX11_falls_17 : decode cX11_falls 17 = .ok (.lrem, 1) := by decide +kernel
theorem dX11_falls_18 : decode cX11_falls 18 = .ok (.l2i, 1) := by decide +kernel
theorem dX11_falls_19 : decode cX11_falls 19 = .ok (.istore 4, 2) := by decide +kernel
theorem dX11_falls_21 : decode cX11_falls 21 = .ok (.iload 4, 2) := by decide +kernel
theorem dX11_falls_23 : decode cX11_falls 23 = .ok (.iconst 2, 1) := by decide +kernel
theorem dX11_falls_24 : decode cX11_falls 24 = .ok (.if_icmp .ge 27, 3) := by decide +kernel
theorem dX11_falls_27 : decode cX11_falls 27 = .ok (.aload_n 0, 1) := by decide +kernel
theorem dX11_falls_28 : decode cX11_falls 28 = .ok (.getfield 37, 3) := by decide +kernel
theorem dX11_falls_31 : decode cX11_falls 31 = .ok (.iconst 0, 1) := by decide +kernel
theorem dX11_falls_32 : decode cX11_falls 32 = .ok (.iaload, 1) := by decide +kernel
theorem dX11_falls_33 : decode cX11_falls 33 = .ok (.bipush 99, 2) := by decide +kernel
theorem dX11_falls_35 : decode cX11_falls 35 = .ok (.if_icmp .ge 137, 3) := by decide +kernel
theorem dX11_falls_38 : decode cX11_falls 38 = .ok (.aload_n 0, 1) := by decide +kernel
theorem dX11_falls_39 : decode cX11_falls 39 = .ok (.aload_n 0, 1) := by decide +kernel
theorem dX11_falls_40 : decode cX11_falls 40 = .ok (.getfield 37, 3) := by decide +kernel
theorem dX11_falls_43 : decode cX11_falls 43 = .ok (.iconst 0, 1) := by decide +kernel
theorem dX11_falls_44 : decode cX11_falls 44 = .ok (.invokevirtual 237, 3) := by decide +kernel
theorem dX11_falls_47 : decode cX11_falls 47 = .ok (.pop, 1) := by decide +kernel
theorem dX11_falls_48 : decode cX11_falls 48 = .ok (.goto 124, 3) := by decide +kernel
theorem dX11_falls_51 : decode cX11_falls 51 = .ok (.iload 4, 2) := by decide +kernel
theorem dX11_falls_53 : decode cX11_falls 53 = .ok (.iconst 2, 1) := by decide +kernel
theorem dX11_falls_54 : decode cX11_falls 54 = .ok (.if_icmp .ne 66, 3) := by decide +kernel
theorem dX11_falls_57 : decode cX11_falls 57 = .ok (.iload_n 3, 1) := by decide +kernel
theorem dX11_falls_58 : decode cX11_falls 58 = .ok (.iconst 1, 1) := by decide +kernel
theorem dX11_falls_59 : decode cX11_falls 59 = .ok (.iadd, 1) := by decide +kernel
theorem dX11_falls_60 : decode cX11_falls 60 = .ok (.aload_n 0, 1) := by decide +kernel
theorem dX11_falls_61 : decode cX11_falls 61 = .ok (.getfield 160, 3) := by decide +kernel
theorem dX11_falls_64 : decode cX11_falls 64 = .ok (.irem, 1) := by decide +kernel
theorem dX11_falls_65 : decode cX11_falls 65 = .ok (.istore 5, 2) := by decide +kernel
theorem dX11_falls_67 : decode cX11_falls 67 = .ok (.aload_n 0, 1) := by decide +kernel
theorem dX11_falls_68 : decode cX11_falls 68 = .ok (.getfield 37, 3) := by decide +kernel
theorem dX11_falls_71 : decode cX11_falls 71 = .ok (.iconst 1, 1) := by decide +kernel
theorem dX11_falls_72 : decode cX11_falls 72 = .ok (.iload 5, 2) := by decide +kernel
theorem dX11_falls_74 : decode cX11_falls 74 = .ok (.iadd, 1) := by decide +kernel
theorem dX11_falls_75 : decode cX11_falls 75 = .ok (.iaload, 1) := by decide +kernel
theorem dX11_falls_76 : decode cX11_falls 76 = .ok (.bipush 99, 2) := by decide +kernel
theorem dX11_falls_78 : decode cX11_falls 78 = .ok (.if_icmp .ge 39, 3) := by decide +kernel
theorem dX11_falls_81 : decode cX11_falls 81 = .ok (.aload_n 0, 1) := by decide +kernel
theorem dX11_falls_82 : decode cX11_falls 82 = .ok (.getfield 37, 3) := by decide +kernel
theorem dX11_falls_85 : decode cX11_falls 85 = .ok (.iconst 1, 1) := by decide +kernel
theorem dX11_falls_86 : decode cX11_falls 86 = .ok (.iload_n 3, 1) := by decide +kernel
theorem dX11_falls_87 : decode cX11_falls 87 = .ok (.iadd, 1) := by decide +kernel
theorem dX11_falls_88 : decode cX11_falls 88 = .ok (.iaload, 1) := by decide +kernel
theorem dX11_falls_89 : decode cX11_falls 89 = .ok (.ifCond .le 28, 3) := by decide +kernel
theorem dX11_falls_92 : decode cX11_falls 92 = .ok (.aload_n 0, 1) := by decide +kernel
theorem dX11_falls_93 : decode cX11_falls 93 = .ok (.getfield 37, 3) := by decide +kernel
theorem dX11_falls_96 : decode cX11_falls 96 = .ok (.iconst 1, 1) := by decide +kernel
theorem dX11_falls_97 : decode cX11_falls 97 = .ok (.iload_n 3, 1) := by decide +kernel
theorem dX11_falls_98 : decode cX11_falls 98 = .ok (.iadd, 1) := by decide +kernel
theorem dX11_falls_99 : decode cX11_falls 99 = .ok (.dup2, 1) := by decide +kernel
theorem dX11_falls_100 : decode cX11_falls 100 = .ok (.iaload, 1) := by decide +kernel
theorem dX11_falls_101 : decode cX11_falls 101 = .ok (.iconst 1, 1) := by decide +kernel
theorem dX11_falls_102 : decode cX11_falls 102 = .ok (.isub, 1) := by decide +kernel
theorem dX11_falls_103 : decode cX11_falls 103 = .ok (.iastore, 1) := by decide +kernel
theorem dX11_falls_104 : decode cX11_falls 104 = .ok (.aload_n 0, 1) := by decide +kernel
theorem dX11_falls_105 : decode cX11_falls 105 = .ok (.getfield 37, 3) := by decide +kernel
theorem dX11_falls_108 : decode cX11_falls 108 = .ok (.iconst 1, 1) := by decide +kernel
theorem dX11_falls_109 : decode cX11_falls 109 = .ok (.iload 5, 2) := by decide +kernel
theorem dX11_falls_111 : decode cX11_falls 111 = .ok (.iadd, 1) := by decide +kernel
theorem dX11_falls_112 : decode cX11_falls 112 = .ok (.dup2, 1) := by decide +kernel
theorem dX11_falls_113 : decode cX11_falls 113 = .ok (.iaload, 1) := by decide +kernel
theorem dX11_falls_114 : decode cX11_falls 114 = .ok (.iconst 1, 1) := by decide +kernel
theorem dX11_falls_115 : decode cX11_falls 115 = .ok (.iadd, 1) := by decide +kernel
theorem dX11_falls_116 : decode cX11_falls 116 = .ok (.iastore, 1) := by decide +kernel
theorem dX11_falls_117 : decode cX11_falls 117 = .ok (.goto 55, 3) := by decide +kernel
theorem dX11_falls_120 : decode cX11_falls 120 = .ok (.lload_n 1, 1) := by decide +kernel
theorem dX11_falls_121 : decode cX11_falls 121 = .ok (.ldc2_w 306, 3) := by decide +kernel
theorem dX11_falls_124 : decode cX11_falls 124 = .ok (.ldiv, 1) := by decide +kernel
theorem dX11_falls_125 : decode cX11_falls 125 = .ok (.aload_n 0, 1) := by decide +kernel
theorem dX11_falls_126 : decode cX11_falls 126 = .ok (.getfield 163, 3) := by decide +kernel
theorem dX11_falls_129 : decode cX11_falls 129 = .ok (.i2l, 1) := by decide +kernel
theorem dX11_falls_130 : decode cX11_falls 130 = .ok (.lrem, 1) := by decide +kernel
theorem dX11_falls_131 : decode cX11_falls 131 = .ok (.l2i, 1) := by decide +kernel
theorem dX11_falls_132 : decode cX11_falls 132 = .ok (.istore 5, 2) := by decide +kernel
theorem dX11_falls_134 : decode cX11_falls 134 = .ok (.aload_n 0, 1) := by decide +kernel
theorem dX11_falls_135 : decode cX11_falls 135 = .ok (.getfield 37, 3) := by decide +kernel
theorem dX11_falls_138 : decode cX11_falls 138 = .ok (.iload_n 3, 1) := by decide +kernel
theorem dX11_falls_139 : decode cX11_falls 139 = .ok (.iload 5, 2) := by decide +kernel
theorem dX11_falls_141 : decode cX11_falls 141 = .ok (.invokestatic 184, 3) := by decide +kernel
theorem dX11_falls_144 : decode cX11_falls 144 = .ok (.ifCond .ne 28, 3) := by decide +kernel
theorem dX11_falls_147 : decode cX11_falls 147 = .ok (.aload_n 0, 1) := by decide +kernel
theorem dX11_falls_148 : decode cX11_falls 148 = .ok (.getfield 37, 3) := by decide +kernel
theorem dX11_falls_151 : decode cX11_falls 151 = .ok (.iconst 1, 1) := by decide +kernel
theorem dX11_falls_152 : decode cX11_falls 152 = .ok (.iload_n 3, 1) := by decide +kernel
theorem dX11_falls_153 : decode cX11_falls 153 = .ok (.iadd, 1) := by decide +kernel
theorem dX11_falls_154 : decode cX11_falls 154 = .ok (.iaload, 1) := by decide +kernel
theorem dX11_falls_155 : decode cX11_falls 155 = .ok (.aload_n 0, 1) := by decide +kernel
theorem dX11_falls_156 : decode cX11_falls 156 = .ok (.iload_n 3, 1) := by decide +kernel
theorem dX11_falls_157 : decode cX11_falls 157 = .ok (.iload 5, 2) := by decide +kernel
theorem dX11_falls_159 : decode cX11_falls 159 = .ok (.invokevirtual 207, 3) := by decide +kernel
theorem dX11_falls_162 : decode cX11_falls 162 = .ok (.if_icmp .lt 10, 3) := by decide +kernel
theorem dX11_falls_165 : decode cX11_falls 165 = .ok (.aload_n 0, 1) := by decide +kernel
theorem dX11_falls_166 : decode cX11_falls 166 = .ok (.iload_n 3, 1) := by decide +kernel
theorem dX11_falls_167 : decode cX11_falls 167 = .ok (.iload 5, 2) := by decide +kernel
theorem dX11_falls_169 : decode cX11_falls 169 = .ok (.invokevirtual 233, 3) := by decide +kernel
theorem dX11_falls_172 : decode cX11_falls 172 = .ok (.return_, 1) := by decide +kernel
def fX11_falls (σ : St) (p1 : Int64) : Option (St × Unit) := gd (decide (¬ ((σ.1 0 4).toInt64) = 0)) ((if 2 ≤ ((p1 - p1 / 8 * 8).toInt32) then (if ((p1 - p1 / 8 * 8).toInt32) = 2 then gd (decide (¬ (σ.1 0 4) = 0)) (rd LM σ 10 (1 + (((((p1 / 8) - (p1 / 8) / ((σ.1 0 4).toInt64) * ((σ.1 0 4).toInt64)).toInt32) + 1) - ((((p1 / 8) - (p1 / 8) / ((σ.1 0 4).toInt64) * ((σ.1 0 4).toInt64)).toInt32) + 1) / (σ.1 0 4) * (σ.1 0 4))) (fun x8 => jn (fun (σ10 : St) => some (σ10, ())) (fun k9 => (if 99 ≤ x8 then k9 σ else rd LM σ 10 (1 + (((p1 / 8) - (p1 / 8) / ((σ.1 0 4).toInt64) * ((σ.1 0 4).toInt64)).toInt32)) (fun x11 => (if x11 ≤ 0 then k9 σ else rd LM σ 10 (1 + (((p1 / 8) - (p1 / 8) / ((σ.1 0 4).toInt64) * ((σ.1 0 4).toInt64)).toInt32)) (fun x12 => wr LM σ 10 (1 + (((p1 / 8) - (p1 / 8) / ((σ.1 0 4).toInt64) * ((σ.1 0 4).toInt64)).toInt32)) (x12 - 1) (fun σ13 => rd LM σ13 10 (1 + (((((p1 / 8) - (p1 / 8) / ((σ.1 0 4).toInt64) * ((σ.1 0 4).toInt64)).toInt32) + 1) - ((((p1 / 8) - (p1 / 8) / ((σ.1 0 4).toInt64) * ((σ.1 0 4).toInt64)).toInt32) + 1) / (σ.1 0 4) * (σ.1 0 4))) (fun x14 => wr LM σ13 10 (1 + (((((p1 / 8) - (p1 / 8) / ((σ.1 0 4).toInt64) * ((σ.1 0 4).toInt64)).toInt32) + 1) - ((((p1 / 8) - (p1 / 8) / ((σ.1 0 4).toInt64) * ((σ.1 0 4).toInt64)).toInt32) + 1) / (σ.1 0 4) * (σ.1 0 4))) (x14 + 1) (fun σ15 => k9 σ15)))))))))) else gd (decide (¬ ((σ.1 0 7).toInt64) = 0)) (cl (fX11_owns σ 10 (((p1 / 8) - (p1 / 8) / ((σ.1 0 4).toInt64) * ((σ.1 0 4).toInt64)).toInt32) (((p1 / 64) - (p1 / 64) / ((σ.1 0 7).toInt64) * ((σ.1 0 7).toInt64)).toInt32)) (fun σ1 r2 => (if r2 = 0 then rd LM σ1 10 (1 + (((p1 / 8) - (p1 / 8) / ((σ.1 0 4).toInt64) * ((σ.1 0 4).toInt64)).toInt32)) (fun x3 => cl (fX11_pays σ1 (((p1 / 8) - (p1 / 8) / ((σ.1 0 4).toInt64) * ((σ.1 0 4).toInt64)).toInt32) (((p1 / 64) - (p1 / 64) / ((σ.1 0 7).toInt64) * ((σ.1 0 7).toInt64)).toInt32)) (fun σ4 r5 => (if x3 < r5 then some (σ4, ()) else cl (fX11_buys σ4 (((p1 / 8) - (p1 / 8) / ((σ.1 0 4).toInt64) * ((σ.1 0 4).toInt64)).toInt32) (((p1 / 64) - (p1 / 64) / ((σ.1 0 7).toInt64) * ((σ.1 0 7).toInt64)).toInt32)) (fun σ6 r7 => some (σ6, ()))))) else some (σ1, ()))))) else rd LM σ 10 0 (fun x16 => (if 99 ≤ x16 then some (σ, ()) else cl (fX11_passes σ 10 0) (fun σ17 r18 => some (σ17, ()))))))
set_option maxHeartbeats 4000000 in
set_option maxRecDepth 100000 in
theorem ctX11_falls (l : Launch) (g : GG) (σ : St) (p1 : Int64) (σ' : St) (r : Unit) (hE : fX11_falls σ p1 = some (σ', r)) : MV 25 entM l g yX11_falls (Cond.code yX11_falls cX11_falls 6 none :: gtbl) (rmD 5) [.ref (g.2.1 0), .long p1] σ σ' := by
  refine mi_v (own := RX11) (lv := [(0, .ref (g.2.1 0)), (1, .long p1)]) (by decide) rfl (Nat.le_of_ble_eq_true rfl) rfl (fun p e s m below meth c ls args Q A H0 H locs C hK hA hQ hs hl => ?_)
  have hx := C.1
  have hb := C.2.1
  unfold fX11_falls at hE
  refine lv_lload_n hx hb dX11_falls_0 rfl (lv_at hl 1 rfl) ?_
  refine lv_ldc2 (v := 8) hx hb C.2.2.2.1 (C.2.2.2.2 _ mw_1410) dX11_falls_1 ?_
  refine lv_ldiv hx hb dX11_falls_4 (by decide) ?_
  refine lv_aload_n hx hb dX11_falls_5 rfl (lv_at hl 0 rfl) ?_
  refine gf_X11_160_0 C hK hs dX11_falls_6 ?_
  refine lv_i2l (v := (σ.1 0 4).toInt64) hx hb dX11_falls_9 rfl ?_
  obtain ⟨hc, hE⟩ := gd_e hE
  refine lv_lrem hx hb dX11_falls_10 (of_decide_eq_true hc) ?_
  refine lv_l2i (v := ((p1 / 8) - (p1 / 8) / ((σ.1 0 4).toInt64) * ((σ.1 0 4).toInt64)).toInt32) hx hb dX11_falls_11 rfl ?_
  refine lv_istore_n (lv' := [(3, .int (((p1 / 8) - (p1 / 8) / ((σ.1 0 4).toInt64) * ((σ.1 0 4).toInt64)).toInt32)), (0, .ref (g.2.1 0)), (1, .long p1)]) hx hb dX11_falls_12 rfl hl (by decide) rfl (fun ls hl => ?_)
  refine lv_lload_n hx hb dX11_falls_13 rfl (lv_at hl 2 rfl) ?_
  refine lv_ldc2 (v := 8) hx hb C.2.2.2.1 (C.2.2.2.2 _ mw_1410) dX11_falls_14 ?_
  refine lv_lrem hx hb dX11_falls_17 (by decide) ?_
  refine lv_l2i (v := (p1 - p1 / 8 * 8).toInt32) hx hb dX11_falls_18 rfl ?_
  refine lv_istore (lv' := [(4, .int ((p1 - p1 / 8 * 8).toInt32)), (3, .int (((p1 / 8) - (p1 / 8) / ((σ.1 0 4).toInt64) * ((σ.1 0 4).toInt64)).toInt32)), (0, .ref (g.2.1 0)), (1, .long p1)]) hx hb dX11_falls_19 hl (by decide) rfl (fun ls hl => ?_)
  refine lv_iload hx hb dX11_falls_21 (lv_at hl 0 rfl) ?_
  refine lv_iconst (v := 2) hx hb dX11_falls_23 (by decide) ?_
  refine lv_icmp_ge (tgt := 51) hx hb dX11_falls_24 (by decide) (fun hc => ?_) (fun hc => ?_)
  · have hE := if_t hc hE
    refine lv_iload hx hb dX11_falls_51 (lv_at hl 0 rfl) ?_
    refine lv_iconst (v := 2) hx hb dX11_falls_53 (by decide) ?_
    refine lv_icmp_ne (tgt := 120) hx hb dX11_falls_54 (by decide) (fun hc => ?_) (fun hc => ?_)
    · have hE := if_f hc hE
      refine lv_lload_n hx hb dX11_falls_120 rfl (lv_at hl 3 rfl) ?_
      refine lv_ldc2 (v := 64) hx hb C.2.2.2.1 (C.2.2.2.2 _ mw_1411) dX11_falls_121 ?_
      refine lv_ldiv hx hb dX11_falls_124 (by decide) ?_
      refine lv_aload_n hx hb dX11_falls_125 rfl (lv_at hl 2 rfl) ?_
      refine gf_X11_163_0 C hK hs dX11_falls_126 ?_
      refine lv_i2l (v := (σ.1 0 7).toInt64) hx hb dX11_falls_129 rfl ?_
      obtain ⟨hc, hE⟩ := gd_e hE
      refine lv_lrem hx hb dX11_falls_130 (of_decide_eq_true hc) ?_
      refine lv_l2i (v := ((p1 / 64) - (p1 / 64) / ((σ.1 0 7).toInt64) * ((σ.1 0 7).toInt64)).toInt32) hx hb dX11_falls_131 rfl ?_
      refine lv_istore (lv' := [(5, .int (((p1 / 64) - (p1 / 64) / ((σ.1 0 7).toInt64) * ((σ.1 0 7).toInt64)).toInt32)), (4, .int ((p1 - p1 / 8 * 8).toInt32)), (3, .int (((p1 / 8) - (p1 / 8) / ((σ.1 0 4).toInt64) * ((σ.1 0 4).toInt64)).toInt32)), (0, .ref (g.2.1 0)), (1, .long p1)]) hx hb dX11_falls_132 hl (by decide) rfl (fun ls hl => ?_)
      refine lv_aload_n hx hb dX11_falls_134 rfl (lv_at hl 3 rfl) ?_
      refine gf_X11_37_0 C hK hs dX11_falls_135 ?_
      refine lv_iload_n hx hb dX11_falls_138 rfl (lv_at hl 2 rfl) ?_
      refine lv_iload hx hb dX11_falls_139 (lv_at hl 0 rfl) ?_
      obtain ⟨σ1, r2, hE1, hE⟩ := cl_e hE
      refine x_cis (As := [.ref (g.2.1 10), .int (((p1 / 8) - (p1 / 8) / ((σ.1 0 4).toInt64) * ((σ.1 0 4).toInt64)).toInt32), .int (((p1 / 64) - (p1 / 64) / ((σ.1 0 7).toInt64) * ((σ.1 0 7).toInt64)).toInt32)]) (rest := []) C hl.1 hK hs hA ⟨Nat.le_refl 0, Nat.le_refl 0⟩ (ctX11_owns l g _ _ _ _ _ _ hE1) (cw_X11_184 C ⟨Nat.le_of_ble_eq_true rfl, Nat.le_of_ble_eq_true rfl⟩) rfl rfl (Nat.le_of_ble_eq_true rfl) dX11_falls_141 (fun H locs hs => ?_)
      refine lv_if_ne (tgt := 172) hx hb dX11_falls_144 (by decide) (fun hc => ?_) (fun hc => ?_)
      · have hE := if_f hc hE
        exact hQ hs hE dX11_falls_172
      · have hE := if_t hc hE
        refine lv_aload_n hx hb dX11_falls_147 rfl (lv_at hl 3 rfl) ?_
        refine gf_X11_37_0 C hK hs dX11_falls_148 ?_
        refine lv_iconst (v := 1) hx hb dX11_falls_151 (by decide) ?_
        refine lv_iload_n hx hb dX11_falls_152 rfl (lv_at hl 2 rfl) ?_
        refine lv_iadd hx hb dX11_falls_153 ?_
        obtain ⟨hi, x3, ex3, hE⟩ := rd_w hE
        refine y_ald layM C hK hs hi ex3 dX11_falls_154 ?_
        refine lv_aload_n hx hb dX11_falls_155 rfl (lv_at hl 3 rfl) ?_
        refine lv_iload_n hx hb dX11_falls_156 rfl (lv_at hl 2 rfl) ?_
        refine lv_iload hx hb dX11_falls_157 (lv_at hl 0 rfl) ?_
        obtain ⟨σ4, r5, hE1, hE⟩ := cl_e hE
        refine x_civ (As := [.int (((p1 / 8) - (p1 / 8) / ((σ.1 0 4).toInt64) * ((σ.1 0 4).toInt64)).toInt32), .int (((p1 / 64) - (p1 / 64) / ((σ.1 0 7).toInt64) * ((σ.1 0 7).toInt64)).toInt32)]) (rest := [.int x3]) C hl.1 hK hs hA ⟨Nat.le_refl 0, Nat.le_refl 0⟩ (ctX11_pays l g _ _ _ _ _ hE1) (cw_X11_207 C ⟨Nat.le_of_ble_eq_true rfl, Nat.le_of_ble_eq_true rfl⟩) (hs.recv hK 0 (by decide) rfl rfl) rfl rfl (Nat.le_of_ble_eq_true rfl) dX11_falls_159 (fun H locs hs => ?_)
        refine lv_icmp_lt (tgt := 172) hx hb dX11_falls_162 (by decide) (fun hc => ?_) (fun hc => ?_)
        · have hE := if_t hc hE
          exact hQ hs hE dX11_falls_172
        · have hE := if_f hc hE
          refine lv_aload_n hx hb dX11_falls_165 rfl (lv_at hl 3 rfl) ?_
          refine lv_iload_n hx hb dX11_falls_166 rfl (lv_at hl 2 rfl) ?_
          refine lv_iload hx hb dX11_falls_167 (lv_at hl 0 rfl) ?_
          obtain ⟨σ6, r7, hE1, hE⟩ := cl_e hE
          refine x_cvv (As := [.int (((p1 / 8) - (p1 / 8) / ((σ.1 0 4).toInt64) * ((σ.1 0 4).toInt64)).toInt32), .int (((p1 / 64) - (p1 / 64) / ((σ.1 0 7).toInt64) * ((σ.1 0 7).toInt64)).toInt32)]) (rest := []) C hl.1 hK hs hA ⟨Nat.le_refl 0, Nat.le_refl 0⟩ (ctX11_buys l g _ _ _ _ _ hE1) (cw_X11_233 C ⟨Nat.le_of_ble_eq_true rfl, Nat.le_of_ble_eq_true rfl⟩) (hs.recv hK 0 (by decide) rfl rfl) rfl rfl (Nat.le_of_ble_eq_true rfl) dX11_falls_169 (fun H locs hs => ?_)
          exact hQ hs hE dX11_falls_172
    · have hE := if_t hc hE
      refine lv_iload_n hx hb dX11_falls_57 rfl (lv_at hl 1 rfl) ?_
      refine lv_iconst (v := 1) hx hb dX11_falls_58 (by decide) ?_
      refine lv_iadd hx hb dX11_falls_59 ?_
      refine lv_aload_n hx hb dX11_falls_60 rfl (lv_at hl 2 rfl) ?_
      refine gf_X11_160_0 C hK hs dX11_falls_61 ?_
      obtain ⟨hc, hE⟩ := gd_e hE
      refine lv_irem hx hb dX11_falls_64 (of_decide_eq_true hc) ?_
      refine lv_istore (lv' := [(5, .int (((((p1 / 8) - (p1 / 8) / ((σ.1 0 4).toInt64) * ((σ.1 0 4).toInt64)).toInt32) + 1) - ((((p1 / 8) - (p1 / 8) / ((σ.1 0 4).toInt64) * ((σ.1 0 4).toInt64)).toInt32) + 1) / (σ.1 0 4) * (σ.1 0 4))), (4, .int ((p1 - p1 / 8 * 8).toInt32)), (3, .int (((p1 / 8) - (p1 / 8) / ((σ.1 0 4).toInt64) * ((σ.1 0 4).toInt64)).toInt32)), (0, .ref (g.2.1 0)), (1, .long p1)]) hx hb dX11_falls_65 hl (by decide) rfl (fun ls hl => ?_)
      refine lv_aload_n hx hb dX11_falls_67 rfl (lv_at hl 3 rfl) ?_
      refine gf_X11_37_0 C hK hs dX11_falls_68 ?_
      refine lv_iconst (v := 1) hx hb dX11_falls_71 (by decide) ?_
      refine lv_iload hx hb dX11_falls_72 (lv_at hl 0 rfl) ?_
      refine lv_iadd hx hb dX11_falls_74 ?_
      obtain ⟨hi, x8, ex8, hE⟩ := rd_w hE
      refine y_ald layM C hK hs hi ex8 dX11_falls_75 ?_
      refine lv_bipush (v := 99) hx hb dX11_falls_76 (by decide) ?_
      refine jn1 hE (fun k9 hE hk9 => ?_)
      have hJk9 : ∀ (σ10 : St) (H : Heap) (locs : List Loc) (ls : Array Slot), HW 25 entM g A H0 H locs σ10 → lv_has ls 6 [] → k9 σ10 = some (σ', r) → W p l e (rmD 5) s m args below meth c H locs 0 0 Q (F0 m 117 ls []) := by
        intro σ10 H locs ls hs hl hE
        have hE := hk9 _ hE
        refine lv_goto (tgt := 172) hx hb dX11_falls_117 (by decide) ?_
        exact hQ hs hE dX11_falls_172
      refine lv_icmp_ge (tgt := 117) hx hb dX11_falls_78 (by decide) (fun hc => ?_) (fun hc => ?_)
      · have hE := if_t hc hE
        exact hJk9 σ _ _ _ hs (lv_sub hl [] rfl) hE
      · have hE := if_f hc hE
        refine lv_aload_n hx hb dX11_falls_81 rfl (lv_at hl 3 rfl) ?_
        refine gf_X11_37_0 C hK hs dX11_falls_82 ?_
        refine lv_iconst (v := 1) hx hb dX11_falls_85 (by decide) ?_
        refine lv_iload_n hx hb dX11_falls_86 rfl (lv_at hl 2 rfl) ?_
        refine lv_iadd hx hb dX11_falls_87 ?_
        obtain ⟨hi, x11, ex11, hE⟩ := rd_w hE
        refine y_ald layM C hK hs hi ex11 dX11_falls_88 ?_
        refine lv_if_le (tgt := 117) hx hb dX11_falls_89 (by decide) (fun hc => ?_) (fun hc => ?_)
        · have hE := if_t hc hE
          exact hJk9 σ _ _ _ hs (lv_sub hl [] rfl) hE
        · have hE := if_f hc hE
          refine lv_aload_n hx hb dX11_falls_92 rfl (lv_at hl 3 rfl) ?_
          refine gf_X11_37_0 C hK hs dX11_falls_93 ?_
          refine lv_iconst (v := 1) hx hb dX11_falls_96 (by decide) ?_
          refine lv_iload_n hx hb dX11_falls_97 rfl (lv_at hl 2 rfl) ?_
          refine lv_iadd hx hb dX11_falls_98 ?_
          refine lv_dup2_11 hx hb dX11_falls_99 rfl rfl ?_
          obtain ⟨hi, x12, ex12, hE⟩ := rd_w hE
          refine y_ald layM C hK hs hi ex12 dX11_falls_100 ?_
          refine lv_iconst (v := 1) hx hb dX11_falls_101 (by decide) ?_
          refine lv_isub hx hb dX11_falls_102 ?_
          obtain ⟨hi, σ13, eσ13, hE⟩ := wr_w hE
          refine y_ast layM C hK hs hi eσ13 dX11_falls_103 (fun H locs hs => ?_)
          refine lv_aload_n hx hb dX11_falls_104 rfl (lv_at hl 3 rfl) ?_
          refine gf_X11_37_0 C hK hs dX11_falls_105 ?_
          refine lv_iconst (v := 1) hx hb dX11_falls_108 (by decide) ?_
          refine lv_iload hx hb dX11_falls_109 (lv_at hl 0 rfl) ?_
          refine lv_iadd hx hb dX11_falls_111 ?_
          refine lv_dup2_11 hx hb dX11_falls_112 rfl rfl ?_
          obtain ⟨hi, x14, ex14, hE⟩ := rd_w hE
          refine y_ald layM C hK hs hi ex14 dX11_falls_113 ?_
          refine lv_iconst (v := 1) hx hb dX11_falls_114 (by decide) ?_
          refine lv_iadd hx hb dX11_falls_115 ?_
          obtain ⟨hi, σ15, eσ15, hE⟩ := wr_w hE
          refine y_ast layM C hK hs hi eσ15 dX11_falls_116 (fun H locs hs => ?_)
          exact hJk9 σ15 _ _ _ hs (lv_sub hl [] rfl) hE
  · have hE := if_f hc hE
    refine lv_aload_n hx hb dX11_falls_27 rfl (lv_at hl 2 rfl) ?_
    refine gf_X11_37_0 C hK hs dX11_falls_28 ?_
    refine lv_iconst (v := 0) hx hb dX11_falls_31 (by decide) ?_
    obtain ⟨hi, x16, ex16, hE⟩ := rd_w hE
    refine y_ald layM C hK hs hi ex16 dX11_falls_32 ?_
    refine lv_bipush (v := 99) hx hb dX11_falls_33 (by decide) ?_
    refine lv_icmp_ge (tgt := 172) hx hb dX11_falls_35 (by decide) (fun hc => ?_) (fun hc => ?_)
    · have hE := if_t hc hE
      exact hQ hs hE dX11_falls_172
    · have hE := if_f hc hE
      refine lv_aload_n hx hb dX11_falls_38 rfl (lv_at hl 2 rfl) ?_
      refine lv_aload_n hx hb dX11_falls_39 rfl (lv_at hl 2 rfl) ?_
      refine gf_X11_37_0 C hK hs dX11_falls_40 ?_
      refine lv_iconst (v := 0) hx hb dX11_falls_43 (by decide) ?_
      obtain ⟨σ17, r18, hE1, hE⟩ := cl_e hE
      refine x_civ (As := [.ref (g.2.1 10), .int 0]) (rest := []) C hl.1 hK hs hA ⟨Nat.le_refl 0, Nat.le_refl 0⟩ (ctX11_passes l g _ _ _ _ _ hE1) (cw_X11_237 C ⟨Nat.le_of_ble_eq_true rfl, Nat.le_of_ble_eq_true rfl⟩) (hs.recv hK 0 (by decide) rfl rfl) rfl rfl (Nat.le_of_ble_eq_true rfl) dX11_falls_44 (fun H locs hs => ?_)
      refine lv_pop hx hb dX11_falls_47 rfl ?_
      refine lv_goto (tgt := 172) hx hb dX11_falls_48 (by decide) ?_
      exact hQ hs hE dX11_falls_172
theorem dX11_lots_0 : decode cX11_lots 0 = .ok (.iload_n 1, 1) := by decide +kernel
theorem dX11_lots_1 : decode cX11_lots 1 = .ok (.i2l, 1) := by decide +kernel
theorem dX11_lots_2 : decode cX11_lots 2 = .ok (.lconst 1, 1) := by decide +kernel
theorem dX11_lots_3 : decode cX11_lots 3 = .ok (.ldc2_w 299, 3) := by decide +kernel
theorem dX11_lots_6 : decode cX11_lots 6 = .ok (.invokestatic 96, 3) := by decide +kernel
theorem dX11_lots_9 : decode cX11_lots 9 = .ok (.ifCond .eq 15, 3) := by decide +kernel
theorem dX11_lots_12 : decode cX11_lots 12 = .ok (.iload_n 2, 1) := by decide +kernel
theorem dX11_lots_13 : decode cX11_lots 13 = .ok (.i2l, 1) := by decide +kernel
theorem dX11_lots_14 : decode cX11_lots 14 = .ok (.lconst 1, 1) := by decide +kernel
theorem dX11_lots_15 : decode cX11_lots 15 = .ok (.ldc2_w 308, 3) := by decide +kernel
theorem dX11_lots_18 : decode cX11_lots 18 = .ok (.invokestatic 96, 3) := by decide +kernel
theorem dX11_lots_21 : decode cX11_lots 21 = .ok (.ifCond .ne 5, 3) := by decide +kernel
theorem dX11_lots_24 : decode cX11_lots 24 = .ok (.iconst (-1), 1) := by decide +kernel
theorem dX11_lots_25 : decode cX11_lots 25 = .ok (.ireturn, 1) := by decide +kernel
theorem dX11_lots_26 : decode cX11_lots 26 = .ok (.aload_n 0, 1) := by decide +kernel
theorem dX11_lots_27 : decode cX11_lots 27 = .ok (.getfield 160, 3) := by decide +kernel
theorem dX11_lots_30 : decode cX11_lots 30 = .ok (.ifCond .ne 6, 3) := by decide +kernel
theorem dX11_lots_33 : decode cX11_lots 33 = .ok (.bipush (-4), 2) := by decide +kernel
theorem dX11_lots_35 : decode cX11_lots 35 = .ok (.ireturn, 1) := by decide +kernel
theorem dX11_lots_36 : decode cX11_lots 36 = .ok (.aload_n 0, 1) := by decide +kernel
theorem dX11_lots_37 : decode cX11_lots 37 = .ok (.getfield 174, 3) := by decide +kernel
theorem dX11_lots_40 : decode cX11_lots 40 = .ok (.iload_n 1, 1) := by decide +kernel
theorem dX11_lots_41 : decode cX11_lots 41 = .ok (.iadd, 1) := by decide +kernel
theorem dX11_lots_42 : decode cX11_lots 42 = .ok (.bipush 40, 2) := by decide +kernel
theorem dX11_lots_44 : decode cX11_lots 44 = .ok (.if_icmp .le 6, 3) := by decide +kernel
theorem dX11_lots_47 : decode cX11_lots 47 = .ok (.bipush (-2), 2) := by decide +kernel
theorem dX11_lots_49 : decode cX11_lots 49 = .ok (.ireturn, 1) := by decide +kernel
theorem dX11_lots_50 : decode cX11_lots 50 = .ok (.iload_n 2, 1) := by decide +kernel
theorem dX11_lots_51 : decode cX11_lots 51 = .ok (.i2l, 1) := by decide +kernel
theorem dX11_lots_52 : decode cX11_lots 52 = .ok (.lstore_n 3, 1) := by decide +kernel
theorem dX11_lots_53 : decode cX11_lots 53 = .ok (.iconst 0, 1) := by decide +kernel
theorem dX11_lots_54 : decode cX11_lots 54 = .ok (.istore 5, 2) := by decide +kernel
theorem dX11_lots_56 : decode cX11_lots 56 = .ok (.iload 5, 2) := by decide +kernel
theorem dX11_lots_58 : decode cX11_lots 58 = .ok (.iload_n 1, 1) := by decide +kernel
theorem dX11_lots_59 : decode cX11_lots 59 = .ok (.if_icmp .ge 28, 3) := by decide +kernel
theorem dX11_lots_62 : decode cX11_lots 62 = .ok (.lload_n 3, 1) := by decide +kernel
theorem dX11_lots_63 : decode cX11_lots 63 = .ok (.ldc2_w 310, 3) := by decide +kernel
theorem dX11_lots_66 : decode cX11_lots 66 = .ok (.lmul, 1) := by decide +kernel
theorem dX11_lots_67 : decode cX11_lots 67 = .ok (.ldc2_w 312, 3) := by decide +kernel
theorem dX11_lots_70 : decode cX11_lots 70 = .ok (.lrem, 1) := by decide +kernel
theorem dX11_lots_71 : decode cX11_lots 71 = .ok (.lstore_n 3, 1) := by decide +kernel
theorem dX11_lots_72 : decode cX11_lots 72 = .ok (.aload_n 0, 1) := by decide +kernel
theorem dX11_lots_73 : decode cX11_lots 73 = .ok (.invokevirtual 230, 3) := by decide +kernel
theorem dX11_lots_76 : decode cX11_lots 76 = .ok (.aload_n 0, 1) := by decide +kernel
theorem dX11_lots_77 : decode cX11_lots 77 = .ok (.lload_n 3, 1) := by decide +kernel
theorem dX11_lots_78 : decode cX11_lots 78 = .ok (.invokevirtual 314, 3) := by decide +kernel
theorem dX11_lots_81 : decode cX11_lots 81 = .ok (.iinc 5 1, 3) := by decide +kernel
theorem dX11_lots_84 : decode cX11_lots 84 = .ok (.goto (-28), 3) := by decide +kernel
theorem dX11_lots_87 : decode cX11_lots 87 = .ok (.aload_n 0, 1) := by decide +kernel
theorem dX11_lots_88 : decode cX11_lots 88 = .ok (.invokevirtual 318, 3) := by decide +kernel
theorem dX11_lots_91 : decode cX11_lots 91 = .ok (.ireturn, 1) := by decide +kernel
def fX11_lots_L56 (p1 : Int32) : Nat → St → Int64 → Int32 → (St → Int64 → Int32 → Option (St × Int32)) → Option (St × Int32)
  | 0, _, _, _, _ => none
  | n + 1, σ5, v6, v7, k => (if p1 ≤ v7 then k σ5 v6 v7 else cl (fX11_notes σ5) (fun σ8 r9 => cl (fX11_falls σ8 ((v6 * 48271) - (v6 * 48271) / 2147483647 * 2147483647)) (fun σ10 r11 => fX11_lots_L56 p1 n σ10 ((v6 * 48271) - (v6 * 48271) / 2147483647 * 2147483647) (v7 + 1) k)))
def fX11_lots (σ : St) (p1 : Int32) (p2 : Int32) : Option (St × Int32) := cl (fX11_in σ (p1.toInt64) 1 20) (fun σ1 r2 => (if r2 = 0 then some (σ1, (-1)) else cl (fX11_in σ1 (p2.toInt64) 1 2147483646) (fun σ3 r4 => (if r4 = 0 then some (σ3, (-1)) else (if (σ3.1 0 4) = 0 then some (σ3, (-4)) else (if ((σ3.1 0 14) + p1) ≤ 40 then fX11_lots_L56 p1 10000 σ3 (p2.toInt64) 0 (fun σ12 v13 v14 => cl (fX11_things σ12) (fun σ15 r16 => some (σ15, r16))) else some (σ3, (-2))))))))
set_option maxHeartbeats 4000000 in
set_option maxRecDepth 100000 in
theorem ctX11_lots (l : Launch) (g : GG) (σ : St) (p1 : Int32) (p2 : Int32) (σ' : St) (r : Int32) (hE : fX11_lots σ p1 p2 = some (σ', r)) : MI 25 entM l g yX11_lots (Cond.code yX11_lots cX11_lots 6 (some .int) :: gtbl) (rmD 6) [.ref (g.2.1 0), .int p1, .int p2] σ σ' r := by
  refine mi_i (own := RX11) (lv := [(0, .ref (g.2.1 0)), (1, .int p1), (2, .int p2)]) (by decide) rfl (Nat.le_of_ble_eq_true rfl) rfl (fun p e s m below meth c ls args Q A H0 H locs C hK hA hQ hs hl => ?_)
  have hx := C.1
  have hb := C.2.1
  unfold fX11_lots at hE
  refine lv_iload_n hx hb dX11_lots_0 rfl (lv_at hl 1 rfl) ?_
  refine lv_i2l (v := p1.toInt64) hx hb dX11_lots_1 rfl ?_
  refine lv_lconst (v := 1) hx hb dX11_lots_2 (by decide) ?_
  refine lv_ldc2 (v := 20) hx hb C.2.2.2.1 (C.2.2.2.2 _ mw_1385) dX11_lots_3 ?_
  obtain ⟨σ1, r2, hE1, hE⟩ := cl_e hE
  refine x_cis (As := [.long (p1.toInt64), .long 1, .long 20]) (rest := []) C hl.1 hK hs hA ⟨Nat.le_refl 0, Nat.le_refl 0⟩ (ctX11_in l g _ _ _ _ _ _ hE1) (cw_X11_96 C ⟨Nat.le_of_ble_eq_true rfl, Nat.le_of_ble_eq_true rfl⟩) rfl rfl (Nat.le_of_ble_eq_true rfl) dX11_lots_6 (fun H locs hs => ?_)
  refine lv_if_eq (tgt := 24) hx hb dX11_lots_9 (by decide) (fun hc => ?_) (fun hc => ?_)
  · have hE := if_t hc hE
    refine lv_iconst (v := (-1)) hx hb dX11_lots_24 (by decide) ?_
    exact hQ hs hE dX11_lots_25
  · have hE := if_f hc hE
    refine lv_iload_n hx hb dX11_lots_12 rfl (lv_at hl 2 rfl) ?_
    refine lv_i2l (v := p2.toInt64) hx hb dX11_lots_13 rfl ?_
    refine lv_lconst (v := 1) hx hb dX11_lots_14 (by decide) ?_
    refine lv_ldc2 (v := 2147483646) hx hb C.2.2.2.1 (C.2.2.2.2 _ mw_1403) dX11_lots_15 ?_
    obtain ⟨σ3, r4, hE1, hE⟩ := cl_e hE
    refine x_cis (As := [.long (p2.toInt64), .long 1, .long 2147483646]) (rest := []) C hl.1 hK hs hA ⟨Nat.le_refl 0, Nat.le_refl 0⟩ (ctX11_in l g _ _ _ _ _ _ hE1) (cw_X11_96 C ⟨Nat.le_of_ble_eq_true rfl, Nat.le_of_ble_eq_true rfl⟩) rfl rfl (Nat.le_of_ble_eq_true rfl) dX11_lots_18 (fun H locs hs => ?_)
    refine lv_if_ne (tgt := 26) hx hb dX11_lots_21 (by decide) (fun hc => ?_) (fun hc => ?_)
    · have hE := if_f hc hE
      refine lv_aload_n hx hb dX11_lots_26 rfl (lv_at hl 0 rfl) ?_
      refine gf_X11_160_0 C hK hs dX11_lots_27 ?_
      refine lv_if_ne (tgt := 36) hx hb dX11_lots_30 (by decide) (fun hc => ?_) (fun hc => ?_)
      · have hE := if_f hc hE
        refine lv_aload_n hx hb dX11_lots_36 rfl (lv_at hl 0 rfl) ?_
        refine gf_X11_174_0 C hK hs dX11_lots_37 ?_
        refine lv_iload_n hx hb dX11_lots_40 rfl (lv_at hl 1 rfl) ?_
        refine lv_iadd hx hb dX11_lots_41 ?_
        refine lv_bipush (v := 40) hx hb dX11_lots_42 (by decide) ?_
        refine lv_icmp_le (tgt := 50) hx hb dX11_lots_44 (by decide) (fun hc => ?_) (fun hc => ?_)
        · have hE := if_t hc hE
          refine lv_iload_n hx hb dX11_lots_50 rfl (lv_at hl 2 rfl) ?_
          refine lv_i2l (v := p2.toInt64) hx hb dX11_lots_51 rfl ?_
          refine lv_lstore_n (lv' := [(3, .long (p2.toInt64)), (0, .ref (g.2.1 0)), (1, .int p1), (2, .int p2)]) hx hb dX11_lots_52 rfl hl (by decide) rfl (fun ls hl => ?_)
          refine lv_iconst (v := 0) hx hb dX11_lots_53 (by decide) ?_
          refine lv_istore (lv' := [(5, .int 0), (3, .long (p2.toInt64)), (0, .ref (g.2.1 0)), (1, .int p1), (2, .int p2)]) hx hb dX11_lots_54 hl (by decide) rfl (fun ls hl => ?_)
          have hL56 : ∀ (n : Nat) (σ5 : St) (v6 : Int64) (v7 : Int32) (k : St → Int64 → Int32 → Option (St × Int32)), fX11_lots_L56 p1 n σ5 v6 v7 k = some (σ', r) → (∀ (σ5 : St) (v6 : Int64) (v7 : Int32) (H : Heap) (locs : List Loc) (ls : Array Slot), HW 25 entM g A H0 H locs σ5 → lv_has ls 6 [(0, .ref (g.2.1 0)), (1, .int p1), (3, .long v6), (5, .int v7)] → k σ5 v6 v7 = some (σ', r) → W p l e (rmD 6) s m args below meth c H locs 0 0 Q (F0 m 87 ls [])) → ∀ (H : Heap) (locs : List Loc) (ls : Array Slot), HW 25 entM g A H0 H locs σ5 → lv_has ls 6 [(0, .ref (g.2.1 0)), (1, .int p1), (3, .long v6), (5, .int v7)] → W p l e (rmD 6) s m args below meth c H locs 0 0 Q (F0 m 56 ls []) := by
            intro n
            induction n with
            | zero =>
              intro σ5 v6 v7 k hE
              rw [fX11_lots_L56] at hE
              exact no_e hE
            | succ n ih =>
              intro σ5 v6 v7 k hE hk H locs ls hs hl
              rw [fX11_lots_L56] at hE
              refine lv_iload hx hb dX11_lots_56 (lv_at hl 3 rfl) ?_
              refine lv_iload_n hx hb dX11_lots_58 rfl (lv_at hl 1 rfl) ?_
              refine lv_icmp_ge (tgt := 87) hx hb dX11_lots_59 (by decide) (fun hc => ?_) (fun hc => ?_)
              · have hE := if_t hc hE
                exact hk σ5 v6 v7 _ _ _ hs (lv_sub hl [0, 1, 2, 3] rfl) hE
              · have hE := if_f hc hE
                refine lv_lload_n hx hb dX11_lots_62 rfl (lv_at hl 2 rfl) ?_
                refine lv_ldc2 (v := 48271) hx hb C.2.2.2.1 (C.2.2.2.2 _ mw_1404) dX11_lots_63 ?_
                refine lv_lmul hx hb dX11_lots_66 ?_
                refine lv_ldc2 (v := 2147483647) hx hb C.2.2.2.1 (C.2.2.2.2 _ mw_1405) dX11_lots_67 ?_
                refine lv_lrem hx hb dX11_lots_70 (by decide) ?_
                refine lv_lstore_n (lv' := [(3, .long ((v6 * 48271) - (v6 * 48271) / 2147483647 * 2147483647)), (0, .ref (g.2.1 0)), (1, .int p1), (5, .int v7)]) hx hb dX11_lots_71 rfl hl (by decide) rfl (fun ls hl => ?_)
                refine lv_aload_n hx hb dX11_lots_72 rfl (lv_at hl 1 rfl) ?_
                obtain ⟨σ8, r9, hE1, hE⟩ := cl_e hE
                refine x_cvv (As := []) (rest := []) C hl.1 hK hs hA ⟨Nat.le_refl 0, Nat.le_refl 0⟩ (ctX11_notes l g _  _ _ hE1) (cw_X11_230 C ⟨Nat.le_of_ble_eq_true rfl, Nat.le_of_ble_eq_true rfl⟩) (hs.recv hK 0 (by decide) rfl rfl) rfl rfl (Nat.le_of_ble_eq_true rfl) dX11_lots_73 (fun H locs hs => ?_)
                refine lv_aload_n hx hb dX11_lots_76 rfl (lv_at hl 1 rfl) ?_
                refine lv_lload_n hx hb dX11_lots_77 rfl (lv_at hl 0 rfl) ?_
                obtain ⟨σ10, r11, hE1, hE⟩ := cl_e hE
                refine x_cvv (As := [.long ((v6 * 48271) - (v6 * 48271) / 2147483647 * 2147483647)]) (rest := []) C hl.1 hK hs hA ⟨Nat.le_refl 0, Nat.le_refl 0⟩ (ctX11_falls l g _ _ _ _ hE1) (cw_X11_314 C ⟨Nat.le_of_ble_eq_true rfl, Nat.le_of_ble_eq_true rfl⟩) (hs.recv hK 0 (by decide) rfl rfl) rfl rfl (Nat.le_of_ble_eq_true rfl) dX11_lots_78 (fun H locs hs => ?_)
                refine lv_iinc (v := v7 + 1) (lv' := [(5, .int (v7 + 1)), (3, .long ((v6 * 48271) - (v6 * 48271) / 2147483647 * 2147483647)), (0, .ref (g.2.1 0)), (1, .int p1)]) hx hb dX11_lots_81 hl (k := 3) rfl rfl (by decide) rfl (fun ls hl => ?_)
                refine lv_goto (tgt := 56) hx hb dX11_lots_84 (by decide) ?_
                exact ih _ _ _ _ hE hk _ _ _ hs (lv_sub hl [2, 3, 1, 0] rfl)
          refine hL56 _ _ _ _ _ hE (fun σ12 v13 v14 H locs ls hs hl hE => ?_) H locs ls hs (lv_sub hl [2, 3, 1, 0] rfl)
          refine lv_aload_n hx hb dX11_lots_87 rfl (lv_at hl 0 rfl) ?_
          obtain ⟨σ15, r16, hE1, hE⟩ := cl_e hE
          refine x_civ (As := []) (rest := []) C hl.1 hK hs hA ⟨Nat.le_refl 0, Nat.le_refl 0⟩ (ctX11_things l g _  _ _ hE1) (cw_X11_318 C ⟨Nat.le_of_ble_eq_true rfl, Nat.le_of_ble_eq_true rfl⟩) (hs.recv hK 0 (by decide) rfl rfl) rfl rfl (Nat.le_of_ble_eq_true rfl) dX11_lots_88 (fun H locs hs => ?_)
          exact hQ hs hE dX11_lots_91
        · have hE := if_f hc hE
          refine lv_bipush (v := (-2)) hx hb dX11_lots_47 (by decide) ?_
          exact hQ hs hE dX11_lots_49
      · have hE := if_t hc hE
        refine lv_bipush (v := (-4)) hx hb dX11_lots_33 (by decide) ?_
        exact hQ hs hE dX11_lots_35
    · have hE := if_t hc hE
      refine lv_iconst (v := (-1)) hx hb dX11_lots_24 (by decide) ?_
      exact hQ hs hE dX11_lots_25
theorem dX11_asked_0 : decode cX11_asked 0 = .ok (.aload_n 0, 1) := by decide +kernel
theorem dX11_asked_1 : decode cX11_asked 1 = .ok (.getfield 91, 3) := by decide +kernel
theorem dX11_asked_4 : decode cX11_asked 4 = .ok (.ireturn, 1) := by decide +kernel
def fX11_asked (σ : St) : Option (St × Int32) := some (σ, σ.1 0 17)
set_option maxHeartbeats 4000000 in
set_option maxRecDepth 100000 in
theorem ctX11_asked (l : Launch) (g : GG) (σ : St) (σ' : St) (r : Int32) (hE : fX11_asked σ  = some (σ', r)) : MI 25 entM l g yX11_asked (Cond.code yX11_asked cX11_asked 1 (some .int) :: gtbl) (rmD 1) [.ref (g.2.1 0)] σ σ' r := by
  refine mi_i (own := RX11) (lv := [(0, .ref (g.2.1 0))]) (by decide) rfl (Nat.le_of_ble_eq_true rfl) rfl (fun p e s m below meth c ls args Q A H0 H locs C hK hA hQ hs hl => ?_)
  have hx := C.1
  have hb := C.2.1
  unfold fX11_asked at hE
  refine lv_aload_n hx hb dX11_asked_0 rfl (lv_at hl 0 rfl) ?_
  refine gf_X11_91_0 C hK hs dX11_asked_1 ?_
  exact hQ hs hE dX11_asked_4
theorem dX11_upper_0 : decode cX11_upper 0 = .ok (.aload_n 0, 1) := by decide +kernel
theorem dX11_upper_1 : decode cX11_upper 1 = .ok (.getfield 288, 3) := by decide +kernel
theorem dX11_upper_4 : decode cX11_upper 4 = .ok (.lreturn, 1) := by decide +kernel
def fX11_upper (σ : St) : Option (St × Int64) := some (σ, σ.2 0 18)
set_option maxHeartbeats 4000000 in
set_option maxRecDepth 100000 in
theorem ctX11_upper (l : Launch) (g : GG) (σ : St) (σ' : St) (r : Int64) (hE : fX11_upper σ  = some (σ', r)) : ML 25 entM l g yX11_upper (Cond.code yX11_upper cX11_upper 1 (some .long) :: gtbl) (rmD 1) [.ref (g.2.1 0)] σ σ' r := by
  refine mi_l (own := RX11) (lv := [(0, .ref (g.2.1 0))]) (by decide) rfl (Nat.le_of_ble_eq_true rfl) rfl (fun p e s m below meth c ls args Q A H0 H locs C hK hA hQ hs hl => ?_)
  have hx := C.1
  have hb := C.2.1
  unfold fX11_upper at hE
  refine lv_aload_n hx hb dX11_upper_0 rfl (lv_at hl 0 rfl) ?_
  refine gf_X11_288_0 C hK hs dX11_upper_1 ?_
  exact hQ hs hE dX11_upper_4
theorem dX11_lower_0 : decode cX11_lower 0 = .ok (.aload_n 0, 1) := by decide +kernel
theorem dX11_lower_1 : decode cX11_lower 1 = .ok (.getfield 53, 3) := by decide +kernel
theorem dX11_lower_4 : decode cX11_lower 4 = .ok (.lreturn, 1) := by decide +kernel
def fX11_lower (σ : St) : Option (St × Int64) := some (σ, σ.2 0 19)
set_option maxHeartbeats 4000000 in
set_option maxRecDepth 100000 in
theorem ctX11_lower (l : Launch) (g : GG) (σ : St) (σ' : St) (r : Int64) (hE : fX11_lower σ  = some (σ', r)) : ML 25 entM l g yX11_lower (Cond.code yX11_lower cX11_lower 1 (some .long) :: gtbl) (rmD 1) [.ref (g.2.1 0)] σ σ' r := by
  refine mi_l (own := RX11) (lv := [(0, .ref (g.2.1 0))]) (by decide) rfl (Nat.le_of_ble_eq_true rfl) rfl (fun p e s m below meth c ls args Q A H0 H locs C hK hA hQ hs hl => ?_)
  have hx := C.1
  have hb := C.2.1
  unfold fX11_lower at hE
  refine lv_aload_n hx hb dX11_lower_0 rfl (lv_at hl 0 rfl) ?_
  refine gf_X11_53_0 C hK hs dX11_lower_1 ?_
  exact hQ hs hE dX11_lower_4
theorem dX11_of_0 : decode cX11_of 0 = .ok (.iconst 0, 1) := by decide +kernel
theorem dX11_of_1 : decode cX11_of 1 = .ok (.istore_n 3, 1) := by decide +kernel
theorem dX11_of_2 : decode cX11_of 2 = .ok (.iconst 0, 1) := by decide +kernel
theorem dX11_of_3 : decode cX11_of 3 = .ok (.istore 4, 2) := by decide +kernel
theorem dX11_of_5 : decode cX11_of 5 = .ok (.iload 4, 2) := by decide +kernel
theorem dX11_of_7 : decode cX11_of 7 = .ok (.aload_n 0, 1) := by decide +kernel
theorem dX11_of_8 : decode cX11_of 8 = .ok (.getfield 160, 3) := by decide +kernel
theorem dX11_of_11 : decode cX11_of 11 = .ok (.if_icmp .ge 39, 3) := by decide +kernel
theorem dX11_of_14 : decode cX11_of 14 = .ok (.iload_n 3, 1) := by decide +kernel
theorem dX11_of_15 : decode cX11_of 15 = .ok (.aload_n 0, 1) := by decide +kernel
theorem dX11_of_16 : decode cX11_of 16 = .ok (.getfield 22, 3) := by decide +kernel
theorem dX11_of_19 : decode cX11_of 19 = .ok (.iload 4, 2) := by decide +kernel
theorem dX11_of_21 : decode cX11_of 21 = .ok (.iaload, 1) := by decide +kernel
theorem dX11_of_22 : decode cX11_of 22 = .ok (.iload_n 1, 1) := by decide +kernel
theorem dX11_of_23 : decode cX11_of 23 = .ok (.if_icmp .eq 14, 3) := by decide +kernel
theorem dX11_of_26 : decode cX11_of 26 = .ok (.aload_n 0, 1) := by decide +kernel
theorem dX11_of_27 : decode cX11_of 27 = .ok (.getfield 22, 3) := by decide +kernel
theorem dX11_of_30 : decode cX11_of 30 = .ok (.iload 4, 2) := by decide +kernel
theorem dX11_of_32 : decode cX11_of 32 = .ok (.iaload, 1) := by decide +kernel
theorem dX11_of_33 : decode cX11_of 33 = .ok (.iload_n 2, 1) := by decide +kernel
theorem dX11_of_34 : decode cX11_of 34 = .ok (.if_icmp .ne 7, 3) := by decide +kernel
theorem dX11_of_37 : decode cX11_of 37 = .ok (.iconst 1, 1) := by decide +kernel
theorem dX11_of_38 : decode cX11_of 38 = .ok (.goto 4, 3) := by decide +kernel
theorem dX11_of_41 : decode cX11_of 41 = .ok (.iconst 0, 1) := by decide +kernel
theorem dX11_of_42 : decode cX11_of 42 = .ok (.iadd, 1) := by decide +kernel
theorem dX11_of_43 : decode cX11_of 43 = .ok (.istore_n 3, 1) := by decide +kernel
theorem dX11_of_44 : decode cX11_of 44 = .ok (.iinc 4 1, 3) := by decide +kernel
theorem dX11_of_47 : decode cX11_of 47 = .ok (.goto (-42), 3) := by decide +kernel
theorem dX11_of_50 : decode cX11_of 50 = .ok (.iload_n 3, 1) := by decide +kernel
theorem dX11_of_51 : decode cX11_of 51 = .ok (.ireturn, 1) := by decide +kernel
def fX11_of_L5 (p1 : Int32) (p2 : Int32) : Nat → St → Int32 → Int32 → (St → Int32 → Int32 → Option (St × Int32)) → Option (St × Int32)
  | 0, _, _, _, _ => none
  | n + 1, σ1, v2, v3, k => (if (σ1.1 0 4) ≤ v3 then k σ1 v2 v3 else rd LM σ1 5 v3 (fun x4 => jn (fun (y6 : Int32) => fX11_of_L5 p1 p2 n σ1 (v2 + y6) (v3 + 1) k) (fun k5 => jn (k5 1) (fun k7 => (if x4 = p1 then k7 else rd LM σ1 5 v3 (fun x8 => (if x8 = p2 then k7 else k5 0)))))))
def fX11_of (σ : St) (p1 : Int32) (p2 : Int32) : Option (St × Int32) := fX11_of_L5 p1 p2 10000 σ 0 0 (fun σ9 v10 v11 => some (σ9, v10))
set_option maxHeartbeats 4000000 in
set_option maxRecDepth 100000 in
theorem ctX11_of (l : Launch) (g : GG) (σ : St) (p1 : Int32) (p2 : Int32) (σ' : St) (r : Int32) (hE : fX11_of σ p1 p2 = some (σ', r)) : MI 25 entM l g yX11_of (Cond.code yX11_of cX11_of 5 (some .int) :: gtbl) (rmD 1) [.ref (g.2.1 0), .int p1, .int p2] σ σ' r := by
  refine mi_i (own := RX11) (lv := [(0, .ref (g.2.1 0)), (1, .int p1), (2, .int p2)]) (by decide) rfl (Nat.le_of_ble_eq_true rfl) rfl (fun p e s m below meth c ls args Q A H0 H locs C hK hA hQ hs hl => ?_)
  have hx := C.1
  have hb := C.2.1
  unfold fX11_of at hE
  refine lv_iconst (v := 0) hx hb dX11_of_0 (by decide) ?_
  refine lv_istore_n (lv' := [(3, .int 0), (0, .ref (g.2.1 0)), (1, .int p1), (2, .int p2)]) hx hb dX11_of_1 rfl hl (by decide) rfl (fun ls hl => ?_)
  refine lv_iconst (v := 0) hx hb dX11_of_2 (by decide) ?_
  refine lv_istore (lv' := [(4, .int 0), (3, .int 0), (0, .ref (g.2.1 0)), (1, .int p1), (2, .int p2)]) hx hb dX11_of_3 hl (by decide) rfl (fun ls hl => ?_)
  have hL5 : ∀ (n : Nat) (σ1 : St) (v2 : Int32) (v3 : Int32) (k : St → Int32 → Int32 → Option (St × Int32)), fX11_of_L5 p1 p2 n σ1 v2 v3 k = some (σ', r) → (∀ (σ1 : St) (v2 : Int32) (v3 : Int32) (H : Heap) (locs : List Loc) (ls : Array Slot), HW 25 entM g A H0 H locs σ1 → lv_has ls 5 [(0, .ref (g.2.1 0)), (1, .int p1), (2, .int p2), (3, .int v2), (4, .int v3)] → k σ1 v2 v3 = some (σ', r) → W p l e (rmD 1) s m args below meth c H locs 0 0 Q (F0 m 50 ls [])) → ∀ (H : Heap) (locs : List Loc) (ls : Array Slot), HW 25 entM g A H0 H locs σ1 → lv_has ls 5 [(0, .ref (g.2.1 0)), (1, .int p1), (2, .int p2), (3, .int v2), (4, .int v3)] → W p l e (rmD 1) s m args below meth c H locs 0 0 Q (F0 m 5 ls []) := by
    intro n
    induction n with
    | zero =>
      intro σ1 v2 v3 k hE
      rw [fX11_of_L5] at hE
      exact no_e hE
    | succ n ih =>
      intro σ1 v2 v3 k hE hk H locs ls hs hl
      rw [fX11_of_L5] at hE
      refine lv_iload hx hb dX11_of_5 (lv_at hl 4 rfl) ?_
      refine lv_aload_n hx hb dX11_of_7 rfl (lv_at hl 0 rfl) ?_
      refine gf_X11_160_0 C hK hs dX11_of_8 ?_
      refine lv_icmp_ge (tgt := 50) hx hb dX11_of_11 (by decide) (fun hc => ?_) (fun hc => ?_)
      · have hE := if_t hc hE
        exact hk σ1 v2 v3 _ _ _ hs (lv_sub hl [0, 1, 2, 3, 4] rfl) hE
      · have hE := if_f hc hE
        refine lv_iload_n hx hb dX11_of_14 rfl (lv_at hl 3 rfl) ?_
        refine lv_aload_n hx hb dX11_of_15 rfl (lv_at hl 0 rfl) ?_
        refine gf_X11_22_0 C hK hs dX11_of_16 ?_
        refine lv_iload hx hb dX11_of_19 (lv_at hl 4 rfl) ?_
        obtain ⟨hi, x4, ex4, hE⟩ := rd_w hE
        refine y_ald layM C hK hs hi ex4 dX11_of_21 ?_
        refine lv_iload_n hx hb dX11_of_22 rfl (lv_at hl 1 rfl) ?_
        refine jn1 hE (fun k5 hE hk5 => ?_)
        have hJk5 : ∀ (y6 : Int32) (H : Heap) (locs : List Loc) (ls : Array Slot), HW 25 entM g A H0 H locs σ1 → lv_has ls 5 [(0, .ref (g.2.1 0)), (1, .int p1), (2, .int p2), (4, .int v3)] → k5 y6 = some (σ', r) → W p l e (rmD 1) s m args below meth c H locs 0 0 Q (F0 m 42 ls [.int y6, .int v2]) := by
          intro y6 H locs ls hs hl hE
          have hE := hk5 _ hE
          refine lv_iadd hx hb dX11_of_42 ?_
          refine lv_istore_n (lv' := [(3, .int (v2 + y6)), (0, .ref (g.2.1 0)), (1, .int p1), (2, .int p2), (4, .int v3)]) hx hb dX11_of_43 rfl hl (by decide) rfl (fun ls hl => ?_)
          refine lv_iinc (v := v3 + 1) (lv' := [(4, .int (v3 + 1)), (3, .int (v2 + y6)), (0, .ref (g.2.1 0)), (1, .int p1), (2, .int p2)]) hx hb dX11_of_44 hl (k := 4) rfl rfl (by decide) rfl (fun ls hl => ?_)
          refine lv_goto (tgt := 5) hx hb dX11_of_47 (by decide) ?_
          exact ih _ _ _ _ hE hk _ _ _ hs (lv_sub hl [2, 3, 4, 1, 0] rfl)
        refine jn0 hE (fun k7 hE hk7 => ?_)
        have hJk7 : ∀  (H : Heap) (locs : List Loc) (ls : Array Slot), HW 25 entM g A H0 H locs σ1 → lv_has ls 5 [(0, .ref (g.2.1 0)), (1, .int p1), (2, .int p2), (4, .int v3)] → k7 = some (σ', r) → W p l e (rmD 1) s m args below meth c H locs 0 0 Q (F0 m 37 ls [.int v2]) := by
          intro H locs ls hs hl hE
          have hE := hk7 hE
          refine lv_iconst (v := 1) hx hb dX11_of_37 (by decide) ?_
          refine lv_goto (tgt := 42) hx hb dX11_of_38 (by decide) ?_
          exact hJk5 1 _ _ _ hs (lv_sub hl [0, 1, 2, 3] rfl) hE
        refine lv_icmp_eq (tgt := 37) hx hb dX11_of_23 (by decide) (fun hc => ?_) (fun hc => ?_)
        · have hE := if_t hc hE
          exact hJk7  _ _ _ hs (lv_sub hl [0, 1, 2, 4] rfl) hE
        · have hE := if_f hc hE
          refine lv_aload_n hx hb dX11_of_26 rfl (lv_at hl 0 rfl) ?_
          refine gf_X11_22_0 C hK hs dX11_of_27 ?_
          refine lv_iload hx hb dX11_of_30 (lv_at hl 4 rfl) ?_
          obtain ⟨hi, x8, ex8, hE⟩ := rd_w hE
          refine y_ald layM C hK hs hi ex8 dX11_of_32 ?_
          refine lv_iload_n hx hb dX11_of_33 rfl (lv_at hl 2 rfl) ?_
          refine lv_icmp_ne (tgt := 41) hx hb dX11_of_34 (by decide) (fun hc => ?_) (fun hc => ?_)
          · have hE := if_f hc hE
            refine lv_iconst (v := 0) hx hb dX11_of_41 (by decide) ?_
            exact hJk5 0 _ _ _ hs (lv_sub hl [0, 1, 2, 4] rfl) hE
          · have hE := if_t hc hE
            exact hJk7  _ _ _ hs (lv_sub hl [0, 1, 2, 4] rfl) hE
  refine hL5 _ _ _ _ _ hE (fun σ9 v10 v11 H locs ls hs hl hE => ?_) H locs ls hs (lv_sub hl [2, 3, 4, 1, 0] rfl)
  refine lv_iload_n hx hb dX11_of_50 rfl (lv_at hl 3 rfl) ?_
  exact hQ hs hE dX11_of_51
theorem dX11_there_0 : decode cX11_there 0 = .ok (.iconst 0, 1) := by decide +kernel
theorem dX11_there_1 : decode cX11_there 1 = .ok (.istore_n 2, 1) := by decide +kernel
theorem dX11_there_2 : decode cX11_there 2 = .ok (.iconst 0, 1) := by decide +kernel
theorem dX11_there_3 : decode cX11_there 3 = .ok (.istore_n 3, 1) := by decide +kernel
theorem dX11_there_4 : decode cX11_there 4 = .ok (.iload_n 3, 1) := by decide +kernel
theorem dX11_there_5 : decode cX11_there 5 = .ok (.iload_n 1, 1) := by decide +kernel
theorem dX11_there_6 : decode cX11_there 6 = .ok (.if_icmp .ge 23, 3) := by decide +kernel
theorem dX11_there_9 : decode cX11_there 9 = .ok (.iload_n 2, 1) := by decide +kernel
theorem dX11_there_10 : decode cX11_there 10 = .ok (.aload_n 0, 1) := by decide +kernel
theorem dX11_there_11 : decode cX11_there 11 = .ok (.iload_n 3, 1) := by decide +kernel
theorem dX11_there_12 : decode cX11_there 12 = .ok (.iaload, 1) := by decide +kernel
theorem dX11_there_13 : decode cX11_there 13 = .ok (.ifCond .ge 7, 3) := by decide +kernel
theorem dX11_there_16 : decode cX11_there 16 = .ok (.iconst 0, 1) := by decide +kernel
theorem dX11_there_17 : decode cX11_there 17 = .ok (.goto 4, 3) := by decide +kernel
theorem dX11_there_20 : decode cX11_there 20 = .ok (.iconst 1, 1) := by decide +kernel
theorem dX11_there_21 : decode cX11_there 21 = .ok (.iadd, 1) := by decide +kernel
theorem dX11_there_22 : decode cX11_there 22 = .ok (.istore_n 2, 1) := by decide +kernel
theorem dX11_there_23 : decode cX11_there 23 = .ok (.iinc 3 1, 3) := by decide +kernel
theorem dX11_there_26 : decode cX11_there 26 = .ok (.goto (-22), 3) := by decide +kernel
theorem dX11_there_29 : decode cX11_there 29 = .ok (.iload_n 2, 1) := by decide +kernel
theorem dX11_there_30 : decode cX11_there 30 = .ok (.ireturn, 1) := by decide +kernel
def fX11_there_L4 (p0 : Nat) (p1 : Int32) : Nat → St → Int32 → Int32 → (St → Int32 → Int32 → Option (St × Int32)) → Option (St × Int32)
  | 0, _, _, _, _ => none
  | n + 1, σ1, v2, v3, k => (if p1 ≤ v3 then k σ1 v2 v3 else rd LM σ1 p0 v3 (fun x4 => pv (if 0 ≤ x4 then 1 else 0) (fun (y6 : Int32) => fX11_there_L4 p0 p1 n σ1 (v2 + y6) (v3 + 1) k)))
def fX11_there (σ : St) (p0 : Nat) (p1 : Int32) : Option (St × Int32) := fX11_there_L4 p0 p1 10000 σ 0 0 (fun σ7 v8 v9 => some (σ7, v8))
set_option maxHeartbeats 4000000 in
set_option maxRecDepth 100000 in
theorem ctX11_there (l : Launch) (g : GG) (σ : St) (p0 : Nat) (p1 : Int32) (σ' : St) (r : Int32) (hE : fX11_there σ p0 p1 = some (σ', r)) : MI 25 entM l g yX11_there (Cond.code yX11_there cX11_there 4 (some .int) :: gtbl) (rmD 1) [.ref (g.2.1 p0), .int p1] σ σ' r := by
  refine mi_i (own := RX11) (lv := [(0, .ref (g.2.1 p0)), (1, .int p1)]) (by decide) rfl (Nat.le_of_ble_eq_true rfl) rfl (fun p e s m below meth c ls args Q A H0 H locs C hK hA hQ hs hl => ?_)
  have hx := C.1
  have hb := C.2.1
  unfold fX11_there at hE
  refine lv_iconst (v := 0) hx hb dX11_there_0 (by decide) ?_
  refine lv_istore_n (lv' := [(2, .int 0), (0, .ref (g.2.1 p0)), (1, .int p1)]) hx hb dX11_there_1 rfl hl (by decide) rfl (fun ls hl => ?_)
  refine lv_iconst (v := 0) hx hb dX11_there_2 (by decide) ?_
  refine lv_istore_n (lv' := [(3, .int 0), (2, .int 0), (0, .ref (g.2.1 p0)), (1, .int p1)]) hx hb dX11_there_3 rfl hl (by decide) rfl (fun ls hl => ?_)
  have hL4 : ∀ (n : Nat) (σ1 : St) (v2 : Int32) (v3 : Int32) (k : St → Int32 → Int32 → Option (St × Int32)), fX11_there_L4 p0 p1 n σ1 v2 v3 k = some (σ', r) → (∀ (σ1 : St) (v2 : Int32) (v3 : Int32) (H : Heap) (locs : List Loc) (ls : Array Slot), HW 25 entM g A H0 H locs σ1 → lv_has ls 4 [(0, .ref (g.2.1 p0)), (1, .int p1), (2, .int v2), (3, .int v3)] → k σ1 v2 v3 = some (σ', r) → W p l e (rmD 1) s m args below meth c H locs 0 0 Q (F0 m 29 ls [])) → ∀ (H : Heap) (locs : List Loc) (ls : Array Slot), HW 25 entM g A H0 H locs σ1 → lv_has ls 4 [(0, .ref (g.2.1 p0)), (1, .int p1), (2, .int v2), (3, .int v3)] → W p l e (rmD 1) s m args below meth c H locs 0 0 Q (F0 m 4 ls []) := by
    intro n
    induction n with
    | zero =>
      intro σ1 v2 v3 k hE
      rw [fX11_there_L4] at hE
      exact no_e hE
    | succ n ih =>
      intro σ1 v2 v3 k hE hk H locs ls hs hl
      rw [fX11_there_L4] at hE
      refine lv_iload_n hx hb dX11_there_4 rfl (lv_at hl 3 rfl) ?_
      refine lv_iload_n hx hb dX11_there_5 rfl (lv_at hl 1 rfl) ?_
      refine lv_icmp_ge (tgt := 29) hx hb dX11_there_6 (by decide) (fun hc => ?_) (fun hc => ?_)
      · have hE := if_t hc hE
        exact hk σ1 v2 v3 _ _ _ hs (lv_sub hl [0, 1, 2, 3] rfl) hE
      · have hE := if_f hc hE
        refine lv_iload_n hx hb dX11_there_9 rfl (lv_at hl 2 rfl) ?_
        refine lv_aload_n hx hb dX11_there_10 rfl (lv_at hl 0 rfl) ?_
        refine lv_iload_n hx hb dX11_there_11 rfl (lv_at hl 3 rfl) ?_
        obtain ⟨hi, x4, ex4, hE⟩ := rd_w hE
        refine y_ald layM C hK hs hi ex4 dX11_there_12 ?_
        refine pvw hE (fun k5 hE hk5 => ?_)
        have hJk5 : ∀ (y6 : Int32) (H : Heap) (locs : List Loc) (ls : Array Slot), HW 25 entM g A H0 H locs σ1 → lv_has ls 4 [(0, .ref (g.2.1 p0)), (1, .int p1), (3, .int v3)] → k5 y6 = some (σ', r) → W p l e (rmD 1) s m args below meth c H locs 0 0 Q (F0 m 21 ls [.int y6, .int v2]) := by
          intro y6 H locs ls hs hl hE
          have hE := hk5 _ hE
          refine lv_iadd hx hb dX11_there_21 ?_
          refine lv_istore_n (lv' := [(2, .int (v2 + y6)), (0, .ref (g.2.1 p0)), (1, .int p1), (3, .int v3)]) hx hb dX11_there_22 rfl hl (by decide) rfl (fun ls hl => ?_)
          refine lv_iinc (v := v3 + 1) (lv' := [(3, .int (v3 + 1)), (2, .int (v2 + y6)), (0, .ref (g.2.1 p0)), (1, .int p1)]) hx hb dX11_there_23 hl (k := 3) rfl rfl (by decide) rfl (fun ls hl => ?_)
          refine lv_goto (tgt := 4) hx hb dX11_there_26 (by decide) ?_
          exact ih _ _ _ _ hE hk _ _ _ hs (lv_sub hl [2, 3, 1, 0] rfl)
        refine lv_if_ge (tgt := 20) hx hb dX11_there_13 (by decide) (fun hc => ?_) (fun hc => ?_)
        · have hE := pv_t hc hE
          refine lv_iconst (v := 1) hx hb dX11_there_20 (by decide) ?_
          exact hJk5 1 _ _ _ hs (lv_sub hl [0, 1, 3] rfl) hE
        · have hE := pv_f hc hE
          refine lv_iconst (v := 0) hx hb dX11_there_16 (by decide) ?_
          refine lv_goto (tgt := 21) hx hb dX11_there_17 (by decide) ?_
          exact hJk5 0 _ _ _ hs (lv_sub hl [0, 1, 3] rfl) hE
  refine hL4 _ _ _ _ _ hE (fun σ7 v8 v9 H locs ls hs hl hE => ?_) H locs ls hs (lv_sub hl [2, 3, 1, 0] rfl)
  refine lv_iload_n hx hb dX11_there_29 rfl (lv_at hl 2 rfl) ?_
  exact hQ hs hE dX11_there_30
