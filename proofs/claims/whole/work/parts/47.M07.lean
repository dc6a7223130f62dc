theorem dX11_shops_0 : decode cX11_shops 0 = .ok (.iconst 0, 1) := by decide +kernel
theorem dX11_shops_1 : decode cX11_shops 1 = .ok (.istore 4, 2) := by decide +kernel
theorem dX11_shops_3 : decode cX11_shops 3 = .ok (.aload_n 0, 1) := by decide +kernel
theorem dX11_shops_4 : decode cX11_shops 4 = .ok (.aload_n 0, 1) := by decide +kernel
theorem dX11_shops_5 : decode cX11_shops 5 = .ok (.getfield 37, 3) := by decide +kernel
theorem dX11_shops_8 : decode cX11_shops 8 = .ok (.iload_n 1, 1) := by decide +kernel
theorem dX11_shops_9 : decode cX11_shops 9 = .ok (.invokevirtual 197, 3) := by decide +kernel
theorem dX11_shops_12 : decode cX11_shops 12 = .ok (.istore 5, 2) := by decide +kernel
theorem dX11_shops_14 : decode cX11_shops 14 = .ok (.aload_n 0, 1) := by decide +kernel
theorem dX11_shops_15 : decode cX11_shops 15 = .ok (.iload_n 2, 1) := by decide +kernel
theorem dX11_shops_16 : decode cX11_shops 16 = .ok (.putfield 257, 3) := by decide +kernel
theorem dX11_shops_19 : decode cX11_shops 19 = .ok (.iconst 0, 1) := by decide +kernel
theorem dX11_shops_20 : decode cX11_shops 20 = .ok (.istore 6, 2) := by decide +kernel
theorem dX11_shops_22 : decode cX11_shops 22 = .ok (.iload 6, 2) := by decide +kernel
theorem dX11_shops_24 : decode cX11_shops 24 = .ok (.aload_n 0, 1) := by decide +kernel
theorem dX11_shops_25 : decode cX11_shops 25 = .ok (.getfield 163, 3) := by decide +kernel
theorem dX11_shops_28 : decode cX11_shops 28 = .ok (.if_icmp .ge 125, 3) := by decide +kernel
theorem dX11_shops_31 : decode cX11_shops 31 = .ok (.bipush (-9), 2) := by decide +kernel
theorem dX11_shops_33 : decode cX11_shops 33 = .ok (.istore 7, 2) := by decide +kernel
theorem dX11_shops_35 : decode cX11_shops 35 = .ok (.iconst 0, 1) := by decide +kernel
theorem dX11_shops_36 : decode cX11_shops 36 = .ok (.istore 8, 2) := by decide +kernel
theorem dX11_shops_38 : decode cX11_shops 38 = .ok (.iload 8, 2) := by decide +kernel
theorem dX11_shops_40 : decode cX11_shops 40 = .ok (.aload_n 0, 1) := by decide +kernel
theorem dX11_shops_41 : decode cX11_shops 41 = .ok (.getfield 163, 3) := by decide +kernel
theorem dX11_shops_44 : decode cX11_shops 44 = .ok (.if_icmp .ge 48, 3) := by decide +kernel
theorem dX11_shops_47 : decode cX11_shops 47 = .ok (.iload 5, 2) := by decide +kernel
theorem dX11_shops_49 : decode cX11_shops 49 = .ok (.iload 8, 2) := by decide +kernel
theorem dX11_shops_51 : decode cX11_shops 51 = .ok (.invokestatic 227, 3) := by decide +kernel
theorem dX11_shops_54 : decode cX11_shops 54 = .ok (.ifCond .ne 28, 3) := by decide +kernel
theorem dX11_shops_57 : decode cX11_shops 57 = .ok (.iload 7, 2) := by decide +kernel
theorem dX11_shops_59 : decode cX11_shops 59 = .ok (.bipush (-9), 2) := by decide +kernel
theorem dX11_shops_61 : decode cX11_shops 61 = .ok (.if_icmp .eq 16, 3) := by decide +kernel
theorem dX11_shops_64 : decode cX11_shops 64 = .ok (.aload_n 0, 1) := by decide +kernel
theorem dX11_shops_65 : decode cX11_shops 65 = .ok (.iload_n 1, 1) := by decide +kernel
theorem dX11_shops_66 : decode cX11_shops 66 = .ok (.iload 8, 2) := by decide +kernel
theorem dX11_shops_68 : decode cX11_shops 68 = .ok (.iload 7, 2) := by decide +kernel
theorem dX11_shops_70 : decode cX11_shops 70 = .ok (.iload_n 3, 1) := by decide +kernel
theorem dX11_shops_71 : decode cX11_shops 71 = .ok (.invokevirtual 260, 3) := by decide +kernel
theorem dX11_shops_74 : decode cX11_shops 74 = .ok (.ifCond .eq 8, 3) := by decide +kernel
theorem dX11_shops_77 : decode cX11_shops 77 = .ok (.iload 8, 2) := by decide +kernel
theorem dX11_shops_79 : decode cX11_shops 79 = .ok (.goto 5, 3) := by decide +kernel
theorem dX11_shops_82 : decode cX11_shops 82 = .ok (.iload 7, 2) := by decide +kernel
theorem dX11_shops_84 : decode cX11_shops 84 = .ok (.istore 7, 2) := by decide +kernel
theorem dX11_shops_86 : decode cX11_shops 86 = .ok (.iinc 8 1, 3) := by decide +kernel
theorem dX11_shops_89 : decode cX11_shops 89 = .ok (.goto (-51), 3) := by decide +kernel
theorem dX11_shops_92 : decode cX11_shops 92 = .ok (.iload 7, 2) := by decide +kernel
theorem dX11_shops_94 : decode cX11_shops 94 = .ok (.bipush (-9), 2) := by decide +kernel
theorem dX11_shops_96 : decode cX11_shops 96 = .ok (.if_icmp .eq 51, 3) := by decide +kernel
theorem dX11_shops_99 : decode cX11_shops 99 = .ok (.iload 5, 2) := by decide +kernel
theorem dX11_shops_101 : decode cX11_shops 101 = .ok (.iconst 1, 1) := by decide +kernel
theorem dX11_shops_102 : decode cX11_shops 102 = .ok (.iload 7, 2) := by decide +kernel
theorem dX11_shops_104 : decode cX11_shops 104 = .ok (.ishl, 1) := by decide +kernel
theorem dX11_shops_105 : decode cX11_shops 105 = .ok (.ior, 1) := by decide +kernel
theorem dX11_shops_106 : decode cX11_shops 106 = .ok (.istore 5, 2) := by decide +kernel
theorem dX11_shops_108 : decode cX11_shops 108 = .ok (.aload_n 0, 1) := by decide +kernel
theorem dX11_shops_109 : decode cX11_shops 109 = .ok (.getfield 257, 3) := by decide +kernel
theorem dX11_shops_112 : decode cX11_shops 112 = .ok (.aload_n 0, 1) := by decide +kernel
theorem dX11_shops_113 : decode cX11_shops 113 = .ok (.iload_n 1, 1) := by decide +kernel
theorem dX11_shops_114 : decode cX11_shops 114 = .ok (.iload 7, 2) := by decide +kernel
theorem dX11_shops_116 : decode cX11_shops 116 = .ok (.invokevirtual 207, 3) := by decide +kernel
theorem dX11_shops_119 : decode cX11_shops 119 = .ok (.if_icmp .lt 28, 3) := by decide +kernel
theorem dX11_shops_122 : decode cX11_shops 122 = .ok (.aload_n 0, 1) := by decide +kernel
theorem dX11_shops_123 : decode cX11_shops 123 = .ok (.dup, 1) := by decide +kernel
theorem dX11_shops_124 : decode cX11_shops 124 = .ok (.getfield 257, 3) := by decide +kernel
theorem dX11_shops_127 : decode cX11_shops 127 = .ok (.aload_n 0, 1) := by decide +kernel
theorem dX11_shops_128 : decode cX11_shops 128 = .ok (.iload_n 1, 1) := by decide +kernel
theorem dX11_shops_129 : decode cX11_shops 129 = .ok (.iload 7, 2) := by decide +kernel
theorem dX11_shops_131 : decode cX11_shops 131 = .ok (.invokevirtual 207, 3) := by decide +kernel
theorem dX11_shops_134 : decode cX11_shops 134 = .ok (.isub, 1) := by decide +kernel
theorem dX11_shops_135 : decode cX11_shops 135 = .ok (.putfield 257, 3) := by decide +kernel
theorem dX11_shops_138 : decode cX11_shops 138 = .ok (.iload 4, 2) := by decide +kernel
theorem dX11_shops_140 : decode cX11_shops 140 = .ok (.iconst 1, 1) := by decide +kernel
theorem dX11_shops_141 : decode cX11_shops 141 = .ok (.iload 7, 2) := by decide +kernel
theorem dX11_shops_143 : decode cX11_shops 143 = .ok (.ishl, 1) := by decide +kernel
theorem dX11_shops_144 : decode cX11_shops 144 = .ok (.ior, 1) := by decide +kernel
theorem dX11_shops_145 : decode cX11_shops 145 = .ok (.istore 4, 2) := by decide +kernel
theorem dX11_shops_147 : decode cX11_shops 147 = .ok (.iinc 6 1, 3) := by decide +kernel
theorem dX11_shops_150 : decode cX11_shops 150 = .ok (.goto (-128), 3) := by decide +kernel
theorem dX11_shops_153 : decode cX11_shops 153 = .ok (.iload 4, 2) := by decide +kernel
theorem dX11_shops_155 : decode cX11_shops 155 = .ok (.ireturn, 1) := by decide +kernel
def fX11_shops_L38 (p1 : Int32) (p3 : Int32) (v5 : Int32) (v6 : Int32) (v7 : Int32) : Nat → St → Int32 → Int32 → (St → Int32 → Int32 → Option (St × Int32)) → Option (St × Int32)
  | 0, _, _, _, _ => none
  | n + 1, σ8, v9, v10, k => (if (σ8.1 0 7) ≤ v10 then k σ8 v9 v10 else cl (fX11_has σ8 v6 v10) (fun σ11 r12 => jn (fun (σ14 : St) (y15 : Int32) => fX11_shops_L38 p1 p3 v5 v6 v7 n σ14 y15 (v10 + 1) k) (fun k13 => jn (fun (σ17 : St) => k13 σ17 v9) (fun k16 => (if r12 = 0 then jn (fun (σ19 : St) => k13 σ19 v10) (fun k18 => (if v9 = (-9) then k18 σ11 else cl (fX11_isWantedAhead σ11 p1 v10 v9 p3) (fun σ20 r21 => (if r21 = 0 then k16 σ20 else k18 σ20)))) else k16 σ11)))))
def fX11_shops_L22 (p1 : Int32) (p3 : Int32) : Nat → St → Int32 → Int32 → Int32 → (St → Int32 → Int32 → Int32 → Option (St × Int32)) → Option (St × Int32)
  | 0, _, _, _, _, _ => none
  | n + 1, σ4, v5, v6, v7, k => (if (σ4.1 0 7) ≤ v7 then k σ4 v5 v6 v7 else fX11_shops_L38 p1 p3 v5 v6 v7 10000 σ4 (-9) 0 (fun σ22 v23 v24 => jn (fun (σ26 : St) (z27 : Int32) (z28 : Int32) => fX11_shops_L22 p1 p3 n σ26 z27 z28 (v7 + 1) k) (fun k25 => (if v23 = (-9) then k25 σ22 v5 v6 else cl (fX11_pays σ22 p1 v23) (fun σ29 r30 => (if (σ22.1 0 30) < r30 then k25 σ29 v5 (v6 ||| (1 <<< (v23 &&& 31))) else cl (fX11_pays σ29 p1 v23) (fun σ31 r32 => pt (su σ31 0 30 ((σ29.1 0 30) - r32)) (fun σ33 => k25 σ33 (v5 ||| (1 <<< (v23 &&& 31))) (v6 ||| (1 <<< (v23 &&& 31)))))))))))
def fX11_shops (σ : St) (p1 : Int32) (p2 : Int32) (p3 : Int32) : Option (St × Int32) := cl (fX11_ownSet σ 10 p1) (fun σ1 r2 => pt (su σ1 0 30 p2) (fun σ3 => fX11_shops_L22 p1 p3 10000 σ3 0 r2 0 (fun σ34 v35 v36 v37 => some (σ34, v35))))
set_option maxHeartbeats 4000000 in
set_option maxRecDepth 100000 in
theorem ctX11_shops (l : Launch) (g : GG) (σ : St) (p1 : Int32) (p2 : Int32) (p3 : Int32) (σ' : St) (r : Int32) (hE : fX11_shops σ p1 p2 p3 = some (σ', r)) : MI 25 entM l g yX11_shops (Cond.code yX11_shops cX11_shops 9 (some .int) :: gtbl) (rmD 5) [.ref (g.2.1 0), .int p1, .int p2, .int p3] σ σ' r := by
  refine mi_i (own := RX11) (lv := [(0, .ref (g.2.1 0)), (1, .int p1), (2, .int p2), (3, .int p3)]) (by decide) rfl (Nat.le_of_ble_eq_true rfl) rfl (fun p e s m below meth c ls args Q A H0 H locs C hK hA hQ hs hl => ?_)
  have hx := C.1
  have hb := C.2.1
  unfold fX11_shops at hE
  refine lv_iconst (v := 0) hx hb dX11_shops_0 (by decide) ?_
  refine lv_istore (lv' := [(4, .int 0), (0, .ref (g.2.1 0)), (1, .int p1), (2, .int p2), (3, .int p3)]) hx hb dX11_shops_1 hl (by decide) rfl (fun ls hl => ?_)
  refine lv_aload_n hx hb dX11_shops_3 rfl (lv_at hl 1 rfl) ?_
  refine lv_aload_n hx hb dX11_shops_4 rfl (lv_at hl 1 rfl) ?_
  refine gf_X11_37_0 C hK hs dX11_shops_5 ?_
  refine lv_iload_n hx hb dX11_shops_8 rfl (lv_at hl 2 rfl) ?_
  obtain ⟨σ1, r2, hE1, hE⟩ := cl_e hE
  refine x_civ (As := [.ref (g.2.1 10), .int p1]) (rest := []) C hl.1 hK hs hA ⟨Nat.le_refl 0, Nat.le_refl 0⟩ (ctX11_ownSet l g _ _ _ _ _ hE1) (cw_X11_197 C ⟨Nat.le_of_ble_eq_true rfl, Nat.le_of_ble_eq_true rfl⟩) (hs.recv hK 0 (by decide) rfl rfl) rfl rfl (Nat.le_of_ble_eq_true rfl) dX11_shops_9 (fun H locs hs => ?_)
  refine lv_istore (lv' := [(5, .int r2), (4, .int 0), (0, .ref (g.2.1 0)), (1, .int p1), (2, .int p2), (3, .int p3)]) hx hb dX11_shops_12 hl (by decide) rfl (fun ls hl => ?_)
  refine lv_aload_n hx hb dX11_shops_14 rfl (lv_at hl 2 rfl) ?_
  refine lv_iload_n hx hb dX11_shops_15 rfl (lv_at hl 4 rfl) ?_
  obtain ⟨σ3, eσ3, hE⟩ := pt_w hE
  refine pf_X11_257_0 C hK hs eσ3 dX11_shops_16 (fun H locs hs => ?_)
  refine lv_iconst (v := 0) hx hb dX11_shops_19 (by decide) ?_
  refine lv_istore (lv' := [(6, .int 0), (5, .int r2), (4, .int 0), (0, .ref (g.2.1 0)), (1, .int p1), (2, .int p2), (3, .int p3)]) hx hb dX11_shops_20 hl (by decide) rfl (fun ls hl => ?_)
  have hL22 : ∀ (n : Nat) (σ4 : St) (v5 : Int32) (v6 : Int32) (v7 : Int32) (k : St → Int32 → Int32 → Int32 → Option (St × Int32)), fX11_shops_L22 p1 p3 n σ4 v5 v6 v7 k = some (σ', r) → (∀ (σ4 : St) (v5 : Int32) (v6 : Int32) (v7 : Int32) (H : Heap) (locs : List Loc) (ls : Array Slot), HW 25 entM g A H0 H locs σ4 → lv_has ls 9 [(0, .ref (g.2.1 0)), (1, .int p1), (3, .int p3), (4, .int v5), (5, .int v6), (6, .int v7)] → k σ4 v5 v6 v7 = some (σ', r) → W p l e (rmD 5) s m args below meth c H locs 0 0 Q (F0 m 153 ls [])) → ∀ (H : Heap) (locs : List Loc) (ls : Array Slot), HW 25 entM g A H0 H locs σ4 → lv_has ls 9 [(0, .ref (g.2.1 0)), (1, .int p1), (3, .int p3), (4, .int v5), (5, .int v6), (6, .int v7)] → W p l e (rmD 5) s m args below meth c H locs 0 0 Q (F0 m 22 ls []) := by
    intro n
    induction n with
    | zero =>
      intro σ4 v5 v6 v7 k hE
      rw [fX11_shops_L22] at hE
      exact no_e hE
    | succ n ih =>
      intro σ4 v5 v6 v7 k hE hk H locs ls hs hl
      rw [fX11_shops_L22] at hE
      refine lv_iload hx hb dX11_shops_22 (lv_at hl 5 rfl) ?_
      refine lv_aload_n hx hb dX11_shops_24 rfl (lv_at hl 0 rfl) ?_
      refine gf_X11_163_0 C hK hs dX11_shops_25 ?_
      refine lv_icmp_ge (tgt := 153) hx hb dX11_shops_28 (by decide) (fun hc => ?_) (fun hc => ?_)
      · have hE := if_t hc hE
        exact hk σ4 v5 v6 v7 _ _ _ hs (lv_sub hl [0, 1, 2, 3, 4, 5] rfl) hE
      · have hE := if_f hc hE
        refine lv_bipush (v := (-9)) hx hb dX11_shops_31 (by decide) ?_
        refine lv_istore (lv' := [(7, .int (-9)), (0, .ref (g.2.1 0)), (1, .int p1), (3, .int p3), (4, .int v5), (5, .int v6), (6, .int v7)]) hx hb dX11_shops_33 hl (by decide) rfl (fun ls hl => ?_)
        refine lv_iconst (v := 0) hx hb dX11_shops_35 (by decide) ?_
        refine lv_istore (lv' := [(8, .int 0), (7, .int (-9)), (0, .ref (g.2.1 0)), (1, .int p1), (3, .int p3), (4, .int v5), (5, .int v6), (6, .int v7)]) hx hb dX11_shops_36 hl (by decide) rfl (fun ls hl => ?_)
        have hL38 : ∀ (n : Nat) (σ8 : St) (v9 : Int32) (v10 : Int32) (k : St → Int32 → Int32 → Option (St × Int32)), fX11_shops_L38 p1 p3 v5 v6 v7 n σ8 v9 v10 k = some (σ', r) → (∀ (σ8 : St) (v9 : Int32) (v10 : Int32) (H : Heap) (locs : List Loc) (ls : Array Slot), HW 25 entM g A H0 H locs σ8 → lv_has ls 9 [(0, .ref (g.2.1 0)), (1, .int p1), (3, .int p3), (4, .int v5), (5, .int v6), (6, .int v7), (7, .int v9), (8, .int v10)] → k σ8 v9 v10 = some (σ', r) → W p l e (rmD 5) s m args below meth c H locs 0 0 Q (F0 m 92 ls [])) → ∀ (H : Heap) (locs : List Loc) (ls : Array Slot), HW 25 entM g A H0 H locs σ8 → lv_has ls 9 [(0, .ref (g.2.1 0)), (1, .int p1), (3, .int p3), (4, .int v5), (5, .int v6), (6, .int v7), (7, .int v9), (8, .int v10)] → W p l e (rmD 5) s m args below meth c H locs 0 0 Q (F0 m 38 ls []) := by
          intro n
          induction n with
          | zero =>
            intro σ8 v9 v10 k hE
            rw [fX11_shops_L38] at hE
            exact no_e hE
          | succ n ih =>
            intro σ8 v9 v10 k hE hk H locs ls hs hl
            rw [fX11_shops_L38] at hE
            refine lv_iload hx hb dX11_shops_38 (lv_at hl 7 rfl) ?_
            refine lv_aload_n hx hb dX11_shops_40 rfl (lv_at hl 0 rfl) ?_
            refine gf_X11_163_0 C hK hs dX11_shops_41 ?_
            refine lv_icmp_ge (tgt := 92) hx hb dX11_shops_44 (by decide) (fun hc => ?_) (fun hc => ?_)
            · have hE := if_t hc hE
              exact hk σ8 v9 v10 _ _ _ hs (lv_sub hl [0, 1, 2, 3, 4, 5, 6, 7] rfl) hE
            · have hE := if_f hc hE
              refine lv_iload hx hb dX11_shops_47 (lv_at hl 4 rfl) ?_
              refine lv_iload hx hb dX11_shops_49 (lv_at hl 7 rfl) ?_
              obtain ⟨σ11, r12, hE1, hE⟩ := cl_e hE
              refine x_cis (As := [.int v6, .int v10]) (rest := []) C hl.1 hK hs hA ⟨Nat.le_refl 0, Nat.le_refl 0⟩ (ctX11_has l g _ _ _ _ _ hE1) (cw_X11_227 C ⟨Nat.le_of_ble_eq_true rfl, Nat.le_of_ble_eq_true rfl⟩) rfl rfl (Nat.le_of_ble_eq_true rfl) dX11_shops_51 (fun H locs hs => ?_)
              refine jn2 hE (fun k13 hE hk13 => ?_)
              have hJk13 : ∀ (σ14 : St) (y15 : Int32) (H : Heap) (locs : List Loc) (ls : Array Slot), HW 25 entM g A H0 H locs σ14 → lv_has ls 9 [(0, .ref (g.2.1 0)), (1, .int p1), (3, .int p3), (4, .int v5), (5, .int v6), (6, .int v7), (8, .int v10)] → k13 σ14 y15 = some (σ', r) → W p l e (rmD 5) s m args below meth c H locs 0 0 Q (F0 m 84 ls [.int y15]) := by
                intro σ14 y15 H locs ls hs hl hE
                have hE := hk13 _ _ hE
                refine lv_istore (lv' := [(7, .int y15), (0, .ref (g.2.1 0)), (1, .int p1), (3, .int p3), (4, .int v5), (5, .int v6), (6, .int v7), (8, .int v10)]) hx hb dX11_shops_84 hl (by decide) rfl (fun ls hl => ?_)
                refine lv_iinc (v := v10 + 1) (lv' := [(8, .int (v10 + 1)), (7, .int y15), (0, .ref (g.2.1 0)), (1, .int p1), (3, .int p3), (4, .int v5), (5, .int v6), (6, .int v7)]) hx hb dX11_shops_86 hl (k := 7) rfl rfl (by decide) rfl (fun ls hl => ?_)
                refine lv_goto (tgt := 38) hx hb dX11_shops_89 (by decide) ?_
                exact ih _ _ _ _ hE hk _ _ _ hs (lv_sub hl [2, 3, 4, 5, 6, 7, 1, 0] rfl)
              refine jn1 hE (fun k16 hE hk16 => ?_)
              have hJk16 : ∀ (σ17 : St) (H : Heap) (locs : List Loc) (ls : Array Slot), HW 25 entM g A H0 H locs σ17 → lv_has ls 9 [(0, .ref (g.2.1 0)), (1, .int p1), (3, .int p3), (4, .int v5), (5, .int v6), (6, .int v7), (7, .int v9), (8, .int v10)] → k16 σ17 = some (σ', r) → W p l e (rmD 5) s m args below meth c H locs 0 0 Q (F0 m 82 ls []) := by
                intro σ17 H locs ls hs hl hE
                have hE := hk16 _ hE
                refine lv_iload hx hb dX11_shops_82 (lv_at hl 6 rfl) ?_
                exact hJk13 σ17 v9 _ _ _ hs (lv_sub hl [0, 1, 2, 3, 4, 5, 7] rfl) hE
              refine lv_if_ne (tgt := 82) hx hb dX11_shops_54 (by decide) (fun hc => ?_) (fun hc => ?_)
              · have hE := if_f hc hE
                exact hJk16 σ11 _ _ _ hs (lv_sub hl [0, 1, 2, 3, 4, 5, 6, 7] rfl) hE
              · have hE := if_t hc hE
                refine lv_iload hx hb dX11_shops_57 (lv_at hl 6 rfl) ?_
                refine lv_bipush (v := (-9)) hx hb dX11_shops_59 (by decide) ?_
                refine jn1 hE (fun k18 hE hk18 => ?_)
                have hJk18 : ∀ (σ19 : St) (H : Heap) (locs : List Loc) (ls : Array Slot), HW 25 entM g A H0 H locs σ19 → lv_has ls 9 [(0, .ref (g.2.1 0)), (1, .int p1), (3, .int p3), (4, .int v5), (5, .int v6), (6, .int v7), (8, .int v10)] → k18 σ19 = some (σ', r) → W p l e (rmD 5) s m args below meth c H locs 0 0 Q (F0 m 77 ls []) := by
                  intro σ19 H locs ls hs hl hE
                  have hE := hk18 _ hE
                  refine lv_iload hx hb dX11_shops_77 (lv_at hl 6 rfl) ?_
                  refine lv_goto (tgt := 84) hx hb dX11_shops_79 (by decide) ?_
                  exact hJk13 σ19 v10 _ _ _ hs (lv_sub hl [0, 1, 2, 3, 4, 5, 6] rfl) hE
                refine lv_icmp_eq (tgt := 77) hx hb dX11_shops_61 (by decide) (fun hc => ?_) (fun hc => ?_)
                · have hE := if_t hc hE
                  exact hJk18 σ11 _ _ _ hs (lv_sub hl [0, 1, 2, 3, 4, 5, 7] rfl) hE
                · have hE := if_f hc hE
                  refine lv_aload_n hx hb dX11_shops_64 rfl (lv_at hl 0 rfl) ?_
                  refine lv_iload_n hx hb dX11_shops_65 rfl (lv_at hl 1 rfl) ?_
                  refine lv_iload hx hb dX11_shops_66 (lv_at hl 7 rfl) ?_
                  refine lv_iload hx hb dX11_shops_68 (lv_at hl 6 rfl) ?_
                  refine lv_iload_n hx hb dX11_shops_70 rfl (lv_at hl 2 rfl) ?_
                  obtain ⟨σ20, r21, hE1, hE⟩ := cl_e hE
                  refine x_civ (As := [.int p1, .int v10, .int v9, .int p3]) (rest := []) C hl.1 hK hs hA ⟨Nat.le_refl 0, Nat.le_refl 0⟩ (ctX11_isWantedAhead l g _ _ _ _ _ _ _ hE1) (cw_X11_260 C ⟨Nat.le_of_ble_eq_true rfl, Nat.le_of_ble_eq_true rfl⟩) (hs.recv hK 0 (by decide) rfl rfl) rfl rfl (Nat.le_of_ble_eq_true rfl) dX11_shops_71 (fun H locs hs => ?_)
                  refine lv_if_eq (tgt := 82) hx hb dX11_shops_74 (by decide) (fun hc => ?_) (fun hc => ?_)
                  · have hE := if_t hc hE
                    exact hJk16 σ20 _ _ _ hs (lv_sub hl [0, 1, 2, 3, 4, 5, 6, 7] rfl) hE
                  · have hE := if_f hc hE
                    exact hJk18 σ20 _ _ _ hs (lv_sub hl [0, 1, 2, 3, 4, 5, 7] rfl) hE
        refine hL38 _ _ _ _ _ hE (fun σ22 v23 v24 H locs ls hs hl hE => ?_) H locs ls hs (lv_sub hl [2, 3, 4, 5, 6, 7, 1, 0] rfl)
        refine lv_iload hx hb dX11_shops_92 (lv_at hl 6 rfl) ?_
        refine lv_bipush (v := (-9)) hx hb dX11_shops_94 (by decide) ?_
        refine jn3 hE (fun k25 hE hk25 => ?_)
        have hJk25 : ∀ (σ26 : St) (z27 : Int32) (z28 : Int32) (H : Heap) (locs : List Loc) (ls : Array Slot), HW 25 entM g A H0 H locs σ26 → lv_has ls 9 [(0, .ref (g.2.1 0)), (1, .int p1), (3, .int p3), (4, .int z27), (5, .int z28), (6, .int v7)] → k25 σ26 z27 z28 = some (σ', r) → W p l e (rmD 5) s m args below meth c H locs 0 0 Q (F0 m 147 ls []) := by
          intro σ26 z27 z28 H locs ls hs hl hE
          have hE := hk25 _ _ _ hE
          refine lv_iinc (v := v7 + 1) (lv' := [(6, .int (v7 + 1)), (0, .ref (g.2.1 0)), (1, .int p1), (3, .int p3), (4, .int z27), (5, .int z28)]) hx hb dX11_shops_147 hl (k := 5) rfl rfl (by decide) rfl (fun ls hl => ?_)
          refine lv_goto (tgt := 22) hx hb dX11_shops_150 (by decide) ?_
          exact ih _ _ _ _ _ hE hk _ _ _ hs (lv_sub hl [1, 2, 3, 4, 5, 0] rfl)
        refine lv_icmp_eq (tgt := 147) hx hb dX11_shops_96 (by decide) (fun hc => ?_) (fun hc => ?_)
        · have hE := if_t hc hE
          exact hJk25 σ22 v5 v6 _ _ _ hs (lv_sub hl [0, 1, 2, 3, 4, 5] rfl) hE
        · have hE := if_f hc hE
          refine lv_iload hx hb dX11_shops_99 (lv_at hl 4 rfl) ?_
          refine lv_iconst (v := 1) hx hb dX11_shops_101 (by decide) ?_
          refine lv_iload hx hb dX11_shops_102 (lv_at hl 6 rfl) ?_
          refine lv_ishl hx hb dX11_shops_104 ?_
          refine lv_ior hx hb dX11_shops_105 ?_
          refine lv_istore (lv' := [(5, .int (v6 ||| (1 <<< (v23 &&& 31)))), (0, .ref (g.2.1 0)), (1, .int p1), (3, .int p3), (4, .int v5), (6, .int v7), (7, .int v23), (8, .int v24)]) hx hb dX11_shops_106 hl (by decide) rfl (fun ls hl => ?_)
          refine lv_aload_n hx hb dX11_shops_108 rfl (lv_at hl 1 rfl) ?_
          refine gf_X11_257_0 C hK hs dX11_shops_109 ?_
          refine lv_aload_n hx hb dX11_shops_112 rfl (lv_at hl 1 rfl) ?_
          refine lv_iload_n hx hb dX11_shops_113 rfl (lv_at hl 2 rfl) ?_
          refine lv_iload hx hb dX11_shops_114 (lv_at hl 6 rfl) ?_
          obtain ⟨σ29, r30, hE1, hE⟩ := cl_e hE
          refine x_civ (As := [.int p1, .int v23]) (rest := [.int (σ22.1 0 30)]) C hl.1 hK hs hA ⟨Nat.le_refl 0, Nat.le_refl 0⟩ (ctX11_pays l g _ _ _ _ _ hE1) (cw_X11_207 C ⟨Nat.le_of_ble_eq_true rfl, Nat.le_of_ble_eq_true rfl⟩) (hs.recv hK 0 (by decide) rfl rfl) rfl rfl (Nat.le_of_ble_eq_true rfl) dX11_shops_116 (fun H locs hs => ?_)
          refine lv_icmp_lt (tgt := 147) hx hb dX11_shops_119 (by decide) (fun hc => ?_) (fun hc => ?_)
          · have hE := if_t hc hE
            exact hJk25 σ29 v5 (v6 ||| (1 <<< (v23 &&& 31))) _ _ _ hs (lv_sub hl [1, 2, 3, 4, 0, 5] rfl) hE
          · have hE := if_f hc hE
            refine lv_aload_n hx hb dX11_shops_122 rfl (lv_at hl 1 rfl) ?_
            refine lv_dup hx hb dX11_shops_123 rfl ?_
            refine gf_X11_257_0 C hK hs dX11_shops_124 ?_
            refine lv_aload_n hx hb dX11_shops_127 rfl (lv_at hl 1 rfl) ?_
            refine lv_iload_n hx hb dX11_shops_128 rfl (lv_at hl 2 rfl) ?_
            refine lv_iload hx hb dX11_shops_129 (lv_at hl 6 rfl) ?_
            obtain ⟨σ31, r32, hE1, hE⟩ := cl_e hE
            refine x_civ (As := [.int p1, .int v23]) (rest := [.int (σ29.1 0 30), .ref (g.2.1 0)]) C hl.1 hK hs hA ⟨Nat.le_refl 0, Nat.le_refl 0⟩ (ctX11_pays l g _ _ _ _ _ hE1) (cw_X11_207 C ⟨Nat.le_of_ble_eq_true rfl, Nat.le_of_ble_eq_true rfl⟩) (hs.recv hK 0 (by decide) rfl rfl) rfl rfl (Nat.le_of_ble_eq_true rfl) dX11_shops_131 (fun H locs hs => ?_)
            refine lv_isub hx hb dX11_shops_134 ?_
            obtain ⟨σ33, eσ33, hE⟩ := pt_w hE
            refine pf_X11_257_0 C hK hs eσ33 dX11_shops_135 (fun H locs hs => ?_)
            refine lv_iload hx hb dX11_shops_138 (lv_at hl 4 rfl) ?_
            refine lv_iconst (v := 1) hx hb dX11_shops_140 (by decide) ?_
            refine lv_iload hx hb dX11_shops_141 (lv_at hl 6 rfl) ?_
            refine lv_ishl hx hb dX11_shops_143 ?_
            refine lv_ior hx hb dX11_shops_144 ?_
            refine lv_istore (lv' := [(4, .int (v5 ||| (1 <<< (v23 &&& 31)))), (5, .int (v6 ||| (1 <<< (v23 &&& 31)))), (0, .ref (g.2.1 0)), (1, .int p1), (3, .int p3), (6, .int v7), (7, .int v23), (8, .int v24)]) hx hb dX11_shops_145 hl (by decide) rfl (fun ls hl => ?_)
            exact hJk25 σ33 (v5 ||| (1 <<< (v23 &&& 31))) (v6 ||| (1 <<< (v23 &&& 31))) _ _ _ hs (lv_sub hl [2, 3, 4, 0, 1, 5] rfl) hE
  refine hL22 _ _ _ _ _ _ hE (fun σ34 v35 v36 v37 H locs ls hs hl hE => ?_) H locs ls hs (lv_sub hl [3, 4, 6, 2, 1, 0] rfl)
  refine lv_iload hx hb dX11_shops_153 (lv_at hl 3 rfl) ?_
  exact hQ hs hE dX11_shops_155
theorem dX11_shop_0 : decode cX11_shop 0 = .ok (.aload_n 0, 1) := by decide +kernel
theorem dX11_shop_1 : decode cX11_shop 1 = .ok (.iload_n 1, 1) := by decide +kernel
theorem dX11_shop_2 : decode cX11_shop 2 = .ok (.invokevirtual 201, 3) := by decide +kernel
theorem dX11_shop_5 : decode cX11_shop 5 = .ok (.ifCond .eq 15, 3) := by decide +kernel
theorem dX11_shop_8 : decode cX11_shop 8 = .ok (.iload_n 2, 1) := by decide +kernel
theorem dX11_shop_9 : decode cX11_shop 9 = .ok (.i2l, 1) := by decide +kernel
theorem dX11_shop_10 : decode cX11_shop 10 = .ok (.lconst 0, 1) := by decide +kernel
theorem dX11_shop_11 : decode cX11_shop 11 = .ok (.ldc2_w 100, 3) := by decide +kernel
theorem dX11_shop_14 : decode cX11_shop 14 = .ok (.invokestatic 96, 3) := by decide +kernel
theorem dX11_shop_17 : decode cX11_shop 17 = .ok (.ifCond .ne 5, 3) := by decide +kernel
theorem dX11_shop_20 : decode cX11_shop 20 = .ok (.iconst (-1), 1) := by decide +kernel
theorem dX11_shop_21 : decode cX11_shop 21 = .ok (.ireturn, 1) := by decide +kernel
theorem dX11_shop_22 : decode cX11_shop 22 = .ok (.aload_n 0, 1) := by decide +kernel
theorem dX11_shop_23 : decode cX11_shop 23 = .ok (.iload_n 1, 1) := by decide +kernel
theorem dX11_shop_24 : decode cX11_shop 24 = .ok (.aload_n 0, 1) := by decide +kernel
theorem dX11_shop_25 : decode cX11_shop 25 = .ok (.getfield 37, 3) := by decide +kernel
theorem dX11_shop_28 : decode cX11_shop 28 = .ok (.iconst 1, 1) := by decide +kernel
theorem dX11_shop_29 : decode cX11_shop 29 = .ok (.iload_n 1, 1) := by decide +kernel
theorem dX11_shop_30 : decode cX11_shop 30 = .ok (.iadd, 1) := by decide +kernel
theorem dX11_shop_31 : decode cX11_shop 31 = .ok (.iaload, 1) := by decide +kernel
theorem dX11_shop_32 : decode cX11_shop 32 = .ok (.iload_n 2, 1) := by decide +kernel
theorem dX11_shop_33 : decode cX11_shop 33 = .ok (.invokevirtual 264, 3) := by decide +kernel
theorem dX11_shop_36 : decode cX11_shop 36 = .ok (.istore_n 3, 1) := by decide +kernel
theorem dX11_shop_37 : decode cX11_shop 37 = .ok (.aload_n 0, 1) := by decide +kernel
theorem dX11_shop_38 : decode cX11_shop 38 = .ok (.iload_n 3, 1) := by decide +kernel
theorem dX11_shop_39 : decode cX11_shop 39 = .ok (.aload_n 0, 1) := by decide +kernel
theorem dX11_shop_40 : decode cX11_shop 40 = .ok (.getfield 257, 3) := by decide +kernel
theorem dX11_shop_43 : decode cX11_shop 43 = .ok (.invokevirtual 210, 3) := by decide +kernel
theorem dX11_shop_46 : decode cX11_shop 46 = .ok (.ireturn, 1) := by decide +kernel
def fX11_shop (σ : St) (p1 : Int32) (p2 : Int32) : Option (St × Int32) := cl (fX11_isHouse σ p1) (fun σ1 r2 => (if r2 = 0 then some (σ1, (-1)) else cl (fX11_in σ1 (p2.toInt64) 0 3) (fun σ3 r4 => (if r4 = 0 then some (σ3, (-1)) else rd LM σ3 10 (1 + p1) (fun x5 => cl (fX11_shops σ3 p1 x5 p2) (fun σ6 r7 => cl (fX11_answer σ6 r7 (σ6.1 0 30)) (fun σ8 r9 => some (σ8, r9))))))))
set_option maxHeartbeats 4000000 in
set_option maxRecDepth 100000 in
theorem ctX11_shop (l : Launch) (g : GG) (σ : St) (p1 : Int32) (p2 : Int32) (σ' : St) (r : Int32) (hE : fX11_shop σ p1 p2 = some (σ', r)) : MI 25 entM l g yX11_shop (Cond.code yX11_shop cX11_shop 4 (some .int) :: gtbl) (rmD 6) [.ref (g.2.1 0), .int p1, .int p2] σ σ' r := by
  refine mi_i (own := RX11) (lv := [(0, .ref (g.2.1 0)), (1, .int p1), (2, .int p2)]) (by decide) rfl (Nat.le_of_ble_eq_true rfl) rfl (fun p e s m below meth c ls args Q A H0 H locs C hK hA hQ hs hl => ?_)
  have hx := C.1
  have hb := C.2.1
  unfold fX11_shop at hE
  refine lv_aload_n hx hb dX11_shop_0 rfl (lv_at hl 0 rfl) ?_
  refine lv_iload_n hx hb dX11_shop_1 rfl (lv_at hl 1 rfl) ?_
  obtain ⟨σ1, r2, hE1, hE⟩ := cl_e hE
  refine x_civ (As := [.int p1]) (rest := []) C hl.1 hK hs hA ⟨Nat.le_refl 0, Nat.le_refl 0⟩ (ctX11_isHouse l g _ _ _ _ hE1) (cw_X11_201 C ⟨Nat.le_of_ble_eq_true rfl, Nat.le_of_ble_eq_true rfl⟩) (hs.recv hK 0 (by decide) rfl rfl) rfl rfl (Nat.le_of_ble_eq_true rfl) dX11_shop_2 (fun H locs hs => ?_)
  refine lv_if_eq (tgt := 20) hx hb dX11_shop_5 (by decide) (fun hc => ?_) (fun hc => ?_)
  · have hE := if_t hc hE
    refine lv_iconst (v := (-1)) hx hb dX11_shop_20 (by decide) ?_
    exact hQ hs hE dX11_shop_21
  · have hE := if_f hc hE
    refine lv_iload_n hx hb dX11_shop_8 rfl (lv_at hl 2 rfl) ?_
    refine lv_i2l (v := p2.toInt64) hx hb dX11_shop_9 rfl ?_
    refine lv_lconst (v := 0) hx hb dX11_shop_10 (by decide) ?_
    refine lv_ldc2 (v := 3) hx hb C.2.2.2.1 (C.2.2.2.2 _ mw_1105) dX11_shop_11 ?_
    obtain ⟨σ3, r4, hE1, hE⟩ := cl_e hE
    refine x_cis (As := [.long (p2.toInt64), .long 0, .long 3]) (rest := []) C hl.1 hK hs hA ⟨Nat.le_refl 0, Nat.le_refl 0⟩ (ctX11_in l g _ _ _ _ _ _ hE1) (cw_X11_96 C ⟨Nat.le_of_ble_eq_true rfl, Nat.le_of_ble_eq_true rfl⟩) rfl rfl (Nat.le_of_ble_eq_true rfl) dX11_shop_14 (fun H locs hs => ?_)
    refine lv_if_ne (tgt := 22) hx hb dX11_shop_17 (by decide) (fun hc => ?_) (fun hc => ?_)
    · have hE := if_f hc hE
      refine lv_aload_n hx hb dX11_shop_22 rfl (lv_at hl 0 rfl) ?_
      refine lv_iload_n hx hb dX11_shop_23 rfl (lv_at hl 1 rfl) ?_
      refine lv_aload_n hx hb dX11_shop_24 rfl (lv_at hl 0 rfl) ?_
      refine gf_X11_37_0 C hK hs dX11_shop_25 ?_
      refine lv_iconst (v := 1) hx hb dX11_shop_28 (by decide) ?_
      refine lv_iload_n hx hb dX11_shop_29 rfl (lv_at hl 1 rfl) ?_
      refine lv_iadd hx hb dX11_shop_30 ?_
      obtain ⟨hi, x5, ex5, hE⟩ := rd_w hE
      refine y_ald layM C hK hs hi ex5 dX11_shop_31 ?_
      refine lv_iload_n hx hb dX11_shop_32 rfl (lv_at hl 2 rfl) ?_
      obtain ⟨σ6, r7, hE1, hE⟩ := cl_e hE
      refine x_civ (As := [.int p1, .int x5, .int p2]) (rest := []) C hl.1 hK hs hA ⟨Nat.le_refl 0, Nat.le_refl 0⟩ (ctX11_shops l g _ _ _ _ _ _ hE1) (cw_X11_264 C ⟨Nat.le_of_ble_eq_true rfl, Nat.le_of_ble_eq_true rfl⟩) (hs.recv hK 0 (by decide) rfl rfl) rfl rfl (Nat.le_of_ble_eq_true rfl) dX11_shop_33 (fun H locs hs => ?_)
      refine lv_istore_n (lv' := [(3, .int r7), (0, .ref (g.2.1 0)), (1, .int p1), (2, .int p2)]) hx hb dX11_shop_36 rfl hl (by decide) rfl (fun ls hl => ?_)
      refine lv_aload_n hx hb dX11_shop_37 rfl (lv_at hl 1 rfl) ?_
      refine lv_iload_n hx hb dX11_shop_38 rfl (lv_at hl 0 rfl) ?_
      refine lv_aload_n hx hb dX11_shop_39 rfl (lv_at hl 1 rfl) ?_
      refine gf_X11_257_0 C hK hs dX11_shop_40 ?_
      obtain ⟨σ8, r9, hE1, hE⟩ := cl_e hE
      refine x_civ (As := [.int r7, .int (σ6.1 0 30)]) (rest := []) C hl.1 hK hs hA ⟨Nat.le_refl 0, Nat.le_refl 0⟩ (ctX11_answer l g _ _ _ _ _ hE1) (cw_X11_210 C ⟨Nat.le_of_ble_eq_true rfl, Nat.le_of_ble_eq_true rfl⟩) (hs.recv hK 0 (by decide) rfl rfl) rfl rfl (Nat.le_of_ble_eq_true rfl) dX11_shop_43 (fun H locs hs => ?_)
      exact hQ hs hE dX11_shop_46
    · have hE := if_t hc hE
      refine lv_iconst (v := (-1)) hx hb dX11_shop_20 (by decide) ?_
      exact hQ hs hE dX11_shop_21
theorem dX11_best_0 : decode cX11_best 0 = .ok (.aload_n 0, 1) := by decide +kernel
theorem dX11_best_1 : decode cX11_best 1 = .ok (.iload_n 1, 1) := by decide +kernel
theorem dX11_best_2 : decode cX11_best 2 = .ok (.invokevirtual 201, 3) := by decide +kernel
theorem dX11_best_5 : decode cX11_best 5 = .ok (.ifCond .ne 5, 3) := by decide +kernel
theorem dX11_best_8 : decode cX11_best 8 = .ok (.iconst (-1), 1) := by decide +kernel
theorem dX11_best_9 : decode cX11_best 9 = .ok (.ireturn, 1) := by decide +kernel
theorem dX11_best_10 : decode cX11_best 10 = .ok (.iconst 0, 1) := by decide +kernel
theorem dX11_best_11 : decode cX11_best 11 = .ok (.istore_n 2, 1) := by decide +kernel
theorem dX11_best_12 : decode cX11_best 12 = .ok (.iconst (-1), 1) := by decide +kernel
theorem dX11_best_13 : decode cX11_best 13 = .ok (.istore_n 3, 1) := by decide +kernel
theorem dX11_best_14 : decode cX11_best 14 = .ok (.iconst 0, 1) := by decide +kernel
theorem dX11_best_15 : decode cX11_best 15 = .ok (.istore 4, 2) := by decide +kernel
theorem dX11_best_17 : decode cX11_best 17 = .ok (.iload 4, 2) := by decide +kernel
theorem dX11_best_19 : decode cX11_best 19 = .ok (.iconst 4, 1) := by decide +kernel
theorem dX11_best_20 : decode cX11_best 20 = .ok (.if_icmp .ge 55, 3) := by decide +kernel
theorem dX11_best_23 : decode cX11_best 23 = .ok (.aload_n 0, 1) := by decide +kernel
theorem dX11_best_24 : decode cX11_best 24 = .ok (.iload_n 1, 1) := by decide +kernel
theorem dX11_best_25 : decode cX11_best 25 = .ok (.aload_n 0, 1) := by decide +kernel
theorem dX11_best_26 : decode cX11_best 26 = .ok (.getfield 37, 3) := by decide +kernel
theorem dX11_best_29 : decode cX11_best 29 = .ok (.iconst 1, 1) := by decide +kernel
theorem dX11_best_30 : decode cX11_best 30 = .ok (.iload_n 1, 1) := by decide +kernel
theorem dX11_best_31 : decode cX11_best 31 = .ok (.iadd, 1) := by decide +kernel
theorem dX11_best_32 : decode cX11_best 32 = .ok (.iaload, 1) := by decide +kernel
theorem dX11_best_33 : decode cX11_best 33 = .ok (.iload 4, 2) := by decide +kernel
theorem dX11_best_35 : decode cX11_best 35 = .ok (.invokevirtual 264, 3) := by decide +kernel
theorem dX11_best_38 : decode cX11_best 38 = .ok (.invokestatic 267, 3) := by decide +kernel
theorem dX11_best_41 : decode cX11_best 41 = .ok (.istore 5, 2) := by decide +kernel
theorem dX11_best_43 : decode cX11_best 43 = .ok (.iload 5, 2) := by decide +kernel
theorem dX11_best_45 : decode cX11_best 45 = .ok (.iload_n 3, 1) := by decide +kernel
theorem dX11_best_46 : decode cX11_best 46 = .ok (.if_icmp .le 8, 3) := by decide +kernel
theorem dX11_best_49 : decode cX11_best 49 = .ok (.iload 4, 2) := by decide +kernel
theorem dX11_best_51 : decode cX11_best 51 = .ok (.goto 4, 3) := by decide +kernel
theorem dX11_best_54 : decode cX11_best 54 = .ok (.iload_n 2, 1) := by decide +kernel
theorem dX11_best_55 : decode cX11_best 55 = .ok (.istore_n 2, 1) := by decide +kernel
theorem dX11_best_56 : decode cX11_best 56 = .ok (.iload 5, 2) := by decide +kernel
theorem dX11_best_58 : decode cX11_best 58 = .ok (.iload_n 3, 1) := by decide +kernel
theorem dX11_best_59 : decode cX11_best 59 = .ok (.if_icmp .le 8, 3) := by decide +kernel
theorem dX11_best_62 : decode cX11_best 62 = .ok (.iload 5, 2) := by decide +kernel
theorem dX11_best_64 : decode cX11_best 64 = .ok (.goto 4, 3) := by decide +kernel
theorem dX11_best_67 : decode cX11_best 67 = .ok (.iload_n 3, 1) := by decide +kernel
theorem dX11_best_68 : decode cX11_best 68 = .ok (.istore_n 3, 1) := by decide +kernel
theorem dX11_best_69 : decode cX11_best 69 = .ok (.iinc 4 1, 3) := by decide +kernel
theorem dX11_best_72 : decode cX11_best 72 = .ok (.goto (-55), 3) := by decide +kernel
theorem dX11_best_75 : decode cX11_best 75 = .ok (.aload_n 0, 1) := by decide +kernel
theorem dX11_best_76 : decode cX11_best 76 = .ok (.iload_n 2, 1) := by decide +kernel
theorem dX11_best_77 : decode cX11_best 77 = .ok (.iload_n 3, 1) := by decide +kernel
theorem dX11_best_78 : decode cX11_best 78 = .ok (.invokevirtual 210, 3) := by decide +kernel
theorem dX11_best_81 : decode cX11_best 81 = .ok (.ireturn, 1) := by decide +kernel
def fX11_best_L17 (p1 : Int32) : Nat → St → Int32 → Int32 → Int32 → (St → Int32 → Int32 → Int32 → Option (St × Int32)) → Option (St × Int32)
  | 0, _, _, _, _, _ => none
  | n + 1, σ3, v4, v5, v6, k => (if 4 ≤ v6 then k σ3 v4 v5 v6 else rd LM σ3 10 (1 + p1) (fun x7 => cl (fX11_shops σ3 p1 x7 v6) (fun σ8 r9 => cl (fX11_bits σ8 r9) (fun σ10 r11 => pv (if r11 ≤ v5 then v4 else v6) (fun (y13 : Int32) => pv (if r11 ≤ v5 then v5 else r11) (fun (y15 : Int32) => fX11_best_L17 p1 n σ10 y13 y15 (v6 + 1) k))))))
def fX11_best (σ : St) (p1 : Int32) : Option (St × Int32) := cl (fX11_isHouse σ p1) (fun σ1 r2 => (if r2 = 0 then some (σ1, (-1)) else fX11_best_L17 p1 10000 σ1 0 (-1) 0 (fun σ16 v17 v18 v19 => cl (fX11_answer σ16 v17 v18) (fun σ20 r21 => some (σ20, r21)))))
set_option maxHeartbeats 4000000 in
set_option maxRecDepth 100000 in
theorem ctX11_best (l : Launch) (g : GG) (σ : St) (p1 : Int32) (σ' : St) (r : Int32) (hE : fX11_best σ p1 = some (σ', r)) : MI 25 entM l g yX11_best (Cond.code yX11_best cX11_best 6 (some .int) :: gtbl) (rmD 6) [.ref (g.2.1 0), .int p1] σ σ' r := by
  refine mi_i (own := RX11) (lv := [(0, .ref (g.2.1 0)), (1, .int p1)]) (by decide) rfl (Nat.le_of_ble_eq_true rfl) rfl (fun p e s m below meth c ls args Q A H0 H locs C hK hA hQ hs hl => ?_)
  have hx := C.1
  have hb := C.2.1
  unfold fX11_best at hE
  refine lv_aload_n hx hb dX11_best_0 rfl (lv_at hl 0 rfl) ?_
  refine lv_iload_n hx hb dX11_best_1 rfl (lv_at hl 1 rfl) ?_
  obtain ⟨σ1, r2, hE1, hE⟩ := cl_e hE
  refine x_civ (As := [.int p1]) (rest := []) C hl.1 hK hs hA ⟨Nat.le_refl 0, Nat.le_refl 0⟩ (ctX11_isHouse l g _ _ _ _ hE1) (cw_X11_201 C ⟨Nat.le_of_ble_eq_true rfl, Nat.le_of_ble_eq_true rfl⟩) (hs.recv hK 0 (by decide) rfl rfl) rfl rfl (Nat.le_of_ble_eq_true rfl) dX11_best_2 (fun H locs hs => ?_)
  refine lv_if_ne (tgt := 10) hx hb dX11_best_5 (by decide) (fun hc => ?_) (fun hc => ?_)
  · have hE := if_f hc hE
    refine lv_iconst (v := 0) hx hb dX11_best_10 (by decide) ?_
    refine lv_istore_n (lv' := [(2, .int 0), (0, .ref (g.2.1 0)), (1, .int p1)]) hx hb dX11_best_11 rfl hl (by decide) rfl (fun ls hl => ?_)
    refine lv_iconst (v := (-1)) hx hb dX11_best_12 (by decide) ?_
    refine lv_istore_n (lv' := [(3, .int (-1)), (2, .int 0), (0, .ref (g.2.1 0)), (1, .int p1)]) hx hb dX11_best_13 rfl hl (by decide) rfl (fun ls hl => ?_)
    refine lv_iconst (v := 0) hx hb dX11_best_14 (by decide) ?_
    refine lv_istore (lv' := [(4, .int 0), (3, .int (-1)), (2, .int 0), (0, .ref (g.2.1 0)), (1, .int p1)]) hx hb dX11_best_15 hl (by decide) rfl (fun ls hl => ?_)
    have hL17 : ∀ (n : Nat) (σ3 : St) (v4 : Int32) (v5 : Int32) (v6 : Int32) (k : St → Int32 → Int32 → Int32 → Option (St × Int32)), fX11_best_L17 p1 n σ3 v4 v5 v6 k = some (σ', r) → (∀ (σ3 : St) (v4 : Int32) (v5 : Int32) (v6 : Int32) (H : Heap) (locs : List Loc) (ls : Array Slot), HW 25 entM g A H0 H locs σ3 → lv_has ls 6 [(0, .ref (g.2.1 0)), (1, .int p1), (2, .int v4), (3, .int v5), (4, .int v6)] → k σ3 v4 v5 v6 = some (σ', r) → W p l e (rmD 6) s m args below meth c H locs 0 0 Q (F0 m 75 ls [])) → ∀ (H : Heap) (locs : List Loc) (ls : Array Slot), HW 25 entM g A H0 H locs σ3 → lv_has ls 6 [(0, .ref (g.2.1 0)), (1, .int p1), (2, .int v4), (3, .int v5), (4, .int v6)] → W p l e (rmD 6) s m args below meth c H locs 0 0 Q (F0 m 17 ls []) := by
      intro n
      induction n with
      | zero =>
        intro σ3 v4 v5 v6 k hE
        rw [fX11_best_L17] at hE
        exact no_e hE
      | succ n ih =>
        intro σ3 v4 v5 v6 k hE hk H locs ls hs hl
        rw [fX11_best_L17] at hE
        refine lv_iload hx hb dX11_best_17 (lv_at hl 4 rfl) ?_
        refine lv_iconst (v := 4) hx hb dX11_best_19 (by decide) ?_
        refine lv_icmp_ge (tgt := 75) hx hb dX11_best_20 (by decide) (fun hc => ?_) (fun hc => ?_)
        · have hE := if_t hc hE
          exact hk σ3 v4 v5 v6 _ _ _ hs (lv_sub hl [0, 1, 2, 3, 4] rfl) hE
        · have hE := if_f hc hE
          refine lv_aload_n hx hb dX11_best_23 rfl (lv_at hl 0 rfl) ?_
          refine lv_iload_n hx hb dX11_best_24 rfl (lv_at hl 1 rfl) ?_
          refine lv_aload_n hx hb dX11_best_25 rfl (lv_at hl 0 rfl) ?_
          refine gf_X11_37_0 C hK hs dX11_best_26 ?_
          refine lv_iconst (v := 1) hx hb dX11_best_29 (by decide) ?_
          refine lv_iload_n hx hb dX11_best_30 rfl (lv_at hl 1 rfl) ?_
          refine lv_iadd hx hb dX11_best_31 ?_
          obtain ⟨hi, x7, ex7, hE⟩ := rd_w hE
          refine y_ald layM C hK hs hi ex7 dX11_best_32 ?_
          refine lv_iload hx hb dX11_best_33 (lv_at hl 4 rfl) ?_
          obtain ⟨σ8, r9, hE1, hE⟩ := cl_e hE
          refine x_civ (As := [.int p1, .int x7, .int v6]) (rest := []) C hl.1 hK hs hA ⟨Nat.le_refl 0, Nat.le_refl 0⟩ (ctX11_shops l g _ _ _ _ _ _ hE1) (cw_X11_264 C ⟨Nat.le_of_ble_eq_true rfl, Nat.le_of_ble_eq_true rfl⟩) (hs.recv hK 0 (by decide) rfl rfl) rfl rfl (Nat.le_of_ble_eq_true rfl) dX11_best_35 (fun H locs hs => ?_)
          obtain ⟨σ10, r11, hE1, hE⟩ := cl_e hE
          refine x_cis (As := [.int r9]) (rest := []) C hl.1 hK hs hA ⟨Nat.le_refl 0, Nat.le_refl 0⟩ (ctX11_bits l g _ _ _ _ hE1) (cw_X11_267 C ⟨Nat.le_of_ble_eq_true rfl, Nat.le_of_ble_eq_true rfl⟩) rfl rfl (Nat.le_of_ble_eq_true rfl) dX11_best_38 (fun H locs hs => ?_)
          refine lv_istore (lv' := [(5, .int r11), (0, .ref (g.2.1 0)), (1, .int p1), (2, .int v4), (3, .int v5), (4, .int v6)]) hx hb dX11_best_41 hl (by decide) rfl (fun ls hl => ?_)
          refine lv_iload hx hb dX11_best_43 (lv_at hl 0 rfl) ?_
          refine lv_iload_n hx hb dX11_best_45 rfl (lv_at hl 4 rfl) ?_
          refine pvw hE (fun k12 hE hk12 => ?_)
          have hJk12 : ∀ (y13 : Int32) (H : Heap) (locs : List Loc) (ls : Array Slot), HW 25 entM g A H0 H locs σ10 → lv_has ls 6 [(0, .ref (g.2.1 0)), (1, .int p1), (3, .int v5), (4, .int v6), (5, .int r11)] → k12 y13 = some (σ', r) → W p l e (rmD 6) s m args below meth c H locs 0 0 Q (F0 m 55 ls [.int y13]) := by
            intro y13 H locs ls hs hl hE
            have hE := hk12 _ hE
            refine lv_istore_n (lv' := [(2, .int y13), (0, .ref (g.2.1 0)), (1, .int p1), (3, .int v5), (4, .int v6), (5, .int r11)]) hx hb dX11_best_55 rfl hl (by decide) rfl (fun ls hl => ?_)
            refine lv_iload hx hb dX11_best_56 (lv_at hl 5 rfl) ?_
            refine lv_iload_n hx hb dX11_best_58 rfl (lv_at hl 3 rfl) ?_
            refine pvw hE (fun k14 hE hk14 => ?_)
            have hJk14 : ∀ (y15 : Int32) (H : Heap) (locs : List Loc) (ls : Array Slot), HW 25 entM g A H0 H locs σ10 → lv_has ls 6 [(0, .ref (g.2.1 0)), (1, .int p1), (2, .int y13), (4, .int v6)] → k14 y15 = some (σ', r) → W p l e (rmD 6) s m args below meth c H locs 0 0 Q (F0 m 68 ls [.int y15]) := by
              intro y15 H locs ls hs hl hE
              have hE := hk14 _ hE
              refine lv_istore_n (lv' := [(3, .int y15), (0, .ref (g.2.1 0)), (1, .int p1), (2, .int y13), (4, .int v6)]) hx hb dX11_best_68 rfl hl (by decide) rfl (fun ls hl => ?_)
              refine lv_iinc (v := v6 + 1) (lv' := [(4, .int (v6 + 1)), (3, .int y15), (0, .ref (g.2.1 0)), (1, .int p1), (2, .int y13)]) hx hb dX11_best_69 hl (k := 4) rfl rfl (by decide) rfl (fun ls hl => ?_)
              refine lv_goto (tgt := 17) hx hb dX11_best_72 (by decide) ?_
              exact ih _ _ _ _ _ hE hk _ _ _ hs (lv_sub hl [2, 3, 4, 1, 0] rfl)
            refine lv_icmp_le (tgt := 67) hx hb dX11_best_59 (by decide) (fun hc => ?_) (fun hc => ?_)
            · have hE := pv_t hc hE
              refine lv_iload_n hx hb dX11_best_67 rfl (lv_at hl 3 rfl) ?_
              exact hJk14 v5 _ _ _ hs (lv_sub hl [1, 2, 0, 4] rfl) hE
            · have hE := pv_f hc hE
              refine lv_iload hx hb dX11_best_62 (lv_at hl 5 rfl) ?_
              refine lv_goto (tgt := 68) hx hb dX11_best_64 (by decide) ?_
              exact hJk14 r11 _ _ _ hs (lv_sub hl [1, 2, 0, 4] rfl) hE
          refine lv_icmp_le (tgt := 54) hx hb dX11_best_46 (by decide) (fun hc => ?_) (fun hc => ?_)
          · have hE := pv_t hc hE
            refine lv_iload_n hx hb dX11_best_54 rfl (lv_at hl 3 rfl) ?_
            exact hJk12 v4 _ _ _ hs (lv_sub hl [1, 2, 4, 5, 0] rfl) hE
          · have hE := pv_f hc hE
            refine lv_iload hx hb dX11_best_49 (lv_at hl 5 rfl) ?_
            refine lv_goto (tgt := 55) hx hb dX11_best_51 (by decide) ?_
            exact hJk12 v6 _ _ _ hs (lv_sub hl [1, 2, 4, 5, 0] rfl) hE
    refine hL17 _ _ _ _ _ _ hE (fun σ16 v17 v18 v19 H locs ls hs hl hE => ?_) H locs ls hs (lv_sub hl [3, 4, 2, 1, 0] rfl)
    refine lv_aload_n hx hb dX11_best_75 rfl (lv_at hl 0 rfl) ?_
    refine lv_iload_n hx hb dX11_best_76 rfl (lv_at hl 2 rfl) ?_
    refine lv_iload_n hx hb dX11_best_77 rfl (lv_at hl 3 rfl) ?_
    obtain ⟨σ20, r21, hE1, hE⟩ := cl_e hE
    refine x_civ (As := [.int v17, .int v18]) (rest := []) C hl.1 hK hs hA ⟨Nat.le_refl 0, Nat.le_refl 0⟩ (ctX11_answer l g _ _ _ _ _ hE1) (cw_X11_210 C ⟨Nat.le_of_ble_eq_true rfl, Nat.le_of_ble_eq_true rfl⟩) (hs.recv hK 0 (by decide) rfl rfl) rfl rfl (Nat.le_of_ble_eq_true rfl) dX11_best_78 (fun H locs hs => ?_)
    exact hQ hs hE dX11_best_81
  · have hE := if_t hc hE
    refine lv_iconst (v := (-1)) hx hb dX11_best_8 (by decide) ?_
    exact hQ hs hE dX11_best_9
theorem dX11_lacks_0 : decode cX11_lacks 0 = .ok (.aload_n 0, 1) := by decide +kernel
theorem dX11_lacks_1 : decode cX11_lacks 1 = .ok (.getfield 7, 3) := by decide +kernel
theorem dX11_lacks_4 : decode cX11_lacks 4 = .ok (.iload_n 1, 1) := by decide +kernel
theorem dX11_lacks_5 : decode cX11_lacks 5 = .ok (.iaload, 1) := by decide +kernel
theorem dX11_lacks_6 : decode cX11_lacks 6 = .ok (.ifCond .ge 9, 3) := by decide +kernel
theorem dX11_lacks_9 : decode cX11_lacks 9 = .ok (.aload_n 0, 1) := by decide +kernel
theorem dX11_lacks_10 : decode cX11_lacks 10 = .ok (.iconst 1, 1) := by decide +kernel
theorem dX11_lacks_11 : decode cX11_lacks 11 = .ok (.invokevirtual 106, 3) := by decide +kernel
theorem dX11_lacks_14 : decode cX11_lacks 14 = .ok (.ireturn, 1) := by decide +kernel
theorem dX11_lacks_15 : decode cX11_lacks 15 = .ok (.aload_n 0, 1) := by decide +kernel
theorem dX11_lacks_16 : decode cX11_lacks 16 = .ok (.getfield 7, 3) := by decide +kernel
theorem dX11_lacks_19 : decode cX11_lacks 19 = .ok (.iload_n 1, 1) := by decide +kernel
theorem dX11_lacks_20 : decode cX11_lacks 20 = .ok (.iaload, 1) := by decide +kernel
theorem dX11_lacks_21 : decode cX11_lacks 21 = .ok (.i2l, 1) := by decide +kernel
theorem dX11_lacks_22 : decode cX11_lacks 22 = .ok (.lconst 1, 1) := by decide +kernel
theorem dX11_lacks_23 : decode cX11_lacks 23 = .ok (.iload_n 2, 1) := by decide +kernel
theorem dX11_lacks_24 : decode cX11_lacks 24 = .ok (.i2l, 1) := by decide +kernel
theorem dX11_lacks_25 : decode cX11_lacks 25 = .ok (.invokestatic 96, 3) := by decide +kernel
theorem dX11_lacks_28 : decode cX11_lacks 28 = .ok (.ifCond .ne 9, 3) := by decide +kernel
theorem dX11_lacks_31 : decode cX11_lacks 31 = .ok (.aload_n 0, 1) := by decide +kernel
theorem dX11_lacks_32 : decode cX11_lacks 32 = .ok (.iconst 5, 1) := by decide +kernel
theorem dX11_lacks_33 : decode cX11_lacks 33 = .ok (.invokevirtual 106, 3) := by decide +kernel
theorem dX11_lacks_36 : decode cX11_lacks 36 = .ok (.ireturn, 1) := by decide +kernel
theorem dX11_lacks_37 : decode cX11_lacks 37 = .ok (.iconst 0, 1) := by decide +kernel
theorem dX11_lacks_38 : decode cX11_lacks 38 = .ok (.istore 4, 2) := by decide +kernel
theorem dX11_lacks_40 : decode cX11_lacks 40 = .ok (.iload 4, 2) := by decide +kernel
theorem dX11_lacks_42 : decode cX11_lacks 42 = .ok (.aload_n 0, 1) := by decide +kernel
theorem dX11_lacks_43 : decode cX11_lacks 43 = .ok (.getfield 7, 3) := by decide +kernel
theorem dX11_lacks_46 : decode cX11_lacks 46 = .ok (.iload_n 1, 1) := by decide +kernel
theorem dX11_lacks_47 : decode cX11_lacks 47 = .ok (.iaload, 1) := by decide +kernel
theorem dX11_lacks_48 : decode cX11_lacks 48 = .ok (.if_icmp .ge 37, 3) := by decide +kernel
theorem dX11_lacks_51 : decode cX11_lacks 51 = .ok (.aload_n 0, 1) := by decide +kernel
theorem dX11_lacks_52 : decode cX11_lacks 52 = .ok (.getfield 13, 3) := by decide +kernel
theorem dX11_lacks_55 : decode cX11_lacks 55 = .ok (.bipush 40, 2) := by decide +kernel
theorem dX11_lacks_57 : decode cX11_lacks 57 = .ok (.iload_n 1, 1) := by decide +kernel
theorem dX11_lacks_58 : decode cX11_lacks 58 = .ok (.imul, 1) := by decide +kernel
theorem dX11_lacks_59 : decode cX11_lacks 59 = .ok (.iload 4, 2) := by decide +kernel
theorem dX11_lacks_61 : decode cX11_lacks 61 = .ok (.iadd, 1) := by decide +kernel
theorem dX11_lacks_62 : decode cX11_lacks 62 = .ok (.iaload, 1) := by decide +kernel
theorem dX11_lacks_63 : decode cX11_lacks 63 = .ok (.i2l, 1) := by decide +kernel
theorem dX11_lacks_64 : decode cX11_lacks 64 = .ok (.lconst 0, 1) := by decide +kernel
theorem dX11_lacks_65 : decode cX11_lacks 65 = .ok (.iload_n 3, 1) := by decide +kernel
theorem dX11_lacks_66 : decode cX11_lacks 66 = .ok (.i2l, 1) := by decide +kernel
theorem dX11_lacks_67 : decode cX11_lacks 67 = .ok (.invokestatic 96, 3) := by decide +kernel
theorem dX11_lacks_70 : decode cX11_lacks 70 = .ok (.ifCond .ne 9, 3) := by decide +kernel
theorem dX11_lacks_73 : decode cX11_lacks 73 = .ok (.aload_n 0, 1) := by decide +kernel
theorem dX11_lacks_74 : decode cX11_lacks 74 = .ok (.iconst 3, 1) := by decide +kernel
theorem dX11_lacks_75 : decode cX11_lacks 75 = .ok (.invokevirtual 106, 3) := by decide +kernel
theorem dX11_lacks_78 : decode cX11_lacks 78 = .ok (.ireturn, 1) := by decide +kernel
theorem dX11_lacks_79 : decode cX11_lacks 79 = .ok (.iinc 4 1, 3) := by decide +kernel
theorem dX11_lacks_82 : decode cX11_lacks 82 = .ok (.goto (-42), 3) := by decide +kernel
theorem dX11_lacks_85 : decode cX11_lacks 85 = .ok (.iconst 0, 1) := by decide +kernel
theorem dX11_lacks_86 : decode cX11_lacks 86 = .ok (.ireturn, 1) := by decide +kernel
def fX11_lacks_L40 (p1 : Int32) (p3 : Int32) : Nat → St → Int32 → (St → Int32 → Option (St × Int32)) → Option (St × Int32)
  | 0, _, _, _ => none
  | n + 1, σ5, v6, k => rd LM σ5 1 p1 (fun x7 => (if x7 ≤ v6 then k σ5 v6 else rd LM σ5 2 ((40 * p1) + v6) (fun x8 => cl (fX11_in σ5 (x8.toInt64) 0 (p3.toInt64)) (fun σ9 r10 => (if r10 = 0 then cl (fX11_found σ9 3) (fun σ11 r12 => some (σ11, r12)) else fX11_lacks_L40 p1 p3 n σ9 (v6 + 1) k)))))
def fX11_lacks (σ : St) (p1 : Int32) (p2 : Int32) (p3 : Int32) : Option (St × Int32) := rd LM σ 1 p1 (fun x1 => (if 0 ≤ x1 then rd LM σ 1 p1 (fun x2 => cl (fX11_in σ (x2.toInt64) 1 (p2.toInt64)) (fun σ3 r4 => (if r4 = 0 then cl (fX11_found σ3 5) (fun σ15 r16 => some (σ15, r16)) else fX11_lacks_L40 p1 p3 10000 σ3 0 (fun σ13 v14 => some (σ13, 0))))) else cl (fX11_found σ 1) (fun σ17 r18 => some (σ17, r18))))
set_option maxHeartbeats 4000000 in
set_option maxRecDepth 100000 in
theorem ctX11_lacks (l : Launch) (g : GG) (σ : St) (p1 : Int32) (p2 : Int32) (p3 : Int32) (σ' : St) (r : Int32) (hE : fX11_lacks σ p1 p2 p3 = some (σ', r)) : MI 25 entM l g yX11_lacks (Cond.code yX11_lacks cX11_lacks 5 (some .int) :: gtbl) (rmD 2) [.ref (g.2.1 0), .int p1, .int p2, .int p3] σ σ' r := by
  refine mi_i (own := RX11) (lv := [(0, .ref (g.2.1 0)), (1, .int p1), (2, .int p2), (3, .int p3)]) (by decide) rfl (Nat.le_of_ble_eq_true rfl) rfl (fun p e s m below meth c ls args Q A H0 H locs C hK hA hQ hs hl => ?_)
  have hx := C.1
  have hb := C.2.1
  unfold fX11_lacks at hE
  refine lv_aload_n hx hb dX11_lacks_0 rfl (lv_at hl 0 rfl) ?_
  refine gf_X11_7_0 C hK hs dX11_lacks_1 ?_
  refine lv_iload_n hx hb dX11_lacks_4 rfl (lv_at hl 1 rfl) ?_
  obtain ⟨hi, x1, ex1, hE⟩ := rd_w hE
  refine y_ald layM C hK hs hi ex1 dX11_lacks_5 ?_
  refine lv_if_ge (tgt := 15) hx hb dX11_lacks_6 (by decide) (fun hc => ?_) (fun hc => ?_)
  · have hE := if_t hc hE
    refine lv_aload_n hx hb dX11_lacks_15 rfl (lv_at hl 0 rfl) ?_
    refine gf_X11_7_0 C hK hs dX11_lacks_16 ?_
    refine lv_iload_n hx hb dX11_lacks_19 rfl (lv_at hl 1 rfl) ?_
    obtain ⟨hi, x2, ex2, hE⟩ := rd_w hE
    refine y_ald layM C hK hs hi ex2 dX11_lacks_20 ?_
    refine lv_i2l (v := x2.toInt64) hx hb dX11_lacks_21 rfl ?_
    refine lv_lconst (v := 1) hx hb dX11_lacks_22 (by decide) ?_
    refine lv_iload_n hx hb dX11_lacks_23 rfl (lv_at hl 2 rfl) ?_
    refine lv_i2l (v := p2.toInt64) hx hb dX11_lacks_24 rfl ?_
    obtain ⟨σ3, r4, hE1, hE⟩ := cl_e hE
    refine x_cis (As := [.long (x2.toInt64), .long 1, .long (p2.toInt64)]) (rest := []) C hl.1 hK hs hA ⟨Nat.le_refl 0, Nat.le_refl 0⟩ (ctX11_in l g _ _ _ _ _ _ hE1) (cw_X11_96 C ⟨Nat.le_of_ble_eq_true rfl, Nat.le_of_ble_eq_true rfl⟩) rfl rfl (Nat.le_of_ble_eq_true rfl) dX11_lacks_25 (fun H locs hs => ?_)
    refine lv_if_ne (tgt := 37) hx hb dX11_lacks_28 (by decide) (fun hc => ?_) (fun hc => ?_)
    · have hE := if_f hc hE
      refine lv_iconst (v := 0) hx hb dX11_lacks_37 (by decide) ?_
      refine lv_istore (lv' := [(4, .int 0), (0, .ref (g.2.1 0)), (1, .int p1), (2, .int p2), (3, .int p3)]) hx hb dX11_lacks_38 hl (by decide) rfl (fun ls hl => ?_)
      have hL40 : ∀ (n : Nat) (σ5 : St) (v6 : Int32) (k : St → Int32 → Option (St × Int32)), fX11_lacks_L40 p1 p3 n σ5 v6 k = some (σ', r) → (∀ (σ5 : St) (v6 : Int32) (H : Heap) (locs : List Loc) (ls : Array Slot), HW 25 entM g A H0 H locs σ5 → lv_has ls 5 [(0, .ref (g.2.1 0)), (1, .int p1), (3, .int p3), (4, .int v6)] → k σ5 v6 = some (σ', r) → W p l e (rmD 2) s m args below meth c H locs 0 0 Q (F0 m 85 ls [])) → ∀ (H : Heap) (locs : List Loc) (ls : Array Slot), HW 25 entM g A H0 H locs σ5 → lv_has ls 5 [(0, .ref (g.2.1 0)), (1, .int p1), (3, .int p3), (4, .int v6)] → W p l e (rmD 2) s m args below meth c H locs 0 0 Q (F0 m 40 ls []) := by
        intro n
        induction n with
        | zero =>
          intro σ5 v6 k hE
          rw [fX11_lacks_L40] at hE
          exact no_e hE
        | succ n ih =>
          intro σ5 v6 k hE hk H locs ls hs hl
          rw [fX11_lacks_L40] at hE
          refine lv_iload hx hb dX11_lacks_40 (lv_at hl 3 rfl) ?_
          refine lv_aload_n hx hb dX11_lacks_42 rfl (lv_at hl 0 rfl) ?_
          refine gf_X11_7_0 C hK hs dX11_lacks_43 ?_
          refine lv_iload_n hx hb dX11_lacks_46 rfl (lv_at hl 1 rfl) ?_
          obtain ⟨hi, x7, ex7, hE⟩ := rd_w hE
          refine y_ald layM C hK hs hi ex7 dX11_lacks_47 ?_
          refine lv_icmp_ge (tgt := 85) hx hb dX11_lacks_48 (by decide) (fun hc => ?_) (fun hc => ?_)
          · have hE := if_t hc hE
            exact hk σ5 v6 _ _ _ hs (lv_sub hl [0, 1, 2, 3] rfl) hE
          · have hE := if_f hc hE
            refine lv_aload_n hx hb dX11_lacks_51 rfl (lv_at hl 0 rfl) ?_
            refine gf_X11_13_0 C hK hs dX11_lacks_52 ?_
            refine lv_bipush (v := 40) hx hb dX11_lacks_55 (by decide) ?_
            refine lv_iload_n hx hb dX11_lacks_57 rfl (lv_at hl 1 rfl) ?_
            refine lv_imul hx hb dX11_lacks_58 ?_
            refine lv_iload hx hb dX11_lacks_59 (lv_at hl 3 rfl) ?_
            refine lv_iadd hx hb dX11_lacks_61 ?_
            obtain ⟨hi, x8, ex8, hE⟩ := rd_w hE
            refine y_ald layM C hK hs hi ex8 dX11_lacks_62 ?_
            refine lv_i2l (v := x8.toInt64) hx hb dX11_lacks_63 rfl ?_
            refine lv_lconst (v := 0) hx hb dX11_lacks_64 (by decide) ?_
            refine lv_iload_n hx hb dX11_lacks_65 rfl (lv_at hl 2 rfl) ?_
            refine lv_i2l (v := p3.toInt64) hx hb dX11_lacks_66 rfl ?_
            obtain ⟨σ9, r10, hE1, hE⟩ := cl_e hE
            refine x_cis (As := [.long (x8.toInt64), .long 0, .long (p3.toInt64)]) (rest := []) C hl.1 hK hs hA ⟨Nat.le_refl 0, Nat.le_refl 0⟩ (ctX11_in l g _ _ _ _ _ _ hE1) (cw_X11_96 C ⟨Nat.le_of_ble_eq_true rfl, Nat.le_of_ble_eq_true rfl⟩) rfl rfl (Nat.le_of_ble_eq_true rfl) dX11_lacks_67 (fun H locs hs => ?_)
            refine lv_if_ne (tgt := 79) hx hb dX11_lacks_70 (by decide) (fun hc => ?_) (fun hc => ?_)
            · have hE := if_f hc hE
              refine lv_iinc (v := v6 + 1) (lv' := [(4, .int (v6 + 1)), (0, .ref (g.2.1 0)), (1, .int p1), (3, .int p3)]) hx hb dX11_lacks_79 hl (k := 3) rfl rfl (by decide) rfl (fun ls hl => ?_)
              refine lv_goto (tgt := 40) hx hb dX11_lacks_82 (by decide) ?_
              exact ih _ _ _ hE hk _ _ _ hs (lv_sub hl [1, 2, 3, 0] rfl)
            · have hE := if_t hc hE
              refine lv_aload_n hx hb dX11_lacks_73 rfl (lv_at hl 0 rfl) ?_
              refine lv_iconst (v := 3) hx hb dX11_lacks_74 (by decide) ?_
              obtain ⟨σ11, r12, hE1, hE⟩ := cl_e hE
              refine x_civ (As := [.int 3]) (rest := []) C hl.1 hK hs hA ⟨Nat.le_refl 0, Nat.le_refl 0⟩ (ctX11_found l g _ _ _ _ hE1) (cw_X11_106 C ⟨Nat.le_of_ble_eq_true rfl, Nat.le_of_ble_eq_true rfl⟩) (hs.recv hK 0 (by decide) rfl rfl) rfl rfl (Nat.le_of_ble_eq_true rfl) dX11_lacks_75 (fun H locs hs => ?_)
              exact hQ hs hE dX11_lacks_78
      refine hL40 _ _ _ _ hE (fun σ13 v14 H locs ls hs hl hE => ?_) H locs ls hs (lv_sub hl [1, 2, 4, 0] rfl)
      refine lv_iconst (v := 0) hx hb dX11_lacks_85 (by decide) ?_
      exact hQ hs hE dX11_lacks_86
    · have hE := if_t hc hE
      refine lv_aload_n hx hb dX11_lacks_31 rfl (lv_at hl 0 rfl) ?_
      refine lv_iconst (v := 5) hx hb dX11_lacks_32 (by decide) ?_
      obtain ⟨σ15, r16, hE1, hE⟩ := cl_e hE
      refine x_civ (As := [.int 5]) (rest := []) C hl.1 hK hs hA ⟨Nat.le_refl 0, Nat.le_refl 0⟩ (ctX11_found l g _ _ _ _ hE1) (cw_X11_106 C ⟨Nat.le_of_ble_eq_true rfl, Nat.le_of_ble_eq_true rfl⟩) (hs.recv hK 0 (by decide) rfl rfl) rfl rfl (Nat.le_of_ble_eq_true rfl) dX11_lacks_33 (fun H locs hs => ?_)
      exact hQ hs hE dX11_lacks_36
  · have hE := if_f hc hE
    refine lv_aload_n hx hb dX11_lacks_9 rfl (lv_at hl 0 rfl) ?_
    refine lv_iconst (v := 1) hx hb dX11_lacks_10 (by decide) ?_
    obtain ⟨σ17, r18, hE1, hE⟩ := cl_e hE
    refine x_civ (As := [.int 1]) (rest := []) C hl.1 hK hs hA ⟨Nat.le_refl 0, Nat.le_refl 0⟩ (ctX11_found l g _ _ _ _ hE1) (cw_X11_106 C ⟨Nat.le_of_ble_eq_true rfl, Nat.le_of_ble_eq_true rfl⟩) (hs.recv hK 0 (by decide) rfl rfl) rfl rfl (Nat.le_of_ble_eq_true rfl) dX11_lacks_11 (fun H locs hs => ?_)
    exact hQ hs hE dX11_lacks_14
theorem dX11_word_0 : decode cX11_word 0 = .ok (.iload_n 1, 1) := by decide +kernel
theorem dX11_word_1 : decode cX11_word 1 = .ok (.invokestatic 102, 3) := by decide +kernel
theorem dX11_word_4 : decode cX11_word 4 = .ok (.ifCond .ne 5, 3) := by decide +kernel
theorem dX11_word_7 : decode cX11_word 7 = .ok (.iconst (-1), 1) := by decide +kernel
theorem dX11_word_8 : decode cX11_word 8 = .ok (.ireturn, 1) := by decide +kernel
theorem dX11_word_9 : decode cX11_word 9 = .ok (.aload_n 0, 1) := by decide +kernel
theorem dX11_word_10 : decode cX11_word 10 = .ok (.iload_n 1, 1) := by decide +kernel
theorem dX11_word_11 : decode cX11_word 11 = .ok (.bipush 7, 2) := by decide +kernel
theorem dX11_word_13 : decode cX11_word 13 = .ok (.bipush 25, 2) := by decide +kernel
theorem dX11_word_15 : decode cX11_word 15 = .ok (.invokevirtual 270, 3) := by decide +kernel
theorem dX11_word_18 : decode cX11_word 18 = .ok (.istore_n 2, 1) := by decide +kernel
theorem dX11_word_19 : decode cX11_word 19 = .ok (.iload_n 2, 1) := by decide +kernel
theorem dX11_word_20 : decode cX11_word 20 = .ok (.ifCond .ge 5, 3) := by decide +kernel
theorem dX11_word_23 : decode cX11_word 23 = .ok (.iload_n 2, 1) := by decide +kernel
theorem dX11_word_24 : decode cX11_word 24 = .ok (.ireturn, 1) := by decide +kernel
theorem dX11_word_25 : decode cX11_word 25 = .ok (.iconst 0, 1) := by decide +kernel
theorem dX11_word_26 : decode cX11_word 26 = .ok (.istore_n 3, 1) := by decide +kernel
theorem dX11_word_27 : decode cX11_word 27 = .ok (.iload_n 3, 1) := by decide +kernel
theorem dX11_word_28 : decode cX11_word 28 = .ok (.bipush 7, 2) := by decide +kernel
theorem dX11_word_30 : decode cX11_word 30 = .ok (.if_icmp .ge 43, 3) := by decide +kernel
theorem dX11_word_33 : decode cX11_word 33 = .ok (.aload_n 0, 1) := by decide +kernel
theorem dX11_word_34 : decode cX11_word 34 = .ok (.getfield 75, 3) := by decide +kernel
theorem dX11_word_37 : decode cX11_word 37 = .ok (.iload_n 3, 1) := by decide +kernel
theorem dX11_word_38 : decode cX11_word 38 = .ok (.iload_n 3, 1) := by decide +kernel
theorem dX11_word_39 : decode cX11_word 39 = .ok (.aload_n 0, 1) := by decide +kernel
theorem dX11_word_40 : decode cX11_word 40 = .ok (.getfield 7, 3) := by decide +kernel
theorem dX11_word_43 : decode cX11_word 43 = .ok (.iload_n 1, 1) := by decide +kernel
theorem dX11_word_44 : decode cX11_word 44 = .ok (.iaload, 1) := by decide +kernel
theorem dX11_word_45 : decode cX11_word 45 = .ok (.if_icmp .ge 20, 3) := by decide +kernel
theorem dX11_word_48 : decode cX11_word 48 = .ok (.aload_n 0, 1) := by decide +kernel
theorem dX11_word_49 : decode cX11_word 49 = .ok (.getfield 13, 3) := by decide +kernel
theorem dX11_word_52 : decode cX11_word 52 = .ok (.bipush 40, 2) := by decide +kernel
theorem dX11_word_54 : decode cX11_word 54 = .ok (.iload_n 1, 1) := by decide +kernel
theorem dX11_word_55 : decode cX11_word 55 = .ok (.imul, 1) := by decide +kernel
theorem dX11_word_56 : decode cX11_word 56 = .ok (.iload_n 3, 1) := by decide +kernel
theorem dX11_word_57 : decode cX11_word 57 = .ok (.iadd, 1) := by decide +kernel
theorem dX11_word_58 : decode cX11_word 58 = .ok (.iaload, 1) := by decide +kernel
theorem dX11_word_59 : decode cX11_word 59 = .ok (.bipush 97, 2) := by decide +kernel
theorem dX11_word_61 : decode cX11_word 61 = .ok (.iadd, 1) := by decide +kernel
theorem dX11_word_62 : decode cX11_word 62 = .ok (.goto 4, 3) := by decide +kernel
theorem dX11_word_65 : decode cX11_word 65 = .ok (.iconst 0, 1) := by decide +kernel
theorem dX11_word_66 : decode cX11_word 66 = .ok (.iastore, 1) := by decide +kernel
theorem dX11_word_67 : decode cX11_word 67 = .ok (.iinc 3 1, 3) := by decide +kernel
theorem dX11_word_70 : decode cX11_word 70 = .ok (.goto (-43), 3) := by decide +kernel
theorem dX11_word_73 : decode cX11_word 73 = .ok (.bipush (-9), 2) := by decide +kernel
theorem dX11_word_75 : decode cX11_word 75 = .ok (.istore_n 3, 1) := by decide +kernel
theorem dX11_word_76 : decode cX11_word 76 = .ok (.iconst 0, 1) := by decide +kernel
theorem dX11_word_77 : decode cX11_word 77 = .ok (.istore 4, 2) := by decide +kernel
theorem dX11_word_79 : decode cX11_word 79 = .ok (.iload 4, 2) := by decide +kernel
theorem dX11_word_81 : decode cX11_word 81 = .ok (.aload_n 0, 1) := by decide +kernel
theorem dX11_word_82 : decode cX11_word 82 = .ok (.getfield 163, 3) := by decide +kernel
theorem dX11_word_85 : decode cX11_word 85 = .ok (.if_icmp .ge 36, 3) := by decide +kernel
theorem dX11_word_88 : decode cX11_word 88 = .ok (.aload_n 0, 1) := by decide +kernel
theorem dX11_word_89 : decode cX11_word 89 = .ok (.getfield 75, 3) := by decide +kernel
theorem dX11_word_92 : decode cX11_word 92 = .ok (.iconst 0, 1) := by decide +kernel
theorem dX11_word_93 : decode cX11_word 93 = .ok (.aload_n 0, 1) := by decide +kernel
theorem dX11_word_94 : decode cX11_word 94 = .ok (.getfield 28, 3) := by decide +kernel
theorem dX11_word_97 : decode cX11_word 97 = .ok (.bipush 7, 2) := by decide +kernel
theorem dX11_word_99 : decode cX11_word 99 = .ok (.iload 4, 2) := by decide +kernel
theorem dX11_word_101 : decode cX11_word 101 = .ok (.imul, 1) := by decide +kernel
theorem dX11_word_102 : decode cX11_word 102 = .ok (.invokestatic 166, 3) := by decide +kernel
theorem dX11_word_105 : decode cX11_word 105 = .ok (.ifCond .eq 7, 3) := by decide +kernel
theorem dX11_word_108 : decode cX11_word 108 = .ok (.iload_n 3, 1) := by decide +kernel
theorem dX11_word_109 : decode cX11_word 109 = .ok (.goto 5, 3) := by decide +kernel
theorem dX11_word_112 : decode cX11_word 112 = .ok (.iload 4, 2) := by decide +kernel
theorem dX11_word_114 : decode cX11_word 114 = .ok (.istore_n 3, 1) := by decide +kernel
theorem dX11_word_115 : decode cX11_word 115 = .ok (.iinc 4 1, 3) := by decide +kernel
theorem dX11_word_118 : decode cX11_word 118 = .ok (.goto (-39), 3) := by decide +kernel
theorem dX11_word_121 : decode cX11_word 121 = .ok (.iload_n 3, 1) := by decide +kernel
theorem dX11_word_122 : decode cX11_word 122 = .ok (.bipush (-9), 2) := by decide +kernel
theorem dX11_word_124 : decode cX11_word 124 = .ok (.if_icmp .ne 8, 3) := by decide +kernel
theorem dX11_word_127 : decode cX11_word 127 = .ok (.bipush (-9), 2) := by decide +kernel
theorem dX11_word_129 : decode cX11_word 129 = .ok (.goto 32, 3) := by decide +kernel
theorem dX11_word_132 : decode cX11_word 132 = .ok (.aload_n 0, 1) := by decide +kernel
theorem dX11_word_133 : decode cX11_word 133 = .ok (.iload_n 3, 1) := by decide +kernel
theorem dX11_word_134 : decode cX11_word 134 = .ok (.aload_n 0, 1) := by decide +kernel
theorem dX11_word_135 : decode cX11_word 135 = .ok (.getfield 28, 3) := by decide +kernel
theorem dX11_word_138 : decode cX11_word 138 = .ok (.bipush 7, 2) := by decide +kernel
theorem dX11_word_140 : decode cX11_word 140 = .ok (.iload_n 3, 1) := by decide +kernel
theorem dX11_word_141 : decode cX11_word 141 = .ok (.imul, 1) := by decide +kernel
theorem dX11_word_142 : decode cX11_word 142 = .ok (.aload_n 0, 1) := by decide +kernel
theorem dX11_word_143 : decode cX11_word 143 = .ok (.getfield 75, 3) := by decide +kernel
theorem dX11_word_146 : decode cX11_word 146 = .ok (.iconst 0, 1) := by decide +kernel
theorem dX11_word_147 : decode cX11_word 147 = .ok (.invokestatic 166, 3) := by decide +kernel
theorem dX11_word_150 : decode cX11_word 150 = .ok (.ifCond .eq 7, 3) := by decide +kernel
theorem dX11_word_153 : decode cX11_word 153 = .ok (.iconst 0, 1) := by decide +kernel
theorem dX11_word_154 : decode cX11_word 154 = .ok (.goto 4, 3) := by decide +kernel
theorem dX11_word_157 : decode cX11_word 157 = .ok (.iconst 1, 1) := by decide +kernel
theorem dX11_word_158 : decode cX11_word 158 = .ok (.invokevirtual 210, 3) := by decide +kernel
theorem dX11_word_161 : decode cX11_word 161 = .ok (.ireturn, 1) := by decide +kernel
def fX11_word_L79 : Nat → St → Int32 → Int32 → (St → Int32 → Int32 → Option (St × Int32)) → Option (St × Int32)
  | 0, _, _, _, _ => none
  | n + 1, σ14, v15, v16, k => (if (σ14.1 0 7) ≤ v16 then k σ14 v15 v16 else cl (fX11_isAhead σ14 21 0 7 (7 * v16)) (fun σ17 r18 => pv (if r18 = 0 then v16 else v15) (fun (y20 : Int32) => fX11_word_L79 n σ17 y20 (v16 + 1) k)))
def fX11_word_L27 (p1 : Int32) : Nat → St → Int32 → (St → Int32 → Option (St × Int32)) → Option (St × Int32)
  | 0, _, _, _ => none
  | n + 1, σ5, v6, k => (if 7 ≤ v6 then k σ5 v6 else rd LM σ5 1 p1 (fun x7 => jn (fun (y9 : Int32) => wr LM σ5 21 v6 y9 (fun σ10 => fX11_word_L27 p1 n σ10 (v6 + 1) k)) (fun k8 => (if x7 ≤ v6 then k8 0 else rd LM σ5 2 ((40 * p1) + v6) (fun x11 => k8 (x11 + 97))))))
def fX11_word (σ : St) (p1 : Int32) : Option (St × Int32) := cl (fX11_isRow σ p1) (fun σ1 r2 => (if r2 = 0 then some (σ1, (-1)) else cl (fX11_lacks σ1 p1 7 25) (fun σ3 r4 => (if 0 ≤ r4 then fX11_word_L27 p1 10000 σ3 0 (fun σ12 v13 => fX11_word_L79 10000 σ12 (-9) 0 (fun σ21 v22 v23 => (if v22 = (-9) then some (σ21, (-9)) else cl (fX11_isAhead σ21 7 (7 * v22) 21 0) (fun σ24 r25 => pv (if r25 = 0 then 1 else 0) (fun (y27 : Int32) => cl (fX11_answer σ24 v22 y27) (fun σ28 r29 => some (σ28, r29))))))) else some (σ3, r4)))))
set_option maxHeartbeats 4000000 in
set_option maxRecDepth 100000 in
theorem ctX11_word (l : Launch) (g : GG) (σ : St) (p1 : Int32) (σ' : St) (r : Int32) (hE : fX11_word σ p1 = some (σ', r)) : MI 25 entM l g yX11_word (Cond.code yX11_word cX11_word 5 (some .int) :: gtbl) (rmD 3) [.ref (g.2.1 0), .int p1] σ σ' r := by
  refine mi_i (own := RX11) (lv := [(0, .ref (g.2.1 0)), (1, .int p1)]) (by decide) rfl (Nat.le_of_ble_eq_true rfl) rfl (fun p e s m below meth c ls args Q A H0 H locs C hK hA hQ hs hl => ?_)
  have hx := C.1
  have hb := C.2.1
  unfold fX11_word at hE
  refine lv_iload_n hx hb dX11_word_0 rfl (lv_at hl 1 rfl) ?_
  obtain ⟨σ1, r2, hE1, hE⟩ := cl_e hE
  refine x_cis (As := [.int p1]) (rest := []) C hl.1 hK hs hA ⟨Nat.le_refl 0, Nat.le_refl 0⟩ (ctX11_isRow l g _ _ _ _ hE1) (cw_X11_102 C ⟨Nat.le_of_ble_eq_true rfl, Nat.le_of_ble_eq_true rfl⟩) rfl rfl (Nat.le_of_ble_eq_true rfl) dX11_word_1 (fun H locs hs => ?_)
  refine lv_if_ne (tgt := 9) hx hb dX11_word_4 (by decide) (fun hc => ?_) (fun hc => ?_)
  · have hE := if_f hc hE
    refine lv_aload_n hx hb dX11_word_9 rfl (lv_at hl 0 rfl) ?_
    refine lv_iload_n hx hb dX11_word_10 rfl (lv_at hl 1 rfl) ?_
    refine lv_bipush (v := 7) hx hb dX11_word_11 (by decide) ?_
    refine lv_bipush (v := 25) hx hb dX11_word_13 (by decide) ?_
    obtain ⟨σ3, r4, hE1, hE⟩ := cl_e hE
    refine x_civ (As := [.int p1, .int 7, .int 25]) (rest := []) C hl.1 hK hs hA ⟨Nat.le_refl 0, Nat.le_refl 0⟩ (ctX11_lacks l g _ _ _ _ _ _ hE1) (cw_X11_270 C ⟨Nat.le_of_ble_eq_true rfl, Nat.le_of_ble_eq_true rfl⟩) (hs.recv hK 0 (by decide) rfl rfl) rfl rfl (Nat.le_of_ble_eq_true rfl) dX11_word_15 (fun H locs hs => ?_)
    refine lv_istore_n (lv' := [(2, .int r4), (0, .ref (g.2.1 0)), (1, .int p1)]) hx hb dX11_word_18 rfl hl (by decide) rfl (fun ls hl => ?_)
    refine lv_iload_n hx hb dX11_word_19 rfl (lv_at hl 0 rfl) ?_
    refine lv_if_ge (tgt := 25) hx hb dX11_word_20 (by decide) (fun hc => ?_) (fun hc => ?_)
    · have hE := if_t hc hE
      refine lv_iconst (v := 0) hx hb dX11_word_25 (by decide) ?_
      refine lv_istore_n (lv' := [(3, .int 0), (2, .int r4), (0, .ref (g.2.1 0)), (1, .int p1)]) hx hb dX11_word_26 rfl hl (by decide) rfl (fun ls hl => ?_)
      have hL27 : ∀ (n : Nat) (σ5 : St) (v6 : Int32) (k : St → Int32 → Option (St × Int32)), fX11_word_L27 p1 n σ5 v6 k = some (σ', r) → (∀ (σ5 : St) (v6 : Int32) (H : Heap) (locs : List Loc) (ls : Array Slot), HW 25 entM g A H0 H locs σ5 → lv_has ls 5 [(0, .ref (g.2.1 0)), (1, .int p1), (3, .int v6)] → k σ5 v6 = some (σ', r) → W p l e (rmD 3) s m args below meth c H locs 0 0 Q (F0 m 73 ls [])) → ∀ (H : Heap) (locs : List Loc) (ls : Array Slot), HW 25 entM g A H0 H locs σ5 → lv_has ls 5 [(0, .ref (g.2.1 0)), (1, .int p1), (3, .int v6)] → W p l e (rmD 3) s m args below meth c H locs 0 0 Q (F0 m 27 ls []) := by
        intro n
        induction n with
        | zero =>
          intro σ5 v6 k hE
          rw [fX11_word_L27] at hE
          exact no_e hE
        | succ n ih =>
          intro σ5 v6 k hE hk H locs ls hs hl
          rw [fX11_word_L27] at hE
          refine lv_iload_n hx hb dX11_word_27 rfl (lv_at hl 2 rfl) ?_
          refine lv_bipush (v := 7) hx hb dX11_word_28 (by decide) ?_
          refine lv_icmp_ge (tgt := 73) hx hb dX11_word_30 (by decide) (fun hc => ?_) (fun hc => ?_)
          · have hE := if_t hc hE
            exact hk σ5 v6 _ _ _ hs (lv_sub hl [0, 1, 2] rfl) hE
          · have hE := if_f hc hE
            refine lv_aload_n hx hb dX11_word_33 rfl (lv_at hl 0 rfl) ?_
            refine gf_X11_75_0 C hK hs dX11_word_34 ?_
            refine lv_iload_n hx hb dX11_word_37 rfl (lv_at hl 2 rfl) ?_
            refine lv_iload_n hx hb dX11_word_38 rfl (lv_at hl 2 rfl) ?_
            refine lv_aload_n hx hb dX11_word_39 rfl (lv_at hl 0 rfl) ?_
            refine gf_X11_7_0 C hK hs dX11_word_40 ?_
            refine lv_iload_n hx hb dX11_word_43 rfl (lv_at hl 1 rfl) ?_
            obtain ⟨hi, x7, ex7, hE⟩ := rd_w hE
            refine y_ald layM C hK hs hi ex7 dX11_word_44 ?_
            refine jn1 hE (fun k8 hE hk8 => ?_)
            have hJk8 : ∀ (y9 : Int32) (H : Heap) (locs : List Loc) (ls : Array Slot), HW 25 entM g A H0 H locs σ5 → lv_has ls 5 [(0, .ref (g.2.1 0)), (1, .int p1), (3, .int v6)] → k8 y9 = some (σ', r) → W p l e (rmD 3) s m args below meth c H locs 0 0 Q (F0 m 66 ls [.int y9, .int v6, .ref (g.2.1 21)]) := by
              intro y9 H locs ls hs hl hE
              have hE := hk8 _ hE
              obtain ⟨hi, σ10, eσ10, hE⟩ := wr_w hE
              refine y_ast layM C hK hs hi eσ10 dX11_word_66 (fun H locs hs => ?_)
              refine lv_iinc (v := v6 + 1) (lv' := [(3, .int (v6 + 1)), (0, .ref (g.2.1 0)), (1, .int p1)]) hx hb dX11_word_67 hl (k := 2) rfl rfl (by decide) rfl (fun ls hl => ?_)
              refine lv_goto (tgt := 27) hx hb dX11_word_70 (by decide) ?_
              exact ih _ _ _ hE hk _ _ _ hs (lv_sub hl [1, 2, 0] rfl)
            refine lv_icmp_ge (tgt := 65) hx hb dX11_word_45 (by decide) (fun hc => ?_) (fun hc => ?_)
            · have hE := if_t hc hE
              refine lv_iconst (v := 0) hx hb dX11_word_65 (by decide) ?_
              exact hJk8 0 _ _ _ hs (lv_sub hl [0, 1, 2] rfl) hE
            · have hE := if_f hc hE
              refine lv_aload_n hx hb dX11_word_48 rfl (lv_at hl 0 rfl) ?_
              refine gf_X11_13_0 C hK hs dX11_word_49 ?_
              refine lv_bipush (v := 40) hx hb dX11_word_52 (by decide) ?_
              refine lv_iload_n hx hb dX11_word_54 rfl (lv_at hl 1 rfl) ?_
              refine lv_imul hx hb dX11_word_55 ?_
              refine lv_iload_n hx hb dX11_word_56 rfl (lv_at hl 2 rfl) ?_
              refine lv_iadd hx hb dX11_word_57 ?_
              obtain ⟨hi, x11, ex11, hE⟩ := rd_w hE
              refine y_ald layM C hK hs hi ex11 dX11_word_58 ?_
              refine lv_bipush (v := 97) hx hb dX11_word_59 (by decide) ?_
              refine lv_iadd hx hb dX11_word_61 ?_
              refine lv_goto (tgt := 66) hx hb dX11_word_62 (by decide) ?_
              exact hJk8 (x11 + 97) _ _ _ hs (lv_sub hl [0, 1, 2] rfl) hE
      refine hL27 _ _ _ _ hE (fun σ12 v13 H locs ls hs hl hE => ?_) H locs ls hs (lv_sub hl [2, 3, 0] rfl)
      refine lv_bipush (v := (-9)) hx hb dX11_word_73 (by decide) ?_
      refine lv_istore_n (lv' := [(3, .int (-9)), (0, .ref (g.2.1 0)), (1, .int p1)]) hx hb dX11_word_75 rfl hl (by decide) rfl (fun ls hl => ?_)
      refine lv_iconst (v := 0) hx hb dX11_word_76 (by decide) ?_
      refine lv_istore (lv' := [(4, .int 0), (3, .int (-9)), (0, .ref (g.2.1 0)), (1, .int p1)]) hx hb dX11_word_77 hl (by decide) rfl (fun ls hl => ?_)
      have hL79 : ∀ (n : Nat) (σ14 : St) (v15 : Int32) (v16 : Int32) (k : St → Int32 → Int32 → Option (St × Int32)), fX11_word_L79 n σ14 v15 v16 k = some (σ', r) → (∀ (σ14 : St) (v15 : Int32) (v16 : Int32) (H : Heap) (locs : List Loc) (ls : Array Slot), HW 25 entM g A H0 H locs σ14 → lv_has ls 5 [(0, .ref (g.2.1 0)), (3, .int v15), (4, .int v16)] → k σ14 v15 v16 = some (σ', r) → W p l e (rmD 3) s m args below meth c H locs 0 0 Q (F0 m 121 ls [])) → ∀ (H : Heap) (locs : List Loc) (ls : Array Slot), HW 25 entM g A H0 H locs σ14 → lv_has ls 5 [(0, .ref (g.2.1 0)), (3, .int v15), (4, .int v16)] → W p l e (rmD 3) s m args below meth c H locs 0 0 Q (F0 m 79 ls []) := by
        intro n
        induction n with
        | zero =>
          intro σ14 v15 v16 k hE
          rw [fX11_word_L79] at hE
          exact no_e hE
        | succ n ih =>
          intro σ14 v15 v16 k hE hk H locs ls hs hl
          rw [fX11_word_L79] at hE
          refine lv_iload hx hb dX11_word_79 (lv_at hl 2 rfl) ?_
          refine lv_aload_n hx hb dX11_word_81 rfl (lv_at hl 0 rfl) ?_
          refine gf_X11_163_0 C hK hs dX11_word_82 ?_
          refine lv_icmp_ge (tgt := 121) hx hb dX11_word_85 (by decide) (fun hc => ?_) (fun hc => ?_)
          · have hE := if_t hc hE
            exact hk σ14 v15 v16 _ _ _ hs (lv_sub hl [0, 1, 2] rfl) hE
          · have hE := if_f hc hE
            refine lv_aload_n hx hb dX11_word_88 rfl (lv_at hl 0 rfl) ?_
            refine gf_X11_75_0 C hK hs dX11_word_89 ?_
            refine lv_iconst (v := 0) hx hb dX11_word_92 (by decide) ?_
            refine lv_aload_n hx hb dX11_word_93 rfl (lv_at hl 0 rfl) ?_
            refine gf_X11_28_0 C hK hs dX11_word_94 ?_
            refine lv_bipush (v := 7) hx hb dX11_word_97 (by decide) ?_
            refine lv_iload hx hb dX11_word_99 (lv_at hl 2 rfl) ?_
            refine lv_imul hx hb dX11_word_101 ?_
            obtain ⟨σ17, r18, hE1, hE⟩ := cl_e hE
            refine x_cis (As := [.ref (g.2.1 21), .int 0, .ref (g.2.1 7), .int (7 * v16)]) (rest := []) C hl.1 hK hs hA ⟨Nat.le_refl 0, Nat.le_refl 0⟩ (ctX11_isAhead l g _ _ _ _ _ _ _ hE1) (cw_X11_166 C ⟨Nat.le_of_ble_eq_true rfl, Nat.le_of_ble_eq_true rfl⟩) rfl rfl (Nat.le_of_ble_eq_true rfl) dX11_word_102 (fun H locs hs => ?_)
            refine pvw hE (fun k19 hE hk19 => ?_)
            have hJk19 : ∀ (y20 : Int32) (H : Heap) (locs : List Loc) (ls : Array Slot), HW 25 entM g A H0 H locs σ17 → lv_has ls 5 [(0, .ref (g.2.1 0)), (4, .int v16)] → k19 y20 = some (σ', r) → W p l e (rmD 3) s m args below meth c H locs 0 0 Q (F0 m 114 ls [.int y20]) := by
              intro y20 H locs ls hs hl hE
              have hE := hk19 _ hE
              refine lv_istore_n (lv' := [(3, .int y20), (0, .ref (g.2.1 0)), (4, .int v16)]) hx hb dX11_word_114 rfl hl (by decide) rfl (fun ls hl => ?_)
              refine lv_iinc (v := v16 + 1) (lv' := [(4, .int (v16 + 1)), (3, .int y20), (0, .ref (g.2.1 0))]) hx hb dX11_word_115 hl (k := 2) rfl rfl (by decide) rfl (fun ls hl => ?_)
              refine lv_goto (tgt := 79) hx hb dX11_word_118 (by decide) ?_
              exact ih _ _ _ _ hE hk _ _ _ hs (lv_sub hl [2, 1, 0] rfl)
            refine lv_if_eq (tgt := 112) hx hb dX11_word_105 (by decide) (fun hc => ?_) (fun hc => ?_)
            · have hE := pv_t hc hE
              refine lv_iload hx hb dX11_word_112 (lv_at hl 2 rfl) ?_
              exact hJk19 v16 _ _ _ hs (lv_sub hl [0, 2] rfl) hE
            · have hE := pv_f hc hE
              refine lv_iload_n hx hb dX11_word_108 rfl (lv_at hl 1 rfl) ?_
              refine lv_goto (tgt := 114) hx hb dX11_word_109 (by decide) ?_
              exact hJk19 v15 _ _ _ hs (lv_sub hl [0, 2] rfl) hE
      refine hL79 _ _ _ _ _ hE (fun σ21 v22 v23 H locs ls hs hl hE => ?_) H locs ls hs (lv_sub hl [2, 1, 0] rfl)
      refine lv_iload_n hx hb dX11_word_121 rfl (lv_at hl 1 rfl) ?_
      refine lv_bipush (v := (-9)) hx hb dX11_word_122 (by decide) ?_
      refine lv_icmp_ne (tgt := 132) hx hb dX11_word_124 (by decide) (fun hc => ?_) (fun hc => ?_)
      · have hE := if_f hc hE
        refine lv_aload_n hx hb dX11_word_132 rfl (lv_at hl 0 rfl) ?_
        refine lv_iload_n hx hb dX11_word_133 rfl (lv_at hl 1 rfl) ?_
        refine lv_aload_n hx hb dX11_word_134 rfl (lv_at hl 0 rfl) ?_
        refine gf_X11_28_0 C hK hs dX11_word_135 ?_
        refine lv_bipush (v := 7) hx hb dX11_word_138 (by decide) ?_
        refine lv_iload_n hx hb dX11_word_140 rfl (lv_at hl 1 rfl) ?_
        refine lv_imul hx hb dX11_word_141 ?_
        refine lv_aload_n hx hb dX11_word_142 rfl (lv_at hl 0 rfl) ?_
        refine gf_X11_75_0 C hK hs dX11_word_143 ?_
        refine lv_iconst (v := 0) hx hb dX11_word_146 (by decide) ?_
        obtain ⟨σ24, r25, hE1, hE⟩ := cl_e hE
        refine x_cis (As := [.ref (g.2.1 7), .int (7 * v22), .ref (g.2.1 21), .int 0]) (rest := [.int v22, .ref (g.2.1 0)]) C hl.1 hK hs hA ⟨Nat.le_refl 0, Nat.le_refl 0⟩ (ctX11_isAhead l g _ _ _ _ _ _ _ hE1) (cw_X11_166 C ⟨Nat.le_of_ble_eq_true rfl, Nat.le_of_ble_eq_true rfl⟩) rfl rfl (Nat.le_of_ble_eq_true rfl) dX11_word_147 (fun H locs hs => ?_)
        refine pvw hE (fun k26 hE hk26 => ?_)
        have hJk26 : ∀ (y27 : Int32) (H : Heap) (locs : List Loc) (ls : Array Slot), HW 25 entM g A H0 H locs σ24 → lv_has ls 5 [] → k26 y27 = some (σ', r) → W p l e (rmD 3) s m args below meth c H locs 0 0 Q (F0 m 158 ls [.int y27, .int v22, .ref (g.2.1 0)]) := by
          intro y27 H locs ls hs hl hE
          have hE := hk26 _ hE
          obtain ⟨σ28, r29, hE1, hE⟩ := cl_e hE
          refine x_civ (As := [.int v22, .int y27]) (rest := []) C hl.1 hK hs hA ⟨Nat.le_refl 0, Nat.le_refl 0⟩ (ctX11_answer l g _ _ _ _ _ hE1) (cw_X11_210 C ⟨Nat.le_of_ble_eq_true rfl, Nat.le_of_ble_eq_true rfl⟩) (hs.recv hK 0 (by decide) rfl rfl) rfl rfl (Nat.le_of_ble_eq_true rfl) dX11_word_158 (fun H locs hs => ?_)
          exact hQ hs hE dX11_word_161
        refine lv_if_eq (tgt := 157) hx hb dX11_word_150 (by decide) (fun hc => ?_) (fun hc => ?_)
        · have hE := pv_t hc hE
          refine lv_iconst (v := 1) hx hb dX11_word_157 (by decide) ?_
          exact hJk26 1 _ _ _ hs (lv_sub hl [] rfl) hE
        · have hE := pv_f hc hE
          refine lv_iconst (v := 0) hx hb dX11_word_153 (by decide) ?_
          refine lv_goto (tgt := 158) hx hb dX11_word_154 (by decide) ?_
          exact hJk26 0 _ _ _ hs (lv_sub hl [] rfl) hE
      · have hE := if_t hc hE
        refine lv_bipush (v := (-9)) hx hb dX11_word_127 (by decide) ?_
        refine lv_goto (tgt := 161) hx hb dX11_word_129 (by decide) ?_
        exact hQ hs hE dX11_word_161
    · have hE := if_f hc hE
      refine lv_iload_n hx hb dX11_word_23 rfl (lv_at hl 0 rfl) ?_
      exact hQ hs hE dX11_word_24
  · have hE := if_t hc hE
    refine lv_iconst (v := (-1)) hx hb dX11_word_7 (by decide) ?_
    exact hQ hs hE dX11_word_8
theorem dX11_fits_0 : decode cX11_fits 0 = .ok (.aload_n 0, 1) := by decide +kernel
theorem dX11_fits_1 : decode cX11_fits 1 = .ok (.getfield 37, 3) := by decide +kernel
theorem dX11_fits_4 : decode cX11_fits 4 = .ok (.iconst 1, 1) := by decide +kernel
theorem dX11_fits_5 : decode cX11_fits 5 = .ok (.iload_n 1, 1) := by decide +kernel
theorem dX11_fits_6 : decode cX11_fits 6 = .ok (.iadd, 1) := by decide +kernel
theorem dX11_fits_7 : decode cX11_fits 7 = .ok (.iaload, 1) := by decide +kernel
theorem dX11_fits_8 : decode cX11_fits 8 = .ok (.istore 5, 2) := by decide +kernel
theorem dX11_fits_10 : decode cX11_fits 10 = .ok (.iconst 1, 1) := by decide +kernel
theorem dX11_fits_11 : decode cX11_fits 11 = .ok (.istore 6, 2) := by decide +kernel
theorem dX11_fits_13 : decode cX11_fits 13 = .ok (.iconst 0, 1) := by decide +kernel
theorem dX11_fits_14 : decode cX11_fits 14 = .ok (.istore 7, 2) := by decide +kernel
theorem dX11_fits_16 : decode cX11_fits 16 = .ok (.iload 7, 2) := by decide +kernel
theorem dX11_fits_18 : decode cX11_fits 18 = .ok (.aload_n 0, 1) := by decide +kernel
theorem dX11_fits_19 : decode cX11_fits 19 = .ok (.getfield 7, 3) := by decide +kernel
theorem dX11_fits_22 : decode cX11_fits 22 = .ok (.iload_n 2, 1) := by decide +kernel
theorem dX11_fits_23 : decode cX11_fits 23 = .ok (.iaload, 1) := by decide +kernel
theorem dX11_fits_24 : decode cX11_fits 24 = .ok (.if_icmp .ge 48, 3) := by decide +kernel
theorem dX11_fits_27 : decode cX11_fits 27 = .ok (.iload 6, 2) := by decide +kernel
theorem dX11_fits_29 : decode cX11_fits 29 = .ok (.ifCond .eq 43, 3) := by decide +kernel
theorem dX11_fits_32 : decode cX11_fits 32 = .ok (.iload_n 3, 1) := by decide +kernel
theorem dX11_fits_33 : decode cX11_fits 33 = .ok (.iload 5, 2) := by decide +kernel
theorem dX11_fits_35 : decode cX11_fits 35 = .ok (.iload 4, 2) := by decide +kernel
theorem dX11_fits_37 : decode cX11_fits 37 = .ok (.invokestatic 216, 3) := by decide +kernel
theorem dX11_fits_40 : decode cX11_fits 40 = .ok (.istore 5, 2) := by decide +kernel
theorem dX11_fits_42 : decode cX11_fits 42 = .ok (.iload 5, 2) := by decide +kernel
theorem dX11_fits_44 : decode cX11_fits 44 = .ok (.aload_n 0, 1) := by decide +kernel
theorem dX11_fits_45 : decode cX11_fits 45 = .ok (.getfield 13, 3) := by decide +kernel
theorem dX11_fits_48 : decode cX11_fits 48 = .ok (.bipush 40, 2) := by decide +kernel
theorem dX11_fits_50 : decode cX11_fits 50 = .ok (.iload_n 2, 1) := by decide +kernel
theorem dX11_fits_51 : decode cX11_fits 51 = .ok (.imul, 1) := by decide +kernel
theorem dX11_fits_52 : decode cX11_fits 52 = .ok (.iload 7, 2) := by decide +kernel
theorem dX11_fits_54 : decode cX11_fits 54 = .ok (.iadd, 1) := by decide +kernel
theorem dX11_fits_55 : decode cX11_fits 55 = .ok (.iaload, 1) := by decide +kernel
theorem dX11_fits_56 : decode cX11_fits 56 = .ok (.if_icmp .ne 7, 3) := by decide +kernel
theorem dX11_fits_59 : decode cX11_fits 59 = .ok (.iconst 1, 1) := by decide +kernel
theorem dX11_fits_60 : decode cX11_fits 60 = .ok (.goto 4, 3) := by decide +kernel
theorem dX11_fits_63 : decode cX11_fits 63 = .ok (.iconst 0, 1) := by decide +kernel
theorem dX11_fits_64 : decode cX11_fits 64 = .ok (.istore 6, 2) := by decide +kernel
theorem dX11_fits_66 : decode cX11_fits 66 = .ok (.iinc 7 1, 3) := by decide +kernel
theorem dX11_fits_69 : decode cX11_fits 69 = .ok (.goto (-53), 3) := by decide +kernel
theorem dX11_fits_72 : decode cX11_fits 72 = .ok (.iload 6, 2) := by decide +kernel
theorem dX11_fits_74 : decode cX11_fits 74 = .ok (.ireturn, 1) := by decide +kernel
def fX11_fits_L16 (p2 : Int32) (p3 : Int32) (p4 : Int32) : Nat → St → Int32 → Int32 → Int32 → (St → Int32 → Int32 → Int32 → Option (St × Int32)) → Option (St × Int32)
  | 0, _, _, _, _, _ => none
  | n + 1, σ2, v3, v4, v5, k => rd LM σ2 1 p2 (fun x6 => (if x6 ≤ v5 then k σ2 v3 v4 v5 else (if v4 = 0 then k σ2 v3 v4 v5 else cl (fX11_nextPurse σ2 p3 v3 p4) (fun σ7 r8 => rd LM σ7 2 ((40 * p2) + v5) (fun x9 => pv (if r8 = x9 then 1 else 0) (fun (y11 : Int32) => fX11_fits_L16 p2 p3 p4 n σ7 r8 y11 (v5 + 1) k))))))
def fX11_fits (σ : St) (p1 : Int32) (p2 : Int32) (p3 : Int32) (p4 : Int32) : Option (St × Int32) := rd LM σ 10 (1 + p1) (fun x1 => fX11_fits_L16 p2 p3 p4 10000 σ x1 1 0 (fun σ12 v13 v14 v15 => gd (isB v14) (some (σ12, v14))))
set_option maxHeartbeats 4000000 in
set_option maxRecDepth 100000 in
theorem ctX11_fits (l : Launch) (g : GG) (σ : St) (p1 : Int32) (p2 : Int32) (p3 : Int32) (p4 : Int32) (σ' : St) (r : Int32) (hE : fX11_fits σ p1 p2 p3 p4 = some (σ', r)) : MI 25 entM l g yX11_fits (Cond.code yX11_fits cX11_fits 8 (some .boolean) :: gtbl) (rmD 3) [.ref (g.2.1 0), .int p1, .int p2, .int p3, .int p4] σ σ' r := by
  refine mi_z (own := RX11) (lv := [(0, .ref (g.2.1 0)), (1, .int p1), (2, .int p2), (3, .int p3), (4, .int p4)]) (by decide) rfl (Nat.le_of_ble_eq_true rfl) rfl (fun p e s m below meth c ls args Q A H0 H locs C hK hA hQ hs hl => ?_)
  have hx := C.1
  have hb := C.2.1
  unfold fX11_fits at hE
  refine lv_aload_n hx hb dX11_fits_0 rfl (lv_at hl 0 rfl) ?_
  refine gf_X11_37_0 C hK hs dX11_fits_1 ?_
  refine lv_iconst (v := 1) hx hb dX11_fits_4 (by decide) ?_
  refine lv_iload_n hx hb dX11_fits_5 rfl (lv_at hl 1 rfl) ?_
  refine lv_iadd hx hb dX11_fits_6 ?_
  obtain ⟨hi, x1, ex1, hE⟩ := rd_w hE
  refine y_ald layM C hK hs hi ex1 dX11_fits_7 ?_
  refine lv_istore (lv' := [(5, .int x1), (0, .ref (g.2.1 0)), (1, .int p1), (2, .int p2), (3, .int p3), (4, .int p4)]) hx hb dX11_fits_8 hl (by decide) rfl (fun ls hl => ?_)
  refine lv_iconst (v := 1) hx hb dX11_fits_10 (by decide) ?_
  refine lv_istore (lv' := [(6, .int 1), (5, .int x1), (0, .ref (g.2.1 0)), (1, .int p1), (2, .int p2), (3, .int p3), (4, .int p4)]) hx hb dX11_fits_11 hl (by decide) rfl (fun ls hl => ?_)
  refine lv_iconst (v := 0) hx hb dX11_fits_13 (by decide) ?_
  refine lv_istore (lv' := [(7, .int 0), (6, .int 1), (5, .int x1), (0, .ref (g.2.1 0)), (1, .int p1), (2, .int p2), (3, .int p3), (4, .int p4)]) hx hb dX11_fits_14 hl (by decide) rfl (fun ls hl => ?_)
  have hL16 : ∀ (n : Nat) (σ2 : St) (v3 : Int32) (v4 : Int32) (v5 : Int32) (k : St → Int32 → Int32 → Int32 → Option (St × Int32)), fX11_fits_L16 p2 p3 p4 n σ2 v3 v4 v5 k = some (σ', r) → (∀ (σ2 : St) (v3 : Int32) (v4 : Int32) (v5 : Int32) (H : Heap) (locs : List Loc) (ls : Array Slot), HW 25 entM g A H0 H locs σ2 → lv_has ls 8 [(0, .ref (g.2.1 0)), (2, .int p2), (3, .int p3), (4, .int p4), (5, .int v3), (6, .int v4), (7, .int v5)] → k σ2 v3 v4 v5 = some (σ', r) → W p l e (rmD 3) s m args below meth c H locs 0 0 Q (F0 m 72 ls [])) → ∀ (H : Heap) (locs : List Loc) (ls : Array Slot), HW 25 entM g A H0 H locs σ2 → lv_has ls 8 [(0, .ref (g.2.1 0)), (2, .int p2), (3, .int p3), (4, .int p4), (5, .int v3), (6, .int v4), (7, .int v5)] → W p l e (rmD 3) s m args below meth c H locs 0 0 Q (F0 m 16 ls []) := by
    intro n
    induction n with
    | zero =>
      intro σ2 v3 v4 v5 k hE
      rw [fX11_fits_L16] at hE
      exact no_e hE
    | succ n ih =>
      intro σ2 v3 v4 v5 k hE hk H locs ls hs hl
      rw [fX11_fits_L16] at hE
      refine lv_iload hx hb dX11_fits_16 (lv_at hl 6 rfl) ?_
      refine lv_aload_n hx hb dX11_fits_18 rfl (lv_at hl 0 rfl) ?_
      refine gf_X11_7_0 C hK hs dX11_fits_19 ?_
      refine lv_iload_n hx hb dX11_fits_22 rfl (lv_at hl 1 rfl) ?_
      obtain ⟨hi, x6, ex6, hE⟩ := rd_w hE
      refine y_ald layM C hK hs hi ex6 dX11_fits_23 ?_
      refine lv_icmp_ge (tgt := 72) hx hb dX11_fits_24 (by decide) (fun hc => ?_) (fun hc => ?_)
      · have hE := if_t hc hE
        exact hk σ2 v3 v4 v5 _ _ _ hs (lv_sub hl [0, 1, 2, 3, 4, 5, 6] rfl) hE
      · have hE := if_f hc hE
        refine lv_iload hx hb dX11_fits_27 (lv_at hl 5 rfl) ?_
        refine lv_if_eq (tgt := 72) hx hb dX11_fits_29 (by decide) (fun hc => ?_) (fun hc => ?_)
        · have hE := if_t hc hE
          exact hk σ2 v3 v4 v5 _ _ _ hs (lv_sub hl [0, 1, 2, 3, 4, 5, 6] rfl) hE
        · have hE := if_f hc hE
          refine lv_iload_n hx hb dX11_fits_32 rfl (lv_at hl 2 rfl) ?_
          refine lv_iload hx hb dX11_fits_33 (lv_at hl 4 rfl) ?_
          refine lv_iload hx hb dX11_fits_35 (lv_at hl 3 rfl) ?_
          obtain ⟨σ7, r8, hE1, hE⟩ := cl_e hE
          refine x_cis (As := [.int p3, .int v3, .int p4]) (rest := []) C hl.1 hK hs hA ⟨Nat.le_refl 0, Nat.le_refl 0⟩ (ctX11_nextPurse l g _ _ _ _ _ _ hE1) (cw_X11_216 C ⟨Nat.le_of_ble_eq_true rfl, Nat.le_of_ble_eq_true rfl⟩) rfl rfl (Nat.le_of_ble_eq_true rfl) dX11_fits_37 (fun H locs hs => ?_)
          refine lv_istore (lv' := [(5, .int r8), (0, .ref (g.2.1 0)), (2, .int p2), (3, .int p3), (4, .int p4), (6, .int v4), (7, .int v5)]) hx hb dX11_fits_40 hl (by decide) rfl (fun ls hl => ?_)
          refine lv_iload hx hb dX11_fits_42 (lv_at hl 0 rfl) ?_
          refine lv_aload_n hx hb dX11_fits_44 rfl (lv_at hl 1 rfl) ?_
          refine gf_X11_13_0 C hK hs dX11_fits_45 ?_
          refine lv_bipush (v := 40) hx hb dX11_fits_48 (by decide) ?_
          refine lv_iload_n hx hb dX11_fits_50 rfl (lv_at hl 2 rfl) ?_
          refine lv_imul hx hb dX11_fits_51 ?_
          refine lv_iload hx hb dX11_fits_52 (lv_at hl 6 rfl) ?_
          refine lv_iadd hx hb dX11_fits_54 ?_
          obtain ⟨hi, x9, ex9, hE⟩ := rd_w hE
          refine y_ald layM C hK hs hi ex9 dX11_fits_55 ?_
          refine pvw hE (fun k10 hE hk10 => ?_)
          have hJk10 : ∀ (y11 : Int32) (H : Heap) (locs : List Loc) (ls : Array Slot), HW 25 entM g A H0 H locs σ7 → lv_has ls 8 [(0, .ref (g.2.1 0)), (2, .int p2), (3, .int p3), (4, .int p4), (5, .int r8), (7, .int v5)] → k10 y11 = some (σ', r) → W p l e (rmD 3) s m args below meth c H locs 0 0 Q (F0 m 64 ls [.int y11]) := by
            intro y11 H locs ls hs hl hE
            have hE := hk10 _ hE
            refine lv_istore (lv' := [(6, .int y11), (0, .ref (g.2.1 0)), (2, .int p2), (3, .int p3), (4, .int p4), (5, .int r8), (7, .int v5)]) hx hb dX11_fits_64 hl (by decide) rfl (fun ls hl => ?_)
            refine lv_iinc (v := v5 + 1) (lv' := [(7, .int (v5 + 1)), (6, .int y11), (0, .ref (g.2.1 0)), (2, .int p2), (3, .int p3), (4, .int p4), (5, .int r8)]) hx hb dX11_fits_66 hl (k := 6) rfl rfl (by decide) rfl (fun ls hl => ?_)
            refine lv_goto (tgt := 16) hx hb dX11_fits_69 (by decide) ?_
            exact ih _ _ _ _ _ hE hk _ _ _ hs (lv_sub hl [2, 3, 4, 5, 6, 1, 0] rfl)
          refine lv_icmp_ne (tgt := 63) hx hb dX11_fits_56 (by decide) (fun hc => ?_) (fun hc => ?_)
          · have hE := pv_f hc hE
            refine lv_iconst (v := 0) hx hb dX11_fits_63 (by decide) ?_
            exact hJk10 0 _ _ _ hs (lv_sub hl [1, 2, 3, 4, 0, 6] rfl) hE
          · have hE := pv_t hc hE
            refine lv_iconst (v := 1) hx hb dX11_fits_59 (by decide) ?_
            refine lv_goto (tgt := 64) hx hb dX11_fits_60 (by decide) ?_
            exact hJk10 1 _ _ _ hs (lv_sub hl [1, 2, 3, 4, 0, 6] rfl) hE
  refine hL16 _ _ _ _ _ _ hE (fun σ12 v13 v14 v15 H locs ls hs hl hE => ?_) H locs ls hs (lv_sub hl [3, 5, 6, 7, 2, 1, 0] rfl)
  refine lv_iload hx hb dX11_fits_72 (lv_at hl 5 rfl) ?_
  obtain ⟨hc, hE⟩ := gd_e hE
  exact hQ hs hc hE dX11_fits_74
theorem dX11_kindsBy_0 : decode cX11_kindsBy 0 = .ok (.iconst 0, 1) := by decide +kernel
theorem dX11_kindsBy_1 : decode cX11_kindsBy 1 = .ok (.istore_n 3, 1) := by decide +kernel
theorem dX11_kindsBy_2 : decode cX11_kindsBy 2 = .ok (.iconst 0, 1) := by decide +kernel
theorem dX11_kindsBy_3 : decode cX11_kindsBy 3 = .ok (.istore 4, 2) := by decide +kernel
theorem dX11_kindsBy_5 : decode cX11_kindsBy 5 = .ok (.iload 4, 2) := by decide +kernel
theorem dX11_kindsBy_7 : decode cX11_kindsBy 7 = .ok (.bipush 6, 2) := by decide +kernel
theorem dX11_kindsBy_9 : decode cX11_kindsBy 9 = .ok (.if_icmp .ge 37, 3) := by decide +kernel
theorem dX11_kindsBy_12 : decode cX11_kindsBy 12 = .ok (.iload_n 3, 1) := by decide +kernel
theorem dX11_kindsBy_13 : decode cX11_kindsBy 13 = .ok (.aload_n 0, 1) := by decide +kernel
theorem dX11_kindsBy_14 : decode cX11_kindsBy 14 = .ok (.iload_n 1, 1) := by decide +kernel
theorem dX11_kindsBy_15 : decode cX11_kindsBy 15 = .ok (.iload_n 2, 1) := by decide +kernel
theorem dX11_kindsBy_16 : decode cX11_kindsBy 16 = .ok (.iload 4, 2) := by decide +kernel
theorem dX11_kindsBy_18 : decode cX11_kindsBy 18 = .ok (.aload_n 0, 1) := by decide +kernel
theorem dX11_kindsBy_19 : decode cX11_kindsBy 19 = .ok (.getfield 25, 3) := by decide +kernel
theorem dX11_kindsBy_22 : decode cX11_kindsBy 22 = .ok (.iload_n 1, 1) := by decide +kernel
theorem dX11_kindsBy_23 : decode cX11_kindsBy 23 = .ok (.iaload, 1) := by decide +kernel
theorem dX11_kindsBy_24 : decode cX11_kindsBy 24 = .ok (.invokevirtual 273, 3) := by decide +kernel
theorem dX11_kindsBy_27 : decode cX11_kindsBy 27 = .ok (.ifCond .eq 10, 3) := by decide +kernel
theorem dX11_kindsBy_30 : decode cX11_kindsBy 30 = .ok (.iconst 1, 1) := by decide +kernel
theorem dX11_kindsBy_31 : decode cX11_kindsBy 31 = .ok (.iload 4, 2) := by decide +kernel
theorem dX11_kindsBy_33 : decode cX11_kindsBy 33 = .ok (.ishl, 1) := by decide +kernel
theorem dX11_kindsBy_34 : decode cX11_kindsBy 34 = .ok (.goto 4, 3) := by decide +kernel
theorem dX11_kindsBy_37 : decode cX11_kindsBy 37 = .ok (.iconst 0, 1) := by decide +kernel
theorem dX11_kindsBy_38 : decode cX11_kindsBy 38 = .ok (.ior, 1) := by decide +kernel
theorem dX11_kindsBy_39 : decode cX11_kindsBy 39 = .ok (.istore_n 3, 1) := by decide +kernel
theorem dX11_kindsBy_40 : decode cX11_kindsBy 40 = .ok (.iinc 4 1, 3) := by decide +kernel
theorem dX11_kindsBy_43 : decode cX11_kindsBy 43 = .ok (.goto (-38), 3) := by decide +kernel
theorem dX11_kindsBy_46 : decode cX11_kindsBy 46 = .ok (.iload_n 3, 1) := by decide +kernel
theorem dX11_kindsBy_47 : decode cX11_kindsBy 47 = .ok (.ireturn, 1) := by decide +kernel
def fX11_kindsBy_L5 (p1 : Int32) (p2 : Int32) : Nat → St → Int32 → Int32 → (St → Int32 → Int32 → Option (St × Int32)) → Option (St × Int32)
  | 0, _, _, _, _ => none
  | n + 1, σ1, v2, v3, k => (if 6 ≤ v3 then k σ1 v2 v3 else rd LM σ1 6 p1 (fun x4 => cl (fX11_fits σ1 p1 p2 v3 x4) (fun σ5 r6 => pv (α := Int32) (if r6 = 0 then 0 else (1 <<< (v3 &&& 31))) (fun (y8 : Int32) => fX11_kindsBy_L5 p1 p2 n σ5 (v2 ||| y8) (v3 + 1) k))))
def fX11_kindsBy (σ : St) (p1 : Int32) (p2 : Int32) : Option (St × Int32) := fX11_kindsBy_L5 p1 p2 10000 σ 0 0 (fun σ9 v10 v11 => some (σ9, v10))
set_option maxHeartbeats 4000000 in
set_option maxRecDepth 100000 in
theorem ctX11_kindsBy (l : Launch) (g : GG) (σ : St) (p1 : Int32) (p2 : Int32) (σ' : St) (r : Int32) (hE : fX11_kindsBy σ p1 p2 = some (σ', r)) : MI 25 entM l g yX11_kindsBy (Cond.code yX11_kindsBy cX11_kindsBy 5 (some .int) :: gtbl) (rmD 4) [.ref (g.2.1 0), .int p1, .int p2] σ σ' r := by
  refine mi_i (own := RX11) (lv := [(0, .ref (g.2.1 0)), (1, .int p1), (2, .int p2)]) (by decide) rfl (Nat.le_of_ble_eq_true rfl) rfl (fun p e s m below meth c ls args Q A H0 H locs C hK hA hQ hs hl => ?_)
  have hx := C.1
  have hb := C.2.1
  unfold fX11_kindsBy at hE
  refine lv_iconst (v := 0) hx hb dX11_kindsBy_0 (by decide) ?_
  refine lv_istore_n (lv' := [(3, .int 0), (0, .ref (g.2.1 0)), (1, .int p1), (2, .int p2)]) hx hb dX11_kindsBy_1 rfl hl (by decide) rfl (fun ls hl => ?_)
  refine lv_iconst (v := 0) hx hb dX11_kindsBy_2 (by decide) ?_
  refine lv_istore (lv' := [(4, .int 0), (3, .int 0), (0, .ref (g.2.1 0)), (1, .int p1), (2, .int p2)]) hx hb dX11_kindsBy_3 hl (by decide) rfl (fun ls hl => ?_)
  have hL5 : ∀ (n : Nat) (σ1 : St) (v2 : Int32) (v3 : Int32) (k : St → Int32 → Int32 → Option (St × Int32)), fX11_kindsBy_L5 p1 p2 n σ1 v2 v3 k = some (σ', r) → (∀ (σ1 : St) (v2 : Int32) (v3 : Int32) (H : Heap) (locs : List Loc) (ls : Array Slot), HW 25 entM g A H0 H locs σ1 → lv_has ls 5 [(0, .ref (g.2.1 0)), (1, .int p1), (2, .int p2), (3, .int v2), (4, .int v3)] → k σ1 v2 v3 = some (σ', r) → W p l e (rmD 4) s m args below meth c H locs 0 0 Q (F0 m 46 ls [])) → ∀ (H : Heap) (locs : List Loc) (ls : Array Slot), HW 25 entM g A H0 H locs σ1 → lv_has ls 5 [(0, .ref (g.2.1 0)), (1, .int p1), (2, .int p2), (3, .int v2), (4, .int v3)] → W p l e (rmD 4) s m args below meth c H locs 0 0 Q (F0 m 5 ls []) := by
    intro n
    induction n with
    | zero =>
      intro σ1 v2 v3 k hE
      rw [fX11_kindsBy_L5] at hE
      exact no_e hE
    | succ n ih =>
      intro σ1 v2 v3 k hE hk H locs ls hs hl
      rw [fX11_kindsBy_L5] at hE
      refine lv_iload hx hb dX11_kindsBy_5 (lv_at hl 4 rfl) ?_
      refine lv_bipush (v := 6) hx hb dX11_kindsBy_7 (by decide) ?_
      refine lv_icmp_ge (tgt := 46) hx hb dX11_kindsBy_9 (by decide) (fun hc => ?_) (fun hc => ?_)
      · have hE := if_t hc hE
        exact hk σ1 v2 v3 _ _ _ hs (lv_sub hl [0, 1, 2, 3, 4] rfl) hE
      · have hE := if_f hc hE
        refine lv_iload_n hx hb dX11_kindsBy_12 rfl (lv_at hl 3 rfl) ?_
        refine lv_aload_n hx hb dX11_kindsBy_13 rfl (lv_at hl 0 rfl) ?_
        refine lv_iload_n hx hb dX11_kindsBy_14 rfl (lv_at hl 1 rfl) ?_
        refine lv_iload_n hx hb dX11_kindsBy_15 rfl (lv_at hl 2 rfl) ?_
        refine lv_iload hx hb dX11_kindsBy_16 (lv_at hl 4 rfl) ?_
        refine lv_aload_n hx hb dX11_kindsBy_18 rfl (lv_at hl 0 rfl) ?_
        refine gf_X11_25_0 C hK hs dX11_kindsBy_19 ?_
        refine lv_iload_n hx hb dX11_kindsBy_22 rfl (lv_at hl 1 rfl) ?_
        obtain ⟨hi, x4, ex4, hE⟩ := rd_w hE
        refine y_ald layM C hK hs hi ex4 dX11_kindsBy_23 ?_
        obtain ⟨σ5, r6, hE1, hE⟩ := cl_e hE
        refine x_civ (As := [.int p1, .int p2, .int v3, .int x4]) (rest := [.int v2]) C hl.1 hK hs hA ⟨Nat.le_refl 0, Nat.le_refl 0⟩ (ctX11_fits l g _ _ _ _ _ _ _ hE1) (cw_X11_273 C ⟨Nat.le_of_ble_eq_true rfl, Nat.le_of_ble_eq_true rfl⟩) (hs.recv hK 0 (by decide) rfl rfl) rfl rfl (Nat.le_of_ble_eq_true rfl) dX11_kindsBy_24 (fun H locs hs => ?_)
        refine pvw hE (fun k7 hE hk7 => ?_)
        have hJk7 : ∀ (y8 : Int32) (H : Heap) (locs : List Loc) (ls : Array Slot), HW 25 entM g A H0 H locs σ5 → lv_has ls 5 [(0, .ref (g.2.1 0)), (1, .int p1), (2, .int p2), (4, .int v3)] → k7 y8 = some (σ', r) → W p l e (rmD 4) s m args below meth c H locs 0 0 Q (F0 m 38 ls [.int y8, .int v2]) := by
          intro y8 H locs ls hs hl hE
          have hE := hk7 _ hE
          refine lv_ior hx hb dX11_kindsBy_38 ?_
          refine lv_istore_n (lv' := [(3, .int (v2 ||| y8)), (0, .ref (g.2.1 0)), (1, .int p1), (2, .int p2), (4, .int v3)]) hx hb dX11_kindsBy_39 rfl hl (by decide) rfl (fun ls hl => ?_)
          refine lv_iinc (v := v3 + 1) (lv' := [(4, .int (v3 + 1)), (3, .int (v2 ||| y8)), (0, .ref (g.2.1 0)), (1, .int p1), (2, .int p2)]) hx hb dX11_kindsBy_40 hl (k := 4) rfl rfl (by decide) rfl (fun ls hl => ?_)
          refine lv_goto (tgt := 5) hx hb dX11_kindsBy_43 (by decide) ?_
          exact ih _ _ _ _ hE hk _ _ _ hs (lv_sub hl [2, 3, 4, 1, 0] rfl)
        refine lv_if_eq (tgt := 37) hx hb dX11_kindsBy_27 (by decide) (fun hc => ?_) (fun hc => ?_)
        · have hE := pv_t hc hE
          refine lv_iconst (v := 0) hx hb dX11_kindsBy_37 (by decide) ?_
          exact hJk7 0 _ _ _ hs (lv_sub hl [0, 1, 2, 4] rfl) hE
        · have hE := pv_f hc hE
          refine lv_iconst (v := 1) hx hb dX11_kindsBy_30 (by decide) ?_
          refine lv_iload hx hb dX11_kindsBy_31 (lv_at hl 4 rfl) ?_
          refine lv_ishl hx hb dX11_kindsBy_33 ?_
          refine lv_goto (tgt := 38) hx hb dX11_kindsBy_34 (by decide) ?_
          exact hJk7 (1 <<< (v3 &&& 31)) _ _ _ hs (lv_sub hl [0, 1, 2, 4] rfl) hE
  refine hL5 _ _ _ _ _ hE (fun σ9 v10 v11 H locs ls hs hl hE => ?_) H locs ls hs (lv_sub hl [2, 3, 4, 1, 0] rfl)
  refine lv_iload_n hx hb dX11_kindsBy_46 rfl (lv_at hl 3 rfl) ?_
  exact hQ hs hE dX11_kindsBy_47
theorem dX11_kinds_0 : decode cX11_kinds 0 = .ok (.aload_n 0, 1) := by decide +kernel
theorem dX11_kinds_1 : decode cX11_kinds 1 = .ok (.iload_n 1, 1) := by decide +kernel
theorem dX11_kinds_2 : decode cX11_kinds 2 = .ok (.invokevirtual 201, 3) := by decide +kernel
theorem dX11_kinds_5 : decode cX11_kinds 5 = .ok (.ifCond .eq 10, 3) := by decide +kernel
theorem dX11_kinds_8 : decode cX11_kinds 8 = .ok (.iload_n 2, 1) := by decide +kernel
theorem dX11_kinds_9 : decode cX11_kinds 9 = .ok (.invokestatic 102, 3) := by decide +kernel
theorem dX11_kinds_12 : decode cX11_kinds 12 = .ok (.ifCond .ne 5, 3) := by decide +kernel
theorem dX11_kinds_15 : decode cX11_kinds 15 = .ok (.iconst (-1), 1) := by decide +kernel
theorem dX11_kinds_16 : decode cX11_kinds 16 = .ok (.ireturn, 1) := by decide +kernel
theorem dX11_kinds_17 : decode cX11_kinds 17 = .ok (.aload_n 0, 1) := by decide +kernel
theorem dX11_kinds_18 : decode cX11_kinds 18 = .ok (.iload_n 2, 1) := by decide +kernel
theorem dX11_kinds_19 : decode cX11_kinds 19 = .ok (.bipush 20, 2) := by decide +kernel
theorem dX11_kinds_21 : decode cX11_kinds 21 = .ok (.bipush 99, 2) := by decide +kernel
theorem dX11_kinds_23 : decode cX11_kinds 23 = .ok (.invokevirtual 270, 3) := by decide +kernel
theorem dX11_kinds_26 : decode cX11_kinds 26 = .ok (.istore_n 3, 1) := by decide +kernel
theorem dX11_kinds_27 : decode cX11_kinds 27 = .ok (.iload_n 3, 1) := by decide +kernel
theorem dX11_kinds_28 : decode cX11_kinds 28 = .ok (.ifCond .ge 7, 3) := by decide +kernel
theorem dX11_kinds_31 : decode cX11_kinds 31 = .ok (.iload_n 3, 1) := by decide +kernel
theorem dX11_kinds_32 : decode cX11_kinds 32 = .ok (.goto 9, 3) := by decide +kernel
theorem dX11_kinds_35 : decode cX11_kinds 35 = .ok (.aload_n 0, 1) := by decide +kernel
theorem dX11_kinds_36 : decode cX11_kinds 36 = .ok (.iload_n 1, 1) := by decide +kernel
theorem dX11_kinds_37 : decode cX11_kinds 37 = .ok (.iload_n 2, 1) := by decide +kernel
theorem dX11_kinds_38 : decode cX11_kinds 38 = .ok (.invokevirtual 276, 3) := by decide +kernel
theorem dX11_kinds_41 : decode cX11_kinds 41 = .ok (.ireturn, 1) := by decide +kernel
def fX11_kinds (σ : St) (p1 : Int32) (p2 : Int32) : Option (St × Int32) := cl (fX11_isHouse σ p1) (fun σ1 r2 => (if r2 = 0 then some (σ1, (-1)) else cl (fX11_isRow σ1 p2) (fun σ3 r4 => (if r4 = 0 then some (σ3, (-1)) else cl (fX11_lacks σ3 p2 20 99) (fun σ5 r6 => (if 0 ≤ r6 then cl (fX11_kindsBy σ5 p1 p2) (fun σ7 r8 => some (σ7, r8)) else some (σ5, r6)))))))
set_option maxHeartbeats 4000000 in
set_option maxRecDepth 100000 in
theorem ctX11_kinds (l : Launch) (g : GG) (σ : St) (p1 : Int32) (p2 : Int32) (σ' : St) (r : Int32) (hE : fX11_kinds σ p1 p2 = some (σ', r)) : MI 25 entM l g yX11_kinds (Cond.code yX11_kinds cX11_kinds 4 (some .int) :: gtbl) (rmD 5) [.ref (g.2.1 0), .int p1, .int p2] σ σ' r := by
  refine mi_i (own := RX11) (lv := [(0, .ref (g.2.1 0)), (1, .int p1), (2, .int p2)]) (by decide) rfl (Nat.le_of_ble_eq_true rfl) rfl (fun p e s m below meth c ls args Q A H0 H locs C hK hA hQ hs hl => ?_)
  have hx := C.1
  have hb := C.2.1
  unfold fX11_kinds at hE
  refine lv_aload_n hx hb dX11_kinds_0 rfl (lv_at hl 0 rfl) ?_
  refine lv_iload_n hx hb dX11_kinds_1 rfl (lv_at hl 1 rfl) ?_
  obtain ⟨σ1, r2, hE1, hE⟩ := cl_e hE
  refine x_civ (As := [.int p1]) (rest := []) C hl.1 hK hs hA ⟨Nat.le_refl 0, Nat.le_refl 0⟩ (ctX11_isHouse l g _ _ _ _ hE1) (cw_X11_201 C ⟨Nat.le_of_ble_eq_true rfl, Nat.le_of_ble_eq_true rfl⟩) (hs.recv hK 0 (by decide) rfl rfl) rfl rfl (Nat.le_of_ble_eq_true rfl) dX11_kinds_2 (fun H locs hs => ?_)
  refine lv_if_eq (tgt := 15) hx hb dX11_kinds_5 (by decide) (fun hc => ?_) (fun hc => ?_)
  · have hE := if_t hc hE
    refine lv_iconst (v := (-1)) hx hb dX11_kinds_15 (by decide) ?_
    exact hQ hs hE dX11_kinds_16
  · have hE := if_f hc hE
    refine lv_iload_n hx hb dX11_kinds_8 rfl (lv_at hl 2 rfl) ?_
    obtain ⟨σ3, r4, hE1, hE⟩ := cl_e hE
    refine x_cis (As := [.int p2]) (rest := []) C hl.1 hK hs hA ⟨Nat.le_refl 0, Nat.le_refl 0⟩ (ctX11_isRow l g _ _ _ _ hE1) (cw_X11_102 C ⟨Nat.le_of_ble_eq_true rfl, Nat.le_of_ble_eq_true rfl⟩) rfl rfl (Nat.le_of_ble_eq_true rfl) dX11_kinds_9 (fun H locs hs => ?_)
    refine lv_if_ne (tgt := 17) hx hb dX11_kinds_12 (by decide) (fun hc => ?_) (fun hc => ?_)
    · have hE := if_f hc hE
      refine lv_aload_n hx hb dX11_kinds_17 rfl (lv_at hl 0 rfl) ?_
      refine lv_iload_n hx hb dX11_kinds_18 rfl (lv_at hl 2 rfl) ?_
      refine lv_bipush (v := 20) hx hb dX11_kinds_19 (by decide) ?_
      refine lv_bipush (v := 99) hx hb dX11_kinds_21 (by decide) ?_
      obtain ⟨σ5, r6, hE1, hE⟩ := cl_e hE
      refine x_civ (As := [.int p2, .int 20, .int 99]) (rest := []) C hl.1 hK hs hA ⟨Nat.le_refl 0, Nat.le_refl 0⟩ (ctX11_lacks l g _ _ _ _ _ _ hE1) (cw_X11_270 C ⟨Nat.le_of_ble_eq_true rfl, Nat.le_of_ble_eq_true rfl⟩) (hs.recv hK 0 (by decide) rfl rfl) rfl rfl (Nat.le_of_ble_eq_true rfl) dX11_kinds_23 (fun H locs hs => ?_)
      refine lv_istore_n (lv' := [(3, .int r6), (0, .ref (g.2.1 0)), (1, .int p1), (2, .int p2)]) hx hb dX11_kinds_26 rfl hl (by decide) rfl (fun ls hl => ?_)
      refine lv_iload_n hx hb dX11_kinds_27 rfl (lv_at hl 0 rfl) ?_
      refine lv_if_ge (tgt := 35) hx hb dX11_kinds_28 (by decide) (fun hc => ?_) (fun hc => ?_)
      · have hE := if_t hc hE
        refine lv_aload_n hx hb dX11_kinds_35 rfl (lv_at hl 1 rfl) ?_
        refine lv_iload_n hx hb dX11_kinds_36 rfl (lv_at hl 2 rfl) ?_
        refine lv_iload_n hx hb dX11_kinds_37 rfl (lv_at hl 3 rfl) ?_
        obtain ⟨σ7, r8, hE1, hE⟩ := cl_e hE
        refine x_civ (As := [.int p1, .int p2]) (rest := []) C hl.1 hK hs hA ⟨Nat.le_refl 0, Nat.le_refl 0⟩ (ctX11_kindsBy l g _ _ _ _ _ hE1) (cw_X11_276 C ⟨Nat.le_of_ble_eq_true rfl, Nat.le_of_ble_eq_true rfl⟩) (hs.recv hK 0 (by decide) rfl rfl) rfl rfl (Nat.le_of_ble_eq_true rfl) dX11_kinds_38 (fun H locs hs => ?_)
        exact hQ hs hE dX11_kinds_41
      · have hE := if_f hc hE
        refine lv_iload_n hx hb dX11_kinds_31 rfl (lv_at hl 0 rfl) ?_
        refine lv_goto (tgt := 41) hx hb dX11_kinds_32 (by decide) ?_
        exact hQ hs hE dX11_kinds_41
    · have hE := if_t hc hE
      refine lv_iconst (v := (-1)) hx hb dX11_kinds_15 (by decide) ?_
      exact hQ hs hE dX11_kinds_16
