theorem dX11_next_0 : decode cX11_next 0 = .ok (.bipush (-9), 2) := by decide +kernel
theorem dX11_next_2 : decode cX11_next 2 = .ok (.istore_n 1, 1) := by decide +kernel
theorem dX11_next_3 : decode cX11_next 3 = .ok (.sipush 999, 3) := by decide +kernel
theorem dX11_next_6 : decode cX11_next 6 = .ok (.istore_n 2, 1) := by decide +kernel
theorem dX11_next_7 : decode cX11_next 7 = .ok (.iconst 0, 1) := by decide +kernel
theorem dX11_next_8 : decode cX11_next 8 = .ok (.istore_n 3, 1) := by decide +kernel
theorem dX11_next_9 : decode cX11_next 9 = .ok (.iload_n 3, 1) := by decide +kernel
theorem dX11_next_10 : decode cX11_next 10 = .ok (.aload_n 0, 1) := by decide +kernel
theorem dX11_next_11 : decode cX11_next 11 = .ok (.getfield 160, 3) := by decide +kernel
theorem dX11_next_14 : decode cX11_next 14 = .ok (.if_icmp .ge 83, 3) := by decide +kernel
theorem dX11_next_17 : decode cX11_next 17 = .ok (.iconst 0, 1) := by decide +kernel
theorem dX11_next_18 : decode cX11_next 18 = .ok (.istore 4, 2) := by decide +kernel
theorem dX11_next_20 : decode cX11_next 20 = .ok (.iload 4, 2) := by decide +kernel
theorem dX11_next_22 : decode cX11_next 22 = .ok (.aload_n 0, 1) := by decide +kernel
theorem dX11_next_23 : decode cX11_next 23 = .ok (.getfield 163, 3) := by decide +kernel
theorem dX11_next_26 : decode cX11_next 26 = .ok (.if_icmp .ge 65, 3) := by decide +kernel
theorem dX11_next_29 : decode cX11_next 29 = .ok (.aload_n 0, 1) := by decide +kernel
theorem dX11_next_30 : decode cX11_next 30 = .ok (.getfield 37, 3) := by decide +kernel
theorem dX11_next_33 : decode cX11_next 33 = .ok (.iload_n 3, 1) := by decide +kernel
theorem dX11_next_34 : decode cX11_next 34 = .ok (.iload 4, 2) := by decide +kernel
theorem dX11_next_36 : decode cX11_next 36 = .ok (.invokestatic 184, 3) := by decide +kernel
theorem dX11_next_39 : decode cX11_next 39 = .ok (.ifCond .eq 46, 3) := by decide +kernel
theorem dX11_next_42 : decode cX11_next 42 = .ok (.aload_n 0, 1) := by decide +kernel
theorem dX11_next_43 : decode cX11_next 43 = .ok (.getfield 37, 3) := by decide +kernel
theorem dX11_next_46 : decode cX11_next 46 = .ok (.bipush 7, 2) := by decide +kernel
theorem dX11_next_48 : decode cX11_next 48 = .ok (.bipush 8, 2) := by decide +kernel
theorem dX11_next_50 : decode cX11_next 50 = .ok (.iload_n 3, 1) := by decide +kernel
theorem dX11_next_51 : decode cX11_next 51 = .ok (.imul, 1) := by decide +kernel
theorem dX11_next_52 : decode cX11_next 52 = .ok (.iadd, 1) := by decide +kernel
theorem dX11_next_53 : decode cX11_next 53 = .ok (.iload 4, 2) := by decide +kernel
theorem dX11_next_55 : decode cX11_next 55 = .ok (.iadd, 1) := by decide +kernel
theorem dX11_next_56 : decode cX11_next 56 = .ok (.iaload, 1) := by decide +kernel
theorem dX11_next_57 : decode cX11_next 57 = .ok (.iload_n 2, 1) := by decide +kernel
theorem dX11_next_58 : decode cX11_next 58 = .ok (.if_icmp .ge 27, 3) := by decide +kernel
theorem dX11_next_61 : decode cX11_next 61 = .ok (.aload_n 0, 1) := by decide +kernel
theorem dX11_next_62 : decode cX11_next 62 = .ok (.getfield 37, 3) := by decide +kernel
theorem dX11_next_65 : decode cX11_next 65 = .ok (.bipush 7, 2) := by decide +kernel
theorem dX11_next_67 : decode cX11_next 67 = .ok (.bipush 8, 2) := by decide +kernel
theorem dX11_next_69 : decode cX11_next 69 = .ok (.iload_n 3, 1) := by decide +kernel
theorem dX11_next_70 : decode cX11_next 70 = .ok (.imul, 1) := by decide +kernel
theorem dX11_next_71 : decode cX11_next 71 = .ok (.iadd, 1) := by decide +kernel
theorem dX11_next_72 : decode cX11_next 72 = .ok (.iload 4, 2) := by decide +kernel
theorem dX11_next_74 : decode cX11_next 74 = .ok (.iadd, 1) := by decide +kernel
theorem dX11_next_75 : decode cX11_next 75 = .ok (.iaload, 1) := by decide +kernel
theorem dX11_next_76 : decode cX11_next 76 = .ok (.istore_n 2, 1) := by decide +kernel
theorem dX11_next_77 : decode cX11_next 77 = .ok (.bipush 10, 2) := by decide +kernel
theorem dX11_next_79 : decode cX11_next 79 = .ok (.iload_n 3, 1) := by decide +kernel
theorem dX11_next_80 : decode cX11_next 80 = .ok (.imul, 1) := by decide +kernel
theorem dX11_next_81 : decode cX11_next 81 = .ok (.iload 4, 2) := by decide +kernel
theorem dX11_next_83 : decode cX11_next 83 = .ok (.iadd, 1) := by decide +kernel
theorem dX11_next_84 : decode cX11_next 84 = .ok (.istore_n 1, 1) := by decide +kernel
theorem dX11_next_85 : decode cX11_next 85 = .ok (.iinc 4 1, 3) := by decide +kernel
theorem dX11_next_88 : decode cX11_next 88 = .ok (.goto (-68), 3) := by decide +kernel
theorem dX11_next_91 : decode cX11_next 91 = .ok (.iinc 3 1, 3) := by decide +kernel
theorem dX11_next_94 : decode cX11_next 94 = .ok (.goto (-85), 3) := by decide +kernel
theorem dX11_next_97 : decode cX11_next 97 = .ok (.iload_n 1, 1) := by decide +kernel
theorem dX11_next_98 : decode cX11_next 98 = .ok (.bipush (-9), 2) := by decide +kernel
theorem dX11_next_100 : decode cX11_next 100 = .ok (.if_icmp .ne 8, 3) := by decide +kernel
theorem dX11_next_103 : decode cX11_next 103 = .ok (.bipush (-9), 2) := by decide +kernel
theorem dX11_next_105 : decode cX11_next 105 = .ok (.goto 9, 3) := by decide +kernel
theorem dX11_next_108 : decode cX11_next 108 = .ok (.aload_n 0, 1) := by decide +kernel
theorem dX11_next_109 : decode cX11_next 109 = .ok (.iload_n 1, 1) := by decide +kernel
theorem dX11_next_110 : decode cX11_next 110 = .ok (.iload_n 2, 1) := by decide +kernel
theorem dX11_next_111 : decode cX11_next 111 = .ok (.invokevirtual 210, 3) := by decide +kernel
theorem dX11_next_114 : decode cX11_next 114 = .ok (.ireturn, 1) := by decide +kernel
def fX11_next_L20 (v4 : Int32) : Nat → St → Int32 → Int32 → Int32 → (St → Int32 → Int32 → Int32 → Option (St × Int32)) → Option (St × Int32)
  | 0, _, _, _, _, _ => none
  | n + 1, σ5, v6, v7, v8, k => (if (σ5.1 0 7) ≤ v8 then k σ5 v6 v7 v8 else cl (fX11_owns σ5 10 v4 v8) (fun σ9 r10 => jn (fun (z12 : Int32) (z13 : Int32) => fX11_next_L20 v4 n σ9 z12 z13 (v8 + 1) k) (fun k11 => (if r10 = 0 then k11 v6 v7 else rd LM σ9 10 ((7 + (8 * v4)) + v8) (fun x14 => (if v7 ≤ x14 then k11 v6 v7 else rd LM σ9 10 ((7 + (8 * v4)) + v8) (fun x15 => k11 ((10 * v4) + v8) x15)))))))
def fX11_next_L9 : Nat → St → Int32 → Int32 → Int32 → (St → Int32 → Int32 → Int32 → Option (St × Int32)) → Option (St × Int32)
  | 0, _, _, _, _, _ => none
  | n + 1, σ1, v2, v3, v4, k => (if (σ1.1 0 4) ≤ v4 then k σ1 v2 v3 v4 else fX11_next_L20 v4 10000 σ1 v2 v3 0 (fun σ16 v17 v18 v19 => fX11_next_L9 n σ16 v17 v18 (v4 + 1) k))
def fX11_next (σ : St) : Option (St × Int32) := fX11_next_L9 10000 σ (-9) 999 0 (fun σ20 v21 v22 v23 => (if v21 = (-9) then some (σ20, (-9)) else cl (fX11_answer σ20 v21 v22) (fun σ24 r25 => some (σ24, r25))))
set_option maxHeartbeats 4000000 in
set_option maxRecDepth 100000 in
theorem ctX11_next (l : Launch) (g : GG) (σ : St) (σ' : St) (r : Int32) (hE : fX11_next σ  = some (σ', r)) : MI 25 entM l g yX11_next (Cond.code yX11_next cX11_next 5 (some .int) :: gtbl) (rmD 2) [.ref (g.2.1 0)] σ σ' r := by
  refine mi_i (own := RX11) (lv := [(0, .ref (g.2.1 0))]) (by decide) rfl (Nat.le_of_ble_eq_true rfl) rfl (fun p e s m below meth c ls args Q A H0 H locs C hK hA hQ hs hl => ?_)
  have hx := C.1
  have hb := C.2.1
  unfold fX11_next at hE
  refine lv_bipush (v := (-9)) hx hb dX11_next_0 (by decide) ?_
  refine lv_istore_n (lv' := [(1, .int (-9)), (0, .ref (g.2.1 0))]) hx hb dX11_next_2 rfl hl (by decide) rfl (fun ls hl => ?_)
  refine lv_sipush (v := 999) hx hb dX11_next_3 (by decide) ?_
  refine lv_istore_n (lv' := [(2, .int 999), (1, .int (-9)), (0, .ref (g.2.1 0))]) hx hb dX11_next_6 rfl hl (by decide) rfl (fun ls hl => ?_)
  refine lv_iconst (v := 0) hx hb dX11_next_7 (by decide) ?_
  refine lv_istore_n (lv' := [(3, .int 0), (2, .int 999), (1, .int (-9)), (0, .ref (g.2.1 0))]) hx hb dX11_next_8 rfl hl (by decide) rfl (fun ls hl => ?_)
  have hL9 : ∀ (n : Nat) (σ1 : St) (v2 : Int32) (v3 : Int32) (v4 : Int32) (k : St → Int32 → Int32 → Int32 → Option (St × Int32)), fX11_next_L9 n σ1 v2 v3 v4 k = some (σ', r) → (∀ (σ1 : St) (v2 : Int32) (v3 : Int32) (v4 : Int32) (H : Heap) (locs : List Loc) (ls : Array Slot), HW 25 entM g A H0 H locs σ1 → lv_has ls 5 [(0, .ref (g.2.1 0)), (1, .int v2), (2, .int v3), (3, .int v4)] → k σ1 v2 v3 v4 = some (σ', r) → W p l e (rmD 2) s m args below meth c H locs 0 0 Q (F0 m 97 ls [])) → ∀ (H : Heap) (locs : List Loc) (ls : Array Slot), HW 25 entM g A H0 H locs σ1 → lv_has ls 5 [(0, .ref (g.2.1 0)), (1, .int v2), (2, .int v3), (3, .int v4)] → W p l e (rmD 2) s m args below meth c H locs 0 0 Q (F0 m 9 ls []) := by
    intro n
    induction n with
    | zero =>
      intro σ1 v2 v3 v4 k hE
      rw [fX11_next_L9] at hE
      exact no_e hE
    | succ n ih =>
      intro σ1 v2 v3 v4 k hE hk H locs ls hs hl
      rw [fX11_next_L9] at hE
      refine lv_iload_n hx hb dX11_next_9 rfl (lv_at hl 3 rfl) ?_
      refine lv_aload_n hx hb dX11_next_10 rfl (lv_at hl 0 rfl) ?_
      refine gf_X11_160_0 C hK hs dX11_next_11 ?_
      refine lv_icmp_ge (tgt := 97) hx hb dX11_next_14 (by decide) (fun hc => ?_) (fun hc => ?_)
      · have hE := if_t hc hE
        exact hk σ1 v2 v3 v4 _ _ _ hs (lv_sub hl [0, 1, 2, 3] rfl) hE
      · have hE := if_f hc hE
        refine lv_iconst (v := 0) hx hb dX11_next_17 (by decide) ?_
        refine lv_istore (lv' := [(4, .int 0), (0, .ref (g.2.1 0)), (1, .int v2), (2, .int v3), (3, .int v4)]) hx hb dX11_next_18 hl (by decide) rfl (fun ls hl => ?_)
        have hL20 : ∀ (n : Nat) (σ5 : St) (v6 : Int32) (v7 : Int32) (v8 : Int32) (k : St → Int32 → Int32 → Int32 → Option (St × Int32)), fX11_next_L20 v4 n σ5 v6 v7 v8 k = some (σ', r) → (∀ (σ5 : St) (v6 : Int32) (v7 : Int32) (v8 : Int32) (H : Heap) (locs : List Loc) (ls : Array Slot), HW 25 entM g A H0 H locs σ5 → lv_has ls 5 [(0, .ref (g.2.1 0)), (1, .int v6), (2, .int v7), (3, .int v4), (4, .int v8)] → k σ5 v6 v7 v8 = some (σ', r) → W p l e (rmD 2) s m args below meth c H locs 0 0 Q (F0 m 91 ls [])) → ∀ (H : Heap) (locs : List Loc) (ls : Array Slot), HW 25 entM g A H0 H locs σ5 → lv_has ls 5 [(0, .ref (g.2.1 0)), (1, .int v6), (2, .int v7), (3, .int v4), (4, .int v8)] → W p l e (rmD 2) s m args below meth c H locs 0 0 Q (F0 m 20 ls []) := by
          intro n
          induction n with
          | zero =>
            intro σ5 v6 v7 v8 k hE
            rw [fX11_next_L20] at hE
            exact no_e hE
          | succ n ih =>
            intro σ5 v6 v7 v8 k hE hk H locs ls hs hl
            rw [fX11_next_L20] at hE
            refine lv_iload hx hb dX11_next_20 (lv_at hl 4 rfl) ?_
            refine lv_aload_n hx hb dX11_next_22 rfl (lv_at hl 0 rfl) ?_
            refine gf_X11_163_0 C hK hs dX11_next_23 ?_
            refine lv_icmp_ge (tgt := 91) hx hb dX11_next_26 (by decide) (fun hc => ?_) (fun hc => ?_)
            · have hE := if_t hc hE
              exact hk σ5 v6 v7 v8 _ _ _ hs (lv_sub hl [0, 1, 2, 3, 4] rfl) hE
            · have hE := if_f hc hE
              refine lv_aload_n hx hb dX11_next_29 rfl (lv_at hl 0 rfl) ?_
              refine gf_X11_37_0 C hK hs dX11_next_30 ?_
              refine lv_iload_n hx hb dX11_next_33 rfl (lv_at hl 3 rfl) ?_
              refine lv_iload hx hb dX11_next_34 (lv_at hl 4 rfl) ?_
              obtain ⟨σ9, r10, hE1, hE⟩ := cl_e hE
              refine x_cis (As := [.ref (g.2.1 10), .int v4, .int v8]) (rest := []) C hl.1 hK hs hA ⟨Nat.le_refl 0, Nat.le_refl 0⟩ (ctX11_owns l g _ _ _ _ _ _ hE1) (cw_X11_184 C ⟨Nat.le_of_ble_eq_true rfl, Nat.le_of_ble_eq_true rfl⟩) rfl rfl (Nat.le_of_ble_eq_true rfl) dX11_next_36 (fun H locs hs => ?_)
              refine jn2 hE (fun k11 hE hk11 => ?_)
              have hJk11 : ∀ (z12 : Int32) (z13 : Int32) (H : Heap) (locs : List Loc) (ls : Array Slot), HW 25 entM g A H0 H locs σ9 → lv_has ls 5 [(0, .ref (g.2.1 0)), (1, .int z12), (2, .int z13), (3, .int v4), (4, .int v8)] → k11 z12 z13 = some (σ', r) → W p l e (rmD 2) s m args below meth c H locs 0 0 Q (F0 m 85 ls []) := by
                intro z12 z13 H locs ls hs hl hE
                have hE := hk11 _ _ hE
                refine lv_iinc (v := v8 + 1) (lv' := [(4, .int (v8 + 1)), (0, .ref (g.2.1 0)), (1, .int z12), (2, .int z13), (3, .int v4)]) hx hb dX11_next_85 hl (k := 4) rfl rfl (by decide) rfl (fun ls hl => ?_)
                refine lv_goto (tgt := 20) hx hb dX11_next_88 (by decide) ?_
                exact ih _ _ _ _ _ hE hk _ _ _ hs (lv_sub hl [1, 2, 3, 4, 0] rfl)
              refine lv_if_eq (tgt := 85) hx hb dX11_next_39 (by decide) (fun hc => ?_) (fun hc => ?_)
              · have hE := if_t hc hE
                exact hJk11 v6 v7 _ _ _ hs (lv_sub hl [0, 1, 2, 3, 4] rfl) hE
              · have hE := if_f hc hE
                refine lv_aload_n hx hb dX11_next_42 rfl (lv_at hl 0 rfl) ?_
                refine gf_X11_37_0 C hK hs dX11_next_43 ?_
                refine lv_bipush (v := 7) hx hb dX11_next_46 (by decide) ?_
                refine lv_bipush (v := 8) hx hb dX11_next_48 (by decide) ?_
                refine lv_iload_n hx hb dX11_next_50 rfl (lv_at hl 3 rfl) ?_
                refine lv_imul hx hb dX11_next_51 ?_
                refine lv_iadd hx hb dX11_next_52 ?_
                refine lv_iload hx hb dX11_next_53 (lv_at hl 4 rfl) ?_
                refine lv_iadd hx hb dX11_next_55 ?_
                obtain ⟨hi, x14, ex14, hE⟩ := rd_w hE
                refine y_ald layM C hK hs hi ex14 dX11_next_56 ?_
                refine lv_iload_n hx hb dX11_next_57 rfl (lv_at hl 2 rfl) ?_
                refine lv_icmp_ge (tgt := 85) hx hb dX11_next_58 (by decide) (fun hc => ?_) (fun hc => ?_)
                · have hE := if_t hc hE
                  exact hJk11 v6 v7 _ _ _ hs (lv_sub hl [0, 1, 2, 3, 4] rfl) hE
                · have hE := if_f hc hE
                  refine lv_aload_n hx hb dX11_next_61 rfl (lv_at hl 0 rfl) ?_
                  refine gf_X11_37_0 C hK hs dX11_next_62 ?_
                  refine lv_bipush (v := 7) hx hb dX11_next_65 (by decide) ?_
                  refine lv_bipush (v := 8) hx hb dX11_next_67 (by decide) ?_
                  refine lv_iload_n hx hb dX11_next_69 rfl (lv_at hl 3 rfl) ?_
                  refine lv_imul hx hb dX11_next_70 ?_
                  refine lv_iadd hx hb dX11_next_71 ?_
                  refine lv_iload hx hb dX11_next_72 (lv_at hl 4 rfl) ?_
                  refine lv_iadd hx hb dX11_next_74 ?_
                  obtain ⟨hi, x15, ex15, hE⟩ := rd_w hE
                  refine y_ald layM C hK hs hi ex15 dX11_next_75 ?_
                  refine lv_istore_n (lv' := [(2, .int x15), (0, .ref (g.2.1 0)), (1, .int v6), (3, .int v4), (4, .int v8)]) hx hb dX11_next_76 rfl hl (by decide) rfl (fun ls hl => ?_)
                  refine lv_bipush (v := 10) hx hb dX11_next_77 (by decide) ?_
                  refine lv_iload_n hx hb dX11_next_79 rfl (lv_at hl 3 rfl) ?_
                  refine lv_imul hx hb dX11_next_80 ?_
                  refine lv_iload hx hb dX11_next_81 (lv_at hl 4 rfl) ?_
                  refine lv_iadd hx hb dX11_next_83 ?_
                  refine lv_istore_n (lv' := [(1, .int ((10 * v4) + v8)), (2, .int x15), (0, .ref (g.2.1 0)), (3, .int v4), (4, .int v8)]) hx hb dX11_next_84 rfl hl (by decide) rfl (fun ls hl => ?_)
                  exact hJk11 ((10 * v4) + v8) x15 _ _ _ hs (lv_sub hl [2, 0, 1, 3, 4] rfl) hE
        refine hL20 _ _ _ _ _ _ hE (fun σ16 v17 v18 v19 H locs ls hs hl hE => ?_) H locs ls hs (lv_sub hl [1, 2, 3, 4, 0] rfl)
        refine lv_iinc (v := v4 + 1) (lv' := [(3, .int (v4 + 1)), (0, .ref (g.2.1 0)), (1, .int v17), (2, .int v18), (4, .int v19)]) hx hb dX11_next_91 hl (k := 3) rfl rfl (by decide) rfl (fun ls hl => ?_)
        refine lv_goto (tgt := 9) hx hb dX11_next_94 (by decide) ?_
        exact ih _ _ _ _ _ hE hk _ _ _ hs (lv_sub hl [1, 2, 3, 0] rfl)
  refine hL9 _ _ _ _ _ _ hE (fun σ20 v21 v22 v23 H locs ls hs hl hE => ?_) H locs ls hs (lv_sub hl [3, 2, 1, 0] rfl)
  refine lv_iload_n hx hb dX11_next_97 rfl (lv_at hl 1 rfl) ?_
  refine lv_bipush (v := (-9)) hx hb dX11_next_98 (by decide) ?_
  refine lv_icmp_ne (tgt := 108) hx hb dX11_next_100 (by decide) (fun hc => ?_) (fun hc => ?_)
  · have hE := if_f hc hE
    refine lv_aload_n hx hb dX11_next_108 rfl (lv_at hl 0 rfl) ?_
    refine lv_iload_n hx hb dX11_next_109 rfl (lv_at hl 1 rfl) ?_
    refine lv_iload_n hx hb dX11_next_110 rfl (lv_at hl 2 rfl) ?_
    obtain ⟨σ24, r25, hE1, hE⟩ := cl_e hE
    refine x_civ (As := [.int v21, .int v22]) (rest := []) C hl.1 hK hs hA ⟨Nat.le_refl 0, Nat.le_refl 0⟩ (ctX11_answer l g _ _ _ _ _ hE1) (cw_X11_210 C ⟨Nat.le_of_ble_eq_true rfl, Nat.le_of_ble_eq_true rfl⟩) (hs.recv hK 0 (by decide) rfl rfl) rfl rfl (Nat.le_of_ble_eq_true rfl) dX11_next_111 (fun H locs hs => ?_)
    exact hQ hs hE dX11_next_114
  · have hE := if_t hc hE
    refine lv_bipush (v := (-9)) hx hb dX11_next_103 (by decide) ?_
    refine lv_goto (tgt := 114) hx hb dX11_next_105 (by decide) ?_
    exact hQ hs hE dX11_next_114
theorem dX11_fades_0 : decode cX11_fades 0 = .ok (.iload_n 1, 1) := by decide +kernel
theorem dX11_fades_1 : decode cX11_fades 1 = .ok (.i2l, 1) := by decide +kernel
theorem dX11_fades_2 : decode cX11_fades 2 = .ok (.lconst 0, 1) := by decide +kernel
theorem dX11_fades_3 : decode cX11_fades 3 = .ok (.ldc2_w 245, 3) := by decide +kernel
theorem dX11_fades_6 : decode cX11_fades 6 = .ok (.invokestatic 96, 3) := by decide +kernel
theorem dX11_fades_9 : decode cX11_fades 9 = .ok (.ifCond .ne 5, 3) := by decide +kernel
theorem dX11_fades_12 : decode cX11_fades 12 = .ok (.iconst (-1), 1) := by decide +kernel
theorem dX11_fades_13 : decode cX11_fades 13 = .ok (.ireturn, 1) := by decide +kernel
theorem dX11_fades_14 : decode cX11_fades 14 = .ok (.iconst 0, 1) := by decide +kernel
theorem dX11_fades_15 : decode cX11_fades 15 = .ok (.istore_n 2, 1) := by decide +kernel
theorem dX11_fades_16 : decode cX11_fades 16 = .ok (.bipush (-9), 2) := by decide +kernel
theorem dX11_fades_18 : decode cX11_fades 18 = .ok (.istore_n 3, 1) := by decide +kernel
theorem dX11_fades_19 : decode cX11_fades 19 = .ok (.iconst 0, 1) := by decide +kernel
theorem dX11_fades_20 : decode cX11_fades 20 = .ok (.istore 4, 2) := by decide +kernel
theorem dX11_fades_22 : decode cX11_fades 22 = .ok (.iconst 0, 1) := by decide +kernel
theorem dX11_fades_23 : decode cX11_fades 23 = .ok (.istore 5, 2) := by decide +kernel
theorem dX11_fades_25 : decode cX11_fades 25 = .ok (.iload 5, 2) := by decide +kernel
theorem dX11_fades_27 : decode cX11_fades 27 = .ok (.aload_n 0, 1) := by decide +kernel
theorem dX11_fades_28 : decode cX11_fades 28 = .ok (.getfield 160, 3) := by decide +kernel
theorem dX11_fades_31 : decode cX11_fades 31 = .ok (.if_icmp .ge 102, 3) := by decide +kernel
theorem dX11_fades_34 : decode cX11_fades 34 = .ok (.iconst 0, 1) := by decide +kernel
theorem dX11_fades_35 : decode cX11_fades 35 = .ok (.istore 6, 2) := by decide +kernel
theorem dX11_fades_37 : decode cX11_fades 37 = .ok (.iload 6, 2) := by decide +kernel
theorem dX11_fades_39 : decode cX11_fades 39 = .ok (.aload_n 0, 1) := by decide +kernel
theorem dX11_fades_40 : decode cX11_fades 40 = .ok (.getfield 163, 3) := by decide +kernel
theorem dX11_fades_43 : decode cX11_fades 43 = .ok (.if_icmp .ge 84, 3) := by decide +kernel
theorem dX11_fades_46 : decode cX11_fades 46 = .ok (.aload_n 0, 1) := by decide +kernel
theorem dX11_fades_47 : decode cX11_fades 47 = .ok (.getfield 37, 3) := by decide +kernel
theorem dX11_fades_50 : decode cX11_fades 50 = .ok (.bipush 7, 2) := by decide +kernel
theorem dX11_fades_52 : decode cX11_fades 52 = .ok (.bipush 8, 2) := by decide +kernel
theorem dX11_fades_54 : decode cX11_fades 54 = .ok (.iload 5, 2) := by decide +kernel
theorem dX11_fades_56 : decode cX11_fades 56 = .ok (.imul, 1) := by decide +kernel
theorem dX11_fades_57 : decode cX11_fades 57 = .ok (.iadd, 1) := by decide +kernel
theorem dX11_fades_58 : decode cX11_fades 58 = .ok (.iload 6, 2) := by decide +kernel
theorem dX11_fades_60 : decode cX11_fades 60 = .ok (.iadd, 1) := by decide +kernel
theorem dX11_fades_61 : decode cX11_fades 61 = .ok (.iaload, 1) := by decide +kernel
theorem dX11_fades_62 : decode cX11_fades 62 = .ok (.istore 7, 2) := by decide +kernel
theorem dX11_fades_64 : decode cX11_fades 64 = .ok (.iload 7, 2) := by decide +kernel
theorem dX11_fades_66 : decode cX11_fades 66 = .ok (.ifCond .le 55, 3) := by decide +kernel
theorem dX11_fades_69 : decode cX11_fades 69 = .ok (.iload 7, 2) := by decide +kernel
theorem dX11_fades_71 : decode cX11_fades 71 = .ok (.aload_n 0, 1) := by decide +kernel
theorem dX11_fades_72 : decode cX11_fades 72 = .ok (.getfield 37, 3) := by decide +kernel
theorem dX11_fades_75 : decode cX11_fades 75 = .ok (.iconst 0, 1) := by decide +kernel
theorem dX11_fades_76 : decode cX11_fades 76 = .ok (.iaload, 1) := by decide +kernel
theorem dX11_fades_77 : decode cX11_fades 77 = .ok (.iload_n 1, 1) := by decide +kernel
theorem dX11_fades_78 : decode cX11_fades 78 = .ok (.iadd, 1) := by decide +kernel
theorem dX11_fades_79 : decode cX11_fades 79 = .ok (.if_icmp .gt 42, 3) := by decide +kernel
theorem dX11_fades_82 : decode cX11_fades 82 = .ok (.iinc 2 1, 3) := by decide +kernel
theorem dX11_fades_85 : decode cX11_fades 85 = .ok (.iload 7, 2) := by decide +kernel
theorem dX11_fades_87 : decode cX11_fades 87 = .ok (.iload 4, 2) := by decide +kernel
theorem dX11_fades_89 : decode cX11_fades 89 = .ok (.if_icmp .lt 14, 3) := by decide +kernel
theorem dX11_fades_92 : decode cX11_fades 92 = .ok (.bipush 10, 2) := by decide +kernel
theorem dX11_fades_94 : decode cX11_fades 94 = .ok (.iload 5, 2) := by decide +kernel
theorem dX11_fades_96 : decode cX11_fades 96 = .ok (.imul, 1) := by decide +kernel
theorem dX11_fades_97 : decode cX11_fades 97 = .ok (.iload 6, 2) := by decide +kernel
theorem dX11_fades_99 : decode cX11_fades 99 = .ok (.iadd, 1) := by decide +kernel
theorem dX11_fades_100 : decode cX11_fades 100 = .ok (.goto 4, 3) := by decide +kernel
theorem dX11_fades_103 : decode cX11_fades 103 = .ok (.iload_n 3, 1) := by decide +kernel
theorem dX11_fades_104 : decode cX11_fades 104 = .ok (.istore_n 3, 1) := by decide +kernel
theorem dX11_fades_105 : decode cX11_fades 105 = .ok (.iload 7, 2) := by decide +kernel
theorem dX11_fades_107 : decode cX11_fades 107 = .ok (.iload 4, 2) := by decide +kernel
theorem dX11_fades_109 : decode cX11_fades 109 = .ok (.if_icmp .lt 8, 3) := by decide +kernel
theorem dX11_fades_112 : decode cX11_fades 112 = .ok (.iload 7, 2) := by decide +kernel
theorem dX11_fades_114 : decode cX11_fades 114 = .ok (.goto 5, 3) := by decide +kernel
theorem dX11_fades_117 : decode cX11_fades 117 = .ok (.iload 4, 2) := by decide +kernel
theorem dX11_fades_119 : decode cX11_fades 119 = .ok (.istore 4, 2) := by decide +kernel
theorem dX11_fades_121 : decode cX11_fades 121 = .ok (.iinc 6 1, 3) := by decide +kernel
theorem dX11_fades_124 : decode cX11_fades 124 = .ok (.goto (-87), 3) := by decide +kernel
theorem dX11_fades_127 : decode cX11_fades 127 = .ok (.iinc 5 1, 3) := by decide +kernel
theorem dX11_fades_130 : decode cX11_fades 130 = .ok (.goto (-105), 3) := by decide +kernel
theorem dX11_fades_133 : decode cX11_fades 133 = .ok (.aload_n 0, 1) := by decide +kernel
theorem dX11_fades_134 : decode cX11_fades 134 = .ok (.iload_n 2, 1) := by decide +kernel
theorem dX11_fades_135 : decode cX11_fades 135 = .ok (.iload_n 3, 1) := by decide +kernel
theorem dX11_fades_136 : decode cX11_fades 136 = .ok (.invokevirtual 210, 3) := by decide +kernel
theorem dX11_fades_139 : decode cX11_fades 139 = .ok (.ireturn, 1) := by decide +kernel
def fX11_fades_L37 (p1 : Int32) (v7 : Int32) : Nat → St → Int32 → Int32 → Int32 → Int32 → (St → Int32 → Int32 → Int32 → Int32 → Option (St × Int32)) → Option (St × Int32)
  | 0, _, _, _, _, _, _ => none
  | n + 1, σ8, v9, v10, v11, v12, k => (if (σ8.1 0 7) ≤ v12 then k σ8 v9 v10 v11 v12 else rd LM σ8 10 ((7 + (8 * v7)) + v12) (fun x13 => jn (fun (z15 : Int32) (z16 : Int32) (z17 : Int32) => fX11_fades_L37 p1 v7 n σ8 z15 z16 z17 (v12 + 1) k) (fun k14 => (if x13 ≤ 0 then k14 v9 v10 v11 else rd LM σ8 10 0 (fun x18 => (if (x18 + p1) < x13 then k14 v9 v10 v11 else pv (if x13 < v11 then v10 else ((10 * v7) + v12)) (fun (y20 : Int32) => pv (if x13 < v11 then v11 else x13) (fun (y22 : Int32) => k14 (v9 + 1) y20 y22))))))))
def fX11_fades_L25 (p1 : Int32) : Nat → St → Int32 → Int32 → Int32 → Int32 → (St → Int32 → Int32 → Int32 → Int32 → Option (St × Int32)) → Option (St × Int32)
  | 0, _, _, _, _, _, _ => none
  | n + 1, σ3, v4, v5, v6, v7, k => (if (σ3.1 0 4) ≤ v7 then k σ3 v4 v5 v6 v7 else fX11_fades_L37 p1 v7 10000 σ3 v4 v5 v6 0 (fun σ23 v24 v25 v26 v27 => fX11_fades_L25 p1 n σ23 v24 v25 v26 (v7 + 1) k))
def fX11_fades (σ : St) (p1 : Int32) : Option (St × Int32) := cl (fX11_in σ (p1.toInt64) 0 60) (fun σ1 r2 => (if r2 = 0 then some (σ1, (-1)) else fX11_fades_L25 p1 10000 σ1 0 (-9) 0 0 (fun σ28 v29 v30 v31 v32 => cl (fX11_answer σ28 v29 v30) (fun σ33 r34 => some (σ33, r34)))))
set_option maxHeartbeats 4000000 in
set_option maxRecDepth 100000 in
theorem ctX11_fades (l : Launch) (g : GG) (σ : St) (p1 : Int32) (σ' : St) (r : Int32) (hE : fX11_fades σ p1 = some (σ', r)) : MI 25 entM l g yX11_fades (Cond.code yX11_fades cX11_fades 8 (some .int) :: gtbl) (rmD 2) [.ref (g.2.1 0), .int p1] σ σ' r := by
  refine mi_i (own := RX11) (lv := [(0, .ref (g.2.1 0)), (1, .int p1)]) (by decide) rfl (Nat.le_of_ble_eq_true rfl) rfl (fun p e s m below meth c ls args Q A H0 H locs C hK hA hQ hs hl => ?_)
  have hx := C.1
  have hb := C.2.1
  unfold fX11_fades at hE
  refine lv_iload_n hx hb dX11_fades_0 rfl (lv_at hl 1 rfl) ?_
  refine lv_i2l (v := p1.toInt64) hx hb dX11_fades_1 rfl ?_
  refine lv_lconst (v := 0) hx hb dX11_fades_2 (by decide) ?_
  refine lv_ldc2 (v := 60) hx hb C.2.2.2.1 (C.2.2.2.2 _ mw_1292) dX11_fades_3 ?_
  obtain ⟨σ1, r2, hE1, hE⟩ := cl_e hE
  refine x_cis (As := [.long (p1.toInt64), .long 0, .long 60]) (rest := []) C hl.1 hK hs hA ⟨Nat.le_refl 0, Nat.le_refl 0⟩ (ctX11_in l g _ _ _ _ _ _ hE1) (cw_X11_96 C ⟨Nat.le_of_ble_eq_true rfl, Nat.le_of_ble_eq_true rfl⟩) rfl rfl (Nat.le_of_ble_eq_true rfl) dX11_fades_6 (fun H locs hs => ?_)
  refine lv_if_ne (tgt := 14) hx hb dX11_fades_9 (by decide) (fun hc => ?_) (fun hc => ?_)
  · have hE := if_f hc hE
    refine lv_iconst (v := 0) hx hb dX11_fades_14 (by decide) ?_
    refine lv_istore_n (lv' := [(2, .int 0), (0, .ref (g.2.1 0)), (1, .int p1)]) hx hb dX11_fades_15 rfl hl (by decide) rfl (fun ls hl => ?_)
    refine lv_bipush (v := (-9)) hx hb dX11_fades_16 (by decide) ?_
    refine lv_istore_n (lv' := [(3, .int (-9)), (2, .int 0), (0, .ref (g.2.1 0)), (1, .int p1)]) hx hb dX11_fades_18 rfl hl (by decide) rfl (fun ls hl => ?_)
    refine lv_iconst (v := 0) hx hb dX11_fades_19 (by decide) ?_
    refine lv_istore (lv' := [(4, .int 0), (3, .int (-9)), (2, .int 0), (0, .ref (g.2.1 0)), (1, .int p1)]) hx hb dX11_fades_20 hl (by decide) rfl (fun ls hl => ?_)
    refine lv_iconst (v := 0) hx hb dX11_fades_22 (by decide) ?_
    refine lv_istore (lv' := [(5, .int 0), (4, .int 0), (3, .int (-9)), (2, .int 0), (0, .ref (g.2.1 0)), (1, .int p1)]) hx hb dX11_fades_23 hl (by decide) rfl (fun ls hl => ?_)
    have hL25 : ∀ (n : Nat) (σ3 : St) (v4 : Int32) (v5 : Int32) (v6 : Int32) (v7 : Int32) (k : St → Int32 → Int32 → Int32 → Int32 → Option (St × Int32)), fX11_fades_L25 p1 n σ3 v4 v5 v6 v7 k = some (σ', r) → (∀ (σ3 : St) (v4 : Int32) (v5 : Int32) (v6 : Int32) (v7 : Int32) (H : Heap) (locs : List Loc) (ls : Array Slot), HW 25 entM g A H0 H locs σ3 → lv_has ls 8 [(0, .ref (g.2.1 0)), (1, .int p1), (2, .int v4), (3, .int v5), (4, .int v6), (5, .int v7)] → k σ3 v4 v5 v6 v7 = some (σ', r) → W p l e (rmD 2) s m args below meth c H locs 0 0 Q (F0 m 133 ls [])) → ∀ (H : Heap) (locs : List Loc) (ls : Array Slot), HW 25 entM g A H0 H locs σ3 → lv_has ls 8 [(0, .ref (g.2.1 0)), (1, .int p1), (2, .int v4), (3, .int v5), (4, .int v6), (5, .int v7)] → W p l e (rmD 2) s m args below meth c H locs 0 0 Q (F0 m 25 ls []) := by
      intro n
      induction n with
      | zero =>
        intro σ3 v4 v5 v6 v7 k hE
        rw [fX11_fades_L25] at hE
        exact no_e hE
      | succ n ih =>
        intro σ3 v4 v5 v6 v7 k hE hk H locs ls hs hl
        rw [fX11_fades_L25] at hE
        refine lv_iload hx hb dX11_fades_25 (lv_at hl 5 rfl) ?_
        refine lv_aload_n hx hb dX11_fades_27 rfl (lv_at hl 0 rfl) ?_
        refine gf_X11_160_0 C hK hs dX11_fades_28 ?_
        refine lv_icmp_ge (tgt := 133) hx hb dX11_fades_31 (by decide) (fun hc => ?_) (fun hc => ?_)
        · have hE := if_t hc hE
          exact hk σ3 v4 v5 v6 v7 _ _ _ hs (lv_sub hl [0, 1, 2, 3, 4, 5] rfl) hE
        · have hE := if_f hc hE
          refine lv_iconst (v := 0) hx hb dX11_fades_34 (by decide) ?_
          refine lv_istore (lv' := [(6, .int 0), (0, .ref (g.2.1 0)), (1, .int p1), (2, .int v4), (3, .int v5), (4, .int v6), (5, .int v7)]) hx hb dX11_fades_35 hl (by decide) rfl (fun ls hl => ?_)
          have hL37 : ∀ (n : Nat) (σ8 : St) (v9 : Int32) (v10 : Int32) (v11 : Int32) (v12 : Int32) (k : St → Int32 → Int32 → Int32 → Int32 → Option (St × Int32)), fX11_fades_L37 p1 v7 n σ8 v9 v10 v11 v12 k = some (σ', r) → (∀ (σ8 : St) (v9 : Int32) (v10 : Int32) (v11 : Int32) (v12 : Int32) (H : Heap) (locs : List Loc) (ls : Array Slot), HW 25 entM g A H0 H locs σ8 → lv_has ls 8 [(0, .ref (g.2.1 0)), (1, .int p1), (2, .int v9), (3, .int v10), (4, .int v11), (5, .int v7), (6, .int v12)] → k σ8 v9 v10 v11 v12 = some (σ', r) → W p l e (rmD 2) s m args below meth c H locs 0 0 Q (F0 m 127 ls [])) → ∀ (H : Heap) (locs : List Loc) (ls : Array Slot), HW 25 entM g A H0 H locs σ8 → lv_has ls 8 [(0, .ref (g.2.1 0)), (1, .int p1), (2, .int v9), (3, .int v10), (4, .int v11), (5, .int v7), (6, .int v12)] → W p l e (rmD 2) s m args below meth c H locs 0 0 Q (F0 m 37 ls []) := by
            intro n
            induction n with
            | zero =>
              intro σ8 v9 v10 v11 v12 k hE
              rw [fX11_fades_L37] at hE
              exact no_e hE
            | succ n ih =>
              intro σ8 v9 v10 v11 v12 k hE hk H locs ls hs hl
              rw [fX11_fades_L37] at hE
              refine lv_iload hx hb dX11_fades_37 (lv_at hl 6 rfl) ?_
              refine lv_aload_n hx hb dX11_fades_39 rfl (lv_at hl 0 rfl) ?_
              refine gf_X11_163_0 C hK hs dX11_fades_40 ?_
              refine lv_icmp_ge (tgt := 127) hx hb dX11_fades_43 (by decide) (fun hc => ?_) (fun hc => ?_)
              · have hE := if_t hc hE
                exact hk σ8 v9 v10 v11 v12 _ _ _ hs (lv_sub hl [0, 1, 2, 3, 4, 5, 6] rfl) hE
              · have hE := if_f hc hE
                refine lv_aload_n hx hb dX11_fades_46 rfl (lv_at hl 0 rfl) ?_
                refine gf_X11_37_0 C hK hs dX11_fades_47 ?_
                refine lv_bipush (v := 7) hx hb dX11_fades_50 (by decide) ?_
                refine lv_bipush (v := 8) hx hb dX11_fades_52 (by decide) ?_
                refine lv_iload hx hb dX11_fades_54 (lv_at hl 5 rfl) ?_
                refine lv_imul hx hb dX11_fades_56 ?_
                refine lv_iadd hx hb dX11_fades_57 ?_
                refine lv_iload hx hb dX11_fades_58 (lv_at hl 6 rfl) ?_
                refine lv_iadd hx hb dX11_fades_60 ?_
                obtain ⟨hi, x13, ex13, hE⟩ := rd_w hE
                refine y_ald layM C hK hs hi ex13 dX11_fades_61 ?_
                refine lv_istore (lv' := [(7, .int x13), (0, .ref (g.2.1 0)), (1, .int p1), (2, .int v9), (3, .int v10), (4, .int v11), (5, .int v7), (6, .int v12)]) hx hb dX11_fades_62 hl (by decide) rfl (fun ls hl => ?_)
                refine lv_iload hx hb dX11_fades_64 (lv_at hl 0 rfl) ?_
                refine jn3 hE (fun k14 hE hk14 => ?_)
                have hJk14 : ∀ (z15 : Int32) (z16 : Int32) (z17 : Int32) (H : Heap) (locs : List Loc) (ls : Array Slot), HW 25 entM g A H0 H locs σ8 → lv_has ls 8 [(0, .ref (g.2.1 0)), (1, .int p1), (2, .int z15), (3, .int z16), (4, .int z17), (5, .int v7), (6, .int v12)] → k14 z15 z16 z17 = some (σ', r) → W p l e (rmD 2) s m args below meth c H locs 0 0 Q (F0 m 121 ls []) := by
                  intro z15 z16 z17 H locs ls hs hl hE
                  have hE := hk14 _ _ _ hE
                  refine lv_iinc (v := v12 + 1) (lv' := [(6, .int (v12 + 1)), (0, .ref (g.2.1 0)), (1, .int p1), (2, .int z15), (3, .int z16), (4, .int z17), (5, .int v7)]) hx hb dX11_fades_121 hl (k := 6) rfl rfl (by decide) rfl (fun ls hl => ?_)
                  refine lv_goto (tgt := 37) hx hb dX11_fades_124 (by decide) ?_
                  exact ih _ _ _ _ _ _ hE hk _ _ _ hs (lv_sub hl [1, 2, 3, 4, 5, 6, 0] rfl)
                refine lv_if_le (tgt := 121) hx hb dX11_fades_66 (by decide) (fun hc => ?_) (fun hc => ?_)
                · have hE := if_t hc hE
                  exact hJk14 v9 v10 v11 _ _ _ hs (lv_sub hl [1, 2, 3, 4, 5, 6, 7] rfl) hE
                · have hE := if_f hc hE
                  refine lv_iload hx hb dX11_fades_69 (lv_at hl 0 rfl) ?_
                  refine lv_aload_n hx hb dX11_fades_71 rfl (lv_at hl 1 rfl) ?_
                  refine gf_X11_37_0 C hK hs dX11_fades_72 ?_
                  refine lv_iconst (v := 0) hx hb dX11_fades_75 (by decide) ?_
                  obtain ⟨hi, x18, ex18, hE⟩ := rd_w hE
                  refine y_ald layM C hK hs hi ex18 dX11_fades_76 ?_
                  refine lv_iload_n hx hb dX11_fades_77 rfl (lv_at hl 2 rfl) ?_
                  refine lv_iadd hx hb dX11_fades_78 ?_
                  refine lv_icmp_gt (tgt := 121) hx hb dX11_fades_79 (by decide) (fun hc => ?_) (fun hc => ?_)
                  · have hE := if_t hc hE
                    exact hJk14 v9 v10 v11 _ _ _ hs (lv_sub hl [1, 2, 3, 4, 5, 6, 7] rfl) hE
                  · have hE := if_f hc hE
                    refine lv_iinc (v := v9 + 1) (lv' := [(2, .int (v9 + 1)), (7, .int x13), (0, .ref (g.2.1 0)), (1, .int p1), (3, .int v10), (4, .int v11), (5, .int v7), (6, .int v12)]) hx hb dX11_fades_82 hl (k := 3) rfl rfl (by decide) rfl (fun ls hl => ?_)
                    refine lv_iload hx hb dX11_fades_85 (lv_at hl 1 rfl) ?_
                    refine lv_iload hx hb dX11_fades_87 (lv_at hl 5 rfl) ?_
                    refine pvw hE (fun k19 hE hk19 => ?_)
                    have hJk19 : ∀ (y20 : Int32) (H : Heap) (locs : List Loc) (ls : Array Slot), HW 25 entM g A H0 H locs σ8 → lv_has ls 8 [(0, .ref (g.2.1 0)), (1, .int p1), (2, .int (v9 + 1)), (4, .int v11), (5, .int v7), (6, .int v12), (7, .int x13)] → k19 y20 = some (σ', r) → W p l e (rmD 2) s m args below meth c H locs 0 0 Q (F0 m 104 ls [.int y20]) := by
                      intro y20 H locs ls hs hl hE
                      have hE := hk19 _ hE
                      refine lv_istore_n (lv' := [(3, .int y20), (0, .ref (g.2.1 0)), (1, .int p1), (2, .int (v9 + 1)), (4, .int v11), (5, .int v7), (6, .int v12), (7, .int x13)]) hx hb dX11_fades_104 rfl hl (by decide) rfl (fun ls hl => ?_)
                      refine lv_iload hx hb dX11_fades_105 (lv_at hl 7 rfl) ?_
                      refine lv_iload hx hb dX11_fades_107 (lv_at hl 4 rfl) ?_
                      refine pvw hE (fun k21 hE hk21 => ?_)
                      have hJk21 : ∀ (y22 : Int32) (H : Heap) (locs : List Loc) (ls : Array Slot), HW 25 entM g A H0 H locs σ8 → lv_has ls 8 [(0, .ref (g.2.1 0)), (1, .int p1), (2, .int (v9 + 1)), (3, .int y20), (5, .int v7), (6, .int v12)] → k21 y22 = some (σ', r) → W p l e (rmD 2) s m args below meth c H locs 0 0 Q (F0 m 119 ls [.int y22]) := by
                        intro y22 H locs ls hs hl hE
                        have hE := hk21 _ hE
                        refine lv_istore (lv' := [(4, .int y22), (0, .ref (g.2.1 0)), (1, .int p1), (2, .int (v9 + 1)), (3, .int y20), (5, .int v7), (6, .int v12)]) hx hb dX11_fades_119 hl (by decide) rfl (fun ls hl => ?_)
                        exact hJk14 (v9 + 1) y20 y22 _ _ _ hs (lv_sub hl [1, 2, 3, 4, 0, 5, 6] rfl) hE
                      refine lv_icmp_lt (tgt := 117) hx hb dX11_fades_109 (by decide) (fun hc => ?_) (fun hc => ?_)
                      · have hE := pv_t hc hE
                        refine lv_iload hx hb dX11_fades_117 (lv_at hl 4 rfl) ?_
                        exact hJk21 v11 _ _ _ hs (lv_sub hl [1, 2, 3, 0, 5, 6] rfl) hE
                      · have hE := pv_f hc hE
                        refine lv_iload hx hb dX11_fades_112 (lv_at hl 7 rfl) ?_
                        refine lv_goto (tgt := 119) hx hb dX11_fades_114 (by decide) ?_
                        exact hJk21 x13 _ _ _ hs (lv_sub hl [1, 2, 3, 0, 5, 6] rfl) hE
                    refine lv_icmp_lt (tgt := 103) hx hb dX11_fades_89 (by decide) (fun hc => ?_) (fun hc => ?_)
                    · have hE := pv_t hc hE
                      refine lv_iload_n hx hb dX11_fades_103 rfl (lv_at hl 4 rfl) ?_
                      exact hJk19 v10 _ _ _ hs (lv_sub hl [2, 3, 0, 5, 6, 7, 1] rfl) hE
                    · have hE := pv_f hc hE
                      refine lv_bipush (v := 10) hx hb dX11_fades_92 (by decide) ?_
                      refine lv_iload hx hb dX11_fades_94 (lv_at hl 6 rfl) ?_
                      refine lv_imul hx hb dX11_fades_96 ?_
                      refine lv_iload hx hb dX11_fades_97 (lv_at hl 7 rfl) ?_
                      refine lv_iadd hx hb dX11_fades_99 ?_
                      refine lv_goto (tgt := 104) hx hb dX11_fades_100 (by decide) ?_
                      exact hJk19 ((10 * v7) + v12) _ _ _ hs (lv_sub hl [2, 3, 0, 5, 6, 7, 1] rfl) hE
          refine hL37 _ _ _ _ _ _ _ hE (fun σ23 v24 v25 v26 v27 H locs ls hs hl hE => ?_) H locs ls hs (lv_sub hl [1, 2, 3, 4, 5, 6, 0] rfl)
          refine lv_iinc (v := v7 + 1) (lv' := [(5, .int (v7 + 1)), (0, .ref (g.2.1 0)), (1, .int p1), (2, .int v24), (3, .int v25), (4, .int v26), (6, .int v27)]) hx hb dX11_fades_127 hl (k := 5) rfl rfl (by decide) rfl (fun ls hl => ?_)
          refine lv_goto (tgt := 25) hx hb dX11_fades_130 (by decide) ?_
          exact ih _ _ _ _ _ _ hE hk _ _ _ hs (lv_sub hl [1, 2, 3, 4, 5, 0] rfl)
    refine hL25 _ _ _ _ _ _ _ hE (fun σ28 v29 v30 v31 v32 H locs ls hs hl hE => ?_) H locs ls hs (lv_sub hl [4, 5, 3, 2, 1, 0] rfl)
    refine lv_aload_n hx hb dX11_fades_133 rfl (lv_at hl 0 rfl) ?_
    refine lv_iload_n hx hb dX11_fades_134 rfl (lv_at hl 2 rfl) ?_
    refine lv_iload_n hx hb dX11_fades_135 rfl (lv_at hl 3 rfl) ?_
    obtain ⟨σ33, r34, hE1, hE⟩ := cl_e hE
    refine x_civ (As := [.int v29, .int v30]) (rest := []) C hl.1 hK hs hA ⟨Nat.le_refl 0, Nat.le_refl 0⟩ (ctX11_answer l g _ _ _ _ _ hE1) (cw_X11_210 C ⟨Nat.le_of_ble_eq_true rfl, Nat.le_of_ble_eq_true rfl⟩) (hs.recv hK 0 (by decide) rfl rfl) rfl rfl (Nat.le_of_ble_eq_true rfl) dX11_fades_136 (fun H locs hs => ?_)
    exact hQ hs hE dX11_fades_139
  · have hE := if_t hc hE
    refine lv_iconst (v := (-1)) hx hb dX11_fades_12 (by decide) ?_
    exact hQ hs hE dX11_fades_13
theorem dX11_sum_0 : decode cX11_sum 0 = .ok (.iconst 0, 1) := by decide +kernel
theorem dX11_sum_1 : decode cX11_sum 1 = .ok (.istore_n 2, 1) := by decide +kernel
theorem dX11_sum_2 : decode cX11_sum 2 = .ok (.iconst 0, 1) := by decide +kernel
theorem dX11_sum_3 : decode cX11_sum 3 = .ok (.istore_n 3, 1) := by decide +kernel
theorem dX11_sum_4 : decode cX11_sum 4 = .ok (.iload_n 3, 1) := by decide +kernel
theorem dX11_sum_5 : decode cX11_sum 5 = .ok (.aload_n 0, 1) := by decide +kernel
theorem dX11_sum_6 : decode cX11_sum 6 = .ok (.getfield 160, 3) := by decide +kernel
theorem dX11_sum_9 : decode cX11_sum 9 = .ok (.if_icmp .ge 17, 3) := by decide +kernel
theorem dX11_sum_12 : decode cX11_sum 12 = .ok (.iload_n 2, 1) := by decide +kernel
theorem dX11_sum_13 : decode cX11_sum 13 = .ok (.aload_n 1, 1) := by decide +kernel
theorem dX11_sum_14 : decode cX11_sum 14 = .ok (.iconst 1, 1) := by decide +kernel
theorem dX11_sum_15 : decode cX11_sum 15 = .ok (.iload_n 3, 1) := by decide +kernel
theorem dX11_sum_16 : decode cX11_sum 16 = .ok (.iadd, 1) := by decide +kernel
theorem dX11_sum_17 : decode cX11_sum 17 = .ok (.iaload, 1) := by decide +kernel
theorem dX11_sum_18 : decode cX11_sum 18 = .ok (.iadd, 1) := by decide +kernel
theorem dX11_sum_19 : decode cX11_sum 19 = .ok (.istore_n 2, 1) := by decide +kernel
theorem dX11_sum_20 : decode cX11_sum 20 = .ok (.iinc 3 1, 3) := by decide +kernel
theorem dX11_sum_23 : decode cX11_sum 23 = .ok (.goto (-19), 3) := by decide +kernel
theorem dX11_sum_26 : decode cX11_sum 26 = .ok (.iload_n 2, 1) := by decide +kernel
theorem dX11_sum_27 : decode cX11_sum 27 = .ok (.ireturn, 1) := by decide +kernel
def fX11_sum_L4 (p1 : Nat) : Nat → St → Int32 → Int32 → (St → Int32 → Int32 → Option (St × Int32)) → Option (St × Int32)
  | 0, _, _, _, _ => none
  | n + 1, σ1, v2, v3, k => (if (σ1.1 0 4) ≤ v3 then k σ1 v2 v3 else rd LM σ1 p1 (1 + v3) (fun x4 => fX11_sum_L4 p1 n σ1 (v2 + x4) (v3 + 1) k))
def fX11_sum (σ : St) (p1 : Nat) : Option (St × Int32) := fX11_sum_L4 p1 10000 σ 0 0 (fun σ5 v6 v7 => some (σ5, v6))
set_option maxHeartbeats 4000000 in
set_option maxRecDepth 100000 in
theorem ctX11_sum (l : Launch) (g : GG) (σ : St) (p1 : Nat) (σ' : St) (r : Int32) (hE : fX11_sum σ p1 = some (σ', r)) : MI 25 entM l g yX11_sum (Cond.code yX11_sum cX11_sum 4 (some .int) :: gtbl) (rmD 1) [.ref (g.2.1 0), .ref (g.2.1 p1)] σ σ' r := by
  refine mi_i (own := RX11) (lv := [(0, .ref (g.2.1 0)), (1, .ref (g.2.1 p1))]) (by decide) rfl (Nat.le_of_ble_eq_true rfl) rfl (fun p e s m below meth c ls args Q A H0 H locs C hK hA hQ hs hl => ?_)
  have hx := C.1
  have hb := C.2.1
  unfold fX11_sum at hE
  refine lv_iconst (v := 0) hx hb dX11_sum_0 (by decide) ?_
  refine lv_istore_n (lv' := [(2, .int 0), (0, .ref (g.2.1 0)), (1, .ref (g.2.1 p1))]) hx hb dX11_sum_1 rfl hl (by decide) rfl (fun ls hl => ?_)
  refine lv_iconst (v := 0) hx hb dX11_sum_2 (by decide) ?_
  refine lv_istore_n (lv' := [(3, .int 0), (2, .int 0), (0, .ref (g.2.1 0)), (1, .ref (g.2.1 p1))]) hx hb dX11_sum_3 rfl hl (by decide) rfl (fun ls hl => ?_)
  have hL4 : ∀ (n : Nat) (σ1 : St) (v2 : Int32) (v3 : Int32) (k : St → Int32 → Int32 → Option (St × Int32)), fX11_sum_L4 p1 n σ1 v2 v3 k = some (σ', r) → (∀ (σ1 : St) (v2 : Int32) (v3 : Int32) (H : Heap) (locs : List Loc) (ls : Array Slot), HW 25 entM g A H0 H locs σ1 → lv_has ls 4 [(0, .ref (g.2.1 0)), (1, .ref (g.2.1 p1)), (2, .int v2), (3, .int v3)] → k σ1 v2 v3 = some (σ', r) → W p l e (rmD 1) s m args below meth c H locs 0 0 Q (F0 m 26 ls [])) → ∀ (H : Heap) (locs : List Loc) (ls : Array Slot), HW 25 entM g A H0 H locs σ1 → lv_has ls 4 [(0, .ref (g.2.1 0)), (1, .ref (g.2.1 p1)), (2, .int v2), (3, .int v3)] → W p l e (rmD 1) s m args below meth c H locs 0 0 Q (F0 m 4 ls []) := by
    intro n
    induction n with
    | zero =>
      intro σ1 v2 v3 k hE
      rw [fX11_sum_L4] at hE
      exact no_e hE
    | succ n ih =>
      intro σ1 v2 v3 k hE hk H locs ls hs hl
      rw [fX11_sum_L4] at hE
      refine lv_iload_n hx hb dX11_sum_4 rfl (lv_at hl 3 rfl) ?_
      refine lv_aload_n hx hb dX11_sum_5 rfl (lv_at hl 0 rfl) ?_
      refine gf_X11_160_0 C hK hs dX11_sum_6 ?_
      refine lv_icmp_ge (tgt := 26) hx hb dX11_sum_9 (by decide) (fun hc => ?_) (fun hc => ?_)
      · have hE := if_t hc hE
        exact hk σ1 v2 v3 _ _ _ hs (lv_sub hl [0, 1, 2, 3] rfl) hE
      · have hE := if_f hc hE
        refine lv_iload_n hx hb dX11_sum_12 rfl (lv_at hl 2 rfl) ?_
        refine lv_aload_n hx hb dX11_sum_13 rfl (lv_at hl 1 rfl) ?_
        refine lv_iconst (v := 1) hx hb dX11_sum_14 (by decide) ?_
        refine lv_iload_n hx hb dX11_sum_15 rfl (lv_at hl 3 rfl) ?_
        refine lv_iadd hx hb dX11_sum_16 ?_
        obtain ⟨hi, x4, ex4, hE⟩ := rd_w hE
        refine y_ald layM C hK hs hi ex4 dX11_sum_17 ?_
        refine lv_iadd hx hb dX11_sum_18 ?_
        refine lv_istore_n (lv' := [(2, .int (v2 + x4)), (0, .ref (g.2.1 0)), (1, .ref (g.2.1 p1)), (3, .int v3)]) hx hb dX11_sum_19 rfl hl (by decide) rfl (fun ls hl => ?_)
        refine lv_iinc (v := v3 + 1) (lv' := [(3, .int (v3 + 1)), (2, .int (v2 + x4)), (0, .ref (g.2.1 0)), (1, .ref (g.2.1 p1))]) hx hb dX11_sum_20 hl (k := 3) rfl rfl (by decide) rfl (fun ls hl => ?_)
        refine lv_goto (tgt := 4) hx hb dX11_sum_23 (by decide) ?_
        exact ih _ _ _ _ hE hk _ _ _ hs (lv_sub hl [2, 3, 1, 0] rfl)
  refine hL4 _ _ _ _ _ hE (fun σ5 v6 v7 H locs ls hs hl hE => ?_) H locs ls hs (lv_sub hl [2, 3, 1, 0] rfl)
  refine lv_iload_n hx hb dX11_sum_26 rfl (lv_at hl 2 rfl) ?_
  exact hQ hs hE dX11_sum_27
theorem dX11_later_0 : decode cX11_later 0 = .ok (.aload_n 0, 1) := by decide +kernel
theorem dX11_later_1 : decode cX11_later 1 = .ok (.iload_n 1, 1) := by decide +kernel
theorem dX11_later_2 : decode cX11_later 2 = .ok (.invokevirtual 201, 3) := by decide +kernel
theorem dX11_later_5 : decode cX11_later 5 = .ok (.ifCond .eq 15, 3) := by decide +kernel
theorem dX11_later_8 : decode cX11_later 8 = .ok (.iload_n 2, 1) := by decide +kernel
theorem dX11_later_9 : decode cX11_later 9 = .ok (.i2l, 1) := by decide +kernel
theorem dX11_later_10 : decode cX11_later 10 = .ok (.lconst 0, 1) := by decide +kernel
theorem dX11_later_11 : decode cX11_later 11 = .ok (.ldc2_w 245, 3) := by decide +kernel
theorem dX11_later_14 : decode cX11_later 14 = .ok (.invokestatic 96, 3) := by decide +kernel
theorem dX11_later_17 : decode cX11_later 17 = .ok (.ifCond .ne 5, 3) := by decide +kernel
theorem dX11_later_20 : decode cX11_later 20 = .ok (.iconst (-1), 1) := by decide +kernel
theorem dX11_later_21 : decode cX11_later 21 = .ok (.ireturn, 1) := by decide +kernel
theorem dX11_later_22 : decode cX11_later 22 = .ok (.aload_n 0, 1) := by decide +kernel
theorem dX11_later_23 : decode cX11_later 23 = .ok (.invokevirtual 247, 3) := by decide +kernel
theorem dX11_later_26 : decode cX11_later 26 = .ok (.aload_n 0, 1) := by decide +kernel
theorem dX11_later_27 : decode cX11_later 27 = .ok (.iload_n 2, 1) := by decide +kernel
theorem dX11_later_28 : decode cX11_later 28 = .ok (.iconst 0, 1) := by decide +kernel
theorem dX11_later_29 : decode cX11_later 29 = .ok (.invokevirtual 250, 3) := by decide +kernel
theorem dX11_later_32 : decode cX11_later 32 = .ok (.pop, 1) := by decide +kernel
theorem dX11_later_33 : decode cX11_later 33 = .ok (.aload_n 0, 1) := by decide +kernel
theorem dX11_later_34 : decode cX11_later 34 = .ok (.aload_n 0, 1) := by decide +kernel
theorem dX11_later_35 : decode cX11_later 35 = .ok (.getfield 40, 3) := by decide +kernel
theorem dX11_later_38 : decode cX11_later 38 = .ok (.iconst 1, 1) := by decide +kernel
theorem dX11_later_39 : decode cX11_later 39 = .ok (.iload_n 1, 1) := by decide +kernel
theorem dX11_later_40 : decode cX11_later 40 = .ok (.iadd, 1) := by decide +kernel
theorem dX11_later_41 : decode cX11_later 41 = .ok (.iaload, 1) := by decide +kernel
theorem dX11_later_42 : decode cX11_later 42 = .ok (.aload_n 0, 1) := by decide +kernel
theorem dX11_later_43 : decode cX11_later 43 = .ok (.aload_n 0, 1) := by decide +kernel
theorem dX11_later_44 : decode cX11_later 44 = .ok (.getfield 40, 3) := by decide +kernel
theorem dX11_later_47 : decode cX11_later 47 = .ok (.invokevirtual 253, 3) := by decide +kernel
theorem dX11_later_50 : decode cX11_later 50 = .ok (.invokevirtual 210, 3) := by decide +kernel
theorem dX11_later_53 : decode cX11_later 53 = .ok (.ireturn, 1) := by decide +kernel
def fX11_later (σ : St) (p1 : Int32) (p2 : Int32) : Option (St × Int32) := cl (fX11_isHouse σ p1) (fun σ1 r2 => (if r2 = 0 then some (σ1, (-1)) else cl (fX11_in σ1 (p2.toInt64) 0 60) (fun σ3 r4 => (if r4 = 0 then some (σ3, (-1)) else cl (fX11_laysAside σ3) (fun σ5 r6 => cl (fX11_goesOn σ5 p2 0) (fun σ7 r8 => rd LM σ7 11 (1 + p1) (fun x9 => cl (fX11_sum σ7 11) (fun σ10 r11 => cl (fX11_answer σ10 x9 r11) (fun σ12 r13 => some (σ12, r13))))))))))
set_option maxHeartbeats 4000000 in
set_option maxRecDepth 100000 in
theorem ctX11_later (l : Launch) (g : GG) (σ : St) (p1 : Int32) (p2 : Int32) (σ' : St) (r : Int32) (hE : fX11_later σ p1 p2 = some (σ', r)) : MI 25 entM l g yX11_later (Cond.code yX11_later cX11_later 3 (some .int) :: gtbl) (rmD 5) [.ref (g.2.1 0), .int p1, .int p2] σ σ' r := by
  refine mi_i (own := RX11) (lv := [(0, .ref (g.2.1 0)), (1, .int p1), (2, .int p2)]) (by decide) rfl (Nat.le_of_ble_eq_true rfl) rfl (fun p e s m below meth c ls args Q A H0 H locs C hK hA hQ hs hl => ?_)
  have hx := C.1
  have hb := C.2.1
  unfold fX11_later at hE
  refine lv_aload_n hx hb dX11_later_0 rfl (lv_at hl 0 rfl) ?_
  refine lv_iload_n hx hb dX11_later_1 rfl (lv_at hl 1 rfl) ?_
  obtain ⟨σ1, r2, hE1, hE⟩ := cl_e hE
  refine x_civ (As := [.int p1]) (rest := []) C hl.1 hK hs hA ⟨Nat.le_refl 0, Nat.le_refl 0⟩ (ctX11_isHouse l g _ _ _ _ hE1) (cw_X11_201 C ⟨Nat.le_of_ble_eq_true rfl, Nat.le_of_ble_eq_true rfl⟩) (hs.recv hK 0 (by decide) rfl rfl) rfl rfl (Nat.le_of_ble_eq_true rfl) dX11_later_2 (fun H locs hs => ?_)
  refine lv_if_eq (tgt := 20) hx hb dX11_later_5 (by decide) (fun hc => ?_) (fun hc => ?_)
  · have hE := if_t hc hE
    refine lv_iconst (v := (-1)) hx hb dX11_later_20 (by decide) ?_
    exact hQ hs hE dX11_later_21
  · have hE := if_f hc hE
    refine lv_iload_n hx hb dX11_later_8 rfl (lv_at hl 2 rfl) ?_
    refine lv_i2l (v := p2.toInt64) hx hb dX11_later_9 rfl ?_
    refine lv_lconst (v := 0) hx hb dX11_later_10 (by decide) ?_
    refine lv_ldc2 (v := 60) hx hb C.2.2.2.1 (C.2.2.2.2 _ mw_1292) dX11_later_11 ?_
    obtain ⟨σ3, r4, hE1, hE⟩ := cl_e hE
    refine x_cis (As := [.long (p2.toInt64), .long 0, .long 60]) (rest := []) C hl.1 hK hs hA ⟨Nat.le_refl 0, Nat.le_refl 0⟩ (ctX11_in l g _ _ _ _ _ _ hE1) (cw_X11_96 C ⟨Nat.le_of_ble_eq_true rfl, Nat.le_of_ble_eq_true rfl⟩) rfl rfl (Nat.le_of_ble_eq_true rfl) dX11_later_14 (fun H locs hs => ?_)
    refine lv_if_ne (tgt := 22) hx hb dX11_later_17 (by decide) (fun hc => ?_) (fun hc => ?_)
    · have hE := if_f hc hE
      refine lv_aload_n hx hb dX11_later_22 rfl (lv_at hl 0 rfl) ?_
      obtain ⟨σ5, r6, hE1, hE⟩ := cl_e hE
      refine x_cvv (As := []) (rest := []) C hl.1 hK hs hA ⟨Nat.le_refl 0, Nat.le_refl 0⟩ (ctX11_laysAside l g _  _ _ hE1) (cw_X11_247 C ⟨Nat.le_of_ble_eq_true rfl, Nat.le_of_ble_eq_true rfl⟩) (hs.recv hK 0 (by decide) rfl rfl) rfl rfl (Nat.le_of_ble_eq_true rfl) dX11_later_23 (fun H locs hs => ?_)
      refine lv_aload_n hx hb dX11_later_26 rfl (lv_at hl 0 rfl) ?_
      refine lv_iload_n hx hb dX11_later_27 rfl (lv_at hl 2 rfl) ?_
      refine lv_iconst (v := 0) hx hb dX11_later_28 (by decide) ?_
      obtain ⟨σ7, r8, hE1, hE⟩ := cl_e hE
      refine x_civ (As := [.int p2, .int 0]) (rest := []) C hl.1 hK hs hA ⟨Nat.le_refl 0, Nat.le_refl 0⟩ (ctX11_goesOn l g _ _ _ _ _ hE1) (cw_X11_250 C ⟨Nat.le_of_ble_eq_true rfl, Nat.le_of_ble_eq_true rfl⟩) (hs.recv hK 0 (by decide) rfl rfl) rfl rfl (Nat.le_of_ble_eq_true rfl) dX11_later_29 (fun H locs hs => ?_)
      refine lv_pop hx hb dX11_later_32 rfl ?_
      refine lv_aload_n hx hb dX11_later_33 rfl (lv_at hl 0 rfl) ?_
      refine lv_aload_n hx hb dX11_later_34 rfl (lv_at hl 0 rfl) ?_
      refine gf_X11_40_0 C hK hs dX11_later_35 ?_
      refine lv_iconst (v := 1) hx hb dX11_later_38 (by decide) ?_
      refine lv_iload_n hx hb dX11_later_39 rfl (lv_at hl 1 rfl) ?_
      refine lv_iadd hx hb dX11_later_40 ?_
      obtain ⟨hi, x9, ex9, hE⟩ := rd_w hE
      refine y_ald layM C hK hs hi ex9 dX11_later_41 ?_
      refine lv_aload_n hx hb dX11_later_42 rfl (lv_at hl 0 rfl) ?_
      refine lv_aload_n hx hb dX11_later_43 rfl (lv_at hl 0 rfl) ?_
      refine gf_X11_40_0 C hK hs dX11_later_44 ?_
      obtain ⟨σ10, r11, hE1, hE⟩ := cl_e hE
      refine x_civ (As := [.ref (g.2.1 11)]) (rest := [.int x9, .ref (g.2.1 0)]) C hl.1 hK hs hA ⟨Nat.le_refl 0, Nat.le_refl 0⟩ (ctX11_sum l g _ _ _ _ hE1) (cw_X11_253 C ⟨Nat.le_of_ble_eq_true rfl, Nat.le_of_ble_eq_true rfl⟩) (hs.recv hK 0 (by decide) rfl rfl) rfl rfl (Nat.le_of_ble_eq_true rfl) dX11_later_47 (fun H locs hs => ?_)
      obtain ⟨σ12, r13, hE1, hE⟩ := cl_e hE
      refine x_civ (As := [.int x9, .int r11]) (rest := []) C hl.1 hK hs hA ⟨Nat.le_refl 0, Nat.le_refl 0⟩ (ctX11_answer l g _ _ _ _ _ hE1) (cw_X11_210 C ⟨Nat.le_of_ble_eq_true rfl, Nat.le_of_ble_eq_true rfl⟩) (hs.recv hK 0 (by decide) rfl rfl) rfl rfl (Nat.le_of_ble_eq_true rfl) dX11_later_50 (fun H locs hs => ?_)
      exact hQ hs hE dX11_later_53
    · have hE := if_t hc hE
      refine lv_iconst (v := (-1)) hx hb dX11_later_20 (by decide) ?_
      exact hQ hs hE dX11_later_21
theorem dX11_soon_0 : decode cX11_soon 0 = .ok (.aload_n 0, 1) := by decide +kernel
theorem dX11_soon_1 : decode cX11_soon 1 = .ok (.iload_n 1, 1) := by decide +kernel
theorem dX11_soon_2 : decode cX11_soon 2 = .ok (.invokevirtual 201, 3) := by decide +kernel
theorem dX11_soon_5 : decode cX11_soon 5 = .ok (.ifCond .eq 11, 3) := by decide +kernel
theorem dX11_soon_8 : decode cX11_soon 8 = .ok (.aload_n 0, 1) := by decide +kernel
theorem dX11_soon_9 : decode cX11_soon 9 = .ok (.iload_n 2, 1) := by decide +kernel
theorem dX11_soon_10 : decode cX11_soon 10 = .ok (.invokevirtual 191, 3) := by decide +kernel
theorem dX11_soon_13 : decode cX11_soon 13 = .ok (.ifCond .ne 5, 3) := by decide +kernel
theorem dX11_soon_16 : decode cX11_soon 16 = .ok (.iconst (-1), 1) := by decide +kernel
theorem dX11_soon_17 : decode cX11_soon 17 = .ok (.ireturn, 1) := by decide +kernel
theorem dX11_soon_18 : decode cX11_soon 18 = .ok (.aload_n 0, 1) := by decide +kernel
theorem dX11_soon_19 : decode cX11_soon 19 = .ok (.invokevirtual 247, 3) := by decide +kernel
theorem dX11_soon_22 : decode cX11_soon 22 = .ok (.iconst 0, 1) := by decide +kernel
theorem dX11_soon_23 : decode cX11_soon 23 = .ok (.istore_n 3, 1) := by decide +kernel
theorem dX11_soon_24 : decode cX11_soon 24 = .ok (.iload_n 3, 1) := by decide +kernel
theorem dX11_soon_25 : decode cX11_soon 25 = .ok (.bipush 61, 2) := by decide +kernel
theorem dX11_soon_27 : decode cX11_soon 27 = .ok (.if_icmp .ge 50, 3) := by decide +kernel
theorem dX11_soon_30 : decode cX11_soon 30 = .ok (.aload_n 0, 1) := by decide +kernel
theorem dX11_soon_31 : decode cX11_soon 31 = .ok (.getfield 40, 3) := by decide +kernel
theorem dX11_soon_34 : decode cX11_soon 34 = .ok (.iconst 1, 1) := by decide +kernel
theorem dX11_soon_35 : decode cX11_soon 35 = .ok (.iload_n 1, 1) := by decide +kernel
theorem dX11_soon_36 : decode cX11_soon 36 = .ok (.iadd, 1) := by decide +kernel
theorem dX11_soon_37 : decode cX11_soon 37 = .ok (.iaload, 1) := by decide +kernel
theorem dX11_soon_38 : decode cX11_soon 38 = .ok (.aload_n 0, 1) := by decide +kernel
theorem dX11_soon_39 : decode cX11_soon 39 = .ok (.iload_n 1, 1) := by decide +kernel
theorem dX11_soon_40 : decode cX11_soon 40 = .ok (.iload_n 2, 1) := by decide +kernel
theorem dX11_soon_41 : decode cX11_soon 41 = .ok (.invokevirtual 207, 3) := by decide +kernel
theorem dX11_soon_44 : decode cX11_soon 44 = .ok (.if_icmp .lt 17, 3) := by decide +kernel
theorem dX11_soon_47 : decode cX11_soon 47 = .ok (.aload_n 0, 1) := by decide +kernel
theorem dX11_soon_48 : decode cX11_soon 48 = .ok (.iload_n 3, 1) := by decide +kernel
theorem dX11_soon_49 : decode cX11_soon 49 = .ok (.aload_n 0, 1) := by decide +kernel
theorem dX11_soon_50 : decode cX11_soon 50 = .ok (.getfield 40, 3) := by decide +kernel
theorem dX11_soon_53 : decode cX11_soon 53 = .ok (.iconst 1, 1) := by decide +kernel
theorem dX11_soon_54 : decode cX11_soon 54 = .ok (.iload_n 1, 1) := by decide +kernel
theorem dX11_soon_55 : decode cX11_soon 55 = .ok (.iadd, 1) := by decide +kernel
theorem dX11_soon_56 : decode cX11_soon 56 = .ok (.iaload, 1) := by decide +kernel
theorem dX11_soon_57 : decode cX11_soon 57 = .ok (.invokevirtual 210, 3) := by decide +kernel
theorem dX11_soon_60 : decode cX11_soon 60 = .ok (.ireturn, 1) := by decide +kernel
theorem dX11_soon_61 : decode cX11_soon 61 = .ok (.aload_n 0, 1) := by decide +kernel
theorem dX11_soon_62 : decode cX11_soon 62 = .ok (.aload_n 0, 1) := by decide +kernel
theorem dX11_soon_63 : decode cX11_soon 63 = .ok (.getfield 40, 3) := by decide +kernel
theorem dX11_soon_66 : decode cX11_soon 66 = .ok (.iconst 0, 1) := by decide +kernel
theorem dX11_soon_67 : decode cX11_soon 67 = .ok (.invokevirtual 237, 3) := by decide +kernel
theorem dX11_soon_70 : decode cX11_soon 70 = .ok (.pop, 1) := by decide +kernel
theorem dX11_soon_71 : decode cX11_soon 71 = .ok (.iinc 3 1, 3) := by decide +kernel
theorem dX11_soon_74 : decode cX11_soon 74 = .ok (.goto (-50), 3) := by decide +kernel
theorem dX11_soon_77 : decode cX11_soon 77 = .ok (.bipush (-9), 2) := by decide +kernel
theorem dX11_soon_79 : decode cX11_soon 79 = .ok (.ireturn, 1) := by decide +kernel
def fX11_soon_L24 (p1 : Int32) (p2 : Int32) : Nat → St → Int32 → (St → Int32 → Option (St × Int32)) → Option (St × Int32)
  | 0, _, _, _ => none
  | n + 1, σ7, v8, k => (if 61 ≤ v8 then k σ7 v8 else rd LM σ7 11 (1 + p1) (fun x9 => cl (fX11_pays σ7 p1 p2) (fun σ10 r11 => (if x9 < r11 then cl (fX11_passes σ10 11 0) (fun σ12 r13 => fX11_soon_L24 p1 p2 n σ12 (v8 + 1) k) else rd LM σ10 11 (1 + p1) (fun x14 => cl (fX11_answer σ10 v8 x14) (fun σ15 r16 => some (σ15, r16)))))))
def fX11_soon (σ : St) (p1 : Int32) (p2 : Int32) : Option (St × Int32) := cl (fX11_isHouse σ p1) (fun σ1 r2 => (if r2 = 0 then some (σ1, (-1)) else cl (fX11_isColour σ1 p2) (fun σ3 r4 => (if r4 = 0 then some (σ3, (-1)) else cl (fX11_laysAside σ3) (fun σ5 r6 => fX11_soon_L24 p1 p2 10000 σ5 0 (fun σ17 v18 => some (σ17, (-9))))))))
set_option maxHeartbeats 4000000 in
set_option maxRecDepth 100000 in
theorem ctX11_soon (l : Launch) (g : GG) (σ : St) (p1 : Int32) (p2 : Int32) (σ' : St) (r : Int32) (hE : fX11_soon σ p1 p2 = some (σ', r)) : MI 25 entM l g yX11_soon (Cond.code yX11_soon cX11_soon 4 (some .int) :: gtbl) (rmD 4) [.ref (g.2.1 0), .int p1, .int p2] σ σ' r := by
  refine mi_i (own := RX11) (lv := [(0, .ref (g.2.1 0)), (1, .int p1), (2, .int p2)]) (by decide) rfl (Nat.le_of_ble_eq_true rfl) rfl (fun p e s m below meth c ls args Q A H0 H locs C hK hA hQ hs hl => ?_)
  have hx := C.1
  have hb := C.2.1
  unfold fX11_soon at hE
  refine lv_aload_n hx hb dX11_soon_0 rfl (lv_at hl 0 rfl) ?_
  refine lv_iload_n hx hb dX11_soon_1 rfl (lv_at hl 1 rfl) ?_
  obtain ⟨σ1, r2, hE1, hE⟩ := cl_e hE
  refine x_civ (As := [.int p1]) (rest := []) C hl.1 hK hs hA ⟨Nat.le_refl 0, Nat.le_refl 0⟩ (ctX11_isHouse l g _ _ _ _ hE1) (cw_X11_201 C ⟨Nat.le_of_ble_eq_true rfl, Nat.le_of_ble_eq_true rfl⟩) (hs.recv hK 0 (by decide) rfl rfl) rfl rfl (Nat.le_of_ble_eq_true rfl) dX11_soon_2 (fun H locs hs => ?_)
  refine lv_if_eq (tgt := 16) hx hb dX11_soon_5 (by decide) (fun hc => ?_) (fun hc => ?_)
  · have hE := if_t hc hE
    refine lv_iconst (v := (-1)) hx hb dX11_soon_16 (by decide) ?_
    exact hQ hs hE dX11_soon_17
  · have hE := if_f hc hE
    refine lv_aload_n hx hb dX11_soon_8 rfl (lv_at hl 0 rfl) ?_
    refine lv_iload_n hx hb dX11_soon_9 rfl (lv_at hl 2 rfl) ?_
    obtain ⟨σ3, r4, hE1, hE⟩ := cl_e hE
    refine x_civ (As := [.int p2]) (rest := []) C hl.1 hK hs hA ⟨Nat.le_refl 0, Nat.le_refl 0⟩ (ctX11_isColour l g _ _ _ _ hE1) (cw_X11_191 C ⟨Nat.le_of_ble_eq_true rfl, Nat.le_of_ble_eq_true rfl⟩) (hs.recv hK 0 (by decide) rfl rfl) rfl rfl (Nat.le_of_ble_eq_true rfl) dX11_soon_10 (fun H locs hs => ?_)
    refine lv_if_ne (tgt := 18) hx hb dX11_soon_13 (by decide) (fun hc => ?_) (fun hc => ?_)
    · have hE := if_f hc hE
      refine lv_aload_n hx hb dX11_soon_18 rfl (lv_at hl 0 rfl) ?_
      obtain ⟨σ5, r6, hE1, hE⟩ := cl_e hE
      refine x_cvv (As := []) (rest := []) C hl.1 hK hs hA ⟨Nat.le_refl 0, Nat.le_refl 0⟩ (ctX11_laysAside l g _  _ _ hE1) (cw_X11_247 C ⟨Nat.le_of_ble_eq_true rfl, Nat.le_of_ble_eq_true rfl⟩) (hs.recv hK 0 (by decide) rfl rfl) rfl rfl (Nat.le_of_ble_eq_true rfl) dX11_soon_19 (fun H locs hs => ?_)
      refine lv_iconst (v := 0) hx hb dX11_soon_22 (by decide) ?_
      refine lv_istore_n (lv' := [(3, .int 0), (0, .ref (g.2.1 0)), (1, .int p1), (2, .int p2)]) hx hb dX11_soon_23 rfl hl (by decide) rfl (fun ls hl => ?_)
      have hL24 : ∀ (n : Nat) (σ7 : St) (v8 : Int32) (k : St → Int32 → Option (St × Int32)), fX11_soon_L24 p1 p2 n σ7 v8 k = some (σ', r) → (∀ (σ7 : St) (v8 : Int32) (H : Heap) (locs : List Loc) (ls : Array Slot), HW 25 entM g A H0 H locs σ7 → lv_has ls 4 [(0, .ref (g.2.1 0)), (1, .int p1), (2, .int p2), (3, .int v8)] → k σ7 v8 = some (σ', r) → W p l e (rmD 4) s m args below meth c H locs 0 0 Q (F0 m 77 ls [])) → ∀ (H : Heap) (locs : List Loc) (ls : Array Slot), HW 25 entM g A H0 H locs σ7 → lv_has ls 4 [(0, .ref (g.2.1 0)), (1, .int p1), (2, .int p2), (3, .int v8)] → W p l e (rmD 4) s m args below meth c H locs 0 0 Q (F0 m 24 ls []) := by
        intro n
        induction n with
        | zero =>
          intro σ7 v8 k hE
          rw [fX11_soon_L24] at hE
          exact no_e hE
        | succ n ih =>
          intro σ7 v8 k hE hk H locs ls hs hl
          rw [fX11_soon_L24] at hE
          refine lv_iload_n hx hb dX11_soon_24 rfl (lv_at hl 3 rfl) ?_
          refine lv_bipush (v := 61) hx hb dX11_soon_25 (by decide) ?_
          refine lv_icmp_ge (tgt := 77) hx hb dX11_soon_27 (by decide) (fun hc => ?_) (fun hc => ?_)
          · have hE := if_t hc hE
            exact hk σ7 v8 _ _ _ hs (lv_sub hl [0, 1, 2, 3] rfl) hE
          · have hE := if_f hc hE
            refine lv_aload_n hx hb dX11_soon_30 rfl (lv_at hl 0 rfl) ?_
            refine gf_X11_40_0 C hK hs dX11_soon_31 ?_
            refine lv_iconst (v := 1) hx hb dX11_soon_34 (by decide) ?_
            refine lv_iload_n hx hb dX11_soon_35 rfl (lv_at hl 1 rfl) ?_
            refine lv_iadd hx hb dX11_soon_36 ?_
            obtain ⟨hi, x9, ex9, hE⟩ := rd_w hE
            refine y_ald layM C hK hs hi ex9 dX11_soon_37 ?_
            refine lv_aload_n hx hb dX11_soon_38 rfl (lv_at hl 0 rfl) ?_
            refine lv_iload_n hx hb dX11_soon_39 rfl (lv_at hl 1 rfl) ?_
            refine lv_iload_n hx hb dX11_soon_40 rfl (lv_at hl 2 rfl) ?_
            obtain ⟨σ10, r11, hE1, hE⟩ := cl_e hE
            refine x_civ (As := [.int p1, .int p2]) (rest := [.int x9]) C hl.1 hK hs hA ⟨Nat.le_refl 0, Nat.le_refl 0⟩ (ctX11_pays l g _ _ _ _ _ hE1) (cw_X11_207 C ⟨Nat.le_of_ble_eq_true rfl, Nat.le_of_ble_eq_true rfl⟩) (hs.recv hK 0 (by decide) rfl rfl) rfl rfl (Nat.le_of_ble_eq_true rfl) dX11_soon_41 (fun H locs hs => ?_)
            refine lv_icmp_lt (tgt := 61) hx hb dX11_soon_44 (by decide) (fun hc => ?_) (fun hc => ?_)
            · have hE := if_t hc hE
              refine lv_aload_n hx hb dX11_soon_61 rfl (lv_at hl 0 rfl) ?_
              refine lv_aload_n hx hb dX11_soon_62 rfl (lv_at hl 0 rfl) ?_
              refine gf_X11_40_0 C hK hs dX11_soon_63 ?_
              refine lv_iconst (v := 0) hx hb dX11_soon_66 (by decide) ?_
              obtain ⟨σ12, r13, hE1, hE⟩ := cl_e hE
              refine x_civ (As := [.ref (g.2.1 11), .int 0]) (rest := []) C hl.1 hK hs hA ⟨Nat.le_refl 0, Nat.le_refl 0⟩ (ctX11_passes l g _ _ _ _ _ hE1) (cw_X11_237 C ⟨Nat.le_of_ble_eq_true rfl, Nat.le_of_ble_eq_true rfl⟩) (hs.recv hK 0 (by decide) rfl rfl) rfl rfl (Nat.le_of_ble_eq_true rfl) dX11_soon_67 (fun H locs hs => ?_)
              refine lv_pop hx hb dX11_soon_70 rfl ?_
              refine lv_iinc (v := v8 + 1) (lv' := [(3, .int (v8 + 1)), (0, .ref (g.2.1 0)), (1, .int p1), (2, .int p2)]) hx hb dX11_soon_71 hl (k := 3) rfl rfl (by decide) rfl (fun ls hl => ?_)
              refine lv_goto (tgt := 24) hx hb dX11_soon_74 (by decide) ?_
              exact ih _ _ _ hE hk _ _ _ hs (lv_sub hl [1, 2, 3, 0] rfl)
            · have hE := if_f hc hE
              refine lv_aload_n hx hb dX11_soon_47 rfl (lv_at hl 0 rfl) ?_
              refine lv_iload_n hx hb dX11_soon_48 rfl (lv_at hl 3 rfl) ?_
              refine lv_aload_n hx hb dX11_soon_49 rfl (lv_at hl 0 rfl) ?_
              refine gf_X11_40_0 C hK hs dX11_soon_50 ?_
              refine lv_iconst (v := 1) hx hb dX11_soon_53 (by decide) ?_
              refine lv_iload_n hx hb dX11_soon_54 rfl (lv_at hl 1 rfl) ?_
              refine lv_iadd hx hb dX11_soon_55 ?_
              obtain ⟨hi, x14, ex14, hE⟩ := rd_w hE
              refine y_ald layM C hK hs hi ex14 dX11_soon_56 ?_
              obtain ⟨σ15, r16, hE1, hE⟩ := cl_e hE
              refine x_civ (As := [.int v8, .int x14]) (rest := []) C hl.1 hK hs hA ⟨Nat.le_refl 0, Nat.le_refl 0⟩ (ctX11_answer l g _ _ _ _ _ hE1) (cw_X11_210 C ⟨Nat.le_of_ble_eq_true rfl, Nat.le_of_ble_eq_true rfl⟩) (hs.recv hK 0 (by decide) rfl rfl) rfl rfl (Nat.le_of_ble_eq_true rfl) dX11_soon_57 (fun H locs hs => ?_)
              exact hQ hs hE dX11_soon_60
      refine hL24 _ _ _ _ hE (fun σ17 v18 H locs ls hs hl hE => ?_) H locs ls hs (lv_sub hl [1, 2, 3, 0] rfl)
      refine lv_bipush (v := (-9)) hx hb dX11_soon_77 (by decide) ?_
      exact hQ hs hE dX11_soon_79
    · have hE := if_t hc hE
      refine lv_iconst (v := (-1)) hx hb dX11_soon_16 (by decide) ?_
      exact hQ hs hE dX11_soon_17
theorem dX11_feast_0 : decode cX11_feast 0 = .ok (.aload_n 0, 1) := by decide +kernel
theorem dX11_feast_1 : decode cX11_feast 1 = .ok (.iload_n 1, 1) := by decide +kernel
theorem dX11_feast_2 : decode cX11_feast 2 = .ok (.invokevirtual 201, 3) := by decide +kernel
theorem dX11_feast_5 : decode cX11_feast 5 = .ok (.ifCond .eq 21, 3) := by decide +kernel
theorem dX11_feast_8 : decode cX11_feast 8 = .ok (.iload_n 2, 1) := by decide +kernel
theorem dX11_feast_9 : decode cX11_feast 9 = .ok (.i2l, 1) := by decide +kernel
theorem dX11_feast_10 : decode cX11_feast 10 = .ok (.lconst 0, 1) := by decide +kernel
theorem dX11_feast_11 : decode cX11_feast 11 = .ok (.iconst 1, 1) := by decide +kernel
theorem dX11_feast_12 : decode cX11_feast 12 = .ok (.aload_n 0, 1) := by decide +kernel
theorem dX11_feast_13 : decode cX11_feast 13 = .ok (.getfield 163, 3) := by decide +kernel
theorem dX11_feast_16 : decode cX11_feast 16 = .ok (.ishl, 1) := by decide +kernel
theorem dX11_feast_17 : decode cX11_feast 17 = .ok (.iconst 1, 1) := by decide +kernel
theorem dX11_feast_18 : decode cX11_feast 18 = .ok (.isub, 1) := by decide +kernel
theorem dX11_feast_19 : decode cX11_feast 19 = .ok (.i2l, 1) := by decide +kernel
theorem dX11_feast_20 : decode cX11_feast 20 = .ok (.invokestatic 96, 3) := by decide +kernel
theorem dX11_feast_23 : decode cX11_feast 23 = .ok (.ifCond .ne 5, 3) := by decide +kernel
theorem dX11_feast_26 : decode cX11_feast 26 = .ok (.iconst (-1), 1) := by decide +kernel
theorem dX11_feast_27 : decode cX11_feast 27 = .ok (.ireturn, 1) := by decide +kernel
theorem dX11_feast_28 : decode cX11_feast 28 = .ok (.aload_n 0, 1) := by decide +kernel
theorem dX11_feast_29 : decode cX11_feast 29 = .ok (.invokevirtual 247, 3) := by decide +kernel
theorem dX11_feast_32 : decode cX11_feast 32 = .ok (.iconst 0, 1) := by decide +kernel
theorem dX11_feast_33 : decode cX11_feast 33 = .ok (.istore_n 3, 1) := by decide +kernel
theorem dX11_feast_34 : decode cX11_feast 34 = .ok (.iload_n 3, 1) := by decide +kernel
theorem dX11_feast_35 : decode cX11_feast 35 = .ok (.bipush 61, 2) := by decide +kernel
theorem dX11_feast_37 : decode cX11_feast 37 = .ok (.if_icmp .ge 99, 3) := by decide +kernel
theorem dX11_feast_40 : decode cX11_feast 40 = .ok (.iconst 0, 1) := by decide +kernel
theorem dX11_feast_41 : decode cX11_feast 41 = .ok (.istore 4, 2) := by decide +kernel
theorem dX11_feast_43 : decode cX11_feast 43 = .ok (.iconst 0, 1) := by decide +kernel
theorem dX11_feast_44 : decode cX11_feast 44 = .ok (.istore 5, 2) := by decide +kernel
theorem dX11_feast_46 : decode cX11_feast 46 = .ok (.iload 5, 2) := by decide +kernel
theorem dX11_feast_48 : decode cX11_feast 48 = .ok (.aload_n 0, 1) := by decide +kernel
theorem dX11_feast_49 : decode cX11_feast 49 = .ok (.getfield 163, 3) := by decide +kernel
theorem dX11_feast_52 : decode cX11_feast 52 = .ok (.if_icmp .ge 47, 3) := by decide +kernel
theorem dX11_feast_55 : decode cX11_feast 55 = .ok (.iload 4, 2) := by decide +kernel
theorem dX11_feast_57 : decode cX11_feast 57 = .ok (.iload_n 2, 1) := by decide +kernel
theorem dX11_feast_58 : decode cX11_feast 58 = .ok (.iload 5, 2) := by decide +kernel
theorem dX11_feast_60 : decode cX11_feast 60 = .ok (.invokestatic 227, 3) := by decide +kernel
theorem dX11_feast_63 : decode cX11_feast 63 = .ok (.ifCond .eq 26, 3) := by decide +kernel
theorem dX11_feast_66 : decode cX11_feast 66 = .ok (.aload_n 0, 1) := by decide +kernel
theorem dX11_feast_67 : decode cX11_feast 67 = .ok (.getfield 40, 3) := by decide +kernel
theorem dX11_feast_70 : decode cX11_feast 70 = .ok (.iload_n 1, 1) := by decide +kernel
theorem dX11_feast_71 : decode cX11_feast 71 = .ok (.iload 5, 2) := by decide +kernel
theorem dX11_feast_73 : decode cX11_feast 73 = .ok (.invokestatic 184, 3) := by decide +kernel
theorem dX11_feast_76 : decode cX11_feast 76 = .ok (.ifCond .ne 13, 3) := by decide +kernel
theorem dX11_feast_79 : decode cX11_feast 79 = .ok (.aload_n 0, 1) := by decide +kernel
theorem dX11_feast_80 : decode cX11_feast 80 = .ok (.iload_n 1, 1) := by decide +kernel
theorem dX11_feast_81 : decode cX11_feast 81 = .ok (.iload 5, 2) := by decide +kernel
theorem dX11_feast_83 : decode cX11_feast 83 = .ok (.invokevirtual 207, 3) := by decide +kernel
theorem dX11_feast_86 : decode cX11_feast 86 = .ok (.goto 4, 3) := by decide +kernel
theorem dX11_feast_89 : decode cX11_feast 89 = .ok (.iconst 0, 1) := by decide +kernel
theorem dX11_feast_90 : decode cX11_feast 90 = .ok (.iadd, 1) := by decide +kernel
theorem dX11_feast_91 : decode cX11_feast 91 = .ok (.istore 4, 2) := by decide +kernel
theorem dX11_feast_93 : decode cX11_feast 93 = .ok (.iinc 5 1, 3) := by decide +kernel
theorem dX11_feast_96 : decode cX11_feast 96 = .ok (.goto (-50), 3) := by decide +kernel
theorem dX11_feast_99 : decode cX11_feast 99 = .ok (.aload_n 0, 1) := by decide +kernel
theorem dX11_feast_100 : decode cX11_feast 100 = .ok (.getfield 40, 3) := by decide +kernel
theorem dX11_feast_103 : decode cX11_feast 103 = .ok (.iconst 1, 1) := by decide +kernel
theorem dX11_feast_104 : decode cX11_feast 104 = .ok (.iload_n 1, 1) := by decide +kernel
theorem dX11_feast_105 : decode cX11_feast 105 = .ok (.iadd, 1) := by decide +kernel
theorem dX11_feast_106 : decode cX11_feast 106 = .ok (.iaload, 1) := by decide +kernel
theorem dX11_feast_107 : decode cX11_feast 107 = .ok (.iload 4, 2) := by decide +kernel
theorem dX11_feast_109 : decode cX11_feast 109 = .ok (.if_icmp .lt 11, 3) := by decide +kernel
theorem dX11_feast_112 : decode cX11_feast 112 = .ok (.aload_n 0, 1) := by decide +kernel
theorem dX11_feast_113 : decode cX11_feast 113 = .ok (.iload_n 3, 1) := by decide +kernel
theorem dX11_feast_114 : decode cX11_feast 114 = .ok (.iload 4, 2) := by decide +kernel
theorem dX11_feast_116 : decode cX11_feast 116 = .ok (.invokevirtual 210, 3) := by decide +kernel
theorem dX11_feast_119 : decode cX11_feast 119 = .ok (.ireturn, 1) := by decide +kernel
theorem dX11_feast_120 : decode cX11_feast 120 = .ok (.aload_n 0, 1) := by decide +kernel
theorem dX11_feast_121 : decode cX11_feast 121 = .ok (.aload_n 0, 1) := by decide +kernel
theorem dX11_feast_122 : decode cX11_feast 122 = .ok (.getfield 40, 3) := by decide +kernel
theorem dX11_feast_125 : decode cX11_feast 125 = .ok (.iconst 0, 1) := by decide +kernel
theorem dX11_feast_126 : decode cX11_feast 126 = .ok (.invokevirtual 237, 3) := by decide +kernel
theorem dX11_feast_129 : decode cX11_feast 129 = .ok (.pop, 1) := by decide +kernel
theorem dX11_feast_130 : decode cX11_feast 130 = .ok (.iinc 3 1, 3) := by decide +kernel
theorem dX11_feast_133 : decode cX11_feast 133 = .ok (.goto (-99), 3) := by decide +kernel
theorem dX11_feast_136 : decode cX11_feast 136 = .ok (.bipush (-9), 2) := by decide +kernel
theorem dX11_feast_138 : decode cX11_feast 138 = .ok (.ireturn, 1) := by decide +kernel
def fX11_feast_L46 (p1 : Int32) (p2 : Int32) (v8 : Int32) : Nat → St → Int32 → Int32 → (St → Int32 → Int32 → Option (St × Int32)) → Option (St × Int32)
  | 0, _, _, _, _ => none
  | n + 1, σ9, v10, v11, k => (if (σ9.1 0 7) ≤ v11 then k σ9 v10 v11 else cl (fX11_has σ9 p2 v11) (fun σ12 r13 => jn (fun (σ15 : St) (y16 : Int32) => fX11_feast_L46 p1 p2 v8 n σ15 (v10 + y16) (v11 + 1) k) (fun k14 => jn (fun (σ18 : St) => k14 σ18 0) (fun k17 => (if r13 = 0 then k17 σ12 else cl (fX11_owns σ12 11 p1 v11) (fun σ19 r20 => (if r20 = 0 then cl (fX11_pays σ19 p1 v11) (fun σ21 r22 => k14 σ21 r22) else k17 σ19)))))))
def fX11_feast_L34 (p1 : Int32) (p2 : Int32) : Nat → St → Int32 → (St → Int32 → Option (St × Int32)) → Option (St × Int32)
  | 0, _, _, _ => none
  | n + 1, σ7, v8, k => (if 61 ≤ v8 then k σ7 v8 else fX11_feast_L46 p1 p2 v8 10000 σ7 0 0 (fun σ23 v24 v25 => rd LM σ23 11 (1 + p1) (fun x26 => (if x26 < v24 then cl (fX11_passes σ23 11 0) (fun σ27 r28 => fX11_feast_L34 p1 p2 n σ27 (v8 + 1) k) else cl (fX11_answer σ23 v8 v24) (fun σ29 r30 => some (σ29, r30))))))
def fX11_feast (σ : St) (p1 : Int32) (p2 : Int32) : Option (St × Int32) := cl (fX11_isHouse σ p1) (fun σ1 r2 => (if r2 = 0 then some (σ1, (-1)) else cl (fX11_in σ1 (p2.toInt64) 0 (((1 <<< ((σ1.1 0 7) &&& 31)) - 1).toInt64)) (fun σ3 r4 => (if r4 = 0 then some (σ3, (-1)) else cl (fX11_laysAside σ3) (fun σ5 r6 => fX11_feast_L34 p1 p2 10000 σ5 0 (fun σ31 v32 => some (σ31, (-9))))))))
set_option maxHeartbeats 4000000 in
set_option maxRecDepth 100000 in
theorem ctX11_feast (l : Launch) (g : GG) (σ : St) (p1 : Int32) (p2 : Int32) (σ' : St) (r : Int32) (hE : fX11_feast σ p1 p2 = some (σ', r)) : MI 25 entM l g yX11_feast (Cond.code yX11_feast cX11_feast 6 (some .int) :: gtbl) (rmD 4) [.ref (g.2.1 0), .int p1, .int p2] σ σ' r := by
  refine mi_i (own := RX11) (lv := [(0, .ref (g.2.1 0)), (1, .int p1), (2, .int p2)]) (by decide) rfl (Nat.le_of_ble_eq_true rfl) rfl (fun p e s m below meth c ls args Q A H0 H locs C hK hA hQ hs hl => ?_)
  have hx := C.1
  have hb := C.2.1
  unfold fX11_feast at hE
  refine lv_aload_n hx hb dX11_feast_0 rfl (lv_at hl 0 rfl) ?_
  refine lv_iload_n hx hb dX11_feast_1 rfl (lv_at hl 1 rfl) ?_
  obtain ⟨σ1, r2, hE1, hE⟩ := cl_e hE
  refine x_civ (As := [.int p1]) (rest := []) C hl.1 hK hs hA ⟨Nat.le_refl 0, Nat.le_refl 0⟩ (ctX11_isHouse l g _ _ _ _ hE1) (cw_X11_201 C ⟨Nat.le_of_ble_eq_true rfl, Nat.le_of_ble_eq_true rfl⟩) (hs.recv hK 0 (by decide) rfl rfl) rfl rfl (Nat.le_of_ble_eq_true rfl) dX11_feast_2 (fun H locs hs => ?_)
  refine lv_if_eq (tgt := 26) hx hb dX11_feast_5 (by decide) (fun hc => ?_) (fun hc => ?_)
  · have hE := if_t hc hE
    refine lv_iconst (v := (-1)) hx hb dX11_feast_26 (by decide) ?_
    exact hQ hs hE dX11_feast_27
  · have hE := if_f hc hE
    refine lv_iload_n hx hb dX11_feast_8 rfl (lv_at hl 2 rfl) ?_
    refine lv_i2l (v := p2.toInt64) hx hb dX11_feast_9 rfl ?_
    refine lv_lconst (v := 0) hx hb dX11_feast_10 (by decide) ?_
    refine lv_iconst (v := 1) hx hb dX11_feast_11 (by decide) ?_
    refine lv_aload_n hx hb dX11_feast_12 rfl (lv_at hl 0 rfl) ?_
    refine gf_X11_163_0 C hK hs dX11_feast_13 ?_
    refine lv_ishl hx hb dX11_feast_16 ?_
    refine lv_iconst (v := 1) hx hb dX11_feast_17 (by decide) ?_
    refine lv_isub hx hb dX11_feast_18 ?_
    refine lv_i2l (v := ((1 <<< ((σ1.1 0 7) &&& 31)) - 1).toInt64) hx hb dX11_feast_19 rfl ?_
    obtain ⟨σ3, r4, hE1, hE⟩ := cl_e hE
    refine x_cis (As := [.long (p2.toInt64), .long 0, .long (((1 <<< ((σ1.1 0 7) &&& 31)) - 1).toInt64)]) (rest := []) C hl.1 hK hs hA ⟨Nat.le_refl 0, Nat.le_refl 0⟩ (ctX11_in l g _ _ _ _ _ _ hE1) (cw_X11_96 C ⟨Nat.le_of_ble_eq_true rfl, Nat.le_of_ble_eq_true rfl⟩) rfl rfl (Nat.le_of_ble_eq_true rfl) dX11_feast_20 (fun H locs hs => ?_)
    refine lv_if_ne (tgt := 28) hx hb dX11_feast_23 (by decide) (fun hc => ?_) (fun hc => ?_)
    · have hE := if_f hc hE
      refine lv_aload_n hx hb dX11_feast_28 rfl (lv_at hl 0 rfl) ?_
      obtain ⟨σ5, r6, hE1, hE⟩ := cl_e hE
      refine x_cvv (As := []) (rest := []) C hl.1 hK hs hA ⟨Nat.le_refl 0, Nat.le_refl 0⟩ (ctX11_laysAside l g _  _ _ hE1) (cw_X11_247 C ⟨Nat.le_of_ble_eq_true rfl, Nat.le_of_ble_eq_true rfl⟩) (hs.recv hK 0 (by decide) rfl rfl) rfl rfl (Nat.le_of_ble_eq_true rfl) dX11_feast_29 (fun H locs hs => ?_)
      refine lv_iconst (v := 0) hx hb dX11_feast_32 (by decide) ?_
      refine lv_istore_n (lv' := [(3, .int 0), (0, .ref (g.2.1 0)), (1, .int p1), (2, .int p2)]) hx hb dX11_feast_33 rfl hl (by decide) rfl (fun ls hl => ?_)
      have hL34 : ∀ (n : Nat) (σ7 : St) (v8 : Int32) (k : St → Int32 → Option (St × Int32)), fX11_feast_L34 p1 p2 n σ7 v8 k = some (σ', r) → (∀ (σ7 : St) (v8 : Int32) (H : Heap) (locs : List Loc) (ls : Array Slot), HW 25 entM g A H0 H locs σ7 → lv_has ls 6 [(0, .ref (g.2.1 0)), (1, .int p1), (2, .int p2), (3, .int v8)] → k σ7 v8 = some (σ', r) → W p l e (rmD 4) s m args below meth c H locs 0 0 Q (F0 m 136 ls [])) → ∀ (H : Heap) (locs : List Loc) (ls : Array Slot), HW 25 entM g A H0 H locs σ7 → lv_has ls 6 [(0, .ref (g.2.1 0)), (1, .int p1), (2, .int p2), (3, .int v8)] → W p l e (rmD 4) s m args below meth c H locs 0 0 Q (F0 m 34 ls []) := by
        intro n
        induction n with
        | zero =>
          intro σ7 v8 k hE
          rw [fX11_feast_L34] at hE
          exact no_e hE
        | succ n ih =>
          intro σ7 v8 k hE hk H locs ls hs hl
          rw [fX11_feast_L34] at hE
          refine lv_iload_n hx hb dX11_feast_34 rfl (lv_at hl 3 rfl) ?_
          refine lv_bipush (v := 61) hx hb dX11_feast_35 (by decide) ?_
          refine lv_icmp_ge (tgt := 136) hx hb dX11_feast_37 (by decide) (fun hc => ?_) (fun hc => ?_)
          · have hE := if_t hc hE
            exact hk σ7 v8 _ _ _ hs (lv_sub hl [0, 1, 2, 3] rfl) hE
          · have hE := if_f hc hE
            refine lv_iconst (v := 0) hx hb dX11_feast_40 (by decide) ?_
            refine lv_istore (lv' := [(4, .int 0), (0, .ref (g.2.1 0)), (1, .int p1), (2, .int p2), (3, .int v8)]) hx hb dX11_feast_41 hl (by decide) rfl (fun ls hl => ?_)
            refine lv_iconst (v := 0) hx hb dX11_feast_43 (by decide) ?_
            refine lv_istore (lv' := [(5, .int 0), (4, .int 0), (0, .ref (g.2.1 0)), (1, .int p1), (2, .int p2), (3, .int v8)]) hx hb dX11_feast_44 hl (by decide) rfl (fun ls hl => ?_)
            have hL46 : ∀ (n : Nat) (σ9 : St) (v10 : Int32) (v11 : Int32) (k : St → Int32 → Int32 → Option (St × Int32)), fX11_feast_L46 p1 p2 v8 n σ9 v10 v11 k = some (σ', r) → (∀ (σ9 : St) (v10 : Int32) (v11 : Int32) (H : Heap) (locs : List Loc) (ls : Array Slot), HW 25 entM g A H0 H locs σ9 → lv_has ls 6 [(0, .ref (g.2.1 0)), (1, .int p1), (2, .int p2), (3, .int v8), (4, .int v10), (5, .int v11)] → k σ9 v10 v11 = some (σ', r) → W p l e (rmD 4) s m args below meth c H locs 0 0 Q (F0 m 99 ls [])) → ∀ (H : Heap) (locs : List Loc) (ls : Array Slot), HW 25 entM g A H0 H locs σ9 → lv_has ls 6 [(0, .ref (g.2.1 0)), (1, .int p1), (2, .int p2), (3, .int v8), (4, .int v10), (5, .int v11)] → W p l e (rmD 4) s m args below meth c H locs 0 0 Q (F0 m 46 ls []) := by
              intro n
              induction n with
              | zero =>
                intro σ9 v10 v11 k hE
                rw [fX11_feast_L46] at hE
                exact no_e hE
              | succ n ih =>
                intro σ9 v10 v11 k hE hk H locs ls hs hl
                rw [fX11_feast_L46] at hE
                refine lv_iload hx hb dX11_feast_46 (lv_at hl 5 rfl) ?_
                refine lv_aload_n hx hb dX11_feast_48 rfl (lv_at hl 0 rfl) ?_
                refine gf_X11_163_0 C hK hs dX11_feast_49 ?_
                refine lv_icmp_ge (tgt := 99) hx hb dX11_feast_52 (by decide) (fun hc => ?_) (fun hc => ?_)
                · have hE := if_t hc hE
                  exact hk σ9 v10 v11 _ _ _ hs (lv_sub hl [0, 1, 2, 3, 4, 5] rfl) hE
                · have hE := if_f hc hE
                  refine lv_iload hx hb dX11_feast_55 (lv_at hl 4 rfl) ?_
                  refine lv_iload_n hx hb dX11_feast_57 rfl (lv_at hl 2 rfl) ?_
                  refine lv_iload hx hb dX11_feast_58 (lv_at hl 5 rfl) ?_
                  obtain ⟨σ12, r13, hE1, hE⟩ := cl_e hE
                  refine x_cis (As := [.int p2, .int v11]) (rest := [.int v10]) C hl.1 hK hs hA ⟨Nat.le_refl 0, Nat.le_refl 0⟩ (ctX11_has l g _ _ _ _ _ hE1) (cw_X11_227 C ⟨Nat.le_of_ble_eq_true rfl, Nat.le_of_ble_eq_true rfl⟩) rfl rfl (Nat.le_of_ble_eq_true rfl) dX11_feast_60 (fun H locs hs => ?_)
                  refine jn2 hE (fun k14 hE hk14 => ?_)
                  have hJk14 : ∀ (σ15 : St) (y16 : Int32) (H : Heap) (locs : List Loc) (ls : Array Slot), HW 25 entM g A H0 H locs σ15 → lv_has ls 6 [(0, .ref (g.2.1 0)), (1, .int p1), (2, .int p2), (3, .int v8), (5, .int v11)] → k14 σ15 y16 = some (σ', r) → W p l e (rmD 4) s m args below meth c H locs 0 0 Q (F0 m 90 ls [.int y16, .int v10]) := by
                    intro σ15 y16 H locs ls hs hl hE
                    have hE := hk14 _ _ hE
                    refine lv_iadd hx hb dX11_feast_90 ?_
                    refine lv_istore (lv' := [(4, .int (v10 + y16)), (0, .ref (g.2.1 0)), (1, .int p1), (2, .int p2), (3, .int v8), (5, .int v11)]) hx hb dX11_feast_91 hl (by decide) rfl (fun ls hl => ?_)
                    refine lv_iinc (v := v11 + 1) (lv' := [(5, .int (v11 + 1)), (4, .int (v10 + y16)), (0, .ref (g.2.1 0)), (1, .int p1), (2, .int p2), (3, .int v8)]) hx hb dX11_feast_93 hl (k := 5) rfl rfl (by decide) rfl (fun ls hl => ?_)
                    refine lv_goto (tgt := 46) hx hb dX11_feast_96 (by decide) ?_
                    exact ih _ _ _ _ hE hk _ _ _ hs (lv_sub hl [2, 3, 4, 5, 1, 0] rfl)
                  refine jn1 hE (fun k17 hE hk17 => ?_)
                  have hJk17 : ∀ (σ18 : St) (H : Heap) (locs : List Loc) (ls : Array Slot), HW 25 entM g A H0 H locs σ18 → lv_has ls 6 [(0, .ref (g.2.1 0)), (1, .int p1), (2, .int p2), (3, .int v8), (5, .int v11)] → k17 σ18 = some (σ', r) → W p l e (rmD 4) s m args below meth c H locs 0 0 Q (F0 m 89 ls [.int v10]) := by
                    intro σ18 H locs ls hs hl hE
                    have hE := hk17 _ hE
                    refine lv_iconst (v := 0) hx hb dX11_feast_89 (by decide) ?_
                    exact hJk14 σ18 0 _ _ _ hs (lv_sub hl [0, 1, 2, 3, 4] rfl) hE
                  refine lv_if_eq (tgt := 89) hx hb dX11_feast_63 (by decide) (fun hc => ?_) (fun hc => ?_)
                  · have hE := if_t hc hE
                    exact hJk17 σ12 _ _ _ hs (lv_sub hl [0, 1, 2, 3, 5] rfl) hE
                  · have hE := if_f hc hE
                    refine lv_aload_n hx hb dX11_feast_66 rfl (lv_at hl 0 rfl) ?_
                    refine gf_X11_40_0 C hK hs dX11_feast_67 ?_
                    refine lv_iload_n hx hb dX11_feast_70 rfl (lv_at hl 1 rfl) ?_
                    refine lv_iload hx hb dX11_feast_71 (lv_at hl 5 rfl) ?_
                    obtain ⟨σ19, r20, hE1, hE⟩ := cl_e hE
                    refine x_cis (As := [.ref (g.2.1 11), .int p1, .int v11]) (rest := [.int v10]) C hl.1 hK hs hA ⟨Nat.le_refl 0, Nat.le_refl 0⟩ (ctX11_owns l g _ _ _ _ _ _ hE1) (cw_X11_184 C ⟨Nat.le_of_ble_eq_true rfl, Nat.le_of_ble_eq_true rfl⟩) rfl rfl (Nat.le_of_ble_eq_true rfl) dX11_feast_73 (fun H locs hs => ?_)
                    refine lv_if_ne (tgt := 89) hx hb dX11_feast_76 (by decide) (fun hc => ?_) (fun hc => ?_)
                    · have hE := if_f hc hE
                      exact hJk17 σ19 _ _ _ hs (lv_sub hl [0, 1, 2, 3, 5] rfl) hE
                    · have hE := if_t hc hE
                      refine lv_aload_n hx hb dX11_feast_79 rfl (lv_at hl 0 rfl) ?_
                      refine lv_iload_n hx hb dX11_feast_80 rfl (lv_at hl 1 rfl) ?_
                      refine lv_iload hx hb dX11_feast_81 (lv_at hl 5 rfl) ?_
                      obtain ⟨σ21, r22, hE1, hE⟩ := cl_e hE
                      refine x_civ (As := [.int p1, .int v11]) (rest := [.int v10]) C hl.1 hK hs hA ⟨Nat.le_refl 0, Nat.le_refl 0⟩ (ctX11_pays l g _ _ _ _ _ hE1) (cw_X11_207 C ⟨Nat.le_of_ble_eq_true rfl, Nat.le_of_ble_eq_true rfl⟩) (hs.recv hK 0 (by decide) rfl rfl) rfl rfl (Nat.le_of_ble_eq_true rfl) dX11_feast_83 (fun H locs hs => ?_)
                      refine lv_goto (tgt := 90) hx hb dX11_feast_86 (by decide) ?_
                      exact hJk14 σ21 r22 _ _ _ hs (lv_sub hl [0, 1, 2, 3, 5] rfl) hE
            refine hL46 _ _ _ _ _ hE (fun σ23 v24 v25 H locs ls hs hl hE => ?_) H locs ls hs (lv_sub hl [2, 3, 4, 5, 1, 0] rfl)
            refine lv_aload_n hx hb dX11_feast_99 rfl (lv_at hl 0 rfl) ?_
            refine gf_X11_40_0 C hK hs dX11_feast_100 ?_
            refine lv_iconst (v := 1) hx hb dX11_feast_103 (by decide) ?_
            refine lv_iload_n hx hb dX11_feast_104 rfl (lv_at hl 1 rfl) ?_
            refine lv_iadd hx hb dX11_feast_105 ?_
            obtain ⟨hi, x26, ex26, hE⟩ := rd_w hE
            refine y_ald layM C hK hs hi ex26 dX11_feast_106 ?_
            refine lv_iload hx hb dX11_feast_107 (lv_at hl 4 rfl) ?_
            refine lv_icmp_lt (tgt := 120) hx hb dX11_feast_109 (by decide) (fun hc => ?_) (fun hc => ?_)
            · have hE := if_t hc hE
              refine lv_aload_n hx hb dX11_feast_120 rfl (lv_at hl 0 rfl) ?_
              refine lv_aload_n hx hb dX11_feast_121 rfl (lv_at hl 0 rfl) ?_
              refine gf_X11_40_0 C hK hs dX11_feast_122 ?_
              refine lv_iconst (v := 0) hx hb dX11_feast_125 (by decide) ?_
              obtain ⟨σ27, r28, hE1, hE⟩ := cl_e hE
              refine x_civ (As := [.ref (g.2.1 11), .int 0]) (rest := []) C hl.1 hK hs hA ⟨Nat.le_refl 0, Nat.le_refl 0⟩ (ctX11_passes l g _ _ _ _ _ hE1) (cw_X11_237 C ⟨Nat.le_of_ble_eq_true rfl, Nat.le_of_ble_eq_true rfl⟩) (hs.recv hK 0 (by decide) rfl rfl) rfl rfl (Nat.le_of_ble_eq_true rfl) dX11_feast_126 (fun H locs hs => ?_)
              refine lv_pop hx hb dX11_feast_129 rfl ?_
              refine lv_iinc (v := v8 + 1) (lv' := [(3, .int (v8 + 1)), (0, .ref (g.2.1 0)), (1, .int p1), (2, .int p2), (4, .int v24), (5, .int v25)]) hx hb dX11_feast_130 hl (k := 3) rfl rfl (by decide) rfl (fun ls hl => ?_)
              refine lv_goto (tgt := 34) hx hb dX11_feast_133 (by decide) ?_
              exact ih _ _ _ hE hk _ _ _ hs (lv_sub hl [1, 2, 3, 0] rfl)
            · have hE := if_f hc hE
              refine lv_aload_n hx hb dX11_feast_112 rfl (lv_at hl 0 rfl) ?_
              refine lv_iload_n hx hb dX11_feast_113 rfl (lv_at hl 3 rfl) ?_
              refine lv_iload hx hb dX11_feast_114 (lv_at hl 4 rfl) ?_
              obtain ⟨σ29, r30, hE1, hE⟩ := cl_e hE
              refine x_civ (As := [.int v8, .int v24]) (rest := []) C hl.1 hK hs hA ⟨Nat.le_refl 0, Nat.le_refl 0⟩ (ctX11_answer l g _ _ _ _ _ hE1) (cw_X11_210 C ⟨Nat.le_of_ble_eq_true rfl, Nat.le_of_ble_eq_true rfl⟩) (hs.recv hK 0 (by decide) rfl rfl) rfl rfl (Nat.le_of_ble_eq_true rfl) dX11_feast_116 (fun H locs hs => ?_)
              exact hQ hs hE dX11_feast_119
      refine hL34 _ _ _ _ hE (fun σ31 v32 H locs ls hs hl hE => ?_) H locs ls hs (lv_sub hl [1, 2, 3, 0] rfl)
      refine lv_bipush (v := (-9)) hx hb dX11_feast_136 (by decide) ?_
      exact hQ hs hE dX11_feast_138
    · have hE := if_t hc hE
      refine lv_iconst (v := (-1)) hx hb dX11_feast_26 (by decide) ?_
      exact hQ hs hE dX11_feast_27
theorem dX11_isWantedAhead_0 : decode cX11_isWantedAhead 0 = .ok (.iload 4, 2) := by decide +kernel
theorem dX11_isWantedAhead_2 : decode cX11_isWantedAhead 2 = .ok (.ifCond .ne 7, 3) := by decide +kernel
theorem dX11_isWantedAhead_5 : decode cX11_isWantedAhead 5 = .ok (.iconst 0, 1) := by decide +kernel
theorem dX11_isWantedAhead_6 : decode cX11_isWantedAhead 6 = .ok (.goto 74, 3) := by decide +kernel
theorem dX11_isWantedAhead_9 : decode cX11_isWantedAhead 9 = .ok (.iload 4, 2) := by decide +kernel
theorem dX11_isWantedAhead_11 : decode cX11_isWantedAhead 11 = .ok (.iconst 1, 1) := by decide +kernel
theorem dX11_isWantedAhead_12 : decode cX11_isWantedAhead 12 = .ok (.if_icmp .ne 19, 3) := by decide +kernel
theorem dX11_isWantedAhead_15 : decode cX11_isWantedAhead 15 = .ok (.aload_n 0, 1) := by decide +kernel
theorem dX11_isWantedAhead_16 : decode cX11_isWantedAhead 16 = .ok (.iload_n 1, 1) := by decide +kernel
theorem dX11_isWantedAhead_17 : decode cX11_isWantedAhead 17 = .ok (.iload_n 3, 1) := by decide +kernel
theorem dX11_isWantedAhead_18 : decode cX11_isWantedAhead 18 = .ok (.invokevirtual 207, 3) := by decide +kernel
theorem dX11_isWantedAhead_21 : decode cX11_isWantedAhead 21 = .ok (.aload_n 0, 1) := by decide +kernel
theorem dX11_isWantedAhead_22 : decode cX11_isWantedAhead 22 = .ok (.iload_n 1, 1) := by decide +kernel
theorem dX11_isWantedAhead_23 : decode cX11_isWantedAhead 23 = .ok (.iload_n 2, 1) := by decide +kernel
theorem dX11_isWantedAhead_24 : decode cX11_isWantedAhead 24 = .ok (.invokevirtual 207, 3) := by decide +kernel
theorem dX11_isWantedAhead_27 : decode cX11_isWantedAhead 27 = .ok (.isub, 1) := by decide +kernel
theorem dX11_isWantedAhead_28 : decode cX11_isWantedAhead 28 = .ok (.goto 52, 3) := by decide +kernel
theorem dX11_isWantedAhead_31 : decode cX11_isWantedAhead 31 = .ok (.iload 4, 2) := by decide +kernel
theorem dX11_isWantedAhead_33 : decode cX11_isWantedAhead 33 = .ok (.iconst 2, 1) := by decide +kernel
theorem dX11_isWantedAhead_34 : decode cX11_isWantedAhead 34 = .ok (.if_icmp .ne 19, 3) := by decide +kernel
theorem dX11_isWantedAhead_37 : decode cX11_isWantedAhead 37 = .ok (.aload_n 0, 1) := by decide +kernel
theorem dX11_isWantedAhead_38 : decode cX11_isWantedAhead 38 = .ok (.iload_n 1, 1) := by decide +kernel
theorem dX11_isWantedAhead_39 : decode cX11_isWantedAhead 39 = .ok (.iload_n 2, 1) := by decide +kernel
theorem dX11_isWantedAhead_40 : decode cX11_isWantedAhead 40 = .ok (.invokevirtual 207, 3) := by decide +kernel
theorem dX11_isWantedAhead_43 : decode cX11_isWantedAhead 43 = .ok (.aload_n 0, 1) := by decide +kernel
theorem dX11_isWantedAhead_44 : decode cX11_isWantedAhead 44 = .ok (.iload_n 1, 1) := by decide +kernel
theorem dX11_isWantedAhead_45 : decode cX11_isWantedAhead 45 = .ok (.iload_n 3, 1) := by decide +kernel
theorem dX11_isWantedAhead_46 : decode cX11_isWantedAhead 46 = .ok (.invokevirtual 207, 3) := by decide +kernel
theorem dX11_isWantedAhead_49 : decode cX11_isWantedAhead 49 = .ok (.isub, 1) := by decide +kernel
theorem dX11_isWantedAhead_50 : decode cX11_isWantedAhead 50 = .ok (.goto 30, 3) := by decide +kernel
theorem dX11_isWantedAhead_53 : decode cX11_isWantedAhead 53 = .ok (.aload_n 0, 1) := by decide +kernel
theorem dX11_isWantedAhead_54 : decode cX11_isWantedAhead 54 = .ok (.iload_n 1, 1) := by decide +kernel
theorem dX11_isWantedAhead_55 : decode cX11_isWantedAhead 55 = .ok (.iload_n 2, 1) := by decide +kernel
theorem dX11_isWantedAhead_56 : decode cX11_isWantedAhead 56 = .ok (.invokevirtual 224, 3) := by decide +kernel
theorem dX11_isWantedAhead_59 : decode cX11_isWantedAhead 59 = .ok (.aload_n 0, 1) := by decide +kernel
theorem dX11_isWantedAhead_60 : decode cX11_isWantedAhead 60 = .ok (.iload_n 1, 1) := by decide +kernel
theorem dX11_isWantedAhead_61 : decode cX11_isWantedAhead 61 = .ok (.iload_n 3, 1) := by decide +kernel
theorem dX11_isWantedAhead_62 : decode cX11_isWantedAhead 62 = .ok (.invokevirtual 207, 3) := by decide +kernel
theorem dX11_isWantedAhead_65 : decode cX11_isWantedAhead 65 = .ok (.imul, 1) := by decide +kernel
theorem dX11_isWantedAhead_66 : decode cX11_isWantedAhead 66 = .ok (.aload_n 0, 1) := by decide +kernel
theorem dX11_isWantedAhead_67 : decode cX11_isWantedAhead 67 = .ok (.iload_n 1, 1) := by decide +kernel
theorem dX11_isWantedAhead_68 : decode cX11_isWantedAhead 68 = .ok (.iload_n 3, 1) := by decide +kernel
theorem dX11_isWantedAhead_69 : decode cX11_isWantedAhead 69 = .ok (.invokevirtual 224, 3) := by decide +kernel
theorem dX11_isWantedAhead_72 : decode cX11_isWantedAhead 72 = .ok (.aload_n 0, 1) := by decide +kernel
theorem dX11_isWantedAhead_73 : decode cX11_isWantedAhead 73 = .ok (.iload_n 1, 1) := by decide +kernel
theorem dX11_isWantedAhead_74 : decode cX11_isWantedAhead 74 = .ok (.iload_n 2, 1) := by decide +kernel
theorem dX11_isWantedAhead_75 : decode cX11_isWantedAhead 75 = .ok (.invokevirtual 207, 3) := by decide +kernel
theorem dX11_isWantedAhead_78 : decode cX11_isWantedAhead 78 = .ok (.imul, 1) := by decide +kernel
theorem dX11_isWantedAhead_79 : decode cX11_isWantedAhead 79 = .ok (.isub, 1) := by decide +kernel
theorem dX11_isWantedAhead_80 : decode cX11_isWantedAhead 80 = .ok (.istore 5, 2) := by decide +kernel
theorem dX11_isWantedAhead_82 : decode cX11_isWantedAhead 82 = .ok (.iload 5, 2) := by decide +kernel
theorem dX11_isWantedAhead_84 : decode cX11_isWantedAhead 84 = .ok (.ifCond .gt 13, 3) := by decide +kernel
theorem dX11_isWantedAhead_87 : decode cX11_isWantedAhead 87 = .ok (.iload 5, 2) := by decide +kernel
theorem dX11_isWantedAhead_89 : decode cX11_isWantedAhead 89 = .ok (.ifCond .ne 12, 3) := by decide +kernel
theorem dX11_isWantedAhead_92 : decode cX11_isWantedAhead 92 = .ok (.iload_n 2, 1) := by decide +kernel
theorem dX11_isWantedAhead_93 : decode cX11_isWantedAhead 93 = .ok (.iload_n 3, 1) := by decide +kernel
theorem dX11_isWantedAhead_94 : decode cX11_isWantedAhead 94 = .ok (.if_icmp .ge 7, 3) := by decide +kernel
theorem dX11_isWantedAhead_97 : decode cX11_isWantedAhead 97 = .ok (.iconst 1, 1) := by decide +kernel
theorem dX11_isWantedAhead_98 : decode cX11_isWantedAhead 98 = .ok (.goto 4, 3) := by decide +kernel
theorem dX11_isWantedAhead_101 : decode cX11_isWantedAhead 101 = .ok (.iconst 0, 1) := by decide +kernel
theorem dX11_isWantedAhead_102 : decode cX11_isWantedAhead 102 = .ok (.ireturn, 1) := by decide +kernel
def fX11_isWantedAhead (σ : St) (p1 : Int32) (p2 : Int32) (p3 : Int32) (p4 : Int32) : Option (St × Int32) := jn (fun (σ2 : St) (y3 : Int32) => jn (some (σ2, 1)) (fun k4 => (if 0 < y3 then k4 else (if y3 = 0 then (if p3 ≤ p2 then some (σ2, 0) else k4) else some (σ2, 0))))) (fun k1 => (if p4 = 0 then k1 σ 0 else (if p4 = 1 then cl (fX11_pays σ p1 p3) (fun σ17 r18 => cl (fX11_pays σ17 p1 p2) (fun σ19 r20 => k1 σ19 (r18 - r20))) else (if p4 = 2 then cl (fX11_pays σ p1 p2) (fun σ13 r14 => cl (fX11_pays σ13 p1 p3) (fun σ15 r16 => k1 σ15 (r14 - r16))) else cl (fX11_monthsOf σ p1 p2) (fun σ5 r6 => cl (fX11_pays σ5 p1 p3) (fun σ7 r8 => cl (fX11_monthsOf σ7 p1 p3) (fun σ9 r10 => cl (fX11_pays σ9 p1 p2) (fun σ11 r12 => k1 σ11 ((r6 * r8) - (r10 * r12))))))))))
set_option maxHeartbeats 4000000 in
set_option maxRecDepth 100000 in
theorem ctX11_isWantedAhead (l : Launch) (g : GG) (σ : St) (p1 : Int32) (p2 : Int32) (p3 : Int32) (p4 : Int32) (σ' : St) (r : Int32) (hE : fX11_isWantedAhead σ p1 p2 p3 p4 = some (σ', r)) : MI 25 entM l g yX11_isWantedAhead (Cond.code yX11_isWantedAhead cX11_isWantedAhead 6 (some .boolean) :: gtbl) (rmD 4) [.ref (g.2.1 0), .int p1, .int p2, .int p3, .int p4] σ σ' r := by
  refine mi_z (own := RX11) (lv := [(0, .ref (g.2.1 0)), (1, .int p1), (2, .int p2), (3, .int p3), (4, .int p4)]) (by decide) rfl (Nat.le_of_ble_eq_true rfl) rfl (fun p e s m below meth c ls args Q A H0 H locs C hK hA hQ hs hl => ?_)
  have hx := C.1
  have hb := C.2.1
  unfold fX11_isWantedAhead at hE
  refine lv_iload hx hb dX11_isWantedAhead_0 (lv_at hl 4 rfl) ?_
  refine jn2 hE (fun k1 hE hk1 => ?_)
  have hJk1 : ∀ (σ2 : St) (y3 : Int32) (H : Heap) (locs : List Loc) (ls : Array Slot), HW 25 entM g A H0 H locs σ2 → lv_has ls 6 [(2, .int p2), (3, .int p3)] → k1 σ2 y3 = some (σ', r) → W p l e (rmD 4) s m args below meth c H locs 0 0 Q (F0 m 80 ls [.int y3]) := by
    intro σ2 y3 H locs ls hs hl hE
    have hE := hk1 _ _ hE
    refine lv_istore (lv' := [(5, .int y3), (2, .int p2), (3, .int p3)]) hx hb dX11_isWantedAhead_80 hl (by decide) rfl (fun ls hl => ?_)
    refine lv_iload hx hb dX11_isWantedAhead_82 (lv_at hl 0 rfl) ?_
    refine jn0 hE (fun k4 hE hk4 => ?_)
    have hJk4 : ∀  (H : Heap) (locs : List Loc) (ls : Array Slot), HW 25 entM g A H0 H locs σ2 → lv_has ls 6 [] → k4 = some (σ', r) → W p l e (rmD 4) s m args below meth c H locs 0 0 Q (F0 m 97 ls []) := by
      intro H locs ls hs hl hE
      have hE := hk4 hE
      refine lv_iconst (v := 1) hx hb dX11_isWantedAhead_97 (by decide) ?_
      refine lv_goto (tgt := 102) hx hb dX11_isWantedAhead_98 (by decide) ?_
      exact hQ hs rfl hE dX11_isWantedAhead_102
    refine lv_if_gt (tgt := 97) hx hb dX11_isWantedAhead_84 (by decide) (fun hc => ?_) (fun hc => ?_)
    · have hE := if_t hc hE
      exact hJk4  _ _ _ hs (lv_sub hl [] rfl) hE
    · have hE := if_f hc hE
      refine lv_iload hx hb dX11_isWantedAhead_87 (lv_at hl 0 rfl) ?_
      refine lv_if_ne (tgt := 101) hx hb dX11_isWantedAhead_89 (by decide) (fun hc => ?_) (fun hc => ?_)
      · have hE := if_f hc hE
        refine lv_iconst (v := 0) hx hb dX11_isWantedAhead_101 (by decide) ?_
        exact hQ hs rfl hE dX11_isWantedAhead_102
      · have hE := if_t hc hE
        refine lv_iload_n hx hb dX11_isWantedAhead_92 rfl (lv_at hl 1 rfl) ?_
        refine lv_iload_n hx hb dX11_isWantedAhead_93 rfl (lv_at hl 2 rfl) ?_
        refine lv_icmp_ge (tgt := 101) hx hb dX11_isWantedAhead_94 (by decide) (fun hc => ?_) (fun hc => ?_)
        · have hE := if_t hc hE
          refine lv_iconst (v := 0) hx hb dX11_isWantedAhead_101 (by decide) ?_
          exact hQ hs rfl hE dX11_isWantedAhead_102
        · have hE := if_f hc hE
          exact hJk4  _ _ _ hs (lv_sub hl [] rfl) hE
  refine lv_if_ne (tgt := 9) hx hb dX11_isWantedAhead_2 (by decide) (fun hc => ?_) (fun hc => ?_)
  · have hE := if_f hc hE
    refine lv_iload hx hb dX11_isWantedAhead_9 (lv_at hl 4 rfl) ?_
    refine lv_iconst (v := 1) hx hb dX11_isWantedAhead_11 (by decide) ?_
    refine lv_icmp_ne (tgt := 31) hx hb dX11_isWantedAhead_12 (by decide) (fun hc => ?_) (fun hc => ?_)
    · have hE := if_f hc hE
      refine lv_iload hx hb dX11_isWantedAhead_31 (lv_at hl 4 rfl) ?_
      refine lv_iconst (v := 2) hx hb dX11_isWantedAhead_33 (by decide) ?_
      refine lv_icmp_ne (tgt := 53) hx hb dX11_isWantedAhead_34 (by decide) (fun hc => ?_) (fun hc => ?_)
      · have hE := if_f hc hE
        refine lv_aload_n hx hb dX11_isWantedAhead_53 rfl (lv_at hl 0 rfl) ?_
        refine lv_iload_n hx hb dX11_isWantedAhead_54 rfl (lv_at hl 1 rfl) ?_
        refine lv_iload_n hx hb dX11_isWantedAhead_55 rfl (lv_at hl 2 rfl) ?_
        obtain ⟨σ5, r6, hE1, hE⟩ := cl_e hE
        refine x_civ (As := [.int p1, .int p2]) (rest := []) C hl.1 hK hs hA ⟨Nat.le_refl 0, Nat.le_refl 0⟩ (ctX11_monthsOf l g _ _ _ _ _ hE1) (cw_X11_224 C ⟨Nat.le_of_ble_eq_true rfl, Nat.le_of_ble_eq_true rfl⟩) (hs.recv hK 0 (by decide) rfl rfl) rfl rfl (Nat.le_of_ble_eq_true rfl) dX11_isWantedAhead_56 (fun H locs hs => ?_)
        refine lv_aload_n hx hb dX11_isWantedAhead_59 rfl (lv_at hl 0 rfl) ?_
        refine lv_iload_n hx hb dX11_isWantedAhead_60 rfl (lv_at hl 1 rfl) ?_
        refine lv_iload_n hx hb dX11_isWantedAhead_61 rfl (lv_at hl 3 rfl) ?_
        obtain ⟨σ7, r8, hE1, hE⟩ := cl_e hE
        refine x_civ (As := [.int p1, .int p3]) (rest := [.int r6]) C hl.1 hK hs hA ⟨Nat.le_refl 0, Nat.le_refl 0⟩ (ctX11_pays l g _ _ _ _ _ hE1) (cw_X11_207 C ⟨Nat.le_of_ble_eq_true rfl, Nat.le_of_ble_eq_true rfl⟩) (hs.recv hK 0 (by decide) rfl rfl) rfl rfl (Nat.le_of_ble_eq_true rfl) dX11_isWantedAhead_62 (fun H locs hs => ?_)
        refine lv_imul hx hb dX11_isWantedAhead_65 ?_
        refine lv_aload_n hx hb dX11_isWantedAhead_66 rfl (lv_at hl 0 rfl) ?_
        refine lv_iload_n hx hb dX11_isWantedAhead_67 rfl (lv_at hl 1 rfl) ?_
        refine lv_iload_n hx hb dX11_isWantedAhead_68 rfl (lv_at hl 3 rfl) ?_
        obtain ⟨σ9, r10, hE1, hE⟩ := cl_e hE
        refine x_civ (As := [.int p1, .int p3]) (rest := [.int (r6 * r8)]) C hl.1 hK hs hA ⟨Nat.le_refl 0, Nat.le_refl 0⟩ (ctX11_monthsOf l g _ _ _ _ _ hE1) (cw_X11_224 C ⟨Nat.le_of_ble_eq_true rfl, Nat.le_of_ble_eq_true rfl⟩) (hs.recv hK 0 (by decide) rfl rfl) rfl rfl (Nat.le_of_ble_eq_true rfl) dX11_isWantedAhead_69 (fun H locs hs => ?_)
        refine lv_aload_n hx hb dX11_isWantedAhead_72 rfl (lv_at hl 0 rfl) ?_
        refine lv_iload_n hx hb dX11_isWantedAhead_73 rfl (lv_at hl 1 rfl) ?_
        refine lv_iload_n hx hb dX11_isWantedAhead_74 rfl (lv_at hl 2 rfl) ?_
        obtain ⟨σ11, r12, hE1, hE⟩ := cl_e hE
        refine x_civ (As := [.int p1, .int p2]) (rest := [.int r10, .int (r6 * r8)]) C hl.1 hK hs hA ⟨Nat.le_refl 0, Nat.le_refl 0⟩ (ctX11_pays l g _ _ _ _ _ hE1) (cw_X11_207 C ⟨Nat.le_of_ble_eq_true rfl, Nat.le_of_ble_eq_true rfl⟩) (hs.recv hK 0 (by decide) rfl rfl) rfl rfl (Nat.le_of_ble_eq_true rfl) dX11_isWantedAhead_75 (fun H locs hs => ?_)
        refine lv_imul hx hb dX11_isWantedAhead_78 ?_
        refine lv_isub hx hb dX11_isWantedAhead_79 ?_
        exact hJk1 σ11 ((r6 * r8) - (r10 * r12)) _ _ _ hs (lv_sub hl [2, 3] rfl) hE
      · have hE := if_t hc hE
        refine lv_aload_n hx hb dX11_isWantedAhead_37 rfl (lv_at hl 0 rfl) ?_
        refine lv_iload_n hx hb dX11_isWantedAhead_38 rfl (lv_at hl 1 rfl) ?_
        refine lv_iload_n hx hb dX11_isWantedAhead_39 rfl (lv_at hl 2 rfl) ?_
        obtain ⟨σ13, r14, hE1, hE⟩ := cl_e hE
        refine x_civ (As := [.int p1, .int p2]) (rest := []) C hl.1 hK hs hA ⟨Nat.le_refl 0, Nat.le_refl 0⟩ (ctX11_pays l g _ _ _ _ _ hE1) (cw_X11_207 C ⟨Nat.le_of_ble_eq_true rfl, Nat.le_of_ble_eq_true rfl⟩) (hs.recv hK 0 (by decide) rfl rfl) rfl rfl (Nat.le_of_ble_eq_true rfl) dX11_isWantedAhead_40 (fun H locs hs => ?_)
        refine lv_aload_n hx hb dX11_isWantedAhead_43 rfl (lv_at hl 0 rfl) ?_
        refine lv_iload_n hx hb dX11_isWantedAhead_44 rfl (lv_at hl 1 rfl) ?_
        refine lv_iload_n hx hb dX11_isWantedAhead_45 rfl (lv_at hl 3 rfl) ?_
        obtain ⟨σ15, r16, hE1, hE⟩ := cl_e hE
        refine x_civ (As := [.int p1, .int p3]) (rest := [.int r14]) C hl.1 hK hs hA ⟨Nat.le_refl 0, Nat.le_refl 0⟩ (ctX11_pays l g _ _ _ _ _ hE1) (cw_X11_207 C ⟨Nat.le_of_ble_eq_true rfl, Nat.le_of_ble_eq_true rfl⟩) (hs.recv hK 0 (by decide) rfl rfl) rfl rfl (Nat.le_of_ble_eq_true rfl) dX11_isWantedAhead_46 (fun H locs hs => ?_)
        refine lv_isub hx hb dX11_isWantedAhead_49 ?_
        refine lv_goto (tgt := 80) hx hb dX11_isWantedAhead_50 (by decide) ?_
        exact hJk1 σ15 (r14 - r16) _ _ _ hs (lv_sub hl [2, 3] rfl) hE
    · have hE := if_t hc hE
      refine lv_aload_n hx hb dX11_isWantedAhead_15 rfl (lv_at hl 0 rfl) ?_
      refine lv_iload_n hx hb dX11_isWantedAhead_16 rfl (lv_at hl 1 rfl) ?_
      refine lv_iload_n hx hb dX11_isWantedAhead_17 rfl (lv_at hl 3 rfl) ?_
      obtain ⟨σ17, r18, hE1, hE⟩ := cl_e hE
      refine x_civ (As := [.int p1, .int p3]) (rest := []) C hl.1 hK hs hA ⟨Nat.le_refl 0, Nat.le_refl 0⟩ (ctX11_pays l g _ _ _ _ _ hE1) (cw_X11_207 C ⟨Nat.le_of_ble_eq_true rfl, Nat.le_of_ble_eq_true rfl⟩) (hs.recv hK 0 (by decide) rfl rfl) rfl rfl (Nat.le_of_ble_eq_true rfl) dX11_isWantedAhead_18 (fun H locs hs => ?_)
      refine lv_aload_n hx hb dX11_isWantedAhead_21 rfl (lv_at hl 0 rfl) ?_
      refine lv_iload_n hx hb dX11_isWantedAhead_22 rfl (lv_at hl 1 rfl) ?_
      refine lv_iload_n hx hb dX11_isWantedAhead_23 rfl (lv_at hl 2 rfl) ?_
      obtain ⟨σ19, r20, hE1, hE⟩ := cl_e hE
      refine x_civ (As := [.int p1, .int p2]) (rest := [.int r18]) C hl.1 hK hs hA ⟨Nat.le_refl 0, Nat.le_refl 0⟩ (ctX11_pays l g _ _ _ _ _ hE1) (cw_X11_207 C ⟨Nat.le_of_ble_eq_true rfl, Nat.le_of_ble_eq_true rfl⟩) (hs.recv hK 0 (by decide) rfl rfl) rfl rfl (Nat.le_of_ble_eq_true rfl) dX11_isWantedAhead_24 (fun H locs hs => ?_)
      refine lv_isub hx hb dX11_isWantedAhead_27 ?_
      refine lv_goto (tgt := 80) hx hb dX11_isWantedAhead_28 (by decide) ?_
      exact hJk1 σ19 (r18 - r20) _ _ _ hs (lv_sub hl [2, 3] rfl) hE
  · have hE := if_t hc hE
    refine lv_iconst (v := 0) hx hb dX11_isWantedAhead_5 (by decide) ?_
    refine lv_goto (tgt := 80) hx hb dX11_isWantedAhead_6 (by decide) ?_
    exact hJk1 σ 0 _ _ _ hs (lv_sub hl [2, 3] rfl) hE
