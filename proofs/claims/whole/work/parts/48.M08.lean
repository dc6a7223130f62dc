theorem dX11_monthly_0 : decode cX11_monthly 0 = .ok (.aload_n 0, 1) := by decide +kernel
theorem dX11_monthly_1 : decode cX11_monthly 1 = .ok (.iload_n 1, 1) := by decide +kernel
theorem dX11_monthly_2 : decode cX11_monthly 2 = .ok (.invokevirtual 201, 3) := by decide +kernel
theorem dX11_monthly_5 : decode cX11_monthly 5 = .ok (.ifCond .eq 10, 3) := by decide +kernel
theorem dX11_monthly_8 : decode cX11_monthly 8 = .ok (.iload_n 2, 1) := by decide +kernel
theorem dX11_monthly_9 : decode cX11_monthly 9 = .ok (.invokestatic 102, 3) := by decide +kernel
theorem dX11_monthly_12 : decode cX11_monthly 12 = .ok (.ifCond .ne 5, 3) := by decide +kernel
theorem dX11_monthly_15 : decode cX11_monthly 15 = .ok (.iconst (-1), 1) := by decide +kernel
theorem dX11_monthly_16 : decode cX11_monthly 16 = .ok (.ireturn, 1) := by decide +kernel
theorem dX11_monthly_17 : decode cX11_monthly 17 = .ok (.aload_n 0, 1) := by decide +kernel
theorem dX11_monthly_18 : decode cX11_monthly 18 = .ok (.iload_n 2, 1) := by decide +kernel
theorem dX11_monthly_19 : decode cX11_monthly 19 = .ok (.bipush 20, 2) := by decide +kernel
theorem dX11_monthly_21 : decode cX11_monthly 21 = .ok (.bipush 99, 2) := by decide +kernel
theorem dX11_monthly_23 : decode cX11_monthly 23 = .ok (.invokevirtual 270, 3) := by decide +kernel
theorem dX11_monthly_26 : decode cX11_monthly 26 = .ok (.istore_n 3, 1) := by decide +kernel
theorem dX11_monthly_27 : decode cX11_monthly 27 = .ok (.iload_n 3, 1) := by decide +kernel
theorem dX11_monthly_28 : decode cX11_monthly 28 = .ok (.ifCond .ge 5, 3) := by decide +kernel
theorem dX11_monthly_31 : decode cX11_monthly 31 = .ok (.iload_n 3, 1) := by decide +kernel
theorem dX11_monthly_32 : decode cX11_monthly 32 = .ok (.ireturn, 1) := by decide +kernel
theorem dX11_monthly_33 : decode cX11_monthly 33 = .ok (.iconst 0, 1) := by decide +kernel
theorem dX11_monthly_34 : decode cX11_monthly 34 = .ok (.istore 4, 2) := by decide +kernel
theorem dX11_monthly_36 : decode cX11_monthly 36 = .ok (.iconst 0, 1) := by decide +kernel
theorem dX11_monthly_37 : decode cX11_monthly 37 = .ok (.istore 5, 2) := by decide +kernel
theorem dX11_monthly_39 : decode cX11_monthly 39 = .ok (.iload 5, 2) := by decide +kernel
theorem dX11_monthly_41 : decode cX11_monthly 41 = .ok (.bipush 10, 2) := by decide +kernel
theorem dX11_monthly_43 : decode cX11_monthly 43 = .ok (.if_icmp .ge 39, 3) := by decide +kernel
theorem dX11_monthly_46 : decode cX11_monthly 46 = .ok (.iload 4, 2) := by decide +kernel
theorem dX11_monthly_48 : decode cX11_monthly 48 = .ok (.aload_n 0, 1) := by decide +kernel
theorem dX11_monthly_49 : decode cX11_monthly 49 = .ok (.iload_n 1, 1) := by decide +kernel
theorem dX11_monthly_50 : decode cX11_monthly 50 = .ok (.iload_n 2, 1) := by decide +kernel
theorem dX11_monthly_51 : decode cX11_monthly 51 = .ok (.aload_n 0, 1) := by decide +kernel
theorem dX11_monthly_52 : decode cX11_monthly 52 = .ok (.getfield 22, 3) := by decide +kernel
theorem dX11_monthly_55 : decode cX11_monthly 55 = .ok (.iload_n 1, 1) := by decide +kernel
theorem dX11_monthly_56 : decode cX11_monthly 56 = .ok (.iaload, 1) := by decide +kernel
theorem dX11_monthly_57 : decode cX11_monthly 57 = .ok (.iload 5, 2) := by decide +kernel
theorem dX11_monthly_59 : decode cX11_monthly 59 = .ok (.invokevirtual 273, 3) := by decide +kernel
theorem dX11_monthly_62 : decode cX11_monthly 62 = .ok (.ifCond .eq 10, 3) := by decide +kernel
theorem dX11_monthly_65 : decode cX11_monthly 65 = .ok (.iconst 1, 1) := by decide +kernel
theorem dX11_monthly_66 : decode cX11_monthly 66 = .ok (.iload 5, 2) := by decide +kernel
theorem dX11_monthly_68 : decode cX11_monthly 68 = .ok (.ishl, 1) := by decide +kernel
theorem dX11_monthly_69 : decode cX11_monthly 69 = .ok (.goto 4, 3) := by decide +kernel
theorem dX11_monthly_72 : decode cX11_monthly 72 = .ok (.iconst 0, 1) := by decide +kernel
theorem dX11_monthly_73 : decode cX11_monthly 73 = .ok (.ior, 1) := by decide +kernel
theorem dX11_monthly_74 : decode cX11_monthly 74 = .ok (.istore 4, 2) := by decide +kernel
theorem dX11_monthly_76 : decode cX11_monthly 76 = .ok (.iinc 5 1, 3) := by decide +kernel
theorem dX11_monthly_79 : decode cX11_monthly 79 = .ok (.goto (-40), 3) := by decide +kernel
theorem dX11_monthly_82 : decode cX11_monthly 82 = .ok (.iload 4, 2) := by decide +kernel
theorem dX11_monthly_84 : decode cX11_monthly 84 = .ok (.ireturn, 1) := by decide +kernel
def fX11_monthly_L39 (p1 : Int32) (p2 : Int32) : Nat → St → Int32 → Int32 → (St → Int32 → Int32 → Option (St × Int32)) → Option (St × Int32)
  | 0, _, _, _, _ => none
  | n + 1, σ7, v8, v9, k => (if 10 ≤ v9 then k σ7 v8 v9 else rd LM σ7 5 p1 (fun x10 => cl (fX11_fits σ7 p1 p2 x10 v9) (fun σ11 r12 => pv (α := Int32) (if r12 = 0 then 0 else (1 <<< (v9 &&& 31))) (fun (y14 : Int32) => fX11_monthly_L39 p1 p2 n σ11 (v8 ||| y14) (v9 + 1) k))))
def fX11_monthly (σ : St) (p1 : Int32) (p2 : Int32) : Option (St × Int32) := cl (fX11_isHouse σ p1) (fun σ1 r2 => (if r2 = 0 then some (σ1, (-1)) else cl (fX11_isRow σ1 p2) (fun σ3 r4 => (if r4 = 0 then some (σ3, (-1)) else cl (fX11_lacks σ3 p2 20 99) (fun σ5 r6 => (if 0 ≤ r6 then fX11_monthly_L39 p1 p2 10000 σ5 0 0 (fun σ15 v16 v17 => some (σ15, v16)) else some (σ5, r6)))))))
set_option maxHeartbeats 4000000 in
set_option maxRecDepth 100000 in
theorem ctX11_monthly (l : Launch) (g : GG) (σ : St) (p1 : Int32) (p2 : Int32) (σ' : St) (r : Int32) (hE : fX11_monthly σ p1 p2 = some (σ', r)) : MI 25 entM l g yX11_monthly (Cond.code yX11_monthly cX11_monthly 6 (some .int) :: gtbl) (rmD 4) [.ref (g.2.1 0), .int p1, .int p2] σ σ' r := by
  refine mi_i (own := RX11) (lv := [(0, .ref (g.2.1 0)), (1, .int p1), (2, .int p2)]) (by decide) rfl (Nat.le_of_ble_eq_true rfl) rfl (fun p e s m below meth c ls args Q A H0 H locs C hK hA hQ hs hl => ?_)
  have hx := C.1
  have hb := C.2.1
  unfold fX11_monthly at hE
  refine lv_aload_n hx hb dX11_monthly_0 rfl (lv_at hl 0 rfl) ?_
  refine lv_iload_n hx hb dX11_monthly_1 rfl (lv_at hl 1 rfl) ?_
  obtain ⟨σ1, r2, hE1, hE⟩ := cl_e hE
  refine x_civ (As := [.int p1]) (rest := []) C hl.1 hK hs hA ⟨Nat.le_refl 0, Nat.le_refl 0⟩ (ctX11_isHouse l g _ _ _ _ hE1) (cw_X11_201 C ⟨Nat.le_of_ble_eq_true rfl, Nat.le_of_ble_eq_true rfl⟩) (hs.recv hK 0 (by decide) rfl rfl) rfl rfl (Nat.le_of_ble_eq_true rfl) dX11_monthly_2 (fun H locs hs => ?_)
  refine lv_if_eq (tgt := 15) hx hb dX11_monthly_5 (by decide) (fun hc => ?_) (fun hc => ?_)
  · have hE := if_t hc hE
    refine lv_iconst (v := (-1)) hx hb dX11_monthly_15 (by decide) ?_
    exact hQ hs hE dX11_monthly_16
  · have hE := if_f hc hE
    refine lv_iload_n hx hb dX11_monthly_8 rfl (lv_at hl 2 rfl) ?_
    obtain ⟨σ3, r4, hE1, hE⟩ := cl_e hE
    refine x_cis (As := [.int p2]) (rest := []) C hl.1 hK hs hA ⟨Nat.le_refl 0, Nat.le_refl 0⟩ (ctX11_isRow l g _ _ _ _ hE1) (cw_X11_102 C ⟨Nat.le_of_ble_eq_true rfl, Nat.le_of_ble_eq_true rfl⟩) rfl rfl (Nat.le_of_ble_eq_true rfl) dX11_monthly_9 (fun H locs hs => ?_)
    refine lv_if_ne (tgt := 17) hx hb dX11_monthly_12 (by decide) (fun hc => ?_) (fun hc => ?_)
    · have hE := if_f hc hE
      refine lv_aload_n hx hb dX11_monthly_17 rfl (lv_at hl 0 rfl) ?_
      refine lv_iload_n hx hb dX11_monthly_18 rfl (lv_at hl 2 rfl) ?_
      refine lv_bipush (v := 20) hx hb dX11_monthly_19 (by decide) ?_
      refine lv_bipush (v := 99) hx hb dX11_monthly_21 (by decide) ?_
      obtain ⟨σ5, r6, hE1, hE⟩ := cl_e hE
      refine x_civ (As := [.int p2, .int 20, .int 99]) (rest := []) C hl.1 hK hs hA ⟨Nat.le_refl 0, Nat.le_refl 0⟩ (ctX11_lacks l g _ _ _ _ _ _ hE1) (cw_X11_270 C ⟨Nat.le_of_ble_eq_true rfl, Nat.le_of_ble_eq_true rfl⟩) (hs.recv hK 0 (by decide) rfl rfl) rfl rfl (Nat.le_of_ble_eq_true rfl) dX11_monthly_23 (fun H locs hs => ?_)
      refine lv_istore_n (lv' := [(3, .int r6), (0, .ref (g.2.1 0)), (1, .int p1), (2, .int p2)]) hx hb dX11_monthly_26 rfl hl (by decide) rfl (fun ls hl => ?_)
      refine lv_iload_n hx hb dX11_monthly_27 rfl (lv_at hl 0 rfl) ?_
      refine lv_if_ge (tgt := 33) hx hb dX11_monthly_28 (by decide) (fun hc => ?_) (fun hc => ?_)
      · have hE := if_t hc hE
        refine lv_iconst (v := 0) hx hb dX11_monthly_33 (by decide) ?_
        refine lv_istore (lv' := [(4, .int 0), (3, .int r6), (0, .ref (g.2.1 0)), (1, .int p1), (2, .int p2)]) hx hb dX11_monthly_34 hl (by decide) rfl (fun ls hl => ?_)
        refine lv_iconst (v := 0) hx hb dX11_monthly_36 (by decide) ?_
        refine lv_istore (lv' := [(5, .int 0), (4, .int 0), (3, .int r6), (0, .ref (g.2.1 0)), (1, .int p1), (2, .int p2)]) hx hb dX11_monthly_37 hl (by decide) rfl (fun ls hl => ?_)
        have hL39 : ∀ (n : Nat) (σ7 : St) (v8 : Int32) (v9 : Int32) (k : St → Int32 → Int32 → Option (St × Int32)), fX11_monthly_L39 p1 p2 n σ7 v8 v9 k = some (σ', r) → (∀ (σ7 : St) (v8 : Int32) (v9 : Int32) (H : Heap) (locs : List Loc) (ls : Array Slot), HW 25 entM g A H0 H locs σ7 → lv_has ls 6 [(0, .ref (g.2.1 0)), (1, .int p1), (2, .int p2), (4, .int v8), (5, .int v9)] → k σ7 v8 v9 = some (σ', r) → W p l e (rmD 4) s m args below meth c H locs 0 0 Q (F0 m 82 ls [])) → ∀ (H : Heap) (locs : List Loc) (ls : Array Slot), HW 25 entM g A H0 H locs σ7 → lv_has ls 6 [(0, .ref (g.2.1 0)), (1, .int p1), (2, .int p2), (4, .int v8), (5, .int v9)] → W p l e (rmD 4) s m args below meth c H locs 0 0 Q (F0 m 39 ls []) := by
          intro n
          induction n with
          | zero =>
            intro σ7 v8 v9 k hE
            rw [fX11_monthly_L39] at hE
            exact no_e hE
          | succ n ih =>
            intro σ7 v8 v9 k hE hk H locs ls hs hl
            rw [fX11_monthly_L39] at hE
            refine lv_iload hx hb dX11_monthly_39 (lv_at hl 4 rfl) ?_
            refine lv_bipush (v := 10) hx hb dX11_monthly_41 (by decide) ?_
            refine lv_icmp_ge (tgt := 82) hx hb dX11_monthly_43 (by decide) (fun hc => ?_) (fun hc => ?_)
            · have hE := if_t hc hE
              exact hk σ7 v8 v9 _ _ _ hs (lv_sub hl [0, 1, 2, 3, 4] rfl) hE
            · have hE := if_f hc hE
              refine lv_iload hx hb dX11_monthly_46 (lv_at hl 3 rfl) ?_
              refine lv_aload_n hx hb dX11_monthly_48 rfl (lv_at hl 0 rfl) ?_
              refine lv_iload_n hx hb dX11_monthly_49 rfl (lv_at hl 1 rfl) ?_
              refine lv_iload_n hx hb dX11_monthly_50 rfl (lv_at hl 2 rfl) ?_
              refine lv_aload_n hx hb dX11_monthly_51 rfl (lv_at hl 0 rfl) ?_
              refine gf_X11_22_0 C hK hs dX11_monthly_52 ?_
              refine lv_iload_n hx hb dX11_monthly_55 rfl (lv_at hl 1 rfl) ?_
              obtain ⟨hi, x10, ex10, hE⟩ := rd_w hE
              refine y_ald layM C hK hs hi ex10 dX11_monthly_56 ?_
              refine lv_iload hx hb dX11_monthly_57 (lv_at hl 4 rfl) ?_
              obtain ⟨σ11, r12, hE1, hE⟩ := cl_e hE
              refine x_civ (As := [.int p1, .int p2, .int x10, .int v9]) (rest := [.int v8]) C hl.1 hK hs hA ⟨Nat.le_refl 0, Nat.le_refl 0⟩ (ctX11_fits l g _ _ _ _ _ _ _ hE1) (cw_X11_273 C ⟨Nat.le_of_ble_eq_true rfl, Nat.le_of_ble_eq_true rfl⟩) (hs.recv hK 0 (by decide) rfl rfl) rfl rfl (Nat.le_of_ble_eq_true rfl) dX11_monthly_59 (fun H locs hs => ?_)
              refine pvw hE (fun k13 hE hk13 => ?_)
              have hJk13 : ∀ (y14 : Int32) (H : Heap) (locs : List Loc) (ls : Array Slot), HW 25 entM g A H0 H locs σ11 → lv_has ls 6 [(0, .ref (g.2.1 0)), (1, .int p1), (2, .int p2), (5, .int v9)] → k13 y14 = some (σ', r) → W p l e (rmD 4) s m args below meth c H locs 0 0 Q (F0 m 73 ls [.int y14, .int v8]) := by
                intro y14 H locs ls hs hl hE
                have hE := hk13 _ hE
                refine lv_ior hx hb dX11_monthly_73 ?_
                refine lv_istore (lv' := [(4, .int (v8 ||| y14)), (0, .ref (g.2.1 0)), (1, .int p1), (2, .int p2), (5, .int v9)]) hx hb dX11_monthly_74 hl (by decide) rfl (fun ls hl => ?_)
                refine lv_iinc (v := v9 + 1) (lv' := [(5, .int (v9 + 1)), (4, .int (v8 ||| y14)), (0, .ref (g.2.1 0)), (1, .int p1), (2, .int p2)]) hx hb dX11_monthly_76 hl (k := 4) rfl rfl (by decide) rfl (fun ls hl => ?_)
                refine lv_goto (tgt := 39) hx hb dX11_monthly_79 (by decide) ?_
                exact ih _ _ _ _ hE hk _ _ _ hs (lv_sub hl [2, 3, 4, 1, 0] rfl)
              refine lv_if_eq (tgt := 72) hx hb dX11_monthly_62 (by decide) (fun hc => ?_) (fun hc => ?_)
              · have hE := pv_t hc hE
                refine lv_iconst (v := 0) hx hb dX11_monthly_72 (by decide) ?_
                exact hJk13 0 _ _ _ hs (lv_sub hl [0, 1, 2, 4] rfl) hE
              · have hE := pv_f hc hE
                refine lv_iconst (v := 1) hx hb dX11_monthly_65 (by decide) ?_
                refine lv_iload hx hb dX11_monthly_66 (lv_at hl 4 rfl) ?_
                refine lv_ishl hx hb dX11_monthly_68 ?_
                refine lv_goto (tgt := 73) hx hb dX11_monthly_69 (by decide) ?_
                exact hJk13 (1 <<< (v9 &&& 31)) _ _ _ hs (lv_sub hl [0, 1, 2, 4] rfl) hE
        refine hL39 _ _ _ _ _ hE (fun σ15 v16 v17 H locs ls hs hl hE => ?_) H locs ls hs (lv_sub hl [3, 4, 5, 1, 0] rfl)
        refine lv_iload hx hb dX11_monthly_82 (lv_at hl 3 rfl) ?_
        exact hQ hs hE dX11_monthly_84
      · have hE := if_f hc hE
        refine lv_iload_n hx hb dX11_monthly_31 rfl (lv_at hl 0 rfl) ?_
        exact hQ hs hE dX11_monthly_32
    · have hE := if_t hc hE
      refine lv_iconst (v := (-1)) hx hb dX11_monthly_15 (by decide) ?_
      exact hQ hs hE dX11_monthly_16
theorem dX11_greatest_0 : decode cX11_greatest 0 = .ok (.iconst 0, 1) := by decide +kernel
theorem dX11_greatest_1 : decode cX11_greatest 1 = .ok (.istore_n 2, 1) := by decide +kernel
theorem dX11_greatest_2 : decode cX11_greatest 2 = .ok (.iconst 0, 1) := by decide +kernel
theorem dX11_greatest_3 : decode cX11_greatest 3 = .ok (.istore_n 3, 1) := by decide +kernel
theorem dX11_greatest_4 : decode cX11_greatest 4 = .ok (.iload_n 3, 1) := by decide +kernel
theorem dX11_greatest_5 : decode cX11_greatest 5 = .ok (.bipush 6, 2) := by decide +kernel
theorem dX11_greatest_7 : decode cX11_greatest 7 = .ok (.if_icmp .ge 84, 3) := by decide +kernel
theorem dX11_greatest_10 : decode cX11_greatest 10 = .ok (.iconst 0, 1) := by decide +kernel
theorem dX11_greatest_11 : decode cX11_greatest 11 = .ok (.istore 4, 2) := by decide +kernel
theorem dX11_greatest_13 : decode cX11_greatest 13 = .ok (.iconst 0, 1) := by decide +kernel
theorem dX11_greatest_14 : decode cX11_greatest 14 = .ok (.istore 5, 2) := by decide +kernel
theorem dX11_greatest_16 : decode cX11_greatest 16 = .ok (.iload 5, 2) := by decide +kernel
theorem dX11_greatest_18 : decode cX11_greatest 18 = .ok (.bipush 6, 2) := by decide +kernel
theorem dX11_greatest_20 : decode cX11_greatest 20 = .ok (.if_icmp .ge 52, 3) := by decide +kernel
theorem dX11_greatest_23 : decode cX11_greatest 23 = .ok (.iload 4, 2) := by decide +kernel
theorem dX11_greatest_25 : decode cX11_greatest 25 = .ok (.iload_n 1, 1) := by decide +kernel
theorem dX11_greatest_26 : decode cX11_greatest 26 = .ok (.iload_n 3, 1) := by decide +kernel
theorem dX11_greatest_27 : decode cX11_greatest 27 = .ok (.invokestatic 227, 3) := by decide +kernel
theorem dX11_greatest_30 : decode cX11_greatest 30 = .ok (.ifCond .eq 32, 3) := by decide +kernel
theorem dX11_greatest_33 : decode cX11_greatest 33 = .ok (.iload_n 1, 1) := by decide +kernel
theorem dX11_greatest_34 : decode cX11_greatest 34 = .ok (.iload 5, 2) := by decide +kernel
theorem dX11_greatest_36 : decode cX11_greatest 36 = .ok (.invokestatic 227, 3) := by decide +kernel
theorem dX11_greatest_39 : decode cX11_greatest 39 = .ok (.ifCond .eq 23, 3) := by decide +kernel
theorem dX11_greatest_42 : decode cX11_greatest 42 = .ok (.aload_n 0, 1) := by decide +kernel
theorem dX11_greatest_43 : decode cX11_greatest 43 = .ok (.getfield 78, 3) := by decide +kernel
theorem dX11_greatest_46 : decode cX11_greatest 46 = .ok (.iload_n 3, 1) := by decide +kernel
theorem dX11_greatest_47 : decode cX11_greatest 47 = .ok (.iaload, 1) := by decide +kernel
theorem dX11_greatest_48 : decode cX11_greatest 48 = .ok (.aload_n 0, 1) := by decide +kernel
theorem dX11_greatest_49 : decode cX11_greatest 49 = .ok (.getfield 78, 3) := by decide +kernel
theorem dX11_greatest_52 : decode cX11_greatest 52 = .ok (.iload 5, 2) := by decide +kernel
theorem dX11_greatest_54 : decode cX11_greatest 54 = .ok (.iaload, 1) := by decide +kernel
theorem dX11_greatest_55 : decode cX11_greatest 55 = .ok (.if_icmp .ne 7, 3) := by decide +kernel
theorem dX11_greatest_58 : decode cX11_greatest 58 = .ok (.iconst 1, 1) := by decide +kernel
theorem dX11_greatest_59 : decode cX11_greatest 59 = .ok (.goto 4, 3) := by decide +kernel
theorem dX11_greatest_62 : decode cX11_greatest 62 = .ok (.iconst 0, 1) := by decide +kernel
theorem dX11_greatest_63 : decode cX11_greatest 63 = .ok (.iadd, 1) := by decide +kernel
theorem dX11_greatest_64 : decode cX11_greatest 64 = .ok (.istore 4, 2) := by decide +kernel
theorem dX11_greatest_66 : decode cX11_greatest 66 = .ok (.iinc 5 1, 3) := by decide +kernel
theorem dX11_greatest_69 : decode cX11_greatest 69 = .ok (.goto (-53), 3) := by decide +kernel
theorem dX11_greatest_72 : decode cX11_greatest 72 = .ok (.iload 4, 2) := by decide +kernel
theorem dX11_greatest_74 : decode cX11_greatest 74 = .ok (.iload_n 2, 1) := by decide +kernel
theorem dX11_greatest_75 : decode cX11_greatest 75 = .ok (.if_icmp .le 8, 3) := by decide +kernel
theorem dX11_greatest_78 : decode cX11_greatest 78 = .ok (.iload 4, 2) := by decide +kernel
theorem dX11_greatest_80 : decode cX11_greatest 80 = .ok (.goto 4, 3) := by decide +kernel
theorem dX11_greatest_83 : decode cX11_greatest 83 = .ok (.iload_n 2, 1) := by decide +kernel
theorem dX11_greatest_84 : decode cX11_greatest 84 = .ok (.istore_n 2, 1) := by decide +kernel
theorem dX11_greatest_85 : decode cX11_greatest 85 = .ok (.iinc 3 1, 3) := by decide +kernel
theorem dX11_greatest_88 : decode cX11_greatest 88 = .ok (.goto (-84), 3) := by decide +kernel
theorem dX11_greatest_91 : decode cX11_greatest 91 = .ok (.iload_n 2, 1) := by decide +kernel
theorem dX11_greatest_92 : decode cX11_greatest 92 = .ok (.ireturn, 1) := by decide +kernel
def fX11_greatest_L16 (p1 : Int32) (v2 : Int32) (v3 : Int32) : Nat → St → Int32 → Int32 → (St → Int32 → Int32 → Option (St × Int32)) → Option (St × Int32)
  | 0, _, _, _, _ => none
  | n + 1, σ4, v5, v6, k => (if 6 ≤ v6 then k σ4 v5 v6 else cl (fX11_has σ4 p1 v3) (fun σ7 r8 => jn (fun (σ10 : St) (y11 : Int32) => fX11_greatest_L16 p1 v2 v3 n σ10 (v5 + y11) (v6 + 1) k) (fun k9 => jn (fun (σ13 : St) => k9 σ13 0) (fun k12 => (if r8 = 0 then k12 σ7 else cl (fX11_has σ7 p1 v6) (fun σ14 r15 => (if r15 = 0 then k12 σ14 else rd LM σ14 22 v3 (fun x16 => rd LM σ14 22 v6 (fun x17 => (if x16 = x17 then k9 σ14 1 else k12 σ14))))))))))
def fX11_greatest_L4 (p1 : Int32) : Nat → St → Int32 → Int32 → (St → Int32 → Int32 → Option (St × Int32)) → Option (St × Int32)
  | 0, _, _, _, _ => none
  | n + 1, σ1, v2, v3, k => (if 6 ≤ v3 then k σ1 v2 v3 else fX11_greatest_L16 p1 v2 v3 10000 σ1 0 0 (fun σ18 v19 v20 => pv (if v19 ≤ v2 then v2 else v19) (fun (y22 : Int32) => fX11_greatest_L4 p1 n σ18 y22 (v3 + 1) k)))
def fX11_greatest (σ : St) (p1 : Int32) : Option (St × Int32) := fX11_greatest_L4 p1 10000 σ 0 0 (fun σ23 v24 v25 => some (σ23, v24))
set_option maxHeartbeats 4000000 in
set_option maxRecDepth 100000 in
theorem ctX11_greatest (l : Launch) (g : GG) (σ : St) (p1 : Int32) (σ' : St) (r : Int32) (hE : fX11_greatest σ p1 = some (σ', r)) : MI 25 entM l g yX11_greatest (Cond.code yX11_greatest cX11_greatest 6 (some .int) :: gtbl) (rmD 2) [.ref (g.2.1 0), .int p1] σ σ' r := by
  refine mi_i (own := RX11) (lv := [(0, .ref (g.2.1 0)), (1, .int p1)]) (by decide) rfl (Nat.le_of_ble_eq_true rfl) rfl (fun p e s m below meth c ls args Q A H0 H locs C hK hA hQ hs hl => ?_)
  have hx := C.1
  have hb := C.2.1
  unfold fX11_greatest at hE
  refine lv_iconst (v := 0) hx hb dX11_greatest_0 (by decide) ?_
  refine lv_istore_n (lv' := [(2, .int 0), (0, .ref (g.2.1 0)), (1, .int p1)]) hx hb dX11_greatest_1 rfl hl (by decide) rfl (fun ls hl => ?_)
  refine lv_iconst (v := 0) hx hb dX11_greatest_2 (by decide) ?_
  refine lv_istore_n (lv' := [(3, .int 0), (2, .int 0), (0, .ref (g.2.1 0)), (1, .int p1)]) hx hb dX11_greatest_3 rfl hl (by decide) rfl (fun ls hl => ?_)
  have hL4 : ∀ (n : Nat) (σ1 : St) (v2 : Int32) (v3 : Int32) (k : St → Int32 → Int32 → Option (St × Int32)), fX11_greatest_L4 p1 n σ1 v2 v3 k = some (σ', r) → (∀ (σ1 : St) (v2 : Int32) (v3 : Int32) (H : Heap) (locs : List Loc) (ls : Array Slot), HW 25 entM g A H0 H locs σ1 → lv_has ls 6 [(0, .ref (g.2.1 0)), (1, .int p1), (2, .int v2), (3, .int v3)] → k σ1 v2 v3 = some (σ', r) → W p l e (rmD 2) s m args below meth c H locs 0 0 Q (F0 m 91 ls [])) → ∀ (H : Heap) (locs : List Loc) (ls : Array Slot), HW 25 entM g A H0 H locs σ1 → lv_has ls 6 [(0, .ref (g.2.1 0)), (1, .int p1), (2, .int v2), (3, .int v3)] → W p l e (rmD 2) s m args below meth c H locs 0 0 Q (F0 m 4 ls []) := by
    intro n
    induction n with
    | zero =>
      intro σ1 v2 v3 k hE
      rw [fX11_greatest_L4] at hE
      exact no_e hE
    | succ n ih =>
      intro σ1 v2 v3 k hE hk H locs ls hs hl
      rw [fX11_greatest_L4] at hE
      refine lv_iload_n hx hb dX11_greatest_4 rfl (lv_at hl 3 rfl) ?_
      refine lv_bipush (v := 6) hx hb dX11_greatest_5 (by decide) ?_
      refine lv_icmp_ge (tgt := 91) hx hb dX11_greatest_7 (by decide) (fun hc => ?_) (fun hc => ?_)
      · have hE := if_t hc hE
        exact hk σ1 v2 v3 _ _ _ hs (lv_sub hl [0, 1, 2, 3] rfl) hE
      · have hE := if_f hc hE
        refine lv_iconst (v := 0) hx hb dX11_greatest_10 (by decide) ?_
        refine lv_istore (lv' := [(4, .int 0), (0, .ref (g.2.1 0)), (1, .int p1), (2, .int v2), (3, .int v3)]) hx hb dX11_greatest_11 hl (by decide) rfl (fun ls hl => ?_)
        refine lv_iconst (v := 0) hx hb dX11_greatest_13 (by decide) ?_
        refine lv_istore (lv' := [(5, .int 0), (4, .int 0), (0, .ref (g.2.1 0)), (1, .int p1), (2, .int v2), (3, .int v3)]) hx hb dX11_greatest_14 hl (by decide) rfl (fun ls hl => ?_)
        have hL16 : ∀ (n : Nat) (σ4 : St) (v5 : Int32) (v6 : Int32) (k : St → Int32 → Int32 → Option (St × Int32)), fX11_greatest_L16 p1 v2 v3 n σ4 v5 v6 k = some (σ', r) → (∀ (σ4 : St) (v5 : Int32) (v6 : Int32) (H : Heap) (locs : List Loc) (ls : Array Slot), HW 25 entM g A H0 H locs σ4 → lv_has ls 6 [(0, .ref (g.2.1 0)), (1, .int p1), (2, .int v2), (3, .int v3), (4, .int v5), (5, .int v6)] → k σ4 v5 v6 = some (σ', r) → W p l e (rmD 2) s m args below meth c H locs 0 0 Q (F0 m 72 ls [])) → ∀ (H : Heap) (locs : List Loc) (ls : Array Slot), HW 25 entM g A H0 H locs σ4 → lv_has ls 6 [(0, .ref (g.2.1 0)), (1, .int p1), (2, .int v2), (3, .int v3), (4, .int v5), (5, .int v6)] → W p l e (rmD 2) s m args below meth c H locs 0 0 Q (F0 m 16 ls []) := by
          intro n
          induction n with
          | zero =>
            intro σ4 v5 v6 k hE
            rw [fX11_greatest_L16] at hE
            exact no_e hE
          | succ n ih =>
            intro σ4 v5 v6 k hE hk H locs ls hs hl
            rw [fX11_greatest_L16] at hE
            refine lv_iload hx hb dX11_greatest_16 (lv_at hl 5 rfl) ?_
            refine lv_bipush (v := 6) hx hb dX11_greatest_18 (by decide) ?_
            refine lv_icmp_ge (tgt := 72) hx hb dX11_greatest_20 (by decide) (fun hc => ?_) (fun hc => ?_)
            · have hE := if_t hc hE
              exact hk σ4 v5 v6 _ _ _ hs (lv_sub hl [0, 1, 2, 3, 4, 5] rfl) hE
            · have hE := if_f hc hE
              refine lv_iload hx hb dX11_greatest_23 (lv_at hl 4 rfl) ?_
              refine lv_iload_n hx hb dX11_greatest_25 rfl (lv_at hl 1 rfl) ?_
              refine lv_iload_n hx hb dX11_greatest_26 rfl (lv_at hl 3 rfl) ?_
              obtain ⟨σ7, r8, hE1, hE⟩ := cl_e hE
              refine x_cis (As := [.int p1, .int v3]) (rest := [.int v5]) C hl.1 hK hs hA ⟨Nat.le_refl 0, Nat.le_refl 0⟩ (ctX11_has l g _ _ _ _ _ hE1) (cw_X11_227 C ⟨Nat.le_of_ble_eq_true rfl, Nat.le_of_ble_eq_true rfl⟩) rfl rfl (Nat.le_of_ble_eq_true rfl) dX11_greatest_27 (fun H locs hs => ?_)
              refine jn2 hE (fun k9 hE hk9 => ?_)
              have hJk9 : ∀ (σ10 : St) (y11 : Int32) (H : Heap) (locs : List Loc) (ls : Array Slot), HW 25 entM g A H0 H locs σ10 → lv_has ls 6 [(0, .ref (g.2.1 0)), (1, .int p1), (2, .int v2), (3, .int v3), (5, .int v6)] → k9 σ10 y11 = some (σ', r) → W p l e (rmD 2) s m args below meth c H locs 0 0 Q (F0 m 63 ls [.int y11, .int v5]) := by
                intro σ10 y11 H locs ls hs hl hE
                have hE := hk9 _ _ hE
                refine lv_iadd hx hb dX11_greatest_63 ?_
                refine lv_istore (lv' := [(4, .int (v5 + y11)), (0, .ref (g.2.1 0)), (1, .int p1), (2, .int v2), (3, .int v3), (5, .int v6)]) hx hb dX11_greatest_64 hl (by decide) rfl (fun ls hl => ?_)
                refine lv_iinc (v := v6 + 1) (lv' := [(5, .int (v6 + 1)), (4, .int (v5 + y11)), (0, .ref (g.2.1 0)), (1, .int p1), (2, .int v2), (3, .int v3)]) hx hb dX11_greatest_66 hl (k := 5) rfl rfl (by decide) rfl (fun ls hl => ?_)
                refine lv_goto (tgt := 16) hx hb dX11_greatest_69 (by decide) ?_
                exact ih _ _ _ _ hE hk _ _ _ hs (lv_sub hl [2, 3, 4, 5, 1, 0] rfl)
              refine jn1 hE (fun k12 hE hk12 => ?_)
              have hJk12 : ∀ (σ13 : St) (H : Heap) (locs : List Loc) (ls : Array Slot), HW 25 entM g A H0 H locs σ13 → lv_has ls 6 [(0, .ref (g.2.1 0)), (1, .int p1), (2, .int v2), (3, .int v3), (5, .int v6)] → k12 σ13 = some (σ', r) → W p l e (rmD 2) s m args below meth c H locs 0 0 Q (F0 m 62 ls [.int v5]) := by
                intro σ13 H locs ls hs hl hE
                have hE := hk12 _ hE
                refine lv_iconst (v := 0) hx hb dX11_greatest_62 (by decide) ?_
                exact hJk9 σ13 0 _ _ _ hs (lv_sub hl [0, 1, 2, 3, 4] rfl) hE
              refine lv_if_eq (tgt := 62) hx hb dX11_greatest_30 (by decide) (fun hc => ?_) (fun hc => ?_)
              · have hE := if_t hc hE
                exact hJk12 σ7 _ _ _ hs (lv_sub hl [0, 1, 2, 3, 5] rfl) hE
              · have hE := if_f hc hE
                refine lv_iload_n hx hb dX11_greatest_33 rfl (lv_at hl 1 rfl) ?_
                refine lv_iload hx hb dX11_greatest_34 (lv_at hl 5 rfl) ?_
                obtain ⟨σ14, r15, hE1, hE⟩ := cl_e hE
                refine x_cis (As := [.int p1, .int v6]) (rest := [.int v5]) C hl.1 hK hs hA ⟨Nat.le_refl 0, Nat.le_refl 0⟩ (ctX11_has l g _ _ _ _ _ hE1) (cw_X11_227 C ⟨Nat.le_of_ble_eq_true rfl, Nat.le_of_ble_eq_true rfl⟩) rfl rfl (Nat.le_of_ble_eq_true rfl) dX11_greatest_36 (fun H locs hs => ?_)
                refine lv_if_eq (tgt := 62) hx hb dX11_greatest_39 (by decide) (fun hc => ?_) (fun hc => ?_)
                · have hE := if_t hc hE
                  exact hJk12 σ14 _ _ _ hs (lv_sub hl [0, 1, 2, 3, 5] rfl) hE
                · have hE := if_f hc hE
                  refine lv_aload_n hx hb dX11_greatest_42 rfl (lv_at hl 0 rfl) ?_
                  refine gf_X11_78_0 C hK hs dX11_greatest_43 ?_
                  refine lv_iload_n hx hb dX11_greatest_46 rfl (lv_at hl 3 rfl) ?_
                  obtain ⟨hi, x16, ex16, hE⟩ := rd_w hE
                  refine y_ald layM C hK hs hi ex16 dX11_greatest_47 ?_
                  refine lv_aload_n hx hb dX11_greatest_48 rfl (lv_at hl 0 rfl) ?_
                  refine gf_X11_78_0 C hK hs dX11_greatest_49 ?_
                  refine lv_iload hx hb dX11_greatest_52 (lv_at hl 5 rfl) ?_
                  obtain ⟨hi, x17, ex17, hE⟩ := rd_w hE
                  refine y_ald layM C hK hs hi ex17 dX11_greatest_54 ?_
                  refine lv_icmp_ne (tgt := 62) hx hb dX11_greatest_55 (by decide) (fun hc => ?_) (fun hc => ?_)
                  · have hE := if_f hc hE
                    exact hJk12 σ14 _ _ _ hs (lv_sub hl [0, 1, 2, 3, 5] rfl) hE
                  · have hE := if_t hc hE
                    refine lv_iconst (v := 1) hx hb dX11_greatest_58 (by decide) ?_
                    refine lv_goto (tgt := 63) hx hb dX11_greatest_59 (by decide) ?_
                    exact hJk9 σ14 1 _ _ _ hs (lv_sub hl [0, 1, 2, 3, 5] rfl) hE
        refine hL16 _ _ _ _ _ hE (fun σ18 v19 v20 H locs ls hs hl hE => ?_) H locs ls hs (lv_sub hl [2, 3, 4, 5, 1, 0] rfl)
        refine lv_iload hx hb dX11_greatest_72 (lv_at hl 4 rfl) ?_
        refine lv_iload_n hx hb dX11_greatest_74 rfl (lv_at hl 2 rfl) ?_
        refine pvw hE (fun k21 hE hk21 => ?_)
        have hJk21 : ∀ (y22 : Int32) (H : Heap) (locs : List Loc) (ls : Array Slot), HW 25 entM g A H0 H locs σ18 → lv_has ls 6 [(0, .ref (g.2.1 0)), (1, .int p1), (3, .int v3)] → k21 y22 = some (σ', r) → W p l e (rmD 2) s m args below meth c H locs 0 0 Q (F0 m 84 ls [.int y22]) := by
          intro y22 H locs ls hs hl hE
          have hE := hk21 _ hE
          refine lv_istore_n (lv' := [(2, .int y22), (0, .ref (g.2.1 0)), (1, .int p1), (3, .int v3)]) hx hb dX11_greatest_84 rfl hl (by decide) rfl (fun ls hl => ?_)
          refine lv_iinc (v := v3 + 1) (lv' := [(3, .int (v3 + 1)), (2, .int y22), (0, .ref (g.2.1 0)), (1, .int p1)]) hx hb dX11_greatest_85 hl (k := 3) rfl rfl (by decide) rfl (fun ls hl => ?_)
          refine lv_goto (tgt := 4) hx hb dX11_greatest_88 (by decide) ?_
          exact ih _ _ _ _ hE hk _ _ _ hs (lv_sub hl [2, 3, 1, 0] rfl)
        refine lv_icmp_le (tgt := 83) hx hb dX11_greatest_75 (by decide) (fun hc => ?_) (fun hc => ?_)
        · have hE := pv_t hc hE
          refine lv_iload_n hx hb dX11_greatest_83 rfl (lv_at hl 2 rfl) ?_
          exact hJk21 v2 _ _ _ hs (lv_sub hl [0, 1, 3] rfl) hE
        · have hE := pv_f hc hE
          refine lv_iload hx hb dX11_greatest_78 (lv_at hl 4 rfl) ?_
          refine lv_goto (tgt := 84) hx hb dX11_greatest_80 (by decide) ?_
          exact hJk21 v19 _ _ _ hs (lv_sub hl [0, 1, 3] rfl) hE
  refine hL4 _ _ _ _ _ hE (fun σ23 v24 v25 H locs ls hs hl hE => ?_) H locs ls hs (lv_sub hl [2, 3, 1, 0] rfl)
  refine lv_iload_n hx hb dX11_greatest_91 rfl (lv_at hl 2 rfl) ?_
  exact hQ hs hE dX11_greatest_92
theorem dX11_test_0 : decode cX11_test 0 = .ok (.aload_n 0, 1) := by decide +kernel
theorem dX11_test_1 : decode cX11_test 1 = .ok (.iload_n 1, 1) := by decide +kernel
theorem dX11_test_2 : decode cX11_test 2 = .ok (.invokevirtual 201, 3) := by decide +kernel
theorem dX11_test_5 : decode cX11_test 5 = .ok (.ifCond .eq 10, 3) := by decide +kernel
theorem dX11_test_8 : decode cX11_test 8 = .ok (.iload_n 2, 1) := by decide +kernel
theorem dX11_test_9 : decode cX11_test 9 = .ok (.invokestatic 102, 3) := by decide +kernel
theorem dX11_test_12 : decode cX11_test 12 = .ok (.ifCond .ne 5, 3) := by decide +kernel
theorem dX11_test_15 : decode cX11_test 15 = .ok (.iconst (-1), 1) := by decide +kernel
theorem dX11_test_16 : decode cX11_test 16 = .ok (.ireturn, 1) := by decide +kernel
theorem dX11_test_17 : decode cX11_test 17 = .ok (.aload_n 0, 1) := by decide +kernel
theorem dX11_test_18 : decode cX11_test 18 = .ok (.iload_n 2, 1) := by decide +kernel
theorem dX11_test_19 : decode cX11_test 19 = .ok (.bipush 20, 2) := by decide +kernel
theorem dX11_test_21 : decode cX11_test 21 = .ok (.bipush 99, 2) := by decide +kernel
theorem dX11_test_23 : decode cX11_test 23 = .ok (.invokevirtual 270, 3) := by decide +kernel
theorem dX11_test_26 : decode cX11_test 26 = .ok (.istore_n 3, 1) := by decide +kernel
theorem dX11_test_27 : decode cX11_test 27 = .ok (.iload_n 3, 1) := by decide +kernel
theorem dX11_test_28 : decode cX11_test 28 = .ok (.ifCond .ge 5, 3) := by decide +kernel
theorem dX11_test_31 : decode cX11_test 31 = .ok (.iload_n 3, 1) := by decide +kernel
theorem dX11_test_32 : decode cX11_test 32 = .ok (.ireturn, 1) := by decide +kernel
theorem dX11_test_33 : decode cX11_test 33 = .ok (.aload_n 0, 1) := by decide +kernel
theorem dX11_test_34 : decode cX11_test 34 = .ok (.iload_n 1, 1) := by decide +kernel
theorem dX11_test_35 : decode cX11_test 35 = .ok (.iload_n 2, 1) := by decide +kernel
theorem dX11_test_36 : decode cX11_test 36 = .ok (.invokevirtual 276, 3) := by decide +kernel
theorem dX11_test_39 : decode cX11_test 39 = .ok (.istore 4, 2) := by decide +kernel
theorem dX11_test_41 : decode cX11_test 41 = .ok (.iload 4, 2) := by decide +kernel
theorem dX11_test_43 : decode cX11_test 43 = .ok (.ifCond .ne 6, 3) := by decide +kernel
theorem dX11_test_46 : decode cX11_test 46 = .ok (.bipush (-9), 2) := by decide +kernel
theorem dX11_test_48 : decode cX11_test 48 = .ok (.ireturn, 1) := by decide +kernel
theorem dX11_test_49 : decode cX11_test 49 = .ok (.iconst 0, 1) := by decide +kernel
theorem dX11_test_50 : decode cX11_test 50 = .ok (.istore 5, 2) := by decide +kernel
theorem dX11_test_52 : decode cX11_test 52 = .ok (.iload 5, 2) := by decide +kernel
theorem dX11_test_54 : decode cX11_test 54 = .ok (.bipush 6, 2) := by decide +kernel
theorem dX11_test_56 : decode cX11_test 56 = .ok (.if_icmp .ge 24, 3) := by decide +kernel
theorem dX11_test_59 : decode cX11_test 59 = .ok (.aload_n 0, 1) := by decide +kernel
theorem dX11_test_60 : decode cX11_test 60 = .ok (.getfield 78, 3) := by decide +kernel
theorem dX11_test_63 : decode cX11_test 63 = .ok (.iload 5, 2) := by decide +kernel
theorem dX11_test_65 : decode cX11_test 65 = .ok (.aload_n 0, 1) := by decide +kernel
theorem dX11_test_66 : decode cX11_test 66 = .ok (.getfield 37, 3) := by decide +kernel
theorem dX11_test_69 : decode cX11_test 69 = .ok (.iconst 1, 1) := by decide +kernel
theorem dX11_test_70 : decode cX11_test 70 = .ok (.iload_n 1, 1) := by decide +kernel
theorem dX11_test_71 : decode cX11_test 71 = .ok (.iadd, 1) := by decide +kernel
theorem dX11_test_72 : decode cX11_test 72 = .ok (.iaload, 1) := by decide +kernel
theorem dX11_test_73 : decode cX11_test 73 = .ok (.iastore, 1) := by decide +kernel
theorem dX11_test_74 : decode cX11_test 74 = .ok (.iinc 5 1, 3) := by decide +kernel
theorem dX11_test_77 : decode cX11_test 77 = .ok (.goto (-25), 3) := by decide +kernel
theorem dX11_test_80 : decode cX11_test 80 = .ok (.iconst 0, 1) := by decide +kernel
theorem dX11_test_81 : decode cX11_test 81 = .ok (.istore 5, 2) := by decide +kernel
theorem dX11_test_83 : decode cX11_test 83 = .ok (.bipush 9, 2) := by decide +kernel
theorem dX11_test_85 : decode cX11_test 85 = .ok (.istore 6, 2) := by decide +kernel
theorem dX11_test_87 : decode cX11_test 87 = .ok (.iconst 1, 1) := by decide +kernel
theorem dX11_test_88 : decode cX11_test 88 = .ok (.istore 7, 2) := by decide +kernel
theorem dX11_test_90 : decode cX11_test 90 = .ok (.iload 7, 2) := by decide +kernel
theorem dX11_test_92 : decode cX11_test 92 = .ok (.bipush 21, 2) := by decide +kernel
theorem dX11_test_94 : decode cX11_test 94 = .ok (.if_icmp .ge 83, 3) := by decide +kernel
theorem dX11_test_97 : decode cX11_test 97 = .ok (.iconst 0, 1) := by decide +kernel
theorem dX11_test_98 : decode cX11_test 98 = .ok (.istore 8, 2) := by decide +kernel
theorem dX11_test_100 : decode cX11_test 100 = .ok (.iload 8, 2) := by decide +kernel
theorem dX11_test_102 : decode cX11_test 102 = .ok (.bipush 6, 2) := by decide +kernel
theorem dX11_test_104 : decode cX11_test 104 = .ok (.if_icmp .ge 34, 3) := by decide +kernel
theorem dX11_test_107 : decode cX11_test 107 = .ok (.aload_n 0, 1) := by decide +kernel
theorem dX11_test_108 : decode cX11_test 108 = .ok (.getfield 78, 3) := by decide +kernel
theorem dX11_test_111 : decode cX11_test 111 = .ok (.iload 8, 2) := by decide +kernel
theorem dX11_test_113 : decode cX11_test 113 = .ok (.iload 8, 2) := by decide +kernel
theorem dX11_test_115 : decode cX11_test 115 = .ok (.aload_n 0, 1) := by decide +kernel
theorem dX11_test_116 : decode cX11_test 116 = .ok (.getfield 78, 3) := by decide +kernel
theorem dX11_test_119 : decode cX11_test 119 = .ok (.iload 8, 2) := by decide +kernel
theorem dX11_test_121 : decode cX11_test 121 = .ok (.iaload, 1) := by decide +kernel
theorem dX11_test_122 : decode cX11_test 122 = .ok (.aload_n 0, 1) := by decide +kernel
theorem dX11_test_123 : decode cX11_test 123 = .ok (.getfield 25, 3) := by decide +kernel
theorem dX11_test_126 : decode cX11_test 126 = .ok (.iload_n 1, 1) := by decide +kernel
theorem dX11_test_127 : decode cX11_test 127 = .ok (.iaload, 1) := by decide +kernel
theorem dX11_test_128 : decode cX11_test 128 = .ok (.invokestatic 216, 3) := by decide +kernel
theorem dX11_test_131 : decode cX11_test 131 = .ok (.iastore, 1) := by decide +kernel
theorem dX11_test_132 : decode cX11_test 132 = .ok (.iinc 8 1, 3) := by decide +kernel
theorem dX11_test_135 : decode cX11_test 135 = .ok (.goto (-35), 3) := by decide +kernel
theorem dX11_test_138 : decode cX11_test 138 = .ok (.aload_n 0, 1) := by decide +kernel
theorem dX11_test_139 : decode cX11_test 139 = .ok (.iload 4, 2) := by decide +kernel
theorem dX11_test_141 : decode cX11_test 141 = .ok (.invokevirtual 279, 3) := by decide +kernel
theorem dX11_test_144 : decode cX11_test 144 = .ok (.istore 8, 2) := by decide +kernel
theorem dX11_test_146 : decode cX11_test 146 = .ok (.iload 8, 2) := by decide +kernel
theorem dX11_test_148 : decode cX11_test 148 = .ok (.iload 6, 2) := by decide +kernel
theorem dX11_test_150 : decode cX11_test 150 = .ok (.if_icmp .ge 8, 3) := by decide +kernel
theorem dX11_test_153 : decode cX11_test 153 = .ok (.iload 7, 2) := by decide +kernel
theorem dX11_test_155 : decode cX11_test 155 = .ok (.goto 5, 3) := by decide +kernel
theorem dX11_test_158 : decode cX11_test 158 = .ok (.iload 5, 2) := by decide +kernel
theorem dX11_test_160 : decode cX11_test 160 = .ok (.istore 5, 2) := by decide +kernel
theorem dX11_test_162 : decode cX11_test 162 = .ok (.iload 6, 2) := by decide +kernel
theorem dX11_test_164 : decode cX11_test 164 = .ok (.iload 8, 2) := by decide +kernel
theorem dX11_test_166 : decode cX11_test 166 = .ok (.invokestatic 177, 3) := by decide +kernel
theorem dX11_test_169 : decode cX11_test 169 = .ok (.istore 6, 2) := by decide +kernel
theorem dX11_test_171 : decode cX11_test 171 = .ok (.iinc 7 1, 3) := by decide +kernel
theorem dX11_test_174 : decode cX11_test 174 = .ok (.goto (-84), 3) := by decide +kernel
theorem dX11_test_177 : decode cX11_test 177 = .ok (.aload_n 0, 1) := by decide +kernel
theorem dX11_test_178 : decode cX11_test 178 = .ok (.iload 5, 2) := by decide +kernel
theorem dX11_test_180 : decode cX11_test 180 = .ok (.iload 6, 2) := by decide +kernel
theorem dX11_test_182 : decode cX11_test 182 = .ok (.invokevirtual 210, 3) := by decide +kernel
theorem dX11_test_185 : decode cX11_test 185 = .ok (.ireturn, 1) := by decide +kernel
def fX11_test_L52 (p1 : Int32) (r8 : Int32) : Nat → St → Int32 → (St → Int32 → Option (St × Int32)) → Option (St × Int32)
  | 0, _, _, _ => none
  | n + 1, σ9, v10, k => (if 6 ≤ v10 then k σ9 v10 else rd LM σ9 10 (1 + p1) (fun x11 => wr LM σ9 22 v10 x11 (fun σ12 => fX11_test_L52 p1 r8 n σ12 (v10 + 1) k)))
def fX11_test_L100 (p1 : Int32) (r8 : Int32) (v16 : Int32) (v17 : Int32) (v18 : Int32) : Nat → St → Int32 → (St → Int32 → Option (St × Int32)) → Option (St × Int32)
  | 0, _, _, _ => none
  | n + 1, σ19, v20, k => (if 6 ≤ v20 then k σ19 v20 else rd LM σ19 22 v20 (fun x21 => rd LM σ19 6 p1 (fun x22 => cl (fX11_nextPurse σ19 v20 x21 x22) (fun σ23 r24 => wr LM σ23 22 v20 r24 (fun σ25 => fX11_test_L100 p1 r8 v16 v17 v18 n σ25 (v20 + 1) k)))))
def fX11_test_L90 (p1 : Int32) (r8 : Int32) : Nat → St → Int32 → Int32 → Int32 → (St → Int32 → Int32 → Int32 → Option (St × Int32)) → Option (St × Int32)
  | 0, _, _, _, _, _ => none
  | n + 1, σ15, v16, v17, v18, k => (if 21 ≤ v18 then k σ15 v16 v17 v18 else fX11_test_L100 p1 r8 v16 v17 v18 10000 σ15 0 (fun σ26 v27 => cl (fX11_greatest σ26 r8) (fun σ28 r29 => pv (if v17 ≤ r29 then v16 else v18) (fun (y31 : Int32) => cl (fX11_less σ28 v17 r29) (fun σ32 r33 => fX11_test_L90 p1 r8 n σ32 y31 r33 (v18 + 1) k)))))
def fX11_test (σ : St) (p1 : Int32) (p2 : Int32) : Option (St × Int32) := cl (fX11_isHouse σ p1) (fun σ1 r2 => (if r2 = 0 then some (σ1, (-1)) else cl (fX11_isRow σ1 p2) (fun σ3 r4 => (if r4 = 0 then some (σ3, (-1)) else cl (fX11_lacks σ3 p2 20 99) (fun σ5 r6 => (if 0 ≤ r6 then cl (fX11_kindsBy σ5 p1 p2) (fun σ7 r8 => (if r8 = 0 then some (σ7, (-9)) else fX11_test_L52 p1 r8 10000 σ7 0 (fun σ13 v14 => fX11_test_L90 p1 r8 10000 σ13 0 9 1 (fun σ34 v35 v36 v37 => cl (fX11_answer σ34 v35 v36) (fun σ38 r39 => some (σ38, r39)))))) else some (σ5, r6)))))))
set_option maxHeartbeats 4000000 in
set_option maxRecDepth 100000 in
theorem ctX11_test (l : Launch) (g : GG) (σ : St) (p1 : Int32) (p2 : Int32) (σ' : St) (r : Int32) (hE : fX11_test σ p1 p2 = some (σ', r)) : MI 25 entM l g yX11_test (Cond.code yX11_test cX11_test 9 (some .int) :: gtbl) (rmD 5) [.ref (g.2.1 0), .int p1, .int p2] σ σ' r := by
  refine mi_i (own := RX11) (lv := [(0, .ref (g.2.1 0)), (1, .int p1), (2, .int p2)]) (by decide) rfl (Nat.le_of_ble_eq_true rfl) rfl (fun p e s m below meth c ls args Q A H0 H locs C hK hA hQ hs hl => ?_)
  have hx := C.1
  have hb := C.2.1
  unfold fX11_test at hE
  refine lv_aload_n hx hb dX11_test_0 rfl (lv_at hl 0 rfl) ?_
  refine lv_iload_n hx hb dX11_test_1 rfl (lv_at hl 1 rfl) ?_
  obtain ⟨σ1, r2, hE1, hE⟩ := cl_e hE
  refine x_civ (As := [.int p1]) (rest := []) C hl.1 hK hs hA ⟨Nat.le_refl 0, Nat.le_refl 0⟩ (ctX11_isHouse l g _ _ _ _ hE1) (cw_X11_201 C ⟨Nat.le_of_ble_eq_true rfl, Nat.le_of_ble_eq_true rfl⟩) (hs.recv hK 0 (by decide) rfl rfl) rfl rfl (Nat.le_of_ble_eq_true rfl) dX11_test_2 (fun H locs hs => ?_)
  refine lv_if_eq (tgt := 15) hx hb dX11_test_5 (by decide) (fun hc => ?_) (fun hc => ?_)
  · have hE := if_t hc hE
    refine lv_iconst (v := (-1)) hx hb dX11_test_15 (by decide) ?_
    exact hQ hs hE dX11_test_16
  · have hE := if_f hc hE
    refine lv_iload_n hx hb dX11_test_8 rfl (lv_at hl 2 rfl) ?_
    obtain ⟨σ3, r4, hE1, hE⟩ := cl_e hE
    refine x_cis (As := [.int p2]) (rest := []) C hl.1 hK hs hA ⟨Nat.le_refl 0, Nat.le_refl 0⟩ (ctX11_isRow l g _ _ _ _ hE1) (cw_X11_102 C ⟨Nat.le_of_ble_eq_true rfl, Nat.le_of_ble_eq_true rfl⟩) rfl rfl (Nat.le_of_ble_eq_true rfl) dX11_test_9 (fun H locs hs => ?_)
    refine lv_if_ne (tgt := 17) hx hb dX11_test_12 (by decide) (fun hc => ?_) (fun hc => ?_)
    · have hE := if_f hc hE
      refine lv_aload_n hx hb dX11_test_17 rfl (lv_at hl 0 rfl) ?_
      refine lv_iload_n hx hb dX11_test_18 rfl (lv_at hl 2 rfl) ?_
      refine lv_bipush (v := 20) hx hb dX11_test_19 (by decide) ?_
      refine lv_bipush (v := 99) hx hb dX11_test_21 (by decide) ?_
      obtain ⟨σ5, r6, hE1, hE⟩ := cl_e hE
      refine x_civ (As := [.int p2, .int 20, .int 99]) (rest := []) C hl.1 hK hs hA ⟨Nat.le_refl 0, Nat.le_refl 0⟩ (ctX11_lacks l g _ _ _ _ _ _ hE1) (cw_X11_270 C ⟨Nat.le_of_ble_eq_true rfl, Nat.le_of_ble_eq_true rfl⟩) (hs.recv hK 0 (by decide) rfl rfl) rfl rfl (Nat.le_of_ble_eq_true rfl) dX11_test_23 (fun H locs hs => ?_)
      refine lv_istore_n (lv' := [(3, .int r6), (0, .ref (g.2.1 0)), (1, .int p1), (2, .int p2)]) hx hb dX11_test_26 rfl hl (by decide) rfl (fun ls hl => ?_)
      refine lv_iload_n hx hb dX11_test_27 rfl (lv_at hl 0 rfl) ?_
      refine lv_if_ge (tgt := 33) hx hb dX11_test_28 (by decide) (fun hc => ?_) (fun hc => ?_)
      · have hE := if_t hc hE
        refine lv_aload_n hx hb dX11_test_33 rfl (lv_at hl 1 rfl) ?_
        refine lv_iload_n hx hb dX11_test_34 rfl (lv_at hl 2 rfl) ?_
        refine lv_iload_n hx hb dX11_test_35 rfl (lv_at hl 3 rfl) ?_
        obtain ⟨σ7, r8, hE1, hE⟩ := cl_e hE
        refine x_civ (As := [.int p1, .int p2]) (rest := []) C hl.1 hK hs hA ⟨Nat.le_refl 0, Nat.le_refl 0⟩ (ctX11_kindsBy l g _ _ _ _ _ hE1) (cw_X11_276 C ⟨Nat.le_of_ble_eq_true rfl, Nat.le_of_ble_eq_true rfl⟩) (hs.recv hK 0 (by decide) rfl rfl) rfl rfl (Nat.le_of_ble_eq_true rfl) dX11_test_36 (fun H locs hs => ?_)
        refine lv_istore (lv' := [(4, .int r8), (3, .int r6), (0, .ref (g.2.1 0)), (1, .int p1), (2, .int p2)]) hx hb dX11_test_39 hl (by decide) rfl (fun ls hl => ?_)
        refine lv_iload hx hb dX11_test_41 (lv_at hl 0 rfl) ?_
        refine lv_if_ne (tgt := 49) hx hb dX11_test_43 (by decide) (fun hc => ?_) (fun hc => ?_)
        · have hE := if_f hc hE
          refine lv_iconst (v := 0) hx hb dX11_test_49 (by decide) ?_
          refine lv_istore (lv' := [(5, .int 0), (4, .int r8), (3, .int r6), (0, .ref (g.2.1 0)), (1, .int p1), (2, .int p2)]) hx hb dX11_test_50 hl (by decide) rfl (fun ls hl => ?_)
          have hL52 : ∀ (n : Nat) (σ9 : St) (v10 : Int32) (k : St → Int32 → Option (St × Int32)), fX11_test_L52 p1 r8 n σ9 v10 k = some (σ', r) → (∀ (σ9 : St) (v10 : Int32) (H : Heap) (locs : List Loc) (ls : Array Slot), HW 25 entM g A H0 H locs σ9 → lv_has ls 9 [(0, .ref (g.2.1 0)), (1, .int p1), (4, .int r8), (5, .int v10)] → k σ9 v10 = some (σ', r) → W p l e (rmD 5) s m args below meth c H locs 0 0 Q (F0 m 80 ls [])) → ∀ (H : Heap) (locs : List Loc) (ls : Array Slot), HW 25 entM g A H0 H locs σ9 → lv_has ls 9 [(0, .ref (g.2.1 0)), (1, .int p1), (4, .int r8), (5, .int v10)] → W p l e (rmD 5) s m args below meth c H locs 0 0 Q (F0 m 52 ls []) := by
            intro n
            induction n with
            | zero =>
              intro σ9 v10 k hE
              rw [fX11_test_L52] at hE
              exact no_e hE
            | succ n ih =>
              intro σ9 v10 k hE hk H locs ls hs hl
              rw [fX11_test_L52] at hE
              refine lv_iload hx hb dX11_test_52 (lv_at hl 3 rfl) ?_
              refine lv_bipush (v := 6) hx hb dX11_test_54 (by decide) ?_
              refine lv_icmp_ge (tgt := 80) hx hb dX11_test_56 (by decide) (fun hc => ?_) (fun hc => ?_)
              · have hE := if_t hc hE
                exact hk σ9 v10 _ _ _ hs (lv_sub hl [0, 1, 2, 3] rfl) hE
              · have hE := if_f hc hE
                refine lv_aload_n hx hb dX11_test_59 rfl (lv_at hl 0 rfl) ?_
                refine gf_X11_78_0 C hK hs dX11_test_60 ?_
                refine lv_iload hx hb dX11_test_63 (lv_at hl 3 rfl) ?_
                refine lv_aload_n hx hb dX11_test_65 rfl (lv_at hl 0 rfl) ?_
                refine gf_X11_37_0 C hK hs dX11_test_66 ?_
                refine lv_iconst (v := 1) hx hb dX11_test_69 (by decide) ?_
                refine lv_iload_n hx hb dX11_test_70 rfl (lv_at hl 1 rfl) ?_
                refine lv_iadd hx hb dX11_test_71 ?_
                obtain ⟨hi, x11, ex11, hE⟩ := rd_w hE
                refine y_ald layM C hK hs hi ex11 dX11_test_72 ?_
                obtain ⟨hi, σ12, eσ12, hE⟩ := wr_w hE
                refine y_ast layM C hK hs hi eσ12 dX11_test_73 (fun H locs hs => ?_)
                refine lv_iinc (v := v10 + 1) (lv' := [(5, .int (v10 + 1)), (0, .ref (g.2.1 0)), (1, .int p1), (4, .int r8)]) hx hb dX11_test_74 hl (k := 3) rfl rfl (by decide) rfl (fun ls hl => ?_)
                refine lv_goto (tgt := 52) hx hb dX11_test_77 (by decide) ?_
                exact ih _ _ _ hE hk _ _ _ hs (lv_sub hl [1, 2, 3, 0] rfl)
          refine hL52 _ _ _ _ hE (fun σ13 v14 H locs ls hs hl hE => ?_) H locs ls hs (lv_sub hl [3, 4, 1, 0] rfl)
          refine lv_iconst (v := 0) hx hb dX11_test_80 (by decide) ?_
          refine lv_istore (lv' := [(5, .int 0), (0, .ref (g.2.1 0)), (1, .int p1), (4, .int r8)]) hx hb dX11_test_81 hl (by decide) rfl (fun ls hl => ?_)
          refine lv_bipush (v := 9) hx hb dX11_test_83 (by decide) ?_
          refine lv_istore (lv' := [(6, .int 9), (5, .int 0), (0, .ref (g.2.1 0)), (1, .int p1), (4, .int r8)]) hx hb dX11_test_85 hl (by decide) rfl (fun ls hl => ?_)
          refine lv_iconst (v := 1) hx hb dX11_test_87 (by decide) ?_
          refine lv_istore (lv' := [(7, .int 1), (6, .int 9), (5, .int 0), (0, .ref (g.2.1 0)), (1, .int p1), (4, .int r8)]) hx hb dX11_test_88 hl (by decide) rfl (fun ls hl => ?_)
          have hL90 : ∀ (n : Nat) (σ15 : St) (v16 : Int32) (v17 : Int32) (v18 : Int32) (k : St → Int32 → Int32 → Int32 → Option (St × Int32)), fX11_test_L90 p1 r8 n σ15 v16 v17 v18 k = some (σ', r) → (∀ (σ15 : St) (v16 : Int32) (v17 : Int32) (v18 : Int32) (H : Heap) (locs : List Loc) (ls : Array Slot), HW 25 entM g A H0 H locs σ15 → lv_has ls 9 [(0, .ref (g.2.1 0)), (1, .int p1), (4, .int r8), (5, .int v16), (6, .int v17), (7, .int v18)] → k σ15 v16 v17 v18 = some (σ', r) → W p l e (rmD 5) s m args below meth c H locs 0 0 Q (F0 m 177 ls [])) → ∀ (H : Heap) (locs : List Loc) (ls : Array Slot), HW 25 entM g A H0 H locs σ15 → lv_has ls 9 [(0, .ref (g.2.1 0)), (1, .int p1), (4, .int r8), (5, .int v16), (6, .int v17), (7, .int v18)] → W p l e (rmD 5) s m args below meth c H locs 0 0 Q (F0 m 90 ls []) := by
            intro n
            induction n with
            | zero =>
              intro σ15 v16 v17 v18 k hE
              rw [fX11_test_L90] at hE
              exact no_e hE
            | succ n ih =>
              intro σ15 v16 v17 v18 k hE hk H locs ls hs hl
              rw [fX11_test_L90] at hE
              refine lv_iload hx hb dX11_test_90 (lv_at hl 5 rfl) ?_
              refine lv_bipush (v := 21) hx hb dX11_test_92 (by decide) ?_
              refine lv_icmp_ge (tgt := 177) hx hb dX11_test_94 (by decide) (fun hc => ?_) (fun hc => ?_)
              · have hE := if_t hc hE
                exact hk σ15 v16 v17 v18 _ _ _ hs (lv_sub hl [0, 1, 2, 3, 4, 5] rfl) hE
              · have hE := if_f hc hE
                refine lv_iconst (v := 0) hx hb dX11_test_97 (by decide) ?_
                refine lv_istore (lv' := [(8, .int 0), (0, .ref (g.2.1 0)), (1, .int p1), (4, .int r8), (5, .int v16), (6, .int v17), (7, .int v18)]) hx hb dX11_test_98 hl (by decide) rfl (fun ls hl => ?_)
                have hL100 : ∀ (n : Nat) (σ19 : St) (v20 : Int32) (k : St → Int32 → Option (St × Int32)), fX11_test_L100 p1 r8 v16 v17 v18 n σ19 v20 k = some (σ', r) → (∀ (σ19 : St) (v20 : Int32) (H : Heap) (locs : List Loc) (ls : Array Slot), HW 25 entM g A H0 H locs σ19 → lv_has ls 9 [(0, .ref (g.2.1 0)), (1, .int p1), (4, .int r8), (5, .int v16), (6, .int v17), (7, .int v18), (8, .int v20)] → k σ19 v20 = some (σ', r) → W p l e (rmD 5) s m args below meth c H locs 0 0 Q (F0 m 138 ls [])) → ∀ (H : Heap) (locs : List Loc) (ls : Array Slot), HW 25 entM g A H0 H locs σ19 → lv_has ls 9 [(0, .ref (g.2.1 0)), (1, .int p1), (4, .int r8), (5, .int v16), (6, .int v17), (7, .int v18), (8, .int v20)] → W p l e (rmD 5) s m args below meth c H locs 0 0 Q (F0 m 100 ls []) := by
                  intro n
                  induction n with
                  | zero =>
                    intro σ19 v20 k hE
                    rw [fX11_test_L100] at hE
                    exact no_e hE
                  | succ n ih =>
                    intro σ19 v20 k hE hk H locs ls hs hl
                    rw [fX11_test_L100] at hE
                    refine lv_iload hx hb dX11_test_100 (lv_at hl 6 rfl) ?_
                    refine lv_bipush (v := 6) hx hb dX11_test_102 (by decide) ?_
                    refine lv_icmp_ge (tgt := 138) hx hb dX11_test_104 (by decide) (fun hc => ?_) (fun hc => ?_)
                    · have hE := if_t hc hE
                      exact hk σ19 v20 _ _ _ hs (lv_sub hl [0, 1, 2, 3, 4, 5, 6] rfl) hE
                    · have hE := if_f hc hE
                      refine lv_aload_n hx hb dX11_test_107 rfl (lv_at hl 0 rfl) ?_
                      refine gf_X11_78_0 C hK hs dX11_test_108 ?_
                      refine lv_iload hx hb dX11_test_111 (lv_at hl 6 rfl) ?_
                      refine lv_iload hx hb dX11_test_113 (lv_at hl 6 rfl) ?_
                      refine lv_aload_n hx hb dX11_test_115 rfl (lv_at hl 0 rfl) ?_
                      refine gf_X11_78_0 C hK hs dX11_test_116 ?_
                      refine lv_iload hx hb dX11_test_119 (lv_at hl 6 rfl) ?_
                      obtain ⟨hi, x21, ex21, hE⟩ := rd_w hE
                      refine y_ald layM C hK hs hi ex21 dX11_test_121 ?_
                      refine lv_aload_n hx hb dX11_test_122 rfl (lv_at hl 0 rfl) ?_
                      refine gf_X11_25_0 C hK hs dX11_test_123 ?_
                      refine lv_iload_n hx hb dX11_test_126 rfl (lv_at hl 1 rfl) ?_
                      obtain ⟨hi, x22, ex22, hE⟩ := rd_w hE
                      refine y_ald layM C hK hs hi ex22 dX11_test_127 ?_
                      obtain ⟨σ23, r24, hE1, hE⟩ := cl_e hE
                      refine x_cis (As := [.int v20, .int x21, .int x22]) (rest := [.int v20, .ref (g.2.1 22)]) C hl.1 hK hs hA ⟨Nat.le_refl 0, Nat.le_refl 0⟩ (ctX11_nextPurse l g _ _ _ _ _ _ hE1) (cw_X11_216 C ⟨Nat.le_of_ble_eq_true rfl, Nat.le_of_ble_eq_true rfl⟩) rfl rfl (Nat.le_of_ble_eq_true rfl) dX11_test_128 (fun H locs hs => ?_)
                      obtain ⟨hi, σ25, eσ25, hE⟩ := wr_w hE
                      refine y_ast layM C hK hs hi eσ25 dX11_test_131 (fun H locs hs => ?_)
                      refine lv_iinc (v := v20 + 1) (lv' := [(8, .int (v20 + 1)), (0, .ref (g.2.1 0)), (1, .int p1), (4, .int r8), (5, .int v16), (6, .int v17), (7, .int v18)]) hx hb dX11_test_132 hl (k := 6) rfl rfl (by decide) rfl (fun ls hl => ?_)
                      refine lv_goto (tgt := 100) hx hb dX11_test_135 (by decide) ?_
                      exact ih _ _ _ hE hk _ _ _ hs (lv_sub hl [1, 2, 3, 4, 5, 6, 0] rfl)
                refine hL100 _ _ _ _ hE (fun σ26 v27 H locs ls hs hl hE => ?_) H locs ls hs (lv_sub hl [1, 2, 3, 4, 5, 6, 0] rfl)
                refine lv_aload_n hx hb dX11_test_138 rfl (lv_at hl 0 rfl) ?_
                refine lv_iload hx hb dX11_test_139 (lv_at hl 2 rfl) ?_
                obtain ⟨σ28, r29, hE1, hE⟩ := cl_e hE
                refine x_civ (As := [.int r8]) (rest := []) C hl.1 hK hs hA ⟨Nat.le_refl 0, Nat.le_refl 0⟩ (ctX11_greatest l g _ _ _ _ hE1) (cw_X11_279 C ⟨Nat.le_of_ble_eq_true rfl, Nat.le_of_ble_eq_true rfl⟩) (hs.recv hK 0 (by decide) rfl rfl) rfl rfl (Nat.le_of_ble_eq_true rfl) dX11_test_141 (fun H locs hs => ?_)
                refine lv_istore (lv' := [(8, .int r29), (0, .ref (g.2.1 0)), (1, .int p1), (4, .int r8), (5, .int v16), (6, .int v17), (7, .int v18)]) hx hb dX11_test_144 hl (by decide) rfl (fun ls hl => ?_)
                refine lv_iload hx hb dX11_test_146 (lv_at hl 0 rfl) ?_
                refine lv_iload hx hb dX11_test_148 (lv_at hl 5 rfl) ?_
                refine pvw hE (fun k30 hE hk30 => ?_)
                have hJk30 : ∀ (y31 : Int32) (H : Heap) (locs : List Loc) (ls : Array Slot), HW 25 entM g A H0 H locs σ28 → lv_has ls 9 [(0, .ref (g.2.1 0)), (1, .int p1), (4, .int r8), (6, .int v17), (7, .int v18), (8, .int r29)] → k30 y31 = some (σ', r) → W p l e (rmD 5) s m args below meth c H locs 0 0 Q (F0 m 160 ls [.int y31]) := by
                  intro y31 H locs ls hs hl hE
                  have hE := hk30 _ hE
                  refine lv_istore (lv' := [(5, .int y31), (0, .ref (g.2.1 0)), (1, .int p1), (4, .int r8), (6, .int v17), (7, .int v18), (8, .int r29)]) hx hb dX11_test_160 hl (by decide) rfl (fun ls hl => ?_)
                  refine lv_iload hx hb dX11_test_162 (lv_at hl 4 rfl) ?_
                  refine lv_iload hx hb dX11_test_164 (lv_at hl 6 rfl) ?_
                  obtain ⟨σ32, r33, hE1, hE⟩ := cl_e hE
                  refine x_cis (As := [.int v17, .int r29]) (rest := []) C hl.1 hK hs hA ⟨Nat.le_refl 0, Nat.le_refl 0⟩ (ctX11_less l g _ _ _ _ _ hE1) (cw_X11_177 C ⟨Nat.le_of_ble_eq_true rfl, Nat.le_of_ble_eq_true rfl⟩) rfl rfl (Nat.le_of_ble_eq_true rfl) dX11_test_166 (fun H locs hs => ?_)
                  refine lv_istore (lv' := [(6, .int r33), (5, .int y31), (0, .ref (g.2.1 0)), (1, .int p1), (4, .int r8), (7, .int v18), (8, .int r29)]) hx hb dX11_test_169 hl (by decide) rfl (fun ls hl => ?_)
                  refine lv_iinc (v := v18 + 1) (lv' := [(7, .int (v18 + 1)), (6, .int r33), (5, .int y31), (0, .ref (g.2.1 0)), (1, .int p1), (4, .int r8), (8, .int r29)]) hx hb dX11_test_171 hl (k := 5) rfl rfl (by decide) rfl (fun ls hl => ?_)
                  refine lv_goto (tgt := 90) hx hb dX11_test_174 (by decide) ?_
                  exact ih _ _ _ _ _ hE hk _ _ _ hs (lv_sub hl [3, 4, 5, 2, 1, 0] rfl)
                refine lv_icmp_ge (tgt := 158) hx hb dX11_test_150 (by decide) (fun hc => ?_) (fun hc => ?_)
                · have hE := pv_t hc hE
                  refine lv_iload hx hb dX11_test_158 (lv_at hl 4 rfl) ?_
                  exact hJk30 v16 _ _ _ hs (lv_sub hl [1, 2, 3, 5, 6, 0] rfl) hE
                · have hE := pv_f hc hE
                  refine lv_iload hx hb dX11_test_153 (lv_at hl 6 rfl) ?_
                  refine lv_goto (tgt := 160) hx hb dX11_test_155 (by decide) ?_
                  exact hJk30 v18 _ _ _ hs (lv_sub hl [1, 2, 3, 5, 6, 0] rfl) hE
          refine hL90 _ _ _ _ _ _ hE (fun σ34 v35 v36 v37 H locs ls hs hl hE => ?_) H locs ls hs (lv_sub hl [3, 4, 5, 2, 1, 0] rfl)
          refine lv_aload_n hx hb dX11_test_177 rfl (lv_at hl 0 rfl) ?_
          refine lv_iload hx hb dX11_test_178 (lv_at hl 3 rfl) ?_
          refine lv_iload hx hb dX11_test_180 (lv_at hl 4 rfl) ?_
          obtain ⟨σ38, r39, hE1, hE⟩ := cl_e hE
          refine x_civ (As := [.int v35, .int v36]) (rest := []) C hl.1 hK hs hA ⟨Nat.le_refl 0, Nat.le_refl 0⟩ (ctX11_answer l g _ _ _ _ _ hE1) (cw_X11_210 C ⟨Nat.le_of_ble_eq_true rfl, Nat.le_of_ble_eq_true rfl⟩) (hs.recv hK 0 (by decide) rfl rfl) rfl rfl (Nat.le_of_ble_eq_true rfl) dX11_test_182 (fun H locs hs => ?_)
          exact hQ hs hE dX11_test_185
        · have hE := if_t hc hE
          refine lv_bipush (v := (-9)) hx hb dX11_test_46 (by decide) ?_
          exact hQ hs hE dX11_test_48
      · have hE := if_f hc hE
        refine lv_iload_n hx hb dX11_test_31 rfl (lv_at hl 0 rfl) ?_
        exact hQ hs hE dX11_test_32
    · have hE := if_t hc hE
      refine lv_iconst (v := (-1)) hx hb dX11_test_15 (by decide) ?_
      exact hQ hs hE dX11_test_16
theorem dX11_allGet_0 : decode cX11_allGet 0 = .ok (.iconst 0, 1) := by decide +kernel
theorem dX11_allGet_1 : decode cX11_allGet 1 = .ok (.istore_n 2, 1) := by decide +kernel
theorem dX11_allGet_2 : decode cX11_allGet 2 = .ok (.iconst 0, 1) := by decide +kernel
theorem dX11_allGet_3 : decode cX11_allGet 3 = .ok (.istore_n 3, 1) := by decide +kernel
theorem dX11_allGet_4 : decode cX11_allGet 4 = .ok (.iload_n 3, 1) := by decide +kernel
theorem dX11_allGet_5 : decode cX11_allGet 5 = .ok (.aload_n 0, 1) := by decide +kernel
theorem dX11_allGet_6 : decode cX11_allGet 6 = .ok (.getfield 160, 3) := by decide +kernel
theorem dX11_allGet_9 : decode cX11_allGet 9 = .ok (.if_icmp .ge 24, 3) := by decide +kernel
theorem dX11_allGet_12 : decode cX11_allGet 12 = .ok (.iload_n 2, 1) := by decide +kernel
theorem dX11_allGet_13 : decode cX11_allGet 13 = .ok (.aload_n 0, 1) := by decide +kernel
theorem dX11_allGet_14 : decode cX11_allGet 14 = .ok (.iload_n 3, 1) := by decide +kernel
theorem dX11_allGet_15 : decode cX11_allGet 15 = .ok (.aload_n 1, 1) := by decide +kernel
theorem dX11_allGet_16 : decode cX11_allGet 16 = .ok (.iload_n 3, 1) := by decide +kernel
theorem dX11_allGet_17 : decode cX11_allGet 17 = .ok (.iaload, 1) := by decide +kernel
theorem dX11_allGet_18 : decode cX11_allGet 18 = .ok (.iconst 1, 1) := by decide +kernel
theorem dX11_allGet_19 : decode cX11_allGet 19 = .ok (.invokevirtual 264, 3) := by decide +kernel
theorem dX11_allGet_22 : decode cX11_allGet 22 = .ok (.invokestatic 267, 3) := by decide +kernel
theorem dX11_allGet_25 : decode cX11_allGet 25 = .ok (.iadd, 1) := by decide +kernel
theorem dX11_allGet_26 : decode cX11_allGet 26 = .ok (.istore_n 2, 1) := by decide +kernel
theorem dX11_allGet_27 : decode cX11_allGet 27 = .ok (.iinc 3 1, 3) := by decide +kernel
theorem dX11_allGet_30 : decode cX11_allGet 30 = .ok (.goto (-26), 3) := by decide +kernel
theorem dX11_allGet_33 : decode cX11_allGet 33 = .ok (.iload_n 2, 1) := by decide +kernel
theorem dX11_allGet_34 : decode cX11_allGet 34 = .ok (.ireturn, 1) := by decide +kernel
def fX11_allGet_L4 (p1 : Nat) : Nat → St → Int32 → Int32 → (St → Int32 → Int32 → Option (St × Int32)) → Option (St × Int32)
  | 0, _, _, _, _ => none
  | n + 1, σ1, v2, v3, k => (if (σ1.1 0 4) ≤ v3 then k σ1 v2 v3 else rd LM σ1 p1 v3 (fun x4 => cl (fX11_shops σ1 v3 x4 1) (fun σ5 r6 => cl (fX11_bits σ5 r6) (fun σ7 r8 => fX11_allGet_L4 p1 n σ7 (v2 + r8) (v3 + 1) k))))
def fX11_allGet (σ : St) (p1 : Nat) : Option (St × Int32) := fX11_allGet_L4 p1 10000 σ 0 0 (fun σ9 v10 v11 => some (σ9, v10))
set_option maxHeartbeats 4000000 in
set_option maxRecDepth 100000 in
theorem ctX11_allGet (l : Launch) (g : GG) (σ : St) (p1 : Nat) (σ' : St) (r : Int32) (hE : fX11_allGet σ p1 = some (σ', r)) : MI 25 entM l g yX11_allGet (Cond.code yX11_allGet cX11_allGet 4 (some .int) :: gtbl) (rmD 6) [.ref (g.2.1 0), .ref (g.2.1 p1)] σ σ' r := by
  refine mi_i (own := RX11) (lv := [(0, .ref (g.2.1 0)), (1, .ref (g.2.1 p1))]) (by decide) rfl (Nat.le_of_ble_eq_true rfl) rfl (fun p e s m below meth c ls args Q A H0 H locs C hK hA hQ hs hl => ?_)
  have hx := C.1
  have hb := C.2.1
  unfold fX11_allGet at hE
  refine lv_iconst (v := 0) hx hb dX11_allGet_0 (by decide) ?_
  refine lv_istore_n (lv' := [(2, .int 0), (0, .ref (g.2.1 0)), (1, .ref (g.2.1 p1))]) hx hb dX11_allGet_1 rfl hl (by decide) rfl (fun ls hl => ?_)
  refine lv_iconst (v := 0) hx hb dX11_allGet_2 (by decide) ?_
  refine lv_istore_n (lv' := [(3, .int 0), (2, .int 0), (0, .ref (g.2.1 0)), (1, .ref (g.2.1 p1))]) hx hb dX11_allGet_3 rfl hl (by decide) rfl (fun ls hl => ?_)
  have hL4 : ∀ (n : Nat) (σ1 : St) (v2 : Int32) (v3 : Int32) (k : St → Int32 → Int32 → Option (St × Int32)), fX11_allGet_L4 p1 n σ1 v2 v3 k = some (σ', r) → (∀ (σ1 : St) (v2 : Int32) (v3 : Int32) (H : Heap) (locs : List Loc) (ls : Array Slot), HW 25 entM g A H0 H locs σ1 → lv_has ls 4 [(0, .ref (g.2.1 0)), (1, .ref (g.2.1 p1)), (2, .int v2), (3, .int v3)] → k σ1 v2 v3 = some (σ', r) → W p l e (rmD 6) s m args below meth c H locs 0 0 Q (F0 m 33 ls [])) → ∀ (H : Heap) (locs : List Loc) (ls : Array Slot), HW 25 entM g A H0 H locs σ1 → lv_has ls 4 [(0, .ref (g.2.1 0)), (1, .ref (g.2.1 p1)), (2, .int v2), (3, .int v3)] → W p l e (rmD 6) s m args below meth c H locs 0 0 Q (F0 m 4 ls []) := by
    intro n
    induction n with
    | zero =>
      intro σ1 v2 v3 k hE
      rw [fX11_allGet_L4] at hE
      exact no_e hE
    | succ n ih =>
      intro σ1 v2 v3 k hE hk H locs ls hs hl
      rw [fX11_allGet_L4] at hE
      refine lv_iload_n hx hb dX11_allGet_4 rfl (lv_at hl 3 rfl) ?_
      refine lv_aload_n hx hb dX11_allGet_5 rfl (lv_at hl 0 rfl) ?_
      refine gf_X11_160_0 C hK hs dX11_allGet_6 ?_
      refine lv_icmp_ge (tgt := 33) hx hb dX11_allGet_9 (by decide) (fun hc => ?_) (fun hc => ?_)
      · have hE := if_t hc hE
        exact hk σ1 v2 v3 _ _ _ hs (lv_sub hl [0, 1, 2, 3] rfl) hE
      · have hE := if_f hc hE
        refine lv_iload_n hx hb dX11_allGet_12 rfl (lv_at hl 2 rfl) ?_
        refine lv_aload_n hx hb dX11_allGet_13 rfl (lv_at hl 0 rfl) ?_
        refine lv_iload_n hx hb dX11_allGet_14 rfl (lv_at hl 3 rfl) ?_
        refine lv_aload_n hx hb dX11_allGet_15 rfl (lv_at hl 1 rfl) ?_
        refine lv_iload_n hx hb dX11_allGet_16 rfl (lv_at hl 3 rfl) ?_
        obtain ⟨hi, x4, ex4, hE⟩ := rd_w hE
        refine y_ald layM C hK hs hi ex4 dX11_allGet_17 ?_
        refine lv_iconst (v := 1) hx hb dX11_allGet_18 (by decide) ?_
        obtain ⟨σ5, r6, hE1, hE⟩ := cl_e hE
        refine x_civ (As := [.int v3, .int x4, .int 1]) (rest := [.int v2]) C hl.1 hK hs hA ⟨Nat.le_refl 0, Nat.le_refl 0⟩ (ctX11_shops l g _ _ _ _ _ _ hE1) (cw_X11_264 C ⟨Nat.le_of_ble_eq_true rfl, Nat.le_of_ble_eq_true rfl⟩) (hs.recv hK 0 (by decide) rfl rfl) rfl rfl (Nat.le_of_ble_eq_true rfl) dX11_allGet_19 (fun H locs hs => ?_)
        obtain ⟨σ7, r8, hE1, hE⟩ := cl_e hE
        refine x_cis (As := [.int r6]) (rest := [.int v2]) C hl.1 hK hs hA ⟨Nat.le_refl 0, Nat.le_refl 0⟩ (ctX11_bits l g _ _ _ _ hE1) (cw_X11_267 C ⟨Nat.le_of_ble_eq_true rfl, Nat.le_of_ble_eq_true rfl⟩) rfl rfl (Nat.le_of_ble_eq_true rfl) dX11_allGet_22 (fun H locs hs => ?_)
        refine lv_iadd hx hb dX11_allGet_25 ?_
        refine lv_istore_n (lv' := [(2, .int (v2 + r8)), (0, .ref (g.2.1 0)), (1, .ref (g.2.1 p1)), (3, .int v3)]) hx hb dX11_allGet_26 rfl hl (by decide) rfl (fun ls hl => ?_)
        refine lv_iinc (v := v3 + 1) (lv' := [(3, .int (v3 + 1)), (2, .int (v2 + r8)), (0, .ref (g.2.1 0)), (1, .ref (g.2.1 p1))]) hx hb dX11_allGet_27 hl (k := 3) rfl rfl (by decide) rfl (fun ls hl => ?_)
        refine lv_goto (tgt := 4) hx hb dX11_allGet_30 (by decide) ?_
        exact ih _ _ _ _ hE hk _ _ _ hs (lv_sub hl [2, 3, 1, 0] rfl)
  refine hL4 _ _ _ _ _ hE (fun σ9 v10 v11 H locs ls hs hl hE => ?_) H locs ls hs (lv_sub hl [2, 3, 1, 0] rfl)
  refine lv_iload_n hx hb dX11_allGet_33 rfl (lv_at hl 2 rfl) ?_
  exact hQ hs hE dX11_allGet_34
theorem dX11_comesBy_0 : decode cX11_comesBy 0 = .ok (.aload_n 0, 1) := by decide +kernel
theorem dX11_comesBy_1 : decode cX11_comesBy 1 = .ok (.getfield 37, 3) := by decide +kernel
theorem dX11_comesBy_4 : decode cX11_comesBy 4 = .ok (.iconst 1, 1) := by decide +kernel
theorem dX11_comesBy_5 : decode cX11_comesBy 5 = .ok (.aload_n 0, 1) := by decide +kernel
theorem dX11_comesBy_6 : decode cX11_comesBy 6 = .ok (.getfield 81, 3) := by decide +kernel
theorem dX11_comesBy_9 : decode cX11_comesBy 9 = .ok (.iconst 0, 1) := by decide +kernel
theorem dX11_comesBy_10 : decode cX11_comesBy 10 = .ok (.bipush 6, 2) := by decide +kernel
theorem dX11_comesBy_12 : decode cX11_comesBy 12 = .ok (.invokestatic 170, 3) := by decide +kernel
theorem dX11_comesBy_15 : decode cX11_comesBy 15 = .ok (.iconst 1, 1) := by decide +kernel
theorem dX11_comesBy_16 : decode cX11_comesBy 16 = .ok (.istore 4, 2) := by decide +kernel
theorem dX11_comesBy_18 : decode cX11_comesBy 18 = .ok (.iconst 1, 1) := by decide +kernel
theorem dX11_comesBy_19 : decode cX11_comesBy 19 = .ok (.istore 5, 2) := by decide +kernel
theorem dX11_comesBy_21 : decode cX11_comesBy 21 = .ok (.iload 5, 2) := by decide +kernel
theorem dX11_comesBy_23 : decode cX11_comesBy 23 = .ok (.iload_n 2, 1) := by decide +kernel
theorem dX11_comesBy_24 : decode cX11_comesBy 24 = .ok (.if_icmp .ge 15, 3) := by decide +kernel
theorem dX11_comesBy_27 : decode cX11_comesBy 27 = .ok (.iload 4, 2) := by decide +kernel
theorem dX11_comesBy_29 : decode cX11_comesBy 29 = .ok (.iload_n 3, 1) := by decide +kernel
theorem dX11_comesBy_30 : decode cX11_comesBy 30 = .ok (.imul, 1) := by decide +kernel
theorem dX11_comesBy_31 : decode cX11_comesBy 31 = .ok (.istore 4, 2) := by decide +kernel
theorem dX11_comesBy_33 : decode cX11_comesBy 33 = .ok (.iinc 5 1, 3) := by decide +kernel
theorem dX11_comesBy_36 : decode cX11_comesBy 36 = .ok (.goto (-15), 3) := by decide +kernel
theorem dX11_comesBy_39 : decode cX11_comesBy 39 = .ok (.iconst 0, 1) := by decide +kernel
theorem dX11_comesBy_40 : decode cX11_comesBy 40 = .ok (.istore 5, 2) := by decide +kernel
theorem dX11_comesBy_42 : decode cX11_comesBy 42 = .ok (.iload 5, 2) := by decide +kernel
theorem dX11_comesBy_44 : decode cX11_comesBy 44 = .ok (.iload_n 2, 1) := by decide +kernel
theorem dX11_comesBy_45 : decode cX11_comesBy 45 = .ok (.if_icmp .ge 98, 3) := by decide +kernel
theorem dX11_comesBy_48 : decode cX11_comesBy 48 = .ok (.iload_n 1, 1) := by decide +kernel
theorem dX11_comesBy_49 : decode cX11_comesBy 49 = .ok (.iload 4, 2) := by decide +kernel
theorem dX11_comesBy_51 : decode cX11_comesBy 51 = .ok (.idiv, 1) := by decide +kernel
theorem dX11_comesBy_52 : decode cX11_comesBy 52 = .ok (.iload_n 3, 1) := by decide +kernel
theorem dX11_comesBy_53 : decode cX11_comesBy 53 = .ok (.irem, 1) := by decide +kernel
theorem dX11_comesBy_54 : decode cX11_comesBy 54 = .ok (.istore 6, 2) := by decide +kernel
theorem dX11_comesBy_56 : decode cX11_comesBy 56 = .ok (.iload 5, 2) := by decide +kernel
theorem dX11_comesBy_58 : decode cX11_comesBy 58 = .ok (.iload_n 2, 1) := by decide +kernel
theorem dX11_comesBy_59 : decode cX11_comesBy 59 = .ok (.iconst 1, 1) := by decide +kernel
theorem dX11_comesBy_60 : decode cX11_comesBy 60 = .ok (.isub, 1) := by decide +kernel
theorem dX11_comesBy_61 : decode cX11_comesBy 61 = .ok (.if_icmp .ge 10, 3) := by decide +kernel
theorem dX11_comesBy_64 : decode cX11_comesBy 64 = .ok (.iload 4, 2) := by decide +kernel
theorem dX11_comesBy_66 : decode cX11_comesBy 66 = .ok (.iload_n 3, 1) := by decide +kernel
theorem dX11_comesBy_67 : decode cX11_comesBy 67 = .ok (.idiv, 1) := by decide +kernel
theorem dX11_comesBy_68 : decode cX11_comesBy 68 = .ok (.goto 4, 3) := by decide +kernel
theorem dX11_comesBy_71 : decode cX11_comesBy 71 = .ok (.iconst 1, 1) := by decide +kernel
theorem dX11_comesBy_72 : decode cX11_comesBy 72 = .ok (.istore 4, 2) := by decide +kernel
theorem dX11_comesBy_74 : decode cX11_comesBy 74 = .ok (.iload 6, 2) := by decide +kernel
theorem dX11_comesBy_76 : decode cX11_comesBy 76 = .ok (.aload_n 0, 1) := by decide +kernel
theorem dX11_comesBy_77 : decode cX11_comesBy 77 = .ok (.getfield 160, 3) := by decide +kernel
theorem dX11_comesBy_80 : decode cX11_comesBy 80 = .ok (.if_icmp .ge 57, 3) := by decide +kernel
theorem dX11_comesBy_83 : decode cX11_comesBy 83 = .ok (.aload_n 0, 1) := by decide +kernel
theorem dX11_comesBy_84 : decode cX11_comesBy 84 = .ok (.getfield 81, 3) := by decide +kernel
theorem dX11_comesBy_87 : decode cX11_comesBy 87 = .ok (.iload 6, 2) := by decide +kernel
theorem dX11_comesBy_89 : decode cX11_comesBy 89 = .ok (.iload 5, 2) := by decide +kernel
theorem dX11_comesBy_91 : decode cX11_comesBy 91 = .ok (.iconst 2, 1) := by decide +kernel
theorem dX11_comesBy_92 : decode cX11_comesBy 92 = .ok (.irem, 1) := by decide +kernel
theorem dX11_comesBy_93 : decode cX11_comesBy 93 = .ok (.ifCond .ne 20, 3) := by decide +kernel
theorem dX11_comesBy_96 : decode cX11_comesBy 96 = .ok (.bipush 99, 2) := by decide +kernel
theorem dX11_comesBy_98 : decode cX11_comesBy 98 = .ok (.aload_n 0, 1) := by decide +kernel
theorem dX11_comesBy_99 : decode cX11_comesBy 99 = .ok (.getfield 81, 3) := by decide +kernel
theorem dX11_comesBy_102 : decode cX11_comesBy 102 = .ok (.iload 6, 2) := by decide +kernel
theorem dX11_comesBy_104 : decode cX11_comesBy 104 = .ok (.iaload, 1) := by decide +kernel
theorem dX11_comesBy_105 : decode cX11_comesBy 105 = .ok (.iconst 1, 1) := by decide +kernel
theorem dX11_comesBy_106 : decode cX11_comesBy 106 = .ok (.iadd, 1) := by decide +kernel
theorem dX11_comesBy_107 : decode cX11_comesBy 107 = .ok (.invokestatic 177, 3) := by decide +kernel
theorem dX11_comesBy_110 : decode cX11_comesBy 110 = .ok (.goto 26, 3) := by decide +kernel
theorem dX11_comesBy_113 : decode cX11_comesBy 113 = .ok (.aload_n 0, 1) := by decide +kernel
theorem dX11_comesBy_114 : decode cX11_comesBy 114 = .ok (.getfield 81, 3) := by decide +kernel
theorem dX11_comesBy_117 : decode cX11_comesBy 117 = .ok (.iload 6, 2) := by decide +kernel
theorem dX11_comesBy_119 : decode cX11_comesBy 119 = .ok (.iaload, 1) := by decide +kernel
theorem dX11_comesBy_120 : decode cX11_comesBy 120 = .ok (.ifCond .le 15, 3) := by decide +kernel
theorem dX11_comesBy_123 : decode cX11_comesBy 123 = .ok (.aload_n 0, 1) := by decide +kernel
theorem dX11_comesBy_124 : decode cX11_comesBy 124 = .ok (.getfield 81, 3) := by decide +kernel
theorem dX11_comesBy_127 : decode cX11_comesBy 127 = .ok (.iload 6, 2) := by decide +kernel
theorem dX11_comesBy_129 : decode cX11_comesBy 129 = .ok (.iaload, 1) := by decide +kernel
theorem dX11_comesBy_130 : decode cX11_comesBy 130 = .ok (.iconst 1, 1) := by decide +kernel
theorem dX11_comesBy_131 : decode cX11_comesBy 131 = .ok (.isub, 1) := by decide +kernel
theorem dX11_comesBy_132 : decode cX11_comesBy 132 = .ok (.goto 4, 3) := by decide +kernel
theorem dX11_comesBy_135 : decode cX11_comesBy 135 = .ok (.iconst 0, 1) := by decide +kernel
theorem dX11_comesBy_136 : decode cX11_comesBy 136 = .ok (.iastore, 1) := by decide +kernel
theorem dX11_comesBy_137 : decode cX11_comesBy 137 = .ok (.iinc 5 1, 3) := by decide +kernel
theorem dX11_comesBy_140 : decode cX11_comesBy 140 = .ok (.goto (-98), 3) := by decide +kernel
theorem dX11_comesBy_143 : decode cX11_comesBy 143 = .ok (.aload_n 0, 1) := by decide +kernel
theorem dX11_comesBy_144 : decode cX11_comesBy 144 = .ok (.aload_n 0, 1) := by decide +kernel
theorem dX11_comesBy_145 : decode cX11_comesBy 145 = .ok (.getfield 81, 3) := by decide +kernel
theorem dX11_comesBy_148 : decode cX11_comesBy 148 = .ok (.invokevirtual 282, 3) := by decide +kernel
theorem dX11_comesBy_151 : decode cX11_comesBy 151 = .ok (.ireturn, 1) := by decide +kernel
def fX11_comesBy_L21 (p1 : Int32) (p2 : Int32) (p3 : Int32) : Nat → St → Int32 → Int32 → (St → Int32 → Int32 → Option (St × Int32)) → Option (St × Int32)
  | 0, _, _, _, _ => none
  | n + 1, σ3, v4, v5, k => (if p2 ≤ v5 then k σ3 v4 v5 else fX11_comesBy_L21 p1 p2 p3 n σ3 (v4 * p3) (v5 + 1) k)
def fX11_comesBy_L42 (p1 : Int32) (p2 : Int32) (p3 : Int32) : Nat → St → Int32 → Int32 → (St → Int32 → Int32 → Option (St × Int32)) → Option (St × Int32)
  | 0, _, _, _, _ => none
  | n + 1, σ9, v10, v11, k => (if p2 ≤ v11 then k σ9 v10 v11 else gd (decide (¬ v10 = 0)) (gd (decide (¬ p3 = 0)) (jn (fun (y13 : Int32) => jn (fun (σ15 : St) => fX11_comesBy_L42 p1 p2 p3 n σ15 y13 (v11 + 1) k) (fun k14 => (if (σ9.1 0 4) ≤ ((p1 / v10) - (p1 / v10) / p3 * p3) then k14 σ9 else jn (fun (σ17 : St) (y18 : Int32) => wr LM σ17 23 ((p1 / v10) - (p1 / v10) / p3 * p3) y18 (fun σ19 => k14 σ19)) (fun k16 => (if (v11 - v11 / 2 * 2) = 0 then rd LM σ9 23 ((p1 / v10) - (p1 / v10) / p3 * p3) (fun x22 => cl (fX11_less σ9 99 (x22 + 1)) (fun σ23 r24 => k16 σ23 r24)) else rd LM σ9 23 ((p1 / v10) - (p1 / v10) / p3 * p3) (fun x20 => (if x20 ≤ 0 then k16 σ9 0 else rd LM σ9 23 ((p1 / v10) - (p1 / v10) / p3 * p3) (fun x21 => k16 σ9 (x21 - 1))))))))) (fun k12 => (if (p2 - 1) ≤ v11 then k12 1 else gd (decide (¬ p3 = 0)) (k12 (v10 / p3)))))))
def fX11_comesBy (σ : St) (p1 : Int32) (p2 : Int32) (p3 : Int32) : Option (St × Int32) := cl (fX11_copies σ 10 1 23 0 6) (fun σ1 r2 => fX11_comesBy_L21 p1 p2 p3 10000 σ1 1 1 (fun σ6 v7 v8 => fX11_comesBy_L42 p1 p2 p3 10000 σ6 v7 0 (fun σ25 v26 v27 => cl (fX11_allGet σ25 23) (fun σ28 r29 => some (σ28, r29)))))
set_option maxHeartbeats 4000000 in
set_option maxRecDepth 100000 in
theorem ctX11_comesBy (l : Launch) (g : GG) (σ : St) (p1 : Int32) (p2 : Int32) (p3 : Int32) (σ' : St) (r : Int32) (hE : fX11_comesBy σ p1 p2 p3 = some (σ', r)) : MI 25 entM l g yX11_comesBy (Cond.code yX11_comesBy cX11_comesBy 7 (some .int) :: gtbl) (rmD 7) [.ref (g.2.1 0), .int p1, .int p2, .int p3] σ σ' r := by
  refine mi_i (own := RX11) (lv := [(0, .ref (g.2.1 0)), (1, .int p1), (2, .int p2), (3, .int p3)]) (by decide) rfl (Nat.le_of_ble_eq_true rfl) rfl (fun p e s m below meth c ls args Q A H0 H locs C hK hA hQ hs hl => ?_)
  have hx := C.1
  have hb := C.2.1
  unfold fX11_comesBy at hE
  refine lv_aload_n hx hb dX11_comesBy_0 rfl (lv_at hl 0 rfl) ?_
  refine gf_X11_37_0 C hK hs dX11_comesBy_1 ?_
  refine lv_iconst (v := 1) hx hb dX11_comesBy_4 (by decide) ?_
  refine lv_aload_n hx hb dX11_comesBy_5 rfl (lv_at hl 0 rfl) ?_
  refine gf_X11_81_0 C hK hs dX11_comesBy_6 ?_
  refine lv_iconst (v := 0) hx hb dX11_comesBy_9 (by decide) ?_
  refine lv_bipush (v := 6) hx hb dX11_comesBy_10 (by decide) ?_
  obtain ⟨σ1, r2, hE1, hE⟩ := cl_e hE
  refine x_cvs (As := [.ref (g.2.1 10), .int 1, .ref (g.2.1 23), .int 0, .int 6]) (rest := []) C hl.1 hK hs hA ⟨Nat.le_refl 0, Nat.le_refl 0⟩ (ctX11_copies l g _ _ _ _ _ _ _ _ hE1) (cw_X11_170 C ⟨Nat.le_of_ble_eq_true rfl, Nat.le_of_ble_eq_true rfl⟩) rfl rfl (Nat.le_of_ble_eq_true rfl) dX11_comesBy_12 (fun H locs hs => ?_)
  refine lv_iconst (v := 1) hx hb dX11_comesBy_15 (by decide) ?_
  refine lv_istore (lv' := [(4, .int 1), (0, .ref (g.2.1 0)), (1, .int p1), (2, .int p2), (3, .int p3)]) hx hb dX11_comesBy_16 hl (by decide) rfl (fun ls hl => ?_)
  refine lv_iconst (v := 1) hx hb dX11_comesBy_18 (by decide) ?_
  refine lv_istore (lv' := [(5, .int 1), (4, .int 1), (0, .ref (g.2.1 0)), (1, .int p1), (2, .int p2), (3, .int p3)]) hx hb dX11_comesBy_19 hl (by decide) rfl (fun ls hl => ?_)
  have hL21 : ∀ (n : Nat) (σ3 : St) (v4 : Int32) (v5 : Int32) (k : St → Int32 → Int32 → Option (St × Int32)), fX11_comesBy_L21 p1 p2 p3 n σ3 v4 v5 k = some (σ', r) → (∀ (σ3 : St) (v4 : Int32) (v5 : Int32) (H : Heap) (locs : List Loc) (ls : Array Slot), HW 25 entM g A H0 H locs σ3 → lv_has ls 7 [(0, .ref (g.2.1 0)), (1, .int p1), (2, .int p2), (3, .int p3), (4, .int v4), (5, .int v5)] → k σ3 v4 v5 = some (σ', r) → W p l e (rmD 7) s m args below meth c H locs 0 0 Q (F0 m 39 ls [])) → ∀ (H : Heap) (locs : List Loc) (ls : Array Slot), HW 25 entM g A H0 H locs σ3 → lv_has ls 7 [(0, .ref (g.2.1 0)), (1, .int p1), (2, .int p2), (3, .int p3), (4, .int v4), (5, .int v5)] → W p l e (rmD 7) s m args below meth c H locs 0 0 Q (F0 m 21 ls []) := by
    intro n
    induction n with
    | zero =>
      intro σ3 v4 v5 k hE
      rw [fX11_comesBy_L21] at hE
      exact no_e hE
    | succ n ih =>
      intro σ3 v4 v5 k hE hk H locs ls hs hl
      rw [fX11_comesBy_L21] at hE
      refine lv_iload hx hb dX11_comesBy_21 (lv_at hl 5 rfl) ?_
      refine lv_iload_n hx hb dX11_comesBy_23 rfl (lv_at hl 2 rfl) ?_
      refine lv_icmp_ge (tgt := 39) hx hb dX11_comesBy_24 (by decide) (fun hc => ?_) (fun hc => ?_)
      · have hE := if_t hc hE
        exact hk σ3 v4 v5 _ _ _ hs (lv_sub hl [0, 1, 2, 3, 4, 5] rfl) hE
      · have hE := if_f hc hE
        refine lv_iload hx hb dX11_comesBy_27 (lv_at hl 4 rfl) ?_
        refine lv_iload_n hx hb dX11_comesBy_29 rfl (lv_at hl 3 rfl) ?_
        refine lv_imul hx hb dX11_comesBy_30 ?_
        refine lv_istore (lv' := [(4, .int (v4 * p3)), (0, .ref (g.2.1 0)), (1, .int p1), (2, .int p2), (3, .int p3), (5, .int v5)]) hx hb dX11_comesBy_31 hl (by decide) rfl (fun ls hl => ?_)
        refine lv_iinc (v := v5 + 1) (lv' := [(5, .int (v5 + 1)), (4, .int (v4 * p3)), (0, .ref (g.2.1 0)), (1, .int p1), (2, .int p2), (3, .int p3)]) hx hb dX11_comesBy_33 hl (k := 5) rfl rfl (by decide) rfl (fun ls hl => ?_)
        refine lv_goto (tgt := 21) hx hb dX11_comesBy_36 (by decide) ?_
        exact ih _ _ _ _ hE hk _ _ _ hs (lv_sub hl [2, 3, 4, 5, 1, 0] rfl)
  refine hL21 _ _ _ _ _ hE (fun σ6 v7 v8 H locs ls hs hl hE => ?_) H locs ls hs (lv_sub hl [2, 3, 4, 5, 1, 0] rfl)
  refine lv_iconst (v := 0) hx hb dX11_comesBy_39 (by decide) ?_
  refine lv_istore (lv' := [(5, .int 0), (0, .ref (g.2.1 0)), (1, .int p1), (2, .int p2), (3, .int p3), (4, .int v7)]) hx hb dX11_comesBy_40 hl (by decide) rfl (fun ls hl => ?_)
  have hL42 : ∀ (n : Nat) (σ9 : St) (v10 : Int32) (v11 : Int32) (k : St → Int32 → Int32 → Option (St × Int32)), fX11_comesBy_L42 p1 p2 p3 n σ9 v10 v11 k = some (σ', r) → (∀ (σ9 : St) (v10 : Int32) (v11 : Int32) (H : Heap) (locs : List Loc) (ls : Array Slot), HW 25 entM g A H0 H locs σ9 → lv_has ls 7 [(0, .ref (g.2.1 0)), (1, .int p1), (2, .int p2), (3, .int p3), (4, .int v10), (5, .int v11)] → k σ9 v10 v11 = some (σ', r) → W p l e (rmD 7) s m args below meth c H locs 0 0 Q (F0 m 143 ls [])) → ∀ (H : Heap) (locs : List Loc) (ls : Array Slot), HW 25 entM g A H0 H locs σ9 → lv_has ls 7 [(0, .ref (g.2.1 0)), (1, .int p1), (2, .int p2), (3, .int p3), (4, .int v10), (5, .int v11)] → W p l e (rmD 7) s m args below meth c H locs 0 0 Q (F0 m 42 ls []) := by
    intro n
    induction n with
    | zero =>
      intro σ9 v10 v11 k hE
      rw [fX11_comesBy_L42] at hE
      exact no_e hE
    | succ n ih =>
      intro σ9 v10 v11 k hE hk H locs ls hs hl
      rw [fX11_comesBy_L42] at hE
      refine lv_iload hx hb dX11_comesBy_42 (lv_at hl 5 rfl) ?_
      refine lv_iload_n hx hb dX11_comesBy_44 rfl (lv_at hl 2 rfl) ?_
      refine lv_icmp_ge (tgt := 143) hx hb dX11_comesBy_45 (by decide) (fun hc => ?_) (fun hc => ?_)
      · have hE := if_t hc hE
        exact hk σ9 v10 v11 _ _ _ hs (lv_sub hl [0, 1, 2, 3, 4, 5] rfl) hE
      · have hE := if_f hc hE
        refine lv_iload_n hx hb dX11_comesBy_48 rfl (lv_at hl 1 rfl) ?_
        refine lv_iload hx hb dX11_comesBy_49 (lv_at hl 4 rfl) ?_
        obtain ⟨hc, hE⟩ := gd_e hE
        refine lv_idiv hx hb dX11_comesBy_51 (of_decide_eq_true hc) ?_
        refine lv_iload_n hx hb dX11_comesBy_52 rfl (lv_at hl 3 rfl) ?_
        obtain ⟨hc, hE⟩ := gd_e hE
        refine lv_irem hx hb dX11_comesBy_53 (of_decide_eq_true hc) ?_
        refine lv_istore (lv' := [(6, .int ((p1 / v10) - (p1 / v10) / p3 * p3)), (0, .ref (g.2.1 0)), (1, .int p1), (2, .int p2), (3, .int p3), (4, .int v10), (5, .int v11)]) hx hb dX11_comesBy_54 hl (by decide) rfl (fun ls hl => ?_)
        refine lv_iload hx hb dX11_comesBy_56 (lv_at hl 6 rfl) ?_
        refine lv_iload_n hx hb dX11_comesBy_58 rfl (lv_at hl 3 rfl) ?_
        refine lv_iconst (v := 1) hx hb dX11_comesBy_59 (by decide) ?_
        refine lv_isub hx hb dX11_comesBy_60 ?_
        refine jn1 hE (fun k12 hE hk12 => ?_)
        have hJk12 : ∀ (y13 : Int32) (H : Heap) (locs : List Loc) (ls : Array Slot), HW 25 entM g A H0 H locs σ9 → lv_has ls 7 [(0, .ref (g.2.1 0)), (1, .int p1), (2, .int p2), (3, .int p3), (5, .int v11), (6, .int ((p1 / v10) - (p1 / v10) / p3 * p3))] → k12 y13 = some (σ', r) → W p l e (rmD 7) s m args below meth c H locs 0 0 Q (F0 m 72 ls [.int y13]) := by
          intro y13 H locs ls hs hl hE
          have hE := hk12 _ hE
          refine lv_istore (lv' := [(4, .int y13), (0, .ref (g.2.1 0)), (1, .int p1), (2, .int p2), (3, .int p3), (5, .int v11), (6, .int ((p1 / v10) - (p1 / v10) / p3 * p3))]) hx hb dX11_comesBy_72 hl (by decide) rfl (fun ls hl => ?_)
          refine lv_iload hx hb dX11_comesBy_74 (lv_at hl 6 rfl) ?_
          refine lv_aload_n hx hb dX11_comesBy_76 rfl (lv_at hl 1 rfl) ?_
          refine gf_X11_160_0 C hK hs dX11_comesBy_77 ?_
          refine jn1 hE (fun k14 hE hk14 => ?_)
          have hJk14 : ∀ (σ15 : St) (H : Heap) (locs : List Loc) (ls : Array Slot), HW 25 entM g A H0 H locs σ15 → lv_has ls 7 [(0, .ref (g.2.1 0)), (1, .int p1), (2, .int p2), (3, .int p3), (4, .int y13), (5, .int v11)] → k14 σ15 = some (σ', r) → W p l e (rmD 7) s m args below meth c H locs 0 0 Q (F0 m 137 ls []) := by
            intro σ15 H locs ls hs hl hE
            have hE := hk14 _ hE
            refine lv_iinc (v := v11 + 1) (lv' := [(5, .int (v11 + 1)), (0, .ref (g.2.1 0)), (1, .int p1), (2, .int p2), (3, .int p3), (4, .int y13)]) hx hb dX11_comesBy_137 hl (k := 5) rfl rfl (by decide) rfl (fun ls hl => ?_)
            refine lv_goto (tgt := 42) hx hb dX11_comesBy_140 (by decide) ?_
            exact ih _ _ _ _ hE hk _ _ _ hs (lv_sub hl [1, 2, 3, 4, 5, 0] rfl)
          refine lv_icmp_ge (tgt := 137) hx hb dX11_comesBy_80 (by decide) (fun hc => ?_) (fun hc => ?_)
          · have hE := if_t hc hE
            exact hJk14 σ9 _ _ _ hs (lv_sub hl [1, 2, 3, 4, 0, 5] rfl) hE
          · have hE := if_f hc hE
            refine lv_aload_n hx hb dX11_comesBy_83 rfl (lv_at hl 1 rfl) ?_
            refine gf_X11_81_0 C hK hs dX11_comesBy_84 ?_
            refine lv_iload hx hb dX11_comesBy_87 (lv_at hl 6 rfl) ?_
            refine lv_iload hx hb dX11_comesBy_89 (lv_at hl 5 rfl) ?_
            refine lv_iconst (v := 2) hx hb dX11_comesBy_91 (by decide) ?_
            refine lv_irem hx hb dX11_comesBy_92 (by decide) ?_
            refine jn2 hE (fun k16 hE hk16 => ?_)
            have hJk16 : ∀ (σ17 : St) (y18 : Int32) (H : Heap) (locs : List Loc) (ls : Array Slot), HW 25 entM g A H0 H locs σ17 → lv_has ls 7 [(0, .ref (g.2.1 0)), (1, .int p1), (2, .int p2), (3, .int p3), (4, .int y13), (5, .int v11)] → k16 σ17 y18 = some (σ', r) → W p l e (rmD 7) s m args below meth c H locs 0 0 Q (F0 m 136 ls [.int y18, .int ((p1 / v10) - (p1 / v10) / p3 * p3), .ref (g.2.1 23)]) := by
              intro σ17 y18 H locs ls hs hl hE
              have hE := hk16 _ _ hE
              obtain ⟨hi, σ19, eσ19, hE⟩ := wr_w hE
              refine y_ast layM C hK hs hi eσ19 dX11_comesBy_136 (fun H locs hs => ?_)
              exact hJk14 σ19 _ _ _ hs (lv_sub hl [0, 1, 2, 3, 4, 5] rfl) hE
            refine lv_if_ne (tgt := 113) hx hb dX11_comesBy_93 (by decide) (fun hc => ?_) (fun hc => ?_)
            · have hE := if_f hc hE
              refine lv_aload_n hx hb dX11_comesBy_113 rfl (lv_at hl 1 rfl) ?_
              refine gf_X11_81_0 C hK hs dX11_comesBy_114 ?_
              refine lv_iload hx hb dX11_comesBy_117 (lv_at hl 6 rfl) ?_
              obtain ⟨hi, x20, ex20, hE⟩ := rd_w hE
              refine y_ald layM C hK hs hi ex20 dX11_comesBy_119 ?_
              refine lv_if_le (tgt := 135) hx hb dX11_comesBy_120 (by decide) (fun hc => ?_) (fun hc => ?_)
              · have hE := if_t hc hE
                refine lv_iconst (v := 0) hx hb dX11_comesBy_135 (by decide) ?_
                exact hJk16 σ9 0 _ _ _ hs (lv_sub hl [1, 2, 3, 4, 0, 5] rfl) hE
              · have hE := if_f hc hE
                refine lv_aload_n hx hb dX11_comesBy_123 rfl (lv_at hl 1 rfl) ?_
                refine gf_X11_81_0 C hK hs dX11_comesBy_124 ?_
                refine lv_iload hx hb dX11_comesBy_127 (lv_at hl 6 rfl) ?_
                obtain ⟨hi, x21, ex21, hE⟩ := rd_w hE
                refine y_ald layM C hK hs hi ex21 dX11_comesBy_129 ?_
                refine lv_iconst (v := 1) hx hb dX11_comesBy_130 (by decide) ?_
                refine lv_isub hx hb dX11_comesBy_131 ?_
                refine lv_goto (tgt := 136) hx hb dX11_comesBy_132 (by decide) ?_
                exact hJk16 σ9 (x21 - 1) _ _ _ hs (lv_sub hl [1, 2, 3, 4, 0, 5] rfl) hE
            · have hE := if_t hc hE
              refine lv_bipush (v := 99) hx hb dX11_comesBy_96 (by decide) ?_
              refine lv_aload_n hx hb dX11_comesBy_98 rfl (lv_at hl 1 rfl) ?_
              refine gf_X11_81_0 C hK hs dX11_comesBy_99 ?_
              refine lv_iload hx hb dX11_comesBy_102 (lv_at hl 6 rfl) ?_
              obtain ⟨hi, x22, ex22, hE⟩ := rd_w hE
              refine y_ald layM C hK hs hi ex22 dX11_comesBy_104 ?_
              refine lv_iconst (v := 1) hx hb dX11_comesBy_105 (by decide) ?_
              refine lv_iadd hx hb dX11_comesBy_106 ?_
              obtain ⟨σ23, r24, hE1, hE⟩ := cl_e hE
              refine x_cis (As := [.int 99, .int (x22 + 1)]) (rest := [.int ((p1 / v10) - (p1 / v10) / p3 * p3), .ref (g.2.1 23)]) C hl.1 hK hs hA ⟨Nat.le_refl 0, Nat.le_refl 0⟩ (ctX11_less l g _ _ _ _ _ hE1) (cw_X11_177 C ⟨Nat.le_of_ble_eq_true rfl, Nat.le_of_ble_eq_true rfl⟩) rfl rfl (Nat.le_of_ble_eq_true rfl) dX11_comesBy_107 (fun H locs hs => ?_)
              refine lv_goto (tgt := 136) hx hb dX11_comesBy_110 (by decide) ?_
              exact hJk16 σ23 r24 _ _ _ hs (lv_sub hl [1, 2, 3, 4, 0, 5] rfl) hE
        refine lv_icmp_ge (tgt := 71) hx hb dX11_comesBy_61 (by decide) (fun hc => ?_) (fun hc => ?_)
        · have hE := if_t hc hE
          refine lv_iconst (v := 1) hx hb dX11_comesBy_71 (by decide) ?_
          exact hJk12 1 _ _ _ hs (lv_sub hl [1, 2, 3, 4, 6, 0] rfl) hE
        · have hE := if_f hc hE
          refine lv_iload hx hb dX11_comesBy_64 (lv_at hl 5 rfl) ?_
          refine lv_iload_n hx hb dX11_comesBy_66 rfl (lv_at hl 4 rfl) ?_
          obtain ⟨hc, hE⟩ := gd_e hE
          refine lv_idiv hx hb dX11_comesBy_67 (of_decide_eq_true hc) ?_
          refine lv_goto (tgt := 72) hx hb dX11_comesBy_68 (by decide) ?_
          exact hJk12 (v10 / p3) _ _ _ hs (lv_sub hl [1, 2, 3, 4, 6, 0] rfl) hE
  refine hL42 _ _ _ _ _ hE (fun σ25 v26 v27 H locs ls hs hl hE => ?_) H locs ls hs (lv_sub hl [1, 2, 3, 4, 5, 0] rfl)
  refine lv_aload_n hx hb dX11_comesBy_143 rfl (lv_at hl 0 rfl) ?_
  refine lv_aload_n hx hb dX11_comesBy_144 rfl (lv_at hl 0 rfl) ?_
  refine gf_X11_81_0 C hK hs dX11_comesBy_145 ?_
  obtain ⟨σ28, r29, hE1, hE⟩ := cl_e hE
  refine x_civ (As := [.ref (g.2.1 23)]) (rest := []) C hl.1 hK hs hA ⟨Nat.le_refl 0, Nat.le_refl 0⟩ (ctX11_allGet l g _ _ _ _ hE1) (cw_X11_282 C ⟨Nat.le_of_ble_eq_true rfl, Nat.le_of_ble_eq_true rfl⟩) (hs.recv hK 0 (by decide) rfl rfl) rfl rfl (Nat.le_of_ble_eq_true rfl) dX11_comesBy_148 (fun H locs hs => ?_)
  exact hQ hs hE dX11_comesBy_151
theorem dX11_duel_0 : decode cX11_duel 0 = .ok (.iload_n 1, 1) := by decide +kernel
theorem dX11_duel_1 : decode cX11_duel 1 = .ok (.i2l, 1) := by decide +kernel
theorem dX11_duel_2 : decode cX11_duel 2 = .ok (.lconst 0, 1) := by decide +kernel
theorem dX11_duel_3 : decode cX11_duel 3 = .ok (.ldc2_w 100, 3) := by decide +kernel
theorem dX11_duel_6 : decode cX11_duel 6 = .ok (.invokestatic 96, 3) := by decide +kernel
theorem dX11_duel_9 : decode cX11_duel 9 = .ok (.ifCond .ne 5, 3) := by decide +kernel
theorem dX11_duel_12 : decode cX11_duel 12 = .ok (.iconst (-1), 1) := by decide +kernel
theorem dX11_duel_13 : decode cX11_duel 13 = .ok (.ireturn, 1) := by decide +kernel
theorem dX11_duel_14 : decode cX11_duel 14 = .ok (.aload_n 0, 1) := by decide +kernel
theorem dX11_duel_15 : decode cX11_duel 15 = .ok (.getfield 160, 3) := by decide +kernel
theorem dX11_duel_18 : decode cX11_duel 18 = .ok (.ifCond .ne 6, 3) := by decide +kernel
theorem dX11_duel_21 : decode cX11_duel 21 = .ok (.bipush (-4), 2) := by decide +kernel
theorem dX11_duel_23 : decode cX11_duel 23 = .ok (.ireturn, 1) := by decide +kernel
theorem dX11_duel_24 : decode cX11_duel 24 = .ok (.aload_n 0, 1) := by decide +kernel
theorem dX11_duel_25 : decode cX11_duel 25 = .ok (.getfield 160, 3) := by decide +kernel
theorem dX11_duel_28 : decode cX11_duel 28 = .ok (.iconst 1, 1) := by decide +kernel
theorem dX11_duel_29 : decode cX11_duel 29 = .ok (.iadd, 1) := by decide +kernel
theorem dX11_duel_30 : decode cX11_duel 30 = .ok (.istore_n 2, 1) := by decide +kernel
theorem dX11_duel_31 : decode cX11_duel 31 = .ok (.iconst 1, 1) := by decide +kernel
theorem dX11_duel_32 : decode cX11_duel 32 = .ok (.istore_n 3, 1) := by decide +kernel
theorem dX11_duel_33 : decode cX11_duel 33 = .ok (.iconst 0, 1) := by decide +kernel
theorem dX11_duel_34 : decode cX11_duel 34 = .ok (.istore 4, 2) := by decide +kernel
theorem dX11_duel_36 : decode cX11_duel 36 = .ok (.iload 4, 2) := by decide +kernel
theorem dX11_duel_38 : decode cX11_duel 38 = .ok (.iload_n 1, 1) := by decide +kernel
theorem dX11_duel_39 : decode cX11_duel 39 = .ok (.if_icmp .ge 13, 3) := by decide +kernel
theorem dX11_duel_42 : decode cX11_duel 42 = .ok (.iload_n 3, 1) := by decide +kernel
theorem dX11_duel_43 : decode cX11_duel 43 = .ok (.iload_n 2, 1) := by decide +kernel
theorem dX11_duel_44 : decode cX11_duel 44 = .ok (.imul, 1) := by decide +kernel
theorem dX11_duel_45 : decode cX11_duel 45 = .ok (.istore_n 3, 1) := by decide +kernel
theorem dX11_duel_46 : decode cX11_duel 46 = .ok (.iinc 4 1, 3) := by decide +kernel
theorem dX11_duel_49 : decode cX11_duel 49 = .ok (.goto (-13), 3) := by decide +kernel
theorem dX11_duel_52 : decode cX11_duel 52 = .ok (.iconst 0, 1) := by decide +kernel
theorem dX11_duel_53 : decode cX11_duel 53 = .ok (.istore 4, 2) := by decide +kernel
theorem dX11_duel_55 : decode cX11_duel 55 = .ok (.iload 4, 2) := by decide +kernel
theorem dX11_duel_57 : decode cX11_duel 57 = .ok (.iload_n 3, 1) := by decide +kernel
theorem dX11_duel_58 : decode cX11_duel 58 = .ok (.if_icmp .ge 24, 3) := by decide +kernel
theorem dX11_duel_61 : decode cX11_duel 61 = .ok (.aload_n 0, 1) := by decide +kernel
theorem dX11_duel_62 : decode cX11_duel 62 = .ok (.getfield 84, 3) := by decide +kernel
theorem dX11_duel_65 : decode cX11_duel 65 = .ok (.iload 4, 2) := by decide +kernel
theorem dX11_duel_67 : decode cX11_duel 67 = .ok (.aload_n 0, 1) := by decide +kernel
theorem dX11_duel_68 : decode cX11_duel 68 = .ok (.iload 4, 2) := by decide +kernel
theorem dX11_duel_70 : decode cX11_duel 70 = .ok (.iload_n 1, 1) := by decide +kernel
theorem dX11_duel_71 : decode cX11_duel 71 = .ok (.iload_n 2, 1) := by decide +kernel
theorem dX11_duel_72 : decode cX11_duel 72 = .ok (.invokevirtual 285, 3) := by decide +kernel
theorem dX11_duel_75 : decode cX11_duel 75 = .ok (.iastore, 1) := by decide +kernel
theorem dX11_duel_76 : decode cX11_duel 76 = .ok (.iinc 4 1, 3) := by decide +kernel
theorem dX11_duel_79 : decode cX11_duel 79 = .ok (.goto (-24), 3) := by decide +kernel
theorem dX11_duel_82 : decode cX11_duel 82 = .ok (.iload_n 1, 1) := by decide +kernel
theorem dX11_duel_83 : decode cX11_duel 83 = .ok (.iconst 1, 1) := by decide +kernel
theorem dX11_duel_84 : decode cX11_duel 84 = .ok (.isub, 1) := by decide +kernel
theorem dX11_duel_85 : decode cX11_duel 85 = .ok (.istore 4, 2) := by decide +kernel
theorem dX11_duel_87 : decode cX11_duel 87 = .ok (.iload 4, 2) := by decide +kernel
theorem dX11_duel_89 : decode cX11_duel 89 = .ok (.ifCond .lt 113, 3) := by decide +kernel
theorem dX11_duel_92 : decode cX11_duel 92 = .ok (.iload_n 3, 1) := by decide +kernel
theorem dX11_duel_93 : decode cX11_duel 93 = .ok (.iload_n 2, 1) := by decide +kernel
theorem dX11_duel_94 : decode cX11_duel 94 = .ok (.idiv, 1) := by decide +kernel
theorem dX11_duel_95 : decode cX11_duel 95 = .ok (.istore_n 3, 1) := by decide +kernel
theorem dX11_duel_96 : decode cX11_duel 96 = .ok (.iconst 0, 1) := by decide +kernel
theorem dX11_duel_97 : decode cX11_duel 97 = .ok (.istore 5, 2) := by decide +kernel
theorem dX11_duel_99 : decode cX11_duel 99 = .ok (.iload 5, 2) := by decide +kernel
theorem dX11_duel_101 : decode cX11_duel 101 = .ok (.iload_n 3, 1) := by decide +kernel
theorem dX11_duel_102 : decode cX11_duel 102 = .ok (.if_icmp .ge 94, 3) := by decide +kernel
theorem dX11_duel_105 : decode cX11_duel 105 = .ok (.aload_n 0, 1) := by decide +kernel
theorem dX11_duel_106 : decode cX11_duel 106 = .ok (.getfield 84, 3) := by decide +kernel
theorem dX11_duel_109 : decode cX11_duel 109 = .ok (.iload_n 2, 1) := by decide +kernel
theorem dX11_duel_110 : decode cX11_duel 110 = .ok (.iload 5, 2) := by decide +kernel
theorem dX11_duel_112 : decode cX11_duel 112 = .ok (.imul, 1) := by decide +kernel
theorem dX11_duel_113 : decode cX11_duel 113 = .ok (.iaload, 1) := by decide +kernel
theorem dX11_duel_114 : decode cX11_duel 114 = .ok (.istore 6, 2) := by decide +kernel
theorem dX11_duel_116 : decode cX11_duel 116 = .ok (.iconst 1, 1) := by decide +kernel
theorem dX11_duel_117 : decode cX11_duel 117 = .ok (.istore 7, 2) := by decide +kernel
theorem dX11_duel_119 : decode cX11_duel 119 = .ok (.iload 7, 2) := by decide +kernel
theorem dX11_duel_121 : decode cX11_duel 121 = .ok (.iload_n 2, 1) := by decide +kernel
theorem dX11_duel_122 : decode cX11_duel 122 = .ok (.if_icmp .ge 59, 3) := by decide +kernel
theorem dX11_duel_125 : decode cX11_duel 125 = .ok (.aload_n 0, 1) := by decide +kernel
theorem dX11_duel_126 : decode cX11_duel 126 = .ok (.getfield 84, 3) := by decide +kernel
theorem dX11_duel_129 : decode cX11_duel 129 = .ok (.iload_n 2, 1) := by decide +kernel
theorem dX11_duel_130 : decode cX11_duel 130 = .ok (.iload 5, 2) := by decide +kernel
theorem dX11_duel_132 : decode cX11_duel 132 = .ok (.imul, 1) := by decide +kernel
theorem dX11_duel_133 : decode cX11_duel 133 = .ok (.iload 7, 2) := by decide +kernel
theorem dX11_duel_135 : decode cX11_duel 135 = .ok (.iadd, 1) := by decide +kernel
theorem dX11_duel_136 : decode cX11_duel 136 = .ok (.iaload, 1) := by decide +kernel
theorem dX11_duel_137 : decode cX11_duel 137 = .ok (.istore 8, 2) := by decide +kernel
theorem dX11_duel_139 : decode cX11_duel 139 = .ok (.iload 4, 2) := by decide +kernel
theorem dX11_duel_141 : decode cX11_duel 141 = .ok (.iconst 2, 1) := by decide +kernel
theorem dX11_duel_142 : decode cX11_duel 142 = .ok (.irem, 1) := by decide +kernel
theorem dX11_duel_143 : decode cX11_duel 143 = .ok (.ifCond .ne 7, 3) := by decide +kernel
theorem dX11_duel_146 : decode cX11_duel 146 = .ok (.iconst 1, 1) := by decide +kernel
theorem dX11_duel_147 : decode cX11_duel 147 = .ok (.goto 4, 3) := by decide +kernel
theorem dX11_duel_150 : decode cX11_duel 150 = .ok (.iconst 0, 1) := by decide +kernel
theorem dX11_duel_151 : decode cX11_duel 151 = .ok (.iload 8, 2) := by decide +kernel
theorem dX11_duel_153 : decode cX11_duel 153 = .ok (.iload 6, 2) := by decide +kernel
theorem dX11_duel_155 : decode cX11_duel 155 = .ok (.if_icmp .le 7, 3) := by decide +kernel
theorem dX11_duel_158 : decode cX11_duel 158 = .ok (.iconst 1, 1) := by decide +kernel
theorem dX11_duel_159 : decode cX11_duel 159 = .ok (.goto 4, 3) := by decide +kernel
theorem dX11_duel_162 : decode cX11_duel 162 = .ok (.iconst 0, 1) := by decide +kernel
theorem dX11_duel_163 : decode cX11_duel 163 = .ok (.if_icmp .ne 8, 3) := by decide +kernel
theorem dX11_duel_166 : decode cX11_duel 166 = .ok (.iload 8, 2) := by decide +kernel
theorem dX11_duel_168 : decode cX11_duel 168 = .ok (.goto 5, 3) := by decide +kernel
theorem dX11_duel_171 : decode cX11_duel 171 = .ok (.iload 6, 2) := by decide +kernel
theorem dX11_duel_173 : decode cX11_duel 173 = .ok (.istore 6, 2) := by decide +kernel
theorem dX11_duel_175 : decode cX11_duel 175 = .ok (.iinc 7 1, 3) := by decide +kernel
theorem dX11_duel_178 : decode cX11_duel 178 = .ok (.goto (-59), 3) := by decide +kernel
theorem dX11_duel_181 : decode cX11_duel 181 = .ok (.aload_n 0, 1) := by decide +kernel
theorem dX11_duel_182 : decode cX11_duel 182 = .ok (.getfield 84, 3) := by decide +kernel
theorem dX11_duel_185 : decode cX11_duel 185 = .ok (.iload 5, 2) := by decide +kernel
theorem dX11_duel_187 : decode cX11_duel 187 = .ok (.iload 6, 2) := by decide +kernel
theorem dX11_duel_189 : decode cX11_duel 189 = .ok (.iastore, 1) := by decide +kernel
theorem dX11_duel_190 : decode cX11_duel 190 = .ok (.iinc 5 1, 3) := by decide +kernel
theorem dX11_duel_193 : decode cX11_duel 193 = .ok (.goto (-94), 3) := by decide +kernel
theorem dX11_duel_196 : decode cX11_duel 196 = .ok (.iinc 4 (-1), 3) := by decide +kernel
theorem dX11_duel_199 : decode cX11_duel 199 = .ok (.goto (-112), 3) := by decide +kernel
theorem dX11_duel_202 : decode cX11_duel 202 = .ok (.aload_n 0, 1) := by decide +kernel
theorem dX11_duel_203 : decode cX11_duel 203 = .ok (.getfield 84, 3) := by decide +kernel
theorem dX11_duel_206 : decode cX11_duel 206 = .ok (.iconst 0, 1) := by decide +kernel
theorem dX11_duel_207 : decode cX11_duel 207 = .ok (.iaload, 1) := by decide +kernel
theorem dX11_duel_208 : decode cX11_duel 208 = .ok (.ireturn, 1) := by decide +kernel
def fX11_duel_L36 (p1 : Int32) (w3 : Int32) : Nat → St → Int32 → Int32 → (St → Int32 → Int32 → Option (St × Int32)) → Option (St × Int32)
  | 0, _, _, _, _ => none
  | n + 1, σ4, v5, v6, k => (if p1 ≤ v6 then k σ4 v5 v6 else fX11_duel_L36 p1 w3 n σ4 (v5 * w3) (v6 + 1) k)
def fX11_duel_L55 (p1 : Int32) (w3 : Int32) (v8 : Int32) : Nat → St → Int32 → (St → Int32 → Option (St × Int32)) → Option (St × Int32)
  | 0, _, _, _ => none
  | n + 1, σ10, v11, k => (if v8 ≤ v11 then k σ10 v11 else cl (fX11_comesBy σ10 v11 p1 w3) (fun σ12 r13 => wr LM σ12 24 v11 r13 (fun σ14 => fX11_duel_L55 p1 w3 v8 n σ14 (v11 + 1) k)))
def fX11_duel_L119 (w3 : Int32) (w20 : Int32) (v19 : Int32) (v22 : Int32) : Nat → St → Int32 → Int32 → (St → Int32 → Int32 → Option (St × Int32)) → Option (St × Int32)
  | 0, _, _, _, _ => none
  | n + 1, σ24, v25, v26, k => (if w3 ≤ v26 then k σ24 v25 v26 else rd LM σ24 24 ((w3 * v22) + v26) (fun x27 => pv (if (v19 - v19 / 2 * 2) = 0 then 1 else 0) (fun (y29 : Int32) => pv (if x27 ≤ v25 then 0 else 1) (fun (y31 : Int32) => pv (if y29 = y31 then x27 else v25) (fun (y33 : Int32) => fX11_duel_L119 w3 w20 v19 v22 n σ24 y33 (v26 + 1) k)))))
def fX11_duel_L99 (w3 : Int32) (w20 : Int32) (v19 : Int32) : Nat → St → Int32 → (St → Int32 → Option (St × Int32)) → Option (St × Int32)
  | 0, _, _, _ => none
  | n + 1, σ21, v22, k => (if w20 ≤ v22 then k σ21 v22 else rd LM σ21 24 (w3 * v22) (fun x23 => fX11_duel_L119 w3 w20 v19 v22 10000 σ21 x23 1 (fun σ34 v35 v36 => wr LM σ34 24 v22 v35 (fun σ37 => fX11_duel_L99 w3 w20 v19 n σ37 (v22 + 1) k))))
def fX11_duel_L87 (w3 : Int32) : Nat → St → Int32 → Int32 → (St → Int32 → Int32 → Option (St × Int32)) → Option (St × Int32)
  | 0, _, _, _, _ => none
  | n + 1, σ17, v18, v19, k => (if v19 < 0 then k σ17 v18 v19 else gd (decide (¬ w3 = 0)) (pv (v18 / w3) (fun (w20 : Int32) => fX11_duel_L99 w3 w20 v19 10000 σ17 0 (fun σ38 v39 => fX11_duel_L87 w3 n σ38 w20 (v19 + (-1)) k))))
def fX11_duel (σ : St) (p1 : Int32) : Option (St × Int32) := cl (fX11_in σ (p1.toInt64) 0 3) (fun σ1 r2 => (if r2 = 0 then some (σ1, (-1)) else (if (σ1.1 0 4) = 0 then some (σ1, (-4)) else pv ((σ1.1 0 4) + 1) (fun (w3 : Int32) => fX11_duel_L36 p1 w3 10000 σ1 1 0 (fun σ7 v8 v9 => fX11_duel_L55 p1 w3 v8 10000 σ7 0 (fun σ15 v16 => fX11_duel_L87 w3 10000 σ15 v8 (p1 - 1) (fun σ40 v41 v42 => rd LM σ40 24 0 (fun x43 => some (σ40, x43)))))))))
set_option maxHeartbeats 4000000 in
set_option maxRecDepth 100000 in
theorem ctX11_duel (l : Launch) (g : GG) (σ : St) (p1 : Int32) (σ' : St) (r : Int32) (hE : fX11_duel σ p1 = some (σ', r)) : MI 25 entM l g yX11_duel (Cond.code yX11_duel cX11_duel 9 (some .int) :: gtbl) (rmD 8) [.ref (g.2.1 0), .int p1] σ σ' r := by
  refine mi_i (own := RX11) (lv := [(0, .ref (g.2.1 0)), (1, .int p1)]) (by decide) rfl (Nat.le_of_ble_eq_true rfl) rfl (fun p e s m below meth c ls args Q A H0 H locs C hK hA hQ hs hl => ?_)
  have hx := C.1
  have hb := C.2.1
  unfold fX11_duel at hE
  refine lv_iload_n hx hb dX11_duel_0 rfl (lv_at hl 1 rfl) ?_
  refine lv_i2l (v := p1.toInt64) hx hb dX11_duel_1 rfl ?_
  refine lv_lconst (v := 0) hx hb dX11_duel_2 (by decide) ?_
  refine lv_ldc2 (v := 3) hx hb C.2.2.2.1 (C.2.2.2.2 _ mw_1105) dX11_duel_3 ?_
  obtain ⟨σ1, r2, hE1, hE⟩ := cl_e hE
  refine x_cis (As := [.long (p1.toInt64), .long 0, .long 3]) (rest := []) C hl.1 hK hs hA ⟨Nat.le_refl 0, Nat.le_refl 0⟩ (ctX11_in l g _ _ _ _ _ _ hE1) (cw_X11_96 C ⟨Nat.le_of_ble_eq_true rfl, Nat.le_of_ble_eq_true rfl⟩) rfl rfl (Nat.le_of_ble_eq_true rfl) dX11_duel_6 (fun H locs hs => ?_)
  refine lv_if_ne (tgt := 14) hx hb dX11_duel_9 (by decide) (fun hc => ?_) (fun hc => ?_)
  · have hE := if_f hc hE
    refine lv_aload_n hx hb dX11_duel_14 rfl (lv_at hl 0 rfl) ?_
    refine gf_X11_160_0 C hK hs dX11_duel_15 ?_
    refine lv_if_ne (tgt := 24) hx hb dX11_duel_18 (by decide) (fun hc => ?_) (fun hc => ?_)
    · have hE := if_f hc hE
      refine lv_aload_n hx hb dX11_duel_24 rfl (lv_at hl 0 rfl) ?_
      refine gf_X11_160_0 C hK hs dX11_duel_25 ?_
      refine lv_iconst (v := 1) hx hb dX11_duel_28 (by decide) ?_
      refine lv_iadd hx hb dX11_duel_29 ?_
      refine lv_istore_n (lv' := [(2, .int ((σ1.1 0 4) + 1)), (0, .ref (g.2.1 0)), (1, .int p1)]) hx hb dX11_duel_30 rfl hl (by decide) rfl (fun ls hl => ?_)
      refine lv_iconst (v := 1) hx hb dX11_duel_31 (by decide) ?_
      refine lv_istore_n (lv' := [(3, .int 1), (2, .int ((σ1.1 0 4) + 1)), (0, .ref (g.2.1 0)), (1, .int p1)]) hx hb dX11_duel_32 rfl hl (by decide) rfl (fun ls hl => ?_)
      refine lv_iconst (v := 0) hx hb dX11_duel_33 (by decide) ?_
      refine lv_istore (lv' := [(4, .int 0), (3, .int 1), (2, .int ((σ1.1 0 4) + 1)), (0, .ref (g.2.1 0)), (1, .int p1)]) hx hb dX11_duel_34 hl (by decide) rfl (fun ls hl => ?_)
      obtain ⟨w3, ew3, hE⟩ := pv_w hE
      have hl : lv_has ls 9 [(4, .int 0), (3, .int 1), (2, .int w3), (0, .ref (g.2.1 0)), (1, .int p1)] := by rw [ew3]; exact hl
      have hL36 : ∀ (n : Nat) (σ4 : St) (v5 : Int32) (v6 : Int32) (k : St → Int32 → Int32 → Option (St × Int32)), fX11_duel_L36 p1 w3 n σ4 v5 v6 k = some (σ', r) → (∀ (σ4 : St) (v5 : Int32) (v6 : Int32) (H : Heap) (locs : List Loc) (ls : Array Slot), HW 25 entM g A H0 H locs σ4 → lv_has ls 9 [(0, .ref (g.2.1 0)), (1, .int p1), (2, .int w3), (3, .int v5), (4, .int v6)] → k σ4 v5 v6 = some (σ', r) → W p l e (rmD 8) s m args below meth c H locs 0 0 Q (F0 m 52 ls [])) → ∀ (H : Heap) (locs : List Loc) (ls : Array Slot), HW 25 entM g A H0 H locs σ4 → lv_has ls 9 [(0, .ref (g.2.1 0)), (1, .int p1), (2, .int w3), (3, .int v5), (4, .int v6)] → W p l e (rmD 8) s m args below meth c H locs 0 0 Q (F0 m 36 ls []) := by
        intro n
        induction n with
        | zero =>
          intro σ4 v5 v6 k hE
          rw [fX11_duel_L36] at hE
          exact no_e hE
        | succ n ih =>
          intro σ4 v5 v6 k hE hk H locs ls hs hl
          rw [fX11_duel_L36] at hE
          refine lv_iload hx hb dX11_duel_36 (lv_at hl 4 rfl) ?_
          refine lv_iload_n hx hb dX11_duel_38 rfl (lv_at hl 1 rfl) ?_
          refine lv_icmp_ge (tgt := 52) hx hb dX11_duel_39 (by decide) (fun hc => ?_) (fun hc => ?_)
          · have hE := if_t hc hE
            exact hk σ4 v5 v6 _ _ _ hs (lv_sub hl [0, 1, 2, 3, 4] rfl) hE
          · have hE := if_f hc hE
            refine lv_iload_n hx hb dX11_duel_42 rfl (lv_at hl 3 rfl) ?_
            refine lv_iload_n hx hb dX11_duel_43 rfl (lv_at hl 2 rfl) ?_
            refine lv_imul hx hb dX11_duel_44 ?_
            refine lv_istore_n (lv' := [(3, .int (v5 * w3)), (0, .ref (g.2.1 0)), (1, .int p1), (2, .int w3), (4, .int v6)]) hx hb dX11_duel_45 rfl hl (by decide) rfl (fun ls hl => ?_)
            refine lv_iinc (v := v6 + 1) (lv' := [(4, .int (v6 + 1)), (3, .int (v5 * w3)), (0, .ref (g.2.1 0)), (1, .int p1), (2, .int w3)]) hx hb dX11_duel_46 hl (k := 4) rfl rfl (by decide) rfl (fun ls hl => ?_)
            refine lv_goto (tgt := 36) hx hb dX11_duel_49 (by decide) ?_
            exact ih _ _ _ _ hE hk _ _ _ hs (lv_sub hl [2, 3, 4, 1, 0] rfl)
      refine hL36 _ _ _ _ _ hE (fun σ7 v8 v9 H locs ls hs hl hE => ?_) H locs ls hs (lv_sub hl [3, 4, 2, 1, 0] rfl)
      refine lv_iconst (v := 0) hx hb dX11_duel_52 (by decide) ?_
      refine lv_istore (lv' := [(4, .int 0), (0, .ref (g.2.1 0)), (1, .int p1), (2, .int w3), (3, .int v8)]) hx hb dX11_duel_53 hl (by decide) rfl (fun ls hl => ?_)
      have hL55 : ∀ (n : Nat) (σ10 : St) (v11 : Int32) (k : St → Int32 → Option (St × Int32)), fX11_duel_L55 p1 w3 v8 n σ10 v11 k = some (σ', r) → (∀ (σ10 : St) (v11 : Int32) (H : Heap) (locs : List Loc) (ls : Array Slot), HW 25 entM g A H0 H locs σ10 → lv_has ls 9 [(0, .ref (g.2.1 0)), (1, .int p1), (2, .int w3), (3, .int v8), (4, .int v11)] → k σ10 v11 = some (σ', r) → W p l e (rmD 8) s m args below meth c H locs 0 0 Q (F0 m 82 ls [])) → ∀ (H : Heap) (locs : List Loc) (ls : Array Slot), HW 25 entM g A H0 H locs σ10 → lv_has ls 9 [(0, .ref (g.2.1 0)), (1, .int p1), (2, .int w3), (3, .int v8), (4, .int v11)] → W p l e (rmD 8) s m args below meth c H locs 0 0 Q (F0 m 55 ls []) := by
        intro n
        induction n with
        | zero =>
          intro σ10 v11 k hE
          rw [fX11_duel_L55] at hE
          exact no_e hE
        | succ n ih =>
          intro σ10 v11 k hE hk H locs ls hs hl
          rw [fX11_duel_L55] at hE
          refine lv_iload hx hb dX11_duel_55 (lv_at hl 4 rfl) ?_
          refine lv_iload_n hx hb dX11_duel_57 rfl (lv_at hl 3 rfl) ?_
          refine lv_icmp_ge (tgt := 82) hx hb dX11_duel_58 (by decide) (fun hc => ?_) (fun hc => ?_)
          · have hE := if_t hc hE
            exact hk σ10 v11 _ _ _ hs (lv_sub hl [0, 1, 2, 3, 4] rfl) hE
          · have hE := if_f hc hE
            refine lv_aload_n hx hb dX11_duel_61 rfl (lv_at hl 0 rfl) ?_
            refine gf_X11_84_0 C hK hs dX11_duel_62 ?_
            refine lv_iload hx hb dX11_duel_65 (lv_at hl 4 rfl) ?_
            refine lv_aload_n hx hb dX11_duel_67 rfl (lv_at hl 0 rfl) ?_
            refine lv_iload hx hb dX11_duel_68 (lv_at hl 4 rfl) ?_
            refine lv_iload_n hx hb dX11_duel_70 rfl (lv_at hl 1 rfl) ?_
            refine lv_iload_n hx hb dX11_duel_71 rfl (lv_at hl 2 rfl) ?_
            obtain ⟨σ12, r13, hE1, hE⟩ := cl_e hE
            refine x_civ (As := [.int v11, .int p1, .int w3]) (rest := [.int v11, .ref (g.2.1 24)]) C hl.1 hK hs hA ⟨Nat.le_refl 0, Nat.le_refl 0⟩ (ctX11_comesBy l g _ _ _ _ _ _ hE1) (cw_X11_285 C ⟨Nat.le_of_ble_eq_true rfl, Nat.le_of_ble_eq_true rfl⟩) (hs.recv hK 0 (by decide) rfl rfl) rfl rfl (Nat.le_of_ble_eq_true rfl) dX11_duel_72 (fun H locs hs => ?_)
            obtain ⟨hi, σ14, eσ14, hE⟩ := wr_w hE
            refine y_ast layM C hK hs hi eσ14 dX11_duel_75 (fun H locs hs => ?_)
            refine lv_iinc (v := v11 + 1) (lv' := [(4, .int (v11 + 1)), (0, .ref (g.2.1 0)), (1, .int p1), (2, .int w3), (3, .int v8)]) hx hb dX11_duel_76 hl (k := 4) rfl rfl (by decide) rfl (fun ls hl => ?_)
            refine lv_goto (tgt := 55) hx hb dX11_duel_79 (by decide) ?_
            exact ih _ _ _ hE hk _ _ _ hs (lv_sub hl [1, 2, 3, 4, 0] rfl)
      refine hL55 _ _ _ _ hE (fun σ15 v16 H locs ls hs hl hE => ?_) H locs ls hs (lv_sub hl [1, 2, 3, 4, 0] rfl)
      refine lv_iload_n hx hb dX11_duel_82 rfl (lv_at hl 1 rfl) ?_
      refine lv_iconst (v := 1) hx hb dX11_duel_83 (by decide) ?_
      refine lv_isub hx hb dX11_duel_84 ?_
      refine lv_istore (lv' := [(4, .int (p1 - 1)), (0, .ref (g.2.1 0)), (1, .int p1), (2, .int w3), (3, .int v8)]) hx hb dX11_duel_85 hl (by decide) rfl (fun ls hl => ?_)
      have hL87 : ∀ (n : Nat) (σ17 : St) (v18 : Int32) (v19 : Int32) (k : St → Int32 → Int32 → Option (St × Int32)), fX11_duel_L87 w3 n σ17 v18 v19 k = some (σ', r) → (∀ (σ17 : St) (v18 : Int32) (v19 : Int32) (H : Heap) (locs : List Loc) (ls : Array Slot), HW 25 entM g A H0 H locs σ17 → lv_has ls 9 [(0, .ref (g.2.1 0)), (2, .int w3), (3, .int v18), (4, .int v19)] → k σ17 v18 v19 = some (σ', r) → W p l e (rmD 8) s m args below meth c H locs 0 0 Q (F0 m 202 ls [])) → ∀ (H : Heap) (locs : List Loc) (ls : Array Slot), HW 25 entM g A H0 H locs σ17 → lv_has ls 9 [(0, .ref (g.2.1 0)), (2, .int w3), (3, .int v18), (4, .int v19)] → W p l e (rmD 8) s m args below meth c H locs 0 0 Q (F0 m 87 ls []) := by
        intro n
        induction n with
        | zero =>
          intro σ17 v18 v19 k hE
          rw [fX11_duel_L87] at hE
          exact no_e hE
        | succ n ih =>
          intro σ17 v18 v19 k hE hk H locs ls hs hl
          rw [fX11_duel_L87] at hE
          refine lv_iload hx hb dX11_duel_87 (lv_at hl 3 rfl) ?_
          refine lv_if_lt (tgt := 202) hx hb dX11_duel_89 (by decide) (fun hc => ?_) (fun hc => ?_)
          · have hE := if_t hc hE
            exact hk σ17 v18 v19 _ _ _ hs (lv_sub hl [0, 1, 2, 3] rfl) hE
          · have hE := if_f hc hE
            refine lv_iload_n hx hb dX11_duel_92 rfl (lv_at hl 2 rfl) ?_
            refine lv_iload_n hx hb dX11_duel_93 rfl (lv_at hl 1 rfl) ?_
            obtain ⟨hc, hE⟩ := gd_e hE
            refine lv_idiv hx hb dX11_duel_94 (of_decide_eq_true hc) ?_
            refine lv_istore_n (lv' := [(3, .int (v18 / w3)), (0, .ref (g.2.1 0)), (2, .int w3), (4, .int v19)]) hx hb dX11_duel_95 rfl hl (by decide) rfl (fun ls hl => ?_)
            refine lv_iconst (v := 0) hx hb dX11_duel_96 (by decide) ?_
            refine lv_istore (lv' := [(5, .int 0), (3, .int (v18 / w3)), (0, .ref (g.2.1 0)), (2, .int w3), (4, .int v19)]) hx hb dX11_duel_97 hl (by decide) rfl (fun ls hl => ?_)
            obtain ⟨w20, ew20, hE⟩ := pv_w hE
            have hl : lv_has ls 9 [(5, .int 0), (3, .int w20), (0, .ref (g.2.1 0)), (2, .int w3), (4, .int v19)] := by rw [ew20]; exact hl
            have hL99 : ∀ (n : Nat) (σ21 : St) (v22 : Int32) (k : St → Int32 → Option (St × Int32)), fX11_duel_L99 w3 w20 v19 n σ21 v22 k = some (σ', r) → (∀ (σ21 : St) (v22 : Int32) (H : Heap) (locs : List Loc) (ls : Array Slot), HW 25 entM g A H0 H locs σ21 → lv_has ls 9 [(0, .ref (g.2.1 0)), (2, .int w3), (3, .int w20), (4, .int v19), (5, .int v22)] → k σ21 v22 = some (σ', r) → W p l e (rmD 8) s m args below meth c H locs 0 0 Q (F0 m 196 ls [])) → ∀ (H : Heap) (locs : List Loc) (ls : Array Slot), HW 25 entM g A H0 H locs σ21 → lv_has ls 9 [(0, .ref (g.2.1 0)), (2, .int w3), (3, .int w20), (4, .int v19), (5, .int v22)] → W p l e (rmD 8) s m args below meth c H locs 0 0 Q (F0 m 99 ls []) := by
              intro n
              induction n with
              | zero =>
                intro σ21 v22 k hE
                rw [fX11_duel_L99] at hE
                exact no_e hE
              | succ n ih =>
                intro σ21 v22 k hE hk H locs ls hs hl
                rw [fX11_duel_L99] at hE
                refine lv_iload hx hb dX11_duel_99 (lv_at hl 4 rfl) ?_
                refine lv_iload_n hx hb dX11_duel_101 rfl (lv_at hl 2 rfl) ?_
                refine lv_icmp_ge (tgt := 196) hx hb dX11_duel_102 (by decide) (fun hc => ?_) (fun hc => ?_)
                · have hE := if_t hc hE
                  exact hk σ21 v22 _ _ _ hs (lv_sub hl [0, 1, 2, 3, 4] rfl) hE
                · have hE := if_f hc hE
                  refine lv_aload_n hx hb dX11_duel_105 rfl (lv_at hl 0 rfl) ?_
                  refine gf_X11_84_0 C hK hs dX11_duel_106 ?_
                  refine lv_iload_n hx hb dX11_duel_109 rfl (lv_at hl 1 rfl) ?_
                  refine lv_iload hx hb dX11_duel_110 (lv_at hl 4 rfl) ?_
                  refine lv_imul hx hb dX11_duel_112 ?_
                  obtain ⟨hi, x23, ex23, hE⟩ := rd_w hE
                  refine y_ald layM C hK hs hi ex23 dX11_duel_113 ?_
                  refine lv_istore (lv' := [(6, .int x23), (0, .ref (g.2.1 0)), (2, .int w3), (3, .int w20), (4, .int v19), (5, .int v22)]) hx hb dX11_duel_114 hl (by decide) rfl (fun ls hl => ?_)
                  refine lv_iconst (v := 1) hx hb dX11_duel_116 (by decide) ?_
                  refine lv_istore (lv' := [(7, .int 1), (6, .int x23), (0, .ref (g.2.1 0)), (2, .int w3), (3, .int w20), (4, .int v19), (5, .int v22)]) hx hb dX11_duel_117 hl (by decide) rfl (fun ls hl => ?_)
                  have hL119 : ∀ (n : Nat) (σ24 : St) (v25 : Int32) (v26 : Int32) (k : St → Int32 → Int32 → Option (St × Int32)), fX11_duel_L119 w3 w20 v19 v22 n σ24 v25 v26 k = some (σ', r) → (∀ (σ24 : St) (v25 : Int32) (v26 : Int32) (H : Heap) (locs : List Loc) (ls : Array Slot), HW 25 entM g A H0 H locs σ24 → lv_has ls 9 [(0, .ref (g.2.1 0)), (2, .int w3), (3, .int w20), (4, .int v19), (5, .int v22), (6, .int v25), (7, .int v26)] → k σ24 v25 v26 = some (σ', r) → W p l e (rmD 8) s m args below meth c H locs 0 0 Q (F0 m 181 ls [])) → ∀ (H : Heap) (locs : List Loc) (ls : Array Slot), HW 25 entM g A H0 H locs σ24 → lv_has ls 9 [(0, .ref (g.2.1 0)), (2, .int w3), (3, .int w20), (4, .int v19), (5, .int v22), (6, .int v25), (7, .int v26)] → W p l e (rmD 8) s m args below meth c H locs 0 0 Q (F0 m 119 ls []) := by
                    intro n
                    induction n with
                    | zero =>
                      intro σ24 v25 v26 k hE
                      rw [fX11_duel_L119] at hE
                      exact no_e hE
                    | succ n ih =>
                      intro σ24 v25 v26 k hE hk H locs ls hs hl
                      rw [fX11_duel_L119] at hE
                      refine lv_iload hx hb dX11_duel_119 (lv_at hl 6 rfl) ?_
                      refine lv_iload_n hx hb dX11_duel_121 rfl (lv_at hl 1 rfl) ?_
                      refine lv_icmp_ge (tgt := 181) hx hb dX11_duel_122 (by decide) (fun hc => ?_) (fun hc => ?_)
                      · have hE := if_t hc hE
                        exact hk σ24 v25 v26 _ _ _ hs (lv_sub hl [0, 1, 2, 3, 4, 5, 6] rfl) hE
                      · have hE := if_f hc hE
                        refine lv_aload_n hx hb dX11_duel_125 rfl (lv_at hl 0 rfl) ?_
                        refine gf_X11_84_0 C hK hs dX11_duel_126 ?_
                        refine lv_iload_n hx hb dX11_duel_129 rfl (lv_at hl 1 rfl) ?_
                        refine lv_iload hx hb dX11_duel_130 (lv_at hl 4 rfl) ?_
                        refine lv_imul hx hb dX11_duel_132 ?_
                        refine lv_iload hx hb dX11_duel_133 (lv_at hl 6 rfl) ?_
                        refine lv_iadd hx hb dX11_duel_135 ?_
                        obtain ⟨hi, x27, ex27, hE⟩ := rd_w hE
                        refine y_ald layM C hK hs hi ex27 dX11_duel_136 ?_
                        refine lv_istore (lv' := [(8, .int x27), (0, .ref (g.2.1 0)), (2, .int w3), (3, .int w20), (4, .int v19), (5, .int v22), (6, .int v25), (7, .int v26)]) hx hb dX11_duel_137 hl (by decide) rfl (fun ls hl => ?_)
                        refine lv_iload hx hb dX11_duel_139 (lv_at hl 4 rfl) ?_
                        refine lv_iconst (v := 2) hx hb dX11_duel_141 (by decide) ?_
                        refine lv_irem hx hb dX11_duel_142 (by decide) ?_
                        refine pvw hE (fun k28 hE hk28 => ?_)
                        have hJk28 : ∀ (y29 : Int32) (H : Heap) (locs : List Loc) (ls : Array Slot), HW 25 entM g A H0 H locs σ24 → lv_has ls 9 [(0, .ref (g.2.1 0)), (2, .int w3), (3, .int w20), (4, .int v19), (5, .int v22), (6, .int v25), (7, .int v26), (8, .int x27)] → k28 y29 = some (σ', r) → W p l e (rmD 8) s m args below meth c H locs 0 0 Q (F0 m 151 ls [.int y29]) := by
                          intro y29 H locs ls hs hl hE
                          have hE := hk28 _ hE
                          refine lv_iload hx hb dX11_duel_151 (lv_at hl 7 rfl) ?_
                          refine lv_iload hx hb dX11_duel_153 (lv_at hl 5 rfl) ?_
                          refine pvw hE (fun k30 hE hk30 => ?_)
                          have hJk30 : ∀ (y31 : Int32) (H : Heap) (locs : List Loc) (ls : Array Slot), HW 25 entM g A H0 H locs σ24 → lv_has ls 9 [(0, .ref (g.2.1 0)), (2, .int w3), (3, .int w20), (4, .int v19), (5, .int v22), (6, .int v25), (7, .int v26), (8, .int x27)] → k30 y31 = some (σ', r) → W p l e (rmD 8) s m args below meth c H locs 0 0 Q (F0 m 163 ls [.int y31, .int y29]) := by
                            intro y31 H locs ls hs hl hE
                            have hE := hk30 _ hE
                            refine pvw hE (fun k32 hE hk32 => ?_)
                            have hJk32 : ∀ (y33 : Int32) (H : Heap) (locs : List Loc) (ls : Array Slot), HW 25 entM g A H0 H locs σ24 → lv_has ls 9 [(0, .ref (g.2.1 0)), (2, .int w3), (3, .int w20), (4, .int v19), (5, .int v22), (7, .int v26)] → k32 y33 = some (σ', r) → W p l e (rmD 8) s m args below meth c H locs 0 0 Q (F0 m 173 ls [.int y33]) := by
                              intro y33 H locs ls hs hl hE
                              have hE := hk32 _ hE
                              refine lv_istore (lv' := [(6, .int y33), (0, .ref (g.2.1 0)), (2, .int w3), (3, .int w20), (4, .int v19), (5, .int v22), (7, .int v26)]) hx hb dX11_duel_173 hl (by decide) rfl (fun ls hl => ?_)
                              refine lv_iinc (v := v26 + 1) (lv' := [(7, .int (v26 + 1)), (6, .int y33), (0, .ref (g.2.1 0)), (2, .int w3), (3, .int w20), (4, .int v19), (5, .int v22)]) hx hb dX11_duel_175 hl (k := 6) rfl rfl (by decide) rfl (fun ls hl => ?_)
                              refine lv_goto (tgt := 119) hx hb dX11_duel_178 (by decide) ?_
                              exact ih _ _ _ _ hE hk _ _ _ hs (lv_sub hl [2, 3, 4, 5, 6, 1, 0] rfl)
                            refine lv_icmp_ne (tgt := 171) hx hb dX11_duel_163 (by decide) (fun hc => ?_) (fun hc => ?_)
                            · have hE := pv_f hc hE
                              refine lv_iload hx hb dX11_duel_171 (lv_at hl 5 rfl) ?_
                              exact hJk32 v25 _ _ _ hs (lv_sub hl [0, 1, 2, 3, 4, 6] rfl) hE
                            · have hE := pv_t hc hE
                              refine lv_iload hx hb dX11_duel_166 (lv_at hl 7 rfl) ?_
                              refine lv_goto (tgt := 173) hx hb dX11_duel_168 (by decide) ?_
                              exact hJk32 x27 _ _ _ hs (lv_sub hl [0, 1, 2, 3, 4, 6] rfl) hE
                          refine lv_icmp_le (tgt := 162) hx hb dX11_duel_155 (by decide) (fun hc => ?_) (fun hc => ?_)
                          · have hE := pv_t hc hE
                            refine lv_iconst (v := 0) hx hb dX11_duel_162 (by decide) ?_
                            exact hJk30 0 _ _ _ hs (lv_sub hl [0, 1, 2, 3, 4, 5, 6, 7] rfl) hE
                          · have hE := pv_f hc hE
                            refine lv_iconst (v := 1) hx hb dX11_duel_158 (by decide) ?_
                            refine lv_goto (tgt := 163) hx hb dX11_duel_159 (by decide) ?_
                            exact hJk30 1 _ _ _ hs (lv_sub hl [0, 1, 2, 3, 4, 5, 6, 7] rfl) hE
                        refine lv_if_ne (tgt := 150) hx hb dX11_duel_143 (by decide) (fun hc => ?_) (fun hc => ?_)
                        · have hE := pv_f hc hE
                          refine lv_iconst (v := 0) hx hb dX11_duel_150 (by decide) ?_
                          exact hJk28 0 _ _ _ hs (lv_sub hl [1, 2, 3, 4, 5, 6, 7, 0] rfl) hE
                        · have hE := pv_t hc hE
                          refine lv_iconst (v := 1) hx hb dX11_duel_146 (by decide) ?_
                          refine lv_goto (tgt := 151) hx hb dX11_duel_147 (by decide) ?_
                          exact hJk28 1 _ _ _ hs (lv_sub hl [1, 2, 3, 4, 5, 6, 7, 0] rfl) hE
                  refine hL119 _ _ _ _ _ hE (fun σ34 v35 v36 H locs ls hs hl hE => ?_) H locs ls hs (lv_sub hl [2, 3, 4, 5, 6, 1, 0] rfl)
                  refine lv_aload_n hx hb dX11_duel_181 rfl (lv_at hl 0 rfl) ?_
                  refine gf_X11_84_0 C hK hs dX11_duel_182 ?_
                  refine lv_iload hx hb dX11_duel_185 (lv_at hl 4 rfl) ?_
                  refine lv_iload hx hb dX11_duel_187 (lv_at hl 5 rfl) ?_
                  obtain ⟨hi, σ37, eσ37, hE⟩ := wr_w hE
                  refine y_ast layM C hK hs hi eσ37 dX11_duel_189 (fun H locs hs => ?_)
                  refine lv_iinc (v := v22 + 1) (lv' := [(5, .int (v22 + 1)), (0, .ref (g.2.1 0)), (2, .int w3), (3, .int w20), (4, .int v19), (6, .int v35), (7, .int v36)]) hx hb dX11_duel_190 hl (k := 4) rfl rfl (by decide) rfl (fun ls hl => ?_)
                  refine lv_goto (tgt := 99) hx hb dX11_duel_193 (by decide) ?_
                  exact ih _ _ _ hE hk _ _ _ hs (lv_sub hl [1, 2, 3, 4, 0] rfl)
            refine hL99 _ _ _ _ hE (fun σ38 v39 H locs ls hs hl hE => ?_) H locs ls hs (lv_sub hl [2, 3, 1, 4, 0] rfl)
            refine lv_iinc (v := v19 + (-1)) (lv' := [(4, .int (v19 + (-1))), (0, .ref (g.2.1 0)), (2, .int w3), (3, .int w20), (5, .int v39)]) hx hb dX11_duel_196 hl (k := 3) rfl rfl (by decide) rfl (fun ls hl => ?_)
            refine lv_goto (tgt := 87) hx hb dX11_duel_199 (by decide) ?_
            exact ih _ _ _ _ hE hk _ _ _ hs (lv_sub hl [1, 2, 3, 0] rfl)
      refine hL87 _ _ _ _ _ hE (fun σ40 v41 v42 H locs ls hs hl hE => ?_) H locs ls hs (lv_sub hl [1, 3, 4, 0] rfl)
      refine lv_aload_n hx hb dX11_duel_202 rfl (lv_at hl 0 rfl) ?_
      refine gf_X11_84_0 C hK hs dX11_duel_203 ?_
      refine lv_iconst (v := 0) hx hb dX11_duel_206 (by decide) ?_
      obtain ⟨hi, x43, ex43, hE⟩ := rd_w hE
      refine y_ald layM C hK hs hi ex43 dX11_duel_207 ?_
      exact hQ hs hE dX11_duel_208
    · have hE := if_t hc hE
      refine lv_bipush (v := (-4)) hx hb dX11_duel_21 (by decide) ?_
      exact hQ hs hE dX11_duel_23
  · have hE := if_t hc hE
    refine lv_iconst (v := (-1)) hx hb dX11_duel_12 (by decide) ?_
    exact hQ hs hE dX11_duel_13
